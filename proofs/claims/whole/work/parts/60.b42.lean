section FRS
variable {N : Nat} {nu bo en he so st kn pr se ky ss vs a b : Nat → Int32}
def W0 (w : Nat) : Nat := if w = 0 then 3 else if w = 1 then 16 else if w = 2 then 12 else 8
/-- a fresh row of the reference -/
def FR (b : Nat → Int32) : Prop := b 0 = 0 ∧ b 1 = 0 ∧ b 2 = 0 ∧ b 3 = 1 ∧ b 4 = 3 ∧ b 5 = 16 ∧ b 6 = 12 ∧ b 7 = 8 ∧ b 8 = 0 ∧ b 9 = 0 ∧ b 19 = 0 ∧ b 540 = 0 ∧ b 541 = 0 ∧ b 542 = 0 ∧ b 543 = 0
theorem CRx_fresh (h : FR b) (h1 : bo 0 = 0) (h2 : he 0 = 0) (h3 : so 0 = 0) (h4 : st 0 = 0) (h5 : ∀ w, w < 4 → se w = iN (W0 w)) :
    CRx 0 0 0 0 nu 0 1 bo en he so st 0 kn pr se 0 ky ss vs b := by
  obtain ⟨f0, f1, f2, f3, f4, f5, f6, f7, f8, f9, f19, g0, g1, g2, g3⟩ := h
  have at1 : ∀ (f : Nat → Int32), f 0 = 0 → At f 0 [0] := fun f hf i r hi => by
    rcases i with _ | i
    · simp at hi; subst hi; exact hf
    · simp at hi
  refine ⟨0, fun _ => 0, fun _ => 0, fun _ => 0, [(0, 0, 0, [])], [], W0, 0, ⟨⟨⟨by omega, by decide, by decide, by decide, ?_, ?_, by decide, ?_⟩, ?_, ⟨?_, ?_⟩, ?_⟩, ⟨?_, by simp, ?_, ?_⟩, by decide, by decide, by simp, by decide, by omega⟩, ⟨rfl, ⟨rfl, rfl, At.nil _ _, at1 _ h1, at1 _ h2, at1 _ h3, at1 _ h4⟩, rfl, At.nil _ _, fun w hw => ⟨h5 w hw, ?_⟩, rfl, ?_, ?_, ?_⟩, ⟨⟨f3, f1, At.nil _ _, ?_⟩, f0, ⟨f2, At.nil _ _⟩, ?_, ?_, ?_, ?_, f19⟩, ⟨f8.symm, f9.symm, Or.inl rfl, ?_, ?_, ?_⟩⟩
  · intro p hp; simp at hp; subst hp; exact Nat.zero_le _
  · intro p hp; simp at hp; subst hp; exact Nat.zero_le _
  · intro r hr; simp [flat] at hr
  · intro X hX; simp at hX; subst hX; rfl
  · intro X hX r hr; simp at hX; subst hX; cases hr
  · simp
  · simp [flat]
  · intro r; simp [flat]
  · intro r; simp
  · intro r hr; omega
  · unfold W0; split <;> (try split) <;> (try split) <;> omega
  · intro r hr; omega
  · intro r hr; omega
  · intro r hr; omega
  · intro i r hi
    rcases i with _ | _ | _ | _ | i
    · simp [enc] at hi; subst hi; exact g0
    · simp [enc] at hi; subst hi; exact g1
    · simp [enc] at hi; subst hi; exact g2
    · simp [enc] at hi; subst hi; exact g3
    · simp [enc] at hi
  · intro r hr; omega
  · intro r hr; omega
  · intro r hr; omega
  · intro w hw
    have : W0 w ≤ 120 := by unfold W0; split <;> (try split) <;> (try split) <;> omega
    refine ⟨?_, this⟩
    rcases (show w = 0 ∨ w = 1 ∨ w = 2 ∨ w = 3 by omega) with rfl | rfl | rfl | rfl
    · exact f4
    · exact f5
    · exact f6
    · exact f7
  · intro hg; exact absurd hg (by decide)
  · intro j hj; omega
  · intro i hi; omega
end FRS
