section STM
variable {N L len n : Nat} {bb mf ky ss vs en st bo he so se b : Nat → Int32} {T K W : Nat → Nat} {sz ea at' be ki nu wa : Int32} {V : Nat → Int32}
/-- a word, where the two readers stand -/
theorem p_word {p w : Nat} (h : TX len bb mf T) (hL : L ≤ len) (hN : 1000 < N) (hw : w < 5) (hp : PS T L p 0 ea at' be ki nu 0 wa) (hpp : runE (qS T) L p = p) :
    ∃ r : Nat, (r = 0 ∨ r = 1) ∧ f_X5_isWord N (iN len) bb (iN (runE (qL T) L p)) 900 (iN p) w = some (iN r) ∧ f_X8_isWord N at' be ki 0 mf w = some (iN r) ∧ (r = 1 → tkE T L p = runE (qL T) L p) := by
  obtain ⟨hi', _, hx⟩ := hp
  rw [hpp] at hx
  have hg := runE_ge (qL T) L _ p rfl
  obtain ⟨r, r1, r2, r3, r4⟩ := w_both (e := runE (qL T) L p) h hw hg.1 (by have := hg.2 hi'; omega) hN
  rcases hx with ⟨_, rfl, rfl, rfl, hnu⟩ | ⟨⟨hne, _⟩, _⟩
  · by_cases hk : p < L ∧ qL T p = true
    · have e1 : tkK T L p = 0 := by
        unfold tkK
        rw [if_neg (by omega), if_pos hk.2]
      have e2 : tkE T L p = runE (qL T) L p := by
        unfold tkE
        rw [if_neg (by omega), if_pos hk.2]
      refine ⟨r, r1, r2, ?_, fun _ => e2⟩
      rw [e1, e2]
      exact r3
    · have e1 : runE (qL T) L p = p := by
        by_cases c : L ≤ p
        · exact runE_end c
        · apply runE_stop
          cases hq : qL T p with
          | false => rfl
          | true => exact absurd ⟨by omega, hq⟩ hk
      have e2 : tkK T L p ≠ 0 := by
        unfold tkK
        by_cases c : L ≤ p
        · rw [if_pos c]; omega
        · rw [if_neg c, if_neg (fun q => hk ⟨by omega, q⟩)]; split <;> omega
      have hk3 := tkK_le (T := T) (L := L) (p := p)
      have hr := r4 e1
      subst hr
      refine ⟨0, Or.inl rfl, r2, ?_, fun q => by omega⟩
      unfold f_X8_isWord
      rw [if_pos rfl, if_neg (show ¬ iN (tkK T L p) = (0 : Int32) by show ¬ _ = iN 0; rw [iN_eq (by omega) (by omega)]; exact e2)]
      rfl
  · exact absurd rfl hne
end STM
