section RDR
variable {N L len n : Nat} {bb mf ky ss vs en st en' st' bo he so b : Nat → Int32} {T K : Nat → Nat} {sz er ea at' be ki nu w wa : Int32} {V : Nat → Int32}
/-- the rows that were read: one piece that holds them in order -/
abbrev P1 (n : Nat) : List Pc := [(0, 0, 0, List.range n)]
def TR (n : Nat) (K : Nat → Nat) (V : Nat → Int32) (sz : Int32) (en bo he so st ky ss vs b : Nat → Int32) : Prop :=
  n ≤ 120 ∧ IX sz 1 en bo he so st (P1 n) ∧ KY n ky K ∧ (∀ r, r < n → ss r = 0) ∧ VA n vs V ∧ b 0 = iN n ∧ (∀ r, r < n → b (20 + r) = iN (K r)) ∧ ∀ r, r < n → b (140 + r) = V r
theorem P1_SZ (hn : n ≤ 120) : SZ n (P1 n) := by
  have hf : flat (P1 n) = List.range n := by show List.range n ++ [] = _; simp
  refine ⟨hn, by decide +revert, by show 1 ≤ 62; omega, by rw [hf]; simp; exact hn, ?_, ?_, by show 0 + 0 < _; omega, ?_⟩
  · intro p hp; simp at hp; subst hp; exact Nat.zero_le _
  · intro p hp; simp at hp; subst hp; exact Nat.zero_le _
  · intro r hr; rw [hf] at hr; simpa using hr
theorem P1_put : putS K n (P1 n) = P1 (n + 1) := by
  have hp : pcF (P1 n) (K n) = 0 := by
    unfold pcF
    show lle [0] (K n) 1 = 0
    unfold lle
    simp [lle]
  unfold putS
  rw [hp]
  show [putPc K n (0, 0, 0, List.range n)] ++ [] = _
  simp [putPc, List.range_succ]
theorem TR_add {key : Nat} {v : Int32} (h : TR n K V sz en bo he so st ky ss vs b) (hn : n < 120) (hk : key < 10000) (hN : 1000 < N) :
    ∃ sz' en' st', f_X6_add (iN n) ky ss vs (iN key) v 0 = some (iN n, iN (n + 1), upd ky n (iN key), upd ss n 0, upd vs n v) ∧ f_X3_putIn N sz 1 bo en so st (upd ky n (iN key)) (iN n) = some (sz', en', st') ∧
      TR (n + 1) (fun r => if r = n then key else K r) (fun r => if r = n then v else V r) sz' en' bo he so st' (upd ky n (iN key)) (upd ss n 0) (upd vs n v) (upd (upd (upd b (20 + n) (iN key)) (140 + n) v) 0 (iN (n + 1))) := by
  obtain ⟨h1, h2, h3, h4, h5, h6, h7, h8⟩ := h
  have hKY : KY (n + 1) (upd ky n (iN key)) (fun r => if r = n then key else K r) := fun r hr => by
    show upd ky n (iN key) r = iN (if r = n then key else K r) ∧ (if r = n then key else K r) < 10000
    by_cases e : r = n
    · subst e; rw [upd_self, if_pos rfl]; exact ⟨rfl, hk⟩
    · rw [upd_ne e, if_neg e]; exact h3 r (by omega)
  have hz : SZ (n + 1) (P1 n) := by
    obtain ⟨z1, z2, z3, z4, z5, z6, z7, z8⟩ := P1_SZ h1
    exact ⟨by omega, z2, z3, z4, z5, z6, z7, fun r hr => by have := z8 r hr; omega⟩
  have hf : (flat (P1 n)).length < 120 := by
    show (List.range n ++ []).length < 120
    simp; exact hn
  obtain ⟨sz', en', st', a1, a2⟩ := c_putIn (row := n) h2 hz hKY hN (by omega) hf
  rw [P1_put] at a2
  refine ⟨sz', en', st', ?_, a1, by omega, a2, hKY, fun r hr => ?_, fun r hr => ?_, upd_self _ _ _, fun r hr => ?_, fun r hr => ?_⟩
  · unfold f_X6_add
    simp (disch := omega) only [Nat.add_zero, iN_lit, iN_lt, iN_le, iN_eq, iN_add, iN_mul, iN_sub, iN_nat, iN_div, iN_mod, iN_pred', n1_lt, n1_le, n1_ne, n1_ne', n1_nle, n1_nlt, n1_eq, oobN, some_lt, some_jn, bnd_some, Bool.false_eq_true, if_true, if_false, ite_true, ite_false, ↓reduceIte, ltT, ltF, leT, leF, eqT, eqF, true_and, and_true, false_and, and_false, true_or, or_true, false_or, or_false, not_true_eq_false, not_false_eq_true, if_pos, if_neg]
  · by_cases e : r = n
    · subst e; exact upd_self _ _ _
    · rw [upd_ne e]; exact h4 r (by omega)
  · show upd vs n v r = if r = n then v else V r
    by_cases e : r = n
    · subst e; rw [upd_self, if_pos rfl]
    · rw [upd_ne e, if_neg e]; exact h5 r (by omega)
  · show _ = iN (if r = n then key else K r)
    rw [upd_ne (by omega), upd_ne (by omega)]
    by_cases e : r = n
    · subst e; rw [upd_self, if_pos rfl]
    · rw [upd_ne (by omega), if_neg e]; exact h7 r (by omega)
  · show _ = if r = n then v else V r
    rw [upd_ne (by omega)]
    by_cases e : r = n
    · subst e; rw [upd_self, if_pos rfl]
    · rw [upd_ne (by omega), upd_ne (by omega), if_neg e]; exact h8 r (by omega)
end RDR
