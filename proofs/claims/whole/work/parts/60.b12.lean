/-- moved down from q on, the first i of them -/
def dnA (f : Nat → Int32) (q i : Nat) : Nat → Int32 := fun j => if q ≤ j ∧ j < q + i then f (j + 1) else f j
theorem dnA_step {f : Nat → Int32} {q i : Nat} : upd (dnA f q i) (q + i) (dnA f q i (q + i + 1)) = dnA f q (i + 1) := by
  funext j
  unfold upd dnA
  by_cases h1 : j = q + i
  · subst h1
    rw [if_pos rfl, if_neg (by omega), if_pos (by omega)]
  · rw [if_neg h1]
    by_cases h2 : q ≤ j ∧ j < q + i
    · rw [if_pos h2, if_pos (by omega)]
    · rw [if_neg h2, if_neg (by omega)]
theorem dnA_lo {f : Nat → Int32} {q i j : Nat} (h : j < q) : dnA f q i j = f j := by unfold dnA; rw [if_neg (by omega)]
theorem dnA_hi {f : Nat → Int32} {q i j : Nat} (h : q ≤ j) (h2 : j < q + i) : dnA f q i j = f (j + 1) := by unfold dnA; rw [if_pos (by omega)]
section WR
variable {n N : Nat} {sz pc : Int32} {en bo he so st ky : Nat → Int32} {P : List Pc} {K : Nat → Nat}
theorem join_loop {M q : Nat} (hM : M ≤ 62) (hq : q + 1 ≤ M) (hN : 1000 < N) (k : (Nat → Int32) → (Nat → Int32) → (Nat → Int32) → (Nat → Int32) → Option (Int32 × (Nat → Int32) × (Nat → Int32) × (Nat → Int32) × (Nat → Int32))) :
    f_X3_joinNext_57 (iN M) k N (iN (q + 1)) bo he so st = k (dnA bo q (M - (q + 1))) (dnA he q (M - (q + 1))) (dnA so q (M - (q + 1))) (dnA st q (M - (q + 1))) := by
  have z : ∀ f : Nat → Int32, dnA f q 0 = f := fun f => by funext j; unfold dnA; rw [if_neg (by omega)]
  have : ∀ m i, i ≤ M - (q + 1) → M - (q + 1) - i < m → f_X3_joinNext_57 (iN M) k m (iN (q + 1 + i)) (dnA bo q i) (dnA he q i) (dnA so q i) (dnA st q i) = k (dnA bo q (M - (q + 1))) (dnA he q (M - (q + 1))) (dnA so q (M - (q + 1))) (dnA st q (M - (q + 1))) := by
    intro m
    induction m with
    | zero => intro i h1 h2; omega
    | succ m ih =>
      intro i h1 h2
      rw [f_X3_joinNext_57.eq_2]
      by_cases h3 : i = M - (q + 1)
      · subst h3; simp (disch := omega) only [Nat.add_zero, iN_lit, iN_lt, iN_le, iN_eq, iN_add, iN_mul, iN_sub, iN_nat, iN_div, iN_mod, iN_pred', n1_lt, n1_le, n1_ne, n1_ne', n1_nle, n1_nlt, n1_eq, oobN, some_lt, some_jn, bnd_some, Bool.false_eq_true, if_true, if_false, ite_true, ite_false, ↓reduceIte, ltT, ltF, leT, leF, eqT, eqF, true_and, and_true, false_and, and_false, true_or, or_true, false_or, or_false, not_true_eq_false, not_false_eq_true, if_pos, if_neg]
      · have h4 := ih (i + 1) (by omega) (by omega)
        have h5 := c_movePiece (f := q + i + 1) (t := q + i) (bo := dnA bo q i) (he := dnA he q i) (so := dnA so q i) (st := dnA st q i) (by omega) (by omega)
        rw [dnA_step, dnA_step, dnA_step, dnA_step] at h5
        rw [show q + 1 + i = q + i + 1 by omega, show iN (q + i + 1) - 1 = iN (q + i) from iN_sub (a := q + i + 1) (b := 1) (by omega), h5]
        rw [show q + 1 + (i + 1) = q + i + 1 + 1 by omega] at h4
        simp (disch := omega) only [Nat.add_zero, iN_lit, iN_lt, iN_le, iN_eq, iN_add, iN_mul, iN_sub, iN_nat, iN_div, iN_mod, iN_pred', n1_lt, n1_le, n1_ne, n1_ne', n1_nle, n1_nlt, n1_eq, oobN, some_lt, some_jn, bnd_some, Bool.false_eq_true, if_true, if_false, ite_true, ite_false, ↓reduceIte, ltT, ltF, leT, leF, eqT, eqF, true_and, and_true, false_and, and_false, true_or, or_true, false_or, or_false, not_true_eq_false, not_false_eq_true, if_pos, if_neg]
        exact h4
  have h := this N 0 (by omega) (by omega)
  rw [z, z, z, z] at h
  exact h
theorem c_joinNext {p : Nat} (h : IX sz pc en bo he so st P) (hz : SZ n P) (hN : 1000 < N) (hp : p + 1 < P.length) :
    ∃ pc' bo' he' so' st', f_X3_joinNext N pc bo he so st (iN p) = some (pc', bo', he', so', st') ∧ IX sz pc' en bo' he' so' st' (jnS p P) := by
  have hl := hz.len
  obtain ⟨A, X, B', rfl, rfl⟩ := split_at (show p < P.length by omega)
  obtain ⟨Y, B, rfl⟩ : ∃ Y B, B' = Y :: B := by
    cases B' with
    | nil => simp at hp
    | cons Y B => exact ⟨Y, B, rfl⟩
  obtain ⟨rfl, rfl, h3, h4, h5, h6, h7⟩ := IX_app.mp h
  rw [jnS_app]
  simp only [List.length_append, List.length_cons] at hl
  simp only [flat, sts, List.map_cons, At.cons, List.length_cons] at h3 h4 h5 h6 h7 ⊢
  have e0 := c_has (P := A.length + (B.length + 1) + 1) (p := A.length) (by omega) (by omega)
  have e1 := c_has (P := A.length + (B.length + 1) + 1) (p := A.length + 1) (by omega) (by omega)
  rw [if_pos (by omega)] at e0 e1
  have hht : X.2.1 + Y.2.1 < 1073741824 := by have := hz.ht; simp [hsum_append, hsum] at this; omega
  have e8 := fun he so k => join_loop (bo := bo) (he := he) (so := so) (st := st) (N := N) (M := A.length + (B.length + 1) + 1) (q := A.length + 1) (by omega) (by omega) hN k
  have e5 := h5.2.1; have e5' := h5.2.2.1; have e6 := h6.2.1; have e6' := h6.2.2.1
  rw [show A.length + (B.length + 1) + 1 - (A.length + 1 + 1) = B.length by omega] at e8
  refine ⟨iN (A.length + B.length + 1), dnA bo (A.length + 1) B.length, dnA (upd he A.length (iN (X.2.1 + Y.2.1))) (A.length + 1) B.length, dnA (upd so A.length (iN (X.2.2.1 * Y.2.2.1))) (A.length + 1) B.length, dnA st (A.length + 1) B.length, ?_, IX_app.mpr ⟨rfl, ?_, ?_, ⟨?_, ?_, ?_⟩, ⟨?_, ?_, ?_⟩, ⟨?_, ?_, ?_⟩, ⟨?_, ?_, ?_⟩⟩⟩
  · unfold f_X3_joinNext
    simp only [e0, bnd_some, show ((1 : Int32) = 0) = False from eq_false (by decide), if_false, show iN A.length + 1 = iN (A.length + 1) from iN_add _ 1, show iN A.length + 2 = iN (A.length + 1 + 1) from iN_add _ 2, e1, some_lt, some_jn, e8]
    simp (disch := omega) only [Nat.add_zero, iN_lit, iN_lt, iN_le, iN_eq, iN_add, iN_mul, iN_sub, iN_nat, iN_div, iN_mod, iN_pred', n1_lt, n1_le, n1_ne, n1_ne', n1_nle, n1_nlt, n1_eq, oobN, some_lt, some_jn, bnd_some, Bool.false_eq_true, if_true, if_false, ite_true, ite_false, ↓reduceIte, ltT, ltF, leT, leF, eqT, eqF, true_and, and_true, false_and, and_false, true_or, or_true, false_or, or_false, not_true_eq_false, not_false_eq_true, if_pos, if_neg, e5, e5', e6, e6', show A.length + (B.length + 1) + 1 - 1 = A.length + B.length + 1 from by omega]
  · simp [jnP, Nat.add_assoc]
  · simpa [jnP] using h3
  · refine h4.1.congr (fun j h1 h2 => ?_)
    simp at h2
    exact dnA_lo (by omega)
  · rw [dnA_lo (by omega)]; exact h4.2.1
  · refine At.down h4.2.2.2 (fun j h1 h2 => ?_)
    simp at h2
    exact dnA_hi (by omega) (by omega)
  · refine h5.1.congr (fun j h1 h2 => ?_)
    simp at h2
    rw [dnA_lo (by omega), upd_ne (by omega)]
  · rw [dnA_lo (by omega), upd_self]; rfl
  · refine At.down h5.2.2.2 (fun j h1 h2 => ?_)
    simp at h2
    rw [dnA_hi (by omega) (by omega), upd_ne (by omega)]
  · refine h6.1.congr (fun j h1 h2 => ?_)
    simp at h2
    rw [dnA_lo (by omega), upd_ne (by omega)]
  · rw [dnA_lo (by omega), upd_self]; rfl
  · refine At.down h6.2.2.2 (fun j h1 h2 => ?_)
    simp at h2
    rw [dnA_hi (by omega) (by omega), upd_ne (by omega)]
  · refine h7.1.congr (fun j h1 h2 => ?_)
    rw [sts_length] at h2
    exact dnA_lo (by omega)
  · rw [dnA_lo (by omega)]; exact h7.2.1
  · have := h7.2.2.2
    rw [show (jnP X Y).2.2.2.length = X.2.2.2.length + Y.2.2.2.length by simp [jnP], ← Nat.add_assoc]
    refine At.down this (fun j h1 h2 => ?_)
    rw [sts_length] at h2
    exact dnA_hi (by omega) (by omega)
end WR
