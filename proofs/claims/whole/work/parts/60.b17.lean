/-- moved down by four from q on, the first i of them -/
def dn4 (f : Nat → Int32) (q i : Nat) : Nat → Int32 := fun j => if q ≤ j ∧ j < q + i then f (j + 4) else f j
theorem dn4_zero {f : Nat → Int32} {q : Nat} : dn4 f q 0 = f := by funext j; unfold dn4; rw [if_neg (by omega)]
theorem dn4_step {f : Nat → Int32} {q i : Nat} : upd (dn4 f q i) (q + i) (dn4 f q i (q + i + 4)) = dn4 f q (i + 1) := by
  funext j
  unfold upd dn4
  by_cases h1 : j = q + i
  · subst h1
    rw [if_pos rfl, if_neg (by omega), if_pos (by omega)]
  · rw [if_neg h1]
    by_cases h2 : q ≤ j ∧ j < q + i
    · rw [if_pos h2, if_pos (by omega)]
    · rw [if_neg h2, if_neg (by omega)]
section WX
variable {n N : Nat} {a mo : Nat → Int32} {P : List Pc} {K : Nat → Nat}
theorem r_joins {p : Nat} (h : RX a P) (hz : SZ n P) (hN : 1000 < N) (hp : p + 1 < P.length) :
    ∃ a', f_X8_joins N a (iN p) = some a' ∧ RX a' (jnS p P) ∧ ∀ j, ¬ idxR j → a' j = a j := by
  have hl := hz.len
  obtain ⟨A, X, B', rfl, rfl⟩ := split_at (show p < P.length by omega)
  obtain ⟨Y, B, rfl⟩ : ∃ Y B, B' = Y :: B := by
    cases B' with
    | nil => simp at hp
    | cons Y B => exact ⟨Y, B, rfl⟩
  obtain ⟨g1, g2, g3, g4, g5, g6⟩ := RX_app.mp h
  rw [jnS_app]
  simp only [List.length_append, List.length_cons] at hl g1
  simp only [flat, enc, At.cons, List.length_append] at g2 g3 g6
  have hht : X.2.1 + Y.2.1 < 1073741824 := by have := hz.ht; simp [hsum_append, hsum] at this; omega
  have hfl : (flat A).length + (X.2.2.2.length + (Y.2.2.2.length + (flat B).length)) ≤ 120 := by have := hz.fl; simpa [flat_append, flat] using this
  have y0 := g6.1; have y1 := g6.2.1; have y2 := g6.2.2.1; have y3 := g6.2.2.2.1; have y4 := g6.2.2.2.2
  rw [show 544 + 4 * A.length + 1 = 540 + 4 * (A.length + 1) + 1 by omega] at y1
  rw [show 544 + 4 * A.length + 1 + 1 = 540 + 4 * (A.length + 1) + 2 by omega] at y2
  rw [show 544 + 4 * A.length + 1 + 1 + 1 = 540 + 4 * (A.length + 1) + 3 by omega] at y3
  rw [show 544 + 4 * A.length + 1 + 1 + 1 + 1 = 548 + 4 * A.length by omega] at y4
  have x1 := g5.2.1; have x2 := g5.2.2.1; have x3 := g5.2.2.2
  let c := upd (upd (upd (upd a (540 + 4 * A.length + 1) (iN (X.2.2.2.length + Y.2.2.2.length))) (540 + 4 * A.length + 2) (iN (X.2.1 + Y.2.1))) (540 + 4 * A.length + 3) (iN (X.2.2.1 * Y.2.2.1))) 3 (iN (A.length + B.length + 1))
  have hc : c = upd (upd (upd (upd a (540 + 4 * A.length + 1) (iN (X.2.2.2.length + Y.2.2.2.length))) (540 + 4 * A.length + 2) (iN (X.2.1 + Y.2.1))) (540 + 4 * A.length + 3) (iN (X.2.2.1 * Y.2.2.1))) 3 (iN (A.length + B.length + 1)) := rfl
  have c3 : c 3 = iN (A.length + B.length + 1) := by rw [hc, upd_self]
  have co : ∀ j, j ≠ 3 → (j < 540 + 4 * A.length + 1 ∨ 540 + 4 * A.length + 4 ≤ j) → c j = a j := fun j h1 h2 => by
    rw [hc, upd_ne (by omega), upd_ne (by omega), upd_ne (by omega), upd_ne (by omega)]
  have cm : c (540 + 4 * A.length + 1) = iN (X.2.2.2.length + Y.2.2.2.length) ∧ c (540 + 4 * A.length + 2) = iN (X.2.1 + Y.2.1) ∧ c (540 + 4 * A.length + 3) = iN (X.2.2.1 * Y.2.2.1) := by
    rw [hc]
    refine ⟨?_, ?_, ?_⟩
    · rw [upd_ne (by omega), upd_ne (by omega), upd_ne (by omega), upd_self]
    · rw [upd_ne (by omega), upd_ne (by omega), upd_self]
    · rw [upd_ne (by omega), upd_self]
  have l83 : ∀ k : (Nat → Int32) → Option (Nat → Int32), f_X8_joins_83 k N (iN (540 + 4 * (A.length + 1))) c = k (dn4 c (540 + 4 * (A.length + 1)) (4 * B.length)) := by
    intro k
    have : ∀ m i, i ≤ 4 * B.length → 4 * B.length - i < m → f_X8_joins_83 k m (iN (540 + 4 * (A.length + 1) + i)) (dn4 c (540 + 4 * (A.length + 1)) i) = k (dn4 c (540 + 4 * (A.length + 1)) (4 * B.length)) := by
      intro m
      induction m with
      | zero => intro i h1 h2; omega
      | succ m ih =>
        intro i h1 h2
        have hg1 : dn4 c (540 + 4 * (A.length + 1)) i 3 = iN (A.length + B.length + 1) := by unfold dn4; rw [if_neg (by omega), c3]
        rw [f_X8_joins_83.eq_2, hg1]
        by_cases h3 : i = 4 * B.length
        · subst h3; simp (disch := omega) only [Nat.add_zero, iN_lit, iN_lt, iN_le, iN_eq, iN_add, iN_mul, iN_sub, iN_nat, iN_div, iN_mod, iN_pred', n1_lt, n1_le, n1_ne, n1_ne', n1_nle, n1_nlt, n1_eq, oobN, some_lt, some_jn, bnd_some, Bool.false_eq_true, if_true, if_false, ite_true, ite_false, ↓reduceIte, ltT, ltF, leT, leF, eqT, eqF, true_and, and_true, false_and, and_false, true_or, or_true, false_or, or_false, not_true_eq_false, not_false_eq_true, if_pos, if_neg]
        · have h4 := ih (i + 1) (by omega) (by omega)
          have h5 := dn4_step (f := c) (q := 540 + 4 * (A.length + 1)) (i := i)
          simp (disch := omega) only [Nat.add_zero, iN_lit, iN_lt, iN_le, iN_eq, iN_add, iN_mul, iN_sub, iN_nat, iN_div, iN_mod, iN_pred', n1_lt, n1_le, n1_ne, n1_ne', n1_nle, n1_nlt, n1_eq, oobN, some_lt, some_jn, bnd_some, Bool.false_eq_true, if_true, if_false, ite_true, ite_false, ↓reduceIte, ltT, ltF, leT, leF, eqT, eqF, true_and, and_true, false_and, and_false, true_or, or_true, false_or, or_false, not_true_eq_false, not_false_eq_true, if_pos, if_neg, h5]
          exact h4
    have h7 := this N 0 (by omega) (by omega)
    rw [dn4_zero] at h7
    exact h7
  have d0 : ∀ j, j < 540 + 4 * (A.length + 1) ∨ 540 + 4 * (A.length + 1) + 4 * B.length ≤ j → dn4 c (540 + 4 * (A.length + 1)) (4 * B.length) j = c j := fun j hj => by unfold dn4; rw [if_neg (by omega)]
  have d1 : ∀ j, 540 + 4 * (A.length + 1) ≤ j → j < 540 + 4 * (A.length + 1) + 4 * B.length → dn4 c (540 + 4 * (A.length + 1)) (4 * B.length) j = c (j + 4) := fun j h1 h2 => by unfold dn4; rw [if_pos (by omega)]
  refine ⟨dn4 c (540 + 4 * (A.length + 1)) (4 * B.length), ?_, RX_app.mpr ⟨?_, ?_, ?_, ?_, ⟨?_, ?_, ?_, ?_⟩, ?_⟩, fun j hj => ?_⟩
  · have o1 : f_X8_of a (iN A.length) (iN 1) = some (iN X.2.2.2.length) := by rw [r_of (by omega) (by omega), x1]
    have o2 : f_X8_of a (iN (A.length + 1)) (iN 1) = some (iN Y.2.2.2.length) := by rw [r_of (by omega) (by omega), y1]
    have o3 : f_X8_of (upd a (540 + 4 * A.length + 1) (iN (X.2.2.2.length + Y.2.2.2.length))) (iN A.length) (iN 2) = some (iN X.2.1) := by rw [r_of (by omega) (by omega), upd_ne (by omega), x2]
    have o4 : f_X8_of (upd a (540 + 4 * A.length + 1) (iN (X.2.2.2.length + Y.2.2.2.length))) (iN (A.length + 1)) (iN 2) = some (iN Y.2.1) := by rw [r_of (by omega) (by omega), upd_ne (by omega), y2]
    have o5 : f_X8_of (upd (upd a (540 + 4 * A.length + 1) (iN (X.2.2.2.length + Y.2.2.2.length))) (540 + 4 * A.length + 2) (iN (X.2.1 + Y.2.1))) (iN A.length) (iN 3) = some (iN X.2.2.1) := by rw [r_of (by omega) (by omega), upd_ne (by omega), upd_ne (by omega), x3]
    have o6 : f_X8_of (upd (upd a (540 + 4 * A.length + 1) (iN (X.2.2.2.length + Y.2.2.2.length))) (540 + 4 * A.length + 2) (iN (X.2.1 + Y.2.1))) (iN (A.length + 1)) (iN 3) = some (iN Y.2.2.1) := by rw [r_of (by omega) (by omega), upd_ne (by omega), upd_ne (by omega), y3]
    have o7 : upd (upd (upd a (540 + 4 * A.length + 1) (iN (X.2.2.2.length + Y.2.2.2.length))) (540 + 4 * A.length + 2) (iN (X.2.1 + Y.2.1))) (540 + 4 * A.length + 3) (iN (X.2.2.1 * Y.2.2.1)) 3 = iN (A.length + (B.length + 1) + 1) := by rw [upd_ne (by omega), upd_ne (by omega), upd_ne (by omega), g1]
    have o8 : A.length + (B.length + 1) + 1 - 1 = A.length + B.length + 1 := by omega
    have l83' := fun k => l83 k
    rw [hc] at l83'
    unfold f_X8_joins
    simp (disch := omega) only [Nat.add_zero, iN_lit, iN_lt, iN_le, iN_eq, iN_add, iN_mul, iN_sub, iN_nat, iN_div, iN_mod, iN_pred', n1_lt, n1_le, n1_ne, n1_ne', n1_nle, n1_nlt, n1_eq, oobN, some_lt, some_jn, bnd_some, Bool.false_eq_true, if_true, if_false, ite_true, ite_false, ↓reduceIte, ltT, ltF, leT, leF, eqT, eqF, true_and, and_true, false_and, and_false, true_or, or_true, false_or, or_false, not_true_eq_false, not_false_eq_true, if_pos, if_neg, o1, o2, o3, o4, o5, o6, o7, o8, r_puts, l83']
    rfl
  · rw [d0 _ (by omega), c3]
  · rw [d0 _ (by omega), co _ (by omega) (by omega), g2]; simp [jnP, Nat.add_assoc]
  · refine (show At _ 380 (flat A ++ (X.2.2.2 ++ (Y.2.2.2 ++ flat B))) → _ from fun q => by simpa [jnP] using q) ?_
    refine g3.congr (fun j hj1 hj2 => ?_)
    simp at hj2
    rw [d0 _ (by omega), co _ (by omega) (by omega)]
  · refine g4.congr (fun j hj1 hj2 => ?_)
    rw [enc_length] at hj2
    rw [d0 _ (by omega), co _ (by omega) (by omega)]
  · rw [d0 _ (by omega), co _ (by omega) (by omega)]; exact g5.1
  · rw [d0 _ (by omega), cm.1]; simp [jnP]
  · rw [d0 _ (by omega), cm.2.1]; rfl
  · rw [d0 _ (by omega), cm.2.2]; rfl
  · intro i r hi
    have hlen := (List.getElem?_eq_some_iff.mp hi).1
    rw [enc_length] at hlen
    rw [d1 _ (by omega) (by omega), co _ (by omega) (by omega), show 544 + 4 * A.length + i + 4 = 548 + 4 * A.length + i by omega]
    exact y4 i r hi
  · unfold idxR at hj
    rw [d0 _ (by omega), co _ (by omega) (by omega)]
end WX
