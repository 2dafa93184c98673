section WX
variable {n N : Nat} {a : Nat → Int32} {P : List Pc} {K : Nat → Nat}
theorem r_leaves {row : Nat} (h : RX a P) (hz : SZ n P) (hk : KY n (fun r => a (20 + r)) K) (hN : 1000 < N) (hr : row < n) (hnd : (flat P).Nodup) (hin : ∃ X, P[pcF P (K row)]? = some X ∧ row ∈ X.2.2.2) :
    ∃ a', f_X8_leaves N a (iN row) (iN (pcF P (K row))) = some a' ∧ RX a' (takS K row P) ∧ a' (260 + row) = iN 3 ∧ ∀ j, ¬ idxR j → j ≠ 260 + row → a' j = a j := by
  have hl := hz.len; have hn := hz.nn; have hfl := hz.fl
  have hp : pcF P (K row) < P.length := pcF_lt hz.one
  have e6 := r_mn h hz hp
  have e3 := r_placeOf (row := row) h hz hN (by omega)
  have hpl : ∀ L1 L2, flat P = L1 ++ row :: L2 → row ∉ L1 → f_X8_placeOf N a (iN row) = some (iN L1.length) := fun L1 L2 h1 h2 => by rw [e3, pla_eq h1 h2]; rfl
  unfold takS
  obtain ⟨X', hX', hrow⟩ := hin
  generalize pcF P (K row) = p at *
  obtain ⟨A, X, B, rfl, rfl⟩ := split_at hp
  have hXX : X' = X := by simpa using hX'.symm
  subst hXX
  rw [mdp_app]
  have hX : (A ++ X' :: B)[A.length] = X' := by simp
  simp only [hX] at e6
  obtain ⟨R1, R2, hXr, n1, n2, n3, n4⟩ := nodup_split hnd hrow
  obtain ⟨h1, h2, h3, h4, h5, h6⟩ := RX_app.mp h
  simp only [List.length_append, List.length_cons] at hl
  have e4 := hpl (flat A ++ R1) (R2 ++ flat B) (by rw [flat_append, flat, hXr]; simp) (by simp [n1, n2])
  have hlen : X'.2.2.2.length = R1.length + R2.length + 1 := by rw [hXr]; simp; omega
  have hfl2 : (flat A).length + (X'.2.2.2.length + (flat B).length) ≤ 120 := by simpa [flat_append, flat] using hfl
  simp only [List.length_append] at e4
  -- the shift
  have shift : ∀ (k : (Nat → Int32) → Option (Nat → Int32)) (g : Nat → Int32) pl M, pl ≤ M → M ≤ 120 → g 1 = iN M → f_X8_leaves_19 k N (iN pl) g = k (dnA g (380 + pl) (M - pl)) := by
    intro k g pl M hpl hM hg
    have : ∀ m i, i ≤ M - pl → M - pl - i < m → f_X8_leaves_19 k m (iN (pl + i)) (dnA g (380 + pl) i) = k (dnA g (380 + pl) (M - pl)) := by
      intro m
      induction m with
      | zero => intro i h1 h2; omega
      | succ m ih =>
        intro i h1 h2
        have hg1 : dnA g (380 + pl) i 1 = iN M := by rw [dnA_lo (by omega)]; exact hg
        rw [f_X8_leaves_19.eq_2, hg1]
        by_cases h3 : i = M - pl
        · subst h3; simp (disch := omega) only [Nat.add_zero, iN_lit, iN_lt, iN_le, iN_eq, iN_add, iN_mul, iN_sub, iN_nat, iN_div, iN_mod, iN_pred', n1_lt, n1_le, n1_ne, n1_ne', n1_nle, n1_nlt, n1_eq, oobN, some_lt, some_jn, bnd_some, Bool.false_eq_true, if_true, if_false, ite_true, ite_false, ↓reduceIte, ltT, ltF, leT, leF, eqT, eqF, true_and, and_true, false_and, and_false, true_or, or_true, false_or, or_false, not_true_eq_false, not_false_eq_true, if_pos, if_neg]
        · have h4 := ih (i + 1) (by omega) (by omega)
          have h5 := dnA_step (f := g) (q := 380 + pl) (i := i)
          rw [show 380 + pl + i = 380 + (pl + i) by omega] at h5
          simp (disch := omega) only [Nat.add_zero, iN_lit, iN_lt, iN_le, iN_eq, iN_add, iN_mul, iN_sub, iN_nat, iN_div, iN_mod, iN_pred', n1_lt, n1_le, n1_ne, n1_ne', n1_nle, n1_nlt, n1_eq, oobN, some_lt, some_jn, bnd_some, Bool.false_eq_true, if_true, if_false, ite_true, ite_false, ↓reduceIte, ltT, ltF, leT, leF, eqT, eqF, true_and, and_true, false_and, and_false, true_or, or_true, false_or, or_false, not_true_eq_false, not_false_eq_true, if_pos, if_neg, h5]
          exact h4
    have h7 := this N 0 (by omega) (by omega)
    rw [show dnA g (380 + pl) 0 = g by funext j; unfold dnA; rw [if_neg (by omega)]] at h7
    exact h7
  have hs := fun k => shift k (upd a 1 (iN ((flat A).length + (X'.2.2.2.length + (flat B).length) - 1))) ((flat A).length + R1.length) ((flat A).length + (X'.2.2.2.length + (flat B).length) - 1) (by omega) (by omega) (upd_self _ _ _)
  have c1 : ∀ j, (j < 380 ∨ 500 ≤ j) → j ≠ 1 → dnA (upd a 1 (iN ((flat A).length + (X'.2.2.2.length + (flat B).length) - 1))) (380 + ((flat A).length + R1.length)) ((flat A).length + (X'.2.2.2.length + (flat B).length) - 1 - ((flat A).length + R1.length)) j = a j := fun j hj hj1 => by
    unfold dnA; rw [if_neg (by omega), upd_ne hj1]
  have c2 : dnA (upd a 1 (iN ((flat A).length + (X'.2.2.2.length + (flat B).length) - 1))) (380 + ((flat A).length + R1.length)) ((flat A).length + (X'.2.2.2.length + (flat B).length) - 1 - ((flat A).length + R1.length)) 1 = iN ((flat A).length + (X'.2.2.2.length + (flat B).length) - 1) := by
    unfold dnA; rw [if_neg (by omega), upd_self]
  have del : At (dnA (upd a 1 (iN ((flat A).length + (X'.2.2.2.length + (flat B).length) - 1))) (380 + ((flat A).length + R1.length)) ((flat A).length + (X'.2.2.2.length + (flat B).length) - 1 - ((flat A).length + R1.length))) 380 (flat A ++ R1 ++ (R2 ++ flat B)) := by
    rw [hXr] at h3
    have hat : At (upd a 1 (iN ((flat A).length + (X'.2.2.2.length + (flat B).length) - 1))) 380 ((flat A ++ R1) ++ row :: (R2 ++ flat B)) := by
      refine (show At a 380 ((flat A ++ R1) ++ row :: (R2 ++ flat B)) by simpa [List.append_assoc] using h3).congr (fun j hj1 hj2 => upd_ne (by omega))
    have := At.del hat
    rw [List.length_append, List.length_append, ← dnA_cpy] at this
    rw [show (flat A).length + (X'.2.2.2.length + (flat B).length) - 1 - ((flat A).length + R1.length) = R2.length + (flat B).length by omega]
    exact this
  generalize hc : dnA (upd a 1 (iN ((flat A).length + (X'.2.2.2.length + (flat B).length) - 1))) (380 + ((flat A).length + R1.length)) ((flat A).length + (X'.2.2.2.length + (flat B).length) - 1 - ((flat A).length + R1.length)) = c at *
  have g2 := c1 (540 + 4 * A.length + 1) (by omega) (by omega)
  refine ⟨upd (upd c (540 + 4 * A.length + 1) (iN (X'.2.2.2.length - 1))) (260 + row) (iN 3), ?_, ?_, upd_self _ _ _, fun j hj1 hj2 => ?_⟩
  · unfold f_X8_leaves
    have e8 : a 1 - 1 = iN ((flat A).length + (X'.2.2.2.length + (flat B).length) - 1) := by rw [h2]; exact iN_sub (b := 1) (by omega)
    rw [e4, bnd_some, some_lt, e8, some_jn, hs]
    have e11 : f_X8_of c (iN A.length) (iN 1) = some (iN X'.2.2.2.length) := by
      rw [r_of (by omega) (by omega), g2, h5.2.1]
    have e12 : f_X8_puts c (iN A.length) (iN 1) (iN (X'.2.2.2.length - 1)) = some (upd c (540 + 4 * A.length + 1) (iN (X'.2.2.2.length - 1))) := r_puts (by omega) (by omega)
    simp (disch := omega) only [Nat.add_zero, iN_lit, iN_lt, iN_le, iN_eq, iN_add, iN_mul, iN_sub, iN_nat, iN_div, iN_mod, iN_pred', n1_lt, n1_le, n1_ne, n1_ne', n1_nle, n1_nlt, n1_eq, oobN, some_lt, some_jn, bnd_some, Bool.false_eq_true, if_true, if_false, ite_true, ite_false, ↓reduceIte, ltT, ltF, leT, leF, eqT, eqF, true_and, and_true, false_and, and_false, true_or, or_true, false_or, or_false, not_true_eq_false, not_false_eq_true, if_pos, if_neg, e11, e12]
  · show RX _ (A ++ ((X'.1, X'.2.1, X'.2.2.1, X'.2.2.2.erase row) : Pc) :: B)
    have her : X'.2.2.2.erase row = R1 ++ R2 := by rw [hXr, erase_mid n1]
    rw [her]
    refine RX_app.mpr ⟨?_, ?_, ?_, ?_, ⟨?_, ?_, ?_, ?_⟩, ?_⟩
    · rw [upd_ne (by omega), upd_ne (by omega), c1 _ (by omega) (by omega), h1]
    · rw [upd_ne (by omega), upd_ne (by omega), c2]; simp [hlen]; congr 1; omega
    · refine (show At _ 380 (flat A ++ R1 ++ (R2 ++ flat B)) → _ from fun q => by simpa [List.append_assoc] using q) ?_
      refine del.congr (fun j hj1 hj2 => ?_)
      simp at hj2
      rw [upd_ne (by omega), upd_ne (by omega)]
    · refine h4.congr (fun j hj1 hj2 => ?_)
      rw [enc_length] at hj2
      rw [upd_ne (by omega), upd_ne (by omega), c1 _ (by omega) (by omega)]
    · rw [upd_ne (by omega), upd_ne (by omega), c1 _ (by omega) (by omega)]; exact h5.1
    · rw [upd_ne (by omega), upd_self]; simp [hlen]
    · rw [upd_ne (by omega), upd_ne (by omega), c1 _ (by omega) (by omega)]; exact h5.2.2.1
    · rw [upd_ne (by omega), upd_ne (by omega), c1 _ (by omega) (by omega)]; exact h5.2.2.2
    · refine h6.congr (fun j hj1 hj2 => ?_)
      rw [enc_length] at hj2
      rw [upd_ne (by omega), upd_ne (by omega), c1 _ (by omega) (by omega)]
  · unfold idxR at hj1
    rw [upd_ne (by omega), upd_ne (by omega), c1 _ (by omega) (by omega)]
/-- the pending rows of the reference -/
def RP (a : Nat → Int32) (pe : List Nat) : Prop := a 2 = iN pe.length ∧ At a 500 pe
def penR (j : Nat) : Prop := j = 2 ∨ (500 ≤ j ∧ j < 540)
theorem r_unwaits {L1 L2 : List Nat} {row : Nat} (h : RP a (L1 ++ row :: L2)) (hl : (L1 ++ row :: L2).length ≤ 31) (hN : 1000 < N) :
    ∃ a', f_X8_unwaits N a (iN L1.length) = some a' ∧ RP a' (L1 ++ L2) ∧ ∀ j, ¬ penR j → a' j = a j := by
  obtain ⟨h1, h2⟩ := h
  have hl2 : L1.length + L2.length + 1 ≤ 31 := by simp at hl; omega
  have h1' : a 2 = iN (L1.length + L2.length + 1) := by rw [h1]; simp; congr 1
  have shift : ∀ (k : (Nat → Int32) → Option (Nat → Int32)) (g : Nat → Int32) pl M, pl ≤ M → M ≤ 31 → g 2 = iN M → f_X8_unwaits_12 k N (iN pl) g = k (dnA g (500 + pl) (M - pl)) := by
    intro k g pl M hpl hM hg
    have : ∀ m i, i ≤ M - pl → M - pl - i < m → f_X8_unwaits_12 k m (iN (pl + i)) (dnA g (500 + pl) i) = k (dnA g (500 + pl) (M - pl)) := by
      intro m
      induction m with
      | zero => intro i h1 h2; omega
      | succ m ih =>
        intro i h1 h2
        have hg1 : dnA g (500 + pl) i 2 = iN M := by rw [dnA_lo (by omega)]; exact hg
        rw [f_X8_unwaits_12.eq_2, hg1]
        by_cases h3 : i = M - pl
        · subst h3; simp (disch := omega) only [Nat.add_zero, iN_lit, iN_lt, iN_le, iN_eq, iN_add, iN_mul, iN_sub, iN_nat, iN_div, iN_mod, iN_pred', n1_lt, n1_le, n1_ne, n1_ne', n1_nle, n1_nlt, n1_eq, oobN, some_lt, some_jn, bnd_some, Bool.false_eq_true, if_true, if_false, ite_true, ite_false, ↓reduceIte, ltT, ltF, leT, leF, eqT, eqF, true_and, and_true, false_and, and_false, true_or, or_true, false_or, or_false, not_true_eq_false, not_false_eq_true, if_pos, if_neg]
        · have h4 := ih (i + 1) (by omega) (by omega)
          have h5 := dnA_step (f := g) (q := 500 + pl) (i := i)
          rw [show 500 + pl + i = 500 + (pl + i) by omega] at h5
          simp (disch := omega) only [Nat.add_zero, iN_lit, iN_lt, iN_le, iN_eq, iN_add, iN_mul, iN_sub, iN_nat, iN_div, iN_mod, iN_pred', n1_lt, n1_le, n1_ne, n1_ne', n1_nle, n1_nlt, n1_eq, oobN, some_lt, some_jn, bnd_some, Bool.false_eq_true, if_true, if_false, ite_true, ite_false, ↓reduceIte, ltT, ltF, leT, leF, eqT, eqF, true_and, and_true, false_and, and_false, true_or, or_true, false_or, or_false, not_true_eq_false, not_false_eq_true, if_pos, if_neg, h5]
          exact h4
    have h7 := this N 0 (by omega) (by omega)
    rw [show dnA g (500 + pl) 0 = g by funext j; unfold dnA; rw [if_neg (by omega)]] at h7
    exact h7
  have hs := fun k => shift k (upd a 2 (iN (L1.length + L2.length))) L1.length (L1.length + L2.length) (by omega) (by omega) (upd_self _ _ _)
  rw [Nat.add_sub_cancel_left] at hs
  refine ⟨dnA (upd a 2 (iN (L1.length + L2.length))) (500 + L1.length) L2.length, ?_, ⟨?_, ?_⟩, fun j hj => ?_⟩
  · unfold f_X8_unwaits
    have e8 : a 2 - 1 = iN (L1.length + L2.length) := by rw [h1']; exact iN_sub (b := 1) (by omega)
    rw [e8, some_lt, some_jn, hs]
  · rw [dnA_lo (by omega), upd_self]; simp
  · have hat : At (upd a 2 (iN (L1.length + L2.length))) 500 (L1 ++ row :: L2) := h2.congr (fun j hj1 hj2 => upd_ne (by omega))
    have := At.del hat
    rw [← dnA_cpy] at this
    exact this
  · unfold penR at hj
    unfold dnA; rw [if_neg (by omega), upd_ne (by omega)]
theorem r_waits {pe : List Nat} {row : Nat} (h : RP a pe) (hl : pe.length < 40) :
    ∃ a', f_X8_waits a (iN row) = some a' ∧ RP a' (pe ++ [row]) ∧ ∀ j, ¬ penR j → a' j = a j := by
  obtain ⟨h1, h2⟩ := h
  refine ⟨upd (upd a (500 + pe.length) (iN row)) 2 (iN (pe.length + 1)), ?_, ⟨?_, ?_⟩, fun j hj => ?_⟩
  · unfold f_X8_waits
    have e1 : upd a (500 + pe.length) (iN row) 2 = iN pe.length := by rw [upd_ne (by omega), h1]
    simp (disch := omega) only [Nat.add_zero, iN_lit, iN_lt, iN_le, iN_eq, iN_add, iN_mul, iN_sub, iN_nat, iN_div, iN_mod, iN_pred', n1_lt, n1_le, n1_ne, n1_ne', n1_nle, n1_nlt, n1_eq, oobN, some_lt, some_jn, bnd_some, Bool.false_eq_true, if_true, if_false, ite_true, ite_false, ↓reduceIte, ltT, ltF, leT, leF, eqT, eqF, true_and, and_true, false_and, and_false, true_or, or_true, false_or, or_false, not_true_eq_false, not_false_eq_true, if_pos, if_neg, h1, e1]
  · rw [upd_self]; simp
  · rw [At.append]
    refine ⟨h2.congr (fun j hj1 hj2 => by rw [upd_ne (by omega), upd_ne (by omega)]), ?_⟩
    rw [At.cons]
    exact ⟨by rw [upd_ne (by omega), upd_self], At.nil _ _⟩
  · unfold penR at hj
    rw [upd_ne (by omega), upd_ne (by omega)]
end WX
