section ASK
variable {n N : Nat} {sz pc tot : Int32} {en bo he so st ky ss vs nu se pr kn : Nat → Int32} {P : List Pc} {K S W : Nat → Nat} {V : Nat → Int32} {a mo : Nat → Int32} {lo hi kc : Nat} {un : Int32} {pe : List Nat}
theorem c_kadd {p1 p2 p3 p4 : Int32} (hk : kc ≤ 20) : ∃ kn', f_X4_add (iN kc) kn p1 p2 p3 p4 = some (iN (min (kc + 1) 20), kn') ∧ kn' 0 = p1 ∧ kn' 1 = p2 ∧ kn' 2 = p3 ∧ kn' 3 = p4 ∧ ∀ j, 4 ≤ j → j < 80 → kn' j = kn (j - 4) := by
  refine ⟨upd (upd (upd (upd (va_cpy kn kn 0 4 76) 0 p1) 1 p2) 2 p3) 3 p4, ?_, ?_, ?_, ?_, ?_, fun j h1 h2 => ?_⟩
  · unfold f_X4_add
    by_cases h : kc + 1 ≤ 20
    · rw [Nat.min_eq_left h]; simp (disch := omega) only [Nat.add_zero, iN_lit, iN_lt, iN_le, iN_eq, iN_add, iN_mul, iN_sub, iN_nat, iN_div, iN_mod, iN_pred', n1_lt, n1_le, n1_ne, n1_ne', n1_nle, n1_nlt, n1_eq, oobN, some_lt, some_jn, bnd_some, Bool.false_eq_true, if_true, if_false, ite_true, ite_false, ↓reduceIte, ltT, ltF, leT, leF, eqT, eqF, true_and, and_true, false_and, and_false, true_or, or_true, false_or, or_false, not_true_eq_false, not_false_eq_true, if_pos, if_neg]
    · rw [Nat.min_eq_right (by omega)]; simp (disch := omega) only [Nat.add_zero, iN_lit, iN_lt, iN_le, iN_eq, iN_add, iN_mul, iN_sub, iN_nat, iN_div, iN_mod, iN_pred', n1_lt, n1_le, n1_ne, n1_ne', n1_nle, n1_nlt, n1_eq, oobN, some_lt, some_jn, bnd_some, Bool.false_eq_true, if_true, if_false, ite_true, ite_false, ↓reduceIte, ltT, ltF, leT, leF, eqT, eqF, true_and, and_true, false_and, and_false, true_or, or_true, false_or, or_false, not_true_eq_false, not_false_eq_true, if_pos, if_neg]
  · rw [upd_ne (by omega), upd_ne (by omega), upd_ne (by omega), upd_self]
  · rw [upd_ne (by omega), upd_ne (by omega), upd_self]
  · rw [upd_ne (by omega), upd_self]
  · rw [upd_self]
  · rw [upd_ne (by omega), upd_ne (by omega), upd_ne (by omega), upd_ne (by omega)]
    unfold va_cpy; rw [if_pos (by omega)]; congr 1; omega
theorem c_ask (h : IX sz pc en bo he so st P) (hp : PI n K P) (hsi : SI n S P pe) (hk : KY n ky K) (hs : ST n ss S) (hv : VA n vs V) (hse : SE se W) (hpr : At pr 0 pe) (h31 : pe.length ≤ 31) (hkc : kc ≤ 20) (h60 : P.length ≤ 60) (hh : hsum P + 62 < 1073741824) (hlt : lo < hi) (hhi : hi ≤ 10000) (hW : 1 ≤ W 2) (hW2 : W 2 ≤ 60) (hN : 1000 < N) :
    ∃ sz' pc' bo' en' he' so' st' pr' ss' nu' kn', f_X2_ask N (iN pe.length) tot nu sz pc bo en he so st (iN kc) kn pr se ky ss vs (iN lo) (iN hi) = some (iN (qM K S P pe lo hi).2.2.1.length, tot + iN (qC K S W V P pe lo hi), 1, nu', sz', pc', bo', en', he', so', st', iN (min (kc + 1) 20), kn', pr', ss') ∧
      IX sz' pc' en' bo' he' so' st' (qP6 K S W P pe lo hi) ∧ At pr' 0 (qM K S P pe lo hi).2.2.1 ∧ ST n ss' (qM K S P pe lo hi).1 ∧
      (TN 0 nu' (qT K S V P pe lo hi) ∧ nu' 4 = iN (qC K S W V P pe lo hi) ∧ nu' 5 = iN (pe.length - (qM K S P pe lo hi).2.2.1.length) ∧ nu' 6 = iN (qE K S P pe lo hi - qF K S P pe lo hi) ∧ nu' 7 = iN (qSh K S W P pe lo hi).2.2 ∧ nu' 8 = iN (qD K S W P pe lo hi)) ∧
      (kn' 0 = iN lo ∧ kn' 1 = iN hi ∧ kn' 2 = iN (qT K S V P pe lo hi).1 ∧ kn' 3 = iN (qC K S W V P pe lo hi) ∧ ∀ j, 4 ≤ j → j < 80 → kn' j = kn (j - 4)) := by
  obtain ⟨⟨p1, l1, i1⟩, ⟨p2, l2⟩, ⟨p3, hh3, g3⟩, ⟨p4, g4⟩, p5, p6, l6, s6, i6⟩ := q_ok (W := W) hp hsi h60 hh hlt hhi hW hW2
  obtain ⟨nu1, a1, a2, a3⟩ := c_clear0 (f := nu) hN
  obtain ⟨sz1, en1, st1, pr1, ss1, b1, b2, b3, b4⟩ := c_mergeSpan h hp hsi hk hs hpr h31 (show lo ≤ 10000 by omega) hhi hN
  have hml : (qM K S P pe lo hi).2.2.1.length ≤ pe.length := msp_len K lo hi pe S P
  replace b1 : f_X2_mergeSpan N (iN pe.length) sz pc bo en so st pr ky ss (iN lo) (iN hi) = some (iN (qM K S P pe lo hi).2.2.2, iN (qM K S P pe lo hi).2.2.1.length, sz1, en1, st1, pr1, ss1) := b1
  replace b2 : IX sz1 pc en1 bo he so st1 (qP1 K S P pe lo hi) := b2
  obtain ⟨pc2, bo2, en2, he2, so2, st2, c1, c2⟩ := c_divideAt (b := lo) (K := K) b2 p1.1 hk hN (by omega) (by omega)
  replace c2 : IX sz1 pc2 en2 bo2 he2 so2 st2 (qP2 K S P pe lo hi) := c2
  obtain ⟨pc3, bo3, en3, he3, so3, st3, d1, d2⟩ := c_divideAt (b := hi) (K := K) c2 p2.1 hk hN hhi l2
  replace d2 : IX sz1 pc3 en3 bo3 he3 so3 st3 (qP3 K S P pe lo hi) := d2
  have e1 : f_X3_pieceFor N pc3 bo3 (iN lo) = some (iN (qF K S P pe lo hi)) := c_pieceFor' (key := lo) d2 p3.1 (by omega) hN
  have e2 : f_X3_pieceFor N pc3 bo3 (iN hi) = some (iN (qE K S P pe lo hi)) := c_pieceFor' (key := hi) d2 p3.1 (by omega) hN
  have hT0 : TN 0 (upd nu1 5 (iN (pe.length - (qM K S P pe lo hi).2.2.1.length))) ty0 := by
    obtain ⟨t1, t2, t3, t4⟩ := a2
    exact ⟨by rw [upd_ne (by omega)]; exact t1, by rw [upd_ne (by omega)]; exact t2, by rw [upd_ne (by omega)]; exact t3, by rw [upd_ne (by omega)]; exact t4⟩
  obtain ⟨nu2, he4, f1, f2, f3, f4, f5⟩ := c_readPieces (nu := upd nu1 5 (iN (pe.length - (qM K S P pe lo hi).2.2.1.length))) (f := qF K S P pe lo hi) (e := qE K S P pe lo hi) d2 p3 hk hv g3.1 (by have := g3.2.1; omega) hh3 hT0 hN
  replace f2 : IX sz1 pc3 en3 bo3 he4 so3 st3 (qP4 K S P pe lo hi) := f2
  replace f3 : TN 0 nu2 (qT K S V P pe lo hi) := f3
  obtain ⟨en4, so4, g1, g2⟩ := c_sortHot (nu := nu2) (W := W) (f := qF K S P pe lo hi) (e := qE K S P pe lo hi) f2 p4 hk hse g4.1 (by have := g4.2.1; omega) hN
  replace g1 : f_X2_sortHotPieces N nu2 sz1 pc3 en3 he4 so3 st3 se ky (iN (qF K S P pe lo hi)) (iN (qE K S P pe lo hi)) = some (iN (qSh K S W P pe lo hi).2.1, upd nu2 7 (iN (qSh K S W P pe lo hi).2.2), en4, so4) := g1
  replace g2 : IX sz1 pc3 en4 bo3 he4 so4 st3 (qSh K S W P pe lo hi).1 := g2
  obtain ⟨pc5, bo5, he5, so5, st5, j1, j2⟩ := c_dropBounds (nu := upd nu2 7 (iN (qSh K S W P pe lo hi).2.2)) g2 p5 hse hW hN
  replace j1 : f_X2_dropBounds N (upd nu2 7 (iN (qSh K S W P pe lo hi).2.2)) pc3 bo3 he4 so4 st3 se = some (upd (upd nu2 7 (iN (qSh K S W P pe lo hi).2.2)) 8 (iN (qD K S W P pe lo hi)), pc5, bo5, he5, so5, st5) := j1
  replace j2 : IX sz1 pc5 en4 bo5 he5 so5 st5 (qP6 K S W P pe lo hi) := j2
  have hf0 : f_X0_numberAt nu2 0 = some (iN (qT K S V P pe lo hi).1) := by
    rw [show (0 : Int32) = iN 0 from rfl, c_numberAt (by omega)]
    rw [show nu2 0 = iN (qT K S V P pe lo hi).1 from f3.1]
  have m5 : f_X0_putNumber nu1 5 (iN pe.length - iN (qM K S P pe lo hi).2.2.1.length) = some (upd nu1 5 (iN (pe.length - (qM K S P pe lo hi).2.2.1.length))) := by
    rw [iN_sub hml]; exact c_putNumber (w := 5) (by omega)
  have m4 : f_X0_putNumber (upd (upd nu2 7 (iN (qSh K S W P pe lo hi).2.2)) 8 (iN (qD K S W P pe lo hi))) 4 (iN (qC K S W V P pe lo hi)) = some (upd (upd (upd nu2 7 (iN (qSh K S W P pe lo hi).2.2)) 8 (iN (qD K S W P pe lo hi))) 4 (iN (qC K S W V P pe lo hi))) := c_putNumber (w := 4) (by omega)
  have m0 : f_X0_numberAt (upd (upd (upd nu2 7 (iN (qSh K S W P pe lo hi).2.2)) 8 (iN (qD K S W P pe lo hi))) 4 (iN (qC K S W V P pe lo hi))) 0 = some (iN (qT K S V P pe lo hi).1) := by
    rw [show (0 : Int32) = iN 0 from rfl, c_numberAt (by omega), upd_ne (by omega), upd_ne (by omega), upd_ne (by omega)]
    rw [show nu2 0 = iN (qT K S V P pe lo hi).1 from f3.1]
  obtain ⟨kn', k1, k2, k3, k4, k5, k6⟩ := c_kadd (kn := kn) (p1 := iN lo) (p2 := iN hi) (p3 := iN (qT K S V P pe lo hi).1) (p4 := iN (qC K S W V P pe lo hi)) hkc
  have hcost : iN (qM K S P pe lo hi).2.2.2 + iN (divC lo (qP1 K S P pe lo hi)) + iN (divC hi (qP2 K S P pe lo hi)) + iN (qT K S V P pe lo hi).1 + iN (qSh K S W P pe lo hi).2.1 = iN (qC K S W V P pe lo hi) := by
    rw [iN_add, iN_add, iN_add, iN_add]; rfl
  refine ⟨sz1, pc5, bo5, en4, he5, so5, st5, pr1, ss1, upd (upd (upd nu2 7 (iN (qSh K S W P pe lo hi).2.2)) 8 (iN (qD K S W P pe lo hi))) 4 (iN (qC K S W V P pe lo hi)), kn', ?_, j2, b3, b4, ⟨?_, ?_, ?_, ?_, ?_, ?_⟩, k2, k3, k4, k5, k6⟩
  · unfold f_X2_ask
    rw [a1, bnd_some, b1]
    simp only [bnd7]
    rw [m5, bnd_some, c1]
    simp only [bnd7, some_lt]
    rw [d1]
    simp only [bnd7, some_lt]
    rw [e1, bnd_some, e2, bnd_some, f1]
    simp only [bnd2]
    rw [hf0, bnd_some, g1]
    simp only [bnd4]
    rw [hcost, j1]
    simp only [bnd6]
    rw [m4, bnd_some, m0, bnd_some, k1]
  · obtain ⟨t1, t2, t3, t4⟩ := f3
    exact ⟨by rw [upd_ne (by omega), upd_ne (by omega), upd_ne (by omega)]; exact t1, by rw [upd_ne (by omega), upd_ne (by omega), upd_ne (by omega)]; exact t2, by rw [upd_ne (by omega), upd_ne (by omega), upd_ne (by omega)]; exact t3, by rw [upd_ne (by omega), upd_ne (by omega), upd_ne (by omega)]; exact t4⟩
  · rw [upd_self]
  · rw [upd_ne (by omega), upd_ne (by omega), upd_ne (by omega), f5 5 (by omega) (by omega), upd_self]
  · rw [upd_ne (by omega), upd_ne (by omega), upd_ne (by omega), f4]
  · rw [upd_ne (by omega), upd_ne (by omega), upd_self]
  · rw [upd_ne (by omega), upd_self]
end ASK
