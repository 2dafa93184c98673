section QRY
variable {n N : Nat} {tot : Int32} {P : List Pc} {K S W : Nat → Nat} {V : Nat → Int32} {a mo : Nat → Int32} {lo hi kc : Nat} {un : Int32} {pe : List Nat}
/-- the cells of a query but for the index, the pending rows and the states -/
def qryR (j : Nat) : Prop := mrgR j ∨ (8 ≤ j ∧ j < 19)
theorem r_clear (hN : 1000 < N) (k : (Nat → Int32) → Option (Int32 × (Nat → Int32) × (Nat → Int32))) :
    ∃ a', f_X8_queries_2 k N 0 a = k a' ∧ TN 10 a' ty0 ∧ (a' 14 = iN 0 ∧ a' 15 = iN 0 ∧ a' 16 = iN 0 ∧ a' 17 = iN 0 ∧ a' 18 = iN 0) ∧ ∀ j, (j < 10 ∨ 19 ≤ j) → a' j = a j := by
  have loop := (lpC (F := fun m i x => f_X8_queries_2 k m (iN i) x) (k := k) (g := fun x i => upd x (10 + i) (if i = 2 ∨ i = 3 then -iN 1 else iN 0)) (x0 := a) (e := 9) (I := fun i x => ∀ j, (j < 10 ∨ 10 + i ≤ j) → x j = a j) (fun _ _ => rfl) (fun i x hi hx j hj => by rw [upd_ne (by omega)]; exact hx j (by omega)) (fun m i x hi _ => by
      show f_X8_queries_2 k (m + 1) (iN i) x = _
      rw [f_X8_queries_2.eq_2]
      by_cases h2 : i = 2
      · subst h2; rw [if_pos (Or.inl rfl)]; simp (disch := omega) only [Nat.add_zero, iN_lit, iN_lt, iN_le, iN_eq, iN_add, iN_mul, iN_sub, iN_nat, iN_div, iN_mod, iN_pred', n1_lt, n1_le, n1_ne, n1_ne', n1_nle, n1_nlt, n1_eq, oobN, some_lt, some_jn, bnd_some, Bool.false_eq_true, if_true, if_false, ite_true, ite_false, ↓reduceIte, ltT, ltF, leT, leF, eqT, eqF, true_and, and_true, false_and, and_false, true_or, or_true, false_or, or_false, not_true_eq_false, not_false_eq_true, if_pos, if_neg]
      · by_cases h3 : i = 3
        · subst h3; rw [if_pos (Or.inr rfl)]; simp (disch := omega) only [Nat.add_zero, iN_lit, iN_lt, iN_le, iN_eq, iN_add, iN_mul, iN_sub, iN_nat, iN_div, iN_mod, iN_pred', n1_lt, n1_le, n1_ne, n1_ne', n1_nle, n1_nlt, n1_eq, oobN, some_lt, some_jn, bnd_some, Bool.false_eq_true, if_true, if_false, ite_true, ite_false, ↓reduceIte, ltT, ltF, leT, leF, eqT, eqF, true_and, and_true, false_and, and_false, true_or, or_true, false_or, or_false, not_true_eq_false, not_false_eq_true, if_pos, if_neg]
        · rw [if_neg (show ¬ (i = 2 ∨ i = 3) by omega)]; simp (disch := omega) only [Nat.add_zero, iN_lit, iN_lt, iN_le, iN_eq, iN_add, iN_mul, iN_sub, iN_nat, iN_div, iN_mod, iN_pred', n1_lt, n1_le, n1_ne, n1_ne', n1_nle, n1_nlt, n1_eq, oobN, some_lt, some_jn, bnd_some, Bool.false_eq_true, if_true, if_false, ite_true, ite_false, ↓reduceIte, ltT, ltF, leT, leF, eqT, eqF, true_and, and_true, false_and, and_false, true_or, or_true, false_or, or_false, not_true_eq_false, not_false_eq_true, if_pos, if_neg]) (fun m x _ => by
      show f_X8_queries_2 k (m + 1) (iN 9) x = _
      rw [f_X8_queries_2.eq_2]; simp (disch := omega) only [Nat.add_zero, iN_lit, iN_lt, iN_le, iN_eq, iN_add, iN_mul, iN_sub, iN_nat, iN_div, iN_mod, iN_pred', n1_lt, n1_le, n1_ne, n1_ne', n1_nle, n1_nlt, n1_eq, oobN, some_lt, some_jn, bnd_some, Bool.false_eq_true, if_true, if_false, ite_true, ite_false, ↓reduceIte, ltT, ltF, leT, leF, eqT, eqF, true_and, and_true, false_and, and_false, true_or, or_true, false_or, or_false, not_true_eq_false, not_false_eq_true, if_pos, if_neg]) N (by omega))
  refine ⟨_, loop.1, ⟨?_, ?_, ?_, ?_⟩, ⟨?_, ?_, ?_, ?_, ?_⟩, fun j hj => ?_⟩
  · simp [pfi, upd, ty0]
  · simp [pfi, upd, ty0]; rfl
  · simp [pfi, upd, ty0, oN]
  · simp [pfi, upd, ty0, oN]
  · simp [pfi, upd]
  · simp [pfi, upd]
  · simp [pfi, upd]
  · simp [pfi, upd]
  · simp [pfi, upd]
  · exact loop.2 j (by omega)
theorem r_queries (h : RX a P) (hp : PI n K P) (hsi : SI n S P pe) (hpe : RP a pe) (hk : KY n (fun r => a (20 + r)) K) (hs : ST n (fun r => a (260 + r)) S) (hv : VA n (fun r => a (140 + r)) V) (hse : SE (fun w => a (4 + w)) W) (h8 : a 8 = tot) (h31 : pe.length ≤ 31) (h60 : P.length ≤ 60) (hh : hsum P + 62 < 1073741824) (hlt : lo < hi) (hhi : hi ≤ 10000) (hW : 1 ≤ W 2) (hW2 : W 2 ≤ 60) (hN : 1000 < N) :
    ∃ un' a' mo', f_X8_queries N un a mo (iN lo) (iN hi) = some (un', a', mo') ∧ RX a' (qP6 K S W P pe lo hi) ∧ RP a' (qM K S P pe lo hi).2.2.1 ∧ ST n (fun r => a' (260 + r)) (qM K S P pe lo hi).1 ∧
      (TN 10 a' (qT K S V P pe lo hi) ∧ a' 14 = iN (qC K S W V P pe lo hi) ∧ a' 15 = iN (pe.length - (qM K S P pe lo hi).2.2.1.length) ∧ a' 16 = iN (qE K S P pe lo hi - qF K S P pe lo hi) ∧ a' 17 = iN (qSh K S W P pe lo hi).2.2 ∧ a' 18 = iN (qD K S W P pe lo hi)) ∧
      a' 9 = 1 ∧ a' 8 = tot + iN (qC K S W V P pe lo hi) ∧ ∀ j, ¬ qryR j → a' j = a j := by
  obtain ⟨⟨p1, l1, i1⟩, ⟨p2, l2⟩, ⟨p3, hh3, g3⟩, ⟨p4, g4⟩, p5, p6, l6, s6, i6⟩ := q_ok (W := W) hp hsi h60 hh hlt hhi hW hW2
  have hn := hp.1.nn
  have x4 : a 4 = iN (W 0) := (hse 0 (by omega)).1
  have x5 : a 5 = iN (W 1) := (hse 1 (by omega)).1
  have x6 : a 6 = iN (W 2) := (hse 2 (by omega)).1
  have w0 := (hse 0 (by omega)).2; have w1 := (hse 1 (by omega)).2
  unfold f_X8_queries
  rw [some_jn]
  obtain ⟨a1, c1, c2, ⟨c3, c4, c5, c6, c7⟩, c8⟩ := r_clear (a := a) hN (fun (t_a_38_1 : (Nat → Int32)) => lt (upd t_a_38_1 9 1) (fun t_a_45_3 => bnd2 (f_X8_mergesIn N t_a_45_3 (iN lo) (iN hi)) (fun r49_4 t_a_49_5 => bnd3 (f_X8_cracks N t_a_49_5 mo (iN lo)) (fun r56_7 t_a_56_8 t_moved_56_9 => lt (r49_4 + r56_7) (fun y60_11 => bnd3 (f_X8_cracks N t_a_56_8 t_moved_56_9 (iN hi)) (fun r64_12 t_a_64_13 t_moved_64_14 => lt (y60_11 + r64_12) (fun y68_16 => bnd2 (f_X8_readsPieces N t_a_64_13 (iN lo) (iN hi)) (fun r73_17 t_a_73_18 => lt (y68_16 + r73_17) (fun y77_20 => bnd4 (f_X8_sortsHot N un t_a_73_18 t_moved_64_14 (iN lo) (iN hi)) (fun r82_21 t_unused_82_22 t_a_82_23 t_moved_82_24 => lt (y77_20 + r82_21) (fun y86_26 => jn (fun (k125_28 : (Nat → Int32) → Option (Int32 × (Nat → Int32) × (Nat → Int32))) => f_X8_queries_87 N k125_28 N t_a_82_23) (fun (t_a_125_27 : (Nat → Int32)) => lt (upd t_a_125_27 14 y86_26) (fun t_a_132_29 => lt (upd t_a_132_29 8 ((t_a_132_29 8) + y86_26)) (fun t_a_143_30 => some (t_unused_82_22, t_a_143_30, t_moved_82_24)))))))))))))))
  have f2 : ∀ j, j ≠ 9 → (j < 10 ∨ 19 ≤ j) → upd a1 9 1 j = a j := fun j h1 h2 => by rw [upd_ne h1, c8 j h2]
  have f2b : ∀ j, j ≠ 9 → upd a1 9 1 j = a1 j := fun j h1 => upd_ne h1
  obtain ⟨a3, d1, d2, d3, d4, d5, d6⟩ := r_mergesIn (a := upd a1 9 1) (lo := lo) (hi := hi) (RX.frame h hp.1 (fun j hj => f2 j (by unfold idxR at hj; omega) (by unfold idxR at hj; omega))) hp hsi (RP.frame hpe (by omega) (fun j hj => f2 j (by unfold penR at hj; omega) (by unfold penR at hj; omega))) h31
    (fun x hx => ⟨by show upd a1 9 1 (20 + x) = _; rw [f2 _ (by omega) (by omega)]; exact (hk x hx).1, (hk x hx).2⟩)
    (fun x hx => ⟨by show upd a1 9 1 (260 + x) = _; rw [f2 _ (by omega) (by omega)]; exact (hs x hx).1, (hs x hx).2⟩) (by omega) hhi (by omega) (by rw [f2b 15 (by omega)]; exact c4) hN
  replace d1 : f_X8_mergesIn N (upd a1 9 1) (iN lo) (iN hi) = some (iN (qM K S P pe lo hi).2.2.2, a3) := d1
  replace d2 : RX a3 (qP1 K S P pe lo hi) := d2
  have hk3 : KY n (fun r => a3 (20 + r)) K := fun x hx => ⟨by show a3 (20 + x) = _; rw [d6 _ (by unfold mrgR idxR penR; omega) (by omega), f2 _ (by omega) (by omega)]; exact (hk x hx).1, (hk x hx).2⟩
  obtain ⟨a4, mo4, e1, e2, e3⟩ := r_cracks (mo := mo) (b := lo) (K := K) d2 p1.1 hk3 hN (by omega) (by omega) (HD0_le p1.2.1)
  replace e2 : RX a4 (qP2 K S P pe lo hi) := e2
  have hk4 : KY n (fun r => a4 (20 + r)) K := fun x hx => ⟨by show a4 (20 + x) = _; rw [e3 _ (by unfold idxR; omega)]; exact (hk3 x hx).1, (hk3 x hx).2⟩
  obtain ⟨a5, mo5, g1, g2, g5⟩ := r_cracks (mo := mo4) (b := hi) (K := K) e2 p2.1 hk4 hN hhi l2 (HD0_le p2.2.1)
  replace g2 : RX a5 (qP3 K S P pe lo hi) := g2
  have hk5 : KY n (fun r => a5 (20 + r)) K := fun x hx => ⟨by show a5 (20 + x) = _; rw [g5 _ (by unfold idxR; omega)]; exact (hk4 x hx).1, (hk4 x hx).2⟩
  -- from a5 back to the start
  have b5 : ∀ j, ¬ mrgR j → j ≠ 15 → a5 j = upd a1 9 1 j := fun j h1 h2 => by
    rw [g5 j (fun q => h1 (Or.inl q)), e3 j (fun q => h1 (Or.inl q)), d6 j h1 h2]
  have hv5 : VA n (fun r => a5 (140 + r)) V := fun x hx => by
    show a5 (140 + x) = _
    rw [b5 _ (by unfold mrgR idxR penR; omega) (by omega), f2 _ (by omega) (by omega)]; exact hv x hx
  have hT5 : TN 10 a5 ty0 := by
    obtain ⟨t1, t2, t3, t4⟩ := c2
    have q : ∀ j, 10 ≤ j → j < 14 → a5 j = a1 j := fun j h1 h2 => by rw [b5 j (by unfold mrgR idxR penR; omega) (by omega), f2b j (by omega)]
    exact ⟨by rw [q 10 (by omega) (by omega)]; exact t1, by rw [q 11 (by omega) (by omega)]; exact t2, by rw [q 12 (by omega) (by omega)]; exact t3, by rw [q 13 (by omega) (by omega)]; exact t4⟩
  obtain ⟨a6, j1, j2, j3, j4, j5⟩ := r_readsPieces (lo := lo) (hi := hi) g2 p3 hk5 hv5 g3 (by omega) hhi (by omega) hh3 hT5 (by rw [b5 16 (by unfold mrgR idxR penR; omega) (by omega), f2b 16 (by omega)]; exact c5) hN
  replace j1 : f_X8_readsPieces N a5 (iN lo) (iN hi) = some (iN (qT K S V P pe lo hi).1, a6) := j1
  replace j2 : RX a6 (qP4 K S P pe lo hi) := j2
  replace j3 : TN 10 a6 (qT K S V P pe lo hi) := j3
  have b6 : ∀ j, ¬ mrgR j → (j < 10 ∨ 14 ≤ j) → j ≠ 15 → j ≠ 16 → a6 j = upd a1 9 1 j := fun j h1 h2 h3 h4 => by
    rw [j5 j (fun q => h1 (Or.inl q)) h2 h4, b5 j h1 h3]
  have hk6 : KY n (fun r => a6 (20 + r)) K := fun x hx => ⟨by show a6 (20 + x) = _; rw [j5 _ (by unfold idxR; omega) (by omega) (by omega)]; exact (hk5 x hx).1, (hk5 x hx).2⟩
  obtain ⟨un7, a7, mo7, k1, k2, k3, k4⟩ := r_sortHot (un := un) (mo := mo5) (W := W) (lo := lo) (hi := hi) j2 p4 hk6 g4 (by omega) hhi (by omega)
    (by rw [b6 4 (by unfold mrgR idxR penR; omega) (by omega) (by omega) (by omega), f2 4 (by omega) (by omega)]; exact x4)
    (by rw [b6 5 (by unfold mrgR idxR penR; omega) (by omega) (by omega) (by omega), f2 5 (by omega) (by omega)]; exact x5) w0 w1
    (by rw [b6 17 (by unfold mrgR idxR penR; omega) (by omega) (by omega) (by omega), f2b 17 (by omega)]; exact c6) hN
  replace k1 : f_X8_sortsHot N un a6 mo5 (iN lo) (iN hi) = some (iN (qSh K S W P pe lo hi).2.1, un7, a7, mo7) := k1
  replace k2 : RX a7 (qSh K S W P pe lo hi).1 := k2
  replace k3 : a7 17 = iN (qSh K S W P pe lo hi).2.2 := k3
  have hcost : iN (qM K S P pe lo hi).2.2.2 + iN (divC lo (qP1 K S P pe lo hi)) + iN (divC hi (qP2 K S P pe lo hi)) + iN (qT K S V P pe lo hi).1 + iN (qSh K S W P pe lo hi).2.1 = iN (qC K S W V P pe lo hi) := by
    rw [iN_add, iN_add, iN_add, iN_add]; rfl
  obtain ⟨a8, m1, m2, m3, m4⟩ := r_dropLoop (W := W) k2 p5
    (by rw [k4 6 (by unfold idxR; omega) (by omega), b6 6 (by unfold mrgR idxR penR; omega) (by omega) (by omega) (by omega), f2 6 (by omega) (by omega)]; exact x6) hW (by omega)
    (by rw [k4 18 (by unfold idxR; omega) (by omega), b6 18 (by unfold mrgR idxR penR; omega) (by omega) (by omega) (by omega), f2b 18 (by omega)]; exact c7) hN
    (fun (t_a_125_27 : (Nat → Int32)) => lt (upd t_a_125_27 14 (iN (qC K S W V P pe lo hi))) (fun t_a_132_29 => lt (upd t_a_132_29 8 ((t_a_132_29 8) + (iN (qC K S W V P pe lo hi)))) (fun t_a_143_30 => some (un7, t_a_143_30, mo7))))
  replace m2 : RX a8 (qP6 K S W P pe lo hi) := m2
  replace m3 : a8 18 = iN (qD K S W P pe lo hi) := m3
  have b8 : ∀ j, ¬ mrgR j → (j < 10 ∨ 19 ≤ j) → a8 j = upd a1 9 1 j := fun j h1 h2 => by
    rw [m4 j (fun q => h1 (Or.inl q)) (by omega), k4 j (fun q => h1 (Or.inl q)) (by omega), b6 j h1 (by omega) (by omega) (by omega)]
  have u8 : upd a8 14 (iN (qC K S W V P pe lo hi)) 8 = tot := by
    rw [upd_ne (by omega), b8 8 (by unfold mrgR idxR penR; omega) (by omega), f2 8 (by omega) (by omega), h8]
  have fz : ∀ j, j ≠ 14 → j ≠ 8 → upd (upd a8 14 (iN (qC K S W V P pe lo hi))) 8 (tot + iN (qC K S W V P pe lo hi)) j = a8 j := fun j h1 h2 => by rw [upd_ne h2, upd_ne h1]
  refine ⟨un7, upd (upd a8 14 (iN (qC K S W V P pe lo hi))) 8 (tot + iN (qC K S W V P pe lo hi)), mo7, ?_, RX.frame m2 p6.1 (fun j hj => fz j (by unfold idxR at hj; omega) (by unfold idxR at hj; omega)), ?_, ?_, ⟨?_, ?_, ?_, ?_, ?_, ?_⟩, ?_, upd_self _ _ _, fun j hj => ?_⟩
  · rw [c1]
    simp only [some_lt]
    rw [d1]
    simp only [bnd2]
    rw [e1]
    simp only [bnd3]
    rw [g1]
    simp only [bnd3]
    rw [j1]
    simp only [bnd2]
    rw [k1]
    simp only [bnd4]
    rw [hcost, some_jn]
    refine m1.trans ?_
    simp only [some_lt, u8]
  · have hml : (qM K S P pe lo hi).2.2.1.length ≤ pe.length := msp_len K lo hi pe S P
    refine RP.frame (a := a3) d3 (by show (qM K S P pe lo hi).2.2.1.length ≤ 40; omega) (fun j hj => ?_)
    have hj2 : ¬ idxR j := fun q => idx_pen q hj
    rw [fz j (by unfold penR at hj; omega) (by unfold penR at hj; omega), m4 j hj2 (by unfold penR at hj; omega), k4 j hj2 (by unfold penR at hj; omega), j5 j hj2 (by unfold penR at hj; omega) (by unfold penR at hj; omega), g5 j hj2, e3 j hj2]
  · intro x hx
    refine ⟨?_, (d4 x hx).2⟩
    dsimp only
    rw [fz _ (by omega) (by omega), m4 _ (by unfold idxR; omega) (by omega), k4 _ (by unfold idxR; omega) (by omega), j5 _ (by unfold idxR; omega) (by omega) (by omega), g5 _ (by unfold idxR; omega), e3 _ (by unfold idxR; omega)]
    exact (d4 x hx).1
  · obtain ⟨t1, t2, t3, t4⟩ := j3
    have q : ∀ j, 10 ≤ j → j < 14 → upd (upd a8 14 (iN (qC K S W V P pe lo hi))) 8 (tot + iN (qC K S W V P pe lo hi)) j = a6 j := fun j h1 h2 => by
      rw [fz j (by omega) (by omega), m4 j (by unfold idxR; omega) (by omega), k4 j (by unfold idxR; omega) (by omega)]
    exact ⟨by rw [q 10 (by omega) (by omega)]; exact t1, by rw [q 11 (by omega) (by omega)]; exact t2, by rw [q 12 (by omega) (by omega)]; exact t3, by rw [q 13 (by omega) (by omega)]; exact t4⟩
  · rw [upd_ne (by omega), upd_self]
  · rw [fz 15 (by omega) (by omega), m4 15 (by unfold idxR; omega) (by omega), k4 15 (by unfold idxR; omega) (by omega), j5 15 (by unfold idxR; omega) (by omega) (by omega), g5 15 (by unfold idxR; omega), e3 15 (by unfold idxR; omega)]
    exact d5
  · rw [fz 16 (by omega) (by omega), m4 16 (by unfold idxR; omega) (by omega), k4 16 (by unfold idxR; omega) (by omega), j4]
  · rw [fz 17 (by omega) (by omega), m4 17 (by unfold idxR; omega) (by omega), k3]
  · rw [fz 18 (by omega) (by omega), m3]
  · rw [fz 9 (by omega) (by omega), b8 9 (by unfold mrgR idxR penR; omega) (by omega), upd_self]
  · unfold qryR at hj
    rw [fz j (by omega) (by omega), b8 j (fun q => hj (Or.inl q)) (by omega), f2 j (by omega) (by omega)]
/-- a query is kept -/
theorem r_notes (hkc : kc ≤ 20) (h19 : a 19 = iN kc) (hN : 1000 < N) :
    ∃ a', f_X8_notes N a (iN lo) (iN hi) = some a' ∧ a' 19 = iN (min (kc + 1) 20) ∧ (a' 796 = iN lo ∧ a' 797 = iN hi ∧ a' 798 = a 10 ∧ a' 799 = a 14) ∧ (∀ j, 4 ≤ j → j < 4 * (min (kc + 1) 20) → a' (796 + j) = a (796 + (j - 4))) ∧ ∀ j, j < 796 → j ≠ 19 → a' j = a j := by
  obtain ⟨mn, hmn⟩ : ∃ mn, mn = min kc 19 := ⟨_, rfl⟩
  have hmin : min (kc + 1) 20 = mn + 1 := by omega
  rw [hmin]
  have loop : ∀ k : (Nat → Int32) → Option (Nat → Int32), f_X8_notes_36 k N (iN (796 + 4 * mn - 1)) a = k (up4 a (796 + 4 * mn - 1) (4 * mn)) := by
    intro k
    have : ∀ m i, i ≤ 4 * mn → 4 * mn - i < m → f_X8_notes_36 k m (iN (796 + 4 * mn - 1 - i)) (up4 a (796 + 4 * mn - 1) i) = k (up4 a (796 + 4 * mn - 1) (4 * mn)) := by
      intro m
      induction m with
      | zero => intro i h1 h2; omega
      | succ m ih =>
        intro i h1 h2
        rw [f_X8_notes_36.eq_2]
        by_cases h8 : i = 4 * mn
        · subst h8
          have e : 796 + 4 * mn - 1 - 4 * mn = 795 := by omega
          rw [e]; simp (disch := omega) only [Nat.add_zero, iN_lit, iN_lt, iN_le, iN_eq, iN_add, iN_mul, iN_sub, iN_nat, iN_div, iN_mod, iN_pred', n1_lt, n1_le, n1_ne, n1_ne', n1_nle, n1_nlt, n1_eq, oobN, some_lt, some_jn, bnd_some, Bool.false_eq_true, if_true, if_false, ite_true, ite_false, ↓reduceIte, ltT, ltF, leT, leF, eqT, eqF, true_and, and_true, false_and, and_false, true_or, or_true, false_or, or_false, not_true_eq_false, not_false_eq_true, if_pos, if_neg]
        · have ih := ih (i + 1) (by omega) (by omega)
          have e9 := up4_step (f := a) (M := 796 + 4 * mn - 1) (i := i) (by omega)
          rw [show 796 + 4 * mn - 1 + 4 - i = 796 + 4 * mn - 1 - i + 4 by omega] at e9
          rw [show iN (796 + 4 * mn - 1 - i) + (-1) = iN (796 + 4 * mn - 1 - (i + 1)) from (iN_pred (by omega)).trans (by congr 1)]
          simp (disch := omega) only [Nat.add_zero, iN_lit, iN_lt, iN_le, iN_eq, iN_add, iN_mul, iN_sub, iN_nat, iN_div, iN_mod, iN_pred', n1_lt, n1_le, n1_ne, n1_ne', n1_nle, n1_nlt, n1_eq, oobN, some_lt, some_jn, bnd_some, Bool.false_eq_true, if_true, if_false, ite_true, ite_false, ↓reduceIte, ltT, ltF, leT, leF, eqT, eqF, true_and, and_true, false_and, and_false, true_or, or_true, false_or, or_false, not_true_eq_false, not_false_eq_true, if_pos, if_neg, e9]
          exact ih
    have := this N 0 (by omega) (by omega)
    rw [up4_zero] at this
    exact this
  have t0 : ∀ j, j < 800 → up4 a (796 + 4 * mn - 1) (4 * mn) j = a j := fun j hj => by unfold up4; rw [if_neg (by omega)]
  have t1 : ∀ j, 4 ≤ j → j < 4 * (mn + 1) → up4 a (796 + 4 * mn - 1) (4 * mn) (796 + j) = a (796 + (j - 4)) := fun j h1 h2 => by
    unfold up4; rw [if_pos (by omega)]; congr 1; omega
  generalize hb : up4 a (796 + 4 * mn - 1) (4 * mn) = b at loop t0 t1
  refine ⟨upd (upd (upd (upd (upd b 19 (iN (mn + 1))) 796 (iN lo)) 797 (iN hi)) 798 (a 10)) 799 (a 14), ?_, ?_, ⟨?_, ?_, ?_, ?_⟩, fun j h1 h2 => ?_, fun j h1 h2 => ?_⟩
  · have tail : ∀ k2 : Int32 → Option (Nat → Int32), k2 = (fun (s0_24_1 : Int32) => lt ((796 + (4 * s0_24_1)) - 1) (fun y34_3 => jn (fun (k66_5 : (Nat → Int32) → Option (Nat → Int32)) => f_X8_notes_36 k66_5 N y34_3 a) (fun (t_a_66_4 : (Nat → Int32)) => lt (upd t_a_66_4 19 (s0_24_1 + 1)) (fun t_a_75_6 => lt (upd t_a_75_6 796 (iN lo)) (fun t_a_84_7 => lt (upd t_a_84_7 797 (iN hi)) (fun t_a_93_8 => lt (upd t_a_93_8 798 (t_a_93_8 10)) (fun t_a_108_9 => lt (upd t_a_108_9 799 (t_a_108_9 14)) (fun t_a_123_10 => some (t_a_123_10))))))))) → k2 (iN mn) = some (upd (upd (upd (upd (upd b 19 (iN (mn + 1))) 796 (iN lo)) 797 (iN hi)) 798 (a 10)) 799 (a 14)) := by
      intro k2 hk2
      subst hk2
      have e1 : (796 : Int32) + 4 * iN mn - 1 = iN (796 + 4 * mn - 1) := by simp (disch := omega) only [Nat.add_zero, iN_lit, iN_lt, iN_le, iN_eq, iN_add, iN_mul, iN_sub, iN_nat, iN_div, iN_mod, iN_pred', n1_lt, n1_le, n1_ne, n1_ne', n1_nle, n1_nlt, n1_eq, oobN, some_lt, some_jn, bnd_some, Bool.false_eq_true, if_true, if_false, ite_true, ite_false, ↓reduceIte, ltT, ltF, leT, leF, eqT, eqF, true_and, and_true, false_and, and_false, true_or, or_true, false_or, or_false, not_true_eq_false, not_false_eq_true, if_pos, if_neg]
      have e2 : upd (upd (upd b 19 (iN (mn + 1))) 796 (iN lo)) 797 (iN hi) 10 = a 10 := by rw [upd_ne (by omega), upd_ne (by omega), upd_ne (by omega), t0 10 (by omega)]
      have e3 : upd (upd (upd (upd b 19 (iN (mn + 1))) 796 (iN lo)) 797 (iN hi)) 798 (a 10) 14 = a 14 := by rw [upd_ne (by omega), upd_ne (by omega), upd_ne (by omega), upd_ne (by omega), t0 14 (by omega)]
      have e4 : iN mn + 1 = iN (mn + 1) := iN_add _ 1
      simp only [some_lt, some_jn, e1, loop, e4, e2, e3]
    have t2 := tail _ rfl
    unfold f_X8_notes
    rw [some_jn, h19]
    by_cases hge : 20 ≤ kc
    · have e5 : ((20 : Int32) ≤ iN kc) = True := eq_true (by show iN 20 ≤ iN kc; rw [iN_le (by omega) (by omega)]; exact hge)
      rw [show mn = 19 by omega] at t2
      simp only [e5, if_true]
      rw [show mn = 19 by omega]
      exact t2
    · have e5 : ((20 : Int32) ≤ iN kc) = False := eq_false (by show ¬ iN 20 ≤ iN kc; rw [iN_le (by omega) (by omega)]; exact hge)
      rw [show mn = kc by omega] at t2
      simp only [e5, if_false]
      rw [show mn = kc by omega]
      exact t2
  · rw [upd_ne (by omega), upd_ne (by omega), upd_ne (by omega), upd_ne (by omega), upd_self]
  · rw [upd_ne (by omega), upd_ne (by omega), upd_ne (by omega), upd_self]
  · rw [upd_ne (by omega), upd_ne (by omega), upd_self]
  · rw [upd_ne (by omega), upd_self]
  · rw [upd_self]
  · rw [upd_ne (by omega), upd_ne (by omega), upd_ne (by omega), upd_ne (by omega), upd_ne (by omega), t1 j h1 h2]
  · rw [upd_ne (by omega), upd_ne (by omega), upd_ne (by omega), upd_ne (by omega), upd_ne (by omega), t0 j (by omega)]
end QRY
