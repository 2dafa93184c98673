section CHG5
variable {H N : Nat} {pd tc gv sz pc kc rc : Int32} {nu bo en he so st kn pr se ky ss vs a kept tl : Nat → Int32} {adr : Nat → Nat → Nat} {sav : Nat → CS} {ca : Nat → Nat} {cur : CS}
theorem r_undoLoop {s : Nat} (hs : s ≤ 7) (k : (Nat → Int32) → Option (Int32 × Int32 × Int32 × (Nat → Int32))) :
    ∀ m i, i ≤ 876 → 876 - i < m → f_X8_undo_37 kept (iN s) k m (iN i) (fun j => if j < i then kept (876 * s + j) else a j) = k (fun j => if j < 876 then kept (876 * s + j) else a j) := by
  intro m
  induction m with
  | zero => intro i h1 h2; omega
  | succ m ih =>
    intro i h1 h2
    rw [f_X8_undo_37.eq_2]
    by_cases h3 : i = 876
    · subst h3; simp (disch := omega) only [Nat.add_zero, iN_lit, iN_lt, iN_le, iN_eq, iN_add, iN_mul, iN_sub, iN_nat, iN_div, iN_mod, iN_pred', n1_lt, n1_le, n1_ne, n1_ne', n1_nle, n1_nlt, n1_eq, oobN, some_lt, some_jn, bnd_some, Bool.false_eq_true, if_true, if_false, ite_true, ite_false, ↓reduceIte, ltT, ltF, leT, leF, eqT, eqF, true_and, and_true, false_and, and_false, true_or, or_true, false_or, or_false, not_true_eq_false, not_false_eq_true, if_pos, if_neg]
    · have h4 := ih (i + 1) (by omega) (by omega)
      have h5 : upd (fun j => if j < i then kept (876 * s + j) else a j) i (kept (876 * s + i)) = fun j => if j < i + 1 then kept (876 * s + j) else a j := by
        funext j
        by_cases hj : j = i
        · subst hj; rw [upd_self, if_pos (by omega)]
        · rw [upd_ne hj]
          by_cases hj2 : j < i
          · rw [if_pos hj2, if_pos (by omega)]
          · rw [if_neg hj2, if_neg (by omega)]
      simp (disch := omega) only [Nat.add_zero, iN_lit, iN_lt, iN_le, iN_eq, iN_add, iN_mul, iN_sub, iN_nat, iN_div, iN_mod, iN_pred', n1_lt, n1_le, n1_ne, n1_ne', n1_nle, n1_nlt, n1_eq, oobN, some_lt, some_jn, bnd_some, Bool.false_eq_true, if_true, if_false, ite_true, ite_false, ↓reduceIte, ltT, ltF, leT, leF, eqT, eqF, true_and, and_true, false_and, and_false, true_or, or_true, false_or, or_false, not_true_eq_false, not_false_eq_true, if_pos, if_neg, h5]
      exact h4
theorem m_undo {sc : Nat} (hsc : sc ≤ 8) (hN : 10000 < N) (hsv : SV H sc sav kept) :
    (∃ s a', sc = s + 1 ∧ f_X7_undo (iN sc) adr sav ca cur = some (Sum.inr (iN s, iN s, updN adr s ca, updN sav s cur, adr s, sav s)) ∧ f_X8_undo N (iN sc) a kept = some (iN s, iN s, 0, a') ∧ CR H (sav s) a' ∧ SV H s (updN sav s cur) kept) ∨
    (∃ r, f_X7_undo (iN sc) adr sav ca cur = some (Sum.inl "java/lang/IllegalStateException") ∧ f_X8_undo N (iN sc) a kept = some (r, iN sc, 1, a)) := by
  unfold f_X7_undo f_X8_undo
  rcases Nat.eq_zero_or_pos sc with h0 | h0
  · right
    subst h0
    refine ⟨0, ?_, ?_⟩
    · rw [if_pos (by decide)]
    · simp only [show (iN 0 = 0) = True from eq_true rfl, if_true, some_jn, show ((1 : Int32) ≤ 0) = False from eq_false (by decide), if_false]
  · left
    obtain ⟨s, rfl⟩ : ∃ s, sc = s + 1 := ⟨sc - 1, by omega⟩
    have e1 : (iN (s + 1) : Int32) - 1 = iN s := iN_sub (a := s + 1) (b := 1) (by omega)
    have e2 : (iN (s + 1) ≤ (0 : Int32)) = False := eq_false (by show ¬ iN (s + 1) ≤ iN 0; rw [iN_le (by omega) (by omega)]; omega)
    have e3 : (iN (s + 1) ≤ (8 : Int32)) = True := eq_true (by show iN (s + 1) ≤ iN 8; rw [iN_le (by omega) (by omega)]; omega)
    have e4 : oob (iN s) 8 = False := eq_false (by rw [oobN (by omega)]; omega)
    have e5 : (iN (s + 1) = (0 : Int32)) = False := eq_false (by show ¬ iN (s + 1) = iN 0; rw [iN_eq (by omega) (by omega)]; omega)
    refine ⟨s, fun j => if j < 876 then kept (876 * s + j) else a j, rfl, ?_, ?_, ?_, fun i hi => ?_⟩
    · simp only [e1, e2, e3, e4, if_false, if_true, iN_nat (show s < 2147483648 by omega)]
    · have := r_undoLoop (kept := kept) (a := a) (s := s) (by omega) (fun x => some (iN s, iN s, 0, x)) N 0 (by omega) (by omega)
      simp only [Nat.not_lt_zero, if_false] at this
      simp only [e5, if_false, some_jn, some_lt, e1, show ((0 : Int32) ≤ 0) = True from eq_true (by decide), if_true]
      exact this
    · exact (hsv s (by omega)).ref (fun j hj => by rw [if_pos hj])
    · unfold updN
      rw [if_neg (by omega)]
      exact hsv i (by omega)
theorem m_scan (h : CRx H pd tc gv nu sz pc bo en he so st kc kn pr se rc ky ss vs a) (hN : 1000 < N) (x y w : Int32) :
    (∃ r tl', f_X7_scan N rc ky ss vs tl x y w = some (Sum.inr (r, tl')) ∧ f_X8_scan N a x y w = some (r, 0)) ∨ (∃ r, f_X7_scan N rc ky ss vs tl x y w = some (Sum.inl "java/lang/IllegalArgumentException") ∧ f_X8_scan N a x y w = some (r, 1)) := by
  obtain ⟨n, K, S, V, P, pe, W, k, ⟨s1, s2, s3, s4, s5, s6, s7⟩, ⟨c1, c2, c3, c4, c5, c6, c7, c8, c9⟩, ⟨r1, r2, r3, r4, r5, r6, r7, r8⟩, ⟨b1, b2, b3, b4, b5, b6⟩⟩ := h
  have hn := s1.1.nn
  have e10 : ((1 : Int32) = 0) = False := eq_false (by decide)
  have e01 : ((1 : Int32) ≤ 0) = False := eq_false (by decide)
  have e00 : ((0 : Int32) ≤ 0) = True := eq_true (by decide)
  unfold f_X7_scan f_X8_scan
  rcases span_cases x y with ⟨lo, hi, h1, h2, rfl, rfl, h3, h4⟩ | ⟨h3, h4⟩
  · rcases rng0_cases w 3 (by omega) with ⟨m, g1, rfl, g2, g3⟩ | ⟨g1, g2, g3⟩
    · left
      have g2' : f_X7_checkRange (iN m) 0 3 = some (Sum.inr ()) := g2
      have g3' : f_X8_isIn (iN m) 0 3 = some 1 := g3
      obtain ⟨f', u1, u2⟩ := c_tallyLiving (f := tl) c7 c8 c9 hn hN (show lo ≤ 10000 by omega) h2
      have u3 := r_scans (w := m) r2 r4 r5 r6 hn hN (show lo ≤ 10000 by omega) h2 (by omega) g1
      have u4 : f_X0_numberAt f' (iN m) = some (tyA (scnS n K S V lo hi) m) := by
        obtain ⟨t1, t2, t3, t4⟩ := u2
        have : f' m = tyA (scnS n K S V lo hi) m := by
          unfold tyA
          rcases (show m = 0 ∨ m = 1 ∨ m = 2 ∨ m = 3 by omega) with rfl | rfl | rfl | rfl
          · exact t1
          · exact t2
          · exact t3
          · exact t4
        unfold f_X0_numberAt
        simp (disch := omega) only [Nat.add_zero, iN_lit, iN_lt, iN_le, iN_eq, iN_add, iN_mul, iN_sub, iN_nat, iN_div, iN_mod, iN_pred', n1_lt, n1_le, n1_ne, n1_ne', n1_nle, n1_nlt, n1_eq, oobN, some_lt, some_jn, bnd_some, Bool.false_eq_true, if_true, if_false, ite_true, ite_false, ↓reduceIte, ltT, ltF, leT, leF, eqT, eqF, true_and, and_true, false_and, and_false, true_or, or_true, false_or, or_false, not_true_eq_false, not_false_eq_true, if_pos, if_neg, this]
      refine ⟨tyA (scnS n K S V lo hi) m, f', ?_, ?_⟩
      · rw [h3, c6]
        simp only [bndx, g2', u1, bnd_some, u4, inR]
      · rw [h4]
        simp only [bnd_some, e10, if_false, g3', some_jn, e00, if_true, u3]
    · right
      have g2' : f_X7_checkRange w 0 3 = some (Sum.inl "java/lang/IllegalArgumentException") := g2
      have g3' : f_X8_isIn w 0 3 = some 0 := g3
      refine ⟨0, ?_, ?_⟩
      · rw [h3]
        simp only [bndx, g2']
      · rw [h4]
        simp only [bnd_some, e10, if_false, g3', if_true, some_jn, e01]
  · right
    refine ⟨0, ?_, ?_⟩
    · rw [h3]; rfl
    · rw [h4]
      simp only [bnd_some, if_true, some_jn, e01, if_false]
theorem m_nearest (h : CRx H pd tc gv nu sz pc bo en he so st kc kn pr se rc ky ss vs a) (hN : 1000 < N) (x y : Int32) :
    (∃ r, f_X7_nearest N kc kn x y = some (Sum.inr r) ∧ f_X8_nearest N a x y = some (r, 0)) ∨ (∃ r, f_X7_nearest N kc kn x y = some (Sum.inl "java/lang/IllegalArgumentException") ∧ f_X8_nearest N a x y = some (r, 1)) := by
  obtain ⟨n, K, S, V, P, pe, W, k, ⟨s1, s2, s3, s4, s5, s6, s7⟩, ⟨c1, c2, c3, c4, c5, c6, c7, c8, c9⟩, ⟨r1, r2, r3, r4, r5, r6, r7, r8⟩, ⟨b1, b2, b3, b4, b5, b6⟩⟩ := h
  have e10 : ((1 : Int32) = 0) = False := eq_false (by decide)
  have e01 : ((1 : Int32) ≤ 0) = False := eq_false (by decide)
  have e00 : ((0 : Int32) ≤ 0) = True := eq_true (by decide)
  have cn : ∀ i f, i < k → f < 4 → f_X4_numberAt kn (iN i) (iN f) = some (a (796 + 4 * i + f)) := by
    intro i f hi hf
    have := b5 (4 * i + f) (by omega)
    unfold f_X4_numberAt
    have e : i * 4 + f = 4 * i + f := by omega
    simp (disch := omega) only [Nat.add_zero, iN_lit, iN_lt, iN_le, iN_eq, iN_add, iN_mul, iN_sub, iN_nat, iN_div, iN_mod, iN_pred', n1_lt, n1_le, n1_ne, n1_ne', n1_nle, n1_nlt, n1_eq, oobN, some_lt, some_jn, bnd_some, Bool.false_eq_true, if_true, if_false, ite_true, ite_false, ↓reduceIte, ltT, ltF, leT, leF, eqT, eqF, true_and, and_true, false_and, and_false, true_or, or_true, false_or, or_false, not_true_eq_false, not_false_eq_true, if_pos, if_neg, e, this]
    rw [show 796 + (4 * i + f) = 796 + 4 * i + f by omega]
  have rn : ∀ i f, i < k → f < 4 → f_X8_askedOf a (iN i) (iN f) = some (a (796 + 4 * i + f)) := by
    intro i f hi hf
    unfold f_X8_askedOf
    simp (disch := omega) only [Nat.add_zero, iN_lit, iN_lt, iN_le, iN_eq, iN_add, iN_mul, iN_sub, iN_nat, iN_div, iN_mod, iN_pred', n1_lt, n1_le, n1_ne, n1_ne', n1_nle, n1_nlt, n1_eq, oobN, some_lt, some_jn, bnd_some, Bool.false_eq_true, if_true, if_false, ite_true, ite_false, ↓reduceIte, ltT, ltF, leT, leF, eqT, eqF, true_and, and_true, false_and, and_false, true_or, or_true, false_or, or_false, not_true_eq_false, not_false_eq_true, if_pos, if_neg]
  have loop : ∀ (K1 : Int32 → Option Int32) (K2 : Int32 → Option (Int32 × Int32)) m i x3 x4, i ≤ k → k - i < m → ∃ v, f_X4_nearestTo_8 (iN k) kn x y K1 m x3 x4 (iN i) = K1 v ∧ f_X8_nearest_25 a x y 0 K2 m x3 x4 (iN i) = K2 v := by
    intro K1 K2 m
    induction m with
    | zero => intro i x3 x4 h1 h2; omega
    | succ m ih =>
      intro i x3 x4 h1 h2
      rw [f_X4_nearestTo_8.eq_2, f_X8_nearest_25.eq_2, r8]
      by_cases h3 : i = k
      · subst h3
        exact ⟨x3, by simp (disch := omega) only [Nat.add_zero, iN_lit, iN_lt, iN_le, iN_eq, iN_add, iN_mul, iN_sub, iN_nat, iN_div, iN_mod, iN_pred', n1_lt, n1_le, n1_ne, n1_ne', n1_nle, n1_nlt, n1_eq, oobN, some_lt, some_jn, bnd_some, Bool.false_eq_true, if_true, if_false, ite_true, ite_false, ↓reduceIte, ltT, ltF, leT, leF, eqT, eqF, true_and, and_true, false_and, and_false, true_or, or_true, false_or, or_false, not_true_eq_false, not_false_eq_true, if_pos, if_neg], by simp (disch := omega) only [Nat.add_zero, iN_lit, iN_lt, iN_le, iN_eq, iN_add, iN_mul, iN_sub, iN_nat, iN_div, iN_mod, iN_pred', n1_lt, n1_le, n1_ne, n1_ne', n1_nle, n1_nlt, n1_eq, oobN, some_lt, some_jn, bnd_some, Bool.false_eq_true, if_true, if_false, ite_true, ite_false, ↓reduceIte, ltT, ltF, leT, leF, eqT, eqF, true_and, and_true, false_and, and_false, true_or, or_true, false_or, or_false, not_true_eq_false, not_false_eq_true, if_pos, if_neg]⟩
      · have q0 := cn i 0 (by omega) (by omega)
        have q1 := cn i 1 (by omega) (by omega)
        have p0 := rn i 0 (by omega) (by omega)
        have p1 := rn i 1 (by omega) (by omega)
        generalize a (796 + 4 * i + 0) = lo at q0 p0
        generalize a (796 + 4 * i + 1) = hi at q1 p1
        have hk : (iN k ≤ iN i) = False := eq_false (by rw [iN_le (by omega) (by omega)]; omega)
        have q0' : f_X4_numberAt kn (iN i) 0 = some lo := q0
        have q1' : f_X4_numberAt kn (iN i) 1 = some hi := q1
        have p0' : f_X8_askedOf a (iN i) 0 = some lo := p0
        have p1' : f_X8_askedOf a (iN i) 1 = some hi := p1
        simp only [hk, if_false, if_true, q0', q1', p0', p1', bnd_some, some_lt, some_jn, show iN i + 1 = iN (i + 1) from iN_add i 1]
        have fin : ∀ A B : Int32, ∃ v, (if B - A ≤ x4 then f_X4_nearestTo_8 (iN k) kn x y K1 m x3 x4 (iN (i + 1)) else f_X4_nearestTo_8 (iN k) kn x y K1 m (iN i) (B - A) (iN (i + 1))) = K1 v ∧ (if x4 < B - A then f_X8_nearest_25 a x y 0 K2 m (iN i) (B - A) (iN (i + 1)) else f_X8_nearest_25 a x y 0 K2 m x3 x4 (iN (i + 1))) = K2 v := by
          intro A B
          by_cases c : B - A ≤ x4
          · rw [if_pos c, if_neg (Int32.not_lt.mpr c)]
            exact ih (i + 1) x3 x4 (by omega) (by omega)
          · rw [if_neg c, if_pos (Int32.not_le.mp c)]
            exact ih (i + 1) (iN i) (B - A) (by omega) (by omega)
        by_cases c1 : lo ≤ x
        · have c1' : ¬ x < lo := Int32.not_lt.mpr c1
          by_cases c2 : y ≤ hi
          · have c2' : ¬ hi < y := Int32.not_lt.mpr c2
            simp only [c1, c1', c2, c2', if_true, if_false]
            exact fin x y
          · have c2' : hi < y := Int32.not_le.mp c2
            simp only [c1, c1', c2, c2', if_true, if_false]
            exact fin x hi
        · have c1' : x < lo := Int32.not_le.mp c1
          by_cases c2 : y ≤ hi
          · have c2' : ¬ hi < y := Int32.not_lt.mpr c2
            simp only [c1, c1', c2, c2', if_true, if_false]
            exact fin lo y
          · have c2' : hi < y := Int32.not_le.mp c2
            simp only [c1, c1', c2, c2', if_true, if_false]
            exact fin lo hi
  unfold f_X7_nearest f_X8_nearest f_X4_nearestTo
  rcases span_cases x y with ⟨lo, hi, h1, h2, rfl, rfl, h3, h4⟩ | ⟨h3, h4⟩
  · left
    obtain ⟨v, v1, v2⟩ := loop (fun x => some x) (fun x => some (x, 0)) N 0 (-1) 0 (by omega) (by omega)
    have v1' : f_X4_nearestTo_8 (iN k) kn (iN lo) (iN hi) (fun x => some x) N (-1) 0 0 = some v := v1
    have v2' : f_X8_nearest_25 a (iN lo) (iN hi) 0 (fun x => some (x, 0)) N (-1) 0 0 = some (v, 0) := v2
    refine ⟨v, ?_, ?_⟩
    · rw [h3, c3]
      simp only [bndx, some_jn, v1', bnd_some, inR]
    · rw [h4]
      simp only [bnd_some, e10, if_false, some_jn, e00, if_true, v2']
  · right
    refine ⟨0, ?_, ?_⟩
    · rw [h3]; rfl
    · have : ∀ K2 : Int32 → Option (Int32 × Int32), f_X8_nearest_25 a x y 1 K2 N (-1) 0 0 = K2 (-1) := by
        intro K2
        obtain ⟨m, rfl⟩ : ∃ m, N = m + 1 := ⟨N - 1, by omega⟩
        rw [f_X8_nearest_25.eq_2]
        simp only [e10, if_false, ite_self]
      rw [h4]
      simp only [bnd_some, if_true, some_jn, this, e01, if_false]
end CHG5
