theorem nneg_iN {x : Int32} (h : 0 ≤ x) : ∃ m, m < 2147483648 ∧ x = iN m := by
  have h1 : 0 ≤ x.toInt := by have := Int32.le_iff_toInt_le.mp h; exact this
  have h2 : x.toInt < 2147483648 := x.toInt_lt
  refine ⟨x.toInt.toNat, by omega, ?_⟩
  rw [← Int32.toInt_inj, iN_toInt (by omega)]; omega
/-- a range on both sides -/
theorem rng_cases (x l h : Int32) : (l ≤ x ∧ x ≤ h ∧ f_X7_checkRange x l h = some (Sum.inr ()) ∧ f_X8_isIn x l h = some 1) ∨ (f_X7_checkRange x l h = some (Sum.inl "java/lang/IllegalArgumentException") ∧ f_X8_isIn x l h = some 0) := by
  unfold f_X7_checkRange f_X8_isIn
  by_cases h1 : x < l
  · right; simp [h1]
  · have h2 : l ≤ x := Int32.not_lt.mp h1
    by_cases h3 : x ≤ h
    · left
      have h4 : ¬ h < x := Int32.not_lt.mpr h3
      simp [h1, h2, h3, h4, inR]
    · right
      have h4 : h < x := Int32.not_le.mp h3
      simp [h1, h3, h4]
theorem rng0_cases (x : Int32) (c : Nat) (hc : c < 2147483648) : (∃ m, m ≤ c ∧ x = iN m ∧ f_X7_checkRange x 0 (iN c) = some (Sum.inr ()) ∧ f_X8_isIn x 0 (iN c) = some 1) ∨ ((∀ m, m ≤ c → x ≠ iN m) ∧ f_X7_checkRange x 0 (iN c) = some (Sum.inl "java/lang/IllegalArgumentException") ∧ f_X8_isIn x 0 (iN c) = some 0) := by
  rcases rng_cases x 0 (iN c) with ⟨h1, h2, h3, h4⟩ | ⟨h3, h4⟩
  · left
    obtain ⟨m, hm, rfl⟩ := nneg_iN h1
    exact ⟨m, (iN_le hm hc).mp h2, rfl, h3, h4⟩
  · right
    refine ⟨fun m hm e => ?_, h3, h4⟩
    subst e
    have := r_isIn (v := m) (lo := 0) (hi := c) (by omega) (by omega) hc
    rw [if_pos (by omega)] at this
    rw [show f_X8_isIn (iN m) 0 (iN c) = some 1 from this] at h4
    exact absurd h4 (by decide)
theorem idx_cases (x : Int32) (c : Nat) (hc : c < 2147483648) : (∃ m, m < c ∧ x = iN m ∧ f_X7_checkIndex x (iN c) = some (Sum.inr ()) ∧ f_X8_isIn x 0 (iN c - 1) = some 1) ∨ ((∀ m, m < c → x ≠ iN m) ∧ f_X7_checkIndex x (iN c) = some (Sum.inl "java/lang/IndexOutOfBoundsException") ∧ f_X8_isIn x 0 (iN c - 1) = some 0) := by
  by_cases h0 : x < 0
  · right
    refine ⟨fun m hm e => ?_, ?_, ?_⟩
    · subst e; exact iN_nneg (by omega) h0
    · unfold f_X7_checkIndex; simp [h0]
    · unfold f_X8_isIn; simp [h0]
  · obtain ⟨m, hm, rfl⟩ := nneg_iN (Int32.not_lt.mp h0)
    by_cases h1 : m < c
    · left
      refine ⟨m, h1, rfl, ?_, ?_⟩
      · unfold f_X7_checkIndex; simp (disch := omega) only [Nat.add_zero, iN_lit, iN_lt, iN_le, iN_eq, iN_add, iN_mul, iN_sub, iN_nat, iN_div, iN_mod, iN_pred', n1_lt, n1_le, n1_ne, n1_ne', n1_nle, n1_nlt, n1_eq, oobN, some_lt, some_jn, bnd_some, Bool.false_eq_true, if_true, if_false, ite_true, ite_false, ↓reduceIte, ltT, ltF, leT, leF, eqT, eqF, true_and, and_true, false_and, and_false, true_or, or_true, false_or, or_false, not_true_eq_false, not_false_eq_true, if_pos, if_neg]; rfl
      · unfold f_X8_isIn; simp (disch := omega) only [Nat.add_zero, iN_lit, iN_lt, iN_le, iN_eq, iN_add, iN_mul, iN_sub, iN_nat, iN_div, iN_mod, iN_pred', n1_lt, n1_le, n1_ne, n1_ne', n1_nle, n1_nlt, n1_eq, oobN, some_lt, some_jn, bnd_some, Bool.false_eq_true, if_true, if_false, ite_true, ite_false, ↓reduceIte, ltT, ltF, leT, leF, eqT, eqF, true_and, and_true, false_and, and_false, true_or, or_true, false_or, or_false, not_true_eq_false, not_false_eq_true, if_pos, if_neg]
    · right
      refine ⟨fun q hq e => ?_, ?_, ?_⟩
      · rw [iN_eq hm (by omega)] at e; omega
      · unfold f_X7_checkIndex; simp (disch := omega) only [Nat.add_zero, iN_lit, iN_lt, iN_le, iN_eq, iN_add, iN_mul, iN_sub, iN_nat, iN_div, iN_mod, iN_pred', n1_lt, n1_le, n1_ne, n1_ne', n1_nle, n1_nlt, n1_eq, oobN, some_lt, some_jn, bnd_some, Bool.false_eq_true, if_true, if_false, ite_true, ite_false, ↓reduceIte, ltT, ltF, leT, leF, eqT, eqF, true_and, and_true, false_and, and_false, true_or, or_true, false_or, or_false, not_true_eq_false, not_false_eq_true, if_pos, if_neg]
      · unfold f_X8_isIn
        rcases Nat.eq_zero_or_pos c with rfl | hc0
        · have e : iN 0 - 1 = -iN 1 := iN_subn (b := 1) (by omega)
          rw [e]; simp (disch := omega) only [Nat.add_zero, iN_lit, iN_lt, iN_le, iN_eq, iN_add, iN_mul, iN_sub, iN_nat, iN_div, iN_mod, iN_pred', n1_lt, n1_le, n1_ne, n1_ne', n1_nle, n1_nlt, n1_eq, oobN, some_lt, some_jn, bnd_some, Bool.false_eq_true, if_true, if_false, ite_true, ite_false, ↓reduceIte, ltT, ltF, leT, leF, eqT, eqF, true_and, and_true, false_and, and_false, true_or, or_true, false_or, or_false, not_true_eq_false, not_false_eq_true, if_pos, if_neg]
        · simp (disch := omega) only [Nat.add_zero, iN_lit, iN_lt, iN_le, iN_eq, iN_add, iN_mul, iN_sub, iN_nat, iN_div, iN_mod, iN_pred', n1_lt, n1_le, n1_ne, n1_ne', n1_nle, n1_nlt, n1_eq, oobN, some_lt, some_jn, bnd_some, Bool.false_eq_true, if_true, if_false, ite_true, ite_false, ↓reduceIte, ltT, ltF, leT, leF, eqT, eqF, true_and, and_true, false_and, and_false, true_or, or_true, false_or, or_false, not_true_eq_false, not_false_eq_true, if_pos, if_neg]
theorem span_cases (x y : Int32) : (∃ l h, l < h ∧ h ≤ 10000 ∧ x = iN l ∧ y = iN h ∧ f_X7_checkSpan x y = some (Sum.inr ()) ∧ f_X8_isSpan x y = some 1) ∨ (f_X7_checkSpan x y = some (Sum.inl "java/lang/IllegalArgumentException") ∧ f_X8_isSpan x y = some 0) := by
  unfold f_X7_checkSpan f_X8_isSpan
  rcases rng0_cases x 9999 (by omega) with ⟨l, h1, rfl, h2, h3⟩ | ⟨_, h2, h3⟩
  · have h2' : f_X7_checkRange (iN l) 0 9999 = some (Sum.inr ()) := h2
    have h3' : f_X8_isIn (iN l) 0 9999 = some 1 := h3
    simp only [h2', h3', bndx, bnd_some, show ((1 : Int32) = 0) = False from eq_false (by decide), if_false, show iN l + 1 = iN (l + 1) from iN_add _ 1]
    by_cases h4 : y < iN (l + 1)
    · right
      have h5 : y ≤ iN l := by
        rw [Int32.le_iff_toInt_le, iN_toInt (by omega)]
        rw [Int32.lt_iff_toInt_lt, iN_toInt (by omega)] at h4; omega
      unfold f_X7_checkRange
      simp [h4, h5]
    · have h5 : iN (l + 1) ≤ y := Int32.not_lt.mp h4
      have h6 : 0 ≤ y := Int32.le_trans (show (0 : Int32) ≤ iN (l + 1) from (iN_le (a := 0) (by omega) (by omega)).mpr (by omega)) h5
      obtain ⟨h, hh, rfl⟩ := nneg_iN h6
      rw [iN_le (by omega) hh] at h5
      by_cases h7 : h ≤ 10000
      · left
        refine ⟨l, h, by omega, h7, rfl, rfl, ?_, ?_⟩
        · unfold f_X7_checkRange; simp (disch := omega) only [Nat.add_zero, iN_lit, iN_lt, iN_le, iN_eq, iN_add, iN_mul, iN_sub, iN_nat, iN_div, iN_mod, iN_pred', n1_lt, n1_le, n1_ne, n1_ne', n1_nle, n1_nlt, n1_eq, oobN, some_lt, some_jn, bnd_some, Bool.false_eq_true, if_true, if_false, ite_true, ite_false, ↓reduceIte, ltT, ltF, leT, leF, eqT, eqF, true_and, and_true, false_and, and_false, true_or, or_true, false_or, or_false, not_true_eq_false, not_false_eq_true, if_pos, if_neg]; rfl
        · simp (disch := omega) only [Nat.add_zero, iN_lit, iN_lt, iN_le, iN_eq, iN_add, iN_mul, iN_sub, iN_nat, iN_div, iN_mod, iN_pred', n1_lt, n1_le, n1_ne, n1_ne', n1_nle, n1_nlt, n1_eq, oobN, some_lt, some_jn, bnd_some, Bool.false_eq_true, if_true, if_false, ite_true, ite_false, ↓reduceIte, ltT, ltF, leT, leF, eqT, eqF, true_and, and_true, false_and, and_false, true_or, or_true, false_or, or_false, not_true_eq_false, not_false_eq_true, if_pos, if_neg]
      · right
        constructor
        · unfold f_X7_checkRange; simp (disch := omega) only [Nat.add_zero, iN_lit, iN_lt, iN_le, iN_eq, iN_add, iN_mul, iN_sub, iN_nat, iN_div, iN_mod, iN_pred', n1_lt, n1_le, n1_ne, n1_ne', n1_nle, n1_nlt, n1_eq, oobN, some_lt, some_jn, bnd_some, Bool.false_eq_true, if_true, if_false, ite_true, ite_false, ↓reduceIte, ltT, ltF, leT, leF, eqT, eqF, true_and, and_true, false_and, and_false, true_or, or_true, false_or, or_false, not_true_eq_false, not_false_eq_true, if_pos, if_neg]
        · simp (disch := omega) only [Nat.add_zero, iN_lit, iN_lt, iN_le, iN_eq, iN_add, iN_mul, iN_sub, iN_nat, iN_div, iN_mod, iN_pred', n1_lt, n1_le, n1_ne, n1_ne', n1_nle, n1_nlt, n1_eq, oobN, some_lt, some_jn, bnd_some, Bool.false_eq_true, if_true, if_false, ite_true, ite_false, ↓reduceIte, ltT, ltF, leT, leF, eqT, eqF, true_and, and_true, false_and, and_false, true_or, or_true, false_or, or_false, not_true_eq_false, not_false_eq_true, if_pos, if_neg]
  · right
    have h2' : f_X7_checkRange x 0 9999 = some (Sum.inl "java/lang/IllegalArgumentException") := h2
    have h3' : f_X8_isIn x 0 9999 = some 0 := h3
    simp only [h2', h3', bndx, bnd_some, if_true, and_self]
theorem ne_lit {x : Int32} {c m : Nat} (h : ∀ m, m ≤ c → x ≠ iN m) (hm : m ≤ c) : (x = OfNat.ofNat m) = False := eq_false (h m hm)
section RO
variable {H N : Nat} {pd tc gv sz pc kc rc : Int32} {nu bo en he so st kn pr se ky ss vs a : Nat → Int32}
theorem m_count (h : CRx H pd tc gv nu sz pc bo en he so st kc kn pr se rc ky ss vs a) (hN : 1000 < N) (x : Int32) :
    (∃ r, f_X7_count N pd tc sz pc so kc se rc ss x = some (Sum.inr r) ∧ f_X8_count N a x = some (r, 0)) ∨ (∃ r, f_X7_count N pd tc sz pc so kc se rc ss x = some (Sum.inl "java/lang/IllegalArgumentException") ∧ f_X8_count N a x = some (r, 1)) := by
  obtain ⟨n, K, S, V, P, pe, W, k, ⟨s1, s2, s3, s4, s5, s6, s7⟩, ⟨c1, c2, c3, c4, c5, c6, c7, c8, c9⟩, ⟨r1, r2, r3, r4, r5, r6, r7, r8⟩, ⟨b1, b2, b3, b4, b5, b6⟩⟩ := h
  have hz := s1.1
  have hn := hz.nn
  unfold f_X7_count f_X8_count
  rcases rng0_cases x 11 (by omega) with ⟨m, h1, rfl, h2, h3⟩ | ⟨h1, h2, h3⟩
  · left
    have h3' : f_X8_isIn (iN m) 0 11 = some 1 := h3
    have h3'' : f_X8_isIn (iN m) (iN 0) (iN 11) = some 1 := h3
    have e4 : a 4 = iN (W 0) := (r7 0 (by omega)).1
    have e5 : a 5 = iN (W 1) := (r7 1 (by omega)).1
    have e6 : a 6 = iN (W 2) := (r7 2 (by omega)).1
    have e7 : a 7 = iN (W 3) := (r7 3 (by omega)).1
    have t0 := c_setting (w := 0) c5 (by omega)
    have t1 := c_setting (w := 1) c5 (by omega)
    have t2 := c_setting (w := 2) c5 (by omega)
    have t3 := c_setting (w := 3) c5 (by omega)
    have u1 := c_livingCount c8 hn hN
    have u2 := r_living r2 r5 hn hN
    have v1 := c_sortedPieces c2 hz hN
    have v2 := r_sortedPieces r1 hz hN
    have e10 : ((1 : Int32) = iN 0) = False := eq_false (by decide)
    have w1 := c2.hp; have w2 := c2.hs; have w3 := r1.hp; have w4 := r1.hs; have w5 := r3.1
    rw [c6]
    match m, h1 with
    | 0, _ => exact ⟨iN n, (by simp (disch := omega) only [Nat.add_zero, iN_lit, iN_lt, iN_le, iN_eq, iN_add, iN_mul, iN_sub, iN_nat, iN_div, iN_mod, iN_pred', n1_lt, n1_le, n1_ne, n1_ne', n1_nle, n1_nlt, n1_eq, oobN, some_lt, some_jn, bnd_some, Bool.false_eq_true, if_true, if_false, ite_true, ite_false, ↓reduceIte, ltT, ltF, leT, leF, eqT, eqF, true_and, and_true, false_and, and_false, true_or, or_true, false_or, or_false, not_true_eq_false, not_false_eq_true, if_pos, if_neg] <;> rfl), (by simp (disch := omega) only [Nat.add_zero, iN_lit, iN_lt, iN_le, iN_eq, iN_add, iN_mul, iN_sub, iN_nat, iN_div, iN_mod, iN_pred', n1_lt, n1_le, n1_ne, n1_ne', n1_nle, n1_nlt, n1_eq, oobN, some_lt, some_jn, bnd_some, Bool.false_eq_true, if_true, if_false, ite_true, ite_false, ↓reduceIte, ltT, ltF, leT, leF, eqT, eqF, true_and, and_true, false_and, and_false, true_or, or_true, false_or, or_false, not_true_eq_false, not_false_eq_true, if_pos, if_neg, h3'', e10, r2] <;> rfl)⟩
    | 1, _ => exact ⟨iN (livS n S), (by simp (disch := omega) only [Nat.add_zero, iN_lit, iN_lt, iN_le, iN_eq, iN_add, iN_mul, iN_sub, iN_nat, iN_div, iN_mod, iN_pred', n1_lt, n1_le, n1_ne, n1_ne', n1_nle, n1_nlt, n1_eq, oobN, some_lt, some_jn, bnd_some, Bool.false_eq_true, if_true, if_false, ite_true, ite_false, ↓reduceIte, ltT, ltF, leT, leF, eqT, eqF, true_and, and_true, false_and, and_false, true_or, or_true, false_or, or_false, not_true_eq_false, not_false_eq_true, if_pos, if_neg, u1] <;> rfl), (by simp (disch := omega) only [Nat.add_zero, iN_lit, iN_lt, iN_le, iN_eq, iN_add, iN_mul, iN_sub, iN_nat, iN_div, iN_mod, iN_pred', n1_lt, n1_le, n1_ne, n1_ne', n1_nle, n1_nlt, n1_eq, oobN, some_lt, some_jn, bnd_some, Bool.false_eq_true, if_true, if_false, ite_true, ite_false, ↓reduceIte, ltT, ltF, leT, leF, eqT, eqF, true_and, and_true, false_and, and_false, true_or, or_true, false_or, or_false, not_true_eq_false, not_false_eq_true, if_pos, if_neg, h3'', e10, u2] <;> rfl)⟩
    | 2, _ => exact ⟨iN (flat P).length, (by simp (disch := omega) only [Nat.add_zero, iN_lit, iN_lt, iN_le, iN_eq, iN_add, iN_mul, iN_sub, iN_nat, iN_div, iN_mod, iN_pred', n1_lt, n1_le, n1_ne, n1_ne', n1_nle, n1_nlt, n1_eq, oobN, some_lt, some_jn, bnd_some, Bool.false_eq_true, if_true, if_false, ite_true, ite_false, ↓reduceIte, ltT, ltF, leT, leF, eqT, eqF, true_and, and_true, false_and, and_false, true_or, or_true, false_or, or_false, not_true_eq_false, not_false_eq_true, if_pos, if_neg, w2] <;> rfl), (by simp (disch := omega) only [Nat.add_zero, iN_lit, iN_lt, iN_le, iN_eq, iN_add, iN_mul, iN_sub, iN_nat, iN_div, iN_mod, iN_pred', n1_lt, n1_le, n1_ne, n1_ne', n1_nle, n1_nlt, n1_eq, oobN, some_lt, some_jn, bnd_some, Bool.false_eq_true, if_true, if_false, ite_true, ite_false, ↓reduceIte, ltT, ltF, leT, leF, eqT, eqF, true_and, and_true, false_and, and_false, true_or, or_true, false_or, or_false, not_true_eq_false, not_false_eq_true, if_pos, if_neg, h3'', e10, w4] <;> rfl)⟩
    | 3, _ => exact ⟨iN pe.length, (by simp (disch := omega) only [Nat.add_zero, iN_lit, iN_lt, iN_le, iN_eq, iN_add, iN_mul, iN_sub, iN_nat, iN_div, iN_mod, iN_pred', n1_lt, n1_le, n1_ne, n1_ne', n1_nle, n1_nlt, n1_eq, oobN, some_lt, some_jn, bnd_some, Bool.false_eq_true, if_true, if_false, ite_true, ite_false, ↓reduceIte, ltT, ltF, leT, leF, eqT, eqF, true_and, and_true, false_and, and_false, true_or, or_true, false_or, or_false, not_true_eq_false, not_false_eq_true, if_pos, if_neg, c1] <;> rfl), (by simp (disch := omega) only [Nat.add_zero, iN_lit, iN_lt, iN_le, iN_eq, iN_add, iN_mul, iN_sub, iN_nat, iN_div, iN_mod, iN_pred', n1_lt, n1_le, n1_ne, n1_ne', n1_nle, n1_nlt, n1_eq, oobN, some_lt, some_jn, bnd_some, Bool.false_eq_true, if_true, if_false, ite_true, ite_false, ↓reduceIte, ltT, ltF, leT, leF, eqT, eqF, true_and, and_true, false_and, and_false, true_or, or_true, false_or, or_false, not_true_eq_false, not_false_eq_true, if_pos, if_neg, h3'', e10, w5] <;> rfl)⟩
    | 4, _ => exact ⟨iN P.length, (by simp (disch := omega) only [Nat.add_zero, iN_lit, iN_lt, iN_le, iN_eq, iN_add, iN_mul, iN_sub, iN_nat, iN_div, iN_mod, iN_pred', n1_lt, n1_le, n1_ne, n1_ne', n1_nle, n1_nlt, n1_eq, oobN, some_lt, some_jn, bnd_some, Bool.false_eq_true, if_true, if_false, ite_true, ite_false, ↓reduceIte, ltT, ltF, leT, leF, eqT, eqF, true_and, and_true, false_and, and_false, true_or, or_true, false_or, or_false, not_true_eq_false, not_false_eq_true, if_pos, if_neg, w1] <;> rfl), (by simp (disch := omega) only [Nat.add_zero, iN_lit, iN_lt, iN_le, iN_eq, iN_add, iN_mul, iN_sub, iN_nat, iN_div, iN_mod, iN_pred', n1_lt, n1_le, n1_ne, n1_ne', n1_nle, n1_nlt, n1_eq, oobN, some_lt, some_jn, bnd_some, Bool.false_eq_true, if_true, if_false, ite_true, ite_false, ↓reduceIte, ltT, ltF, leT, leF, eqT, eqF, true_and, and_true, false_and, and_false, true_or, or_true, false_or, or_false, not_true_eq_false, not_false_eq_true, if_pos, if_neg, h3'', e10, w3] <;> rfl)⟩
    | 5, _ => exact ⟨iN (sorS P), (by simp (disch := omega) only [Nat.add_zero, iN_lit, iN_lt, iN_le, iN_eq, iN_add, iN_mul, iN_sub, iN_nat, iN_div, iN_mod, iN_pred', n1_lt, n1_le, n1_ne, n1_ne', n1_nle, n1_nlt, n1_eq, oobN, some_lt, some_jn, bnd_some, Bool.false_eq_true, if_true, if_false, ite_true, ite_false, ↓reduceIte, ltT, ltF, leT, leF, eqT, eqF, true_and, and_true, false_and, and_false, true_or, or_true, false_or, or_false, not_true_eq_false, not_false_eq_true, if_pos, if_neg, v1] <;> rfl), (by simp (disch := omega) only [Nat.add_zero, iN_lit, iN_lt, iN_le, iN_eq, iN_add, iN_mul, iN_sub, iN_nat, iN_div, iN_mod, iN_pred', n1_lt, n1_le, n1_ne, n1_ne', n1_nle, n1_nlt, n1_eq, oobN, some_lt, some_jn, bnd_some, Bool.false_eq_true, if_true, if_false, ite_true, ite_false, ↓reduceIte, ltT, ltF, leT, leF, eqT, eqF, true_and, and_true, false_and, and_false, true_or, or_true, false_or, or_false, not_true_eq_false, not_false_eq_true, if_pos, if_neg, h3'', e10, v2] <;> rfl)⟩
    | 6, _ => exact ⟨iN (W 0), (by simp (disch := omega) only [Nat.add_zero, iN_lit, iN_lt, iN_le, iN_eq, iN_add, iN_mul, iN_sub, iN_nat, iN_div, iN_mod, iN_pred', n1_lt, n1_le, n1_ne, n1_ne', n1_nle, n1_nlt, n1_eq, oobN, some_lt, some_jn, bnd_some, Bool.false_eq_true, if_true, if_false, ite_true, ite_false, ↓reduceIte, ltT, ltF, leT, leF, eqT, eqF, true_and, and_true, false_and, and_false, true_or, or_true, false_or, or_false, not_true_eq_false, not_false_eq_true, if_pos, if_neg, t0] <;> rfl), (by simp (disch := omega) only [Nat.add_zero, iN_lit, iN_lt, iN_le, iN_eq, iN_add, iN_mul, iN_sub, iN_nat, iN_div, iN_mod, iN_pred', n1_lt, n1_le, n1_ne, n1_ne', n1_nle, n1_nlt, n1_eq, oobN, some_lt, some_jn, bnd_some, Bool.false_eq_true, if_true, if_false, ite_true, ite_false, ↓reduceIte, ltT, ltF, leT, leF, eqT, eqF, true_and, and_true, false_and, and_false, true_or, or_true, false_or, or_false, not_true_eq_false, not_false_eq_true, if_pos, if_neg, h3'', e10, e4] <;> rfl)⟩
    | 7, _ => exact ⟨iN (W 1), (by simp (disch := omega) only [Nat.add_zero, iN_lit, iN_lt, iN_le, iN_eq, iN_add, iN_mul, iN_sub, iN_nat, iN_div, iN_mod, iN_pred', n1_lt, n1_le, n1_ne, n1_ne', n1_nle, n1_nlt, n1_eq, oobN, some_lt, some_jn, bnd_some, Bool.false_eq_true, if_true, if_false, ite_true, ite_false, ↓reduceIte, ltT, ltF, leT, leF, eqT, eqF, true_and, and_true, false_and, and_false, true_or, or_true, false_or, or_false, not_true_eq_false, not_false_eq_true, if_pos, if_neg, t1] <;> rfl), (by simp (disch := omega) only [Nat.add_zero, iN_lit, iN_lt, iN_le, iN_eq, iN_add, iN_mul, iN_sub, iN_nat, iN_div, iN_mod, iN_pred', n1_lt, n1_le, n1_ne, n1_ne', n1_nle, n1_nlt, n1_eq, oobN, some_lt, some_jn, bnd_some, Bool.false_eq_true, if_true, if_false, ite_true, ite_false, ↓reduceIte, ltT, ltF, leT, leF, eqT, eqF, true_and, and_true, false_and, and_false, true_or, or_true, false_or, or_false, not_true_eq_false, not_false_eq_true, if_pos, if_neg, h3'', e10, e5] <;> rfl)⟩
    | 8, _ => exact ⟨iN (W 2), (by simp (disch := omega) only [Nat.add_zero, iN_lit, iN_lt, iN_le, iN_eq, iN_add, iN_mul, iN_sub, iN_nat, iN_div, iN_mod, iN_pred', n1_lt, n1_le, n1_ne, n1_ne', n1_nle, n1_nlt, n1_eq, oobN, some_lt, some_jn, bnd_some, Bool.false_eq_true, if_true, if_false, ite_true, ite_false, ↓reduceIte, ltT, ltF, leT, leF, eqT, eqF, true_and, and_true, false_and, and_false, true_or, or_true, false_or, or_false, not_true_eq_false, not_false_eq_true, if_pos, if_neg, t2] <;> rfl), (by simp (disch := omega) only [Nat.add_zero, iN_lit, iN_lt, iN_le, iN_eq, iN_add, iN_mul, iN_sub, iN_nat, iN_div, iN_mod, iN_pred', n1_lt, n1_le, n1_ne, n1_ne', n1_nle, n1_nlt, n1_eq, oobN, some_lt, some_jn, bnd_some, Bool.false_eq_true, if_true, if_false, ite_true, ite_false, ↓reduceIte, ltT, ltF, leT, leF, eqT, eqF, true_and, and_true, false_and, and_false, true_or, or_true, false_or, or_false, not_true_eq_false, not_false_eq_true, if_pos, if_neg, h3'', e10, e6] <;> rfl)⟩
    | 9, _ => exact ⟨iN (W 3), (by simp (disch := omega) only [Nat.add_zero, iN_lit, iN_lt, iN_le, iN_eq, iN_add, iN_mul, iN_sub, iN_nat, iN_div, iN_mod, iN_pred', n1_lt, n1_le, n1_ne, n1_ne', n1_nle, n1_nlt, n1_eq, oobN, some_lt, some_jn, bnd_some, Bool.false_eq_true, if_true, if_false, ite_true, ite_false, ↓reduceIte, ltT, ltF, leT, leF, eqT, eqF, true_and, and_true, false_and, and_false, true_or, or_true, false_or, or_false, not_true_eq_false, not_false_eq_true, if_pos, if_neg, t3] <;> rfl), (by simp (disch := omega) only [Nat.add_zero, iN_lit, iN_lt, iN_le, iN_eq, iN_add, iN_mul, iN_sub, iN_nat, iN_div, iN_mod, iN_pred', n1_lt, n1_le, n1_ne, n1_ne', n1_nle, n1_nlt, n1_eq, oobN, some_lt, some_jn, bnd_some, Bool.false_eq_true, if_true, if_false, ite_true, ite_false, ↓reduceIte, ltT, ltF, leT, leF, eqT, eqF, true_and, and_true, false_and, and_false, true_or, or_true, false_or, or_false, not_true_eq_false, not_false_eq_true, if_pos, if_neg, h3'', e10, e7] <;> rfl)⟩
    | 10, _ => exact ⟨tc, (by simp (disch := omega) only [Nat.add_zero, iN_lit, iN_lt, iN_le, iN_eq, iN_add, iN_mul, iN_sub, iN_nat, iN_div, iN_mod, iN_pred', n1_lt, n1_le, n1_ne, n1_ne', n1_nle, n1_nlt, n1_eq, oobN, some_lt, some_jn, bnd_some, Bool.false_eq_true, if_true, if_false, ite_true, ite_false, ↓reduceIte, ltT, ltF, leT, leF, eqT, eqF, true_and, and_true, false_and, and_false, true_or, or_true, false_or, or_false, not_true_eq_false, not_false_eq_true, if_pos, if_neg] <;> rfl), (by simp (disch := omega) only [Nat.add_zero, iN_lit, iN_lt, iN_le, iN_eq, iN_add, iN_mul, iN_sub, iN_nat, iN_div, iN_mod, iN_pred', n1_lt, n1_le, n1_ne, n1_ne', n1_nle, n1_nlt, n1_eq, oobN, some_lt, some_jn, bnd_some, Bool.false_eq_true, if_true, if_false, ite_true, ite_false, ↓reduceIte, ltT, ltF, leT, leF, eqT, eqF, true_and, and_true, false_and, and_false, true_or, or_true, false_or, or_false, not_true_eq_false, not_false_eq_true, if_pos, if_neg, h3'', e10, ← b1] <;> rfl)⟩
    | 11, _ => exact ⟨iN k, (by simp (disch := omega) only [Nat.add_zero, iN_lit, iN_lt, iN_le, iN_eq, iN_add, iN_mul, iN_sub, iN_nat, iN_div, iN_mod, iN_pred', n1_lt, n1_le, n1_ne, n1_ne', n1_nle, n1_nlt, n1_eq, oobN, some_lt, some_jn, bnd_some, Bool.false_eq_true, if_true, if_false, ite_true, ite_false, ↓reduceIte, ltT, ltF, leT, leF, eqT, eqF, true_and, and_true, false_and, and_false, true_or, or_true, false_or, or_false, not_true_eq_false, not_false_eq_true, if_pos, if_neg, c3] <;> rfl), (by simp (disch := omega) only [Nat.add_zero, iN_lit, iN_lt, iN_le, iN_eq, iN_add, iN_mul, iN_sub, iN_nat, iN_div, iN_mod, iN_pred', n1_lt, n1_le, n1_ne, n1_ne', n1_nle, n1_nlt, n1_eq, oobN, some_lt, some_jn, bnd_some, Bool.false_eq_true, if_true, if_false, ite_true, ite_false, ↓reduceIte, ltT, ltF, leT, leF, eqT, eqF, true_and, and_true, false_and, and_false, true_or, or_true, false_or, or_false, not_true_eq_false, not_false_eq_true, if_pos, if_neg, h3'', e10, r8] <;> rfl)⟩
  · right
    have h3' : f_X8_isIn x 0 11 = some 0 := h3
    refine ⟨0, ?_, ?_⟩
    · simp only [ne_lit h1 (show 0 ≤ 11 by omega), ne_lit h1 (show 1 ≤ 11 by omega), ne_lit h1 (show 2 ≤ 11 by omega), ne_lit h1 (show 3 ≤ 11 by omega), ne_lit h1 (show 4 ≤ 11 by omega), ne_lit h1 (show 5 ≤ 11 by omega), ne_lit h1 (show 6 ≤ 11 by omega), ne_lit h1 (show 7 ≤ 11 by omega), ne_lit h1 (show 8 ≤ 11 by omega), ne_lit h1 (show 9 ≤ 11 by omega), ne_lit h1 (show 10 ≤ 11 by omega), ne_lit h1 (show 11 ≤ 11 by omega), if_false]
    · simp only [h3', bnd_some, some_jn, if_true]
      rfl
theorem m_entry (h : CRx H pd tc gv nu sz pc bo en he so st kc kn pr se rc ky ss vs a) (x : Int32) :
    (∃ r, f_X7_entry sz en x = some (Sum.inr r) ∧ f_X8_entry a x = some (r, 0)) ∨ (∃ r, f_X7_entry sz en x = some (Sum.inl "java/lang/IndexOutOfBoundsException") ∧ f_X8_entry a x = some (r, 1)) := by
  obtain ⟨n, K, S, V, P, pe, W, k, ⟨s1, s2, s3, s4, s5, s6, s7⟩, ⟨c1, c2, c3, c4, c5, c6, c7, c8, c9⟩, ⟨r1, r2, r3, r4, r5, r6, r7, r8⟩, ⟨b1, b2, b3, b4, b5, b6⟩⟩ := h
  have hz := s1.1
  have hfl := hz.fl
  unfold f_X7_entry f_X8_entry
  rw [c2.hs, r1.hs]
  rcases idx_cases x (flat P).length (by omega) with ⟨m, h1, rfl, h2, h3⟩ | ⟨h1, h2, h3⟩
  · left
    have e1 := c_rowAt' c2 hz h1
    rw [c2.hs] at e1
    have e2 : a (380 + m) = iN (fl P m) := by rw [fl_eq h1]; exact r1.en.get h1
    refine ⟨iN (fl P m), ?_, ?_⟩
    · rw [h2]; simp only [bndx, e1, bnd_some, inR]
    · rw [h3]
      simp (disch := omega) only [Nat.add_zero, iN_lit, iN_lt, iN_le, iN_eq, iN_add, iN_mul, iN_sub, iN_nat, iN_div, iN_mod, iN_pred', n1_lt, n1_le, n1_ne, n1_ne', n1_nle, n1_nlt, n1_eq, oobN, some_lt, some_jn, bnd_some, Bool.false_eq_true, if_true, if_false, ite_true, ite_false, ↓reduceIte, ltT, ltF, leT, leF, eqT, eqF, true_and, and_true, false_and, and_false, true_or, or_true, false_or, or_false, not_true_eq_false, not_false_eq_true, if_pos, if_neg, show ((1 : Int32) = iN 0) = False from eq_false (by decide), e2]
  · right
    refine ⟨0, ?_, ?_⟩
    · rw [h2]; rfl
    · rw [h3]; rfl
theorem m_pending (h : CRx H pd tc gv nu sz pc bo en he so st kc kn pr se rc ky ss vs a) (x : Int32) :
    (∃ r, f_X7_pending pd pr x = some (Sum.inr r) ∧ f_X8_pending a x = some (r, 0)) ∨ (∃ r, f_X7_pending pd pr x = some (Sum.inl "java/lang/IndexOutOfBoundsException") ∧ f_X8_pending a x = some (r, 1)) := by
  obtain ⟨n, K, S, V, P, pe, W, k, ⟨s1, s2, s3, s4, s5, s6, s7⟩, ⟨c1, c2, c3, c4, c5, c6, c7, c8, c9⟩, ⟨r1, r2, r3, r4, r5, r6, r7, r8⟩, ⟨b1, b2, b3, b4, b5, b6⟩⟩ := h
  have hpl : pe.length ≤ 30 := by have := s6.2.2.2.2; omega
  unfold f_X7_pending f_X8_pending
  rw [c1, r3.1]
  rcases idx_cases x pe.length (by omega) with ⟨m, h1, rfl, h2, h3⟩ | ⟨h1, h2, h3⟩
  · left
    have e1 := c_pendingAt c4 (by omega) h1
    have e2 : a (500 + m) = iN pe[m] := r3.2.get h1
    refine ⟨iN pe[m], ?_, ?_⟩
    · rw [h2]; simp only [bndx, e1, bnd_some, inR]
    · rw [h3]
      simp (disch := omega) only [Nat.add_zero, iN_lit, iN_lt, iN_le, iN_eq, iN_add, iN_mul, iN_sub, iN_nat, iN_div, iN_mod, iN_pred', n1_lt, n1_le, n1_ne, n1_ne', n1_nle, n1_nlt, n1_eq, oobN, some_lt, some_jn, bnd_some, Bool.false_eq_true, if_true, if_false, ite_true, ite_false, ↓reduceIte, ltT, ltF, leT, leF, eqT, eqF, true_and, and_true, false_and, and_false, true_or, or_true, false_or, or_false, not_true_eq_false, not_false_eq_true, if_pos, if_neg, show ((1 : Int32) = iN 0) = False from eq_false (by decide), e2]
  · right
    refine ⟨0, ?_, ?_⟩
    · rw [h2]; rfl
    · rw [h3]; rfl
theorem m_pieceOf (h : CRx H pd tc gv nu sz pc bo en he so st kc kn pr se rc ky ss vs a) (hN : 1000 < N) (x : Int32) :
    (∃ r, f_X7_pieceOf N pc bo x = some (Sum.inr r) ∧ f_X8_pieceOf N a x = some (r, 0)) ∨ (∃ r, f_X7_pieceOf N pc bo x = some (Sum.inl "java/lang/IllegalArgumentException") ∧ f_X8_pieceOf N a x = some (r, 1)) := by
  obtain ⟨n, K, S, V, P, pe, W, k, ⟨s1, s2, s3, s4, s5, s6, s7⟩, ⟨c1, c2, c3, c4, c5, c6, c7, c8, c9⟩, ⟨r1, r2, r3, r4, r5, r6, r7, r8⟩, ⟨b1, b2, b3, b4, b5, b6⟩⟩ := h
  have hz := s1.1
  unfold f_X7_pieceOf f_X8_pieceOf
  rcases rng0_cases x 9999 (by omega) with ⟨m, h1, rfl, h2, h3⟩ | ⟨h1, h2, h3⟩
  · left
    have e1 := c_pieceFor' (key := m) c2 hz (by omega) hN
    have e2 : f_X8_lastPiece N a (iN m) = some (iN (pcF P m)) := r_lastPiece r1 hz hN (by omega) (HD0_le s1.2.1)
    have h2' : f_X7_checkRange (iN m) 0 9999 = some (Sum.inr ()) := h2
    have h3' : f_X8_isIn (iN m) 0 9999 = some 1 := h3
    refine ⟨iN (pcF P m), ?_, ?_⟩
    · rw [h2']; simp only [bndx, e1, bnd_some, inR]
    · rw [h3', bnd_some, some_jn, e2]
      rfl
  · right
    have h2' : f_X7_checkRange x 0 9999 = some (Sum.inl "java/lang/IllegalArgumentException") := h2
    have h3' : f_X8_isIn x 0 9999 = some 0 := h3
    refine ⟨0, ?_, ?_⟩
    · rw [h2']; rfl
    · rw [h3']; rfl
end RO
