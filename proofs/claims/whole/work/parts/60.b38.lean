section CST
variable {H N : Nat} {pd tc gv sz pc kc rc un : Int32} {nu bo en he so st kn pr se ky ss vs a asd mo : Nat → Int32} {q0 q1 q2 q4 q5 q11 q15 : Int32} {tnu tbo ten the tso tst tkn tpr tse tky tss tvs : Nat → Int32}
theorem r_sets {p q : Nat → Int32} (hN : 1000 < N) : f_X8_sets N p q 876 876 = some (fun j => if j < 876 then q j else p j) := by
  have : ∀ (k : (Nat → Int32) → Option (Nat → Int32)) m i, i ≤ 876 → 876 - i < m → f_X8_sets_2 q 876 876 k m (iN i) (fun j => if j < i then q j else p j) = k (fun j => if j < 876 then q j else p j) := by
    intro k m
    induction m with
    | zero => intro i h1 h2; omega
    | succ m ih =>
      intro i h1 h2
      rw [f_X8_sets_2.eq_2]
      by_cases h3 : i = 876
      · subst h3; simp (disch := omega) only [Nat.add_zero, iN_lit, iN_lt, iN_le, iN_eq, iN_add, iN_mul, iN_sub, iN_nat, iN_div, iN_mod, iN_pred', n1_lt, n1_le, n1_ne, n1_ne', n1_nle, n1_nlt, n1_eq, oobN, some_lt, some_jn, bnd_some, Bool.false_eq_true, if_true, if_false, ite_true, ite_false, ↓reduceIte, ltT, ltF, leT, leF, eqT, eqF, true_and, and_true, false_and, and_false, true_or, or_true, false_or, or_false, not_true_eq_false, not_false_eq_true, if_pos, if_neg]
      · have h4 := ih (i + 1) (by omega) (by omega)
        have h5 : upd (fun j => if j < i then q j else p j) i (q i) = fun j => if j < i + 1 then q j else p j := by
          funext j
          by_cases hj : j = i
          · subst hj; rw [upd_self, if_pos (by omega)]
          · rw [upd_ne hj]
            by_cases hj2 : j < i
            · rw [if_pos hj2, if_pos (by omega)]
            · rw [if_neg hj2, if_neg (by omega)]
        simp (disch := omega) only [Nat.add_zero, iN_lit, iN_lt, iN_le, iN_eq, iN_add, iN_mul, iN_sub, iN_nat, iN_div, iN_mod, iN_pred', n1_lt, n1_le, n1_ne, n1_ne', n1_nle, n1_nlt, n1_eq, oobN, some_lt, some_jn, bnd_some, Bool.false_eq_true, if_true, if_false, ite_true, ite_false, ↓reduceIte, ltT, ltF, leT, leF, eqT, eqF, true_and, and_true, false_and, and_false, true_or, or_true, false_or, or_false, not_true_eq_false, not_false_eq_true, if_pos, if_neg, h5]
        exact h4
  have h := this (fun x => some x) N 0 (by omega) (by omega)
  simp only [Nat.not_lt_zero, if_false] at h
  unfold f_X8_sets
  rw [some_jn]
  exact h
theorem m_costNow {lo hi : Nat} (h : CRx H pd tc gv nu sz pc bo en he so st kc kn pr se rc ky ss vs a) (hH : H + 62 < 1073741824) (hN : 10000 < N) (h1 : lo < hi) (h2 : hi ≤ 10000) :
    ∃ r t1 t2 t3 t4 t5 t6 t7 t8 t9 t10 t11 t12 t13 t14 t15 t16 t17 t18 t19 un' a' asd' mo', f_X7_costNow N pd tc gv nu sz pc bo en he so st kc kn pr se rc ky ss vs tnu tbo ten the tso tst tkn tpr tse tky tss tvs (iN lo) (iN hi) = some (r, t1, t2, t3, t4, t5, t6, t7, t8, t9, t10, t11, t12, t13, t14, t15, t16, t17, t18, t19) ∧
      f_X8_costNow N un a asd mo (iN lo) (iN hi) = some (r, un', a', asd', mo') ∧ ∀ j, j < 876 → a' j = a j := by
  have hg : gv = 0 ∨ gv = 1 := by
    obtain ⟨n, K, S, V, P, pe, W, k, hs, hc, hr, hb⟩ := h
    exact hb.2.2.1
  have e0 := c_become19 (pd := pd) (tc := tc) (sz := sz) (pc := pc) (kc := kc) (rc := rc) (nu := nu) (bo := bo) (en := en) (he := he) (so := so) (st := st) (kn := kn) (pr := pr) (se := se) (ky := ky) (ss := ss) (vs := vs) (nu' := tnu) (bo' := tbo) (en' := ten) (he' := the) (so' := tso) (st' := tst) (kn' := tkn) (pr' := tpr) (se' := tse) (ky' := tky) (ss' := tss) (vs' := tvs) hg
  have h' := CRx.class_congr (nu' := va_cpy nu tnu 0 0 9) (bo' := va_cpy bo tbo 0 0 62) (en' := va_cpy en ten 0 0 120) (he' := va_cpy he the 0 0 62) (so' := va_cpy so tso 0 0 62) (st' := va_cpy st tst 0 0 62) (kn' := va_cpy kn tkn 0 0 80) (pr' := va_cpy pr tpr 0 0 31) (se' := va_cpy se tse 0 0 4) (ky' := va_cpy ky tky 0 0 120) (ss' := va_cpy ss tss 0 0 120) (vs' := va_cpy vs tvs 0 0 120) h (fun j hj => cpy_lt hj) (fun j hj => cpy_lt hj) (fun j hj => cpy_lt hj) (fun j hj => cpy_lt hj) (fun j hj => cpy_lt hj) (fun j hj => cpy_lt hj) (fun j hj => cpy_lt hj) (fun j hj => cpy_lt hj) (fun j hj => cpy_lt hj) (fun j hj => cpy_lt hj) (fun j hj => cpy_lt hj) (fun j hj => cpy_lt hj)
  generalize va_cpy nu tnu 0 0 9 = nu1 at e0 h'
  generalize va_cpy bo tbo 0 0 62 = bo1 at e0 h'
  generalize va_cpy en ten 0 0 120 = en1 at e0 h'
  generalize va_cpy he the 0 0 62 = he1 at e0 h'
  generalize va_cpy so tso 0 0 62 = so1 at e0 h'
  generalize va_cpy st tst 0 0 62 = st1 at e0 h'
  generalize va_cpy kn tkn 0 0 80 = kn1 at e0 h'
  generalize va_cpy pr tpr 0 0 31 = pr1 at e0 h'
  generalize va_cpy se tse 0 0 4 = se1 at e0 h'
  generalize va_cpy ky tky 0 0 120 = ky1 at e0 h'
  generalize va_cpy ss tss 0 0 120 = ss1 at e0 h'
  generalize va_cpy vs tvs 0 0 120 = vs1 at e0 h'
  obtain ⟨n, K, S, V, P, pe, W, k, ⟨s1, s2, s3, s4, s5, s6, s7⟩, ⟨c1, c2, c3, c4, c5, c6, c7, c8, c9⟩, ⟨r1, r2, r3, r4, r5, r6, r7, r8⟩, ⟨b1, b2, b3, b4, b5, b6⟩⟩ := h'
  have hz := s1.1
  have hl := hz.len; have hn := hz.nn
  have w3 := s6.2.2.2.2; have w2 := s6.2.2.1
  obtain ⟨sz', pc', bo', en', he', so', st', pr', ss', nu', kn', e1, e2, e3, e4, ⟨n0, n4, n5, n6, n7, n8⟩, ⟨k0, k1, k2, k3, k4⟩⟩ := c_ask (tot := tc) (nu := nu1) (kn := kn1) (kc := k) (lo := lo) (hi := hi) c2 s1 s2 c7 c8 c9 c5 c4 (by omega) s7 s3 (by omega) h1 h2 (by omega) (by omega) (show 1000 < N by omega)
  obtain ⟨un', a1, mo', g1, g2, g3, g4, ⟨m0, m4, m5, m6, m7, m8⟩, g9, g8, g10⟩ := r_queries (un := un) (mo := mo) (tot := tc) (lo := lo) (hi := hi) r1 s1 s2 r3 r4 r5 r6 r7 b1.symm (by omega) s3 (by omega) h1 h2 (by omega) (by omega) (show 1000 < N by omega)
  have hnu4 : f_X0_numberAt nu' 4 = some (iN (qC K S W V P pe lo hi)) := by
    rw [show (4 : Int32) = iN 4 from rfl, c_numberAt (by omega), n4]
  rw [← c1, ← c3] at e1
  unfold f_X7_costNow f_X8_costNow
  rw [e0, r_sets (show 1000 < N by omega)]
  simp only [bnd19, e1, bnd15, hnu4, bnd_some, g1, bnd3, some_lt, r_sets (show 1000 < N by omega), m4]
  refine ⟨_, _, _, _, _, _, _, _, _, _, _, _, _, _, _, _, _, _, _, _, _, _, _, _, rfl, rfl, fun j hj => ?_⟩
  rw [if_pos hj, if_pos hj]
theorem m_costOf (h : CRx H pd tc gv nu sz pc bo en he so st kc kn pr se rc ky ss vs a) (hH : H + 62 < 1073741824) (hN : 10000 < N) (x y : Int32) :
    (∃ r t1 t2 t3 t4 t5 t6 t7 t8 t9 t10 t11 t12 t13 t14 t15 t16 t17 t18 t19 un' a' asd' mo', f_X7_costOf N pd tc gv nu sz pc bo en he so st kc kn pr se rc ky ss vs tnu tbo ten the tso tst tkn tpr tse tky tss tvs x y = some (Sum.inr (r, t1, t2, t3, t4, t5, t6, t7, t8, t9, t10, t11, t12, t13, t14, t15, t16, t17, t18, t19)) ∧ f_X8_costOf N un a asd mo x y = some (r, 0, un', a', asd', mo') ∧ ∀ j, j < 876 → a' j = a j) ∨
    (∃ r, f_X7_costOf N pd tc gv nu sz pc bo en he so st kc kn pr se rc ky ss vs tnu tbo ten the tso tst tkn tpr tse tky tss tvs x y = some (Sum.inl "java/lang/IllegalArgumentException") ∧ f_X8_costOf N un a asd mo x y = some (r, 1, un, a, asd, mo)) := by
  have e10 : ((1 : Int32) = 0) = False := eq_false (by decide)
  have e01 : ((1 : Int32) ≤ 0) = False := eq_false (by decide)
  have e00 : ((0 : Int32) ≤ 0) = True := eq_true (by decide)
  unfold f_X7_costOf f_X8_costOf
  rcases span_cases x y with ⟨lo, hi, h1, h2, rfl, rfl, h3, h4⟩ | ⟨h3, h4⟩
  · left
    obtain ⟨r, t1, t2, t3, t4, t5, t6, t7, t8, t9, t10, t11, t12, t13, t14, t15, t16, t17, t18, t19, un', a', asd', mo', u1, u2, u3⟩ := m_costNow (un := un) (asd := asd) (mo := mo) (tnu := tnu) (tbo := tbo) (ten := ten) (the := the) (tso := tso) (tst := tst) (tkn := tkn) (tpr := tpr) (tse := tse) (tky := tky) (tss := tss) (tvs := tvs) h hH hN h1 h2
    refine ⟨r, t1, t2, t3, t4, t5, t6, t7, t8, t9, t10, t11, t12, t13, t14, t15, t16, t17, t18, t19, un', a', asd', mo', ?_, ?_, u3⟩
    · rw [h3]
      simp only [bndx, u1, bnd20, inR]
    · rw [h4]
      simp only [bnd_some, e10, if_false, some_jn, e00, if_true, u2, bnd5]
  · right
    refine ⟨0, ?_, ?_⟩
    · rw [h3]; rfl
    · rw [h4]
      simp only [bnd_some, if_true, some_jn, e01, if_false]
theorem c_kept {i f : Nat} (hi : i < 20) (hf : f < 4) : f_X4_numberAt kn (iN i) (iN f) = some (kn (4 * i + f)) := by
  unfold f_X4_numberAt
  have e : i * 4 + f = 4 * i + f := by omega
  simp (disch := omega) only [Nat.add_zero, iN_lit, iN_lt, iN_le, iN_eq, iN_add, iN_mul, iN_sub, iN_nat, iN_div, iN_mod, iN_pred', n1_lt, n1_le, n1_ne, n1_ne', n1_nle, n1_nlt, n1_eq, oobN, some_lt, some_jn, bnd_some, Bool.false_eq_true, if_true, if_false, ite_true, ite_false, ↓reduceIte, ltT, ltF, leT, leF, eqT, eqF, true_and, and_true, false_and, and_false, true_or, or_true, false_or, or_false, not_true_eq_false, not_false_eq_true, if_pos, if_neg, e]
theorem r_askedOf {i f : Nat} (hi : i < 20) (hf : f < 4) : f_X8_askedOf a (iN i) (iN f) = some (a (796 + 4 * i + f)) := by
  unfold f_X8_askedOf
  simp (disch := omega) only [Nat.add_zero, iN_lit, iN_lt, iN_le, iN_eq, iN_add, iN_mul, iN_sub, iN_nat, iN_div, iN_mod, iN_pred', n1_lt, n1_le, n1_ne, n1_ne', n1_nle, n1_nlt, n1_eq, oobN, some_lt, some_jn, bnd_some, Bool.false_eq_true, if_true, if_false, ite_true, ite_false, ↓reduceIte, ltT, ltF, leT, leF, eqT, eqF, true_and, and_true, false_and, and_false, true_or, or_true, false_or, or_false, not_true_eq_false, not_false_eq_true, if_pos, if_neg]
theorem m_asked (h : CRx H pd tc gv nu sz pc bo en he so st kc kn pr se rc ky ss vs a) (hH : H + 62 < 1073741824) (hN : 10000 < N) (x y : Int32) :
    (∃ r t1 t2 t3 t4 t5 t6 t7 t8 t9 t10 t11 t12 t13 t14 t15 t16 t17 t18 t19 un' a' asd' mo', f_X7_asked N pd tc gv nu sz pc bo en he so st kc kn pr se rc ky ss vs q0 q1 q2 tnu q4 q5 tbo ten the tso tst q11 tkn tpr tse q15 tky tss tvs x y = some (Sum.inr (r, t1, t2, t3, t4, t5, t6, t7, t8, t9, t10, t11, t12, t13, t14, t15, t16, t17, t18, t19)) ∧ f_X8_asked N un a asd mo x y = some (r, 0, un', a', asd', mo') ∧ ∀ j, j < 876 → a' j = a j) ∨
    (∃ r, f_X7_asked N pd tc gv nu sz pc bo en he so st kc kn pr se rc ky ss vs q0 q1 q2 tnu q4 q5 tbo ten the tso tst q11 tkn tpr tse q15 tky tss tvs x y = some (Sum.inl "java/lang/IndexOutOfBoundsException") ∧ f_X8_asked N un a asd mo x y = some (r, 1, un, a, asd, mo)) ∨
    (∃ r, f_X7_asked N pd tc gv nu sz pc bo en he so st kc kn pr se rc ky ss vs q0 q1 q2 tnu q4 q5 tbo ten the tso tst q11 tkn tpr tse q15 tky tss tvs x y = some (Sum.inl "java/lang/IllegalArgumentException") ∧ f_X8_asked N un a asd mo x y = some (r, 2, un, a, asd, mo)) := by
  have e10 : ((1 : Int32) = 0) = False := eq_false (by decide)
  have e01 : ((1 : Int32) ≤ 0) = False := eq_false (by decide)
  have e02 : ((2 : Int32) ≤ 0) = False := eq_false (by decide)
  have e00 : ((0 : Int32) ≤ 0) = True := eq_true (by decide)
  have hh := h
  obtain ⟨n, K, S, V, P, pe, W, k, ⟨s1, s2, s3, s4, s5, s6, s7⟩, ⟨c1, c2, c3, c4, c5, c6, c7, c8, c9⟩, ⟨r1, r2, r3, r4, r5, r6, r7, r8⟩, ⟨b1, b2, b3, b4, b5, b6⟩⟩ := hh
  unfold f_X7_asked f_X8_asked
  rcases idx_cases x k (by omega) with ⟨m, h1, rfl, h2, h3⟩ | ⟨h1, h2, h3⟩
  · have h2' : f_X7_checkIndex (iN m) kc = some (Sum.inr ()) := by rw [c3]; exact h2
    rcases rng0_cases y 4 (by omega) with ⟨w, g1, rfl, g2, g3⟩ | ⟨g1, g2, g3⟩
    · left
      have g2' : f_X7_checkRange (iN w) 0 4 = some (Sum.inr ()) := g2
      have g3' : f_X8_isIn (iN w) 0 4 = some 1 := g3
      have ck : ∀ f, f < 4 → f_X4_numberAt kn (iN m) (iN f) = some (a (796 + 4 * m + f)) := fun f hf => by
        rw [c_kept (by omega) hf, b5 _ (by omega), show 796 + (4 * m + f) = 796 + 4 * m + f by omega]
      by_cases hw : w = 4
      · subst hw
        obtain ⟨lo, hi, y1, y2, y3, y4⟩ := b6 m h1
        obtain ⟨r, t1, t2, t3, t4, t5, t6, t7, t8, t9, t10, t11, t12, t13, t14, t15, t16, t17, t18, t19, un', a', asd', mo', u1, u2, u3⟩ := m_costNow (un := un) (asd := asd) (mo := mo) (tnu := tnu) (tbo := tbo) (ten := ten) (the := the) (tso := tso) (tst := tst) (tkn := tkn) (tpr := tpr) (tse := tse) (tky := tky) (tss := tss) (tvs := tvs) h hH hN y1 y2
        have k0 : f_X4_numberAt kn (iN m) 0 = some (iN lo) := (ck 0 (by omega)).trans (congrArg some y3)
        have k1 : f_X4_numberAt kn (iN m) 1 = some (iN hi) := (ck 1 (by omega)).trans (congrArg some y4)
        have k3 : f_X4_numberAt kn (iN m) 3 = some (a (796 + 4 * m + 3)) := ck 3 (by omega)
        have l0 : f_X8_askedOf a (iN m) 0 = some (iN lo) := (r_askedOf (f := 0) (by omega) (by omega)).trans (congrArg some y3)
        have l1 : f_X8_askedOf a (iN m) 1 = some (iN hi) := (r_askedOf (f := 1) (by omega) (by omega)).trans (congrArg some y4)
        have l3 : f_X8_askedOf a' (iN m) 3 = some (a (796 + 4 * m + 3)) := (r_askedOf (f := 3) (by omega) (by omega)).trans (congrArg some (u3 _ (by omega)))
        have h44 : ((4 : Int32) ≤ iN 4) = True := eq_true (by decide)
        refine ⟨r - a (796 + 4 * m + 3), t1, t2, t3, t4, t5, t6, t7, t8, t9, t10, t11, t12, t13, t14, t15, t16, t17, t18, t19, un', a', asd', mo', ?_, ?_, u3⟩
        · rw [h2']
          simp only [bndx, g2', h44, if_true, k0, k1, bnd_some, u1, bnd20, k3, inR]
        · rw [r8, h3]
          simp only [bnd_some, e10, if_false, g3', some_jn, e00, if_true, h44, l0, l1, u2, bnd5, l3]
      · have h44 : ((4 : Int32) ≤ iN w) = False := eq_false (by show ¬ iN 4 ≤ iN w; rw [iN_le (by omega) (by omega)]; omega)
        refine ⟨a (796 + 4 * m + w), q0, q1, q2, tnu, q4, q5, tbo, ten, the, tso, tst, q11, tkn, tpr, tse, q15, tky, tss, tvs, un, a, asd, mo, ?_, ?_, fun j _ => rfl⟩
        · rw [h2']
          simp only [bndx, g2', h44, if_false, ck w (by omega), bnd_some, inR]
        · rw [r8, h3]
          simp only [bnd_some, e10, if_false, g3', some_jn, e00, if_true, h44, r_askedOf (show m < 20 by omega) (show w < 4 by omega)]
    · right; right
      have g2' : f_X7_checkRange y 0 4 = some (Sum.inl "java/lang/IllegalArgumentException") := g2
      have g3' : f_X8_isIn y 0 4 = some 0 := g3
      refine ⟨0, ?_, ?_⟩
      · rw [h2']
        simp only [bndx, g2']
      · rw [r8, h3]
        simp only [bnd_some, e10, if_false, g3', if_true, some_jn, e02]
  · right; left
    refine ⟨0, ?_, ?_⟩
    · rw [c3, h2]; rfl
    · rw [r8, h3]
      simp only [bnd_some, if_true, some_jn, e01, if_false]
end CST
