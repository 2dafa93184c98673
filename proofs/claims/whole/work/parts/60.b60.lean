section LOD
variable {H N : Nat} {pd tc gv sz pc kc rc bl mb sc0 sc1 km z1 z2 z3 z4 z5 z6 z7 z8 : Int32} {nu bo en he so st kn pr se ky ss vs a kept kept' bb mf fr : Nat → Int32} {tnu tbo ten the tso tst tkn tpr tse tky tss tvs : Nat → Int32} {adr adr' : Nat → Nat → Nat} {sav sav' : Nat → CS}
theorem m_load (hb : BF bl bb mb mf) (hN : 10000 < N) (hrm : f_X7_remember sc0 adr sav (pd, tc, gv, nu, sz, pc, bo, en, he, so, st, kc, kn, pr, se, rc, ky, ss, vs) = some (sc1, adr', sav')) (hkp : f_X8_keeps N km a kept = some (sc1, kept')) (x : Int32) :
    (∃ r pd' tc' gv' nu' sz' pc' bo' en' he' so' st' kc' kn' pr' se' rc' ky' ss' vs' l1 l2 l3 t1 t2 t3 t4 t5 t6 t7 t8 t9 t10 t11 t12 t13 t14 t15 t16 t17 y1 y2 y3 y4 y5 y6 y7 a' fr', f_X7_load N sc0 bl bb pd tc gv nu sz pc bo en he so st kc kn pr se rc ky ss vs tnu tbo ten the tso tst tkn tpr tse tky tss tvs 900 adr sav x = some (Sum.inr (r, sc1, -1, 0, pd', tc', gv', nu', sz', pc', bo', en', he', so', st', kc', kn', pr', se', rc', ky', ss', vs', l1, l2, l3, -1, t1, t2, t3, t4, t5, t6, t7, t8, t9, t10, t11, t12, t13, t14, t15, t16, t17, adr', sav')) ∧
      f_X8_load N km mb z1 z2 z3 z4 z5 z6 z7 z8 a mf fr kept x = some (r, sc1, 0, 0, y1, y2, y3, y4, y5, y6, y7, -1, a', fr', kept') ∧ CRx H pd' tc' gv' nu' sz' pc' bo' en' he' so' st' kc' kn' pr' se' rc' ky' ss' vs' a') ∨
    (∃ r ea l1 l2 l3 t1 t2 t3 t4 t5 t6 t7 t8 t9 t10 t11 t12 t13 t14 t15 t16 t17 y1 y2 y3 y4 y5 y6 y7 fr', f_X7_load N sc0 bl bb pd tc gv nu sz pc bo en he so st kc kn pr se rc ky ss vs tnu tbo ten the tso tst tkn tpr tse tky tss tvs 900 adr sav x = some (Sum.inr (r, sc0, ea, 0, pd, tc, gv, nu, sz, pc, bo, en, he, so, st, kc, kn, pr, se, rc, ky, ss, vs, l1, l2, l3, ea, t1, t2, t3, t4, t5, t6, t7, t8, t9, t10, t11, t12, t13, t14, t15, t16, t17, adr, sav)) ∧
      f_X8_load N km mb z1 z2 z3 z4 z5 z6 z7 z8 a mf fr kept x = some (r, km, 0, 0, y1, y2, y3, y4, y5, y6, y7, ea, a, fr', kept)) ∨
    (∃ r, f_X7_load N sc0 bl bb pd tc gv nu sz pc bo en he so st kc kn pr se rc ky ss vs tnu tbo ten the tso tst tkn tpr tse tky tss tvs 900 adr sav x = some (Sum.inl "java/lang/IllegalArgumentException") ∧ f_X8_load N km mb z1 z2 z3 z4 z5 z6 z7 z8 a mf fr kept x = some (r, km, 1, mb, z1, z2, z3, z4, z5, z6, z7, z8, a, fr, kept)) := by
  obtain ⟨len, b1, rfl, rfl, b2⟩ := hb
  have hT := TX_of b1 b2
  have e00 : ((0 : Int32) ≤ 0) = True := eq_true (by decide)
  have e10 : ((1 : Int32) = 0) = False := eq_false (by decide)
  have e11 : ((1 : Int32) ≤ 0) = False := eq_false (by decide)
  rcases rng0_cases x len (by omega) with ⟨L, h1, rfl, h2, h3⟩ | ⟨h1, h2, h3⟩
  · obtain ⟨j, er, ea, n, K, V, W, nu', sz', en', st', se', ky', ss', vs', b0, a0, be0, ki0, m0, a1, be1, ki1, m1, wa1, b1', q1, q2, q3, q4, q5, q6, q7⟩ := p_read (nu := tnu) (bo := tbo) (en := ten) (he := the) (so := tso) (st := tst) (se := tse) (ky := tky) (ss := tss) (vs := tvs) (fr := fr) (n0 := z5) (wa := z7) hT h1 (show 1000 < N by omega)
    by_cases he : er = 0
    · left
      subst he
      have hea := q6 rfl
      subst hea
      have hn : n ≤ 120 := q5.1.1
      have s0 : b1' 0 = iN n := q5.1.2.2.2.2.2.1
      obtain ⟨a', l0, l1, l3, l5, l4, l6⟩ := r_lays (N := N) (a := fun j => if j < 876 then b1' j else a j) (n := n) (by rw [if_pos (by omega)]; exact s0) hn (by omega)
      have hcr : CRx H 0 0 0 nu' sz' 1 (upd tbo 0 0) en' (upd the 0 0) (upd tso 0 0) st' 0 tkn tpr se' (iN n) ky' ss' vs' a' := TS_CR q5 (a := fun j => if j < 876 then b1' j else a j) (fun j hj => if_pos hj) l1 l3 l5 l4 l6
      have n0 : (iN n < (0 : Int32)) = False := eq_false (by show ¬ _ < iN 0; rw [iN_lt (by omega) (by omega)]; omega)
      have ar : a' 0 = iN n := by rw [l6 0 (by omega) (by omega) (by omega) (by omega)]; show (if 0 < 876 then b1' 0 else a 0) = _; rw [if_pos (by omega)]; exact s0
      refine ⟨iN n, 0, 0, 0, va_cpy nu' nu 0 0 9, sz', 1, va_cpy (upd tbo 0 0) bo 0 0 62, va_cpy en' en 0 0 120, va_cpy (upd the 0 0) he 0 0 62, va_cpy (upd tso 0 0) so 0 0 62, va_cpy st' st 0 0 62, 0, va_cpy tkn kn 0 0 80, va_cpy tpr pr 0 0 31, va_cpy se' se 0 0 4, iN n, va_cpy ky' ky 0 0 120, va_cpy ss' ss 0 0 120, va_cpy vs' vs 0 0 120, iN L, iN j, 0, 0, 0, 0, nu', sz', 1, upd tbo 0 0, en', upd the 0 0, upd tso 0 0, st', 0, se', iN n, ky', ss', vs', iN L, a1, be1, ki1, m1, 0, wa1, a', b1', ?_, ?_, CRx.class_congr hcr (fun j hj => cpy_lt hj) (fun j hj => cpy_lt hj) (fun j hj => cpy_lt hj) (fun j hj => cpy_lt hj) (fun j hj => cpy_lt hj) (fun j hj => cpy_lt hj) (fun j hj => cpy_lt hj) (fun j hj => cpy_lt hj) (fun j hj => cpy_lt hj) (fun j hj => cpy_lt hj) (fun j hj => cpy_lt hj) (fun j hj => cpy_lt hj)⟩
      · unfold f_X7_load
        rw [h2, q1]
        simp only [bndx, bnd22, if_true, n0, if_false, hrm, bnd3, c_become19 (gv := 0) (Or.inl rfl), bnd19, inR]
      · unfold f_X8_load
        rw [h3]
        simp only [bnd_some, some_jn, e10, if_false, e00, if_true, q2, q3, bnd4]
        refine (q4 _).trans ?_
        simp only [if_true, hkp, bnd2, r_sets (show 1000 < N by omega), bnd_some, l0, ar]
    · right; left
      obtain ⟨hng, hea⟩ := q7 he
      have e0 : (er = 0) = False := eq_false he
      have e1 : (er < 0) = True := eq_true hng
      refine ⟨er, ea, iN L, iN j, er, 0, 0, 0, nu', sz', 1, upd tbo 0 0, en', upd the 0 0, upd tso 0 0, st', 0, se', iN n, ky', ss', vs', iN L, a1, be1, ki1, m1, er, wa1, b1', ?_, ?_⟩
      · unfold f_X7_load
        rw [h2, q1]
        simp only [bndx, bnd22, e0, if_false, e1, if_true, inR]
      · unfold f_X8_load
        rw [h3]
        simp only [bnd_some, some_jn, e10, if_false, e00, if_true, q2, q3, bnd4]
        refine (q4 _).trans ?_
        simp only [e0, if_false, hea]
  · right; right
    refine ⟨0, ?_, ?_⟩
    · unfold f_X7_load
      rw [h2]
      rfl
    · unfold f_X8_load
      rw [h3]
      simp only [bnd_some, some_jn, if_true, e11, if_false]
end LOD
