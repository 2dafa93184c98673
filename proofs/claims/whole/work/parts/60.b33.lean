section CHG
variable {H N : Nat} {pd tc gv sz pc kc rc sc0 sc1 km un : Int32} {nu bo en he so st kn pr se ky ss vs a kept kept' mo : Nat → Int32} {adr adr' : Nat → Nat → Nat} {sav sav' : Nat → CS}
theorem CRf_idx {n k : Nat} {K S W : Nat → Nat} {V : Nat → Int32} {P P' : List Pc} {pe : List Nat} {a a' : Nat → Int32} (h : CRf a n K S V P pe W k) (hr : RX a' P') (hn : n ≤ 120) (hpe : pe.length ≤ 40) (hf : ∀ j, ¬ idxR j → j < 876 → j ≠ 8 → (j < 9 ∨ 19 ≤ j) → a' j = a j) : CRf a' n K S V P' pe W k := by
  obtain ⟨r1, r2, r3, r4, r5, r6, r7, r8⟩ := h
  refine ⟨hr, by rw [hf 0 (by unfold idxR; omega) (by omega) (by omega) (by omega), r2], RP.frame r3 hpe (fun j hj => hf j (fun q => idx_pen q hj) (by unfold penR at hj; omega) (by unfold penR at hj; omega) (by unfold penR at hj; omega)), fun r hr => ?_, fun r hr => ?_, fun r hr => ?_, fun w hw => ?_, by rw [hf 19 (by unfold idxR; omega) (by omega) (by omega) (by omega), r8]⟩
  · refine ⟨?_, (r4 r hr).2⟩
    show a' (20 + r) = _
    rw [hf _ (by unfold idxR; omega) (by omega) (by omega) (by omega)]; exact (r4 r hr).1
  · refine ⟨?_, (r5 r hr).2⟩
    show a' (260 + r) = _
    rw [hf _ (by unfold idxR; omega) (by omega) (by omega) (by omega)]; exact (r5 r hr).1
  · show a' (140 + r) = _
    rw [hf _ (by unfold idxR; omega) (by omega) (by omega) (by omega)]; exact r6 r hr
  · refine ⟨?_, (r7 w hw).2⟩
    show a' (4 + w) = _
    rw [hf _ (by unfold idxR; omega) (by omega) (by omega) (by omega)]; exact (r7 w hw).1
theorem CBo_frame {tc tc' gv : Int32} {nu kn a a' : Nat → Int32} {k : Nat} (h : CBo tc gv nu kn a k) (hk : k ≤ 20) (h8 : tc' = a' 8) (hf : ∀ j, (9 ≤ j ∧ j < 19) ∨ (796 ≤ j ∧ j < 876) → a' j = a j) : CBo tc' gv nu kn a' k := by
  obtain ⟨b1, b2, b3, b4, b5, b6⟩ := h
  refine ⟨h8, by rw [hf 9 (by omega), b2], b3, fun hg j hj => by rw [hf _ (by omega), b4 hg j hj], fun j hj => by rw [hf _ (by omega), b5 j hj], fun i hi => ?_⟩
  obtain ⟨l, h, q1, q2, q3, q4⟩ := b6 i hi
  exact ⟨l, h, q1, q2, by rw [hf _ (by omega), q3], by rw [hf _ (by omega), q4]⟩
theorem SI_perm {n : Nat} {S : Nat → Nat} {P P' : List Pc} {pe : List Nat} (h : SI n S P pe) (hp : (flat P').Perm (flat P)) : SI n S P' pe := by
  obtain ⟨h1, h2⟩ := h
  exact ⟨fun r => by rw [hp.mem_iff]; exact h1 r, h2⟩
theorem m_sort (h : CRx H pd tc gv nu sz pc bo en he so st kc kn pr se rc ky ss vs a) (hN : 10000 < N) (hrm : f_X7_remember sc0 adr sav (pd, tc, gv, nu, sz, pc, bo, en, he, so, st, kc, kn, pr, se, rc, ky, ss, vs) = some (sc1, adr', sav')) (hkp : f_X8_keeps N km a kept = some (sc1, kept')) (x : Int32) :
    (∃ r en' so' a' mo', f_X7_sort N sc0 pd tc gv nu sz pc bo en he so st kc kn pr se rc ky ss vs adr sav x = some (Sum.inr (r, sc1, en', so', adr', sav')) ∧ f_X8_sort N km a kept mo x = some (r, sc1, 0, a', kept', mo') ∧ CRx H pd tc gv nu sz pc bo en' he so' st kc kn pr se rc ky ss vs a') ∨
    (∃ r, f_X7_sort N sc0 pd tc gv nu sz pc bo en he so st kc kn pr se rc ky ss vs adr sav x = some (Sum.inl "java/lang/IndexOutOfBoundsException") ∧ f_X8_sort N km a kept mo x = some (r, km, 1, a, kept, mo)) := by
  obtain ⟨n, K, S, V, P, pe, W, k, ⟨s1, s2, s3, s4, s5, s6, s7⟩, ⟨c1, c2, c3, c4, c5, c6, c7, c8, c9⟩, hR, hB⟩ := h
  have hz := s1.1
  have hl := hz.len; have hn := hz.nn
  obtain ⟨r1, r2, r3, r4, r5, r6, r7, r8⟩ := hR
  unfold f_X7_sort f_X8_sort f_X8_isPiece
  rcases idx_cases x P.length (by omega) with ⟨m, h1, rfl, h2, h3⟩ | ⟨h1, h2, h3⟩
  · left
    obtain ⟨en', so', e1, e2⟩ := c_putInOrder c2 hz c7 (show 1000 < N by omega) h1
    obtain ⟨a', mo', g1, g2, g3⟩ := r_sorts (mo := mo) r1 hz r4 (show 1000 < N by omega) h1
    have e3 := c_misplaced c2 hz c7 (show 1000 < N by omega) h1
    have hnd : (P[m].2.2.2).Nodup := by
      obtain ⟨A, X, B, hP, hA⟩ := split_at h1
      subst hP; subst hA
      have := s1.2.2.2
      rw [flat_append, flat, List.nodup_append, List.nodup_append] at this
      simpa using this.2.1.1
    rw [chg_mis hnd] at g1
    obtain ⟨p1, p2, p3, p4, p5⟩ := PI_srt s1 h1
    refine ⟨iN (misS K P[m].2.2.2), en', so', a', mo', ?_, ?_, n, K, S, V, srtS K m P, pe, W, k, ⟨p1, SI_perm s2 p3, by omega, by omega, s5, s6, s7⟩, ⟨c1, e2, c3, c4, c5, c6, c7, c8, c9⟩, CRf_idx ⟨r1, r2, r3, r4, r5, r6, r7, r8⟩ g2 hn (by omega) (fun j hj _ _ _ => g3 j hj), CBo_frame hB s7 (by rw [g3 8 (by unfold idxR; omega)]; exact hB.1) (fun j hj => g3 j (by unfold idxR; omega))⟩
    · rw [show f_X7_checkIndex (iN m) pc = some (Sum.inr ()) by rw [c2.hp]; exact h2]
      simp only [bndx, hrm, bnd3, e3, bnd_some, e1, bnd2, inR]
    · rw [r1.hp, h3]
      simp only [bnd_some, or_true, if_true, some_jn, show ((1 : Int32) = 0) = False from eq_false (by decide), if_false, show ((0 : Int32) ≤ 0) = True from eq_true (by decide), hkp, bnd2, g1, bnd3]
  · right
    refine ⟨0, ?_, ?_⟩
    · rw [c2.hp, h2]; rfl
    · rw [r1.hp, h3]; rfl
theorem m_crack (h : CRx H pd tc gv nu sz pc bo en he so st kc kn pr se rc ky ss vs a) (hN : 10000 < N) (hrm : f_X7_remember sc0 adr sav (pd, tc, gv, nu, sz, pc, bo, en, he, so, st, kc, kn, pr, se, rc, ky, ss, vs) = some (sc1, adr', sav')) (hkp : f_X8_keeps N km a kept = some (sc1, kept')) (x : Int32) :
    (∃ r tc' pc' bo' en' he' so' st' a' mo', f_X7_crack N sc0 pd tc gv nu sz pc bo en he so st kc kn pr se rc ky ss vs adr sav x = some (Sum.inr (r, sc1, tc', pc', bo', en', he', so', st', adr', sav')) ∧ f_X8_crack N km a kept mo x = some (r, sc1, 0, a', kept', mo') ∧ CRx H pd tc' gv nu sz pc' bo' en' he' so' st' kc kn pr se rc ky ss vs a') ∨
    (∃ r, f_X7_crack N sc0 pd tc gv nu sz pc bo en he so st kc kn pr se rc ky ss vs adr sav x = some (Sum.inl "java/lang/IllegalArgumentException") ∧ f_X8_crack N km a kept mo x = some (r, km, 1, a, kept, mo)) ∨
    (∃ r, f_X7_crack N sc0 pd tc gv nu sz pc bo en he so st kc kn pr se rc ky ss vs adr sav x = some (Sum.inl "java/lang/IllegalStateException") ∧ f_X8_crack N km a kept mo x = some (r, km, 2, a, kept, mo)) := by
  obtain ⟨n, K, S, V, P, pe, W, k, ⟨s1, s2, s3, s4, s5, s6, s7⟩, ⟨c1, c2, c3, c4, c5, c6, c7, c8, c9⟩, hR, hB⟩ := h
  have hz := s1.1
  have hl := hz.len; have hn := hz.nn
  obtain ⟨r1, r2, r3, r4, r5, r6, r7, r8⟩ := hR
  unfold f_X7_crack f_X8_crack
  have e10 : ((1 : Int32) = 0) = False := eq_false (by decide)
  rcases rng0_cases x 10000 (by omega) with ⟨m, h1, rfl, h2, h3⟩ | ⟨h1, h2, h3⟩
  · have h2' : f_X7_checkRange (iN m) 0 10000 = some (Sum.inr ()) := h2
    have h3' : f_X8_isIn (iN m) 0 10000 = some 1 := h3
    by_cases h60 : P.length < 60
    · left
      have q1 : (pc < 60) = True := eq_true (by rw [c2.hp]; show iN P.length < iN 60; rw [iN_lt (by omega) (by omega)]; exact h60)
      have q2 : (a 3 < 60) = True := eq_true (by rw [r1.hp]; show iN P.length < iN 60; rw [iN_lt (by omega) (by omega)]; exact h60)
      obtain ⟨pc', bo', en', he', so', st', e1, e2⟩ := c_divideAt (b := m) c2 hz c7 (show 1000 < N by omega) h1 (by omega)
      obtain ⟨a', mo', g1, g2, g3⟩ := r_cracks (mo := mo) (b := m) r1 hz r4 (show 1000 < N by omega) h1 (by omega) (HD0_le s1.2.1)
      obtain ⟨p1, p2, p3, p4, p5, p6, p7⟩ := PI_div (b := m) s1 h1 (by omega)
      have u8 : a' 8 = tc := by rw [g3 8 (by unfold idxR; omega)]; exact hB.1.symm
      refine ⟨iN (divC m P), tc + iN (divC m P), pc', bo', en', he', so', st', upd a' 8 (tc + iN (divC m P)), mo', ?_, ?_, n, K, S, V, divS K m P, pe, W, k, ⟨p1, SI_perm s2 p3, by omega, by omega, s5, s6, s7⟩, ⟨c1, e2, c3, c4, c5, c6, c7, c8, c9⟩, CRf_idx ⟨r1, r2, r3, r4, r5, r6, r7, r8⟩ (RX.frame g2 p1.1 (fun j hj => upd_ne (by unfold idxR at hj; omega))) hn (by omega) (fun j hj _ h8 _ => by rw [upd_ne h8, g3 j hj]), CBo_frame hB s7 (upd_self _ _ _).symm (fun j hj => by rw [upd_ne (by omega), g3 j (by unfold idxR; omega)])⟩
      · rw [h2']
        simp only [bndx, q1, if_true, hrm, bnd3, e1, bnd7, some_lt, inR]
      · rw [h3']
        simp only [bnd_some, some_jn, e10, if_false, q2, if_true, show ((0 : Int32) ≤ 0) = True from eq_true (by decide), hkp, bnd2, g1, bnd3, some_lt, u8]
    · right; right
      have q1 : (pc < 60) = False := eq_false (by rw [c2.hp]; show ¬ iN P.length < iN 60; rw [iN_lt (by omega) (by omega)]; exact h60)
      have q2 : (a 3 < 60) = False := eq_false (by rw [r1.hp]; show ¬ iN P.length < iN 60; rw [iN_lt (by omega) (by omega)]; exact h60)
      refine ⟨0, ?_, ?_⟩
      · rw [h2']
        simp only [bndx, q1, if_false]
      · rw [h3']
        simp only [bnd_some, some_jn, e10, if_false, q2]
        rfl
  · right; left
    have h2' : f_X7_checkRange x 0 10000 = some (Sum.inl "java/lang/IllegalArgumentException") := h2
    have h3' : f_X8_isIn x 0 10000 = some 0 := h3
    refine ⟨0, ?_, ?_⟩
    · rw [h2']; rfl
    · rw [h3']; rfl
theorem m_drop (h : CRx H pd tc gv nu sz pc bo en he so st kc kn pr se rc ky ss vs a) (hN : 10000 < N) (hrm : f_X7_remember sc0 adr sav (pd, tc, gv, nu, sz, pc, bo, en, he, so, st, kc, kn, pr, se, rc, ky, ss, vs) = some (sc1, adr', sav')) (hkp : f_X8_keeps N km a kept = some (sc1, kept')) (x : Int32) :
    (∃ r pc' bo' he' so' st' a', f_X7_drop N sc0 pd tc gv nu sz pc bo en he so st kc kn pr se rc ky ss vs adr sav x = some (Sum.inr (r, sc1, pc', bo', he', so', st', adr', sav')) ∧ f_X8_drop N km a kept x = some (r, sc1, 0, a', kept') ∧ CRx H pd tc gv nu sz pc' bo' en he' so' st' kc kn pr se rc ky ss vs a') ∨
    (∃ r, f_X7_drop N sc0 pd tc gv nu sz pc bo en he so st kc kn pr se rc ky ss vs adr sav x = some (Sum.inl "java/lang/IndexOutOfBoundsException") ∧ f_X8_drop N km a kept x = some (r, km, 1, a, kept)) ∨
    (∃ r, f_X7_drop N sc0 pd tc gv nu sz pc bo en he so st kc kn pr se rc ky ss vs adr sav x = some (Sum.inl "java/lang/IllegalStateException") ∧ f_X8_drop N km a kept x = some (r, km, 2, a, kept)) := by
  obtain ⟨n, K, S, V, P, pe, W, k, ⟨s1, s2, s3, s4, s5, s6, s7⟩, ⟨c1, c2, c3, c4, c5, c6, c7, c8, c9⟩, hR, hB⟩ := h
  have hz := s1.1
  have hl := hz.len; have hn := hz.nn
  obtain ⟨r1, r2, r3, r4, r5, r6, r7, r8⟩ := hR
  unfold f_X7_drop f_X8_drop f_X8_isPiece
  have e10 : ((1 : Int32) = 0) = False := eq_false (by decide)
  rcases idx_cases x P.length (by omega) with ⟨m, h1, rfl, h2, h3⟩ | ⟨h1, h2, h3⟩
  · have h2' : f_X7_checkIndex (iN m) pc = some (Sum.inr ()) := by rw [c2.hp]; exact h2
    by_cases hm : m = 0
    · right; right
      subst hm
      refine ⟨0, ?_, ?_⟩
      · rw [h2']; rfl
      · rw [r1.hp, h3]; rfl
    · left
      have q0 : (iN m = 0) = False := eq_false (by show ¬ iN m = iN 0; rw [iN_eq (by omega) (by omega)]; exact hm)
      have em : iN m - 1 = iN (m - 1) := iN_sub (b := 1) (by omega)
      obtain ⟨pc', bo', he', so', st', e1, e2⟩ := c_joinNext (p := m - 1) (N := N) c2 hz (by omega) (by omega)
      obtain ⟨a', g1, g2, g3⟩ := r_joins (p := m - 1) (N := N) r1 hz (by omega) (by omega)
      obtain ⟨p1, p2, p3, p4⟩ := PI_jn (p := m - 1) s1 (by omega)
      have e3 := c_sizeOf (p := m - 1) e2 p1.1 (by omega)
      have g4 := r_mn (p := m - 1) g2 p1.1 (by omega)
      have hb : m - 1 < (jnS (m - 1) P).length := by omega
      obtain ⟨rv, hrv⟩ : ∃ rv, rv = (jnS (m - 1) P)[m - 1].2.2.2.length := ⟨_, rfl⟩
      rw [← hrv] at e3 g4
      refine ⟨iN rv, pc', bo', he', so', st', a', ?_, ?_, n, K, S, V, jnS (m - 1) P, pe, W, k, ⟨p1, SI_perm s2 (by rw [p3]), by omega, by omega, s5, s6, s7⟩, ⟨c1, e2, c3, c4, c5, c6, c7, c8, c9⟩, CRf_idx ⟨r1, r2, r3, r4, r5, r6, r7, r8⟩ g2 hn (by omega) (fun j hj _ _ _ => g3 j hj), CBo_frame hB s7 (by rw [g3 8 (by unfold idxR; omega)]; exact hB.1) (fun j hj => g3 j (by unfold idxR; omega))⟩
      rotate_left
      · rw [r1.hp, h3]
        simp only [bnd_some, or_true, if_true, some_jn, e10, if_false, q0, show ((0 : Int32) ≤ 0) = True from eq_true (by decide), hkp, bnd2, em, g1, g4]
      · rw [h2']
        simp only [bndx, q0, if_false, hrm, bnd3, em, e1, bnd5, e3, bnd_some, inR]
  · right; left
    refine ⟨0, ?_, ?_⟩
    · rw [c2.hp, h2]; rfl
    · rw [r1.hp, h3]; rfl
theorem m_query (h : CRx H pd tc gv nu sz pc bo en he so st kc kn pr se rc ky ss vs a) (hH : H + 62 < 1073741824) (hN : 10000 < N) (hrm : f_X7_remember sc0 adr sav (pd, tc, gv, nu, sz, pc, bo, en, he, so, st, kc, kn, pr, se, rc, ky, ss, vs) = some (sc1, adr', sav')) (hkp : f_X8_keeps N km a kept = some (sc1, kept')) (x y : Int32) :
    (∃ r pd' tc' gv' nu' sz' pc' bo' en' he' so' st' kc' kn' pr' ss' un' a' mo', f_X7_query N sc0 pd tc gv nu sz pc bo en he so st kc kn pr se rc ky ss vs adr sav x y = some (Sum.inr (r, sc1, pd', tc', gv', nu', sz', pc', bo', en', he', so', st', kc', kn', pr', ss', adr', sav')) ∧ f_X8_query N km un a kept mo x y = some (r, sc1, 0, un', a', kept', mo') ∧ CRx (H + 62) pd' tc' gv' nu' sz' pc' bo' en' he' so' st' kc' kn' pr' se rc ky ss' vs a') ∨
    (∃ r, f_X7_query N sc0 pd tc gv nu sz pc bo en he so st kc kn pr se rc ky ss vs adr sav x y = some (Sum.inl "java/lang/IllegalArgumentException") ∧ f_X8_query N km un a kept mo x y = some (r, km, 1, un, a, kept, mo)) := by
  obtain ⟨n, K, S, V, P, pe, W, k, ⟨s1, s2, s3, s4, s5, s6, s7⟩, ⟨c1, c2, c3, c4, c5, c6, c7, c8, c9⟩, ⟨r1, r2, r3, r4, r5, r6, r7, r8⟩, ⟨b1, b2, b3, b4, b5, b6⟩⟩ := h
  have hz := s1.1
  have hl := hz.len; have hn := hz.nn
  have w3 := s6.2.2.2.2; have w2 := s6.2.2.1
  unfold f_X7_query f_X8_query
  have e10 : ((1 : Int32) = 0) = False := eq_false (by decide)
  rcases span_cases x y with ⟨lo, hi, h1, h2, rfl, rfl, h3, h4⟩ | ⟨h3, h4⟩
  · left
    obtain ⟨sz', pc', bo', en', he', so', st', pr', ss', nu', kn', e1, e2, e3, e4, ⟨n0, n4, n5, n6, n7, n8⟩, ⟨k0, k1, k2, k3, k4⟩⟩ := c_ask (tot := tc) (nu := nu) (kn := kn) (kc := k) (lo := lo) (hi := hi) c2 s1 s2 c7 c8 c9 c5 c4 (by omega) s7 s3 (by omega) h1 h2 (by omega) (by omega) (show 1000 < N by omega)
    obtain ⟨un', a1, mo', g1, g2, g3, g4, ⟨m0, m4, m5, m6, m7, m8⟩, g9, g8, g10⟩ := r_queries (un := un) (mo := mo) (tot := tc) (lo := lo) (hi := hi) r1 s1 s2 r3 r4 r5 r6 r7 b1.symm (by omega) s3 (by omega) h1 h2 (by omega) (by omega) (show 1000 < N by omega)
    obtain ⟨_, _, _, _, _, p6, l6, s6', i6⟩ := q_ok (W := W) s1 s2 s3 (by omega) h1 h2 (by omega) (by omega)
    have hml : (qM K S P pe lo hi).2.2.1.length ≤ pe.length := msp_len K lo hi pe S P
    obtain ⟨a', f1, f2, ⟨f3, f4, f5, f6⟩, f7, f8⟩ := r_notes (a := a1) (lo := lo) (hi := hi) (kc := k) s7 (by rw [g10 19 (by unfold qryR mrgR idxR penR; omega), r8]) (show 1000 < N by omega)
    have hr10 : a' 10 = iN (qT K S V P pe lo hi).1 := by rw [f8 10 (by omega) (by omega)]; exact m0.1
    have hnu0 : f_X0_numberAt nu' 0 = some (iN (qT K S V P pe lo hi).1) := by
      rw [show (0 : Int32) = iN 0 from rfl, c_numberAt (by omega), show nu' 0 = iN (qT K S V P pe lo hi).1 from n0.1]
    have fa : ∀ j, ¬ qryR j → j < 796 → j ≠ 19 → a' j = a j := fun j q1 q2 q3 => by rw [f8 j q2 q3, g10 j q1]
    refine ⟨iN (qT K S V P pe lo hi).1, iN (qM K S P pe lo hi).2.2.1.length, tc + iN (qC K S W V P pe lo hi), 1, nu', sz', pc', bo', en', he', so', st', iN (min (k + 1) 20), kn', pr', ss', un', a', mo', ?_, ?_, n, K, (qM K S P pe lo hi).1, V, qP6 K S W P pe lo hi, (qM K S P pe lo hi).2.2.1, W, min (k + 1) 20, ⟨p6, i6, l6, by omega, by omega, s6, by omega⟩, ⟨rfl, e2, rfl, e3, c5, c6, c7, e4, c9⟩, ⟨RX.frame g2 p6.1 (fun j hj => f8 j (by unfold idxR at hj; omega) (by unfold idxR at hj; omega)), by rw [fa 0 (by unfold qryR mrgR idxR penR; omega) (by omega) (by omega), r2], RP.frame g3 (by omega) (fun j hj => f8 j (by unfold penR at hj; omega) (by unfold penR at hj; omega)), fun r hr => ⟨?_, (r4 r hr).2⟩, fun r hr => ⟨?_, (g4 r hr).2⟩, fun r hr => ?_, fun w hw => ⟨?_, (r7 w hw).2⟩, f2⟩, ⟨?_, ?_, Or.inr rfl, fun _ j hj => ?_, fun j hj => ?_, fun i hik => ?_⟩⟩
    · rw [h3]
      rw [← c1, ← c3] at e1
      simp only [bndx, hrm, bnd3, e1, bnd15, hnu0, bnd_some, inR]
    · rw [h4]
      simp only [bnd_some, some_jn, e10, if_false, show ((0 : Int32) ≤ 0) = True from eq_true (by decide), if_true, hkp, bnd2, g1, bnd3, f1, hr10]
    · show a' (20 + r) = _
      rw [fa _ (by unfold qryR mrgR idxR penR; omega) (by omega) (by omega)]; exact (r4 r hr).1
    · show a' (260 + r) = _
      rw [f8 _ (by omega) (by omega)]; exact (g4 r hr).1
    · show a' (140 + r) = _
      rw [fa _ (by unfold qryR mrgR idxR penR; omega) (by omega) (by omega)]; exact r6 r hr
    · show a' (4 + w) = _
      rw [fa _ (by unfold qryR mrgR idxR penR; omega) (by omega) (by omega)]; exact (r7 w hw).1
    · rw [f8 8 (by omega) (by omega), g8]
    · rw [f8 9 (by omega) (by omega), g9]
    · rw [f8 (10 + j) (by omega) (by omega)]
      obtain ⟨x0, x1, x2, x3⟩ := n0
      obtain ⟨y0, y1, y2, y3⟩ := m0
      match j, hj with
      | 0, _ => exact x0.trans y0.symm
      | 1, _ => exact x1.trans y1.symm
      | 2, _ => exact x2.trans y2.symm
      | 3, _ => exact x3.trans y3.symm
      | 4, _ => exact n4.trans m4.symm
      | 5, _ => exact n5.trans m5.symm
      | 6, _ => exact n6.trans m6.symm
      | 7, _ => exact n7.trans m7.symm
      | 8, _ => exact n8.trans m8.symm
    · by_cases hj4 : j < 4
      · have a10 : a1 10 = iN (qT K S V P pe lo hi).1 := m0.1
        match j, hj4 with
        | 0, _ => exact k0.trans f3.symm
        | 1, _ => exact k1.trans f4.symm
        | 2, _ => exact k2.trans (f5.trans a10).symm
        | 3, _ => exact k3.trans (f6.trans m4).symm
      · rw [k4 j (by omega) (by omega), f7 j (by omega) hj, g10 _ (by unfold qryR mrgR idxR penR; omega)]
        exact b5 (j - 4) (by omega)
    · by_cases hi0 : i = 0
      · subst hi0
        exact ⟨lo, hi, h1, h2, f3, f4⟩
      · obtain ⟨l, h, q1, q2, q3, q4⟩ := b6 (i - 1) (by omega)
        refine ⟨l, h, q1, q2, ?_, ?_⟩
        · rw [f7 (4 * i) (by omega) (by omega), g10 _ (by unfold qryR mrgR idxR penR; omega), ← q3]; congr 1; omega
        · rw [Nat.add_assoc, f7 (4 * i + 1) (by omega) (by omega), g10 _ (by unfold qryR mrgR idxR penR; omega), ← q4]; congr 1; omega
  · right
    refine ⟨0, ?_, ?_⟩
    · rw [h3]; rfl
    · rw [h4]; rfl
end CHG
