section CHG3
variable {H N : Nat} {pd tc gv sz pc kc rc sc0 sc1 km un : Int32} {nu bo en he so st kn pr se ky ss vs a kept kept' mo : Nat → Int32} {adr adr' : Nat → Nat → Nat} {sav sav' : Nat → CS}
theorem PI_ext {n n' : Nat} {K K' : Nat → Nat} {P : List Pc} (h : PI n K P) (hn : n ≤ n') (hn2 : n' ≤ 120) (hK : ∀ r, r < n → K' r = K r) : PI n' K' P := by
  obtain ⟨⟨z1, z2, z3, z4, z5, z6, z7, z8⟩, h0, ⟨o1, o2⟩, hnd⟩ := h
  have hm : ∀ X ∈ P, ∀ r ∈ X.2.2.2, r < n := fun X hX r hr => z8 r (mem_flat.mpr ⟨X, hX, hr⟩)
  refine ⟨⟨hn2, z2, z3, z4, z5, z6, z7, fun r hr => by have := z8 r hr; omega⟩, h0, ⟨fun X hX r hr => ?_, ?_⟩, hnd⟩
  · rw [hK r (hm X hX r hr)]; exact o1 X hX r hr
  · refine List.Pairwise.imp_of_mem (fun {X Y} hX hY q => ⟨q.1, fun r hr => ?_⟩) o2
    rw [hK r (hm X hX r hr)]; exact q.2 r hr
theorem m_insert (h : CRx H pd tc gv nu sz pc bo en he so st kc kn pr se rc ky ss vs a) (hN : 10000 < N) (hrm : f_X7_remember sc0 adr sav (pd, tc, gv, nu, sz, pc, bo, en, he, so, st, kc, kn, pr, se, rc, ky, ss, vs) = some (sc1, adr', sav')) (hkp : f_X8_keeps N km a kept = some (sc1, kept')) (x y : Int32) :
    (∃ r pd' tc' sz' en' st' pr' rc' ky' ss' vs' a', f_X7_insert N sc0 pd tc gv nu sz pc bo en he so st kc kn pr se rc ky ss vs adr sav x y = some (Sum.inr (r, sc1, pd', tc', sz', en', st', pr', rc', ky', ss', vs', adr', sav')) ∧ f_X8_insert N km a kept x y = some (r, sc1, 0, a', kept') ∧ CRx H pd' tc' gv nu sz' pc bo en' he so st' kc kn pr' se rc' ky' ss' vs' a') ∨
    (∃ r, f_X7_insert N sc0 pd tc gv nu sz pc bo en he so st kc kn pr se rc ky ss vs adr sav x y = some (Sum.inl "java/lang/IllegalArgumentException") ∧ f_X8_insert N km a kept x y = some (r, km, 1, a, kept)) ∨
    (∃ r, f_X7_insert N sc0 pd tc gv nu sz pc bo en he so st kc kn pr se rc ky ss vs adr sav x y = some (Sum.inl "java/lang/IllegalStateException") ∧ f_X8_insert N km a kept x y = some (r, km, 2, a, kept)) := by
  obtain ⟨n, K, S, V, P, pe, W, k, ⟨s1, s2, s3, s4, s5, s6, s7⟩, ⟨c1, c2, c3, c4, c5, c6, c7, c8, c9⟩, hR, hB⟩ := h
  have hz := s1.1
  have hn := hz.nn
  have w3 := s6.2.2.2.2
  obtain ⟨r1, r2, r3, r4, r5, r6, r7, r8⟩ := hR
  unfold f_X7_insert f_X8_insert
  have e10 : ((1 : Int32) = 0) = False := eq_false (by decide)
  rcases rng0_cases x 9999 (by omega) with ⟨m, h1, rfl, h2, h3⟩ | ⟨h1, h2, h3⟩
  · have h2' : f_X7_checkRange (iN m) 0 9999 = some (Sum.inr ()) := h2
    have h3' : f_X8_isIn (iN m) 0 9999 = some 1 := h3
    rcases rng_cases y (-99) 99 with ⟨_, _, g3, g4⟩ | ⟨g3, g4⟩
    · by_cases hful : n = 120
      · right; right
        have q1 : (rc < 120) = False := eq_false (by rw [c6]; show ¬ iN n < iN 120; rw [iN_lt (by omega) (by omega)]; omega)
        have q2 : (a 0 = 120) = True := eq_true (by rw [r2, hful]; rfl)
        refine ⟨0, ?_, ?_⟩
        · rw [h2', g3]
          simp only [bndx, q1, if_false]
        · rw [h3', g4]
          simp only [bnd_some, some_jn, e10, if_false, q2, if_true]
          rfl
      · left
        have hn1 : n < 120 := by omega
        have q1 : (rc < 120) = True := eq_true (by rw [c6]; show iN n < iN 120; rw [iN_lt (by omega) (by omega)]; omega)
        have q2 : (a 0 = 120) = False := eq_false (by rw [r2]; show ¬ iN n = iN 120; rw [iN_eq (by omega) (by omega)]; omega)
        obtain ⟨K', hK'⟩ : ∃ K' : Nat → Nat, K' = fun j => if j = n then m else K j := ⟨_, rfl⟩
        obtain ⟨S', hS'⟩ : ∃ S' : Nat → Nat, S' = fun j => if j = n then 1 else S j := ⟨_, rfl⟩
        obtain ⟨V', hV'⟩ : ∃ V' : Nat → Int32, V' = fun j => if j = n then y else V j := ⟨_, rfl⟩
        have hKlt : ∀ r, r < n → K' r = K r := fun r hr => by rw [hK']; simp only; rw [if_neg (by omega)]
        have hSlt : ∀ r, r < n → S' r = S r := fun r hr => by rw [hS']; simp only; rw [if_neg (by omega)]
        have hVlt : ∀ r, r < n → V' r = V r := fun r hr => by rw [hV']; simp only; rw [if_neg (by omega)]
        have hKn : K' n = m := by rw [hK']; simp
        have hSn : S' n = 1 := by rw [hS']; simp
        have hVn : V' n = y := by rw [hV']; simp
        have p1 : PI (n + 1) K' P := PI_ext s1 (by omega) (by omega) hKlt
        obtain ⟨j1, j2, j3, j4⟩ := s2
        have hni : n ∉ pe := fun hx => by have := ((j3 n).mp hx).1; omega
        have hnf : n ∉ flat P := fun hx => by have := ((j1 n).mp hx).1; omega
        have s2' : SI (n + 1) S' P (pe ++ [n]) := by
          refine ⟨fun r => ?_, ?_, fun r => ?_, fun r hr => ?_⟩
          · by_cases hx : r = n
            · subst hx
              constructor
              · intro q; exact absurd q hnf
              · rintro ⟨_, q⟩; rw [hSn] at q; omega
            · rw [j1 r]
              constructor
              · rintro ⟨q, q2⟩; exact ⟨by omega, by rw [hSlt r q]; exact q2⟩
              · rintro ⟨q, q2⟩; have : r < n := by omega
                rw [hSlt r this] at q2; exact ⟨this, q2⟩
          · rw [List.nodup_append]
            exact ⟨j2, by simp, fun u hu v hv => by simp at hv; subst hv; intro e; exact hni (e ▸ hu)⟩
          · rw [List.mem_append, List.mem_singleton]
            by_cases hx : r = n
            · subst hx; rw [hSn]; simp
            · rw [j3 r]
              constructor
              · rintro (⟨q, q2⟩ | q)
                · exact ⟨by omega, by rw [hSlt r q]; exact q2⟩
                · exact absurd q hx
              · rintro ⟨q, q2⟩; have : r < n := by omega
                rw [hSlt r this] at q2; exact Or.inl ⟨this, q2⟩
          · by_cases hx : r = n
            · subst hx; rw [hSn]; omega
            · have : r < n := by omega
              rw [hSlt r this]; exact j4 r this
        have c7' : KY (n + 1) (upd ky n (iN m)) K' := fun r hr => by
          by_cases hx : r = n
          · subst hx; rw [upd_self, hKn]; exact ⟨rfl, by omega⟩
          · rw [upd_ne hx, hKlt r (by omega)]; exact c7 r (by omega)
        have c8' : ST (n + 1) (upd ss n (iN 1)) S' := fun r hr => by
          by_cases hx : r = n
          · subst hx; rw [upd_self, hSn]; exact ⟨rfl, by omega⟩
          · rw [upd_ne hx, hSlt r (by omega)]; exact c8 r (by omega)
        have c9' : VA (n + 1) (upd vs n y) V' := fun r hr => by
          by_cases hx : r = n
          · subst hx; rw [upd_self, hVn]
          · rw [upd_ne hx, hVlt r (by omega)]; exact c9 r (by omega)
        have e1 : f_X6_add rc ky ss vs (iN m) y 1 = some (iN n, iN (n + 1), upd ky n (iN m), upd ss n (iN 1), upd vs n y) := by
          rw [c6]; unfold f_X6_add; simp (disch := omega) only [Nat.add_zero, iN_lit, iN_lt, iN_le, iN_eq, iN_add, iN_mul, iN_sub, iN_nat, iN_div, iN_mod, iN_pred', n1_lt, n1_le, n1_ne, n1_ne', n1_nle, n1_nlt, n1_eq, oobN, some_lt, some_jn, bnd_some, Bool.false_eq_true, if_true, if_false, ite_true, ite_false, ↓reduceIte, ltT, ltF, leT, leF, eqT, eqF, true_and, and_true, false_and, and_false, true_or, or_true, false_or, or_false, not_true_eq_false, not_false_eq_true, if_pos, if_neg]
        obtain ⟨pr1, e2, e3⟩ := c_addPending (row := n) c4 (by omega)
        obtain ⟨sz', en', st', pr', ss', e4, e5, e6, e7⟩ := c_mergeTooMany (tot := tc) (pe := pe ++ [n]) c2 p1 s2' c7' c8' c5 e3 (by simp; omega) (show 1000 < N by omega)
        -- the reference
        let b := upd (upd (upd (upd a (20 + n) (iN m)) (140 + n) y) (260 + n) (iN 1)) 0 (iN (n + 1))
        have hb : b = upd (upd (upd (upd a (20 + n) (iN m)) (140 + n) y) (260 + n) (iN 1)) 0 (iN (n + 1)) := rfl
        have fb : ∀ j, j ≠ 20 + n → j ≠ 140 + n → j ≠ 260 + n → j ≠ 0 → b j = a j := fun j x1 x2 x3 x4 => by rw [hb, upd_ne x4, upd_ne x3, upd_ne x2, upd_ne x1]
        have hbR : RX b P := RX.frame r1 hz (fun j hj => fb j (by unfold idxR at hj; omega) (by unfold idxR at hj; omega) (by unfold idxR at hj; omega) (by unfold idxR at hj; omega))
        have hbP : RP b pe := RP.frame r3 (by omega) (fun j hj => fb j (by unfold penR at hj; omega) (by unfold penR at hj; omega) (by unfold penR at hj; omega) (by unfold penR at hj; omega))
        obtain ⟨b1, x1, x2, x3⟩ := r_waits (row := n) hbP (by omega)
        have fb1 : ∀ j, ¬ penR j → j ≠ 20 + n → j ≠ 140 + n → j ≠ 260 + n → j ≠ 0 → b1 j = a j := fun j y0 y1 y2 y3 y4 => by rw [x3 j y0, fb j y1 y2 y3 y4]
        have hk1 : KY (n + 1) (fun r => b1 (20 + r)) K' := fun r hr => by
          by_cases hx : r = n
          · subst hx
            refine ⟨?_, by rw [hKn]; omega⟩
            show b1 (20 + r) = _
            rw [x3 _ (by unfold penR; omega), hb, upd_ne (by omega), upd_ne (by omega), upd_ne (by omega), upd_self, hKn]
          · have hr2 : r < n := by omega
            refine ⟨?_, by rw [hKlt r hr2]; exact (r4 r hr2).2⟩
            show b1 (20 + r) = _
            rw [fb1 _ (by unfold penR; omega) (by omega) (by omega) (by omega) (by omega), hKlt r hr2]; exact (r4 r hr2).1
        have hs1 : ST (n + 1) (fun r => b1 (260 + r)) S' := fun r hr => by
          by_cases hx : r = n
          · subst hx
            refine ⟨?_, by rw [hSn]; omega⟩
            show b1 (260 + r) = _
            rw [x3 _ (by unfold penR; omega), hb, upd_ne (by omega), upd_self, hSn]
          · have hr2 : r < n := by omega
            refine ⟨?_, by rw [hSlt r hr2]; exact (r5 r hr2).2⟩
            show b1 (260 + r) = _
            rw [fb1 _ (by unfold penR; omega) (by omega) (by omega) (by omega) (by omega), hSlt r hr2]; exact (r5 r hr2).1
        have hv1 : VA (n + 1) (fun r => b1 (140 + r)) V' := fun r hr => by
          show b1 (140 + r) = _
          by_cases hx : r = n
          · subst hx
            rw [x3 _ (by unfold penR; omega), hb, upd_ne (by omega), upd_ne (by omega), upd_self, hVn]
          · have hr2 : r < n := by omega
            rw [fb1 _ (by unfold penR; omega) (by omega) (by omega) (by omega) (by omega), hVlt r hr2]; exact r6 r hr2
        have hR1 : RX b1 P := RX.frame hbR hz (fun j hj => x3 j (idx_pen hj))
        have hw1 : SE (fun w => b1 (4 + w)) W := fun w hw => ⟨by show b1 (4 + w) = _; rw [fb1 _ (by unfold penR; omega) (by omega) (by omega) (by omega) (by omega)]; exact (r7 w hw).1, (r7 w hw).2⟩
        obtain ⟨a1, d1, d2, d3, d4, d5, d6⟩ := r_forces (tot := tc) (W := W) (a := b1) (pe := pe ++ [n]) hR1 p1 s2' x2 (by simp; omega) hk1 hs1 (hw1 3 (by omega)).1 (by omega) (by rw [fb1 8 (by unfold penR; omega) (by omega) (by omega) (by omega) (by omega)]; exact hB.1.symm) (show 1000 < N by omega)
        obtain ⟨z1, z2, z3, z4, z5⟩ := frc_ok ((pe ++ [n]).length - W 3) (pe ++ [n]) S' P p1 s2'
        have hl5 : (frcS K' ((pe ++ [n]).length - W 3) (pe ++ [n]) S' P).2.2.1.length ≤ W 3 := by rw [z5, List.length_drop]; omega
        have hCR : CRf b1 (n + 1) K' S' V' P (pe ++ [n]) W k := ⟨hR1, by rw [x3 0 (by unfold penR; omega), hb, upd_self], x2, hk1, hs1, hv1, hw1, by rw [fb1 19 (by unfold penR; omega) (by omega) (by omega) (by omega) (by omega), r8]⟩
        have hB1 : CBo tc gv nu kn b1 k := CBo_frame hB s7 (by rw [fb1 8 (by unfold penR; omega) (by omega) (by omega) (by omega) (by omega)]; exact hB.1) (fun j hj => fb1 j (by unfold penR; omega) (by omega) (by omega) (by omega) (by omega))
        refine ⟨iN n, iN (frcS K' ((pe ++ [n]).length - W 3) (pe ++ [n]) S' P).2.2.1.length, tc + iN (frcS K' ((pe ++ [n]).length - W 3) (pe ++ [n]) S' P).2.2.2, sz', en', st', pr', iN (n + 1), upd ky n (iN m), ss', upd vs n y, a1, ?_, ?_, n + 1, K', (frcS K' ((pe ++ [n]).length - W 3) (pe ++ [n]) S' P).1, V', (frcS K' ((pe ++ [n]).length - W 3) (pe ++ [n]) S' P).2.1, (frcS K' ((pe ++ [n]).length - W 3) (pe ++ [n]) S' P).2.2.1, W, k, ⟨z1, z2, by omega, by omega, hl5, s6, s7⟩, ⟨rfl, e5, c3, e6, c5, rfl, c7', e7, c9'⟩, CRf_mrg hCR (by omega) d2 d3 d4 d6, CBo_frame hB1 s7 d5.symm (fun j hj => d6 j (by unfold mrgR idxR penR; omega) (by omega))⟩
        · rw [h2', g3]
          simp only [bndx, q1, if_true, hrm, bnd3]
          unfold f_X2_insertRow
          rw [← c1] at e2
          simp only [e1, bnd5, e2, bnd2, e4, bnd7, bnd11, inR]
        · rw [h3', g4]
          have q2' : (iN n = 120) = False := by rw [← r2]; exact q2
          simp only [bnd_some, some_jn, e10, if_false, q2', show ((0 : Int32) ≤ 0) = True from eq_true (by decide), if_true, hkp, bnd2, some_lt, r2]
          have u1 : oob (20 + iN n) 876 = False := eq_false (by rw [show (20 : Int32) + iN n = iN (20 + n) from iN_add 20 n, oobN (by omega)]; omega)
          have u2 : (20 + iN n).toNatClampNeg = 20 + n := by rw [show (20 : Int32) + iN n = iN (20 + n) from iN_add 20 n, iN_nat (by omega)]
          have u3 : oob (140 + iN n) 876 = False := eq_false (by rw [show (140 : Int32) + iN n = iN (140 + n) from iN_add 140 n, oobN (by omega)]; omega)
          have u4 : (140 + iN n).toNatClampNeg = 140 + n := by rw [show (140 : Int32) + iN n = iN (140 + n) from iN_add 140 n, iN_nat (by omega)]
          have u5 : oob (260 + iN n) 876 = False := eq_false (by rw [show (260 : Int32) + iN n = iN (260 + n) from iN_add 260 n, oobN (by omega)]; omega)
          have u6 : (260 + iN n).toNatClampNeg = 260 + n := by rw [show (260 : Int32) + iN n = iN (260 + n) from iN_add 260 n, iN_nat (by omega)]
          have u7 : upd (upd (upd a (20 + n) (iN m)) (140 + n) y) (260 + n) 1 0 = iN n := by rw [upd_ne (by omega), upd_ne (by omega), upd_ne (by omega), r2]
          simp only [u1, u2, u3, u4, u5, u6, if_false, u7, show iN n + 1 = iN (n + 1) from iN_add _ 1]
          have x1' : f_X8_waits (upd (upd (upd (upd a (20 + n) (iN m)) (140 + n) y) (260 + n) 1) 0 (iN (n + 1))) (iN n) = some b1 := x1
          rw [x1', bnd_some, d1, bnd_some]
    · right; left
      refine ⟨0, ?_, ?_⟩
      · rw [h2', g3]; rfl
      · rw [h3', g4]; rfl
  · right; left
    have h2' : f_X7_checkRange x 0 9999 = some (Sum.inl "java/lang/IllegalArgumentException") := h2
    have h3' : f_X8_isIn x 0 9999 = some 0 := h3
    refine ⟨0, ?_, ?_⟩
    · rw [h2']; rfl
    · rw [h3']; rfl
end CHG3
