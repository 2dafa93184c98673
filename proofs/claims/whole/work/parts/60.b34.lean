section CHG2
variable {H N : Nat} {pd tc gv sz pc kc rc sc0 sc1 km un : Int32} {nu bo en he so st kn pr se ky ss vs a kept kept' mo : Nat → Int32} {adr adr' : Nat → Nat → Nat} {sav sav' : Nat → CS}
theorem CRf_mrg {n k : Nat} {K S S' W : Nat → Nat} {V : Nat → Int32} {P P' : List Pc} {pe pe' : List Nat} {a a' : Nat → Int32} (h : CRf a n K S V P pe W k) (hn : n ≤ 120) (h1 : RX a' P') (h2 : RP a' pe') (h3 : ST n (fun r => a' (260 + r)) S') (hf : ∀ j, ¬ mrgR j → j ≠ 8 → a' j = a j) : CRf a' n K S' V P' pe' W k := by
  obtain ⟨r1, r2, r3, r4, r5, r6, r7, r8⟩ := h
  refine ⟨h1, by rw [hf 0 (by unfold mrgR idxR penR; omega) (by omega), r2], h2, fun r hr => ⟨?_, (r4 r hr).2⟩, h3, fun r hr => ?_, fun w hw => ⟨?_, (r7 w hw).2⟩, by rw [hf 19 (by unfold mrgR idxR penR; omega) (by omega), r8]⟩
  · show a' (20 + r) = _
    rw [hf _ (by unfold mrgR idxR penR; omega) (by omega)]; exact (r4 r hr).1
  · show a' (140 + r) = _
    rw [hf _ (by unfold mrgR idxR penR; omega) (by omega)]; exact r6 r hr
  · show a' (4 + w) = _
    rw [hf _ (by unfold mrgR idxR penR; omega) (by omega)]; exact (r7 w hw).1
theorem m_mergeAll (h : CRx H pd tc gv nu sz pc bo en he so st kc kn pr se rc ky ss vs a) (hN : 10000 < N) (hrm : f_X7_remember sc0 adr sav (pd, tc, gv, nu, sz, pc, bo, en, he, so, st, kc, kn, pr, se, rc, ky, ss, vs) = some (sc1, adr', sav')) (hkp : f_X8_keeps N km a kept = some (sc1, kept')) :
    ∃ r pd' tc' sz' en' st' pr' ss' a', f_X7_mergeAll N sc0 pd tc gv nu sz pc bo en he so st kc kn pr se rc ky ss vs adr sav = some (r, sc1, pd', tc', sz', en', st', pr', ss', adr', sav') ∧ f_X8_mergeAll N km a kept = some (r, sc1, 0, a', kept') ∧ CRx H pd' tc' gv nu sz' pc bo en' he so st' kc kn pr' se rc ky ss' vs a' := by
  obtain ⟨n, K, S, V, P, pe, W, k, ⟨s1, s2, s3, s4, s5, s6, s7⟩, ⟨c1, c2, c3, c4, c5, c6, c7, c8, c9⟩, hR, hB⟩ := h
  have hz := s1.1
  have hn := hz.nn
  have w3 := s6.2.2.2.2
  have hR0 := hR
  obtain ⟨r1, r2, r3, r4, r5, r6, r7, r8⟩ := hR
  have hall : ∀ r ∈ pe, K r < 10000 := fun r hr => (c7 r ((s2.2.2.1 r).mp hr).1).2
  have hms := msp_frc (K := K) pe S P hall
  obtain ⟨sz', en', st', pr', ss', e1, e2, e3, e4⟩ := c_mergeSpan (lo := 0) (hi := 10000) c2 s1 s2 c7 c8 c4 (by omega) (by omega) (by omega) (show 1000 < N by omega)
  rw [hms] at e1 e2 e3 e4
  obtain ⟨q1, q2, q3, q4, q5⟩ := frc_ok pe.length pe S P s1 s2
  rw [List.drop_length] at q5
  obtain ⟨a1, g1, g2, g3, g4, g5⟩ := r_mergeAllLoop r1 s1 s2 r3 (by omega) r4 r5 (show 1000 < N by omega) (fun (x1_31_4 : Int32) (t_a_31_5 : (Nat → Int32)) => lt (upd t_a_31_5 8 ((t_a_31_5 8) + x1_31_4)) (fun t_a_41_7 => some (x1_31_4, sc1, 0, t_a_41_7, kept')))
  have u8 : a1 8 = tc := by rw [g5 8 (by unfold mrgR idxR penR; omega)]; exact hB.1.symm
  refine ⟨iN (frcS K pe.length pe S P).2.2.2, iN (frcS K pe.length pe S P).2.2.1.length, tc + iN (frcS K pe.length pe S P).2.2.2, sz', en', st', pr', ss', upd a1 8 (tc + iN (frcS K pe.length pe S P).2.2.2), ?_, ?_, n, K, (frcS K pe.length pe S P).1, V, (frcS K pe.length pe S P).2.1, (frcS K pe.length pe S P).2.2.1, W, k, ⟨q1, q2, by omega, by omega, by rw [q5]; simp, s6, s7⟩, ⟨rfl, e2, c3, e3, c5, c6, c7, e4, c9⟩, CRf_mrg hR0 hn (RX.frame g2 q1.1 (fun j hj => upd_ne (by unfold idxR at hj; omega))) (RP.frame g3 (by rw [q5]; simp) (fun j hj => upd_ne (by unfold penR at hj; omega))) (fun x hx => ⟨?_, (g4 x hx).2⟩) (fun j hj h8 => by rw [upd_ne h8, g5 j hj]), CBo_frame hB s7 (upd_self _ _ _).symm (fun j hj => by rw [upd_ne (by omega), g5 j (by unfold mrgR idxR penR; omega)])⟩
  · unfold f_X7_mergeAll f_X2_mergeEverything
    have e1' : f_X2_mergeSpan N pd sz pc bo en so st pr ky ss 0 10000 = some (iN (frcS K pe.length pe S P).2.2.2, iN (frcS K pe.length pe S P).2.2.1.length, sz', en', st', pr', ss') := by rw [c1]; exact e1
    rw [hrm, e1']
    rfl
  · unfold f_X8_mergeAll
    rw [hkp, bnd2_some, some_jn]
    refine g1.trans ?_
    simp only [some_lt, u8]
  · show upd a1 8 _ (260 + x) = _
    rw [upd_ne (by omega)]; exact (g4 x hx).1
theorem WOK_set {W : Nat → Nat} (h : WOK W) {w v : Nat} (hv : (w = 0 ∧ 1 ≤ v ∧ v ≤ 20) ∨ (w = 1 ∧ 2 ≤ v ∧ v ≤ 120) ∨ (w = 2 ∧ 2 ≤ v ∧ v ≤ 40) ∨ (w = 3 ∧ 1 ≤ v ∧ v ≤ 30)) : WOK (fun j => if j = w then v else W j) := by
  obtain ⟨h1, h2, h3, h4⟩ := h
  rcases hv with ⟨rfl, q1, q2⟩ | ⟨rfl, q1, q2⟩ | ⟨rfl, q1, q2⟩ | ⟨rfl, q1, q2⟩
  · exact ⟨⟨q1, q2⟩, h2, h3, h4⟩
  · exact ⟨h1, ⟨q1, q2⟩, h3, h4⟩
  · exact ⟨h1, h2, ⟨q1, q2⟩, h4⟩
  · exact ⟨h1, h2, h3, ⟨q1, q2⟩⟩
def setLo (w : Nat) : Nat := if w = 1 ∨ w = 2 then 2 else 1
def setHi (w : Nat) : Nat := if w = 0 then 20 else if w = 1 then 120 else if w = 2 then 40 else 30
theorem set_vals {w : Nat} (hw : w ≤ 3) : (w = 0 ∧ setLo w = 1 ∧ setHi w = 20) ∨ (w = 1 ∧ setLo w = 2 ∧ setHi w = 120) ∨ (w = 2 ∧ setLo w = 2 ∧ setHi w = 40) ∨ (w = 3 ∧ setLo w = 1 ∧ setHi w = 30) := by
  match w, hw with
  | 0, _ => left; exact ⟨rfl, rfl, rfl⟩
  | 1, _ => right; left; exact ⟨rfl, rfl, rfl⟩
  | 2, _ => right; right; left; exact ⟨rfl, rfl, rfl⟩
  | 3, _ => right; right; right; exact ⟨rfl, rfl, rfl⟩
theorem c_setRange {w : Nat} (hw : w ≤ 3) : f_X7_leastSetting (iN w) = some (iN (setLo w)) ∧ f_X7_mostSetting (iN w) = some (iN (setHi w)) ∧ f_X8_least (iN w) = some (iN (setLo w)) ∧ f_X8_greatest (iN w) = some (iN (setHi w)) := by
  match w, hw with
  | 0, _ => exact ⟨rfl, rfl, rfl, rfl⟩
  | 1, _ => exact ⟨rfl, rfl, rfl, rfl⟩
  | 2, _ => exact ⟨rfl, rfl, rfl, rfl⟩
  | 3, _ => exact ⟨rfl, rfl, rfl, rfl⟩
theorem m_set (h : CRx H pd tc gv nu sz pc bo en he so st kc kn pr se rc ky ss vs a) (hN : 10000 < N) (hrm : f_X7_remember sc0 adr sav (pd, tc, gv, nu, sz, pc, bo, en, he, so, st, kc, kn, pr, se, rc, ky, ss, vs) = some (sc1, adr', sav')) (hkp : f_X8_keeps N km a kept = some (sc1, kept')) (x y : Int32) :
    (∃ r pd' tc' sz' en' st' pr' se' ss' a', f_X7_set N sc0 pd tc gv nu sz pc bo en he so st kc kn pr se rc ky ss vs adr sav x y = some (Sum.inr (r, sc1, pd', tc', sz', en', st', pr', se', ss', adr', sav')) ∧ f_X8_set N km a kept x y = some (r, sc1, 0, a', kept') ∧ CRx H pd' tc' gv nu sz' pc bo en' he so st' kc kn pr' se' rc ky ss' vs a') ∨
    (∃ r, f_X7_set N sc0 pd tc gv nu sz pc bo en he so st kc kn pr se rc ky ss vs adr sav x y = some (Sum.inl "java/lang/IllegalArgumentException") ∧ f_X8_set N km a kept x y = some (r, km, 1, a, kept)) := by
  obtain ⟨n, K, S, V, P, pe, W, k, ⟨s1, s2, s3, s4, s5, s6, s7⟩, ⟨c1, c2, c3, c4, c5, c6, c7, c8, c9⟩, hR, hB⟩ := h
  have hz := s1.1
  have hn := hz.nn
  have w3 := s6.2.2.2.2
  have hR0 := hR
  obtain ⟨r1, r2, r3, r4, r5, r6, r7, r8⟩ := hR
  unfold f_X7_set f_X8_set
  have e10 : ((1 : Int32) = 0) = False := eq_false (by decide)
  rcases rng0_cases x 3 (by omega) with ⟨w, h1, rfl, h2, h3⟩ | ⟨h1, h2, h3⟩
  · have h2' : f_X7_checkRange (iN w) 0 3 = some (Sum.inr ()) := h2
    have h3' : f_X8_isIn (iN w) 0 3 = some 1 := h3
    obtain ⟨t1, t2, t3, t4⟩ := c_setRange h1
    rcases rng_cases y (iN (setLo w)) (iN (setHi w)) with ⟨g1, g2, g3, g4⟩ | ⟨g3, g4⟩
    · left
      have hsv := set_vals h1
      have hlo1 : 1 ≤ setLo w := by omega
      have hlo2 : setLo w ≤ 2 := by omega
      have hhi2 : setHi w ≤ 120 := by omega
      obtain ⟨v, hv, rfl⟩ := nneg_iN (Int32.le_trans (show (0 : Int32) ≤ iN (setLo w) from (iN_le (a := 0) (by omega) (by omega)).mpr (by omega)) g1)
      rw [iN_le (by omega) hv] at g1
      rw [iN_le hv (by omega)] at g2
      have hW' : WOK (fun j => if j = w then v else W j) := WOK_set s6 (by omega)
      have hse' : SE (upd se w (iN v)) (fun j => if j = w then v else W j) := fun q hq => by
        by_cases hqw : q = w
        · subst hqw; rw [upd_self]; simp; omega
        · rw [upd_ne hqw]; simp only [if_neg hqw]; exact c5 q hq
      have e5 := c_setting (w := w) c5 (by omega)
      have e6 : f_X2_putSetting se (iN w) (iN v) = some (upd se w (iN v)) := by unfold f_X2_putSetting f_X7_isSetting; simp (disch := omega) only [Nat.add_zero, iN_lit, iN_lt, iN_le, iN_eq, iN_add, iN_mul, iN_sub, iN_nat, iN_div, iN_mod, iN_pred', n1_lt, n1_le, n1_ne, n1_ne', n1_nle, n1_nlt, n1_eq, oobN, some_lt, some_jn, bnd_some, Bool.false_eq_true, if_true, if_false, ite_true, ite_false, ↓reduceIte, ltT, ltF, leT, leF, eqT, eqF, true_and, and_true, false_and, and_false, true_or, or_true, false_or, or_false, not_true_eq_false, not_false_eq_true, if_pos, if_neg]
      obtain ⟨sz', en', st', pr', ss', e1, e2, e3, e4⟩ := c_mergeTooMany (tot := tc) (W := fun j => if j = w then v else W j) c2 s1 s2 c7 c8 hse' c4 (by omega) (show 1000 < N by omega)
      have f7 : upd a (4 + w) (iN v) 7 = iN ((fun j => if j = w then v else W j) 3) := by
        by_cases hw3 : w = 3
        · subst hw3; rw [upd_self]; simp
        · rw [upd_ne (by omega)]; simp only [if_neg (show ¬ 3 = w by omega)]; exact (r7 3 (by omega)).1
      have fr : ∀ j, j ≠ 4 + w → upd a (4 + w) (iN v) j = a j := fun j hj => upd_ne hj
      have hW3 : (fun j => if j = w then v else W j) 3 ≤ 120 := by have := hW'.2.2.2; dsimp only at this ⊢; omega
      obtain ⟨a1, d1, d2, d3, d4, d5, d6⟩ := r_forces (tot := tc) (W := fun j => if j = w then v else W j) (a := upd a (4 + w) (iN v)) (RX.frame r1 hz (fun j hj => fr j (by unfold idxR at hj; omega))) s1 s2 (RP.frame r3 (by omega) (fun j hj => fr j (by unfold penR at hj; omega))) (by omega)
        (fun q hq => ⟨by show upd a (4 + w) _ (20 + q) = _; rw [fr _ (by omega)]; exact (r4 q hq).1, (r4 q hq).2⟩) (fun q hq => ⟨by show upd a (4 + w) _ (260 + q) = _; rw [fr _ (by omega)]; exact (r5 q hq).1, (r5 q hq).2⟩) f7 hW3 (by rw [fr 8 (by omega)]; exact hB.1.symm) (show 1000 < N by omega)
      obtain ⟨q1, q2, q3, q4, q5⟩ := frc_ok (pe.length - (fun j => if j = w then v else W j) 3) pe S P s1 s2
      have hl5 : (frcS K (pe.length - (fun j => if j = w then v else W j) 3) pe S P).2.2.1.length ≤ (fun j => if j = w then v else W j) 3 := by rw [q5, List.length_drop]; omega
      have hR1 : CRf (upd a (4 + w) (iN v)) n K S V P pe (fun j => if j = w then v else W j) k := by
        refine ⟨RX.frame r1 hz (fun j hj => fr j (by unfold idxR at hj; omega)), by rw [fr 0 (by omega), r2], RP.frame r3 (by omega) (fun j hj => fr j (by unfold penR at hj; omega)), fun q hq => ⟨by show upd a (4 + w) _ (20 + q) = _; rw [fr _ (by omega)]; exact (r4 q hq).1, (r4 q hq).2⟩, fun q hq => ⟨by show upd a (4 + w) _ (260 + q) = _; rw [fr _ (by omega)]; exact (r5 q hq).1, (r5 q hq).2⟩, fun q hq => by show upd a (4 + w) _ (140 + q) = _; rw [fr _ (by omega)]; exact r6 q hq, fun q hq => ?_, by rw [fr 19 (by omega), r8]⟩
        show upd a (4 + w) (iN v) (4 + q) = _ ∧ _
        by_cases hqw : q = w
        · subst hqw; rw [upd_self]; simp; omega
        · rw [upd_ne (by omega)]; simp only [if_neg hqw]; exact r7 q hq
      have hB1 : CBo tc gv nu kn (upd a (4 + w) (iN v)) k := CBo_frame hB s7 (by rw [fr 8 (by omega)]; exact hB.1) (fun j hj => fr j (by omega))
      have e11 : a (4 + w) = iN (W w) := (r7 w (by omega)).1
      refine ⟨iN (W w), iN (frcS K (pe.length - (fun j => if j = w then v else W j) 3) pe S P).2.2.1.length, tc + iN (frcS K (pe.length - (fun j => if j = w then v else W j) 3) pe S P).2.2.2, sz', en', st', pr', upd se w (iN v), ss', a1, ?_, ?_, n, K, (frcS K (pe.length - (fun j => if j = w then v else W j) 3) pe S P).1, V, (frcS K (pe.length - (fun j => if j = w then v else W j) 3) pe S P).2.1, (frcS K (pe.length - (fun j => if j = w then v else W j) 3) pe S P).2.2.1, (fun j => if j = w then v else W j), k, ⟨q1, q2, by omega, by omega, hl5, hW', s7⟩, ⟨rfl, e2, c3, e3, hse', c6, c7, e4, c9⟩, CRf_mrg hR1 hn d2 d3 d4 d6, CBo_frame hB1 s7 d5.symm (fun j hj => d6 j (by unfold mrgR idxR penR; omega) (by omega))⟩
      · rw [h2']
        simp only [bndx, t1, t2, bnd_some, g3, hrm, bnd3, e5]
        unfold f_X2_changeSetting
        rw [← c1] at e1
        simp only [e6, bnd_some, e1, bnd7, bnd8, inR]
      · rw [h3']
        have z1 : oob (4 + iN w) 876 = False := eq_false (by rw [show (4 : Int32) + iN w = iN (4 + w) from iN_add 4 w, oobN (by omega)]; omega)
        have z2 : (4 + iN w).toNatClampNeg = 4 + w := by rw [show (4 : Int32) + iN w = iN (4 + w) from iN_add 4 w, iN_nat (by omega)]
        simp only [bnd_some, some_jn, e10, if_false, t3, t4, g4, show ((0 : Int32) ≤ 0) = True from eq_true (by decide), if_true, hkp, bnd2, z1, z2, some_lt, e11, d1]
    · right
      refine ⟨0, ?_, ?_⟩
      · rw [h2']
        simp only [bndx, t1, t2, bnd_some, g3]
      · rw [h3']
        simp only [bnd_some, some_jn, e10, if_false, t3, t4, g4, if_true]
        rfl
  · right
    have h2' : f_X7_checkRange x 0 3 = some (Sum.inl "java/lang/IllegalArgumentException") := h2
    have h3' : f_X8_isIn x 0 3 = some 0 := h3
    refine ⟨0, ?_, ?_⟩
    · rw [h2']; rfl
    · rw [h3']; rfl
end CHG2
