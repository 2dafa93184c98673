section CHG4
variable {H N : Nat} {pd tc gv sz pc kc rc sc0 sc1 km un : Int32} {nu bo en he so st kn pr se ky ss vs a kept kept' mo tn : Nat → Int32} {adr adr' : Nat → Nat → Nat} {sav sav' : Nat → CS}
theorem pos_split {l : List Nat} {x : Nat} (h : x ∈ l) : ∃ L1 L2, l = L1 ++ x :: L2 ∧ x ∉ L1 := by
  induction l with
  | nil => cases h
  | cons y l ih =>
    by_cases hy : y = x
    · subst hy; exact ⟨[], l, rfl, by simp⟩
    · rcases List.mem_cons.mp h with h | h
      · exact absurd h.symm hy
      · obtain ⟨L1, L2, h1, h2⟩ := ih h
        exact ⟨y :: L1, L2, by rw [h1]; rfl, by simp [h2]; exact fun e => hy e.symm⟩
theorem r_find {m : Nat} {b : Nat → Int32} {L1 L2 : List Nat} (kk : Int32 → Option (Int32 × Int32 × Int32 × (Nat → Int32) × (Nat → Int32))) (h : RP b (L1 ++ m :: L2)) (hni : m ∉ L1) (hb : ∀ g ∈ L1, g < 120) (hm : m < 120) (hl : L1.length < 120) :
    ∀ q i, i ≤ L1.length → L1.length - i < q → f_X8_delete_91 (iN m) b kk q (iN i) = kk (iN L1.length) := by
  intro q
  induction q with
  | zero => intro i y1 y2; omega
  | succ q ih =>
    intro i y1 y2
    rw [f_X8_delete_91.eq_2]
    by_cases hi : i = L1.length
    · subst hi
      have e1 : b (500 + L1.length) = iN m := h.2.row
      simp (disch := omega) only [Nat.add_zero, iN_lit, iN_lt, iN_le, iN_eq, iN_add, iN_mul, iN_sub, iN_nat, iN_div, iN_mod, iN_pred', n1_lt, n1_le, n1_ne, n1_ne', n1_nle, n1_nlt, n1_eq, oobN, some_lt, some_jn, bnd_some, Bool.false_eq_true, if_true, if_false, ite_true, ite_false, ↓reduceIte, ltT, ltF, leT, leF, eqT, eqF, true_and, and_true, false_and, and_false, true_or, or_true, false_or, or_false, not_true_eq_false, not_false_eq_true, if_pos, if_neg, e1]
    · obtain ⟨g, hg⟩ : ∃ g, g = L1[i]'(by omega) := ⟨_, rfl⟩
      have hgm : g ∈ L1 := hg ▸ List.getElem_mem _
      have e1 : b (500 + i) = iN g := by
        have := h.2.get (i := i) (by simp; omega)
        rw [List.getElem_append_left (by omega)] at this; rw [hg]; exact this
      have e2 : g ≠ m := fun e => hni (e ▸ hgm)
      have e3 : g < 120 := hb g hgm
      have := ih (i + 1) (by omega) (by omega)
      simp (disch := omega) only [Nat.add_zero, iN_lit, iN_lt, iN_le, iN_eq, iN_add, iN_mul, iN_sub, iN_nat, iN_div, iN_mod, iN_pred', n1_lt, n1_le, n1_ne, n1_ne', n1_nle, n1_nlt, n1_eq, oobN, some_lt, some_jn, bnd_some, Bool.false_eq_true, if_true, if_false, ite_true, ite_false, ↓reduceIte, ltT, ltF, leT, leF, eqT, eqF, true_and, and_true, false_and, and_false, true_or, or_true, false_or, or_false, not_true_eq_false, not_false_eq_true, if_pos, if_neg, e1]
      exact this
theorem m_delete (h : CRx H pd tc gv nu sz pc bo en he so st kc kn pr se rc ky ss vs a) (hN : 10000 < N) (hrm : f_X7_remember sc0 adr sav (pd, tc, gv, nu, sz, pc, bo, en, he, so, st, kc, kn, pr, se, rc, ky, ss, vs) = some (sc1, adr', sav')) (hkp : f_X8_keeps N km a kept = some (sc1, kept')) (x : Int32) :
    (∃ r pd' tc' sz' en' st' pr' ss' a', f_X7_delete N sc0 pd tc gv nu sz pc bo en he so st kc kn pr se rc ky ss vs adr sav x = some (Sum.inr (r, sc1, pd', tc', sz', en', st', pr', ss', adr', sav')) ∧ f_X8_delete N km a kept x = some (r, sc1, 0, a', kept') ∧ CRx H pd' tc' gv nu sz' pc bo en' he so st' kc kn pr' se rc ky ss' vs a') ∨
    (∃ r, f_X7_delete N sc0 pd tc gv nu sz pc bo en he so st kc kn pr se rc ky ss vs adr sav x = some (Sum.inl "java/lang/IndexOutOfBoundsException") ∧ f_X8_delete N km a kept x = some (r, km, 1, a, kept)) ∨
    (∃ r, f_X7_delete N sc0 pd tc gv nu sz pc bo en he so st kc kn pr se rc ky ss vs adr sav x = some (Sum.inl "java/lang/IllegalStateException") ∧ f_X8_delete N km a kept x = some (r, km, 2, a, kept)) := by
  obtain ⟨n, K, S, V, P, pe, W, k, ⟨s1, s2, s3, s4, s5, s6, s7⟩, ⟨c1, c2, c3, c4, c5, c6, c7, c8, c9⟩, hR, hB⟩ := h
  have hz := s1.1
  have hn := hz.nn
  have w3 := s6.2.2.2.2
  have hR0 := hR
  obtain ⟨r1, r2, r3, r4, r5, r6, r7, r8⟩ := hR
  obtain ⟨j1, j2, j3, j4⟩ := s2
  unfold f_X7_delete f_X8_delete f_X8_isRow
  have e10 : ((1 : Int32) = 0) = False := eq_false (by decide)
  have e00 : ((0 : Int32) ≤ 0) = True := eq_true (by decide)
  rcases idx_cases x n (by omega) with ⟨m, h1, rfl, h2, h3⟩ | ⟨h1, h2, h3⟩
  · have h2' : f_X7_checkIndex (iN m) rc = some (Sum.inr ()) := by rw [c6]; exact h2
    have el := c_lives c8 hn h1
    have rl := r_lives r5 hn h1
    have es := c_stateOf c8 hn h1
    have z1 : oob (260 + iN m) 876 = False := eq_false (by rw [show (260 : Int32) + iN m = iN (260 + m) from iN_add 260 m, oobN (by omega)]; omega)
    have z2 : (260 + iN m).toNatClampNeg = 260 + m := by rw [show (260 : Int32) + iN m = iN (260 + m) from iN_add 260 m, iN_nat (by omega)]
    have z3 : a (260 + m) = iN (S m) := (r5 m h1).1
    by_cases hlive : S m ≤ 1
    · left
      rw [if_pos hlive] at el rl
      by_cases hS1 : S m = 1
      · -- it waits: it goes
        have hmem : m ∈ pe := (j3 m).mpr ⟨h1, Or.inl hS1⟩
        obtain ⟨L1, L2, hpe, hni⟩ := pos_split hmem
        subst hpe
        obtain ⟨S', hS'⟩ : ∃ S' : Nat → Nat, S' = fun j => if j = m then 3 else S j := ⟨_, rfl⟩
        have hnd := j2
        rw [List.nodup_append, List.nodup_cons] at hnd
        have n2 : m ∉ L2 := hnd.2.1.1
        have s2' : SI n S' P (L1 ++ L2) := by
          refine ⟨fun r => ?_, ?_, fun r => ?_, fun r hr => ?_⟩
          · rw [j1 r, hS']; simp only
            by_cases hx : r = m
            · subst hx; rw [if_pos rfl]; omega
            · rw [if_neg hx]
          · rw [List.nodup_append]
            exact ⟨hnd.1, hnd.2.1.2, fun u hu v hv => hnd.2.2 u hu v (by simp [hv])⟩
          · have := j3 r
            rw [hS']; simp only
            by_cases hx : r = m
            · subst hx; rw [if_pos rfl]
              constructor
              · intro q; rcases List.mem_append.mp q with q | q
                · exact absurd q hni
                · exact absurd q n2
              · omega
            · rw [if_neg hx, ← this]; simp [hx]
          · rw [hS']; simp only; split
            · omega
            · exact j4 r hr
        obtain ⟨pr', u1, u2⟩ := c_removePending (N := N) c4 j2 (fun r hr => by have := ((j3 r).mp hr).1; omega) (by omega) (by omega)
        obtain ⟨ss', v1, v2⟩ := c_putState (v := 3) c8 hn h1 (by omega)
        have v1' : f_X6_putState ss (iN m) 3 = some ss' := v1
        rw [← hS'] at v2
        have fr : ∀ j, j ≠ 260 + m → upd a (260 + m) 3 j = a j := fun j hj => upd_ne hj
        have r3' : RP (upd a (260 + m) 3) (L1 ++ m :: L2) := RP.frame r3 (by omega) (fun j hj => fr j (by unfold penR at hj; omega))
        obtain ⟨a1, x1, x2, x3⟩ := r_unwaits (N := N) r3' (by omega) (by omega)
        have fa : ∀ j, ¬ penR j → j ≠ 260 + m → a1 j = a j := fun j y1 y2 => by rw [x3 j y1, fr j y2]
        have hpl : (L1 ++ m :: L2).length = L1.length + (L2.length + 1) := by simp
        have find : ∀ kk : Int32 → Option (Int32 × Int32 × Int32 × (Nat → Int32) × (Nat → Int32)), f_X8_delete_91 (iN m) (upd a (260 + m) 3) kk N 0 = kk (iN L1.length) := fun kk =>
          r_find (m := m) kk r3' hni (fun g hg => by have := ((j3 g).mp (by simp [hg])).1; omega) (by omega) (by omega) N 0 (by omega) (by omega)
        refine ⟨iN (L1 ++ L2).length, iN (L1 ++ L2).length, tc, sz, en, st, pr', ss', a1, ?_, ?_, n, K, S', V, P, L1 ++ L2, W, k, ⟨s1, s2', s3, s4, by simp at s5 ⊢; omega, s6, s7⟩, ⟨rfl, c2, c3, u2, c5, c6, c7, v2, c9⟩, ⟨RX.frame r1 hz (fun j hj => fa j (idx_pen hj) (by unfold idxR at hj; omega)), by rw [fa 0 (by unfold penR; omega) (by omega), r2], x2, fun r hr => ⟨?_, (r4 r hr).2⟩, fun r hr => ?_, fun r hr => ?_, fun w hw => ⟨?_, (r7 w hw).2⟩, by rw [fa 19 (by unfold penR; omega) (by omega), r8]⟩, CBo_frame hB s7 (by rw [fa 8 (by unfold penR; omega) (by omega)]; exact hB.1) (fun j hj => fa j (by unfold penR; omega) (by omega))⟩
        · rw [h2']
          simp only [bndx, el, bnd_some, e10, if_false, hrm, bnd3]
          unfold f_X2_deleteRow
          rw [es, hS1]
          rw [← c1] at u1
          simp only [bnd_some, show (iN 1 = 1) = True from eq_true rfl, if_true, v1', u1, bnd2, bnd7, inR]
        · rw [r2, h3]
          simp only [bnd_some, or_true, if_true, some_jn, e10, if_false, rl, e00, hkp, bnd2, z1, z2, z3, hS1, some_lt, show (iN 1 = 0) = False from eq_false (by decide)]
          rw [find, x1, bnd_some, x2.1]
        · show a1 (20 + r) = _
          rw [fa _ (by unfold penR; omega) (by omega)]; exact (r4 r hr).1
        · rw [hS']
          refine ⟨?_, by dsimp only; split; omega; exact j4 r hr⟩
          show a1 (260 + r) = _
          rw [x3 _ (by unfold penR; omega)]
          dsimp only
          by_cases hx : r = m
          · subst hx; rw [upd_self, if_pos rfl]; rfl
          · rw [upd_ne (by omega), if_neg hx]; exact (r5 r hr).1
        · show a1 (140 + r) = _
          rw [fa _ (by unfold penR; omega) (by omega)]; exact r6 r hr
        · show a1 (4 + w) = _
          rw [fa _ (by unfold penR; omega) (by omega)]; exact (r7 w hw).1
      · -- it is in the index: it waits from now on
        have hS0 : S m = 0 := by omega
        obtain ⟨S', hS'⟩ : ∃ S' : Nat → Nat, S' = fun j => if j = m then 2 else S j := ⟨_, rfl⟩
        have hni : m ∉ pe := fun q => by have := ((j3 m).mp q).2; omega
        have s2' : SI n S' P (pe ++ [m]) := by
          refine ⟨fun r => ?_, ?_, fun r => ?_, fun r hr => ?_⟩
          · rw [j1 r, hS']; simp only
            by_cases hx : r = m
            · subst hx; rw [if_pos rfl]; omega
            · rw [if_neg hx]
          · rw [List.nodup_append]
            exact ⟨j2, by simp, fun u hu v hv => by simp at hv; subst hv; intro e; exact hni (e ▸ hu)⟩
          · have := j3 r
            rw [List.mem_append, List.mem_singleton, hS']; simp only
            by_cases hx : r = m
            · subst hx; rw [if_pos rfl]; simp [h1]
            · rw [if_neg hx, this]; simp [hx]
          · rw [hS']; simp only; split
            · omega
            · exact j4 r hr
        obtain ⟨ss1, v1, v2⟩ := c_putState (v := 2) c8 hn h1 (by omega)
        have v1' : f_X6_putState ss (iN m) 2 = some ss1 := v1
        rw [← hS'] at v2
        obtain ⟨pr1, e2, e3⟩ := c_addPending (row := m) c4 (by omega)
        obtain ⟨sz', en', st', pr', ss', e4, e5, e6, e7⟩ := c_mergeTooMany (tot := tc) (pe := pe ++ [m]) c2 s1 s2' c7 v2 c5 e3 (by simp; omega) (show 1000 < N by omega)
        have fr : ∀ j, j ≠ 260 + m → upd a (260 + m) 2 j = a j := fun j hj => upd_ne hj
        have r3' : RP (upd a (260 + m) 2) pe := RP.frame r3 (by omega) (fun j hj => fr j (by unfold penR at hj; omega))
        obtain ⟨b1, x1, x2, x3⟩ := r_waits (row := m) r3' (by omega)
        have fa : ∀ j, ¬ penR j → j ≠ 260 + m → b1 j = a j := fun j y1 y2 => by rw [x3 j y1, fr j y2]
        have hR1 : RX b1 P := RX.frame r1 hz (fun j hj => fa j (idx_pen hj) (by unfold idxR at hj; omega))
        have hk1 : KY n (fun r => b1 (20 + r)) K := fun r hr => ⟨by show b1 (20 + r) = _; rw [fa _ (by unfold penR; omega) (by omega)]; exact (r4 r hr).1, (r4 r hr).2⟩
        have hs1 : ST n (fun r => b1 (260 + r)) S' := fun r hr => by
          rw [hS']
          refine ⟨?_, by dsimp only; split; omega; exact j4 r hr⟩
          show b1 (260 + r) = _
          rw [x3 _ (by unfold penR; omega)]
          dsimp only
          by_cases hx : r = m
          · subst hx; rw [upd_self, if_pos rfl]; rfl
          · rw [upd_ne (by omega), if_neg hx]; exact (r5 r hr).1
        have hw1 : SE (fun w => b1 (4 + w)) W := fun w hw => ⟨by show b1 (4 + w) = _; rw [fa _ (by unfold penR; omega) (by omega)]; exact (r7 w hw).1, (r7 w hw).2⟩
        obtain ⟨a1, d1, d2, d3, d4, d5, d6⟩ := r_forces (tot := tc) (W := W) (a := b1) (pe := pe ++ [m]) hR1 s1 s2' x2 (by simp; omega) hk1 hs1 (hw1 3 (by omega)).1 (by omega) (by rw [fa 8 (by unfold penR; omega) (by omega)]; exact hB.1.symm) (show 1000 < N by omega)
        obtain ⟨y1, y2, y3, y4, y5⟩ := frc_ok ((pe ++ [m]).length - W 3) (pe ++ [m]) S' P s1 s2'
        have hl5 : (frcS K ((pe ++ [m]).length - W 3) (pe ++ [m]) S' P).2.2.1.length ≤ W 3 := by rw [y5, List.length_drop]; omega
        have hCR : CRf b1 n K S' V P (pe ++ [m]) W k := ⟨hR1, by rw [fa 0 (by unfold penR; omega) (by omega), r2], x2, hk1, hs1, fun r hr => by show b1 (140 + r) = _; rw [fa _ (by unfold penR; omega) (by omega)]; exact r6 r hr, hw1, by rw [fa 19 (by unfold penR; omega) (by omega), r8]⟩
        have hB1 : CBo tc gv nu kn b1 k := CBo_frame hB s7 (by rw [fa 8 (by unfold penR; omega) (by omega)]; exact hB.1) (fun j hj => fa j (by unfold penR; omega) (by omega))
        refine ⟨iN (frcS K ((pe ++ [m]).length - W 3) (pe ++ [m]) S' P).2.2.1.length, iN (frcS K ((pe ++ [m]).length - W 3) (pe ++ [m]) S' P).2.2.1.length, tc + iN (frcS K ((pe ++ [m]).length - W 3) (pe ++ [m]) S' P).2.2.2, sz', en', st', pr', ss', a1, ?_, ?_, n, K, (frcS K ((pe ++ [m]).length - W 3) (pe ++ [m]) S' P).1, V, (frcS K ((pe ++ [m]).length - W 3) (pe ++ [m]) S' P).2.1, (frcS K ((pe ++ [m]).length - W 3) (pe ++ [m]) S' P).2.2.1, W, k, ⟨y1, y2, by omega, by omega, hl5, s6, s7⟩, ⟨rfl, e5, c3, e6, c5, c6, c7, e7, c9⟩, CRf_mrg hCR hn d2 d3 d4 d6, CBo_frame hB1 s7 d5.symm (fun j hj => d6 j (by unfold mrgR idxR penR; omega) (by omega))⟩
        · rw [h2']
          simp only [bndx, el, bnd_some, e10, if_false, hrm, bnd3]
          unfold f_X2_deleteRow
          rw [es, hS0]
          rw [← c1] at e2
          simp only [bnd_some, show (iN 0 = 1) = False from eq_false (by decide), if_false, v1', e2, bnd2, e4, bnd7, inR]
        · rw [r2, h3]
          have x1' : f_X8_waits (upd a (260 + m) 2) (iN m) = some b1 := x1
          simp only [bnd_some, or_true, if_true, some_jn, e10, if_false, rl, e00, hkp, bnd2, z1, z2, z3, hS0, some_lt, show (iN 0 = 0) = True from eq_true rfl, x1', d1, d3.1]
    · right; right
      rw [if_neg hlive] at el rl
      refine ⟨0, ?_, ?_⟩
      · rw [h2']
        simp only [bndx, el, bnd_some, if_true]
      · rw [r2, h3]
        simp only [bnd_some, or_true, if_true, some_jn, e10, if_false, rl]
        rfl
  · right; left
    refine ⟨0, ?_, ?_⟩
    · rw [c6, h2]; rfl
    · rw [r2, h3]; rfl
end CHG4
