section RQ
variable {n N : Nat} {sz pc : Int32} {en bo he so st ky ss vs nu : Nat → Int32} {P : List Pc} {K S W : Nat → Nat} {V : Nat → Int32} {a mo : Nat → Int32} {lo hi f e : Nat}
theorem r_warm {p : Nat} (h : RX a P) (hz : SZ n P) (hp : p < P.length) : RX (upd a (540 + 4 * p + 2) (iN (P[p].2.1 + 1))) (warS p P) := by
  have hl := hz.len
  obtain ⟨A, X, B, rfl, rfl⟩ := split_at hp
  have hX : (A ++ X :: B)[A.length] = X := by simp
  rw [hX]
  unfold warS
  rw [mdp_app]
  have hfl : (flat A).length + (X.2.2.2.length + (flat B).length) ≤ 120 := by simpa [flat_append, flat] using hz.fl
  obtain ⟨g1, g2, g3, g4, g5, g6⟩ := RX_app.mp h
  simp only [List.length_append, List.length_cons] at hl
  show RX _ (A ++ ((X.1, X.2.1 + 1, X.2.2.1, X.2.2.2) : Pc) :: B)
  refine RX_app.mpr ⟨?_, ?_, ?_, ?_, ⟨?_, ?_, ?_, ?_⟩, ?_⟩
  · rw [upd_ne (by omega)]; exact g1
  · rw [upd_ne (by omega)]; exact g2
  · refine g3.congr (fun j hj1 hj2 => upd_ne ?_)
    simp only [List.length_append] at hj2; omega
  · refine g4.congr (fun j hj1 hj2 => upd_ne ?_)
    rw [enc_length] at hj2; omega
  · rw [upd_ne (by omega)]; exact g5.1
  · rw [upd_ne (by omega)]; exact g5.2.1
  · rw [upd_self]
  · rw [upd_ne (by omega)]; exact g5.2.2.2
  · refine g6.congr (fun j hj1 hj2 => upd_ne (by omega))
theorem r_isRead {p : Nat} (h : RX a P) (hz : SZ n P) (hp : p < P.length) (hlo : lo ≤ 10000) (hhi : hi ≤ 10000) (h1 : 1 ≤ hi) :
    f_X8_isRead a (iN p) (iN lo) (iN hi) = some (if lo ≤ P[p].1 ∧ P[p].1 ≤ hi - 1 then 1 else 0) := by
  have e1 := r_bd h hz hp
  have hb := hz.bd _ (List.getElem_mem hp)
  have e2 : iN hi - 1 = iN (hi - 1) := iN_sub (b := 1) h1
  have e3 := r_isIn (v := P[p].1) (lo := lo) (hi := hi - 1) (by omega) (by omega) (by omega)
  unfold f_X8_isRead
  rw [e1, bnd_some, e2, e3, bnd_some]
  by_cases h2 : lo ≤ P[p].1 ∧ P[p].1 ≤ hi - 1
  · rw [if_pos h2]
    rfl
  · rw [if_neg h2]
    rfl
/-- the pieces from f up to e are those with bounds from lo on and less than hi -/
def RG (P : List Pc) (lo hi f e : Nat) : Prop := f ≤ e ∧ e < P.length ∧ ∀ p (hp : p < P.length), (lo ≤ P[p].1 ∧ P[p].1 ≤ hi - 1) ↔ (f ≤ p ∧ p < e)
theorem RG.of_bd {Q : List Pc} (h : RG P lo hi f e) (hb : Q.map (fun X : Pc => X.1) = P.map (fun X : Pc => X.1)) : RG Q lo hi f e := by
  have hl : Q.length = P.length := by have := congrArg List.length hb; simpa using this
  refine ⟨h.1, by rw [hl]; exact h.2.1, fun p hp => ?_⟩
  have e1 : Q[p].1 = (P[p]'(by omega)).1 := by
    have : (Q.map (fun X : Pc => X.1))[p]'(by simpa using hp) = (P.map (fun X : Pc => X.1))[p]'(by simp; omega) := by simp only [hb]
    simpa using this
  rw [e1]; exact h.2.2 p (by omega)
theorem r_readsPieces (h : RX a P) (hp : PI n K P) (hk : KY n (fun r => a (20 + r)) K) (hv : VA n (fun r => a (140 + r)) V) (hg : RG P lo hi f e) (hlo : lo ≤ 10000) (hhi : hi ≤ 10000) (h1 : 1 ≤ hi) (hh : hsum P + 62 < 1073741824) (hT : TN 10 a ty0) (h16 : a 16 = iN 0) (hN : 1000 < N) :
    ∃ a', f_X8_readsPieces N a (iN lo) (iN hi) = some (iN (talS K V P f e).1, a') ∧ RX a' (warN f P (e - f)) ∧ TN 10 a' (talS K V P f e) ∧ a' 16 = iN (e - f) ∧ ∀ j, ¬ idxR j → (j < 10 ∨ 14 ≤ j) → j ≠ 16 → a' j = a j := by
  have hz := hp.1
  have hn := hz.nn; have hl := hz.len; have hfl := hz.fl
  have hK : ∀ i, i < (flat P).length → K (fl P i) < 10000 := fun i hi => K_lt hz hk hi
  have hI := tal_I (V := V) (s := sp P f) hK
  obtain ⟨g1, g2, g3⟩ := hg
  have key : ∀ m p a, p ≤ P.length → P.length - p < m → RX a (warN f P (min p e - f)) → TN 10 a (pfi (talG K V P (sp P f)) ty0 (sp P (f + (min p e - f)) - sp P f)) → a 16 = iN (min p e - f) → KY n (fun r => a (20 + r)) K → VA n (fun r => a (140 + r)) V →
      ∃ a', f_X8_readsPieces_2 N (iN lo) (iN hi) (fun t_a_87_1 => some (t_a_87_1 10, t_a_87_1)) m (iN p) a = some (iN (talS K V P f e).1, a') ∧ RX a' (warN f P (e - f)) ∧ TN 10 a' (talS K V P f e) ∧ a' 16 = iN (e - f) ∧ ∀ j, ¬ idxR j → (j < 10 ∨ 14 ≤ j) → j ≠ 16 → a' j = a j := by
    intro m
    induction m with
    | zero => intro p a hp1 hp2; omega
    | succ m ih =>
      intro p a hp1 hp2 hR hT h16 hk hv
      obtain ⟨q1, q2, q3, q4, q5⟩ := warN_ok (f := f) hp (min p e - f) (by omega) (by omega)
      have hC := hR.hp
      rw [q3] at hC
      rw [f_X8_readsPieces_2.eq_2, hC]
      by_cases h3 : p = P.length
      · subst h3
        have e0 : min P.length e - f = e - f := by omega
        rw [e0] at hR hT h16
        have e1 : f + (e - f) = e := by omega
        rw [e1] at hT
        refine ⟨a, ?_, hR, hT, h16, fun _ _ _ _ => rfl⟩
        have : a 10 = iN (talS K V P f e).1 := hT.1
        simp (disch := omega) only [Nat.add_zero, iN_lit, iN_lt, iN_le, iN_eq, iN_add, iN_mul, iN_sub, iN_nat, iN_div, iN_mod, iN_pred', n1_lt, n1_le, n1_ne, n1_ne', n1_nle, n1_nlt, n1_eq, oobN, some_lt, some_jn, bnd_some, Bool.false_eq_true, if_true, if_false, ite_true, ite_false, ↓reduceIte, ltT, ltF, leT, leF, eqT, eqF, true_and, and_true, false_and, and_false, true_or, or_true, false_or, or_false, not_true_eq_false, not_false_eq_true, if_pos, if_neg, this]
      · have hpl : p < P.length := by omega
        have e1 := r_isRead (p := p) hR q1.1 (by omega) hlo hhi h1
        have e2 : ((warN f P (min p e - f))[p]'(by omega)).1 = P[p].1 := by
          have : ((warN f P (min p e - f)).map (fun X : Pc => X.1))[p]'(by simp; omega) = (P.map (fun X : Pc => X.1))[p]'(by simp; omega) := by simp only [q4]
          simpa using this
        rw [e2] at e1
        have g4 := g3 p hpl
        by_cases hr : f ≤ p ∧ p < e
        · rw [if_pos (g4.mpr hr)] at e1
          have hc : min p e - f = p - f := by omega
          have hc2 : min (p + 1) e - f = p - f + 1 := by omega
          rw [hc] at hR hT h16 q1 q3 q5
          have hfp : f + (p - f) = p := by omega
          rw [hfp] at hT
          have w1 := r_warm (p := p) hR q1.1 (by omega)
          have e3 := r_ht hR q1.1 (show p < (warN f P (p - f)).length by omega)
          have e4 : warS p (warN f P (p - f)) = warN f P (p - f + 1) := by show _ = warS (f + (p - f)) (warN f P (p - f)); rw [hfp]
          obtain ⟨u1, u2, u3, u4, u5⟩ := warN_ok (f := f) hp (p - f + 1) (by omega) (by omega)
          generalize hht : ((warN f P (p - f))[p]'(by omega)).2.1 = ht at w1 e3
          rw [e4] at w1
          have hht2 : ht < 1073741824 := by rw [← hht]; exact ht_lt q1.1 (by omega)
          -- the piece's rows
          have inner : ∀ (k : (Nat → Int32) → Option (Int32 × (Nat → Int32))) m2 i b, sp P p + i ≤ sp P (p + 1) → sp P (p + 1) - (sp P p + i) < m2 → RX b (warN f P (p - f + 1)) → KY n (fun r => b (20 + r)) K → VA n (fun r => b (140 + r)) V → TN 10 b (pfi (talG K V P (sp P f)) ty0 (sp P p - sp P f + i)) →
              ∃ b', f_X8_readsPieces_57 N (iN p) k m2 (iN (sp P p + i)) b = k b' ∧ TN 10 b' (pfi (talG K V P (sp P f)) ty0 (sp P (p + 1) - sp P f)) ∧ ∀ j, (j < 10 ∨ 14 ≤ j) → b' j = b j := by
            intro k m2
            induction m2 with
            | zero => intro i b hi1 hi2; omega
            | succ m2 ih2 =>
              intro i b hi1 hi2 hR2 hk2 hv2 hT2
              have fp := r_firstPlace (N := N) (p := p + 1) hR2 u1.1 hN (by omega)
              rw [sp_rs_eq u5] at fp
              have hsm : sp P f ≤ sp P p := sp_mono hr.1
              have hsl := sp_le P (p + 1)
              rw [f_X8_readsPieces_57.eq_2, show iN p + 1 = iN (p + 1) from iN_add _ 1, fp]
              by_cases h5 : sp P p + i = sp P (p + 1)
              · refine ⟨b, ?_, ?_, fun _ _ => rfl⟩
                · rw [h5]; simp (disch := omega) only [Nat.add_zero, iN_lit, iN_lt, iN_le, iN_eq, iN_add, iN_mul, iN_sub, iN_nat, iN_div, iN_mod, iN_pred', n1_lt, n1_le, n1_ne, n1_ne', n1_nle, n1_nlt, n1_eq, oobN, some_lt, some_jn, bnd_some, Bool.false_eq_true, if_true, if_false, ite_true, ite_false, ↓reduceIte, ltT, ltF, leT, leF, eqT, eqF, true_and, and_true, false_and, and_false, true_or, or_true, false_or, or_false, not_true_eq_false, not_false_eq_true, if_pos, if_neg]
                · rw [show sp P (p + 1) - sp P f = sp P p - sp P f + i by omega]; exact hT2
              · have hi3 : sp P p + i < (flat P).length := by omega
                have hfe : flat (warN f P (p - f + 1)) = flat P := flat_rs_eq u5
                have hfe2 : fl (warN f P (p - f + 1)) (sp P p + i) = fl P (sp P p + i) := by unfold fl; rw [hfe]
                have hIi := hI (sp P p - sp P f + i) (by omega)
                obtain ⟨b2, t1, t2, t3⟩ := r_looksAt (i := sp P p + i) hR2 u1.1 hk2 hv2 hT2 hIi (by omega) (by rw [hfe]; exact hi3)
                rw [hfe2] at t2
                have e9 : pfi (talG K V P (sp P f)) ty0 (sp P p - sp P f + (i + 1)) = tyT (pfi (talG K V P (sp P f)) ty0 (sp P p - sp P f + i)) (K (fl P (sp P p + i))) (V (fl P (sp P p + i))) := by
                  show tyT _ (K (fl P (sp P f + (sp P p - sp P f + i)))) (V (fl P (sp P f + (sp P p - sp P f + i)))) = _
                  rw [show sp P f + (sp P p - sp P f + i) = sp P p + i by omega]
                  rfl
                obtain ⟨b3, v1, v2, v3⟩ := ih2 (i + 1) b2 (by omega) (by omega) (RX.frame hR2 u1.1 (fun j hj => t3 j (by unfold idxR at hj; omega)))
                  (fun x hx => ⟨by show b2 (20 + x) = _; rw [t3 _ (by omega)]; exact (hk2 x hx).1, (hk2 x hx).2⟩)
                  (fun x hx => by show b2 (140 + x) = _; rw [t3 _ (by omega)]; exact hv2 x hx) (by rw [e9]; exact t2)
                refine ⟨b3, ?_, v2, fun j hj => by rw [v3 j hj, t3 j hj]⟩
                simp (disch := omega) only [Nat.add_zero, iN_lit, iN_lt, iN_le, iN_eq, iN_add, iN_mul, iN_sub, iN_nat, iN_div, iN_mod, iN_pred', n1_lt, n1_le, n1_ne, n1_ne', n1_nle, n1_nlt, n1_eq, oobN, some_lt, some_jn, bnd_some, Bool.false_eq_true, if_true, if_false, ite_true, ite_false, ↓reduceIte, ltT, ltF, leT, leF, eqT, eqF, true_and, and_true, false_and, and_false, true_or, or_true, false_or, or_false, not_true_eq_false, not_false_eq_true, if_pos, if_neg, t1]
                exact v1
          let b0 := upd (upd a (540 + 4 * p + 2) (iN (ht + 1))) 16 (iN (p - f + 1))
          have hb0 : b0 = upd (upd a (540 + 4 * p + 2) (iN (ht + 1))) 16 (iN (p - f + 1)) := rfl
          have fb : ∀ j, j ≠ 16 → (j < 540 ∨ 796 ≤ j) → b0 j = a j := fun j hj1 hj2 => by rw [hb0, upd_ne hj1, upd_ne (by omega)]
          have hRb : RX b0 (warN f P (p - f + 1)) := RX.frame w1 u1.1 (fun j hj => by rw [hb0, upd_ne (by unfold idxR at hj; omega)])
          have hTb : TN 10 b0 (pfi (talG K V P (sp P f)) ty0 (sp P p - sp P f + 0)) := by
            obtain ⟨t1, t2, t3, t4⟩ := hT
            exact ⟨by rw [fb _ (by omega) (by omega)]; exact t1, by rw [fb _ (by omega) (by omega)]; exact t2, by rw [fb _ (by omega) (by omega)]; exact t3, by rw [fb _ (by omega) (by omega)]; exact t4⟩
          have hkb : KY n (fun r => b0 (20 + r)) K := fun x hx => ⟨by show b0 (20 + x) = _; rw [fb _ (by omega) (by omega)]; exact (hk x hx).1, (hk x hx).2⟩
          have hvb : VA n (fun r => b0 (140 + r)) V := fun x hx => by show b0 (140 + x) = _; rw [fb _ (by omega) (by omega)]; exact hv x hx
          have fp0 := r_firstPlace (N := N) (p := p) hRb u1.1 hN (by omega)
          rw [sp_rs_eq u5] at fp0
          have hss : sp P p ≤ sp P (p + 1) := sp_mono (by omega)
          have hsl := sp_le P (p + 1)
          obtain ⟨b', v1, v2, v3⟩ := inner (fun t_a_81_14 => f_X8_readsPieces_2 N (iN lo) (iN hi) (fun t_a_87_1 => some (t_a_87_1 10, t_a_87_1)) m (iN (p + 1)) t_a_81_14) N 0 b0 (by omega) (by omega) hRb hkb hvb hTb
          obtain ⟨a', z1, z2, z3, z4, z5⟩ := ih (p + 1) b' (by omega) (by omega) (by rw [hc2]; exact RX.frame hRb u1.1 (fun j hj => v3 j (by unfold idxR at hj; omega))) (by rw [hc2, show f + (p - f + 1) = p + 1 by omega]; exact v2) (by rw [hc2, v3 16 (by omega), hb0, upd_self])
            (fun x hx => ⟨by show b' (20 + x) = _; rw [v3 _ (by omega)]; exact (hkb x hx).1, (hkb x hx).2⟩)
            (fun x hx => by show b' (140 + x) = _; rw [v3 _ (by omega)]; exact hvb x hx)
          refine ⟨a', ?_, z2, z3, z4, fun j hj1 hj2 hj3 => by rw [z5 j hj1 hj2 hj3, v3 j hj2, fb j hj3 (by unfold idxR at hj1; omega)]⟩
          have e10 : f_X8_puts a (iN p) (iN 2) (iN (ht + 1)) = some (upd a (540 + 4 * p + 2) (iN (ht + 1))) := r_puts (by omega) (by omega)
          have e11 : upd a (540 + 4 * p + 2) (iN (ht + 1)) 16 = iN (p - f) := by rw [upd_ne (by omega), h16]
          rw [e1]
          have e3' : f_X8_of a (iN p) (iN 2) = some (iN ht) := e3
          rw [hb0] at v1 fp0
          simp only [Nat.add_zero] at v1
          simp (disch := omega) only [Nat.add_zero, iN_lit, iN_lt, iN_le, iN_eq, iN_add, iN_mul, iN_sub, iN_nat, iN_div, iN_mod, iN_pred', n1_lt, n1_le, n1_ne, n1_ne', n1_nle, n1_nlt, n1_eq, oobN, some_lt, some_jn, bnd_some, Bool.false_eq_true, if_true, if_false, ite_true, ite_false, ↓reduceIte, ltT, ltF, leT, leF, eqT, eqF, true_and, and_true, false_and, and_false, true_or, or_true, false_or, or_false, not_true_eq_false, not_false_eq_true, if_pos, if_neg, e3', e10, e11, fp0, show ((1 : Int32) = iN 0) = False from eq_false (by decide)]
          exact v1.trans z1
        · rw [if_neg (fun hx => hr (g4.mp hx))] at e1
          have hc : min (p + 1) e - f = min p e - f := by omega
          obtain ⟨a', z1, z2, z3, z4, z5⟩ := ih (p + 1) a (by omega) (by omega) (by rw [hc]; exact hR) (by rw [hc]; exact hT) (by rw [hc]; exact h16) hk hv
          refine ⟨a', ?_, z2, z3, z4, z5⟩
          rw [e1]
          simp (disch := omega) only [Nat.add_zero, iN_lit, iN_lt, iN_le, iN_eq, iN_add, iN_mul, iN_sub, iN_nat, iN_div, iN_mod, iN_pred', n1_lt, n1_le, n1_ne, n1_ne', n1_nle, n1_nlt, n1_eq, oobN, some_lt, some_jn, bnd_some, Bool.false_eq_true, if_true, if_false, ite_true, ite_false, ↓reduceIte, ltT, ltF, leT, leF, eqT, eqF, true_and, and_true, false_and, and_false, true_or, or_true, false_or, or_false, not_true_eq_false, not_false_eq_true, if_pos, if_neg]
          exact z1
  have h0 : min 0 e - f = 0 := by omega
  obtain ⟨a', z1, z2, z3, z4, z5⟩ := key N 0 a (Nat.zero_le _) (by omega) (by rw [h0]; exact h) (by rw [h0, Nat.add_zero, Nat.sub_self]; exact hT) (by rw [h0]; exact h16) hk hv
  refine ⟨a', ?_, z2, z3, z4, z5⟩
  unfold f_X8_readsPieces
  rw [some_jn]
  exact z1
end RQ
