theorem flat_rs (P : List Pc) : flat P = (P.map (fun X : Pc => X.2.2.2)).flatten := by
  induction P with
  | nil => rfl
  | cons X P ih => simp [flat, ih]
theorem flat_rs_eq {P Q : List Pc} (h : P.map (fun X : Pc => X.2.2.2) = Q.map (fun X : Pc => X.2.2.2)) : flat P = flat Q := by rw [flat_rs, flat_rs, h]
theorem sp_rs_eq {P Q : List Pc} (h : P.map (fun X : Pc => X.2.2.2) = Q.map (fun X : Pc => X.2.2.2)) (p : Nat) : sp P p = sp Q p := by
  unfold sp
  rw [flat_rs_eq (P := P.take p) (Q := Q.take p) (by rw [List.map_take, List.map_take, h])]
def warN (f : Nat) (P : List Pc) (k : Nat) : List Pc := pfi (fun Q j => warS (f + j) Q) P k
theorem war_rs {P : List Pc} {p : Nat} (hp : p < P.length) : (warS p P).map (fun X : Pc => X.2.2.2) = P.map (fun X : Pc => X.2.2.2) ∧ (warS p P).map (fun X : Pc => X.2.2.1) = P.map (fun X : Pc => X.2.2.1) := by
  obtain ⟨A, X, B, rfl, rfl⟩ := split_at hp
  unfold warS
  rw [mdp_app]
  exact ⟨by simp, by simp⟩
theorem warN_ok {n : Nat} {K : Nat → Nat} {P : List Pc} {f : Nat} (h : PI n K P) : ∀ k, f + k ≤ P.length → hsum P + k < 1073741824 →
    PI n K (warN f P k) ∧ hsum (warN f P k) = hsum P + k ∧ (warN f P k).length = P.length ∧ (warN f P k).map (fun X : Pc => X.1) = P.map (fun X : Pc => X.1) ∧ (warN f P k).map (fun X : Pc => X.2.2.2) = P.map (fun X : Pc => X.2.2.2) := by
  intro k
  induction k with
  | zero => intro _ _; exact ⟨h, rfl, rfl, rfl, rfl⟩
  | succ k ih =>
    intro h1 h2
    obtain ⟨q1, q2, q3, q4, q5⟩ := ih (by omega) (by omega)
    obtain ⟨w1, w2, w3, w4, w5⟩ := PI_war (p := f + k) q1 (by omega) (by omega)
    have w6 := (war_rs (P := warN f P k) (p := f + k) (by omega)).1
    refine ⟨w1, ?_, ?_, ?_, ?_⟩
    · show hsum (warS (f + k) (warN f P k)) = _; omega
    · show (warS (f + k) (warN f P k)).length = _; omega
    · show (warS (f + k) (warN f P k)).map _ = _; rw [w5, q4]
    · show (warS (f + k) (warN f P k)).map _ = _; rw [w6, q5]
/-- the rows of the pieces from f up to e -/
def talG (K : Nat → Nat) (V : Nat → Int32) (P : List Pc) (s : Nat) (T : Ty) (j : Nat) : Ty := tyT T (K (fl P (s + j))) (V (fl P (s + j)))
def talS (K : Nat → Nat) (V : Nat → Int32) (P : List Pc) (f e : Nat) : Ty := pfi (talG K V P (sp P f)) ty0 (sp P e - sp P f)
theorem tal_I {K : Nat → Nat} {V : Nat → Int32} {P : List Pc} {s : Nat} (hK : ∀ i, i < (flat P).length → K (fl P i) < 10000) : ∀ i, s + i ≤ (flat P).length → TyI i (pfi (talG K V P s) ty0 i) := by
  intro i
  induction i with
  | zero => intro _; exact ty0_I 0
  | succ i ih => intro h; exact tyT_I (ih (by omega)) (hK _ (by omega))
section RPs
variable {n N : Nat} {sz pc : Int32} {en bo he so st ky ss vs nu : Nat → Int32} {P : List Pc} {K S : Nat → Nat} {V : Nat → Int32} {a : Nat → Int32}
theorem c_putNumber {w : Nat} {v : Int32} (hw : w < 9) : f_X0_putNumber nu (iN w) v = some (upd nu w v) := by
  unfold f_X0_putNumber; simp (disch := omega) only [Nat.add_zero, iN_lit, iN_lt, iN_le, iN_eq, iN_add, iN_mul, iN_sub, iN_nat, iN_div, iN_mod, iN_pred', n1_lt, n1_le, n1_ne, n1_ne', n1_nle, n1_nlt, n1_eq, oobN, some_lt, some_jn, bnd_some, Bool.false_eq_true, if_true, if_false, ite_true, ite_false, ↓reduceIte, ltT, ltF, leT, leF, eqT, eqF, true_and, and_true, false_and, and_false, true_or, or_true, false_or, or_false, not_true_eq_false, not_false_eq_true, if_pos, if_neg]
theorem c_numberAt {w : Nat} (hw : w < 9) : f_X0_numberAt nu (iN w) = some (nu w) := by
  unfold f_X0_numberAt; simp (disch := omega) only [Nat.add_zero, iN_lit, iN_lt, iN_le, iN_eq, iN_add, iN_mul, iN_sub, iN_nat, iN_div, iN_mod, iN_pred', n1_lt, n1_le, n1_ne, n1_ne', n1_nle, n1_nlt, n1_eq, oobN, some_lt, some_jn, bnd_some, Bool.false_eq_true, if_true, if_false, ite_true, ite_false, ↓reduceIte, ltT, ltF, leT, leF, eqT, eqF, true_and, and_true, false_and, and_false, true_or, or_true, false_or, or_false, not_true_eq_false, not_false_eq_true, if_pos, if_neg]
theorem c_readPieces {f e : Nat} (h : IX sz pc en bo he so st P) (hp : PI n K P) (hk : KY n ky K) (hv : VA n vs V) (hfe : f ≤ e) (he1 : e ≤ P.length) (hh : hsum P + 62 < 1073741824) (hT : TN 0 nu ty0) (hN : 1000 < N) :
    ∃ nu' he', f_X2_readPieces N nu sz pc en he st ky vs (iN f) (iN e) = some (nu', he') ∧ IX sz pc en bo he' so st (warN f P (e - f)) ∧ TN 0 nu' (talS K V P f e) ∧ nu' 6 = iN (e - f) ∧ ∀ j, 4 ≤ j → j ≠ 6 → nu' j = nu j := by
  have hz := hp.1
  have hn := hz.nn; have hl := hz.len; have hfl := hz.fl
  have hK : ∀ i, i < (flat P).length → K (fl P i) < 10000 := fun i hi => K_lt hz hk hi
  have hsf := sp_mono (P := P) hfe
  have hse := sp_le P e
  have hI := tal_I (V := V) (s := sp P f) hK
  -- warming
  have loop1 : ∀ k : (Nat → Int32) → Option ((Nat → Int32) × (Nat → Int32)), ∃ he', f_X2_readPieces_14 pc (iN e) k N (iN f) he = k he' ∧ IX sz pc en bo he' so st (warN f P (e - f)) := by
    intro k
    have : ∀ m i he, f + i ≤ e → e - (f + i) < m → IX sz pc en bo he so st (warN f P i) → ∃ he', f_X2_readPieces_14 pc (iN e) k m (iN (f + i)) he = k he' ∧ IX sz pc en bo he' so st (warN f P (e - f)) := by
      intro m
      induction m with
      | zero => intro i he h1 h2; omega
      | succ m ih =>
        intro i he h1 h2 hI
        rw [f_X2_readPieces_14.eq_2]
        by_cases h3 : f + i = e
        · subst h3
          rw [Nat.add_sub_cancel_left]
          refine ⟨he, ?_, hI⟩
          simp (disch := omega) only [Nat.add_zero, iN_lit, iN_lt, iN_le, iN_eq, iN_add, iN_mul, iN_sub, iN_nat, iN_div, iN_mod, iN_pred', n1_lt, n1_le, n1_ne, n1_ne', n1_nle, n1_nlt, n1_eq, oobN, some_lt, some_jn, bnd_some, Bool.false_eq_true, if_true, if_false, ite_true, ite_false, ↓reduceIte, ltT, ltF, leT, leF, eqT, eqF, true_and, and_true, false_and, and_false, true_or, or_true, false_or, or_false, not_true_eq_false, not_false_eq_true, if_pos, if_neg]
        · obtain ⟨q1, q2, q3, q4, q5⟩ := warN_ok (f := f) hp i (by omega) (by omega)
          obtain ⟨he2, w1, w2⟩ := c_warm (p := f + i) hI q1.1 (by omega)
          obtain ⟨he3, u1, u2⟩ := ih (i + 1) he2 (by omega) (by omega) w2
          refine ⟨he3, ?_, u2⟩
          simp (disch := omega) only [Nat.add_zero, iN_lit, iN_lt, iN_le, iN_eq, iN_add, iN_mul, iN_sub, iN_nat, iN_div, iN_mod, iN_pred', n1_lt, n1_le, n1_ne, n1_ne', n1_nle, n1_nlt, n1_eq, oobN, some_lt, some_jn, bnd_some, Bool.false_eq_true, if_true, if_false, ite_true, ite_false, ↓reduceIte, ltT, ltF, leT, leF, eqT, eqF, true_and, and_true, false_and, and_false, true_or, or_true, false_or, or_false, not_true_eq_false, not_false_eq_true, if_pos, if_neg, w1]
          exact u1
    exact this N 0 he (by omega) (by omega) h
  have loop2 : ∀ (nu : Nat → Int32) (k : (Nat → Int32) → Option ((Nat → Int32) × (Nat → Int32))), TN 0 nu ty0 → ∃ nu', f_X2_readPieces_52 sz en ky vs (iN (sp P e)) k N (iN (sp P f)) nu = k nu' ∧ TN 0 nu' (talS K V P f e) ∧ ∀ j, 4 ≤ j → nu' j = nu j := by
    intro nu k hT
    have : ∀ m i nu, sp P f + i ≤ sp P e → sp P e - (sp P f + i) < m → TN 0 nu (pfi (talG K V P (sp P f)) ty0 i) → ∃ nu', f_X2_readPieces_52 sz en ky vs (iN (sp P e)) k m (iN (sp P f + i)) nu = k nu' ∧ TN 0 nu' (talS K V P f e) ∧ ∀ j, 4 ≤ j → nu' j = nu j := by
      intro m
      induction m with
      | zero => intro i nu h1 h2; omega
      | succ m ih =>
        intro i nu h1 h2 hT
        rw [f_X2_readPieces_52.eq_2]
        by_cases h3 : sp P f + i = sp P e
        · have e0 : i = sp P e - sp P f := by omega
          refine ⟨nu, ?_, ?_, fun _ _ => rfl⟩
          · rw [h3]; simp (disch := omega) only [Nat.add_zero, iN_lit, iN_lt, iN_le, iN_eq, iN_add, iN_mul, iN_sub, iN_nat, iN_div, iN_mod, iN_pred', n1_lt, n1_le, n1_ne, n1_ne', n1_nle, n1_nlt, n1_eq, oobN, some_lt, some_jn, bnd_some, Bool.false_eq_true, if_true, if_false, ite_true, ite_false, ↓reduceIte, ltT, ltF, leT, leF, eqT, eqF, true_and, and_true, false_and, and_false, true_or, or_true, false_or, or_false, not_true_eq_false, not_false_eq_true, if_pos, if_neg]
          · unfold talS; rw [← e0]; exact hT
        · have hi : sp P f + i < (flat P).length := by omega
          have e1 := c_rowAt' h hz hi
          have e2 : fl P (sp P f + i) < n := by rw [fl_eq hi]; exact hz.rs _ (List.getElem_mem hi)
          have e3 := c_keyOf hk hn e2
          have e4 := c_valueOf hv hn e2
          obtain ⟨nu2, t1, t2, t3⟩ := c_take (v := V (fl P (sp P f + i))) hT (hI i (by omega)) (by omega) (hK _ hi)
          obtain ⟨nu3, u1, u2, u3⟩ := ih (i + 1) nu2 (by omega) (by omega) t2
          refine ⟨nu3, ?_, u2, fun j hj => by rw [u3 j hj, t3 j hj]⟩
          simp (disch := omega) only [Nat.add_zero, iN_lit, iN_lt, iN_le, iN_eq, iN_add, iN_mul, iN_sub, iN_nat, iN_div, iN_mod, iN_pred', n1_lt, n1_le, n1_ne, n1_ne', n1_nle, n1_nlt, n1_eq, oobN, some_lt, some_jn, bnd_some, Bool.false_eq_true, if_true, if_false, ite_true, ite_false, ↓reduceIte, ltT, ltF, leT, leF, eqT, eqF, true_and, and_true, false_and, and_false, true_or, or_true, false_or, or_false, not_true_eq_false, not_false_eq_true, if_pos, if_neg, e1, e3, e4, t1]
          exact u1
    exact this N 0 nu (by omega) (by omega) hT
  obtain ⟨he', w1, w2⟩ := loop1 (fun t_index_heats_33_3 => bnd (f_X3_startOf sz pc st (iN e)) (fun r38_5 => bnd (f_X3_startOf sz pc st (iN f)) (fun r47_7 => jn (fun (k100_10 : (Nat → Int32) → Option ((Nat → Int32) × (Nat → Int32))) => f_X2_readPieces_52 sz en ky vs r38_5 k100_10 N r47_7 (upd nu 6 (iN (e - f)))) (fun t_answer_numbers_100_9 => some (t_answer_numbers_100_9, t_index_heats_33_3)))))
  have hT2 : TN 0 (upd nu 6 (iN (e - f))) ty0 := by
    obtain ⟨t1, t2, t3, t4⟩ := hT
    exact ⟨by rw [upd_ne (by omega)]; exact t1, by rw [upd_ne (by omega)]; exact t2, by rw [upd_ne (by omega)]; exact t3, by rw [upd_ne (by omega)]; exact t4⟩
  obtain ⟨nu', v1, v2, v3⟩ := loop2 (upd nu 6 (iN (e - f))) (fun t_answer_numbers_100_9 => some (t_answer_numbers_100_9, he')) hT2
  refine ⟨nu', he', ?_, w2, v2, by rw [v3 6 (by omega), upd_self], fun j hj hj2 => by rw [v3 j hj, upd_ne hj2]⟩
  have e6 : f_X0_putNumber nu 6 (iN e - iN f) = some (upd nu 6 (iN (e - f))) := by rw [iN_sub hfe]; exact c_putNumber (w := 6) (by omega)
  unfold f_X2_readPieces
  rw [e6, bnd_some, some_jn]
  refine w1.trans ?_
  rw [c_startOf h hz he1, bnd_some, c_startOf h hz (by omega), bnd_some, some_jn]
  exact v1
theorem r_looksAt {i c : Nat} {T : Ty} (h : RX a P) (hz : SZ n P) (hk : KY n (fun r => a (20 + r)) K) (hv : VA n (fun r => a (140 + r)) V) (hT : TN 10 a T) (hI : TyI c T) (hc : c ≤ 1000) (hi : i < (flat P).length) :
    ∃ a', f_X8_looksAt a (iN i) = some a' ∧ TN 10 a' (tyT T (K (fl P i)) (V (fl P i))) ∧ ∀ j, (j < 10 ∨ 14 ≤ j) → a' j = a j := by
  have hn := hz.nn; have hfl := hz.fl
  have e1 := r_keyAt' h hz hk hi
  have e2 : fl P i < n := by rw [fl_eq hi]; exact hz.rs _ (List.getElem_mem hi)
  have e3 : a (380 + i) = iN (fl P i) := by rw [fl_eq hi]; exact h.en.get hi
  have e4 : a (140 + fl P i) = V (fl P i) := hv _ e2
  have hkey := K_lt hz hk hi
  generalize fl P i = row at *
  generalize K row = key at *
  generalize V row = v at *
  obtain ⟨h1, h2, h3, h4⟩ := hT
  obtain ⟨i1, i2, i3, i4⟩ := hI
  unfold f_X8_looksAt
  have x1 : ∀ w : Int32, upd a 10 w (380 + i) = iN row := fun w => by rw [upd_ne (by omega), e3]
  have x2 : ∀ w : Int32, upd a 10 w (140 + row) = v := fun w => by rw [upd_ne (by omega), e4]
  have x3 : ∀ w : Int32, upd a 10 w 11 = T.2.1 := fun w => by rw [upd_ne (by omega)]; exact h2
  have x4 : ∀ w w2 : Int32, upd (upd a 10 w) 11 w2 12 = oN T.2.2.1 := fun w w2 => by rw [upd_ne (by omega), upd_ne (by omega)]; exact h3
  have x5 : ∀ w w2 w3 : Int32, upd (upd (upd a 10 w) 11 w2) 12 w3 13 = oN T.2.2.2 := fun w w2 w3 => by rw [upd_ne (by omega), upd_ne (by omega), upd_ne (by omega)]; exact h4
  have x0 : a 10 + iN 1 = iN (T.1 + 1) := by rw [show a 10 = iN T.1 from h1, iN_add]
  have fin : ∀ (lw mw : Int32), lw = oN (tyT T key v).2.2.1 → mw = oN (tyT T key v).2.2.2 → TN 10 (upd (upd (upd (upd a 10 (iN (T.1 + 1))) 11 (T.2.1 + v)) 12 lw) 13 mw) (tyT T key v) ∧ ∀ j, (j < 10 ∨ 14 ≤ j) → upd (upd (upd (upd a 10 (iN (T.1 + 1))) 11 (T.2.1 + v)) 12 lw) 13 mw j = a j := by
    intro lw mw hlw hmw
    refine ⟨⟨?_, ?_, ?_, ?_⟩, fun j hj => ?_⟩
    · rw [upd_ne (by omega), upd_ne (by omega), upd_ne (by omega), upd_self]; rfl
    · rw [upd_ne (by omega), upd_ne (by omega)]; exact (upd_self _ _ _)
    · rw [upd_ne (by omega)]; exact (upd_self _ _ _).trans hlw
    · exact (upd_self _ _ _).trans hmw
    · rw [upd_ne (by omega), upd_ne (by omega), upd_ne (by omega), upd_ne (by omega)]
  have f1 := fin (oN (tyT T key v).2.2.1) (oN (tyT T key v).2.2.2) rfl rfl
  refine ⟨_, ?_, f1⟩
  simp only [tyT]
  cases hl : T.2.2.1 with
  | none =>
    cases hm : T.2.2.2 with
    | none => simp (disch := omega) only [Nat.add_zero, iN_lit, iN_lt, iN_le, iN_eq, iN_add, iN_mul, iN_sub, iN_nat, iN_div, iN_mod, iN_pred', n1_lt, n1_le, n1_ne, n1_ne', n1_nle, n1_nlt, n1_eq, oobN, some_lt, some_jn, bnd_some, Bool.false_eq_true, if_true, if_false, ite_true, ite_false, ↓reduceIte, ltT, ltF, leT, leF, eqT, eqF, true_and, and_true, false_and, and_false, true_or, or_true, false_or, or_false, not_true_eq_false, not_false_eq_true, if_pos, if_neg, e1, x0, x1, x2, x3, x4, x5, hl, hm, oN]
    | some x =>
      have := i3 x hm
      by_cases h5 : key ≤ x
      · simp (disch := omega) only [Nat.add_zero, iN_lit, iN_lt, iN_le, iN_eq, iN_add, iN_mul, iN_sub, iN_nat, iN_div, iN_mod, iN_pred', n1_lt, n1_le, n1_ne, n1_ne', n1_nle, n1_nlt, n1_eq, oobN, some_lt, some_jn, bnd_some, Bool.false_eq_true, if_true, if_false, ite_true, ite_false, ↓reduceIte, ltT, ltF, leT, leF, eqT, eqF, true_and, and_true, false_and, and_false, true_or, or_true, false_or, or_false, not_true_eq_false, not_false_eq_true, if_pos, if_neg, e1, x0, x1, x2, x3, x4, x5, hl, hm, oN]
      · simp (disch := omega) only [Nat.add_zero, iN_lit, iN_lt, iN_le, iN_eq, iN_add, iN_mul, iN_sub, iN_nat, iN_div, iN_mod, iN_pred', n1_lt, n1_le, n1_ne, n1_ne', n1_nle, n1_nlt, n1_eq, oobN, some_lt, some_jn, bnd_some, Bool.false_eq_true, if_true, if_false, ite_true, ite_false, ↓reduceIte, ltT, ltF, leT, leF, eqT, eqF, true_and, and_true, false_and, and_false, true_or, or_true, false_or, or_false, not_true_eq_false, not_false_eq_true, if_pos, if_neg, e1, x0, x1, x2, x3, x4, x5, hl, hm, oN]
  | some y =>
    have hy := i2 y hl
    cases hm : T.2.2.2 with
    | none =>
      by_cases h6 : y ≤ key
      · simp (disch := omega) only [Nat.add_zero, iN_lit, iN_lt, iN_le, iN_eq, iN_add, iN_mul, iN_sub, iN_nat, iN_div, iN_mod, iN_pred', n1_lt, n1_le, n1_ne, n1_ne', n1_nle, n1_nlt, n1_eq, oobN, some_lt, some_jn, bnd_some, Bool.false_eq_true, if_true, if_false, ite_true, ite_false, ↓reduceIte, ltT, ltF, leT, leF, eqT, eqF, true_and, and_true, false_and, and_false, true_or, or_true, false_or, or_false, not_true_eq_false, not_false_eq_true, if_pos, if_neg, e1, x0, x1, x2, x3, x4, x5, hl, hm, oN]
      · simp (disch := omega) only [Nat.add_zero, iN_lit, iN_lt, iN_le, iN_eq, iN_add, iN_mul, iN_sub, iN_nat, iN_div, iN_mod, iN_pred', n1_lt, n1_le, n1_ne, n1_ne', n1_nle, n1_nlt, n1_eq, oobN, some_lt, some_jn, bnd_some, Bool.false_eq_true, if_true, if_false, ite_true, ite_false, ↓reduceIte, ltT, ltF, leT, leF, eqT, eqF, true_and, and_true, false_and, and_false, true_or, or_true, false_or, or_false, not_true_eq_false, not_false_eq_true, if_pos, if_neg, e1, x0, x1, x2, x3, x4, x5, hl, hm, oN]
    | some x =>
      have := i3 x hm
      by_cases h5 : key ≤ x
      · by_cases h6 : y ≤ key
        · simp (disch := omega) only [Nat.add_zero, iN_lit, iN_lt, iN_le, iN_eq, iN_add, iN_mul, iN_sub, iN_nat, iN_div, iN_mod, iN_pred', n1_lt, n1_le, n1_ne, n1_ne', n1_nle, n1_nlt, n1_eq, oobN, some_lt, some_jn, bnd_some, Bool.false_eq_true, if_true, if_false, ite_true, ite_false, ↓reduceIte, ltT, ltF, leT, leF, eqT, eqF, true_and, and_true, false_and, and_false, true_or, or_true, false_or, or_false, not_true_eq_false, not_false_eq_true, if_pos, if_neg, e1, x0, x1, x2, x3, x4, x5, hl, hm, oN]
        · simp (disch := omega) only [Nat.add_zero, iN_lit, iN_lt, iN_le, iN_eq, iN_add, iN_mul, iN_sub, iN_nat, iN_div, iN_mod, iN_pred', n1_lt, n1_le, n1_ne, n1_ne', n1_nle, n1_nlt, n1_eq, oobN, some_lt, some_jn, bnd_some, Bool.false_eq_true, if_true, if_false, ite_true, ite_false, ↓reduceIte, ltT, ltF, leT, leF, eqT, eqF, true_and, and_true, false_and, and_false, true_or, or_true, false_or, or_false, not_true_eq_false, not_false_eq_true, if_pos, if_neg, e1, x0, x1, x2, x3, x4, x5, hl, hm, oN]
      · by_cases h6 : y ≤ key
        · simp (disch := omega) only [Nat.add_zero, iN_lit, iN_lt, iN_le, iN_eq, iN_add, iN_mul, iN_sub, iN_nat, iN_div, iN_mod, iN_pred', n1_lt, n1_le, n1_ne, n1_ne', n1_nle, n1_nlt, n1_eq, oobN, some_lt, some_jn, bnd_some, Bool.false_eq_true, if_true, if_false, ite_true, ite_false, ↓reduceIte, ltT, ltF, leT, leF, eqT, eqF, true_and, and_true, false_and, and_false, true_or, or_true, false_or, or_false, not_true_eq_false, not_false_eq_true, if_pos, if_neg, e1, x0, x1, x2, x3, x4, x5, hl, hm, oN]
        · simp (disch := omega) only [Nat.add_zero, iN_lit, iN_lt, iN_le, iN_eq, iN_add, iN_mul, iN_sub, iN_nat, iN_div, iN_mod, iN_pred', n1_lt, n1_le, n1_ne, n1_ne', n1_nle, n1_nlt, n1_eq, oobN, some_lt, some_jn, bnd_some, Bool.false_eq_true, if_true, if_false, ite_true, ite_false, ↓reduceIte, ltT, ltF, leT, leF, eqT, eqF, true_and, and_true, false_and, and_false, true_or, or_true, false_or, or_false, not_true_eq_false, not_false_eq_true, if_pos, if_neg, e1, x0, x1, x2, x3, x4, x5, hl, hm, oN]
end RPs
