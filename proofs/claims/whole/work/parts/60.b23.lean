/-- the oldest pending rows are merged -/
def frcS (K : Nat → Nat) : Nat → List Nat → (Nat → Nat) → List Pc → (Nat → Nat) × List Pc × List Nat × Nat
  | 0, l, S, P => (S, P, l, 0)
  | _ + 1, [], S, P => (S, P, [], 0)
  | k + 1, r :: l, S, P => ((frcS K k l (mrgT S r) (mrgP K S r P)).1, (frcS K k l (mrgT S r) (mrgP K S r P)).2.1, (frcS K k l (mrgT S r) (mrgP K S r P)).2.2.1, mrgC K r P + (frcS K k l (mrgT S r) (mrgP K S r P)).2.2.2)
theorem frc_ok {n : Nat} {K : Nat → Nat} : ∀ (k : Nat) (l : List Nat) (S : Nat → Nat) (P : List Pc), PI n K P → SI n S P l →
    PI n K (frcS K k l S P).2.1 ∧ SI n (frcS K k l S P).1 (frcS K k l S P).2.1 (frcS K k l S P).2.2.1 ∧ (frcS K k l S P).2.1.length = P.length ∧ hsum (frcS K k l S P).2.1 = hsum P ∧ (frcS K k l S P).2.2.1 = l.drop k := by
  intro k
  induction k with
  | zero => intro l S P hp hs; exact ⟨hp, hs, rfl, rfl, by simp [frcS]⟩
  | succ k ih =>
    intro l S P hp hs
    cases l with
    | nil => exact ⟨hp, hs, rfl, rfl, by simp [frcS]⟩
    | cons r l =>
      obtain ⟨m1, m2, m3, m4⟩ := mrg_ok (L1 := []) hp hs
      obtain ⟨q1, q2, q3, q4, q5⟩ := ih l (mrgT S r) (mrgP K S r P) m1 m2
      exact ⟨q1, q2, by simp only [frcS]; rw [q3, m3], by simp only [frcS]; rw [q4, m4], by simp only [frcS, List.drop_succ_cons]; exact q5⟩
theorem msp_frc {K : Nat → Nat} : ∀ (l : List Nat) (S : Nat → Nat) (P : List Pc), (∀ r ∈ l, K r < 10000) → mspS K 0 10000 l S P = frcS K l.length l S P := by
  intro l
  induction l with
  | nil => intro S P _; rfl
  | cons r l ih =>
    intro S P h
    have h1 := h r (by simp)
    simp only [mspS, List.length_cons, frcS]
    rw [if_pos ⟨Nat.zero_le _, h1⟩, ih _ _ (fun x hx => h x (by simp [hx]))]
/-- the settings -/
def SE (se : Nat → Int32) (W : Nat → Nat) : Prop := ∀ w, w < 4 → se w = iN (W w) ∧ W w ≤ 120
theorem neg_le0 {c : Nat} (h : c < 2147483648) : -iN c ≤ iN 0 := by
  rw [Int32.le_iff_toInt_le, Int32.toInt_neg, iN_toInt h, iN_toInt (by omega)]
  rw [Int.bmod_eq_of_le (by omega) (by omega)]; omega
section FR
variable {n N : Nat} {sz pc tot : Int32} {en bo he so st ky ss pr se : Nat → Int32} {P : List Pc} {K S W : Nat → Nat} {a : Nat → Int32}
theorem c_setting {w : Nat} (h : SE se W) (hw : w < 4) : f_X2_setting se (iN w) = some (iN (W w)) := by
  have h1 := (h w hw).1
  unfold f_X2_setting f_X7_isSetting
  simp (disch := omega) only [Nat.add_zero, iN_lit, iN_lt, iN_le, iN_eq, iN_add, iN_mul, iN_sub, iN_nat, iN_div, iN_mod, iN_pred', n1_lt, n1_le, n1_ne, n1_ne', n1_nle, n1_nlt, n1_eq, oobN, some_lt, some_jn, bnd_some, Bool.false_eq_true, if_true, if_false, ite_true, ite_false, ↓reduceIte, ltT, ltF, leT, leF, eqT, eqF, true_and, and_true, false_and, and_false, true_or, or_true, false_or, or_false, not_true_eq_false, not_false_eq_true, if_pos, if_neg, h1]
theorem filter_mid {L1 L2 : List Nat} {row : Nat} (h1 : row ∉ L1) (h2 : row ∉ L2) : (L1 ++ row :: L2).filter (fun x => decide (x ≠ row)) = L1 ++ L2 := by
  rw [List.filter_append, List.filter_cons_of_neg (by simp)]
  congr 1
  · exact List.filter_eq_self.mpr (fun x hx => by simp only [decide_eq_true_eq]; intro e; exact h1 (e ▸ hx))
  · exact List.filter_eq_self.mpr (fun x hx => by simp only [decide_eq_true_eq]; intro e; exact h2 (e ▸ hx))
theorem c_removePending {L1 L2 : List Nat} {row : Nat} (hpr : At pr 0 (L1 ++ row :: L2)) (hnd : (L1 ++ row :: L2).Nodup) (hlt : ∀ r ∈ L1 ++ row :: L2, r < 120) (h31 : (L1 ++ row :: L2).length ≤ 31) (hN : 1000 < N) :
    ∃ pr', f_X2_removePending N (iN (L1 ++ row :: L2).length) pr (iN row) = some (iN (L1 ++ L2).length, pr') ∧ At pr' 0 (L1 ++ L2) := by
  have n1 : row ∉ L1 := fun hx => by
    rw [List.nodup_append] at hnd
    exact hnd.2.2 row hx row (by simp) rfl
  have n2 : row ∉ L2 := by
    rw [List.nodup_append, List.nodup_cons] at hnd
    exact hnd.2.1.1
  have hrow : row < 120 := hlt row (by simp)
  rw [← filter_mid n1 n2]
  generalize hL : L1 ++ row :: L2 = pe at *
  have key : ∀ (l kp : List Nat) (m : Nat) (pr : Nat → Int32) (place : Nat), l.length < m → place + l.length = pe.length → kp.length ≤ place → (∀ r ∈ l, r < 120) → At pr 0 kp → At pr place l →
      ∀ k : Int32 → (Nat → Int32) → Option (Int32 × (Nat → Int32)), ∃ pr', f_X2_removePending_15 (iN row) (iN pe.length) k m (iN kp.length) (iN place) pr = k (iN (kp ++ l.filter (fun x => decide (x ≠ row))).length) pr' ∧ At pr' 0 (kp ++ l.filter (fun x => decide (x ≠ row))) := by
    intro l
    induction l with
    | nil =>
      intro kp m pr place h1 h2 h3 h4 hA1 hA2 k
      obtain ⟨m, rfl⟩ : ∃ m', m = m' + 1 := ⟨m - 1, by simp at h1; omega⟩
      rw [f_X2_removePending_15.eq_2]
      simp only [List.length_nil, Nat.add_zero] at h2
      subst h2
      refine ⟨pr, ?_, by simpa using hA1⟩
      simp only [List.filter_nil, List.append_nil]
      simp (disch := omega) only [Nat.add_zero, iN_lit, iN_lt, iN_le, iN_eq, iN_add, iN_mul, iN_sub, iN_nat, iN_div, iN_mod, iN_pred', n1_lt, n1_le, n1_ne, n1_ne', n1_nle, n1_nlt, n1_eq, oobN, some_lt, some_jn, bnd_some, Bool.false_eq_true, if_true, if_false, ite_true, ite_false, ↓reduceIte, ltT, ltF, leT, leF, eqT, eqF, true_and, and_true, false_and, and_false, true_or, or_true, false_or, or_false, not_true_eq_false, not_false_eq_true, if_pos, if_neg]
    | cons r l ih =>
      intro kp m pr place h1 h2 h3 h4 hA1 hA2 k
      obtain ⟨m, rfl⟩ : ∃ m', m = m' + 1 := ⟨m - 1, by simp at h1; omega⟩
      simp only [List.length_cons] at h1 h2
      rw [At.cons] at hA2
      have e1 := hA2.1
      have hr := h4 r (by simp)
      rw [f_X2_removePending_15.eq_2]
      by_cases hx : r = row
      · rw [List.filter_cons_of_neg (by simpa using hx)]
        obtain ⟨pr', w1, w2⟩ := ih kp m pr (place + 1) (by omega) (by omega) (by omega) (fun x hx => h4 x (by simp [hx])) hA1 hA2.2 k
        refine ⟨pr', ?_, w2⟩
        simp (disch := omega) only [Nat.add_zero, iN_lit, iN_lt, iN_le, iN_eq, iN_add, iN_mul, iN_sub, iN_nat, iN_div, iN_mod, iN_pred', n1_lt, n1_le, n1_ne, n1_ne', n1_nle, n1_nlt, n1_eq, oobN, some_lt, some_jn, bnd_some, Bool.false_eq_true, if_true, if_false, ite_true, ite_false, ↓reduceIte, ltT, ltF, leT, leF, eqT, eqF, true_and, and_true, false_and, and_false, true_or, or_true, false_or, or_false, not_true_eq_false, not_false_eq_true, if_pos, if_neg, e1]
        exact w1
      · rw [List.filter_cons_of_pos (by simpa using hx)]
        have hsn := At.snoc (x := r) hA1
        rw [Nat.zero_add] at hsn
        obtain ⟨pr', w1, w2⟩ := ih (kp ++ [r]) m (upd pr kp.length (iN r)) (place + 1) (by omega) (by omega) (by simp; omega) (fun x hx => h4 x (by simp [hx])) hsn (hA2.2.congr (fun j hj1 hj2 => upd_ne (by omega))) k
        rw [List.append_assoc] at w1 w2
        rw [List.length_append (as := kp) (bs := [r]), List.length_singleton] at w1
        refine ⟨pr', ?_, w2⟩
        simp (disch := omega) only [Nat.add_zero, iN_lit, iN_lt, iN_le, iN_eq, iN_add, iN_mul, iN_sub, iN_nat, iN_div, iN_mod, iN_pred', n1_lt, n1_le, n1_ne, n1_ne', n1_nle, n1_nlt, n1_eq, oobN, some_lt, some_jn, bnd_some, Bool.false_eq_true, if_true, if_false, ite_true, ite_false, ↓reduceIte, ltT, ltF, leT, leF, eqT, eqF, true_and, and_true, false_and, and_false, true_or, or_true, false_or, or_false, not_true_eq_false, not_false_eq_true, if_pos, if_neg, e1]
        exact w1
  obtain ⟨pr', w1, w2⟩ := key pe [] N pr 0 (by omega) (by omega) (Nat.le_refl _) hlt (At.nil _ _) hpr (fun x2_53_2 t_pendingRows_53_3 => some (x2_53_2, t_pendingRows_53_3))
  refine ⟨pr', ?_, w2⟩
  unfold f_X2_removePending
  have e5 : (if (31 : Int32) < iN pe.length then 31 else iN pe.length) = iN pe.length := by simp (disch := omega) only [Nat.add_zero, iN_lit, iN_lt, iN_le, iN_eq, iN_add, iN_mul, iN_sub, iN_nat, iN_div, iN_mod, iN_pred', n1_lt, n1_le, n1_ne, n1_ne', n1_nle, n1_nlt, n1_eq, oobN, some_lt, some_jn, bnd_some, Bool.false_eq_true, if_true, if_false, ite_true, ite_false, ↓reduceIte, ltT, ltF, leT, leF, eqT, eqF, true_and, and_true, false_and, and_false, true_or, or_true, false_or, or_false, not_true_eq_false, not_false_eq_true, if_pos, if_neg]
  rw [e5, some_lt, some_jn]
  exact w1
theorem c_addPending {pe : List Nat} {row : Nat} (hpr : At pr 0 pe) (h31 : pe.length < 31) :
    ∃ pr', f_X2_addPending (iN pe.length) pr (iN row) = some (iN (pe ++ [row]).length, pr') ∧ At pr' 0 (pe ++ [row]) := by
  have hsn := At.snoc (x := row) hpr
  rw [Nat.zero_add] at hsn
  refine ⟨_, ?_, hsn⟩
  unfold f_X2_addPending
  rw [List.length_append, List.length_singleton]
  simp (disch := omega) only [Nat.add_zero, iN_lit, iN_lt, iN_le, iN_eq, iN_add, iN_mul, iN_sub, iN_nat, iN_div, iN_mod, iN_pred', n1_lt, n1_le, n1_ne, n1_ne', n1_nle, n1_nlt, n1_eq, oobN, some_lt, some_jn, bnd_some, Bool.false_eq_true, if_true, if_false, ite_true, ite_false, ↓reduceIte, ltT, ltF, leT, leF, eqT, eqF, true_and, and_true, false_and, and_false, true_or, or_true, false_or, or_false, not_true_eq_false, not_false_eq_true, if_pos, if_neg]
theorem c_pendingAt {pe : List Nat} {i : Nat} (hpr : At pr 0 pe) (h31 : pe.length ≤ 31) (hi : i < pe.length) : f_X2_pendingAt (iN pe.length) pr (iN i) = some (iN pe[i]) := by
  have h1 := hpr.get0 hi
  unfold f_X2_pendingAt
  simp (disch := omega) only [Nat.add_zero, iN_lit, iN_lt, iN_le, iN_eq, iN_add, iN_mul, iN_sub, iN_nat, iN_div, iN_mod, iN_pred', n1_lt, n1_le, n1_ne, n1_ne', n1_nle, n1_nlt, n1_eq, oobN, some_lt, some_jn, bnd_some, Bool.false_eq_true, if_true, if_false, ite_true, ite_false, ↓reduceIte, ltT, ltF, leT, leF, eqT, eqF, true_and, and_true, false_and, and_false, true_or, or_true, false_or, or_false, not_true_eq_false, not_false_eq_true, if_pos, if_neg, h1]
theorem c_mergeTooMany {pe : List Nat} (h : IX sz pc en bo he so st P) (hp : PI n K P) (hsi : SI n S P pe) (hk : KY n ky K) (hs : ST n ss S) (hse : SE se W) (hpr : At pr 0 pe) (h31 : pe.length ≤ 31) (hN : 1000 < N) :
    ∃ sz' en' st' pr' ss', f_X2_mergeTooMany N (iN pe.length) tot sz pc bo en so st pr se ky ss = some (iN (frcS K (pe.length - W 3) pe S P).2.2.1.length, tot + iN (frcS K (pe.length - W 3) pe S P).2.2.2, sz', en', st', pr', ss') ∧
      IX sz' pc en' bo he so st' (frcS K (pe.length - W 3) pe S P).2.1 ∧ At pr' 0 (frcS K (pe.length - W 3) pe S P).2.2.1 ∧ ST n ss' (frcS K (pe.length - W 3) pe S P).1 := by
  have hn := hp.1.nn
  have key : ∀ (o : Nat) (l : List Nat) (m : Nat) (tot sz : Int32) (en st pr ss : Nat → Int32) (S : Nat → Nat) (P : List Pc), o < m → o ≤ l.length → l.length ≤ 31 → IX sz pc en bo he so st P → PI n K P → SI n S P l → ST n ss S → At pr 0 l →
      ∀ k : Int32 → Int32 → Int32 → (Nat → Int32) → (Nat → Int32) → (Nat → Int32) → (Nat → Int32) → Option (Int32 × Int32 × Int32 × (Nat → Int32) × (Nat → Int32) × (Nat → Int32) × (Nat → Int32)), ∃ sz' en' st' pr' ss', f_X2_mergeTooMany_13 N pc bo so ky k m (iN o) (iN l.length) tot sz en st pr ss = k (iN (frcS K o l S P).2.2.1.length) (tot + iN (frcS K o l S P).2.2.2) sz' en' st' pr' ss' ∧
        IX sz' pc en' bo he so st' (frcS K o l S P).2.1 ∧ At pr' 0 (frcS K o l S P).2.2.1 ∧ ST n ss' (frcS K o l S P).1 := by
    intro o
    induction o with
    | zero =>
      intro l m tot sz en st pr ss S P h1 h2 h3 hI hP hS hT hA k
      obtain ⟨m, rfl⟩ : ∃ m', m = m' + 1 := ⟨m - 1, by omega⟩
      rw [f_X2_mergeTooMany_13.eq_2]
      refine ⟨sz, en, st, pr, ss, ?_, hI, hA, hT⟩
      simp only [frcS]
      rw [show tot + iN 0 = tot from Int32.add_zero _]
      simp (disch := omega) only [Nat.add_zero, iN_lit, iN_lt, iN_le, iN_eq, iN_add, iN_mul, iN_sub, iN_nat, iN_div, iN_mod, iN_pred', n1_lt, n1_le, n1_ne, n1_ne', n1_nle, n1_nlt, n1_eq, oobN, some_lt, some_jn, bnd_some, Bool.false_eq_true, if_true, if_false, ite_true, ite_false, ↓reduceIte, ltT, ltF, leT, leF, eqT, eqF, true_and, and_true, false_and, and_false, true_or, or_true, false_or, or_false, not_true_eq_false, not_false_eq_true, if_pos, if_neg]
    | succ o ih =>
      intro l m tot sz en st pr ss S P h1 h2 h3 hI hP hS hT hA k
      obtain ⟨m, rfl⟩ : ∃ m', m = m' + 1 := ⟨m - 1, by omega⟩
      cases l with
      | nil => simp at h2
      | cons r l =>
        have hr := (hS.2.2.1 r).mp (by simp)
        have e1 := c_pendingAt (i := 0) hA h3 (by simp)
        rw [List.getElem_cons_zero] at e1
        obtain ⟨pr2, u1, u2⟩ := c_removePending (L1 := []) (L2 := l) (row := r) (N := N) hA hS.2.1 (fun x hx => by have := ((hS.2.2.1 x).mp hx).1; omega) h3 hN
        obtain ⟨sz', en', st', ss', q1, q2, q3⟩ := c_mergeRow (L1 := []) hI hP hS hk hT hN
        obtain ⟨m1, m2, m3, m4⟩ := mrg_ok (L1 := []) hP hS
        simp only [List.length_cons] at h2 h3
        obtain ⟨sz2, en2, st2, pr3, ss2, w1, w2, w3, w4⟩ := ih l m (tot + iN (mrgC K r P)) sz' en' st' pr2 ss' (mrgT S r) (mrgP K S r P) (by omega) (by omega) (by omega) q2 m1 m2 q3 u2 k
        refine ⟨sz2, en2, st2, pr3, ss2, ?_, w2, w3, w4⟩
        rw [f_X2_mergeTooMany_13.eq_2]
        simp only [List.nil_append] at u1
        rw [show tot + iN (frcS K (o + 1) (r :: l) S P).2.2.2 = tot + iN (mrgC K r P) + iN (frcS K o l (mrgT S r) (mrgP K S r P)).2.2.2 by simp only [frcS]; rw [← iN_add, Int32.add_assoc]]
        show _ = k (iN (frcS K o l (mrgT S r) (mrgP K S r P)).2.2.1.length) _ _ _ _ _ _
        rw [← w1]
        simp only [show (iN 0 : Int32) = 0 from rfl] at e1
        rw [e1, bnd_some, u1]
        simp only [bnd2, q1, bnd5]
        simp (disch := omega) only [Nat.add_zero, iN_lit, iN_lt, iN_le, iN_eq, iN_add, iN_mul, iN_sub, iN_nat, iN_div, iN_mod, iN_pred', n1_lt, n1_le, n1_ne, n1_ne', n1_nle, n1_nlt, n1_eq, oobN, some_lt, some_jn, bnd_some, Bool.false_eq_true, if_true, if_false, ite_true, ite_false, ↓reduceIte, ltT, ltF, leT, leF, eqT, eqF, true_and, and_true, false_and, and_false, true_or, or_true, false_or, or_false, not_true_eq_false, not_false_eq_true, if_pos, if_neg, Nat.add_sub_cancel]
  unfold f_X2_mergeTooMany
  rw [show (3 : Int32) = iN 3 from rfl, c_setting hse (by omega), bnd_some, some_lt, some_jn]
  have hW := (hse 3 (by omega)).2
  by_cases hle : pe.length ≤ W 3
  · have e0 : pe.length - W 3 = 0 := by omega
    rw [e0]
    obtain ⟨M, hM⟩ : ∃ M, N = M + 1 := ⟨N - 1, by omega⟩
    refine ⟨sz, en, st, pr, ss, ?_, h, hpr, hs⟩
    rw [iN_subn hle]
    rw [show f_X2_mergeTooMany_13 N pc bo so ky (fun t_pendingCount_48_4 t_totalCost_48_5 t_index_size_48_6 t_index_entries_48_7 t_index_starts_48_8 t_pendingRows_48_9 t_rows_states_48_10 => some (t_pendingCount_48_4, t_totalCost_48_5, t_index_size_48_6, t_index_entries_48_7, t_index_starts_48_8, t_pendingRows_48_9, t_rows_states_48_10)) N (-iN (W 3 - pe.length)) (iN pe.length) tot sz en st pr ss = f_X2_mergeTooMany_13 N pc bo so ky (fun t_pendingCount_48_4 t_totalCost_48_5 t_index_size_48_6 t_index_entries_48_7 t_index_starts_48_8 t_pendingRows_48_9 t_rows_states_48_10 => some (t_pendingCount_48_4, t_totalCost_48_5, t_index_size_48_6, t_index_entries_48_7, t_index_starts_48_8, t_pendingRows_48_9, t_rows_states_48_10)) (M + 1) (-iN (W 3 - pe.length)) (iN pe.length) tot sz en st pr ss by rw [← hM], f_X2_mergeTooMany_13.eq_2]
    have e1 : (-iN (W 3 - pe.length) ≤ 0) = True := eq_true (neg_le0 (by omega))
    simp only [e1, if_true, frcS]
    rw [show tot + iN 0 = tot from Int32.add_zero _]
  · rw [iN_sub (by omega)]
    exact key (pe.length - W 3) pe N tot sz en st pr ss S P (by omega) (by omega) h31 h hp hsi hs hpr _
theorem r_forces {pe : List Nat} (h : RX a P) (hp : PI n K P) (hsi : SI n S P pe) (hpe : RP a pe) (h31 : pe.length ≤ 31) (hk : KY n (fun r => a (20 + r)) K) (hs : ST n (fun r => a (260 + r)) S) (h7 : a 7 = iN (W 3)) (hW : W 3 ≤ 120) (h8 : a 8 = tot) (hN : 1000 < N) :
    ∃ a', f_X8_forces N a = some a' ∧ RX a' (frcS K (pe.length - W 3) pe S P).2.1 ∧ RP a' (frcS K (pe.length - W 3) pe S P).2.2.1 ∧ ST n (fun r => a' (260 + r)) (frcS K (pe.length - W 3) pe S P).1 ∧ a' 8 = tot + iN (frcS K (pe.length - W 3) pe S P).2.2.2 ∧ ∀ j, ¬ mrgR j → j ≠ 8 → a' j = a j := by
  have hn := hp.1.nn
  have key : ∀ (o : Nat) (l : List Nat) (m : Nat) (tot : Int32) (a : Nat → Int32) (S : Nat → Nat) (P : List Pc), o < m → o = l.length - W 3 → l.length ≤ 31 → RX a P → PI n K P → SI n S P l → RP a l → KY n (fun r => a (20 + r)) K → ST n (fun r => a (260 + r)) S → a 7 = iN (W 3) → a 8 = tot →
      ∀ k : (Nat → Int32) → Option (Nat → Int32), ∃ a', f_X8_forces_0 N k m a = k a' ∧ RX a' (frcS K o l S P).2.1 ∧ RP a' (frcS K o l S P).2.2.1 ∧ ST n (fun r => a' (260 + r)) (frcS K o l S P).1 ∧ a' 8 = tot + iN (frcS K o l S P).2.2.2 ∧ ∀ j, ¬ mrgR j → j ≠ 8 → a' j = a j := by
    intro o
    induction o with
    | zero =>
      intro l m tot a S P h1 h2 h3 hR hP hS hE hK hT h7 h8 k
      obtain ⟨m, rfl⟩ : ∃ m', m = m' + 1 := ⟨m - 1, by omega⟩
      rw [f_X8_forces_0.eq_2, hE.1, h7]
      refine ⟨a, ?_, hR, hE, hT, ?_, fun _ _ _ => rfl⟩
      · simp (disch := omega) only [Nat.add_zero, iN_lit, iN_lt, iN_le, iN_eq, iN_add, iN_mul, iN_sub, iN_nat, iN_div, iN_mod, iN_pred', n1_lt, n1_le, n1_ne, n1_ne', n1_nle, n1_nlt, n1_eq, oobN, some_lt, some_jn, bnd_some, Bool.false_eq_true, if_true, if_false, ite_true, ite_false, ↓reduceIte, ltT, ltF, leT, leF, eqT, eqF, true_and, and_true, false_and, and_false, true_or, or_true, false_or, or_false, not_true_eq_false, not_false_eq_true, if_pos, if_neg]
      · simp only [frcS]; rw [h8]; exact (Int32.add_zero _).symm
    | succ o ih =>
      intro l m tot a S P h1 h2 h3 hR hP hS hE hK hT h7 h8 k
      obtain ⟨m, rfl⟩ : ∃ m', m = m' + 1 := ⟨m - 1, by omega⟩
      cases l with
      | nil => simp at h2
      | cons r l =>
        obtain ⟨a1, q1, q2, q3, q4, q5⟩ := r_merges (L1 := []) hR hP hS hE h3 hK hT hN
        obtain ⟨m1, m2, m3, m4⟩ := mrg_ok (L1 := []) hP hS
        have e2 := hE.1
        simp only [List.length_cons] at h2 h3 e2
        have fr : ∀ j, j ≠ 8 → upd a1 8 (tot + iN (mrgC K r P)) j = a1 j := fun j hj => upd_ne hj
        obtain ⟨a2, w1, w2, w3, w4, w5, w6⟩ := ih l m (tot + iN (mrgC K r P)) (upd a1 8 (tot + iN (mrgC K r P))) (mrgT S r) (mrgP K S r P) (by omega) (by omega) (by omega)
          (RX.frame q2 m1.1 (fun j hj => fr j (by unfold idxR at hj; omega))) m1 m2 (RP.frame (pe := l) q3 (by omega) (fun j hj => fr j (by unfold penR at hj; omega)))
          (fun x hx => ⟨by show upd a1 8 _ (20 + x) = _; rw [fr _ (by omega), q5 _ (by unfold mrgR idxR penR; omega)]; exact (hK x hx).1, (hK x hx).2⟩)
          (fun x hx => ⟨by show upd a1 8 _ (260 + x) = _; rw [fr _ (by omega)]; exact (q4 x hx).1, (q4 x hx).2⟩)
          (by rw [fr 7 (by omega), q5 7 (by unfold mrgR idxR penR; omega), h7]) (upd_self _ _ _) k
        refine ⟨a2, ?_, w2, w3, w4, ?_, fun j hj hj2 => ?_⟩
        · rw [f_X8_forces_0.eq_2, e2, h7]
          have q1' : f_X8_merges N a 0 = some (iN (mrgC K r P), a1) := q1
          rw [q1', h8, ← w1]
          simp only [bnd2]
          simp (disch := omega) only [Nat.add_zero, iN_lit, iN_lt, iN_le, iN_eq, iN_add, iN_mul, iN_sub, iN_nat, iN_div, iN_mod, iN_pred', n1_lt, n1_le, n1_ne, n1_ne', n1_nle, n1_nlt, n1_eq, oobN, some_lt, some_jn, bnd_some, Bool.false_eq_true, if_true, if_false, ite_true, ite_false, ↓reduceIte, ltT, ltF, leT, leF, eqT, eqF, true_and, and_true, false_and, and_false, true_or, or_true, false_or, or_false, not_true_eq_false, not_false_eq_true, if_pos, if_neg]
        · rw [w5]; simp only [frcS]; rw [← iN_add, Int32.add_assoc]
        · rw [w6 j hj hj2, fr j hj2, q5 j hj]
  obtain ⟨a', q1, q2, q3, q4, q5, q6⟩ := key (pe.length - W 3) pe N tot a S P (by omega) rfl h31 h hp hsi hpe hk hs h7 h8 (fun t_a_34_1 => some t_a_34_1)
  refine ⟨a', ?_, q2, q3, q4, q5, q6⟩
  unfold f_X8_forces
  rw [some_jn]
  exact q1
theorem r_mergeAllLoop {pe : List Nat} (h : RX a P) (hp : PI n K P) (hsi : SI n S P pe) (hpe : RP a pe) (h31 : pe.length ≤ 31) (hk : KY n (fun r => a (20 + r)) K) (hs : ST n (fun r => a (260 + r)) S) (hN : 1000 < N) (k : Int32 → (Nat → Int32) → Option (Int32 × Int32 × Int32 × (Nat → Int32) × (Nat → Int32))) :
    ∃ a', f_X8_mergeAll_11 N k N 0 a = k (iN (frcS K pe.length pe S P).2.2.2) a' ∧ RX a' (frcS K pe.length pe S P).2.1 ∧ RP a' (frcS K pe.length pe S P).2.2.1 ∧ ST n (fun r => a' (260 + r)) (frcS K pe.length pe S P).1 ∧ ∀ j, ¬ mrgR j → a' j = a j := by
  have hn := hp.1.nn
  have key : ∀ (l : List Nat) (m cost : Nat) (a : Nat → Int32) (S : Nat → Nat) (P : List Pc), l.length < m → l.length ≤ 31 → RX a P → PI n K P → SI n S P l → RP a l → KY n (fun r => a (20 + r)) K → ST n (fun r => a (260 + r)) S →
      ∃ a', f_X8_mergeAll_11 N k m (iN cost) a = k (iN (cost + (frcS K l.length l S P).2.2.2)) a' ∧ RX a' (frcS K l.length l S P).2.1 ∧ RP a' (frcS K l.length l S P).2.2.1 ∧ ST n (fun r => a' (260 + r)) (frcS K l.length l S P).1 ∧ ∀ j, ¬ mrgR j → a' j = a j := by
    intro l
    induction l with
    | nil =>
      intro m cost a S P h1 h2 hR hP hS hE hK hT
      obtain ⟨m, rfl⟩ : ∃ m', m = m' + 1 := ⟨m - 1, by simp at h1; omega⟩
      rw [f_X8_mergeAll_11.eq_2, hE.1]
      refine ⟨a, ?_, hR, hE, hT, fun _ _ => rfl⟩
      simp only [frcS, List.length_nil]
      simp (disch := omega) only [Nat.add_zero, iN_lit, iN_lt, iN_le, iN_eq, iN_add, iN_mul, iN_sub, iN_nat, iN_div, iN_mod, iN_pred', n1_lt, n1_le, n1_ne, n1_ne', n1_nle, n1_nlt, n1_eq, oobN, some_lt, some_jn, bnd_some, Bool.false_eq_true, if_true, if_false, ite_true, ite_false, ↓reduceIte, ltT, ltF, leT, leF, eqT, eqF, true_and, and_true, false_and, and_false, true_or, or_true, false_or, or_false, not_true_eq_false, not_false_eq_true, if_pos, if_neg]
    | cons r l ih =>
      intro m cost a S P h1 h2 hR hP hS hE hK hT
      obtain ⟨m, rfl⟩ : ∃ m', m = m' + 1 := ⟨m - 1, by simp at h1; omega⟩
      obtain ⟨a1, q1, q2, q3, q4, q5⟩ := r_merges (L1 := []) hR hP hS hE h2 hK hT hN
      obtain ⟨m1, m2, m3, m4⟩ := mrg_ok (L1 := []) hP hS
      have e2 := hE.1
      simp only [List.length_cons] at h1 h2 e2
      obtain ⟨a2, w1, w2, w3, w4, w5⟩ := ih m (cost + mrgC K r P) a1 (mrgT S r) (mrgP K S r P) (by omega) (by omega) q2 m1 m2 q3
        (fun x hx => ⟨by show a1 (20 + x) = _; rw [q5 _ (by unfold mrgR idxR penR; omega)]; exact (hK x hx).1, (hK x hx).2⟩) q4
      refine ⟨a2, ?_, w2, w3, w4, fun j hj => by rw [w5 j hj, q5 j hj]⟩
      rw [f_X8_mergeAll_11.eq_2, e2]
      have q1' : f_X8_merges N a 0 = some (iN (mrgC K r P), a1) := q1
      rw [q1']
      simp only [List.length_cons, frcS]
      rw [← Nat.add_assoc, ← w1]
      simp only [bnd2]
      simp (disch := omega) only [Nat.add_zero, iN_lit, iN_lt, iN_le, iN_eq, iN_add, iN_mul, iN_sub, iN_nat, iN_div, iN_mod, iN_pred', n1_lt, n1_le, n1_ne, n1_ne', n1_nle, n1_nlt, n1_eq, oobN, some_lt, some_jn, bnd_some, Bool.false_eq_true, if_true, if_false, ite_true, ite_false, ↓reduceIte, ltT, ltF, leT, leF, eqT, eqF, true_and, and_true, false_and, and_false, true_or, or_true, false_or, or_false, not_true_eq_false, not_false_eq_true, if_pos, if_neg]
  obtain ⟨a', q1, q2, q3, q4, q5⟩ := key pe N 0 a S P (by omega) h31 h hp hsi hpe hk hs
  rw [Nat.zero_add] at q1
  exact ⟨a', q1, q2, q3, q4, q5⟩
end FR
