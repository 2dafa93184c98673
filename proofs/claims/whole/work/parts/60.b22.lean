/-- the pending rows with keys in a span are merged: states, pieces, who is left, the cost -/
def mspS (K : Nat → Nat) (lo hi : Nat) : List Nat → (Nat → Nat) → List Pc → (Nat → Nat) × List Pc × List Nat × Nat
  | [], S, P => (S, P, [], 0)
  | r :: l, S, P => if lo ≤ K r ∧ K r < hi then
      ((mspS K lo hi l (mrgT S r) (mrgP K S r P)).1, (mspS K lo hi l (mrgT S r) (mrgP K S r P)).2.1, (mspS K lo hi l (mrgT S r) (mrgP K S r P)).2.2.1, mrgC K r P + (mspS K lo hi l (mrgT S r) (mrgP K S r P)).2.2.2)
    else ((mspS K lo hi l S P).1, (mspS K lo hi l S P).2.1, r :: (mspS K lo hi l S P).2.2.1, (mspS K lo hi l S P).2.2.2)
theorem msp_len (K : Nat → Nat) (lo hi : Nat) : ∀ (l : List Nat) (S : Nat → Nat) (P : List Pc), (mspS K lo hi l S P).2.2.1.length ≤ l.length := by
  intro l
  induction l with
  | nil => intro S P; simp [mspS]
  | cons r l ih =>
    intro S P
    unfold mspS
    split
    · have := ih (mrgT S r) (mrgP K S r P); simp only [List.length_cons]; omega
    · have := ih S P; simp only [List.length_cons]; omega
theorem msp_ok {n : Nat} {K : Nat → Nat} {lo hi : Nat} : ∀ (l kp : List Nat) (S : Nat → Nat) (P : List Pc), PI n K P → SI n S P (kp ++ l) →
    PI n K (mspS K lo hi l S P).2.1 ∧ SI n (mspS K lo hi l S P).1 (mspS K lo hi l S P).2.1 (kp ++ (mspS K lo hi l S P).2.2.1) ∧ (mspS K lo hi l S P).2.1.length = P.length ∧ hsum (mspS K lo hi l S P).2.1 = hsum P := by
  intro l
  induction l with
  | nil => intro kp S P hp hs; exact ⟨hp, hs, rfl, rfl⟩
  | cons r l ih =>
    intro kp S P hp hs
    unfold mspS
    split
    · obtain ⟨m1, m2, m3, m4⟩ := mrg_ok hp hs
      obtain ⟨q1, q2, q3, q4⟩ := ih kp (mrgT S r) (mrgP K S r P) m1 m2
      exact ⟨q1, q2, by rw [q3, m3], by rw [q4, m4]⟩
    · have := ih (kp ++ [r]) S P hp (by rw [List.append_assoc]; exact hs)
      rw [List.append_assoc] at this
      exact this
section MS
variable {n N : Nat} {sz pc : Int32} {en bo he so st ky ss pr : Nat → Int32} {P : List Pc} {K S : Nat → Nat} {a : Nat → Int32}
theorem c_mergeSpan {lo hi : Nat} {pe : List Nat} (h : IX sz pc en bo he so st P) (hp : PI n K P) (hsi : SI n S P pe) (hk : KY n ky K) (hs : ST n ss S) (hpr : At pr 0 pe) (h31 : pe.length ≤ 31) (hlo : lo ≤ 10000) (hhi : hi ≤ 10000) (hN : 1000 < N) :
    ∃ sz' en' st' pr' ss', f_X2_mergeSpan N (iN pe.length) sz pc bo en so st pr ky ss (iN lo) (iN hi) = some (iN (mspS K lo hi pe S P).2.2.2, iN (mspS K lo hi pe S P).2.2.1.length, sz', en', st', pr', ss') ∧
      IX sz' pc en' bo he so st' (mspS K lo hi pe S P).2.1 ∧ At pr' 0 (mspS K lo hi pe S P).2.2.1 ∧ ST n ss' (mspS K lo hi pe S P).1 := by
  have hn := hp.1.nn
  have key : ∀ (l kp : List Nat) (m cost : Nat) (sz : Int32) (en st pr ss : Nat → Int32) (S : Nat → Nat) (P : List Pc) (place : Nat), l.length < m → place + l.length = pe.length → kp.length ≤ place → IX sz pc en bo he so st P → PI n K P → SI n S P (kp ++ l) → ST n ss S → At pr 0 kp → At pr place l →
      ∀ k : Int32 → Int32 → Int32 → (Nat → Int32) → (Nat → Int32) → (Nat → Int32) → (Nat → Int32) → Option (Int32 × Int32 × Int32 × (Nat → Int32) × (Nat → Int32) × (Nat → Int32) × (Nat → Int32)), ∃ sz' en' st' pr' ss', f_X2_mergeSpan_19 N pc bo so ky (iN lo) (iN hi) (iN pe.length) k m (iN cost) (iN kp.length) (iN place) sz en st pr ss = k (iN (cost + (mspS K lo hi l S P).2.2.2)) (iN (kp ++ (mspS K lo hi l S P).2.2.1).length) sz' en' st' pr' ss' ∧
        IX sz' pc en' bo he so st' (mspS K lo hi l S P).2.1 ∧ At pr' 0 (kp ++ (mspS K lo hi l S P).2.2.1) ∧ ST n ss' (mspS K lo hi l S P).1 := by
    intro l
    induction l with
    | nil =>
      intro kp m cost sz en st pr ss S P place h1 h2 h3 hI hP hS hT hA1 hA2 k
      obtain ⟨m, rfl⟩ : ∃ m', m = m' + 1 := ⟨m - 1, by simp at h1; omega⟩
      rw [f_X2_mergeSpan_19.eq_2]
      simp only [List.length_nil, Nat.add_zero] at h2
      refine ⟨sz, en, st, pr, ss, ?_, hI, by simpa [mspS] using hA1, hT⟩
      subst h2
      simp only [mspS, List.append_nil]
      simp (disch := omega) only [Nat.add_zero, iN_lit, iN_lt, iN_le, iN_eq, iN_add, iN_mul, iN_sub, iN_nat, iN_div, iN_mod, iN_pred', n1_lt, n1_le, n1_ne, n1_ne', n1_nle, n1_nlt, n1_eq, oobN, some_lt, some_jn, bnd_some, Bool.false_eq_true, if_true, if_false, ite_true, ite_false, ↓reduceIte, ltT, ltF, leT, leF, eqT, eqF, true_and, and_true, false_and, and_false, true_or, or_true, false_or, or_false, not_true_eq_false, not_false_eq_true, if_pos, if_neg]
    | cons r l ih =>
      intro kp m cost sz en st pr ss S P place h1 h2 h3 hI hP hS hT hA1 hA2 k
      obtain ⟨m, rfl⟩ : ∃ m', m = m' + 1 := ⟨m - 1, by simp at h1; omega⟩
      simp only [List.length_cons] at h1 h2
      rw [At.cons] at hA2
      have hr := (hS.2.2.1 r).mp (by simp)
      have e1 := hA2.1
      have e2 := c_isIn hk hn hr.1 hlo hhi
      rw [f_X2_mergeSpan_19.eq_2]
      by_cases hin : lo ≤ K r ∧ K r < hi
      · obtain ⟨sz', en', st', ss', q1, q2, q3⟩ := c_mergeRow hI hP hS hk hT hN
        obtain ⟨m1, m2, m3, m4⟩ := mrg_ok hP hS
        obtain ⟨sz2, en2, st2, pr2, ss2, w1, w2, w3, w4⟩ := ih kp m (cost + mrgC K r P) sz' en' st' pr ss' (mrgT S r) (mrgP K S r P) (place + 1) (by omega) (by omega) (by omega) q2 m1 m2 q3 hA1 hA2.2 k
        rw [if_pos hin] at e2
        have e3 : mspS K lo hi (r :: l) S P = ((mspS K lo hi l (mrgT S r) (mrgP K S r P)).1, (mspS K lo hi l (mrgT S r) (mrgP K S r P)).2.1, (mspS K lo hi l (mrgT S r) (mrgP K S r P)).2.2.1, mrgC K r P + (mspS K lo hi l (mrgT S r) (mrgP K S r P)).2.2.2) := by
          conv => lhs; unfold mspS
          rw [if_pos hin]
        rw [e3]
        refine ⟨sz2, en2, st2, pr2, ss2, ?_, w2, w3, w4⟩
        dsimp only
        rw [← Nat.add_assoc]
        simp (disch := omega) only [Nat.add_zero, iN_lit, iN_lt, iN_le, iN_eq, iN_add, iN_mul, iN_sub, iN_nat, iN_div, iN_mod, iN_pred', n1_lt, n1_le, n1_ne, n1_ne', n1_nle, n1_nlt, n1_eq, oobN, some_lt, some_jn, bnd_some, Bool.false_eq_true, if_true, if_false, ite_true, ite_false, ↓reduceIte, ltT, ltF, leT, leF, eqT, eqF, true_and, and_true, false_and, and_false, true_or, or_true, false_or, or_false, not_true_eq_false, not_false_eq_true, if_pos, if_neg, e1, e2, q1, bnd5]
        exact w1
      · rw [if_neg hin] at e2
        have hsn := At.snoc (x := r) hA1
        rw [Nat.zero_add] at hsn
        obtain ⟨sz2, en2, st2, pr2, ss2, w1, w2, w3, w4⟩ := ih (kp ++ [r]) m cost sz en st (upd pr kp.length (iN r)) ss S P (place + 1) (by omega) (by omega) (by simp; omega) hI hP (by rw [List.append_assoc]; exact hS) hT hsn (hA2.2.congr (fun j hj1 hj2 => upd_ne (by omega))) k
        have e3 : mspS K lo hi (r :: l) S P = ((mspS K lo hi l S P).1, (mspS K lo hi l S P).2.1, r :: (mspS K lo hi l S P).2.2.1, (mspS K lo hi l S P).2.2.2) := by
          conv => lhs; unfold mspS
          rw [if_neg hin]
        rw [e3]
        dsimp only
        rw [List.append_assoc] at w1 w3
        rw [List.length_append (as := kp) (bs := [r]), List.length_singleton] at w1
        refine ⟨sz2, en2, st2, pr2, ss2, ?_, w2, w3, w4⟩
        simp (disch := omega) only [Nat.add_zero, iN_lit, iN_lt, iN_le, iN_eq, iN_add, iN_mul, iN_sub, iN_nat, iN_div, iN_mod, iN_pred', n1_lt, n1_le, n1_ne, n1_ne', n1_nle, n1_nlt, n1_eq, oobN, some_lt, some_jn, bnd_some, Bool.false_eq_true, if_true, if_false, ite_true, ite_false, ↓reduceIte, ltT, ltF, leT, leF, eqT, eqF, true_and, and_true, false_and, and_false, true_or, or_true, false_or, or_false, not_true_eq_false, not_false_eq_true, if_pos, if_neg, e1, e2]
        exact w1
  obtain ⟨sz', en', st', pr', ss', q1, q2, q3, q4⟩ := key pe [] N 0 sz en st pr ss S P 0 (by omega) (by omega) (Nat.le_refl _) h hp hsi hs (At.nil _ _) hpr (fun x3_79_2 x4_79_3 t_index_size_79_4 t_index_entries_79_5 t_index_starts_79_6 t_pendingRows_79_7 t_rows_states_79_8 => some (x3_79_2, x4_79_3, t_index_size_79_4, t_index_entries_79_5, t_index_starts_79_6, t_pendingRows_79_7, t_rows_states_79_8))
  refine ⟨sz', en', st', pr', ss', ?_, q2, q3, q4⟩
  rw [Nat.zero_add, List.nil_append] at q1
  unfold f_X2_mergeSpan
  have e5 : (if (31 : Int32) < iN pe.length then 31 else iN pe.length) = iN pe.length := by simp (disch := omega) only [Nat.add_zero, iN_lit, iN_lt, iN_le, iN_eq, iN_add, iN_mul, iN_sub, iN_nat, iN_div, iN_mod, iN_pred', n1_lt, n1_le, n1_ne, n1_ne', n1_nle, n1_nlt, n1_eq, oobN, some_lt, some_jn, bnd_some, Bool.false_eq_true, if_true, if_false, ite_true, ite_false, ↓reduceIte, ltT, ltF, leT, leF, eqT, eqF, true_and, and_true, false_and, and_false, true_or, or_true, false_or, or_false, not_true_eq_false, not_false_eq_true, if_pos, if_neg]
  rw [e5, some_lt, some_jn]
  exact q1
theorem r_mergesIn {lo hi : Nat} {pe : List Nat} (h : RX a P) (hp : PI n K P) (hsi : SI n S P pe) (hpe : RP a pe) (h31 : pe.length ≤ 31) (hk : KY n (fun r => a (20 + r)) K) (hs : ST n (fun r => a (260 + r)) S) (hlo : lo ≤ 10000) (hhi : hi ≤ 10000) (hhi1 : 1 ≤ hi) (h15 : a 15 = iN 0) (hN : 1000 < N) :
    ∃ a', f_X8_mergesIn N a (iN lo) (iN hi) = some (iN (mspS K lo hi pe S P).2.2.2, a') ∧ RX a' (mspS K lo hi pe S P).2.1 ∧ RP a' (mspS K lo hi pe S P).2.2.1 ∧ ST n (fun r => a' (260 + r)) (mspS K lo hi pe S P).1 ∧ a' 15 = iN (pe.length - (mspS K lo hi pe S P).2.2.1.length) ∧ ∀ j, ¬ mrgR j → j ≠ 15 → a' j = a j := by
  have hn := hp.1.nn
  have key : ∀ (l kp : List Nat) (m cost q : Nat) (a : Nat → Int32) (S : Nat → Nat) (P : List Pc), l.length < m → (kp ++ l).length ≤ 31 → RX a P → PI n K P → SI n S P (kp ++ l) → RP a (kp ++ l) → KY n (fun r => a (20 + r)) K → ST n (fun r => a (260 + r)) S → a 15 = iN q →
      ∀ k : Int32 → (Nat → Int32) → Option (Int32 × (Nat → Int32)), ∃ a', f_X8_mergesIn_5 N (iN lo) (iN hi) k m (iN cost) (iN kp.length) a = k (iN (cost + (mspS K lo hi l S P).2.2.2)) a' ∧ RX a' (mspS K lo hi l S P).2.1 ∧ RP a' (kp ++ (mspS K lo hi l S P).2.2.1) ∧ ST n (fun r => a' (260 + r)) (mspS K lo hi l S P).1 ∧ a' 15 = iN (q + (l.length - (mspS K lo hi l S P).2.2.1.length)) ∧ ∀ j, ¬ mrgR j → j ≠ 15 → a' j = a j := by
    intro l
    induction l with
    | nil =>
      intro kp m cost q a S P h1 h2 hR hP hS hE hK hT h15 k
      obtain ⟨m, rfl⟩ : ∃ m', m = m' + 1 := ⟨m - 1, by simp at h1; omega⟩
      rw [f_X8_mergesIn_5.eq_2]
      rw [List.append_nil] at hE h2
      refine ⟨a, ?_, hR, by simpa [mspS] using hE, hT, by simpa [mspS] using h15, fun _ _ _ => rfl⟩
      rw [hE.1]
      simp only [mspS]
      simp (disch := omega) only [Nat.add_zero, iN_lit, iN_lt, iN_le, iN_eq, iN_add, iN_mul, iN_sub, iN_nat, iN_div, iN_mod, iN_pred', n1_lt, n1_le, n1_ne, n1_ne', n1_nle, n1_nlt, n1_eq, oobN, some_lt, some_jn, bnd_some, Bool.false_eq_true, if_true, if_false, ite_true, ite_false, ↓reduceIte, ltT, ltF, leT, leF, eqT, eqF, true_and, and_true, false_and, and_false, true_or, or_true, false_or, or_false, not_true_eq_false, not_false_eq_true, if_pos, if_neg]
    | cons r l ih =>
      intro kp m cost q a S P h1 h2 hR hP hS hE hK hT h15 k
      obtain ⟨m, rfl⟩ : ∃ m', m = m' + 1 := ⟨m - 1, by simp at h1; omega⟩
      simp only [List.length_cons, List.length_append] at h1 h2
      have hr := (hS.2.2.1 r).mp (by simp)
      have e1 : a (500 + kp.length) = iN r := hE.2.row
      have e2 := hK r hr.1
      have e2a : a (20 + r) = iN (K r) := e2.1
      have e2b := e2.2
      have e4 : a 2 = iN (kp.length + (l.length + 1)) := by rw [hE.1]; simp
      have e5 : iN hi - 1 = iN (hi - 1) := iN_sub (b := 1) hhi1
      have e6 := r_isIn (v := K r) (lo := lo) (hi := hi - 1) (by omega) (by omega) (by omega)
      rw [f_X8_mergesIn_5.eq_2, e4, e5]
      by_cases hin : lo ≤ K r ∧ K r < hi
      · obtain ⟨a1, q1, q2, q3, q4, q5⟩ := r_merges hR hP hS hE (by simp; omega) hK hT hN
        obtain ⟨m1, m2, m3, m4⟩ := mrg_ok hP hS
        have h15' : a1 15 = iN q := by rw [q5 15 (by unfold mrgR idxR penR; omega), h15]
        have fr : ∀ j, j ≠ 15 → upd a1 15 (iN (q + 1)) j = a1 j := fun j hj => upd_ne hj
        obtain ⟨a2, w1, w2, w3, w4, w5, w6⟩ := ih kp m (cost + mrgC K r P) (q + 1) (upd a1 15 (iN (q + 1))) (mrgT S r) (mrgP K S r P) (by omega) (by simp; omega)
          (RX.frame q2 m1.1 (fun j hj => fr j (by unfold idxR at hj; omega))) m1 m2 (RP.frame q3 (by simp; omega) (fun j hj => fr j (by unfold penR at hj; omega)))
          (fun x hx => ⟨by show upd a1 15 _ (20 + x) = _; rw [fr _ (by omega), q5 _ (by unfold mrgR idxR penR; omega)]; exact (hK x hx).1, (hK x hx).2⟩)
          (fun x hx => ⟨by show upd a1 15 _ (260 + x) = _; rw [fr _ (by omega)]; exact (q4 x hx).1, (q4 x hx).2⟩) (upd_self _ _ _) k
        rw [if_pos (by omega)] at e6
        have e3 : mspS K lo hi (r :: l) S P = ((mspS K lo hi l (mrgT S r) (mrgP K S r P)).1, (mspS K lo hi l (mrgT S r) (mrgP K S r P)).2.1, (mspS K lo hi l (mrgT S r) (mrgP K S r P)).2.2.1, mrgC K r P + (mspS K lo hi l (mrgT S r) (mrgP K S r P)).2.2.2) := by
          conv => lhs; unfold mspS
          rw [if_pos hin]
        have hml := msp_len K lo hi l (mrgT S r) (mrgP K S r P)
        rw [e3]
        refine ⟨a2, ?_, w2, w3, w4, ?_, fun j hj hj2 => ?_⟩
        · dsimp only
          rw [Nat.add_assoc] at w1
          simp (disch := omega) only [Nat.add_zero, iN_lit, iN_lt, iN_le, iN_eq, iN_add, iN_mul, iN_sub, iN_nat, iN_div, iN_mod, iN_pred', n1_lt, n1_le, n1_ne, n1_ne', n1_nle, n1_nlt, n1_eq, oobN, some_lt, some_jn, bnd_some, Bool.false_eq_true, if_true, if_false, ite_true, ite_false, ↓reduceIte, ltT, ltF, leT, leF, eqT, eqF, true_and, and_true, false_and, and_false, true_or, or_true, false_or, or_false, not_true_eq_false, not_false_eq_true, if_pos, if_neg, e1, e2a, e6, q1, bnd2, h15']
          exact w1
        · rw [w5]; dsimp only; simp only [List.length_cons]; congr 1; omega
        · rw [w6 j hj hj2, fr j hj2, q5 j hj]
      · rw [if_neg (by omega)] at e6
        obtain ⟨a2, w1, w2, w3, w4, w5, w6⟩ := ih (kp ++ [r]) m cost q a S P (by omega) (by simp; omega) hR hP (by rw [List.append_assoc]; exact hS) (by rw [List.append_assoc]; exact hE) hK hT h15 k
        have e3 : mspS K lo hi (r :: l) S P = ((mspS K lo hi l S P).1, (mspS K lo hi l S P).2.1, r :: (mspS K lo hi l S P).2.2.1, (mspS K lo hi l S P).2.2.2) := by
          conv => lhs; unfold mspS
          rw [if_neg hin]
        have hml := msp_len K lo hi l S P
        rw [e3]
        dsimp only
        rw [List.append_assoc] at w3
        rw [List.length_append (as := kp) (bs := [r]), List.length_singleton] at w1
        refine ⟨a2, ?_, w2, w3, w4, ?_, w6⟩
        · simp (disch := omega) only [Nat.add_zero, iN_lit, iN_lt, iN_le, iN_eq, iN_add, iN_mul, iN_sub, iN_nat, iN_div, iN_mod, iN_pred', n1_lt, n1_le, n1_ne, n1_ne', n1_nle, n1_nlt, n1_eq, oobN, some_lt, some_jn, bnd_some, Bool.false_eq_true, if_true, if_false, ite_true, ite_false, ↓reduceIte, ltT, ltF, leT, leF, eqT, eqF, true_and, and_true, false_and, and_false, true_or, or_true, false_or, or_false, not_true_eq_false, not_false_eq_true, if_pos, if_neg, e1, e2a, e6]
          exact w1
        · rw [w5]; simp only [List.length_cons]; congr 1; omega
  obtain ⟨a', q1, q2, q3, q4, q5, q6⟩ := key pe [] N 0 0 a S P (by omega) h31 h hp hsi hpe hk hs h15 (fun x3_78_1 t_a_78_2 => some (x3_78_1, t_a_78_2))
  refine ⟨a', ?_, q2, q3, q4, by rw [q5, Nat.zero_add], q6⟩
  rw [Nat.zero_add] at q1
  unfold f_X8_mergesIn
  rw [some_jn]
  exact q1
end MS
