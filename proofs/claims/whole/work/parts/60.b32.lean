theorem nodup_all : ∀ (m : Nat) (l : List Nat), l.Nodup → (∀ r ∈ l, r < m) → l.length = m → ∀ j, j < m → j ∈ l := by
  intro m l hn hlt hlen j hj
  apply Decidable.byContradiction
  intro hni
  have h1 : (j :: l).Nodup := List.nodup_cons.mpr ⟨hni, hn⟩
  have h2 := nodup_le m (j :: l) h1 (fun r hr => by
    rcases List.mem_cons.mp hr with rfl | hr
    · exact hj
    · exact hlt r hr)
  simp at h2; omega
/-- the rows that live -/
def lvL (n : Nat) (S : Nat → Nat) : List Nat := (List.range n).filter (fun r => decide (S r ≤ 1))
theorem livS_len {S : Nat → Nat} : ∀ n, livS n S = (lvL n S).length := by
  intro n
  induction n with
  | zero => rfl
  | succ n ih =>
    show livG S (livS n S) n = _
    unfold lvL at *
    rw [List.range_succ, List.filter_append, List.length_append, ← ih]
    unfold livG
    by_cases h : S n ≤ 1 <;> simp [h]
theorem lahS_cnt {K S : Nat → Nat} {row : Nat} : ∀ n, lahS n K S row = (lvL n S).countP (fun r => ahd K r row) := by
  intro n
  induction n with
  | zero => rfl
  | succ n ih =>
    show lahG K S row (lahS n K S row) n = _
    unfold lvL at *
    rw [List.range_succ, List.filter_append, List.countP_append, ← ih]
    unfold lahG
    by_cases h : S n ≤ 1
    · by_cases h2 : ahd K n row = true
      · rw [if_pos ⟨h, h2⟩]; simp [h, h2]
      · rw [if_neg (fun q => h2 q.2)]; simp [h, h2]
    · rw [if_neg (fun q => h q.1)]; simp [h]
theorem lvL_nodup (n : Nat) (S : Nat → Nat) : (lvL n S).Nodup := (List.nodup_range).filter _
theorem mem_lvL {n r : Nat} {S : Nat → Nat} : r ∈ lvL n S ↔ r < n ∧ S r ≤ 1 := by unfold lvL; simp
theorem rank_lt {K : Nat → Nat} {l : List Nat} {r : Nat} (hr : r ∈ l) : l.countP (fun x => ahd K x r) < l.length := by
  have h1 := List.countP_le_length (p := fun x => ahd K x r) (l := l)
  apply Nat.lt_of_le_of_ne h1
  intro h
  have := List.countP_eq_length.mp h r hr
  rw [ahd_irrefl] at this; cases this
/-- a place below the number of living rows has its row -/
theorem ord_some {n : Nat} {K S : Nat → Nat} {pl : Nat} (h : pl < livS n S) : ∃ r, ordS n K S pl = some r := by
  rw [livS_len] at h
  have hs := isort_sorted (K := K) (lvL_nodup n S)
  have hp := isort_perm (K := K) (lvL n S)
  have hl := isort_len K (lvL n S)
  have hj : pl < (isort K (lvL n S)).length := by omega
  have hr : (isort K (lvL n S))[pl] ∈ lvL n S := mem_isort.mp (List.getElem_mem hj)
  have hrk := rk_sorted hs hj
  rw [hp.countP_eq] at hrk
  cases ho : ordS n K S pl with
  | some r => exact ⟨r, rfl⟩
  | none =>
    exfalso
    have := fstI_none ho ((isort K (lvL n S))[pl]) (Nat.zero_le _) (by have := (mem_lvL.mp hr).1; omega)
    simp only [Bool.and_eq_false_iff, decide_eq_false_iff_not, beq_eq_false_iff_ne] at this
    rcases this with h1 | h1
    · exact h1 (mem_lvL.mp hr).2
    · rw [lahS_cnt] at h1; exact h1 hrk
theorem ord_lt {n : Nat} {K S : Nat → Nat} {r : Nat} (hr : r < n) (hS : S r ≤ 1) : lahS n K S r < livS n S := by
  rw [lahS_cnt, livS_len]
  exact rank_lt (mem_lvL.mpr ⟨hr, hS⟩)
section RO
variable {H N : Nat} {pd tc gv sz pc kc rc : Int32} {nu bo en he so st kn pr se ky ss vs a tn : Nat → Int32}
theorem m_ordered (h : CRx H pd tc gv nu sz pc bo en he so st kc kn pr se rc ky ss vs a) (hN : 1000 < N) (x : Int32) :
    (∃ r, f_X7_ordered N rc ky ss x = some (Sum.inr r) ∧ f_X8_ordered N a x = some (r, 0)) ∨ (∃ r, f_X7_ordered N rc ky ss x = some (Sum.inl "java/lang/IndexOutOfBoundsException") ∧ f_X8_ordered N a x = some (r, 1)) := by
  obtain ⟨n, K, S, V, P, pe, W, k, ⟨s1, s2, s3, s4, s5, s6, s7⟩, ⟨c1, c2, c3, c4, c5, c6, c7, c8, c9⟩, ⟨r1, r2, r3, r4, r5, r6, r7, r8⟩, ⟨b1, b2, b3, b4, b5, b6⟩⟩ := h
  have hn := s1.1.nn
  have hl : livS n S ≤ 0 + n := pfi_le (fun x r => by unfold livG; split <;> omega)
  have hla : ∀ r, lahS n K S r ≤ 0 + n := fun r => pfi_le (fun x r => by unfold lahG; split <;> omega)
  have e1 := c_livingCount c8 hn hN
  have e3 := r_ordered (pl := x) r2 r4 r5 hn hN
  unfold f_X7_ordered
  rw [c6, e1, bnd_some]
  rcases idx_cases x (livS n S) (by omega) with ⟨m, h1, rfl, h2, h3⟩ | ⟨h1, h2, h3⟩
  · left
    obtain ⟨r, hr⟩ := ord_some (K := K) h1
    have e2 := c_livingAt (pl := m) c7 c8 hn hN (by omega)
    rw [hr] at e2
    have e4 : fstI (fun r => decide (S r ≤ 1) && decide (iN (lahS n K S r) = iN m)) 0 n = ordS n K S m := by
      unfold ordS
      refine fstI_ext (fun q _ _ => ?_)
      have := hla q
      rw [Bool.eq_iff_iff]
      simp only [Bool.and_eq_true, decide_eq_true_eq, beq_iff_eq]
      rw [iN_eq (by omega) (by omega)]
    rw [e4, hr] at e3
    refine ⟨iN r, ?_, e3⟩
    rw [h2]; simp only [bndx, e2, bnd_some, inR, oN]
  · right
    have e4 : fstI (fun r => decide (S r ≤ 1) && decide (iN (lahS n K S r) = x)) 0 n = none := by
      cases hf : fstI (fun r => decide (S r ≤ 1) && decide (iN (lahS n K S r) = x)) 0 n with
      | none => rfl
      | some r =>
        exfalso
        obtain ⟨q1, q2, q3, q4⟩ := fstI_some hf
        simp only [Bool.and_eq_true, decide_eq_true_eq] at q1
        exact h1 _ (ord_lt (K := K) (by omega) q1.1) q1.2.symm
    rw [e4] at e3
    refine ⟨0, ?_, e3⟩
    rw [h2]; rfl
theorem m_hottest (h : CRx H pd tc gv nu sz pc bo en he so st kc kn pr se rc ky ss vs a) (hN : 1000 < N) :
    ∃ r, f_X7_hottest N pc he = some r ∧ f_X8_hottest N a = some (r, 0) := by
  obtain ⟨n, K, S, V, P, pe, W, k, ⟨s1, s2, s3, s4, s5, s6, s7⟩, ⟨c1, c2, c3, c4, c5, c6, c7, c8, c9⟩, ⟨r1, r2, r3, r4, r5, r6, r7, r8⟩, ⟨b1, b2, b3, b4, b5, b6⟩⟩ := h
  refine ⟨iN (hotS P), ?_, r_hottest r1 s1.1 hN⟩
  unfold f_X7_hottest
  rw [(c_hottest c2 s1.1 hN).1, bnd_some]
theorem m_coldestPair (h : CRx H pd tc gv nu sz pc bo en he so st kc kn pr se rc ky ss vs a) (hN : 1000 < N) :
    (∃ r, f_X7_coldestPair N pc he = some (Sum.inr r) ∧ f_X8_coldestPair N a = some (r, 0)) ∨ (∃ r, f_X7_coldestPair N pc he = some (Sum.inl "java/util/NoSuchElementException") ∧ f_X8_coldestPair N a = some (r, 1)) := by
  obtain ⟨n, K, S, V, P, pe, W, k, ⟨s1, s2, s3, s4, s5, s6, s7⟩, ⟨c1, c2, c3, c4, c5, c6, c7, c8, c9⟩, ⟨r1, r2, r3, r4, r5, r6, r7, r8⟩, ⟨b1, b2, b3, b4, b5, b6⟩⟩ := h
  have hz := s1.1
  have h1 := hz.one; have hl := hz.len
  unfold f_X7_coldestPair f_X8_coldestPair
  by_cases h2 : P.length = 1
  · right
    rw [c_coldest1 c2 hN h2, bnd_some, r1.hp, h2]
    exact ⟨0, rfl, rfl⟩
  · left
    have e1 := c_coldest c2 hz hN (by omega)
    have e2 := r_coldest r1 hz hN (by omega)
    have hc := e1.2
    refine ⟨iN (colS P), ?_, ?_⟩
    · rw [e1.1, bnd_some]
      have e3 : (iN (colS P) = -1) = False := eq_false (m1_ne (by omega))
      simp only [e3, if_false]
      rfl
    · rw [r1.hp, e2, some_jn]
      have e3 : (iN P.length = 1) = False := eq_false (by show ¬ iN P.length = iN 1; rw [iN_eq (by omega) (by omega)]; exact h2)
      simp only [e3, if_false]
      rfl
theorem m_evenCrack (h : CRx H pd tc gv nu sz pc bo en he so st kc kn pr se rc ky ss vs a) (hN : 1000 < N) :
    (∃ r, f_X7_evenCrack N sz pc bo en so st ky = some (Sum.inr r) ∧ f_X8_evenCrack N a = some (r, 0)) ∨ (∃ r, f_X7_evenCrack N sz pc bo en so st ky = some (Sum.inl "java/util/NoSuchElementException") ∧ f_X8_evenCrack N a = some (r, 1)) := by
  obtain ⟨n, K, S, V, P, pe, W, k, ⟨s1, s2, s3, s4, s5, s6, s7⟩, ⟨c1, c2, c3, c4, c5, c6, c7, c8, c9⟩, ⟨r1, r2, r3, r4, r5, r6, r7, r8⟩, ⟨b1, b2, b3, b4, b5, b6⟩⟩ := h
  have hz := s1.1
  have hl := hz.len
  have e1 := c_largest c2 hz hN
  have e2 := r_evenCrack r1 hz r4 hN
  unfold f_X7_evenCrack
  rw [e1.1, bnd_some]
  have hK : ∀ i, i < (flat P).length → K (fl P i) < 10000 := fun i hi => K_lt hz c7 hi
  unfold evnS at e2
  cases hL : larS P with
  | none =>
    right
    rw [hL] at e2
    exact ⟨0, rfl, e2⟩
  | some p =>
    have hp := e1.2 p hL
    rw [hL] at e2
    have e3 := c_evenKeyOf c2 hz c7 hN hp
    have e4 : (iN p = -1) = False := eq_false (m1_ne (by omega))
    simp only [oN, some_jn, e4, if_false, e3, bnd_some]
    cases hE : eveS K P p with
    | none =>
      right
      simp only [hE] at e2
      exact ⟨0, rfl, e2⟩
    | some key =>
      left
      simp only [hE] at e2
      have hlt : key < 10000 := by
        have h9 : ∀ e, e ≤ sp P (p + 1) - sp P p → (∀ q, (pfi (eveG K P p) (none, 0) e).1 = some q → q < 10000) ∧ (pfi (eveG K P p) (none, 0) e).2 ≤ 240 := by
          intro e
          induction e with
          | zero => intro _; exact ⟨by simp [pfi], by simp [pfi]⟩
          | succ e ih => intro he; exact eve_inv hz hK hp e _ (by omega) (ih (by omega))
        exact (h9 _ (Nat.le_refl _)).1 key hE
      refine ⟨iN key, ?_, e2⟩
      have e5 : (iN key = -1) = False := eq_false (m1_ne (by omega))
      simp only [oN, e5, if_false]
      rfl
theorem m_answer (h : CRx H pd tc gv nu sz pc bo en he so st kc kn pr se rc ky ss vs a) (x : Int32) :
    (∃ r, f_X7_answer gv nu x = some (Sum.inr r) ∧ f_X8_answer a x = some (r, 0)) ∨ (∃ r, f_X7_answer gv nu x = some (Sum.inl "java/lang/IllegalArgumentException") ∧ f_X8_answer a x = some (r, 1)) ∨ (∃ r, f_X7_answer gv nu x = some (Sum.inl "java/util/NoSuchElementException") ∧ f_X8_answer a x = some (r, 2)) := by
  obtain ⟨n, K, S, V, P, pe, W, k, ⟨s1, s2, s3, s4, s5, s6, s7⟩, ⟨c1, c2, c3, c4, c5, c6, c7, c8, c9⟩, ⟨r1, r2, r3, r4, r5, r6, r7, r8⟩, ⟨b1, b2, b3, b4, b5, b6⟩⟩ := h
  unfold f_X7_answer f_X8_answer
  rcases rng0_cases x 8 (by omega) with ⟨m, h1, rfl, h2, h3⟩ | ⟨h1, h2, h3⟩
  · have h2' : f_X7_checkRange (iN m) 0 8 = some (Sum.inr ()) := h2
    have h3' : f_X8_isIn (iN m) 0 8 = some 1 := h3
    have e10 : ((1 : Int32) = 0) = False := eq_false (by decide)
    rcases b3 with hg | hg
    · right; right
      have h9 : a 9 = 0 := by rw [← b2]; exact hg
      refine ⟨0, ?_, ?_⟩
      · rw [h2', hg]; rfl
      · simp only [h3', bnd_some, some_jn, e10, if_false, h9, if_true]; rfl
    · left
      have h9 : (a 9 = 0) = False := eq_false (by rw [← b2, hg]; decide)
      have h9' : (gv = 0) = False := eq_false (by rw [hg]; decide)
      have e1 := c_numberAt (nu := nu) (w := m) (by omega)
      have e2 := b4 hg m (by omega)
      refine ⟨nu m, ?_, ?_⟩
      · rw [h2']; simp only [bndx, h9', if_false, e1, bnd_some, inR]
      · simp only [h3', bnd_some, some_jn, e10, if_false, h9]
        rw [e2]
        simp (disch := omega) only [Nat.add_zero, iN_lit, iN_lt, iN_le, iN_eq, iN_add, iN_mul, iN_sub, iN_nat, iN_div, iN_mod, iN_pred', n1_lt, n1_le, n1_ne, n1_ne', n1_nle, n1_nlt, n1_eq, oobN, some_lt, some_jn, bnd_some, Bool.false_eq_true, if_true, if_false, ite_true, ite_false, ↓reduceIte, ltT, ltF, leT, leF, eqT, eqF, true_and, and_true, false_and, and_false, true_or, or_true, false_or, or_false, not_true_eq_false, not_false_eq_true, if_pos, if_neg]
  · right; left
    have h2' : f_X7_checkRange x 0 8 = some (Sum.inl "java/lang/IllegalArgumentException") := h2
    have h3' : f_X8_isIn x 0 8 = some 0 := h3
    refine ⟨0, ?_, ?_⟩
    · rw [h2']; rfl
    · rw [h3']; rfl
theorem m_row (h : CRx H pd tc gv nu sz pc bo en he so st kc kn pr se rc ky ss vs a) (hN : 1000 < N) (x y : Int32) :
    (∃ r, f_X7_row N sz en rc ky ss vs x y = some (Sum.inr r) ∧ f_X8_row N a x y = some (r, 0)) ∨ (∃ r, f_X7_row N sz en rc ky ss vs x y = some (Sum.inl "java/lang/IndexOutOfBoundsException") ∧ f_X8_row N a x y = some (r, 1)) ∨ (∃ r, f_X7_row N sz en rc ky ss vs x y = some (Sum.inl "java/lang/IllegalArgumentException") ∧ f_X8_row N a x y = some (r, 2)) := by
  obtain ⟨n, K, S, V, P, pe, W, k, ⟨s1, s2, s3, s4, s5, s6, s7⟩, ⟨c1, c2, c3, c4, c5, c6, c7, c8, c9⟩, ⟨r1, r2, r3, r4, r5, r6, r7, r8⟩, ⟨b1, b2, b3, b4, b5, b6⟩⟩ := h
  have hz := s1.1
  have hn := hz.nn
  unfold f_X7_row f_X8_row f_X8_isRow
  rw [c6, r2]
  have e10 : ((1 : Int32) = iN 0) = False := eq_false (by decide)
  rcases idx_cases x n (by omega) with ⟨m, h1, rfl, h2, h3⟩ | ⟨h1, h2, h3⟩
  · rw [h2, h3]
    rcases rng0_cases y 3 (by omega) with ⟨w, g1, rfl, g2, g3⟩ | ⟨g1, g2, g3⟩
    · left
      have g3' : f_X8_isIn (iN w) (iN 0) (iN 3) = some 1 := g3
      have t1 := c_keyOf c7 hn h1
      have t2 := c_valueOf c9 hn h1
      have t3 := c_stateOf c8 hn h1
      have t4 := c_placeOf (row := m) c2 hz hN (by omega)
      have t5 := r_placeOf (row := m) r1 hz hN (by omega)
      have u1 : a (20 + m) = iN (K m) := (r4 m h1).1
      have u2 : a (140 + m) = V m := r6 m h1
      have u3 : a (260 + m) = iN (S m) := (r5 m h1).1
      match w, g1 with
      | 0, _ => exact ⟨iN (K m), (by simp only [bndx]; simp (disch := omega) only [Nat.add_zero, iN_lit, iN_lt, iN_le, iN_eq, iN_add, iN_mul, iN_sub, iN_nat, iN_div, iN_mod, iN_pred', n1_lt, n1_le, n1_ne, n1_ne', n1_nle, n1_nlt, n1_eq, oobN, some_lt, some_jn, bnd_some, Bool.false_eq_true, if_true, if_false, ite_true, ite_false, ↓reduceIte, ltT, ltF, leT, leF, eqT, eqF, true_and, and_true, false_and, and_false, true_or, or_true, false_or, or_false, not_true_eq_false, not_false_eq_true, if_pos, if_neg, t1] <;> rfl), (by simp (disch := omega) only [Nat.add_zero, iN_lit, iN_lt, iN_le, iN_eq, iN_add, iN_mul, iN_sub, iN_nat, iN_div, iN_mod, iN_pred', n1_lt, n1_le, n1_ne, n1_ne', n1_nle, n1_nlt, n1_eq, oobN, some_lt, some_jn, bnd_some, Bool.false_eq_true, if_true, if_false, ite_true, ite_false, ↓reduceIte, ltT, ltF, leT, leF, eqT, eqF, true_and, and_true, false_and, and_false, true_or, or_true, false_or, or_false, not_true_eq_false, not_false_eq_true, if_pos, if_neg, g3', e10, u1, or_true] <;> rfl)⟩
      | 1, _ => exact ⟨V m, (by simp only [bndx]; simp (disch := omega) only [Nat.add_zero, iN_lit, iN_lt, iN_le, iN_eq, iN_add, iN_mul, iN_sub, iN_nat, iN_div, iN_mod, iN_pred', n1_lt, n1_le, n1_ne, n1_ne', n1_nle, n1_nlt, n1_eq, oobN, some_lt, some_jn, bnd_some, Bool.false_eq_true, if_true, if_false, ite_true, ite_false, ↓reduceIte, ltT, ltF, leT, leF, eqT, eqF, true_and, and_true, false_and, and_false, true_or, or_true, false_or, or_false, not_true_eq_false, not_false_eq_true, if_pos, if_neg, t2] <;> rfl), (by simp (disch := omega) only [Nat.add_zero, iN_lit, iN_lt, iN_le, iN_eq, iN_add, iN_mul, iN_sub, iN_nat, iN_div, iN_mod, iN_pred', n1_lt, n1_le, n1_ne, n1_ne', n1_nle, n1_nlt, n1_eq, oobN, some_lt, some_jn, bnd_some, Bool.false_eq_true, if_true, if_false, ite_true, ite_false, ↓reduceIte, ltT, ltF, leT, leF, eqT, eqF, true_and, and_true, false_and, and_false, true_or, or_true, false_or, or_false, not_true_eq_false, not_false_eq_true, if_pos, if_neg, g3', e10, u2, or_true] <;> rfl)⟩
      | 2, _ => exact ⟨iN (S m), (by simp only [bndx]; simp (disch := omega) only [Nat.add_zero, iN_lit, iN_lt, iN_le, iN_eq, iN_add, iN_mul, iN_sub, iN_nat, iN_div, iN_mod, iN_pred', n1_lt, n1_le, n1_ne, n1_ne', n1_nle, n1_nlt, n1_eq, oobN, some_lt, some_jn, bnd_some, Bool.false_eq_true, if_true, if_false, ite_true, ite_false, ↓reduceIte, ltT, ltF, leT, leF, eqT, eqF, true_and, and_true, false_and, and_false, true_or, or_true, false_or, or_false, not_true_eq_false, not_false_eq_true, if_pos, if_neg, t3] <;> rfl), (by simp (disch := omega) only [Nat.add_zero, iN_lit, iN_lt, iN_le, iN_eq, iN_add, iN_mul, iN_sub, iN_nat, iN_div, iN_mod, iN_pred', n1_lt, n1_le, n1_ne, n1_ne', n1_nle, n1_nlt, n1_eq, oobN, some_lt, some_jn, bnd_some, Bool.false_eq_true, if_true, if_false, ite_true, ite_false, ↓reduceIte, ltT, ltF, leT, leF, eqT, eqF, true_and, and_true, false_and, and_false, true_or, or_true, false_or, or_false, not_true_eq_false, not_false_eq_true, if_pos, if_neg, g3', e10, u3, or_true] <;> rfl)⟩
      | 3, _ => exact ⟨oN (plaS P m), (by simp only [bndx]; simp (disch := omega) only [Nat.add_zero, iN_lit, iN_lt, iN_le, iN_eq, iN_add, iN_mul, iN_sub, iN_nat, iN_div, iN_mod, iN_pred', n1_lt, n1_le, n1_ne, n1_ne', n1_nle, n1_nlt, n1_eq, oobN, some_lt, some_jn, bnd_some, Bool.false_eq_true, if_true, if_false, ite_true, ite_false, ↓reduceIte, ltT, ltF, leT, leF, eqT, eqF, true_and, and_true, false_and, and_false, true_or, or_true, false_or, or_false, not_true_eq_false, not_false_eq_true, if_pos, if_neg, t4] <;> rfl), (by simp (disch := omega) only [Nat.add_zero, iN_lit, iN_lt, iN_le, iN_eq, iN_add, iN_mul, iN_sub, iN_nat, iN_div, iN_mod, iN_pred', n1_lt, n1_le, n1_ne, n1_ne', n1_nle, n1_nlt, n1_eq, oobN, some_lt, some_jn, bnd_some, Bool.false_eq_true, if_true, if_false, ite_true, ite_false, ↓reduceIte, ltT, ltF, leT, leF, eqT, eqF, true_and, and_true, false_and, and_false, true_or, or_true, false_or, or_false, not_true_eq_false, not_false_eq_true, if_pos, if_neg, g3', e10, t5, or_true] <;> rfl)⟩
    · right; right
      have g3' : f_X8_isIn y 0 3 = some 0 := g3
      refine ⟨0, ?_, ?_⟩
      · simp only [bndx, ne_lit g1 (show 0 ≤ 3 by omega), ne_lit g1 (show 1 ≤ 3 by omega), ne_lit g1 (show 2 ≤ 3 by omega), ne_lit g1 (show 3 ≤ 3 by omega), if_false]
      · rw [g3']; rfl
  · right; left
    refine ⟨0, ?_, ?_⟩
    · rw [h2]; rfl
    · rw [h3]; rfl
theorem m_piece (h : CRx H pd tc gv nu sz pc bo en he so st kc kn pr se rc ky ss vs a) (hN : 1000 < N) (x y : Int32) :
    (∃ r, f_X7_piece N sz pc bo en he so st ky x y = some (Sum.inr r) ∧ f_X8_piece N a x y = some (r, 0)) ∨ (∃ r, f_X7_piece N sz pc bo en he so st ky x y = some (Sum.inl "java/lang/IndexOutOfBoundsException") ∧ f_X8_piece N a x y = some (r, 1)) ∨ (∃ r, f_X7_piece N sz pc bo en he so st ky x y = some (Sum.inl "java/lang/IllegalArgumentException") ∧ f_X8_piece N a x y = some (r, 2)) := by
  obtain ⟨n, K, S, V, P, pe, W, k, ⟨s1, s2, s3, s4, s5, s6, s7⟩, ⟨c1, c2, c3, c4, c5, c6, c7, c8, c9⟩, ⟨r1, r2, r3, r4, r5, r6, r7, r8⟩, ⟨b1, b2, b3, b4, b5, b6⟩⟩ := h
  have hz := s1.1
  have hl := hz.len
  unfold f_X7_piece f_X8_piece f_X8_isPiece
  have e10 : ((1 : Int32) = iN 0) = False := eq_false (by decide)
  rcases idx_cases x P.length (by omega) with ⟨m, h1, rfl, h2, h3⟩ | ⟨h1, h2, h3⟩
  · rw [r1.hp, h3, show f_X7_checkIndex (iN m) pc = some (Sum.inr ()) by rw [c2.hp]; exact h2]
    rcases rng0_cases y 5 (by omega) with ⟨w, g1, rfl, g2, g3⟩ | ⟨g1, g2, g3⟩
    · left
      have g3' : f_X8_isIn (iN w) (iN 0) (iN 5) = some 1 := g3
      have t0 := c_boundOf c2 hz h1
      have t1 := c_startOf (p := m) c2 hz (by omega)
      have t2 := c_sizeOf c2 hz h1
      have t3 := c_heatOf c2 hz h1
      have t4 := c_isSorted c2 hz h1
      have t5 := c_descents c2 hz c7 hN h1
      have u0 : f_X8_of a (iN m) (iN 0) = _ := r_bd r1 hz h1
      have u1 := r_firstPlace (N := N) (p := m) r1 hz hN (by omega)
      have u2 : f_X8_of a (iN m) (iN 1) = _ := r_mn r1 hz h1
      have u3 : f_X8_of a (iN m) (iN 2) = _ := r_ht r1 hz h1
      have u4 : f_X8_of a (iN m) (iN 3) = _ := r_so r1 hz h1
      have u5 := r_falls r1 hz r4 hN h1
      have hso := hz.so _ (List.getElem_mem h1)
      generalize P[m].1 = x0 at *
      generalize P[m].2.2.2.length = x2 at *
      generalize P[m].2.1 = x3 at *
      generalize P[m].2.2.1 = x4 at *
      match w, g1 with
      | 0, _ => exact ⟨iN x0, (by simp only [bndx]; simp (disch := omega) only [Nat.add_zero, iN_lit, iN_lt, iN_le, iN_eq, iN_add, iN_mul, iN_sub, iN_nat, iN_div, iN_mod, iN_pred', n1_lt, n1_le, n1_ne, n1_ne', n1_nle, n1_nlt, n1_eq, oobN, some_lt, some_jn, bnd_some, Bool.false_eq_true, if_true, if_false, ite_true, ite_false, ↓reduceIte, ltT, ltF, leT, leF, eqT, eqF, true_and, and_true, false_and, and_false, true_or, or_true, false_or, or_false, not_true_eq_false, not_false_eq_true, if_pos, if_neg, t0] <;> rfl), (by simp (disch := omega) only [Nat.add_zero, iN_lit, iN_lt, iN_le, iN_eq, iN_add, iN_mul, iN_sub, iN_nat, iN_div, iN_mod, iN_pred', n1_lt, n1_le, n1_ne, n1_ne', n1_nle, n1_nlt, n1_eq, oobN, some_lt, some_jn, bnd_some, Bool.false_eq_true, if_true, if_false, ite_true, ite_false, ↓reduceIte, ltT, ltF, leT, leF, eqT, eqF, true_and, and_true, false_and, and_false, true_or, or_true, false_or, or_false, not_true_eq_false, not_false_eq_true, if_pos, if_neg, g3', e10, u0, or_true] <;> rfl)⟩
      | 1, _ => exact ⟨iN (sp P m), (by simp only [bndx]; simp (disch := omega) only [Nat.add_zero, iN_lit, iN_lt, iN_le, iN_eq, iN_add, iN_mul, iN_sub, iN_nat, iN_div, iN_mod, iN_pred', n1_lt, n1_le, n1_ne, n1_ne', n1_nle, n1_nlt, n1_eq, oobN, some_lt, some_jn, bnd_some, Bool.false_eq_true, if_true, if_false, ite_true, ite_false, ↓reduceIte, ltT, ltF, leT, leF, eqT, eqF, true_and, and_true, false_and, and_false, true_or, or_true, false_or, or_false, not_true_eq_false, not_false_eq_true, if_pos, if_neg, t1] <;> rfl), (by simp (disch := omega) only [Nat.add_zero, iN_lit, iN_lt, iN_le, iN_eq, iN_add, iN_mul, iN_sub, iN_nat, iN_div, iN_mod, iN_pred', n1_lt, n1_le, n1_ne, n1_ne', n1_nle, n1_nlt, n1_eq, oobN, some_lt, some_jn, bnd_some, Bool.false_eq_true, if_true, if_false, ite_true, ite_false, ↓reduceIte, ltT, ltF, leT, leF, eqT, eqF, true_and, and_true, false_and, and_false, true_or, or_true, false_or, or_false, not_true_eq_false, not_false_eq_true, if_pos, if_neg, g3', e10, u1, or_true] <;> rfl)⟩
      | 2, _ => exact ⟨iN x2, (by simp only [bndx]; simp (disch := omega) only [Nat.add_zero, iN_lit, iN_lt, iN_le, iN_eq, iN_add, iN_mul, iN_sub, iN_nat, iN_div, iN_mod, iN_pred', n1_lt, n1_le, n1_ne, n1_ne', n1_nle, n1_nlt, n1_eq, oobN, some_lt, some_jn, bnd_some, Bool.false_eq_true, if_true, if_false, ite_true, ite_false, ↓reduceIte, ltT, ltF, leT, leF, eqT, eqF, true_and, and_true, false_and, and_false, true_or, or_true, false_or, or_false, not_true_eq_false, not_false_eq_true, if_pos, if_neg, t2] <;> rfl), (by simp (disch := omega) only [Nat.add_zero, iN_lit, iN_lt, iN_le, iN_eq, iN_add, iN_mul, iN_sub, iN_nat, iN_div, iN_mod, iN_pred', n1_lt, n1_le, n1_ne, n1_ne', n1_nle, n1_nlt, n1_eq, oobN, some_lt, some_jn, bnd_some, Bool.false_eq_true, if_true, if_false, ite_true, ite_false, ↓reduceIte, ltT, ltF, leT, leF, eqT, eqF, true_and, and_true, false_and, and_false, true_or, or_true, false_or, or_false, not_true_eq_false, not_false_eq_true, if_pos, if_neg, g3', e10, u2, or_true] <;> rfl)⟩
      | 3, _ => exact ⟨iN x3, (by simp only [bndx]; simp (disch := omega) only [Nat.add_zero, iN_lit, iN_lt, iN_le, iN_eq, iN_add, iN_mul, iN_sub, iN_nat, iN_div, iN_mod, iN_pred', n1_lt, n1_le, n1_ne, n1_ne', n1_nle, n1_nlt, n1_eq, oobN, some_lt, some_jn, bnd_some, Bool.false_eq_true, if_true, if_false, ite_true, ite_false, ↓reduceIte, ltT, ltF, leT, leF, eqT, eqF, true_and, and_true, false_and, and_false, true_or, or_true, false_or, or_false, not_true_eq_false, not_false_eq_true, if_pos, if_neg, t3] <;> rfl), (by simp (disch := omega) only [Nat.add_zero, iN_lit, iN_lt, iN_le, iN_eq, iN_add, iN_mul, iN_sub, iN_nat, iN_div, iN_mod, iN_pred', n1_lt, n1_le, n1_ne, n1_ne', n1_nle, n1_nlt, n1_eq, oobN, some_lt, some_jn, bnd_some, Bool.false_eq_true, if_true, if_false, ite_true, ite_false, ↓reduceIte, ltT, ltF, leT, leF, eqT, eqF, true_and, and_true, false_and, and_false, true_or, or_true, false_or, or_false, not_true_eq_false, not_false_eq_true, if_pos, if_neg, g3', e10, u3, or_true] <;> rfl)⟩
      | 4, _ =>
        rcases Nat.le_one_iff_eq_zero_or_eq_one.mp hso with h8 | h8
        · subst h8
          exact ⟨iN 0, (by simp only [bndx]; simp (disch := omega) only [Nat.add_zero, iN_lit, iN_lt, iN_le, iN_eq, iN_add, iN_mul, iN_sub, iN_nat, iN_div, iN_mod, iN_pred', n1_lt, n1_le, n1_ne, n1_ne', n1_nle, n1_nlt, n1_eq, oobN, some_lt, some_jn, bnd_some, Bool.false_eq_true, if_true, if_false, ite_true, ite_false, ↓reduceIte, ltT, ltF, leT, leF, eqT, eqF, true_and, and_true, false_and, and_false, true_or, or_true, false_or, or_false, not_true_eq_false, not_false_eq_true, if_pos, if_neg, t4] <;> rfl), (by simp (disch := omega) only [Nat.add_zero, iN_lit, iN_lt, iN_le, iN_eq, iN_add, iN_mul, iN_sub, iN_nat, iN_div, iN_mod, iN_pred', n1_lt, n1_le, n1_ne, n1_ne', n1_nle, n1_nlt, n1_eq, oobN, some_lt, some_jn, bnd_some, Bool.false_eq_true, if_true, if_false, ite_true, ite_false, ↓reduceIte, ltT, ltF, leT, leF, eqT, eqF, true_and, and_true, false_and, and_false, true_or, or_true, false_or, or_false, not_true_eq_false, not_false_eq_true, if_pos, if_neg, g3', e10, u4, or_true] <;> rfl)⟩
        · subst h8
          exact ⟨iN 1, (by simp only [bndx]; simp (disch := omega) only [Nat.add_zero, iN_lit, iN_lt, iN_le, iN_eq, iN_add, iN_mul, iN_sub, iN_nat, iN_div, iN_mod, iN_pred', n1_lt, n1_le, n1_ne, n1_ne', n1_nle, n1_nlt, n1_eq, oobN, some_lt, some_jn, bnd_some, Bool.false_eq_true, if_true, if_false, ite_true, ite_false, ↓reduceIte, ltT, ltF, leT, leF, eqT, eqF, true_and, and_true, false_and, and_false, true_or, or_true, false_or, or_false, not_true_eq_false, not_false_eq_true, if_pos, if_neg, t4] <;> rfl), (by simp (disch := omega) only [Nat.add_zero, iN_lit, iN_lt, iN_le, iN_eq, iN_add, iN_mul, iN_sub, iN_nat, iN_div, iN_mod, iN_pred', n1_lt, n1_le, n1_ne, n1_ne', n1_nle, n1_nlt, n1_eq, oobN, some_lt, some_jn, bnd_some, Bool.false_eq_true, if_true, if_false, ite_true, ite_false, ↓reduceIte, ltT, ltF, leT, leF, eqT, eqF, true_and, and_true, false_and, and_false, true_or, or_true, false_or, or_false, not_true_eq_false, not_false_eq_true, if_pos, if_neg, g3', e10, u4, or_true] <;> rfl)⟩
      | 5, _ => exact ⟨iN (dscS K P m), (by simp only [bndx]; simp (disch := omega) only [Nat.add_zero, iN_lit, iN_lt, iN_le, iN_eq, iN_add, iN_mul, iN_sub, iN_nat, iN_div, iN_mod, iN_pred', n1_lt, n1_le, n1_ne, n1_ne', n1_nle, n1_nlt, n1_eq, oobN, some_lt, some_jn, bnd_some, Bool.false_eq_true, if_true, if_false, ite_true, ite_false, ↓reduceIte, ltT, ltF, leT, leF, eqT, eqF, true_and, and_true, false_and, and_false, true_or, or_true, false_or, or_false, not_true_eq_false, not_false_eq_true, if_pos, if_neg, t5] <;> rfl), (by simp (disch := omega) only [Nat.add_zero, iN_lit, iN_lt, iN_le, iN_eq, iN_add, iN_mul, iN_sub, iN_nat, iN_div, iN_mod, iN_pred', n1_lt, n1_le, n1_ne, n1_ne', n1_nle, n1_nlt, n1_eq, oobN, some_lt, some_jn, bnd_some, Bool.false_eq_true, if_true, if_false, ite_true, ite_false, ↓reduceIte, ltT, ltF, leT, leF, eqT, eqF, true_and, and_true, false_and, and_false, true_or, or_true, false_or, or_false, not_true_eq_false, not_false_eq_true, if_pos, if_neg, g3', e10, u5, or_true] <;> rfl)⟩
    · right; right
      have g3' : f_X8_isIn y 0 5 = some 0 := g3
      refine ⟨0, ?_, ?_⟩
      · simp only [bndx, ne_lit g1 (show 0 ≤ 5 by omega), ne_lit g1 (show 1 ≤ 5 by omega), ne_lit g1 (show 2 ≤ 5 by omega), ne_lit g1 (show 3 ≤ 5 by omega), ne_lit g1 (show 4 ≤ 5 by omega), ne_lit g1 (show 5 ≤ 5 by omega), if_false]
      · rw [g3']; rfl
  · right; left
    refine ⟨0, ?_, ?_⟩
    · rw [c2.hp, h2]; rfl
    · rw [r1.hp, h3]; rfl
end RO
