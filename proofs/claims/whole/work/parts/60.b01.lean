/-- a piece: its bound, heat, whether it is sorted (1 or 0), its rows -/
abbrev Pc : Type := Nat × Nat × Nat × List Nat
def flat : List Pc → List Nat
  | [] => []
  | p :: P => p.2.2.2 ++ flat P
def sts : Nat → List Pc → List Nat
  | _, [] => []
  | o, p :: P => o :: sts (o + p.2.2.2.length) P
def hsum : List Pc → Nat
  | [] => 0
  | p :: P => p.2.1 + hsum P
/-- where a piece begins -/
def sp (P : List Pc) (p : Nat) : Nat := (flat (P.take p)).length
theorem flat_append (A B : List Pc) : flat (A ++ B) = flat A ++ flat B := by
  induction A with
  | nil => rfl
  | cons a A ih => simp [flat, ih]
theorem hsum_append (A B : List Pc) : hsum (A ++ B) = hsum A + hsum B := by
  induction A with
  | nil => simp [hsum]
  | cons a A ih => simp [hsum, ih]; omega
theorem sts_append (o : Nat) (A B : List Pc) : sts o (A ++ B) = sts o A ++ sts (o + (flat A).length) B := by
  induction A generalizing o with
  | nil => simp [sts, flat]
  | cons a A ih => simp [sts, flat, ih, Nat.add_assoc]
theorem sts_length (o : Nat) (A : List Pc) : (sts o A).length = A.length := by
  induction A generalizing o with
  | nil => rfl
  | cons a A ih => simp [sts, ih]
theorem hsum_mem {P : List Pc} {p : Pc} (h : p ∈ P) : p.2.1 ≤ hsum P := by
  induction P with
  | nil => simp at h
  | cons a A ih =>
    simp only [hsum]
    rcases List.mem_cons.mp h with rfl | h
    · omega
    · have := ih h; omega
theorem mem_flat {P : List Pc} {r : Nat} : r ∈ flat P ↔ ∃ p ∈ P, r ∈ p.2.2.2 := by
  induction P with
  | nil => simp [flat]
  | cons a A ih => simp [flat, ih]
theorem split_at {α : Type} {P : List α} {p : Nat} (h : p < P.length) : ∃ A X B, P = A ++ X :: B ∧ A.length = p := by
  refine ⟨P.take p, P[p], P.drop (p + 1), ?_, by simp; omega⟩
  simp
theorem sp_app {A : List Pc} (B : List Pc) : sp (A ++ B) A.length = (flat A).length := by simp [sp]
theorem sp_app1 {A : List Pc} (X : Pc) (B : List Pc) : sp (A ++ X :: B) (A.length + 1) = (flat A).length + X.2.2.2.length := by
  have := sp_app (A := A ++ [X]) B
  simp [flat_append, flat] at this
  exact this
theorem sp_zero (P : List Pc) : sp P 0 = 0 := by simp [sp, flat]
theorem sp_len (P : List Pc) : sp P P.length = (flat P).length := by simp [sp]
theorem sp_ge {P : List Pc} {p : Nat} (h : P.length ≤ p) : sp P p = (flat P).length := by simp [sp, List.take_of_length_le h]
theorem sp_succ {P : List Pc} {p : Nat} (h : p < P.length) : sp P (p + 1) = sp P p + P[p].2.2.2.length := by
  obtain ⟨A, X, B, rfl, rfl⟩ := split_at h
  rw [sp_app, sp_app1]; simp
theorem sp_le (P : List Pc) (p : Nat) : sp P p ≤ (flat P).length := by
  have h : flat P = flat (P.take p) ++ flat (P.drop p) := by rw [← flat_append, List.take_append_drop]
  unfold sp; rw [h]; simp
theorem sp_mono {P : List Pc} {p q : Nat} (h : p ≤ q) : sp P p ≤ sp P q := by
  have h1 : P.take p = (P.take q).take p := by rw [List.take_take]; congr 1; omega
  unfold sp; rw [h1]; exact sp_le (P.take q) p
theorem sts_get {P : List Pc} {o p : Nat} (h : p < P.length) : (sts o P)[p]'(by rw [sts_length]; exact h) = o + sp P p := by
  obtain ⟨A, X, B, rfl, rfl⟩ := split_at h
  simp only [sts_append, sp_app]
  rw [List.getElem_append_right (by rw [sts_length]; exact Nat.le_refl _)]
  simp [sts, sts_length]
/-- the index of the class holds these pieces -/
abbrev IX (sz pc : Int32) (en bo he so st : Nat → Int32) (P : List Pc) : Prop :=
  pc = iN P.length ∧ sz = iN (flat P).length ∧ At en 0 (flat P) ∧ At bo 0 (P.map (fun X : Pc => X.1)) ∧ At he 0 (P.map (fun X : Pc => X.2.1)) ∧ At so 0 (P.map (fun X : Pc => X.2.2.1)) ∧ At st 0 (sts 0 P)
theorem IX.hp {sz pc : Int32} {en bo he so st : Nat → Int32} {P : List Pc} (h : IX sz pc en bo he so st P) : pc = iN P.length := h.1
theorem IX.hs {sz pc : Int32} {en bo he so st : Nat → Int32} {P : List Pc} (h : IX sz pc en bo he so st P) : sz = iN (flat P).length := h.2.1
theorem IX.en {sz pc : Int32} {en bo he so st : Nat → Int32} {P : List Pc} (h : IX sz pc en bo he so st P) : At en 0 (flat P) := h.2.2.1
theorem IX.bo {sz pc : Int32} {en bo he so st : Nat → Int32} {P : List Pc} (h : IX sz pc en bo he so st P) : At bo 0 (P.map (fun X : Pc => X.1)) := h.2.2.2.1
/-- the sizes of the pieces -/
abbrev SZ (n : Nat) (P : List Pc) : Prop :=
  (n ≤ 120) ∧ (1 ≤ P.length) ∧ (P.length ≤ 62) ∧ ((flat P).length ≤ 120) ∧ (∀ p ∈ P, p.1 ≤ 10000) ∧ (∀ p ∈ P, p.2.2.1 ≤ 1) ∧ (hsum P < 1073741824) ∧ (∀ r ∈ flat P, r < n)
theorem SZ.nn {n : Nat} {P : List Pc} (h : SZ n P) : n ≤ 120 := h.1
theorem SZ.one {n : Nat} {P : List Pc} (h : SZ n P) : 1 ≤ P.length := h.2.1
theorem SZ.len {n : Nat} {P : List Pc} (h : SZ n P) : P.length ≤ 62 := h.2.2.1
theorem SZ.fl {n : Nat} {P : List Pc} (h : SZ n P) : (flat P).length ≤ 120 := h.2.2.2.1
theorem SZ.bd {n : Nat} {P : List Pc} (h : SZ n P) : ∀ p ∈ P, p.1 ≤ 10000 := h.2.2.2.2.1
theorem SZ.so {n : Nat} {P : List Pc} (h : SZ n P) : ∀ p ∈ P, p.2.2.1 ≤ 1 := h.2.2.2.2.2.1
theorem SZ.ht {n : Nat} {P : List Pc} (h : SZ n P) : hsum P < 1073741824 := h.2.2.2.2.2.2.1
theorem SZ.rs {n : Nat} {P : List Pc} (h : SZ n P) : ∀ r ∈ flat P, r < n := h.2.2.2.2.2.2.2
/-- the keys of the rows -/
def KY (n : Nat) (ky : Nat → Int32) (K : Nat → Nat) : Prop := ∀ r, r < n → ky r = iN (K r) ∧ K r < 10000
theorem c_has {P p : Nat} (hP : P ≤ 62) (hp : p < 2147483648) : f_X3_has (iN P) (iN p) = some (if p < P then 1 else 0) := by
  unfold f_X3_has
  by_cases h : p < P
  · simp (disch := omega) only [Nat.add_zero, iN_lit, iN_lt, iN_le, iN_eq, iN_add, iN_mul, iN_sub, iN_nat, iN_div, iN_mod, iN_pred', n1_lt, n1_le, n1_ne, n1_ne', n1_nle, n1_nlt, n1_eq, oobN, some_lt, some_jn, bnd_some, Bool.false_eq_true, if_true, if_false, ite_true, ite_false, ↓reduceIte, ltT, ltF, leT, leF, eqT, eqF, true_and, and_true, false_and, and_false, true_or, or_true, false_or, or_false, not_true_eq_false, not_false_eq_true, if_pos, if_neg]
  · simp (disch := omega) only [Nat.add_zero, iN_lit, iN_lt, iN_le, iN_eq, iN_add, iN_mul, iN_sub, iN_nat, iN_div, iN_mod, iN_pred', n1_lt, n1_le, n1_ne, n1_ne', n1_nle, n1_nlt, n1_eq, oobN, some_lt, some_jn, bnd_some, Bool.false_eq_true, if_true, if_false, ite_true, ite_false, ↓reduceIte, ltT, ltF, leT, leF, eqT, eqF, true_and, and_true, false_and, and_false, true_or, or_true, false_or, or_false, not_true_eq_false, not_false_eq_true, if_pos, if_neg]
section RD
variable {n : Nat} {sz pc : Int32} {en bo he so st ky : Nat → Int32} {P : List Pc} {K : Nat → Nat}
theorem c_boundOf {p : Nat} (h : IX sz pc en bo he so st P) (hz : SZ n P) (hp : p < P.length) : f_X3_boundOf pc bo (iN p) = some (iN P[p].1) := by
  obtain ⟨rfl, rfl, h1, h2, h3, h4, h5⟩ := h
  have hl := hz.len
  have h6 := h2.get0 (i := p) (by simpa using hp)
  unfold f_X3_boundOf
  rw [c_has hl (by omega)]
  simp (disch := omega) only [Nat.add_zero, iN_lit, iN_lt, iN_le, iN_eq, iN_add, iN_mul, iN_sub, iN_nat, iN_div, iN_mod, iN_pred', n1_lt, n1_le, n1_ne, n1_ne', n1_nle, n1_nlt, n1_eq, oobN, some_lt, some_jn, bnd_some, Bool.false_eq_true, if_true, if_false, ite_true, ite_false, ↓reduceIte, ltT, ltF, leT, leF, eqT, eqF, true_and, and_true, false_and, and_false, true_or, or_true, false_or, or_false, not_true_eq_false, not_false_eq_true, if_pos, if_neg, h6, List.getElem_map]
theorem c_startOf {p : Nat} (h : IX sz pc en bo he so st P) (hz : SZ n P) (hp : p ≤ P.length) : f_X3_startOf sz pc st (iN p) = some (iN (sp P p)) := by
  obtain ⟨rfl, rfl, h1, h2, h3, h4, h5⟩ := h
  have hl := hz.len
  unfold f_X3_startOf
  rw [c_has hl (by omega)]
  by_cases hp : p < P.length
  · have h6 := h5.get0 (i := p) (by rw [sts_length]; exact hp)
    rw [sts_get hp] at h6
    simp (disch := omega) only [Nat.add_zero, iN_lit, iN_lt, iN_le, iN_eq, iN_add, iN_mul, iN_sub, iN_nat, iN_div, iN_mod, iN_pred', n1_lt, n1_le, n1_ne, n1_ne', n1_nle, n1_nlt, n1_eq, oobN, some_lt, some_jn, bnd_some, Bool.false_eq_true, if_true, if_false, ite_true, ite_false, ↓reduceIte, ltT, ltF, leT, leF, eqT, eqF, true_and, and_true, false_and, and_false, true_or, or_true, false_or, or_false, not_true_eq_false, not_false_eq_true, if_pos, if_neg, h6, Nat.zero_add]
  · rw [show p = P.length by omega, sp_len]; simp (disch := omega) only [Nat.add_zero, iN_lit, iN_lt, iN_le, iN_eq, iN_add, iN_mul, iN_sub, iN_nat, iN_div, iN_mod, iN_pred', n1_lt, n1_le, n1_ne, n1_ne', n1_nle, n1_nlt, n1_eq, oobN, some_lt, some_jn, bnd_some, Bool.false_eq_true, if_true, if_false, ite_true, ite_false, ↓reduceIte, ltT, ltF, leT, leF, eqT, eqF, true_and, and_true, false_and, and_false, true_or, or_true, false_or, or_false, not_true_eq_false, not_false_eq_true, if_pos, if_neg]
theorem c_sizeOf {p : Nat} (h : IX sz pc en bo he so st P) (hz : SZ n P) (hp : p < P.length) : f_X3_sizeOf sz pc st (iN p) = some (iN P[p].2.2.2.length) := by
  unfold f_X3_sizeOf
  rw [iN_lit, iN_add, c_startOf h hz (by omega), c_startOf h hz (by omega), sp_succ hp]
  have := sp_le P p; have := hz.fl
  simp (disch := omega) only [Nat.add_zero, iN_lit, iN_lt, iN_le, iN_eq, iN_add, iN_mul, iN_sub, iN_nat, iN_div, iN_mod, iN_pred', n1_lt, n1_le, n1_ne, n1_ne', n1_nle, n1_nlt, n1_eq, oobN, some_lt, some_jn, bnd_some, Bool.false_eq_true, if_true, if_false, ite_true, ite_false, ↓reduceIte, ltT, ltF, leT, leF, eqT, eqF, true_and, and_true, false_and, and_false, true_or, or_true, false_or, or_false, not_true_eq_false, not_false_eq_true, if_pos, if_neg, Nat.add_sub_cancel_left]
theorem c_heatOf {p : Nat} (h : IX sz pc en bo he so st P) (hz : SZ n P) (hp : p < P.length) : f_X3_heatOf pc he (iN p) = some (iN P[p].2.1) := by
  obtain ⟨rfl, rfl, h1, h2, h3, h4, h5⟩ := h
  have hl := hz.len
  have h6 := h3.get0 (i := p) (by simpa using hp)
  unfold f_X3_heatOf
  rw [c_has hl (by omega)]
  simp (disch := omega) only [Nat.add_zero, iN_lit, iN_lt, iN_le, iN_eq, iN_add, iN_mul, iN_sub, iN_nat, iN_div, iN_mod, iN_pred', n1_lt, n1_le, n1_ne, n1_ne', n1_nle, n1_nlt, n1_eq, oobN, some_lt, some_jn, bnd_some, Bool.false_eq_true, if_true, if_false, ite_true, ite_false, ↓reduceIte, ltT, ltF, leT, leF, eqT, eqF, true_and, and_true, false_and, and_false, true_or, or_true, false_or, or_false, not_true_eq_false, not_false_eq_true, if_pos, if_neg, h6, List.getElem_map]
theorem c_isSorted {p : Nat} (h : IX sz pc en bo he so st P) (hz : SZ n P) (hp : p < P.length) : f_X3_isSorted pc so (iN p) = some (iN P[p].2.2.1) := by
  obtain ⟨rfl, rfl, h1, h2, h3, h4, h5⟩ := h
  have hl := hz.len
  have h6 := h4.get0 (i := p) (by simpa using hp)
  have h7 := hz.so _ (List.getElem_mem hp)
  unfold f_X3_isSorted
  rw [c_has hl (by omega)]
  rcases Nat.le_one_iff_eq_zero_or_eq_one.mp h7 with h8 | h8
  · simp (disch := omega) only [Nat.add_zero, iN_lit, iN_lt, iN_le, iN_eq, iN_add, iN_mul, iN_sub, iN_nat, iN_div, iN_mod, iN_pred', n1_lt, n1_le, n1_ne, n1_ne', n1_nle, n1_nlt, n1_eq, oobN, some_lt, some_jn, bnd_some, Bool.false_eq_true, if_true, if_false, ite_true, ite_false, ↓reduceIte, ltT, ltF, leT, leF, eqT, eqF, true_and, and_true, false_and, and_false, true_or, or_true, false_or, or_false, not_true_eq_false, not_false_eq_true, if_pos, if_neg, h6, List.getElem_map, h8]
  · simp (disch := omega) only [Nat.add_zero, iN_lit, iN_lt, iN_le, iN_eq, iN_add, iN_mul, iN_sub, iN_nat, iN_div, iN_mod, iN_pred', n1_lt, n1_le, n1_ne, n1_ne', n1_nle, n1_nlt, n1_eq, oobN, some_lt, some_jn, bnd_some, Bool.false_eq_true, if_true, if_false, ite_true, ite_false, ↓reduceIte, ltT, ltF, leT, leF, eqT, eqF, true_and, and_true, false_and, and_false, true_or, or_true, false_or, or_false, not_true_eq_false, not_false_eq_true, if_pos, if_neg, h6, List.getElem_map, h8]
theorem c_rowAt {i : Nat} (h : IX sz pc en bo he so st P) (hz : SZ n P) (hi : i < (flat P).length) : f_X3_rowAt sz en (iN i) = some (iN (flat P)[i]) := by
  obtain ⟨rfl, rfl, h1, h2, h3, h4, h5⟩ := h
  have hl := hz.fl
  have h6 := h1.get0 hi
  unfold f_X3_rowAt
  simp (disch := omega) only [Nat.add_zero, iN_lit, iN_lt, iN_le, iN_eq, iN_add, iN_mul, iN_sub, iN_nat, iN_div, iN_mod, iN_pred', n1_lt, n1_le, n1_ne, n1_ne', n1_nle, n1_nlt, n1_eq, oobN, some_lt, some_jn, bnd_some, Bool.false_eq_true, if_true, if_false, ite_true, ite_false, ↓reduceIte, ltT, ltF, leT, leF, eqT, eqF, true_and, and_true, false_and, and_false, true_or, or_true, false_or, or_false, not_true_eq_false, not_false_eq_true, if_pos, if_neg, h6]
theorem c_keyOf {r : Nat} (hk : KY n ky K) (hn : n ≤ 120) (hr : r < n) : f_X6_keyOf ky (iN r) = some (iN (K r)) := by
  have h6 := (hk r hr).1
  unfold f_X6_keyOf
  simp (disch := omega) only [Nat.add_zero, iN_lit, iN_lt, iN_le, iN_eq, iN_add, iN_mul, iN_sub, iN_nat, iN_div, iN_mod, iN_pred', n1_lt, n1_le, n1_ne, n1_ne', n1_nle, n1_nlt, n1_eq, oobN, some_lt, some_jn, bnd_some, Bool.false_eq_true, if_true, if_false, ite_true, ite_false, ↓reduceIte, ltT, ltF, leT, leF, eqT, eqF, true_and, and_true, false_and, and_false, true_or, or_true, false_or, or_false, not_true_eq_false, not_false_eq_true, if_pos, if_neg, h6]
theorem c_keyAt {i : Nat} (h : IX sz pc en bo he so st P) (hz : SZ n P) (hk : KY n ky K) (hi : i < (flat P).length) : f_X3_keyAt sz en ky (iN i) = some (iN (K (flat P)[i])) := by
  unfold f_X3_keyAt
  rw [c_rowAt h hz hi, bnd_some, c_keyOf hk hz.nn (hz.rs _ (List.getElem_mem hi)), bnd_some]
/-- one row stands ahead of the other -/
def ahd (K : Nat → Nat) (r q : Nat) : Bool := decide (K r < K q ∨ (K r = K q ∧ r < q))
theorem c_isAhead {r q : Nat} (hk : KY n ky K) (hn : n ≤ 120) (hr : r < n) (hq : q < n) : f_X6_isAhead ky (iN r) (iN q) = some (if ahd K r q then 1 else 0) := by
  unfold f_X6_isAhead
  rw [c_keyOf hk hn hr, bnd_some, c_keyOf hk hn hq, bnd_some]
  have h1 := (hk r hr).2; have h2 := (hk q hq).2
  simp only [ahd, decide_eq_true_eq]
  by_cases h3 : K r < K q
  · simp (disch := omega) only [Nat.add_zero, iN_lit, iN_lt, iN_le, iN_eq, iN_add, iN_mul, iN_sub, iN_nat, iN_div, iN_mod, iN_pred', n1_lt, n1_le, n1_ne, n1_ne', n1_nle, n1_nlt, n1_eq, oobN, some_lt, some_jn, bnd_some, Bool.false_eq_true, if_true, if_false, ite_true, ite_false, ↓reduceIte, ltT, ltF, leT, leF, eqT, eqF, true_and, and_true, false_and, and_false, true_or, or_true, false_or, or_false, not_true_eq_false, not_false_eq_true, if_pos, if_neg]
  · by_cases h4 : K r = K q
    · by_cases h5 : r < q
      · simp (disch := omega) only [Nat.add_zero, iN_lit, iN_lt, iN_le, iN_eq, iN_add, iN_mul, iN_sub, iN_nat, iN_div, iN_mod, iN_pred', n1_lt, n1_le, n1_ne, n1_ne', n1_nle, n1_nlt, n1_eq, oobN, some_lt, some_jn, bnd_some, Bool.false_eq_true, if_true, if_false, ite_true, ite_false, ↓reduceIte, ltT, ltF, leT, leF, eqT, eqF, true_and, and_true, false_and, and_false, true_or, or_true, false_or, or_false, not_true_eq_false, not_false_eq_true, if_pos, if_neg]
      · simp (disch := omega) only [Nat.add_zero, iN_lit, iN_lt, iN_le, iN_eq, iN_add, iN_mul, iN_sub, iN_nat, iN_div, iN_mod, iN_pred', n1_lt, n1_le, n1_ne, n1_ne', n1_nle, n1_nlt, n1_eq, oobN, some_lt, some_jn, bnd_some, Bool.false_eq_true, if_true, if_false, ite_true, ite_false, ↓reduceIte, ltT, ltF, leT, leF, eqT, eqF, true_and, and_true, false_and, and_false, true_or, or_true, false_or, or_false, not_true_eq_false, not_false_eq_true, if_pos, if_neg]
    · simp (disch := omega) only [Nat.add_zero, iN_lit, iN_lt, iN_le, iN_eq, iN_add, iN_mul, iN_sub, iN_nat, iN_div, iN_mod, iN_pred', n1_lt, n1_le, n1_ne, n1_ne', n1_nle, n1_nlt, n1_eq, oobN, some_lt, some_jn, bnd_some, Bool.false_eq_true, if_true, if_false, ite_true, ite_false, ↓reduceIte, ltT, ltF, leT, leF, eqT, eqF, true_and, and_true, false_and, and_false, true_or, or_true, false_or, or_false, not_true_eq_false, not_false_eq_true, if_pos, if_neg]
end RD
def lle (L : List Nat) (key : Nat) : Nat → Nat
  | 0 => 0
  | i + 1 => if L.getD i 0 ≤ key then i else lle L key i
theorem lle_le (L : List Nat) (key i : Nat) : lle L key i ≤ i := by
  induction i with
  | zero => exact Nat.le_refl _
  | succ i ih => unfold lle; split <;> omega
theorem pieceFor_loop {L : List Nat} {key : Nat} {b : Nat → Int32} {k : Int32 → Option Int32} (hb : At b 0 L) (h62 : L.length ≤ 62) (hL : ∀ x ∈ L, x < 2147483648) (hk : key < 2147483648) :
    ∀ n i, i ≤ L.length → 1 ≤ i → L.length - i < n → f_X3_pieceFor_4 (iN L.length) b (iN key) k n (iN (lle L key i)) (iN i) = k (iN (lle L key L.length)) := by
  intro n
  induction n with
  | zero => intro i h1 h2 h3; omega
  | succ n ih =>
    intro i h1 h2 h3
    unfold f_X3_pieceFor_4
    by_cases h : i = L.length
    · subst h; simp (disch := omega) only [Nat.add_zero, iN_lit, iN_lt, iN_le, iN_eq, iN_add, iN_mul, iN_sub, iN_nat, iN_div, iN_mod, iN_pred', n1_lt, n1_le, n1_ne, n1_ne', n1_nle, n1_nlt, n1_eq, oobN, some_lt, some_jn, bnd_some, Bool.false_eq_true, if_true, if_false, ite_true, ite_false, ↓reduceIte, ltT, ltF, leT, leF, eqT, eqF, true_and, and_true, false_and, and_false, true_or, or_true, false_or, or_false, not_true_eq_false, not_false_eq_true, if_pos, if_neg]
    · have hi : i < L.length := by omega
      have h4 := hb.get0 hi
      have h5 := hL _ (List.getElem_mem hi)
      have h6 := ih (i + 1) (by omega) (by omega) (by omega)
      simp only [lle, getD_get hi] at h6
      by_cases h7 : L[i] ≤ key
      · simp (disch := omega) only [Nat.add_zero, iN_lit, iN_lt, iN_le, iN_eq, iN_add, iN_mul, iN_sub, iN_nat, iN_div, iN_mod, iN_pred', n1_lt, n1_le, n1_ne, n1_ne', n1_nle, n1_nlt, n1_eq, oobN, some_lt, some_jn, bnd_some, Bool.false_eq_true, if_true, if_false, ite_true, ite_false, ↓reduceIte, ltT, ltF, leT, leF, eqT, eqF, true_and, and_true, false_and, and_false, true_or, or_true, false_or, or_false, not_true_eq_false, not_false_eq_true, if_pos, if_neg, h4] at h6 ⊢; exact h6
      · simp (disch := omega) only [Nat.add_zero, iN_lit, iN_lt, iN_le, iN_eq, iN_add, iN_mul, iN_sub, iN_nat, iN_div, iN_mod, iN_pred', n1_lt, n1_le, n1_ne, n1_ne', n1_nle, n1_nlt, n1_eq, oobN, some_lt, some_jn, bnd_some, Bool.false_eq_true, if_true, if_false, ite_true, ite_false, ↓reduceIte, ltT, ltF, leT, leF, eqT, eqF, true_and, and_true, false_and, and_false, true_or, or_true, false_or, or_false, not_true_eq_false, not_false_eq_true, if_pos, if_neg, h4] at h6 ⊢; exact h6
theorem c_pieceFor {L : List Nat} {key N : Nat} {b : Nat → Int32} (hb : At b 0 L) (h62 : L.length ≤ 62) (h0 : 1 ≤ L.length) (hL : ∀ x ∈ L, x < 2147483648) (hk : key < 2147483648) (hN : 100 < N) :
    f_X3_pieceFor N (iN L.length) b (iN key) = some (iN (lle L key L.length)) := by
  unfold f_X3_pieceFor
  have h := pieceFor_loop (k := fun x => some x) hb h62 hL hk N 1 h0 (Nat.le_refl 1) (by omega)
  rw [show lle L key 1 = 0 by simp [lle]] at h
  exact h
