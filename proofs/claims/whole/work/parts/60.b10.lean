theorem shl_iN {c : Nat} (h : c ≤ 8) : (1 : Int32) <<< (iN c &&& 31) = iN (2 ^ c) := by
  match c, h with
  | 0, _ => decide
  | 1, _ => decide
  | 2, _ => decide
  | 3, _ => decide
  | 4, _ => decide
  | 5, _ => decide
  | 6, _ => decide
  | 7, _ => decide
  | 8, _ => decide
/-- the least c with 2 to the power c at least v -/
def lgS (v : Nat) : Nat := match fstI (fun c => decide (v ≤ 2 ^ c)) 0 8 with | some c => c | none => 8
theorem p2_le {c : Nat} (h : c ≤ 8) : 2 ^ c ≤ 256 := Nat.pow_le_pow_right (by omega) h
theorem c_powerFor {N v : Nat} (hv : v ≤ 256) (hN : 1000 < N) : f_X7_powerFor N (iN v) = some (iN (lgS v)) := by
  unfold f_X7_powerFor
  rw [some_jn]
  refine (lpF (F := fun m i => f_X7_powerFor_2 (iN v) (fun x => some x) m (iN i)) (p := fun c => decide (v ≤ 2 ^ c)) (kf := fun i => some (iN i)) (kn := some (iN 8)) (e := 8) (fun m i hi => ?_) (fun m => ?_) N 0 (by omega) (by omega)).trans ?_
  · show f_X7_powerFor_2 (iN v) _ (m + 1) (iN i) = _
    have h1 := p2_le (c := i) (by omega)
    rw [f_X7_powerFor_2.eq_2, shl_iN (by omega)]
    by_cases h2 : v ≤ 2 ^ i
    · rw [decide_eq_true h2]; simp (disch := omega) only [Nat.add_zero, iN_lit, iN_lt, iN_le, iN_eq, iN_add, iN_mul, iN_sub, iN_nat, iN_div, iN_mod, iN_pred', n1_lt, n1_le, n1_ne, n1_ne', n1_nle, n1_nlt, n1_eq, oobN, some_lt, some_jn, bnd_some, Bool.false_eq_true, if_true, if_false, ite_true, ite_false, ↓reduceIte, ltT, ltF, leT, leF, eqT, eqF, true_and, and_true, false_and, and_false, true_or, or_true, false_or, or_false, not_true_eq_false, not_false_eq_true, if_pos, if_neg]
    · rw [decide_eq_false h2]; simp (disch := omega) only [Nat.add_zero, iN_lit, iN_lt, iN_le, iN_eq, iN_add, iN_mul, iN_sub, iN_nat, iN_div, iN_mod, iN_pred', n1_lt, n1_le, n1_ne, n1_ne', n1_nle, n1_nlt, n1_eq, oobN, some_lt, some_jn, bnd_some, Bool.false_eq_true, if_true, if_false, ite_true, ite_false, ↓reduceIte, ltT, ltF, leT, leF, eqT, eqF, true_and, and_true, false_and, and_false, true_or, or_true, false_or, or_false, not_true_eq_false, not_false_eq_true, if_pos, if_neg]
  · show f_X7_powerFor_2 (iN v) _ (m + 1) (iN 8) = _
    rw [f_X7_powerFor_2.eq_2, shl_iN (by omega)]; simp (disch := omega) only [Nat.add_zero, iN_lit, iN_lt, iN_le, iN_eq, iN_add, iN_mul, iN_sub, iN_nat, iN_div, iN_mod, iN_pred', n1_lt, n1_le, n1_ne, n1_ne', n1_nle, n1_nlt, n1_eq, oobN, some_lt, some_jn, bnd_some, Bool.false_eq_true, if_true, if_false, ite_true, ite_false, ↓reduceIte, ltT, ltF, leT, leF, eqT, eqF, true_and, and_true, false_and, and_false, true_or, or_true, false_or, or_false, not_true_eq_false, not_false_eq_true, if_pos, if_neg]
  · unfold lgS; rw [Nat.sub_zero]; cases fstI _ 0 8 <;> rfl
theorem r_logOf {N v : Nat} (hv : v ≤ 256) (hN : 1000 < N) : f_X8_logOf N (iN v) = some (iN (lgS v)) := by
  unfold f_X8_logOf
  rw [some_jn]
  refine (lpF (F := fun m i => f_X8_logOf_2 (iN v) (fun x => some x) m (iN i)) (p := fun c => decide (v ≤ 2 ^ c)) (kf := fun i => some (iN i)) (kn := some (iN 8)) (e := 8) (fun m i hi => ?_) (fun m => ?_) N 0 (by omega) (by omega)).trans ?_
  · show f_X8_logOf_2 (iN v) _ (m + 1) (iN i) = _
    have h1 := p2_le (c := i) (by omega)
    rw [f_X8_logOf_2.eq_2, shl_iN (by omega)]
    by_cases h2 : v ≤ 2 ^ i
    · rw [decide_eq_true h2]; simp (disch := omega) only [Nat.add_zero, iN_lit, iN_lt, iN_le, iN_eq, iN_add, iN_mul, iN_sub, iN_nat, iN_div, iN_mod, iN_pred', n1_lt, n1_le, n1_ne, n1_ne', n1_nle, n1_nlt, n1_eq, oobN, some_lt, some_jn, bnd_some, Bool.false_eq_true, if_true, if_false, ite_true, ite_false, ↓reduceIte, ltT, ltF, leT, leF, eqT, eqF, true_and, and_true, false_and, and_false, true_or, or_true, false_or, or_false, not_true_eq_false, not_false_eq_true, if_pos, if_neg]
    · rw [decide_eq_false h2]; simp (disch := omega) only [Nat.add_zero, iN_lit, iN_lt, iN_le, iN_eq, iN_add, iN_mul, iN_sub, iN_nat, iN_div, iN_mod, iN_pred', n1_lt, n1_le, n1_ne, n1_ne', n1_nle, n1_nlt, n1_eq, oobN, some_lt, some_jn, bnd_some, Bool.false_eq_true, if_true, if_false, ite_true, ite_false, ↓reduceIte, ltT, ltF, leT, leF, eqT, eqF, true_and, and_true, false_and, and_false, true_or, or_true, false_or, or_false, not_true_eq_false, not_false_eq_true, if_pos, if_neg]
  · show f_X8_logOf_2 (iN v) _ (m + 1) (iN 8) = _
    rw [f_X8_logOf_2.eq_2, shl_iN (by omega)]; simp (disch := omega) only [Nat.add_zero, iN_lit, iN_lt, iN_le, iN_eq, iN_add, iN_mul, iN_sub, iN_nat, iN_div, iN_mod, iN_pred', n1_lt, n1_le, n1_ne, n1_ne', n1_nle, n1_nlt, n1_eq, oobN, some_lt, some_jn, bnd_some, Bool.false_eq_true, if_true, if_false, ite_true, ite_false, ↓reduceIte, ltT, ltF, leT, leF, eqT, eqF, true_and, and_true, false_and, and_false, true_or, or_true, false_or, or_false, not_true_eq_false, not_false_eq_true, if_pos, if_neg]
  · unfold lgS; rw [Nat.sub_zero]; cases fstI _ 0 8 <;> rfl
theorem lgS_le (v : Nat) : lgS v ≤ 8 := by
  unfold lgS
  cases h : fstI (fun c => decide (v ≤ 2 ^ c)) 0 8 with
  | none => simp
  | some c => have := (fstI_some h).2.2.1; simp only; omega
theorem gD_right {L1 L2 : List Nat} {i : Nat} (h : L1.length ≤ i) : (L1 ++ L2).getD i 0 = L2.getD (i - L1.length) 0 := by
  simp [List.getD, List.getElem?_append_right h]
theorem gD_left {L1 L2 : List Nat} {i : Nat} (h : i < L1.length) : (L1 ++ L2).getD i 0 = L1.getD i 0 := by
  simp [List.getD, List.getElem?_append_left h]
theorem insL_len (K : Nat → Nat) (row : Nat) (l : List Nat) : (insL K row l).length = l.length + 1 := by
  have := insK_le K row l l.length
  unfold insL; simp; omega
theorem isort_snoc (K : Nat → Nat) (l : List Nat) (r : Nat) : isort K (l ++ [r]) = insL K r (isort K l) := by simp [isort]
theorem isort_len (K : Nat → Nat) (l : List Nat) : (isort K l).length = l.length := by
  have : ∀ (l acc : List Nat), (l.foldl (fun acc r => insL K r acc) acc).length = acc.length + l.length := by
    intro l
    induction l with
    | nil => intro acc; simp
    | cons x l ih => intro acc; simp only [List.foldl_cons, List.length_cons]; rw [ih, insL_len]; omega
  have h := this l []
  unfold isort
  simpa using h
/-- all moved one on -/
theorem At.up {f f' : Nat → Int32} {q : Nat} {L : List Nat} (h : At f q L) (hs : ∀ j, q ≤ j → j < q + L.length → f' (j + 1) = f j) : At f' (q + 1) L := fun i r hi => by
  have hl := (List.getElem?_eq_some_iff.mp hi).1
  rw [show q + 1 + i = (q + i) + 1 by omega, hs (q + i) (by omega) (by omega)]; exact h i r hi
theorem At.down {f f' : Nat → Int32} {q : Nat} {L : List Nat} (h : At f (q + 1) L) (hs : ∀ j, q ≤ j → j < q + L.length → f' j = f (j + 1)) : At f' q L := fun i r hi => by
  have hl := (List.getElem?_eq_some_iff.mp hi).1
  rw [hs (q + i) (by omega) (by omega), show q + i + 1 = q + 1 + i by omega]; exact h i r hi
section WR
variable {n N : Nat} {sz pc : Int32} {en bo he so st ky : Nat → Int32} {P : List Pc} {K : Nat → Nat}
theorem c_movePiece {f t : Nat} (hf : f < 62) (ht : t < 62) : f_X3_movePiece bo he so st (iN f) (iN t) = some (upd bo t (bo f), upd he t (he f), upd so t (so f), upd st t (st f)) := by
  unfold f_X3_movePiece
  by_cases h : f ≤ t
  · by_cases h2 : f = t
    · subst h2; simp (disch := omega) only [Nat.add_zero, iN_lit, iN_lt, iN_le, iN_eq, iN_add, iN_mul, iN_sub, iN_nat, iN_div, iN_mod, iN_pred', n1_lt, n1_le, n1_ne, n1_ne', n1_nle, n1_nlt, n1_eq, oobN, some_lt, some_jn, bnd_some, Bool.false_eq_true, if_true, if_false, ite_true, ite_false, ↓reduceIte, ltT, ltF, leT, leF, eqT, eqF, true_and, and_true, false_and, and_false, true_or, or_true, false_or, or_false, not_true_eq_false, not_false_eq_true, if_pos, if_neg]
    · simp (disch := omega) only [Nat.add_zero, iN_lit, iN_lt, iN_le, iN_eq, iN_add, iN_mul, iN_sub, iN_nat, iN_div, iN_mod, iN_pred', n1_lt, n1_le, n1_ne, n1_ne', n1_nle, n1_nlt, n1_eq, oobN, some_lt, some_jn, bnd_some, Bool.false_eq_true, if_true, if_false, ite_true, ite_false, ↓reduceIte, ltT, ltF, leT, leF, eqT, eqF, true_and, and_true, false_and, and_false, true_or, or_true, false_or, or_false, not_true_eq_false, not_false_eq_true, if_pos, if_neg]
  · simp (disch := omega) only [Nat.add_zero, iN_lit, iN_lt, iN_le, iN_eq, iN_add, iN_mul, iN_sub, iN_nat, iN_div, iN_mod, iN_pred', n1_lt, n1_le, n1_ne, n1_ne', n1_nle, n1_nlt, n1_eq, oobN, some_lt, some_jn, bnd_some, Bool.false_eq_true, if_true, if_false, ite_true, ite_false, ↓reduceIte, ltT, ltF, leT, leF, eqT, eqF, true_and, and_true, false_and, and_false, true_or, or_true, false_or, or_false, not_true_eq_false, not_false_eq_true, if_pos, if_neg]
theorem rowAt_At {L : List Nat} {i : Nat} (h : At en 0 L) (hl : L.length ≤ 120) (hi : i < L.length) : f_X3_rowAt (iN L.length) en (iN i) = some (iN (L.getD i 0)) := by
  have h6 := h.get0 hi
  rw [getD_get hi]
  unfold f_X3_rowAt
  simp (disch := omega) only [Nat.add_zero, iN_lit, iN_lt, iN_le, iN_eq, iN_add, iN_mul, iN_sub, iN_nat, iN_div, iN_mod, iN_pred', n1_lt, n1_le, n1_ne, n1_ne', n1_nle, n1_nlt, n1_eq, oobN, some_lt, some_jn, bnd_some, Bool.false_eq_true, if_true, if_false, ite_true, ite_false, ↓reduceIte, ltT, ltF, leT, leF, eqT, eqF, true_and, and_true, false_and, and_false, true_or, or_true, false_or, or_false, not_true_eq_false, not_false_eq_true, if_pos, if_neg, h6]
/-- one row slides down among those ahead -/
theorem c_slideDown {F1 acc rest : List Nat} {row : Nat} (h : At en 0 (F1 ++ (acc ++ row :: rest))) (hl : (F1 ++ (acc ++ row :: rest)).length ≤ 120) (hk : KY n ky K) (hn : n ≤ 120) (hrs : ∀ r ∈ acc, r < n) (hr : row < n) (hN : 1000 < N) :
    ∃ en', f_X3_slideDown N (iN (F1 ++ (acc ++ row :: rest)).length) en ky (iN F1.length) (iN (F1.length + acc.length)) = some en' ∧ At en' 0 (F1 ++ (insL K row acc ++ rest)) := by
  have hl2 : F1.length + (acc.length + rest.length + 1) ≤ 120 := by simp at hl; omega
  have e1 : f_X3_rowAt (iN (F1 ++ (acc ++ row :: rest)).length) en (iN (F1.length + acc.length)) = some (iN row) := by
    rw [rowAt_At h hl (by simp)]
    congr 2
    rw [← List.append_assoc]
    rw [gD_right (by simp)]
    simp
  have loop : ∀ (k : Int32 → Option (Nat → Int32)) m j, j ≤ acc.length → j < m → f_X3_slideDown_9 (iN (F1 ++ (acc ++ row :: rest)).length) en ky (iN F1.length) (iN row) k m (iN (F1.length + j)) = k (iN (F1.length + insK K row acc j)) := by
    intro k m
    induction m with
    | zero => intro j h1 h2; omega
    | succ m ih =>
      intro j h1 h2
      rw [f_X3_slideDown_9.eq_2]
      match j with
      | 0 => simp only [insK]; simp (disch := omega) only [Nat.add_zero, iN_lit, iN_lt, iN_le, iN_eq, iN_add, iN_mul, iN_sub, iN_nat, iN_div, iN_mod, iN_pred', n1_lt, n1_le, n1_ne, n1_ne', n1_nle, n1_nlt, n1_eq, oobN, some_lt, some_jn, bnd_some, Bool.false_eq_true, if_true, if_false, ite_true, ite_false, ↓reduceIte, ltT, ltF, leT, leF, eqT, eqF, true_and, and_true, false_and, and_false, true_or, or_true, false_or, or_false, not_true_eq_false, not_false_eq_true, if_pos, if_neg]
      | j + 1 =>
        have e6 := rowAt_At (i := F1.length + j) h hl (by simp; omega)
        have e7 : (F1 ++ (acc ++ row :: rest)).getD (F1.length + j) 0 = acc.getD j 0 := by
          rw [gD_right (by omega), gD_left (by omega)]
          congr 1; omega
        have e8 : acc.getD j 0 < n := by rw [getD_get (by omega)]; exact hrs _ (List.getElem_mem _)
        rw [e7] at e6
        have e9 := c_isAhead hk hn hr e8
        rw [show iN (F1.length + (j + 1)) - 1 = iN (F1.length + j) from iN_sub (a := F1.length + j + 1) (b := 1) (by omega), e6, bnd_some, e9, bnd_some]
        simp only [insK]
        by_cases h9 : ahd K row (acc.getD j 0) = true
        · rw [h9]
          have := ih j (by omega) (by omega)
          simp (disch := omega) only [Nat.add_zero, iN_lit, iN_lt, iN_le, iN_eq, iN_add, iN_mul, iN_sub, iN_nat, iN_div, iN_mod, iN_pred', n1_lt, n1_le, n1_ne, n1_ne', n1_nle, n1_nlt, n1_eq, oobN, some_lt, some_jn, bnd_some, Bool.false_eq_true, if_true, if_false, ite_true, ite_false, ↓reduceIte, ltT, ltF, leT, leF, eqT, eqF, true_and, and_true, false_and, and_false, true_or, or_true, false_or, or_false, not_true_eq_false, not_false_eq_true, if_pos, if_neg]
          exact this
        · have h9 : ahd K row (acc.getD j 0) = false := by simpa using h9
          rw [h9]
          simp (disch := omega) only [Nat.add_zero, iN_lit, iN_lt, iN_le, iN_eq, iN_add, iN_mul, iN_sub, iN_nat, iN_div, iN_mod, iN_pred', n1_lt, n1_le, n1_ne, n1_ne', n1_nle, n1_nlt, n1_eq, oobN, some_lt, some_jn, bnd_some, Bool.false_eq_true, if_true, if_false, ite_true, ite_false, ↓reduceIte, ltT, ltF, leT, leF, eqT, eqF, true_and, and_true, false_and, and_false, true_or, or_true, false_or, or_false, not_true_eq_false, not_false_eq_true, if_pos, if_neg]
  have hle := insK_le K row acc acc.length
  obtain ⟨en2, m1, m2, _⟩ := c_moveDown (L1 := F1 ++ acc.take (insK K row acc acc.length)) (M := acc.drop (insK K row acc acc.length)) (L2 := rest) (row := row) (en := en)
    (by rw [List.append_assoc, ← List.append_assoc (acc.take _), List.take_append_drop]; exact h)
    (by rw [List.append_assoc, ← List.append_assoc (acc.take _), List.take_append_drop]; exact hl)
  rw [List.append_assoc, ← List.append_assoc (acc.take _), List.take_append_drop, List.length_append (as := F1) (bs := acc.take _), List.length_take, List.length_drop, Nat.min_eq_left hle, show F1.length + insK K row acc acc.length + (acc.length - insK K row acc acc.length) = F1.length + acc.length by omega] at m1
  refine ⟨en2, ?_, ?_⟩
  · unfold f_X3_slideDown
    rw [e1, bnd_some, some_jn, loop _ N acc.length (Nat.le_refl _) (by omega)]
    rw [m1, bnd_some]
  · unfold insL
    simp only [List.append_assoc, List.cons_append] at m2 ⊢
    exact m2
theorem mem_insL {row x : Nat} {l : List Nat} : x ∈ insL K row l ↔ x = row ∨ x ∈ l := by
  unfold insL
  simp only [List.mem_append, List.mem_cons]
  constructor
  · rintro (h | h | h)
    · exact Or.inr (List.mem_of_mem_take h)
    · exact Or.inl h
    · exact Or.inr (List.mem_of_mem_drop h)
  · rintro (h | h)
    · exact Or.inr (Or.inl h)
    · rw [← List.take_append_drop (insK K row l l.length) l, List.mem_append] at h
      rcases h with h | h
      · exact Or.inl h
      · exact Or.inr (Or.inr h)
theorem mem_isort {x : Nat} {l : List Nat} : x ∈ isort K l ↔ x ∈ l := by
  have : ∀ (l acc : List Nat), x ∈ l.foldl (fun acc r => insL K r acc) acc ↔ x ∈ acc ∨ x ∈ l := by
    intro l
    induction l with
    | nil => intro acc; simp
    | cons y l ih => intro acc; simp only [List.foldl_cons]; rw [ih, mem_insL, List.mem_cons]; grind
  have h := this l []
  unfold isort
  simpa using h
theorem c_putInOrder {p : Nat} (h : IX sz pc en bo he so st P) (hz : SZ n P) (hk : KY n ky K) (hN : 1000 < N) (hp : p < P.length) :
    ∃ en' so', f_X3_putInOrder N sz pc en so st ky (iN p) = some (en', so') ∧ IX sz pc en' bo he so' st (srtS K p P) := by
  have hl := hz.len; have hn := hz.nn; have hfl := hz.fl
  obtain ⟨A, X, B, rfl, rfl⟩ := split_at hp
  have e3 := c_startOf (p := A.length) h hz (by simp)
  have e5 := c_startOf (p := A.length + 1) h hz (by simp)
  rw [sp_app] at e3
  rw [sp_app1] at e5
  have hrs : ∀ r, r ∈ X.2.2.2 → r < n := fun r hr => hz.rs r (by simp [flat_append, flat, hr])
  obtain ⟨rfl, rfl, h3, h4, h5, h6, h7⟩ := IX_app.mp h
  unfold srtS
  rw [mdp_app]
  simp only [flat_append, flat, List.length_append, List.length_cons] at hfl hl
  have e0 := c_has (P := A.length + B.length + 1) (p := A.length) (by omega) (by omega)
  have key : ∀ m j en, 1 ≤ j → j ≤ X.2.2.2.length → X.2.2.2.length - j < m → At en 0 (flat A ++ (isort K (X.2.2.2.take j) ++ (X.2.2.2.drop j ++ flat B))) →
      ∀ k : (Nat → Int32) → Option ((Nat → Int32) × (Nat → Int32)), ∃ en', f_X3_putInOrder_28 N (iN ((flat A).length + (X.2.2.2.length + (flat B).length))) ky (iN (flat A).length) (iN ((flat A).length + X.2.2.2.length)) k m (iN ((flat A).length + j)) en = k en' ∧ At en' 0 (flat A ++ (isort K X.2.2.2 ++ flat B)) := by
    intro m
    induction m with
    | zero => intro j en h1 h2 h3; omega
    | succ m ih =>
      intro j en h1 h2 h8 hat k
      rw [f_X3_putInOrder_28.eq_2]
      by_cases h9 : j = X.2.2.2.length
      · subst h9
        rw [List.take_length, List.drop_length, List.nil_append] at hat
        refine ⟨en, ?_, hat⟩
        simp (disch := omega) only [Nat.add_zero, iN_lit, iN_lt, iN_le, iN_eq, iN_add, iN_mul, iN_sub, iN_nat, iN_div, iN_mod, iN_pred', n1_lt, n1_le, n1_ne, n1_ne', n1_nle, n1_nlt, n1_eq, oobN, some_lt, some_jn, bnd_some, Bool.false_eq_true, if_true, if_false, ite_true, ite_false, ↓reduceIte, ltT, ltF, leT, leF, eqT, eqF, true_and, and_true, false_and, and_false, true_or, or_true, false_or, or_false, not_true_eq_false, not_false_eq_true, if_pos, if_neg]
      · have hj : j < X.2.2.2.length := by omega
        have hd : X.2.2.2.drop j = X.2.2.2[j] :: X.2.2.2.drop (j + 1) := List.drop_eq_getElem_cons hj
        have ht : X.2.2.2.take (j + 1) = X.2.2.2.take j ++ [X.2.2.2[j]] := (List.take_append_getElem hj).symm
        rw [hd] at hat
        have hlen : (isort K (X.2.2.2.take j)).length = j := by rw [isort_len, List.length_take]; omega
        obtain ⟨en2, s1, s2⟩ := c_slideDown (N := N) (F1 := flat A) (acc := isort K (X.2.2.2.take j)) (rest := X.2.2.2.drop (j + 1) ++ flat B) (row := X.2.2.2[j]) (by simpa only [List.cons_append] using hat) (by simp [hlen]; omega) hk hn (fun r hr => hrs r (List.mem_of_mem_take (mem_isort.mp hr))) (hrs _ (List.getElem_mem hj)) hN
        rw [hlen, show (flat A ++ (isort K (X.2.2.2.take j) ++ X.2.2.2[j] :: (X.2.2.2.drop (j + 1) ++ flat B))).length = (flat A).length + (X.2.2.2.length + (flat B).length) by simp [hlen]; omega] at s1
        rw [← isort_snoc, ← ht] at s2
        obtain ⟨en3, q1, q2⟩ := ih (j + 1) en2 (by omega) (by omega) (by omega) s2 k
        refine ⟨en3, ?_, q2⟩
        simp (disch := omega) only [Nat.add_zero, iN_lit, iN_lt, iN_le, iN_eq, iN_add, iN_mul, iN_sub, iN_nat, iN_div, iN_mod, iN_pred', n1_lt, n1_le, n1_ne, n1_ne', n1_nle, n1_nlt, n1_eq, oobN, some_lt, some_jn, bnd_some, Bool.false_eq_true, if_true, if_false, ite_true, ite_false, ↓reduceIte, ltT, ltF, leT, leF, eqT, eqF, true_and, and_true, false_and, and_false, true_or, or_true, false_or, or_false, not_true_eq_false, not_false_eq_true, if_pos, if_neg, s1]
        exact q1
  have key2 : ∀ k : (Nat → Int32) → Option ((Nat → Int32) × (Nat → Int32)), ∃ en', f_X3_putInOrder_28 N (iN ((flat A).length + (X.2.2.2.length + (flat B).length))) ky (iN (flat A).length) (iN ((flat A).length + X.2.2.2.length)) k N (iN ((flat A).length + 1)) en = k en' ∧ At en' 0 (flat A ++ (isort K X.2.2.2 ++ flat B)) := by
    intro k
    by_cases h0 : X.2.2.2.length = 0
    · obtain ⟨M, hM⟩ : ∃ M, N = M + 1 := ⟨N - 1, by omega⟩
      have hx : X.2.2.2 = [] := List.length_eq_zero_iff.mp h0
      refine ⟨en, ?_, by rw [hx] at h3 ⊢; exact h3⟩
      rw [show f_X3_putInOrder_28 N (iN ((flat A).length + (X.2.2.2.length + (flat B).length))) ky (iN (flat A).length) (iN ((flat A).length + X.2.2.2.length)) k N (iN ((flat A).length + 1)) en = f_X3_putInOrder_28 N (iN ((flat A).length + (X.2.2.2.length + (flat B).length))) ky (iN (flat A).length) (iN ((flat A).length + X.2.2.2.length)) k (M + 1) (iN ((flat A).length + 1)) en by rw [← hM], f_X3_putInOrder_28.eq_2]
      simp (disch := omega) only [Nat.add_zero, iN_lit, iN_lt, iN_le, iN_eq, iN_add, iN_mul, iN_sub, iN_nat, iN_div, iN_mod, iN_pred', n1_lt, n1_le, n1_ne, n1_ne', n1_nle, n1_nlt, n1_eq, oobN, some_lt, some_jn, bnd_some, Bool.false_eq_true, if_true, if_false, ite_true, ite_false, ↓reduceIte, ltT, ltF, leT, leF, eqT, eqF, true_and, and_true, false_and, and_false, true_or, or_true, false_or, or_false, not_true_eq_false, not_false_eq_true, if_pos, if_neg]
    · refine key N 1 en (Nat.le_refl 1) (by omega) (by omega) ?_ k
      obtain ⟨x, xs, hx⟩ : ∃ x xs, X.2.2.2 = x :: xs := by
        cases hx : X.2.2.2 with
        | nil => simp [hx] at h0
        | cons x xs => exact ⟨x, xs, rfl⟩
      rw [hx] at h3 ⊢
      exact h3
  unfold f_X3_putInOrder
  obtain ⟨en', q1, q2⟩ := key2 (fun e => if oob (iN A.length) 62 then none else lt (upd so (iN A.length).toNatClampNeg 1) (fun t => some (e, t)))
  refine ⟨en', upd so A.length (iN 1), ?_, ?_⟩
  · rw [e0]
    simp only [show A.length < A.length + B.length + 1 from by omega, if_true, bnd_some, show ((1 : Int32) = 0) = False from eq_false (by decide), if_false]
    rw [e3, show iN A.length + 1 = iN (A.length + 1) from iN_add _ 1, e5, bnd_some, bnd_some, some_lt, some_jn, show iN (flat A).length + 1 = iN ((flat A).length + 1) from iN_add _ 1, q1]
    simp (disch := omega) only [Nat.add_zero, iN_lit, iN_lt, iN_le, iN_eq, iN_add, iN_mul, iN_sub, iN_nat, iN_div, iN_mod, iN_pred', n1_lt, n1_le, n1_ne, n1_ne', n1_nle, n1_nlt, n1_eq, oobN, some_lt, some_jn, bnd_some, Bool.false_eq_true, if_true, if_false, ite_true, ite_false, ↓reduceIte, ltT, ltF, leT, leF, eqT, eqF, true_and, and_true, false_and, and_false, true_or, or_true, false_or, or_false, not_true_eq_false, not_false_eq_true, if_pos, if_neg]
  · show IX _ _ _ _ _ _ _ (A ++ ((X.1, X.2.1, 1, isort K X.2.2.2) : Pc) :: B)
    refine IX_app.mpr ⟨rfl, ?_, q2, h4, h5, ⟨?_, upd_self _ _ _, ?_⟩, h7.1, h7.2.1, ?_⟩
    · simp only [isort_len]
    · refine h6.1.congr (fun j h1 h2 => upd_ne ?_)
      simp at h2; omega
    · exact h6.2.2.congr (fun j h1 h2 => upd_ne (by omega))
    · simp only [isort_len]; exact h7.2.2
theorem c_warm {p : Nat} (h : IX sz pc en bo he so st P) (hz : SZ n P) (hp : p < P.length) :
    ∃ he', f_X3_warm pc he (iN p) = some he' ∧ IX sz pc en bo he' so st (warS p P) := by
  have hl := hz.len
  obtain ⟨A, X, B, rfl, rfl⟩ := split_at hp
  obtain ⟨rfl, rfl, h3, h4, h5, h6, h7⟩ := IX_app.mp h
  unfold warS
  rw [mdp_app]
  simp only [List.length_append, List.length_cons] at hl
  have e0 := c_has (P := A.length + B.length + 1) (p := A.length) (by omega) (by omega)
  refine ⟨upd he A.length (iN (X.2.1 + 1)), ?_, ?_⟩
  · unfold f_X3_warm
    have := h5.2.1
    rw [e0]
    simp (disch := omega) only [Nat.add_zero, iN_lit, iN_lt, iN_le, iN_eq, iN_add, iN_mul, iN_sub, iN_nat, iN_div, iN_mod, iN_pred', n1_lt, n1_le, n1_ne, n1_ne', n1_nle, n1_nlt, n1_eq, oobN, some_lt, some_jn, bnd_some, Bool.false_eq_true, if_true, if_false, ite_true, ite_false, ↓reduceIte, ltT, ltF, leT, leF, eqT, eqF, true_and, and_true, false_and, and_false, true_or, or_true, false_or, or_false, not_true_eq_false, not_false_eq_true, if_pos, if_neg, this]
  · show IX _ _ _ _ _ _ _ (A ++ ((X.1, X.2.1 + 1, X.2.2.1, X.2.2.2) : Pc) :: B)
    refine IX_app.mpr ⟨rfl, rfl, h3, h4, ⟨?_, upd_self _ _ _, ?_⟩, h6, h7⟩
    · refine h5.1.congr (fun j h1 h2 => upd_ne ?_)
      simp at h2; omega
    · exact h5.2.2.congr (fun j h1 h2 => upd_ne (by omega))
end WR
