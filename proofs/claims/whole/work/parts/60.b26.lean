/-- is a piece to be sorted -/
def hotP (W : Nat → Nat) (P : List Pc) (p : Nat) : Bool := decide (soL P p = 0 ∧ W 0 ≤ htL P p ∧ 2 ≤ lnL P p ∧ lnL P p ≤ W 1)
def shG (K W : Nat → Nat) (f : Nat) (x : List Pc × Nat × Nat) (j : Nat) : List Pc × Nat × Nat :=
  if hotP W x.1 (f + j) = true then (srtS K (f + j) x.1, x.2.1 + lnL x.1 (f + j) * lgS (lnL x.1 (f + j)), x.2.2 + 1) else x
def shS (K W : Nat → Nat) (P : List Pc) (f k : Nat) : List Pc × Nat × Nat := pfi (shG K W f) (P, 0, 0) k
theorem sh_ok {n : Nat} {K W : Nat → Nat} {P : List Pc} {f : Nat} (h : PI n K P) : ∀ k, f + k ≤ P.length →
    PI n K (shS K W P f k).1 ∧ hsum (shS K W P f k).1 = hsum P ∧ (shS K W P f k).1.length = P.length ∧ (shS K W P f k).1.map (fun X : Pc => X.1) = P.map (fun X : Pc => X.1) ∧ (flat (shS K W P f k).1).Perm (flat P) := by
  intro k
  induction k with
  | zero => intro _; exact ⟨h, rfl, rfl, rfl, List.Perm.refl _⟩
  | succ k ih =>
    intro h1
    obtain ⟨q1, q2, q3, q4, q5⟩ := ih (by omega)
    have e : shS K W P f (k + 1) = shG K W f (shS K W P f k) k := rfl
    rw [e]
    unfold shG
    split
    · obtain ⟨w1, w2, w3, w4, w5⟩ := PI_srt (p := f + k) q1 (by omega)
      exact ⟨w1, by rw [w2, q2], by rw [w4, q3], by rw [w5, q4], w3.trans q5⟩
    · exact ⟨q1, q2, q3, q4, q5⟩
def drpN (P : List Pc) (k : Nat) : List Pc := pfi (fun Q _ => jnS (colS Q) Q) P k
theorem col_lt {P : List Pc} (h2 : 2 ≤ P.length) : colS P + 1 < P.length := by
  have : ∀ e, e ≤ P.length - 2 → pfi (colG P) 0 e + 1 < P.length := by
    intro e
    induction e with
    | zero => intro _; show 0 + 1 < _; omega
    | succ e ih =>
      intro he
      have := ih (by omega)
      show colG P (pfi (colG P) 0 e) e + 1 < _
      generalize pfi (colG P) 0 e = b at *
      unfold colG; split <;> omega
  exact this _ (Nat.le_refl _)
theorem drp_ok {n : Nat} {K : Nat → Nat} {P : List Pc} (h : PI n K P) : ∀ k, k + 1 ≤ P.length →
    PI n K (drpN P k) ∧ hsum (drpN P k) = hsum P ∧ (drpN P k).length + k = P.length ∧ flat (drpN P k) = flat P := by
  intro k
  induction k with
  | zero => intro _; exact ⟨h, rfl, rfl, rfl⟩
  | succ k ih =>
    intro h1
    obtain ⟨q1, q2, q3, q4⟩ := ih (by omega)
    obtain ⟨w1, w2, w3, w4⟩ := PI_jn (p := colS (drpN P k)) q1 (col_lt (by omega))
    have e : drpN P (k + 1) = jnS (colS (drpN P k)) (drpN P k) := rfl
    rw [e]
    exact ⟨w1, by rw [w2, q2], by omega, by rw [w3, q4]⟩
section SH
variable {n N : Nat} {sz pc : Int32} {en bo he so st ky ss vs nu se : Nat → Int32} {P : List Pc} {K S W : Nat → Nat} {V : Nat → Int32} {a mo : Nat → Int32} {lo hi f e : Nat} {un : Int32}
theorem ln_le (hz : SZ n P) {p : Nat} (hp : p < P.length) : P[p].2.2.2.length ≤ 120 := by
  have h5 := sp_succ hp; have h6 := sp_le P (p + 1); have h7 := hz.fl; omega
theorem c_isToSort {p : Nat} (h : IX sz pc en bo he so st P) (hz : SZ n P) (hse : SE se W) (hp : p < P.length) : f_X2_isToSort sz pc he so st se (iN p) = some (if hotP W P p = true then 1 else 0) := by
  have e1 := c_sizeOf h hz hp
  have e2 := c_isSorted h hz hp
  have e3 := c_heatOf h hz hp
  have e4 := c_setting (w := 0) hse (by omega)
  have e5 := c_setting (w := 1) hse (by omega)
  have w0 := (hse 0 (by omega)).2; have w1 := (hse 1 (by omega)).2
  have h1 := ht_lt hz hp; have h2 := ln_le hz hp; have h3 := hz.so _ (List.getElem_mem hp)
  unfold f_X2_isToSort hotP
  rw [soL_eq hp, htL_eq hp, lnL_eq hp]
  generalize P[p].2.2.2.length = x1 at *
  generalize P[p].2.1 = x2 at *
  generalize P[p].2.2.1 = x3 at *
  simp only [decide_eq_true_eq]
  by_cases a1 : x3 = 0
  · by_cases a2 : W 0 ≤ x2
    · by_cases a3 : 2 ≤ x1
      · by_cases a4 : x1 ≤ W 1
        · rw [if_pos ⟨a1, a2, a3, a4⟩]; simp (disch := omega) only [Nat.add_zero, iN_lit, iN_lt, iN_le, iN_eq, iN_add, iN_mul, iN_sub, iN_nat, iN_div, iN_mod, iN_pred', n1_lt, n1_le, n1_ne, n1_ne', n1_nle, n1_nlt, n1_eq, oobN, some_lt, some_jn, bnd_some, Bool.false_eq_true, if_true, if_false, ite_true, ite_false, ↓reduceIte, ltT, ltF, leT, leF, eqT, eqF, true_and, and_true, false_and, and_false, true_or, or_true, false_or, or_false, not_true_eq_false, not_false_eq_true, if_pos, if_neg, e1, e2, e3, e4, e5]
        · rw [if_neg (fun q => a4 q.2.2.2)]; simp (disch := omega) only [Nat.add_zero, iN_lit, iN_lt, iN_le, iN_eq, iN_add, iN_mul, iN_sub, iN_nat, iN_div, iN_mod, iN_pred', n1_lt, n1_le, n1_ne, n1_ne', n1_nle, n1_nlt, n1_eq, oobN, some_lt, some_jn, bnd_some, Bool.false_eq_true, if_true, if_false, ite_true, ite_false, ↓reduceIte, ltT, ltF, leT, leF, eqT, eqF, true_and, and_true, false_and, and_false, true_or, or_true, false_or, or_false, not_true_eq_false, not_false_eq_true, if_pos, if_neg, e1, e2, e3, e4, e5]
      · rw [if_neg (fun q => a3 q.2.2.1)]; simp (disch := omega) only [Nat.add_zero, iN_lit, iN_lt, iN_le, iN_eq, iN_add, iN_mul, iN_sub, iN_nat, iN_div, iN_mod, iN_pred', n1_lt, n1_le, n1_ne, n1_ne', n1_nle, n1_nlt, n1_eq, oobN, some_lt, some_jn, bnd_some, Bool.false_eq_true, if_true, if_false, ite_true, ite_false, ↓reduceIte, ltT, ltF, leT, leF, eqT, eqF, true_and, and_true, false_and, and_false, true_or, or_true, false_or, or_false, not_true_eq_false, not_false_eq_true, if_pos, if_neg, e1, e2, e3, e4, e5]
    · rw [if_neg (fun q => a2 q.2.1)]; simp (disch := omega) only [Nat.add_zero, iN_lit, iN_lt, iN_le, iN_eq, iN_add, iN_mul, iN_sub, iN_nat, iN_div, iN_mod, iN_pred', n1_lt, n1_le, n1_ne, n1_ne', n1_nle, n1_nlt, n1_eq, oobN, some_lt, some_jn, bnd_some, Bool.false_eq_true, if_true, if_false, ite_true, ite_false, ↓reduceIte, ltT, ltF, leT, leF, eqT, eqF, true_and, and_true, false_and, and_false, true_or, or_true, false_or, or_false, not_true_eq_false, not_false_eq_true, if_pos, if_neg, e1, e2, e3, e4, e5]
  · rw [if_neg (fun q => a1 q.1)]; simp (disch := omega) only [Nat.add_zero, iN_lit, iN_lt, iN_le, iN_eq, iN_add, iN_mul, iN_sub, iN_nat, iN_div, iN_mod, iN_pred', n1_lt, n1_le, n1_ne, n1_ne', n1_nle, n1_nlt, n1_eq, oobN, some_lt, some_jn, bnd_some, Bool.false_eq_true, if_true, if_false, ite_true, ite_false, ↓reduceIte, ltT, ltF, leT, leF, eqT, eqF, true_and, and_true, false_and, and_false, true_or, or_true, false_or, or_false, not_true_eq_false, not_false_eq_true, if_pos, if_neg, e1, e2]
theorem c_sortHot (h : IX sz pc en bo he so st P) (hp : PI n K P) (hk : KY n ky K) (hse : SE se W) (hfe : f ≤ e) (he1 : e ≤ P.length) (hN : 1000 < N) :
    ∃ en' so', f_X2_sortHotPieces N nu sz pc en he so st se ky (iN f) (iN e) = some (iN (shS K W P f (e - f)).2.1, upd nu 7 (iN (shS K W P f (e - f)).2.2), en', so') ∧ IX sz pc en' bo he so' st (shS K W P f (e - f)).1 := by
  have hz := hp.1
  have hn := hz.nn; have hl := hz.len
  have key : ∀ m i en so, f + i ≤ e → e - (f + i) < m → IX sz pc en bo he so st (shS K W P f i).1 → ∀ k : Int32 → Int32 → (Nat → Int32) → (Nat → Int32) → Option (Int32 × (Nat → Int32) × (Nat → Int32) × (Nat → Int32)),
      ∃ en' so', f_X2_sortHotPieces_8 N sz pc he st se ky (iN e) k m (iN (shS K W P f i).2.1) (iN (shS K W P f i).2.2) (iN (f + i)) en so = k (iN (shS K W P f (e - f)).2.1) (iN (shS K W P f (e - f)).2.2) en' so' ∧ IX sz pc en' bo he so' st (shS K W P f (e - f)).1 := by
    intro m
    induction m with
    | zero => intro i en so h1 h2; omega
    | succ m ih =>
      intro i en so h1 h2 hI k
      rw [f_X2_sortHotPieces_8.eq_2]
      by_cases h3 : f + i = e
      · have e0 : e - f = i := by omega
        rw [e0]
        refine ⟨en, so, ?_, hI⟩
        rw [h3]; simp (disch := omega) only [Nat.add_zero, iN_lit, iN_lt, iN_le, iN_eq, iN_add, iN_mul, iN_sub, iN_nat, iN_div, iN_mod, iN_pred', n1_lt, n1_le, n1_ne, n1_ne', n1_nle, n1_nlt, n1_eq, oobN, some_lt, some_jn, bnd_some, Bool.false_eq_true, if_true, if_false, ite_true, ite_false, ↓reduceIte, ltT, ltF, leT, leF, eqT, eqF, true_and, and_true, false_and, and_false, true_or, or_true, false_or, or_false, not_true_eq_false, not_false_eq_true, if_pos, if_neg]
      · obtain ⟨q1, q2, q3, q4, q5⟩ := sh_ok (W := W) (f := f) hp i (by omega)
        have hlt : f + i < (shS K W P f i).1.length := by omega
        have e1 := c_isToSort hI q1.1 hse hlt
        have e2 := c_sizeOf hI q1.1 hlt
        have e3 := ln_le q1.1 hlt
        have e4 := c_powerFor (N := N) (v := (shS K W P f i).1[f + i].2.2.2.length) (by omega) hN
        have e9 : shS K W P f (i + 1) = shG K W f (shS K W P f i) i := rfl
        have ih := fun en so => ih (i + 1) en so (by omega) (by omega)
        rw [e9] at ih
        unfold shG at ih
        by_cases h5 : hotP W (shS K W P f i).1 (f + i) = true
        · simp only [if_pos h5] at ih e1
          obtain ⟨en2, so2, w1, w2⟩ := c_putInOrder hI q1.1 hk hN hlt
          obtain ⟨en3, so3, u1, u2⟩ := ih en2 so2 w2 k
          rw [lnL_eq hlt] at u1
          refine ⟨en3, so3, ?_, u2⟩
          have e10 : ((1 : Int32) = 0) = False := eq_false (by decide)
          rw [e1, e2]
          simp only [bnd_some, e10, if_false, e4, some_lt, w1, bnd2]
          simp (disch := omega) only [Nat.add_zero, iN_lit, iN_lt, iN_le, iN_eq, iN_add, iN_mul, iN_sub, iN_nat, iN_div, iN_mod, iN_pred', n1_lt, n1_le, n1_ne, n1_ne', n1_nle, n1_nlt, n1_eq, oobN, some_lt, some_jn, bnd_some, Bool.false_eq_true, if_true, if_false, ite_true, ite_false, ↓reduceIte, ltT, ltF, leT, leF, eqT, eqF, true_and, and_true, false_and, and_false, true_or, or_true, false_or, or_false, not_true_eq_false, not_false_eq_true, if_pos, if_neg]
          exact u1
        · simp only [if_neg h5] at ih e1
          obtain ⟨en3, so3, u1, u2⟩ := ih en so hI k
          refine ⟨en3, so3, ?_, u2⟩
          rw [e1]
          simp (disch := omega) only [Nat.add_zero, iN_lit, iN_lt, iN_le, iN_eq, iN_add, iN_mul, iN_sub, iN_nat, iN_div, iN_mod, iN_pred', n1_lt, n1_le, n1_ne, n1_ne', n1_nle, n1_nlt, n1_eq, oobN, some_lt, some_jn, bnd_some, Bool.false_eq_true, if_true, if_false, ite_true, ite_false, ↓reduceIte, ltT, ltF, leT, leF, eqT, eqF, true_and, and_true, false_and, and_false, true_or, or_true, false_or, or_false, not_true_eq_false, not_false_eq_true, if_pos, if_neg]
          exact u1
  obtain ⟨en', so', u1, u2⟩ := key N 0 en so (by omega) (by omega) h (fun x3_63_1 x4_63_2 t_index_entries_63_3 t_index_sorted_63_4 => bnd (f_X0_putNumber nu 7 x4_63_2) (fun t_answer_numbers_71_6 => some (x3_63_1, t_answer_numbers_71_6, t_index_entries_63_3, t_index_sorted_63_4)))
  refine ⟨en', so', ?_, u2⟩
  unfold f_X2_sortHotPieces
  rw [some_jn]
  refine u1.trans ?_
  have e7 : f_X0_putNumber nu 7 (iN (shS K W P f (e - f)).2.2) = some (upd nu 7 (iN (shS K W P f (e - f)).2.2)) := c_putNumber (w := 7) (by omega)
  rw [e7, bnd_some]
theorem c_dropBounds (h : IX sz pc en bo he so st P) (hp : PI n K P) (hse : SE se W) (hW : 1 ≤ W 2) (hN : 1000 < N) :
    ∃ pc' bo' he' so' st', f_X2_dropBounds N nu pc bo he so st se = some (upd nu 8 (iN (P.length - W 2)), pc', bo', he', so', st') ∧ IX sz pc' en bo' he' so' st' (drpN P (P.length - W 2)) := by
  have hz := hp.1
  have hl := hz.len; have h1 := hz.one
  have w2 := (hse 2 (by omega)).2
  have key : ∀ m i pc bo he so st, i ≤ P.length - W 2 → P.length - W 2 - i < m → IX sz pc en bo he so st (drpN P i) → ∀ k : Int32 → (Nat → Int32) → (Nat → Int32) → (Nat → Int32) → (Nat → Int32) → Option ((Nat → Int32) × Int32 × (Nat → Int32) × (Nat → Int32) × (Nat → Int32) × (Nat → Int32)),
      ∃ pc' bo' he' so' st', f_X2_dropBounds_20 N (iN (P.length - W 2)) k m (iN i) pc bo he so st = k pc' bo' he' so' st' ∧ IX sz pc' en bo' he' so' st' (drpN P (P.length - W 2)) := by
    intro m
    induction m with
    | zero => intro i pc bo he so st h1 h2; omega
    | succ m ih =>
      intro i pc bo he so st h1 h2 hI k
      rw [f_X2_dropBounds_20.eq_2]
      by_cases h3 : i = P.length - W 2
      · subst h3
        refine ⟨pc, bo, he, so, st, ?_, hI⟩
        simp (disch := omega) only [Nat.add_zero, iN_lit, iN_lt, iN_le, iN_eq, iN_add, iN_mul, iN_sub, iN_nat, iN_div, iN_mod, iN_pred', n1_lt, n1_le, n1_ne, n1_ne', n1_nle, n1_nlt, n1_eq, oobN, some_lt, some_jn, bnd_some, Bool.false_eq_true, if_true, if_false, ite_true, ite_false, ↓reduceIte, ltT, ltF, leT, leF, eqT, eqF, true_and, and_true, false_and, and_false, true_or, or_true, false_or, or_false, not_true_eq_false, not_false_eq_true, if_pos, if_neg]
      · obtain ⟨q1, q2, q3, q4⟩ := drp_ok hp i (by omega)
        have e1 := c_coldest (N := N) hI q1.1 hN (by omega)
        obtain ⟨pc2, bo2, he2, so2, st2, w1, w2⟩ := c_joinNext (N := N) hI q1.1 hN e1.2
        obtain ⟨pc3, bo3, he3, so3, st3, u1, u2⟩ := ih (i + 1) pc2 bo2 he2 so2 st2 (by omega) (by omega) w2 k
        refine ⟨pc3, bo3, he3, so3, st3, ?_, u2⟩
        have e2 := e1.1
        simp (disch := omega) only [Nat.add_zero, iN_lit, iN_lt, iN_le, iN_eq, iN_add, iN_mul, iN_sub, iN_nat, iN_div, iN_mod, iN_pred', n1_lt, n1_le, n1_ne, n1_ne', n1_nle, n1_nlt, n1_eq, oobN, some_lt, some_jn, bnd_some, Bool.false_eq_true, if_true, if_false, ite_true, ite_false, ↓reduceIte, ltT, ltF, leT, leF, eqT, eqF, true_and, and_true, false_and, and_false, true_or, or_true, false_or, or_false, not_true_eq_false, not_false_eq_true, if_pos, if_neg, e2, w1, bnd5]
        exact u1
  obtain ⟨pc', bo', he', so', st', u1, u2⟩ := key N 0 pc bo he so st (by omega) (by omega) h (fun t_index_pieces_45_4 t_index_bounds_45_5 t_index_heats_45_6 t_index_sorted_45_7 t_index_starts_45_8 => bnd (f_X0_putNumber nu 8 (iN (P.length - W 2))) (fun t_answer_numbers_52_10 => some (t_answer_numbers_52_10, t_index_pieces_45_4, t_index_bounds_45_5, t_index_heats_45_6, t_index_sorted_45_7, t_index_starts_45_8)))
  refine ⟨pc', bo', he', so', st', ?_, u2⟩
  have e5 := c_setting (w := 2) hse (by omega)
  have e6 : (if iN P.length - iN (W 2) < 0 then 0 else iN P.length - iN (W 2)) = iN (P.length - W 2) := by
    by_cases hle : P.length ≤ W 2
    · rw [iN_subn hle, show P.length - W 2 = 0 by omega]
      by_cases h0 : W 2 - P.length = 0
      · rw [h0]; rfl
      · rw [if_pos]
        · rfl
        · rw [Int32.lt_iff_toInt_lt, Int32.toInt_neg, iN_toInt (by omega), Int.bmod_eq_of_le (by omega) (by omega), show (0 : Int32).toInt = 0 from rfl]; omega
    · rw [iN_sub (by omega), if_neg (show ¬ iN (P.length - W 2) < 0 from iN_nneg (by omega))]
  have e7 : f_X0_putNumber nu 8 (iN (P.length - W 2)) = some (upd nu 8 (iN (P.length - W 2))) := c_putNumber (w := 8) (by omega)
  unfold f_X2_dropBounds
  rw [show (2 : Int32) = iN 2 from rfl, e5, bnd_some, h.hp, e6, some_lt, some_jn, ← h.hp]
  refine u1.trans ?_
  rw [e7, bnd_some]
theorem r_sortHot (h : RX a P) (hp : PI n K P) (hk : KY n (fun r => a (20 + r)) K) (hg : RG P lo hi f e) (hlo : lo ≤ 10000) (hhi : hi ≤ 10000) (h1 : 1 ≤ hi) (h4 : a 4 = iN (W 0)) (h5 : a 5 = iN (W 1)) (w0 : W 0 ≤ 120) (w1 : W 1 ≤ 120) (h17 : a 17 = iN 0) (hN : 1000 < N) :
    ∃ un' a' mo', f_X8_sortsHot N un a mo (iN lo) (iN hi) = some (iN (shS K W P f (e - f)).2.1, un', a', mo') ∧ RX a' (shS K W P f (e - f)).1 ∧ a' 17 = iN (shS K W P f (e - f)).2.2 ∧ ∀ j, ¬ idxR j → j ≠ 17 → a' j = a j := by
  have hz := hp.1
  have hn := hz.nn; have hl := hz.len
  obtain ⟨g1, g2, g3⟩ := hg
  have key : ∀ m p un a mo, p ≤ P.length → P.length - p < m → RX a (shS K W P f (min p e - f)).1 → KY n (fun r => a (20 + r)) K → a 4 = iN (W 0) → a 5 = iN (W 1) → a 17 = iN (shS K W P f (min p e - f)).2.2 →
      ∃ un' a' mo', f_X8_sortsHot_5 N (iN lo) (iN hi) (fun x3_119_1 t_unused_119_2 t_a_119_3 t_moved_119_4 => some (x3_119_1, t_unused_119_2, t_a_119_3, t_moved_119_4)) m (iN (shS K W P f (min p e - f)).2.1) (iN p) un a mo = some (iN (shS K W P f (e - f)).2.1, un', a', mo') ∧ RX a' (shS K W P f (e - f)).1 ∧ a' 17 = iN (shS K W P f (e - f)).2.2 ∧ ∀ j, ¬ idxR j → j ≠ 17 → a' j = a j := by
    intro m
    induction m with
    | zero => intro p un a mo hp1 hp2; omega
    | succ m ih =>
      intro p un a mo hp1 hp2 hR hk h4 h5 h17
      generalize hcd : min p e - f = c at hR h17 ⊢
      obtain ⟨q1, q2, q3, q4, q5⟩ := sh_ok (W := W) (f := f) hp c (by omega)
      have hC := hR.hp
      rw [q3] at hC
      rw [f_X8_sortsHot_5.eq_2, hC]
      by_cases h3 : p = P.length
      · subst h3
        have e0 : c = e - f := by omega
        subst e0
        refine ⟨un, a, mo, ?_, hR, h17, fun _ _ _ => rfl⟩
        simp (disch := omega) only [Nat.add_zero, iN_lit, iN_lt, iN_le, iN_eq, iN_add, iN_mul, iN_sub, iN_nat, iN_div, iN_mod, iN_pred', n1_lt, n1_le, n1_ne, n1_ne', n1_nle, n1_nlt, n1_eq, oobN, some_lt, some_jn, bnd_some, Bool.false_eq_true, if_true, if_false, ite_true, ite_false, ↓reduceIte, ltT, ltF, leT, leF, eqT, eqF, true_and, and_true, false_and, and_false, true_or, or_true, false_or, or_false, not_true_eq_false, not_false_eq_true, if_pos, if_neg]
      · have hpl : p < (shS K W P f c).1.length := by omega
        have e1 := r_isRead (p := p) hR q1.1 hpl hlo hhi h1
        have e2 : ((shS K W P f c).1[p]).1 = (P[p]'(by omega)).1 := by
          have : ((shS K W P f c).1.map (fun X : Pc => X.1))[p]'(by simp; omega) = (P.map (fun X : Pc => X.1))[p]'(by simp; omega) := by simp only [q4]
          simpa using this
        rw [e2] at e1
        have g4 := g3 p (by omega)
        have e3 := r_mn hR q1.1 hpl
        have e4 := r_so hR q1.1 hpl
        have e5 := r_ht hR q1.1 hpl
        have e3' : f_X8_of a (iN p) (iN 1) = _ := e3
        have e4' : f_X8_of a (iN p) (iN 3) = _ := e4
        have e5' : f_X8_of a (iN p) (iN 2) = _ := e5
        have b1 := ht_lt q1.1 hpl; have b2 := ln_le q1.1 hpl; have b3 := q1.1.so _ (List.getElem_mem hpl)
        by_cases hr : f ≤ p ∧ p < e
        · rw [if_pos (g4.mpr hr)] at e1
          have e10 : ((1 : Int32) = iN 0) = False := eq_false (by decide)
          have hc2 : min (p + 1) e - f = c + 1 := by omega
          have hfp : f + c = p := by omega
          have e9 : shS K W P f (c + 1) = shG K W f (shS K W P f c) c := rfl
          have e11 := r_isIn (v := (shS K W P f c).1[p].2.2.2.length) (lo := 2) (hi := W 1) (by omega) (by omega) (by omega)
          have e12 := r_logOf (N := N) (v := (shS K W P f c).1[p].2.2.2.length) (by omega) hN
          have ih := fun un a mo => ih (p + 1) un a mo (by omega) (by omega)
          rw [hc2, e9] at ih
          unfold shG at ih
          rw [hfp] at ih
          by_cases hh : hotP W (shS K W P f c).1 p = true
          · simp only [if_pos hh] at ih
            have hh2 := hh
            unfold hotP at hh2
            simp only [decide_eq_true_eq] at hh2
            rw [soL_eq hpl, htL_eq hpl, lnL_eq hpl] at hh2
            rw [lnL_eq hpl] at ih
            obtain ⟨a1, mo1, w1, w2, w3⟩ := r_sorts (mo := mo) hR q1.1 hk hN hpl
            obtain ⟨x1, x2, x3, x4⟩ := hh2
            rw [if_pos ⟨x3, x4⟩] at e11
            rw [x1] at e4'
            have f17 : a1 17 = iN (shS K W P f c).2.2 := by rw [w3 17 (by unfold idxR; omega), h17]
            have u1 := (PI_srt (p := p) q1 hpl).1.1
            obtain ⟨un', a', mo', z1, z2, z3, z4⟩ := ih (iN (chgS K (shS K W P f c).1[p].2.2.2)) (upd a1 17 (iN ((shS K W P f c).2.2 + 1))) mo1 (RX.frame w2 u1 (fun j hj => upd_ne (by unfold idxR at hj; omega)))
              (fun x hx => ⟨by show upd a1 17 _ (20 + x) = _; rw [upd_ne (by omega), w3 _ (by unfold idxR; omega)]; exact (hk x hx).1, (hk x hx).2⟩)
              (by rw [upd_ne (by omega), w3 _ (by unfold idxR; omega), h4]) (by rw [upd_ne (by omega), w3 _ (by unfold idxR; omega), h5]) (upd_self _ _ _)
            refine ⟨un', a', mo', ?_, z2, z3, fun j hj1 hj2 => by rw [z4 j hj1 hj2, upd_ne hj2, w3 j hj1]⟩
            generalize (shS K W P f c).1[p].2.2.2.length = L at *
            generalize (shS K W P f c).1[p].2.1 = H at *
            rw [e1]
            simp (disch := omega) only [Nat.add_zero, iN_lit, iN_lt, iN_le, iN_eq, iN_add, iN_mul, iN_sub, iN_nat, iN_div, iN_mod, iN_pred', n1_lt, n1_le, n1_ne, n1_ne', n1_nle, n1_nlt, n1_eq, oobN, some_lt, some_jn, bnd_some, Bool.false_eq_true, if_true, if_false, ite_true, ite_false, ↓reduceIte, ltT, ltF, leT, leF, eqT, eqF, true_and, and_true, false_and, and_false, true_or, or_true, false_or, or_false, not_true_eq_false, not_false_eq_true, if_pos, if_neg, e3', e4', e5', e10, e11, h4, h5, w1, bnd3, f17, e12]
            exact z1
          · simp only [if_neg hh] at ih
            have hh2 : ¬ ((shS K W P f c).1[p].2.2.1 = 0 ∧ W 0 ≤ (shS K W P f c).1[p].2.1 ∧ 2 ≤ (shS K W P f c).1[p].2.2.2.length ∧ (shS K W P f c).1[p].2.2.2.length ≤ W 1) := by
              intro q; apply hh; unfold hotP; simp only [decide_eq_true_eq]; rw [soL_eq hpl, htL_eq hpl, lnL_eq hpl]; exact q
            obtain ⟨un', a', mo', z1, z2, z3, z4⟩ := ih un a mo hR hk h4 h5 h17
            refine ⟨un', a', mo', ?_, z2, z3, z4⟩
            generalize (shS K W P f c).1[p].2.2.2.length = L at *
            generalize (shS K W P f c).1[p].2.1 = H at *
            generalize (shS K W P f c).1[p].2.2.1 = G at *
            rw [e1]
            by_cases x1 : G = 0
            · by_cases x2 : W 0 ≤ H
              · rw [if_neg (fun q => hh2 ⟨x1, x2, q⟩)] at e11
                simp (disch := omega) only [Nat.add_zero, iN_lit, iN_lt, iN_le, iN_eq, iN_add, iN_mul, iN_sub, iN_nat, iN_div, iN_mod, iN_pred', n1_lt, n1_le, n1_ne, n1_ne', n1_nle, n1_nlt, n1_eq, oobN, some_lt, some_jn, bnd_some, Bool.false_eq_true, if_true, if_false, ite_true, ite_false, ↓reduceIte, ltT, ltF, leT, leF, eqT, eqF, true_and, and_true, false_and, and_false, true_or, or_true, false_or, or_false, not_true_eq_false, not_false_eq_true, if_pos, if_neg, e3', e4', e5', e10, e11, h4, h5]
                exact z1
              · simp (disch := omega) only [Nat.add_zero, iN_lit, iN_lt, iN_le, iN_eq, iN_add, iN_mul, iN_sub, iN_nat, iN_div, iN_mod, iN_pred', n1_lt, n1_le, n1_ne, n1_ne', n1_nle, n1_nlt, n1_eq, oobN, some_lt, some_jn, bnd_some, Bool.false_eq_true, if_true, if_false, ite_true, ite_false, ↓reduceIte, ltT, ltF, leT, leF, eqT, eqF, true_and, and_true, false_and, and_false, true_or, or_true, false_or, or_false, not_true_eq_false, not_false_eq_true, if_pos, if_neg, e3', e4', e5', e10, h4]
                exact z1
            · simp (disch := omega) only [Nat.add_zero, iN_lit, iN_lt, iN_le, iN_eq, iN_add, iN_mul, iN_sub, iN_nat, iN_div, iN_mod, iN_pred', n1_lt, n1_le, n1_ne, n1_ne', n1_nle, n1_nlt, n1_eq, oobN, some_lt, some_jn, bnd_some, Bool.false_eq_true, if_true, if_false, ite_true, ite_false, ↓reduceIte, ltT, ltF, leT, leF, eqT, eqF, true_and, and_true, false_and, and_false, true_or, or_true, false_or, or_false, not_true_eq_false, not_false_eq_true, if_pos, if_neg, e3', e4', e10]
              exact z1
        · rw [if_neg (fun hx => hr (g4.mp hx))] at e1
          have hc : min (p + 1) e - f = c := by omega
          obtain ⟨un', a', mo', z1, z2, z3, z4⟩ := ih (p + 1) un a mo (by omega) (by omega) (by rw [hc]; exact hR) hk h4 h5 (by rw [hc]; exact h17)
          rw [hc] at z1
          refine ⟨un', a', mo', ?_, z2, z3, z4⟩
          rw [e1]
          simp (disch := omega) only [Nat.add_zero, iN_lit, iN_lt, iN_le, iN_eq, iN_add, iN_mul, iN_sub, iN_nat, iN_div, iN_mod, iN_pred', n1_lt, n1_le, n1_ne, n1_ne', n1_nle, n1_nlt, n1_eq, oobN, some_lt, some_jn, bnd_some, Bool.false_eq_true, if_true, if_false, ite_true, ite_false, ↓reduceIte, ltT, ltF, leT, leF, eqT, eqF, true_and, and_true, false_and, and_false, true_or, or_true, false_or, or_false, not_true_eq_false, not_false_eq_true, if_pos, if_neg, e3']
          exact z1
  have h0 : min 0 e - f = 0 := by omega
  have := key N 0 un a mo (Nat.zero_le _) (by omega) (by rw [h0]; exact h) hk h4 h5 (by rw [h0]; exact h17)
  rw [h0] at this
  obtain ⟨un', a', mo', z1, z2, z3, z4⟩ := this
  refine ⟨un', a', mo', ?_, z2, z3, z4⟩
  unfold f_X8_sortsHot
  rw [some_jn]
  exact z1
theorem r_dropLoop (h : RX a P) (hp : PI n K P) (h6 : a 6 = iN (W 2)) (hW : 1 ≤ W 2) (hW2 : W 2 ≤ 120) (h18 : a 18 = iN 0) (hN : 1000 < N) (k : (Nat → Int32) → Option (Int32 × (Nat → Int32) × (Nat → Int32))) :
    ∃ a', f_X8_queries_87 N k N a = k a' ∧ RX a' (drpN P (P.length - W 2)) ∧ a' 18 = iN (P.length - W 2) ∧ ∀ j, ¬ idxR j → j ≠ 18 → a' j = a j := by
  have hz := hp.1
  have hl := hz.len; have h1 := hz.one
  have key : ∀ m i a, i ≤ P.length - W 2 → P.length - W 2 - i < m → RX a (drpN P i) → a 6 = iN (W 2) → a 18 = iN i → ∃ a', f_X8_queries_87 N k m a = k a' ∧ RX a' (drpN P (P.length - W 2)) ∧ a' 18 = iN (P.length - W 2) ∧ ∀ j, ¬ idxR j → j ≠ 18 → a' j = a j := by
    intro m
    induction m with
    | zero => intro i a h1 h2; omega
    | succ m ih =>
      intro i a h1 h2 hR h6 h18
      obtain ⟨q1, q2, q3, q4⟩ := drp_ok hp i (by omega)
      have hC := hR.hp
      have hlen : (drpN P i).length = P.length - i := by omega
      rw [hlen] at hC
      rw [f_X8_queries_87.eq_2, hC, h6]
      by_cases h3 : i = P.length - W 2
      · subst h3
        refine ⟨a, ?_, hR, h18, fun _ _ _ => rfl⟩
        simp (disch := omega) only [Nat.add_zero, iN_lit, iN_lt, iN_le, iN_eq, iN_add, iN_mul, iN_sub, iN_nat, iN_div, iN_mod, iN_pred', n1_lt, n1_le, n1_ne, n1_ne', n1_nle, n1_nlt, n1_eq, oobN, some_lt, some_jn, bnd_some, Bool.false_eq_true, if_true, if_false, ite_true, ite_false, ↓reduceIte, ltT, ltF, leT, leF, eqT, eqF, true_and, and_true, false_and, and_false, true_or, or_true, false_or, or_false, not_true_eq_false, not_false_eq_true, if_pos, if_neg]
      · have e1 := r_coldest (N := N) hR q1.1 hN (by omega)
        obtain ⟨a1, w1, w2, w3⟩ := r_joins (N := N) hR q1.1 hN (col_lt (by omega))
        have u1 := (drp_ok hp (i + 1) (by omega)).1.1
        have f18 : a1 18 = iN i := by rw [w3 18 (by unfold idxR; omega), h18]
        obtain ⟨a', z1, z2, z3, z4⟩ := ih (i + 1) (upd a1 18 (iN (i + 1))) (by omega) (by omega) (RX.frame w2 u1 (fun j hj => upd_ne (by unfold idxR at hj; omega))) (by rw [upd_ne (by omega), w3 _ (by unfold idxR; omega), h6]) (upd_self _ _ _)
        refine ⟨a', ?_, z2, z3, fun j hj1 hj2 => by rw [z4 j hj1 hj2, upd_ne hj2, w3 j hj1]⟩
        simp (disch := omega) only [Nat.add_zero, iN_lit, iN_lt, iN_le, iN_eq, iN_add, iN_mul, iN_sub, iN_nat, iN_div, iN_mod, iN_pred', n1_lt, n1_le, n1_ne, n1_ne', n1_nle, n1_nlt, n1_eq, oobN, some_lt, some_jn, bnd_some, Bool.false_eq_true, if_true, if_false, ite_true, ite_false, ↓reduceIte, ltT, ltF, leT, leF, eqT, eqF, true_and, and_true, false_and, and_false, true_or, or_true, false_or, or_false, not_true_eq_false, not_false_eq_true, if_pos, if_neg, e1, w1, f18]
        exact z1
  exact key N 0 a (by omega) (by omega) h h6 h18
end SH
