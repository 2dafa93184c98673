section TXT
variable {N L len : Nat} {bb mf : Nat → Int32} {T : Nat → Nat}
theorem BY_t {x y : Int32} (h : BY x y) : ∃ t : Nat, t < 256 ∧ y = iN t ∧ x.toInt = if t < 128 then (t : Int) else (t : Int) - 256 := by
  obtain ⟨w, rfl, rfl⟩ := h
  refine ⟨w.toBitVec.toNat % 256, by omega, ?_, ?_⟩
  · rw [← Int32.toInt_inj, iN_toInt (by omega)]
    show (w &&& 255).toBitVec.toInt = _
    rw [Int32.toBitVec_and, BitVec.toInt_eq_toNat_cond, BitVec.toNat_and]
    have e : (255 : Int32).toBitVec.toNat = 2 ^ 8 - 1 := by decide
    rw [e, Nat.and_two_pow_sub_one_eq_mod, if_pos (by omega)]
  · rw [Int8.toInt_toInt32, Int32.toInt_toInt8]
    have e : w.toInt = w.toBitVec.toInt := rfl
    rw [e, BitVec.toInt_eq_toNat_cond, Int.bmod_def]
    have := w.toBitVec.isLt
    split <;> split <;> split <;> omega
/-- the text: both buffers hold the bytes T -/
def TX (len : Nat) (bb mf : Nat → Int32) (T : Nat → Nat) : Prop := len ≤ 900 ∧ ∀ j, j < len → T j < 256 ∧ mf j = iN (T j) ∧ (bb j).toInt = if T j < 128 then (T j : Int) else (T j : Int) - 256
theorem TX_of (h1 : len ≤ 900) (h2 : ∀ j, j < len → BY (bb j) (mf j)) : TX len bb mf (fun j => (mf j).toInt.toNat) := by
  refine ⟨h1, fun j hj => ?_⟩
  obtain ⟨t, q1, q2, q3⟩ := BY_t (h2 j hj)
  have e : (mf j).toInt.toNat = t := by rw [q2, iN_toInt (by omega)]; omega
  refine ⟨?_, ?_, ?_⟩
  · show (mf j).toInt.toNat < 256
    rw [e]; exact q1
  · show mf j = iN (mf j).toInt.toNat
    rw [e]; exact q2
  · show (bb j).toInt = if (mf j).toInt.toNat < 128 then (((mf j).toInt.toNat : Nat) : Int) else (((mf j).toInt.toNat : Nat) : Int) - 256
    rw [e]; exact q3
theorem x_eq {x : Int32} {t c : Nat} (h : x.toInt = if t < 128 then (t : Int) else (t : Int) - 256) (ht : t < 256) (hc : c < 128) : x = iN c ↔ t = c := by
  rw [← Int32.toInt_inj, iN_toInt (by omega), h]
  split <;> omega
theorem x_lt {x : Int32} {t c : Nat} (h : x.toInt = if t < 128 then (t : Int) else (t : Int) - 256) (ht : t < 256) (hc : c < 128) : x < iN c ↔ t < c ∨ 128 ≤ t := by
  rw [Int32.lt_iff_toInt_lt, iN_toInt (by omega), h]
  split <;> omega
theorem x_gt {x : Int32} {t c : Nat} (h : x.toInt = if t < 128 then (t : Int) else (t : Int) - 256) (ht : t < 256) (hc : c < 128) : iN c < x ↔ c < t ∧ t < 128 := by
  rw [Int32.lt_iff_toInt_lt, iN_toInt (by omega), h]
  split <;> omega
def runF (q : Nat → Bool) : Nat → Nat → Nat
  | 0, i => i
  | f + 1, i => if q i then runF q f (i + 1) else i
/-- where a run of such bytes ends -/
def runE (q : Nat → Bool) (L i : Nat) : Nat := runF q (L - i) i
theorem runE_end {q : Nat → Bool} {i : Nat} (h : L ≤ i) : runE q L i = i := by
  unfold runE; rw [show L - i = 0 by omega]; rfl
theorem runE_step {q : Nat → Bool} {i : Nat} (h : i < L) (hq : q i = true) : runE q L i = runE q L (i + 1) := by
  unfold runE
  obtain ⟨f, hf⟩ : ∃ f, L - i = f + 1 := ⟨L - i - 1, by omega⟩
  rw [hf, show L - (i + 1) = f by omega]
  simp only [runF, hq, if_true]
theorem runE_stop {q : Nat → Bool} {i : Nat} (hq : q i = false) : runE q L i = i := by
  unfold runE
  cases L - i with
  | zero => rfl
  | succ f => simp only [runF, hq, Bool.false_eq_true, if_false]
theorem runE_ge (q : Nat → Bool) (L : Nat) : ∀ f i, L - i = f → i ≤ runE q L i ∧ (i ≤ L → runE q L i ≤ L) := by
  intro f
  induction f with
  | zero => intro i h; rw [runE_end (by omega)]; omega
  | succ f ih =>
    intro i h
    cases hq : q i with
    | false => rw [runE_stop hq]; omega
    | true =>
      rw [runE_step (by omega) hq]
      have := ih (i + 1) (by omega)
      omega
def qS (T : Nat → Nat) (i : Nat) : Bool := T i == 32
def qL (T : Nat → Nat) (i : Nat) : Bool := decide (97 ≤ T i) && decide (T i ≤ 122)
def qG (T : Nat → Nat) (i : Nat) : Bool := decide (48 ≤ T i) && decide (T i ≤ 57)
theorem qS_t {i : Nat} : qS T i = true ↔ T i = 32 := by simp [qS]
theorem qL_t {i : Nat} : qL T i = true ↔ 97 ≤ T i ∧ T i ≤ 122 := by simp [qL]
theorem qG_t {i : Nat} : qG T i = true ↔ 48 ≤ T i ∧ T i ≤ 57 := by simp [qG]
theorem c_byteAt {i : Nat} (h : TX len bb mf T) (hi : i < len) : f_X1_byteAt (iN len) bb 900 (iN i) = some (bb i) := by
  have := h.1
  show (if iN i < 0 then some 0 else (if iN len ≤ iN i then some 0 else (if iN 900 ≤ iN i then some 0 else if oob (iN i) 900 then none else some (bb (iN i).toNatClampNeg)))) = _
  simp (disch := omega) only [Nat.add_zero, iN_lit, iN_lt, iN_le, iN_eq, iN_add, iN_mul, iN_sub, iN_nat, iN_div, iN_mod, iN_pred', n1_lt, n1_le, n1_ne, n1_ne', n1_nle, n1_nlt, n1_eq, oobN, some_lt, some_jn, bnd_some, Bool.false_eq_true, if_true, if_false, ite_true, ite_false, ↓reduceIte, ltT, ltF, leT, leF, eqT, eqF, true_and, and_true, false_and, and_false, true_or, or_true, false_or, or_false, not_true_eq_false, not_false_eq_true, if_pos, if_neg]
theorem c_isDigit {x : Int32} {t : Nat} (h : x.toInt = if t < 128 then (t : Int) else (t : Int) - 256) (ht : t < 256) : f_X5_isDigit x = some (if 48 ≤ t ∧ t ≤ 57 then 1 else 0) := by
  unfold f_X5_isDigit
  by_cases c1 : x < (48 : Int32)
  · have := (x_lt (c := 48) h ht (by omega)).mp c1
    rw [if_pos c1, if_neg (by omega)]
  · have d1 : ¬ (t < 48 ∨ 128 ≤ t) := fun e => c1 ((x_lt (c := 48) h ht (by omega)).mpr e)
    by_cases c2 : (57 : Int32) < x
    · have := (x_gt (c := 57) h ht (by omega)).mp c2
      rw [if_neg c1, if_pos c2, if_neg (by omega)]
    · have d2 : ¬ (57 < t ∧ t < 128) := fun e => c2 ((x_gt (c := 57) h ht (by omega)).mpr e)
      rw [if_neg c1, if_neg c2, if_pos (by omega)]
theorem c_skipSpaces (h : TX len bb mf T) (hL : L ≤ len) (hN : 1000 < N) {i : Nat} (hi : i ≤ L) : f_X5_skipSpaces N (iN len) bb (iN L) (iN i) 900 = some (iN (runE (qS T) L i)) := by
  have hlen := h.1
  have loop : ∀ (K : Int32 → Option Int32) m i, i ≤ L → L - i < m → f_X5_skipSpaces_0 (iN len) bb (iN L) 900 K m (iN i) = K (iN (runE (qS T) L i)) := by
    intro K m
    induction m with
    | zero => intro i h1 h2; omega
    | succ m ih =>
      intro i h1 h2
      rw [f_X5_skipSpaces_0.eq_2]
      by_cases hi : i = L
      · subst hi
        rw [if_pos (Int32.le_refl _), runE_end (Nat.le_refl _)]
      · have e1 : ¬ iN L ≤ iN i := by rw [iN_le (by omega) (by omega)]; omega
        obtain ⟨t1, t2, t3⟩ := h.2 i (by omega)
        rw [if_neg e1, c_byteAt h (by omega), bnd_some]
        by_cases hs : T i = 32
        · rw [if_pos (show bb i = (32 : Int32) from (x_eq (c := 32) t3 t1 (by omega)).mpr hs), some_lt, show iN i + 1 = iN (i + 1) from iN_add i 1, ih (i + 1) (by omega) (by omega), runE_step (i := i) (by omega) (qS_t.mpr hs)]
        · rw [if_neg (show ¬ bb i = (32 : Int32) from fun e => hs ((x_eq (c := 32) t3 t1 (by omega)).mp e)), runE_stop (by rw [← Bool.not_eq_true, qS_t]; exact hs)]
  unfold f_X5_skipSpaces
  rw [some_jn]
  exact loop _ N i hi (by omega)
theorem c_skipWord (h : TX len bb mf T) (hL : L ≤ len) (hN : 1000 < N) {i : Nat} (hi : i ≤ L) : f_X5_skipWord N (iN len) bb (iN L) (iN i) 900 = some (iN (runE (qL T) L i)) := by
  have hlen := h.1
  have loop : ∀ (K : Int32 → Option Int32) m i, i ≤ L → L - i < m → f_X5_skipWord_0 (iN len) bb (iN L) 900 K m (iN i) = K (iN (runE (qL T) L i)) := by
    intro K m
    induction m with
    | zero => intro i h1 h2; omega
    | succ m ih =>
      intro i h1 h2
      rw [f_X5_skipWord_0.eq_2]
      by_cases hi : i = L
      · subst hi
        rw [if_pos (Int32.le_refl _), runE_end (Nat.le_refl _)]
      · have e1 : ¬ iN L ≤ iN i := by rw [iN_le (by omega) (by omega)]; omega
        obtain ⟨t1, t2, t3⟩ := h.2 i (by omega)
        rw [if_neg e1, c_byteAt h (by omega), bnd_some, bnd_some]
        by_cases c1 : bb i < (97 : Int32)
        · have := (x_lt (c := 97) t3 t1 (by omega)).mp c1
          rw [if_pos c1, runE_stop (by rw [← Bool.not_eq_true, qL_t]; omega)]
        · have d1 : ¬ (T i < 97 ∨ 128 ≤ T i) := fun e => c1 ((x_lt (c := 97) t3 t1 (by omega)).mpr e)
          by_cases c2 : (122 : Int32) < bb i
          · have := (x_gt (c := 122) t3 t1 (by omega)).mp c2
            rw [if_neg c1, if_pos c2, runE_stop (by rw [← Bool.not_eq_true, qL_t]; omega)]
          · have d2 : ¬ (122 < T i ∧ T i < 128) := fun e => c2 ((x_gt (c := 122) t3 t1 (by omega)).mpr e)
            rw [if_neg c1, if_neg c2, some_lt, show iN i + 1 = iN (i + 1) from iN_add i 1, ih (i + 1) (by omega) (by omega), runE_step (i := i) (by omega) (qL_t.mpr (by omega))]
  unfold f_X5_skipWord
  rw [some_jn]
  exact loop _ N i hi (by omega)
theorem r_see {i : Nat} (h : TX len bb mf T) (hL : L ≤ len) (hi : i < L) : f_X8_see (iN L) mf (iN i) = some (iN (T i)) := by
  have := h.1
  unfold f_X8_see
  rw [← (h.2 i (by omega)).2.1]
  simp (disch := omega) only [Nat.add_zero, iN_lit, iN_lt, iN_le, iN_eq, iN_add, iN_mul, iN_sub, iN_nat, iN_div, iN_mod, iN_pred', n1_lt, n1_le, n1_ne, n1_ne', n1_nle, n1_nlt, n1_eq, oobN, some_lt, some_jn, bnd_some, Bool.false_eq_true, if_true, if_false, ite_true, ite_false, ↓reduceIte, ltT, ltF, leT, leF, eqT, eqF, true_and, and_true, false_and, and_false, true_or, or_true, false_or, or_false, not_true_eq_false, not_false_eq_true, if_pos, if_neg]
theorem r_seeEnd : f_X8_see (iN L) mf (iN L) = some (-1) := by
  unfold f_X8_see
  rw [if_pos (Int32.le_refl _)]
theorem r_isLetter {t : Nat} (ht : t < 256) : f_X8_isLetter (iN t) = some (if 97 ≤ t ∧ t ≤ 122 then 1 else 0) := by
  unfold f_X8_isLetter
  have e : f_X8_isIn (iN t) 97 122 = some (if 97 ≤ t ∧ t ≤ 122 then 1 else 0) := r_isIn (v := t) (lo := 97) (hi := 122) (by omega) (by omega) (by omega)
  rw [e, bnd_some, if_pos]
  split
  · exact Or.inr rfl
  · exact Or.inl rfl
theorem r_isDigit {t : Nat} (ht : t < 256) : f_X8_isDigit (iN t) = some (if 48 ≤ t ∧ t ≤ 57 then 1 else 0) := by
  unfold f_X8_isDigit
  have e : f_X8_isIn (iN t) 48 57 = some (if 48 ≤ t ∧ t ≤ 57 then 1 else 0) := r_isIn (v := t) (lo := 48) (hi := 57) (by omega) (by omega) (by omega)
  rw [e, bnd_some, if_pos]
  split
  · exact Or.inr rfl
  · exact Or.inl rfl
end TXT
