section TOK
variable {N L len : Nat} {bb mf : Nat → Int32} {T : Nat → Nat}
def cvF (T : Nat → Nat) : Nat → Nat → Nat → Nat
  | 0, _, c => c
  | f + 1, i, c => if qG T i then cvF T f (i + 1) (min (10 * c + (T i - 48)) 1000000) else c
def rvF (T : Nat → Nat) : Nat → Nat → Nat → Nat
  | 0, _, c => c
  | f + 1, i, c => if qG T i then rvF T f (i + 1) (if 100000 ≤ c then c else 10 * c + (T i - 48)) else c
/-- the two ways to hold a long number agree below 100000 -/
def NV (c r : Nat) : Prop := (c = r ∧ r < 100000) ∨ (100000 ≤ c ∧ 100000 ≤ r ∧ c ≤ 1000000 ∧ r < 1000000)
theorem NV_run : ∀ f i c r, NV c r → NV (cvF T f i c) (rvF T f i r) := by
  intro f
  induction f with
  | zero => intro i c r h; exact h
  | succ f ih =>
    intro i c r h
    simp only [cvF, rvF]
    cases hq : qG T i with
    | false => simp only [Bool.false_eq_true, if_false]; exact h
    | true =>
      simp only [if_true]
      have hd := qG_t.mp hq
      apply ih
      unfold NV at h ⊢
      rcases h with ⟨rfl, h⟩ | ⟨h1, h2, h3, h4⟩
      · rw [if_neg (by omega)]; omega
      · rw [if_pos h2]; omega
def cV (T : Nat → Nat) (L p : Nat) : Nat := cvF T (L - p) p 0
def rV (T : Nat → Nat) (L p : Nat) : Nat := rvF T (L - p) p 0
theorem NV_V (p : Nat) : NV (cV T L p) (rV T L p) := NV_run _ _ _ _ (Or.inl ⟨rfl, by omega⟩)
/-- the kind of what stands at a place, and where it ends -/
def tkK (T : Nat → Nat) (L p : Nat) : Nat := if L ≤ p then 3 else if qL T p then 0 else if qG T p then 1 else 2
def tkE (T : Nat → Nat) (L p : Nat) : Nat := if L ≤ p then p else if qL T p then runE (qL T) L p else if qG T p then runE (qG T) L p else p + 1
theorem qL_not {i : Nat} : qL T i = false ↔ ¬ (97 ≤ T i ∧ T i ≤ 122) := by rw [← Bool.not_eq_true, qL_t]
theorem qG_not {i : Nat} : qG T i = false ↔ ¬ (48 ≤ T i ∧ T i ≤ 57) := by rw [← Bool.not_eq_true, qG_t]
theorem qS_not {i : Nat} : qS T i = false ↔ ¬ T i = 32 := by rw [← Bool.not_eq_true, qS_t]
theorem r_sp (h : TX len bb mf T) (hL : L ≤ len) (K : Int32 → Option (Int32 × Int32 × Int32 × Int32)) : ∀ m i, i ≤ L → L - i < m → f_X8_next_8 (iN L) mf K m (iN i) = K (iN (runE (qS T) L i)) := by
  have hlen := h.1
  intro m
  induction m with
  | zero => intro i h1 h2; omega
  | succ m ih =>
    intro i h1 h2
    rw [f_X8_next_8.eq_2]
    by_cases hi : i = L
    · subst hi
      rw [r_seeEnd, bnd_some, if_neg (by decide), runE_end (Nat.le_refl _)]
    · have t1 := (h.2 i (by omega)).1
      rw [r_see h hL (by omega), bnd_some]
      by_cases hs : T i = 32
      · rw [if_pos (show iN (T i) = (32 : Int32) by rw [hs]; rfl), some_lt, show iN i + 1 = iN (i + 1) from iN_add i 1, ih (i + 1) (by omega) (by omega), runE_step (i := i) (by omega) (qS_t.mpr hs)]
      · rw [if_neg (show ¬ iN (T i) = (32 : Int32) by show ¬ _ = iN 32; rw [iN_eq (by omega) (by omega)]; exact hs), runE_stop (i := i) (qS_not.mpr hs)]
theorem r_wd (h : TX len bb mf T) (hL : L ≤ len) (K : Int32 → Option (Int32 × Int32 × Int32 × Int32)) : ∀ m i, i ≤ L → L - i < m → f_X8_next_75 (iN L) mf K m (iN i) = K (iN (runE (qL T) L i)) := by
  have hlen := h.1
  intro m
  induction m with
  | zero => intro i h1 h2; omega
  | succ m ih =>
    intro i h1 h2
    rw [f_X8_next_75.eq_2]
    by_cases hi : i = L
    · subst hi
      rw [r_seeEnd, bnd_some, show f_X8_isLetter (-1) = some 0 from rfl, bnd_some, if_pos rfl, runE_end (Nat.le_refl _)]
    · have t1 := (h.2 i (by omega)).1
      rw [r_see h hL (by omega), bnd_some, r_isLetter t1, bnd_some]
      by_cases hs : 97 ≤ T i ∧ T i ≤ 122
      · rw [if_pos hs, if_neg (by decide), some_lt, show iN i + 1 = iN (i + 1) from iN_add i 1, ih (i + 1) (by omega) (by omega), runE_step (i := i) (by omega) (qL_t.mpr hs)]
      · rw [if_neg hs, if_pos rfl, runE_stop (i := i) (qL_not.mpr hs)]
theorem r_dg (h : TX len bb mf T) (hL : L ≤ len) (K : Int32 → Int32 → Option (Int32 × Int32 × Int32 × Int32)) : ∀ m i c, i ≤ L → L - i < m → c < 1000000 → f_X8_next_129 (iN L) mf K m (iN i) (iN c) = K (iN (runE (qG T) L i)) (iN (rvF T (L - i) i c)) := by
  have hlen := h.1
  intro m
  induction m with
  | zero => intro i c h1 h2; omega
  | succ m ih =>
    intro i c h1 h2 hc
    rw [f_X8_next_129.eq_2]
    by_cases hi : i = L
    · subst hi
      rw [r_seeEnd, bnd_some, show f_X8_isDigit (-1) = some 0 from rfl, bnd_some, if_pos rfl, runE_end (Nat.le_refl _), Nat.sub_self]
      rfl
    · have t1 := (h.2 i (by omega)).1
      have hf : L - i = (L - (i + 1)) + 1 := by omega
      rw [r_see h hL (by omega), bnd_some, r_isDigit t1, bnd_some]
      by_cases hs : 48 ≤ T i ∧ T i ≤ 57
      · have hq := qG_t.mpr hs
        rw [if_pos hs, if_neg (by decide), runE_step (i := i) (by omega) hq, hf]
        simp only [rvF, hq, if_true]
        by_cases c5 : 100000 ≤ c
        · have e5 : (100000 : Int32) ≤ iN c := by show iN 100000 ≤ iN c; rw [iN_le (by omega) (by omega)]; exact c5
          rw [some_jn, if_pos e5]
          dsimp only
          rw [some_lt, show iN i + 1 = iN (i + 1) from iN_add i 1, ih (i + 1) c (by omega) (by omega) hc, if_pos c5]
        · have e5 : ¬ (100000 : Int32) ≤ iN c := by show ¬ iN 100000 ≤ iN c; rw [iN_le (by omega) (by omega)]; exact c5
          have e6 : (10 : Int32) * iN c + iN (T i) - 48 = iN (10 * c + (T i - 48)) := by
            show iN 10 * iN c + iN (T i) - iN 48 = _
            rw [iN_mul, iN_add, iN_sub (by omega)]; congr 1; omega
          rw [some_jn, if_neg e5, bnd_some, some_lt, e6]
          dsimp only
          rw [some_lt, show iN i + 1 = iN (i + 1) from iN_add i 1, ih (i + 1) _ (by omega) (by omega) (by omega), if_neg c5]
      · have hq := qG_not.mpr hs
        rw [if_neg hs, if_pos rfl, runE_stop (i := i) hq, hf]
        simp only [rvF, hq, Bool.false_eq_true, if_false]
/-- the next token of the reference -/
theorem r_next {i : Nat} {n0 : Int32} (h : TX len bb mf T) (hL : L ≤ len) (hN : 1000 < N) (hi : i ≤ L) :
    f_X8_next N (iN L) (iN i) n0 mf = some (iN (runE (qS T) L i), iN (tkE T L (runE (qS T) L i)), iN (tkK T L (runE (qS T) L i)), if tkK T L (runE (qS T) L i) = 1 then iN (rV T L (runE (qS T) L i)) else n0) := by
  have hlen := h.1
  unfold f_X8_next
  rw [some_jn, r_sp h hL _ N i hi (by omega)]
  have hp := (runE_ge (qS T) L _ i rfl).2 hi
  generalize runE (qS T) L i = p at *
  unfold tkE tkK
  by_cases c1 : L ≤ p
  · have e1 : ¬ iN p < iN L := by rw [iN_lt (by omega) (by omega)]; omega
    rw [if_neg e1, if_pos c1, if_pos c1, if_neg (by omega)]
    rfl
  · have e1 : iN p < iN L := by rw [iN_lt (by omega) (by omega)]; omega
    have t1 := (h.2 p (by omega)).1
    rw [if_pos e1, if_neg c1, if_neg c1, r_see h hL (by omega), bnd_some, r_isLetter t1, bnd_some]
    by_cases c2 : 97 ≤ T p ∧ T p ≤ 122
    · have hq := qL_t.mpr c2
      rw [if_pos c2, if_neg (by decide), some_jn, r_wd h hL _ N p hp (by omega)]
      simp only [hq, if_true]
      rfl
    · have hq := qL_not.mpr c2
      rw [if_neg c2, if_pos rfl, bnd_some, r_isDigit t1, bnd_some]
      simp only [hq, Bool.false_eq_true, if_false]
      by_cases c3 : 48 ≤ T p ∧ T p ≤ 57
      · have hg := qG_t.mpr c3
        have := r_dg h hL (fun t_behind_188_12 t_number_188_13 => some (iN p, t_behind_188_12, 1, t_number_188_13)) N p 0 hp (by omega) (by omega)
        rw [if_pos c3, if_neg (by decide), some_jn]
        simp only [hg, if_true]
        exact this
      · have hg := qG_not.mpr c3
        rw [if_neg c3, if_pos rfl, some_lt]
        simp only [hg, Bool.false_eq_true, if_false]
        rw [if_neg (show ¬ (2 : Nat) = 1 by omega), show iN p + 1 = iN (p + 1) from iN_add p 1]
        rfl
theorem c_dg (h : TX len bb mf T) (hL : L ≤ len) (K : Int32 → Int32 → Option (Int32 × Int32 × Int32 × Int32)) : ∀ m i c, i ≤ L → L - i < m → c ≤ 1000000 → f_X5_takeNumber_12 (iN len) bb (iN L) 900 K m (iN c) (iN i) = K (iN (cvF T (L - i) i c)) (iN (runE (qG T) L i)) := by
  have hlen := h.1
  intro m
  induction m with
  | zero => intro i c h1 h2; omega
  | succ m ih =>
    intro i c h1 h2 hc
    rw [f_X5_takeNumber_12.eq_2]
    by_cases hi : i = L
    · subst hi
      rw [if_pos (Int32.le_refl _), runE_end (Nat.le_refl _), Nat.sub_self]
      rfl
    · have e1 : ¬ iN L ≤ iN i := by rw [iN_le (by omega) (by omega)]; omega
      obtain ⟨t1, t2, t3⟩ := h.2 i (by omega)
      have hf : L - i = (L - (i + 1)) + 1 := by omega
      rw [if_neg e1, c_byteAt h (by omega), bnd_some, c_isDigit t3 t1, bnd_some]
      by_cases hs : 48 ≤ T i ∧ T i ≤ 57
      · have hq := qG_t.mpr hs
        have hb : bb i = iN (T i) := (x_eq t3 t1 (by omega)).mpr rfl
        have e6 : iN c * (10 : Int32) + iN (T i) - 48 = iN (10 * c + (T i - 48)) := by
          show iN c * iN 10 + iN (T i) - iN 48 = _
          rw [iN_mul, iN_add, iN_sub (by omega)]; congr 1; omega
        have e7 : (if (1000000 : Int32) < iN (10 * c + (T i - 48)) then (1000000 : Int32) else iN (10 * c + (T i - 48))) = iN (min (10 * c + (T i - 48)) 1000000) := by
          by_cases c7 : 1000000 < 10 * c + (T i - 48)
          · rw [if_pos (show (1000000 : Int32) < _ by show iN 1000000 < _; rw [iN_lt (by omega) (by omega)]; exact c7), Nat.min_eq_right (by omega)]; rfl
          · rw [if_neg (show ¬ (1000000 : Int32) < _ by show ¬ iN 1000000 < _; rw [iN_lt (by omega) (by omega)]; exact c7), Nat.min_eq_left (by omega)]
        rw [if_pos hs, if_neg (by decide), bnd_some, hb, e6, e7, some_lt, some_lt, show iN i + 1 = iN (i + 1) from iN_add i 1, ih (i + 1) _ (by omega) (by omega) (by omega), runE_step (i := i) (by omega) hq, hf]
        simp only [cvF, hq, if_true]
      · have hq := qG_not.mpr hs
        rw [if_neg hs, if_pos rfl, runE_stop (i := i) hq, hf]
        simp only [cvF, hq, Bool.false_eq_true, if_false]
end TOK
