section WRT
variable {H N n l v : Nat} {K : Nat → Nat} {f g : Nat → Int32} {P : List Pc}
theorem byte_id {w : Nat} (hw : w < 128) : (iN w).toInt8.toInt32 = iN w := by
  have : ∀ a : Fin 128, (iN a.1).toInt8.toInt32 = iN a.1 := by decide
  exact this ⟨w, hw⟩
theorem c_putW {w : Nat} (hl : l < 1302) (hw : w < 128) : f_X1_put (iN l) f 1302 (iN w) = some (iN (l + 1), upd f l (iN w)) := by
  show (if iN l < 0 then some (iN l, f) else (if iN 1302 ≤ iN l then some (iN l, f) else if oob (iN l) 1302 then none else lt (upd f (iN l).toNatClampNeg (vp_nar .byte (iN w).toInt8.toInt32)) (fun t => lt (iN l + 1) (fun y => some (y, t))))) = _
  rw [vp_nar_byte, byte_id hw, byte_id hw]
  simp (disch := omega) only [Nat.add_zero, iN_lit, iN_lt, iN_le, iN_eq, iN_add, iN_mul, iN_sub, iN_nat, iN_div, iN_mod, iN_pred', n1_lt, n1_le, n1_ne, n1_ne', n1_nle, n1_nlt, n1_eq, oobN, some_lt, some_jn, bnd_some, Bool.false_eq_true, if_true, if_false, ite_true, ite_false, ↓reduceIte, ltT, ltF, leT, leF, eqT, eqF, true_and, and_true, false_and, and_false, true_or, or_true, false_or, or_false, not_true_eq_false, not_false_eq_true, if_pos, if_neg]
theorem r_says {w : Nat} (hl : l < 1302) : f_X8_says (iN l) g (iN w) = some (iN (l + 1), upd g l (iN w)) := by
  unfold f_X8_says
  simp (disch := omega) only [Nat.add_zero, iN_lit, iN_lt, iN_le, iN_eq, iN_add, iN_mul, iN_sub, iN_nat, iN_div, iN_mod, iN_pred', n1_lt, n1_le, n1_ne, n1_ne', n1_nle, n1_nlt, n1_eq, oobN, some_lt, some_jn, bnd_some, Bool.false_eq_true, if_true, if_false, ite_true, ite_false, ↓reduceIte, ltT, ltF, leT, leF, eqT, eqF, true_and, and_true, false_and, and_false, true_or, or_true, false_or, or_false, not_true_eq_false, not_false_eq_true, if_pos, if_neg]
theorem upd_both {w : Int32} (h : ∀ j, j < l → f j = g j) : ∀ j, j < l + 1 → upd f l w j = upd g l w j := by
  intro j hj
  by_cases e : j = l
  · subst e; rw [upd_self, upd_self]
  · rw [upd_ne e, upd_ne e]; exact h j (by omega)
theorem pow_b {i : Nat} (h : i ≤ 9) : 1 ≤ 10 ^ i ∧ 10 ^ i ≤ 1000000000 := by
  have : ∀ a : Fin 10, 1 ≤ 10 ^ a.1 ∧ 10 ^ a.1 ≤ 1000000000 := by decide
  exact this ⟨i, by omega⟩
/-- the power of the first digit -/
theorem num_top {A B : Type} (hv : v < 1073741824) (K1 : Int32 → Option (Int32 × (Nat → Int32))) (K2 : Int32 → Option (Int32 × (Nat → Int32))) :
    ∀ m i, i ≤ 9 → (i = 0 ∨ 10 ^ i ≤ v) → 9 - i < m → ∃ k, k ≤ 9 ∧ (k = 0 ∨ 10 ^ k ≤ v) ∧ f_X1_putNumber_4 (iN v) K1 m (iN (10 ^ i)) (iN (i + 1)) = K1 (iN (10 ^ k)) ∧ f_X8_saysNumber_2 (iN v) K2 m (iN (10 ^ i)) = K2 (iN (10 ^ k)) := by
  intro m
  induction m with
  | zero => intro i h1 h2 h3; omega
  | succ m ih =>
    intro i h1 h2 h3
    obtain ⟨p1, p2⟩ := pow_b h1
    have hd := Nat.div_le_self v (10 ^ i)
    have hdm : 10 ≤ v / 10 ^ i ↔ 10 * 10 ^ i ≤ v := Nat.le_div_iff_mul_le (by omega)
    have hp1 : 10 ^ (i + 1) = 10 ^ i * 10 := Nat.pow_succ 10 i
    rw [f_X1_putNumber_4.eq_2, f_X8_saysNumber_2.eq_2]
    have z : (iN (10 ^ i) = (0 : Int32)) = False := eq_false (by show ¬ iN (10 ^ i) = iN 0; rw [iN_eq (by omega) (by omega)]; omega)
    have d : iN v / iN (10 ^ i) = iN (v / 10 ^ i) := iN_div (by omega) (by omega)
    have w1 : iN (10 ^ i) * (10 : Int32) = iN (10 ^ (i + 1)) := by rw [hp1]; exact iN_mul _ 10
    have w2 : iN (i + 1) + (1 : Int32) = iN (i + 1 + 1) := iN_add _ 1
    simp only [z, if_false, d, some_lt, w1, w2]
    by_cases h9 : i = 9
    · refine ⟨9, by omega, by rw [← h9]; exact h2, ?_, ?_⟩
      · rw [if_pos (show (10 : Int32) ≤ iN (i + 1) by show iN 10 ≤ iN (i + 1); rw [iN_le (by omega) (by omega)]; omega), h9]
      · have : v / 10 ^ i ≤ 9 := by
          rw [h9] at hdm ⊢
          omega
        rw [if_pos (show iN (v / 10 ^ i) ≤ (9 : Int32) by show _ ≤ iN 9; rw [iN_le (by omega) (by omega)]; exact this), h9]
    · rw [if_neg (show ¬ (10 : Int32) ≤ iN (i + 1) by show ¬ iN 10 ≤ iN (i + 1); rw [iN_le (by omega) (by omega)]; omega)]
      by_cases hc : v / 10 ^ i < 10
      · refine ⟨i, h1, h2, ?_, ?_⟩
        · rw [if_pos (show iN (v / 10 ^ i) < (10 : Int32) by show _ < iN 10; rw [iN_lt (by omega) (by omega)]; exact hc)]
        · rw [if_pos (show iN (v / 10 ^ i) ≤ (9 : Int32) by show _ ≤ iN 9; rw [iN_le (by omega) (by omega)]; omega)]
      · rw [if_neg (show ¬ iN (v / 10 ^ i) < (10 : Int32) by show ¬ _ < iN 10; rw [iN_lt (by omega) (by omega)]; exact hc), if_neg (show ¬ iN (v / 10 ^ i) ≤ (9 : Int32) by show ¬ _ ≤ iN 9; rw [iN_le (by omega) (by omega)]; omega)]
        exact ih (i + 1) (by omega) (Or.inr (by omega)) (by omega)
/-- the digits -/
theorem num_dig (hv : v < 1073741824) (K1 : Int32 → (Nat → Int32) → Option (Int32 × (Nat → Int32))) (K2 : Int32 → (Nat → Int32) → Option (Int32 × (Nat → Int32))) :
    ∀ c m l f g, c ≤ 10 → c < m → l + c ≤ 1302 → (∀ j, j < l → f j = g j) → ∃ f' g', f_X1_putNumber_29 1302 (iN v) K1 m (if c = 0 then iN 0 else iN (10 ^ (c - 1))) (iN l) f = K1 (iN (l + c)) f' ∧ f_X8_saysNumber_18 (iN v) K2 m (if c = 0 then iN 0 else iN (10 ^ (c - 1))) (iN l) g = K2 (iN (l + c)) g' ∧ ∀ j, j < l + c → f' j = g' j := by
  intro c
  induction c with
  | zero =>
    intro m l f g h1 h2 h3 h4
    obtain ⟨m, rfl⟩ : ∃ q, m = q + 1 := ⟨m - 1, by omega⟩
    rw [f_X1_putNumber_29.eq_2, f_X8_saysNumber_18.eq_2, if_pos rfl]
    have z : (iN 0 ≤ (0 : Int32)) = True := eq_true (by decide)
    simp only [z, if_true]
    exact ⟨f, g, rfl, rfl, h4⟩
  | succ c ih =>
    intro m l f g h1 h2 h3 h4
    obtain ⟨m, rfl⟩ : ∃ q, m = q + 1 := ⟨m - 1, by omega⟩
    rw [f_X1_putNumber_29.eq_2, f_X8_saysNumber_18.eq_2, if_neg (Nat.succ_ne_zero c), show c + 1 - 1 = c by omega]
    obtain ⟨p1, p2⟩ := pow_b (i := c) (by omega)
    have hd := Nat.div_le_self v (10 ^ c)
    have z0 : (iN (10 ^ c) ≤ (0 : Int32)) = False := eq_false (by show ¬ iN (10 ^ c) ≤ iN 0; rw [iN_le (by omega) (by omega)]; omega)
    have z : (iN (10 ^ c) = (0 : Int32)) = False := eq_false (by show ¬ iN (10 ^ c) = iN 0; rw [iN_eq (by omega) (by omega)]; omega)
    have d : iN v / iN (10 ^ c) = iN (v / 10 ^ c) := iN_div (by omega) (by omega)
    have dg : (48 : Int32) + (iN (v / 10 ^ c) - iN (v / 10 ^ c) / 10 * 10) = iN (48 + v / 10 ^ c % 10) := by
      generalize v / 10 ^ c = q at *
      show iN 48 + (iN q - iN q / iN 10 * iN 10) = _
      rw [iN_div (by omega) (by omega), iN_mul, iN_sub (by omega), iN_add]; congr 1; omega
    have nx : iN (10 ^ c) / (10 : Int32) = if c = 0 then iN 0 else iN (10 ^ (c - 1)) := by
      rw [show (10 : Int32) = iN 10 from rfl, iN_div (by omega) (by omega)]
      by_cases hc : c = 0
      · subst hc; rfl
      · rw [if_neg hc]
        obtain ⟨e, rfl⟩ : ∃ e, c = e + 1 := ⟨c - 1, by omega⟩
        rw [Nat.pow_succ, Nat.mul_div_cancel _ (by omega), show e + 1 - 1 = e by omega]
    have hw : 48 + v / 10 ^ c % 10 < 128 := by omega
    simp only [z0, z, if_false, d, dg]
    rw [c_putW (by omega) hw, r_says (by omega)]
    simp only [bnd2, some_lt, nx]
    obtain ⟨f', g', a1, a2, a3⟩ := ih m (l + 1) (upd f l (iN (48 + v / 10 ^ c % 10))) (upd g l (iN (48 + v / 10 ^ c % 10))) (by omega) (by omega) (by omega) (upd_both h4)
    rw [show l + 1 + c = l + (c + 1) by omega] at a1 a2 a3
    exact ⟨f', g', a1, a2, a3⟩
theorem num_both {d : Nat} (hv : v < 1073741824) (hd : v < 10 ^ d) (hd0 : 1 ≤ d) (hl : l + d ≤ 1302) (hd10 : d ≤ 10) (hN : 1000 < N) (h : ∀ j, j < l → f j = g j) :
    ∃ l' f' g', f_X1_putNumber N (iN l) f 1302 (iN v) = some (iN l', f') ∧ f_X8_saysNumber N (iN l) g (iN v) = some (iN l', g') ∧ l' ≤ l + d ∧ ∀ j, j < l' → f' j = g' j := by
  unfold f_X1_putNumber f_X8_saysNumber
  simp only [some_jn]
  obtain ⟨k, k1, k2, k3, k4⟩ := num_top (A := Unit) (B := Unit) hv (fun x2_29_1 => f_X1_putNumber_29 1302 (iN v) (fun a b => some (a, b)) N x2_29_1 (iN l) f) (fun x2_18_1 => f_X8_saysNumber_18 (iN v) (fun a b => some (a, b)) N x2_18_1 (iN l) g) N 0 (by omega) (Or.inl rfl) (by omega)
  have hk : k + 1 ≤ d := by
    rcases k2 with k2 | k2
    · omega
    · have : 10 ^ k < 10 ^ d := by omega
      have := (Nat.pow_lt_pow_iff_right (a := 10) (by omega)).mp this
      omega
  obtain ⟨f', g', a1, a2, a3⟩ := num_dig hv (fun a b => some (a, b)) (fun a b => some (a, b)) (k + 1) N l f g (by omega) (by omega) (by omega) h
  rw [if_neg (Nat.succ_ne_zero k), show k + 1 - 1 = k by omega] at a1 a2
  refine ⟨l + (k + 1), f', g', ?_, ?_, by omega, a3⟩
  · exact k3.trans a1
  · exact k4.trans a2
end WRT
