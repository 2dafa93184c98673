section INI
variable {N : Nat} {nu bo en he so st kn pr se ky ss vs a b f : Nat → Int32}
theorem c_firstSetting {w : Nat} (hw : w < 4) : f_X7_firstSetting (iN w) = some (iN (W0 w)) := by
  rcases (show w = 0 ∨ w = 1 ∨ w = 2 ∨ w = 3 by omega) with rfl | rfl | rfl | rfl <;> rfl
theorem c_isSetting {w : Nat} (hw : w < 4) : f_X7_isSetting (iN w) = some 1 := by
  rcases (show w = 0 ∨ w = 1 ∨ w = 2 ∨ w = 3 by omega) with rfl | rfl | rfl | rfl <;> rfl
theorem c_putSetting {w : Nat} {x : Int32} (hw : w < 4) : f_X2_putSetting se (iN w) x = some (upd se w x) := by
  unfold f_X2_putSetting
  have e10 : ((1 : Int32) = 0) = False := eq_false (by decide)
  have e2 : oob (iN w) 4 = False := eq_false (by rw [oobN (by omega)]; omega)
  rw [c_isSetting hw]
  simp only [bnd_some, e10, if_false, e2, some_lt, iN_nat (show w < 2147483648 by omega)]
theorem c_clear (hN : 1000 < N) : ∃ nu' se', f_X2_clear N nu bo he so st se = some (0, 0, 0, nu', 0, 1, upd bo 0 0, upd he 0 0, upd so 0 0, upd st 0 0, 0, se', 0) ∧ ∀ w, w < 4 → se' w = iN (W0 w) := by
  have loop : ∀ (K : (Nat → Int32) → Option (Int32 × Int32 × Int32 × (Nat → Int32) × Int32 × Int32 × (Nat → Int32) × (Nat → Int32) × (Nat → Int32) × (Nat → Int32) × Int32 × (Nat → Int32) × Int32)) m i g, i ≤ 4 → 4 - i < m → (∀ w, w < i → g w = iN (W0 w)) → ∃ g', f_X2_clear_50 K m (iN i) g = K g' ∧ ∀ w, w < 4 → g' w = iN (W0 w) := by
    intro K m
    induction m with
    | zero => intro i g h1 h2; omega
    | succ m ih =>
      intro i g h1 h2 h3
      rw [f_X2_clear_50.eq_2]
      by_cases hi : i = 4
      · subst hi
        refine ⟨g, ?_, h3⟩
        simp (disch := omega) only [Nat.add_zero, iN_lit, iN_lt, iN_le, iN_eq, iN_add, iN_mul, iN_sub, iN_nat, iN_div, iN_mod, iN_pred', n1_lt, n1_le, n1_ne, n1_ne', n1_nle, n1_nlt, n1_eq, oobN, some_lt, some_jn, bnd_some, Bool.false_eq_true, if_true, if_false, ite_true, ite_false, ↓reduceIte, ltT, ltF, leT, leF, eqT, eqF, true_and, and_true, false_and, and_false, true_or, or_true, false_or, or_false, not_true_eq_false, not_false_eq_true, if_pos, if_neg]
      · have e4 : ((4 : Int32) ≤ iN i) = False := eq_false (by show ¬ iN 4 ≤ iN i; rw [iN_le (by omega) (by omega)]; omega)
        simp only [e4, if_false, c_firstSetting (show i < 4 by omega), bnd_some, c_putSetting (show i < 4 by omega), some_lt, show iN i + 1 = iN (i + 1) from iN_add i 1]
        refine ih (i + 1) _ (by omega) (by omega) (fun w hw => ?_)
        by_cases e : w = i
        · subst e; rw [upd_self]
        · rw [upd_ne e]; exact h3 w (by omega)
  obtain ⟨nu', e1, _, _⟩ := c_clear0 (f := nu) hN
  obtain ⟨se', e2, e3⟩ := loop (fun t => some (0, 0, 0, nu', 0, 1, upd bo 0 0, upd he 0 0, upd so 0 0, upd st 0 0, 0, t, 0)) N 0 se (by omega) (by omega) (fun w hw => absurd hw (by omega))
  refine ⟨nu', se', ?_, e3⟩
  unfold f_X2_clear f_X3_clear
  simp only [some_lt, bnd6, e1, bnd_some, some_jn]
  exact e2
theorem r_begins (hN : 1000 < N) : ∃ b, f_X8_begins N f = some b ∧ b 4 = 3 ∧ b 5 = 16 ∧ b 6 = 12 ∧ b 7 = 8 ∧ ∀ j, j < 876 → ¬ (4 ≤ j ∧ j < 8) → b j = 0 := by
  have loop : ∀ (K : (Nat → Int32) → Option (Nat → Int32)) m i g, i ≤ 876 → 876 - i < m → (∀ w, w < i → g w = 0) → ∃ g', f_X8_begins_2 K m (iN i) g = K g' ∧ ∀ w, w < 876 → g' w = 0 := by
    intro K m
    induction m with
    | zero => intro i g h1 h2; omega
    | succ m ih =>
      intro i g h1 h2 h3
      rw [f_X8_begins_2.eq_2]
      by_cases hi : i = 876
      · subst hi
        refine ⟨g, ?_, h3⟩
        simp (disch := omega) only [Nat.add_zero, iN_lit, iN_lt, iN_le, iN_eq, iN_add, iN_mul, iN_sub, iN_nat, iN_div, iN_mod, iN_pred', n1_lt, n1_le, n1_ne, n1_ne', n1_nle, n1_nlt, n1_eq, oobN, some_lt, some_jn, bnd_some, Bool.false_eq_true, if_true, if_false, ite_true, ite_false, ↓reduceIte, ltT, ltF, leT, leF, eqT, eqF, true_and, and_true, false_and, and_false, true_or, or_true, false_or, or_false, not_true_eq_false, not_false_eq_true, if_pos, if_neg]
      · have e4 : ((876 : Int32) ≤ iN i) = False := eq_false (by show ¬ iN 876 ≤ iN i; rw [iN_le (by omega) (by omega)]; omega)
        have e5 : oob (iN i) 876 = False := eq_false (by rw [oobN (by omega)]; omega)
        simp only [e4, e5, if_false, some_lt, iN_nat (show i < 2147483648 by omega), show iN i + 1 = iN (i + 1) from iN_add i 1]
        refine ih (i + 1) _ (by omega) (by omega) (fun w hw => ?_)
        by_cases e : w = i
        · subst e; rw [upd_self]
        · rw [upd_ne e]; exact h3 w (by omega)
  obtain ⟨g', e1, e2⟩ := loop (fun t => some (upd (upd (upd (upd t 4 3) 5 16) 6 12) 7 8)) N 0 f (by omega) (by omega) (fun w hw => absurd hw (by omega))
  refine ⟨upd (upd (upd (upd g' 4 3) 5 16) 6 12) 7 8, ?_, ?_, ?_, ?_, ?_, fun j hj hn => ?_⟩
  · unfold f_X8_begins
    simp only [some_jn, some_lt]
    exact e1
  · rw [upd_ne (by omega), upd_ne (by omega), upd_ne (by omega), upd_self]
  · rw [upd_ne (by omega), upd_ne (by omega), upd_self]
  · rw [upd_ne (by omega), upd_self]
  · rw [upd_self]
  · rw [upd_ne (by omega), upd_ne (by omega), upd_ne (by omega), upd_ne (by omega)]; exact e2 j hj
theorem r_lays {n : Nat} (h0 : a 0 = iN n) (hn : n ≤ 120) (hN : 1000 < N) : ∃ a', f_X8_lays N a = some a' ∧ a' 1 = iN n ∧ a' 3 = 1 ∧ a' 541 = iN n ∧ (∀ i, i < n → a' (380 + i) = iN i) ∧ ∀ j, j ≠ 1 → j ≠ 3 → j ≠ 541 → ¬ (380 ≤ j ∧ j < 380 + n) → a' j = a j := by
  have loop : ∀ (K : (Nat → Int32) → Option (Nat → Int32)) m i g, i ≤ n → n - i < m → g 0 = iN n → (∀ w, w < i → g (380 + w) = iN w) → ∃ g', f_X8_lays_14 K m (iN i) g = K g' ∧ (∀ w, w < n → g' (380 + w) = iN w) ∧ ∀ j, ¬ (380 ≤ j ∧ j < 380 + n) → g' j = g j := by
    intro K m
    induction m with
    | zero => intro i g h1 h2; omega
    | succ m ih =>
      intro i g h1 h2 hg h3
      rw [f_X8_lays_14.eq_2, hg]
      by_cases hi : i = n
      · subst hi
        refine ⟨g, ?_, h3, fun j _ => rfl⟩
        simp (disch := omega) only [Nat.add_zero, iN_lit, iN_lt, iN_le, iN_eq, iN_add, iN_mul, iN_sub, iN_nat, iN_div, iN_mod, iN_pred', n1_lt, n1_le, n1_ne, n1_ne', n1_nle, n1_nlt, n1_eq, oobN, some_lt, some_jn, bnd_some, Bool.false_eq_true, if_true, if_false, ite_true, ite_false, ↓reduceIte, ltT, ltF, leT, leF, eqT, eqF, true_and, and_true, false_and, and_false, true_or, or_true, false_or, or_false, not_true_eq_false, not_false_eq_true, if_pos, if_neg]
      · have e4 : (iN n ≤ iN i) = False := eq_false (by rw [iN_le (by omega) (by omega)]; omega)
        have ea : (380 : Int32) + iN i = iN (380 + i) := iN_add 380 i
        have e5 : oob (iN (380 + i)) 876 = False := eq_false (by rw [oobN (by omega)]; omega)
        simp only [e4, ea, e5, if_false, some_lt, iN_nat (show 380 + i < 2147483648 by omega), show iN i + 1 = iN (i + 1) from iN_add i 1]
        obtain ⟨g', q1, q2, q3⟩ := ih (i + 1) (upd g (380 + i) (iN i)) (by omega) (by omega) (by rw [upd_ne (by omega)]; exact hg) (fun w hw => by
          by_cases e : w = i
          · subst e; rw [upd_self]
          · rw [upd_ne (by omega)]; exact h3 w (by omega))
        exact ⟨g', q1, q2, fun j hj => by rw [q3 j hj, upd_ne (by omega)]⟩
  obtain ⟨g', e1, e2, e3⟩ := loop (fun t => some (upd (upd t 3 1) 541 (upd t 3 1 0))) N 0 (upd a 1 (iN n)) (by omega) (by omega) (by rw [upd_ne (by omega)]; exact h0) (fun w hw => absurd hw (by omega))
  have g0 : upd g' 3 1 0 = iN n := by rw [upd_ne (by omega), e3 0 (by omega), upd_ne (by omega)]; exact h0
  refine ⟨upd (upd g' 3 1) 541 (upd g' 3 1 0), ?_, ?_, ?_, ?_, fun i hi => ?_, fun j h1 h3 h5 h4 => ?_⟩
  · unfold f_X8_lays
    rw [h0]
    simp only [some_jn, some_lt]
    exact e1
  · rw [upd_ne (by omega), upd_ne (by omega), e3 1 (by omega), upd_self]
  · rw [upd_ne (by omega), upd_self]
  · rw [upd_self]; exact g0
  · rw [upd_ne (by omega), upd_ne (by omega)]; exact e2 i hi
  · rw [upd_ne h5, upd_ne h3, e3 j h4, upd_ne h1]
/-- the first column of the class -/
theorem c_init2 (hN : 1000 < N) : ∃ nu' bo' he' so' st' se', f_X2_init N = some (0, 0, 0, zf, zf, zf, 0, 1, zf, bo', st', he', so', 0, nu', 0, zf, se', zf) ∧ ∀ b, FR b → CRx 0 0 0 0 nu' 0 1 bo' zf he' so' st' 0 zf zf se' 0 zf zf zf b := by
  obtain ⟨nu', se', e1, e2⟩ := c_clear (nu := zf) (bo := zf) (he := zf) (so := zf) (st := zf) (se := zf) hN
  refine ⟨nu', upd zf 0 0, upd zf 0 0, upd zf 0 0, upd zf 0 0, se', ?_, fun b hb => CRx_fresh hb (upd_self _ _ _) (upd_self _ _ _) (upd_self _ _ _) (upd_self _ _ _) e2⟩
  unfold f_X2_init f_X6_init f_X3_init f_X0_init f_X4_init
  simp only [bnd4, bnd7, bnd2, e1, bnd13]
/-- the first row of the reference -/
theorem r_init (hN : 1000 < N) : ∃ a b, f_X8_init N = some (0, 0, 0, 0, 0, 0, 0, 0, 0, 0, -1, 0, 0, a, b, zf, zf, zf, zf, zf) ∧ FR a := by
  obtain ⟨b, e1, b4, b5, b6, b7, b8⟩ := r_begins (f := zf) hN
  obtain ⟨a', l1, l2, l3, l4, l5, l6⟩ := r_lays (N := N) (a := fun j => if j < 876 then b j else zf j) (n := 0) (by rw [if_pos (by omega), b8 0 (by omega) (by omega)]; rfl) (by omega) hN
  refine ⟨a', b, ?_, ?_⟩
  · unfold f_X8_init
    rw [e1, bnd_some, r_sets hN, bnd_some, l1, bnd_some]
  · have z : ∀ j, j < 876 → j ≠ 1 → j ≠ 3 → j ≠ 541 → ¬ (4 ≤ j ∧ j < 8) → a' j = 0 := fun j h1 h2 h3 h4 h5 => by
      rw [l6 j h2 h3 h4 (by omega)]; show (if j < 876 then b j else zf j) = 0; rw [if_pos h1]; exact b8 j h1 h5
    have y : ∀ j, 4 ≤ j → j < 8 → a' j = b j := fun j h1 h2 => by
      rw [l6 j (by omega) (by omega) (by omega) (by omega)]; show (if j < 876 then b j else zf j) = _; rw [if_pos (by omega)]
    exact ⟨z 0 (by omega) (by omega) (by omega) (by omega) (by omega), l2, z 2 (by omega) (by omega) (by omega) (by omega) (by omega), l3, (y 4 (by omega) (by omega)).trans b4, (y 5 (by omega) (by omega)).trans b5, (y 6 (by omega) (by omega)).trans b6, (y 7 (by omega) (by omega)).trans b7, z 8 (by omega) (by omega) (by omega) (by omega) (by omega), z 9 (by omega) (by omega) (by omega) (by omega) (by omega), z 19 (by omega) (by omega) (by omega) (by omega) (by omega), z 540 (by omega) (by omega) (by omega) (by omega) (by omega), l4, z 542 (by omega) (by omega) (by omega) (by omega) (by omega), z 543 (by omega) (by omega) (by omega) (by omega) (by omega)⟩
end INI
