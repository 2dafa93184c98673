section APP
variable {N l : Nat} {f : Nat → Int32} {v p1 p2 p3 p4 p5 : Int32}
/-- a byte of the class and one of the reference -/
def BY (x y : Int32) : Prop := ∃ w : Int32, x = w.toInt8.toInt32 ∧ y = w &&& 255
def BF (bl : Int32) (bb : Nat → Int32) (mb : Int32) (mf : Nat → Int32) : Prop := ∃ len, len ≤ 900 ∧ bl = iN len ∧ mb = iN len ∧ ∀ j, j < len → BY (bb j) (mf j)
theorem c_put (hl : l < 900) : f_X1_put (iN l) f 900 v = some (iN (l + 1), upd f l v.toInt8.toInt32) := by
  show (if iN l < 0 then some (iN l, f) else (if iN 900 ≤ iN l then some (iN l, f) else if oob (iN l) 900 then none else lt (upd f (iN l).toNatClampNeg (vp_nar .byte v.toInt8.toInt32)) (fun t => lt (iN l + 1) (fun y => some (y, t))))) = _
  rw [vp_nar_byte, show v.toInt8.toInt32.toInt8 = v.toInt8 from by simp]
  simp (disch := omega) only [Nat.add_zero, iN_lit, iN_lt, iN_le, iN_eq, iN_add, iN_mul, iN_sub, iN_nat, iN_div, iN_mod, iN_pred', n1_lt, n1_le, n1_ne, n1_ne', n1_nle, n1_nlt, n1_eq, oobN, some_lt, some_jn, bnd_some, Bool.false_eq_true, if_true, if_false, ite_true, ite_false, ↓reduceIte, ltT, ltF, leT, leF, eqT, eqF, true_and, and_true, false_and, and_false, true_or, or_true, false_or, or_false, not_true_eq_false, not_false_eq_true, if_pos, if_neg]
theorem c_put' {l' : Nat} {w : Int32} (e : l' = l + 1) (hl : l < 900) (hw : w = v.toInt8.toInt32) : f_X1_put (iN l) f 900 v = some (iN l', upd f l w) := by
  subst e hw; exact c_put hl
theorem c_putFour (hl : l + 4 ≤ 900) (hN : 1000 < N) : ∃ f', f_X1_putFour N (iN l) f 900 v = some (iN (l + 4), f') ∧ (∀ j, j < l → f' j = f j) ∧ ∀ i, i < 4 → f' (l + i) = (v >>> iN (24 - 8 * i)).toInt8.toInt32 := by
  obtain ⟨m, rfl⟩ : ∃ m, N = m + 5 := ⟨N - 5, by omega⟩
  obtain ⟨w0, h0⟩ : ∃ w, w = (v >>> iN 24).toInt8.toInt32 := ⟨_, rfl⟩
  obtain ⟨w1, h1⟩ : ∃ w, w = (v >>> iN 16).toInt8.toInt32 := ⟨_, rfl⟩
  obtain ⟨w2, h2⟩ : ∃ w, w = (v >>> iN 8).toInt8.toInt32 := ⟨_, rfl⟩
  obtain ⟨w3, h3⟩ : ∃ w, w = (v >>> iN 0).toInt8.toInt32 := ⟨_, rfl⟩
  obtain ⟨la, ea⟩ : ∃ x, x = l + 1 := ⟨_, rfl⟩
  obtain ⟨lb, eb⟩ : ∃ x, x = l + 2 := ⟨_, rfl⟩
  obtain ⟨lc, ec⟩ : ∃ x, x = l + 3 := ⟨_, rfl⟩
  obtain ⟨ld, ed⟩ : ∃ x, x = l + 4 := ⟨_, rfl⟩
  rw [← ed]
  refine ⟨upd (upd (upd (upd f l w0) la w1) lb w2) lc w3, ?_, fun j hj => ?_, fun i hi => ?_⟩
  · have x1 : (24 : Int32) + -8 = 16 := by decide
    have x2 : (16 : Int32) + -8 = 8 := by decide
    have x3 : (8 : Int32) + -8 = 0 := by decide
    have x4 : (0 : Int32) + -8 = -8 := by decide
    have y0 : ¬ ((24 : Int32) < 0) := by decide
    have y1 : ¬ ((16 : Int32) < 0) := by decide
    have y2 : ¬ ((8 : Int32) < 0) := by decide
    have y3 : ¬ ((0 : Int32) < 0) := by decide
    have y4 : (-8 : Int32) < 0 := by decide
    have z0 : (24 : Int32) &&& 31 = iN 24 := by decide
    have z1 : (16 : Int32) &&& 31 = iN 16 := by decide
    have z2 : (8 : Int32) &&& 31 = iN 8 := by decide
    have z3 : (0 : Int32) &&& 31 = iN 0 := by decide
    have p0 := c_put' (l := l) (f := f) ea (by omega) h0
    have p1 := c_put' (l := la) (f := upd f l w0) (l' := lb) (by omega) (by omega) h1
    have p2 := c_put' (l := lb) (f := upd (upd f l w0) la w1) (l' := lc) (by omega) (by omega) h2
    have p3 := c_put' (l := lc) (f := upd (upd (upd f l w0) la w1) lb w2) (l' := ld) (by omega) (by omega) h3
    unfold f_X1_putFour
    rw [some_jn, f_X1_putFour_3.eq_2, if_neg y0, z0, p0, bnd2_some, some_lt, x1, f_X1_putFour_3.eq_2, if_neg y1, z1, p1, bnd2_some, some_lt, x2, f_X1_putFour_3.eq_2, if_neg y2, z2, p2, bnd2_some, some_lt, x3, f_X1_putFour_3.eq_2, if_neg y3, z3, p3, bnd2_some, some_lt, x4, f_X1_putFour_3.eq_2, if_pos y4]
  · rw [upd_ne (by omega), upd_ne (by omega), upd_ne (by omega), upd_ne (by omega)]
  · rcases (show i = 0 ∨ i = 1 ∨ i = 2 ∨ i = 3 by omega) with rfl | rfl | rfl | rfl
    · rw [upd_ne (by omega), upd_ne (by omega), upd_ne (by omega), show l + 0 = l from rfl, upd_self, h0]
    · rw [upd_ne (by omega), upd_ne (by omega), ← ea, upd_self, h1]
    · rw [upd_ne (by omega), ← eb, upd_self, h2]
    · rw [← ec, upd_self, h3]
def apW (p1 p2 p3 p4 p5 : Int32) (i : Nat) : Int32 := (if i < 4 then p1 else if i < 8 then p2 else if i < 12 then p3 else if i < 16 then p4 else p5) >>> iN (24 - 8 * (i % 4))
theorem and31 {a : Nat} (ha : a < 32) : iN a &&& 31 = iN a := by
  have : ∀ a : Fin 32, iN a.1 &&& 31 = iN a.1 := by decide
  exact this ⟨a, ha⟩
theorem r_append (hl : l + 20 ≤ 900) (hN : 1000 < N) (K : Int32 → (Nat → Int32) → Option (Int32 × Int32 × Int32 × (Nat → Int32))) :
    f_X8_append_34 p1 p2 p3 p4 p5 K N 0 (iN l) f = K (iN (l + 20)) (fun j => if l ≤ j ∧ j < l + 20 then apW p1 p2 p3 p4 p5 (j - l) &&& 255 else f j) := by
  have : ∀ m i, i ≤ 20 → 20 - i < m → f_X8_append_34 p1 p2 p3 p4 p5 K m (iN i) (iN (l + i)) (fun j => if l ≤ j ∧ j < l + i then apW p1 p2 p3 p4 p5 (j - l) &&& 255 else f j) = K (iN (l + 20)) (fun j => if l ≤ j ∧ j < l + 20 then apW p1 p2 p3 p4 p5 (j - l) &&& 255 else f j) := by
    intro m
    induction m with
    | zero => intro i h1 h2; omega
    | succ m ih =>
      intro i h1 h2
      rw [f_X8_append_34.eq_2]
      by_cases h3 : i = 20
      · subst h3; simp (disch := omega) only [Nat.add_zero, iN_lit, iN_lt, iN_le, iN_eq, iN_add, iN_mul, iN_sub, iN_nat, iN_div, iN_mod, iN_pred', n1_lt, n1_le, n1_ne, n1_ne', n1_nle, n1_nlt, n1_eq, oobN, some_lt, some_jn, bnd_some, Bool.false_eq_true, if_true, if_false, ite_true, ite_false, ↓reduceIte, ltT, ltF, leT, leF, eqT, eqF, true_and, and_true, false_and, and_false, true_or, or_true, false_or, or_false, not_true_eq_false, not_false_eq_true, if_pos, if_neg]
      · have h4 := ih (i + 1) (by omega) (by omega)
        have h5 : upd (fun j => if l ≤ j ∧ j < l + i then apW p1 p2 p3 p4 p5 (j - l) &&& 255 else f j) (l + i) (apW p1 p2 p3 p4 p5 i &&& 255) = fun j => if l ≤ j ∧ j < l + (i + 1) then apW p1 p2 p3 p4 p5 (j - l) &&& 255 else f j := by
          funext j
          by_cases hj : j = l + i
          · subst hj; rw [upd_self, if_pos (by omega), show l + i - l = i by omega]
          · rw [upd_ne hj]
            by_cases hj2 : l ≤ j ∧ j < l + i
            · rw [if_pos hj2, if_pos (by omega)]
            · rw [if_neg hj2, if_neg (by omega)]
        have e20 : ((20 : Int32) ≤ iN i) = False := eq_false (by show ¬ iN 20 ≤ iN i; rw [iN_le (by omega) (by omega)]; omega)
        have eo : oob (iN (l + i)) 900 = False := eq_false (by rw [oobN (by omega)]; omega)
        have esh : (24 - (8 * (iN i - iN i / 4 * 4))) &&& 31 = iN (24 - 8 * (i % 4)) := by
          have e1 : iN i - iN i / 4 * 4 = iN (i % 4) := by
            show iN i - iN i / iN 4 * iN 4 = _
            rw [iN_div (by omega) (by omega), iN_mul, iN_sub (by omega)]; congr 1; omega
          rw [e1, show (8 : Int32) * iN (i % 4) = iN (8 * (i % 4)) from iN_mul 8 _, show (24 : Int32) - iN (8 * (i % 4)) = iN (24 - 8 * (i % 4)) from iN_sub (a := 24) (by omega), and31 (by omega)]
        have ew : ∀ (k : Int32 → Option (Int32 × Int32 × Int32 × (Nat → Int32))), (if (4 : Int32) ≤ iN i then (if (8 : Int32) ≤ iN i then (if (12 : Int32) ≤ iN i then (if (16 : Int32) ≤ iN i then k p5 else k p4) else k p3) else k p2) else k p1) = k (if i < 4 then p1 else if i < 8 then p2 else if i < 12 then p3 else if i < 16 then p4 else p5) := by
          intro k
          by_cases c1 : i < 4
          · simp (disch := omega) only [Nat.add_zero, iN_lit, iN_lt, iN_le, iN_eq, iN_add, iN_mul, iN_sub, iN_nat, iN_div, iN_mod, iN_pred', n1_lt, n1_le, n1_ne, n1_ne', n1_nle, n1_nlt, n1_eq, oobN, some_lt, some_jn, bnd_some, Bool.false_eq_true, if_true, if_false, ite_true, ite_false, ↓reduceIte, ltT, ltF, leT, leF, eqT, eqF, true_and, and_true, false_and, and_false, true_or, or_true, false_or, or_false, not_true_eq_false, not_false_eq_true, if_pos, if_neg]
          · by_cases c2 : i < 8
            · simp (disch := omega) only [Nat.add_zero, iN_lit, iN_lt, iN_le, iN_eq, iN_add, iN_mul, iN_sub, iN_nat, iN_div, iN_mod, iN_pred', n1_lt, n1_le, n1_ne, n1_ne', n1_nle, n1_nlt, n1_eq, oobN, some_lt, some_jn, bnd_some, Bool.false_eq_true, if_true, if_false, ite_true, ite_false, ↓reduceIte, ltT, ltF, leT, leF, eqT, eqF, true_and, and_true, false_and, and_false, true_or, or_true, false_or, or_false, not_true_eq_false, not_false_eq_true, if_pos, if_neg]
            · by_cases c3 : i < 12
              · simp (disch := omega) only [Nat.add_zero, iN_lit, iN_lt, iN_le, iN_eq, iN_add, iN_mul, iN_sub, iN_nat, iN_div, iN_mod, iN_pred', n1_lt, n1_le, n1_ne, n1_ne', n1_nle, n1_nlt, n1_eq, oobN, some_lt, some_jn, bnd_some, Bool.false_eq_true, if_true, if_false, ite_true, ite_false, ↓reduceIte, ltT, ltF, leT, leF, eqT, eqF, true_and, and_true, false_and, and_false, true_or, or_true, false_or, or_false, not_true_eq_false, not_false_eq_true, if_pos, if_neg]
              · by_cases c4 : i < 16
                · simp (disch := omega) only [Nat.add_zero, iN_lit, iN_lt, iN_le, iN_eq, iN_add, iN_mul, iN_sub, iN_nat, iN_div, iN_mod, iN_pred', n1_lt, n1_le, n1_ne, n1_ne', n1_nle, n1_nlt, n1_eq, oobN, some_lt, some_jn, bnd_some, Bool.false_eq_true, if_true, if_false, ite_true, ite_false, ↓reduceIte, ltT, ltF, leT, leF, eqT, eqF, true_and, and_true, false_and, and_false, true_or, or_true, false_or, or_false, not_true_eq_false, not_false_eq_true, if_pos, if_neg]
                · simp (disch := omega) only [Nat.add_zero, iN_lit, iN_lt, iN_le, iN_eq, iN_add, iN_mul, iN_sub, iN_nat, iN_div, iN_mod, iN_pred', n1_lt, n1_le, n1_ne, n1_ne', n1_nle, n1_nlt, n1_eq, oobN, some_lt, some_jn, bnd_some, Bool.false_eq_true, if_true, if_false, ite_true, ite_false, ↓reduceIte, ltT, ltF, leT, leF, eqT, eqF, true_and, and_true, false_and, and_false, true_or, or_true, false_or, or_false, not_true_eq_false, not_false_eq_true, if_pos, if_neg]
        simp only [e20, if_false, some_jn, ew, eo, some_lt, esh, iN_nat (show l + i < 2147483648 by omega), show iN (l + i) + 1 = iN (l + (i + 1)) from iN_add (l + i) 1, show iN i + 1 = iN (i + 1) from iN_add i 1]
        have h6 : apW p1 p2 p3 p4 p5 i = (if i < 4 then p1 else if i < 8 then p2 else if i < 12 then p3 else if i < 16 then p4 else p5) >>> iN (24 - 8 * (i % 4)) := rfl
        rw [← h6, h5]
        exact h4
  have h := this N 0 (by omega) (by omega)
  have e : (fun j => if l ≤ j ∧ j < l + 0 then apW p1 p2 p3 p4 p5 (j - l) &&& 255 else f j) = f := by
    funext j; rw [if_neg (by omega)]
  rw [e] at h
  exact h
theorem m_append {bl mb : Int32} {bb mf : Nat → Int32} (h : BF bl bb mb mf) (hN : 1000 < N) :
    (∃ r bl' bb' mb' mf', f_X7_append N bl bb 900 p1 p2 p3 p4 p5 = some (Sum.inr (r, bl', bb')) ∧ f_X8_append N mb mf p1 p2 p3 p4 p5 = some (r, 0, mb', mf') ∧ BF bl' bb' mb' mf') ∨
    (∃ r, f_X7_append N bl bb 900 p1 p2 p3 p4 p5 = some (Sum.inl "java/lang/IllegalStateException") ∧ f_X8_append N mb mf p1 p2 p3 p4 p5 = some (r, 1, mb, mf)) := by
  obtain ⟨len, h1, rfl, rfl, h2⟩ := h
  unfold f_X7_append f_X8_append
  by_cases hl : len + 20 ≤ 900
  · left
    have e : (iN len + 20 ≤ (900 : Int32)) = True := eq_true (by show iN len + iN 20 ≤ iN 900; rw [iN_add, iN_le (by omega) (by omega)]; exact hl)
    obtain ⟨f1, a1, b1, d1⟩ := c_putFour (N := N) (l := len) (f := bb) (v := p1) (by omega) hN
    obtain ⟨f2, a2, b2, d2⟩ := c_putFour (N := N) (l := len + 4) (f := f1) (v := p2) (by omega) hN
    obtain ⟨f3, a3, b3, d3⟩ := c_putFour (N := N) (l := len + 4 + 4) (f := f2) (v := p3) (by omega) hN
    obtain ⟨f4, a4, b4, d4⟩ := c_putFour (N := N) (l := len + 4 + 4 + 4) (f := f3) (v := p4) (by omega) hN
    obtain ⟨f5, a5, b5, d5⟩ := c_putFour (N := N) (l := len + 4 + 4 + 4 + 4) (f := f4) (v := p5) (by omega) hN
    rw [show len + 4 + 4 + 4 + 4 + 4 = len + 20 by omega] at a5
    refine ⟨iN (len + 20), iN (len + 20), f5, iN (len + 20), (fun j => if len ≤ j ∧ j < len + 20 then apW p1 p2 p3 p4 p5 (j - len) &&& 255 else mf j), ?_, ?_, len + 20, hl, rfl, rfl, fun j hj => ?_⟩
    · simp only [e, if_true, a1, bnd2, a2, a3, a4, a5, inR]
    · simp only [e, if_true, some_jn, show ((0 : Int32) ≤ 0) = True from eq_true (by decide), r_append hl hN]
    · by_cases hj0 : j < len
      · have q := h2 j hj0
        show BY (f5 j) (if len ≤ j ∧ j < len + 20 then apW p1 p2 p3 p4 p5 (j - len) &&& 255 else mf j)
        rw [if_neg (by omega), b5 j (by omega), b4 j (by omega), b3 j (by omega), b2 j (by omega), b1 j hj0]
        exact q
      · show BY (f5 j) (if len ≤ j ∧ j < len + 20 then apW p1 p2 p3 p4 p5 (j - len) &&& 255 else mf j)
        rw [if_pos (by omega)]
        refine ⟨apW p1 p2 p3 p4 p5 (j - len), ?_, rfl⟩
        unfold apW
        obtain ⟨i, rfl⟩ : ∃ i, j = len + i := ⟨j - len, by omega⟩
        rw [show len + i - len = i by omega]
        by_cases c1 : i < 4
        · rw [if_pos c1, b5 _ (by omega), b4 _ (by omega), b3 _ (by omega), b2 _ (by omega), d1 i c1, Nat.mod_eq_of_lt c1]
        · by_cases c2 : i < 8
          · rw [if_neg c1, if_pos c2, b5 _ (by omega), b4 _ (by omega), b3 _ (by omega), show len + i = len + 4 + (i - 4) by omega, d2 _ (by omega), show i % 4 = i - 4 by omega]
          · by_cases c3 : i < 12
            · rw [if_neg c1, if_neg c2, if_pos c3, b5 _ (by omega), b4 _ (by omega), show len + i = len + 4 + 4 + (i - 8) by omega, d3 _ (by omega), show i % 4 = i - 8 by omega]
            · by_cases c4 : i < 16
              · rw [if_neg c1, if_neg c2, if_neg c3, if_pos c4, b5 _ (by omega), show len + i = len + 4 + 4 + 4 + (i - 12) by omega, d4 _ (by omega), show i % 4 = i - 12 by omega]
              · rw [if_neg c1, if_neg c2, if_neg c3, if_neg c4, show len + i = len + 4 + 4 + 4 + 4 + (i - 16) by omega, d5 _ (by omega), show i % 4 = i - 16 by omega]
  · right
    have e : (iN len + 20 ≤ (900 : Int32)) = False := eq_false (by show ¬ iN len + iN 20 ≤ iN 900; rw [iN_add, iN_le (by omega) (by omega)]; exact hl)
    refine ⟨0, ?_, ?_⟩
    · simp only [e, if_false]
    · simp only [e, if_false, some_jn, show ((1 : Int32) ≤ 0) = False from eq_false (by decide)]
theorem m_errorPosition {x y : Int32} (h : x = y) : ∃ r, f_X7_errorPosition x = some r ∧ f_X8_errorPosition y = some (r, 0) := ⟨x, rfl, by subst h; rfl⟩
end APP
