section WRP
variable {H N n : Nat} {pd tc gv sz pc kc rc : Int32} {nu bo en he so st kn pr se ky ss vs a f g : Nat → Int32}
/-- what is written, on both sides -/
def WR (wl : Int32) (wb : Nat → Int32) (wm : Int32) (wf : Nat → Int32) : Prop := ∃ len, len ≤ 1302 ∧ wl = iN len ∧ wm = iN len ∧ ∀ j, j < len → wb j = wf j
theorem m_writtenByte {wl wm x : Int32} {wb wf : Nat → Int32} (h : WR wl wb wm wf) :
    (∃ r, f_X7_writtenByte wl wb 1302 x = some (Sum.inr r) ∧ f_X8_writtenByte wm wf x = some (r, 0)) ∨ (∃ r, f_X7_writtenByte wl wb 1302 x = some (Sum.inl "java/lang/IndexOutOfBoundsException") ∧ f_X8_writtenByte wm wf x = some (r, 1)) := by
  obtain ⟨len, h1, rfl, rfl, h2⟩ := h
  have e10 : ((1 : Int32) = 0) = False := eq_false (by decide)
  have e01 : ((1 : Int32) ≤ 0) = False := eq_false (by decide)
  have e00 : ((0 : Int32) ≤ 0) = True := eq_true (by decide)
  unfold f_X7_writtenByte f_X8_writtenByte
  rcases idx_cases x len (by omega) with ⟨m, g1, rfl, g2, g3⟩ | ⟨g1, g2, g3⟩
  · left
    have e1 : f_X1_byteAt (iN len) wb 1302 (iN m) = some (wb m) := by
      show (if iN m < 0 then some 0 else (if iN len ≤ iN m then some 0 else (if iN 1302 ≤ iN m then some 0 else if oob (iN m) 1302 then none else some (wb (iN m).toNatClampNeg)))) = _
      simp (disch := omega) only [Nat.add_zero, iN_lit, iN_lt, iN_le, iN_eq, iN_add, iN_mul, iN_sub, iN_nat, iN_div, iN_mod, iN_pred', n1_lt, n1_le, n1_ne, n1_ne', n1_nle, n1_nlt, n1_eq, oobN, some_lt, some_jn, bnd_some, Bool.false_eq_true, if_true, if_false, ite_true, ite_false, ↓reduceIte, ltT, ltF, leT, leF, eqT, eqF, true_and, and_true, false_and, and_false, true_or, or_true, false_or, or_false, not_true_eq_false, not_false_eq_true, if_pos, if_neg]
    have e2 : oob (iN m) 1400 = False := eq_false (by rw [oobN (by omega)]; omega)
    refine ⟨wb m, ?_, ?_⟩
    · rw [g2]
      simp only [bndx, e1, bnd_some, inR]
    · rw [g3]
      simp only [bnd_some, e10, if_false, some_jn, e00, if_true, e2, iN_nat (show m < 2147483648 by omega), h2 m g1]
  · right
    refine ⟨0, ?_, ?_⟩
    · rw [g2]; rfl
    · rw [g3]
      simp only [bnd_some, if_true, some_jn, e01, if_false]
theorem wblank {i l : Nat} {ρ σ : Type} (hi : i ≤ 60) (hl : l < 1302) (h : ∀ j, j < l → f j = g j) : ∃ l1 f1 g1, l1 ≤ l + 1 ∧ (∀ j, j < l1 → f1 j = g1 j) ∧
    (∀ R : Int32 → (Nat → Int32) → Option ρ, jn (fun (k39_9 : Int32 → (Nat → Int32) → Option ρ) => (if iN i ≤ 0 then k39_9 (iN l) f else bnd2 (f_X1_put (iN l) f 1302 32) (fun a b => k39_9 a b))) R = R (iN l1) f1) ∧
    (∀ R : Int32 → (Nat → Int32) → Option σ, jn (fun (k39_9 : Int32 → (Nat → Int32) → Option σ) => (if iN i ≤ 0 then k39_9 (iN l) g else bnd2 (f_X8_says (iN l) g 32) (fun a b => k39_9 a b))) R = R (iN l1) g1) := by
  by_cases h0 : i = 0
  · subst h0
    exact ⟨l, f, g, by omega, h, fun R => by rw [some_jn, if_pos (by decide)], fun R => by rw [some_jn, if_pos (by decide)]⟩
  · have n0 : ¬ iN i ≤ (0 : Int32) := by show ¬ iN i ≤ iN 0; rw [iN_le (by omega) (by omega)]; omega
    have v1 : f_X1_put (iN l) f 1302 32 = some (iN (l + 1), upd f l (iN 32)) := c_putW (w := 32) (by omega) (by omega)
    have v2 : f_X8_says (iN l) g 32 = some (iN (l + 1), upd g l (iN 32)) := r_says (w := 32) (by omega)
    refine ⟨l + 1, upd f l (iN 32), upd g l (iN 32), by omega, upd_both h, fun R => ?_, fun R => ?_⟩
    · rw [some_jn, if_neg n0, v1, bnd2_some]
    · rw [some_jn, if_neg n0, v2, bnd2_some]
theorem m_writePieces (h : CRx H pd tc gv nu sz pc bo en he so st kc kn pr se rc ky ss vs a) (hN : 1000 < N) :
    ∃ r wb' wm' wf', f_X7_writePieces N sz pc bo he so st f 1302 = some (r, r, wb') ∧ f_X8_writePieces N a g = some (r, 0, wm', wf') ∧ WR r wb' wm' wf' := by
  obtain ⟨n, K, S, V, P, pe, W, k, ⟨s1, s2, s3, s4, s5, s6, s7⟩, ⟨c1, c2, c3, c4, c5, c6, c7, c8, c9⟩, ⟨r1, r2, r3, r4, r5, r6, r7, r8⟩, ⟨b1, b2, b3, b4, b5, b6⟩⟩ := h
  have hz := s1.1
  have hl := hz.len
  have hp := c2.hp
  have hp3 := r1.hp
  have loop : ∀ (K1 : Int32 → (Nat → Int32) → Option (Int32 × Int32 × (Nat → Int32))) (K2 : Int32 → (Nat → Int32) → Option (Int32 × Int32 × Int32 × (Nat → Int32))) m i l f g, i ≤ P.length → P.length - i < m → l ≤ 21 * i → (∀ j, j < l → f j = g j) → ∃ l' f' g', l' ≤ 21 * P.length ∧ (∀ j, j < l' → f' j = g' j) ∧ f_X7_writePieces_18 N sz pc bo he so st 1302 K1 m (iN i) (iN l) f = K1 (iN l') f' ∧ f_X8_writePieces_12 N a K2 m (iN i) (iN l) g = K2 (iN l') g' := by
    intro K1 K2 m
    induction m with
    | zero => intro i l f g h1 h2; omega
    | succ m ih =>
      intro i l f g h1 h2 h3 h4
      rw [f_X7_writePieces_18.eq_2, f_X8_writePieces_12.eq_2]
      by_cases hi : i = P.length
      · subst hi
        refine ⟨l, f, g, h3, h4, ?_, ?_⟩
        · rw [hp]; simp (disch := omega) only [Nat.add_zero, iN_lit, iN_lt, iN_le, iN_eq, iN_add, iN_mul, iN_sub, iN_nat, iN_div, iN_mod, iN_pred', n1_lt, n1_le, n1_ne, n1_ne', n1_nle, n1_nlt, n1_eq, oobN, some_lt, some_jn, bnd_some, Bool.false_eq_true, if_true, if_false, ite_true, ite_false, ↓reduceIte, ltT, ltF, leT, leF, eqT, eqF, true_and, and_true, false_and, and_false, true_or, or_true, false_or, or_false, not_true_eq_false, not_false_eq_true, if_pos, if_neg]
        · rw [hp3]; simp (disch := omega) only [Nat.add_zero, iN_lit, iN_lt, iN_le, iN_eq, iN_add, iN_mul, iN_sub, iN_nat, iN_div, iN_mod, iN_pred', n1_lt, n1_le, n1_ne, n1_ne', n1_nle, n1_nlt, n1_eq, oobN, some_lt, some_jn, bnd_some, Bool.false_eq_true, if_true, if_false, ite_true, ite_false, ↓reduceIte, ltT, ltF, leT, leF, eqT, eqF, true_and, and_true, false_and, and_false, true_or, or_true, false_or, or_false, not_true_eq_false, not_false_eq_true, if_pos, if_neg]
      · have hiP : i < P.length := by omega
        have t0 := c_boundOf c2 hz hiP
        have t2 := c_sizeOf c2 hz hiP
        have t3 := c_heatOf c2 hz hiP
        have t4 := c_isSorted c2 hz hiP
        have u0 := r_bd r1 hz hiP
        have u2 := r_mn r1 hz hiP
        have u3 := r_ht r1 hz hiP
        have u4 := r_so r1 hz hiP
        have q0 := hz.bd _ (List.getElem_mem hiP)
        have q2 : P[i].2.2.2.length ≤ 120 := by
          have y1 := sp_succ hiP
          have y2 := sp_le P (i + 1)
          have y3 := hz.fl
          omega
        have q3 : P[i].2.1 < 1073741824 := Nat.lt_of_le_of_lt (hsum_mem (List.getElem_mem hiP)) hz.ht
        have q4 := hz.so _ (List.getElem_mem hiP)
        generalize P[i].1 = x0 at *
        generalize P[i].2.2.2.length = x2 at *
        generalize P[i].2.1 = x3 at *
        generalize P[i].2.2.1 = x4 at *
        have x0b : x0 < 10 ^ 5 := by show x0 < 100000; omega
        have x2b : x2 < 10 ^ 3 := by show x2 < 1000; omega
        have x3b : x3 < 10 ^ 10 := by show x3 < 10000000000; omega
        have n1 : (pc ≤ iN i) = False := eq_false (by rw [hp, iN_le (by omega) (by omega)]; omega)
        have n2 : (a 3 ≤ iN i) = False := eq_false (by rw [hp3, iN_le (by omega) (by omega)]; omega)
        obtain ⟨la, fa, ga, a1, a2, a3, a4⟩ := wblank (ρ := Int32 × Int32 × (Nat → Int32)) (σ := Int32 × Int32 × Int32 × (Nat → Int32)) (i := i) (l := l) (f := f) (g := g) (by omega) (by omega) h4
        obtain ⟨lb, fb, gb, e1, e2, e3, e4⟩ := num_both (N := N) (v := x0) (d := 5) (l := la) (f := fa) (g := ga) (by omega) x0b (by omega) (by omega) (by omega) hN a2
        have v1 : f_X1_put (iN lb) fb 1302 58 = some (iN (lb + 1), upd fb lb (iN 58)) := c_putW (w := 58) (by omega) (by omega)
        have v2 : f_X8_says (iN lb) gb 58 = some (iN (lb + 1), upd gb lb (iN 58)) := r_says (w := 58) (by omega)
        obtain ⟨lc, fc, gc, o1, o2, o3, o4⟩ := num_both (N := N) (v := x2) (d := 3) (l := lb + 1) (f := upd fb lb (iN 58)) (g := upd gb lb (iN 58)) (by omega) x2b (by omega) (by omega) (by omega) hN (upd_both e4)
        obtain ⟨cs, y1, y2, y3⟩ : ∃ cs, cs < 128 ∧ (∀ R : Int32 → Option (Int32 × Int32 × (Nat → Int32)), jn (fun (k : Int32 → Option (Int32 × Int32 × (Nat → Int32))) => if iN x4 = (0 : Int32) then k 117 else k 115) R = R (iN cs)) ∧ (∀ R : Int32 → Option (Int32 × Int32 × Int32 × (Nat → Int32)), jn (fun (k : Int32 → Option (Int32 × Int32 × Int32 × (Nat → Int32))) => if iN x4 = (1 : Int32) then k 115 else k 117) R = R (iN cs)) := by
          rcases (show x4 = 0 ∨ x4 = 1 by omega) with rfl | rfl
          · exact ⟨117, by omega, fun R => by rw [some_jn, if_pos (by decide)]; rfl, fun R => by rw [some_jn, if_neg (by decide)]; rfl⟩
          · exact ⟨115, by omega, fun R => by rw [some_jn, if_neg (by decide)]; rfl, fun R => by rw [some_jn, if_pos (by decide)]; rfl⟩
        have v3 := c_putW (l := lc) (f := fc) (w := cs) (by omega) y1
        have v4 := r_says (l := lc) (g := gc) (w := cs) (by omega)
        obtain ⟨ld, fd, gd, s1, s2, s3, s4⟩ := num_both (N := N) (v := x3) (d := 10) (l := lc + 1) (f := upd fc lc (iN cs)) (g := upd gc lc (iN cs)) (by omega) x3b (by omega) (by omega) (by omega) hN (upd_both o4)
        obtain ⟨l', f', g', z1, z2, z3, z4⟩ := ih (i + 1) ld fd gd (by omega) (by omega) (by omega) s4
        refine ⟨l', f', g', z1, z2, ?_, ?_⟩
        · simp only [n1, if_false]
          rw [a3, t0, bnd_some, e1, bnd2_some, v1, bnd2_some, t2, bnd_some, o1, bnd2_some, t4, bnd_some, y2, v3, bnd2_some, t3, bnd_some, s1, bnd2_some, some_lt, show iN i + 1 = iN (i + 1) from iN_add i 1]
          exact z3
        · simp only [n2, if_false]
          rw [a4, u0, bnd_some, e2, bnd2_some, v2, bnd2_some, u2, bnd_some, o2, bnd2_some, u4, bnd_some, y3, v4, bnd2_some, u3, bnd_some, s2, bnd2_some, some_lt, show iN i + 1 = iN (i + 1) from iN_add i 1]
          exact z4
  obtain ⟨l', f', g', z1, z2, z3, z4⟩ := loop (fun a b => some (a, a, b)) (fun a b => some (a, 0, a, b)) N 0 0 f g (by omega) (by omega) (by omega) (fun j hj => absurd hj (by omega))
  unfold f_X7_writePieces f_X8_writePieces
  rw [some_jn, some_jn]
  exact ⟨iN l', f', iN l', g', z3, z4, l', by omega, rfl, rfl, z2⟩
end WRP
