theorem RX_app {a : Nat → Int32} {A : List Pc} {X : Pc} {B : List Pc} :
    RX a (A ++ X :: B) ↔ (a 3 = iN (A.length + B.length + 1) ∧ a 1 = iN ((flat A).length + (X.2.2.2.length + (flat B).length)) ∧ At a 380 (flat A ++ (X.2.2.2 ++ flat B)) ∧
      At a 540 (enc A) ∧ (a (540 + 4 * A.length) = iN X.1 ∧ a (540 + 4 * A.length + 1) = iN X.2.2.2.length ∧ a (540 + 4 * A.length + 2) = iN X.2.1 ∧ a (540 + 4 * A.length + 3) = iN X.2.2.1) ∧ At a (544 + 4 * A.length) (enc B)) := by
  have e4 : 540 + 4 * A.length + 1 + 1 + 1 + 1 = 544 + 4 * A.length := by omega
  constructor
  · rintro ⟨h1, h2, h3, h4⟩
    simp only [flat_append, flat, List.length_append, List.length_cons, enc_append, enc, At.append, At.cons, enc_length, e4] at *
    exact ⟨h1, h2, h3, h4.1, ⟨h4.2.1, h4.2.2.1, h4.2.2.2.1, h4.2.2.2.2.1⟩, h4.2.2.2.2.2⟩
  · rintro ⟨h1, h2, h3, h4, h5, h6⟩
    refine ⟨?_, ?_, ?_, ?_⟩
    · rw [h1]; simp; congr 1
    · rw [h2]; simp [flat_append, flat]
    · simpa [flat_append, flat] using h3
    · simp only [enc_append, enc, At.append, At.cons, enc_length, e4]
      exact ⟨h4, h5.1, h5.2.1, h5.2.2.1, h5.2.2.2, h6⟩
/-- the cells of the index -/
def idxR (j : Nat) : Prop := j = 1 ∨ j = 3 ∨ (380 ≤ j ∧ j < 500) ∨ (540 ≤ j ∧ j < 796)
theorem r_puts {a : Nat → Int32} {p w : Nat} {v : Int32} (hp : p ≤ 62) (hw : w < 4) : f_X8_puts a (iN p) (iN w) v = some (upd a (540 + 4 * p + w) v) := by
  unfold f_X8_puts; simp (disch := omega) only [Nat.add_zero, iN_lit, iN_lt, iN_le, iN_eq, iN_add, iN_mul, iN_sub, iN_nat, iN_div, iN_mod, iN_pred', n1_lt, n1_le, n1_ne, n1_ne', n1_nle, n1_nlt, n1_eq, oobN, some_lt, some_jn, bnd_some, Bool.false_eq_true, if_true, if_false, ite_true, ite_false, ↓reduceIte, ltT, ltF, leT, leF, eqT, eqF, true_and, and_true, false_and, and_false, true_or, or_true, false_or, or_false, not_true_eq_false, not_false_eq_true, if_pos, if_neg]
theorem upA_cpy {f : Nat → Int32} {M p : Nat} (hp : p ≤ M) : upA f M (M - p) = va_cpy f f p (p + 1) (M - p) := by
  funext j
  unfold upA va_cpy
  by_cases h : p + 1 ≤ j ∧ j < p + 1 + (M - p)
  · rw [if_pos h, if_pos (by omega)]; congr 1; omega
  · rw [if_neg h, if_neg (by omega)]
theorem dnA_cpy {f : Nat → Int32} {q i : Nat} : dnA f q i = va_cpy f f (q + 1) q i := by
  funext j
  unfold dnA va_cpy
  by_cases h : q ≤ j ∧ j < q + i
  · rw [if_pos h, if_pos h]; congr 1; omega
  · rw [if_neg h, if_neg h]
section WX
variable {n N : Nat} {a : Nat → Int32} {P : List Pc} {K : Nat → Nat}
theorem r_comes {row : Nat} (h : RX a P) (hz : SZ n P) (hk : KY n (fun r => a (20 + r)) K) (hN : 1000 < N) (hr : row < n) (hf : (flat P).length < 120) :
    ∃ a', f_X8_comes N a (iN row) (iN (pcF P (K row))) = some a' ∧ RX a' (putS K row P) ∧ a' (260 + row) = iN 0 ∧ ∀ j, ¬ idxR j → j ≠ 260 + row → a' j = a j := by
  have hl := hz.len; have hn := hz.nn
  have hp : pcF P (K row) < P.length := pcF_lt hz.one
  have e4 := r_so h hz hp
  have e6 := r_mn h hz hp
  have e5 := r_firstPlace (N := N) (p := pcF P (K row)) h hz hN (by omega)
  have hso := hz.so _ (List.getElem_mem hp)
  have h0 := h
  have hz0 := hz
  unfold putS
  generalize pcF P (K row) = p at *
  obtain ⟨A, X, B, rfl, rfl⟩ := split_at hp
  rw [mdp_app]
  have hX : (A ++ X :: B)[A.length] = X := by simp
  simp only [hX] at e4 e6 hso
  rw [sp_app] at e5
  obtain ⟨h1, h2, h3, h4, h5, h6⟩ := RX_app.mp h
  simp only [flat_append, flat, List.length_append] at hf
  simp only [List.length_append, List.length_cons] at hl
  have hloop : ∀ (k : Int32 → Option (Nat → Int32)), f_X8_comes_13 N a (iN row) (iN A.length) k N (iN ((flat A).length + X.2.2.2.length)) = k (iN ((flat A).length + if X.2.2.1 = 1 then insK K row X.2.2.2 X.2.2.2.length else X.2.2.2.length)) := by
    intro k
    by_cases hs : X.2.2.1 = 1
    · rw [if_pos hs]
      have : ∀ m j, j ≤ X.2.2.2.length → j < m → f_X8_comes_13 N a (iN row) (iN A.length) k m (iN ((flat A).length + j)) = k (iN ((flat A).length + insK K row X.2.2.2 j)) := by
        intro m
        induction m with
        | zero => intro j h1 h2; omega
        | succ m ih =>
          intro j h1 h2
          rw [f_X8_comes_13.eq_2, e4, e5, hs]
          match j with
          | 0 => simp only [insK]; simp (disch := omega) only [Nat.add_zero, iN_lit, iN_lt, iN_le, iN_eq, iN_add, iN_mul, iN_sub, iN_nat, iN_div, iN_mod, iN_pred', n1_lt, n1_le, n1_ne, n1_ne', n1_nle, n1_nlt, n1_eq, oobN, some_lt, some_jn, bnd_some, Bool.false_eq_true, if_true, if_false, ite_true, ite_false, ↓reduceIte, ltT, ltF, leT, leF, eqT, eqF, true_and, and_true, false_and, and_false, true_or, or_true, false_or, or_false, not_true_eq_false, not_false_eq_true, if_pos, if_neg]
          | j + 1 =>
            have e7 : a (380 + ((flat A).length + j)) = iN (X.2.2.2.getD j 0) := by
              have hj : (flat A).length + j < (flat (A ++ X :: B)).length := by simp [flat_append, flat]; omega
              rw [h0.en.get hj, ← fl_eq hj, fl_mid (by omega)]
            have e8 : X.2.2.2.getD j 0 < n := by
              rw [getD_get (by omega)]
              exact hz0.rs _ (by simp [flat_append, flat])
            have e9 := r_isAhead hk hn hr e8
            simp only [insK]
            rw [← e7] at e9
            have e10 : 380 + ((flat A).length + (j + 1)) - 1 = 380 + ((flat A).length + j) := by omega
            by_cases h9 : ahd K row (X.2.2.2.getD j 0) = true
            · rw [h9] at e9 ⊢
              have := ih j (by omega) (by omega)
              simp (disch := omega) only [Nat.add_zero, iN_lit, iN_lt, iN_le, iN_eq, iN_add, iN_mul, iN_sub, iN_nat, iN_div, iN_mod, iN_pred', n1_lt, n1_le, n1_ne, n1_ne', n1_nle, n1_nlt, n1_eq, oobN, some_lt, some_jn, bnd_some, Bool.false_eq_true, if_true, if_false, ite_true, ite_false, ↓reduceIte, ltT, ltF, leT, leF, eqT, eqF, true_and, and_true, false_and, and_false, true_or, or_true, false_or, or_false, not_true_eq_false, not_false_eq_true, if_pos, if_neg, e10, e9]
              exact this
            · have h9 : ahd K row (X.2.2.2.getD j 0) = false := by simpa using h9
              rw [h9] at e9 ⊢
              simp (disch := omega) only [Nat.add_zero, iN_lit, iN_lt, iN_le, iN_eq, iN_add, iN_mul, iN_sub, iN_nat, iN_div, iN_mod, iN_pred', n1_lt, n1_le, n1_ne, n1_ne', n1_nle, n1_nlt, n1_eq, oobN, some_lt, some_jn, bnd_some, Bool.false_eq_true, if_true, if_false, ite_true, ite_false, ↓reduceIte, ltT, ltF, leT, leF, eqT, eqF, true_and, and_true, false_and, and_false, true_or, or_true, false_or, or_false, not_true_eq_false, not_false_eq_true, if_pos, if_neg, e10, e9]
      exact this N _ (Nat.le_refl _) (by omega)
    · rw [if_neg hs]
      obtain ⟨M, hM⟩ : ∃ M, N = M + 1 := ⟨N - 1, by omega⟩
      rw [show f_X8_comes_13 N a (iN row) (iN A.length) k N (iN ((flat A).length + X.2.2.2.length)) = f_X8_comes_13 N a (iN row) (iN A.length) k (M + 1) (iN ((flat A).length + X.2.2.2.length)) by rw [← hM], f_X8_comes_13.eq_2, e4, show X.2.2.1 = 0 by omega]
      simp (disch := omega) only [Nat.add_zero, iN_lit, iN_lt, iN_le, iN_eq, iN_add, iN_mul, iN_sub, iN_nat, iN_div, iN_mod, iN_pred', n1_lt, n1_le, n1_ne, n1_ne', n1_nle, n1_nlt, n1_eq, oobN, some_lt, some_jn, bnd_some, Bool.false_eq_true, if_true, if_false, ite_true, ite_false, ↓reduceIte, ltT, ltF, leT, leF, eqT, eqF, true_and, and_true, false_and, and_false, true_or, or_true, false_or, or_false, not_true_eq_false, not_false_eq_true, if_pos, if_neg]
  -- the shift
  have shift : ∀ (k : (Nat → Int32) → Option (Nat → Int32)) pl, pl ≤ (flat A).length + (X.2.2.2.length + (flat B).length) →
      f_X8_comes_66 (iN pl) k N (iN ((flat A).length + (X.2.2.2.length + (flat B).length))) a = k (va_cpy a a (380 + pl) (380 + pl + 1) ((flat A).length + (X.2.2.2.length + (flat B).length) - pl)) := by
    intro k pl hpl
    generalize hM : (flat A).length + (X.2.2.2.length + (flat B).length) = M at *
    have : ∀ m i, i ≤ M - pl → M - pl - i < m → f_X8_comes_66 (iN pl) k m (iN (M - i)) (upA a (380 + M) i) = k (upA a (380 + M) (M - pl)) := by
      intro m
      induction m with
      | zero => intro i h1 h2; omega
      | succ m ih =>
        intro i h1 h2
        rw [f_X8_comes_66.eq_2]
        by_cases h3 : i = M - pl
        · subst h3; simp (disch := omega) only [Nat.add_zero, iN_lit, iN_lt, iN_le, iN_eq, iN_add, iN_mul, iN_sub, iN_nat, iN_div, iN_mod, iN_pred', n1_lt, n1_le, n1_ne, n1_ne', n1_nle, n1_nlt, n1_eq, oobN, some_lt, some_jn, bnd_some, Bool.false_eq_true, if_true, if_false, ite_true, ite_false, ↓reduceIte, ltT, ltF, leT, leF, eqT, eqF, true_and, and_true, false_and, and_false, true_or, or_true, false_or, or_false, not_true_eq_false, not_false_eq_true, if_pos, if_neg]
        · have h4 := ih (i + 1) (by omega) (by omega)
          have h5 := upA_step (f := a) (M := 380 + M) (i := i) (by omega)
          rw [show 380 + M - i = 380 + (M - i) by omega] at h5
          rw [show iN (M - i) + (-1) = iN (M - (i + 1)) from iN_pred (by omega)]
          simp (disch := omega) only [Nat.add_zero, iN_lit, iN_lt, iN_le, iN_eq, iN_add, iN_mul, iN_sub, iN_nat, iN_div, iN_mod, iN_pred', n1_lt, n1_le, n1_ne, n1_ne', n1_nle, n1_nlt, n1_eq, oobN, some_lt, some_jn, bnd_some, Bool.false_eq_true, if_true, if_false, ite_true, ite_false, ↓reduceIte, ltT, ltF, leT, leF, eqT, eqF, true_and, and_true, false_and, and_false, true_or, or_true, false_or, or_false, not_true_eq_false, not_false_eq_true, if_pos, if_neg, h5]
          exact h4
    have h7 := this N 0 (by omega) (by omega)
    rw [show upA a (380 + M) 0 = a by funext j; unfold upA; rw [if_neg (by omega)], Nat.sub_zero] at h7
    rw [h7, show M - pl = 380 + M - (380 + pl) by omega, upA_cpy (by omega)]
  have hle := insK_le K row X.2.2.2 X.2.2.2.length
  have fin : ∀ L1 L2, X.2.2.2 = L1 ++ L2 → (putPc K row X).2.2.2 = L1 ++ row :: L2 → (∀ k : Int32 → Option (Nat → Int32), f_X8_comes_13 N a (iN row) (iN A.length) k N (iN ((flat A).length + X.2.2.2.length)) = k (iN ((flat A).length + L1.length))) →
      ∃ a', f_X8_comes N a (iN row) (iN A.length) = some a' ∧ RX a' (A ++ ([putPc K row X] ++ B)) ∧ a' (260 + row) = iN 0 ∧ ∀ j, ¬ idxR j → j ≠ 260 + row → a' j = a j := by
    intro L1 L2 hL hP hlp
    have hlen : X.2.2.2.length = L1.length + L2.length := by rw [hL]; simp
    have hs := fun k => shift k ((flat A).length + L1.length) (by omega)
    have c1 : ∀ j, (j < 380 ∨ 500 ≤ j) → va_cpy a a (380 + ((flat A).length + L1.length)) (380 + ((flat A).length + L1.length) + 1) ((flat A).length + (X.2.2.2.length + (flat B).length) - ((flat A).length + L1.length)) j = a j := fun j hj => by
      unfold va_cpy; rw [if_neg (by omega)]
    have g1 := c1 1 (by omega)
    have g2 := c1 (540 + 4 * A.length + 1) (by omega)
    generalize hc : va_cpy a a (380 + ((flat A).length + L1.length)) (380 + ((flat A).length + L1.length) + 1) ((flat A).length + (X.2.2.2.length + (flat B).length) - ((flat A).length + L1.length)) = c at *
    refine ⟨upd (upd (upd (upd c (380 + ((flat A).length + L1.length)) (iN row)) 1 (iN ((flat A).length + (X.2.2.2.length + (flat B).length) + 1))) (540 + 4 * A.length + 1) (iN (X.2.2.2.length + 1))) (260 + row) (iN 0), ?_, ?_, upd_self _ _ _, fun j hj1 hj2 => ?_⟩
    · unfold f_X8_comes
      rw [e5, bnd_some, e6, bnd_some, some_lt, some_jn, iN_add, hlp, some_lt, h2, some_jn, hs]
      have e11 : f_X8_of (upd (upd c (380 + ((flat A).length + L1.length)) (iN row)) 1 (iN ((flat A).length + (X.2.2.2.length + (flat B).length) + 1))) (iN A.length) (iN 1) = some (iN X.2.2.2.length) := by
        rw [r_of (by omega) (by omega), upd_ne (by omega), upd_ne (by omega), g2, h5.2.1]
      have e12 : f_X8_puts (upd (upd c (380 + ((flat A).length + L1.length)) (iN row)) 1 (iN ((flat A).length + (X.2.2.2.length + (flat B).length) + 1))) (iN A.length) (iN 1) (iN (X.2.2.2.length + 1)) = some (upd (upd (upd c (380 + ((flat A).length + L1.length)) (iN row)) 1 (iN ((flat A).length + (X.2.2.2.length + (flat B).length) + 1))) (540 + 4 * A.length + 1) (iN (X.2.2.2.length + 1))) := r_puts (by omega) (by omega)
      have e13 : upd c (380 + ((flat A).length + L1.length)) (iN row) 1 = iN ((flat A).length + (X.2.2.2.length + (flat B).length)) := by rw [upd_ne (by omega), g1, h2]
      simp (disch := omega) only [Nat.add_zero, iN_lit, iN_lt, iN_le, iN_eq, iN_add, iN_mul, iN_sub, iN_nat, iN_div, iN_mod, iN_pred', n1_lt, n1_le, n1_ne, n1_ne', n1_nle, n1_nlt, n1_eq, oobN, some_lt, some_jn, bnd_some, Bool.false_eq_true, if_true, if_false, ite_true, ite_false, ↓reduceIte, ltT, ltF, leT, leF, eqT, eqF, true_and, and_true, false_and, and_false, true_or, or_true, false_or, or_false, not_true_eq_false, not_false_eq_true, if_pos, if_neg, e13, e11, e12]
    · show RX _ (A ++ putPc K row X :: B)
      have ins := At.ins (f := a) (L1 := flat A ++ L1) (L2 := L2 ++ flat B) (row := row) (o := 380) (by rw [hL] at h3; simpa [List.append_assoc] using h3)
      rw [List.length_append, List.length_append, show L2.length + (flat B).length = (flat A).length + (X.2.2.2.length + (flat B).length) - ((flat A).length + L1.length) by omega, hc] at ins
      refine RX_app.mpr ⟨?_, ?_, ?_, ?_, ⟨?_, ?_, ?_, ?_⟩, ?_⟩
      · rw [upd_ne (by omega), upd_ne (by omega), upd_ne (by omega), upd_ne (by omega), c1 _ (by omega), h1]
      · rw [upd_ne (by omega), upd_ne (by omega), upd_self, hP]; simp [hlen]; congr 1; omega
      · rw [hP]
        refine (show At _ 380 (flat A ++ L1 ++ row :: (L2 ++ flat B)) → _ from fun q => by simpa [List.append_assoc] using q) ?_
        refine ins.congr (fun j hj1 hj2 => ?_)
        simp at hj2
        rw [upd_ne (by omega), upd_ne (by omega), upd_ne (by omega)]
      · refine h4.congr (fun j hj1 hj2 => ?_)
        rw [enc_length] at hj2
        rw [upd_ne (by omega), upd_ne (by omega), upd_ne (by omega), upd_ne (by omega), c1 _ (by omega)]
      · rw [upd_ne (by omega), upd_ne (by omega), upd_ne (by omega), upd_ne (by omega), c1 _ (by omega)]; exact h5.1
      · rw [upd_ne (by omega), upd_self, hP]; simp [hlen]; congr 1
      · rw [upd_ne (by omega), upd_ne (by omega), upd_ne (by omega), upd_ne (by omega), c1 _ (by omega)]; exact h5.2.2.1
      · rw [upd_ne (by omega), upd_ne (by omega), upd_ne (by omega), upd_ne (by omega), c1 _ (by omega)]; exact h5.2.2.2
      · refine h6.congr (fun j hj1 hj2 => ?_)
        rw [enc_length] at hj2
        rw [upd_ne (by omega), upd_ne (by omega), upd_ne (by omega), upd_ne (by omega), c1 _ (by omega)]
    · unfold idxR at hj1
      rw [upd_ne (by omega), upd_ne (by omega), upd_ne (by omega), upd_ne (by omega), c1 _ (by omega)]
  by_cases hs : X.2.2.1 = 1
  · refine fin (X.2.2.2.take (insK K row X.2.2.2 X.2.2.2.length)) (X.2.2.2.drop (insK K row X.2.2.2 X.2.2.2.length)) (by simp) (by unfold putPc; rw [if_pos hs]; rfl) (fun k => ?_)
    rw [hloop, if_pos hs, List.length_take, Nat.min_eq_left hle]
  · refine fin X.2.2.2 [] (by simp) (by unfold putPc; rw [if_neg hs]) (fun k => ?_)
    rw [hloop, if_neg hs]
end WX
