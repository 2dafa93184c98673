theorem IX_app {sz pc : Int32} {en bo he so st : Nat → Int32} {A : List Pc} {X : Pc} {B : List Pc} :
    IX sz pc en bo he so st (A ++ X :: B) ↔ (pc = iN (A.length + B.length + 1) ∧ sz = iN ((flat A).length + (X.2.2.2.length + (flat B).length)) ∧ At en 0 (flat A ++ (X.2.2.2 ++ flat B)) ∧
      (At bo 0 (A.map (fun X : Pc => X.1)) ∧ bo A.length = iN X.1 ∧ At bo (A.length + 1) (B.map (fun X : Pc => X.1))) ∧ (At he 0 (A.map (fun X : Pc => X.2.1)) ∧ he A.length = iN X.2.1 ∧ At he (A.length + 1) (B.map (fun X : Pc => X.2.1))) ∧
      (At so 0 (A.map (fun X : Pc => X.2.2.1)) ∧ so A.length = iN X.2.2.1 ∧ At so (A.length + 1) (B.map (fun X : Pc => X.2.2.1))) ∧ (At st 0 (sts 0 A) ∧ st A.length = iN (flat A).length ∧ At st (A.length + 1) (sts ((flat A).length + X.2.2.2.length) B))) := by
  constructor
  · rintro ⟨h1, h2, h3, h4, h5, h6, h7⟩
    simp only [flat_append, flat, List.length_append, List.length_cons, List.map_append, List.map_cons, sts_append, sts, At.append, At.cons, List.length_map, sts_length, Nat.zero_add] at *
    exact ⟨h1, h2, h3, h4, h5, h6, h7⟩
  · rintro ⟨h1, h2, h3, h4, h5, h6, h7⟩
    refine ⟨?_, ?_, ?_, ?_, ?_, ?_, ?_⟩ <;> simp only [flat_append, flat, List.length_append, List.length_cons, List.map_append, List.map_cons, sts_append, sts, At.append, At.cons, List.length_map, sts_length, Nat.zero_add] at * <;> first | assumption | omega
section WR
variable {n N : Nat} {sz pc : Int32} {en bo he so st ky : Nat → Int32} {P : List Pc} {K : Nat → Nat}
theorem c_pieceFor' {key : Nat} (h : IX sz pc en bo he so st P) (hz : SZ n P) (hk : key < 2147483648) (hN : 1000 < N) : f_X3_pieceFor N pc bo (iN key) = some (iN (pcF P key)) := by
  have hl := hz.len; have h1 := hz.one
  have h2 := c_pieceFor (L := P.map (fun X : Pc => X.1)) (key := key) (N := N) h.bo (by simpa using hl) (by simpa using h1) (fun x hx => by
    obtain ⟨p, hp, rfl⟩ := List.mem_map.mp hx
    have := hz.bd p hp; omega) hk (by omega)
  rw [List.length_map, ← h.hp] at h2
  exact h2
theorem c_putIn {row : Nat} (h : IX sz pc en bo he so st P) (hz : SZ n P) (hk : KY n ky K) (hN : 1000 < N) (hr : row < n) (hf : (flat P).length < 120) :
    ∃ sz' en' st', f_X3_putIn N sz pc bo en so st ky (iN row) = some (sz', en', st') ∧ IX sz' pc en' bo he so st' (putS K row P) := by
  have hKr := (hk row hr).2
  have hl := hz.len; have hn := hz.nn
  have hp : pcF P (K row) < P.length := pcF_lt hz.one
  have e1 := c_keyOf hk hn hr
  have e2 := c_pieceFor' (key := K row) h hz (by omega) hN
  have e3 := c_startOf (p := pcF P (K row) + 1) h hz (by omega)
  have e4 := c_isSorted h hz hp
  have e5 := c_startOf (p := pcF P (K row)) h hz (by omega)
  have h0 := h
  have hz0 := hz
  unfold putS
  generalize pcF P (K row) = p at *
  obtain ⟨A, X, B, rfl, rfl⟩ := split_at hp
  rw [mdp_app]
  have hX : (A ++ X :: B)[A.length] = X := by simp
  rw [hX] at e4
  rw [sp_app1] at e3
  rw [sp_app] at e5
  obtain ⟨rfl, rfl, h3, h4, h5, h6, h7⟩ := IX_app.mp h
  simp only [flat_append, flat, List.length_append] at hf
  have hXso := hz.so X (by simp)
  simp only [List.length_append, List.length_cons] at hl
  -- the search
  have loop : ∀ (k : Int32 → Option (Int32 × (Nat → Int32) × (Nat → Int32))) m j, j ≤ X.2.2.2.length → j < m →
      f_X3_putIn_40 (iN ((flat A).length + (X.2.2.2.length + (flat B).length))) en ky (iN row) (iN (flat A).length) k m (iN ((flat A).length + j)) = k (iN ((flat A).length + insK K row X.2.2.2 j)) := by
    intro k m
    induction m with
    | zero => intro j h1 h2; omega
    | succ m ih =>
      intro j h1 h2
      rw [f_X3_putIn_40.eq_2]
      match j with
      | 0 => simp only [insK]; simp (disch := omega) only [Nat.add_zero, iN_lit, iN_lt, iN_le, iN_eq, iN_add, iN_mul, iN_sub, iN_nat, iN_div, iN_mod, iN_pred', n1_lt, n1_le, n1_ne, n1_ne', n1_nle, n1_nlt, n1_eq, oobN, some_lt, some_jn, bnd_some, Bool.false_eq_true, if_true, if_false, ite_true, ite_false, ↓reduceIte, ltT, ltF, leT, leF, eqT, eqF, true_and, and_true, false_and, and_false, true_or, or_true, false_or, or_false, not_true_eq_false, not_false_eq_true, if_pos, if_neg]
      | j + 1 =>
        have hj : (flat A).length + j < (flat (A ++ X :: B)).length := by simp [flat_append, flat]; omega
        have e6 := c_rowAt h0 hz0 hj
        have e7 : (flat (A ++ X :: B))[(flat A).length + j] = X.2.2.2.getD j 0 := by
          simp only [flat_append, flat]
          rw [List.getElem_append_right (by omega), List.getElem_append_left (by simp; omega), getD_get (by omega)]
          congr 1; omega
        have e8 : X.2.2.2.getD j 0 < n := by rw [← e7]; exact hz0.rs _ (List.getElem_mem hj)
        rw [e7] at e6
        have e9 := c_isAhead hk hn hr e8
        rw [show iN ((flat A).length + (j + 1)) - 1 = iN ((flat A).length + j) from iN_sub (a := (flat A).length + j + 1) (b := 1) (by omega), e6, bnd_some, e9, bnd_some]
        simp only [insK]
        by_cases h9 : ahd K row (X.2.2.2.getD j 0) = true
        · rw [h9]
          have := ih j (by omega) (by omega)
          simp (disch := omega) only [Nat.add_zero, iN_lit, iN_lt, iN_le, iN_eq, iN_add, iN_mul, iN_sub, iN_nat, iN_div, iN_mod, iN_pred', n1_lt, n1_le, n1_ne, n1_ne', n1_nle, n1_nlt, n1_eq, oobN, some_lt, some_jn, bnd_some, Bool.false_eq_true, if_true, if_false, ite_true, ite_false, ↓reduceIte, ltT, ltF, leT, leF, eqT, eqF, true_and, and_true, false_and, and_false, true_or, or_true, false_or, or_false, not_true_eq_false, not_false_eq_true, if_pos, if_neg]
          exact this
        · have h9 : ahd K row (X.2.2.2.getD j 0) = false := by simpa using h9
          rw [h9]
          simp (disch := omega) only [Nat.add_zero, iN_lit, iN_lt, iN_le, iN_eq, iN_add, iN_mul, iN_sub, iN_nat, iN_div, iN_mod, iN_pred', n1_lt, n1_le, n1_ne, n1_ne', n1_nle, n1_nlt, n1_eq, oobN, some_lt, some_jn, bnd_some, Bool.false_eq_true, if_true, if_false, ite_true, ite_false, ↓reduceIte, ltT, ltF, leT, leF, eqT, eqF, true_and, and_true, false_and, and_false, true_or, or_true, false_or, or_false, not_true_eq_false, not_false_eq_true, if_pos, if_neg]
  have fin : ∀ L1 L2, X.2.2.2 = L1 ++ L2 → (putPc K row X).2.2.2 = L1 ++ row :: L2 → IX (iN ((flat A).length + (X.2.2.2.length + (flat B).length) + 1)) (iN (A.length + B.length + 1)) (upd (va_cpy en en ((flat A).length + L1.length) ((flat A).length + L1.length + 1) (L2.length + (flat B).length)) ((flat A).length + L1.length) (iN row)) bo he so (fun j => if A.length + 1 ≤ j ∧ j < A.length + B.length + 1 then st j + iN 1 else st j) (A ++ ([putPc K row X] ++ B)) := by
    intro L1 L2 hL hP
    show IX _ _ _ _ _ _ _ (A ++ putPc K row X :: B)
    refine IX_app.mpr ⟨rfl, ?_, ?_, h4, h5, h6, ?_, ?_, ?_⟩
    · rw [hP, hL]; simp; congr 1; omega
    · rw [hP]
      rw [hL] at h3
      have := At.ins (L1 := flat A ++ L1) (L2 := L2 ++ flat B) (row := row) (by simpa [List.append_assoc] using h3)
      simpa [List.append_assoc] using this
    · refine h7.1.congr (fun j h1 h2 => ?_)
      rw [sts_length] at h2
      rw [if_neg (by omega)]
    · rw [if_neg (by omega)]; exact h7.2.1
    · have hlen : (putPc K row X).2.2.2.length = X.2.2.2.length + 1 := by rw [hP, hL]; simp; omega
      rw [hlen, ← Nat.add_assoc]
      refine At.shift (d := 1) h7.2.2 (fun j h1 h2 => ?_)
      rw [if_pos (by omega)]
  have hsh := c_shiftStarts (st := st) (P := A.length + B.length + 1) (f := A.length + 1) (w := iN 1) (by omega) (by omega) hN
  unfold f_X3_putIn
  rw [e1, bnd_some, e2, bnd_some, show iN A.length + 1 = iN (A.length + 1) from iN_add _ 1, e3, bnd_some, e4, bnd_some, some_jn, e5]
  rcases Nat.le_one_iff_eq_zero_or_eq_one.mp hXso with h8 | h8
  · rw [h8]
    have lp : ∀ k, f_X3_putIn_40 (iN ((flat A).length + (X.2.2.2.length + (flat B).length))) en ky (iN row) (iN ((flat A).length + X.2.2.2.length)) k N (iN ((flat A).length + X.2.2.2.length)) = k (iN ((flat A).length + X.2.2.2.length)) := by
      intro k
      obtain ⟨M, rfl⟩ : ∃ M, N = M + 1 := ⟨N - 1, by omega⟩
      rw [f_X3_putIn_40.eq_2]; simp (disch := omega) only [Nat.add_zero, iN_lit, iN_lt, iN_le, iN_eq, iN_add, iN_mul, iN_sub, iN_nat, iN_div, iN_mod, iN_pred', n1_lt, n1_le, n1_ne, n1_ne', n1_nle, n1_nlt, n1_eq, oobN, some_lt, some_jn, bnd_some, Bool.false_eq_true, if_true, if_false, ite_true, ite_false, ↓reduceIte, ltT, ltF, leT, leF, eqT, eqF, true_and, and_true, false_and, and_false, true_or, or_true, false_or, or_false, not_true_eq_false, not_false_eq_true, if_pos, if_neg]
    simp only [i00, if_true, some_jn]
    rw [lp]
    simp (disch := omega) only [Nat.add_zero, iN_lit, iN_lt, iN_le, iN_eq, iN_add, iN_mul, iN_sub, iN_nat, iN_div, iN_mod, iN_pred', n1_lt, n1_le, n1_ne, n1_ne', n1_nle, n1_nlt, n1_eq, oobN, some_lt, some_jn, bnd_some, Bool.false_eq_true, if_true, if_false, ite_true, ite_false, ↓reduceIte, ltT, ltF, leT, leF, eqT, eqF, true_and, and_true, false_and, and_false, true_or, or_true, false_or, or_false, not_true_eq_false, not_false_eq_true, if_pos, if_neg, hsh]
    have := fin X.2.2.2 [] (by simp) (by unfold putPc; rw [if_neg (by omega)])
    simp only [List.length_nil, Nat.zero_add] at this
    refine ⟨_, _, _, rfl, ?_⟩
    rw [show (flat A).length + (X.2.2.2.length + (flat B).length) - ((flat A).length + X.2.2.2.length) = (flat B).length by omega]
    exact this
  · rw [h8]
    have hle := insK_le K row X.2.2.2 X.2.2.2.length
    have lp := fun k => loop k N X.2.2.2.length (Nat.le_refl _) (by omega)
    simp only [i10, if_false, some_jn, bnd_some]
    rw [lp]
    simp (disch := omega) only [Nat.add_zero, iN_lit, iN_lt, iN_le, iN_eq, iN_add, iN_mul, iN_sub, iN_nat, iN_div, iN_mod, iN_pred', n1_lt, n1_le, n1_ne, n1_ne', n1_nle, n1_nlt, n1_eq, oobN, some_lt, some_jn, bnd_some, Bool.false_eq_true, if_true, if_false, ite_true, ite_false, ↓reduceIte, ltT, ltF, leT, leF, eqT, eqF, true_and, and_true, false_and, and_false, true_or, or_true, false_or, or_false, not_true_eq_false, not_false_eq_true, if_pos, if_neg, hsh]
    have := fin (X.2.2.2.take (insK K row X.2.2.2 X.2.2.2.length)) (X.2.2.2.drop (insK K row X.2.2.2 X.2.2.2.length)) (by simp) (by unfold putPc; rw [if_pos h8]; rfl)
    simp only [List.length_take, List.length_drop] at this
    rw [Nat.min_eq_left hle] at this
    refine ⟨_, _, _, rfl, ?_⟩
    rw [show (flat A).length + (X.2.2.2.length + (flat B).length) - ((flat A).length + insK K row X.2.2.2 X.2.2.2.length) = X.2.2.2.length - insK K row X.2.2.2 X.2.2.2.length + (flat B).length by omega]
    exact this
end WR
