theorem fstI_eq {p : Nat → Bool} {i r j : Nat} (h : p j = true) (hlt : j < i + r) (hi : i ≤ j) (hk : ∀ k, i ≤ k → k < j → p k = false) : fstI p i r = some j := by
  induction r generalizing i with
  | zero => omega
  | succ r ih =>
    simp only [fstI]
    by_cases h1 : i = j
    · subst h1; rw [if_pos h]
    · rw [hk i (Nat.le_refl i) (by omega)]
      simp only [Bool.false_eq_true, if_false]
      exact ih (by omega) (by omega) (fun k h2 h3 => hk k (by omega) h3)
theorem pla_eq {P : List Pc} {L1 L2 : List Nat} {row : Nat} (h : flat P = L1 ++ row :: L2) (hn : row ∉ L1) : plaS P row = some L1.length := by
  unfold plaS fl
  rw [h]
  refine fstI_eq ?_ (by simp) (Nat.zero_le _) (fun k _ hk => ?_)
  · simp
  · have h1 : (L1 ++ row :: L2).getD k 0 = L1[k] := by simp [List.getD, List.getElem?_append_left hk, hk]
    rw [h1]
    have : L1[k] ≠ row := fun h2 => hn (h2 ▸ List.getElem_mem hk)
    simpa using this
theorem erase_mid {R1 R2 : List Nat} {row : Nat} (h : row ∉ R1) : (R1 ++ row :: R2).erase row = R1 ++ R2 := by
  rw [List.erase_append_right _ h, List.erase_cons_head]
theorem nodup_split {A : List Pc} {X : Pc} {B : List Pc} {row : Nat} (hnd : (flat (A ++ X :: B)).Nodup) (h : row ∈ X.2.2.2) : ∃ R1 R2, X.2.2.2 = R1 ++ row :: R2 ∧ row ∉ R1 ∧ row ∉ flat A ∧ row ∉ R2 ∧ row ∉ flat B := by
  obtain ⟨R1, R2, hX⟩ := List.append_of_mem h
  rw [flat_append, flat, hX] at hnd
  refine ⟨R1, R2, hX, ?_⟩
  simp only [List.nodup_append, List.nodup_cons, List.mem_append, List.mem_cons] at hnd
  grind
section WR
variable {n N : Nat} {sz pc : Int32} {en bo he so st ky : Nat → Int32} {P : List Pc} {K : Nat → Nat}
theorem c_takeOut {row : Nat} (h : IX sz pc en bo he so st P) (hz : SZ n P) (hk : KY n ky K) (hN : 1000 < N) (hr : row < n) (hnd : (flat P).Nodup) (hin : ∃ X, P[pcF P (K row)]? = some X ∧ row ∈ X.2.2.2) :
    ∃ sz' en' st', f_X3_takeOut N sz pc bo en st ky (iN row) = some (sz', en', st') ∧ IX sz' pc en' bo he so st' (takS K row P) := by
  have hKr := (hk row hr).2
  have hl := hz.len; have hn := hz.nn
  have hp : pcF P (K row) < P.length := pcF_lt hz.one
  have e1 := c_keyOf hk hn hr
  have e2 := c_pieceFor' (key := K row) h hz (by omega) hN
  have e3 := c_placeOf (row := row) h hz hN (by omega)
  have hfl := hz.fl
  have hpl : ∀ L1 L2, flat P = L1 ++ row :: L2 → row ∉ L1 → f_X3_placeOf N sz en (iN row) = some (iN L1.length) := fun L1 L2 h1 h2 => by rw [e3, pla_eq h1 h2]; rfl
  unfold takS
  obtain ⟨X', hX', hrow⟩ := hin
  generalize pcF P (K row) = p at *
  obtain ⟨A, X, B, rfl, rfl⟩ := split_at hp
  have hXX : X' = X := by simpa using hX'.symm
  subst hXX
  rw [mdp_app]
  obtain ⟨R1, R2, hX, n1, n2, n3, n4⟩ := nodup_split hnd hrow
  obtain ⟨rfl, rfl, h3, h4, h5, h6, h7⟩ := IX_app.mp h
  simp only [List.length_append, List.length_cons] at hl
  have e4 := hpl (flat A ++ R1) (R2 ++ flat B) (by rw [flat_append, flat, hX]; simp) (by simp [n1, n2])
  have hlen : X'.2.2.2.length = R1.length + R2.length + 1 := by rw [hX]; simp; omega
  have hfl2 : (flat A).length + (X'.2.2.2.length + (flat B).length) ≤ 120 := by simpa [flat_append, flat] using hfl
  have hsh := c_shiftStarts (st := st) (P := A.length + B.length + 1) (f := A.length + 1) (w := -iN 1) (by omega) (by omega) hN
  simp only [List.length_append] at e4
  unfold f_X3_takeOut
  rw [e4]
  simp (disch := omega) only [Nat.add_zero, iN_lit, iN_lt, iN_le, iN_eq, iN_add, iN_mul, iN_sub, iN_nat, iN_div, iN_mod, iN_pred', n1_lt, n1_le, n1_ne, n1_ne', n1_nle, n1_nlt, n1_eq, oobN, some_lt, some_jn, bnd_some, Bool.false_eq_true, if_true, if_false, ite_true, ite_false, ↓reduceIte, ltT, ltF, leT, leF, eqT, eqF, true_and, and_true, false_and, and_false, true_or, or_true, false_or, or_false, not_true_eq_false, not_false_eq_true, if_pos, if_neg, e1, e2, hsh]
  refine ⟨_, _, _, rfl, ?_⟩
  show IX _ _ _ _ _ _ _ (A ++ ((X'.1, X'.2.1, X'.2.2.1, X'.2.2.2.erase row) : Pc) :: B)
  refine IX_app.mpr ⟨rfl, ?_, ?_, h4, h5, h6, ?_, ?_, ?_⟩
  · rw [hX, erase_mid n1]; simp; congr 1; omega
  · rw [hX, erase_mid n1]
    rw [hX] at h3
    have := At.del (L1 := flat A ++ R1) (L2 := R2 ++ flat B) (row := row) (by simpa [List.append_assoc] using h3)
    rw [List.length_append, List.length_append, Nat.zero_add] at this
    rw [show (flat A).length + ((R1 ++ row :: R2).length + (flat B).length) - ((flat A).length + R1.length) - 1 = R2.length + (flat B).length by simp; omega]
    simpa [List.append_assoc] using this
  · refine h7.1.congr (fun j h1 h2 => ?_)
    rw [sts_length] at h2
    rw [if_neg (by omega)]
  · rw [if_neg (by omega)]; exact h7.2.1
  · refine At.shiftn (st := st) ?_ (fun j h1 h2 => ?_)
    · have := h7.2.2
      rw [hlen] at this
      rw [hX, erase_mid n1, List.length_append]
      exact this
    · rw [if_pos (by omega)]
theorem lohi_len {b : Nat} (l : List Nat) : (lo K b l).length + (hi K b l).length = l.length := by
  induction l with
  | nil => rfl
  | cons x l ih => by_cases h : K x < b <;> simp [lo, hi, h] at ih ⊢ <;> omega
/-- the rows of a piece with less keys go ahead -/
theorem c_gatherLess {A : List Pc} {X : Pc} {B : List Pc} {b : Nat} (h : IX sz pc en bo he so st (A ++ X :: B)) (hz : SZ n (A ++ X :: B)) (hk : KY n ky K) (hN : 1000 < N) (hb : b ≤ 10000) :
    ∃ en', f_X3_gatherLess N sz pc en st ky (iN A.length) (iN b) = some (iN ((flat A).length + (lo K b X.2.2.2).length), en') ∧ At en' 0 (flat A ++ ((lo K b X.2.2.2 ++ hi K b X.2.2.2) ++ flat B)) := by
  have hl := hz.len; have hn := hz.nn; have hfl := hz.fl
  have e3 := c_startOf (p := A.length) h hz (by simp)
  have e5 := c_startOf (p := A.length + 1) h hz (by simp)
  rw [sp_app] at e3
  rw [sp_app1] at e5
  obtain ⟨rfl, rfl, h3, h4, h5, h6, h7⟩ := IX_app.mp h
  simp only [flat_append, flat, List.length_append] at hfl
  have hrs : ∀ r, r ∈ X.2.2.2 → r < n := fun r hr => hz.rs r (by simp [flat_append, flat, hr])
  have key : ∀ m i en, i ≤ X.2.2.2.length → X.2.2.2.length - i < m → At en 0 (flat A ++ ((lo K b (X.2.2.2.take i) ++ hi K b (X.2.2.2.take i)) ++ (X.2.2.2.drop i ++ flat B))) →
      ∃ en', f_X3_gatherLess_18 (iN ((flat A).length + (X.2.2.2.length + (flat B).length))) ky (iN b) (iN ((flat A).length + X.2.2.2.length)) (fun x e => some (x, e)) m (iN ((flat A).length + (lo K b (X.2.2.2.take i)).length)) (iN ((flat A).length + i)) en = some (iN ((flat A).length + (lo K b X.2.2.2).length), en') ∧ At en' 0 (flat A ++ ((lo K b X.2.2.2 ++ hi K b X.2.2.2) ++ flat B)) := by
    intro m
    induction m with
    | zero => intro i en h1 h2; omega
    | succ m ih =>
      intro i en h1 h2 hat
      rw [f_X3_gatherLess_18.eq_2]
      by_cases h8 : i = X.2.2.2.length
      · subst h8
        rw [List.take_length] at hat ⊢
        rw [List.drop_length, List.nil_append] at hat
        simp (disch := omega) only [Nat.add_zero, iN_lit, iN_lt, iN_le, iN_eq, iN_add, iN_mul, iN_sub, iN_nat, iN_div, iN_mod, iN_pred', n1_lt, n1_le, n1_ne, n1_ne', n1_nle, n1_nlt, n1_eq, oobN, some_lt, some_jn, bnd_some, Bool.false_eq_true, if_true, if_false, ite_true, ite_false, ↓reduceIte, ltT, ltF, leT, leF, eqT, eqF, true_and, and_true, false_and, and_false, true_or, or_true, false_or, or_false, not_true_eq_false, not_false_eq_true, if_pos, if_neg]
        exact ⟨en, rfl, hat⟩
      · have hi' : i < X.2.2.2.length := by omega
        have hd : X.2.2.2.drop i = X.2.2.2[i] :: X.2.2.2.drop (i + 1) := List.drop_eq_getElem_cons hi'
        have ht : X.2.2.2.take (i + 1) = X.2.2.2.take i ++ [X.2.2.2[i]] := (List.take_append_getElem hi').symm
        have hlh : (lo K b (X.2.2.2.take i)).length + (hi K b (X.2.2.2.take i)).length = i := by
          rw [lohi_len, List.length_take, Nat.min_eq_left h1]
        have hr := hrs _ (List.getElem_mem hi')
        have hKr := hk _ hr
        rw [hd] at hat
        have hrow : en ((flat A).length + i) = iN X.2.2.2[i] := by
          have := (show At en 0 ((flat A ++ (lo K b (X.2.2.2.take i) ++ hi K b (X.2.2.2.take i))) ++ X.2.2.2[i] :: (X.2.2.2.drop (i + 1) ++ flat B)) by simp only [List.append_assoc, List.cons_append] at hat ⊢; exact hat).row
          rw [List.length_append, List.length_append, hlh, Nat.zero_add] at this
          exact this
        have e6 : f_X3_keyAt (iN ((flat A).length + (X.2.2.2.length + (flat B).length))) en ky (iN ((flat A).length + i)) = some (iN (K X.2.2.2[i])) := by
          have e7 := c_keyOf hk hn hr
          unfold f_X3_keyAt f_X3_rowAt
          simp (disch := omega) only [Nat.add_zero, iN_lit, iN_lt, iN_le, iN_eq, iN_add, iN_mul, iN_sub, iN_nat, iN_div, iN_mod, iN_pred', n1_lt, n1_le, n1_ne, n1_ne', n1_nle, n1_nlt, n1_eq, oobN, some_lt, some_jn, bnd_some, Bool.false_eq_true, if_true, if_false, ite_true, ite_false, ↓reduceIte, ltT, ltF, leT, leF, eqT, eqF, true_and, and_true, false_and, and_false, true_or, or_true, false_or, or_false, not_true_eq_false, not_false_eq_true, if_pos, if_neg, hrow, e7]
        rw [e6, bnd_some]
        have hlo : lo K b (X.2.2.2.take (i + 1)) = lo K b (X.2.2.2.take i) ++ (if K X.2.2.2[i] < b then [X.2.2.2[i]] else []) := by
          unfold lo; rw [ht, List.filter_append]; congr 1; by_cases h9 : K X.2.2.2[i] < b <;> simp [h9]
        have hhi : hi K b (X.2.2.2.take (i + 1)) = hi K b (X.2.2.2.take i) ++ (if K X.2.2.2[i] < b then [] else [X.2.2.2[i]]) := by
          unfold hi; rw [ht, List.filter_append]; congr 1; by_cases h9 : K X.2.2.2[i] < b <;> simp [h9]
        have ihi := fun en hx => ih (i + 1) en (by omega) (by omega) hx
        rw [hlo, hhi] at ihi
        by_cases h9 : K X.2.2.2[i] < b
        · rw [if_pos h9, if_pos h9] at ihi
          obtain ⟨en2, m1, m2, _⟩ := c_moveDown (L1 := flat A ++ lo K b (X.2.2.2.take i)) (M := hi K b (X.2.2.2.take i)) (L2 := X.2.2.2.drop (i + 1) ++ flat B) (row := X.2.2.2[i]) (en := en) (by simp only [List.append_assoc, List.cons_append] at hat ⊢; exact hat) (by simp; omega)
          rw [show (flat A ++ lo K b (X.2.2.2.take i) ++ (hi K b (X.2.2.2.take i) ++ X.2.2.2[i] :: (X.2.2.2.drop (i + 1) ++ flat B))).length = (flat A).length + (X.2.2.2.length + (flat B).length) by simp; omega, show (flat A ++ lo K b (X.2.2.2.take i)).length + (hi K b (X.2.2.2.take i)).length = (flat A).length + i by simp; omega, List.length_append] at m1
          have := ihi en2 (by simp only [List.append_assoc, List.cons_append, List.nil_append] at m2 ⊢; exact m2)
          rw [List.length_append] at this
          simp (disch := omega) only [Nat.add_zero, iN_lit, iN_lt, iN_le, iN_eq, iN_add, iN_mul, iN_sub, iN_nat, iN_div, iN_mod, iN_pred', n1_lt, n1_le, n1_ne, n1_ne', n1_nle, n1_nlt, n1_eq, oobN, some_lt, some_jn, bnd_some, Bool.false_eq_true, if_true, if_false, ite_true, ite_false, ↓reduceIte, ltT, ltF, leT, leF, eqT, eqF, true_and, and_true, false_and, and_false, true_or, or_true, false_or, or_false, not_true_eq_false, not_false_eq_true, if_pos, if_neg, m1]
          exact this
        · rw [if_neg h9, if_neg h9, List.append_nil] at ihi
          have := ihi en (by simp only [List.append_assoc, List.cons_append] at hat ⊢; exact hat)
          simp (disch := omega) only [Nat.add_zero, iN_lit, iN_lt, iN_le, iN_eq, iN_add, iN_mul, iN_sub, iN_nat, iN_div, iN_mod, iN_pred', n1_lt, n1_le, n1_ne, n1_ne', n1_nle, n1_nlt, n1_eq, oobN, some_lt, some_jn, bnd_some, Bool.false_eq_true, if_true, if_false, ite_true, ite_false, ↓reduceIte, ltT, ltF, leT, leF, eqT, eqF, true_and, and_true, false_and, and_false, true_or, or_true, false_or, or_false, not_true_eq_false, not_false_eq_true, if_pos, if_neg]
          exact this
  have k0 := key N 0 en (Nat.zero_le _) (by omega) (by simpa [lo, hi] using h3)
  unfold f_X3_gatherLess
  rw [e3, bnd_some, show iN A.length + 1 = iN (A.length + 1) from iN_add _ 1, e5, bnd_some, some_jn]
  exact k0
end WR
