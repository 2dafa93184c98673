/-- how many have another place when sorted -/
def chgG (K : Nat → Nat) (l : List Nat) (x j : Nat) : Nat := if (isort K l).getD j 0 = l.getD j 0 then x else x + 1
def chgS (K : Nat → Nat) (l : List Nat) : Nat := pfi (chgG K l) 0 l.length
section WX
variable {n N : Nat} {a mo : Nat → Int32} {P : List Pc} {K : Nat → Nat}
theorem r_sorts {p : Nat} (h : RX a P) (hz : SZ n P) (hk : KY n (fun r => a (20 + r)) K) (hN : 1000 < N) (hp : p < P.length) :
    ∃ a' mo', f_X8_sorts N a mo (iN p) = some (iN (chgS K P[p].2.2.2), a', mo') ∧ RX a' (srtS K p P) ∧ ∀ j, ¬ idxR j → a' j = a j := by
  have hl := hz.len; have hn := hz.nn; have hfl := hz.fl
  obtain ⟨A, X, B, rfl, rfl⟩ := split_at hp
  have e4 := r_mn h hz hp
  have e3 := r_firstPlace (N := N) (p := A.length) h hz hN (by simp)
  have hX : (A ++ X :: B)[A.length] = X := by simp
  rw [sp_app] at e3
  simp only [hX] at e4 ⊢
  unfold srtS
  rw [mdp_app]
  have hrs : ∀ r, r ∈ X.2.2.2 → r < n := fun r hr => hz.rs r (by simp [flat_append, flat, hr])
  have hfl2 : (flat A).length + (X.2.2.2.length + (flat B).length) ≤ 120 := by simpa [flat_append, flat] using hfl
  obtain ⟨g1, g2, g3, g4, g5, g6⟩ := RX_app.mp h
  simp only [List.length_append, List.length_cons] at hl
  have hrow : ∀ i, i < X.2.2.2.length → a (380 + (flat A).length + i) = iN (X.2.2.2.getD i 0) := by
    intro i hi'
    have hj : (flat A).length + i < (flat (A ++ X :: B)).length := by simp [flat_append, flat]; omega
    have q2 := h.en.get hj
    rw [← fl_eq hj, fl_mid hi', ← Nat.add_assoc] at q2
    exact q2
  unfold f_X8_sorts
  simp only [e3, e4, bnd_some, some_jn]
  -- the copy
  have l16 : ∀ k : (Nat → Int32) → Option (Int32 × (Nat → Int32) × (Nat → Int32)), ∃ mo', f_X8_sorts_16 a (iN (flat A).length) (iN X.2.2.2.length) k N 0 mo = k mo' ∧ At mo' 0 X.2.2.2 := by
    intro k
    have : ∀ m i mo, i ≤ X.2.2.2.length → X.2.2.2.length - i < m → At mo 0 (X.2.2.2.take i) → ∃ mo', f_X8_sorts_16 a (iN (flat A).length) (iN X.2.2.2.length) k m (iN i) mo = k mo' ∧ At mo' 0 X.2.2.2 := by
      intro m
      induction m with
      | zero => intro i mo h1 h2; omega
      | succ m ih =>
        intro i mo hi1 hi2 ha1
        rw [f_X8_sorts_16.eq_2]
        by_cases h8 : i = X.2.2.2.length
        · subst h8
          rw [List.take_length] at ha1
          refine ⟨mo, ?_, ha1⟩
          simp (disch := omega) only [Nat.add_zero, iN_lit, iN_lt, iN_le, iN_eq, iN_add, iN_mul, iN_sub, iN_nat, iN_div, iN_mod, iN_pred', n1_lt, n1_le, n1_ne, n1_ne', n1_nle, n1_nlt, n1_eq, oobN, some_lt, some_jn, bnd_some, Bool.false_eq_true, if_true, if_false, ite_true, ite_false, ↓reduceIte, ltT, ltF, leT, leF, eqT, eqF, true_and, and_true, false_and, and_false, true_or, or_true, false_or, or_false, not_true_eq_false, not_false_eq_true, if_pos, if_neg]
        · have r1 := hrow i (by omega)
          have sn := At.snoc (x := X.2.2.2.getD i 0) ha1
          rw [List.length_take, Nat.min_eq_left hi1, Nat.zero_add, getD_get (by omega), List.take_append_getElem] at sn
          obtain ⟨mo', q1, q2⟩ := ih (i + 1) _ (by omega) (by omega) sn
          refine ⟨mo', ?_, q2⟩
          rw [getD_get (by omega)] at r1
          simp (disch := omega) only [Nat.add_zero, iN_lit, iN_lt, iN_le, iN_eq, iN_add, iN_mul, iN_sub, iN_nat, iN_div, iN_mod, iN_pred', n1_lt, n1_le, n1_ne, n1_ne', n1_nle, n1_nlt, n1_eq, oobN, some_lt, some_jn, bnd_some, Bool.false_eq_true, if_true, if_false, ite_true, ite_false, ↓reduceIte, ltT, ltF, leT, leF, eqT, eqF, true_and, and_true, false_and, and_false, true_or, or_true, false_or, or_false, not_true_eq_false, not_false_eq_true, if_pos, if_neg, r1]
          exact q1
    exact this N 0 mo (by omega) (by omega) (At.nil _ _)
  obtain ⟨mo', m1, m2⟩ := l16 _
  rw [m1]
  -- one row goes down
  have l78 : ∀ (c : Nat → Int32) (acc rest : List Nat) (row : Nat) (k : Int32 → (Nat → Int32) → Option (Int32 × (Nat → Int32) × (Nat → Int32))), (∀ j, j < 380 ∨ 500 ≤ j → c j = a j) → At c 380 (flat A ++ (acc ++ row :: rest)) → (∀ r ∈ acc, r < n) → row < n → (flat A).length + (acc.length + (rest.length + 1)) ≤ 120 →
      f_X8_sorts_78 (iN (flat A).length) (iN row) k N (iN ((flat A).length + acc.length)) c = k (iN ((flat A).length + insK K row acc acc.length)) (upA c (380 + (flat A).length + acc.length) (acc.length - insK K row acc acc.length)) := by
    intro c acc rest row k hc hat hacc hrow2 hle
    have hz0 : upA c (380 + (flat A).length + acc.length) 0 = c := by funext j; unfold upA; rw [if_neg (by omega)]
    have hkc : KY n (fun r => c (20 + r)) K := fun r hr => by
      have := hk r hr
      refine ⟨?_, this.2⟩
      show c (20 + r) = _
      rw [hc _ (by omega)]; exact this.1
    have : ∀ m j, j ≤ acc.length → j < m → f_X8_sorts_78 (iN (flat A).length) (iN row) k m (iN ((flat A).length + j)) (upA c (380 + (flat A).length + acc.length) (acc.length - j)) = k (iN ((flat A).length + insK K row acc j)) (upA c (380 + (flat A).length + acc.length) (acc.length - insK K row acc j)) := by
      intro m
      induction m with
      | zero => intro j h1 h2; omega
      | succ m ih =>
        intro j h1 h2
        rw [f_X8_sorts_78.eq_2]
        match j with
        | 0 => simp only [insK]; simp (disch := omega) only [Nat.add_zero, iN_lit, iN_lt, iN_le, iN_eq, iN_add, iN_mul, iN_sub, iN_nat, iN_div, iN_mod, iN_pred', n1_lt, n1_le, n1_ne, n1_ne', n1_nle, n1_nlt, n1_eq, oobN, some_lt, some_jn, bnd_some, Bool.false_eq_true, if_true, if_false, ite_true, ite_false, ↓reduceIte, ltT, ltF, leT, leF, eqT, eqF, true_and, and_true, false_and, and_false, true_or, or_true, false_or, or_false, not_true_eq_false, not_false_eq_true, if_pos, if_neg]
        | j + 1 =>
          have e7 : upA c (380 + (flat A).length + acc.length) (acc.length - (j + 1)) (380 + (flat A).length + j) = iN (acc.getD j 0) := by
            unfold upA
            rw [if_neg (by omega)]
            have hj : (flat A).length + j < (flat A ++ (acc ++ row :: rest)).length := by simp; omega
            have := hat.get hj
            rw [← getD_get hj, gD_right (by omega), gD_left (by omega), ← Nat.add_assoc] at this
            rw [this]; congr 2; omega
          have e8 : acc.getD j 0 < n := by rw [getD_get (by omega)]; exact hacc _ (List.getElem_mem _)
          have hku : KY n (fun r => upA c (380 + (flat A).length + acc.length) (acc.length - (j + 1)) (20 + r)) K := fun r hr => by
            refine ⟨?_, (hkc r hr).2⟩
            show upA c _ _ (20 + r) = _
            unfold upA; rw [if_neg (by omega)]; exact (hkc r hr).1
          have e9 := r_isAhead hku hn hrow2 e8
          have st := upA_step (f := c) (M := 380 + (flat A).length + acc.length) (i := acc.length - (j + 1)) (by omega)
          rw [show 380 + (flat A).length + acc.length - (acc.length - (j + 1)) = 380 + (flat A).length + j + 1 by omega, Nat.add_sub_cancel, e7, show acc.length - (j + 1) + 1 = acc.length - j by omega] at st
          simp only [insK]
          have ih := ih j (by omega) (by omega)
          rw [← st] at ih
          have a3 : (flat A).length + (j + 1) - 1 = (flat A).length + j := by omega
          have a2 : 380 + ((flat A).length + (j + 1)) = 380 + (flat A).length + j + 1 := by omega
          by_cases h9 : ahd K row (acc.getD j 0) = true
          · rw [h9] at e9 ⊢
            simp (disch := omega) only [Nat.add_zero, iN_lit, iN_lt, iN_le, iN_eq, iN_add, iN_mul, iN_sub, iN_nat, iN_div, iN_mod, iN_pred', n1_lt, n1_le, n1_ne, n1_ne', n1_nle, n1_nlt, n1_eq, oobN, some_lt, some_jn, bnd_some, Bool.false_eq_true, if_true, if_false, ite_true, ite_false, ↓reduceIte, ltT, ltF, leT, leF, eqT, eqF, true_and, and_true, false_and, and_false, true_or, or_true, false_or, or_false, not_true_eq_false, not_false_eq_true, if_pos, if_neg, a2, a3, Nat.add_sub_cancel, e7, e9]
            exact ih
          · have h9 : ahd K row (acc.getD j 0) = false := by simpa using h9
            rw [h9] at e9 ⊢
            simp (disch := omega) only [Nat.add_zero, iN_lit, iN_lt, iN_le, iN_eq, iN_add, iN_mul, iN_sub, iN_nat, iN_div, iN_mod, iN_pred', n1_lt, n1_le, n1_ne, n1_ne', n1_nle, n1_nlt, n1_eq, oobN, some_lt, some_jn, bnd_some, Bool.false_eq_true, if_true, if_false, ite_true, ite_false, ↓reduceIte, ltT, ltF, leT, leF, eqT, eqF, true_and, and_true, false_and, and_false, true_or, or_true, false_or, or_false, not_true_eq_false, not_false_eq_true, if_pos, if_neg, a2, Nat.add_sub_cancel, e7, e9]
    have := this N acc.length (Nat.le_refl _) (by omega)
    rw [Nat.sub_self, hz0] at this
    exact this
  have l51 : ∀ m j c, 1 ≤ j → j ≤ X.2.2.2.length → X.2.2.2.length - j < m → (∀ j, j < 380 ∨ 500 ≤ j → c j = a j) → At c 380 (flat A ++ (isort K (X.2.2.2.take j) ++ (X.2.2.2.drop j ++ flat B))) → ∀ k : (Nat → Int32) → Option (Int32 × (Nat → Int32) × (Nat → Int32)),
      ∃ c', f_X8_sorts_51 N (iN (flat A).length) (iN X.2.2.2.length) k m (iN j) c = k c' ∧ (∀ j, j < 380 ∨ 500 ≤ j → c' j = a j) ∧ At c' 380 (flat A ++ (isort K X.2.2.2 ++ flat B)) := by
    intro m
    induction m with
    | zero => intro j c h1 h2 h3; omega
    | succ m ih =>
      intro j c h1 h2 h3 hc hat k
      rw [f_X8_sorts_51.eq_2]
      by_cases h9 : j = X.2.2.2.length
      · subst h9
        rw [List.take_length, List.drop_length, List.nil_append] at hat
        refine ⟨c, ?_, hc, hat⟩
        simp (disch := omega) only [Nat.add_zero, iN_lit, iN_lt, iN_le, iN_eq, iN_add, iN_mul, iN_sub, iN_nat, iN_div, iN_mod, iN_pred', n1_lt, n1_le, n1_ne, n1_ne', n1_nle, n1_nlt, n1_eq, oobN, some_lt, some_jn, bnd_some, Bool.false_eq_true, if_true, if_false, ite_true, ite_false, ↓reduceIte, ltT, ltF, leT, leF, eqT, eqF, true_and, and_true, false_and, and_false, true_or, or_true, false_or, or_false, not_true_eq_false, not_false_eq_true, if_pos, if_neg]
      · have hj : j < X.2.2.2.length := by omega
        have hd : X.2.2.2.drop j = X.2.2.2[j] :: X.2.2.2.drop (j + 1) := List.drop_eq_getElem_cons hj
        have ht : X.2.2.2.take (j + 1) = X.2.2.2.take j ++ [X.2.2.2[j]] := (List.take_append_getElem hj).symm
        rw [hd, List.cons_append] at hat
        have hlen : (isort K (X.2.2.2.take j)).length = j := by rw [isort_len, List.length_take]; omega
        have hrow3 : c (380 + (flat A).length + j) = iN X.2.2.2[j] := by
          have := (show At c 380 ((flat A ++ isort K (X.2.2.2.take j)) ++ X.2.2.2[j] :: (X.2.2.2.drop (j + 1) ++ flat B)) by rw [List.append_assoc]; exact hat).row
          rw [List.length_append, hlen, ← Nat.add_assoc] at this
          exact this
        have hin := insK_le K X.2.2.2[j] (isort K (X.2.2.2.take j)) (isort K (X.2.2.2.take j)).length
        have q := fun k => l78 c (isort K (X.2.2.2.take j)) (X.2.2.2.drop (j + 1) ++ flat B) X.2.2.2[j] k hc hat (fun r hr => hrs r (List.mem_of_mem_take (mem_isort.mp hr))) (hrs _ (List.getElem_mem hj)) (by simp [hlen]; omega)
        have mv := At.mov (f := c) (L1 := flat A ++ (isort K (X.2.2.2.take j)).take (insK K X.2.2.2[j] (isort K (X.2.2.2.take j)) (isort K (X.2.2.2.take j)).length)) (M := (isort K (X.2.2.2.take j)).drop (insK K X.2.2.2[j] (isort K (X.2.2.2.take j)) (isort K (X.2.2.2.take j)).length)) (L2 := X.2.2.2.drop (j + 1) ++ flat B) (row := X.2.2.2[j]) (o := 380)
          (by rw [List.append_assoc, ← List.append_assoc (List.take _ _), List.take_append_drop]; exact hat)
        rw [List.length_append, List.length_take, List.length_drop, Nat.min_eq_left hin] at mv
        rw [hlen] at q mv hin
        generalize hi : insK K X.2.2.2[j] (isort K (X.2.2.2.take j)) j = i at q mv hin
        have ec : upA c (380 + (flat A).length + j) (j - i) = va_cpy c c (380 + ((flat A).length + i)) (380 + ((flat A).length + i) + 1) (j - i) := by
          have := upA_cpy (f := c) (M := 380 + (flat A).length + j) (p := 380 + ((flat A).length + i)) (by omega)
          rw [show 380 + (flat A).length + j - (380 + ((flat A).length + i)) = j - i by omega] at this
          exact this
        rw [← ec] at mv
        have at2 : At (upd (upA c (380 + (flat A).length + j) (j - i)) (380 + ((flat A).length + i)) (iN X.2.2.2[j])) 380 (flat A ++ (isort K (X.2.2.2.take (j + 1)) ++ (X.2.2.2.drop (j + 1) ++ flat B))) := by
          rw [ht, isort_snoc]
          unfold insL
          rw [hlen, hi]
          simpa only [List.append_assoc, List.cons_append] using mv
        obtain ⟨c', s1, s2, s3⟩ := ih (j + 1) _ (by omega) (by omega) (by omega) (fun q hq => by
          rw [upd_ne (by omega)]; unfold upA; rw [if_neg (by omega)]; exact hc q hq) at2 k
        refine ⟨c', ?_, s2, s3⟩
        simp (disch := omega) only [Nat.add_zero, iN_lit, iN_lt, iN_le, iN_eq, iN_add, iN_mul, iN_sub, iN_nat, iN_div, iN_mod, iN_pred', n1_lt, n1_le, n1_ne, n1_ne', n1_nle, n1_nlt, n1_eq, oobN, some_lt, some_jn, bnd_some, Bool.false_eq_true, if_true, if_false, ite_true, ite_false, ↓reduceIte, ltT, ltF, leT, leF, eqT, eqF, true_and, and_true, false_and, and_false, true_or, or_true, false_or, or_false, not_true_eq_false, not_false_eq_true, if_pos, if_neg, hrow3, q]
        exact s1
  have l51' : ∀ k : (Nat → Int32) → Option (Int32 × (Nat → Int32) × (Nat → Int32)), ∃ c', f_X8_sorts_51 N (iN (flat A).length) (iN X.2.2.2.length) k N 1 a = k c' ∧ (∀ j, j < 380 ∨ 500 ≤ j → c' j = a j) ∧ At c' 380 (flat A ++ (isort K X.2.2.2 ++ flat B)) := by
    intro k
    by_cases h0 : X.2.2.2.length = 0
    · obtain ⟨M, hM⟩ : ∃ M, N = M + 1 := ⟨N - 1, by omega⟩
      have hx : X.2.2.2 = [] := List.length_eq_zero_iff.mp h0
      refine ⟨a, ?_, fun _ _ => rfl, by rw [hx] at g3 ⊢; exact g3⟩
      rw [show f_X8_sorts_51 N (iN (flat A).length) (iN X.2.2.2.length) k N 1 a = f_X8_sorts_51 N (iN (flat A).length) (iN X.2.2.2.length) k (M + 1) 1 a by rw [← hM], f_X8_sorts_51.eq_2]
      simp (disch := omega) only [Nat.add_zero, iN_lit, iN_lt, iN_le, iN_eq, iN_add, iN_mul, iN_sub, iN_nat, iN_div, iN_mod, iN_pred', n1_lt, n1_le, n1_ne, n1_ne', n1_nle, n1_nlt, n1_eq, oobN, some_lt, some_jn, bnd_some, Bool.false_eq_true, if_true, if_false, ite_true, ite_false, ↓reduceIte, ltT, ltF, leT, leF, eqT, eqF, true_and, and_true, false_and, and_false, true_or, or_true, false_or, or_false, not_true_eq_false, not_false_eq_true, if_pos, if_neg]
    · refine l51 N 1 a (Nat.le_refl 1) (by omega) (by omega) (fun _ _ => rfl) ?_ k
      obtain ⟨x, xs, hx⟩ : ∃ x xs, X.2.2.2 = x :: xs := by
        cases hx : X.2.2.2 with
        | nil => simp [hx] at h0
        | cons x xs => exact ⟨x, xs, rfl⟩
      rw [hx] at g3 ⊢
      exact g3
  obtain ⟨c', s1, s2, s3⟩ := l51' _
  rw [s1]
  have e8 : f_X8_puts c' (iN A.length) 3 1 = some (upd c' (540 + 4 * A.length + 3) (iN 1)) := r_puts (a := c') (p := A.length) (w := 3) (by omega) (by omega)
  rw [e8, bnd_some]
  have s4 : ∀ i, i < X.2.2.2.length → upd c' (540 + 4 * A.length + 3) (iN 1) (380 + (flat A).length + i) = iN ((isort K X.2.2.2).getD i 0) := by
    intro i hi'
    rw [upd_ne (by omega)]
    have hj : (flat A).length + i < (flat A ++ (isort K X.2.2.2 ++ flat B)).length := by simp [isort_len]; omega
    have := s3.get hj
    rw [← getD_get hj, gD_right (by omega), gD_left (by rw [isort_len]; omega), ← Nat.add_assoc, Nat.add_sub_cancel_left] at this
    exact this
  have s5 : ∀ i, i < X.2.2.2.length → mo' i = iN (X.2.2.2.getD i 0) := by
    intro i hi'
    have := m2.get0 hi'
    rw [getD_get hi']; exact this
  have hsr : ∀ i, i < X.2.2.2.length → X.2.2.2.getD i 0 < 120 ∧ (isort K X.2.2.2).getD i 0 < 120 := by
    intro i hi'
    have w1 := hrs _ (List.getElem_mem hi')
    have w2 := hrs _ (mem_isort.mp (List.getElem_mem (show i < (isort K X.2.2.2).length by rw [isort_len]; exact hi')))
    rw [getD_get hi', getD_get (show i < (isort K X.2.2.2).length by rw [isort_len]; exact hi')]
    omega
  refine ⟨upd c' (540 + 4 * A.length + 3) (iN 1), mo', ?_, ?_, fun j hj => ?_⟩
  · refine (lpC (F := fun m i x => f_X8_sorts_168 (iN (flat A).length) (iN X.2.2.2.length) mo' (upd c' (540 + 4 * A.length + 3) (iN 1)) (fun x => some (x, upd c' (540 + 4 * A.length + 3) (iN 1), mo')) m (iN x) (iN i)) (k := fun x => some (iN x, upd c' (540 + 4 * A.length + 3) (iN 1), mo')) (g := chgG K X.2.2.2) (x0 := 0) (e := X.2.2.2.length) (I := fun _ _ => True) trivial (fun _ _ _ _ => trivial) (fun m i x hi' _ => ?_) (fun m x _ => ?_) N (by omega)).1
    · show f_X8_sorts_168 _ _ _ _ _ (m + 1) (iN x) (iN i) = _
      rw [f_X8_sorts_168.eq_2]
      have w := hsr i hi'
      have w1 := s4 i hi'; have w2 := s5 i hi'
      unfold chgG
      generalize X.2.2.2.getD i 0 = u at w w2 ⊢
      generalize (isort K X.2.2.2).getD i 0 = v at w w1 ⊢
      by_cases h9 : v = u
      · simp (disch := omega) only [Nat.add_zero, iN_lit, iN_lt, iN_le, iN_eq, iN_add, iN_mul, iN_sub, iN_nat, iN_div, iN_mod, iN_pred', n1_lt, n1_le, n1_ne, n1_ne', n1_nle, n1_nlt, n1_eq, oobN, some_lt, some_jn, bnd_some, Bool.false_eq_true, if_true, if_false, ite_true, ite_false, ↓reduceIte, ltT, ltF, leT, leF, eqT, eqF, true_and, and_true, false_and, and_false, true_or, or_true, false_or, or_false, not_true_eq_false, not_false_eq_true, if_pos, if_neg, w1, w2]
      · simp (disch := omega) only [Nat.add_zero, iN_lit, iN_lt, iN_le, iN_eq, iN_add, iN_mul, iN_sub, iN_nat, iN_div, iN_mod, iN_pred', n1_lt, n1_le, n1_ne, n1_ne', n1_nle, n1_nlt, n1_eq, oobN, some_lt, some_jn, bnd_some, Bool.false_eq_true, if_true, if_false, ite_true, ite_false, ↓reduceIte, ltT, ltF, leT, leF, eqT, eqF, true_and, and_true, false_and, and_false, true_or, or_true, false_or, or_false, not_true_eq_false, not_false_eq_true, if_pos, if_neg, w1, w2]
    · show f_X8_sorts_168 _ _ _ _ _ (m + 1) (iN x) (iN X.2.2.2.length) = _
      rw [f_X8_sorts_168.eq_2]
      simp (disch := omega) only [Nat.add_zero, iN_lit, iN_lt, iN_le, iN_eq, iN_add, iN_mul, iN_sub, iN_nat, iN_div, iN_mod, iN_pred', n1_lt, n1_le, n1_ne, n1_ne', n1_nle, n1_nlt, n1_eq, oobN, some_lt, some_jn, bnd_some, Bool.false_eq_true, if_true, if_false, ite_true, ite_false, ↓reduceIte, ltT, ltF, leT, leF, eqT, eqF, true_and, and_true, false_and, and_false, true_or, or_true, false_or, or_false, not_true_eq_false, not_false_eq_true, if_pos, if_neg]
  · show RX _ (A ++ ((X.1, X.2.1, 1, isort K X.2.2.2) : Pc) :: B)
    refine RX_app.mpr ⟨?_, ?_, ?_, ?_, ⟨?_, ?_, ?_, ?_⟩, ?_⟩
    · rw [upd_ne (by omega), s2 _ (by omega), g1]
    · rw [upd_ne (by omega), s2 _ (by omega), g2]; simp [isort_len]
    · refine s3.congr (fun j hj1 hj2 => ?_)
      simp [isort_len] at hj2
      rw [upd_ne (by omega)]
    · refine g4.congr (fun j hj1 hj2 => ?_)
      rw [enc_length] at hj2
      rw [upd_ne (by omega), s2 _ (by omega)]
    · rw [upd_ne (by omega), s2 _ (by omega)]; exact g5.1
    · rw [upd_ne (by omega), s2 _ (by omega), g5.2.1]; simp [isort_len]
    · rw [upd_ne (by omega), s2 _ (by omega)]; exact g5.2.2.1
    · rw [upd_self]
    · refine g6.congr (fun j hj1 hj2 => ?_)
      rw [enc_length] at hj2
      rw [upd_ne (by omega), s2 _ (by omega)]
  · unfold idxR at hj
    rw [upd_ne (by omega), s2 _ (by omega)]
end WX
