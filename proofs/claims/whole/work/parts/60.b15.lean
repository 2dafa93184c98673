section WX
variable {n N : Nat} {a mo : Nat → Int32} {P : List Pc} {K : Nat → Nat}
theorem lo_snoc {b r : Nat} {l : List Nat} : lo K b (l ++ [r]) = lo K b l ++ (if K r < b then [r] else []) := by
  unfold lo; rw [List.filter_append]; congr 1; by_cases h9 : K r < b <;> simp [h9]
theorem hi_snoc {b r : Nat} {l : List Nat} : hi K b (l ++ [r]) = hi K b l ++ (if K r < b then [] else [r]) := by
  unfold hi; rw [List.filter_append]; congr 1; by_cases h9 : K r < b <;> simp [h9]
theorem At.snoc {f : Nat → Int32} {o : Nat} {l : List Nat} {x : Nat} (h : At f o l) : At (upd f (o + l.length) (iN x)) o (l ++ [x]) := by
  rw [At.append]
  refine ⟨h.congr (fun j h1 h2 => upd_ne (by omega)), ?_⟩
  rw [At.cons]
  exact ⟨upd_self _ _ _, At.nil _ _⟩
theorem lo_len_le {b : Nat} (l : List Nat) (i : Nat) : (lo K b (l.take i)).length ≤ (lo K b l).length := by
  have : l = l.take i ++ l.drop i := (List.take_append_drop i l).symm
  unfold lo
  conv => rhs; rw [this, List.filter_append, List.length_append]
  omega
theorem hi_len_le {b : Nat} (l : List Nat) (i : Nat) : (hi K b (l.take i)).length ≤ (hi K b l).length := by
  have : l = l.take i ++ l.drop i := (List.take_append_drop i l).symm
  unfold hi
  conv => rhs; rw [this, List.filter_append, List.length_append]
  omega
/-- moved on by four behind q -/
def up4 (f : Nat → Int32) (M i : Nat) : Nat → Int32 := fun j => if M + 4 - i < j ∧ j ≤ M + 4 then f (j - 4) else f j
theorem up4_step {f : Nat → Int32} {M i : Nat} (h : i ≤ M) : upd (up4 f M i) (M + 4 - i) (up4 f M i (M - i)) = up4 f M (i + 1) := by
  funext j
  unfold upd up4
  by_cases h1 : j = M + 4 - i
  · subst h1
    rw [if_pos rfl, if_neg (by omega), if_pos (by omega)]; congr 1; omega
  · rw [if_neg h1]
    by_cases h2 : M + 4 - i < j ∧ j ≤ M + 4
    · rw [if_pos h2, if_pos (by omega)]
    · rw [if_neg h2, if_neg (by omega)]
theorem up4_zero {f : Nat → Int32} {M : Nat} : up4 f M 0 = f := by funext j; unfold up4; rw [if_neg (by omega)]
/-- part of another array -/
def setR (f g : Nat → Int32) (o i : Nat) : Nat → Int32 := fun j => if o ≤ j ∧ j < o + i then g (j - o) else f j
theorem setR_zero {f g : Nat → Int32} {o : Nat} : setR f g o 0 = f := by funext j; unfold setR; rw [if_neg (by omega)]
theorem setR_step {f g : Nat → Int32} {o i : Nat} : upd (setR f g o i) (o + i) (g i) = setR f g o (i + 1) := by
  funext j
  unfold upd setR
  by_cases h1 : j = o + i
  · subst h1; rw [if_pos rfl, if_pos (by omega)]; congr 1; omega
  · rw [if_neg h1]
    by_cases h2 : o ≤ j ∧ j < o + i
    · rw [if_pos h2, if_pos (by omega)]
    · rw [if_neg h2, if_neg (by omega)]
theorem setR_At {f g : Nat → Int32} {o : Nat} {l : List Nat} (h : At g 0 l) : At (setR f g o l.length) o l := fun i r hi => by
  have hl := (List.getElem?_eq_some_iff.mp hi).1
  unfold setR; rw [if_pos (by omega)]
  have := h i r hi
  rw [Nat.zero_add] at this
  rw [← this]; congr 1; omega
theorem r_cracks {b : Nat} (h : RX a P) (hz : SZ n P) (hk : KY n (fun r => a (20 + r)) K) (hN : 1000 < N) (hb : b ≤ 10000) (h62 : P.length < 62) (hb0 : ∀ X, P[0]? = some X → X.1 ≤ b) :
    ∃ a' mo', f_X8_cracks N a mo (iN b) = some (iN (divC b P), a', mo') ∧ RX a' (divS K b P) ∧ ∀ j, ¬ idxR j → a' j = a j := by
  have hl := hz.len; have hn := hz.nn; have hfl := hz.fl
  have hp : pcF P b < P.length := pcF_lt hz.one
  have e2 : f_X8_lastPiece N a (iN b) = some (iN (pcF P b)) := r_lastPiece h hz hN (by omega) hb0
  have e1 := r_bd h hz hp
  have e4 := r_mn h hz hp
  have e3 := r_firstPlace (N := N) (p := pcF P b) h hz hN (by omega)
  have hso := hz.so _ (List.getElem_mem hp)
  have hbd := hz.bd _ (List.getElem_mem hp)
  have hht := ht_lt hz hp
  have q1 : bdL P (pcF P b) = P[pcF P b].1 := by simp [bdL, hp]
  have hrow : ∀ A X B, P = A ++ X :: B → ∀ i, i < X.2.2.2.length → a (380 + ((flat A).length + i)) = iN (X.2.2.2.getD i 0) ∧ f_X8_keyAt a (iN ((flat A).length + i)) = some (iN (K (X.2.2.2.getD i 0))) ∧ K (X.2.2.2.getD i 0) < 10000 := by
    intro A X B hP i hi'
    subst hP
    have hj : (flat A).length + i < (flat (A ++ X :: B)).length := by simp [flat_append, flat]; omega
    have q2 := h.en.get hj
    have q3 := r_keyAt' h hz hk hj
    have q4 := K_lt hz hk hj
    rw [← fl_eq hj, fl_mid hi'] at q2
    rw [fl_mid hi'] at q3 q4
    exact ⟨q2, q3, q4⟩
  unfold divS divC
  rw [q1, soL_eq hp, lnL_eq hp]
  unfold f_X8_cracks
  rw [e2, bnd_some, e1, bnd_some]
  by_cases h1 : P[pcF P b].1 = b
  · rw [if_pos h1, if_pos h1]
    refine ⟨a, mo, ?_, h, fun _ _ => rfl⟩
    simp (disch := omega) only [Nat.add_zero, iN_lit, iN_lt, iN_le, iN_eq, iN_add, iN_mul, iN_sub, iN_nat, iN_div, iN_mod, iN_pred', n1_lt, n1_le, n1_ne, n1_ne', n1_nle, n1_nlt, n1_eq, oobN, some_lt, some_jn, bnd_some, Bool.false_eq_true, if_true, if_false, ite_true, ite_false, ↓reduceIte, ltT, ltF, leT, leF, eqT, eqF, true_and, and_true, false_and, and_false, true_or, or_true, false_or, or_false, not_true_eq_false, not_false_eq_true, if_pos, if_neg, h1]
  · rw [if_neg h1, if_neg h1]
    generalize pcF P b = p at *
    obtain ⟨A, X, B, rfl, rfl⟩ := split_at hp
    have hX : (A ++ X :: B)[A.length] = X := by simp
    have hrow := hrow A X B rfl
    simp only [hX] at e1 e4 hbd hso hht h1 q1 ⊢
    rw [mdp_app]
    rw [sp_app] at e3
    have hfl2 : (flat A).length + (X.2.2.2.length + (flat B).length) ≤ 120 := by simpa [flat_append, flat] using hfl
    obtain ⟨g1, g2, g3, g4, g5, g6⟩ := RX_app.mp h
    simp only [List.length_append, List.length_cons] at hl h62
    have hlo := lohi_len (K := K) (b := b) X.2.2.2
    have h9 : (iN X.1 = iN b) = False := eq_false (by rw [iN_eq (by omega) (by omega)]; exact h1)
    simp only [h9, if_false, e3, e4, bnd_some, some_jn]
    -- how many are low
    have l38 : ∀ k : Int32 → Option (Int32 × (Nat → Int32) × (Nat → Int32)), f_X8_cracks_38 a (iN b) (iN (flat A).length) (iN X.2.2.2.length) k N 0 0 = k (iN (lo K b X.2.2.2).length) := by
      intro k
      have : ∀ m i, i ≤ X.2.2.2.length → X.2.2.2.length - i < m → f_X8_cracks_38 a (iN b) (iN (flat A).length) (iN X.2.2.2.length) k m (iN (lo K b (X.2.2.2.take i)).length) (iN i) = k (iN (lo K b X.2.2.2).length) := by
        intro m
        induction m with
        | zero => intro i h1 h2; omega
        | succ m ih =>
          intro i hi1 hi2
          rw [f_X8_cracks_38.eq_2]
          by_cases h8 : i = X.2.2.2.length
          · subst h8; rw [List.take_length]; simp (disch := omega) only [Nat.add_zero, iN_lit, iN_lt, iN_le, iN_eq, iN_add, iN_mul, iN_sub, iN_nat, iN_div, iN_mod, iN_pred', n1_lt, n1_le, n1_ne, n1_ne', n1_nle, n1_nlt, n1_eq, oobN, some_lt, some_jn, bnd_some, Bool.false_eq_true, if_true, if_false, ite_true, ite_false, ↓reduceIte, ltT, ltF, leT, leF, eqT, eqF, true_and, and_true, false_and, and_false, true_or, or_true, false_or, or_false, not_true_eq_false, not_false_eq_true, if_pos, if_neg]
          · obtain ⟨r1, r2, r3⟩ := hrow i (by omega)
            have ih := ih (i + 1) (by omega) (by omega)
            rw [← List.take_append_getElem (show i < X.2.2.2.length by omega), lo_snoc, ← getD_get (by omega)] at ih
            rw [iN_add, r2]
            by_cases h9 : K (X.2.2.2.getD i 0) < b
            · rw [if_pos h9, List.length_append] at ih
              simp (disch := omega) only [Nat.add_zero, iN_lit, iN_lt, iN_le, iN_eq, iN_add, iN_mul, iN_sub, iN_nat, iN_div, iN_mod, iN_pred', n1_lt, n1_le, n1_ne, n1_ne', n1_nle, n1_nlt, n1_eq, oobN, some_lt, some_jn, bnd_some, Bool.false_eq_true, if_true, if_false, ite_true, ite_false, ↓reduceIte, ltT, ltF, leT, leF, eqT, eqF, true_and, and_true, false_and, and_false, true_or, or_true, false_or, or_false, not_true_eq_false, not_false_eq_true, if_pos, if_neg]
              exact ih
            · rw [if_neg h9, List.append_nil] at ih
              simp (disch := omega) only [Nat.add_zero, iN_lit, iN_lt, iN_le, iN_eq, iN_add, iN_mul, iN_sub, iN_nat, iN_div, iN_mod, iN_pred', n1_lt, n1_le, n1_ne, n1_ne', n1_nle, n1_nlt, n1_eq, oobN, some_lt, some_jn, bnd_some, Bool.false_eq_true, if_true, if_false, ite_true, ite_false, ↓reduceIte, ltT, ltF, leT, leF, eqT, eqF, true_and, and_true, false_and, and_false, true_or, or_true, false_or, or_false, not_true_eq_false, not_false_eq_true, if_pos, if_neg]
              exact ih
      have := this N 0 (by omega) (by omega)
      rw [List.take_zero] at this
      exact this
    rw [l38]
    -- into the other array
    have l83 : ∀ k : (Nat → Int32) → Option (Int32 × (Nat → Int32) × (Nat → Int32)), ∃ mo', f_X8_cracks_83 a (iN b) (iN (flat A).length) (iN X.2.2.2.length) k N 0 (iN (lo K b X.2.2.2).length) 0 mo = k mo' ∧ At mo' 0 (lo K b X.2.2.2 ++ hi K b X.2.2.2) := by
      intro k
      have : ∀ m i mo, i ≤ X.2.2.2.length → X.2.2.2.length - i < m → At mo 0 (lo K b (X.2.2.2.take i)) → At mo (lo K b X.2.2.2).length (hi K b (X.2.2.2.take i)) → ∃ mo', f_X8_cracks_83 a (iN b) (iN (flat A).length) (iN X.2.2.2.length) k m (iN (lo K b (X.2.2.2.take i)).length) (iN ((lo K b X.2.2.2).length + (hi K b (X.2.2.2.take i)).length)) (iN i) mo = k mo' ∧ At mo' 0 (lo K b X.2.2.2 ++ hi K b X.2.2.2) := by
        intro m
        induction m with
        | zero => intro i mo h1 h2; omega
        | succ m ih =>
          intro i mo hi1 hi2 ha1 ha2
          rw [f_X8_cracks_83.eq_2]
          by_cases h8 : i = X.2.2.2.length
          · subst h8
            rw [List.take_length] at ha1 ha2
            refine ⟨mo, ?_, At.append.mpr ⟨ha1, by rwa [Nat.zero_add]⟩⟩
            simp (disch := omega) only [Nat.add_zero, iN_lit, iN_lt, iN_le, iN_eq, iN_add, iN_mul, iN_sub, iN_nat, iN_div, iN_mod, iN_pred', n1_lt, n1_le, n1_ne, n1_ne', n1_nle, n1_nlt, n1_eq, oobN, some_lt, some_jn, bnd_some, Bool.false_eq_true, if_true, if_false, ite_true, ite_false, ↓reduceIte, ltT, ltF, leT, leF, eqT, eqF, true_and, and_true, false_and, and_false, true_or, or_true, false_or, or_false, not_true_eq_false, not_false_eq_true, if_pos, if_neg]
          · obtain ⟨r1, r2, r3⟩ := hrow i (by omega)
            have ih := fun mo => ih (i + 1) mo (by omega) (by omega)
            have w1 := lo_len_le (K := K) (b := b) X.2.2.2 (i + 1)
            have w2 := hi_len_le (K := K) (b := b) X.2.2.2 (i + 1)
            rw [← List.take_append_getElem (show i < X.2.2.2.length by omega), lo_snoc, ← getD_get (by omega)] at w1
            rw [← List.take_append_getElem (show i < X.2.2.2.length by omega), hi_snoc, ← getD_get (by omega)] at w2
            rw [← List.take_append_getElem (show i < X.2.2.2.length by omega), lo_snoc, hi_snoc, ← getD_get (by omega)] at ih
            have r1' : a (380 + (flat A).length + i) = iN (X.2.2.2.getD i 0) := by rw [Nat.add_assoc]; exact r1
            rw [show iN (flat A).length + iN i = iN ((flat A).length + i) from iN_add _ _, r2]
            by_cases h9 : K (X.2.2.2.getD i 0) < b
            · rw [if_pos h9, List.length_append, List.length_singleton] at w1
              rw [if_pos h9, List.append_nil] at w2
              rw [if_pos h9, if_pos h9, List.append_nil, List.length_append, List.length_singleton] at ih
              obtain ⟨mo', q1, q2⟩ := ih (upd mo (lo K b (X.2.2.2.take i)).length (iN (X.2.2.2.getD i 0))) (by simpa using At.snoc (x := X.2.2.2.getD i 0) ha1) (ha2.congr (fun j hj1 hj2 => upd_ne (by omega)))
              refine ⟨mo', ?_, q2⟩
              simp (disch := omega) only [Nat.add_zero, iN_lit, iN_lt, iN_le, iN_eq, iN_add, iN_mul, iN_sub, iN_nat, iN_div, iN_mod, iN_pred', n1_lt, n1_le, n1_ne, n1_ne', n1_nle, n1_nlt, n1_eq, oobN, some_lt, some_jn, bnd_some, Bool.false_eq_true, if_true, if_false, ite_true, ite_false, ↓reduceIte, ltT, ltF, leT, leF, eqT, eqF, true_and, and_true, false_and, and_false, true_or, or_true, false_or, or_false, not_true_eq_false, not_false_eq_true, if_pos, if_neg, r1']
              exact q1
            · rw [if_neg h9, List.append_nil] at w1
              rw [if_neg h9, List.length_append, List.length_singleton] at w2
              rw [if_neg h9, if_neg h9, List.append_nil, List.length_append, List.length_singleton] at ih
              obtain ⟨mo', q1, q2⟩ := ih (upd mo ((lo K b X.2.2.2).length + (hi K b (X.2.2.2.take i)).length) (iN (X.2.2.2.getD i 0))) (ha1.congr (fun j hj1 hj2 => upd_ne (by omega))) (At.snoc (x := X.2.2.2.getD i 0) ha2)
              refine ⟨mo', ?_, q2⟩
              simp (disch := omega) only [Nat.add_zero, iN_lit, iN_lt, iN_le, iN_eq, iN_add, iN_mul, iN_sub, iN_nat, iN_div, iN_mod, iN_pred', n1_lt, n1_le, n1_ne, n1_ne', n1_nle, n1_nlt, n1_eq, oobN, some_lt, some_jn, bnd_some, Bool.false_eq_true, if_true, if_false, ite_true, ite_false, ↓reduceIte, ltT, ltF, leT, leF, eqT, eqF, true_and, and_true, false_and, and_false, true_or, or_true, false_or, or_false, not_true_eq_false, not_false_eq_true, if_pos, if_neg, r1']
              exact q1
      have := this N 0 mo (by omega) (by omega) (At.nil _ _) (At.nil _ _)
      rw [List.take_zero] at this
      exact this
    obtain ⟨mo', m1, m2⟩ := l83 _
    rw [m1]
    -- back
    have l178 : ∀ k : (Nat → Int32) → Option (Int32 × (Nat → Int32) × (Nat → Int32)), f_X8_cracks_178 (iN (flat A).length) (iN X.2.2.2.length) mo' k N 0 a = k (setR a mo' (380 + (flat A).length) X.2.2.2.length) := by
      intro k
      have : ∀ m i, i ≤ X.2.2.2.length → X.2.2.2.length - i < m → f_X8_cracks_178 (iN (flat A).length) (iN X.2.2.2.length) mo' k m (iN i) (setR a mo' (380 + (flat A).length) i) = k (setR a mo' (380 + (flat A).length) X.2.2.2.length) := by
        intro m
        induction m with
        | zero => intro i h1 h2; omega
        | succ m ih =>
          intro i hi1 hi2
          rw [f_X8_cracks_178.eq_2]
          by_cases h8 : i = X.2.2.2.length
          · subst h8; simp (disch := omega) only [Nat.add_zero, iN_lit, iN_lt, iN_le, iN_eq, iN_add, iN_mul, iN_sub, iN_nat, iN_div, iN_mod, iN_pred', n1_lt, n1_le, n1_ne, n1_ne', n1_nle, n1_nlt, n1_eq, oobN, some_lt, some_jn, bnd_some, Bool.false_eq_true, if_true, if_false, ite_true, ite_false, ↓reduceIte, ltT, ltF, leT, leF, eqT, eqF, true_and, and_true, false_and, and_false, true_or, or_true, false_or, or_false, not_true_eq_false, not_false_eq_true, if_pos, if_neg]
          · have ih := ih (i + 1) (by omega) (by omega)
            have e9 := setR_step (f := a) (g := mo') (o := 380 + (flat A).length) (i := i)
            simp (disch := omega) only [Nat.add_zero, iN_lit, iN_lt, iN_le, iN_eq, iN_add, iN_mul, iN_sub, iN_nat, iN_div, iN_mod, iN_pred', n1_lt, n1_le, n1_ne, n1_ne', n1_nle, n1_nlt, n1_eq, oobN, some_lt, some_jn, bnd_some, Bool.false_eq_true, if_true, if_false, ite_true, ite_false, ↓reduceIte, ltT, ltF, leT, leF, eqT, eqF, true_and, and_true, false_and, and_false, true_or, or_true, false_or, or_false, not_true_eq_false, not_false_eq_true, if_pos, if_neg, e9]
            exact ih
      have := this N 0 (by omega) (by omega)
      rw [setR_zero] at this
      exact this
    rw [l178]
    have s0 : ∀ j, (j < 380 ∨ 500 ≤ j) → setR a mo' (380 + (flat A).length) X.2.2.2.length j = a j := fun j hj => by unfold setR; rw [if_neg (by omega)]
    have s1 : At (setR a mo' (380 + (flat A).length) X.2.2.2.length) 380 (flat A ++ (lo K b X.2.2.2 ++ (hi K b X.2.2.2 ++ flat B))) := by
      rw [At.append] at g3 ⊢
      rw [At.append] at g3
      refine ⟨g3.1.congr (fun j h1 h2 => by unfold setR; rw [if_neg (by omega)]), ?_⟩
      rw [← List.append_assoc, At.append]
      refine ⟨?_, ?_⟩
      · have := setR_At (f := a) (o := 380 + (flat A).length) m2
        rw [List.length_append, hlo] at this
        exact this
      · rw [List.length_append, hlo]
        refine g3.2.2.congr (fun j h1 h2 => by unfold setR; rw [if_neg (by omega)])
    generalize setR a mo' (380 + (flat A).length) X.2.2.2.length = c at s0 s1 ⊢
    have s3 := s0 3 (by omega)
    -- the pieces move on
    have l227 : ∀ k : (Nat → Int32) → Option (Int32 × (Nat → Int32) × (Nat → Int32)), f_X8_cracks_227 (iN A.length) k N (iN (540 + 4 * (A.length + B.length + 1) - 1)) c = k (up4 c (540 + 4 * (A.length + B.length + 1) - 1) (4 * (B.length + 1))) := by
      intro k
      have : ∀ m i, i ≤ 4 * (B.length + 1) → 4 * (B.length + 1) - i < m → f_X8_cracks_227 (iN A.length) k m (iN (540 + 4 * (A.length + B.length + 1) - 1 - i)) (up4 c (540 + 4 * (A.length + B.length + 1) - 1) i) = k (up4 c (540 + 4 * (A.length + B.length + 1) - 1) (4 * (B.length + 1))) := by
        intro m
        induction m with
        | zero => intro i h1 h2; omega
        | succ m ih =>
          intro i hi1 hi2
          rw [f_X8_cracks_227.eq_2]
          by_cases h8 : i = 4 * (B.length + 1)
          · subst h8; simp (disch := omega) only [Nat.add_zero, iN_lit, iN_lt, iN_le, iN_eq, iN_add, iN_mul, iN_sub, iN_nat, iN_div, iN_mod, iN_pred', n1_lt, n1_le, n1_ne, n1_ne', n1_nle, n1_nlt, n1_eq, oobN, some_lt, some_jn, bnd_some, Bool.false_eq_true, if_true, if_false, ite_true, ite_false, ↓reduceIte, ltT, ltF, leT, leF, eqT, eqF, true_and, and_true, false_and, and_false, true_or, or_true, false_or, or_false, not_true_eq_false, not_false_eq_true, if_pos, if_neg]
          · have ih := ih (i + 1) (by omega) (by omega)
            have e9 := up4_step (f := c) (M := 540 + 4 * (A.length + B.length + 1) - 1) (i := i) (by omega)
            rw [show 540 + 4 * (A.length + B.length + 1) - 1 + 4 - i = 540 + 4 * (A.length + B.length + 1) - 1 - i + 4 by omega] at e9
            rw [show iN (540 + 4 * (A.length + B.length + 1) - 1 - i) + (-1) = iN (540 + 4 * (A.length + B.length + 1) - 1 - (i + 1)) from (iN_pred (by omega)).trans (by congr 1)]
            simp (disch := omega) only [Nat.add_zero, iN_lit, iN_lt, iN_le, iN_eq, iN_add, iN_mul, iN_sub, iN_nat, iN_div, iN_mod, iN_pred', n1_lt, n1_le, n1_ne, n1_ne', n1_nle, n1_nlt, n1_eq, oobN, some_lt, some_jn, bnd_some, Bool.false_eq_true, if_true, if_false, ite_true, ite_false, ↓reduceIte, ltT, ltF, leT, leF, eqT, eqF, true_and, and_true, false_and, and_false, true_or, or_true, false_or, or_false, not_true_eq_false, not_false_eq_true, if_pos, if_neg, e9]
            exact ih
      have := this N 0 (by omega) (by omega)
      rw [up4_zero] at this
      exact this
    have t0 : ∀ j, j < 544 + 4 * A.length ∨ 796 ≤ j → up4 c (540 + 4 * (A.length + B.length + 1) - 1) (4 * (B.length + 1)) j = c j := fun j hj => by unfold up4; rw [if_neg (by omega)]
    have t1 : ∀ j, 540 + 4 * A.length ≤ j → j < 540 + 4 * (A.length + B.length + 1) → up4 c (540 + 4 * (A.length + B.length + 1) - 1) (4 * (B.length + 1)) (j + 4) = c j := fun j h1 h2 => by
      unfold up4; rw [if_pos (by omega)]; rfl
    have l227' : ∀ k : (Nat → Int32) → Option (Int32 × (Nat → Int32) × (Nat → Int32)), (lt (540 + 4 * c 3 - 1) fun y225_15 => f_X8_cracks_227 (iN A.length) k N y225_15 c) = k (up4 c (540 + 4 * (A.length + B.length + 1) - 1) (4 * (B.length + 1))) := by
      intro k
      rw [s3, g1]
      simp (disch := omega) only [Nat.add_zero, iN_lit, iN_lt, iN_le, iN_eq, iN_add, iN_mul, iN_sub, iN_nat, iN_div, iN_mod, iN_pred', n1_lt, n1_le, n1_ne, n1_ne', n1_nle, n1_nlt, n1_eq, oobN, some_lt, some_jn, bnd_some, Bool.false_eq_true, if_true, if_false, ite_true, ite_false, ↓reduceIte, ltT, ltF, leT, leF, eqT, eqF, true_and, and_true, false_and, and_false, true_or, or_true, false_or, or_false, not_true_eq_false, not_false_eq_true, if_pos, if_neg]
      exact l227 k
    rw [l227']
    generalize up4 c (540 + 4 * (A.length + B.length + 1) - 1) (4 * (B.length + 1)) = d at t0 t1 ⊢
    have t3 : d 3 = iN (A.length + B.length + 1) := by rw [t0 3 (by omega), s3, g1]
    have p2 := t0 (540 + 4 * A.length + 2) (by omega)
    rw [s0 _ (by omega), g5.2.2.1] at p2
    have p3 := t0 (540 + 4 * A.length + 3) (by omega)
    rw [s0 _ (by omega), g5.2.2.2] at p3
    have p0 := t0 (540 + 4 * A.length) (by omega)
    rw [s0 _ (by omega), g5.1] at p0
    have p7 := t1 (540 + 4 * A.length + 3) (by omega) (by omega)
    rw [s0 _ (by omega), g5.2.2.2] at p7
    have e7 := r_logOf (N := N) (v := X.2.2.2.length + 1) (by omega) hN
    have ep := fun (g : Nat → Int32) p w v (hp : p ≤ 62) (hw : w < 4) => r_puts (a := g) (p := p) (w := w) (v := v) hp hw
    have eo := fun (g : Nat → Int32) p w (hp : p ≤ 62) (hw : w < 4) => r_of (a := g) (p := p) (w := w) hp hw
    have aL := fun j v => upd_self d j v
    refine ⟨upd (upd (upd (upd (upd (upd d 3 (iN (A.length + B.length + 1 + 1))) (540 + 4 * A.length + 1) (iN (lo K b X.2.2.2).length)) (540 + 4 * A.length + 2) (iN (X.2.1 / 2))) (540 + 4 * (A.length + 1) + 0) (iN b)) (540 + 4 * (A.length + 1) + 1) (iN (X.2.2.2.length - (lo K b X.2.2.2).length))) (540 + 4 * (A.length + 1) + 2) (iN (X.2.1 / 2)), mo', ?_, ?_, fun j hj => ?_⟩
    · have k1 : f_X8_of (upd (upd d 3 (iN (A.length + B.length + 1 + 1))) (540 + 4 * A.length + 1) (iN (lo K b X.2.2.2).length)) (iN A.length) (iN 2) = some (iN X.2.1) := by
        rw [r_of (by omega) (by omega), upd_ne (by omega), upd_ne (by omega), p2]
      have k2 : f_X8_of (upd (upd (upd (upd (upd d 3 (iN (A.length + B.length + 1 + 1))) (540 + 4 * A.length + 1) (iN (lo K b X.2.2.2).length)) (540 + 4 * A.length + 2) (iN (X.2.1 / 2))) (540 + 4 * (A.length + 1) + 0) (iN b)) (540 + 4 * (A.length + 1) + 1) (iN (X.2.2.2.length - (lo K b X.2.2.2).length))) (iN A.length) (iN 2) = some (iN (X.2.1 / 2)) := by
        rw [r_of (by omega) (by omega), upd_ne (by omega), upd_ne (by omega), upd_self]
      have k3 : f_X8_of (upd (upd (upd (upd (upd (upd d 3 (iN (A.length + B.length + 1 + 1))) (540 + 4 * A.length + 1) (iN (lo K b X.2.2.2).length)) (540 + 4 * A.length + 2) (iN (X.2.1 / 2))) (540 + 4 * (A.length + 1) + 0) (iN b)) (540 + 4 * (A.length + 1) + 1) (iN (X.2.2.2.length - (lo K b X.2.2.2).length))) (540 + 4 * (A.length + 1) + 2) (iN (X.2.1 / 2))) (iN A.length) (iN 3) = some (iN X.2.2.1) := by
        rw [r_of (by omega) (by omega), upd_ne (by omega), upd_ne (by omega), upd_ne (by omega), upd_ne (by omega), upd_ne (by omega), upd_ne (by omega), p3]
      simp only [Nat.add_zero] at k2 k3 ⊢
      have hlt : X.2.2.2.length - (lo K b X.2.2.2).length < 2147483648 := by omega
      rcases Nat.le_one_iff_eq_zero_or_eq_one.mp hso with h8 | h8
      · rw [h8] at k3
        simp (disch := omega) only [Nat.add_zero, iN_lit, iN_lt, iN_le, iN_eq, iN_add, iN_mul, iN_sub, iN_nat, iN_div, iN_mod, iN_pred', n1_lt, n1_le, n1_ne, n1_ne', n1_nle, n1_nlt, n1_eq, oobN, some_lt, some_jn, bnd_some, Bool.false_eq_true, if_true, if_false, ite_true, ite_false, ↓reduceIte, ltT, ltF, leT, leF, eqT, eqF, true_and, and_true, false_and, and_false, true_or, or_true, false_or, or_false, not_true_eq_false, not_false_eq_true, if_pos, if_neg, t3, r_puts, k1, k2, k3, h8]
      · rw [h8] at k3
        simp (disch := omega) only [Nat.add_zero, iN_lit, iN_lt, iN_le, iN_eq, iN_add, iN_mul, iN_sub, iN_nat, iN_div, iN_mod, iN_pred', n1_lt, n1_le, n1_ne, n1_ne', n1_nle, n1_nlt, n1_eq, oobN, some_lt, some_jn, bnd_some, Bool.false_eq_true, if_true, if_false, ite_true, ite_false, ↓reduceIte, ltT, ltF, leT, leF, eqT, eqF, true_and, and_true, false_and, and_false, true_or, or_true, false_or, or_false, not_true_eq_false, not_false_eq_true, if_pos, if_neg, t3, r_puts, k1, k2, k3, h8, e7]
    · show RX _ (A ++ ((X.1, X.2.1 / 2, X.2.2.1, lo K b X.2.2.2) : Pc) :: (((b, X.2.1 / 2, X.2.2.1, hi K b X.2.2.2) : Pc) :: B))
      refine RX_app.mpr ⟨?_, ?_, ?_, ?_, ⟨?_, ?_, ?_, ?_⟩, ?_⟩
      · rw [upd_ne (by omega), upd_ne (by omega), upd_ne (by omega), upd_ne (by omega), upd_ne (by omega), upd_self]; simp; congr 1
      · rw [upd_ne (by omega), upd_ne (by omega), upd_ne (by omega), upd_ne (by omega), upd_ne (by omega), upd_ne (by omega), t0 _ (by omega), s0 _ (by omega), g2]
        simp only [flat, List.length_append]; congr 1; omega
      · refine s1.congr (fun j hj1 hj2 => ?_)
        simp only [List.length_append, flat] at hj2
        rw [upd_ne (by omega), upd_ne (by omega), upd_ne (by omega), upd_ne (by omega), upd_ne (by omega), upd_ne (by omega), t0 _ (by omega)]
      · refine g4.congr (fun j hj1 hj2 => ?_)
        rw [enc_length] at hj2
        rw [upd_ne (by omega), upd_ne (by omega), upd_ne (by omega), upd_ne (by omega), upd_ne (by omega), upd_ne (by omega), t0 _ (by omega), s0 _ (by omega)]
      · rw [upd_ne (by omega), upd_ne (by omega), upd_ne (by omega), upd_ne (by omega), upd_ne (by omega), upd_ne (by omega), p0]
      · rw [upd_ne (by omega), upd_ne (by omega), upd_ne (by omega), upd_ne (by omega), upd_self]
      · rw [upd_ne (by omega), upd_ne (by omega), upd_ne (by omega), upd_self]
      · rw [upd_ne (by omega), upd_ne (by omega), upd_ne (by omega), upd_ne (by omega), upd_ne (by omega), upd_ne (by omega), p3]
      · simp only [enc, At.cons]
        rw [show 544 + 4 * A.length = 540 + 4 * (A.length + 1) by omega]
        refine ⟨?_, ?_, ?_, ?_, ?_⟩
        · rw [upd_ne (by omega), upd_ne (by omega)]; exact upd_self _ _ _
        · rw [upd_ne (by omega), upd_self]; congr 1; omega
        · rw [show 540 + 4 * (A.length + 1) + 1 + 1 = 540 + 4 * (A.length + 1) + 2 by omega, upd_self]
        · rw [upd_ne (by omega), upd_ne (by omega), upd_ne (by omega), upd_ne (by omega), upd_ne (by omega), upd_ne (by omega), show 540 + 4 * (A.length + 1) + 1 + 1 + 1 = 540 + 4 * A.length + 3 + 4 by omega, p7]
        · intro i r hi
          have hlen := (List.getElem?_eq_some_iff.mp hi).1
          rw [enc_length] at hlen
          rw [upd_ne (by omega), upd_ne (by omega), upd_ne (by omega), upd_ne (by omega), upd_ne (by omega), upd_ne (by omega), show 540 + 4 * (A.length + 1) + 1 + 1 + 1 + 1 + i = (544 + 4 * A.length + i) + 4 by omega, t1 _ (by omega) (by omega), s0 _ (by omega)]
          exact g6 i r hi
    · unfold idxR at hj
      rw [upd_ne (by omega), upd_ne (by omega), upd_ne (by omega), upd_ne (by omega), upd_ne (by omega), upd_ne (by omega), t0 _ (by omega), s0 _ (by omega)]
end WX
