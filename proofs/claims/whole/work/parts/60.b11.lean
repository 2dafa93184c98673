/-- a row's place in the order of a piece -/
def rkG (K : Nat → Nat) (l : List Nat) (row x j : Nat) : Nat := if ahd K (l.getD j 0) row = true then x + 1 else x
def rkS (K : Nat → Nat) (l : List Nat) (row : Nat) : Nat := pfi (rkG K l row) 0 l.length
def misG (K : Nat → Nat) (l : List Nat) (x j : Nat) : Nat := if rkS K l (l.getD j 0) = j then x else x + 1
def misS (K : Nat → Nat) (l : List Nat) : Nat := pfi (misG K l) 0 l.length
section WR
variable {n N : Nat} {sz pc : Int32} {en bo he so st ky : Nat → Int32} {P : List Pc} {K : Nat → Nat}
theorem fl_mid {A : List Pc} {X : Pc} {B : List Pc} {j : Nat} (h : j < X.2.2.2.length) : fl (A ++ X :: B) ((flat A).length + j) = X.2.2.2.getD j 0 := by
  unfold fl
  rw [flat_append, flat, gD_right (by omega), gD_left (by omega)]
  congr 1; omega
theorem c_rowAt' {i : Nat} (h : IX sz pc en bo he so st P) (hz : SZ n P) (hi : i < (flat P).length) : f_X3_rowAt sz en (iN i) = some (iN (fl P i)) := by
  rw [fl_eq hi]; exact c_rowAt h hz hi
theorem c_aheadOf {A : List Pc} {X : Pc} {B : List Pc} {row : Nat} (h : IX sz pc en bo he so st (A ++ X :: B)) (hz : SZ n (A ++ X :: B)) (hk : KY n ky K) (hN : 1000 < N) (hr : row < n) :
    f_X3_aheadOf N sz en ky (iN row) (iN (flat A).length) (iN ((flat A).length + X.2.2.2.length)) = some (iN (rkS K X.2.2.2 row)) := by
  have hfl := hz.fl; have hn := hz.nn
  have hfl2 : (flat A).length + (X.2.2.2.length + (flat B).length) ≤ 120 := by simpa [flat_append, flat] using hfl
  have hrs : ∀ r, r ∈ X.2.2.2 → r < n := fun r hr => hz.rs r (by simp [flat_append, flat, hr])
  unfold f_X3_aheadOf
  rw [some_jn]
  refine (lpC (F := fun m i x => f_X3_aheadOf_6 sz en ky (iN row) (iN ((flat A).length + X.2.2.2.length)) (fun x => some x) m (iN x) (iN ((flat A).length + i))) (k := fun x => some (iN x)) (g := rkG K X.2.2.2 row) (x0 := 0) (e := X.2.2.2.length) (I := fun _ _ => True) trivial (fun _ _ _ _ => trivial) (fun m i x hi _ => ?_) (fun m x _ => ?_) N (by omega)).1
  · show f_X3_aheadOf_6 sz en ky _ _ _ (m + 1) (iN x) (iN ((flat A).length + i)) = _
    have e1 := c_rowAt' (i := (flat A).length + i) h hz (by simp [flat_append, flat]; omega)
    rw [fl_mid hi] at e1
    have e2 : X.2.2.2.getD i 0 < n := by rw [getD_get hi]; exact hrs _ (List.getElem_mem hi)
    rw [f_X3_aheadOf_6.eq_2, e1, bnd_some, c_isAhead hk hn e2 hr, bnd_some]
    unfold rkG
    by_cases h9 : ahd K (X.2.2.2.getD i 0) row = true
    · rw [h9]; simp (disch := omega) only [Nat.add_zero, iN_lit, iN_lt, iN_le, iN_eq, iN_add, iN_mul, iN_sub, iN_nat, iN_div, iN_mod, iN_pred', n1_lt, n1_le, n1_ne, n1_ne', n1_nle, n1_nlt, n1_eq, oobN, some_lt, some_jn, bnd_some, Bool.false_eq_true, if_true, if_false, ite_true, ite_false, ↓reduceIte, ltT, ltF, leT, leF, eqT, eqF, true_and, and_true, false_and, and_false, true_or, or_true, false_or, or_false, not_true_eq_false, not_false_eq_true, if_pos, if_neg]; rfl
    · have h9 : ahd K (X.2.2.2.getD i 0) row = false := by simpa using h9
      rw [h9]; simp (disch := omega) only [Nat.add_zero, iN_lit, iN_lt, iN_le, iN_eq, iN_add, iN_mul, iN_sub, iN_nat, iN_div, iN_mod, iN_pred', n1_lt, n1_le, n1_ne, n1_ne', n1_nle, n1_nlt, n1_eq, oobN, some_lt, some_jn, bnd_some, Bool.false_eq_true, if_true, if_false, ite_true, ite_false, ↓reduceIte, ltT, ltF, leT, leF, eqT, eqF, true_and, and_true, false_and, and_false, true_or, or_true, false_or, or_false, not_true_eq_false, not_false_eq_true, if_pos, if_neg]; rfl
  · show f_X3_aheadOf_6 sz en ky _ _ _ (m + 1) (iN x) (iN ((flat A).length + X.2.2.2.length)) = _
    rw [f_X3_aheadOf_6.eq_2]; simp (disch := omega) only [Nat.add_zero, iN_lit, iN_lt, iN_le, iN_eq, iN_add, iN_mul, iN_sub, iN_nat, iN_div, iN_mod, iN_pred', n1_lt, n1_le, n1_ne, n1_ne', n1_nle, n1_nlt, n1_eq, oobN, some_lt, some_jn, bnd_some, Bool.false_eq_true, if_true, if_false, ite_true, ite_false, ↓reduceIte, ltT, ltF, leT, leF, eqT, eqF, true_and, and_true, false_and, and_false, true_or, or_true, false_or, or_false, not_true_eq_false, not_false_eq_true, if_pos, if_neg]
theorem c_misplaced {p : Nat} (h : IX sz pc en bo he so st P) (hz : SZ n P) (hk : KY n ky K) (hN : 1000 < N) (hp : p < P.length) : f_X3_misplacedIn N sz pc en st ky (iN p) = some (iN (misS K P[p].2.2.2)) := by
  have hl := hz.len; have hn := hz.nn; have hfl := hz.fl
  obtain ⟨A, X, B, rfl, rfl⟩ := split_at hp
  have hfl2 : (flat A).length + (X.2.2.2.length + (flat B).length) ≤ 120 := by simpa [flat_append, flat] using hfl
  have e3 := c_startOf (p := A.length) h hz (by simp)
  have e5 := c_startOf (p := A.length + 1) h hz (by simp)
  rw [sp_app] at e3
  rw [sp_app1] at e5
  have hrs : ∀ r, r ∈ X.2.2.2 → r < n := fun r hr => hz.rs r (by simp [flat_append, flat, hr])
  have hX : (A ++ X :: B)[A.length] = X := by simp
  rw [hX]
  unfold f_X3_misplacedIn
  rw [e3, bnd_some, show iN A.length + 1 = iN (A.length + 1) from iN_add _ 1, e5, bnd_some, some_jn]
  refine (lpC (F := fun m i x => f_X3_misplacedIn_20 N sz en ky (iN (flat A).length) (iN ((flat A).length + X.2.2.2.length)) (fun x => some x) m (iN x) (iN ((flat A).length + i))) (k := fun x => some (iN x)) (g := misG K X.2.2.2) (x0 := 0) (e := X.2.2.2.length) (I := fun _ _ => True) trivial (fun _ _ _ _ => trivial) (fun m i x hi _ => ?_) (fun m x _ => ?_) N (by omega)).1
  · show f_X3_misplacedIn_20 N sz en ky _ _ _ (m + 1) (iN x) (iN ((flat A).length + i)) = _
    have e1 := c_rowAt' (i := (flat A).length + i) h hz (by simp [flat_append, flat]; omega)
    rw [fl_mid hi] at e1
    have e2 : X.2.2.2.getD i 0 < n := by rw [getD_get hi]; exact hrs _ (List.getElem_mem hi)
    have e6 : rkS K X.2.2.2 (X.2.2.2.getD i 0) ≤ 0 + X.2.2.2.length := pfi_le (fun x r => by unfold rkG; split <;> omega)
    rw [f_X3_misplacedIn_20.eq_2, e1, bnd_some, c_aheadOf h hz hk hN e2, bnd_some]
    unfold misG
    generalize rkS K X.2.2.2 (X.2.2.2.getD i 0) = q at e6 ⊢
    by_cases h9 : q = i
    · simp (disch := omega) only [Nat.add_zero, iN_lit, iN_lt, iN_le, iN_eq, iN_add, iN_mul, iN_sub, iN_nat, iN_div, iN_mod, iN_pred', n1_lt, n1_le, n1_ne, n1_ne', n1_nle, n1_nlt, n1_eq, oobN, some_lt, some_jn, bnd_some, Bool.false_eq_true, if_true, if_false, ite_true, ite_false, ↓reduceIte, ltT, ltF, leT, leF, eqT, eqF, true_and, and_true, false_and, and_false, true_or, or_true, false_or, or_false, not_true_eq_false, not_false_eq_true, if_pos, if_neg, Nat.add_sub_cancel_left]; rfl
    · simp (disch := omega) only [Nat.add_zero, iN_lit, iN_lt, iN_le, iN_eq, iN_add, iN_mul, iN_sub, iN_nat, iN_div, iN_mod, iN_pred', n1_lt, n1_le, n1_ne, n1_ne', n1_nle, n1_nlt, n1_eq, oobN, some_lt, some_jn, bnd_some, Bool.false_eq_true, if_true, if_false, ite_true, ite_false, ↓reduceIte, ltT, ltF, leT, leF, eqT, eqF, true_and, and_true, false_and, and_false, true_or, or_true, false_or, or_false, not_true_eq_false, not_false_eq_true, if_pos, if_neg, Nat.add_sub_cancel_left]; rfl
  · show f_X3_misplacedIn_20 N sz en ky _ _ _ (m + 1) (iN x) (iN ((flat A).length + X.2.2.2.length)) = _
    rw [f_X3_misplacedIn_20.eq_2]; simp (disch := omega) only [Nat.add_zero, iN_lit, iN_lt, iN_le, iN_eq, iN_add, iN_mul, iN_sub, iN_nat, iN_div, iN_mod, iN_pred', n1_lt, n1_le, n1_ne, n1_ne', n1_nle, n1_nlt, n1_eq, oobN, some_lt, some_jn, bnd_some, Bool.false_eq_true, if_true, if_false, ite_true, ite_false, ↓reduceIte, ltT, ltF, leT, leF, eqT, eqF, true_and, and_true, false_and, and_false, true_or, or_true, false_or, or_false, not_true_eq_false, not_false_eq_true, if_pos, if_neg]
/-- moved up behind p, the last i of them -/
def upA (f : Nat → Int32) (M i : Nat) : Nat → Int32 := fun j => if M - i < j ∧ j ≤ M then f (j - 1) else f j
theorem upA_step {f : Nat → Int32} {M i : Nat} (h : i < M) : upd (upA f M i) (M - i) (upA f M i (M - i - 1)) = upA f M (i + 1) := by
  funext j
  unfold upd upA
  by_cases h1 : j = M - i
  · subst h1
    rw [if_pos rfl, if_neg (by omega), if_pos (by omega)]
  · rw [if_neg h1]
    by_cases h2 : M - i < j ∧ j ≤ M
    · rw [if_pos h2, if_pos (by omega)]
    · rw [if_neg h2, if_neg (by omega)]
theorem div_loop {M p : Nat} (hM : M < 62) (hp : p < M) (hN : 1000 < N) (k : (Nat → Int32) → (Nat → Int32) → (Nat → Int32) → (Nat → Int32) → Option (Int32 × Int32 × (Nat → Int32) × (Nat → Int32) × (Nat → Int32) × (Nat → Int32) × (Nat → Int32))) :
    f_X3_divideAt_74 (iN p) k N (iN M) bo he so st = k (upA bo M (M - p)) (upA he M (M - p)) (upA so M (M - p)) (upA st M (M - p)) := by
  have z : ∀ f : Nat → Int32, upA f M 0 = f := fun f => by funext j; unfold upA; rw [if_neg (by omega)]
  have : ∀ m i, i ≤ M - p → M - p - i < m → f_X3_divideAt_74 (iN p) k m (iN (M - i)) (upA bo M i) (upA he M i) (upA so M i) (upA st M i) = k (upA bo M (M - p)) (upA he M (M - p)) (upA so M (M - p)) (upA st M (M - p)) := by
    intro m
    induction m with
    | zero => intro i h1 h2; omega
    | succ m ih =>
      intro i h1 h2
      rw [f_X3_divideAt_74.eq_2]
      by_cases h3 : i = M - p
      · subst h3; rw [show M - (M - p) = p by omega]; simp (disch := omega) only [Nat.add_zero, iN_lit, iN_lt, iN_le, iN_eq, iN_add, iN_mul, iN_sub, iN_nat, iN_div, iN_mod, iN_pred', n1_lt, n1_le, n1_ne, n1_ne', n1_nle, n1_nlt, n1_eq, oobN, some_lt, some_jn, bnd_some, Bool.false_eq_true, if_true, if_false, ite_true, ite_false, ↓reduceIte, ltT, ltF, leT, leF, eqT, eqF, true_and, and_true, false_and, and_false, true_or, or_true, false_or, or_false, not_true_eq_false, not_false_eq_true, if_pos, if_neg]
      · have h4 := ih (i + 1) (by omega) (by omega)
        have h5 := c_movePiece (f := M - i - 1) (t := M - i) (bo := upA bo M i) (he := upA he M i) (so := upA so M i) (st := upA st M i) (by omega) (by omega)
        rw [upA_step (by omega), upA_step (by omega), upA_step (by omega), upA_step (by omega)] at h5
        rw [show iN (M - i) - 1 = iN (M - i - 1) from iN_sub (a := M - i) (b := 1) (by omega), h5, show iN (M - i) + (-1) = iN (M - (i + 1)) from iN_pred (by omega)]
        simp (disch := omega) only [Nat.add_zero, iN_lit, iN_lt, iN_le, iN_eq, iN_add, iN_mul, iN_sub, iN_nat, iN_div, iN_mod, iN_pred', n1_lt, n1_le, n1_ne, n1_ne', n1_nle, n1_nlt, n1_eq, oobN, some_lt, some_jn, bnd_some, Bool.false_eq_true, if_true, if_false, ite_true, ite_false, ↓reduceIte, ltT, ltF, leT, leF, eqT, eqF, true_and, and_true, false_and, and_false, true_or, or_true, false_or, or_false, not_true_eq_false, not_false_eq_true, if_pos, if_neg]
        exact h4
  have h := this N 0 (by omega) (by omega)
  rw [z, z, z, z] at h
  exact h
theorem upA_lo {f : Nat → Int32} {M p j : Nat} (hp : p ≤ M) (h : j ≤ p) : upA f M (M - p) j = f j := by unfold upA; rw [if_neg (by omega)]
theorem upA_hi {f : Nat → Int32} {M p j : Nat} (hp : p ≤ M) (h : p ≤ j) (h2 : j < M) : upA f M (M - p) (j + 1) = f j := by
  unfold upA; rw [if_pos (by omega)]; congr 1
/-- cracks: the cost -/
def divC (b : Nat) (P : List Pc) : Nat := if bdL P (pcF P b) = b then 0 else if soL P (pcF P b) = 1 then lgS (lnL P (pcF P b) + 1) else lnL P (pcF P b)
theorem c_divideAt {b : Nat} (h : IX sz pc en bo he so st P) (hz : SZ n P) (hk : KY n ky K) (hN : 1000 < N) (hb : b ≤ 10000) (h62 : P.length < 62) :
    ∃ pc' bo' en' he' so' st', f_X3_divideAt N sz pc bo en he so st ky (iN b) = some (iN (divC b P), pc', bo', en', he', so', st') ∧ IX sz pc' en' bo' he' so' st' (divS K b P) := by
  have hl := hz.len; have hn := hz.nn; have hfl := hz.fl
  have hp : pcF P b < P.length := pcF_lt hz.one
  have e2 := c_pieceFor' (key := b) h hz (by omega) hN
  have e1 := c_boundOf h hz hp
  have e4 := c_isSorted h hz hp
  have e6 := c_sizeOf h hz hp
  have hbd := hz.bd _ (List.getElem_mem hp)
  have hso := hz.so _ (List.getElem_mem hp)
  have q1 : bdL P (pcF P b) = P[pcF P b].1 := by simp [bdL, hp]
  unfold divS divC
  rw [q1, soL_eq hp, lnL_eq hp]
  have hht := ht_lt hz hp
  have hg := fun A X B (hP : P = A ++ X :: B) => c_gatherLess (A := A) (X := X) (B := B) (b := b) (K := K) (ky := ky) (N := N) (hP ▸ h) (hP ▸ hz) hk hN hb
  unfold f_X3_divideAt
  rw [e2, bnd_some]
  have e0 : f_X3_has pc (iN (pcF P b)) = some 1 := by rw [h.hp, c_has hl (by omega), if_pos hp]
  rw [e0, e1]
  by_cases h1 : P[pcF P b].1 = b
  · rw [if_pos h1, if_pos h1]
    refine ⟨pc, bo, en, he, so, st, ?_, h⟩
    simp (disch := omega) only [Nat.add_zero, iN_lit, iN_lt, iN_le, iN_eq, iN_add, iN_mul, iN_sub, iN_nat, iN_div, iN_mod, iN_pred', n1_lt, n1_le, n1_ne, n1_ne', n1_nle, n1_nlt, n1_eq, oobN, some_lt, some_jn, bnd_some, Bool.false_eq_true, if_true, if_false, ite_true, ite_false, ↓reduceIte, ltT, ltF, leT, leF, eqT, eqF, true_and, and_true, false_and, and_false, true_or, or_true, false_or, or_false, not_true_eq_false, not_false_eq_true, if_pos, if_neg, h1]
  · rw [if_neg h1, if_neg h1]
    generalize pcF P b = p at *
    obtain ⟨A, X, B, rfl, rfl⟩ := split_at hp
    have hX : (A ++ X :: B)[A.length] = X := by simp
    obtain ⟨en', g1, g2⟩ := hg A X B rfl
    simp only [hX] at e1 e4 e6 hbd hso hht h1 q1 ⊢
    rw [mdp_app]
    have hfl2 : (flat A).length + (X.2.2.2.length + (flat B).length) ≤ 120 := by simpa [flat_append, flat] using hfl
    obtain ⟨rfl, rfl, h3, h4, h5, h6, h7⟩ := IX_app.mp h
    simp only [List.length_append, List.length_cons] at hl h62
    have e7 := c_powerFor (N := N) (v := X.2.2.2.length + 1) (by omega) hN
    have e8 := fun k => div_loop (bo := bo) (he := he) (so := so) (st := st) (N := N) (M := A.length + B.length + 1) (p := A.length) (by omega) (by omega) hN k
    have u1 : upA he (A.length + B.length + 1) (A.length + B.length + 1 - A.length) A.length = iN X.2.1 := by rw [upA_lo (by omega) (Nat.le_refl _)]; exact h5.2.1
    have hlo := lohi_len (K := K) (b := b) X.2.2.2
    have fin : IX (iN ((flat A).length + (X.2.2.2.length + (flat B).length))) (iN (A.length + B.length + 1 + 1)) en'
        (upd (upA bo (A.length + B.length + 1) (A.length + B.length + 1 - A.length)) (A.length + 1) (iN b))
        (upd (upd (upA he (A.length + B.length + 1) (A.length + B.length + 1 - A.length)) A.length (iN (X.2.1 / 2))) (A.length + 1) (iN (X.2.1 / 2)))
        (upA so (A.length + B.length + 1) (A.length + B.length + 1 - A.length))
        (upd (upA st (A.length + B.length + 1) (A.length + B.length + 1 - A.length)) (A.length + 1) (iN ((flat A).length + (lo K b X.2.2.2).length))) (A ++ (divPc K b X ++ B)) := by
      show IX _ _ _ _ _ _ _ (A ++ ((X.1, X.2.1 / 2, X.2.2.1, lo K b X.2.2.2) : Pc) :: (((b, X.2.1 / 2, X.2.2.1, hi K b X.2.2.2) : Pc) :: B))
      refine IX_app.mpr ⟨?_, ?_, ?_, ⟨?_, ?_, ?_⟩, ⟨?_, ?_, ?_⟩, ⟨?_, ?_, ?_⟩, ⟨?_, ?_, ?_⟩⟩
      · simp; congr 1
      · simp only [flat, List.length_append]; congr 1; omega
      · simpa only [flat, List.append_assoc] using g2
      · refine h4.1.congr (fun j h1 h2 => ?_)
        simp at h2
        rw [upd_ne (by omega), upA_lo (by omega) (by omega)]
      · rw [upd_ne (by omega), upA_lo (by omega) (by omega)]; exact h4.2.1
      · simp only [List.map_cons, At.cons]
        refine ⟨upd_self _ _ _, At.up h4.2.2 (fun j h1 h2 => ?_)⟩
        simp at h2
        rw [upd_ne (by omega), upA_hi (by omega) (by omega) (by omega)]
      · refine h5.1.congr (fun j h1 h2 => ?_)
        simp at h2
        rw [upd_ne (by omega), upd_ne (by omega), upA_lo (by omega) (by omega)]
      · rw [upd_ne (by omega), upd_self]
      · simp only [List.map_cons, At.cons]
        refine ⟨upd_self _ _ _, At.up h5.2.2 (fun j h1 h2 => ?_)⟩
        simp at h2
        rw [upd_ne (by omega), upd_ne (by omega), upA_hi (by omega) (by omega) (by omega)]
      · refine h6.1.congr (fun j h1 h2 => ?_)
        simp at h2
        rw [upA_lo (by omega) (by omega)]
      · rw [upA_lo (by omega) (by omega)]; exact h6.2.1
      · simp only [List.map_cons, At.cons]
        refine ⟨?_, At.up h6.2.2 (fun j h1 h2 => ?_)⟩
        · rw [upA_hi (by omega) (by omega) (by omega)]; exact h6.2.1
        · simp at h2
          rw [upA_hi (by omega) (by omega) (by omega)]
      · refine h7.1.congr (fun j h1 h2 => ?_)
        rw [sts_length] at h2
        rw [upd_ne (by omega), upA_lo (by omega) (by omega)]
      · rw [upd_ne (by omega), upA_lo (by omega) (by omega)]; exact h7.2.1
      · simp only [sts, At.cons]
        refine ⟨upd_self _ _ _, ?_⟩
        rw [show (flat A).length + (lo K b X.2.2.2).length + (hi K b X.2.2.2).length = (flat A).length + X.2.2.2.length by omega]
        refine At.up h7.2.2 (fun j h1 h2 => ?_)
        rw [sts_length] at h2
        rw [upd_ne (by omega), upA_hi (by omega) (by omega) (by omega)]
    rcases Nat.le_one_iff_eq_zero_or_eq_one.mp hso with h8 | h8
    · refine ⟨_, _, _, _, _, _, ?_, fin⟩
      rw [e6, e4, h8, if_neg (show ¬ (0 : Nat) = 1 by omega)]
      simp only [bnd_some, i00, if_true, some_jn, show ((1 : Int32) = 0) = False from eq_false (by decide), if_false]
      have h9 : (iN X.1 = iN b) = False := eq_false (by rw [iN_eq (by omega) (by omega)]; exact h1)
      have h10 : (iN (A.length + B.length + 1) < 62) = True := eq_true (by show iN _ < iN 62; rw [iN_lt (by omega) (by omega)]; omega)
      simp only [h9, h10, if_true, if_false, g1, bnd2]
      rw [e8]
      simp (disch := omega) only [Nat.add_zero, iN_lit, iN_lt, iN_le, iN_eq, iN_add, iN_mul, iN_sub, iN_nat, iN_div, iN_mod, iN_pred', n1_lt, n1_le, n1_ne, n1_ne', n1_nle, n1_nlt, n1_eq, oobN, some_lt, some_jn, bnd_some, Bool.false_eq_true, if_true, if_false, ite_true, ite_false, ↓reduceIte, ltT, ltF, leT, leF, eqT, eqF, true_and, and_true, false_and, and_false, true_or, or_true, false_or, or_false, not_true_eq_false, not_false_eq_true, if_pos, if_neg, u1, upd_self]
    · refine ⟨_, _, _, _, _, _, ?_, fin⟩
      rw [e6, e4, h8, if_pos (show (1 : Nat) = 1 from rfl)]
      simp only [bnd_some, i10, if_false, some_jn, show ((1 : Int32) = 0) = False from eq_false (by decide), show iN X.2.2.2.length + 1 = iN (X.2.2.2.length + 1) from iN_add _ 1, e7]
      have h9 : (iN X.1 = iN b) = False := eq_false (by rw [iN_eq (by omega) (by omega)]; exact h1)
      have h10 : (iN (A.length + B.length + 1) < 62) = True := eq_true (by show iN _ < iN 62; rw [iN_lt (by omega) (by omega)]; omega)
      simp only [h9, h10, if_true, if_false, g1, bnd2]
      rw [e8]
      simp (disch := omega) only [Nat.add_zero, iN_lit, iN_lt, iN_le, iN_eq, iN_add, iN_mul, iN_sub, iN_nat, iN_div, iN_mod, iN_pred', n1_lt, n1_le, n1_ne, n1_ne', n1_nle, n1_nlt, n1_eq, oobN, some_lt, some_jn, bnd_some, Bool.false_eq_true, if_true, if_false, ite_true, ite_false, ↓reduceIte, ltT, ltF, leT, leF, eqT, eqF, true_and, and_true, false_and, and_false, true_or, or_true, false_or, or_false, not_true_eq_false, not_false_eq_true, if_pos, if_neg, u1, upd_self]
end WR
