/-- where a row comes in, from behind -/
def insK (K : Nat → Nat) (row : Nat) (l : List Nat) : Nat → Nat
  | 0 => 0
  | k + 1 => if ahd K row (l.getD k 0) then insK K row l k else k + 1
def insL (K : Nat → Nat) (row : Nat) (l : List Nat) : List Nat := l.take (insK K row l l.length) ++ row :: l.drop (insK K row l l.length)
def isort (K : Nat → Nat) (l : List Nat) : List Nat := l.foldl (fun acc r => insL K r acc) []
theorem insK_le (K : Nat → Nat) (row : Nat) (l : List Nat) (k : Nat) : insK K row l k ≤ k := by
  induction k with
  | zero => exact Nat.le_refl _
  | succ k ih => unfold insK; split <;> omega
def mdp (f : Pc → List Pc) (p : Nat) (P : List Pc) : List Pc := P.take p ++ ((match P[p]? with | some X => f X | none => []) ++ P.drop (p + 1))
theorem mdp_app (f : Pc → List Pc) (A : List Pc) (X : Pc) (B : List Pc) : mdp f A.length (A ++ X :: B) = A ++ (f X ++ B) := by
  unfold mdp; simp
def putPc (K : Nat → Nat) (row : Nat) (X : Pc) : Pc := ((X.1, X.2.1, X.2.2.1, if X.2.2.1 = 1 then insL K row X.2.2.2 else X.2.2.2 ++ [row]) : Pc)
/-- the piece into which a key belongs -/
def pcF (P : List Pc) (key : Nat) : Nat := lle (P.map (fun X : Pc => X.1)) key P.length
def putS (K : Nat → Nat) (row : Nat) (P : List Pc) : List Pc := mdp (fun X => [putPc K row X]) (pcF P (K row)) P
def takS (K : Nat → Nat) (row : Nat) (P : List Pc) : List Pc := mdp (fun X => [((X.1, X.2.1, X.2.2.1, X.2.2.2.erase row) : Pc)]) (pcF P (K row)) P
def lo (K : Nat → Nat) (b : Nat) (l : List Nat) : List Nat := l.filter (fun r => decide (K r < b))
def hi (K : Nat → Nat) (b : Nat) (l : List Nat) : List Nat := l.filter (fun r => !decide (K r < b))
def divPc (K : Nat → Nat) (b : Nat) (X : Pc) : List Pc := [((X.1, X.2.1 / 2, X.2.2.1, lo K b X.2.2.2) : Pc), ((b, X.2.1 / 2, X.2.2.1, hi K b X.2.2.2) : Pc)]
def bdL (P : List Pc) (i : Nat) : Nat := (P.map (fun X : Pc => X.1)).getD i 0
def divS (K : Nat → Nat) (b : Nat) (P : List Pc) : List Pc := if bdL P (pcF P b) = b then P else mdp (divPc K b) (pcF P b) P
def srtS (K : Nat → Nat) (p : Nat) (P : List Pc) : List Pc := mdp (fun X => [((X.1, X.2.1, 1, isort K X.2.2.2) : Pc)]) p P
def warS (p : Nat) (P : List Pc) : List Pc := mdp (fun X => [((X.1, X.2.1 + 1, X.2.2.1, X.2.2.2) : Pc)]) p P
def jnP (X Y : Pc) : Pc := ((X.1, X.2.1 + Y.2.1, X.2.2.1 * Y.2.2.1, X.2.2.2 ++ Y.2.2.2) : Pc)
def jnS (p : Nat) (P : List Pc) : List Pc := match P.drop p with | X :: Y :: B => P.take p ++ jnP X Y :: B | _ => P
theorem jnS_app (A : List Pc) (X Y : Pc) (B : List Pc) : jnS A.length (A ++ X :: Y :: B) = A ++ jnP X Y :: B := by
  unfold jnS; simp
theorem pcF_lt {P : List Pc} {key : Nat} (h : 1 ≤ P.length) : pcF P key < P.length := by
  unfold pcF
  obtain ⟨m, hm⟩ : ∃ m, P.length = m + 1 := ⟨P.length - 1, by omega⟩
  rw [hm]
  unfold lle
  split
  · omega
  · have := lle_le (P.map (fun X : Pc => X.1)) key m; omega
theorem split_pc {P : List Pc} {p : Nat} (h : p < P.length) : ∃ A X B, P = A ++ X :: B ∧ A.length = p := split_at h
/-- arrays: one comes in -/
theorem At.ins {f : Nat → Int32} {L1 L2 : List Nat} {row o : Nat} (h : At f o (L1 ++ L2)) : At (upd (va_cpy f f (o + L1.length) (o + L1.length + 1) L2.length) (o + L1.length) (iN row)) o (L1 ++ row :: L2) := by
  rw [At.append] at h ⊢
  rw [At.cons]
  obtain ⟨h1, h2⟩ := h
  refine ⟨h1.congr (fun j hj1 hj2 => ?_), upd_self _ _ _, fun i r hi => ?_⟩
  · rw [upd_ne (by omega)]; unfold va_cpy; rw [if_neg (by omega)]
  · have hl := (List.getElem?_eq_some_iff.mp hi).1
    rw [upd_ne (by omega)]; unfold va_cpy; rw [if_pos (by omega), ← h2 i r hi]; congr 1; omega
/-- one goes out -/
theorem At.del {f : Nat → Int32} {L1 L2 : List Nat} {row o : Nat} (h : At f o (L1 ++ row :: L2)) : At (va_cpy f f (o + L1.length + 1) (o + L1.length) L2.length) o (L1 ++ L2) := by
  rw [At.append, At.cons] at h
  rw [At.append]
  obtain ⟨h1, h2, h3⟩ := h
  refine ⟨h1.congr (fun j hj1 hj2 => ?_), fun i r hi => ?_⟩
  · unfold va_cpy; rw [if_neg (by omega)]
  · have hl := (List.getElem?_eq_some_iff.mp hi).1
    unfold va_cpy; rw [if_pos (by omega), ← h3 i r hi]; congr 1; omega
/-- one goes ahead of some -/
theorem At.mov {f : Nat → Int32} {L1 M L2 : List Nat} {row o : Nat} (h : At f o (L1 ++ (M ++ row :: L2))) : At (upd (va_cpy f f (o + L1.length) (o + L1.length + 1) M.length) (o + L1.length) (iN row)) o (L1 ++ row :: (M ++ L2)) := by
  rw [At.append, At.append, At.cons] at h
  rw [At.append, At.cons, At.append]
  obtain ⟨h1, h2, h3, h4⟩ := h
  refine ⟨h1.congr (fun j hj1 hj2 => ?_), upd_self _ _ _, fun i r hi => ?_, ?_⟩
  · rw [upd_ne (by omega)]; unfold va_cpy; rw [if_neg (by omega)]
  · have hl := (List.getElem?_eq_some_iff.mp hi).1
    rw [upd_ne (by omega)]; unfold va_cpy; rw [if_pos (by omega), ← h2 i r hi]; congr 1; omega
  · rw [show o + L1.length + 1 + M.length = o + L1.length + M.length + 1 by omega]
    refine h4.congr (fun j hj1 hj2 => ?_)
    rw [upd_ne (show j ≠ o + L1.length by omega)]; unfold va_cpy; rw [if_neg (by omega)]
theorem At.row {f : Nat → Int32} {L1 L2 : List Nat} {row o : Nat} (h : At f o (L1 ++ row :: L2)) : f (o + L1.length) = iN row := by
  rw [At.append, At.cons] at h; exact h.2.1
section WR
variable {n N : Nat} {ky : Nat → Int32} {K : Nat → Nat}
theorem c_moveDown {en : Nat → Int32} {L1 M L2 : List Nat} {row : Nat} (h : At en 0 (L1 ++ (M ++ row :: L2))) (hl : (L1 ++ (M ++ row :: L2)).length ≤ 120) :
    ∃ en', f_X3_moveDown (iN (L1 ++ (M ++ row :: L2)).length) en (iN (L1.length + M.length)) (iN L1.length) = some en' ∧ At en' 0 (L1 ++ row :: (M ++ L2)) ∧ ∀ j, L1.length + M.length < j → en' j = en j := by
  have hr : en (L1.length + M.length) = iN row := by
    have := (show At en 0 ((L1 ++ M) ++ row :: L2) by simpa using h).row
    simpa using this
  simp only [List.length_append, List.length_cons] at hl ⊢
  unfold f_X3_moveDown
  by_cases h0 : M.length = 0
  · have : M = [] := List.length_eq_zero_iff.mp h0
    subst this
    refine ⟨en, ?_, by simpa using h, fun _ _ => rfl⟩
    simp (disch := omega) only [Nat.add_zero, iN_lit, iN_lt, iN_le, iN_eq, iN_add, iN_mul, iN_sub, iN_nat, iN_div, iN_mod, iN_pred', n1_lt, n1_le, n1_ne, n1_ne', n1_nle, n1_nlt, n1_eq, oobN, some_lt, some_jn, bnd_some, Bool.false_eq_true, if_true, if_false, ite_true, ite_false, ↓reduceIte, ltT, ltF, leT, leF, eqT, eqF, true_and, and_true, false_and, and_false, true_or, or_true, false_or, or_false, not_true_eq_false, not_false_eq_true, if_pos, if_neg, List.length_nil]
  · refine ⟨upd (va_cpy en en (0 + L1.length) (0 + L1.length + 1) M.length) (0 + L1.length) (iN row), ?_, At.mov h, fun j hj => ?_⟩
    · simp (disch := omega) only [Nat.add_zero, iN_lit, iN_lt, iN_le, iN_eq, iN_add, iN_mul, iN_sub, iN_nat, iN_div, iN_mod, iN_pred', n1_lt, n1_le, n1_ne, n1_ne', n1_nle, n1_nlt, n1_eq, oobN, some_lt, some_jn, bnd_some, Bool.false_eq_true, if_true, if_false, ite_true, ite_false, ↓reduceIte, ltT, ltF, leT, leF, eqT, eqF, true_and, and_true, false_and, and_false, true_or, or_true, false_or, or_false, not_true_eq_false, not_false_eq_true, if_pos, if_neg, hr, Nat.add_sub_cancel_left, Nat.zero_add]
    · rw [upd_ne (by omega)]; unfold va_cpy; rw [if_neg (by omega)]
theorem c_shiftStarts {st : Nat → Int32} {P f : Nat} {w : Int32} (hP : P ≤ 62) (hf : f ≤ P) (hN : 1000 < N) : f_X3_shiftStarts N (iN P) st (iN f) w = some (fun j => if f ≤ j ∧ j < P then st j + w else st j) := by
  have loop : ∀ k : (Nat → Int32) → Option (Nat → Int32), f_X3_shiftStarts_17 w (iN P) k N (iN f) st = k (fun j => if f ≤ j ∧ j < P then st j + w else st j) := by
    intro k
    have := (lpC (F := fun m i x => f_X3_shiftStarts_17 w (iN P) k m (iN (f + i)) x) (k := k) (g := fun x i => upd x (f + i) (x (f + i) + w)) (x0 := st) (e := P - f) (I := fun i x => x = fun j => if f ≤ j ∧ j < f + i then st j + w else st j) (by funext j; rw [if_neg (by omega)]) (fun i x hi hx => ?_) (fun m i x hi hx => ?_) (fun m x _ => ?_) N (by omega))
    · refine this.1.trans ?_
      rw [this.2, show f + (P - f) = P by omega]
    · subst hx
      funext j
      by_cases h1 : j = f + i
      · subst h1; rw [upd_self]; dsimp only; rw [if_neg (by omega), if_pos (by omega)]
      · rw [upd_ne h1]
        by_cases h2 : f ≤ j ∧ j < f + i
        · rw [if_pos h2, if_pos (by omega)]
        · rw [if_neg h2, if_neg (by omega)]
    · show f_X3_shiftStarts_17 w (iN P) k (m + 1) (iN (f + i)) x = _
      rw [f_X3_shiftStarts_17.eq_2]; simp (disch := omega) only [Nat.add_zero, iN_lit, iN_lt, iN_le, iN_eq, iN_add, iN_mul, iN_sub, iN_nat, iN_div, iN_mod, iN_pred', n1_lt, n1_le, n1_ne, n1_ne', n1_nle, n1_nlt, n1_eq, oobN, some_lt, some_jn, bnd_some, Bool.false_eq_true, if_true, if_false, ite_true, ite_false, ↓reduceIte, ltT, ltF, leT, leF, eqT, eqF, true_and, and_true, false_and, and_false, true_or, or_true, false_or, or_false, not_true_eq_false, not_false_eq_true, if_pos, if_neg]; rfl
    · show f_X3_shiftStarts_17 w (iN P) k (m + 1) (iN (f + (P - f))) x = _
      rw [f_X3_shiftStarts_17.eq_2]; simp (disch := omega) only [Nat.add_zero, iN_lit, iN_lt, iN_le, iN_eq, iN_add, iN_mul, iN_sub, iN_nat, iN_div, iN_mod, iN_pred', n1_lt, n1_le, n1_ne, n1_ne', n1_nle, n1_nlt, n1_eq, oobN, some_lt, some_jn, bnd_some, Bool.false_eq_true, if_true, if_false, ite_true, ite_false, ↓reduceIte, ltT, ltF, leT, leF, eqT, eqF, true_and, and_true, false_and, and_false, true_or, or_true, false_or, or_false, not_true_eq_false, not_false_eq_true, if_pos, if_neg]
  unfold f_X3_shiftStarts
  simp (disch := omega) only [Nat.add_zero, iN_lit, iN_lt, iN_le, iN_eq, iN_add, iN_mul, iN_sub, iN_nat, iN_div, iN_mod, iN_pred', n1_lt, n1_le, n1_ne, n1_ne', n1_nle, n1_nlt, n1_eq, oobN, some_lt, some_jn, bnd_some, Bool.false_eq_true, if_true, if_false, ite_true, ite_false, ↓reduceIte, ltT, ltF, leT, leF, eqT, eqF, true_and, and_true, false_and, and_false, true_or, or_true, false_or, or_false, not_true_eq_false, not_false_eq_true, if_pos, if_neg, loop]
theorem At.shift {st : Nat → Int32} {o p d : Nat} {B : List Pc} {st' : Nat → Int32} (h : At st p (sts o B)) (hs : ∀ j, p ≤ j → j < p + B.length → st' j = st j + iN d) : At st' p (sts (o + d) B) := by
  induction B generalizing o p with
  | nil => exact At.nil _ _
  | cons b B ih =>
    simp only [sts, At.cons] at h ⊢
    refine ⟨?_, ?_⟩
    · rw [hs p (by omega) (by simp), h.1, iN_add]
    · have := ih h.2 (fun j h1 h2 => hs j (by omega) (by simp; omega))
      rw [show o + d + b.2.2.2.length = o + b.2.2.2.length + d by omega]; exact this
theorem At.shiftn {st : Nat → Int32} {o p : Nat} {B : List Pc} {st' : Nat → Int32} (h : At st p (sts (o + 1) B)) (hs : ∀ j, p ≤ j → j < p + B.length → st' j = st j + -iN 1) : At st' p (sts o B) := by
  induction B generalizing o p with
  | nil => exact At.nil _ _
  | cons b B ih =>
    simp only [sts, At.cons] at h ⊢
    refine ⟨?_, ?_⟩
    · rw [hs p (by omega) (by simp), h.1, iN_pred' (by omega)]; congr 1
    · exact ih (by rw [show o + b.2.2.2.length + 1 = o + 1 + b.2.2.2.length by omega]; exact h.2) (fun j h1 h2 => hs j (by omega) (by simp; omega))
end WR
