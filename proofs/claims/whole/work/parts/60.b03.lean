theorem iN_subn {a b : Nat} (h : a ≤ b) : iN a - iN b = -iN (b - a) := by
  rw [← Int32.neg_sub, iN_sub h]
theorem neg_nneg {c : Nat} (h : c < 2147483648) (h0 : 0 < c) : ¬ iN 0 ≤ -iN c := by
  rw [Int32.le_iff_toInt_le, Int32.toInt_neg, iN_toInt h, iN_toInt (by omega)]
  rw [Int.bmod_eq_of_le (by omega) (by omega)]; omega
theorem zero_sub_neg (c : Int32) : iN 0 - -c = c := by
  show (0 : Int32) - -c = c
  rw [← Int32.neg_sub]; simp
theorem neg_neg_iN (c : Int32) : - -c = c := Int32.neg_neg
/-- none is -1 -/
def oN : Option Nat → Int32
  | none => -iN 1
  | some x => iN x
/-- first index with a property -/
def fstI (p : Nat → Bool) : Nat → Nat → Option Nat
  | _, 0 => none
  | i, r + 1 => if p i then some i else fstI p (i + 1) r
theorem fstI_some {p : Nat → Bool} {i r j : Nat} (h : fstI p i r = some j) : p j = true ∧ i ≤ j ∧ j < i + r ∧ ∀ k, i ≤ k → k < j → p k = false := by
  induction r generalizing i with
  | zero => simp [fstI] at h
  | succ r ih =>
    simp only [fstI] at h
    by_cases hp : p i = true
    · rw [if_pos hp] at h; cases h; exact ⟨hp, by omega, by omega, fun k h1 h2 => by omega⟩
    · rw [if_neg hp] at h
      obtain ⟨h1, h2, h3, h4⟩ := ih h
      refine ⟨h1, by omega, by omega, fun k hk1 hk2 => ?_⟩
      by_cases hki : k = i
      · subst hki; simpa using hp
      · exact h4 k (by omega) hk2
theorem fstI_none {p : Nat → Bool} {i r : Nat} (h : fstI p i r = none) : ∀ k, i ≤ k → k < i + r → p k = false := by
  induction r generalizing i with
  | zero => intro k h1 h2; omega
  | succ r ih =>
    simp only [fstI] at h
    by_cases hp : p i = true
    · rw [if_pos hp] at h; cases h
    · rw [if_neg hp] at h
      intro k h1 h2
      by_cases hki : k = i
      · subst hki; simpa using hp
      · exact ih h k (by omega) (by omega)
theorem fstI_ext {p q : Nat → Bool} {i r : Nat} (h : ∀ k, i ≤ k → k < i + r → p k = q k) : fstI p i r = fstI q i r := by
  induction r generalizing i with
  | zero => rfl
  | succ r ih => simp only [fstI]; rw [h i (by omega) (by omega), ih (fun k h1 h2 => h k (by omega) (by omega))]
theorem lpF {ρ : Type} (F : Nat → Nat → Option ρ) (p : Nat → Bool) (kf : Nat → Option ρ) (kn : Option ρ) (e : Nat)
    (hs : ∀ n i, i < e → F (n + 1) i = if p i then kf i else F n (i + 1)) (he : ∀ n, F (n + 1) e = kn) :
    ∀ n i, i ≤ e → e - i < n → F n i = match fstI p i (e - i) with | some j => kf j | none => kn := by
  intro n
  induction n with
  | zero => intro i h1 h2; omega
  | succ n ih =>
    intro i h1 h2
    by_cases h3 : i = e
    · subst h3; rw [he, Nat.sub_self]; rfl
    · rw [hs n i (by omega), show e - i = (e - (i + 1)) + 1 by omega]
      simp only [fstI]
      by_cases hp : p i = true
      · rw [if_pos hp, if_pos hp]
      · rw [if_neg hp, if_neg hp, ih (i + 1) (by omega) (by omega)]
abbrev soL (P : List Pc) (i : Nat) : Nat := (P.map (fun X : Pc => X.2.2.1)).getD i 0
abbrev htL (P : List Pc) (i : Nat) : Nat := (P.map (fun X : Pc => X.2.1)).getD i 0
abbrev lnL (P : List Pc) (i : Nat) : Nat := (P.map (fun X => X.2.2.2.length)).getD i 0
theorem soL_eq {P : List Pc} {i : Nat} (h : i < P.length) : soL P i = P[i].2.2.1 := by simp [soL, h]
theorem htL_eq {P : List Pc} {i : Nat} (h : i < P.length) : htL P i = P[i].2.1 := by simp [htL, h]
theorem lnL_eq {P : List Pc} {i : Nat} (h : i < P.length) : lnL P i = P[i].2.2.2.length := by simp [lnL, h]
def sorS (P : List Pc) : Nat := pfi (fun x i => x + soL P i) 0 P.length
def hotG (P : List Pc) (b j : Nat) : Nat := if htL P b < htL P (j + 1) then j + 1 else b
def hotS (P : List Pc) : Nat := pfi (hotG P) 0 (P.length - 1)
def prL (P : List Pc) (i : Nat) : Nat := htL P i + htL P (i + 1)
def colG (P : List Pc) (b j : Nat) : Nat := if prL P (j + 1) < prL P b then j + 1 else b
def colS (P : List Pc) : Nat := pfi (colG P) 0 (P.length - 2)
def larG (P : List Pc) (b : Option Nat) (i : Nat) : Option Nat := if soL P i = 0 then (match b with | none => some i | some q => if lnL P q < lnL P i then some i else some q) else b
def larS (P : List Pc) : Option Nat := pfi (larG P) none P.length
section RD
variable {n N : Nat} {sz pc : Int32} {en bo he so st ky : Nat → Int32} {P : List Pc} {K : Nat → Nat} {a : Nat → Int32}
theorem c_sortedPieces (h : IX sz pc en bo he so st P) (hz : SZ n P) (hN : 1000 < N) : f_X3_sortedPieces N pc so = some (iN (sorS P)) := by
  have hl := hz.len
  have hp := h.hp
  unfold f_X3_sortedPieces
  rw [some_jn]
  refine (lpC (F := fun n i x => f_X3_sortedPieces_4 pc so (fun x => some x) n (iN x) (iN i)) (k := fun x => some (iN x)) (g := fun x i => x + soL P i) (x0 := 0) (e := P.length) (I := fun _ _ => True) trivial (fun _ _ _ _ => trivial) (fun n i x hi _ => ?_) (fun n x _ => ?_) N (by omega)).1
  · show f_X3_sortedPieces_4 pc so _ (n + 1) (iN x) (iN i) = _
    rw [f_X3_sortedPieces_4.eq_2, c_isSorted h hz hi, hp, soL_eq hi]
    have := hz.so _ (List.getElem_mem hi)
    by_cases h1 : P[i].2.2.1 = 0
    · simp (disch := omega) only [Nat.add_zero, iN_lit, iN_lt, iN_le, iN_eq, iN_add, iN_mul, iN_sub, iN_nat, iN_div, iN_mod, iN_pred', n1_lt, n1_le, n1_ne, n1_ne', n1_nle, n1_nlt, n1_eq, oobN, some_lt, some_jn, bnd_some, Bool.false_eq_true, if_true, if_false, ite_true, ite_false, ↓reduceIte, ltT, ltF, leT, leF, eqT, eqF, true_and, and_true, false_and, and_false, true_or, or_true, false_or, or_false, not_true_eq_false, not_false_eq_true, if_pos, if_neg, h1]
    · have h2 : P[i].2.2.1 = 1 := by omega
      simp (disch := omega) only [Nat.add_zero, iN_lit, iN_lt, iN_le, iN_eq, iN_add, iN_mul, iN_sub, iN_nat, iN_div, iN_mod, iN_pred', n1_lt, n1_le, n1_ne, n1_ne', n1_nle, n1_nlt, n1_eq, oobN, some_lt, some_jn, bnd_some, Bool.false_eq_true, if_true, if_false, ite_true, ite_false, ↓reduceIte, ltT, ltF, leT, leF, eqT, eqF, true_and, and_true, false_and, and_false, true_or, or_true, false_or, or_false, not_true_eq_false, not_false_eq_true, if_pos, if_neg, h2]
  · show f_X3_sortedPieces_4 pc so _ (n + 1) (iN x) (iN P.length) = _
    rw [f_X3_sortedPieces_4.eq_2, hp]
    simp (disch := omega) only [Nat.add_zero, iN_lit, iN_lt, iN_le, iN_eq, iN_add, iN_mul, iN_sub, iN_nat, iN_div, iN_mod, iN_pred', n1_lt, n1_le, n1_ne, n1_ne', n1_nle, n1_nlt, n1_eq, oobN, some_lt, some_jn, bnd_some, Bool.false_eq_true, if_true, if_false, ite_true, ite_false, ↓reduceIte, ltT, ltF, leT, leF, eqT, eqF, true_and, and_true, false_and, and_false, true_or, or_true, false_or, or_false, not_true_eq_false, not_false_eq_true, if_pos, if_neg]
theorem r_sortedPieces (h : RX a P) (hz : SZ n P) (hN : 1000 < N) : f_X8_sortedPieces N a = some (iN (sorS P)) := by
  have hl := hz.len
  have hp := h.hp
  unfold f_X8_sortedPieces
  rw [some_jn]
  refine (lpC (F := fun n i x => f_X8_sortedPieces_4 a (fun x => some x) n (iN x) (iN i)) (k := fun x => some (iN x)) (g := fun x i => x + soL P i) (x0 := 0) (e := P.length) (I := fun _ _ => True) trivial (fun _ _ _ _ => trivial) (fun n i x hi _ => ?_) (fun n x _ => ?_) N (by omega)).1
  · show f_X8_sortedPieces_4 a _ (n + 1) (iN x) (iN i) = _
    rw [f_X8_sortedPieces_4.eq_2, r_so h hz hi, hp, soL_eq hi]
    simp (disch := omega) only [Nat.add_zero, iN_lit, iN_lt, iN_le, iN_eq, iN_add, iN_mul, iN_sub, iN_nat, iN_div, iN_mod, iN_pred', n1_lt, n1_le, n1_ne, n1_ne', n1_nle, n1_nlt, n1_eq, oobN, some_lt, some_jn, bnd_some, Bool.false_eq_true, if_true, if_false, ite_true, ite_false, ↓reduceIte, ltT, ltF, leT, leF, eqT, eqF, true_and, and_true, false_and, and_false, true_or, or_true, false_or, or_false, not_true_eq_false, not_false_eq_true, if_pos, if_neg]
  · show f_X8_sortedPieces_4 a _ (n + 1) (iN x) (iN P.length) = _
    rw [f_X8_sortedPieces_4.eq_2, hp]
    simp (disch := omega) only [Nat.add_zero, iN_lit, iN_lt, iN_le, iN_eq, iN_add, iN_mul, iN_sub, iN_nat, iN_div, iN_mod, iN_pred', n1_lt, n1_le, n1_ne, n1_ne', n1_nle, n1_nlt, n1_eq, oobN, some_lt, some_jn, bnd_some, Bool.false_eq_true, if_true, if_false, ite_true, ite_false, ↓reduceIte, ltT, ltF, leT, leF, eqT, eqF, true_and, and_true, false_and, and_false, true_or, or_true, false_or, or_false, not_true_eq_false, not_false_eq_true, if_pos, if_neg]
theorem ht_lt (hz : SZ n P) {i : Nat} (h : i < P.length) : P[i].2.1 < 1073741824 := Nat.lt_of_le_of_lt (hsum_mem (List.getElem_mem h)) hz.ht
theorem c_hottest (h : IX sz pc en bo he so st P) (hz : SZ n P) (hN : 1000 < N) : f_X3_hottestPiece N pc he = some (iN (hotS P)) ∧ hotS P < P.length := by
  have hl := hz.len
  have hp := h.hp
  have h1 := hz.one
  unfold f_X3_hottestPiece
  rw [some_jn]
  refine (lpC (F := fun n i x => f_X3_hottestPiece_4 pc he (fun x => some x) n (iN x) (iN (i + 1))) (k := fun x => some (iN x)) (g := hotG P) (x0 := 0) (e := P.length - 1) (I := fun _ b => b < P.length) (by omega) (fun i b hi hb => by unfold hotG; split <;> omega) (fun n i x hi hx => ?_) (fun n x _ => ?_) N (by omega))
  · show f_X3_hottestPiece_4 pc he _ (n + 1) (iN x) (iN (i + 1)) = _
    rw [f_X3_hottestPiece_4.eq_2, c_heatOf h hz (show i + 1 < P.length by omega), c_heatOf h hz hx, hp]
    have h2 := ht_lt hz hx; have h3 := ht_lt hz (show i + 1 < P.length by omega)
    unfold hotG
    rw [htL_eq hx, htL_eq (show i + 1 < P.length by omega)]
    by_cases h4 : P[x].2.1 < P[i + 1].2.1
    · simp (disch := omega) only [Nat.add_zero, iN_lit, iN_lt, iN_le, iN_eq, iN_add, iN_mul, iN_sub, iN_nat, iN_div, iN_mod, iN_pred', n1_lt, n1_le, n1_ne, n1_ne', n1_nle, n1_nlt, n1_eq, oobN, some_lt, some_jn, bnd_some, Bool.false_eq_true, if_true, if_false, ite_true, ite_false, ↓reduceIte, ltT, ltF, leT, leF, eqT, eqF, true_and, and_true, false_and, and_false, true_or, or_true, false_or, or_false, not_true_eq_false, not_false_eq_true, if_pos, if_neg]
    · simp (disch := omega) only [Nat.add_zero, iN_lit, iN_lt, iN_le, iN_eq, iN_add, iN_mul, iN_sub, iN_nat, iN_div, iN_mod, iN_pred', n1_lt, n1_le, n1_ne, n1_ne', n1_nle, n1_nlt, n1_eq, oobN, some_lt, some_jn, bnd_some, Bool.false_eq_true, if_true, if_false, ite_true, ite_false, ↓reduceIte, ltT, ltF, leT, leF, eqT, eqF, true_and, and_true, false_and, and_false, true_or, or_true, false_or, or_false, not_true_eq_false, not_false_eq_true, if_pos, if_neg]
  · show f_X3_hottestPiece_4 pc he _ (n + 1) (iN x) (iN (P.length - 1 + 1)) = _
    rw [f_X3_hottestPiece_4.eq_2, hp]
    simp (disch := omega) only [Nat.add_zero, iN_lit, iN_lt, iN_le, iN_eq, iN_add, iN_mul, iN_sub, iN_nat, iN_div, iN_mod, iN_pred', n1_lt, n1_le, n1_ne, n1_ne', n1_nle, n1_nlt, n1_eq, oobN, some_lt, some_jn, bnd_some, Bool.false_eq_true, if_true, if_false, ite_true, ite_false, ↓reduceIte, ltT, ltF, leT, leF, eqT, eqF, true_and, and_true, false_and, and_false, true_or, or_true, false_or, or_false, not_true_eq_false, not_false_eq_true, if_pos, if_neg]
theorem r_hottest (h : RX a P) (hz : SZ n P) (hN : 1000 < N) : f_X8_hottest N a = some (iN (hotS P), 0) := by
  have hl := hz.len
  have hp := h.hp
  have h1 := hz.one
  unfold f_X8_hottest
  rw [some_jn]
  refine (lpC (F := fun n i x => f_X8_hottest_9 a (fun x => some (x, 0)) n (iN x) (iN (i + 1))) (k := fun x => some (iN x, 0)) (g := hotG P) (x0 := 0) (e := P.length - 1) (I := fun _ b => b < P.length) (by omega) (fun i b hi hb => by unfold hotG; split <;> omega) (fun n i x hi hx => ?_) (fun n x _ => ?_) N (by omega)).1
  · show f_X8_hottest_9 a _ (n + 1) (iN x) (iN (i + 1)) = _
    rw [f_X8_hottest_9.eq_2, r_ht h hz (show i + 1 < P.length by omega), r_ht h hz hx, hp]
    have h2 := ht_lt hz hx; have h3 := ht_lt hz (show i + 1 < P.length by omega)
    unfold hotG
    rw [htL_eq hx, htL_eq (show i + 1 < P.length by omega)]
    by_cases h4 : P[x].2.1 < P[i + 1].2.1
    · simp (disch := omega) only [Nat.add_zero, iN_lit, iN_lt, iN_le, iN_eq, iN_add, iN_mul, iN_sub, iN_nat, iN_div, iN_mod, iN_pred', n1_lt, n1_le, n1_ne, n1_ne', n1_nle, n1_nlt, n1_eq, oobN, some_lt, some_jn, bnd_some, Bool.false_eq_true, if_true, if_false, ite_true, ite_false, ↓reduceIte, ltT, ltF, leT, leF, eqT, eqF, true_and, and_true, false_and, and_false, true_or, or_true, false_or, or_false, not_true_eq_false, not_false_eq_true, if_pos, if_neg]
    · simp (disch := omega) only [Nat.add_zero, iN_lit, iN_lt, iN_le, iN_eq, iN_add, iN_mul, iN_sub, iN_nat, iN_div, iN_mod, iN_pred', n1_lt, n1_le, n1_ne, n1_ne', n1_nle, n1_nlt, n1_eq, oobN, some_lt, some_jn, bnd_some, Bool.false_eq_true, if_true, if_false, ite_true, ite_false, ↓reduceIte, ltT, ltF, leT, leF, eqT, eqF, true_and, and_true, false_and, and_false, true_or, or_true, false_or, or_false, not_true_eq_false, not_false_eq_true, if_pos, if_neg]
  · show f_X8_hottest_9 a _ (n + 1) (iN x) (iN (P.length - 1 + 1)) = _
    rw [f_X8_hottest_9.eq_2, hp]
    simp (disch := omega) only [Nat.add_zero, iN_lit, iN_lt, iN_le, iN_eq, iN_add, iN_mul, iN_sub, iN_nat, iN_div, iN_mod, iN_pred', n1_lt, n1_le, n1_ne, n1_ne', n1_nle, n1_nlt, n1_eq, oobN, some_lt, some_jn, bnd_some, Bool.false_eq_true, if_true, if_false, ite_true, ite_false, ↓reduceIte, ltT, ltF, leT, leF, eqT, eqF, true_and, and_true, false_and, and_false, true_or, or_true, false_or, or_false, not_true_eq_false, not_false_eq_true, if_pos, if_neg]
theorem c_pairHeat {p : Nat} (h : IX sz pc en bo he so st P) (hz : SZ n P) (hp : p + 1 < P.length) : f_X3_pairHeat pc he (iN p) = some (iN (prL P p)) := by
  unfold f_X3_pairHeat
  rw [iN_lit, iN_add, c_heatOf h hz (by omega), c_heatOf h hz (by omega)]
  unfold prL; rw [htL_eq (by omega), htL_eq hp]
  simp (disch := omega) only [Nat.add_zero, iN_lit, iN_lt, iN_le, iN_eq, iN_add, iN_mul, iN_sub, iN_nat, iN_div, iN_mod, iN_pred', n1_lt, n1_le, n1_ne, n1_ne', n1_nle, n1_nlt, n1_eq, oobN, some_lt, some_jn, bnd_some, Bool.false_eq_true, if_true, if_false, ite_true, ite_false, ↓reduceIte, ltT, ltF, leT, leF, eqT, eqF, true_and, and_true, false_and, and_false, true_or, or_true, false_or, or_false, not_true_eq_false, not_false_eq_true, if_pos, if_neg]
theorem prL_lt (hz : SZ n P) {p : Nat} (hp : p + 1 < P.length) : prL P p < 2147483648 := by
  have h2 := ht_lt hz hp; have h3 := ht_lt hz (show p < P.length by omega)
  unfold prL; rw [htL_eq (by omega), htL_eq hp]; omega
theorem c_coldest (h : IX sz pc en bo he so st P) (hz : SZ n P) (hN : 1000 < N) (h2 : 2 ≤ P.length) : f_X3_coldestOfPairs N pc he = some (iN (colS P)) ∧ colS P + 1 < P.length := by
  have hl := hz.len
  have hp := h.hp
  subst hp
  have h1 := hz.one
  obtain ⟨M, rfl⟩ : ∃ M, N = M + 1 := ⟨N - 1, by omega⟩
  unfold f_X3_coldestOfPairs
  rw [some_jn, f_X3_coldestOfPairs_4.eq_2]
  simp (disch := omega) only [Nat.add_zero, iN_lit, iN_lt, iN_le, iN_eq, iN_add, iN_mul, iN_sub, iN_nat, iN_div, iN_mod, iN_pred', n1_lt, n1_le, n1_ne, n1_ne', n1_nle, n1_nlt, n1_eq, oobN, some_lt, some_jn, bnd_some, Bool.false_eq_true, if_true, if_false, ite_true, ite_false, ↓reduceIte, ltT, ltF, leT, leF, eqT, eqF, true_and, and_true, false_and, and_false, true_or, or_true, false_or, or_false, not_true_eq_false, not_false_eq_true, if_pos, if_neg]
  refine (lpC (F := fun n i x => f_X3_coldestOfPairs_4 (iN P.length) he (fun x => some x) n (iN x) (iN (i + 1))) (k := fun x => some (iN x)) (g := colG P) (x0 := 0) (e := P.length - 2) (I := fun _ b => b + 1 < P.length) (by omega) (fun i b hi hb => by unfold colG; split <;> omega) (fun n i x hi hx => ?_) (fun n x _ => ?_) M (by omega))
  · show f_X3_coldestOfPairs_4 (iN P.length) he _ (n + 1) (iN x) (iN (i + 1)) = _
    rw [f_X3_coldestOfPairs_4.eq_2, c_pairHeat h hz (show i + 1 + 1 < P.length by omega), c_pairHeat h hz hx]
    have h2 := prL_lt hz hx; have h3 := prL_lt hz (show i + 1 + 1 < P.length by omega)
    unfold colG
    by_cases h4 : prL P (i + 1) < prL P x
    · simp (disch := omega) only [Nat.add_zero, iN_lit, iN_lt, iN_le, iN_eq, iN_add, iN_mul, iN_sub, iN_nat, iN_div, iN_mod, iN_pred', n1_lt, n1_le, n1_ne, n1_ne', n1_nle, n1_nlt, n1_eq, oobN, some_lt, some_jn, bnd_some, Bool.false_eq_true, if_true, if_false, ite_true, ite_false, ↓reduceIte, ltT, ltF, leT, leF, eqT, eqF, true_and, and_true, false_and, and_false, true_or, or_true, false_or, or_false, not_true_eq_false, not_false_eq_true, if_pos, if_neg]
    · simp (disch := omega) only [Nat.add_zero, iN_lit, iN_lt, iN_le, iN_eq, iN_add, iN_mul, iN_sub, iN_nat, iN_div, iN_mod, iN_pred', n1_lt, n1_le, n1_ne, n1_ne', n1_nle, n1_nlt, n1_eq, oobN, some_lt, some_jn, bnd_some, Bool.false_eq_true, if_true, if_false, ite_true, ite_false, ↓reduceIte, ltT, ltF, leT, leF, eqT, eqF, true_and, and_true, false_and, and_false, true_or, or_true, false_or, or_false, not_true_eq_false, not_false_eq_true, if_pos, if_neg]
  · show f_X3_coldestOfPairs_4 (iN P.length) he _ (n + 1) (iN x) (iN (P.length - 2 + 1)) = _
    rw [f_X3_coldestOfPairs_4.eq_2]
    simp (disch := omega) only [Nat.add_zero, iN_lit, iN_lt, iN_le, iN_eq, iN_add, iN_mul, iN_sub, iN_nat, iN_div, iN_mod, iN_pred', n1_lt, n1_le, n1_ne, n1_ne', n1_nle, n1_nlt, n1_eq, oobN, some_lt, some_jn, bnd_some, Bool.false_eq_true, if_true, if_false, ite_true, ite_false, ↓reduceIte, ltT, ltF, leT, leF, eqT, eqF, true_and, and_true, false_and, and_false, true_or, or_true, false_or, or_false, not_true_eq_false, not_false_eq_true, if_pos, if_neg]
theorem c_coldest1 (h : IX sz pc en bo he so st P) (hN : 1000 < N) (h2 : P.length = 1) : f_X3_coldestOfPairs N pc he = some (-iN 1) := by
  have hp := h.hp
  obtain ⟨M, rfl⟩ : ∃ M, N = M + 1 := ⟨N - 1, by omega⟩
  unfold f_X3_coldestOfPairs
  rw [some_jn, f_X3_coldestOfPairs_4.eq_2, hp, h2]
  simp (disch := omega) only [Nat.add_zero, iN_lit, iN_lt, iN_le, iN_eq, iN_add, iN_mul, iN_sub, iN_nat, iN_div, iN_mod, iN_pred', n1_lt, n1_le, n1_ne, n1_ne', n1_nle, n1_nlt, n1_eq, oobN, some_lt, some_jn, bnd_some, Bool.false_eq_true, if_true, if_false, ite_true, ite_false, ↓reduceIte, ltT, ltF, leT, leF, eqT, eqF, true_and, and_true, false_and, and_false, true_or, or_true, false_or, or_false, not_true_eq_false, not_false_eq_true, if_pos, if_neg]
theorem r_coldest (h : RX a P) (hz : SZ n P) (hN : 1000 < N) (h2 : 2 ≤ P.length) : f_X8_coldest N a = some (iN (colS P)) := by
  have hl := hz.len
  have hp := h.hp
  have h1 := hz.one
  unfold f_X8_coldest
  rw [some_jn]
  refine (lpC (F := fun n i x => f_X8_coldest_4 a (fun x => some x) n (iN x) (iN (i + 1))) (k := fun x => some (iN x)) (g := colG P) (x0 := 0) (e := P.length - 2) (I := fun _ b => b + 1 < P.length) (by omega) (fun i b hi hb => by unfold colG; split <;> omega) (fun n i x hi hx => ?_) (fun n x _ => ?_) N (by omega)).1
  · show f_X8_coldest_4 a _ (n + 1) (iN x) (iN (i + 1)) = _
    rw [f_X8_coldest_4.eq_2, show iN (i + 1) + 1 = iN (i + 1 + 1) from iN_add _ 1, show iN x + 1 = iN (x + 1) from iN_add _ 1, r_ht h hz (show i + 1 < P.length by omega), r_ht h hz (show i + 1 + 1 < P.length by omega), r_ht h hz hx, r_ht h hz (show x < P.length by omega), hp]
    have h2 := prL_lt hz hx; have h3 := prL_lt hz (show i + 1 + 1 < P.length by omega)
    unfold colG
    unfold prL at h2 h3 ⊢
    rw [htL_eq hx, htL_eq (show x < P.length by omega), htL_eq (show i + 1 < P.length by omega), htL_eq (show i + 1 + 1 < P.length by omega)] at *
    by_cases h4 : P[i + 1].2.1 + P[i + 1 + 1].2.1 < P[x].2.1 + P[x + 1].2.1
    · simp (disch := omega) only [Nat.add_zero, iN_lit, iN_lt, iN_le, iN_eq, iN_add, iN_mul, iN_sub, iN_nat, iN_div, iN_mod, iN_pred', n1_lt, n1_le, n1_ne, n1_ne', n1_nle, n1_nlt, n1_eq, oobN, some_lt, some_jn, bnd_some, Bool.false_eq_true, if_true, if_false, ite_true, ite_false, ↓reduceIte, ltT, ltF, leT, leF, eqT, eqF, true_and, and_true, false_and, and_false, true_or, or_true, false_or, or_false, not_true_eq_false, not_false_eq_true, if_pos, if_neg]
    · simp (disch := omega) only [Nat.add_zero, iN_lit, iN_lt, iN_le, iN_eq, iN_add, iN_mul, iN_sub, iN_nat, iN_div, iN_mod, iN_pred', n1_lt, n1_le, n1_ne, n1_ne', n1_nle, n1_nlt, n1_eq, oobN, some_lt, some_jn, bnd_some, Bool.false_eq_true, if_true, if_false, ite_true, ite_false, ↓reduceIte, ltT, ltF, leT, leF, eqT, eqF, true_and, and_true, false_and, and_false, true_or, or_true, false_or, or_false, not_true_eq_false, not_false_eq_true, if_pos, if_neg]
  · show f_X8_coldest_4 a _ (n + 1) (iN x) (iN (P.length - 2 + 1)) = _
    rw [f_X8_coldest_4.eq_2, hp]
    simp (disch := omega) only [Nat.add_zero, iN_lit, iN_lt, iN_le, iN_eq, iN_add, iN_mul, iN_sub, iN_nat, iN_div, iN_mod, iN_pred', n1_lt, n1_le, n1_ne, n1_ne', n1_nle, n1_nlt, n1_eq, oobN, some_lt, some_jn, bnd_some, Bool.false_eq_true, if_true, if_false, ite_true, ite_false, ↓reduceIte, ltT, ltF, leT, leF, eqT, eqF, true_and, and_true, false_and, and_false, true_or, or_true, false_or, or_false, not_true_eq_false, not_false_eq_true, if_pos, if_neg]
theorem c_largest (h : IX sz pc en bo he so st P) (hz : SZ n P) (hN : 1000 < N) : f_X3_largestUnsorted N sz pc so st = some (oN (larS P)) ∧ ∀ q, larS P = some q → q < P.length := by
  have hl := hz.len
  have hp := h.hp
  unfold f_X3_largestUnsorted
  rw [some_jn]
  refine (lpC (F := fun n i x => f_X3_largestUnsorted_4 sz pc so st (fun x => some x) n (oN x) (iN i)) (k := fun x => some (oN x)) (g := larG P) (x0 := none) (e := P.length) (I := fun _ b => ∀ q, b = some q → q < P.length) (by simp) (fun i b hi hb => ?_) (fun n i x hi hx => ?_) (fun n x _ => ?_) N (by omega))
  · intro q hq
    unfold larG at hq
    split at hq
    · split at hq
      · cases hq; exact hi
      · split at hq
        · cases hq; exact hi
        · cases hq; exact hb _ rfl
    · exact hb q hq
  · show f_X3_largestUnsorted_4 sz pc so st _ (n + 1) (oN x) (iN i) = _
    rw [f_X3_largestUnsorted_4.eq_2, c_isSorted h hz hi, c_sizeOf h hz hi]
    have h2 := hz.so _ (List.getElem_mem hi)
    unfold larG
    rw [soL_eq hi]
    by_cases h1 : P[i].2.2.1 = 0
    · rw [if_pos h1]
      cases x with
      | none => simp (disch := omega) only [Nat.add_zero, iN_lit, iN_lt, iN_le, iN_eq, iN_add, iN_mul, iN_sub, iN_nat, iN_div, iN_mod, iN_pred', n1_lt, n1_le, n1_ne, n1_ne', n1_nle, n1_nlt, n1_eq, oobN, some_lt, some_jn, bnd_some, Bool.false_eq_true, if_true, if_false, ite_true, ite_false, ↓reduceIte, ltT, ltF, leT, leF, eqT, eqF, true_and, and_true, false_and, and_false, true_or, or_true, false_or, or_false, not_true_eq_false, not_false_eq_true, if_pos, if_neg, hp, h1, oN]
      | some q =>
        have hq := hx q rfl
        simp only [oN]
        rw [c_sizeOf h hz hq, lnL_eq hq, lnL_eq hi]
        have h3 : P[q].2.2.2.length ≤ (flat P).length := by have h5 := sp_succ hq; have h6 := sp_le P (q + 1); omega
        have h4 : P[i].2.2.2.length ≤ (flat P).length := by have h5 := sp_succ hi; have h6 := sp_le P (i + 1); omega
        have h5 := hz.fl
        by_cases h6 : P[q].2.2.2.length < P[i].2.2.2.length
        · simp (disch := omega) only [Nat.add_zero, iN_lit, iN_lt, iN_le, iN_eq, iN_add, iN_mul, iN_sub, iN_nat, iN_div, iN_mod, iN_pred', n1_lt, n1_le, n1_ne, n1_ne', n1_nle, n1_nlt, n1_eq, oobN, some_lt, some_jn, bnd_some, Bool.false_eq_true, if_true, if_false, ite_true, ite_false, ↓reduceIte, ltT, ltF, leT, leF, eqT, eqF, true_and, and_true, false_and, and_false, true_or, or_true, false_or, or_false, not_true_eq_false, not_false_eq_true, if_pos, if_neg, hp, h1]
        · simp (disch := omega) only [Nat.add_zero, iN_lit, iN_lt, iN_le, iN_eq, iN_add, iN_mul, iN_sub, iN_nat, iN_div, iN_mod, iN_pred', n1_lt, n1_le, n1_ne, n1_ne', n1_nle, n1_nlt, n1_eq, oobN, some_lt, some_jn, bnd_some, Bool.false_eq_true, if_true, if_false, ite_true, ite_false, ↓reduceIte, ltT, ltF, leT, leF, eqT, eqF, true_and, and_true, false_and, and_false, true_or, or_true, false_or, or_false, not_true_eq_false, not_false_eq_true, if_pos, if_neg, hp, h1]
    · rw [if_neg h1]
      simp (disch := omega) only [Nat.add_zero, iN_lit, iN_lt, iN_le, iN_eq, iN_add, iN_mul, iN_sub, iN_nat, iN_div, iN_mod, iN_pred', n1_lt, n1_le, n1_ne, n1_ne', n1_nle, n1_nlt, n1_eq, oobN, some_lt, some_jn, bnd_some, Bool.false_eq_true, if_true, if_false, ite_true, ite_false, ↓reduceIte, ltT, ltF, leT, leF, eqT, eqF, true_and, and_true, false_and, and_false, true_or, or_true, false_or, or_false, not_true_eq_false, not_false_eq_true, if_pos, if_neg, hp]
  · show f_X3_largestUnsorted_4 sz pc so st _ (n + 1) (oN x) (iN P.length) = _
    rw [f_X3_largestUnsorted_4.eq_2, hp]
    simp (disch := omega) only [Nat.add_zero, iN_lit, iN_lt, iN_le, iN_eq, iN_add, iN_mul, iN_sub, iN_nat, iN_div, iN_mod, iN_pred', n1_lt, n1_le, n1_ne, n1_ne', n1_nle, n1_nlt, n1_eq, oobN, some_lt, some_jn, bnd_some, Bool.false_eq_true, if_true, if_false, ite_true, ite_false, ↓reduceIte, ltT, ltF, leT, leF, eqT, eqF, true_and, and_true, false_and, and_false, true_or, or_true, false_or, or_false, not_true_eq_false, not_false_eq_true, if_pos, if_neg]
theorem r_largest (h : RX a P) (hz : SZ n P) (hN : 1000 < N) : f_X8_largest N a = some (oN (larS P)) := by
  have hl := hz.len
  have hp := h.hp
  unfold f_X8_largest
  rw [some_jn]
  refine (lpC (F := fun n i x => f_X8_largest_4 a (fun x => some x) n (oN x) (iN i)) (k := fun x => some (oN x)) (g := larG P) (x0 := none) (e := P.length) (I := fun _ b => ∀ q, b = some q → q < P.length) (by simp) (fun i b hi hb => ?_) (fun n i x hi hx => ?_) (fun n x _ => ?_) N (by omega)).1
  · intro q hq
    unfold larG at hq
    split at hq
    · split at hq
      · cases hq; exact hi
      · split at hq
        · cases hq; exact hi
        · cases hq; exact hb _ rfl
    · exact hb q hq
  · show f_X8_largest_4 a _ (n + 1) (oN x) (iN i) = _
    rw [f_X8_largest_4.eq_2, r_so h hz hi, r_mn h hz hi]
    have h2 := hz.so _ (List.getElem_mem hi)
    unfold larG
    rw [soL_eq hi]
    by_cases h1 : P[i].2.2.1 = 0
    · rw [if_pos h1]
      cases x with
      | none =>
        rw [bnd_some, h1, if_pos (show iN 0 = 0 from rfl), if_pos (show oN none = -1 from rfl), hp]
        simp (disch := omega) only [Nat.add_zero, iN_lit, iN_lt, iN_le, iN_eq, iN_add, iN_mul, iN_sub, iN_nat, iN_div, iN_mod, iN_pred', n1_lt, n1_le, n1_ne, n1_ne', n1_nle, n1_nlt, n1_eq, oobN, some_lt, some_jn, bnd_some, Bool.false_eq_true, if_true, if_false, ite_true, ite_false, ↓reduceIte, ltT, ltF, leT, leF, eqT, eqF, true_and, and_true, false_and, and_false, true_or, or_true, false_or, or_false, not_true_eq_false, not_false_eq_true, if_pos, if_neg]
        rfl
      | some q =>
        have hq := hx q rfl
        simp only [oN]
        rw [r_mn h hz hq, lnL_eq hq, lnL_eq hi]
        have h3 : P[q].2.2.2.length ≤ (flat P).length := by have h5 := sp_succ hq; have h6 := sp_le P (q + 1); omega
        have h4 : P[i].2.2.2.length ≤ (flat P).length := by have h5 := sp_succ hi; have h6 := sp_le P (i + 1); omega
        have h5 := hz.fl
        by_cases h6 : P[q].2.2.2.length < P[i].2.2.2.length
        · simp (disch := omega) only [Nat.add_zero, iN_lit, iN_lt, iN_le, iN_eq, iN_add, iN_mul, iN_sub, iN_nat, iN_div, iN_mod, iN_pred', n1_lt, n1_le, n1_ne, n1_ne', n1_nle, n1_nlt, n1_eq, oobN, some_lt, some_jn, bnd_some, Bool.false_eq_true, if_true, if_false, ite_true, ite_false, ↓reduceIte, ltT, ltF, leT, leF, eqT, eqF, true_and, and_true, false_and, and_false, true_or, or_true, false_or, or_false, not_true_eq_false, not_false_eq_true, if_pos, if_neg, hp, h1]
        · simp (disch := omega) only [Nat.add_zero, iN_lit, iN_lt, iN_le, iN_eq, iN_add, iN_mul, iN_sub, iN_nat, iN_div, iN_mod, iN_pred', n1_lt, n1_le, n1_ne, n1_ne', n1_nle, n1_nlt, n1_eq, oobN, some_lt, some_jn, bnd_some, Bool.false_eq_true, if_true, if_false, ite_true, ite_false, ↓reduceIte, ltT, ltF, leT, leF, eqT, eqF, true_and, and_true, false_and, and_false, true_or, or_true, false_or, or_false, not_true_eq_false, not_false_eq_true, if_pos, if_neg, hp, h1]
    · rw [if_neg h1]
      simp (disch := omega) only [Nat.add_zero, iN_lit, iN_lt, iN_le, iN_eq, iN_add, iN_mul, iN_sub, iN_nat, iN_div, iN_mod, iN_pred', n1_lt, n1_le, n1_ne, n1_ne', n1_nle, n1_nlt, n1_eq, oobN, some_lt, some_jn, bnd_some, Bool.false_eq_true, if_true, if_false, ite_true, ite_false, ↓reduceIte, ltT, ltF, leT, leF, eqT, eqF, true_and, and_true, false_and, and_false, true_or, or_true, false_or, or_false, not_true_eq_false, not_false_eq_true, if_pos, if_neg, hp]
  · show f_X8_largest_4 a _ (n + 1) (oN x) (iN P.length) = _
    rw [f_X8_largest_4.eq_2, hp]
    simp (disch := omega) only [Nat.add_zero, iN_lit, iN_lt, iN_le, iN_eq, iN_add, iN_mul, iN_sub, iN_nat, iN_div, iN_mod, iN_pred', n1_lt, n1_le, n1_ne, n1_ne', n1_nle, n1_nlt, n1_eq, oobN, some_lt, some_jn, bnd_some, Bool.false_eq_true, if_true, if_false, ite_true, ite_false, ↓reduceIte, ltT, ltF, leT, leF, eqT, eqF, true_and, and_true, false_and, and_false, true_or, or_true, false_or, or_false, not_true_eq_false, not_false_eq_true, if_pos, if_neg]
end RD
