/-- the states of the rows -/
def ST (n : Nat) (ss : Nat → Int32) (S : Nat → Nat) : Prop := ∀ r, r < n → ss r = iN (S r) ∧ S r ≤ 3
def VA (n : Nat) (vs : Nat → Int32) (V : Nat → Int32) : Prop := ∀ r, r < n → vs r = V r
def livG (S : Nat → Nat) (x r : Nat) : Nat := if S r ≤ 1 then x + 1 else x
def livS (n : Nat) (S : Nat → Nat) : Nat := pfi (livG S) 0 n
def lahG (K S : Nat → Nat) (row x r : Nat) : Nat := if S r ≤ 1 ∧ ahd K r row = true then x + 1 else x
def lahS (n : Nat) (K S : Nat → Nat) (row : Nat) : Nat := pfi (lahG K S row) 0 n
/-- the row that lives at a place in the order -/
def ordS (n : Nat) (K S : Nat → Nat) (pl : Nat) : Option Nat := fstI (fun r => decide (S r ≤ 1) && (lahS n K S r == pl)) 0 n
/-- a tally: how many, their sum, least and greatest key -/
abbrev Ty : Type := Nat × Int32 × Option Nat × Option Nat
def ty0 : Ty := ⟨0, 0, none, none⟩
def tyT (T : Ty) (key : Nat) (v : Int32) : Ty := ⟨T.1 + 1, T.2.1 + v, some (match T.2.2.1 with | none => key | some x => if x ≤ key then x else key), some (match T.2.2.2 with | none => key | some x => if key ≤ x then x else key)⟩
def TyI (c : Nat) (T : Ty) : Prop := (T.1 = 0 ↔ T.2.2.1 = none) ∧ (∀ x, T.2.2.1 = some x → x < 10000) ∧ (∀ x, T.2.2.2 = some x → x < 10000) ∧ T.1 ≤ c
theorem ty0_I (c : Nat) : TyI c ty0 := ⟨by simp [ty0], by simp [ty0], by simp [ty0], by simp [ty0]⟩
theorem tyT_I {c : Nat} {T : Ty} {key : Nat} {v : Int32} (h : TyI c T) (hk : key < 10000) : TyI (c + 1) (tyT T key v) := by
  obtain ⟨h1, h2, h3, h4⟩ := h
  refine ⟨by simp [tyT], fun x hx => ?_, fun x hx => ?_, by simp [tyT]; omega⟩
  · simp only [tyT, Option.some.injEq] at hx
    cases hl : T.2.2.1 with
    | none => rw [hl] at hx; simp only at hx; omega
    | some y => rw [hl] at hx; simp only at hx; have := h2 y hl; split at hx <;> omega
  · simp only [tyT, Option.some.injEq] at hx
    cases hl : T.2.2.2 with
    | none => rw [hl] at hx; simp only at hx; omega
    | some y => rw [hl] at hx; simp only at hx; have := h3 y hl; split at hx <;> omega
theorem TyI.mono {c d : Nat} {T : Ty} (h : TyI c T) (hc : c ≤ d) : TyI d T := ⟨h.1, h.2.1, h.2.2.1, by have := h.2.2.2; omega⟩
/-- the numbers of an answer hold a tally -/
def TN (o : Nat) (f : Nat → Int32) (T : Ty) : Prop := f o = iN T.1 ∧ f (o + 1) = T.2.1 ∧ f (o + 2) = oN T.2.2.1 ∧ f (o + 3) = oN T.2.2.2
def scnG (K S : Nat → Nat) (V : Nat → Int32) (lo hi : Nat) (T : Ty) (r : Nat) : Ty := if S r ≤ 1 ∧ lo ≤ K r ∧ K r < hi then tyT T (K r) (V r) else T
def scnS (n : Nat) (K S : Nat → Nat) (V : Nat → Int32) (lo hi : Nat) : Ty := pfi (scnG K S V lo hi) ty0 n
theorem c_take {f : Nat → Int32} {T : Ty} {c key : Nat} {v : Int32} (h : TN 0 f T) (hI : TyI c T) (hc : c ≤ 1000) (hk : key < 10000) :
    ∃ f', f_X0_take f (iN key) v = some f' ∧ TN 0 f' (tyT T key v) ∧ ∀ j, 4 ≤ j → f' j = f j := by
  obtain ⟨h1, h2, h3, h4⟩ := h
  obtain ⟨i1, i2, i3, i4⟩ := hI
  simp only [Nat.zero_add] at h1 h2 h3 h4
  unfold f_X0_take
  cases hl : T.2.2.1 with
  | none =>
    have hf : T.1 = 0 := i1.mpr hl
    have e1 : (f 0 = 0) = True := eq_true (by rw [h1, hf]; rfl)
    have u3 : ∀ w1 w2 w3 : Int32, upd (upd (upd f 0 w1) 1 w2) 2 w3 3 = f 3 := fun _ _ _ => by simp [upd]
    simp only [some_jn, e1, if_true, some_lt, show ((1 : Int32) = 0) = False from eq_false (by decide), if_false, u3, h4]
    cases hm : T.2.2.2 with
    | none =>
      refine ⟨_, rfl, ⟨?_, ?_, ?_, ?_⟩, fun j hj => ?_⟩
      · show upd _ 3 _ 0 = _
        simp only [upd, tyT]; simp [h1, hf]; rfl
      · show upd _ 3 _ 1 = _
        simp only [upd, tyT]; simp [h2]
      · show upd _ 3 _ 2 = _
        simp only [upd, tyT, hl]; simp [oN]
      · show upd _ 3 _ 3 = _
        simp only [upd, tyT, hm, oN, if_true]
        simp (disch := omega) only [Nat.add_zero, iN_lit, iN_lt, iN_le, iN_eq, iN_add, iN_mul, iN_sub, iN_nat, iN_div, iN_mod, iN_pred', n1_lt, n1_le, n1_ne, n1_ne', n1_nle, n1_nlt, n1_eq, oobN, some_lt, some_jn, bnd_some, Bool.false_eq_true, if_true, if_false, ite_true, ite_false, ↓reduceIte, ltT, ltF, leT, leF, eqT, eqF, true_and, and_true, false_and, and_false, true_or, or_true, false_or, or_false, not_true_eq_false, not_false_eq_true, if_pos, if_neg]
      · simp only [upd]; rw [if_neg (by omega), if_neg (by omega), if_neg (by omega), if_neg (by omega)]
    | some x =>
      refine ⟨_, rfl, ⟨?_, ?_, ?_, ?_⟩, fun j hj => ?_⟩
      · show upd _ 3 _ 0 = _
        simp only [upd, tyT]; simp [h1, hf]; rfl
      · show upd _ 3 _ 1 = _
        simp only [upd, tyT]; simp [h2]
      · show upd _ 3 _ 2 = _
        simp only [upd, tyT, hl]; simp [oN]
      · show upd _ 3 _ 3 = _
        have := i3 x hm
        simp only [upd, tyT, hm, oN, if_true]
        by_cases h5 : x < key
        · simp (disch := omega) only [Nat.add_zero, iN_lit, iN_lt, iN_le, iN_eq, iN_add, iN_mul, iN_sub, iN_nat, iN_div, iN_mod, iN_pred', n1_lt, n1_le, n1_ne, n1_ne', n1_nle, n1_nlt, n1_eq, oobN, some_lt, some_jn, bnd_some, Bool.false_eq_true, if_true, if_false, ite_true, ite_false, ↓reduceIte, ltT, ltF, leT, leF, eqT, eqF, true_and, and_true, false_and, and_false, true_or, or_true, false_or, or_false, not_true_eq_false, not_false_eq_true, if_pos, if_neg]
        · simp (disch := omega) only [Nat.add_zero, iN_lit, iN_lt, iN_le, iN_eq, iN_add, iN_mul, iN_sub, iN_nat, iN_div, iN_mod, iN_pred', n1_lt, n1_le, n1_ne, n1_ne', n1_nle, n1_nlt, n1_eq, oobN, some_lt, some_jn, bnd_some, Bool.false_eq_true, if_true, if_false, ite_true, ite_false, ↓reduceIte, ltT, ltF, leT, leF, eqT, eqF, true_and, and_true, false_and, and_false, true_or, or_true, false_or, or_false, not_true_eq_false, not_false_eq_true, if_pos, if_neg]
      · simp only [upd]; rw [if_neg (by omega), if_neg (by omega), if_neg (by omega), if_neg (by omega)]
  | some y =>
    have hf : T.1 ≠ 0 := fun hf => by rw [i1.mp hf] at hl; cases hl
    have hy := i2 y hl
    have e1 : (f 0 = 0) = False := eq_false (by rw [h1, show (0 : Int32) = iN 0 from rfl, iN_eq (by omega) (by omega)]; exact hf)
    have u3 : ∀ w1 w2 w3 : Int32, upd (upd (upd f 0 w1) 1 w2) 2 w3 3 = f 3 := fun _ _ _ => by simp [upd]
    have u2 : ∀ w1 w2 : Int32, upd (upd f 0 w1) 1 w2 2 = f 2 := fun _ _ => by simp [upd]
    simp only [some_jn, e1, if_true, some_lt, if_false, u3, u2, h4, h3]
    cases hm : T.2.2.2 with
    | none =>
      refine ⟨_, rfl, ⟨?_, ?_, ?_, ?_⟩, fun j hj => ?_⟩
      · show upd _ 3 _ 0 = _
        simp only [upd, tyT]; simp [h1]; rw [show (1 : Int32) = iN 1 from rfl, iN_add]
      · show upd _ 3 _ 1 = _
        simp only [upd, tyT]; simp [h2]
      · show upd _ 3 _ 2 = _
        simp only [upd, tyT, hl, oN]
        by_cases h5 : key < y
        · simp (disch := omega) only [Nat.add_zero, iN_lit, iN_lt, iN_le, iN_eq, iN_add, iN_mul, iN_sub, iN_nat, iN_div, iN_mod, iN_pred', n1_lt, n1_le, n1_ne, n1_ne', n1_nle, n1_nlt, n1_eq, oobN, some_lt, some_jn, bnd_some, Bool.false_eq_true, if_true, if_false, ite_true, ite_false, ↓reduceIte, ltT, ltF, leT, leF, eqT, eqF, true_and, and_true, false_and, and_false, true_or, or_true, false_or, or_false, not_true_eq_false, not_false_eq_true, if_pos, if_neg]
        · simp (disch := omega) only [Nat.add_zero, iN_lit, iN_lt, iN_le, iN_eq, iN_add, iN_mul, iN_sub, iN_nat, iN_div, iN_mod, iN_pred', n1_lt, n1_le, n1_ne, n1_ne', n1_nle, n1_nlt, n1_eq, oobN, some_lt, some_jn, bnd_some, Bool.false_eq_true, if_true, if_false, ite_true, ite_false, ↓reduceIte, ltT, ltF, leT, leF, eqT, eqF, true_and, and_true, false_and, and_false, true_or, or_true, false_or, or_false, not_true_eq_false, not_false_eq_true, if_pos, if_neg]
      · show upd _ 3 _ 3 = _
        simp only [upd, tyT, hm, oN, if_true]
        simp (disch := omega) only [Nat.add_zero, iN_lit, iN_lt, iN_le, iN_eq, iN_add, iN_mul, iN_sub, iN_nat, iN_div, iN_mod, iN_pred', n1_lt, n1_le, n1_ne, n1_ne', n1_nle, n1_nlt, n1_eq, oobN, some_lt, some_jn, bnd_some, Bool.false_eq_true, if_true, if_false, ite_true, ite_false, ↓reduceIte, ltT, ltF, leT, leF, eqT, eqF, true_and, and_true, false_and, and_false, true_or, or_true, false_or, or_false, not_true_eq_false, not_false_eq_true, if_pos, if_neg]
      · simp only [upd]; rw [if_neg (by omega), if_neg (by omega), if_neg (by omega), if_neg (by omega)]
    | some x =>
      refine ⟨_, rfl, ⟨?_, ?_, ?_, ?_⟩, fun j hj => ?_⟩
      · show upd _ 3 _ 0 = _
        simp only [upd, tyT]; simp [h1]; rw [show (1 : Int32) = iN 1 from rfl, iN_add]
      · show upd _ 3 _ 1 = _
        simp only [upd, tyT]; simp [h2]
      · show upd _ 3 _ 2 = _
        simp only [upd, tyT, hl, oN]
        by_cases h5 : key < y
        · simp (disch := omega) only [Nat.add_zero, iN_lit, iN_lt, iN_le, iN_eq, iN_add, iN_mul, iN_sub, iN_nat, iN_div, iN_mod, iN_pred', n1_lt, n1_le, n1_ne, n1_ne', n1_nle, n1_nlt, n1_eq, oobN, some_lt, some_jn, bnd_some, Bool.false_eq_true, if_true, if_false, ite_true, ite_false, ↓reduceIte, ltT, ltF, leT, leF, eqT, eqF, true_and, and_true, false_and, and_false, true_or, or_true, false_or, or_false, not_true_eq_false, not_false_eq_true, if_pos, if_neg]
        · simp (disch := omega) only [Nat.add_zero, iN_lit, iN_lt, iN_le, iN_eq, iN_add, iN_mul, iN_sub, iN_nat, iN_div, iN_mod, iN_pred', n1_lt, n1_le, n1_ne, n1_ne', n1_nle, n1_nlt, n1_eq, oobN, some_lt, some_jn, bnd_some, Bool.false_eq_true, if_true, if_false, ite_true, ite_false, ↓reduceIte, ltT, ltF, leT, leF, eqT, eqF, true_and, and_true, false_and, and_false, true_or, or_true, false_or, or_false, not_true_eq_false, not_false_eq_true, if_pos, if_neg]
      · show upd _ 3 _ 3 = _
        have := i3 x hm
        simp only [upd, tyT, hm, oN, if_true]
        by_cases h5 : x < key
        · simp (disch := omega) only [Nat.add_zero, iN_lit, iN_lt, iN_le, iN_eq, iN_add, iN_mul, iN_sub, iN_nat, iN_div, iN_mod, iN_pred', n1_lt, n1_le, n1_ne, n1_ne', n1_nle, n1_nlt, n1_eq, oobN, some_lt, some_jn, bnd_some, Bool.false_eq_true, if_true, if_false, ite_true, ite_false, ↓reduceIte, ltT, ltF, leT, leF, eqT, eqF, true_and, and_true, false_and, and_false, true_or, or_true, false_or, or_false, not_true_eq_false, not_false_eq_true, if_pos, if_neg]
        · simp (disch := omega) only [Nat.add_zero, iN_lit, iN_lt, iN_le, iN_eq, iN_add, iN_mul, iN_sub, iN_nat, iN_div, iN_mod, iN_pred', n1_lt, n1_le, n1_ne, n1_ne', n1_nle, n1_nlt, n1_eq, oobN, some_lt, some_jn, bnd_some, Bool.false_eq_true, if_true, if_false, ite_true, ite_false, ↓reduceIte, ltT, ltF, leT, leF, eqT, eqF, true_and, and_true, false_and, and_false, true_or, or_true, false_or, or_false, not_true_eq_false, not_false_eq_true, if_pos, if_neg]
      · simp only [upd]; rw [if_neg (by omega), if_neg (by omega), if_neg (by omega), if_neg (by omega)]
theorem c_clear0 {N : Nat} {f : Nat → Int32} (hN : 1000 < N) : ∃ f', f_X0_clear N f = some f' ∧ TN 0 f' ty0 ∧ (∀ j, 4 ≤ j → j < 9 → f' j = iN 0) := by
  have loop : ∀ k : (Nat → Int32) → Option (Nat → Int32), f_X0_clear_2 k N 0 f = k (pfi (fun g i => upd g i 0) f 9) := by
    intro k
    refine (lpC (F := fun n i g => f_X0_clear_2 k n (iN i) g) (k := k) (g := fun g i => upd g i 0) (x0 := f) (e := 9) (I := fun _ _ => True) trivial (fun _ _ _ _ => trivial) (fun n i x hi _ => ?_) (fun n x _ => ?_) N (by omega)).1
    · show f_X0_clear_2 k (n + 1) (iN i) x = _
      rw [f_X0_clear_2.eq_2]; simp (disch := omega) only [Nat.add_zero, iN_lit, iN_lt, iN_le, iN_eq, iN_add, iN_mul, iN_sub, iN_nat, iN_div, iN_mod, iN_pred', n1_lt, n1_le, n1_ne, n1_ne', n1_nle, n1_nlt, n1_eq, oobN, some_lt, some_jn, bnd_some, Bool.false_eq_true, if_true, if_false, ite_true, ite_false, ↓reduceIte, ltT, ltF, leT, leF, eqT, eqF, true_and, and_true, false_and, and_false, true_or, or_true, false_or, or_false, not_true_eq_false, not_false_eq_true, if_pos, if_neg]
    · show f_X0_clear_2 k (n + 1) (iN 9) x = _
      rw [f_X0_clear_2.eq_2]; simp (disch := omega) only [Nat.add_zero, iN_lit, iN_lt, iN_le, iN_eq, iN_add, iN_mul, iN_sub, iN_nat, iN_div, iN_mod, iN_pred', n1_lt, n1_le, n1_ne, n1_ne', n1_nle, n1_nlt, n1_eq, oobN, some_lt, some_jn, bnd_some, Bool.false_eq_true, if_true, if_false, ite_true, ite_false, ↓reduceIte, ltT, ltF, leT, leF, eqT, eqF, true_and, and_true, false_and, and_false, true_or, or_true, false_or, or_false, not_true_eq_false, not_false_eq_true, if_pos, if_neg]
  unfold f_X0_clear
  rw [some_jn, loop]
  refine ⟨_, rfl, ⟨?_, ?_, ?_, ?_⟩, fun j h1 h2 => ?_⟩
  · simp [upd, pfi, ty0]; rfl
  · simp [upd, pfi, ty0]
  · simp [upd, ty0]; rfl
  · simp [upd, ty0]; rfl
  · match j, h1, h2 with
    | 4, _, _ => simp [upd, pfi]; rfl
    | 5, _, _ => simp [upd, pfi]; rfl
    | 6, _, _ => simp [upd, pfi]; rfl
    | 7, _, _ => simp [upd, pfi]; rfl
    | 8, _, _ => simp [upd, pfi]; rfl
section RW
variable {n N : Nat} {ky ss vs : Nat → Int32} {K S : Nat → Nat} {V : Nat → Int32} {a : Nat → Int32}
theorem c_stateOf {r : Nat} (hs : ST n ss S) (hn : n ≤ 120) (hr : r < n) : f_X6_stateOf ss (iN r) = some (iN (S r)) := by
  have h1 := (hs r hr).1
  unfold f_X6_stateOf; simp (disch := omega) only [Nat.add_zero, iN_lit, iN_lt, iN_le, iN_eq, iN_add, iN_mul, iN_sub, iN_nat, iN_div, iN_mod, iN_pred', n1_lt, n1_le, n1_ne, n1_ne', n1_nle, n1_nlt, n1_eq, oobN, some_lt, some_jn, bnd_some, Bool.false_eq_true, if_true, if_false, ite_true, ite_false, ↓reduceIte, ltT, ltF, leT, leF, eqT, eqF, true_and, and_true, false_and, and_false, true_or, or_true, false_or, or_false, not_true_eq_false, not_false_eq_true, if_pos, if_neg, h1]
theorem c_valueOf {r : Nat} (hv : VA n vs V) (hn : n ≤ 120) (hr : r < n) : f_X6_valueOf vs (iN r) = some (V r) := by
  have h1 := hv r hr
  unfold f_X6_valueOf; simp (disch := omega) only [Nat.add_zero, iN_lit, iN_lt, iN_le, iN_eq, iN_add, iN_mul, iN_sub, iN_nat, iN_div, iN_mod, iN_pred', n1_lt, n1_le, n1_ne, n1_ne', n1_nle, n1_nlt, n1_eq, oobN, some_lt, some_jn, bnd_some, Bool.false_eq_true, if_true, if_false, ite_true, ite_false, ↓reduceIte, ltT, ltF, leT, leF, eqT, eqF, true_and, and_true, false_and, and_false, true_or, or_true, false_or, or_false, not_true_eq_false, not_false_eq_true, if_pos, if_neg, h1]
theorem c_lives {r : Nat} (hs : ST n ss S) (hn : n ≤ 120) (hr : r < n) : f_X6_lives ss (iN r) = some (if S r ≤ 1 then 1 else 0) := by
  unfold f_X6_lives
  rw [c_stateOf hs hn hr]
  have h1 := (hs r hr).2
  by_cases h2 : S r = 0
  · simp (disch := omega) only [Nat.add_zero, iN_lit, iN_lt, iN_le, iN_eq, iN_add, iN_mul, iN_sub, iN_nat, iN_div, iN_mod, iN_pred', n1_lt, n1_le, n1_ne, n1_ne', n1_nle, n1_nlt, n1_eq, oobN, some_lt, some_jn, bnd_some, Bool.false_eq_true, if_true, if_false, ite_true, ite_false, ↓reduceIte, ltT, ltF, leT, leF, eqT, eqF, true_and, and_true, false_and, and_false, true_or, or_true, false_or, or_false, not_true_eq_false, not_false_eq_true, if_pos, if_neg]
  · by_cases h3 : S r = 1
    · simp (disch := omega) only [Nat.add_zero, iN_lit, iN_lt, iN_le, iN_eq, iN_add, iN_mul, iN_sub, iN_nat, iN_div, iN_mod, iN_pred', n1_lt, n1_le, n1_ne, n1_ne', n1_nle, n1_nlt, n1_eq, oobN, some_lt, some_jn, bnd_some, Bool.false_eq_true, if_true, if_false, ite_true, ite_false, ↓reduceIte, ltT, ltF, leT, leF, eqT, eqF, true_and, and_true, false_and, and_false, true_or, or_true, false_or, or_false, not_true_eq_false, not_false_eq_true, if_pos, if_neg]
    · simp (disch := omega) only [Nat.add_zero, iN_lit, iN_lt, iN_le, iN_eq, iN_add, iN_mul, iN_sub, iN_nat, iN_div, iN_mod, iN_pred', n1_lt, n1_le, n1_ne, n1_ne', n1_nle, n1_nlt, n1_eq, oobN, some_lt, some_jn, bnd_some, Bool.false_eq_true, if_true, if_false, ite_true, ite_false, ↓reduceIte, ltT, ltF, leT, leF, eqT, eqF, true_and, and_true, false_and, and_false, true_or, or_true, false_or, or_false, not_true_eq_false, not_false_eq_true, if_pos, if_neg]
theorem r_lives {r : Nat} (hs : ST n (fun r => a (260 + r)) S) (hn : n ≤ 120) (hr : r < n) : f_X8_lives a (iN r) = some (if S r ≤ 1 then 1 else 0) := by
  have h1 := hs r hr
  have h2 := h1.1; have h3 := h1.2
  unfold f_X8_lives
  by_cases h4 : S r ≤ 1
  · simp (disch := omega) only [Nat.add_zero, iN_lit, iN_lt, iN_le, iN_eq, iN_add, iN_mul, iN_sub, iN_nat, iN_div, iN_mod, iN_pred', n1_lt, n1_le, n1_ne, n1_ne', n1_nle, n1_nlt, n1_eq, oobN, some_lt, some_jn, bnd_some, Bool.false_eq_true, if_true, if_false, ite_true, ite_false, ↓reduceIte, ltT, ltF, leT, leF, eqT, eqF, true_and, and_true, false_and, and_false, true_or, or_true, false_or, or_false, not_true_eq_false, not_false_eq_true, if_pos, if_neg, h2]
  · simp (disch := omega) only [Nat.add_zero, iN_lit, iN_lt, iN_le, iN_eq, iN_add, iN_mul, iN_sub, iN_nat, iN_div, iN_mod, iN_pred', n1_lt, n1_le, n1_ne, n1_ne', n1_nle, n1_nlt, n1_eq, oobN, some_lt, some_jn, bnd_some, Bool.false_eq_true, if_true, if_false, ite_true, ite_false, ↓reduceIte, ltT, ltF, leT, leF, eqT, eqF, true_and, and_true, false_and, and_false, true_or, or_true, false_or, or_false, not_true_eq_false, not_false_eq_true, if_pos, if_neg, h2]
theorem c_livingCount (hs : ST n ss S) (hn : n ≤ 120) (hN : 1000 < N) : f_X6_livingCount N (iN n) ss = some (iN (livS n S)) := by
  unfold f_X6_livingCount
  rw [some_jn]
  refine (lpC (F := fun m i x => f_X6_livingCount_4 (iN n) ss (fun x => some x) m (iN x) (iN i)) (k := fun x => some (iN x)) (g := livG S) (x0 := 0) (e := n) (I := fun _ _ => True) trivial (fun _ _ _ _ => trivial) (fun m i x hi _ => ?_) (fun m x _ => ?_) N (by omega)).1
  · show f_X6_livingCount_4 (iN n) ss _ (m + 1) (iN x) (iN i) = _
    rw [f_X6_livingCount_4.eq_2, c_lives hs hn hi]
    unfold livG
    by_cases h1 : S i ≤ 1
    · simp (disch := omega) only [Nat.add_zero, iN_lit, iN_lt, iN_le, iN_eq, iN_add, iN_mul, iN_sub, iN_nat, iN_div, iN_mod, iN_pred', n1_lt, n1_le, n1_ne, n1_ne', n1_nle, n1_nlt, n1_eq, oobN, some_lt, some_jn, bnd_some, Bool.false_eq_true, if_true, if_false, ite_true, ite_false, ↓reduceIte, ltT, ltF, leT, leF, eqT, eqF, true_and, and_true, false_and, and_false, true_or, or_true, false_or, or_false, not_true_eq_false, not_false_eq_true, if_pos, if_neg]
    · simp (disch := omega) only [Nat.add_zero, iN_lit, iN_lt, iN_le, iN_eq, iN_add, iN_mul, iN_sub, iN_nat, iN_div, iN_mod, iN_pred', n1_lt, n1_le, n1_ne, n1_ne', n1_nle, n1_nlt, n1_eq, oobN, some_lt, some_jn, bnd_some, Bool.false_eq_true, if_true, if_false, ite_true, ite_false, ↓reduceIte, ltT, ltF, leT, leF, eqT, eqF, true_and, and_true, false_and, and_false, true_or, or_true, false_or, or_false, not_true_eq_false, not_false_eq_true, if_pos, if_neg]
  · show f_X6_livingCount_4 (iN n) ss _ (m + 1) (iN x) (iN n) = _
    rw [f_X6_livingCount_4.eq_2]; simp (disch := omega) only [Nat.add_zero, iN_lit, iN_lt, iN_le, iN_eq, iN_add, iN_mul, iN_sub, iN_nat, iN_div, iN_mod, iN_pred', n1_lt, n1_le, n1_ne, n1_ne', n1_nle, n1_nlt, n1_eq, oobN, some_lt, some_jn, bnd_some, Bool.false_eq_true, if_true, if_false, ite_true, ite_false, ↓reduceIte, ltT, ltF, leT, leF, eqT, eqF, true_and, and_true, false_and, and_false, true_or, or_true, false_or, or_false, not_true_eq_false, not_false_eq_true, if_pos, if_neg]
theorem r_living (h0 : a 0 = iN n) (hs : ST n (fun r => a (260 + r)) S) (hn : n ≤ 120) (hN : 1000 < N) : f_X8_living N a = some (iN (livS n S)) := by
  unfold f_X8_living
  rw [some_jn]
  refine (lpC (F := fun m i x => f_X8_living_4 a (fun x => some x) m (iN x) (iN i)) (k := fun x => some (iN x)) (g := livG S) (x0 := 0) (e := n) (I := fun _ _ => True) trivial (fun _ _ _ _ => trivial) (fun m i x hi _ => ?_) (fun m x _ => ?_) N (by omega)).1
  · show f_X8_living_4 a _ (m + 1) (iN x) (iN i) = _
    rw [f_X8_living_4.eq_2, r_lives hs hn hi, h0]
    unfold livG
    by_cases h1 : S i ≤ 1
    · simp (disch := omega) only [Nat.add_zero, iN_lit, iN_lt, iN_le, iN_eq, iN_add, iN_mul, iN_sub, iN_nat, iN_div, iN_mod, iN_pred', n1_lt, n1_le, n1_ne, n1_ne', n1_nle, n1_nlt, n1_eq, oobN, some_lt, some_jn, bnd_some, Bool.false_eq_true, if_true, if_false, ite_true, ite_false, ↓reduceIte, ltT, ltF, leT, leF, eqT, eqF, true_and, and_true, false_and, and_false, true_or, or_true, false_or, or_false, not_true_eq_false, not_false_eq_true, if_pos, if_neg]
    · simp (disch := omega) only [Nat.add_zero, iN_lit, iN_lt, iN_le, iN_eq, iN_add, iN_mul, iN_sub, iN_nat, iN_div, iN_mod, iN_pred', n1_lt, n1_le, n1_ne, n1_ne', n1_nle, n1_nlt, n1_eq, oobN, some_lt, some_jn, bnd_some, Bool.false_eq_true, if_true, if_false, ite_true, ite_false, ↓reduceIte, ltT, ltF, leT, leF, eqT, eqF, true_and, and_true, false_and, and_false, true_or, or_true, false_or, or_false, not_true_eq_false, not_false_eq_true, if_pos, if_neg]
  · show f_X8_living_4 a _ (m + 1) (iN x) (iN n) = _
    rw [f_X8_living_4.eq_2, h0]; simp (disch := omega) only [Nat.add_zero, iN_lit, iN_lt, iN_le, iN_eq, iN_add, iN_mul, iN_sub, iN_nat, iN_div, iN_mod, iN_pred', n1_lt, n1_le, n1_ne, n1_ne', n1_nle, n1_nlt, n1_eq, oobN, some_lt, some_jn, bnd_some, Bool.false_eq_true, if_true, if_false, ite_true, ite_false, ↓reduceIte, ltT, ltF, leT, leF, eqT, eqF, true_and, and_true, false_and, and_false, true_or, or_true, false_or, or_false, not_true_eq_false, not_false_eq_true, if_pos, if_neg]
theorem c_livingAhead {row : Nat} (hk : KY n ky K) (hs : ST n ss S) (hn : n ≤ 120) (hN : 1000 < N) (hr : row < n) : f_X6_livingAhead N (iN n) ky ss (iN row) = some (iN (lahS n K S row)) := by
  unfold f_X6_livingAhead
  rw [some_jn]
  refine (lpC (F := fun m i x => f_X6_livingAhead_4 (iN n) ky ss (iN row) (fun x => some x) m (iN x) (iN i)) (k := fun x => some (iN x)) (g := lahG K S row) (x0 := 0) (e := n) (I := fun _ _ => True) trivial (fun _ _ _ _ => trivial) (fun m i x hi _ => ?_) (fun m x _ => ?_) N (by omega)).1
  · show f_X6_livingAhead_4 (iN n) ky ss _ _ (m + 1) (iN x) (iN i) = _
    rw [f_X6_livingAhead_4.eq_2, c_lives hs hn hi, c_isAhead hk hn hi hr]
    unfold lahG
    by_cases h1 : S i ≤ 1
    · by_cases h2 : ahd K i row = true
      · rw [if_pos (⟨h1, h2⟩ : S i ≤ 1 ∧ ahd K i row = true)]; simp (disch := omega) only [Nat.add_zero, iN_lit, iN_lt, iN_le, iN_eq, iN_add, iN_mul, iN_sub, iN_nat, iN_div, iN_mod, iN_pred', n1_lt, n1_le, n1_ne, n1_ne', n1_nle, n1_nlt, n1_eq, oobN, some_lt, some_jn, bnd_some, Bool.false_eq_true, if_true, if_false, ite_true, ite_false, ↓reduceIte, ltT, ltF, leT, leF, eqT, eqF, true_and, and_true, false_and, and_false, true_or, or_true, false_or, or_false, not_true_eq_false, not_false_eq_true, if_pos, if_neg, h2]
      · rw [if_neg (fun h : S i ≤ 1 ∧ ahd K i row = true => h2 h.2)]; simp (disch := omega) only [Nat.add_zero, iN_lit, iN_lt, iN_le, iN_eq, iN_add, iN_mul, iN_sub, iN_nat, iN_div, iN_mod, iN_pred', n1_lt, n1_le, n1_ne, n1_ne', n1_nle, n1_nlt, n1_eq, oobN, some_lt, some_jn, bnd_some, Bool.false_eq_true, if_true, if_false, ite_true, ite_false, ↓reduceIte, ltT, ltF, leT, leF, eqT, eqF, true_and, and_true, false_and, and_false, true_or, or_true, false_or, or_false, not_true_eq_false, not_false_eq_true, if_pos, if_neg, h2]
    · rw [if_neg (fun h : S i ≤ 1 ∧ ahd K i row = true => h1 h.1)]; simp (disch := omega) only [Nat.add_zero, iN_lit, iN_lt, iN_le, iN_eq, iN_add, iN_mul, iN_sub, iN_nat, iN_div, iN_mod, iN_pred', n1_lt, n1_le, n1_ne, n1_ne', n1_nle, n1_nlt, n1_eq, oobN, some_lt, some_jn, bnd_some, Bool.false_eq_true, if_true, if_false, ite_true, ite_false, ↓reduceIte, ltT, ltF, leT, leF, eqT, eqF, true_and, and_true, false_and, and_false, true_or, or_true, false_or, or_false, not_true_eq_false, not_false_eq_true, if_pos, if_neg]
  · show f_X6_livingAhead_4 (iN n) ky ss _ _ (m + 1) (iN x) (iN n) = _
    rw [f_X6_livingAhead_4.eq_2]; simp (disch := omega) only [Nat.add_zero, iN_lit, iN_lt, iN_le, iN_eq, iN_add, iN_mul, iN_sub, iN_nat, iN_div, iN_mod, iN_pred', n1_lt, n1_le, n1_ne, n1_ne', n1_nle, n1_nlt, n1_eq, oobN, some_lt, some_jn, bnd_some, Bool.false_eq_true, if_true, if_false, ite_true, ite_false, ↓reduceIte, ltT, ltF, leT, leF, eqT, eqF, true_and, and_true, false_and, and_false, true_or, or_true, false_or, or_false, not_true_eq_false, not_false_eq_true, if_pos, if_neg]
theorem c_livingAt {pl : Nat} (hk : KY n ky K) (hs : ST n ss S) (hn : n ≤ 120) (hN : 1000 < N) (hp : pl < 2147483648) : f_X6_livingAt N (iN n) ky ss (iN pl) = some (oN (ordS n K S pl)) := by
  unfold f_X6_livingAt
  rw [some_jn, some_jn]
  refine (lpF (F := fun m i => f_X6_livingAt_2 N (iN n) ky ss (iN pl) (some (-1)) (fun x => some x) m (iN i)) (p := fun r => decide (S r ≤ 1) && (lahS n K S r == pl)) (kf := fun i => some (iN i)) (kn := some (-1)) (e := n) (fun m i hi => ?_) (fun m => ?_) N 0 (by omega) (by omega)).trans ?_
  · show f_X6_livingAt_2 N (iN n) ky ss _ _ _ (m + 1) (iN i) = _
    rw [f_X6_livingAt_2.eq_2, c_lives hs hn hi, c_livingAhead hk hs hn hN hi]
    have h4 : lahS n K S i ≤ 0 + n := pfi_le (fun x r => by unfold lahG; split <;> omega)
    by_cases h1 : S i ≤ 1
    · by_cases h2 : lahS n K S i = pl
      · have hb : (decide (S i ≤ 1) && (lahS n K S i == pl)) = true := by simp [h1, h2]
        rw [hb]; simp (disch := omega) only [Nat.add_zero, iN_lit, iN_lt, iN_le, iN_eq, iN_add, iN_mul, iN_sub, iN_nat, iN_div, iN_mod, iN_pred', n1_lt, n1_le, n1_ne, n1_ne', n1_nle, n1_nlt, n1_eq, oobN, some_lt, some_jn, bnd_some, Bool.false_eq_true, if_true, if_false, ite_true, ite_false, ↓reduceIte, ltT, ltF, leT, leF, eqT, eqF, true_and, and_true, false_and, and_false, true_or, or_true, false_or, or_false, not_true_eq_false, not_false_eq_true, if_pos, if_neg]
      · have hb : (decide (S i ≤ 1) && (lahS n K S i == pl)) = false := by simp [h2]
        rw [hb]; simp (disch := omega) only [Nat.add_zero, iN_lit, iN_lt, iN_le, iN_eq, iN_add, iN_mul, iN_sub, iN_nat, iN_div, iN_mod, iN_pred', n1_lt, n1_le, n1_ne, n1_ne', n1_nle, n1_nlt, n1_eq, oobN, some_lt, some_jn, bnd_some, Bool.false_eq_true, if_true, if_false, ite_true, ite_false, ↓reduceIte, ltT, ltF, leT, leF, eqT, eqF, true_and, and_true, false_and, and_false, true_or, or_true, false_or, or_false, not_true_eq_false, not_false_eq_true, if_pos, if_neg]
    · have hb : (decide (S i ≤ 1) && (lahS n K S i == pl)) = false := by simp [h1]
      rw [hb]; simp (disch := omega) only [Nat.add_zero, iN_lit, iN_lt, iN_le, iN_eq, iN_add, iN_mul, iN_sub, iN_nat, iN_div, iN_mod, iN_pred', n1_lt, n1_le, n1_ne, n1_ne', n1_nle, n1_nlt, n1_eq, oobN, some_lt, some_jn, bnd_some, Bool.false_eq_true, if_true, if_false, ite_true, ite_false, ↓reduceIte, ltT, ltF, leT, leF, eqT, eqF, true_and, and_true, false_and, and_false, true_or, or_true, false_or, or_false, not_true_eq_false, not_false_eq_true, if_pos, if_neg]
  · show f_X6_livingAt_2 N (iN n) ky ss _ _ _ (m + 1) (iN n) = _
    rw [f_X6_livingAt_2.eq_2]; simp (disch := omega) only [Nat.add_zero, iN_lit, iN_lt, iN_le, iN_eq, iN_add, iN_mul, iN_sub, iN_nat, iN_div, iN_mod, iN_pred', n1_lt, n1_le, n1_ne, n1_ne', n1_nle, n1_nlt, n1_eq, oobN, some_lt, some_jn, bnd_some, Bool.false_eq_true, if_true, if_false, ite_true, ite_false, ↓reduceIte, ltT, ltF, leT, leF, eqT, eqF, true_and, and_true, false_and, and_false, true_or, or_true, false_or, or_false, not_true_eq_false, not_false_eq_true, if_pos, if_neg]
  · unfold ordS; rw [Nat.sub_zero]; cases fstI _ 0 n <;> rfl
theorem r_ordered {pl : Int32} (h0 : a 0 = iN n) (hk : KY n (fun r => a (20 + r)) K) (hs : ST n (fun r => a (260 + r)) S) (hn : n ≤ 120) (hN : 1000 < N) :
    f_X8_ordered N a pl = some (match fstI (fun r => decide (S r ≤ 1) && decide (iN (lahS n K S r) = pl)) 0 n with | some r => (iN r, 0) | none => (0, 1)) := by
  unfold f_X8_ordered
  rw [some_jn, some_jn]
  have loop : ∀ (k : Int32 → Option (Int32 × Int32)) (row : Nat), row < n → f_X8_ordered_22 a (iN row) k N 0 0 = k (iN (lahS n K S row)) := by
    intro k row hr
    refine (lpC (F := fun m i x => f_X8_ordered_22 a (iN row) k m (iN x) (iN i)) (k := fun x => k (iN x)) (g := lahG K S row) (x0 := 0) (e := n) (I := fun _ _ => True) trivial (fun _ _ _ _ => trivial) (fun m i x hi _ => ?_) (fun m x _ => ?_) N (by omega)).1
    · show f_X8_ordered_22 a _ _ (m + 1) (iN x) (iN i) = _
      rw [f_X8_ordered_22.eq_2, r_lives hs hn hi, r_isAhead hk hn hi hr, h0]
      unfold lahG
      by_cases h1 : S i ≤ 1
      · by_cases h2 : ahd K i row = true
        · rw [if_pos (⟨h1, h2⟩ : S i ≤ 1 ∧ ahd K i row = true)]; simp (disch := omega) only [Nat.add_zero, iN_lit, iN_lt, iN_le, iN_eq, iN_add, iN_mul, iN_sub, iN_nat, iN_div, iN_mod, iN_pred', n1_lt, n1_le, n1_ne, n1_ne', n1_nle, n1_nlt, n1_eq, oobN, some_lt, some_jn, bnd_some, Bool.false_eq_true, if_true, if_false, ite_true, ite_false, ↓reduceIte, ltT, ltF, leT, leF, eqT, eqF, true_and, and_true, false_and, and_false, true_or, or_true, false_or, or_false, not_true_eq_false, not_false_eq_true, if_pos, if_neg, h2]
        · rw [if_neg (fun h : S i ≤ 1 ∧ ahd K i row = true => h2 h.2)]; simp (disch := omega) only [Nat.add_zero, iN_lit, iN_lt, iN_le, iN_eq, iN_add, iN_mul, iN_sub, iN_nat, iN_div, iN_mod, iN_pred', n1_lt, n1_le, n1_ne, n1_ne', n1_nle, n1_nlt, n1_eq, oobN, some_lt, some_jn, bnd_some, Bool.false_eq_true, if_true, if_false, ite_true, ite_false, ↓reduceIte, ltT, ltF, leT, leF, eqT, eqF, true_and, and_true, false_and, and_false, true_or, or_true, false_or, or_false, not_true_eq_false, not_false_eq_true, if_pos, if_neg, h2]
      · rw [if_neg (fun h : S i ≤ 1 ∧ ahd K i row = true => h1 h.1)]; simp (disch := omega) only [Nat.add_zero, iN_lit, iN_lt, iN_le, iN_eq, iN_add, iN_mul, iN_sub, iN_nat, iN_div, iN_mod, iN_pred', n1_lt, n1_le, n1_ne, n1_ne', n1_nle, n1_nlt, n1_eq, oobN, some_lt, some_jn, bnd_some, Bool.false_eq_true, if_true, if_false, ite_true, ite_false, ↓reduceIte, ltT, ltF, leT, leF, eqT, eqF, true_and, and_true, false_and, and_false, true_or, or_true, false_or, or_false, not_true_eq_false, not_false_eq_true, if_pos, if_neg]
    · show f_X8_ordered_22 a _ _ (m + 1) (iN x) (iN n) = _
      rw [f_X8_ordered_22.eq_2, h0]; simp (disch := omega) only [Nat.add_zero, iN_lit, iN_lt, iN_le, iN_eq, iN_add, iN_mul, iN_sub, iN_nat, iN_div, iN_mod, iN_pred', n1_lt, n1_le, n1_ne, n1_ne', n1_nle, n1_nlt, n1_eq, oobN, some_lt, some_jn, bnd_some, Bool.false_eq_true, if_true, if_false, ite_true, ite_false, ↓reduceIte, ltT, ltF, leT, leF, eqT, eqF, true_and, and_true, false_and, and_false, true_or, or_true, false_or, or_false, not_true_eq_false, not_false_eq_true, if_pos, if_neg]
  refine (lpF (F := fun m i => f_X8_ordered_7 N a pl (some (0, 1)) (fun x => some (x, 0)) m (iN i)) (p := fun r => decide (S r ≤ 1) && decide (iN (lahS n K S r) = pl)) (kf := fun i => some (iN i, 0)) (kn := some (0, 1)) (e := n) (fun m i hi => ?_) (fun m => ?_) N 0 (by omega) (by omega)).trans ?_
  · show f_X8_ordered_7 N a pl _ _ (m + 1) (iN i) = _
    rw [f_X8_ordered_7.eq_2, some_jn, loop _ i hi, r_lives hs hn hi, h0]
    by_cases h1 : S i ≤ 1
    · by_cases h2 : iN (lahS n K S i) = pl
      · have hb : (decide (S i ≤ 1) && decide (iN (lahS n K S i) = pl)) = true := by simp [h1, h2]
        rw [hb]; simp (disch := omega) only [Nat.add_zero, iN_lit, iN_lt, iN_le, iN_eq, iN_add, iN_mul, iN_sub, iN_nat, iN_div, iN_mod, iN_pred', n1_lt, n1_le, n1_ne, n1_ne', n1_nle, n1_nlt, n1_eq, oobN, some_lt, some_jn, bnd_some, Bool.false_eq_true, if_true, if_false, ite_true, ite_false, ↓reduceIte, ltT, ltF, leT, leF, eqT, eqF, true_and, and_true, false_and, and_false, true_or, or_true, false_or, or_false, not_true_eq_false, not_false_eq_true, if_pos, if_neg, h2]
      · have hb : (decide (S i ≤ 1) && decide (iN (lahS n K S i) = pl)) = false := by simp [h2]
        rw [hb]; simp (disch := omega) only [Nat.add_zero, iN_lit, iN_lt, iN_le, iN_eq, iN_add, iN_mul, iN_sub, iN_nat, iN_div, iN_mod, iN_pred', n1_lt, n1_le, n1_ne, n1_ne', n1_nle, n1_nlt, n1_eq, oobN, some_lt, some_jn, bnd_some, Bool.false_eq_true, if_true, if_false, ite_true, ite_false, ↓reduceIte, ltT, ltF, leT, leF, eqT, eqF, true_and, and_true, false_and, and_false, true_or, or_true, false_or, or_false, not_true_eq_false, not_false_eq_true, if_pos, if_neg, h2]
    · have hb : (decide (S i ≤ 1) && decide (iN (lahS n K S i) = pl)) = false := by simp [h1]
      rw [hb]; simp (disch := omega) only [Nat.add_zero, iN_lit, iN_lt, iN_le, iN_eq, iN_add, iN_mul, iN_sub, iN_nat, iN_div, iN_mod, iN_pred', n1_lt, n1_le, n1_ne, n1_ne', n1_nle, n1_nlt, n1_eq, oobN, some_lt, some_jn, bnd_some, Bool.false_eq_true, if_true, if_false, ite_true, ite_false, ↓reduceIte, ltT, ltF, leT, leF, eqT, eqF, true_and, and_true, false_and, and_false, true_or, or_true, false_or, or_false, not_true_eq_false, not_false_eq_true, if_pos, if_neg]
  · show f_X8_ordered_7 N a pl _ _ (m + 1) (iN n) = _
    rw [f_X8_ordered_7.eq_2, h0]; simp (disch := omega) only [Nat.add_zero, iN_lit, iN_lt, iN_le, iN_eq, iN_add, iN_mul, iN_sub, iN_nat, iN_div, iN_mod, iN_pred', n1_lt, n1_le, n1_ne, n1_ne', n1_nle, n1_nlt, n1_eq, oobN, some_lt, some_jn, bnd_some, Bool.false_eq_true, if_true, if_false, ite_true, ite_false, ↓reduceIte, ltT, ltF, leT, leF, eqT, eqF, true_and, and_true, false_and, and_false, true_or, or_true, false_or, or_false, not_true_eq_false, not_false_eq_true, if_pos, if_neg]
  · rw [Nat.sub_zero]; cases fstI _ 0 n <;> rfl
theorem c_isIn {r lo hi : Nat} (hk : KY n ky K) (hn : n ≤ 120) (hr : r < n) (hlo : lo ≤ 10000) (hhi : hi ≤ 10000) : f_X6_isIn ky (iN r) (iN lo) (iN hi) = some (if lo ≤ K r ∧ K r < hi then 1 else 0) := by
  unfold f_X6_isIn
  rw [c_keyOf hk hn hr]
  have h1 := (hk r hr).2
  by_cases h2 : K r < lo
  · simp (disch := omega) only [Nat.add_zero, iN_lit, iN_lt, iN_le, iN_eq, iN_add, iN_mul, iN_sub, iN_nat, iN_div, iN_mod, iN_pred', n1_lt, n1_le, n1_ne, n1_ne', n1_nle, n1_nlt, n1_eq, oobN, some_lt, some_jn, bnd_some, Bool.false_eq_true, if_true, if_false, ite_true, ite_false, ↓reduceIte, ltT, ltF, leT, leF, eqT, eqF, true_and, and_true, false_and, and_false, true_or, or_true, false_or, or_false, not_true_eq_false, not_false_eq_true, if_pos, if_neg]
  · by_cases h3 : K r < hi
    · simp (disch := omega) only [Nat.add_zero, iN_lit, iN_lt, iN_le, iN_eq, iN_add, iN_mul, iN_sub, iN_nat, iN_div, iN_mod, iN_pred', n1_lt, n1_le, n1_ne, n1_ne', n1_nle, n1_nlt, n1_eq, oobN, some_lt, some_jn, bnd_some, Bool.false_eq_true, if_true, if_false, ite_true, ite_false, ↓reduceIte, ltT, ltF, leT, leF, eqT, eqF, true_and, and_true, false_and, and_false, true_or, or_true, false_or, or_false, not_true_eq_false, not_false_eq_true, if_pos, if_neg]
    · simp (disch := omega) only [Nat.add_zero, iN_lit, iN_lt, iN_le, iN_eq, iN_add, iN_mul, iN_sub, iN_nat, iN_div, iN_mod, iN_pred', n1_lt, n1_le, n1_ne, n1_ne', n1_nle, n1_nlt, n1_eq, oobN, some_lt, some_jn, bnd_some, Bool.false_eq_true, if_true, if_false, ite_true, ite_false, ↓reduceIte, ltT, ltF, leT, leF, eqT, eqF, true_and, and_true, false_and, and_false, true_or, or_true, false_or, or_false, not_true_eq_false, not_false_eq_true, if_pos, if_neg]
theorem r_isIn {v lo hi : Nat} (hv : v < 2147483648) (hlo : lo < 2147483648) (hhi : hi < 2147483648) : f_X8_isIn (iN v) (iN lo) (iN hi) = some (if lo ≤ v ∧ v ≤ hi then 1 else 0) := by
  unfold f_X8_isIn
  by_cases h2 : v < lo
  · simp (disch := omega) only [Nat.add_zero, iN_lit, iN_lt, iN_le, iN_eq, iN_add, iN_mul, iN_sub, iN_nat, iN_div, iN_mod, iN_pred', n1_lt, n1_le, n1_ne, n1_ne', n1_nle, n1_nlt, n1_eq, oobN, some_lt, some_jn, bnd_some, Bool.false_eq_true, if_true, if_false, ite_true, ite_false, ↓reduceIte, ltT, ltF, leT, leF, eqT, eqF, true_and, and_true, false_and, and_false, true_or, or_true, false_or, or_false, not_true_eq_false, not_false_eq_true, if_pos, if_neg]
  · by_cases h3 : v ≤ hi
    · simp (disch := omega) only [Nat.add_zero, iN_lit, iN_lt, iN_le, iN_eq, iN_add, iN_mul, iN_sub, iN_nat, iN_div, iN_mod, iN_pred', n1_lt, n1_le, n1_ne, n1_ne', n1_nle, n1_nlt, n1_eq, oobN, some_lt, some_jn, bnd_some, Bool.false_eq_true, if_true, if_false, ite_true, ite_false, ↓reduceIte, ltT, ltF, leT, leF, eqT, eqF, true_and, and_true, false_and, and_false, true_or, or_true, false_or, or_false, not_true_eq_false, not_false_eq_true, if_pos, if_neg]
    · simp (disch := omega) only [Nat.add_zero, iN_lit, iN_lt, iN_le, iN_eq, iN_add, iN_mul, iN_sub, iN_nat, iN_div, iN_mod, iN_pred', n1_lt, n1_le, n1_ne, n1_ne', n1_nle, n1_nlt, n1_eq, oobN, some_lt, some_jn, bnd_some, Bool.false_eq_true, if_true, if_false, ite_true, ite_false, ↓reduceIte, ltT, ltF, leT, leF, eqT, eqF, true_and, and_true, false_and, and_false, true_or, or_true, false_or, or_false, not_true_eq_false, not_false_eq_true, if_pos, if_neg]
theorem scn_I {lo hi : Nat} (hk : ∀ r, r < n → K r < 10000) : ∀ i, i ≤ n → TyI i (pfi (scnG K S V lo hi) ty0 i) := by
  intro i
  induction i with
  | zero => intro _; exact ty0_I 0
  | succ i ih =>
    intro h
    have := ih (by omega)
    simp only [pfi]; unfold scnG
    split
    · exact tyT_I this (hk i (by omega))
    · exact this.mono (by omega)
theorem c_tallyLiving {lo hi : Nat} {f : Nat → Int32} (hk : KY n ky K) (hs : ST n ss S) (hv : VA n vs V) (hn : n ≤ 120) (hN : 1000 < N) (hlo : lo ≤ 10000) (hhi : hi ≤ 10000) :
    ∃ f', f_X6_tallyLiving N f (iN n) ky ss vs (iN lo) (iN hi) = some f' ∧ TN 0 f' (scnS n K S V lo hi) := by
  obtain ⟨f1, e1, t1, _⟩ := c_clear0 (f := f) hN
  unfold f_X6_tallyLiving
  rw [e1, bnd_some, some_jn]
  have hI := scn_I (S := S) (V := V) (lo := lo) (hi := hi) (fun r hr => (hk r hr).2)
  have key : ∀ m i f, i ≤ n → n - i < m → TN 0 f (pfi (scnG K S V lo hi) ty0 i) → ∃ f', f_X6_tallyLiving_7 (iN n) ky ss vs (iN lo) (iN hi) (fun x => some x) m (iN i) f = some f' ∧ TN 0 f' (scnS n K S V lo hi) := by
    intro m
    induction m with
    | zero => intro i f h1 h2; omega
    | succ m ih =>
      intro i f h1 h2 h3
      rw [f_X6_tallyLiving_7.eq_2]
      by_cases h4 : i = n
      · subst h4; simp (disch := omega) only [Nat.add_zero, iN_lit, iN_lt, iN_le, iN_eq, iN_add, iN_mul, iN_sub, iN_nat, iN_div, iN_mod, iN_pred', n1_lt, n1_le, n1_ne, n1_ne', n1_nle, n1_nlt, n1_eq, oobN, some_lt, some_jn, bnd_some, Bool.false_eq_true, if_true, if_false, ite_true, ite_false, ↓reduceIte, ltT, ltF, leT, leF, eqT, eqF, true_and, and_true, false_and, and_false, true_or, or_true, false_or, or_false, not_true_eq_false, not_false_eq_true, if_pos, if_neg]; exact ⟨f, rfl, h3⟩
      · have hi' : i < n := by omega
        rw [c_lives hs hn hi', c_isIn hk hn hi' hlo hhi, c_keyOf hk hn hi', c_valueOf hv hn hi']
        have e2 : pfi (scnG K S V lo hi) ty0 (i + 1) = if S i ≤ 1 ∧ lo ≤ K i ∧ K i < hi then tyT (pfi (scnG K S V lo hi) ty0 i) (K i) (V i) else pfi (scnG K S V lo hi) ty0 i := rfl
        by_cases h5 : S i ≤ 1
        · by_cases h6 : lo ≤ K i ∧ K i < hi
          · rw [if_pos ⟨h5, h6⟩] at e2
            obtain ⟨f2, e3, t3, _⟩ := c_take (v := V i) h3 (hI i h1) (by omega) ((hk i hi').2)
            simp (disch := omega) only [Nat.add_zero, iN_lit, iN_lt, iN_le, iN_eq, iN_add, iN_mul, iN_sub, iN_nat, iN_div, iN_mod, iN_pred', n1_lt, n1_le, n1_ne, n1_ne', n1_nle, n1_nlt, n1_eq, oobN, some_lt, some_jn, bnd_some, Bool.false_eq_true, if_true, if_false, ite_true, ite_false, ↓reduceIte, ltT, ltF, leT, leF, eqT, eqF, true_and, and_true, false_and, and_false, true_or, or_true, false_or, or_false, not_true_eq_false, not_false_eq_true, if_pos, if_neg, h6, and_self, e3]
            exact ih (i + 1) f2 (by omega) (by omega) (by rw [e2]; exact t3)
          · rw [if_neg (fun h => h6 h.2)] at e2
            simp (disch := omega) only [Nat.add_zero, iN_lit, iN_lt, iN_le, iN_eq, iN_add, iN_mul, iN_sub, iN_nat, iN_div, iN_mod, iN_pred', n1_lt, n1_le, n1_ne, n1_ne', n1_nle, n1_nlt, n1_eq, oobN, some_lt, some_jn, bnd_some, Bool.false_eq_true, if_true, if_false, ite_true, ite_false, ↓reduceIte, ltT, ltF, leT, leF, eqT, eqF, true_and, and_true, false_and, and_false, true_or, or_true, false_or, or_false, not_true_eq_false, not_false_eq_true, if_pos, if_neg, h6]
            exact ih (i + 1) f (by omega) (by omega) (by rw [e2]; exact h3)
        · rw [if_neg (fun h => h5 h.1)] at e2
          simp (disch := omega) only [Nat.add_zero, iN_lit, iN_lt, iN_le, iN_eq, iN_add, iN_mul, iN_sub, iN_nat, iN_div, iN_mod, iN_pred', n1_lt, n1_le, n1_ne, n1_ne', n1_nle, n1_nlt, n1_eq, oobN, some_lt, some_jn, bnd_some, Bool.false_eq_true, if_true, if_false, ite_true, ite_false, ↓reduceIte, ltT, ltF, leT, leF, eqT, eqF, true_and, and_true, false_and, and_false, true_or, or_true, false_or, or_false, not_true_eq_false, not_false_eq_true, if_pos, if_neg]
          exact ih (i + 1) f (by omega) (by omega) (by rw [e2]; exact h3)
  exact key N 0 f1 (by omega) (by omega) t1
/-- what of a tally is asked -/
def tyA (T : Ty) (w : Nat) : Int32 := if w = 0 then iN T.1 else if w = 1 then T.2.1 else if w = 2 then oN T.2.2.1 else oN T.2.2.2
theorem r_scans {lo hi w : Nat} (h0 : a 0 = iN n) (hk : KY n (fun r => a (20 + r)) K) (hs : ST n (fun r => a (260 + r)) S) (hv : VA n (fun r => a (140 + r)) V) (hn : n ≤ 120) (hN : 1000 < N) (hlo : lo ≤ 10000) (hhi : hi ≤ 10000) (h1 : 1 ≤ hi) (hw : w ≤ 3) :
    f_X8_scans N a (iN lo) (iN hi) (iN w) = some (tyA (scnS n K S V lo hi) w) := by
  have hI := scn_I (S := S) (V := V) (lo := lo) (hi := hi) (fun r hr => (hk r hr).2)
  have loop : ∀ k : Int32 → Int32 → Int32 → Int32 → Option Int32, f_X8_scans_15 a (iN lo) (iN hi) k N 0 0 (-1) (-1) 0 = k (iN (scnS n K S V lo hi).1) (scnS n K S V lo hi).2.1 (oN (scnS n K S V lo hi).2.2.1) (oN (scnS n K S V lo hi).2.2.2) := by
    intro k
    refine (lpC (F := fun m i (T : Ty) => f_X8_scans_15 a (iN lo) (iN hi) k m (iN T.1) T.2.1 (oN T.2.2.1) (oN T.2.2.2) (iN i)) (k := fun T => k (iN T.1) T.2.1 (oN T.2.2.1) (oN T.2.2.2)) (g := scnG K S V lo hi) (x0 := ty0) (e := n) (I := fun i T => TyI i T) (ty0_I 0) (fun i T hi' hT => ?_) (fun m i T hi' hT => ?_) (fun m x _ => ?_) N (by omega)).1
    · unfold scnG
      split
      · exact tyT_I hT ((hk i hi').2)
      · exact hT.mono (by omega)
    · show f_X8_scans_15 a _ _ _ (m + 1) (iN T.1) T.2.1 (oN T.2.2.1) (oN T.2.2.2) (iN i) = _
      have h2 := (hk i hi').1; have h3 := (hk i hi').2; have h4 := hv i hi'
      have e5 : iN hi - 1 = iN (hi - 1) := iN_sub h1
      rw [f_X8_scans_15.eq_2, r_lives hs hn hi', h0, e5]
      have e6 := r_isIn (v := K i) (lo := lo) (hi := hi - 1) (by omega) (by omega) (by omega)
      unfold scnG
      by_cases h5 : S i ≤ 1
      · by_cases h6 : lo ≤ K i ∧ K i < hi
        · rw [if_pos (⟨h5, h6⟩ : S i ≤ 1 ∧ lo ≤ K i ∧ K i < hi)]
          rw [if_pos (by omega)] at e6
          obtain ⟨i1, i2, i3, i4⟩ := hT
          cases hl : T.2.2.1 with
          | none =>
            cases hm : T.2.2.2 with
            | none =>
              simp only [oN]
              simp (disch := omega) only [Nat.add_zero, iN_lit, iN_lt, iN_le, iN_eq, iN_add, iN_mul, iN_sub, iN_nat, iN_div, iN_mod, iN_pred', n1_lt, n1_le, n1_ne, n1_ne', n1_nle, n1_nlt, n1_eq, oobN, some_lt, some_jn, bnd_some, Bool.false_eq_true, if_true, if_false, ite_true, ite_false, ↓reduceIte, ltT, ltF, leT, leF, eqT, eqF, true_and, and_true, false_and, and_false, true_or, or_true, false_or, or_false, not_true_eq_false, not_false_eq_true, if_pos, if_neg, h2, h4, e6]
              simp only [tyT, hl, hm, oN]
            | some x =>
              have := i3 x hm
              simp only [oN]
              by_cases h7 : K i ≤ x
              · simp (disch := omega) only [Nat.add_zero, iN_lit, iN_lt, iN_le, iN_eq, iN_add, iN_mul, iN_sub, iN_nat, iN_div, iN_mod, iN_pred', n1_lt, n1_le, n1_ne, n1_ne', n1_nle, n1_nlt, n1_eq, oobN, some_lt, some_jn, bnd_some, Bool.false_eq_true, if_true, if_false, ite_true, ite_false, ↓reduceIte, ltT, ltF, leT, leF, eqT, eqF, true_and, and_true, false_and, and_false, true_or, or_true, false_or, or_false, not_true_eq_false, not_false_eq_true, if_pos, if_neg, h2, h4, e6]
                simp only [tyT, hl, hm, oN, if_pos h7]
              · simp (disch := omega) only [Nat.add_zero, iN_lit, iN_lt, iN_le, iN_eq, iN_add, iN_mul, iN_sub, iN_nat, iN_div, iN_mod, iN_pred', n1_lt, n1_le, n1_ne, n1_ne', n1_nle, n1_nlt, n1_eq, oobN, some_lt, some_jn, bnd_some, Bool.false_eq_true, if_true, if_false, ite_true, ite_false, ↓reduceIte, ltT, ltF, leT, leF, eqT, eqF, true_and, and_true, false_and, and_false, true_or, or_true, false_or, or_false, not_true_eq_false, not_false_eq_true, if_pos, if_neg, h2, h4, e6]
                simp only [tyT, hl, hm, oN, if_neg h7]
          | some y =>
            have hy := i2 y hl
            cases hm : T.2.2.2 with
            | none =>
              simp only [oN]
              by_cases h8 : y ≤ K i
              · simp (disch := omega) only [Nat.add_zero, iN_lit, iN_lt, iN_le, iN_eq, iN_add, iN_mul, iN_sub, iN_nat, iN_div, iN_mod, iN_pred', n1_lt, n1_le, n1_ne, n1_ne', n1_nle, n1_nlt, n1_eq, oobN, some_lt, some_jn, bnd_some, Bool.false_eq_true, if_true, if_false, ite_true, ite_false, ↓reduceIte, ltT, ltF, leT, leF, eqT, eqF, true_and, and_true, false_and, and_false, true_or, or_true, false_or, or_false, not_true_eq_false, not_false_eq_true, if_pos, if_neg, h2, h4, e6]
                simp only [tyT, hl, hm, oN, if_pos h8]
              · simp (disch := omega) only [Nat.add_zero, iN_lit, iN_lt, iN_le, iN_eq, iN_add, iN_mul, iN_sub, iN_nat, iN_div, iN_mod, iN_pred', n1_lt, n1_le, n1_ne, n1_ne', n1_nle, n1_nlt, n1_eq, oobN, some_lt, some_jn, bnd_some, Bool.false_eq_true, if_true, if_false, ite_true, ite_false, ↓reduceIte, ltT, ltF, leT, leF, eqT, eqF, true_and, and_true, false_and, and_false, true_or, or_true, false_or, or_false, not_true_eq_false, not_false_eq_true, if_pos, if_neg, h2, h4, e6]
                simp only [tyT, hl, hm, oN, if_neg h8]
            | some x =>
              have := i3 x hm
              simp only [oN]
              by_cases h7 : K i ≤ x
              · by_cases h8 : y ≤ K i
                · simp (disch := omega) only [Nat.add_zero, iN_lit, iN_lt, iN_le, iN_eq, iN_add, iN_mul, iN_sub, iN_nat, iN_div, iN_mod, iN_pred', n1_lt, n1_le, n1_ne, n1_ne', n1_nle, n1_nlt, n1_eq, oobN, some_lt, some_jn, bnd_some, Bool.false_eq_true, if_true, if_false, ite_true, ite_false, ↓reduceIte, ltT, ltF, leT, leF, eqT, eqF, true_and, and_true, false_and, and_false, true_or, or_true, false_or, or_false, not_true_eq_false, not_false_eq_true, if_pos, if_neg, h2, h4, e6]
                  simp only [tyT, hl, hm, oN, if_pos h7, if_pos h8]
                · simp (disch := omega) only [Nat.add_zero, iN_lit, iN_lt, iN_le, iN_eq, iN_add, iN_mul, iN_sub, iN_nat, iN_div, iN_mod, iN_pred', n1_lt, n1_le, n1_ne, n1_ne', n1_nle, n1_nlt, n1_eq, oobN, some_lt, some_jn, bnd_some, Bool.false_eq_true, if_true, if_false, ite_true, ite_false, ↓reduceIte, ltT, ltF, leT, leF, eqT, eqF, true_and, and_true, false_and, and_false, true_or, or_true, false_or, or_false, not_true_eq_false, not_false_eq_true, if_pos, if_neg, h2, h4, e6]
                  simp only [tyT, hl, hm, oN, if_pos h7, if_neg h8]
              · by_cases h8 : y ≤ K i
                · simp (disch := omega) only [Nat.add_zero, iN_lit, iN_lt, iN_le, iN_eq, iN_add, iN_mul, iN_sub, iN_nat, iN_div, iN_mod, iN_pred', n1_lt, n1_le, n1_ne, n1_ne', n1_nle, n1_nlt, n1_eq, oobN, some_lt, some_jn, bnd_some, Bool.false_eq_true, if_true, if_false, ite_true, ite_false, ↓reduceIte, ltT, ltF, leT, leF, eqT, eqF, true_and, and_true, false_and, and_false, true_or, or_true, false_or, or_false, not_true_eq_false, not_false_eq_true, if_pos, if_neg, h2, h4, e6]
                  simp only [tyT, hl, hm, oN, if_neg h7, if_pos h8]
                · simp (disch := omega) only [Nat.add_zero, iN_lit, iN_lt, iN_le, iN_eq, iN_add, iN_mul, iN_sub, iN_nat, iN_div, iN_mod, iN_pred', n1_lt, n1_le, n1_ne, n1_ne', n1_nle, n1_nlt, n1_eq, oobN, some_lt, some_jn, bnd_some, Bool.false_eq_true, if_true, if_false, ite_true, ite_false, ↓reduceIte, ltT, ltF, leT, leF, eqT, eqF, true_and, and_true, false_and, and_false, true_or, or_true, false_or, or_false, not_true_eq_false, not_false_eq_true, if_pos, if_neg, h2, h4, e6]
                  simp only [tyT, hl, hm, oN, if_neg h7, if_neg h8]
        · rw [if_neg (fun h : S i ≤ 1 ∧ lo ≤ K i ∧ K i < hi => h6 h.2)]
          rw [if_neg (by omega)] at e6
          simp (disch := omega) only [Nat.add_zero, iN_lit, iN_lt, iN_le, iN_eq, iN_add, iN_mul, iN_sub, iN_nat, iN_div, iN_mod, iN_pred', n1_lt, n1_le, n1_ne, n1_ne', n1_nle, n1_nlt, n1_eq, oobN, some_lt, some_jn, bnd_some, Bool.false_eq_true, if_true, if_false, ite_true, ite_false, ↓reduceIte, ltT, ltF, leT, leF, eqT, eqF, true_and, and_true, false_and, and_false, true_or, or_true, false_or, or_false, not_true_eq_false, not_false_eq_true, if_pos, if_neg, h2, e6]
      · rw [if_neg (fun h : S i ≤ 1 ∧ lo ≤ K i ∧ K i < hi => h5 h.1)]
        simp (disch := omega) only [Nat.add_zero, iN_lit, iN_lt, iN_le, iN_eq, iN_add, iN_mul, iN_sub, iN_nat, iN_div, iN_mod, iN_pred', n1_lt, n1_le, n1_ne, n1_ne', n1_nle, n1_nlt, n1_eq, oobN, some_lt, some_jn, bnd_some, Bool.false_eq_true, if_true, if_false, ite_true, ite_false, ↓reduceIte, ltT, ltF, leT, leF, eqT, eqF, true_and, and_true, false_and, and_false, true_or, or_true, false_or, or_false, not_true_eq_false, not_false_eq_true, if_pos, if_neg, h2]
    · show f_X8_scans_15 a _ _ _ (m + 1) (iN x.1) x.2.1 (oN x.2.2.1) (oN x.2.2.2) (iN n) = _
      rw [f_X8_scans_15.eq_2, h0]; simp (disch := omega) only [Nat.add_zero, iN_lit, iN_lt, iN_le, iN_eq, iN_add, iN_mul, iN_sub, iN_nat, iN_div, iN_mod, iN_pred', n1_lt, n1_le, n1_ne, n1_ne', n1_nle, n1_nlt, n1_eq, oobN, some_lt, some_jn, bnd_some, Bool.false_eq_true, if_true, if_false, ite_true, ite_false, ↓reduceIte, ltT, ltF, leT, leF, eqT, eqF, true_and, and_true, false_and, and_false, true_or, or_true, false_or, or_false, not_true_eq_false, not_false_eq_true, if_pos, if_neg]
  unfold f_X8_scans
  rw [some_jn, loop]
  unfold tyA
  match w, hw with
  | 0, _ => simp (disch := omega) only [Nat.add_zero, iN_lit, iN_lt, iN_le, iN_eq, iN_add, iN_mul, iN_sub, iN_nat, iN_div, iN_mod, iN_pred', n1_lt, n1_le, n1_ne, n1_ne', n1_nle, n1_nlt, n1_eq, oobN, some_lt, some_jn, bnd_some, Bool.false_eq_true, if_true, if_false, ite_true, ite_false, ↓reduceIte, ltT, ltF, leT, leF, eqT, eqF, true_and, and_true, false_and, and_false, true_or, or_true, false_or, or_false, not_true_eq_false, not_false_eq_true, if_pos, if_neg]
  | 1, _ => simp (disch := omega) only [Nat.add_zero, iN_lit, iN_lt, iN_le, iN_eq, iN_add, iN_mul, iN_sub, iN_nat, iN_div, iN_mod, iN_pred', n1_lt, n1_le, n1_ne, n1_ne', n1_nle, n1_nlt, n1_eq, oobN, some_lt, some_jn, bnd_some, Bool.false_eq_true, if_true, if_false, ite_true, ite_false, ↓reduceIte, ltT, ltF, leT, leF, eqT, eqF, true_and, and_true, false_and, and_false, true_or, or_true, false_or, or_false, not_true_eq_false, not_false_eq_true, if_pos, if_neg]
  | 2, _ => simp (disch := omega) only [Nat.add_zero, iN_lit, iN_lt, iN_le, iN_eq, iN_add, iN_mul, iN_sub, iN_nat, iN_div, iN_mod, iN_pred', n1_lt, n1_le, n1_ne, n1_ne', n1_nle, n1_nlt, n1_eq, oobN, some_lt, some_jn, bnd_some, Bool.false_eq_true, if_true, if_false, ite_true, ite_false, ↓reduceIte, ltT, ltF, leT, leF, eqT, eqF, true_and, and_true, false_and, and_false, true_or, or_true, false_or, or_false, not_true_eq_false, not_false_eq_true, if_pos, if_neg]
  | 3, _ => simp (disch := omega) only [Nat.add_zero, iN_lit, iN_lt, iN_le, iN_eq, iN_add, iN_mul, iN_sub, iN_nat, iN_div, iN_mod, iN_pred', n1_lt, n1_le, n1_ne, n1_ne', n1_nle, n1_nlt, n1_eq, oobN, some_lt, some_jn, bnd_some, Bool.false_eq_true, if_true, if_false, ite_true, ite_false, ↓reduceIte, ltT, ltF, leT, leF, eqT, eqF, true_and, and_true, false_and, and_false, true_or, or_true, false_or, or_false, not_true_eq_false, not_false_eq_true, if_pos, if_neg]
end RW
