/-- a number from 0 on as an int -/
def iN (n : Nat) : Int32 := Int32.ofNat n
theorem iN_toInt {a : Nat} (h : a < 2147483648) : (iN a).toInt = a := by
  unfold iN; exact Int32.toInt_ofNat_of_lt h
theorem iN_lt {a b : Nat} (ha : a < 2147483648) (hb : b < 2147483648) : iN a < iN b ↔ a < b := by
  rw [Int32.lt_iff_toInt_lt, iN_toInt ha, iN_toInt hb]; omega
theorem iN_le {a b : Nat} (ha : a < 2147483648) (hb : b < 2147483648) : iN a ≤ iN b ↔ a ≤ b := by
  rw [Int32.le_iff_toInt_le, iN_toInt ha, iN_toInt hb]; omega
theorem iN_eq {a b : Nat} (ha : a < 2147483648) (hb : b < 2147483648) : iN a = iN b ↔ a = b := by
  rw [← Int32.toInt_inj, iN_toInt ha, iN_toInt hb]; omega
theorem iN_add (a b : Nat) : iN a + iN b = iN (a + b) := by unfold iN; simp
theorem iN_mul (a b : Nat) : iN a * iN b = iN (a * b) := by unfold iN; simp
theorem iN_sub {a b : Nat} (h : b ≤ a) : iN a - iN b = iN (a - b) := by
  unfold iN; rw [Int32.ofNat_sub _ _ h]
theorem iN_nat {a : Nat} (ha : a < 2147483648) : (iN a).toNatClampNeg = a := by
  unfold Int32.toNatClampNeg; rw [iN_toInt ha]; rfl
theorem iN_div {a b : Nat} (ha : a < 2147483648) (hb : b < 2147483648) : iN a / iN b = iN (a / b) := by
  rw [← Int32.toInt_inj, Int32.toInt_div, iN_toInt ha, iN_toInt hb, iN_toInt (Nat.lt_of_le_of_lt (Nat.div_le_self a b) ha)]
  rw [← Int.ofNat_tdiv]
  have h1 : a / b < 2147483648 := Nat.lt_of_le_of_lt (Nat.div_le_self a b) ha
  generalize a / b = q at h1 ⊢
  exact Int.bmod_eq_of_le (by omega) (by omega)
theorem iN_mod {a b : Nat} (ha : a < 2147483648) (hb : b < 2147483648) : iN a % iN b = iN (a % b) := by
  rw [← Int32.toInt_inj, Int32.toInt_mod, iN_toInt ha, iN_toInt hb, iN_toInt (Nat.lt_of_le_of_lt (Nat.mod_le a b) ha)]
  rw [← Int.ofNat_tmod]
theorem iN_lit (n : Nat) : (OfNat.ofNat n : Int32) = iN (OfNat.ofNat n) := rfl
theorem iN_nneg {a : Nat} (ha : a < 2147483648) : ¬ iN a < iN 0 := by rw [iN_lt ha (by omega)]; omega
theorem iN_pred {a : Nat} (h : 0 < a) : iN a + (-1) = iN (a - 1) := by
  rw [← iN_sub (show 1 ≤ a from h)]; show iN a + (-1) = iN a - 1; exact (Int32.sub_eq_add_neg _ _).symm
theorem m1_lt {a : Nat} (ha : a < 2147483648) : (-1 : Int32) < iN a := by
  rw [Int32.lt_iff_toInt_lt, iN_toInt ha]; exact Int.lt_of_lt_of_le (by decide) (Int.natCast_nonneg a)
theorem m1_ne {a : Nat} (ha : a < 2147483648) : iN a ≠ -1 := by
  intro h; have h1 := m1_lt ha; rw [h] at h1; exact absurd h1 (by decide)
theorem m1_ne' {a : Nat} (ha : a < 2147483648) : (-1 : Int32) ≠ iN a := (m1_ne ha).symm
theorem m1_le {a : Nat} (ha : a < 2147483648) : ¬ iN a ≤ -1 := by
  intro h; have := Int32.le_trans h (Int32.le_of_lt (m1_lt ha)); have h2 := Int32.le_iff_toInt_le.mp h; rw [iN_toInt ha] at h2
  exact absurd h2 (by have : (-1 : Int32).toInt = -1 := rfl; rw [this]; omega)
theorem not_lt_m1 {a : Nat} (ha : a < 2147483648) : ¬ iN a < -1 := fun h => m1_le ha (Int32.le_of_lt h)
theorem oobN {a n : Nat} (ha : a < 2147483648) : oob (iN a) n ↔ n ≤ a := by
  unfold oob; rw [iN_nat ha, show (0 : Int32) = iN 0 from rfl, iN_lt ha (by omega)]; omega
/-- the loop rule -/
theorem lpM {σ ρ : Type} (F : Nat → σ → Option ρ) (μ : σ → Nat) (I : σ → Prop) (Q : Option ρ → Prop)
    (hs : ∀ n x, I x → (∃ y, I y ∧ μ y < μ x ∧ F (n + 1) x = F n y) ∨ Q (F (n + 1) x)) : ∀ n x, I x → μ x < n → Q (F n x) := by
  intro n
  induction n with
  | zero => intro x _ h; omega
  | succ n ih =>
    intro x hx hn
    rcases hs n x hx with ⟨y, hy, hm, he⟩ | h
    · rw [he]; exact ih y hy (by omega)
    · exact h
/-- a list of numbers stands in an array from o on -/
def At (f : Nat → Int32) (o : Nat) (l : List Nat) : Prop := ∀ i r, l[i]? = some r → f (o + i) = iN r
theorem At.nil (f : Nat → Int32) (o : Nat) : At f o [] := fun i r h => by simp at h
theorem At.append {f : Nat → Int32} {o : Nat} {l1 l2 : List Nat} : At f o (l1 ++ l2) ↔ At f o l1 ∧ At f (o + l1.length) l2 := by
  constructor
  · intro h
    refine ⟨fun i r hi => h i r ?_, fun i r hi => ?_⟩
    · have hl := (List.getElem?_eq_some_iff.mp hi).1
      rw [List.getElem?_append_left hl]; exact hi
    · have := h (l1.length + i) r (by rw [List.getElem?_append_right (by omega)]; simpa using hi)
      rw [← this]; congr 1; omega
  · rintro ⟨h1, h2⟩ i r hi
    by_cases hl : i < l1.length
    · exact h1 i r (by rwa [List.getElem?_append_left hl] at hi)
    · rw [List.getElem?_append_right (by omega)] at hi
      have := h2 _ r hi
      rw [← this]; congr 1; omega
theorem At.cons {f : Nat → Int32} {o : Nat} {x : Nat} {l : List Nat} : At f o (x :: l) ↔ f o = iN x ∧ At f (o + 1) l := by
  rw [show x :: l = [x] ++ l from rfl, At.append]
  constructor
  · rintro ⟨h1, h2⟩; exact ⟨by simpa using h1 0 x rfl, by simpa using h2⟩
  · rintro ⟨h1, h2⟩
    refine ⟨fun i r h => ?_, by simpa using h2⟩
    match i with
    | 0 => simp at h; subst h; simpa using h1
    | i + 1 => simp at h
theorem At.congr {f g : Nat → Int32} {o : Nat} {l : List Nat} (h : ∀ j, o ≤ j → j < o + l.length → g j = f j) (hf : At f o l) : At g o l := fun i r hi => by
  have hl := (List.getElem?_eq_some_iff.mp hi).1
  rw [h (o + i) (by omega) (by omega)]; exact hf i r hi
theorem At.get {f : Nat → Int32} {o : Nat} {l : List Nat} (h : At f o l) {i : Nat} (hi : i < l.length) : f (o + i) = iN l[i] := h i _ (List.getElem?_eq_getElem hi)
theorem At.get0 {f : Nat → Int32} {l : List Nat} (h : At f 0 l) {i : Nat} (hi : i < l.length) : f i = iN l[i] := by simpa using h.get hi
theorem upd_self (f : Nat → Int32) (k : Nat) (v : Int32) : upd f k v k = v := by simp [upd]
theorem upd_ne {f : Nat → Int32} {k j : Nat} {v : Int32} (h : j ≠ k) : upd f k v j = f j := by simp [upd, h]
theorem bnd_some {α ρ : Type} (a : α) (k : α → Option ρ) : bnd (some a) k = k a := rfl

theorem iN_pred' {a : Nat} (h : 0 < a) : iN a + -iN 1 = iN (a - 1) := iN_pred h
theorem n1_lt {a : Nat} (ha : a < 2147483648) : (-iN 1 < iN a) = True := eq_true (m1_lt ha)
theorem n1_le {a : Nat} (ha : a < 2147483648) : (-iN 1 ≤ iN a) = True := eq_true (Int32.le_of_lt (m1_lt ha))
theorem n1_ne {a : Nat} (ha : a < 2147483648) : (iN a = -iN 1) = False := eq_false (m1_ne ha)
theorem n1_ne' {a : Nat} (ha : a < 2147483648) : (-iN 1 = iN a) = False := eq_false (m1_ne' ha)
theorem n1_nle {a : Nat} (ha : a < 2147483648) : (iN a ≤ -iN 1) = False := eq_false (m1_le ha)
theorem n1_nlt {a : Nat} (ha : a < 2147483648) : (iN a < -iN 1) = False := eq_false (not_lt_m1 ha)
theorem n1_eq : (-iN 1 = -iN 1) = True := eq_true rfl
theorem some_lt {α β : Type} (a : α) (k : α → β) : lt a k = k a := rfl
theorem some_jn {κ ρ : Type} (g : κ → Option ρ) (k : κ) : jn g k = g k := rfl
theorem ltT {a b : Nat} (h : a < b) : (a < b) = True := eq_true h
theorem ltF {a b : Nat} (h : ¬ a < b) : (a < b) = False := eq_false h
theorem leT {a b : Nat} (h : a ≤ b) : (a ≤ b) = True := eq_true h
theorem leF {a b : Nat} (h : ¬ a ≤ b) : (a ≤ b) = False := eq_false h
theorem eqT {a b : Nat} (h : a = b) : (a = b) = True := eq_true h
theorem eqF {a b : Nat} (h : ¬ a = b) : (a = b) = False := eq_false h
theorem getD_get {L : List Nat} {i : Nat} (h : i < L.length) : L.getD i 0 = L[i] := by simp [List.getD, h]


theorem i00 : (iN 0 = 0) = True := eq_true rfl
theorem i10 : (iN 1 = 0) = False := eq_false (by decide)
theorem i00' : (iN 0 = iN 0) = True := eq_true rfl
theorem i10' : (iN 1 = iN 0) = False := eq_false (by decide)
