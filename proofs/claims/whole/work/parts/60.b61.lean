section FLT
/-- an infinity, or a number of the format -/
def OKD (d : FP.Core.Datum) : Prop := (∃ s, d = .inf s) ∨ ∃ s c q, d = .fin s c q ∧ c < 16777216 ∧ q ≤ 104
theorem ff_settle {s : Bool} {c : Nat} {q : Int} : OKD (FP.Core.settle FP.Core.b32 s c q) := by
  have hq : FP.Core.b32.qmax = 104 := by decide
  unfold FP.Core.settle FP.Core.bound
  by_cases c1 : c < 2 ^ FP.Core.b32.p
  · rw [if_pos c1]
    by_cases c2 : q ≤ FP.Core.b32.qmax
    · rw [if_pos c2]
      exact Or.inr ⟨s, c, q, rfl, c1, by rw [hq] at c2; exact c2⟩
    · rw [if_neg c2]
      exact Or.inl ⟨s, rfl⟩
  · rw [if_neg c1]
    by_cases c2 : q + 1 ≤ FP.Core.b32.qmax
    · rw [if_pos c2]
      exact Or.inr ⟨s, FP.Core.b32.tails, q + 1, rfl, by decide, by rw [hq] at c2; exact c2⟩
    · rw [if_neg c2]
      exact Or.inl ⟨s, rfl⟩
theorem ff_ratio {s : Bool} {num den : Nat} {e : Int} : OKD (FP.Core.roundRatio FP.Core.b32 s num den e) := by
  unfold FP.Core.roundRatio
  by_cases c : num = 0
  · rw [if_pos c]
    exact Or.inr ⟨s, 0, FP.Core.b32.qmin, rfl, by decide, by decide⟩
  · rw [if_neg c]
    unfold FP.Core.roundAt
    exact ff_settle
theorem ff_enc {d : FP.Core.Datum} (h : OKD d) : FP.Core.encode FP.Core.b32 d % 2147483648 ≤ 2139095040 := by
  have ht : FP.Core.b32.tails = 8388608 := by decide
  have he : FP.Core.b32.exps = 256 := by decide
  have hm : FP.Core.b32.qmin = -149 := by decide
  rcases h with ⟨s, rfl⟩ | ⟨s, c, q, rfl, h1, h2⟩
  · show FP.Core.assemble FP.Core.b32 s (FP.Core.b32.exps - 1) 0 % 2147483648 ≤ 2139095040
    unfold FP.Core.assemble
    rw [ht, he]
    cases s <;> decide
  · show (if c < FP.Core.b32.tails then FP.Core.assemble FP.Core.b32 s 0 c else FP.Core.assemble FP.Core.b32 s ((q - FP.Core.b32.qmin).toNat + 1) (c - FP.Core.b32.tails)) % 2147483648 ≤ 2139095040
    unfold FP.Core.assemble
    simp only [ht, he, hm]
    have hs : s.toNat ≤ 1 := by cases s <;> decide
    split <;> omega
theorem ff_dec {n : Nat} (h : n % 2147483648 ≤ 2139095040) : FP.Core.decode FP.Core.b32 n ≠ .nan := by
  have ht : FP.Core.b32.tails = 8388608 := by decide
  have he : FP.Core.b32.exps = 256 := by decide
  unfold FP.Core.decode FP.Core.fieldE FP.Core.fieldT
  simp only [ht, he]
  intro hd
  by_cases c1 : n / 8388608 % 256 = 256 - 1
  · rw [if_pos c1] at hd
    by_cases c2 : n % 8388608 = 0
    · rw [if_pos c2] at hd
      cases hd
    · omega
  · rw [if_neg c1] at hd
    by_cases c2 : n / 8388608 % 256 = 0
    · rw [if_pos c2] at hd
      cases hd
    · rw [if_neg c2] at hd
      cases hd
theorem ff_and {n : Nat} (h : n % 2147483648 ≤ 2139095040) : UInt32.ofNat n &&& 0x7fffffff ≤ 0x7f800000 := by
  rw [UInt32.le_iff_toNat_le, UInt32.toNat_and, UInt32.toNat_ofNat']
  show n % 2 ^ 32 &&& 2 ^ 31 - 1 ≤ 2139095040
  rw [Nat.and_two_pow_sub_one_eq_mod]
  omega
theorem ff_i2f (x : Int32) : (FP.i2f x).toNat % 2147483648 ≤ 2139095040 := by
  have h := ff_enc (ff_ratio (s := decide (x.toInt < 0)) (num := x.toInt.natAbs) (den := 1) (e := 0))
  show (UInt32.ofNat (FP.Core.encode FP.Core.b32 (FP.Core.roundRatio FP.Core.b32 (decide (x.toInt < 0)) x.toInt.natAbs 1 0))).toNat % 2147483648 ≤ 2139095040
  rw [UInt32.toNat_ofNat']
  omega
def isFd (d : FP.Core.Datum) : Bool := match d with | .nan => false | .inf _ => false | .fin _ c _ => c != 0
theorem ff_den : ∀ m : Fin 121, m.1 ≠ 0 → isFd (FP.Core.decode FP.Core.b32 (FP.i2f (iN m.1)).toNat) = true := by decide +kernel
theorem ff_div {m : Nat} (x : Int32) (h1 : m ≠ 0) (h2 : m ≤ 120) : FP.fdiv (FP.i2f x) (FP.i2f (iN m)) &&& 0x7fffffff ≤ 0x7f800000 := by
  show UInt32.ofNat (FP.Core.encode FP.Core.b32 (FP.Core.quotient FP.Core.b32 (FP.Core.decode FP.Core.b32 (FP.i2f x).toNat) (FP.Core.decode FP.Core.b32 (FP.i2f (iN m)).toNat))) &&& 0x7fffffff ≤ 0x7f800000
  apply ff_and
  apply ff_enc
  have hx := ff_dec (ff_i2f x)
  have hy := ff_den ⟨m, by omega⟩ h1
  replace hy : isFd (FP.Core.decode FP.Core.b32 (FP.i2f (iN m)).toNat) = true := hy
  generalize FP.Core.decode FP.Core.b32 (FP.i2f x).toNat = dx at *
  generalize FP.Core.decode FP.Core.b32 (FP.i2f (iN m)).toNat = dy at *
  cases dy with
  | nan => exact absurd hy (by decide)
  | inf s => exact absurd hy (by decide +revert)
  | fin t d r =>
    have hd : d ≠ 0 := by
      intro e
      subst e
      exact absurd hy (by show ¬ ((0 : Nat) != 0) = true; decide)
    cases dx with
    | nan => exact absurd rfl hx
    | inf s => exact Or.inl ⟨_, rfl⟩
    | fin s c q =>
      show OKD (if d = 0 then (if c = 0 then FP.Core.Datum.nan else .inf (s != t)) else FP.Core.roundRatio FP.Core.b32 (s != t) c d (q - r))
      rw [if_neg hd]
      exact ff_ratio
end FLT
