section FLD
/-- an infinity, or a number of the greater format -/
def OKE (d : FP.Core.Datum) : Prop := (∃ s, d = .inf s) ∨ ∃ s c q, d = .fin s c q ∧ c < 9007199254740992 ∧ q ≤ 971
theorem fg_settle {s : Bool} {c : Nat} {q : Int} : OKE (FP.Core.settle FP.Core.b64 s c q) := by
  have hq : FP.Core.b64.qmax = 971 := by decide
  unfold FP.Core.settle FP.Core.bound
  by_cases c1 : c < 2 ^ FP.Core.b64.p
  · rw [if_pos c1]
    by_cases c2 : q ≤ FP.Core.b64.qmax
    · rw [if_pos c2]
      exact Or.inr ⟨s, c, q, rfl, c1, by rw [hq] at c2; exact c2⟩
    · rw [if_neg c2]
      exact Or.inl ⟨s, rfl⟩
  · rw [if_neg c1]
    by_cases c2 : q + 1 ≤ FP.Core.b64.qmax
    · rw [if_pos c2]
      exact Or.inr ⟨s, FP.Core.b64.tails, q + 1, rfl, by decide, by rw [hq] at c2; exact c2⟩
    · rw [if_neg c2]
      exact Or.inl ⟨s, rfl⟩
theorem fg_ratio {s : Bool} {num den : Nat} {e : Int} : OKE (FP.Core.roundRatio FP.Core.b64 s num den e) := by
  unfold FP.Core.roundRatio
  by_cases c : num = 0
  · rw [if_pos c]
    exact Or.inr ⟨s, 0, FP.Core.b64.qmin, rfl, by decide, by decide⟩
  · rw [if_neg c]
    unfold FP.Core.roundAt
    exact fg_settle
theorem fg_enc {d : FP.Core.Datum} (h : OKE d) : FP.Core.encode FP.Core.b64 d % 9223372036854775808 ≤ 9218868437227405312 := by
  have ht : FP.Core.b64.tails = 4503599627370496 := by decide
  have he : FP.Core.b64.exps = 2048 := by decide
  have hm : FP.Core.b64.qmin = -1074 := by decide
  rcases h with ⟨s, rfl⟩ | ⟨s, c, q, rfl, h1, h2⟩
  · show FP.Core.assemble FP.Core.b64 s (FP.Core.b64.exps - 1) 0 % 9223372036854775808 ≤ 9218868437227405312
    unfold FP.Core.assemble
    rw [ht, he]
    cases s <;> decide
  · show (if c < FP.Core.b64.tails then FP.Core.assemble FP.Core.b64 s 0 c else FP.Core.assemble FP.Core.b64 s ((q - FP.Core.b64.qmin).toNat + 1) (c - FP.Core.b64.tails)) % 9223372036854775808 ≤ 9218868437227405312
    unfold FP.Core.assemble
    simp only [ht, he, hm]
    have hs : s.toNat ≤ 1 := by cases s <;> decide
    split <;> omega
theorem fg_dec {n : Nat} (h : n % 9223372036854775808 ≤ 9218868437227405312) : FP.Core.decode FP.Core.b64 n ≠ .nan := by
  have ht : FP.Core.b64.tails = 4503599627370496 := by decide
  have he : FP.Core.b64.exps = 2048 := by decide
  unfold FP.Core.decode FP.Core.fieldE FP.Core.fieldT
  simp only [ht, he]
  intro hd
  by_cases c1 : n / 4503599627370496 % 2048 = 2048 - 1
  · rw [if_pos c1] at hd
    by_cases c2 : n % 4503599627370496 = 0
    · rw [if_pos c2] at hd
      cases hd
    · omega
  · rw [if_neg c1] at hd
    by_cases c2 : n / 4503599627370496 % 2048 = 0
    · rw [if_pos c2] at hd
      cases hd
    · rw [if_neg c2] at hd
      cases hd
theorem fg_and {n : Nat} (h : n % 9223372036854775808 ≤ 9218868437227405312) : vf_n64 (UInt64.ofNat n) := by
  unfold vf_n64
  rw [UInt64.le_iff_toNat_le, UInt64.toNat_and, UInt64.toNat_ofNat']
  show n % 2 ^ 64 &&& 2 ^ 63 - 1 ≤ 9218868437227405312
  rw [Nat.and_two_pow_sub_one_eq_mod]
  omega
theorem fg_n64 {a : UInt64} (h : vf_n64 a) : a.toNat % 9223372036854775808 ≤ 9218868437227405312 := by
  unfold vf_n64 at h
  rw [UInt64.le_iff_toNat_le, UInt64.toNat_and] at h
  replace h : a.toNat &&& 2 ^ 63 - 1 ≤ 9218868437227405312 := h
  rw [Nat.and_two_pow_sub_one_eq_mod] at h
  omega
theorem ff_n32 {a : UInt32} (h : a &&& 0x7fffffff ≤ 0x7f800000) : a.toNat % 2147483648 ≤ 2139095040 := by
  rw [UInt32.le_iff_toNat_le, UInt32.toNat_and] at h
  replace h : a.toNat &&& 2 ^ 31 - 1 ≤ 2139095040 := h
  rw [Nat.and_two_pow_sub_one_eq_mod] at h
  omega
/-- a float that is a number is a double that is a number -/
theorem fg_f2d {r : UInt32} (h : r &&& 0x7fffffff ≤ 0x7f800000) : vf_n64 (FP.f2d r) := by
  have h1 := ff_dec (ff_n32 h)
  have h2 : FP.Core.fIsNaN r = false := by
    show decide (FP.Core.decode FP.Core.b32 r.toNat = .nan) = false
    exact decide_eq_false h1
  unfold FP.f2d
  rw [h2, if_neg (by decide)]
  show vf_n64 (UInt64.ofNat (FP.Core.encode FP.Core.b64 (FP.Core.round FP.Core.b64 (FP.Core.decode FP.Core.b32 r.toNat))))
  apply fg_and
  apply fg_enc
  generalize FP.Core.decode FP.Core.b32 r.toNat = d at *
  cases d with
  | nan => exact absurd rfl h1
  | inf s => exact Or.inl ⟨s, rfl⟩
  | fin s c q => exact fg_ratio
theorem cmp_self (x : Int) : compare x x = Ordering.eq := by
  show compareOfLessAndEq x x = Ordering.eq
  unfold compareOfLessAndEq
  rw [if_neg (Int.lt_irrefl x), if_pos rfl]
theorem fg_self {r : UInt64} (h : vf_n64 r) : Op.cmpValue (FP.dcmp r r) .l = 0 := by
  have h1 := fg_dec (fg_n64 h)
  have h2 : FP.dcmp r r = some .eq := by
    show FP.Core.order (FP.Core.decode FP.Core.b64 r.toNat) (FP.Core.decode FP.Core.b64 r.toNat) = some .eq
    generalize FP.Core.decode FP.Core.b64 r.toNat = d at *
    cases d with
    | nan => exact absurd rfl h1
    | inf s =>
      show some (compare (FP.Core.signed s 1) (FP.Core.signed s 1)) = some .eq
      rw [cmp_self]
    | fin s c q =>
      show some (compare (FP.Core.signed s (FP.Core.inUnits c q (min q q))) (FP.Core.signed s (FP.Core.inUnits c q (min q q)))) = some .eq
      rw [cmp_self]
  rw [h2]
  rfl
end FLD
