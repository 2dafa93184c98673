section PRS
variable {N L len : Nat} {bb mf : Nat → Int32} {T : Nat → Nat} {er ea at' be ki nu w wa : Int32}
/-- where the two readers stand -/
def PS (T : Nat → Nat) (L i : Nat) (er ea a be ki nu w wa : Int32) : Prop :=
  i ≤ L ∧ er = w ∧ ((er = 0 ∧ a = iN (runE (qS T) L i) ∧ be = iN (tkE T L (runE (qS T) L i)) ∧ ki = iN (tkK T L (runE (qS T) L i)) ∧ (tkK T L (runE (qS T) L i) = 1 → nu = iN (rV T L (runE (qS T) L i)))) ∨ ((er ≠ 0 ∧ er < 0) ∧ ea = wa))
theorem tk_dig {p : Nat} : tkK T L p = 1 → runE (qG T) L p = tkE T L p ∧ runE (qG T) L p ≠ p ∧ p < L := by
  unfold tkK tkE
  by_cases c1 : L ≤ p
  · rw [if_pos c1]; intro h; omega
  · rw [if_neg c1, if_neg c1]
    cases h2 : qL T p with
    | true => rw [if_pos rfl]; intro h; omega
    | false =>
      cases h3 : qG T p with
      | false => simp only [Bool.false_eq_true, if_false]; intro h; omega
      | true =>
        simp only [Bool.false_eq_true, if_false, if_true]
        intro _
        refine ⟨trivial, ?_, by omega⟩
        rw [runE_step (i := p) (by omega) h3]
        have := (runE_ge (qG T) L _ (p + 1) rfl).1
        omega
theorem tk_ndig {p : Nat} : tkK T L p ≠ 1 → runE (qG T) L p = p := by
  unfold tkK
  by_cases c1 : L ≤ p
  · intro _; exact runE_end c1
  · rw [if_neg c1]
    cases h2 : qL T p with
    | true =>
      intro _
      have := qL_t.mp h2
      exact runE_stop (qG_not.mpr (by omega))
    | false =>
      rw [if_neg (by decide)]
      cases h3 : qG T p with
      | false => intro _; exact runE_stop h3
      | true => rw [if_pos rfl]; intro h; exact absurd rfl h
theorem tkK_le {p : Nat} : tkK T L p ≤ 3 := by
  unfold tkK
  split
  · omega
  · split
    · omega
    · split <;> omega
theorem tkE_le {p : Nat} (h : p ≤ L) : p ≤ tkE T L p ∧ tkE T L p ≤ L := by
  unfold tkE
  by_cases c1 : L ≤ p
  · rw [if_pos c1]; omega
  · rw [if_neg c1]
    split
    · have := runE_ge (qL T) L _ p rfl; omega
    · split
      · have := runE_ge (qG T) L _ p rfl; omega
      · omega
/-- the readers go on behind a token -/
theorem PS_next {j : Nat} {n0 ea wa : Int32} (h : TX len bb mf T) (hL : L ≤ len) (hN : 1000 < N) (hj : j ≤ L) : ∃ a be ki nu, f_X8_next N (iN L) (iN j) n0 mf = some (a, be, ki, nu) ∧ PS T L j 0 ea a be ki nu 0 wa :=
  ⟨_, _, _, _, r_next h hL hN hj, hj, rfl, Or.inl ⟨rfl, rfl, rfl, rfl, fun e => if_pos e⟩⟩
theorem p_takes {i lo hi : Nat} (h : TX len bb mf T) (hL : L ≤ len) (hN : 1000 < N) (hlo : lo ≤ 10000) (hhi : hi ≤ 10000) (hp : PS T L i er ea at' be ki nu w wa) :
    ∃ c j er' ea' r a' be' ki' nu' wa', f_X5_takeNumber N (iN len) bb (iN L) (iN i) er ea 900 (iN lo) (iN hi) = some (iN c, iN j, er', ea') ∧ f_X8_takes N (iN L) at' be ki nu w wa mf (iN lo) (iN hi) = some (r, a', be', ki', nu', er', wa') ∧ PS T L j er' ea' a' be' ki' nu' er' wa' ∧ (er' = 0 → er = 0 ∧ r = iN c ∧ lo ≤ c ∧ c ≤ hi ∧ ea' = ea) := by
  obtain ⟨hi', rfl, hc⟩ := hp
  have e1 := c_takeNumber (er := er) (ea := ea) h hL hN hi' hlo hhi
  have hpL := (runE_ge (qS T) L _ i rfl).2 hi'
  generalize runE (qS T) L i = p at *
  have hlen := h.1
  have heL := (runE_ge (qG T) L _ p rfl).2 hpL
  rcases hc with ⟨rfl, rfl, rfl, rfl, hnu⟩ | ⟨⟨hne, hng⟩, rfl⟩
  · by_cases hk : tkK T L p = 1
    · obtain ⟨k1, k2, k3⟩ := tk_dig hk
      have hnv := NV_V (T := T) (L := L) p
      have hr := hnu hk
      subst hr
      have hin := r_isIn (v := rV T L p) (lo := lo) (hi := hi) (by unfold NV at hnv; omega) (by omega) (by omega)
      by_cases hrange : lo ≤ cV T L p ∧ cV T L p ≤ hi
      · have hcr : cV T L p = rV T L p := by unfold NV at hnv; omega
        obtain ⟨a', be', ki', nu', n1, n2⟩ := PS_next (ea := ea) (wa := wa) (n0 := iN (rV T L p)) h hL hN (tkE_le (T := T) hpL).2
        refine ⟨cV T L p, tkE T L p, 0, ea, iN (rV T L p), a', be', ki', nu', wa, ?_, ?_, n2, fun _ => ⟨rfl, by rw [hcr], hrange.1, hrange.2, rfl⟩⟩
        · rw [e1]
          unfold tnP
          rw [if_neg k2, if_neg (show ¬ (cV T L p < lo ∨ hi < cV T L p) by omega), k1]
        · unfold f_X8_takes
          rw [if_pos (by rw [← hcr]; exact hrange)] at hin
          simp only [some_jn, if_true, hk, show ((iN 1 : Int32) = 1) = True from eq_true rfl, hin, bnd_some, show ((1 : Int32) = 0) = False from eq_false (by decide), if_false, n1, bnd4]
      · refine ⟨cV T L p, tkE T L p, -3, iN p, 0, iN p, iN (tkE T L p), iN (tkK T L p), iN (rV T L p), iN p, ?_, ?_, ⟨(tkE_le hpL).2, rfl, Or.inr ⟨by decide, rfl⟩⟩, fun e => absurd e (by decide)⟩
        · rw [e1]
          unfold tnP failP
          rw [if_neg k2, if_pos (show cV T L p < lo ∨ hi < cV T L p by omega), if_pos rfl, k1]
        · have hnr : ¬ (lo ≤ rV T L p ∧ rV T L p ≤ hi) := by unfold NV at hnv; omega
          unfold f_X8_takes f_X8_fails
          rw [if_neg hnr] at hin
          simp only [some_jn, if_true, hk, show ((iN 1 : Int32) = 1) = True from eq_true rfl, hin, bnd_some, bnd2, show ((-3 : Int32) = 0) = False from eq_false (by decide), if_false]
    · have k1 := tk_ndig hk
      have hk3 := tkK_le (T := T) (L := L) (p := p)
      have hk' : (iN (tkK T L p) = (1 : Int32)) = False := eq_false (by show ¬ _ = iN 1; rw [iN_eq (by omega) (by omega)]; exact hk)
      refine ⟨cV T L p, p, -2, iN p, 0, iN p, iN (tkE T L p), iN (tkK T L p), nu, iN p, ?_, ?_, ⟨hpL, rfl, Or.inr ⟨by decide, rfl⟩⟩, fun e => absurd e (by decide)⟩
      · rw [e1]
        unfold tnP failP
        rw [if_pos k1, if_pos rfl, k1]
      · unfold f_X8_takes f_X8_fails
        simp only [some_jn, if_true, hk', if_false, bnd2, show ((-2 : Int32) = 0) = False from eq_false (by decide)]
  · have e0 : (er = 0) = False := eq_false hne
    refine ⟨cV T L p, runE (qG T) L p, er, ea, 0, at', be, ki, nu, ea, ?_, ?_, ⟨heL, rfl, Or.inr ⟨⟨hne, hng⟩, rfl⟩⟩, fun e => absurd e hne⟩
    · rw [e1]
      unfold tnP failP
      simp only [e0, if_false, ite_self]
    · unfold f_X8_takes
      simp only [some_jn, e0, if_false]
end PRS
