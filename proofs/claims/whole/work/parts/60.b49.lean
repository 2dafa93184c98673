section SGN
variable {N L len : Nat} {bb mf : Nat → Int32} {T : Nat → Nat} {er ea at' be ki nu w wa : Int32}
theorem tk_sign {p : Nat} (hp : p < L) (h1 : ¬ (97 ≤ T p ∧ T p ≤ 122)) (h2 : ¬ (48 ≤ T p ∧ T p ≤ 57)) : tkK T L p = 2 ∧ tkE T L p = p + 1 := by
  unfold tkK tkE
  have a1 := qL_not.mpr h1
  have a2 := qG_not.mpr h2
  have a3 : ¬ L ≤ p := by omega
  simp only [a1, a2, a3, Bool.false_eq_true, if_false]
  exact ⟨trivial, trivial⟩
theorem tk_two {p : Nat} (h : tkK T L p = 2) : p < L ∧ tkE T L p = p + 1 := by
  unfold tkK at h
  unfold tkE
  by_cases c1 : L ≤ p
  · rw [if_pos c1] at h; omega
  · rw [if_neg c1] at h ⊢
    cases h2 : qL T p with
    | true => rw [h2, if_pos rfl] at h; omega
    | false =>
      rw [h2] at h
      cases h3 : qG T p with
      | true => rw [h3] at h; simp at h
      | false =>
        simp only [Bool.false_eq_true, if_false]
        exact ⟨by omega, trivial⟩
theorem runE_idem {q : Nat → Bool} (i : Nat) : runE q L (runE q L i) = runE q L i := by
  have : ∀ f i, L - i = f → runE q L (runE q L i) = runE q L i := by
    intro f
    induction f with
    | zero => intro i h; rw [runE_end (i := i) (by omega), runE_end (i := i) (by omega)]
    | succ f ih =>
      intro i h
      cases hq : q i with
      | false => rw [runE_stop hq, runE_stop hq]
      | true => rw [runE_step (i := i) (by omega) hq]; exact ih (i + 1) (by omega)
  exact this _ i rfl
/-- whether a sign stands here, in the reference -/
theorem r_isSign {i c : Nat} (h : TX len bb mf T) (hL : L ≤ len) (hc : c < 128) (h1 : ¬ (97 ≤ c ∧ c ≤ 122)) (h2 : ¬ (48 ≤ c ∧ c ≤ 57)) (hp : PS T L i er ea at' be ki nu w wa) :
    f_X8_isSign (iN L) at' ki w mf (iN c) = some (if er = 0 ∧ runE (qS T) L i < L ∧ T (runE (qS T) L i) = c then 1 else 0) := by
  obtain ⟨hi', rfl, hx⟩ := hp
  have hpL := (runE_ge (qS T) L _ i rfl).2 hi'
  generalize runE (qS T) L i = p at *
  have hlen := h.1
  unfold f_X8_isSign
  rcases hx with ⟨rfl, rfl, rfl, rfl, hnu⟩ | ⟨⟨hne, hng⟩, rfl⟩
  · rw [if_pos rfl]
    have hk3 := tkK_le (T := T) (L := L) (p := p)
    by_cases hk : tkK T L p = 2
    · have hpl := (tk_two hk).1
      have t1 := (h.2 p (by omega)).1
      rw [hk, if_pos (show iN 2 = (2 : Int32) from rfl), r_see h hL hpl, bnd_some]
      by_cases ht : T p = c
      · rw [if_pos (by rw [ht]), if_pos ⟨rfl, hpl, ht⟩]
      · rw [if_neg (fun q => ht (by rw [iN_eq (by omega) (by omega)] at q; exact q)), if_neg (fun q => ht q.2.2)]
    · have hk' : ¬ (iN (tkK T L p) = (2 : Int32)) := by show ¬ _ = iN 2; rw [iN_eq (by omega) (by omega)]; exact hk
      rw [if_neg hk', if_neg]
      rintro ⟨_, q1, q2⟩
      subst q2
      exact hk (tk_sign q1 h1 h2).1
  · rw [if_neg hne, if_neg (fun q => hne q.1)]
/-- a sign that may be missing -/
theorem p_may {i c : Nat} (h : TX len bb mf T) (hL : L ≤ len) (hN : 1000 < N) (hc : c < 128) (h1 : ¬ (97 ≤ c ∧ c ≤ 122)) (h2 : ¬ (48 ≤ c ∧ c ≤ 57)) (hp : PS T L i er ea at' be ki nu w wa) :
    ∃ s j, s ≤ 1 ∧ f_X5_takeSign N (iN len) bb (iN L) (iN i) er ea 900 (iN c) (iN 0) = some (iN s, iN j, er, ea) ∧ ∃ s', f_X8_isSign (iN L) at' ki w mf (iN c) = some (iN s') ∧ (er = 0 → s' = s) ∧ (s' = 0 ∨ er = 0) ∧
      ((s' = 0 ∧ PS T L j er ea at' be ki nu w wa) ∨ (s' = 1 ∧ ∃ a' be' ki' nu', f_X8_next N (iN L) be nu mf = some (a', be', ki', nu') ∧ PS T L j er ea a' be' ki' nu' w wa)) := by
  have e1 := c_takeSign (er := er) (ea := ea) (o := 0) h hL hN hp.1 hc (by omega)
  have e2 := r_isSign h hL hc h1 h2 hp
  obtain ⟨hi', rfl, hx⟩ := hp
  have hpL := (runE_ge (qS T) L _ i rfl).2 hi'
  have hpp : runE (qS T) L (runE (qS T) L i) = runE (qS T) L i := runE_idem i
  generalize runE (qS T) L i = p at *
  by_cases hs : p < L ∧ T p = c
  · rw [if_pos hs] at e1
    refine ⟨1, p + 1, by omega, e1, ?_⟩
    rcases hx with ⟨rfl, rfl, rfl, rfl, hnu⟩ | ⟨⟨hne, hng⟩, rfl⟩
    · rw [if_pos ⟨rfl, hs⟩] at e2
      obtain ⟨hk1, hk2⟩ := tk_sign (T := T) hs.1 (by rw [hs.2]; exact h1) (by rw [hs.2]; exact h2)
      obtain ⟨a', be', ki', nu', n1, n2⟩ := PS_next (ea := ea) (wa := wa) (n0 := nu) (j := p + 1) h hL hN (by omega)
      rw [hk2]
      exact ⟨1, e2, fun _ => rfl, Or.inr rfl, Or.inr ⟨rfl, a', be', ki', nu', n1, n2⟩⟩
    · rw [if_neg (fun q => hne q.1)] at e2
      exact ⟨0, e2, fun q => absurd q hne, Or.inl rfl, Or.inl ⟨rfl, by omega, rfl, Or.inr ⟨⟨hne, hng⟩, rfl⟩⟩⟩
  · rw [if_neg hs, if_pos rfl] at e1
    rw [if_neg (fun q => hs q.2)] at e2
    refine ⟨0, p, by omega, e1, 0, e2, fun _ => rfl, Or.inl rfl, Or.inl ⟨rfl, hpL, rfl, ?_⟩⟩
    rcases hx with ⟨q1, q2, q3, q4, q5⟩ | q
    · left
      rw [hpp]
      exact ⟨q1, q2, q3, q4, q5⟩
    · exact Or.inr q
theorem go_number {i j lo hi : Nat} {c er' ea' : Int32} (h : TX len bb mf T) (hL : L ≤ len) (hN : 1000 < N) (hi' : i ≤ L) (hlo : lo ≤ 10000) (hhi : hi ≤ 10000) (hj : j ≤ L) (e : f_X5_takeNumber N (iN len) bb (iN L) (iN i) er ea 900 (iN lo) (iN hi) = some (c, iN j, er', ea')) : i ≤ j := by
  rw [c_takeNumber h hL hN hi' hlo hhi] at e
  have hlen := h.1
  have h1 := runE_ge (qS T) L _ i rfl
  have h2 := runE_ge (qG T) L _ (runE (qS T) L i) rfl
  have h3 := h1.2 hi'
  have h4 := h2.2 h3
  have e1 : iN (runE (qG T) L (runE (qS T) L i)) = iN j := congrArg (fun q => q.2.1) (Option.some.inj e)
  rw [iN_eq (by omega) (by omega)] at e1
  omega
theorem go_sign {i j c o : Nat} {s er' ea' : Int32} (h : TX len bb mf T) (hL : L ≤ len) (hN : 1000 < N) (hi' : i ≤ L) (hc : c < 128) (ho : o ≤ 1) (hj : j ≤ L) (e : f_X5_takeSign N (iN len) bb (iN L) (iN i) er ea 900 (iN c) (iN o) = some (s, iN j, er', ea')) : i ≤ j := by
  rw [c_takeSign h hL hN hi' hc ho] at e
  have hlen := h.1
  have h1 := runE_ge (qS T) L _ i rfl
  have h3 := h1.2 hi'
  have e0 := Option.some.inj e
  by_cases q : runE (qS T) L i < L ∧ T (runE (qS T) L i) = c
  · rw [if_pos q] at e0
    have e1 : iN (runE (qS T) L i + 1) = iN j := congrArg (fun q => q.2.1) e0
    rw [iN_eq (by omega) (by omega)] at e1
    omega
  · rw [if_neg q] at e0
    have e1 : iN (runE (qS T) L i) = iN j := congrArg (fun q => q.2.1) e0
    rw [iN_eq (by omega) (by omega)] at e1
    omega
end SGN
