section SM6
variable {N L len : Nat} {bb mf bo he so : Nat → Int32} {T : Nat → Nat}
theorem PS_sp {er ea a be ki nu w wa : Int32} {j : Nat} (hp : PS T L j er ea a be ki nu w wa) : PS T L (runE (qS T) L j) er ea a be ki nu w wa := by
  obtain ⟨h1, h2, h3⟩ := hp
  refine ⟨(runE_ge (qS T) L _ j rfl).2 h1, h2, ?_⟩
  rw [runE_idem]
  exact h3
/-- the two loops over the statements -/
theorem p_loop (h : TX len bb mf T) (hL : L ≤ len) (hN : 1000 < N) :
    ∀ f x p m1 m2 n (K : Nat → Nat) (V : Nat → Int32) (W : Nat → Nat) (sz : Int32) (en st se ky ss vs b : Nat → Int32) (ea at' be ki nu wa : Int32), L - p ≤ f → L - p ≤ x → x ≤ L → x < m1 → L - p < m2 → PS T L p 0 ea at' be ki nu 0 wa → runE (qS T) L p = p → TS n K V W sz en bo he so st se ky ss vs b →
    ∃ j er' ea' n' K' V' W' sz' en' st' se' ky' ss' vs' a' be' ki' nu' wa' b',
      (∀ k, f_X5_readColumn_33 N (iN len) bb 900 (iN L) 1 bo so k m1 (iN x) (iN p) 0 ea sz en st se (iN n) ky ss vs = k (iN j) er' ea' sz' en' st' se' (iN n') ky' ss' vs') ∧
      (∀ k, f_X8_load_58 N mf (iN L) k m2 at' be ki nu 0 wa b = k a' be' ki' nu' er' wa' b') ∧ TS n' K' V' W' sz' en' bo he so st' se' ky' ss' vs' b' ∧ (er' = 0 → ea' = ea) ∧ (er' ≠ 0 → er' < 0 ∧ ea' = wa') := by
  have hlen := h.1
  intro f
  induction f with
  | zero =>
    intro x p m1 m2 n K V W sz en st se ky ss vs b ea at' be ki nu wa g1 g2 g3 g4 g5 hp hpp hT
    have hpL := hp.1
    have hpe : L ≤ p := by omega
    have hlp : iN L ≤ iN p := by rw [iN_le (by omega) (by omega)]; exact hpe
    obtain ⟨m1, rfl⟩ : ∃ m, m1 = m + 1 := ⟨m1 - 1, by omega⟩
    obtain ⟨m2, rfl⟩ : ∃ m, m2 = m + 1 := ⟨m2 - 1, by omega⟩
    have hki : ki = (3 : Int32) := by
      obtain ⟨_, _, hx⟩ := hp
      rcases hx with ⟨_, _, _, q, _⟩ | ⟨⟨hne, _⟩, _⟩
      · rw [q, hpp]; unfold tkK; rw [if_pos hpe]; rfl
      · exact absurd rfl hne
    refine ⟨p, 0, ea, n, K, V, W, sz, en, st, se, ky, ss, vs, at', be, ki, nu, wa, b, fun k => ?_, fun k => ?_, hT, fun _ => rfl, fun e => absurd rfl e⟩
    · rw [f_X5_readColumn_33.eq_2, if_pos hlp, ite_self]
    · rw [f_X8_load_58.eq_2, if_pos rfl, if_pos hki]
  | succ f ih =>
    intro x p m1 m2 n K V W sz en st se ky ss vs b ea at' be ki nu wa g1 g2 g3 g4 g5 hp hpp hT
    by_cases hpe : L ≤ p
    · exact ih x p m1 m2 n K V W sz en st se ky ss vs b ea at' be ki nu wa (by omega) g2 g3 g4 g5 hp hpp hT
    · obtain ⟨m1, rfl⟩ : ∃ m, m1 = m + 1 := ⟨m1 - 1, by omega⟩
      obtain ⟨m2, rfl⟩ : ∃ m, m2 = m + 1 := ⟨m2 - 1, by omega⟩
      have hki : ¬ ki = (3 : Int32) := by
        obtain ⟨_, _, hx⟩ := hp
        rcases hx with ⟨_, _, _, q, _⟩ | ⟨⟨hne, _⟩, _⟩
        · rw [q, hpp]
          show ¬ _ = iN 3
          have hk3 := tkK_le (T := T) (L := L) (p := p)
          rw [iN_eq (by omega) (by omega)]
          unfold tkK
          rw [if_neg hpe]
          split
          · omega
          · split <;> omega
        · exact absurd rfl hne
      obtain ⟨j, er', ea', n', K', V', W', sz', en', st', se', ky', ss', vs', a', be', ki', nu', wa', b', q1, q2, q3, q4, q5⟩ := p_statement h hL hN hp hpp hT
      have hjL := (runE_ge (qS T) L _ j rfl)
      have hj1 := q3.1
      have hx0 : ¬ iN x ≤ (0 : Int32) := by show ¬ _ ≤ iN 0; rw [iN_le (by omega) (by omega)]; omega
      have hLp : ¬ iN L ≤ iN p := by rw [iN_le (by omega) (by omega)]; omega
      have step1 : ∀ k, f_X5_readColumn_33 N (iN len) bb 900 (iN L) 1 bo so k (m1 + 1) (iN x) (iN p) 0 ea sz en st se (iN n) ky ss vs = f_X5_readColumn_33 N (iN len) bb 900 (iN L) 1 bo so k m1 (iN (x - 1)) (iN (runE (qS T) L j)) er' ea' sz' en' st' se' (iN n') ky' ss' vs' := fun k => by
        rw [f_X5_readColumn_33.eq_2, if_neg hx0, if_neg hLp, if_pos rfl, q1]
        show bnd (f_X5_skipSpaces N (iN len) bb (iN L) (iN j) 900) _ = _
        rw [c_skipSpaces h hL hN hj1, bnd_some, iN_pred (by omega), some_lt]
      have step2 : ∀ k, f_X8_load_58 N mf (iN L) k (m2 + 1) at' be ki nu 0 wa b = f_X8_load_58 N mf (iN L) k m2 a' be' ki' nu' er' wa' b' := fun k => by
        rw [f_X8_load_58.eq_2, if_pos rfl, if_neg hki, q2]
        rfl
      by_cases he : er' = 0
      · subst he
        obtain ⟨u1, u2⟩ := q5 rfl
        obtain ⟨j2, er2, ea2, n2, K2, V2, W2, sz2, en2, st2, se2, ky2, ss2, vs2, a2, be2, ki2, nu2, wa2, b2, v1, v2, v3, v4, v5⟩ := ih (x - 1) (runE (qS T) L j) m1 m2 n' K' V' W' sz' en' st' se' ky' ss' vs' b' ea' a' be' ki' nu' wa' (by omega) (by omega) (by omega) (by omega) (by omega) (PS_sp q3) (runE_idem j) q4
        exact ⟨j2, er2, ea2, n2, K2, V2, W2, sz2, en2, st2, se2, ky2, ss2, vs2, a2, be2, ki2, nu2, wa2, b2, fun k => (step1 k).trans (v1 k), fun k => (step2 k).trans (v2 k), v3, fun e => (v4 e).trans u2, v5⟩
      · obtain ⟨m1, rfl⟩ : ∃ m, m1 = m + 1 := ⟨m1 - 1, by omega⟩
        obtain ⟨m2, rfl⟩ : ∃ m, m2 = m + 1 := ⟨m2 - 1, by omega⟩
        refine ⟨runE (qS T) L j, er', ea', n', K', V', W', sz', en', st', se', ky', ss', vs', a', be', ki', nu', wa', b', fun k => (step1 k).trans ?_, fun k => (step2 k).trans ?_, q4, fun e => absurd e he, fun _ => ?_⟩
        · rw [f_X5_readColumn_33.eq_2, if_neg he, ite_self, ite_self]
        · rw [f_X8_load_58.eq_2, if_neg he]
        · obtain ⟨_, _, hx⟩ := q3
          rcases hx with ⟨q, _⟩ | ⟨⟨_, hng⟩, q⟩
          · exact absurd q he
          · exact ⟨hng, q⟩
end SM6
