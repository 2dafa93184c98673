section RDC
variable {N L len : Nat} {bb mf nu bo en he so st se ky ss vs fr : Nat → Int32} {T : Nat → Nat} {n0 wa : Int32}
theorem TS_zero {b se' : Nat → Int32} (h4 : b 4 = 3) (h5 : b 5 = 16) (h6 : b 6 = 12) (h7 : b 7 = 8) (hz : ∀ j, j < 876 → ¬ (4 ≤ j ∧ j < 8) → b j = 0) (hs : ∀ w, w < 4 → se' w = iN (W0 w)) :
    TS 0 (fun _ => 0) (fun _ => 0) W0 0 en (upd bo 0 0) (upd he 0 0) (upd so 0 0) (upd st 0 0) se' ky ss vs b := by
  have at1 : ∀ (f : Nat → Int32), At (upd f 0 0) 0 [0] := fun f i r hi => by
    rcases i with _ | i
    · simp at hi; subst hi; exact upd_self _ _ _
    · simp at hi
  refine ⟨⟨by omega, ⟨rfl, rfl, At.nil _ _, at1 bo, at1 he, at1 so, at1 st⟩, fun r hr => by omega, fun r hr => by omega, fun r hr => by omega, hz 0 (by omega) (by omega), fun r hr => by omega, fun r hr => by omega⟩, hs, fun u hu => ?_, by decide, fun u h1 h2 h3 h4 => hz u h2 h3⟩
  rcases (show u = 0 ∨ u = 1 ∨ u = 2 ∨ u = 3 by omega) with rfl | rfl | rfl | rfl
  · exact h4
  · exact h5
  · exact h6
  · exact h7
/-- a text read by both -/
theorem p_read (h : TX len bb mf T) (hL : L ≤ len) (hN : 1000 < N) :
    ∃ j er ea n K V W nu' sz' en' st' se' ky' ss' vs' b0 a0 be0 ki0 m0 a' be' ki' m' wa' b',
      f_X5_readColumn N (iN len) bb nu bo en he so st se ky ss vs 900 (iN L) = some (if er = 0 then iN n else er, iN L, iN j, er, ea, 0, 0, 0, nu', sz', 1, upd bo 0 0, en', upd he 0 0, upd so 0 0, st', 0, se', iN n, ky', ss', vs') ∧
      f_X8_begins N fr = some b0 ∧ f_X8_next N (iN L) 0 n0 mf = some (a0, be0, ki0, m0) ∧
      (∀ k, f_X8_load_58 N mf (iN L) k N a0 be0 ki0 m0 0 wa b0 = k a' be' ki' m' er wa' b') ∧ TS n K V W sz' en' (upd bo 0 0) (upd he 0 0) (upd so 0 0) st' se' ky' ss' vs' b' ∧ (er = 0 → ea = -1) ∧ (er ≠ 0 → er < 0 ∧ ea = wa') := by
  have hlen := h.1
  obtain ⟨nu', se0, c1, c2⟩ := c_clear (nu := nu) (bo := bo) (he := he) (so := so) (st := st) (se := se) hN
  obtain ⟨b0, g1, g4, g5, g6, g7, g8⟩ := r_begins (f := fr) hN
  obtain ⟨a0, be0, ki0, m0, n1, n2⟩ := PS_next (ea := -1) (wa := wa) (n0 := n0) (j := 0) h hL hN (by omega)
  have n1' : f_X8_next N (iN L) 0 n0 mf = some (a0, be0, ki0, m0) := n1
  have hsp : f_X5_skipSpaces N (iN len) bb (iN L) 0 900 = some (iN (runE (qS T) L 0)) := c_skipSpaces h hL hN (i := 0) (by omega)
  have hp0 := (runE_ge (qS T) L _ 0 rfl).2 (by omega)
  obtain ⟨j, er, ea, n, K, V, W, sz', en', st', se', ky', ss', vs', a', be', ki', m', wa', b', q1, q2, q3, q4, q5⟩ := p_loop h hL hN L L (runE (qS T) L 0) N N 0 _ _ _ _ _ _ _ _ _ _ _ (-1) a0 be0 ki0 m0 wa (by omega) (by omega) (Nat.le_refl _) (by omega) (by omega) (PS_sp n2) (runE_idem 0) (TS_zero (en := en) (bo := bo) (he := he) (so := so) (st := st) (ky := ky) (ss := ss) (vs := vs) g4 g5 g6 g7 g8 c2)
  refine ⟨j, er, ea, n, K, V, W, nu', sz', en', st', se', ky', ss', vs', b0, a0, be0, ki0, m0, a', be', ki', m', wa', b', ?_, g1, n1', q2, q3, q4, q5⟩
  unfold f_X5_readColumn
  rw [c1]
  simp only [bnd13, hsp, bnd_some, some_jn]
  refine (q1 _).trans ?_
  by_cases he0 : er = 0
  · simp only [he0, if_true]
  · simp only [he0, if_false]
end RDC
section TRC
variable {H N L len n : Nat} {nu bo en he so st kn pr se ky ss vs b : Nat → Int32} {sz : Int32} {K W : Nat → Nat} {V : Nat → Int32}
/-- the column that was read, against the reference's, laid -/
theorem TS_CR {a a' : Nat → Int32} (h : TS n K V W sz en (upd bo 0 0) (upd he 0 0) (upd so 0 0) st se ky ss vs b) (ha : ∀ j, j < 876 → a j = b j) (l1 : a' 1 = iN n) (l3 : a' 3 = 1) (l5 : a' 541 = iN n) (l4 : ∀ i, i < n → a' (380 + i) = iN i) (l6 : ∀ j, j ≠ 1 → j ≠ 3 → j ≠ 541 → ¬ (380 ≤ j ∧ j < 380 + n) → a' j = a j) :
    CRx H 0 0 0 nu sz 1 (upd bo 0 0) en (upd he 0 0) (upd so 0 0) st 0 kn pr se (iN n) ky ss vs a' := by
  obtain ⟨⟨t1, t2, t3, t4, t5, t6, t7, t8⟩, e2, e3, e4, e5⟩ := h
  have z : ∀ j, 1 ≤ j → j < 876 → ¬ (4 ≤ j ∧ j < 8) → ¬ (20 ≤ j ∧ j < 260) → j ≠ 1 → j ≠ 3 → j ≠ 541 → ¬ (380 ≤ j ∧ j < 380 + n) → a' j = 0 := fun j h1 h2 h3 h4 h5 h6 h7 h8 => by
    rw [l6 j h5 h6 h7 h8, ha j h2]; exact e5 j h1 h2 h3 h4
  have y : ∀ j, j < 876 → j ≠ 1 → j ≠ 3 → j ≠ 541 → ¬ (380 ≤ j ∧ j < 380 + n) → a' j = b j := fun j h1 h2 h3 h4 h5 => by
    rw [l6 j h2 h3 h4 h5]; exact ha j h1
  have hf : flat (P1 n) = List.range n := by show List.range n ++ [] = _; simp
  have hWb : ∀ w, w < 4 → W w ≤ 120 := fun w hw => by
    obtain ⟨w0, w1, w2, w3⟩ := e4
    rcases (show w = 0 ∨ w = 1 ∨ w = 2 ∨ w = 3 by omega) with rfl | rfl | rfl | rfl <;> omega
  refine ⟨n, K, fun _ => 0, V, P1 n, [], W, 0, ⟨⟨P1_SZ t1, ?_, ⟨?_, ?_⟩, ?_⟩, ⟨fun r => ?_, by simp, fun r => ?_, fun r hr => Nat.zero_le _⟩, by show 1 ≤ 60; omega, by show 0 + 0 ≤ H; omega, by simp, e4, by omega⟩, ⟨rfl, t2, rfl, At.nil _ _, fun w hw => ⟨e2 w hw, hWb w hw⟩, rfl, t3, fun r hr => ⟨t4 r hr, Nat.zero_le _⟩, t5⟩, ⟨⟨l3, ?_, ?_, ?_⟩, ?_, ⟨?_, At.nil _ _⟩, fun r hr => ⟨?_, (t3 r hr).2⟩, fun r hr => ⟨?_, Nat.zero_le _⟩, fun r hr => ?_, fun w hw => ⟨?_, hWb w hw⟩, ?_⟩, ⟨?_, ?_, Or.inl rfl, fun hg => absurd hg (by decide), fun j hj => by omega, fun i hi => by omega⟩⟩
  · intro X hX; simp at hX; subst hX; rfl
  · intro X hX r hr; simp at hX; subst hX; exact Nat.zero_le _
  · simp
  · rw [hf]; exact List.nodup_range
  · rw [hf]; simp
  · simp
  · rw [l1, hf, List.length_range]
  · rw [hf]
    intro i r hi
    have hi2 : i < n := by
      have := (List.getElem?_eq_some_iff.mp hi).1
      simpa using this
    rw [List.getElem?_range hi2] at hi
    cases hi
    exact l4 i hi2
  · intro i r hi
    rcases i with _ | _ | _ | _ | i
    · simp [enc] at hi; subst hi; exact z 540 (by omega) (by omega) (by omega) (by omega) (by omega) (by omega) (by omega) (by omega)
    · simp [enc] at hi; subst hi; exact l5
    · simp [enc] at hi; subst hi; exact z 542 (by omega) (by omega) (by omega) (by omega) (by omega) (by omega) (by omega) (by omega)
    · simp [enc] at hi; subst hi; exact z 543 (by omega) (by omega) (by omega) (by omega) (by omega) (by omega) (by omega) (by omega)
    · simp [enc] at hi
  · rw [y 0 (by omega) (by omega) (by omega) (by omega) (by omega)]; exact t6
  · exact z 2 (by omega) (by omega) (by omega) (by omega) (by omega) (by omega) (by omega) (by omega)
  · show a' (20 + r) = _
    rw [y _ (by omega) (by omega) (by omega) (by omega) (by omega)]; exact t7 r hr
  · exact z (260 + r) (by omega) (by omega) (by omega) (by omega) (by omega) (by omega) (by omega) (by omega)
  · show a' (140 + r) = _
    rw [y _ (by omega) (by omega) (by omega) (by omega) (by omega)]; exact t8 r hr
  · show a' (4 + w) = _
    rw [y _ (by omega) (by omega) (by omega) (by omega) (by omega)]; exact e3 w hw
  · exact z 19 (by omega) (by omega) (by omega) (by omega) (by omega) (by omega) (by omega) (by omega)
  · exact (z 8 (by omega) (by omega) (by omega) (by omega) (by omega) (by omega) (by omega) (by omega)).symm
  · exact (z 9 (by omega) (by omega) (by omega) (by omega) (by omega) (by omega) (by omega) (by omega)).symm
end TRC
