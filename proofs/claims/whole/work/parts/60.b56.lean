section SM4
variable {N L len n : Nat} {bb mf ky ss vs en st bo he so se b : Nat → Int32} {T K W : Nat → Nat} {sz ea at' be ki nu wa : Int32} {V : Nat → Int32}
/-- what the two readers hold together -/
def TS (n : Nat) (K : Nat → Nat) (V : Nat → Int32) (W : Nat → Nat) (sz : Int32) (en bo he so st se ky ss vs b : Nat → Int32) : Prop :=
  TR n K V sz en bo he so st ky ss vs b ∧ (∀ u, u < 4 → se u = iN (W u)) ∧ (∀ u, u < 4 → b (4 + u) = iN (W u)) ∧ WOK W ∧ ∀ u, 1 ≤ u → u < 876 → ¬ (4 ≤ u ∧ u < 8) → ¬ (20 ≤ u ∧ u < 260) → b u = 0
/-- the reference's semicolon -/
def rTail (N : Nat) (L : Int32) (mf : Nat → Int32) (a be ki nu w wa : Int32) (b : Nat → Int32) : Option (Int32 × Int32 × Int32 × Int32 × Int32 × Int32 × (Nat → Int32)) :=
  bnd (f_X8_isSign L a ki w mf 59) (fun r => bnd6 (f_X8_must N L a be ki nu w wa mf r) (fun x1 x2 x3 x4 x5 x6 => some (x1, x2, x3, x4, x5, x6, b)))
theorem p_tail {j1 : Nat} {er1 ea1 a1 be1 ki1 nu1 wa1 : Int32} (h : TX len bb mf T) (hL : L ≤ len) (hN : 1000 < N) (hp : PS T L j1 er1 ea1 a1 be1 ki1 nu1 er1 wa1) :
    ∃ s j er' ea' a' be' ki' nu' wa', f_X5_takeSign N (iN len) bb (iN L) (iN j1) er1 ea1 900 59 1 = some (s, iN j, er', ea') ∧ rTail N (iN L) mf a1 be1 ki1 nu1 er1 wa1 b = some (a', be', ki', nu', er', wa', b) ∧ PS T L j er' ea' a' be' ki' nu' er' wa' ∧ (er' = 0 → er1 = 0 ∧ j1 < j ∧ ea' = ea1) := by
  obtain ⟨s, j, er', ea', s', a', be', ki', nu', wa', q1, q2, q3, q4, q5⟩ := p_must (c := 59) h hL hN (by omega) (by omega) (by omega) hp
  have g := runE_ge (qS T) L _ j1 rfl
  refine ⟨iN s, j, er', ea', a', be', ki', nu', wa', q1, ?_, q4, fun e => ⟨(q5 e).1, by have := (q5 e).2.1; omega, (q5 e).2.2⟩⟩
  have q2' : f_X8_isSign (iN L) a1 ki1 er1 mf 59 = some (iN s') := q2
  unfold rTail
  rw [q2', bnd_some, q3]
  rfl
/-- what a statement gives -/
def STM (N L len : Nat) (bb mf : Nat → Int32) (T : Nat → Nat) (p n : Nat) (sz ea at' be ki nu wa : Int32) (en bo he so st se ky ss vs b : Nat → Int32) : Prop :=
    ∃ j er' ea' n' K' V' W' sz' en' st' se' ky' ss' vs' a' be' ki' nu' wa' b', f_X5_readStatement N (iN len) bb (iN L) (iN p) 0 ea sz 1 bo en so st se (iN n) ky ss vs 900 = some (iN j, er', ea', sz', en', st', se', iN n', ky', ss', vs') ∧
      f_X8_readsStatement N (iN L) at' be ki nu 0 wa mf b = some (a', be', ki', nu', er', wa', b') ∧ PS T L j er' ea' a' be' ki' nu' er' wa' ∧ TS n' K' V' W' sz' en' bo he so st' se' ky' ss' vs' b' ∧ (er' = 0 → p < j ∧ ea' = ea)
theorem p_stRow {p : Nat} (h : TX len bb mf T) (hL : L ≤ len) (hN : 1000 < N) (hp : PS T L p 0 ea at' be ki nu 0 wa) (hpp : runE (qS T) L p = p) (hT : TS n K V W sz en bo he so st se ky ss vs b)
    (hk : tkE T L p = runE (qL T) L p) (x0 : f_X5_isWord N (iN len) bb (iN (runE (qL T) L p)) 900 (iN p) 0 = some (iN 1)) (y0 : f_X8_isWord N at' be ki 0 mf 0 = some (iN 1)) : STM N L len bb mf T p n sz ea at' be ki nu wa en bo he so st se ky ss vs b := by
  obtain ⟨t1, t2, t3, t4, t5⟩ := hT
  have hw : f_X5_skipWord N (iN len) bb (iN L) (iN p) 900 = some (iN (runE (qL T) L p)) := c_skipWord h hL hN hp.1
  have hE := (runE_ge (qL T) L _ p rfl).1
  have e1 : ¬ iN 1 = (0 : Int32) := by decide
  obtain ⟨j1, er1, ea1, n', K', V', sz', en', st', ky', ss', vs', a1, be1, ki1, nu1, wa1, b', q1, q2, q3, q4, q5, q6, q7⟩ := p_row h hL hN hp t1
  rw [hpp, hk] at q1 q6
  obtain ⟨s, j, er', ea', a', be', ki', nu', wa', v1, v2, v3, v4⟩ := p_tail (b := b') h hL hN q3
  refine ⟨j, er', ea', n', K', V', W, sz', en', st', se, ky', ss', vs', a', be', ki', nu', wa', b', ?_, ?_, v3, ⟨q4, t2, fun u hu => ?_, t4, fun u h1 h2 h3 h4 => ?_⟩, fun e => ?_⟩
  · unfold f_X5_readStatement
    rw [hw, bnd_some, x0, bnd_some, if_neg e1, q1]
    show bnd4 (f_X5_takeSign N (iN len) bb (iN L) (iN j1) er1 ea1 900 59 1) _ = _
    rw [v1]
    rfl
  · unfold f_X8_readsStatement
    rw [y0, bnd_some, if_neg e1, q2]
    exact v2
  · rw [q5 _ (by omega) (by omega)]; exact t3 u hu
  · rw [q5 u h1 (by omega)]; exact t5 u h1 h2 h3 h4
  · obtain ⟨w1, w2, w3⟩ := v4 e
    exact ⟨by omega, w3.trans (q7 w1)⟩
theorem p_stSet {p q : Nat} (hq : q < 4) (h : TX len bb mf T) (hL : L ≤ len) (hN : 1000 < N) (hp : PS T L p 0 ea at' be ki nu 0 wa) (hpp : runE (qS T) L p = p) (hT : TS n K V W sz en bo he so st se ky ss vs b)
    (hk : tkE T L p = runE (qL T) L p) (x0 : f_X5_isWord N (iN len) bb (iN (runE (qL T) L p)) 900 (iN p) 0 = some (iN 0)) (hs : f_X5_settingAt N (iN len) bb (iN (runE (qL T) L p)) 900 (iN p) = some (iN q))
    (yq : f_X8_readsStatement N (iN L) at' be ki nu 0 wa mf b = bnd7 (f_X8_readsSetting N (iN L) at' be ki nu 0 wa mf b (iN q)) (rTail N (iN L) mf)) : STM N L len bb mf T p n sz ea at' be ki nu wa en bo he so st se ky ss vs b := by
  obtain ⟨t1, t2, t3, t4, t5⟩ := hT
  have hw : f_X5_skipWord N (iN len) bb (iN L) (iN p) 900 = some (iN (runE (qL T) L p)) := c_skipWord h hL hN hp.1
  have hE := (runE_ge (qL T) L _ p rfl).1
  have e1 : iN 0 = (0 : Int32) := rfl
  obtain ⟨j1, er1, ea1, se', a1, be1, ki1, nu1, wa1, b', W', q1, q2, q3, q4, q5, q6, q7, q8, q9⟩ := p_setting h hL hN hq hp t2 t3 t4
  rw [hpp, hk] at q1 q8
  obtain ⟨s, j, er', ea', a', be', ki', nu', wa', v1, v2, v3, v4⟩ := p_tail (b := b') h hL hN q3
  obtain ⟨h1, h2, h3, h4, h5, h6, h7, h8⟩ := t1
  refine ⟨j, er', ea', n, K, V, W', sz, en, st, se', ky, ss, vs, a', be', ki', nu', wa', b', ?_, ?_, v3, ⟨⟨h1, h2, h3, h4, h5, (q7 0 (by omega)).trans h6, fun r hr => (q7 _ (by omega)).trans (h7 r hr), fun r hr => (q7 _ (by omega)).trans (h8 r hr)⟩, q4, q5, q6, fun u h1 h2 h3 h4 => (q7 u h3).trans (t5 u h1 h2 h3 h4)⟩, fun e => ?_⟩
  · unfold f_X5_readStatement
    rw [hw, bnd_some, x0, bnd_some, if_pos e1, c_readSetting hq hs, q1]
    show bnd4 (f_X5_takeSign N (iN len) bb (iN L) (iN j1) er1 ea1 900 59 1) _ = _
    rw [v1]
    rfl
  · rw [yq, q2]
    exact v2
  · obtain ⟨w1, w2, w3⟩ := v4 e
    exact ⟨by omega, w3.trans (q9 w1)⟩
theorem p_stNone {p : Nat} (h : TX len bb mf T) (hL : L ≤ len) (hN : 1000 < N) (hp : PS T L p 0 ea at' be ki nu 0 wa) (hpp : runE (qS T) L p = p) (hT : TS n K V W sz en bo he so st se ky ss vs b)
    (x0 : f_X5_isWord N (iN len) bb (iN (runE (qL T) L p)) 900 (iN p) 0 = some (iN 0)) (hs : f_X5_settingAt N (iN len) bb (iN (runE (qL T) L p)) 900 (iN p) = some (-1))
    (yq : f_X8_readsStatement N (iN L) at' be ki nu 0 wa mf b = bnd2 (f_X8_fails at' 0 wa (-2)) (fun w wa => rTail N (iN L) mf at' be ki nu w wa b)) : STM N L len bb mf T p n sz ea at' be ki nu wa en bo he so st se ky ss vs b := by
  have hw : f_X5_skipWord N (iN len) bb (iN L) (iN p) 900 = some (iN (runE (qL T) L p)) := c_skipWord h hL hN hp.1
  have hE := (runE_ge (qL T) L _ p rfl).2 hp.1
  have e1 : iN 0 = (0 : Int32) := rfl
  have ha : at' = iN p := by
    obtain ⟨_, _, hx⟩ := hp
    rcases hx with ⟨_, q, _⟩ | ⟨⟨hne, _⟩, _⟩
    · rw [q, hpp]
    · exact absurd rfl hne
  have hP : PS T L (runE (qL T) L p) (-2) (iN p) at' be ki nu (-2) at' := ⟨hE, rfl, Or.inr ⟨by decide, ha.symm⟩⟩
  obtain ⟨s, j, er', ea', a', be', ki', nu', wa', v1, v2, v3, v4⟩ := p_tail (b := b) h hL hN hP
  refine ⟨j, er', ea', n, K, V, W, sz, en, st, se, ky, ss, vs, a', be', ki', nu', wa', b, ?_, ?_, v3, hT, fun e => absurd (v4 e).1 (by decide)⟩
  · unfold f_X5_readStatement
    rw [hw, bnd_some, x0, bnd_some, if_pos e1, c_noSetting hs]
    show bnd4 (f_X5_takeSign N (iN len) bb (iN L) (iN (runE (qL T) L p)) (-2) (iN p) 900 59 1) _ = _
    rw [v1]
    rfl
  · rw [yq]
    unfold f_X8_fails
    rw [if_pos rfl]
    exact v2
end SM4
