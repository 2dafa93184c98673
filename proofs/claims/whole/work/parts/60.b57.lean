section SM5
variable {N L len n : Nat} {bb mf ky ss vs en st bo he so se b : Nat → Int32} {T K W : Nat → Nat} {sz ea at' be ki nu wa : Int32} {V : Nat → Int32}
/-- a statement, on both sides -/
theorem p_statement {p : Nat} (h : TX len bb mf T) (hL : L ≤ len) (hN : 1000 < N) (hp : PS T L p 0 ea at' be ki nu 0 wa) (hpp : runE (qS T) L p = p) (hT : TS n K V W sz en bo he so st se ky ss vs b) :
    STM N L len bb mf T p n sz ea at' be ki nu wa en bo he so st se ky ss vs b := by
  obtain ⟨r0, b0, x0, y0, k0⟩ := p_word (w := 0) h hL hN (by omega) hp hpp
  obtain ⟨r1, b1, x1, y1, k1⟩ := p_word (w := 1) h hL hN (by omega) hp hpp
  obtain ⟨r2, b2, x2, y2, k2⟩ := p_word (w := 2) h hL hN (by omega) hp hpp
  obtain ⟨r3, b3, x3, y3, k3⟩ := p_word (w := 3) h hL hN (by omega) hp hpp
  obtain ⟨r4, b4, x4, y4, k4⟩ := p_word (w := 4) h hL hN (by omega) hp hpp
  have hs := c_settingAt x1 x2 x3 x4 b1 b2 b3 b4
  have e0 : iN 0 = (0 : Int32) := rfl
  have e1 : ¬ iN 1 = (0 : Int32) := by decide
  have n01 : ¬ (0 : Nat) = 1 := by omega
  rcases b0 with rfl | rfl
  · rcases b1 with rfl | rfl
    · rcases b2 with rfl | rfl
      · rcases b3 with rfl | rfl
        · rcases b4 with rfl | rfl
          · refine p_stNone h hL hN hp hpp hT x0 (hs.trans ?_) ?_
            · rw [if_neg n01, if_neg n01, if_neg n01, if_neg n01]
            · unfold f_X8_readsStatement
              rw [y0, bnd_some, if_pos e0, y1, bnd_some, if_pos e0, y2, bnd_some, if_pos e0, y3, bnd_some, if_pos e0, y4, bnd_some, if_pos e0]
              rfl
          · refine p_stSet (q := 3) (by omega) h hL hN hp hpp hT (k4 rfl) x0 (hs.trans ?_) ?_
            · rw [if_neg n01, if_neg n01, if_neg n01, if_pos rfl]
            · unfold f_X8_readsStatement
              rw [y0, bnd_some, if_pos e0, y1, bnd_some, if_pos e0, y2, bnd_some, if_pos e0, y3, bnd_some, if_pos e0, y4, bnd_some, if_neg e1]
              rfl
        · refine p_stSet (q := 2) (by omega) h hL hN hp hpp hT (k3 rfl) x0 (hs.trans ?_) ?_
          · rw [if_neg n01, if_neg n01, if_pos rfl]
          · unfold f_X8_readsStatement
            rw [y0, bnd_some, if_pos e0, y1, bnd_some, if_pos e0, y2, bnd_some, if_pos e0, y3, bnd_some, if_neg e1]
            rfl
      · refine p_stSet (q := 1) (by omega) h hL hN hp hpp hT (k2 rfl) x0 (hs.trans ?_) ?_
        · rw [if_neg n01, if_pos rfl]
        · unfold f_X8_readsStatement
          rw [y0, bnd_some, if_pos e0, y1, bnd_some, if_pos e0, y2, bnd_some, if_neg e1]
          rfl
    · refine p_stSet (q := 0) (by omega) h hL hN hp hpp hT (k1 rfl) x0 (hs.trans ?_) ?_
      · rw [if_pos rfl]
      · unfold f_X8_readsStatement
        rw [y0, bnd_some, if_pos e0, y1, bnd_some, if_neg e1]
        rfl
  · exact p_stRow h hL hN hp hpp hT (k0 rfl) x0 y0
end SM5
