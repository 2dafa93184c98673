section TKN
variable {N L len : Nat} {bb mf : Nat → Int32} {T : Nat → Nat} {er ea : Int32}
def failP (er ea c p : Int32) : Int32 × Int32 := if er = 0 then (c, p) else (er, ea)
theorem c_fail {c p : Int32} : f_X5_fail er ea c p = some (failP er ea c p) := by
  unfold f_X5_fail failP
  split <;> rfl
def tnP (lo hi c e p : Nat) (er ea : Int32) : Int32 × Int32 := if e = p then failP er ea (-2) (iN p) else if c < lo ∨ hi < c then failP er ea (-3) (iN p) else (er, ea)
theorem cV_le (p : Nat) : cV T L p ≤ 1000000 := by
  have := NV_V (T := T) (L := L) p
  unfold NV at this
  omega
theorem c_takeNumber {i lo hi : Nat} (h : TX len bb mf T) (hL : L ≤ len) (hN : 1000 < N) (hi' : i ≤ L) (hlo : lo ≤ 10000) (hhi : hi ≤ 10000) :
    f_X5_takeNumber N (iN len) bb (iN L) (iN i) er ea 900 (iN lo) (iN hi) = some (iN (cV T L (runE (qS T) L i)), iN (runE (qG T) L (runE (qS T) L i)), tnP lo hi (cV T L (runE (qS T) L i)) (runE (qG T) L (runE (qS T) L i)) (runE (qS T) L i) er ea) := by
  have hlen := h.1
  unfold f_X5_takeNumber
  rw [c_skipSpaces h hL hN hi', bnd_some, some_jn]
  have hp := (runE_ge (qS T) L _ i rfl).2 hi'
  generalize runE (qS T) L i = p at *
  have he := (runE_ge (qG T) L _ p rfl).2 hp
  have := c_dg h hL (fun x4_80_3 t_at_80_4 => (if t_at_80_4 = iN p then bnd2 (f_X5_fail er ea (-2) (iN p)) (fun t_error_92_12 t_errorAt_92_13 => some (x4_80_3, t_at_80_4, t_error_92_12, t_errorAt_92_13)) else (if x4_80_3 < iN lo then bnd2 (f_X5_fail er ea (-3) (iN p)) (fun t_error_114_6 t_errorAt_114_7 => some (x4_80_3, t_at_80_4, t_error_114_6, t_errorAt_114_7)) else (if x4_80_3 ≤ iN hi then some (x4_80_3, t_at_80_4, er, ea) else bnd2 (f_X5_fail er ea (-3) (iN p)) (fun t_error_114_9 t_errorAt_114_10 => some (x4_80_3, t_at_80_4, t_error_114_9, t_errorAt_114_10)))))) N p 0 hp (by omega) (by omega)
  refine this.trans ?_
  have hc : cvF T (L - p) p 0 ≤ 1000000 := cV_le p
  show _ = some (iN (cvF T (L - p) p 0), iN (runE (qG T) L p), tnP lo hi (cvF T (L - p) p 0) (runE (qG T) L p) p er ea)
  generalize cvF T (L - p) p 0 = c at *
  generalize runE (qG T) L p = e at *
  unfold tnP
  have q1 : iN e = iN p ↔ e = p := by rw [iN_eq (by omega) (by omega)]
  have q2 : iN c < iN lo ↔ c < lo := iN_lt (by omega) (by omega)
  have q3 : iN c ≤ iN hi ↔ c ≤ hi := iN_le (by omega) (by omega)
  simp only [c_fail]
  by_cases c1 : e = p
  · rw [if_pos (q1.mpr c1), if_pos c1]; rfl
  · rw [if_neg (fun q => c1 (q1.mp q)), if_neg c1]
    by_cases c2 : c < lo
    · rw [if_pos (q2.mpr c2), if_pos (Or.inl c2)]; rfl
    · rw [if_neg (fun q => c2 (q2.mp q))]
      by_cases c3 : c ≤ hi
      · rw [if_pos (q3.mpr c3), if_neg (show ¬ (c < lo ∨ hi < c) by omega)]
      · rw [if_neg (fun q => c3 (q3.mp q)), if_pos (show c < lo ∨ hi < c by omega)]; rfl
theorem c_takeSign {i c o : Nat} (h : TX len bb mf T) (hL : L ≤ len) (hN : 1000 < N) (hi' : i ≤ L) (hc : c < 128) (ho : o ≤ 1) :
    f_X5_takeSign N (iN len) bb (iN L) (iN i) er ea 900 (iN c) (iN o) = some (if runE (qS T) L i < L ∧ T (runE (qS T) L i) = c then (1, iN (runE (qS T) L i + 1), er, ea) else (0, iN (runE (qS T) L i), if o = 0 then (er, ea) else failP er ea (-2) (iN (runE (qS T) L i)))) := by
  have hlen := h.1
  unfold f_X5_takeSign
  rw [c_skipSpaces h hL hN hi', bnd_some, some_jn]
  have hp := (runE_ge (qS T) L _ i rfl).2 hi'
  generalize runE (qS T) L i = p at *
  have tail : (if iN o = (0 : Int32) then some ((0 : Int32), iN p, er, ea) else bnd2 (f_X5_fail er ea (-2) (iN p)) (fun t_error_53_4 t_errorAt_53_5 => some (0, iN p, t_error_53_4, t_errorAt_53_5))) = some (0, iN p, if o = 0 then (er, ea) else failP er ea (-2) (iN p)) := by
    rcases (show o = 0 ∨ o = 1 by omega) with rfl | rfl
    · rw [if_pos (show iN 0 = (0 : Int32) from rfl), if_pos (show (0 : Nat) = 0 from rfl)]
    · rw [if_neg (show ¬ iN 1 = (0 : Int32) by decide), if_neg (show ¬ (1 : Nat) = 0 by omega), c_fail]; rfl
  rw [tail]
  by_cases c1 : L ≤ p
  · rw [if_pos ((iN_le (by omega) (by omega)).mpr c1), if_neg (show ¬ (p < L ∧ T p = c) by omega)]
  · obtain ⟨t1, t2, t3⟩ := h.2 p (by omega)
    rw [if_neg (fun q => c1 ((iN_le (by omega) (by omega)).mp q)), c_byteAt h (by omega), bnd_some]
    by_cases c2 : T p = c
    · rw [if_pos ((x_eq t3 t1 hc).mpr c2), if_pos (show p < L ∧ T p = c from ⟨by omega, c2⟩), some_lt, show iN p + 1 = iN (p + 1) from iN_add p 1]
    · rw [if_neg (fun q => c2 ((x_eq t3 t1 hc).mp q)), if_neg (show ¬ (p < L ∧ T p = c) from fun q => c2 q.2)]
end TKN
