section SM2
variable {N L len : Nat} {bb se : Nat → Int32} {ea : Int32}
theorem c_readSetting {p e q : Nat} (hq : q < 4) (hs : f_X5_settingAt N (iN len) bb (iN e) 900 (iN p) = some (iN q)) :
    f_X5_readSetting N (iN len) bb (iN L) (iN e) 0 ea se 900 (iN p) = bnd4 (f_X5_takeNumber N (iN len) bb (iN L) (iN e) 0 ea 900 (iN (setLo q)) (iN (setHi q))) (fun (r28_7 t_at_28_8 t_error_28_9 t_errorAt_28_10 : Int32) => (if t_error_28_9 = 0 then bnd (f_X2_putSetting se (iN q) r28_7) (fun p2_settings_44_12 => some (t_at_28_8, t_error_28_9, t_errorAt_28_10, p2_settings_44_12)) else some (t_at_28_8, t_error_28_9, t_errorAt_28_10, se))) := by
  obtain ⟨g1, g2, _, _⟩ := c_setRange (w := q) (by omega)
  have hn : ¬ iN q = (-1 : Int32) := by
    rcases (show q = 0 ∨ q = 1 ∨ q = 2 ∨ q = 3 by omega) with rfl | rfl | rfl | rfl <;> decide
  unfold f_X5_readSetting
  rw [hs, bnd_some, if_neg hn, g1, bnd_some, g2, bnd_some]
theorem c_noSetting {p e : Nat} (hs : f_X5_settingAt N (iN len) bb (iN e) 900 (iN p) = some (-1)) :
    f_X5_readSetting N (iN len) bb (iN L) (iN e) 0 ea se 900 (iN p) = some (iN e, -2, iN p, se) := by
  unfold f_X5_readSetting f_X5_fail
  rw [hs, bnd_some, if_pos rfl, if_pos rfl, bnd2_some]
end SM2
