section LOOP
variable {p : Program} {l : Launch} {e : Env} {s : State} {m : MethodId} {below : List Frame} {meth : Method} {c : Code} {D : va_G} {t : Nat → ClassId} {z : Nat} {x : Nat → Nat} {b L : Nat} {xs : Nat → Int32} {H : Heap} {locs : List Loc} {cells slots : Nat} {Q : State → Prop} {ls : Array Slot} {g ta : Nat → Nat} {S_ca : Nat → Nat} {S_cur : CS} {S_tr : CS} {S_adr : Nat → Nat → Nat} {S_sav : Nat → CS} {S_sc : Int32} {S_ea : Int32} {S_bl : Int32} {S_bb : Nat → Int32} {S_rl : Int32} {S_ra : Int32} {S_re : Int32} {S_rea : Int32} {S_wl : Int32} {S_wb : Nat → Int32} {S_tg : Int32} {S_tn : Nat → Int32} {M_keptMany : Int32} {M_thrown : Int32} {M_buffered : Int32} {M_size : Int32} {M_at_ : Int32} {M_behind : Int32} {M_kind : Int32} {M_number : Int32} {M_wrong : Int32} {M_wrongAt : Int32} {M_errorAt : Int32} {M_unused : Int32} {M_writtenMany : Int32} {M_a_ : Nat → Int32} {M_fresh_ : Nat → Int32} {M_aside_ : Nat → Int32} {M_kept_ : Nat → Int32} {M_buffer_ : Nat → Int32} {M_moved_ : Nat → Int32} {M_written_ : Nat → Int32} {fo : Nat → Int64} {fd : Nat → UInt64} {i Hh : Nat}
theorem lx_and31 (x : Int32) : ∃ k : Nat, k < 32 ∧ x &&& 31 = nI k := by
  refine ⟨x.toBitVec.toNat % 32, by omega, ?_⟩
  rw [← Int32.toInt_inj, nI_toInt (by omega)]
  show (x &&& 31).toBitVec.toInt = _
  rw [Int32.toBitVec_and, BitVec.toInt_eq_toNat_cond, BitVec.toNat_and]
  have e : (31 : Int32).toBitVec.toNat = 2 ^ 5 - 1 := by decide
  rw [e, Nat.and_two_pow_sub_one_eq_mod, if_pos (by omega)]
theorem hw_at {i L j : Nat} {J : Int32} (hJ : J = nI j) (h : i + j < L) (hL : L ≤ 3072) : vp_in (nI i + J) L := by
  rw [hJ, nI_add]
  exact vp_in_nI h (by omega)
theorem sub6 {L : Nat} (hL : L ≤ 3072) : (Int32.ofNat L - 6).toInt = (L : Int) - 6 := by
  have h1 : (Int32.ofNat L).toInt = (L : Int) := nI_toInt (n := L) (by omega)
  rw [Int32.toInt_sub, h1, show (6 : Int32).toInt = 6 from by decide, Int.bmod_def]
  split <;> omega
/-- the head of the loop -/
theorem lp_head (C0 : LCx p s m c D t z x b L xs) (hL : L ≤ 3072) (hi : i ≤ L) (hS : va_S (lA s) s.heap H locs) (hl : lv_has ls 8 [(0, .ref b), (1, .ref (g 0)), (2, .ref (g 12)), (3, .ref (g 10)), (4, .ref (g 11)), (5, .int (nI i))])
    (k1 : L < i + 6 → W p l e room_1 s m #[.ref b] below meth c H locs cells slots Q (F0 m 1860 ls [])) (k2 : i + 6 ≤ L → W p l e room_1 s m #[.ref b] below meth c H locs cells slots Q (F0 m 45 ls [.int (xs (nI i).toNatClampNeg &&& 31)])) : W p l e room_1 s m #[.ref b] below meth c H locs cells slots Q (F0 m 28 ls []) := by
  obtain ⟨⟨hx, hb, hml, hown, hts⟩, hX, hbl, hzz, hC⟩ := C0
  have hbA : ¬ lA s b := Nat.not_le.mpr hbl
  refine lv_iload hx hb dL_law_28 (lv_at hl 5 rfl) ?_
  refine lv_aload_n hx hb dL_law_30 rfl (lv_at hl 0 rfl) ?_
  refine va_slen hx hb hX hbl hbA hS dL_law_31 ?_
  refine lv_bipush (v := 6) hx hb dL_law_32 (by decide) ?_
  refine lv_isub hx hb dL_law_34 ?_
  refine lv_icmp_gt (tgt := 1860) hx hb dL_law_35 (by decide) (fun c1 => k1 ?_) (fun c1 => ?_)
  · rw [Int32.lt_iff_toInt_lt, sub6 hL, nI_toInt (by omega)] at c1
    omega
  · rw [Int32.lt_iff_toInt_lt, sub6 hL, nI_toInt (by omega)] at c1
    refine lv_aload_n hx hb dL_law_38 rfl (lv_at hl 0 rfl) ?_
    refine lv_iload hx hb dL_law_39 (lv_at hl 5 rfl) ?_
    refine va_sld hx hb hX hbl hbA hS (vp_in_nI (by omega) (by omega)) dL_law_41 ?_
    refine lv_bipush (v := 31) hx hb dL_law_42 (by decide) ?_
    refine lv_iand hx hb dL_law_44 ?_
    exact k2 (by omega)
set_option maxHeartbeats 4000000 in
/-- one call of the script -/
theorem lp_body (hfl : l.stackTraces = false) (C0 : LCx p s m c D t z x b L xs) (hL : L ≤ 3072) (hi : i + 6 ≤ L) (hH : Hh + 62 < 1073741824) (hR : LR Hh S_cur S_sav S_sc S_ea S_bl S_bb S_wl S_wb M_keptMany M_buffered M_errorAt M_writtenMany M_a_ M_kept_ M_buffer_ M_written_) (hP : va_P D vwCl (lwd t g ta S_ca S_cur S_tr S_adr S_sav S_sc S_ea S_bl S_bb S_rl S_ra S_re S_rea S_wl S_wb S_tg S_tn M_keptMany M_thrown M_buffered M_size M_at_ M_behind M_kind M_number M_wrong M_wrongAt M_errorAt M_unused M_writtenMany M_a_ M_fresh_ M_aside_ M_kept_ M_buffer_ M_moved_ M_written_ fo fd) H) (hD : va_D (lA s) (lwd t g ta S_ca S_cur S_tr S_adr S_sav S_sc S_ea S_bl S_bb S_rl S_ra S_re S_rea S_wl S_wb S_tg S_tn M_keptMany M_thrown M_buffered M_size M_at_ M_behind M_kind M_number M_wrong M_wrongAt M_errorAt M_unused M_writtenMany M_a_ M_fresh_ M_aside_ M_kept_ M_buffer_ M_moved_ M_written_ fo fd)) (hS : va_S (lA s) s.heap H locs) (hc : cells + 1 ≤ 601024 ∧ slots + 6 ≤ 7293034) (hl : lv_has ls 8 [(0, .ref b), (1, .ref (g 0)), (2, .ref (g 12)), (3, .ref (g 10)), (4, .ref (g 11)), (5, .int (nI i))]) (kk : LKK p l e s m b below meth c D t g ta Q i (Hh + 62) (cells + 1) (slots + 6)) : W p l e room_1 s m #[.ref b] below meth c H locs cells slots Q (F0 m 45 ls [.int (xs (nI i).toNatClampNeg &&& 31)]) := by
  obtain ⟨k, hk, ek⟩ := lx_and31 (xs (nI i).toNatClampNeg)
  rw [ek]
  obtain ⟨⟨hx, hb, hml, hown, hts⟩, hX, hbl, hzz, hC⟩ := id C0
  have h1 : vp_in (nI i + 1) L := hw_at (j := 1) rfl (by omega) hL
  have h2 : vp_in (nI i + 2) L := hw_at (j := 2) rfl (by omega) hL
  have h3 : vp_in (nI i + 3) L := hw_at (j := 3) rfl (by omega) hL
  have h4 : vp_in (nI i + 4) L := hw_at (j := 4) rfl (by omega) hL
  have h5 : vp_in (nI i + 5) L := hw_at (j := 5) rfl (by omega) hL
  have hd : W p l e room_1 s m #[.ref b] below meth c H locs cells slots Q (F0 m 1854 ls []) := by
    refine W.widen (k := cells + 1) (n := slots + 6) (by omega) (by omega) ?_
    obtain ⟨r1, ⟨sc, r2, r3, r4, r5⟩, r6, r7, r8⟩ := hR
    exact kk _ _ _ _ _ _ _ _ _ _ _ _ _ _ _ _ _ _ _ _ _ _ _ _ _ _ _ _ _ _ _ _ _ _ _ _ _ _ _ H locs ls hP hD hS hl ⟨r1.mono (by omega), ⟨sc, r2, r3, r4, r5.mono (by omega)⟩, r6, r7, r8⟩
  match k, hk with
  | 0, _ => exact lv_tableIn (off := 135) (tgt := 180) hx hb dL_law_45 (by decide) (by decide) (by decide) (by decide) (lst_append hfl C0 h1 h2 h3 h4 h5 hH hR hP hD hS hc hl kk)
  | 1, _ => exact lv_tableIn (off := 239) (tgt := 284) hx hb dL_law_45 (by decide) (by decide) (by decide) (by decide) (lst_load hfl C0 h1 h2 h3 h4 h5 hH hR hP hD hS hc hl kk)
  | 2, _ => exact lv_tableIn (off := 295) (tgt := 340) hx hb dL_law_45 (by decide) (by decide) (by decide) (by decide) (lst_errorPosition hfl C0 h1 h2 h3 h4 h5 hH hR hP hD hS hc hl kk)
  | 3, _ => exact lv_tableIn (off := 308) (tgt := 353) hx hb dL_law_45 (by decide) (by decide) (by decide) (by decide) (lst_count hfl C0 h1 h2 h3 h4 h5 hH hR hP hD hS hc hl kk)
  | 4, _ => exact lv_tableIn (off := 364) (tgt := 409) hx hb dL_law_45 (by decide) (by decide) (by decide) (by decide) (lst_row hfl C0 h1 h2 h3 h4 h5 hH hR hP hD hS hc hl kk)
  | 5, _ => exact lv_tableIn (off := 432) (tgt := 477) hx hb dL_law_45 (by decide) (by decide) (by decide) (by decide) (lst_entry hfl C0 h1 h2 h3 h4 h5 hH hR hP hD hS hc hl kk)
  | 6, _ => exact lv_tableIn (off := 488) (tgt := 533) hx hb dL_law_45 (by decide) (by decide) (by decide) (by decide) (lst_piece hfl C0 h1 h2 h3 h4 h5 hH hR hP hD hS hc hl kk)
  | 7, _ => exact lv_tableIn (off := 556) (tgt := 601) hx hb dL_law_45 (by decide) (by decide) (by decide) (by decide) (lst_pieceOf hfl C0 h1 h2 h3 h4 h5 hH hR hP hD hS hc hl kk)
  | 8, _ => exact lv_tableIn (off := 612) (tgt := 657) hx hb dL_law_45 (by decide) (by decide) (by decide) (by decide) (lst_pending hfl C0 h1 h2 h3 h4 h5 hH hR hP hD hS hc hl kk)
  | 9, _ => exact lv_tableIn (off := 668) (tgt := 713) hx hb dL_law_45 (by decide) (by decide) (by decide) (by decide) (lst_query hfl C0 h1 h2 h3 h4 h5 hH hR hP hD hS hc hl kk)
  | 10, _ => exact lv_tableIn (off := 736) (tgt := 781) hx hb dL_law_45 (by decide) (by decide) (by decide) (by decide) (lst_answer hfl C0 h1 h2 h3 h4 h5 hH hR hP hD hS hc hl kk)
  | 11, _ => exact lv_tableIn (off := 792) (tgt := 837) hx hb dL_law_45 (by decide) (by decide) (by decide) (by decide) (lst_asked hfl C0 h1 h2 h3 h4 h5 hH hR hP hD hS hc hl kk)
  | 12, _ => exact lv_tableIn (off := 860) (tgt := 905) hx hb dL_law_45 (by decide) (by decide) (by decide) (by decide) (lst_nearest hfl C0 h1 h2 h3 h4 h5 hH hR hP hD hS hc hl kk)
  | 13, _ => exact lv_tableIn (off := 928) (tgt := 973) hx hb dL_law_45 (by decide) (by decide) (by decide) (by decide) (lst_costOf hfl C0 h1 h2 h3 h4 h5 hH hR hP hD hS hc hl kk)
  | 14, _ => exact lv_tableIn (off := 996) (tgt := 1041) hx hb dL_law_45 (by decide) (by decide) (by decide) (by decide) (lst_scan hfl C0 h1 h2 h3 h4 h5 hH hR hP hD hS hc hl kk)
  | 15, _ => exact lv_tableIn (off := 1076) (tgt := 1121) hx hb dL_law_45 (by decide) (by decide) (by decide) (by decide) (lst_mean hfl C0 h1 h2 h3 h4 h5 hH hR hP hD hS hc hl kk)
  | 16, _ => exact lv_tableIn (off := 1166) (tgt := 1211) hx hb dL_law_45 (by decide) (by decide) (by decide) (by decide) (lst_ordered hfl C0 h1 h2 h3 h4 h5 hH hR hP hD hS hc hl kk)
  | 17, _ => exact lv_tableIn (off := 1222) (tgt := 1267) hx hb dL_law_45 (by decide) (by decide) (by decide) (by decide) (lst_insert hfl C0 h1 h2 h3 h4 h5 hH hR hP hD hS hc hl kk)
  | 18, _ => exact lv_tableIn (off := 1290) (tgt := 1335) hx hb dL_law_45 (by decide) (by decide) (by decide) (by decide) (lst_delete hfl C0 h1 h2 h3 h4 h5 hH hR hP hD hS hc hl kk)
  | 19, _ => exact lv_tableIn (off := 1346) (tgt := 1391) hx hb dL_law_45 (by decide) (by decide) (by decide) (by decide) (lst_mergeAll hfl C0 h1 h2 h3 h4 h5 hH hR hP hD hS hc hl kk)
  | 20, _ => exact lv_tableIn (off := 1359) (tgt := 1404) hx hb dL_law_45 (by decide) (by decide) (by decide) (by decide) (lst_set hfl C0 h1 h2 h3 h4 h5 hH hR hP hD hS hc hl kk)
  | 21, _ => exact lv_tableIn (off := 1427) (tgt := 1472) hx hb dL_law_45 (by decide) (by decide) (by decide) (by decide) (lst_sort hfl C0 h1 h2 h3 h4 h5 hH hR hP hD hS hc hl kk)
  | 22, _ => exact lv_tableIn (off := 1483) (tgt := 1528) hx hb dL_law_45 (by decide) (by decide) (by decide) (by decide) (lst_crack hfl C0 h1 h2 h3 h4 h5 hH hR hP hD hS hc hl kk)
  | 23, _ => exact lv_tableIn (off := 1539) (tgt := 1584) hx hb dL_law_45 (by decide) (by decide) (by decide) (by decide) (lst_evenCrack hfl C0 h1 h2 h3 h4 h5 hH hR hP hD hS hc hl kk)
  | 24, _ => exact lv_tableIn (off := 1583) (tgt := 1628) hx hb dL_law_45 (by decide) (by decide) (by decide) (by decide) (lst_drop hfl C0 h1 h2 h3 h4 h5 hH hR hP hD hS hc hl kk)
  | 25, _ => exact lv_tableIn (off := 1639) (tgt := 1684) hx hb dL_law_45 (by decide) (by decide) (by decide) (by decide) (lst_hottest hfl C0 h1 h2 h3 h4 h5 hH hR hP hD hS hc hl kk)
  | 26, _ => exact lv_tableIn (off := 1652) (tgt := 1697) hx hb dL_law_45 (by decide) (by decide) (by decide) (by decide) (lst_coldestPair hfl C0 h1 h2 h3 h4 h5 hH hR hP hD hS hc hl kk)
  | 27, _ => exact lv_tableIn (off := 1696) (tgt := 1741) hx hb dL_law_45 (by decide) (by decide) (by decide) (by decide) (lst_writePieces hfl C0 h1 h2 h3 h4 h5 hH hR hP hD hS hc hl kk)
  | 28, _ => exact lv_tableIn (off := 1709) (tgt := 1754) hx hb dL_law_45 (by decide) (by decide) (by decide) (by decide) (lst_writtenByte hfl C0 h1 h2 h3 h4 h5 hH hR hP hD hS hc hl kk)
  | 29, _ => exact lv_tableIn (off := 1765) (tgt := 1810) hx hb dL_law_45 (by decide) (by decide) (by decide) (by decide) (lst_undo hfl C0 h1 h2 h3 h4 h5 hH hR hP hD hS hc hl kk)
  | 30, _ => exact lv_tableOut (tgt := 1854) hx hb dL_law_45 (by decide) (by decide) hd
  | 31, _ => exact lv_tableOut (tgt := 1854) hx hb dL_law_45 (by decide) (by decide) hd
  | k + 32, h => exact absurd h (by omega)
set_option maxHeartbeats 4000000 in
/-- the law's loop -/
theorem lp_loop (hfl : l.stackTraces = false) (C0 : LCx p s m c D t z x b L xs) (hL : L ≤ 3072) (hend : ∀ (H : Heap) (locs : List Loc) (ls : Array Slot) (cells slots : Nat), cells ≤ 601024 → slots ≤ 7293034 → va_S (lA s) s.heap H locs → W p l e room_1 s m #[.ref b] below meth c H locs cells slots Q (F0 m 1860 ls [])) :
    ∀ (n i Hh cells slots : Nat) (S_ca : Nat → Nat) (S_cur : CS) (S_tr : CS) (S_adr : Nat → Nat → Nat) (S_sav : Nat → CS) (S_sc : Int32) (S_ea : Int32) (S_bl : Int32) (S_bb : Nat → Int32) (S_rl : Int32) (S_ra : Int32) (S_re : Int32) (S_rea : Int32) (S_wl : Int32) (S_wb : Nat → Int32) (S_tg : Int32) (S_tn : Nat → Int32) (M_keptMany : Int32) (M_thrown : Int32) (M_buffered : Int32) (M_size : Int32) (M_at_ : Int32) (M_behind : Int32) (M_kind : Int32) (M_number : Int32) (M_wrong : Int32) (M_wrongAt : Int32) (M_errorAt : Int32) (M_unused : Int32) (M_writtenMany : Int32) (M_a_ : Nat → Int32) (M_fresh_ : Nat → Int32) (M_aside_ : Nat → Int32) (M_kept_ : Nat → Int32) (M_buffer_ : Nat → Int32) (M_moved_ : Nat → Int32) (M_written_ : Nat → Int32) (fo : Nat → Int64) (fd : Nat → UInt64) (H : Heap) (locs : List Loc) (ls : Array Slot), i ≤ L → L < i + 6 * (n + 1) → Hh + 62 * n < 1073741824 → cells + n ≤ 601024 → slots + 6 * n ≤ 7293034 → va_P D vwCl (lwd t g ta S_ca S_cur S_tr S_adr S_sav S_sc S_ea S_bl S_bb S_rl S_ra S_re S_rea S_wl S_wb S_tg S_tn M_keptMany M_thrown M_buffered M_size M_at_ M_behind M_kind M_number M_wrong M_wrongAt M_errorAt M_unused M_writtenMany M_a_ M_fresh_ M_aside_ M_kept_ M_buffer_ M_moved_ M_written_ fo fd) H → va_D (lA s) (lwd t g ta S_ca S_cur S_tr S_adr S_sav S_sc S_ea S_bl S_bb S_rl S_ra S_re S_rea S_wl S_wb S_tg S_tn M_keptMany M_thrown M_buffered M_size M_at_ M_behind M_kind M_number M_wrong M_wrongAt M_errorAt M_unused M_writtenMany M_a_ M_fresh_ M_aside_ M_kept_ M_buffer_ M_moved_ M_written_ fo fd) → va_S (lA s) s.heap H locs → lv_has ls 8 [(0, .ref b), (1, .ref (g 0)), (2, .ref (g 12)), (3, .ref (g 10)), (4, .ref (g 11)), (5, .int (nI i))] → LR Hh S_cur S_sav S_sc S_ea S_bl S_bb S_wl S_wb M_keptMany M_buffered M_errorAt M_writtenMany M_a_ M_kept_ M_buffer_ M_written_ → W p l e room_1 s m #[.ref b] below meth c H locs cells slots Q (F0 m 28 ls []) := by
  obtain ⟨⟨hx, hb, hml, hown, hts⟩, hX, hbl, hzz, hC⟩ := id C0
  intro n
  induction n with
  | zero =>
    intro i Hh cells slots S_ca S_cur S_tr S_adr S_sav S_sc S_ea S_bl S_bb S_rl S_ra S_re S_rea S_wl S_wb S_tg S_tn M_keptMany M_thrown M_buffered M_size M_at_ M_behind M_kind M_number M_wrong M_wrongAt M_errorAt M_unused M_writtenMany M_a_ M_fresh_ M_aside_ M_kept_ M_buffer_ M_moved_ M_written_ fo fd H locs ls q1 q2 q3 q4 q5 hP hD hS hl hR
    exact lp_head C0 hL q1 hS hl (fun _ => hend _ _ _ _ _ (by omega) (by omega) hS) (fun h => absurd h (by omega))
  | succ n ih =>
    intro i Hh cells slots S_ca S_cur S_tr S_adr S_sav S_sc S_ea S_bl S_bb S_rl S_ra S_re S_rea S_wl S_wb S_tg S_tn M_keptMany M_thrown M_buffered M_size M_at_ M_behind M_kind M_number M_wrong M_wrongAt M_errorAt M_unused M_writtenMany M_a_ M_fresh_ M_aside_ M_kept_ M_buffer_ M_moved_ M_written_ fo fd H locs ls q1 q2 q3 q4 q5 hP hD hS hl hR
    refine lp_head C0 hL q1 hS hl (fun _ => hend _ _ _ _ _ (by omega) (by omega) hS) (fun h6 => ?_)
    refine lp_body hfl C0 hL h6 (by omega) hR hP hD hS ⟨by omega, by omega⟩ hl ?_
    intro S_ca S_cur S_tr S_adr S_sav S_sc S_ea S_bl S_bb S_rl S_ra S_re S_rea S_wl S_wb S_tg S_tn M_keptMany M_thrown M_buffered M_size M_at_ M_behind M_kind M_number M_wrong M_wrongAt M_errorAt M_unused M_writtenMany M_a_ M_fresh_ M_aside_ M_kept_ M_buffer_ M_moved_ M_written_ fo fd H locs ls hP hD hS hl hR
    refine lv_iinc (v := nI (i + 6)) (lv' := [(5, .int (nI (i + 6))), (0, .ref b), (1, .ref (g 0)), (2, .ref (g 12)), (3, .ref (g 10)), (4, .ref (g 11))]) hx hb dL_law_1854 hl (k := 5) rfl (by rw [show Int32.ofInt 6 = nI 6 from by decide]; exact nI_add i 6) (by decide) rfl (fun ls hl => ?_)
    refine lv_goto (tgt := 28) hx hb dL_law_1857 (by decide) ?_
    exact ih (i + 6) (Hh + 62) (cells + 1) (slots + 6) _ _ _ _ _ _ _ _ _ _ _ _ _ _ _ _ _ _ _ _ _ _ _ _ _ _ _ _ _ _ _ _ _ _ _ _ _ _ _ H locs ls h6 (by omega) (by omega) (by omega) (by omega) hP hD hS (lv_sub hl [1, 2, 3, 4, 5, 0] rfl) hR
end LOOP
