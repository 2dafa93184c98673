abbrev rm_X2_pendingAt : Room := { frames := 0, cells := 0, slots := 0, locals := 0 }
theorem hd_X2_pendingAt : yX2_pendingAt.cls = RX2 ∧ yX2_pendingAt.cls ≠ "java/lang/invoke/MethodHandle" ∧ yX2_pendingAt.cls ≠ "java/lang/invoke/VarHandle" ∧ (parseMethodDescriptor yX2_pendingAt.desc).map (fun d => d.parameters.length) = some 1 := by decide +kernel
set_option maxRecDepth 100000 in
set_option maxHeartbeats 4000000 in
theorem c_X2_pendingAt (l : Launch) (D : va_G) (t : Nat → ClassId) (z : Nat) (x : Nat → Nat) (a_t : Nat) (a_t_pendingRows : Nat) (v_t_rows : Value) (v_t_index : Value) (v_t_answer : Value) (v_t_kept : Value) (v_t_settings : Value) (t_pendingCount : Int32) (t_totalCost : Int32) (t_pendingRows_ : (Nat → Int32)) (p1 : Int32) (H : Heap) (r : Int32) (hF : f_X2_pendingAt t_pendingCount t_pendingRows_ p1 = some (r)) : RdM l D (TY t) z x yX2_pendingAt wsX2_pendingAt rm_X2_pendingAt [.ref a_t, .int p1] [(a_t, .inr (2, [v_t_rows, v_t_index, v_t_answer, v_t_kept, v_t_settings, .ref a_t_pendingRows, .int t_pendingCount, .int t_totalCost])), (a_t_pendingRows, .inl (t 0, 31, .inl t_pendingRows_))] H (some (.int r)) := by
  refine rd_of (cc := cX2_pendingAt) (maxL := 2) (ret := (some .int)) (by decide) rfl (Nat.le_of_ble_eq_true rfl) ?_
  intro p e s m args below meth c Q hQ hx hb hr hml hts hown hlocks hH hP hC ls hl
  have hown : s.vm.findClass RX2 = some m.cls := hown
  have hl : lv_has ls 2 [(0, .ref a_t), (1, .int p1)] := hl
  have hK := hC.1
  have iw2 : ∀ w ∈ wsX20, w ∈ wsX2_pendingAt := fun _ h => List.mem_cons_of_mem _ (List.mem_append_right _ h)
  have hf45 := hts (.fieldLink RX2 45 "CrackedColumn$Column" "pendingRows" "[I") (by decide +kernel)
  have hf48 := hts (.fieldLink RX2 48 "CrackedColumn$Column" "pendingCount" "I") (by decide +kernel)
  unfold f_X2_pendingAt at hF
  refine lv_iload_n hx hb dX2_pendingAt_0 rfl (lv_at hl 1 rfl) ?_
  refine lv_if_lt (tgt := 27) hx hb dX2_pendingAt_1 (by decide) (fun c1 => ?_) (fun c1 => ?_)
  · have hF := brT c1 hF
    refine lv_iconst (v := (-1)) hx hb dX2_pendingAt_27 (by decide) ?_
    cases hF
    exact rd_iret hx hb hr hlocks dX2_pendingAt_28 rfl hQ
  · have hF := brF c1 hF
    refine lv_iload_n hx hb dX2_pendingAt_4 rfl (lv_at hl 1 rfl) ?_
    refine lv_aload_n hx hb dX2_pendingAt_5 rfl (lv_at hl 0 rfl) ?_
    refine va_get (D := D) (ci := 2) (v := .int t_pendingCount) (C := RX2) (T := TX2) (N := 8) hx hb hts iw2 hown hK hP 0 rfl rfl 6 (by decide) hf48 (fun _ h9 => h9) rfl dX2_pendingAt_6 ?_
    refine lv_icmp_ge (tgt := 27) hx hb dX2_pendingAt_9 (by decide) (fun c9 => ?_) (fun c9 => ?_)
    · have hF := brT c9 hF
      refine lv_iconst (v := (-1)) hx hb dX2_pendingAt_27 (by decide) ?_
      cases hF
      exact rd_iret hx hb hr hlocks dX2_pendingAt_28 rfl hQ
    · have hF := brF c9 hF
      refine lv_iload_n hx hb dX2_pendingAt_12 rfl (lv_at hl 1 rfl) ?_
      refine lv_bipush (v := 31) hx hb dX2_pendingAt_13 (by decide) ?_
      refine lv_icmp_ge (tgt := 27) hx hb dX2_pendingAt_15 (by decide) (fun c15 => ?_) (fun c15 => ?_)
      · have hF := brT c15 hF
        refine lv_iconst (v := (-1)) hx hb dX2_pendingAt_27 (by decide) ?_
        cases hF
        exact rd_iret hx hb hr hlocks dX2_pendingAt_28 rfl hQ
      · have hF := brF c15 hF
        refine lv_aload_n hx hb dX2_pendingAt_18 rfl (lv_at hl 0 rfl) ?_
        refine va_get (D := D) (ci := 2) (v := .ref a_t_pendingRows) (C := RX2) (T := TX2) (N := 8) hx hb hts iw2 hown hK hP 0 rfl rfl 5 (by decide) hf45 (fun _ h9 => h9) rfl dX2_pendingAt_19 ?_
        refine lv_iload_n hx hb dX2_pendingAt_22 rfl (lv_at hl 1 rfl) ?_
        obtain ⟨g23_0, hF⟩ := gd hF
        refine my_iald (v := t_pendingRows_ p1.toNatClampNeg) hx hb hK hP 1 0 rfl rfl g23_0 rfl dX2_pendingAt_23 ?_
        refine lv_goto (tgt := 28) hx hb dX2_pendingAt_24 (by decide) ?_
        cases hF
        exact rd_iret hx hb hr hlocks dX2_pendingAt_28 rfl hQ
abbrev rm_X2_readPieces : Room := { frames := 2, cells := 0, slots := 0, locals := 44 }
theorem hd_X2_readPieces : yX2_readPieces.cls = RX2 ∧ yX2_readPieces.cls ≠ "java/lang/invoke/MethodHandle" ∧ yX2_readPieces.cls ≠ "java/lang/invoke/VarHandle" ∧ (parseMethodDescriptor yX2_readPieces.desc).map (fun d => d.parameters.length) = some 2 := by decide +kernel
set_option maxRecDepth 100000 in
set_option maxHeartbeats 4000000 in
theorem c_X2_readPieces (l : Launch) (D : va_G) (t : Nat → ClassId) (z : Nat) (x : Nat → Nat) (N : Nat) (a_t : Nat) (a_t_answer : Nat) (a_t_answer_numbers : Nat) (a_t_index : Nat) (a_t_index_entries : Nat) (a_t_index_heats : Nat) (a_t_index_starts : Nat) (a_t_rows : Nat) (a_t_rows_keys : Nat) (a_t_rows_values : Nat) (v_t_kept : Value) (v_t_settings : Value) (v_t_pendingRows : Value) (v_t_index_bounds : Value) (v_t_index_sorted : Value) (v_t_rows_states : Value) (t_pendingCount : Int32) (t_totalCost : Int32) (t_answer_given : Int32) (t_answer_numbers_ : (Nat → Int32)) (t_index_size : Int32) (t_index_pieces : Int32) (t_index_entries_ : (Nat → Int32)) (t_index_heats_ : (Nat → Int32)) (t_index_starts_ : (Nat → Int32)) (t_rows_count : Int32) (t_rows_keys_ : (Nat → Int32)) (t_rows_values_ : (Nat → Int32)) (p1 : Int32) (p2 : Int32) (sz : Nat) (t_answer_numbers_' : (Nat → Int32)) (t_index_heats_' : (Nat → Int32)) (hF : f_X2_readPieces N t_answer_numbers_ t_index_size t_index_pieces t_index_entries_ t_index_heats_ t_index_starts_ t_rows_keys_ t_rows_values_ p1 p2 = some (t_answer_numbers_', t_index_heats_')) : WrM l D (TY t) z x yX2_readPieces wsX2_readPieces rm_X2_readPieces [.ref a_t, .int p1, .int p2] [(a_t, .inr (2, [.ref a_t_rows, .ref a_t_index, .ref a_t_answer, v_t_kept, v_t_settings, v_t_pendingRows, .int t_pendingCount, .int t_totalCost])), (a_t_answer, .inr (0, [.ref a_t_answer_numbers, .int t_answer_given])), (a_t_answer_numbers, .inl (t 0, 9, .inl t_answer_numbers_)), (a_t_index, .inr (3, [.ref a_t_rows, .ref a_t_index_entries, v_t_index_bounds, .ref a_t_index_starts, .ref a_t_index_heats, v_t_index_sorted, .int t_index_size, .int t_index_pieces])), (a_t_index_entries, .inl (t 0, 120, .inl t_index_entries_)), (a_t_index_heats, .inl (t 0, 62, .inl t_index_heats_)), (a_t_index_starts, .inl (t 0, 62, .inl t_index_starts_)), (a_t_rows, .inr (6, [.ref a_t_rows_keys, .ref a_t_rows_values, v_t_rows_states, .int t_rows_count])), (a_t_rows_keys, .inl (t 0, 120, .inl t_rows_keys_)), (a_t_rows_values, .inl (t 0, 120, .inl t_rows_values_))] [(a_t, .inr (2, [.ref a_t_rows, .ref a_t_index, .ref a_t_answer, v_t_kept, v_t_settings, v_t_pendingRows, .int t_pendingCount, .int t_totalCost])), (a_t_answer, .inr (0, [.ref a_t_answer_numbers, .int t_answer_given])), (a_t_answer_numbers, .inl (t 0, 9, .inl t_answer_numbers_')), (a_t_index, .inr (3, [.ref a_t_rows, .ref a_t_index_entries, v_t_index_bounds, .ref a_t_index_starts, .ref a_t_index_heats, v_t_index_sorted, .int t_index_size, .int t_index_pieces])), (a_t_index_entries, .inl (t 0, 120, .inl t_index_entries_)), (a_t_index_heats, .inl (t 0, 62, .inl t_index_heats_')), (a_t_index_starts, .inl (t 0, 62, .inl t_index_starts_)), (a_t_rows, .inr (6, [.ref a_t_rows_keys, .ref a_t_rows_values, v_t_rows_states, .int t_rows_count])), (a_t_rows_keys, .inl (t 0, 120, .inl t_rows_keys_)), (a_t_rows_values, .inl (t 0, 120, .inl t_rows_values_))] sz none 0 0 := by
  refine wr_of (cc := cX2_readPieces) (maxL := 6) (ret := none) (by decide) rfl (Nat.le_of_ble_eq_true rfl) ?_
  intro p e s m args below meth c A Q hQ hx hb hr hml hts hown hlocks hin H locs hP hD hS hA hz hC ls hl
  have hown : s.vm.findClass RX2 = some m.cls := hown
  have hl : lv_has ls 6 [(0, .ref a_t), (1, .int p1), (2, .int p2)] := hl
  have hK := hC.1
  have iw2 : ∀ w ∈ wsX20, w ∈ wsX2_readPieces := fun _ h => List.mem_cons_of_mem _ (List.mem_append_left _ (List.mem_append_left _ (List.mem_append_left _ (List.mem_append_right _ h))))
  have hf12 := hts (.fieldLink RX2 12 "CrackedColumn$Column" "rows" "LCrackedColumn$Rows;") (by decide +kernel)
  have hf23 := hts (.fieldLink RX2 23 "CrackedColumn$Column" "index" "LCrackedColumn$Index;") (by decide +kernel)
  have hf30 := hts (.fieldLink RX2 30 "CrackedColumn$Column" "answer" "LCrackedColumn$Answer;") (by decide +kernel)
  unfold f_X2_readPieces at hF
  refine lv_aload_n hx hb dX2_readPieces_0 rfl (lv_at hl 0 rfl) ?_
  refine va_get (D := D) (ci := 2) (v := .ref a_t_answer) (C := RX2) (T := TX2) (N := 8) hx hb hts iw2 hown hK hP 0 rfl rfl 2 (by decide) hf30 (fun _ h9 => h9) rfl dX2_readPieces_1 ?_
  refine lv_bipush (v := 6) hx hb dX2_readPieces_4 (by decide) ?_
  refine lv_iload_n hx hb dX2_readPieces_6 rfl (lv_at hl 2 rfl) ?_
  refine lv_iload_n hx hb dX2_readPieces_7 rfl (lv_at hl 1 rfl) ?_
  refine lv_isub hx hb dX2_readPieces_8 ?_
  obtain ⟨t_answer_numbers_9_1, h9_1, hF⟩ := bndE hF
  refine wrVM (As := [.int 6, .int (p2 - p1)]) (rest := []) (C := RX0) (wn := [(a_t, .inr (2, [.ref a_t_rows, .ref a_t_index, .ref a_t_answer, v_t_kept, v_t_settings, v_t_pendingRows, .int t_pendingCount, .int t_totalCost])), (a_t_answer, .inr (0, [.ref a_t_answer_numbers, .int t_answer_given])), (a_t_answer_numbers, .inl (t 0, 9, .inl t_answer_numbers_9_1)), (a_t_index, .inr (3, [.ref a_t_rows, .ref a_t_index_entries, v_t_index_bounds, .ref a_t_index_starts, .ref a_t_index_heats, v_t_index_sorted, .int t_index_size, .int t_index_pieces])), (a_t_index_entries, .inl (t 0, 120, .inl t_index_entries_)), (a_t_index_heats, .inl (t 0, 62, .inl t_index_heats_)), (a_t_index_starts, .inl (t 0, 62, .inl t_index_starts_)), (a_t_rows, .inr (6, [.ref a_t_rows_keys, .ref a_t_rows_values, v_t_rows_states, .int t_rows_count])), (a_t_rows_keys, .inl (t 0, 120, .inl t_rows_keys_)), (a_t_rows_values, .inl (t 0, 120, .inl t_rows_values_))]) ⟨hx, hb, hml, hown, hts⟩ (c_X0_putNumber l D t z x a_t_answer a_t_answer_numbers t_answer_given t_answer_numbers_ 6 (p2 - p1) H.size t_answer_numbers_9_1 h9_1) (cwV 2 hts gX2_readPieces_X0_putNumber rfl rfl rfl hd_X0_putNumber ⟨Nat.le_of_ble_eq_true rfl, Nat.le_of_ble_eq_true rfl⟩) (hC.at hz hS) hP hD hS hA hz [false, true, true, false, false, false, false, false, false, false] rfl rfl rfl rfl 0 rfl (show vwCl[0]? = some (RX0, TX0, 2) from rfl) rfl rfl hl.1 rfl (Nat.le_of_ble_eq_true rfl) dX2_readPieces_9 ⟨Nat.zero_le _, Nat.zero_le _⟩ rfl (fun H locs hP hD hS => ?_)
  refine lv_iload_n hx hb dX2_readPieces_12 rfl (lv_at hl 1 rfl) ?_
  refine lv_istore_n (lv' := [(3, .int p1), (0, .ref a_t), (1, .int p1), (2, .int p2)]) hx hb dX2_readPieces_13 rfl hl (by decide) rfl (fun ls hl => ?_)
  obtain ⟨k33_4, ek33_4, hF⟩ := jnE hF
  have hk33_4 : ∀ (t_index_heats_33_3 : (Nat → Int32)) (H : Heap) (locs : List Loc) (ls : Array Slot), va_P D vwCl [(a_t, .inr (2, [.ref a_t_rows, .ref a_t_index, .ref a_t_answer, v_t_kept, v_t_settings, v_t_pendingRows, .int t_pendingCount, .int t_totalCost])), (a_t_answer, .inr (0, [.ref a_t_answer_numbers, .int t_answer_given])), (a_t_answer_numbers, .inl (t 0, 9, .inl t_answer_numbers_9_1)), (a_t_index, .inr (3, [.ref a_t_rows, .ref a_t_index_entries, v_t_index_bounds, .ref a_t_index_starts, .ref a_t_index_heats, v_t_index_sorted, .int t_index_size, .int t_index_pieces])), (a_t_index_entries, .inl (t 0, 120, .inl t_index_entries_)), (a_t_index_heats, .inl (t 0, 62, .inl t_index_heats_33_3)), (a_t_index_starts, .inl (t 0, 62, .inl t_index_starts_)), (a_t_rows, .inr (6, [.ref a_t_rows_keys, .ref a_t_rows_values, v_t_rows_states, .int t_rows_count])), (a_t_rows_keys, .inl (t 0, 120, .inl t_rows_keys_)), (a_t_rows_values, .inl (t 0, 120, .inl t_rows_values_))] H → va_D A [(a_t, .inr (2, [.ref a_t_rows, .ref a_t_index, .ref a_t_answer, v_t_kept, v_t_settings, v_t_pendingRows, .int t_pendingCount, .int t_totalCost])), (a_t_answer, .inr (0, [.ref a_t_answer_numbers, .int t_answer_given])), (a_t_answer_numbers, .inl (t 0, 9, .inl t_answer_numbers_9_1)), (a_t_index, .inr (3, [.ref a_t_rows, .ref a_t_index_entries, v_t_index_bounds, .ref a_t_index_starts, .ref a_t_index_heats, v_t_index_sorted, .int t_index_size, .int t_index_pieces])), (a_t_index_entries, .inl (t 0, 120, .inl t_index_entries_)), (a_t_index_heats, .inl (t 0, 62, .inl t_index_heats_33_3)), (a_t_index_starts, .inl (t 0, 62, .inl t_index_starts_)), (a_t_rows, .inr (6, [.ref a_t_rows_keys, .ref a_t_rows_values, v_t_rows_states, .int t_rows_count])), (a_t_rows_keys, .inl (t 0, 120, .inl t_rows_keys_)), (a_t_rows_values, .inl (t 0, 120, .inl t_rows_values_))] → va_S A s.heap H locs → lv_has ls 6 [(0, .ref a_t), (1, .int p1), (2, .int p2)] → k33_4 t_index_heats_33_3 = some (t_answer_numbers_', t_index_heats_') → W p l e rm_X2_readPieces s m args below meth c H locs 0 0 Q (F0 m 33 ls []) := by
    subst ek33_4
    intro t_index_heats_33_3 H locs ls hP hD hS hl hF
    refine lv_aload_n hx hb dX2_readPieces_33 rfl (lv_at hl 0 rfl) ?_
    refine va_get (D := D) (ci := 2) (v := .ref a_t_index) (C := RX2) (T := TX2) (N := 8) hx hb hts iw2 hown hK hP 0 rfl rfl 1 (by decide) hf23 (fun _ h9 => h9) rfl dX2_readPieces_34 ?_
    refine lv_iload_n hx hb dX2_readPieces_37 rfl (lv_at hl 2 rfl) ?_
    obtain ⟨r38_5, h38_5, hF⟩ := bndE hF
    refine rdV (As := [.int p2]) (rest := []) (C := RX3) ⟨hx, hb, hml, hown, hts⟩ (c_X3_startOf l D t z x a_t_index a_t_index_starts (.ref a_t_rows) (.ref a_t_index_entries) v_t_index_bounds (.ref a_t_index_heats) v_t_index_sorted t_index_size t_index_pieces t_index_starts_ p2 H r38_5 h38_5) (cwV 1 hts gX2_readPieces_X3_startOf rfl rfl rfl hd_X3_startOf ⟨Nat.le_of_ble_eq_true rfl, Nat.le_of_ble_eq_true rfl⟩) (hC.at hz hS) (selP (m9 := [false, false, false, true, false, false, true, false, false, false]) rfl rfl hP) 0 rfl (show vwCl[3]? = some (RX3, TX3, 8) from rfl) rfl rfl hl.1 rfl (Nat.le_of_ble_eq_true rfl) dX2_readPieces_38 ⟨Nat.zero_le _, Nat.zero_le _⟩ rfl ?_
    refine lv_istore_n (lv' := [(3, .int r38_5), (0, .ref a_t), (1, .int p1), (2, .int p2)]) hx hb dX2_readPieces_41 rfl hl (by decide) rfl (fun ls hl => ?_)
    refine lv_aload_n hx hb dX2_readPieces_42 rfl (lv_at hl 1 rfl) ?_
    refine va_get (D := D) (ci := 2) (v := .ref a_t_index) (C := RX2) (T := TX2) (N := 8) hx hb hts iw2 hown hK hP 0 rfl rfl 1 (by decide) hf23 (fun _ h9 => h9) rfl dX2_readPieces_43 ?_
    refine lv_iload_n hx hb dX2_readPieces_46 rfl (lv_at hl 2 rfl) ?_
    obtain ⟨r47_7, h47_7, hF⟩ := bndE hF
    refine rdV (As := [.int p1]) (rest := []) (C := RX3) ⟨hx, hb, hml, hown, hts⟩ (c_X3_startOf l D t z x a_t_index a_t_index_starts (.ref a_t_rows) (.ref a_t_index_entries) v_t_index_bounds (.ref a_t_index_heats) v_t_index_sorted t_index_size t_index_pieces t_index_starts_ p1 H r47_7 h47_7) (cwV 1 hts gX2_readPieces_X3_startOf rfl rfl rfl hd_X3_startOf ⟨Nat.le_of_ble_eq_true rfl, Nat.le_of_ble_eq_true rfl⟩) (hC.at hz hS) (selP (m9 := [false, false, false, true, false, false, true, false, false, false]) rfl rfl hP) 0 rfl (show vwCl[3]? = some (RX3, TX3, 8) from rfl) rfl rfl hl.1 rfl (Nat.le_of_ble_eq_true rfl) dX2_readPieces_47 ⟨Nat.zero_le _, Nat.zero_le _⟩ rfl ?_
    refine lv_istore (lv' := [(4, .int r47_7), (3, .int r38_5), (0, .ref a_t), (1, .int p1), (2, .int p2)]) hx hb dX2_readPieces_50 hl (by decide) rfl (fun ls hl => ?_)
    obtain ⟨k100_10, ek100_10, hF⟩ := jnE hF
    have hk100_10 : ∀ (t_answer_numbers_100_9 : (Nat → Int32)) (H : Heap) (locs : List Loc) (ls : Array Slot), va_P D vwCl [(a_t, .inr (2, [.ref a_t_rows, .ref a_t_index, .ref a_t_answer, v_t_kept, v_t_settings, v_t_pendingRows, .int t_pendingCount, .int t_totalCost])), (a_t_answer, .inr (0, [.ref a_t_answer_numbers, .int t_answer_given])), (a_t_answer_numbers, .inl (t 0, 9, .inl t_answer_numbers_100_9)), (a_t_index, .inr (3, [.ref a_t_rows, .ref a_t_index_entries, v_t_index_bounds, .ref a_t_index_starts, .ref a_t_index_heats, v_t_index_sorted, .int t_index_size, .int t_index_pieces])), (a_t_index_entries, .inl (t 0, 120, .inl t_index_entries_)), (a_t_index_heats, .inl (t 0, 62, .inl t_index_heats_33_3)), (a_t_index_starts, .inl (t 0, 62, .inl t_index_starts_)), (a_t_rows, .inr (6, [.ref a_t_rows_keys, .ref a_t_rows_values, v_t_rows_states, .int t_rows_count])), (a_t_rows_keys, .inl (t 0, 120, .inl t_rows_keys_)), (a_t_rows_values, .inl (t 0, 120, .inl t_rows_values_))] H → va_D A [(a_t, .inr (2, [.ref a_t_rows, .ref a_t_index, .ref a_t_answer, v_t_kept, v_t_settings, v_t_pendingRows, .int t_pendingCount, .int t_totalCost])), (a_t_answer, .inr (0, [.ref a_t_answer_numbers, .int t_answer_given])), (a_t_answer_numbers, .inl (t 0, 9, .inl t_answer_numbers_100_9)), (a_t_index, .inr (3, [.ref a_t_rows, .ref a_t_index_entries, v_t_index_bounds, .ref a_t_index_starts, .ref a_t_index_heats, v_t_index_sorted, .int t_index_size, .int t_index_pieces])), (a_t_index_entries, .inl (t 0, 120, .inl t_index_entries_)), (a_t_index_heats, .inl (t 0, 62, .inl t_index_heats_33_3)), (a_t_index_starts, .inl (t 0, 62, .inl t_index_starts_)), (a_t_rows, .inr (6, [.ref a_t_rows_keys, .ref a_t_rows_values, v_t_rows_states, .int t_rows_count])), (a_t_rows_keys, .inl (t 0, 120, .inl t_rows_keys_)), (a_t_rows_values, .inl (t 0, 120, .inl t_rows_values_))] → va_S A s.heap H locs → lv_has ls 6 [] → k100_10 t_answer_numbers_100_9 = some (t_answer_numbers_', t_index_heats_') → W p l e rm_X2_readPieces s m args below meth c H locs 0 0 Q (F0 m 100 ls []) := by
      subst ek100_10
      intro t_answer_numbers_100_9 H locs ls hP hD hS hl hF
      cases hF
      exact we_vret hx hb hr hlocks dX2_readPieces_100 rfl hQ hP hD hS
    have hlp52 : ∀ n52 : Nat, ∀ (x4_52_11 : Int32) (t_answer_numbers_52_12 : (Nat → Int32)) (H : Heap) (locs : List Loc) (ls : Array Slot), va_P D vwCl [(a_t, .inr (2, [.ref a_t_rows, .ref a_t_index, .ref a_t_answer, v_t_kept, v_t_settings, v_t_pendingRows, .int t_pendingCount, .int t_totalCost])), (a_t_answer, .inr (0, [.ref a_t_answer_numbers, .int t_answer_given])), (a_t_answer_numbers, .inl (t 0, 9, .inl t_answer_numbers_52_12)), (a_t_index, .inr (3, [.ref a_t_rows, .ref a_t_index_entries, v_t_index_bounds, .ref a_t_index_starts, .ref a_t_index_heats, v_t_index_sorted, .int t_index_size, .int t_index_pieces])), (a_t_index_entries, .inl (t 0, 120, .inl t_index_entries_)), (a_t_index_heats, .inl (t 0, 62, .inl t_index_heats_33_3)), (a_t_index_starts, .inl (t 0, 62, .inl t_index_starts_)), (a_t_rows, .inr (6, [.ref a_t_rows_keys, .ref a_t_rows_values, v_t_rows_states, .int t_rows_count])), (a_t_rows_keys, .inl (t 0, 120, .inl t_rows_keys_)), (a_t_rows_values, .inl (t 0, 120, .inl t_rows_values_))] H → va_D A [(a_t, .inr (2, [.ref a_t_rows, .ref a_t_index, .ref a_t_answer, v_t_kept, v_t_settings, v_t_pendingRows, .int t_pendingCount, .int t_totalCost])), (a_t_answer, .inr (0, [.ref a_t_answer_numbers, .int t_answer_given])), (a_t_answer_numbers, .inl (t 0, 9, .inl t_answer_numbers_52_12)), (a_t_index, .inr (3, [.ref a_t_rows, .ref a_t_index_entries, v_t_index_bounds, .ref a_t_index_starts, .ref a_t_index_heats, v_t_index_sorted, .int t_index_size, .int t_index_pieces])), (a_t_index_entries, .inl (t 0, 120, .inl t_index_entries_)), (a_t_index_heats, .inl (t 0, 62, .inl t_index_heats_33_3)), (a_t_index_starts, .inl (t 0, 62, .inl t_index_starts_)), (a_t_rows, .inr (6, [.ref a_t_rows_keys, .ref a_t_rows_values, v_t_rows_states, .int t_rows_count])), (a_t_rows_keys, .inl (t 0, 120, .inl t_rows_keys_)), (a_t_rows_values, .inl (t 0, 120, .inl t_rows_values_))] → va_S A s.heap H locs → lv_has ls 6 [(0, .ref a_t), (3, .int r38_5), (4, .int x4_52_11)] → f_X2_readPieces_52 t_index_size t_index_entries_ t_rows_keys_ t_rows_values_ r38_5 k100_10 n52 x4_52_11 t_answer_numbers_52_12 = some (t_answer_numbers_', t_index_heats_') → W p l e rm_X2_readPieces s m args below meth c H locs 0 0 Q (F0 m 52 ls []) := by
      intro n52
      induction n52 with
      | zero =>
        intro x4_52_11 t_answer_numbers_52_12 H locs ls hP hD hS hl hF
        cases (show none = some (t_answer_numbers_', t_index_heats_') from hF)
      | succ n52 ih52 =>
        intro x4_52_11 t_answer_numbers_52_12 H locs ls hP hD hS hl hF
        rw [f_X2_readPieces_52] at hF
        refine lv_iload hx hb dX2_readPieces_52 (lv_at hl 2 rfl) ?_
        refine lv_iload_n hx hb dX2_readPieces_54 rfl (lv_at hl 1 rfl) ?_
        refine lv_icmp_ge (tgt := 100) hx hb dX2_readPieces_55 (by decide) (fun c55 => ?_) (fun c55 => ?_)
        · have hF := brT c55 hF
          exact hk100_10 t_answer_numbers_52_12 H locs ls hP hD hS (lv_sub hl [] rfl) hF
        · have hF := brF c55 hF
          refine lv_aload_n hx hb dX2_readPieces_58 rfl (lv_at hl 0 rfl) ?_
          refine va_get (D := D) (ci := 2) (v := .ref a_t_index) (C := RX2) (T := TX2) (N := 8) hx hb hts iw2 hown hK hP 0 rfl rfl 1 (by decide) hf23 (fun _ h9 => h9) rfl dX2_readPieces_59 ?_
          refine lv_iload hx hb dX2_readPieces_62 (lv_at hl 2 rfl) ?_
          obtain ⟨r64_13, h64_13, hF⟩ := bndE hF
          refine rdV (As := [.int x4_52_11]) (rest := []) (C := RX3) ⟨hx, hb, hml, hown, hts⟩ (c_X3_rowAt l D t z x a_t_index a_t_index_entries (.ref a_t_rows) v_t_index_bounds (.ref a_t_index_starts) (.ref a_t_index_heats) v_t_index_sorted t_index_size t_index_pieces t_index_entries_ x4_52_11 H r64_13 h64_13) (cwV 1 hts gX2_readPieces_X3_rowAt rfl rfl rfl hd_X3_rowAt ⟨Nat.le_of_ble_eq_true rfl, Nat.le_of_ble_eq_true rfl⟩) (hC.at hz hS) (selP (m9 := [false, false, false, true, true, false, false, false, false, false]) rfl rfl hP) 0 rfl (show vwCl[3]? = some (RX3, TX3, 8) from rfl) rfl rfl hl.1 rfl (Nat.le_of_ble_eq_true rfl) dX2_readPieces_64 ⟨Nat.zero_le _, Nat.zero_le _⟩ rfl ?_
          refine lv_istore (lv' := [(5, .int r64_13), (0, .ref a_t), (3, .int r38_5), (4, .int x4_52_11)]) hx hb dX2_readPieces_67 hl (by decide) rfl (fun ls hl => ?_)
          refine lv_aload_n hx hb dX2_readPieces_69 rfl (lv_at hl 1 rfl) ?_
          refine va_get (D := D) (ci := 2) (v := .ref a_t_answer) (C := RX2) (T := TX2) (N := 8) hx hb hts iw2 hown hK hP 0 rfl rfl 2 (by decide) hf30 (fun _ h9 => h9) rfl dX2_readPieces_70 ?_
          refine lv_aload_n hx hb dX2_readPieces_73 rfl (lv_at hl 1 rfl) ?_
          refine va_get (D := D) (ci := 2) (v := .ref a_t_rows) (C := RX2) (T := TX2) (N := 8) hx hb hts iw2 hown hK hP 0 rfl rfl 0 (by decide) hf12 (fun _ h9 => h9) rfl dX2_readPieces_74 ?_
          refine lv_iload hx hb dX2_readPieces_77 (lv_at hl 0 rfl) ?_
          obtain ⟨r79_15, h79_15, hF⟩ := bndE hF
          refine rdV (As := [.int r64_13]) (rest := [.ref a_t_answer]) (C := RX6) ⟨hx, hb, hml, hown, hts⟩ (c_X6_keyOf l D t z x a_t_rows a_t_rows_keys (.ref a_t_rows_values) v_t_rows_states t_rows_count t_rows_keys_ r64_13 H r79_15 h79_15) (cwV 1 hts gX2_readPieces_X6_keyOf rfl rfl rfl hd_X6_keyOf ⟨Nat.le_of_ble_eq_true rfl, Nat.le_of_ble_eq_true rfl⟩) (hC.at hz hS) (selP (m9 := [false, false, false, false, false, false, false, true, true, false]) rfl rfl hP) 0 rfl (show vwCl[6]? = some (RX6, TX6, 4) from rfl) rfl rfl hl.1 rfl (Nat.le_of_ble_eq_true rfl) dX2_readPieces_79 ⟨Nat.zero_le _, Nat.zero_le _⟩ rfl ?_
          refine lv_aload_n hx hb dX2_readPieces_82 rfl (lv_at hl 1 rfl) ?_
          refine va_get (D := D) (ci := 2) (v := .ref a_t_rows) (C := RX2) (T := TX2) (N := 8) hx hb hts iw2 hown hK hP 0 rfl rfl 0 (by decide) hf12 (fun _ h9 => h9) rfl dX2_readPieces_83 ?_
          refine lv_iload hx hb dX2_readPieces_86 (lv_at hl 0 rfl) ?_
          obtain ⟨r88_17, h88_17, hF⟩ := bndE hF
          refine rdV (As := [.int r64_13]) (rest := [.int r79_15, .ref a_t_answer]) (C := RX6) ⟨hx, hb, hml, hown, hts⟩ (c_X6_valueOf l D t z x a_t_rows a_t_rows_values (.ref a_t_rows_keys) v_t_rows_states t_rows_count t_rows_values_ r64_13 H r88_17 h88_17) (cwV 1 hts gX2_readPieces_X6_valueOf rfl rfl rfl hd_X6_valueOf ⟨Nat.le_of_ble_eq_true rfl, Nat.le_of_ble_eq_true rfl⟩) (hC.at hz hS) (selP (m9 := [false, false, false, false, false, false, false, true, false, true]) rfl rfl hP) 0 rfl (show vwCl[6]? = some (RX6, TX6, 4) from rfl) rfl rfl hl.1 rfl (Nat.le_of_ble_eq_true rfl) dX2_readPieces_88 ⟨Nat.zero_le _, Nat.zero_le _⟩ rfl ?_
          obtain ⟨t_answer_numbers_91_19, h91_19, hF⟩ := bndE hF
          refine wrVM (As := [.int r79_15, .int r88_17]) (rest := []) (C := RX0) (wn := [(a_t, .inr (2, [.ref a_t_rows, .ref a_t_index, .ref a_t_answer, v_t_kept, v_t_settings, v_t_pendingRows, .int t_pendingCount, .int t_totalCost])), (a_t_answer, .inr (0, [.ref a_t_answer_numbers, .int t_answer_given])), (a_t_answer_numbers, .inl (t 0, 9, .inl t_answer_numbers_91_19)), (a_t_index, .inr (3, [.ref a_t_rows, .ref a_t_index_entries, v_t_index_bounds, .ref a_t_index_starts, .ref a_t_index_heats, v_t_index_sorted, .int t_index_size, .int t_index_pieces])), (a_t_index_entries, .inl (t 0, 120, .inl t_index_entries_)), (a_t_index_heats, .inl (t 0, 62, .inl t_index_heats_33_3)), (a_t_index_starts, .inl (t 0, 62, .inl t_index_starts_)), (a_t_rows, .inr (6, [.ref a_t_rows_keys, .ref a_t_rows_values, v_t_rows_states, .int t_rows_count])), (a_t_rows_keys, .inl (t 0, 120, .inl t_rows_keys_)), (a_t_rows_values, .inl (t 0, 120, .inl t_rows_values_))]) ⟨hx, hb, hml, hown, hts⟩ (c_X0_take l D t z x a_t_answer a_t_answer_numbers t_answer_given t_answer_numbers_52_12 r79_15 r88_17 H.size t_answer_numbers_91_19 h91_19) (cwV 2 hts gX2_readPieces_X0_take rfl rfl rfl hd_X0_take ⟨Nat.le_of_ble_eq_true rfl, Nat.le_of_ble_eq_true rfl⟩) (hC.at hz hS) hP hD hS hA hz [false, true, true, false, false, false, false, false, false, false] rfl rfl rfl rfl 0 rfl (show vwCl[0]? = some (RX0, TX0, 2) from rfl) rfl rfl hl.1 rfl (Nat.le_of_ble_eq_true rfl) dX2_readPieces_91 ⟨Nat.zero_le _, Nat.zero_le _⟩ rfl (fun H locs hP hD hS => ?_)
          obtain ⟨y94_21, ey94_21⟩ : ∃ y : Int32, y = x4_52_11 + 1 := ⟨_, rfl⟩
          have hF := ltE ey94_21 hF
          refine lv_iinc (v := y94_21) (lv' := [(4, .int y94_21), (5, .int r64_13), (0, .ref a_t), (3, .int r38_5)]) hx hb dX2_readPieces_94 hl (k := 3) rfl (by rw [ey94_21]; rfl) (by decide) rfl (fun ls hl => ?_)
          refine lv_goto (tgt := 52) hx hb dX2_readPieces_97 (by decide) ?_
          exact ih52 y94_21 t_answer_numbers_91_19 H locs ls hP hD hS (lv_sub hl [2, 3, 0] rfl) hF
    exact hlp52 N r47_7 t_answer_numbers_9_1 H locs ls hP hD hS (lv_sub hl [2, 1, 0] rfl) hF
  have hlp14 : ∀ n14 : Nat, ∀ (x3_14_22 : Int32) (t_index_heats_14_23 : (Nat → Int32)) (H : Heap) (locs : List Loc) (ls : Array Slot), va_P D vwCl [(a_t, .inr (2, [.ref a_t_rows, .ref a_t_index, .ref a_t_answer, v_t_kept, v_t_settings, v_t_pendingRows, .int t_pendingCount, .int t_totalCost])), (a_t_answer, .inr (0, [.ref a_t_answer_numbers, .int t_answer_given])), (a_t_answer_numbers, .inl (t 0, 9, .inl t_answer_numbers_9_1)), (a_t_index, .inr (3, [.ref a_t_rows, .ref a_t_index_entries, v_t_index_bounds, .ref a_t_index_starts, .ref a_t_index_heats, v_t_index_sorted, .int t_index_size, .int t_index_pieces])), (a_t_index_entries, .inl (t 0, 120, .inl t_index_entries_)), (a_t_index_heats, .inl (t 0, 62, .inl t_index_heats_14_23)), (a_t_index_starts, .inl (t 0, 62, .inl t_index_starts_)), (a_t_rows, .inr (6, [.ref a_t_rows_keys, .ref a_t_rows_values, v_t_rows_states, .int t_rows_count])), (a_t_rows_keys, .inl (t 0, 120, .inl t_rows_keys_)), (a_t_rows_values, .inl (t 0, 120, .inl t_rows_values_))] H → va_D A [(a_t, .inr (2, [.ref a_t_rows, .ref a_t_index, .ref a_t_answer, v_t_kept, v_t_settings, v_t_pendingRows, .int t_pendingCount, .int t_totalCost])), (a_t_answer, .inr (0, [.ref a_t_answer_numbers, .int t_answer_given])), (a_t_answer_numbers, .inl (t 0, 9, .inl t_answer_numbers_9_1)), (a_t_index, .inr (3, [.ref a_t_rows, .ref a_t_index_entries, v_t_index_bounds, .ref a_t_index_starts, .ref a_t_index_heats, v_t_index_sorted, .int t_index_size, .int t_index_pieces])), (a_t_index_entries, .inl (t 0, 120, .inl t_index_entries_)), (a_t_index_heats, .inl (t 0, 62, .inl t_index_heats_14_23)), (a_t_index_starts, .inl (t 0, 62, .inl t_index_starts_)), (a_t_rows, .inr (6, [.ref a_t_rows_keys, .ref a_t_rows_values, v_t_rows_states, .int t_rows_count])), (a_t_rows_keys, .inl (t 0, 120, .inl t_rows_keys_)), (a_t_rows_values, .inl (t 0, 120, .inl t_rows_values_))] → va_S A s.heap H locs → lv_has ls 6 [(0, .ref a_t), (1, .int p1), (2, .int p2), (3, .int x3_14_22)] → f_X2_readPieces_14 t_index_pieces p2 k33_4 n14 x3_14_22 t_index_heats_14_23 = some (t_answer_numbers_', t_index_heats_') → W p l e rm_X2_readPieces s m args below meth c H locs 0 0 Q (F0 m 14 ls []) := by
    intro n14
    induction n14 with
    | zero =>
      intro x3_14_22 t_index_heats_14_23 H locs ls hP hD hS hl hF
      cases (show none = some (t_answer_numbers_', t_index_heats_') from hF)
    | succ n14 ih14 =>
      intro x3_14_22 t_index_heats_14_23 H locs ls hP hD hS hl hF
      rw [f_X2_readPieces_14] at hF
      refine lv_iload_n hx hb dX2_readPieces_14 rfl (lv_at hl 3 rfl) ?_
      refine lv_iload_n hx hb dX2_readPieces_15 rfl (lv_at hl 2 rfl) ?_
      refine lv_icmp_ge (tgt := 33) hx hb dX2_readPieces_16 (by decide) (fun c16 => ?_) (fun c16 => ?_)
      · have hF := brT c16 hF
        exact hk33_4 t_index_heats_14_23 H locs ls hP hD hS (lv_sub hl [0, 1, 2] rfl) hF
      · have hF := brF c16 hF
        refine lv_aload_n hx hb dX2_readPieces_19 rfl (lv_at hl 0 rfl) ?_
        refine va_get (D := D) (ci := 2) (v := .ref a_t_index) (C := RX2) (T := TX2) (N := 8) hx hb hts iw2 hown hK hP 0 rfl rfl 1 (by decide) hf23 (fun _ h9 => h9) rfl dX2_readPieces_20 ?_
        refine lv_iload_n hx hb dX2_readPieces_23 rfl (lv_at hl 3 rfl) ?_
        obtain ⟨t_index_heats_24_24, h24_24, hF⟩ := bndE hF
        refine wrVM (As := [.int x3_14_22]) (rest := []) (C := RX3) (wn := [(a_t, .inr (2, [.ref a_t_rows, .ref a_t_index, .ref a_t_answer, v_t_kept, v_t_settings, v_t_pendingRows, .int t_pendingCount, .int t_totalCost])), (a_t_answer, .inr (0, [.ref a_t_answer_numbers, .int t_answer_given])), (a_t_answer_numbers, .inl (t 0, 9, .inl t_answer_numbers_9_1)), (a_t_index, .inr (3, [.ref a_t_rows, .ref a_t_index_entries, v_t_index_bounds, .ref a_t_index_starts, .ref a_t_index_heats, v_t_index_sorted, .int t_index_size, .int t_index_pieces])), (a_t_index_entries, .inl (t 0, 120, .inl t_index_entries_)), (a_t_index_heats, .inl (t 0, 62, .inl t_index_heats_24_24)), (a_t_index_starts, .inl (t 0, 62, .inl t_index_starts_)), (a_t_rows, .inr (6, [.ref a_t_rows_keys, .ref a_t_rows_values, v_t_rows_states, .int t_rows_count])), (a_t_rows_keys, .inl (t 0, 120, .inl t_rows_keys_)), (a_t_rows_values, .inl (t 0, 120, .inl t_rows_values_))]) ⟨hx, hb, hml, hown, hts⟩ (c_X3_warm l D t z x a_t_index a_t_index_heats (.ref a_t_rows) (.ref a_t_index_entries) v_t_index_bounds (.ref a_t_index_starts) v_t_index_sorted t_index_size t_index_pieces t_index_heats_14_23 x3_14_22 H.size t_index_heats_24_24 h24_24) (cwV 1 hts gX2_readPieces_X3_warm rfl rfl rfl hd_X3_warm ⟨Nat.le_of_ble_eq_true rfl, Nat.le_of_ble_eq_true rfl⟩) (hC.at hz hS) hP hD hS hA hz [false, false, false, true, false, true, false, false, false, false] rfl rfl rfl rfl 0 rfl (show vwCl[3]? = some (RX3, TX3, 8) from rfl) rfl rfl hl.1 rfl (Nat.le_of_ble_eq_true rfl) dX2_readPieces_24 ⟨Nat.zero_le _, Nat.zero_le _⟩ rfl (fun H locs hP hD hS => ?_)
        obtain ⟨y27_26, ey27_26⟩ : ∃ y : Int32, y = x3_14_22 + 1 := ⟨_, rfl⟩
        have hF := ltE ey27_26 hF
        refine lv_iinc (v := y27_26) (lv' := [(3, .int y27_26), (0, .ref a_t), (1, .int p1), (2, .int p2)]) hx hb dX2_readPieces_27 hl (k := 3) rfl (by rw [ey27_26]; rfl) (by decide) rfl (fun ls hl => ?_)
        refine lv_goto (tgt := 14) hx hb dX2_readPieces_30 (by decide) ?_
        exact ih14 y27_26 t_index_heats_24_24 H locs ls hP hD hS (lv_sub hl [1, 2, 3, 0] rfl) hF
  exact hlp14 N p1 t_index_heats_ H locs ls hP hD hS (lv_sub hl [1, 2, 3, 0] rfl) hF
abbrev rm_X2_addPending : Room := { frames := 0, cells := 0, slots := 0, locals := 0 }
theorem hd_X2_addPending : yX2_addPending.cls = RX2 ∧ yX2_addPending.cls ≠ "java/lang/invoke/MethodHandle" ∧ yX2_addPending.cls ≠ "java/lang/invoke/VarHandle" ∧ (parseMethodDescriptor yX2_addPending.desc).map (fun d => d.parameters.length) = some 1 := by decide +kernel
set_option maxRecDepth 100000 in
set_option maxHeartbeats 4000000 in
theorem c_X2_addPending (l : Launch) (D : va_G) (t : Nat → ClassId) (z : Nat) (x : Nat → Nat) (a_t : Nat) (a_t_pendingRows : Nat) (v_t_rows : Value) (v_t_index : Value) (v_t_answer : Value) (v_t_kept : Value) (v_t_settings : Value) (t_pendingCount : Int32) (t_totalCost : Int32) (t_pendingRows_ : (Nat → Int32)) (p1 : Int32) (sz : Nat) (t_pendingCount' : Int32) (t_pendingRows_' : (Nat → Int32)) (hF : f_X2_addPending t_pendingCount t_pendingRows_ p1 = some (t_pendingCount', t_pendingRows_')) : WrM l D (TY t) z x yX2_addPending wsX2_addPending rm_X2_addPending [.ref a_t, .int p1] [(a_t, .inr (2, [v_t_rows, v_t_index, v_t_answer, v_t_kept, v_t_settings, .ref a_t_pendingRows, .int t_pendingCount, .int t_totalCost])), (a_t_pendingRows, .inl (t 0, 31, .inl t_pendingRows_))] [(a_t, .inr (2, [v_t_rows, v_t_index, v_t_answer, v_t_kept, v_t_settings, .ref a_t_pendingRows, .int t_pendingCount', .int t_totalCost])), (a_t_pendingRows, .inl (t 0, 31, .inl t_pendingRows_'))] sz none 0 0 := by
  refine wr_of (cc := cX2_addPending) (maxL := 2) (ret := none) (by decide) rfl (Nat.le_of_ble_eq_true rfl) ?_
  intro p e s m args below meth c A Q hQ hx hb hr hml hts hown hlocks hin H locs hP hD hS hA hz hC ls hl
  have hown : s.vm.findClass RX2 = some m.cls := hown
  have hl : lv_has ls 2 [(0, .ref a_t), (1, .int p1)] := hl
  have hK := hC.1
  have iw2 : ∀ w ∈ wsX20, w ∈ wsX2_addPending := fun _ h => List.mem_cons_of_mem _ (List.mem_append_right _ h)
  have hf45 := hts (.fieldLink RX2 45 "CrackedColumn$Column" "pendingRows" "[I") (by decide +kernel)
  have hf48 := hts (.fieldLink RX2 48 "CrackedColumn$Column" "pendingCount" "I") (by decide +kernel)
  unfold f_X2_addPending at hF
  refine lv_aload_n hx hb dX2_addPending_0 rfl (lv_at hl 0 rfl) ?_
  refine va_get (D := D) (ci := 2) (v := .int t_pendingCount) (C := RX2) (T := TX2) (N := 8) hx hb hts iw2 hown hK hP 0 rfl rfl 6 (by decide) hf48 (fun _ h9 => h9) rfl dX2_addPending_1 ?_
  refine lv_if_lt (tgt := 36) hx hb dX2_addPending_4 (by decide) (fun c4 => ?_) (fun c4 => ?_)
  · have hF := brT c4 hF
    cases hF
    exact we_vret hx hb hr hlocks dX2_addPending_36 rfl hQ hP hD hS
  · have hF := brF c4 hF
    refine lv_aload_n hx hb dX2_addPending_7 rfl (lv_at hl 0 rfl) ?_
    refine va_get (D := D) (ci := 2) (v := .int t_pendingCount) (C := RX2) (T := TX2) (N := 8) hx hb hts iw2 hown hK hP 0 rfl rfl 6 (by decide) hf48 (fun _ h9 => h9) rfl dX2_addPending_8 ?_
    refine lv_bipush (v := 31) hx hb dX2_addPending_11 (by decide) ?_
    refine lv_icmp_ge (tgt := 36) hx hb dX2_addPending_13 (by decide) (fun c13 => ?_) (fun c13 => ?_)
    · have hF := brT c13 hF
      cases hF
      exact we_vret hx hb hr hlocks dX2_addPending_36 rfl hQ hP hD hS
    · have hF := brF c13 hF
      refine lv_aload_n hx hb dX2_addPending_16 rfl (lv_at hl 0 rfl) ?_
      refine va_get (D := D) (ci := 2) (v := .ref a_t_pendingRows) (C := RX2) (T := TX2) (N := 8) hx hb hts iw2 hown hK hP 0 rfl rfl 5 (by decide) hf45 (fun _ h9 => h9) rfl dX2_addPending_17 ?_
      refine lv_aload_n hx hb dX2_addPending_20 rfl (lv_at hl 0 rfl) ?_
      refine va_get (D := D) (ci := 2) (v := .int t_pendingCount) (C := RX2) (T := TX2) (N := 8) hx hb hts iw2 hown hK hP 0 rfl rfl 6 (by decide) hf48 (fun _ h9 => h9) rfl dX2_addPending_21 ?_
      refine lv_iload_n hx hb dX2_addPending_24 rfl (lv_at hl 1 rfl) ?_
      obtain ⟨g25_0, hF⟩ := gd hF
      obtain ⟨t_pendingRows_25_2, et_pendingRows_25_2⟩ : ∃ y : Nat → Int32, y = upd t_pendingRows_ t_pendingCount.toNatClampNeg p1 := ⟨_, rfl⟩
      have hF := ltE et_pendingRows_25_2 hF
      refine my_iast (g := t_pendingRows_25_2) (wn := [(a_t, .inr (2, [v_t_rows, v_t_index, v_t_answer, v_t_kept, v_t_settings, .ref a_t_pendingRows, .int t_pendingCount, .int t_totalCost])), (a_t_pendingRows, .inl (t 0, 31, .inl t_pendingRows_25_2))]) hx hb hK hP hD hS 1 0 rfl rfl g25_0 et_pendingRows_25_2 rfl dX2_addPending_25 (fun H locs hP hD hS => ?_)
      refine lv_aload_n hx hb dX2_addPending_26 rfl (lv_at hl 0 rfl) ?_
      refine lv_dup hx hb dX2_addPending_27 rfl ?_
      refine va_get (D := D) (ci := 2) (v := .int t_pendingCount) (C := RX2) (T := TX2) (N := 8) hx hb hts iw2 hown hK hP 0 rfl rfl 6 (by decide) hf48 (fun _ h9 => h9) rfl dX2_addPending_28 ?_
      refine lv_iconst (v := 1) hx hb dX2_addPending_31 (by decide) ?_
      refine lv_iadd hx hb dX2_addPending_32 ?_
      refine lv_topi (fun y33_3 ey33_3 => ?_)
      have hF := ltE ey33_3 hF
      refine my_put (ty := .int) (v := .int y33_3) (ci := 2) (C := RX2) (T := TX2) (N := 8) (wn := [(a_t, .inr (2, [v_t_rows, v_t_index, v_t_answer, v_t_kept, v_t_settings, .ref a_t_pendingRows, .int y33_3, .int t_totalCost])), (a_t_pendingRows, .inl (t 0, 31, .inl t_pendingRows_25_2))]) hx hb hts iw2 tyX2 tyX2_ok nmX2 hown hK hP hD hS 0 rfl rfl 6 (by decide) hf48 (fun _ h9 => h9) rfl (by decide +kernel) rfl rfl (Nat.le_of_ble_eq_true rfl) rfl dX2_addPending_33 (fun H locs hP hD hS => ?_)
      cases hF
      exact we_vret hx hb hr hlocks dX2_addPending_36 rfl hQ hP hD hS
abbrev rm_X2_removePending : Room := { frames := 1, cells := 0, slots := 0, locals := 21 }
theorem hd_X2_removePending : yX2_removePending.cls = RX2 ∧ yX2_removePending.cls ≠ "java/lang/invoke/MethodHandle" ∧ yX2_removePending.cls ≠ "java/lang/invoke/VarHandle" ∧ (parseMethodDescriptor yX2_removePending.desc).map (fun d => d.parameters.length) = some 1 := by decide +kernel
set_option maxRecDepth 100000 in
set_option maxHeartbeats 4000000 in
theorem c_X2_removePending (l : Launch) (D : va_G) (t : Nat → ClassId) (z : Nat) (x : Nat → Nat) (N : Nat) (a_t : Nat) (a_t_pendingRows : Nat) (v_t_rows : Value) (v_t_index : Value) (v_t_answer : Value) (v_t_kept : Value) (v_t_settings : Value) (t_pendingCount : Int32) (t_totalCost : Int32) (t_pendingRows_ : (Nat → Int32)) (p1 : Int32) (sz : Nat) (t_pendingCount' : Int32) (t_pendingRows_' : (Nat → Int32)) (hF : f_X2_removePending N t_pendingCount t_pendingRows_ p1 = some (t_pendingCount', t_pendingRows_')) : WrM l D (TY t) z x yX2_removePending wsX2_removePending rm_X2_removePending [.ref a_t, .int p1] [(a_t, .inr (2, [v_t_rows, v_t_index, v_t_answer, v_t_kept, v_t_settings, .ref a_t_pendingRows, .int t_pendingCount, .int t_totalCost])), (a_t_pendingRows, .inl (t 0, 31, .inl t_pendingRows_))] [(a_t, .inr (2, [v_t_rows, v_t_index, v_t_answer, v_t_kept, v_t_settings, .ref a_t_pendingRows, .int t_pendingCount', .int t_totalCost])), (a_t_pendingRows, .inl (t 0, 31, .inl t_pendingRows_'))] sz none 0 0 := by
  refine wr_of (cc := cX2_removePending) (maxL := 6) (ret := none) (by decide) rfl (Nat.le_of_ble_eq_true rfl) ?_
  intro p e s m args below meth c A Q hQ hx hb hr hml hts hown hlocks hin H locs hP hD hS hA hz hC ls hl
  have hown : s.vm.findClass RX2 = some m.cls := hown
  have hl : lv_has ls 6 [(0, .ref a_t), (1, .int p1)] := hl
  have hK := hC.1
  have iw2 : ∀ w ∈ wsX20, w ∈ wsX2_removePending := fun _ h => List.mem_cons_of_mem _ (List.mem_append_right _ h)
  have hf45 := hts (.fieldLink RX2 45 "CrackedColumn$Column" "pendingRows" "[I") (by decide +kernel)
  have hf48 := hts (.fieldLink RX2 48 "CrackedColumn$Column" "pendingCount" "I") (by decide +kernel)
  have hm_min198 := hts (.methodLink RX2 198 Lib.Math.min.name) (by decide +kernel)
  have hm_min_s := hts (.static Lib.Math.min.name) (by decide +kernel)
  have hm_min_c := hts (.code Lib.Math.min.name Lib.Math.min.code 2 (some .int)) (by decide +kernel)
  have hm_init := hts (.initialized "java/lang/Math") (by decide +kernel)
  unfold f_X2_removePending at hF
  refine lv_iconst (v := 0) hx hb dX2_removePending_0 (by decide) ?_
  refine lv_istore_n (lv' := [(2, .int 0), (0, .ref a_t), (1, .int p1)]) hx hb dX2_removePending_1 rfl hl (by decide) rfl (fun ls hl => ?_)
  refine lv_aload_n hx hb dX2_removePending_2 rfl (lv_at hl 1 rfl) ?_
  refine va_get (D := D) (ci := 2) (v := .int t_pendingCount) (C := RX2) (T := TX2) (N := 8) hx hb hts iw2 hown hK hP 0 rfl rfl 6 (by decide) hf48 (fun _ h9 => h9) rfl dX2_removePending_3 ?_
  refine lv_bipush (v := 31) hx hb dX2_removePending_6 (by decide) ?_
  refine va_mmin hx hb (hml.trans hl.1.symm) hown hm_min198 hm_min_s hm_init hm_min_c (Nat.le_of_ble_eq_true rfl) (Nat.le_of_ble_eq_true rfl) (Nat.zero_le _) (Nat.zero_le _) dX2_removePending_8 ?_
  refine lv_topi (fun y8_1 ey8_1 => ?_)
  have hF := ltE ey8_1 hF
  refine lv_istore_n (lv' := [(3, .int y8_1), (2, .int 0), (0, .ref a_t), (1, .int p1)]) hx hb dX2_removePending_11 rfl hl (by decide) rfl (fun ls hl => ?_)
  refine lv_iconst (v := 0) hx hb dX2_removePending_12 (by decide) ?_
  refine lv_istore (lv' := [(4, .int 0), (3, .int y8_1), (2, .int 0), (0, .ref a_t), (1, .int p1)]) hx hb dX2_removePending_13 hl (by decide) rfl (fun ls hl => ?_)
  obtain ⟨k53_4, ek53_4, hF⟩ := jnE hF
  have hk53_4 : ∀ (x2_53_2 : Int32) (t_pendingRows_53_3 : (Nat → Int32)) (H : Heap) (locs : List Loc) (ls : Array Slot), va_P D vwCl [(a_t, .inr (2, [v_t_rows, v_t_index, v_t_answer, v_t_kept, v_t_settings, .ref a_t_pendingRows, .int t_pendingCount, .int t_totalCost])), (a_t_pendingRows, .inl (t 0, 31, .inl t_pendingRows_53_3))] H → va_D A [(a_t, .inr (2, [v_t_rows, v_t_index, v_t_answer, v_t_kept, v_t_settings, .ref a_t_pendingRows, .int t_pendingCount, .int t_totalCost])), (a_t_pendingRows, .inl (t 0, 31, .inl t_pendingRows_53_3))] → va_S A s.heap H locs → lv_has ls 6 [(0, .ref a_t), (2, .int x2_53_2)] → k53_4 x2_53_2 t_pendingRows_53_3 = some (t_pendingCount', t_pendingRows_') → W p l e rm_X2_removePending s m args below meth c H locs 0 0 Q (F0 m 53 ls []) := by
    subst ek53_4
    intro x2_53_2 t_pendingRows_53_3 H locs ls hP hD hS hl hF
    refine lv_aload_n hx hb dX2_removePending_53 rfl (lv_at hl 0 rfl) ?_
    refine lv_iload_n hx hb dX2_removePending_54 rfl (lv_at hl 1 rfl) ?_
    refine my_put (ty := .int) (v := .int x2_53_2) (ci := 2) (C := RX2) (T := TX2) (N := 8) (wn := [(a_t, .inr (2, [v_t_rows, v_t_index, v_t_answer, v_t_kept, v_t_settings, .ref a_t_pendingRows, .int x2_53_2, .int t_totalCost])), (a_t_pendingRows, .inl (t 0, 31, .inl t_pendingRows_53_3))]) hx hb hts iw2 tyX2 tyX2_ok nmX2 hown hK hP hD hS 0 rfl rfl 6 (by decide) hf48 (fun _ h9 => h9) rfl (by decide +kernel) rfl rfl (Nat.le_of_ble_eq_true rfl) rfl dX2_removePending_55 (fun H locs hP hD hS => ?_)
    cases hF
    exact we_vret hx hb hr hlocks dX2_removePending_58 rfl hQ hP hD hS
  have hlp15 : ∀ n15 : Nat, ∀ (x2_15_5 : Int32) (x4_15_6 : Int32) (t_pendingRows_15_7 : (Nat → Int32)) (H : Heap) (locs : List Loc) (ls : Array Slot), va_P D vwCl [(a_t, .inr (2, [v_t_rows, v_t_index, v_t_answer, v_t_kept, v_t_settings, .ref a_t_pendingRows, .int t_pendingCount, .int t_totalCost])), (a_t_pendingRows, .inl (t 0, 31, .inl t_pendingRows_15_7))] H → va_D A [(a_t, .inr (2, [v_t_rows, v_t_index, v_t_answer, v_t_kept, v_t_settings, .ref a_t_pendingRows, .int t_pendingCount, .int t_totalCost])), (a_t_pendingRows, .inl (t 0, 31, .inl t_pendingRows_15_7))] → va_S A s.heap H locs → lv_has ls 6 [(0, .ref a_t), (1, .int p1), (2, .int x2_15_5), (3, .int y8_1), (4, .int x4_15_6)] → f_X2_removePending_15 p1 y8_1 k53_4 n15 x2_15_5 x4_15_6 t_pendingRows_15_7 = some (t_pendingCount', t_pendingRows_') → W p l e rm_X2_removePending s m args below meth c H locs 0 0 Q (F0 m 15 ls []) := by
    intro n15
    induction n15 with
    | zero =>
      intro x2_15_5 x4_15_6 t_pendingRows_15_7 H locs ls hP hD hS hl hF
      cases (show none = some (t_pendingCount', t_pendingRows_') from hF)
    | succ n15 ih15 =>
      intro x2_15_5 x4_15_6 t_pendingRows_15_7 H locs ls hP hD hS hl hF
      rw [f_X2_removePending_15] at hF
      refine lv_iload hx hb dX2_removePending_15 (lv_at hl 4 rfl) ?_
      refine lv_iload_n hx hb dX2_removePending_17 rfl (lv_at hl 3 rfl) ?_
      refine lv_icmp_ge (tgt := 53) hx hb dX2_removePending_18 (by decide) (fun c18 => ?_) (fun c18 => ?_)
      · have hF := brT c18 hF
        exact hk53_4 x2_15_5 t_pendingRows_15_7 H locs ls hP hD hS (lv_sub hl [0, 2] rfl) hF
      · have hF := brF c18 hF
        refine lv_aload_n hx hb dX2_removePending_21 rfl (lv_at hl 0 rfl) ?_
        refine va_get (D := D) (ci := 2) (v := .ref a_t_pendingRows) (C := RX2) (T := TX2) (N := 8) hx hb hts iw2 hown hK hP 0 rfl rfl 5 (by decide) hf45 (fun _ h9 => h9) rfl dX2_removePending_22 ?_
        refine lv_iload hx hb dX2_removePending_25 (lv_at hl 4 rfl) ?_
        obtain ⟨g27_7, hF⟩ := gd hF
        refine my_iald (v := t_pendingRows_15_7 x4_15_6.toNatClampNeg) hx hb hK hP 1 0 rfl rfl g27_7 rfl dX2_removePending_27 ?_
        refine lv_topi (fun y28_9 ey28_9 => ?_)
        have hF := ltE ey28_9 hF
        refine lv_istore (lv' := [(5, .int y28_9), (0, .ref a_t), (1, .int p1), (2, .int x2_15_5), (3, .int y8_1), (4, .int x4_15_6)]) hx hb dX2_removePending_28 hl (by decide) rfl (fun ls hl => ?_)
        refine lv_iload hx hb dX2_removePending_30 (lv_at hl 0 rfl) ?_
        refine lv_iload_n hx hb dX2_removePending_32 rfl (lv_at hl 2 rfl) ?_
        refine lv_icmp_eq (tgt := 47) hx hb dX2_removePending_33 (by decide) (fun c33 => ?_) (fun c33 => ?_)
        · have hF := brT c33 hF
          obtain ⟨y47_10, ey47_10⟩ : ∃ y : Int32, y = x4_15_6 + 1 := ⟨_, rfl⟩
          have hF := ltE ey47_10 hF
          refine lv_iinc (v := y47_10) (lv' := [(4, .int y47_10), (5, .int y28_9), (0, .ref a_t), (1, .int p1), (2, .int x2_15_5), (3, .int y8_1)]) hx hb dX2_removePending_47 hl (k := 5) rfl (by rw [ey47_10]; rfl) (by decide) rfl (fun ls hl => ?_)
          refine lv_goto (tgt := 15) hx hb dX2_removePending_50 (by decide) ?_
          exact ih15 x2_15_5 y47_10 t_pendingRows_15_7 H locs ls hP hD hS (lv_sub hl [2, 3, 4, 5, 0] rfl) hF
        · have hF := brF c33 hF
          refine lv_aload_n hx hb dX2_removePending_36 rfl (lv_at hl 1 rfl) ?_
          refine va_get (D := D) (ci := 2) (v := .ref a_t_pendingRows) (C := RX2) (T := TX2) (N := 8) hx hb hts iw2 hown hK hP 0 rfl rfl 5 (by decide) hf45 (fun _ h9 => h9) rfl dX2_removePending_37 ?_
          refine lv_iload_n hx hb dX2_removePending_40 rfl (lv_at hl 3 rfl) ?_
          refine lv_iload hx hb dX2_removePending_41 (lv_at hl 0 rfl) ?_
          obtain ⟨g43_11, hF⟩ := gd hF
          obtain ⟨t_pendingRows_43_12, et_pendingRows_43_12⟩ : ∃ y : Nat → Int32, y = upd t_pendingRows_15_7 x2_15_5.toNatClampNeg y28_9 := ⟨_, rfl⟩
          have hF := ltE et_pendingRows_43_12 hF
          refine my_iast (g := t_pendingRows_43_12) (wn := [(a_t, .inr (2, [v_t_rows, v_t_index, v_t_answer, v_t_kept, v_t_settings, .ref a_t_pendingRows, .int t_pendingCount, .int t_totalCost])), (a_t_pendingRows, .inl (t 0, 31, .inl t_pendingRows_43_12))]) hx hb hK hP hD hS 1 0 rfl rfl g43_11 et_pendingRows_43_12 rfl dX2_removePending_43 (fun H locs hP hD hS => ?_)
          obtain ⟨y44_13, ey44_13⟩ : ∃ y : Int32, y = x2_15_5 + 1 := ⟨_, rfl⟩
          have hF := ltE ey44_13 hF
          refine lv_iinc (v := y44_13) (lv' := [(2, .int y44_13), (5, .int y28_9), (0, .ref a_t), (1, .int p1), (3, .int y8_1), (4, .int x4_15_6)]) hx hb dX2_removePending_44 hl (k := 3) rfl (by rw [ey44_13]; rfl) (by decide) rfl (fun ls hl => ?_)
          obtain ⟨y47_14, ey47_14⟩ : ∃ y : Int32, y = x4_15_6 + 1 := ⟨_, rfl⟩
          have hF := ltE ey47_14 hF
          refine lv_iinc (v := y47_14) (lv' := [(4, .int y47_14), (2, .int y44_13), (5, .int y28_9), (0, .ref a_t), (1, .int p1), (3, .int y8_1)]) hx hb dX2_removePending_47 hl (k := 5) rfl (by rw [ey47_14]; rfl) (by decide) rfl (fun ls hl => ?_)
          refine lv_goto (tgt := 15) hx hb dX2_removePending_50 (by decide) ?_
          exact ih15 y44_13 y47_14 t_pendingRows_43_12 H locs ls hP hD hS (lv_sub hl [3, 4, 1, 5, 0] rfl) hF
  exact hlp15 N 0 0 t_pendingRows_ H locs ls hP hD hS (lv_sub hl [3, 4, 2, 1, 0] rfl) hF
abbrev rm_X2_setting : Room := { frames := 1, cells := 0, slots := 0, locals := 20 }
theorem hd_X2_setting : yX2_setting.cls = RX2 ∧ yX2_setting.cls ≠ "java/lang/invoke/MethodHandle" ∧ yX2_setting.cls ≠ "java/lang/invoke/VarHandle" ∧ (parseMethodDescriptor yX2_setting.desc).map (fun d => d.parameters.length) = some 1 := by decide +kernel
set_option maxRecDepth 100000 in
set_option maxHeartbeats 4000000 in
theorem c_X2_setting (l : Launch) (D : va_G) (t : Nat → ClassId) (z : Nat) (x : Nat → Nat) (a_t : Nat) (a_t_settings : Nat) (v_t_rows : Value) (v_t_index : Value) (v_t_answer : Value) (v_t_kept : Value) (v_t_pendingRows : Value) (t_pendingCount : Int32) (t_totalCost : Int32) (t_settings_ : (Nat → Int32)) (p1 : Int32) (H : Heap) (r : Int32) (hF : f_X2_setting t_settings_ p1 = some (r)) : RdM l D (TY t) z x yX2_setting wsX2_setting rm_X2_setting [.ref a_t, .int p1] [(a_t, .inr (2, [v_t_rows, v_t_index, v_t_answer, v_t_kept, .ref a_t_settings, v_t_pendingRows, .int t_pendingCount, .int t_totalCost])), (a_t_settings, .inl (t 0, 4, .inl t_settings_))] H (some (.int r)) := by
  refine rd_of (cc := cX2_setting) (maxL := 2) (ret := (some .int)) (by decide) rfl (Nat.le_of_ble_eq_true rfl) ?_
  intro p e s m args below meth c Q hQ hx hb hr hml hts hown hlocks hH hP hC ls hl
  have hown : s.vm.findClass RX2 = some m.cls := hown
  have hl : lv_has ls 2 [(0, .ref a_t), (1, .int p1)] := hl
  have hK := hC.1
  have iw2 : ∀ w ∈ wsX20, w ∈ wsX2_setting := fun _ h => List.mem_cons_of_mem _ (List.mem_append_right _ h)
  have hf41 := hts (.fieldLink RX2 41 "CrackedColumn$Column" "settings" "[I") (by decide +kernel)
  have hini_X7 := hts (.initialized RX7) (by decide +kernel)
  unfold f_X2_setting at hF
  refine lv_iload_n hx hb dX2_setting_0 rfl (lv_at hl 1 rfl) ?_
  obtain ⟨r1_1, h1_1, hF⟩ := bndE hF
  refine rdSN (As := [.int p1]) (rest := []) ⟨hx, hb, hml, hown, hts⟩ (c_X7_isSetting l D t z x p1 H r1_1 h1_1) ⟨va_cnB 1 hts gX2_setting_X7_isSetting_n92 rfl rfl rfl (nw_6 hC.2.1) hini_X7 hd_X7_isSetting.2 ⟨Nat.le_of_ble_eq_true rfl, Nat.le_of_ble_eq_true rfl⟩, hts (.static yX7_isSetting) (by decide +kernel), trivial⟩ hC (selP (m9 := [false, false]) rfl rfl hP) rfl hl.1 rfl (Nat.le_of_ble_eq_true rfl) dX2_setting_1 ⟨Nat.zero_le _, Nat.zero_le _⟩ rfl ?_
  refine lv_if_eq (tgt := 16) hx hb dX2_setting_4 (by decide) (fun c4 => ?_) (fun c4 => ?_)
  · have hF := brT c4 hF
    refine lv_iconst (v := 0) hx hb dX2_setting_16 (by decide) ?_
    cases hF
    exact rd_iret hx hb hr hlocks dX2_setting_17 rfl hQ
  · have hF := brF c4 hF
    refine lv_aload_n hx hb dX2_setting_7 rfl (lv_at hl 0 rfl) ?_
    refine va_get (D := D) (ci := 2) (v := .ref a_t_settings) (C := RX2) (T := TX2) (N := 8) hx hb hts iw2 hown hK hP 0 rfl rfl 4 (by decide) hf41 (fun _ h9 => h9) rfl dX2_setting_8 ?_
    refine lv_iload_n hx hb dX2_setting_11 rfl (lv_at hl 1 rfl) ?_
    obtain ⟨g12_2, hF⟩ := gd hF
    refine my_iald (v := t_settings_ p1.toNatClampNeg) hx hb hK hP 1 0 rfl rfl g12_2 rfl dX2_setting_12 ?_
    refine lv_goto (tgt := 17) hx hb dX2_setting_13 (by decide) ?_
    cases hF
    exact rd_iret hx hb hr hlocks dX2_setting_17 rfl hQ
abbrev rm_X2_putSetting : Room := { frames := 1, cells := 0, slots := 0, locals := 20 }
theorem hd_X2_putSetting : yX2_putSetting.cls = RX2 ∧ yX2_putSetting.cls ≠ "java/lang/invoke/MethodHandle" ∧ yX2_putSetting.cls ≠ "java/lang/invoke/VarHandle" ∧ (parseMethodDescriptor yX2_putSetting.desc).map (fun d => d.parameters.length) = some 2 := by decide +kernel
set_option maxRecDepth 100000 in
set_option maxHeartbeats 4000000 in
theorem c_X2_putSetting (l : Launch) (D : va_G) (t : Nat → ClassId) (z : Nat) (x : Nat → Nat) (a_t : Nat) (a_t_settings : Nat) (v_t_rows : Value) (v_t_index : Value) (v_t_answer : Value) (v_t_kept : Value) (v_t_pendingRows : Value) (t_pendingCount : Int32) (t_totalCost : Int32) (t_settings_ : (Nat → Int32)) (p1 : Int32) (p2 : Int32) (sz : Nat) (t_settings_' : (Nat → Int32)) (hF : f_X2_putSetting t_settings_ p1 p2 = some (t_settings_')) : WrM l D (TY t) z x yX2_putSetting wsX2_putSetting rm_X2_putSetting [.ref a_t, .int p1, .int p2] [(a_t, .inr (2, [v_t_rows, v_t_index, v_t_answer, v_t_kept, .ref a_t_settings, v_t_pendingRows, .int t_pendingCount, .int t_totalCost])), (a_t_settings, .inl (t 0, 4, .inl t_settings_))] [(a_t, .inr (2, [v_t_rows, v_t_index, v_t_answer, v_t_kept, .ref a_t_settings, v_t_pendingRows, .int t_pendingCount, .int t_totalCost])), (a_t_settings, .inl (t 0, 4, .inl t_settings_'))] sz none 0 0 := by
  refine wr_of (cc := cX2_putSetting) (maxL := 3) (ret := none) (by decide) rfl (Nat.le_of_ble_eq_true rfl) ?_
  intro p e s m args below meth c A Q hQ hx hb hr hml hts hown hlocks hin H locs hP hD hS hA hz hC ls hl
  have hown : s.vm.findClass RX2 = some m.cls := hown
  have hl : lv_has ls 3 [(0, .ref a_t), (1, .int p1), (2, .int p2)] := hl
  have hK := hC.1
  have iw2 : ∀ w ∈ wsX20, w ∈ wsX2_putSetting := fun _ h => List.mem_cons_of_mem _ (List.mem_append_right _ h)
  have hf41 := hts (.fieldLink RX2 41 "CrackedColumn$Column" "settings" "[I") (by decide +kernel)
  have hini_X7 := hts (.initialized RX7) (by decide +kernel)
  unfold f_X2_putSetting at hF
  refine lv_iload_n hx hb dX2_putSetting_0 rfl (lv_at hl 1 rfl) ?_
  obtain ⟨r1_1, h1_1, hF⟩ := bndE hF
  refine rdSN (As := [.int p1]) (rest := []) ⟨hx, hb, hml, hown, hts⟩ (c_X7_isSetting l D t z x p1 H r1_1 h1_1) ⟨va_cnB 1 hts gX2_putSetting_X7_isSetting_n92 rfl rfl rfl (nw_6 hC.2.1) hini_X7 hd_X7_isSetting.2 ⟨Nat.le_of_ble_eq_true rfl, Nat.le_of_ble_eq_true rfl⟩, hts (.static yX7_isSetting) (by decide +kernel), trivial⟩ (hC.at hz hS) (selP (m9 := [false, false]) rfl rfl hP) rfl hl.1 rfl (Nat.le_of_ble_eq_true rfl) dX2_putSetting_1 ⟨Nat.zero_le _, Nat.zero_le _⟩ rfl ?_
  refine lv_if_eq (tgt := 14) hx hb dX2_putSetting_4 (by decide) (fun c4 => ?_) (fun c4 => ?_)
  · have hF := brT c4 hF
    cases hF
    exact we_vret hx hb hr hlocks dX2_putSetting_14 rfl hQ hP hD hS
  · have hF := brF c4 hF
    refine lv_aload_n hx hb dX2_putSetting_7 rfl (lv_at hl 0 rfl) ?_
    refine va_get (D := D) (ci := 2) (v := .ref a_t_settings) (C := RX2) (T := TX2) (N := 8) hx hb hts iw2 hown hK hP 0 rfl rfl 4 (by decide) hf41 (fun _ h9 => h9) rfl dX2_putSetting_8 ?_
    refine lv_iload_n hx hb dX2_putSetting_11 rfl (lv_at hl 1 rfl) ?_
    refine lv_iload_n hx hb dX2_putSetting_12 rfl (lv_at hl 2 rfl) ?_
    obtain ⟨g13_2, hF⟩ := gd hF
    obtain ⟨t_settings_13_4, et_settings_13_4⟩ : ∃ y : Nat → Int32, y = upd t_settings_ p1.toNatClampNeg p2 := ⟨_, rfl⟩
    have hF := ltE et_settings_13_4 hF
    refine my_iast (g := t_settings_13_4) (wn := [(a_t, .inr (2, [v_t_rows, v_t_index, v_t_answer, v_t_kept, .ref a_t_settings, v_t_pendingRows, .int t_pendingCount, .int t_totalCost])), (a_t_settings, .inl (t 0, 4, .inl t_settings_13_4))]) hx hb hK hP hD hS 1 0 rfl rfl g13_2 et_settings_13_4 rfl dX2_putSetting_13 (fun H locs hP hD hS => ?_)
    cases hF
    exact we_vret hx hb hr hlocks dX2_putSetting_14 rfl hQ hP hD hS
abbrev rm_X2_isToSort : Room := { frames := 3, cells := 0, slots := 0, locals := 63 }
theorem hd_X2_isToSort : yX2_isToSort.cls = RX2 ∧ yX2_isToSort.cls ≠ "java/lang/invoke/MethodHandle" ∧ yX2_isToSort.cls ≠ "java/lang/invoke/VarHandle" ∧ (parseMethodDescriptor yX2_isToSort.desc).map (fun d => d.parameters.length) = some 1 := by decide +kernel
set_option maxRecDepth 100000 in
set_option maxHeartbeats 4000000 in
theorem c_X2_isToSort (l : Launch) (D : va_G) (t : Nat → ClassId) (z : Nat) (x : Nat → Nat) (a_t : Nat) (a_t_index : Nat) (a_t_index_heats : Nat) (a_t_index_sorted : Nat) (a_t_index_starts : Nat) (a_t_settings : Nat) (v_t_rows : Value) (v_t_answer : Value) (v_t_kept : Value) (v_t_pendingRows : Value) (v_t_index_rows : Value) (v_t_index_entries : Value) (v_t_index_bounds : Value) (t_pendingCount : Int32) (t_totalCost : Int32) (t_index_size : Int32) (t_index_pieces : Int32) (t_index_heats_ : (Nat → Int32)) (t_index_sorted_ : (Nat → Int32)) (t_index_starts_ : (Nat → Int32)) (t_settings_ : (Nat → Int32)) (p1 : Int32) (H : Heap) (r : Int32) (hF : f_X2_isToSort t_index_size t_index_pieces t_index_heats_ t_index_sorted_ t_index_starts_ t_settings_ p1 = some (r)) : RdM l D (TY t) z x yX2_isToSort wsX2_isToSort rm_X2_isToSort [.ref a_t, .int p1] [(a_t, .inr (2, [v_t_rows, .ref a_t_index, v_t_answer, v_t_kept, .ref a_t_settings, v_t_pendingRows, .int t_pendingCount, .int t_totalCost])), (a_t_index, .inr (3, [v_t_index_rows, v_t_index_entries, v_t_index_bounds, .ref a_t_index_starts, .ref a_t_index_heats, .ref a_t_index_sorted, .int t_index_size, .int t_index_pieces])), (a_t_index_heats, .inl (t 0, 62, .inl t_index_heats_)), (a_t_index_sorted, .inl (t 0, 62, .inl t_index_sorted_)), (a_t_index_starts, .inl (t 0, 62, .inl t_index_starts_)), (a_t_settings, .inl (t 0, 4, .inl t_settings_))] H (some (.int r)) := by
  refine rd_of (cc := cX2_isToSort) (maxL := 3) (ret := (some .boolean)) (by decide) rfl (Nat.le_of_ble_eq_true rfl) ?_
  intro p e s m args below meth c Q hQ hx hb hr hml hts hown hlocks hH hP hC ls hl
  have hown : s.vm.findClass RX2 = some m.cls := hown
  have hl : lv_has ls 3 [(0, .ref a_t), (1, .int p1)] := hl
  have hK := hC.1
  have iw2 : ∀ w ∈ wsX20, w ∈ wsX2_isToSort := fun _ h => List.mem_cons_of_mem _ (List.mem_append_left _ (List.mem_append_right _ h))
  have hf23 := hts (.fieldLink RX2 23 "CrackedColumn$Column" "index" "LCrackedColumn$Index;") (by decide +kernel)
  unfold f_X2_isToSort at hF
  refine lv_aload_n hx hb dX2_isToSort_0 rfl (lv_at hl 0 rfl) ?_
  refine va_get (D := D) (ci := 2) (v := .ref a_t_index) (C := RX2) (T := TX2) (N := 8) hx hb hts iw2 hown hK hP 0 rfl rfl 1 (by decide) hf23 (fun _ h9 => h9) rfl dX2_isToSort_1 ?_
  refine lv_iload_n hx hb dX2_isToSort_4 rfl (lv_at hl 1 rfl) ?_
  obtain ⟨r5_1, h5_1, hF⟩ := bndE hF
  refine rdV (As := [.int p1]) (rest := []) (C := RX3) ⟨hx, hb, hml, hown, hts⟩ (c_X3_sizeOf l D t z x a_t_index a_t_index_starts v_t_index_rows v_t_index_entries v_t_index_bounds (.ref a_t_index_heats) (.ref a_t_index_sorted) t_index_size t_index_pieces t_index_starts_ p1 H r5_1 h5_1) (cwV 1 hts gX2_isToSort_X3_sizeOf rfl rfl rfl hd_X3_sizeOf ⟨Nat.le_of_ble_eq_true rfl, Nat.le_of_ble_eq_true rfl⟩) hC (selP (m9 := [false, true, false, false, true, false]) rfl rfl hP) 0 rfl (show vwCl[3]? = some (RX3, TX3, 8) from rfl) rfl rfl hl.1 rfl (Nat.le_of_ble_eq_true rfl) dX2_isToSort_5 ⟨Nat.zero_le _, Nat.zero_le _⟩ rfl ?_
  refine lv_istore_n (lv' := [(2, .int r5_1), (0, .ref a_t), (1, .int p1)]) hx hb dX2_isToSort_8 rfl hl (by decide) rfl (fun ls hl => ?_)
  refine lv_aload_n hx hb dX2_isToSort_9 rfl (lv_at hl 1 rfl) ?_
  refine va_get (D := D) (ci := 2) (v := .ref a_t_index) (C := RX2) (T := TX2) (N := 8) hx hb hts iw2 hown hK hP 0 rfl rfl 1 (by decide) hf23 (fun _ h9 => h9) rfl dX2_isToSort_10 ?_
  refine lv_iload_n hx hb dX2_isToSort_13 rfl (lv_at hl 2 rfl) ?_
  obtain ⟨r14_3, h14_3, hF⟩ := bndE hF
  refine rdV (As := [.int p1]) (rest := []) (C := RX3) ⟨hx, hb, hml, hown, hts⟩ (c_X3_isSorted l D t z x a_t_index a_t_index_sorted v_t_index_rows v_t_index_entries v_t_index_bounds (.ref a_t_index_starts) (.ref a_t_index_heats) t_index_size t_index_pieces t_index_sorted_ p1 H r14_3 h14_3) (cwV 1 hts gX2_isToSort_X3_isSorted rfl rfl rfl hd_X3_isSorted ⟨Nat.le_of_ble_eq_true rfl, Nat.le_of_ble_eq_true rfl⟩) hC (selP (m9 := [false, true, false, true, false, false]) rfl rfl hP) 0 rfl (show vwCl[3]? = some (RX3, TX3, 8) from rfl) rfl rfl hl.1 rfl (Nat.le_of_ble_eq_true rfl) dX2_isToSort_14 ⟨Nat.zero_le _, Nat.zero_le _⟩ rfl ?_
  refine lv_if_ne (tgt := 54) hx hb dX2_isToSort_17 (by decide) (fun c17 => ?_) (fun c17 => ?_)
  · have hF := brF c17 hF
    refine lv_iconst (v := 0) hx hb dX2_isToSort_54 (by decide) ?_
    cases hF
    exact rd_zret hx hb hr hlocks dX2_isToSort_55 rfl rfl hQ
  · have hF := brT c17 hF
    refine lv_aload_n hx hb dX2_isToSort_20 rfl (lv_at hl 1 rfl) ?_
    refine va_get (D := D) (ci := 2) (v := .ref a_t_index) (C := RX2) (T := TX2) (N := 8) hx hb hts iw2 hown hK hP 0 rfl rfl 1 (by decide) hf23 (fun _ h9 => h9) rfl dX2_isToSort_21 ?_
    refine lv_iload_n hx hb dX2_isToSort_24 rfl (lv_at hl 2 rfl) ?_
    obtain ⟨r25_5, h25_5, hF⟩ := bndE hF
    refine rdV (As := [.int p1]) (rest := []) (C := RX3) ⟨hx, hb, hml, hown, hts⟩ (c_X3_heatOf l D t z x a_t_index a_t_index_heats v_t_index_rows v_t_index_entries v_t_index_bounds (.ref a_t_index_starts) (.ref a_t_index_sorted) t_index_size t_index_pieces t_index_heats_ p1 H r25_5 h25_5) (cwV 1 hts gX2_isToSort_X3_heatOf rfl rfl rfl hd_X3_heatOf ⟨Nat.le_of_ble_eq_true rfl, Nat.le_of_ble_eq_true rfl⟩) hC (selP (m9 := [false, true, true, false, false, false]) rfl rfl hP) 0 rfl (show vwCl[3]? = some (RX3, TX3, 8) from rfl) rfl rfl hl.1 rfl (Nat.le_of_ble_eq_true rfl) dX2_isToSort_25 ⟨Nat.zero_le _, Nat.zero_le _⟩ rfl ?_
    refine lv_aload_n hx hb dX2_isToSort_28 rfl (lv_at hl 1 rfl) ?_
    refine lv_iconst (v := 0) hx hb dX2_isToSort_29 (by decide) ?_
    obtain ⟨r30_7, h30_7, hF⟩ := bndE hF
    refine rdV (As := [.int 0]) (rest := [.int r25_5]) (C := RX2) ⟨hx, hb, hml, hown, hts⟩ (c_X2_setting l D t z x a_t a_t_settings v_t_rows (.ref a_t_index) v_t_answer v_t_kept v_t_pendingRows t_pendingCount t_totalCost t_settings_ 0 H r30_7 h30_7) (cwV 1 hts gX2_isToSort_X2_setting rfl rfl rfl hd_X2_setting ⟨Nat.le_of_ble_eq_true rfl, Nat.le_of_ble_eq_true rfl⟩) hC (selP (m9 := [true, false, false, false, false, true]) rfl rfl hP) 0 rfl (show vwCl[2]? = some (RX2, TX2, 8) from rfl) rfl rfl hl.1 rfl (Nat.le_of_ble_eq_true rfl) dX2_isToSort_30 ⟨Nat.zero_le _, Nat.zero_le _⟩ rfl ?_
    refine lv_icmp_lt (tgt := 54) hx hb dX2_isToSort_33 (by decide) (fun c33 => ?_) (fun c33 => ?_)
    · have hF := brT c33 hF
      refine lv_iconst (v := 0) hx hb dX2_isToSort_54 (by decide) ?_
      cases hF
      exact rd_zret hx hb hr hlocks dX2_isToSort_55 rfl rfl hQ
    · have hF := brF c33 hF
      refine lv_iload_n hx hb dX2_isToSort_36 rfl (lv_at hl 0 rfl) ?_
      refine lv_iconst (v := 2) hx hb dX2_isToSort_37 (by decide) ?_
      refine lv_icmp_lt (tgt := 54) hx hb dX2_isToSort_38 (by decide) (fun c38 => ?_) (fun c38 => ?_)
      · have hF := brT c38 hF
        refine lv_iconst (v := 0) hx hb dX2_isToSort_54 (by decide) ?_
        cases hF
        exact rd_zret hx hb hr hlocks dX2_isToSort_55 rfl rfl hQ
      · have hF := brF c38 hF
        refine lv_iload_n hx hb dX2_isToSort_41 rfl (lv_at hl 0 rfl) ?_
        refine lv_aload_n hx hb dX2_isToSort_42 rfl (lv_at hl 1 rfl) ?_
        refine lv_iconst (v := 1) hx hb dX2_isToSort_43 (by decide) ?_
        obtain ⟨r44_9, h44_9, hF⟩ := bndE hF
        refine rdV (As := [.int 1]) (rest := [.int r5_1]) (C := RX2) ⟨hx, hb, hml, hown, hts⟩ (c_X2_setting l D t z x a_t a_t_settings v_t_rows (.ref a_t_index) v_t_answer v_t_kept v_t_pendingRows t_pendingCount t_totalCost t_settings_ 1 H r44_9 h44_9) (cwV 1 hts gX2_isToSort_X2_setting rfl rfl rfl hd_X2_setting ⟨Nat.le_of_ble_eq_true rfl, Nat.le_of_ble_eq_true rfl⟩) hC (selP (m9 := [true, false, false, false, false, true]) rfl rfl hP) 0 rfl (show vwCl[2]? = some (RX2, TX2, 8) from rfl) rfl rfl hl.1 rfl (Nat.le_of_ble_eq_true rfl) dX2_isToSort_44 ⟨Nat.zero_le _, Nat.zero_le _⟩ rfl ?_
        refine lv_icmp_gt (tgt := 54) hx hb dX2_isToSort_47 (by decide) (fun c47 => ?_) (fun c47 => ?_)
        · have hF := brT c47 hF
          refine lv_iconst (v := 0) hx hb dX2_isToSort_54 (by decide) ?_
          cases hF
          exact rd_zret hx hb hr hlocks dX2_isToSort_55 rfl rfl hQ
        · have hF := brF c47 hF
          refine lv_iconst (v := 1) hx hb dX2_isToSort_50 (by decide) ?_
          refine lv_goto (tgt := 55) hx hb dX2_isToSort_51 (by decide) ?_
          cases hF
          exact rd_zret hx hb hr hlocks dX2_isToSort_55 rfl rfl hQ
abbrev rm_X2_dropBounds : Room := { frames := 4, cells := 0, slots := 0, locals := 85 }
theorem hd_X2_dropBounds : yX2_dropBounds.cls = RX2 ∧ yX2_dropBounds.cls ≠ "java/lang/invoke/MethodHandle" ∧ yX2_dropBounds.cls ≠ "java/lang/invoke/VarHandle" ∧ (parseMethodDescriptor yX2_dropBounds.desc).map (fun d => d.parameters.length) = some 0 := by decide +kernel
set_option maxRecDepth 100000 in
set_option maxHeartbeats 4000000 in
theorem c_X2_dropBounds (l : Launch) (D : va_G) (t : Nat → ClassId) (z : Nat) (x : Nat → Nat) (N : Nat) (a_t : Nat) (a_t_answer : Nat) (a_t_answer_numbers : Nat) (a_t_index : Nat) (a_t_index_bounds : Nat) (a_t_index_heats : Nat) (a_t_index_sorted : Nat) (a_t_index_starts : Nat) (a_t_settings : Nat) (v_t_rows : Value) (v_t_kept : Value) (v_t_pendingRows : Value) (v_t_index_rows : Value) (v_t_index_entries : Value) (t_pendingCount : Int32) (t_totalCost : Int32) (t_answer_given : Int32) (t_answer_numbers_ : (Nat → Int32)) (t_index_size : Int32) (t_index_pieces : Int32) (t_index_bounds_ : (Nat → Int32)) (t_index_heats_ : (Nat → Int32)) (t_index_sorted_ : (Nat → Int32)) (t_index_starts_ : (Nat → Int32)) (t_settings_ : (Nat → Int32)) (sz : Nat) (t_answer_numbers_' : (Nat → Int32)) (t_index_pieces' : Int32) (t_index_bounds_' : (Nat → Int32)) (t_index_heats_' : (Nat → Int32)) (t_index_sorted_' : (Nat → Int32)) (t_index_starts_' : (Nat → Int32)) (hF : f_X2_dropBounds N t_answer_numbers_ t_index_pieces t_index_bounds_ t_index_heats_ t_index_sorted_ t_index_starts_ t_settings_ = some (t_answer_numbers_', t_index_pieces', t_index_bounds_', t_index_heats_', t_index_sorted_', t_index_starts_')) : WrM l D (TY t) z x yX2_dropBounds wsX2_dropBounds rm_X2_dropBounds [.ref a_t] [(a_t, .inr (2, [v_t_rows, .ref a_t_index, .ref a_t_answer, v_t_kept, .ref a_t_settings, v_t_pendingRows, .int t_pendingCount, .int t_totalCost])), (a_t_answer, .inr (0, [.ref a_t_answer_numbers, .int t_answer_given])), (a_t_answer_numbers, .inl (t 0, 9, .inl t_answer_numbers_)), (a_t_index, .inr (3, [v_t_index_rows, v_t_index_entries, .ref a_t_index_bounds, .ref a_t_index_starts, .ref a_t_index_heats, .ref a_t_index_sorted, .int t_index_size, .int t_index_pieces])), (a_t_index_bounds, .inl (t 0, 62, .inl t_index_bounds_)), (a_t_index_heats, .inl (t 0, 62, .inl t_index_heats_)), (a_t_index_sorted, .inl (t 0, 62, .inl t_index_sorted_)), (a_t_index_starts, .inl (t 0, 62, .inl t_index_starts_)), (a_t_settings, .inl (t 0, 4, .inl t_settings_))] [(a_t, .inr (2, [v_t_rows, .ref a_t_index, .ref a_t_answer, v_t_kept, .ref a_t_settings, v_t_pendingRows, .int t_pendingCount, .int t_totalCost])), (a_t_answer, .inr (0, [.ref a_t_answer_numbers, .int t_answer_given])), (a_t_answer_numbers, .inl (t 0, 9, .inl t_answer_numbers_')), (a_t_index, .inr (3, [v_t_index_rows, v_t_index_entries, .ref a_t_index_bounds, .ref a_t_index_starts, .ref a_t_index_heats, .ref a_t_index_sorted, .int t_index_size, .int t_index_pieces'])), (a_t_index_bounds, .inl (t 0, 62, .inl t_index_bounds_')), (a_t_index_heats, .inl (t 0, 62, .inl t_index_heats_')), (a_t_index_sorted, .inl (t 0, 62, .inl t_index_sorted_')), (a_t_index_starts, .inl (t 0, 62, .inl t_index_starts_')), (a_t_settings, .inl (t 0, 4, .inl t_settings_))] sz none 0 0 := by
  obtain ⟨T9, hT⟩ : ∃ T9, T9 = (t_answer_numbers_', t_index_pieces', t_index_bounds_', t_index_heats_', t_index_sorted_', t_index_starts_') := ⟨_, rfl⟩
  rw [← hT] at hF
  obtain rfl : t_answer_numbers_' = T9.1 := by rw [hT]
  obtain rfl : t_index_pieces' = T9.2.1 := by rw [hT]
  obtain rfl : t_index_bounds_' = T9.2.2.1 := by rw [hT]
  obtain rfl : t_index_heats_' = T9.2.2.2.1 := by rw [hT]
  obtain rfl : t_index_sorted_' = T9.2.2.2.2.1 := by rw [hT]
  obtain rfl : t_index_starts_' = T9.2.2.2.2.2 := by rw [hT]
  clear hT
  refine wr_of (cc := cX2_dropBounds) (maxL := 3) (ret := none) (by decide) rfl (Nat.le_of_ble_eq_true rfl) ?_
  intro p e s m args below meth c A Q hQ hx hb hr hml hts hown hlocks hin H locs hP hD hS hA hz hC ls hl
  have hown : s.vm.findClass RX2 = some m.cls := hown
  have hl : lv_has ls 3 [(0, .ref a_t)] := hl
  have hK := hC.1
  have iw2 : ∀ w ∈ wsX20, w ∈ wsX2_dropBounds := fun _ h => List.mem_cons_of_mem _ (List.mem_append_left _ (List.mem_append_left _ (List.mem_append_right _ h)))
  have iw3 : ∀ w ∈ wsX30, w ∈ wsX2_dropBounds := fun _ h => List.mem_cons_of_mem _ (List.mem_append_left _ (List.mem_append_right _ h))
  have hf23 := hts (.fieldLink RX2 23 "CrackedColumn$Column" "index" "LCrackedColumn$Index;") (by decide +kernel)
  have hf30 := hts (.fieldLink RX2 30 "CrackedColumn$Column" "answer" "LCrackedColumn$Answer;") (by decide +kernel)
  have hf183 := hts (.fieldLink RX2 183 "CrackedColumn$Index" "pieces" "I") (by decide +kernel)
  have hm_max186 := hts (.methodLink RX2 186 Lib.Math.max.name) (by decide +kernel)
  have hm_max_s := hts (.static Lib.Math.max.name) (by decide +kernel)
  have hm_max_c := hts (.code Lib.Math.max.name Lib.Math.max.code 2 (some .int)) (by decide +kernel)
  have hm_init := hts (.initialized "java/lang/Math") (by decide +kernel)
  unfold f_X2_dropBounds at hF
  refine lv_aload_n hx hb dX2_dropBounds_0 rfl (lv_at hl 0 rfl) ?_
  refine va_get (D := D) (ci := 2) (v := .ref a_t_index) (C := RX2) (T := TX2) (N := 8) hx hb hts iw2 hown hK hP 0 rfl rfl 1 (by decide) hf23 (fun _ h9 => h9) rfl dX2_dropBounds_1 ?_
  refine va_get (D := D) (ci := 3) (v := .int t_index_pieces) (C := RX3) (T := TX3) (N := 8) hx hb hts iw3 hown hK hP 3 rfl rfl 7 (by decide) hf183 (fun _ h9 => h9) rfl dX2_dropBounds_4 ?_
  refine lv_aload_n hx hb dX2_dropBounds_7 rfl (lv_at hl 0 rfl) ?_
  refine lv_iconst (v := 2) hx hb dX2_dropBounds_8 (by decide) ?_
  obtain ⟨r9_1, h9_1, hF⟩ := bndE hF
  refine rdV (As := [.int 2]) (rest := [.int t_index_pieces]) (C := RX2) ⟨hx, hb, hml, hown, hts⟩ (c_X2_setting l D t z x a_t a_t_settings v_t_rows (.ref a_t_index) (.ref a_t_answer) v_t_kept v_t_pendingRows t_pendingCount t_totalCost t_settings_ 2 H r9_1 h9_1) (cwV 1 hts gX2_dropBounds_X2_setting rfl rfl rfl hd_X2_setting ⟨Nat.le_of_ble_eq_true rfl, Nat.le_of_ble_eq_true rfl⟩) (hC.at hz hS) (selP (m9 := [true, false, false, false, false, false, false, false, true]) rfl rfl hP) 0 rfl (show vwCl[2]? = some (RX2, TX2, 8) from rfl) rfl rfl hl.1 rfl (Nat.le_of_ble_eq_true rfl) dX2_dropBounds_9 ⟨Nat.zero_le _, Nat.zero_le _⟩ rfl ?_
  refine lv_isub hx hb dX2_dropBounds_12 ?_
  refine lv_iconst (v := 0) hx hb dX2_dropBounds_13 (by decide) ?_
  refine va_mmax hx hb (hml.trans hl.1.symm) hown hm_max186 hm_max_s hm_init hm_max_c (Nat.le_of_ble_eq_true rfl) (Nat.le_of_ble_eq_true rfl) (Nat.zero_le _) (Nat.zero_le _) dX2_dropBounds_14 ?_
  refine lv_topi (fun y14_3 ey14_3 => ?_)
  have hF := ltE ey14_3 hF
  refine lv_istore_n (lv' := [(1, .int y14_3), (0, .ref a_t)]) hx hb dX2_dropBounds_17 rfl hl (by decide) rfl (fun ls hl => ?_)
  refine lv_iconst (v := 0) hx hb dX2_dropBounds_18 (by decide) ?_
  refine lv_istore_n (lv' := [(2, .int 0), (1, .int y14_3), (0, .ref a_t)]) hx hb dX2_dropBounds_19 rfl hl (by decide) rfl (fun ls hl => ?_)
  obtain ⟨k45_9, ek45_9, hF⟩ := jnE hF
  have hk45_9 : ∀ (t_index_pieces_45_4 : Int32) (t_index_bounds_45_5 : (Nat → Int32)) (t_index_heats_45_6 : (Nat → Int32)) (t_index_sorted_45_7 : (Nat → Int32)) (t_index_starts_45_8 : (Nat → Int32)) (H : Heap) (locs : List Loc) (ls : Array Slot), va_P D vwCl [(a_t, .inr (2, [v_t_rows, .ref a_t_index, .ref a_t_answer, v_t_kept, .ref a_t_settings, v_t_pendingRows, .int t_pendingCount, .int t_totalCost])), (a_t_answer, .inr (0, [.ref a_t_answer_numbers, .int t_answer_given])), (a_t_answer_numbers, .inl (t 0, 9, .inl t_answer_numbers_)), (a_t_index, .inr (3, [v_t_index_rows, v_t_index_entries, .ref a_t_index_bounds, .ref a_t_index_starts, .ref a_t_index_heats, .ref a_t_index_sorted, .int t_index_size, .int t_index_pieces_45_4])), (a_t_index_bounds, .inl (t 0, 62, .inl t_index_bounds_45_5)), (a_t_index_heats, .inl (t 0, 62, .inl t_index_heats_45_6)), (a_t_index_sorted, .inl (t 0, 62, .inl t_index_sorted_45_7)), (a_t_index_starts, .inl (t 0, 62, .inl t_index_starts_45_8)), (a_t_settings, .inl (t 0, 4, .inl t_settings_))] H → va_D A [(a_t, .inr (2, [v_t_rows, .ref a_t_index, .ref a_t_answer, v_t_kept, .ref a_t_settings, v_t_pendingRows, .int t_pendingCount, .int t_totalCost])), (a_t_answer, .inr (0, [.ref a_t_answer_numbers, .int t_answer_given])), (a_t_answer_numbers, .inl (t 0, 9, .inl t_answer_numbers_)), (a_t_index, .inr (3, [v_t_index_rows, v_t_index_entries, .ref a_t_index_bounds, .ref a_t_index_starts, .ref a_t_index_heats, .ref a_t_index_sorted, .int t_index_size, .int t_index_pieces_45_4])), (a_t_index_bounds, .inl (t 0, 62, .inl t_index_bounds_45_5)), (a_t_index_heats, .inl (t 0, 62, .inl t_index_heats_45_6)), (a_t_index_sorted, .inl (t 0, 62, .inl t_index_sorted_45_7)), (a_t_index_starts, .inl (t 0, 62, .inl t_index_starts_45_8)), (a_t_settings, .inl (t 0, 4, .inl t_settings_))] → va_S A s.heap H locs → lv_has ls 3 [(0, .ref a_t), (1, .int y14_3)] → k45_9 t_index_pieces_45_4 t_index_bounds_45_5 t_index_heats_45_6 t_index_sorted_45_7 t_index_starts_45_8 = some T9 → W p l e rm_X2_dropBounds s m args below meth c H locs 0 0 Q (F0 m 45 ls []) := by
    subst ek45_9
    intro t_index_pieces_45_4 t_index_bounds_45_5 t_index_heats_45_6 t_index_sorted_45_7 t_index_starts_45_8 H locs ls hP hD hS hl hF
    refine lv_aload_n hx hb dX2_dropBounds_45 rfl (lv_at hl 0 rfl) ?_
    refine va_get (D := D) (ci := 2) (v := .ref a_t_answer) (C := RX2) (T := TX2) (N := 8) hx hb hts iw2 hown hK hP 0 rfl rfl 2 (by decide) hf30 (fun _ h9 => h9) rfl dX2_dropBounds_46 ?_
    refine lv_bipush (v := 8) hx hb dX2_dropBounds_49 (by decide) ?_
    refine lv_iload_n hx hb dX2_dropBounds_51 rfl (lv_at hl 1 rfl) ?_
    obtain ⟨t_answer_numbers_52_10, h52_10, hF⟩ := bndE hF
    refine wrVM (As := [.int 8, .int y14_3]) (rest := []) (C := RX0) (wn := [(a_t, .inr (2, [v_t_rows, .ref a_t_index, .ref a_t_answer, v_t_kept, .ref a_t_settings, v_t_pendingRows, .int t_pendingCount, .int t_totalCost])), (a_t_answer, .inr (0, [.ref a_t_answer_numbers, .int t_answer_given])), (a_t_answer_numbers, .inl (t 0, 9, .inl t_answer_numbers_52_10)), (a_t_index, .inr (3, [v_t_index_rows, v_t_index_entries, .ref a_t_index_bounds, .ref a_t_index_starts, .ref a_t_index_heats, .ref a_t_index_sorted, .int t_index_size, .int t_index_pieces_45_4])), (a_t_index_bounds, .inl (t 0, 62, .inl t_index_bounds_45_5)), (a_t_index_heats, .inl (t 0, 62, .inl t_index_heats_45_6)), (a_t_index_sorted, .inl (t 0, 62, .inl t_index_sorted_45_7)), (a_t_index_starts, .inl (t 0, 62, .inl t_index_starts_45_8)), (a_t_settings, .inl (t 0, 4, .inl t_settings_))]) ⟨hx, hb, hml, hown, hts⟩ (c_X0_putNumber l D t z x a_t_answer a_t_answer_numbers t_answer_given t_answer_numbers_ 8 y14_3 H.size t_answer_numbers_52_10 h52_10) (cwV 2 hts gX2_dropBounds_X0_putNumber rfl rfl rfl hd_X0_putNumber ⟨Nat.le_of_ble_eq_true rfl, Nat.le_of_ble_eq_true rfl⟩) (hC.at hz hS) hP hD hS hA hz [false, true, true, false, false, false, false, false, false] rfl rfl rfl rfl 0 rfl (show vwCl[0]? = some (RX0, TX0, 2) from rfl) rfl rfl hl.1 rfl (Nat.le_of_ble_eq_true rfl) dX2_dropBounds_52 ⟨Nat.zero_le _, Nat.zero_le _⟩ rfl (fun H locs hP hD hS => ?_)
    cases hF
    exact we_vret hx hb hr hlocks dX2_dropBounds_55 rfl hQ hP hD hS
  have hlp20 : ∀ n20 : Nat, ∀ (x2_20_12 : Int32) (t_index_pieces_20_13 : Int32) (t_index_bounds_20_14 : (Nat → Int32)) (t_index_heats_20_15 : (Nat → Int32)) (t_index_sorted_20_16 : (Nat → Int32)) (t_index_starts_20_17 : (Nat → Int32)) (H : Heap) (locs : List Loc) (ls : Array Slot), va_P D vwCl [(a_t, .inr (2, [v_t_rows, .ref a_t_index, .ref a_t_answer, v_t_kept, .ref a_t_settings, v_t_pendingRows, .int t_pendingCount, .int t_totalCost])), (a_t_answer, .inr (0, [.ref a_t_answer_numbers, .int t_answer_given])), (a_t_answer_numbers, .inl (t 0, 9, .inl t_answer_numbers_)), (a_t_index, .inr (3, [v_t_index_rows, v_t_index_entries, .ref a_t_index_bounds, .ref a_t_index_starts, .ref a_t_index_heats, .ref a_t_index_sorted, .int t_index_size, .int t_index_pieces_20_13])), (a_t_index_bounds, .inl (t 0, 62, .inl t_index_bounds_20_14)), (a_t_index_heats, .inl (t 0, 62, .inl t_index_heats_20_15)), (a_t_index_sorted, .inl (t 0, 62, .inl t_index_sorted_20_16)), (a_t_index_starts, .inl (t 0, 62, .inl t_index_starts_20_17)), (a_t_settings, .inl (t 0, 4, .inl t_settings_))] H → va_D A [(a_t, .inr (2, [v_t_rows, .ref a_t_index, .ref a_t_answer, v_t_kept, .ref a_t_settings, v_t_pendingRows, .int t_pendingCount, .int t_totalCost])), (a_t_answer, .inr (0, [.ref a_t_answer_numbers, .int t_answer_given])), (a_t_answer_numbers, .inl (t 0, 9, .inl t_answer_numbers_)), (a_t_index, .inr (3, [v_t_index_rows, v_t_index_entries, .ref a_t_index_bounds, .ref a_t_index_starts, .ref a_t_index_heats, .ref a_t_index_sorted, .int t_index_size, .int t_index_pieces_20_13])), (a_t_index_bounds, .inl (t 0, 62, .inl t_index_bounds_20_14)), (a_t_index_heats, .inl (t 0, 62, .inl t_index_heats_20_15)), (a_t_index_sorted, .inl (t 0, 62, .inl t_index_sorted_20_16)), (a_t_index_starts, .inl (t 0, 62, .inl t_index_starts_20_17)), (a_t_settings, .inl (t 0, 4, .inl t_settings_))] → va_S A s.heap H locs → lv_has ls 3 [(0, .ref a_t), (1, .int y14_3), (2, .int x2_20_12)] → f_X2_dropBounds_20 N y14_3 k45_9 n20 x2_20_12 t_index_pieces_20_13 t_index_bounds_20_14 t_index_heats_20_15 t_index_sorted_20_16 t_index_starts_20_17 = some T9 → W p l e rm_X2_dropBounds s m args below meth c H locs 0 0 Q (F0 m 20 ls []) := by
    intro n20
    induction n20 with
    | zero =>
      intro x2_20_12 t_index_pieces_20_13 t_index_bounds_20_14 t_index_heats_20_15 t_index_sorted_20_16 t_index_starts_20_17 H locs ls hP hD hS hl hF
      cases (show none = some T9 from hF)
    | succ n20 ih20 =>
      intro x2_20_12 t_index_pieces_20_13 t_index_bounds_20_14 t_index_heats_20_15 t_index_sorted_20_16 t_index_starts_20_17 H locs ls hP hD hS hl hF
      rw [f_X2_dropBounds_20] at hF
      refine lv_iload_n hx hb dX2_dropBounds_20 rfl (lv_at hl 2 rfl) ?_
      refine lv_iload_n hx hb dX2_dropBounds_21 rfl (lv_at hl 1 rfl) ?_
      refine lv_icmp_ge (tgt := 45) hx hb dX2_dropBounds_22 (by decide) (fun c22 => ?_) (fun c22 => ?_)
      · have hF := brT c22 hF
        exact hk45_9 t_index_pieces_20_13 t_index_bounds_20_14 t_index_heats_20_15 t_index_sorted_20_16 t_index_starts_20_17 H locs ls hP hD hS (lv_sub hl [0, 1] rfl) hF
      · have hF := brF c22 hF
        refine lv_aload_n hx hb dX2_dropBounds_25 rfl (lv_at hl 0 rfl) ?_
        refine va_get (D := D) (ci := 2) (v := .ref a_t_index) (C := RX2) (T := TX2) (N := 8) hx hb hts iw2 hown hK hP 0 rfl rfl 1 (by decide) hf23 (fun _ h9 => h9) rfl dX2_dropBounds_26 ?_
        refine lv_aload_n hx hb dX2_dropBounds_29 rfl (lv_at hl 0 rfl) ?_
        refine va_get (D := D) (ci := 2) (v := .ref a_t_index) (C := RX2) (T := TX2) (N := 8) hx hb hts iw2 hown hK hP 0 rfl rfl 1 (by decide) hf23 (fun _ h9 => h9) rfl dX2_dropBounds_30 ?_
        obtain ⟨r33_18, h33_18, hF⟩ := bndE hF
        refine rdV (As := []) (rest := [.ref a_t_index]) (C := RX3) ⟨hx, hb, hml, hown, hts⟩ (c_X3_coldestOfPairs l D t z x N a_t_index a_t_index_heats v_t_index_rows v_t_index_entries (.ref a_t_index_bounds) (.ref a_t_index_starts) (.ref a_t_index_sorted) t_index_size t_index_pieces_20_13 t_index_heats_20_15 H r33_18 h33_18) (cwV 0 hts gX2_dropBounds_X3_coldestOfPairs rfl rfl rfl hd_X3_coldestOfPairs ⟨Nat.le_of_ble_eq_true rfl, Nat.le_of_ble_eq_true rfl⟩) (hC.at hz hS) (selP (m9 := [false, false, false, true, false, true, false, false, false]) rfl rfl hP) 0 rfl (show vwCl[3]? = some (RX3, TX3, 8) from rfl) rfl rfl hl.1 rfl (Nat.le_of_ble_eq_true rfl) dX2_dropBounds_33 ⟨Nat.zero_le _, Nat.zero_le _⟩ rfl ?_
        obtain ⟨t_index_pieces_36_20, t_index_bounds_36_21, t_index_heats_36_22, t_index_sorted_36_23, t_index_starts_36_24, h36_24, hF⟩ := bnd5E hF
        refine wrVM (As := [.int r33_18]) (rest := []) (C := RX3) (wn := [(a_t, .inr (2, [v_t_rows, .ref a_t_index, .ref a_t_answer, v_t_kept, .ref a_t_settings, v_t_pendingRows, .int t_pendingCount, .int t_totalCost])), (a_t_answer, .inr (0, [.ref a_t_answer_numbers, .int t_answer_given])), (a_t_answer_numbers, .inl (t 0, 9, .inl t_answer_numbers_)), (a_t_index, .inr (3, [v_t_index_rows, v_t_index_entries, .ref a_t_index_bounds, .ref a_t_index_starts, .ref a_t_index_heats, .ref a_t_index_sorted, .int t_index_size, .int t_index_pieces_36_20])), (a_t_index_bounds, .inl (t 0, 62, .inl t_index_bounds_36_21)), (a_t_index_heats, .inl (t 0, 62, .inl t_index_heats_36_22)), (a_t_index_sorted, .inl (t 0, 62, .inl t_index_sorted_36_23)), (a_t_index_starts, .inl (t 0, 62, .inl t_index_starts_36_24)), (a_t_settings, .inl (t 0, 4, .inl t_settings_))]) ⟨hx, hb, hml, hown, hts⟩ (c_X3_joinNext l D t z x N a_t_index a_t_index_bounds a_t_index_heats a_t_index_sorted a_t_index_starts v_t_index_rows v_t_index_entries t_index_size t_index_pieces_20_13 t_index_bounds_20_14 t_index_heats_20_15 t_index_sorted_20_16 t_index_starts_20_17 r33_18 H.size t_index_pieces_36_20 t_index_bounds_36_21 t_index_heats_36_22 t_index_sorted_36_23 t_index_starts_36_24 h36_24) (cwV 1 hts gX2_dropBounds_X3_joinNext rfl rfl rfl hd_X3_joinNext ⟨Nat.le_of_ble_eq_true rfl, Nat.le_of_ble_eq_true rfl⟩) (hC.at hz hS) hP hD hS hA hz [false, false, false, true, true, true, true, true, false] rfl rfl rfl rfl 0 rfl (show vwCl[3]? = some (RX3, TX3, 8) from rfl) rfl rfl hl.1 rfl (Nat.le_of_ble_eq_true rfl) dX2_dropBounds_36 ⟨Nat.zero_le _, Nat.zero_le _⟩ rfl (fun H locs hP hD hS => ?_)
        obtain ⟨y39_26, ey39_26⟩ : ∃ y : Int32, y = x2_20_12 + 1 := ⟨_, rfl⟩
        have hF := ltE ey39_26 hF
        refine lv_iinc (v := y39_26) (lv' := [(2, .int y39_26), (0, .ref a_t), (1, .int y14_3)]) hx hb dX2_dropBounds_39 hl (k := 2) rfl (by rw [ey39_26]; rfl) (by decide) rfl (fun ls hl => ?_)
        refine lv_goto (tgt := 20) hx hb dX2_dropBounds_42 (by decide) ?_
        exact ih20 y39_26 t_index_pieces_36_20 t_index_bounds_36_21 t_index_heats_36_22 t_index_sorted_36_23 t_index_starts_36_24 H locs ls hP hD hS (lv_sub hl [1, 2, 0] rfl) hF
  exact hlp20 N 0 t_index_pieces t_index_bounds_ t_index_heats_ t_index_sorted_ t_index_starts_ H locs ls hP hD hS (lv_sub hl [2, 1, 0] rfl) hF
abbrev rm_X2_mergeRow : Room := { frames := 3, cells := 0, slots := 0, locals := 69 }
theorem hd_X2_mergeRow : yX2_mergeRow.cls = RX2 ∧ yX2_mergeRow.cls ≠ "java/lang/invoke/MethodHandle" ∧ yX2_mergeRow.cls ≠ "java/lang/invoke/VarHandle" ∧ (parseMethodDescriptor yX2_mergeRow.desc).map (fun d => d.parameters.length) = some 1 := by decide +kernel
set_option maxRecDepth 100000 in
set_option maxHeartbeats 4000000 in
theorem c_X2_mergeRow (l : Launch) (D : va_G) (t : Nat → ClassId) (z : Nat) (x : Nat → Nat) (N : Nat) (a_t : Nat) (a_t_index : Nat) (a_t_index_bounds : Nat) (a_t_index_entries : Nat) (a_t_index_sorted : Nat) (a_t_index_starts : Nat) (a_t_rows : Nat) (a_t_rows_keys : Nat) (a_t_rows_states : Nat) (v_t_answer : Value) (v_t_kept : Value) (v_t_settings : Value) (v_t_pendingRows : Value) (v_t_index_heats : Value) (v_t_rows_values : Value) (t_pendingCount : Int32) (t_totalCost : Int32) (t_index_size : Int32) (t_index_pieces : Int32) (t_index_bounds_ : (Nat → Int32)) (t_index_entries_ : (Nat → Int32)) (t_index_sorted_ : (Nat → Int32)) (t_index_starts_ : (Nat → Int32)) (t_rows_count : Int32) (t_rows_keys_ : (Nat → Int32)) (t_rows_states_ : (Nat → Int32)) (p1 : Int32) (sz : Nat) (r : Int32) (t_index_size' : Int32) (t_index_entries_' : (Nat → Int32)) (t_index_starts_' : (Nat → Int32)) (t_rows_states_' : (Nat → Int32)) (hF : f_X2_mergeRow N t_index_size t_index_pieces t_index_bounds_ t_index_entries_ t_index_sorted_ t_index_starts_ t_rows_keys_ t_rows_states_ p1 = some (r, t_index_size', t_index_entries_', t_index_starts_', t_rows_states_')) : WrM l D (TY t) z x yX2_mergeRow wsX2_mergeRow rm_X2_mergeRow [.ref a_t, .int p1] [(a_t, .inr (2, [.ref a_t_rows, .ref a_t_index, v_t_answer, v_t_kept, v_t_settings, v_t_pendingRows, .int t_pendingCount, .int t_totalCost])), (a_t_index, .inr (3, [.ref a_t_rows, .ref a_t_index_entries, .ref a_t_index_bounds, .ref a_t_index_starts, v_t_index_heats, .ref a_t_index_sorted, .int t_index_size, .int t_index_pieces])), (a_t_index_bounds, .inl (t 0, 62, .inl t_index_bounds_)), (a_t_index_entries, .inl (t 0, 120, .inl t_index_entries_)), (a_t_index_sorted, .inl (t 0, 62, .inl t_index_sorted_)), (a_t_index_starts, .inl (t 0, 62, .inl t_index_starts_)), (a_t_rows, .inr (6, [.ref a_t_rows_keys, v_t_rows_values, .ref a_t_rows_states, .int t_rows_count])), (a_t_rows_keys, .inl (t 0, 120, .inl t_rows_keys_)), (a_t_rows_states, .inl (t 0, 120, .inl t_rows_states_))] [(a_t, .inr (2, [.ref a_t_rows, .ref a_t_index, v_t_answer, v_t_kept, v_t_settings, v_t_pendingRows, .int t_pendingCount, .int t_totalCost])), (a_t_index, .inr (3, [.ref a_t_rows, .ref a_t_index_entries, .ref a_t_index_bounds, .ref a_t_index_starts, v_t_index_heats, .ref a_t_index_sorted, .int t_index_size', .int t_index_pieces])), (a_t_index_bounds, .inl (t 0, 62, .inl t_index_bounds_)), (a_t_index_entries, .inl (t 0, 120, .inl t_index_entries_')), (a_t_index_sorted, .inl (t 0, 62, .inl t_index_sorted_)), (a_t_index_starts, .inl (t 0, 62, .inl t_index_starts_')), (a_t_rows, .inr (6, [.ref a_t_rows_keys, v_t_rows_values, .ref a_t_rows_states, .int t_rows_count])), (a_t_rows_keys, .inl (t 0, 120, .inl t_rows_keys_)), (a_t_rows_states, .inl (t 0, 120, .inl t_rows_states_'))] sz (some (.int r)) 0 0 := by
  obtain ⟨T9, hT⟩ : ∃ T9, T9 = (r, t_index_size', t_index_entries_', t_index_starts_', t_rows_states_') := ⟨_, rfl⟩
  rw [← hT] at hF
  obtain rfl : r = T9.1 := by rw [hT]
  obtain rfl : t_index_size' = T9.2.1 := by rw [hT]
  obtain rfl : t_index_entries_' = T9.2.2.1 := by rw [hT]
  obtain rfl : t_index_starts_' = T9.2.2.2.1 := by rw [hT]
  obtain rfl : t_rows_states_' = T9.2.2.2.2 := by rw [hT]
  clear hT
  refine wr_of (cc := cX2_mergeRow) (maxL := 3) (ret := (some .int)) (by decide) rfl (Nat.le_of_ble_eq_true rfl) ?_
  intro p e s m args below meth c A Q hQ hx hb hr hml hts hown hlocks hin H locs hP hD hS hA hz hC ls hl
  have hown : s.vm.findClass RX2 = some m.cls := hown
  have hl : lv_has ls 3 [(0, .ref a_t), (1, .int p1)] := hl
  have hK := hC.1
  have iw2 : ∀ w ∈ wsX20, w ∈ wsX2_mergeRow := fun _ h => List.mem_cons_of_mem _ (List.mem_append_left _ (List.mem_append_left _ (List.mem_append_right _ h)))
  have iw3 : ∀ w ∈ wsX30, w ∈ wsX2_mergeRow := fun _ h => List.mem_cons_of_mem _ (List.mem_append_left _ (List.mem_append_right _ h))
  have hf12 := hts (.fieldLink RX2 12 "CrackedColumn$Column" "rows" "LCrackedColumn$Rows;") (by decide +kernel)
  have hf23 := hts (.fieldLink RX2 23 "CrackedColumn$Column" "index" "LCrackedColumn$Index;") (by decide +kernel)
  have hf183 := hts (.fieldLink RX2 183 "CrackedColumn$Index" "pieces" "I") (by decide +kernel)
  unfold f_X2_mergeRow at hF
  refine lv_aload_n hx hb dX2_mergeRow_0 rfl (lv_at hl 0 rfl) ?_
  refine va_get (D := D) (ci := 2) (v := .ref a_t_index) (C := RX2) (T := TX2) (N := 8) hx hb hts iw2 hown hK hP 0 rfl rfl 1 (by decide) hf23 (fun _ h9 => h9) rfl dX2_mergeRow_1 ?_
  refine va_get (D := D) (ci := 3) (v := .int t_index_pieces) (C := RX3) (T := TX3) (N := 8) hx hb hts iw3 hown hK hP 1 rfl rfl 7 (by decide) hf183 (fun _ h9 => h9) rfl dX2_mergeRow_4 ?_
  refine lv_aload_n hx hb dX2_mergeRow_7 rfl (lv_at hl 0 rfl) ?_
  refine va_get (D := D) (ci := 2) (v := .ref a_t_index) (C := RX2) (T := TX2) (N := 8) hx hb hts iw2 hown hK hP 0 rfl rfl 1 (by decide) hf23 (fun _ h9 => h9) rfl dX2_mergeRow_8 ?_
  refine lv_aload_n hx hb dX2_mergeRow_11 rfl (lv_at hl 0 rfl) ?_
  refine va_get (D := D) (ci := 2) (v := .ref a_t_rows) (C := RX2) (T := TX2) (N := 8) hx hb hts iw2 hown hK hP 0 rfl rfl 0 (by decide) hf12 (fun _ h9 => h9) rfl dX2_mergeRow_12 ?_
  refine lv_iload_n hx hb dX2_mergeRow_15 rfl (lv_at hl 1 rfl) ?_
  obtain ⟨r16_1, h16_1, hF⟩ := bndE hF
  refine rdV (As := [.int p1]) (rest := [.ref a_t_index, .int t_index_pieces]) (C := RX6) ⟨hx, hb, hml, hown, hts⟩ (c_X6_keyOf l D t z x a_t_rows a_t_rows_keys v_t_rows_values (.ref a_t_rows_states) t_rows_count t_rows_keys_ p1 H r16_1 h16_1) (cwV 1 hts gX2_mergeRow_X6_keyOf rfl rfl rfl hd_X6_keyOf ⟨Nat.le_of_ble_eq_true rfl, Nat.le_of_ble_eq_true rfl⟩) (hC.at hz hS) (selP (m9 := [false, false, false, false, false, false, true, true, false]) rfl rfl hP) 0 rfl (show vwCl[6]? = some (RX6, TX6, 4) from rfl) rfl rfl hl.1 rfl (Nat.le_of_ble_eq_true rfl) dX2_mergeRow_16 ⟨Nat.zero_le _, Nat.zero_le _⟩ rfl ?_
  obtain ⟨r19_3, h19_3, hF⟩ := bndE hF
  refine rdV (As := [.int r16_1]) (rest := [.int t_index_pieces]) (C := RX3) ⟨hx, hb, hml, hown, hts⟩ (c_X3_pieceFor l D t z x N a_t_index a_t_index_bounds (.ref a_t_rows) (.ref a_t_index_entries) (.ref a_t_index_starts) v_t_index_heats (.ref a_t_index_sorted) t_index_size t_index_pieces t_index_bounds_ r16_1 H r19_3 h19_3) (cwV 1 hts gX2_mergeRow_X3_pieceFor rfl rfl rfl hd_X3_pieceFor ⟨Nat.le_of_ble_eq_true rfl, Nat.le_of_ble_eq_true rfl⟩) (hC.at hz hS) (selP (m9 := [false, true, true, false, false, false, false, false, false]) rfl rfl hP) 0 rfl (show vwCl[3]? = some (RX3, TX3, 8) from rfl) rfl rfl hl.1 rfl (Nat.le_of_ble_eq_true rfl) dX2_mergeRow_19 ⟨Nat.zero_le _, Nat.zero_le _⟩ rfl ?_
  refine lv_isub hx hb dX2_mergeRow_22 ?_
  refine lv_topi (fun y23_5 ey23_5 => ?_)
  have hF := ltE ey23_5 hF
  refine lv_istore_n (lv' := [(2, .int y23_5), (0, .ref a_t), (1, .int p1)]) hx hb dX2_mergeRow_23 rfl hl (by decide) rfl (fun ls hl => ?_)
  refine lv_aload_n hx hb dX2_mergeRow_24 rfl (lv_at hl 1 rfl) ?_
  refine va_get (D := D) (ci := 2) (v := .ref a_t_rows) (C := RX2) (T := TX2) (N := 8) hx hb hts iw2 hown hK hP 0 rfl rfl 0 (by decide) hf12 (fun _ h9 => h9) rfl dX2_mergeRow_25 ?_
  refine lv_iload_n hx hb dX2_mergeRow_28 rfl (lv_at hl 2 rfl) ?_
  obtain ⟨r29_6, h29_6, hF⟩ := bndE hF
  refine rdV (As := [.int p1]) (rest := []) (C := RX6) ⟨hx, hb, hml, hown, hts⟩ (c_X6_stateOf l D t z x a_t_rows a_t_rows_states (.ref a_t_rows_keys) v_t_rows_values t_rows_count t_rows_states_ p1 H r29_6 h29_6) (cwV 1 hts gX2_mergeRow_X6_stateOf rfl rfl rfl hd_X6_stateOf ⟨Nat.le_of_ble_eq_true rfl, Nat.le_of_ble_eq_true rfl⟩) (hC.at hz hS) (selP (m9 := [false, false, false, false, false, false, true, false, true]) rfl rfl hP) 0 rfl (show vwCl[6]? = some (RX6, TX6, 4) from rfl) rfl rfl hl.1 rfl (Nat.le_of_ble_eq_true rfl) dX2_mergeRow_29 ⟨Nat.zero_le _, Nat.zero_le _⟩ rfl ?_
  refine lv_iconst (v := 1) hx hb dX2_mergeRow_32 (by decide) ?_
  refine lv_icmp_ne (tgt := 56) hx hb dX2_mergeRow_33 (by decide) (fun c33 => ?_) (fun c33 => ?_)
  · have hF := brF c33 hF
    refine lv_aload_n hx hb dX2_mergeRow_56 rfl (lv_at hl 1 rfl) ?_
    refine va_get (D := D) (ci := 2) (v := .ref a_t_index) (C := RX2) (T := TX2) (N := 8) hx hb hts iw2 hown hK hP 0 rfl rfl 1 (by decide) hf23 (fun _ h9 => h9) rfl dX2_mergeRow_57 ?_
    refine lv_iload_n hx hb dX2_mergeRow_60 rfl (lv_at hl 2 rfl) ?_
    obtain ⟨t_index_size_61_8, t_index_entries_61_9, t_index_starts_61_10, h61_10, hF⟩ := bnd3E hF
    refine wrVM (As := [.int p1]) (rest := []) (C := RX3) (wn := [(a_t, .inr (2, [.ref a_t_rows, .ref a_t_index, v_t_answer, v_t_kept, v_t_settings, v_t_pendingRows, .int t_pendingCount, .int t_totalCost])), (a_t_index, .inr (3, [.ref a_t_rows, .ref a_t_index_entries, .ref a_t_index_bounds, .ref a_t_index_starts, v_t_index_heats, .ref a_t_index_sorted, .int t_index_size_61_8, .int t_index_pieces])), (a_t_index_bounds, .inl (t 0, 62, .inl t_index_bounds_)), (a_t_index_entries, .inl (t 0, 120, .inl t_index_entries_61_9)), (a_t_index_sorted, .inl (t 0, 62, .inl t_index_sorted_)), (a_t_index_starts, .inl (t 0, 62, .inl t_index_starts_61_10)), (a_t_rows, .inr (6, [.ref a_t_rows_keys, v_t_rows_values, .ref a_t_rows_states, .int t_rows_count])), (a_t_rows_keys, .inl (t 0, 120, .inl t_rows_keys_)), (a_t_rows_states, .inl (t 0, 120, .inl t_rows_states_))]) ⟨hx, hb, hml, hown, hts⟩ (c_X3_takeOut l D t z x N a_t_index a_t_index_bounds a_t_index_entries a_t_index_starts a_t_rows a_t_rows_keys v_t_index_heats (.ref a_t_index_sorted) v_t_rows_values (.ref a_t_rows_states) t_index_size t_index_pieces t_index_bounds_ t_index_entries_ t_index_starts_ t_rows_count t_rows_keys_ p1 H.size t_index_size_61_8 t_index_entries_61_9 t_index_starts_61_10 h61_10) (cwV 1 hts gX2_mergeRow_X3_takeOut rfl rfl rfl hd_X3_takeOut ⟨Nat.le_of_ble_eq_true rfl, Nat.le_of_ble_eq_true rfl⟩) (hC.at hz hS) hP hD hS hA hz [false, true, true, true, false, true, true, true, false] rfl rfl rfl rfl 0 rfl (show vwCl[3]? = some (RX3, TX3, 8) from rfl) rfl rfl hl.1 rfl (Nat.le_of_ble_eq_true rfl) dX2_mergeRow_61 ⟨Nat.zero_le _, Nat.zero_le _⟩ rfl (fun H locs hP hD hS => ?_)
    refine lv_aload_n hx hb dX2_mergeRow_64 rfl (lv_at hl 1 rfl) ?_
    refine va_get (D := D) (ci := 2) (v := .ref a_t_rows) (C := RX2) (T := TX2) (N := 8) hx hb hts iw2 hown hK hP 0 rfl rfl 0 (by decide) hf12 (fun _ h9 => h9) rfl dX2_mergeRow_65 ?_
    refine lv_iload_n hx hb dX2_mergeRow_68 rfl (lv_at hl 2 rfl) ?_
    refine lv_iconst (v := 3) hx hb dX2_mergeRow_69 (by decide) ?_
    obtain ⟨t_rows_states_70_12, h70_12, hF⟩ := bndE hF
    refine wrVM (As := [.int p1, .int 3]) (rest := []) (C := RX6) (wn := [(a_t, .inr (2, [.ref a_t_rows, .ref a_t_index, v_t_answer, v_t_kept, v_t_settings, v_t_pendingRows, .int t_pendingCount, .int t_totalCost])), (a_t_index, .inr (3, [.ref a_t_rows, .ref a_t_index_entries, .ref a_t_index_bounds, .ref a_t_index_starts, v_t_index_heats, .ref a_t_index_sorted, .int t_index_size_61_8, .int t_index_pieces])), (a_t_index_bounds, .inl (t 0, 62, .inl t_index_bounds_)), (a_t_index_entries, .inl (t 0, 120, .inl t_index_entries_61_9)), (a_t_index_sorted, .inl (t 0, 62, .inl t_index_sorted_)), (a_t_index_starts, .inl (t 0, 62, .inl t_index_starts_61_10)), (a_t_rows, .inr (6, [.ref a_t_rows_keys, v_t_rows_values, .ref a_t_rows_states, .int t_rows_count])), (a_t_rows_keys, .inl (t 0, 120, .inl t_rows_keys_)), (a_t_rows_states, .inl (t 0, 120, .inl t_rows_states_70_12))]) ⟨hx, hb, hml, hown, hts⟩ (c_X6_putState l D t z x a_t_rows a_t_rows_states (.ref a_t_rows_keys) v_t_rows_values t_rows_count t_rows_states_ p1 3 H.size t_rows_states_70_12 h70_12) (cwV 2 hts gX2_mergeRow_X6_putState rfl rfl rfl hd_X6_putState ⟨Nat.le_of_ble_eq_true rfl, Nat.le_of_ble_eq_true rfl⟩) (hC.at hz hS) hP hD hS hA hz [false, false, false, false, false, false, true, false, true] rfl rfl rfl rfl 0 rfl (show vwCl[6]? = some (RX6, TX6, 4) from rfl) rfl rfl hl.1 rfl (Nat.le_of_ble_eq_true rfl) dX2_mergeRow_70 ⟨Nat.zero_le _, Nat.zero_le _⟩ rfl (fun H locs hP hD hS => ?_)
    refine lv_iload_n hx hb dX2_mergeRow_73 rfl (lv_at hl 0 rfl) ?_
    cases hF
    exact we_iret hx hb hr hlocks dX2_mergeRow_74 rfl hQ hP hD hS
  · have hF := brT c33 hF
    refine lv_aload_n hx hb dX2_mergeRow_36 rfl (lv_at hl 1 rfl) ?_
    refine va_get (D := D) (ci := 2) (v := .ref a_t_index) (C := RX2) (T := TX2) (N := 8) hx hb hts iw2 hown hK hP 0 rfl rfl 1 (by decide) hf23 (fun _ h9 => h9) rfl dX2_mergeRow_37 ?_
    refine lv_iload_n hx hb dX2_mergeRow_40 rfl (lv_at hl 2 rfl) ?_
    obtain ⟨t_index_size_41_14, t_index_entries_41_15, t_index_starts_41_16, h41_16, hF⟩ := bnd3E hF
    refine wrVM (As := [.int p1]) (rest := []) (C := RX3) (wn := [(a_t, .inr (2, [.ref a_t_rows, .ref a_t_index, v_t_answer, v_t_kept, v_t_settings, v_t_pendingRows, .int t_pendingCount, .int t_totalCost])), (a_t_index, .inr (3, [.ref a_t_rows, .ref a_t_index_entries, .ref a_t_index_bounds, .ref a_t_index_starts, v_t_index_heats, .ref a_t_index_sorted, .int t_index_size_41_14, .int t_index_pieces])), (a_t_index_bounds, .inl (t 0, 62, .inl t_index_bounds_)), (a_t_index_entries, .inl (t 0, 120, .inl t_index_entries_41_15)), (a_t_index_sorted, .inl (t 0, 62, .inl t_index_sorted_)), (a_t_index_starts, .inl (t 0, 62, .inl t_index_starts_41_16)), (a_t_rows, .inr (6, [.ref a_t_rows_keys, v_t_rows_values, .ref a_t_rows_states, .int t_rows_count])), (a_t_rows_keys, .inl (t 0, 120, .inl t_rows_keys_)), (a_t_rows_states, .inl (t 0, 120, .inl t_rows_states_))]) ⟨hx, hb, hml, hown, hts⟩ (c_X3_putIn l D t z x N a_t_index a_t_index_bounds a_t_index_entries a_t_index_sorted a_t_index_starts a_t_rows a_t_rows_keys v_t_index_heats v_t_rows_values (.ref a_t_rows_states) t_index_size t_index_pieces t_index_bounds_ t_index_entries_ t_index_sorted_ t_index_starts_ t_rows_count t_rows_keys_ p1 H.size t_index_size_41_14 t_index_entries_41_15 t_index_starts_41_16 h41_16) (cwV 1 hts gX2_mergeRow_X3_putIn rfl rfl rfl hd_X3_putIn ⟨Nat.le_of_ble_eq_true rfl, Nat.le_of_ble_eq_true rfl⟩) (hC.at hz hS) hP hD hS hA hz [false, true, true, true, true, true, true, true, false] rfl rfl rfl rfl 0 rfl (show vwCl[3]? = some (RX3, TX3, 8) from rfl) rfl rfl hl.1 rfl (Nat.le_of_ble_eq_true rfl) dX2_mergeRow_41 ⟨Nat.zero_le _, Nat.zero_le _⟩ rfl (fun H locs hP hD hS => ?_)
    refine lv_aload_n hx hb dX2_mergeRow_44 rfl (lv_at hl 1 rfl) ?_
    refine va_get (D := D) (ci := 2) (v := .ref a_t_rows) (C := RX2) (T := TX2) (N := 8) hx hb hts iw2 hown hK hP 0 rfl rfl 0 (by decide) hf12 (fun _ h9 => h9) rfl dX2_mergeRow_45 ?_
    refine lv_iload_n hx hb dX2_mergeRow_48 rfl (lv_at hl 2 rfl) ?_
    refine lv_iconst (v := 0) hx hb dX2_mergeRow_49 (by decide) ?_
    obtain ⟨t_rows_states_50_18, h50_18, hF⟩ := bndE hF
    refine wrVM (As := [.int p1, .int 0]) (rest := []) (C := RX6) (wn := [(a_t, .inr (2, [.ref a_t_rows, .ref a_t_index, v_t_answer, v_t_kept, v_t_settings, v_t_pendingRows, .int t_pendingCount, .int t_totalCost])), (a_t_index, .inr (3, [.ref a_t_rows, .ref a_t_index_entries, .ref a_t_index_bounds, .ref a_t_index_starts, v_t_index_heats, .ref a_t_index_sorted, .int t_index_size_41_14, .int t_index_pieces])), (a_t_index_bounds, .inl (t 0, 62, .inl t_index_bounds_)), (a_t_index_entries, .inl (t 0, 120, .inl t_index_entries_41_15)), (a_t_index_sorted, .inl (t 0, 62, .inl t_index_sorted_)), (a_t_index_starts, .inl (t 0, 62, .inl t_index_starts_41_16)), (a_t_rows, .inr (6, [.ref a_t_rows_keys, v_t_rows_values, .ref a_t_rows_states, .int t_rows_count])), (a_t_rows_keys, .inl (t 0, 120, .inl t_rows_keys_)), (a_t_rows_states, .inl (t 0, 120, .inl t_rows_states_50_18))]) ⟨hx, hb, hml, hown, hts⟩ (c_X6_putState l D t z x a_t_rows a_t_rows_states (.ref a_t_rows_keys) v_t_rows_values t_rows_count t_rows_states_ p1 0 H.size t_rows_states_50_18 h50_18) (cwV 2 hts gX2_mergeRow_X6_putState rfl rfl rfl hd_X6_putState ⟨Nat.le_of_ble_eq_true rfl, Nat.le_of_ble_eq_true rfl⟩) (hC.at hz hS) hP hD hS hA hz [false, false, false, false, false, false, true, false, true] rfl rfl rfl rfl 0 rfl (show vwCl[6]? = some (RX6, TX6, 4) from rfl) rfl rfl hl.1 rfl (Nat.le_of_ble_eq_true rfl) dX2_mergeRow_50 ⟨Nat.zero_le _, Nat.zero_le _⟩ rfl (fun H locs hP hD hS => ?_)
    refine lv_goto (tgt := 73) hx hb dX2_mergeRow_53 (by decide) ?_
    refine lv_iload_n hx hb dX2_mergeRow_73 rfl (lv_at hl 0 rfl) ?_
    cases hF
    exact we_iret hx hb hr hlocks dX2_mergeRow_74 rfl hQ hP hD hS
abbrev rm_X2_clear : Room := { frames := 2, cells := 0, slots := 0, locals := 42 }
theorem hd_X2_clear : yX2_clear.cls = RX2 ∧ yX2_clear.cls ≠ "java/lang/invoke/MethodHandle" ∧ yX2_clear.cls ≠ "java/lang/invoke/VarHandle" ∧ (parseMethodDescriptor yX2_clear.desc).map (fun d => d.parameters.length) = some 0 := by decide +kernel
set_option maxRecDepth 100000 in
set_option maxHeartbeats 4000000 in
theorem c_X2_clear (l : Launch) (D : va_G) (t : Nat → ClassId) (z : Nat) (x : Nat → Nat) (N : Nat) (a_t : Nat) (a_t_answer : Nat) (a_t_answer_numbers : Nat) (a_t_index : Nat) (a_t_index_bounds : Nat) (a_t_index_heats : Nat) (a_t_index_sorted : Nat) (a_t_index_starts : Nat) (a_t_kept : Nat) (a_t_settings : Nat) (a_t_rows : Nat) (v_t_pendingRows : Value) (v_t_index_entries : Value) (v_t_kept_numbers : Value) (v_t_rows_keys : Value) (v_t_rows_values : Value) (v_t_rows_states : Value) (t_pendingCount : Int32) (t_totalCost : Int32) (t_answer_given : Int32) (t_answer_numbers_ : (Nat → Int32)) (t_index_size : Int32) (t_index_pieces : Int32) (t_index_bounds_ : (Nat → Int32)) (t_index_heats_ : (Nat → Int32)) (t_index_sorted_ : (Nat → Int32)) (t_index_starts_ : (Nat → Int32)) (t_kept_count : Int32) (t_settings_ : (Nat → Int32)) (t_rows_count : Int32) (sz : Nat) (t_pendingCount' : Int32) (t_totalCost' : Int32) (t_answer_given' : Int32) (t_answer_numbers_' : (Nat → Int32)) (t_index_size' : Int32) (t_index_pieces' : Int32) (t_index_bounds_' : (Nat → Int32)) (t_index_heats_' : (Nat → Int32)) (t_index_sorted_' : (Nat → Int32)) (t_index_starts_' : (Nat → Int32)) (t_kept_count' : Int32) (t_settings_' : (Nat → Int32)) (t_rows_count' : Int32) (hF : f_X2_clear N t_answer_numbers_ t_index_bounds_ t_index_heats_ t_index_sorted_ t_index_starts_ t_settings_ = some (t_pendingCount', t_totalCost', t_answer_given', t_answer_numbers_', t_index_size', t_index_pieces', t_index_bounds_', t_index_heats_', t_index_sorted_', t_index_starts_', t_kept_count', t_settings_', t_rows_count')) : WrM l D (TY t) z x yX2_clear wsX2_clear rm_X2_clear [.ref a_t] [(a_t, .inr (2, [.ref a_t_rows, .ref a_t_index, .ref a_t_answer, .ref a_t_kept, .ref a_t_settings, v_t_pendingRows, .int t_pendingCount, .int t_totalCost])), (a_t_answer, .inr (0, [.ref a_t_answer_numbers, .int t_answer_given])), (a_t_answer_numbers, .inl (t 0, 9, .inl t_answer_numbers_)), (a_t_index, .inr (3, [.ref a_t_rows, v_t_index_entries, .ref a_t_index_bounds, .ref a_t_index_starts, .ref a_t_index_heats, .ref a_t_index_sorted, .int t_index_size, .int t_index_pieces])), (a_t_index_bounds, .inl (t 0, 62, .inl t_index_bounds_)), (a_t_index_heats, .inl (t 0, 62, .inl t_index_heats_)), (a_t_index_sorted, .inl (t 0, 62, .inl t_index_sorted_)), (a_t_index_starts, .inl (t 0, 62, .inl t_index_starts_)), (a_t_kept, .inr (4, [v_t_kept_numbers, .int t_kept_count])), (a_t_settings, .inl (t 0, 4, .inl t_settings_)), (a_t_rows, .inr (6, [v_t_rows_keys, v_t_rows_values, v_t_rows_states, .int t_rows_count]))] [(a_t, .inr (2, [.ref a_t_rows, .ref a_t_index, .ref a_t_answer, .ref a_t_kept, .ref a_t_settings, v_t_pendingRows, .int t_pendingCount', .int t_totalCost'])), (a_t_answer, .inr (0, [.ref a_t_answer_numbers, .int t_answer_given'])), (a_t_answer_numbers, .inl (t 0, 9, .inl t_answer_numbers_')), (a_t_index, .inr (3, [.ref a_t_rows, v_t_index_entries, .ref a_t_index_bounds, .ref a_t_index_starts, .ref a_t_index_heats, .ref a_t_index_sorted, .int t_index_size', .int t_index_pieces'])), (a_t_index_bounds, .inl (t 0, 62, .inl t_index_bounds_')), (a_t_index_heats, .inl (t 0, 62, .inl t_index_heats_')), (a_t_index_sorted, .inl (t 0, 62, .inl t_index_sorted_')), (a_t_index_starts, .inl (t 0, 62, .inl t_index_starts_')), (a_t_kept, .inr (4, [v_t_kept_numbers, .int t_kept_count'])), (a_t_settings, .inl (t 0, 4, .inl t_settings_')), (a_t_rows, .inr (6, [v_t_rows_keys, v_t_rows_values, v_t_rows_states, .int t_rows_count']))] sz none 0 0 := by
  obtain ⟨T9, hT⟩ : ∃ T9, T9 = (t_pendingCount', t_totalCost', t_answer_given', t_answer_numbers_', t_index_size', t_index_pieces', t_index_bounds_', t_index_heats_', t_index_sorted_', t_index_starts_', t_kept_count', t_settings_', t_rows_count') := ⟨_, rfl⟩
  rw [← hT] at hF
  obtain rfl : t_pendingCount' = T9.1 := by rw [hT]
  obtain rfl : t_totalCost' = T9.2.1 := by rw [hT]
  obtain rfl : t_answer_given' = T9.2.2.1 := by rw [hT]
  obtain rfl : t_answer_numbers_' = T9.2.2.2.1 := by rw [hT]
  obtain rfl : t_index_size' = T9.2.2.2.2.1 := by rw [hT]
  obtain rfl : t_index_pieces' = T9.2.2.2.2.2.1 := by rw [hT]
  obtain rfl : t_index_bounds_' = T9.2.2.2.2.2.2.1 := by rw [hT]
  obtain rfl : t_index_heats_' = T9.2.2.2.2.2.2.2.1 := by rw [hT]
  obtain rfl : t_index_sorted_' = T9.2.2.2.2.2.2.2.2.1 := by rw [hT]
  obtain rfl : t_index_starts_' = T9.2.2.2.2.2.2.2.2.2.1 := by rw [hT]
  obtain rfl : t_kept_count' = T9.2.2.2.2.2.2.2.2.2.2.1 := by rw [hT]
  obtain rfl : t_settings_' = T9.2.2.2.2.2.2.2.2.2.2.2.1 := by rw [hT]
  obtain rfl : t_rows_count' = T9.2.2.2.2.2.2.2.2.2.2.2.2 := by rw [hT]
  clear hT
  refine wr_of (cc := cX2_clear) (maxL := 2) (ret := none) (by decide) rfl (Nat.le_of_ble_eq_true rfl) ?_
  intro p e s m args below meth c A Q hQ hx hb hr hml hts hown hlocks hin H locs hP hD hS hA hz hC ls hl
  have hown : s.vm.findClass RX2 = some m.cls := hown
  have hl : lv_has ls 2 [(0, .ref a_t)] := hl
  have hK := hC.1
  have iw0 : ∀ w ∈ wsX00, w ∈ wsX2_clear := fun _ h => List.mem_cons_of_mem _ (List.mem_append_left _ (List.mem_append_left _ (List.mem_append_right _ h)))
  have iw2 : ∀ w ∈ wsX20, w ∈ wsX2_clear := fun _ h => List.mem_cons_of_mem _ (List.mem_append_left _ (List.mem_append_left _ (List.mem_append_left _ (List.mem_append_left _ (List.mem_append_right _ h)))))
  have iw4 : ∀ w ∈ wsX40, w ∈ wsX2_clear := fun _ h => List.mem_cons_of_mem _ (List.mem_append_left _ (List.mem_append_right _ h))
  have iw6 : ∀ w ∈ wsX60, w ∈ wsX2_clear := fun _ h => List.mem_cons_of_mem _ (List.mem_append_left _ (List.mem_append_left _ (List.mem_append_left _ (List.mem_append_right _ h))))
  have hf12 := hts (.fieldLink RX2 12 "CrackedColumn$Column" "rows" "LCrackedColumn$Rows;") (by decide +kernel)
  have hf23 := hts (.fieldLink RX2 23 "CrackedColumn$Column" "index" "LCrackedColumn$Index;") (by decide +kernel)
  have hf30 := hts (.fieldLink RX2 30 "CrackedColumn$Column" "answer" "LCrackedColumn$Answer;") (by decide +kernel)
  have hf37 := hts (.fieldLink RX2 37 "CrackedColumn$Column" "kept" "LCrackedColumn$Kept;") (by decide +kernel)
  have hf48 := hts (.fieldLink RX2 48 "CrackedColumn$Column" "pendingCount" "I") (by decide +kernel)
  have hf52 := hts (.fieldLink RX2 52 "CrackedColumn$Column" "totalCost" "I") (by decide +kernel)
  have hf58 := hts (.fieldLink RX2 58 "CrackedColumn$Rows" "count" "I") (by decide +kernel)
  have hf63 := hts (.fieldLink RX2 63 "CrackedColumn$Answer" "given" "Z") (by decide +kernel)
  have hf67 := hts (.fieldLink RX2 67 "CrackedColumn$Kept" "count" "I") (by decide +kernel)
  have hini_X7 := hts (.initialized RX7) (by decide +kernel)
  unfold f_X2_clear at hF
  refine lv_aload_n hx hb dX2_clear_0 rfl (lv_at hl 0 rfl) ?_
  refine va_get (D := D) (ci := 2) (v := .ref a_t_rows) (C := RX2) (T := TX2) (N := 8) hx hb hts iw2 hown hK hP 0 rfl rfl 0 (by decide) hf12 (fun _ h9 => h9) rfl dX2_clear_1 ?_
  refine lv_iconst (v := 0) hx hb dX2_clear_4 (by decide) ?_
  refine my_put (ty := .int) (v := .int 0) (ci := 6) (C := RX6) (T := TX6) (N := 4) (wn := [(a_t, .inr (2, [.ref a_t_rows, .ref a_t_index, .ref a_t_answer, .ref a_t_kept, .ref a_t_settings, v_t_pendingRows, .int t_pendingCount, .int t_totalCost])), (a_t_answer, .inr (0, [.ref a_t_answer_numbers, .int t_answer_given])), (a_t_answer_numbers, .inl (t 0, 9, .inl t_answer_numbers_)), (a_t_index, .inr (3, [.ref a_t_rows, v_t_index_entries, .ref a_t_index_bounds, .ref a_t_index_starts, .ref a_t_index_heats, .ref a_t_index_sorted, .int t_index_size, .int t_index_pieces])), (a_t_index_bounds, .inl (t 0, 62, .inl t_index_bounds_)), (a_t_index_heats, .inl (t 0, 62, .inl t_index_heats_)), (a_t_index_sorted, .inl (t 0, 62, .inl t_index_sorted_)), (a_t_index_starts, .inl (t 0, 62, .inl t_index_starts_)), (a_t_kept, .inr (4, [v_t_kept_numbers, .int t_kept_count])), (a_t_settings, .inl (t 0, 4, .inl t_settings_)), (a_t_rows, .inr (6, [v_t_rows_keys, v_t_rows_values, v_t_rows_states, .int 0]))]) hx hb hts iw6 tyX6 tyX6_ok nmX6 hown hK hP hD hS 10 rfl rfl 3 (by decide) hf58 (fun _ h9 => h9) rfl (by decide +kernel) rfl rfl (Nat.le_of_ble_eq_true rfl) rfl dX2_clear_5 (fun H locs hP hD hS => ?_)
  refine lv_aload_n hx hb dX2_clear_8 rfl (lv_at hl 0 rfl) ?_
  refine va_get (D := D) (ci := 2) (v := .ref a_t_index) (C := RX2) (T := TX2) (N := 8) hx hb hts iw2 hown hK hP 0 rfl rfl 1 (by decide) hf23 (fun _ h9 => h9) rfl dX2_clear_9 ?_
  obtain ⟨t_index_size_12_1, t_index_pieces_12_2, t_index_bounds_12_3, t_index_heats_12_4, t_index_sorted_12_5, t_index_starts_12_6, h12_6, hF⟩ := bnd6E hF
  refine wrVM (As := []) (rest := []) (C := RX3) (wn := [(a_t, .inr (2, [.ref a_t_rows, .ref a_t_index, .ref a_t_answer, .ref a_t_kept, .ref a_t_settings, v_t_pendingRows, .int t_pendingCount, .int t_totalCost])), (a_t_answer, .inr (0, [.ref a_t_answer_numbers, .int t_answer_given])), (a_t_answer_numbers, .inl (t 0, 9, .inl t_answer_numbers_)), (a_t_index, .inr (3, [.ref a_t_rows, v_t_index_entries, .ref a_t_index_bounds, .ref a_t_index_starts, .ref a_t_index_heats, .ref a_t_index_sorted, .int t_index_size_12_1, .int t_index_pieces_12_2])), (a_t_index_bounds, .inl (t 0, 62, .inl t_index_bounds_12_3)), (a_t_index_heats, .inl (t 0, 62, .inl t_index_heats_12_4)), (a_t_index_sorted, .inl (t 0, 62, .inl t_index_sorted_12_5)), (a_t_index_starts, .inl (t 0, 62, .inl t_index_starts_12_6)), (a_t_kept, .inr (4, [v_t_kept_numbers, .int t_kept_count])), (a_t_settings, .inl (t 0, 4, .inl t_settings_)), (a_t_rows, .inr (6, [v_t_rows_keys, v_t_rows_values, v_t_rows_states, .int 0]))]) ⟨hx, hb, hml, hown, hts⟩ (c_X3_clear l D t z x a_t_index a_t_index_bounds a_t_index_heats a_t_index_sorted a_t_index_starts (.ref a_t_rows) v_t_index_entries t_index_size t_index_pieces t_index_bounds_ t_index_heats_ t_index_sorted_ t_index_starts_ H.size t_index_size_12_1 t_index_pieces_12_2 t_index_bounds_12_3 t_index_heats_12_4 t_index_sorted_12_5 t_index_starts_12_6 h12_6) (cwV 0 hts gX2_clear_X3_clear rfl rfl rfl hd_X3_clear ⟨Nat.le_of_ble_eq_true rfl, Nat.le_of_ble_eq_true rfl⟩) (hC.at hz hS) hP hD hS hA hz [false, false, false, true, true, true, true, true, false, false, false] rfl rfl rfl rfl 0 rfl (show vwCl[3]? = some (RX3, TX3, 8) from rfl) rfl rfl hl.1 rfl (Nat.le_of_ble_eq_true rfl) dX2_clear_12 ⟨Nat.zero_le _, Nat.zero_le _⟩ rfl (fun H locs hP hD hS => ?_)
  refine lv_aload_n hx hb dX2_clear_15 rfl (lv_at hl 0 rfl) ?_
  refine va_get (D := D) (ci := 2) (v := .ref a_t_answer) (C := RX2) (T := TX2) (N := 8) hx hb hts iw2 hown hK hP 0 rfl rfl 2 (by decide) hf30 (fun _ h9 => h9) rfl dX2_clear_16 ?_
  obtain ⟨t_answer_numbers_19_8, h19_8, hF⟩ := bndE hF
  refine wrVM (As := []) (rest := []) (C := RX0) (wn := [(a_t, .inr (2, [.ref a_t_rows, .ref a_t_index, .ref a_t_answer, .ref a_t_kept, .ref a_t_settings, v_t_pendingRows, .int t_pendingCount, .int t_totalCost])), (a_t_answer, .inr (0, [.ref a_t_answer_numbers, .int t_answer_given])), (a_t_answer_numbers, .inl (t 0, 9, .inl t_answer_numbers_19_8)), (a_t_index, .inr (3, [.ref a_t_rows, v_t_index_entries, .ref a_t_index_bounds, .ref a_t_index_starts, .ref a_t_index_heats, .ref a_t_index_sorted, .int t_index_size_12_1, .int t_index_pieces_12_2])), (a_t_index_bounds, .inl (t 0, 62, .inl t_index_bounds_12_3)), (a_t_index_heats, .inl (t 0, 62, .inl t_index_heats_12_4)), (a_t_index_sorted, .inl (t 0, 62, .inl t_index_sorted_12_5)), (a_t_index_starts, .inl (t 0, 62, .inl t_index_starts_12_6)), (a_t_kept, .inr (4, [v_t_kept_numbers, .int t_kept_count])), (a_t_settings, .inl (t 0, 4, .inl t_settings_)), (a_t_rows, .inr (6, [v_t_rows_keys, v_t_rows_values, v_t_rows_states, .int 0]))]) ⟨hx, hb, hml, hown, hts⟩ (c_X0_clear l D t z x N a_t_answer a_t_answer_numbers t_answer_given t_answer_numbers_ H.size t_answer_numbers_19_8 h19_8) (cwV 0 hts gX2_clear_X0_clear rfl rfl rfl hd_X0_clear ⟨Nat.le_of_ble_eq_true rfl, Nat.le_of_ble_eq_true rfl⟩) (hC.at hz hS) hP hD hS hA hz [false, true, true, false, false, false, false, false, false, false, false] rfl rfl rfl rfl 0 rfl (show vwCl[0]? = some (RX0, TX0, 2) from rfl) rfl rfl hl.1 rfl (Nat.le_of_ble_eq_true rfl) dX2_clear_19 ⟨Nat.zero_le _, Nat.zero_le _⟩ rfl (fun H locs hP hD hS => ?_)
  refine lv_aload_n hx hb dX2_clear_22 rfl (lv_at hl 0 rfl) ?_
  refine va_get (D := D) (ci := 2) (v := .ref a_t_answer) (C := RX2) (T := TX2) (N := 8) hx hb hts iw2 hown hK hP 0 rfl rfl 2 (by decide) hf30 (fun _ h9 => h9) rfl dX2_clear_23 ?_
  refine lv_iconst (v := 0) hx hb dX2_clear_26 (by decide) ?_
  refine my_put (ty := .boolean) (v := .int 0) (ci := 0) (C := RX0) (T := TX0) (N := 2) (wn := [(a_t, .inr (2, [.ref a_t_rows, .ref a_t_index, .ref a_t_answer, .ref a_t_kept, .ref a_t_settings, v_t_pendingRows, .int t_pendingCount, .int t_totalCost])), (a_t_answer, .inr (0, [.ref a_t_answer_numbers, .int 0])), (a_t_answer_numbers, .inl (t 0, 9, .inl t_answer_numbers_19_8)), (a_t_index, .inr (3, [.ref a_t_rows, v_t_index_entries, .ref a_t_index_bounds, .ref a_t_index_starts, .ref a_t_index_heats, .ref a_t_index_sorted, .int t_index_size_12_1, .int t_index_pieces_12_2])), (a_t_index_bounds, .inl (t 0, 62, .inl t_index_bounds_12_3)), (a_t_index_heats, .inl (t 0, 62, .inl t_index_heats_12_4)), (a_t_index_sorted, .inl (t 0, 62, .inl t_index_sorted_12_5)), (a_t_index_starts, .inl (t 0, 62, .inl t_index_starts_12_6)), (a_t_kept, .inr (4, [v_t_kept_numbers, .int t_kept_count])), (a_t_settings, .inl (t 0, 4, .inl t_settings_)), (a_t_rows, .inr (6, [v_t_rows_keys, v_t_rows_values, v_t_rows_states, .int 0]))]) hx hb hts iw0 tyX0 tyX0_ok nmX0 hown hK hP hD hS 1 rfl rfl 1 (by decide) hf63 (fun _ h9 => h9) rfl (by decide +kernel) rfl rfl (Nat.le_of_ble_eq_true rfl) rfl dX2_clear_27 (fun H locs hP hD hS => ?_)
  refine lv_aload_n hx hb dX2_clear_30 rfl (lv_at hl 0 rfl) ?_
  refine va_get (D := D) (ci := 2) (v := .ref a_t_kept) (C := RX2) (T := TX2) (N := 8) hx hb hts iw2 hown hK hP 0 rfl rfl 3 (by decide) hf37 (fun _ h9 => h9) rfl dX2_clear_31 ?_
  refine lv_iconst (v := 0) hx hb dX2_clear_34 (by decide) ?_
  refine my_put (ty := .int) (v := .int 0) (ci := 4) (C := RX4) (T := TX4) (N := 2) (wn := [(a_t, .inr (2, [.ref a_t_rows, .ref a_t_index, .ref a_t_answer, .ref a_t_kept, .ref a_t_settings, v_t_pendingRows, .int t_pendingCount, .int t_totalCost])), (a_t_answer, .inr (0, [.ref a_t_answer_numbers, .int 0])), (a_t_answer_numbers, .inl (t 0, 9, .inl t_answer_numbers_19_8)), (a_t_index, .inr (3, [.ref a_t_rows, v_t_index_entries, .ref a_t_index_bounds, .ref a_t_index_starts, .ref a_t_index_heats, .ref a_t_index_sorted, .int t_index_size_12_1, .int t_index_pieces_12_2])), (a_t_index_bounds, .inl (t 0, 62, .inl t_index_bounds_12_3)), (a_t_index_heats, .inl (t 0, 62, .inl t_index_heats_12_4)), (a_t_index_sorted, .inl (t 0, 62, .inl t_index_sorted_12_5)), (a_t_index_starts, .inl (t 0, 62, .inl t_index_starts_12_6)), (a_t_kept, .inr (4, [v_t_kept_numbers, .int 0])), (a_t_settings, .inl (t 0, 4, .inl t_settings_)), (a_t_rows, .inr (6, [v_t_rows_keys, v_t_rows_values, v_t_rows_states, .int 0]))]) hx hb hts iw4 tyX4 tyX4_ok nmX4 hown hK hP hD hS 8 rfl rfl 1 (by decide) hf67 (fun _ h9 => h9) rfl (by decide +kernel) rfl rfl (Nat.le_of_ble_eq_true rfl) rfl dX2_clear_35 (fun H locs hP hD hS => ?_)
  refine lv_aload_n hx hb dX2_clear_38 rfl (lv_at hl 0 rfl) ?_
  refine lv_iconst (v := 0) hx hb dX2_clear_39 (by decide) ?_
  refine my_put (ty := .int) (v := .int 0) (ci := 2) (C := RX2) (T := TX2) (N := 8) (wn := [(a_t, .inr (2, [.ref a_t_rows, .ref a_t_index, .ref a_t_answer, .ref a_t_kept, .ref a_t_settings, v_t_pendingRows, .int 0, .int t_totalCost])), (a_t_answer, .inr (0, [.ref a_t_answer_numbers, .int 0])), (a_t_answer_numbers, .inl (t 0, 9, .inl t_answer_numbers_19_8)), (a_t_index, .inr (3, [.ref a_t_rows, v_t_index_entries, .ref a_t_index_bounds, .ref a_t_index_starts, .ref a_t_index_heats, .ref a_t_index_sorted, .int t_index_size_12_1, .int t_index_pieces_12_2])), (a_t_index_bounds, .inl (t 0, 62, .inl t_index_bounds_12_3)), (a_t_index_heats, .inl (t 0, 62, .inl t_index_heats_12_4)), (a_t_index_sorted, .inl (t 0, 62, .inl t_index_sorted_12_5)), (a_t_index_starts, .inl (t 0, 62, .inl t_index_starts_12_6)), (a_t_kept, .inr (4, [v_t_kept_numbers, .int 0])), (a_t_settings, .inl (t 0, 4, .inl t_settings_)), (a_t_rows, .inr (6, [v_t_rows_keys, v_t_rows_values, v_t_rows_states, .int 0]))]) hx hb hts iw2 tyX2 tyX2_ok nmX2 hown hK hP hD hS 0 rfl rfl 6 (by decide) hf48 (fun _ h9 => h9) rfl (by decide +kernel) rfl rfl (Nat.le_of_ble_eq_true rfl) rfl dX2_clear_40 (fun H locs hP hD hS => ?_)
  refine lv_aload_n hx hb dX2_clear_43 rfl (lv_at hl 0 rfl) ?_
  refine lv_iconst (v := 0) hx hb dX2_clear_44 (by decide) ?_
  refine my_put (ty := .int) (v := .int 0) (ci := 2) (C := RX2) (T := TX2) (N := 8) (wn := [(a_t, .inr (2, [.ref a_t_rows, .ref a_t_index, .ref a_t_answer, .ref a_t_kept, .ref a_t_settings, v_t_pendingRows, .int 0, .int 0])), (a_t_answer, .inr (0, [.ref a_t_answer_numbers, .int 0])), (a_t_answer_numbers, .inl (t 0, 9, .inl t_answer_numbers_19_8)), (a_t_index, .inr (3, [.ref a_t_rows, v_t_index_entries, .ref a_t_index_bounds, .ref a_t_index_starts, .ref a_t_index_heats, .ref a_t_index_sorted, .int t_index_size_12_1, .int t_index_pieces_12_2])), (a_t_index_bounds, .inl (t 0, 62, .inl t_index_bounds_12_3)), (a_t_index_heats, .inl (t 0, 62, .inl t_index_heats_12_4)), (a_t_index_sorted, .inl (t 0, 62, .inl t_index_sorted_12_5)), (a_t_index_starts, .inl (t 0, 62, .inl t_index_starts_12_6)), (a_t_kept, .inr (4, [v_t_kept_numbers, .int 0])), (a_t_settings, .inl (t 0, 4, .inl t_settings_)), (a_t_rows, .inr (6, [v_t_rows_keys, v_t_rows_values, v_t_rows_states, .int 0]))]) hx hb hts iw2 tyX2 tyX2_ok nmX2 hown hK hP hD hS 0 rfl rfl 7 (by decide) hf52 (fun _ h9 => h9) rfl (by decide +kernel) rfl rfl (Nat.le_of_ble_eq_true rfl) rfl dX2_clear_45 (fun H locs hP hD hS => ?_)
  refine lv_iconst (v := 0) hx hb dX2_clear_48 (by decide) ?_
  refine lv_istore_n (lv' := [(1, .int 0), (0, .ref a_t)]) hx hb dX2_clear_49 rfl hl (by decide) rfl (fun ls hl => ?_)
  obtain ⟨k70_11, ek70_11, hF⟩ := jnE hF
  have hk70_11 : ∀ (t_settings_70_10 : (Nat → Int32)) (H : Heap) (locs : List Loc) (ls : Array Slot), va_P D vwCl [(a_t, .inr (2, [.ref a_t_rows, .ref a_t_index, .ref a_t_answer, .ref a_t_kept, .ref a_t_settings, v_t_pendingRows, .int 0, .int 0])), (a_t_answer, .inr (0, [.ref a_t_answer_numbers, .int 0])), (a_t_answer_numbers, .inl (t 0, 9, .inl t_answer_numbers_19_8)), (a_t_index, .inr (3, [.ref a_t_rows, v_t_index_entries, .ref a_t_index_bounds, .ref a_t_index_starts, .ref a_t_index_heats, .ref a_t_index_sorted, .int t_index_size_12_1, .int t_index_pieces_12_2])), (a_t_index_bounds, .inl (t 0, 62, .inl t_index_bounds_12_3)), (a_t_index_heats, .inl (t 0, 62, .inl t_index_heats_12_4)), (a_t_index_sorted, .inl (t 0, 62, .inl t_index_sorted_12_5)), (a_t_index_starts, .inl (t 0, 62, .inl t_index_starts_12_6)), (a_t_kept, .inr (4, [v_t_kept_numbers, .int 0])), (a_t_settings, .inl (t 0, 4, .inl t_settings_70_10)), (a_t_rows, .inr (6, [v_t_rows_keys, v_t_rows_values, v_t_rows_states, .int 0]))] H → va_D A [(a_t, .inr (2, [.ref a_t_rows, .ref a_t_index, .ref a_t_answer, .ref a_t_kept, .ref a_t_settings, v_t_pendingRows, .int 0, .int 0])), (a_t_answer, .inr (0, [.ref a_t_answer_numbers, .int 0])), (a_t_answer_numbers, .inl (t 0, 9, .inl t_answer_numbers_19_8)), (a_t_index, .inr (3, [.ref a_t_rows, v_t_index_entries, .ref a_t_index_bounds, .ref a_t_index_starts, .ref a_t_index_heats, .ref a_t_index_sorted, .int t_index_size_12_1, .int t_index_pieces_12_2])), (a_t_index_bounds, .inl (t 0, 62, .inl t_index_bounds_12_3)), (a_t_index_heats, .inl (t 0, 62, .inl t_index_heats_12_4)), (a_t_index_sorted, .inl (t 0, 62, .inl t_index_sorted_12_5)), (a_t_index_starts, .inl (t 0, 62, .inl t_index_starts_12_6)), (a_t_kept, .inr (4, [v_t_kept_numbers, .int 0])), (a_t_settings, .inl (t 0, 4, .inl t_settings_70_10)), (a_t_rows, .inr (6, [v_t_rows_keys, v_t_rows_values, v_t_rows_states, .int 0]))] → va_S A s.heap H locs → lv_has ls 2 [] → k70_11 t_settings_70_10 = some T9 → W p l e rm_X2_clear s m args below meth c H locs 0 0 Q (F0 m 70 ls []) := by
    subst ek70_11
    intro t_settings_70_10 H locs ls hP hD hS hl hF
    cases hF
    exact we_vret hx hb hr hlocks dX2_clear_70 rfl hQ hP hD hS
  have hlp50 : ∀ n50 : Nat, ∀ (x1_50_12 : Int32) (t_settings_50_13 : (Nat → Int32)) (H : Heap) (locs : List Loc) (ls : Array Slot), va_P D vwCl [(a_t, .inr (2, [.ref a_t_rows, .ref a_t_index, .ref a_t_answer, .ref a_t_kept, .ref a_t_settings, v_t_pendingRows, .int 0, .int 0])), (a_t_answer, .inr (0, [.ref a_t_answer_numbers, .int 0])), (a_t_answer_numbers, .inl (t 0, 9, .inl t_answer_numbers_19_8)), (a_t_index, .inr (3, [.ref a_t_rows, v_t_index_entries, .ref a_t_index_bounds, .ref a_t_index_starts, .ref a_t_index_heats, .ref a_t_index_sorted, .int t_index_size_12_1, .int t_index_pieces_12_2])), (a_t_index_bounds, .inl (t 0, 62, .inl t_index_bounds_12_3)), (a_t_index_heats, .inl (t 0, 62, .inl t_index_heats_12_4)), (a_t_index_sorted, .inl (t 0, 62, .inl t_index_sorted_12_5)), (a_t_index_starts, .inl (t 0, 62, .inl t_index_starts_12_6)), (a_t_kept, .inr (4, [v_t_kept_numbers, .int 0])), (a_t_settings, .inl (t 0, 4, .inl t_settings_50_13)), (a_t_rows, .inr (6, [v_t_rows_keys, v_t_rows_values, v_t_rows_states, .int 0]))] H → va_D A [(a_t, .inr (2, [.ref a_t_rows, .ref a_t_index, .ref a_t_answer, .ref a_t_kept, .ref a_t_settings, v_t_pendingRows, .int 0, .int 0])), (a_t_answer, .inr (0, [.ref a_t_answer_numbers, .int 0])), (a_t_answer_numbers, .inl (t 0, 9, .inl t_answer_numbers_19_8)), (a_t_index, .inr (3, [.ref a_t_rows, v_t_index_entries, .ref a_t_index_bounds, .ref a_t_index_starts, .ref a_t_index_heats, .ref a_t_index_sorted, .int t_index_size_12_1, .int t_index_pieces_12_2])), (a_t_index_bounds, .inl (t 0, 62, .inl t_index_bounds_12_3)), (a_t_index_heats, .inl (t 0, 62, .inl t_index_heats_12_4)), (a_t_index_sorted, .inl (t 0, 62, .inl t_index_sorted_12_5)), (a_t_index_starts, .inl (t 0, 62, .inl t_index_starts_12_6)), (a_t_kept, .inr (4, [v_t_kept_numbers, .int 0])), (a_t_settings, .inl (t 0, 4, .inl t_settings_50_13)), (a_t_rows, .inr (6, [v_t_rows_keys, v_t_rows_values, v_t_rows_states, .int 0]))] → va_S A s.heap H locs → lv_has ls 2 [(0, .ref a_t), (1, .int x1_50_12)] → f_X2_clear_50 k70_11 n50 x1_50_12 t_settings_50_13 = some T9 → W p l e rm_X2_clear s m args below meth c H locs 0 0 Q (F0 m 50 ls []) := by
    intro n50
    induction n50 with
    | zero =>
      intro x1_50_12 t_settings_50_13 H locs ls hP hD hS hl hF
      cases (show none = some T9 from hF)
    | succ n50 ih50 =>
      intro x1_50_12 t_settings_50_13 H locs ls hP hD hS hl hF
      rw [f_X2_clear_50] at hF
      refine lv_iload_n hx hb dX2_clear_50 rfl (lv_at hl 1 rfl) ?_
      refine lv_iconst (v := 4) hx hb dX2_clear_51 (by decide) ?_
      refine lv_icmp_ge (tgt := 70) hx hb dX2_clear_52 (by decide) (fun c52 => ?_) (fun c52 => ?_)
      · have hF := brT c52 hF
        exact hk70_11 t_settings_50_13 H locs ls hP hD hS (lv_sub hl [] rfl) hF
      · have hF := brF c52 hF
        refine lv_aload_n hx hb dX2_clear_55 rfl (lv_at hl 0 rfl) ?_
        refine lv_iload_n hx hb dX2_clear_56 rfl (lv_at hl 1 rfl) ?_
        refine lv_iload_n hx hb dX2_clear_57 rfl (lv_at hl 1 rfl) ?_
        obtain ⟨r58_14, h58_14, hF⟩ := bndE hF
        refine rdSN (As := [.int x1_50_12]) (rest := [.int x1_50_12, .ref a_t]) ⟨hx, hb, hml, hown, hts⟩ (c_X7_firstSetting l D t z x x1_50_12 H r58_14 h58_14) ⟨va_cnB 1 hts gX2_clear_X7_firstSetting_n68 rfl rfl rfl (nw_4 hC.2.1) hini_X7 hd_X7_firstSetting.2 ⟨Nat.le_of_ble_eq_true rfl, Nat.le_of_ble_eq_true rfl⟩, hts (.static yX7_firstSetting) (by decide +kernel), trivial⟩ (hC.at hz hS) (selP (m9 := [false, false, false, false, false, false, false, false, false, false, false]) rfl rfl hP) rfl hl.1 rfl (Nat.le_of_ble_eq_true rfl) dX2_clear_58 ⟨Nat.zero_le _, Nat.zero_le _⟩ rfl ?_
        obtain ⟨t_settings_61_16, h61_16, hF⟩ := bndE hF
        refine wrVM (As := [.int x1_50_12, .int r58_14]) (rest := []) (C := RX2) (wn := [(a_t, .inr (2, [.ref a_t_rows, .ref a_t_index, .ref a_t_answer, .ref a_t_kept, .ref a_t_settings, v_t_pendingRows, .int 0, .int 0])), (a_t_answer, .inr (0, [.ref a_t_answer_numbers, .int 0])), (a_t_answer_numbers, .inl (t 0, 9, .inl t_answer_numbers_19_8)), (a_t_index, .inr (3, [.ref a_t_rows, v_t_index_entries, .ref a_t_index_bounds, .ref a_t_index_starts, .ref a_t_index_heats, .ref a_t_index_sorted, .int t_index_size_12_1, .int t_index_pieces_12_2])), (a_t_index_bounds, .inl (t 0, 62, .inl t_index_bounds_12_3)), (a_t_index_heats, .inl (t 0, 62, .inl t_index_heats_12_4)), (a_t_index_sorted, .inl (t 0, 62, .inl t_index_sorted_12_5)), (a_t_index_starts, .inl (t 0, 62, .inl t_index_starts_12_6)), (a_t_kept, .inr (4, [v_t_kept_numbers, .int 0])), (a_t_settings, .inl (t 0, 4, .inl t_settings_61_16)), (a_t_rows, .inr (6, [v_t_rows_keys, v_t_rows_values, v_t_rows_states, .int 0]))]) ⟨hx, hb, hml, hown, hts⟩ (c_X2_putSetting l D t z x a_t a_t_settings (.ref a_t_rows) (.ref a_t_index) (.ref a_t_answer) (.ref a_t_kept) v_t_pendingRows 0 0 t_settings_50_13 x1_50_12 r58_14 H.size t_settings_61_16 h61_16) (cwV 2 hts gX2_clear_X2_putSetting rfl rfl rfl hd_X2_putSetting ⟨Nat.le_of_ble_eq_true rfl, Nat.le_of_ble_eq_true rfl⟩) (hC.at hz hS) hP hD hS hA hz [true, false, false, false, false, false, false, false, false, true, false] rfl rfl rfl rfl 0 rfl (show vwCl[2]? = some (RX2, TX2, 8) from rfl) rfl rfl hl.1 rfl (Nat.le_of_ble_eq_true rfl) dX2_clear_61 ⟨Nat.zero_le _, Nat.zero_le _⟩ rfl (fun H locs hP hD hS => ?_)
        obtain ⟨y64_18, ey64_18⟩ : ∃ y : Int32, y = x1_50_12 + 1 := ⟨_, rfl⟩
        have hF := ltE ey64_18 hF
        refine lv_iinc (v := y64_18) (lv' := [(1, .int y64_18), (0, .ref a_t)]) hx hb dX2_clear_64 hl (k := 1) rfl (by rw [ey64_18]; rfl) (by decide) rfl (fun ls hl => ?_)
        refine lv_goto (tgt := 50) hx hb dX2_clear_67 (by decide) ?_
        exact ih50 y64_18 t_settings_61_16 H locs ls hP hD hS (lv_sub hl [1, 0] rfl) hF
  exact hlp50 N 0 t_settings_ H locs ls hP hD hS (lv_sub hl [1, 0] rfl) hF
abbrev rm_X2_sortHotPieces : Room := { frames := 4, cells := 0, slots := 0, locals := 111 }
theorem hd_X2_sortHotPieces : yX2_sortHotPieces.cls = RX2 ∧ yX2_sortHotPieces.cls ≠ "java/lang/invoke/MethodHandle" ∧ yX2_sortHotPieces.cls ≠ "java/lang/invoke/VarHandle" ∧ (parseMethodDescriptor yX2_sortHotPieces.desc).map (fun d => d.parameters.length) = some 2 := by decide +kernel
set_option maxRecDepth 100000 in
set_option maxHeartbeats 4000000 in
theorem c_X2_sortHotPieces (l : Launch) (D : va_G) (t : Nat → ClassId) (z : Nat) (x : Nat → Nat) (N : Nat) (a_t : Nat) (a_t_answer : Nat) (a_t_answer_numbers : Nat) (a_t_index : Nat) (a_t_index_entries : Nat) (a_t_index_heats : Nat) (a_t_index_sorted : Nat) (a_t_index_starts : Nat) (a_t_settings : Nat) (a_t_rows : Nat) (a_t_rows_keys : Nat) (v_t_kept : Value) (v_t_pendingRows : Value) (v_t_index_bounds : Value) (v_t_rows_values : Value) (v_t_rows_states : Value) (t_pendingCount : Int32) (t_totalCost : Int32) (t_answer_given : Int32) (t_answer_numbers_ : (Nat → Int32)) (t_index_size : Int32) (t_index_pieces : Int32) (t_index_entries_ : (Nat → Int32)) (t_index_heats_ : (Nat → Int32)) (t_index_sorted_ : (Nat → Int32)) (t_index_starts_ : (Nat → Int32)) (t_settings_ : (Nat → Int32)) (t_rows_count : Int32) (t_rows_keys_ : (Nat → Int32)) (p1 : Int32) (p2 : Int32) (sz : Nat) (r : Int32) (t_answer_numbers_' : (Nat → Int32)) (t_index_entries_' : (Nat → Int32)) (t_index_sorted_' : (Nat → Int32)) (hF : f_X2_sortHotPieces N t_answer_numbers_ t_index_size t_index_pieces t_index_entries_ t_index_heats_ t_index_sorted_ t_index_starts_ t_settings_ t_rows_keys_ p1 p2 = some (r, t_answer_numbers_', t_index_entries_', t_index_sorted_')) : WrM l D (TY t) z x yX2_sortHotPieces wsX2_sortHotPieces rm_X2_sortHotPieces [.ref a_t, .int p1, .int p2] [(a_t, .inr (2, [.ref a_t_rows, .ref a_t_index, .ref a_t_answer, v_t_kept, .ref a_t_settings, v_t_pendingRows, .int t_pendingCount, .int t_totalCost])), (a_t_answer, .inr (0, [.ref a_t_answer_numbers, .int t_answer_given])), (a_t_answer_numbers, .inl (t 0, 9, .inl t_answer_numbers_)), (a_t_index, .inr (3, [.ref a_t_rows, .ref a_t_index_entries, v_t_index_bounds, .ref a_t_index_starts, .ref a_t_index_heats, .ref a_t_index_sorted, .int t_index_size, .int t_index_pieces])), (a_t_index_entries, .inl (t 0, 120, .inl t_index_entries_)), (a_t_index_heats, .inl (t 0, 62, .inl t_index_heats_)), (a_t_index_sorted, .inl (t 0, 62, .inl t_index_sorted_)), (a_t_index_starts, .inl (t 0, 62, .inl t_index_starts_)), (a_t_settings, .inl (t 0, 4, .inl t_settings_)), (a_t_rows, .inr (6, [.ref a_t_rows_keys, v_t_rows_values, v_t_rows_states, .int t_rows_count])), (a_t_rows_keys, .inl (t 0, 120, .inl t_rows_keys_))] [(a_t, .inr (2, [.ref a_t_rows, .ref a_t_index, .ref a_t_answer, v_t_kept, .ref a_t_settings, v_t_pendingRows, .int t_pendingCount, .int t_totalCost])), (a_t_answer, .inr (0, [.ref a_t_answer_numbers, .int t_answer_given])), (a_t_answer_numbers, .inl (t 0, 9, .inl t_answer_numbers_')), (a_t_index, .inr (3, [.ref a_t_rows, .ref a_t_index_entries, v_t_index_bounds, .ref a_t_index_starts, .ref a_t_index_heats, .ref a_t_index_sorted, .int t_index_size, .int t_index_pieces])), (a_t_index_entries, .inl (t 0, 120, .inl t_index_entries_')), (a_t_index_heats, .inl (t 0, 62, .inl t_index_heats_)), (a_t_index_sorted, .inl (t 0, 62, .inl t_index_sorted_')), (a_t_index_starts, .inl (t 0, 62, .inl t_index_starts_)), (a_t_settings, .inl (t 0, 4, .inl t_settings_)), (a_t_rows, .inr (6, [.ref a_t_rows_keys, v_t_rows_values, v_t_rows_states, .int t_rows_count])), (a_t_rows_keys, .inl (t 0, 120, .inl t_rows_keys_))] sz (some (.int r)) 0 0 := by
  obtain ⟨T9, hT⟩ : ∃ T9, T9 = (r, t_answer_numbers_', t_index_entries_', t_index_sorted_') := ⟨_, rfl⟩
  rw [← hT] at hF
  obtain rfl : r = T9.1 := by rw [hT]
  obtain rfl : t_answer_numbers_' = T9.2.1 := by rw [hT]
  obtain rfl : t_index_entries_' = T9.2.2.1 := by rw [hT]
  obtain rfl : t_index_sorted_' = T9.2.2.2 := by rw [hT]
  clear hT
  refine wr_of (cc := cX2_sortHotPieces) (maxL := 7) (ret := (some .int)) (by decide) rfl (Nat.le_of_ble_eq_true rfl) ?_
  intro p e s m args below meth c A Q hQ hx hb hr hml hts hown hlocks hin H locs hP hD hS hA hz hC ls hl
  have hown : s.vm.findClass RX2 = some m.cls := hown
  have hl : lv_has ls 7 [(0, .ref a_t), (1, .int p1), (2, .int p2)] := hl
  have hK := hC.1
  have iw2 : ∀ w ∈ wsX20, w ∈ wsX2_sortHotPieces := fun _ h => List.mem_cons_of_mem _ (List.mem_append_left _ (List.mem_append_left _ (List.mem_append_left _ (List.mem_append_right _ h))))
  have hf23 := hts (.fieldLink RX2 23 "CrackedColumn$Column" "index" "LCrackedColumn$Index;") (by decide +kernel)
  have hf30 := hts (.fieldLink RX2 30 "CrackedColumn$Column" "answer" "LCrackedColumn$Answer;") (by decide +kernel)
  have hini_X7 := hts (.initialized RX7) (by decide +kernel)
  unfold f_X2_sortHotPieces at hF
  refine lv_iconst (v := 0) hx hb dX2_sortHotPieces_0 (by decide) ?_
  refine lv_istore_n (lv' := [(3, .int 0), (0, .ref a_t), (1, .int p1), (2, .int p2)]) hx hb dX2_sortHotPieces_1 rfl hl (by decide) rfl (fun ls hl => ?_)
  refine lv_iconst (v := 0) hx hb dX2_sortHotPieces_2 (by decide) ?_
  refine lv_istore (lv' := [(4, .int 0), (3, .int 0), (0, .ref a_t), (1, .int p1), (2, .int p2)]) hx hb dX2_sortHotPieces_3 hl (by decide) rfl (fun ls hl => ?_)
  refine lv_iload_n hx hb dX2_sortHotPieces_5 rfl (lv_at hl 3 rfl) ?_
  refine lv_istore (lv' := [(5, .int p1), (4, .int 0), (3, .int 0), (0, .ref a_t), (1, .int p1), (2, .int p2)]) hx hb dX2_sortHotPieces_6 hl (by decide) rfl (fun ls hl => ?_)
  obtain ⟨k63_5, ek63_5, hF⟩ := jnE hF
  have hk63_5 : ∀ (x3_63_1 : Int32) (x4_63_2 : Int32) (t_index_entries_63_3 : (Nat → Int32)) (t_index_sorted_63_4 : (Nat → Int32)) (H : Heap) (locs : List Loc) (ls : Array Slot), va_P D vwCl [(a_t, .inr (2, [.ref a_t_rows, .ref a_t_index, .ref a_t_answer, v_t_kept, .ref a_t_settings, v_t_pendingRows, .int t_pendingCount, .int t_totalCost])), (a_t_answer, .inr (0, [.ref a_t_answer_numbers, .int t_answer_given])), (a_t_answer_numbers, .inl (t 0, 9, .inl t_answer_numbers_)), (a_t_index, .inr (3, [.ref a_t_rows, .ref a_t_index_entries, v_t_index_bounds, .ref a_t_index_starts, .ref a_t_index_heats, .ref a_t_index_sorted, .int t_index_size, .int t_index_pieces])), (a_t_index_entries, .inl (t 0, 120, .inl t_index_entries_63_3)), (a_t_index_heats, .inl (t 0, 62, .inl t_index_heats_)), (a_t_index_sorted, .inl (t 0, 62, .inl t_index_sorted_63_4)), (a_t_index_starts, .inl (t 0, 62, .inl t_index_starts_)), (a_t_settings, .inl (t 0, 4, .inl t_settings_)), (a_t_rows, .inr (6, [.ref a_t_rows_keys, v_t_rows_values, v_t_rows_states, .int t_rows_count])), (a_t_rows_keys, .inl (t 0, 120, .inl t_rows_keys_))] H → va_D A [(a_t, .inr (2, [.ref a_t_rows, .ref a_t_index, .ref a_t_answer, v_t_kept, .ref a_t_settings, v_t_pendingRows, .int t_pendingCount, .int t_totalCost])), (a_t_answer, .inr (0, [.ref a_t_answer_numbers, .int t_answer_given])), (a_t_answer_numbers, .inl (t 0, 9, .inl t_answer_numbers_)), (a_t_index, .inr (3, [.ref a_t_rows, .ref a_t_index_entries, v_t_index_bounds, .ref a_t_index_starts, .ref a_t_index_heats, .ref a_t_index_sorted, .int t_index_size, .int t_index_pieces])), (a_t_index_entries, .inl (t 0, 120, .inl t_index_entries_63_3)), (a_t_index_heats, .inl (t 0, 62, .inl t_index_heats_)), (a_t_index_sorted, .inl (t 0, 62, .inl t_index_sorted_63_4)), (a_t_index_starts, .inl (t 0, 62, .inl t_index_starts_)), (a_t_settings, .inl (t 0, 4, .inl t_settings_)), (a_t_rows, .inr (6, [.ref a_t_rows_keys, v_t_rows_values, v_t_rows_states, .int t_rows_count])), (a_t_rows_keys, .inl (t 0, 120, .inl t_rows_keys_))] → va_S A s.heap H locs → lv_has ls 7 [(0, .ref a_t), (3, .int x3_63_1), (4, .int x4_63_2)] → k63_5 x3_63_1 x4_63_2 t_index_entries_63_3 t_index_sorted_63_4 = some T9 → W p l e rm_X2_sortHotPieces s m args below meth c H locs 0 0 Q (F0 m 63 ls []) := by
    subst ek63_5
    intro x3_63_1 x4_63_2 t_index_entries_63_3 t_index_sorted_63_4 H locs ls hP hD hS hl hF
    refine lv_aload_n hx hb dX2_sortHotPieces_63 rfl (lv_at hl 0 rfl) ?_
    refine va_get (D := D) (ci := 2) (v := .ref a_t_answer) (C := RX2) (T := TX2) (N := 8) hx hb hts iw2 hown hK hP 0 rfl rfl 2 (by decide) hf30 (fun _ h9 => h9) rfl dX2_sortHotPieces_64 ?_
    refine lv_bipush (v := 7) hx hb dX2_sortHotPieces_67 (by decide) ?_
    refine lv_iload hx hb dX2_sortHotPieces_69 (lv_at hl 2 rfl) ?_
    obtain ⟨t_answer_numbers_71_6, h71_6, hF⟩ := bndE hF
    refine wrVM (As := [.int 7, .int x4_63_2]) (rest := []) (C := RX0) (wn := [(a_t, .inr (2, [.ref a_t_rows, .ref a_t_index, .ref a_t_answer, v_t_kept, .ref a_t_settings, v_t_pendingRows, .int t_pendingCount, .int t_totalCost])), (a_t_answer, .inr (0, [.ref a_t_answer_numbers, .int t_answer_given])), (a_t_answer_numbers, .inl (t 0, 9, .inl t_answer_numbers_71_6)), (a_t_index, .inr (3, [.ref a_t_rows, .ref a_t_index_entries, v_t_index_bounds, .ref a_t_index_starts, .ref a_t_index_heats, .ref a_t_index_sorted, .int t_index_size, .int t_index_pieces])), (a_t_index_entries, .inl (t 0, 120, .inl t_index_entries_63_3)), (a_t_index_heats, .inl (t 0, 62, .inl t_index_heats_)), (a_t_index_sorted, .inl (t 0, 62, .inl t_index_sorted_63_4)), (a_t_index_starts, .inl (t 0, 62, .inl t_index_starts_)), (a_t_settings, .inl (t 0, 4, .inl t_settings_)), (a_t_rows, .inr (6, [.ref a_t_rows_keys, v_t_rows_values, v_t_rows_states, .int t_rows_count])), (a_t_rows_keys, .inl (t 0, 120, .inl t_rows_keys_))]) ⟨hx, hb, hml, hown, hts⟩ (c_X0_putNumber l D t z x a_t_answer a_t_answer_numbers t_answer_given t_answer_numbers_ 7 x4_63_2 H.size t_answer_numbers_71_6 h71_6) (cwV 2 hts gX2_sortHotPieces_X0_putNumber rfl rfl rfl hd_X0_putNumber ⟨Nat.le_of_ble_eq_true rfl, Nat.le_of_ble_eq_true rfl⟩) (hC.at hz hS) hP hD hS hA hz [false, true, true, false, false, false, false, false, false, false, false] rfl rfl rfl rfl 0 rfl (show vwCl[0]? = some (RX0, TX0, 2) from rfl) rfl rfl hl.1 rfl (Nat.le_of_ble_eq_true rfl) dX2_sortHotPieces_71 ⟨Nat.zero_le _, Nat.zero_le _⟩ rfl (fun H locs hP hD hS => ?_)
    refine lv_iload_n hx hb dX2_sortHotPieces_74 rfl (lv_at hl 1 rfl) ?_
    cases hF
    exact we_iret hx hb hr hlocks dX2_sortHotPieces_75 rfl hQ hP hD hS
  have hlp8 : ∀ n8 : Nat, ∀ (x3_8_8 : Int32) (x4_8_9 : Int32) (x5_8_10 : Int32) (t_index_entries_8_11 : (Nat → Int32)) (t_index_sorted_8_12 : (Nat → Int32)) (H : Heap) (locs : List Loc) (ls : Array Slot), va_P D vwCl [(a_t, .inr (2, [.ref a_t_rows, .ref a_t_index, .ref a_t_answer, v_t_kept, .ref a_t_settings, v_t_pendingRows, .int t_pendingCount, .int t_totalCost])), (a_t_answer, .inr (0, [.ref a_t_answer_numbers, .int t_answer_given])), (a_t_answer_numbers, .inl (t 0, 9, .inl t_answer_numbers_)), (a_t_index, .inr (3, [.ref a_t_rows, .ref a_t_index_entries, v_t_index_bounds, .ref a_t_index_starts, .ref a_t_index_heats, .ref a_t_index_sorted, .int t_index_size, .int t_index_pieces])), (a_t_index_entries, .inl (t 0, 120, .inl t_index_entries_8_11)), (a_t_index_heats, .inl (t 0, 62, .inl t_index_heats_)), (a_t_index_sorted, .inl (t 0, 62, .inl t_index_sorted_8_12)), (a_t_index_starts, .inl (t 0, 62, .inl t_index_starts_)), (a_t_settings, .inl (t 0, 4, .inl t_settings_)), (a_t_rows, .inr (6, [.ref a_t_rows_keys, v_t_rows_values, v_t_rows_states, .int t_rows_count])), (a_t_rows_keys, .inl (t 0, 120, .inl t_rows_keys_))] H → va_D A [(a_t, .inr (2, [.ref a_t_rows, .ref a_t_index, .ref a_t_answer, v_t_kept, .ref a_t_settings, v_t_pendingRows, .int t_pendingCount, .int t_totalCost])), (a_t_answer, .inr (0, [.ref a_t_answer_numbers, .int t_answer_given])), (a_t_answer_numbers, .inl (t 0, 9, .inl t_answer_numbers_)), (a_t_index, .inr (3, [.ref a_t_rows, .ref a_t_index_entries, v_t_index_bounds, .ref a_t_index_starts, .ref a_t_index_heats, .ref a_t_index_sorted, .int t_index_size, .int t_index_pieces])), (a_t_index_entries, .inl (t 0, 120, .inl t_index_entries_8_11)), (a_t_index_heats, .inl (t 0, 62, .inl t_index_heats_)), (a_t_index_sorted, .inl (t 0, 62, .inl t_index_sorted_8_12)), (a_t_index_starts, .inl (t 0, 62, .inl t_index_starts_)), (a_t_settings, .inl (t 0, 4, .inl t_settings_)), (a_t_rows, .inr (6, [.ref a_t_rows_keys, v_t_rows_values, v_t_rows_states, .int t_rows_count])), (a_t_rows_keys, .inl (t 0, 120, .inl t_rows_keys_))] → va_S A s.heap H locs → lv_has ls 7 [(0, .ref a_t), (2, .int p2), (3, .int x3_8_8), (4, .int x4_8_9), (5, .int x5_8_10)] → f_X2_sortHotPieces_8 N t_index_size t_index_pieces t_index_heats_ t_index_starts_ t_settings_ t_rows_keys_ p2 k63_5 n8 x3_8_8 x4_8_9 x5_8_10 t_index_entries_8_11 t_index_sorted_8_12 = some T9 → W p l e rm_X2_sortHotPieces s m args below meth c H locs 0 0 Q (F0 m 8 ls []) := by
    intro n8
    induction n8 with
    | zero =>
      intro x3_8_8 x4_8_9 x5_8_10 t_index_entries_8_11 t_index_sorted_8_12 H locs ls hP hD hS hl hF
      cases (show none = some T9 from hF)
    | succ n8 ih8 =>
      intro x3_8_8 x4_8_9 x5_8_10 t_index_entries_8_11 t_index_sorted_8_12 H locs ls hP hD hS hl hF
      rw [f_X2_sortHotPieces_8] at hF
      refine lv_iload hx hb dX2_sortHotPieces_8 (lv_at hl 4 rfl) ?_
      refine lv_iload_n hx hb dX2_sortHotPieces_10 rfl (lv_at hl 1 rfl) ?_
      refine lv_icmp_ge (tgt := 63) hx hb dX2_sortHotPieces_11 (by decide) (fun c11 => ?_) (fun c11 => ?_)
      · have hF := brT c11 hF
        exact hk63_5 x3_8_8 x4_8_9 t_index_entries_8_11 t_index_sorted_8_12 H locs ls hP hD hS (lv_sub hl [0, 2, 3] rfl) hF
      · have hF := brF c11 hF
        refine lv_aload_n hx hb dX2_sortHotPieces_14 rfl (lv_at hl 0 rfl) ?_
        refine lv_iload hx hb dX2_sortHotPieces_15 (lv_at hl 4 rfl) ?_
        obtain ⟨r17_13, h17_13, hF⟩ := bndE hF
        refine rdV (As := [.int x5_8_10]) (rest := []) (C := RX2) ⟨hx, hb, hml, hown, hts⟩ (c_X2_isToSort l D t z x a_t a_t_index a_t_index_heats a_t_index_sorted a_t_index_starts a_t_settings (.ref a_t_rows) (.ref a_t_answer) v_t_kept v_t_pendingRows (.ref a_t_rows) (.ref a_t_index_entries) v_t_index_bounds t_pendingCount t_totalCost t_index_size t_index_pieces t_index_heats_ t_index_sorted_8_12 t_index_starts_ t_settings_ x5_8_10 H r17_13 h17_13) (cwV 1 hts gX2_sortHotPieces_X2_isToSort rfl rfl rfl hd_X2_isToSort ⟨Nat.le_of_ble_eq_true rfl, Nat.le_of_ble_eq_true rfl⟩) (hC.at hz hS) (selP (m9 := [true, false, false, true, false, true, true, true, true, false, false]) rfl rfl hP) 0 rfl (show vwCl[2]? = some (RX2, TX2, 8) from rfl) rfl rfl hl.1 rfl (Nat.le_of_ble_eq_true rfl) dX2_sortHotPieces_17 ⟨Nat.zero_le _, Nat.zero_le _⟩ rfl ?_
        refine lv_if_eq (tgt := 57) hx hb dX2_sortHotPieces_20 (by decide) (fun c20 => ?_) (fun c20 => ?_)
        · have hF := brT c20 hF
          obtain ⟨y57_15, ey57_15⟩ : ∃ y : Int32, y = x5_8_10 + 1 := ⟨_, rfl⟩
          have hF := ltE ey57_15 hF
          refine lv_iinc (v := y57_15) (lv' := [(5, .int y57_15), (0, .ref a_t), (2, .int p2), (3, .int x3_8_8), (4, .int x4_8_9)]) hx hb dX2_sortHotPieces_57 hl (k := 4) rfl (by rw [ey57_15]; rfl) (by decide) rfl (fun ls hl => ?_)
          refine lv_goto (tgt := 8) hx hb dX2_sortHotPieces_60 (by decide) ?_
          exact ih8 x3_8_8 x4_8_9 y57_15 t_index_entries_8_11 t_index_sorted_8_12 H locs ls hP hD hS (lv_sub hl [1, 2, 3, 4, 0] rfl) hF
        · have hF := brF c20 hF
          refine lv_aload_n hx hb dX2_sortHotPieces_23 rfl (lv_at hl 0 rfl) ?_
          refine va_get (D := D) (ci := 2) (v := .ref a_t_index) (C := RX2) (T := TX2) (N := 8) hx hb hts iw2 hown hK hP 0 rfl rfl 1 (by decide) hf23 (fun _ h9 => h9) rfl dX2_sortHotPieces_24 ?_
          refine lv_iload hx hb dX2_sortHotPieces_27 (lv_at hl 4 rfl) ?_
          obtain ⟨r29_16, h29_16, hF⟩ := bndE hF
          refine rdV (As := [.int x5_8_10]) (rest := []) (C := RX3) ⟨hx, hb, hml, hown, hts⟩ (c_X3_sizeOf l D t z x a_t_index a_t_index_starts (.ref a_t_rows) (.ref a_t_index_entries) v_t_index_bounds (.ref a_t_index_heats) (.ref a_t_index_sorted) t_index_size t_index_pieces t_index_starts_ x5_8_10 H r29_16 h29_16) (cwV 1 hts gX2_sortHotPieces_X3_sizeOf rfl rfl rfl hd_X3_sizeOf ⟨Nat.le_of_ble_eq_true rfl, Nat.le_of_ble_eq_true rfl⟩) (hC.at hz hS) (selP (m9 := [false, false, false, true, false, false, false, true, false, false, false]) rfl rfl hP) 0 rfl (show vwCl[3]? = some (RX3, TX3, 8) from rfl) rfl rfl hl.1 rfl (Nat.le_of_ble_eq_true rfl) dX2_sortHotPieces_29 ⟨Nat.zero_le _, Nat.zero_le _⟩ rfl ?_
          refine lv_istore (lv' := [(6, .int r29_16), (0, .ref a_t), (2, .int p2), (3, .int x3_8_8), (4, .int x4_8_9), (5, .int x5_8_10)]) hx hb dX2_sortHotPieces_32 hl (by decide) rfl (fun ls hl => ?_)
          refine lv_iload_n hx hb dX2_sortHotPieces_34 rfl (lv_at hl 3 rfl) ?_
          refine lv_iload hx hb dX2_sortHotPieces_35 (lv_at hl 0 rfl) ?_
          refine lv_iload hx hb dX2_sortHotPieces_37 (lv_at hl 0 rfl) ?_
          obtain ⟨r39_18, h39_18, hF⟩ := bndE hF
          refine rdSN (As := [.int r29_16]) (rest := [.int r29_16, .int x3_8_8]) ⟨hx, hb, hml, hown, hts⟩ (c_X7_powerFor l D t z x N r29_16 H r39_18 h39_18) ⟨va_cnB 1 hts gX2_sortHotPieces_X7_powerFor_n168 rfl rfl rfl (nw_7 hC.2.1) hini_X7 hd_X7_powerFor.2 ⟨Nat.le_of_ble_eq_true rfl, Nat.le_of_ble_eq_true rfl⟩, hts (.static yX7_powerFor) (by decide +kernel), trivial⟩ (hC.at hz hS) (selP (m9 := [false, false, false, false, false, false, false, false, false, false, false]) rfl rfl hP) rfl hl.1 rfl (Nat.le_of_ble_eq_true rfl) dX2_sortHotPieces_39 ⟨Nat.zero_le _, Nat.zero_le _⟩ rfl ?_
          refine lv_imul hx hb dX2_sortHotPieces_42 ?_
          refine lv_iadd hx hb dX2_sortHotPieces_43 ?_
          refine lv_topi (fun y44_20 ey44_20 => ?_)
          have hF := ltE ey44_20 hF
          refine lv_istore_n (lv' := [(3, .int y44_20), (6, .int r29_16), (0, .ref a_t), (2, .int p2), (4, .int x4_8_9), (5, .int x5_8_10)]) hx hb dX2_sortHotPieces_44 rfl hl (by decide) rfl (fun ls hl => ?_)
          refine lv_aload_n hx hb dX2_sortHotPieces_45 rfl (lv_at hl 2 rfl) ?_
          refine va_get (D := D) (ci := 2) (v := .ref a_t_index) (C := RX2) (T := TX2) (N := 8) hx hb hts iw2 hown hK hP 0 rfl rfl 1 (by decide) hf23 (fun _ h9 => h9) rfl dX2_sortHotPieces_46 ?_
          refine lv_iload hx hb dX2_sortHotPieces_49 (lv_at hl 5 rfl) ?_
          obtain ⟨t_index_entries_51_21, t_index_sorted_51_22, h51_22, hF⟩ := bnd2E hF
          refine wrVM (As := [.int x5_8_10]) (rest := []) (C := RX3) (wn := [(a_t, .inr (2, [.ref a_t_rows, .ref a_t_index, .ref a_t_answer, v_t_kept, .ref a_t_settings, v_t_pendingRows, .int t_pendingCount, .int t_totalCost])), (a_t_answer, .inr (0, [.ref a_t_answer_numbers, .int t_answer_given])), (a_t_answer_numbers, .inl (t 0, 9, .inl t_answer_numbers_)), (a_t_index, .inr (3, [.ref a_t_rows, .ref a_t_index_entries, v_t_index_bounds, .ref a_t_index_starts, .ref a_t_index_heats, .ref a_t_index_sorted, .int t_index_size, .int t_index_pieces])), (a_t_index_entries, .inl (t 0, 120, .inl t_index_entries_51_21)), (a_t_index_heats, .inl (t 0, 62, .inl t_index_heats_)), (a_t_index_sorted, .inl (t 0, 62, .inl t_index_sorted_51_22)), (a_t_index_starts, .inl (t 0, 62, .inl t_index_starts_)), (a_t_settings, .inl (t 0, 4, .inl t_settings_)), (a_t_rows, .inr (6, [.ref a_t_rows_keys, v_t_rows_values, v_t_rows_states, .int t_rows_count])), (a_t_rows_keys, .inl (t 0, 120, .inl t_rows_keys_))]) ⟨hx, hb, hml, hown, hts⟩ (c_X3_putInOrder l D t z x N a_t_index a_t_index_entries a_t_index_sorted a_t_index_starts a_t_rows a_t_rows_keys v_t_index_bounds (.ref a_t_index_heats) v_t_rows_values v_t_rows_states t_index_size t_index_pieces t_index_entries_8_11 t_index_sorted_8_12 t_index_starts_ t_rows_count t_rows_keys_ x5_8_10 H.size t_index_entries_51_21 t_index_sorted_51_22 h51_22) (cwV 1 hts gX2_sortHotPieces_X3_putInOrder rfl rfl rfl hd_X3_putInOrder ⟨Nat.le_of_ble_eq_true rfl, Nat.le_of_ble_eq_true rfl⟩) (hC.at hz hS) hP hD hS hA hz [false, false, false, true, true, false, true, true, false, true, true] rfl rfl rfl rfl 0 rfl (show vwCl[3]? = some (RX3, TX3, 8) from rfl) rfl rfl hl.1 rfl (Nat.le_of_ble_eq_true rfl) dX2_sortHotPieces_51 ⟨Nat.zero_le _, Nat.zero_le _⟩ rfl (fun H locs hP hD hS => ?_)
          obtain ⟨y54_24, ey54_24⟩ : ∃ y : Int32, y = x4_8_9 + 1 := ⟨_, rfl⟩
          have hF := ltE ey54_24 hF
          refine lv_iinc (v := y54_24) (lv' := [(4, .int y54_24), (3, .int y44_20), (6, .int r29_16), (0, .ref a_t), (2, .int p2), (5, .int x5_8_10)]) hx hb dX2_sortHotPieces_54 hl (k := 4) rfl (by rw [ey54_24]; rfl) (by decide) rfl (fun ls hl => ?_)
          obtain ⟨y57_25, ey57_25⟩ : ∃ y : Int32, y = x5_8_10 + 1 := ⟨_, rfl⟩
          have hF := ltE ey57_25 hF
          refine lv_iinc (v := y57_25) (lv' := [(5, .int y57_25), (4, .int y54_24), (3, .int y44_20), (6, .int r29_16), (0, .ref a_t), (2, .int p2)]) hx hb dX2_sortHotPieces_57 hl (k := 5) rfl (by rw [ey57_25]; rfl) (by decide) rfl (fun ls hl => ?_)
          refine lv_goto (tgt := 8) hx hb dX2_sortHotPieces_60 (by decide) ?_
          exact ih8 y44_20 y54_24 y57_25 t_index_entries_51_21 t_index_sorted_51_22 H locs ls hP hD hS (lv_sub hl [4, 5, 2, 1, 0] rfl) hF
  exact hlp8 N 0 0 p1 t_index_entries_ t_index_sorted_ H locs ls hP hD hS (lv_sub hl [3, 5, 2, 1, 0] rfl) hF
abbrev rm_X2_mergeSpan : Room := { frames := 4, cells := 0, slots := 0, locals := 91 }
theorem hd_X2_mergeSpan : yX2_mergeSpan.cls = RX2 ∧ yX2_mergeSpan.cls ≠ "java/lang/invoke/MethodHandle" ∧ yX2_mergeSpan.cls ≠ "java/lang/invoke/VarHandle" ∧ (parseMethodDescriptor yX2_mergeSpan.desc).map (fun d => d.parameters.length) = some 2 := by decide +kernel
set_option maxRecDepth 100000 in
set_option maxHeartbeats 4000000 in
theorem c_X2_mergeSpan (l : Launch) (D : va_G) (t : Nat → ClassId) (z : Nat) (x : Nat → Nat) (N : Nat) (a_t : Nat) (a_t_index : Nat) (a_t_index_bounds : Nat) (a_t_index_entries : Nat) (a_t_index_sorted : Nat) (a_t_index_starts : Nat) (a_t_pendingRows : Nat) (a_t_rows : Nat) (a_t_rows_keys : Nat) (a_t_rows_states : Nat) (v_t_answer : Value) (v_t_kept : Value) (v_t_settings : Value) (v_t_index_heats : Value) (v_t_rows_values : Value) (t_pendingCount : Int32) (t_totalCost : Int32) (t_index_size : Int32) (t_index_pieces : Int32) (t_index_bounds_ : (Nat → Int32)) (t_index_entries_ : (Nat → Int32)) (t_index_sorted_ : (Nat → Int32)) (t_index_starts_ : (Nat → Int32)) (t_pendingRows_ : (Nat → Int32)) (t_rows_count : Int32) (t_rows_keys_ : (Nat → Int32)) (t_rows_states_ : (Nat → Int32)) (p1 : Int32) (p2 : Int32) (sz : Nat) (r : Int32) (t_pendingCount' : Int32) (t_index_size' : Int32) (t_index_entries_' : (Nat → Int32)) (t_index_starts_' : (Nat → Int32)) (t_pendingRows_' : (Nat → Int32)) (t_rows_states_' : (Nat → Int32)) (hF : f_X2_mergeSpan N t_pendingCount t_index_size t_index_pieces t_index_bounds_ t_index_entries_ t_index_sorted_ t_index_starts_ t_pendingRows_ t_rows_keys_ t_rows_states_ p1 p2 = some (r, t_pendingCount', t_index_size', t_index_entries_', t_index_starts_', t_pendingRows_', t_rows_states_')) : WrM l D (TY t) z x yX2_mergeSpan wsX2_mergeSpan rm_X2_mergeSpan [.ref a_t, .int p1, .int p2] [(a_t, .inr (2, [.ref a_t_rows, .ref a_t_index, v_t_answer, v_t_kept, v_t_settings, .ref a_t_pendingRows, .int t_pendingCount, .int t_totalCost])), (a_t_index, .inr (3, [.ref a_t_rows, .ref a_t_index_entries, .ref a_t_index_bounds, .ref a_t_index_starts, v_t_index_heats, .ref a_t_index_sorted, .int t_index_size, .int t_index_pieces])), (a_t_index_bounds, .inl (t 0, 62, .inl t_index_bounds_)), (a_t_index_entries, .inl (t 0, 120, .inl t_index_entries_)), (a_t_index_sorted, .inl (t 0, 62, .inl t_index_sorted_)), (a_t_index_starts, .inl (t 0, 62, .inl t_index_starts_)), (a_t_pendingRows, .inl (t 0, 31, .inl t_pendingRows_)), (a_t_rows, .inr (6, [.ref a_t_rows_keys, v_t_rows_values, .ref a_t_rows_states, .int t_rows_count])), (a_t_rows_keys, .inl (t 0, 120, .inl t_rows_keys_)), (a_t_rows_states, .inl (t 0, 120, .inl t_rows_states_))] [(a_t, .inr (2, [.ref a_t_rows, .ref a_t_index, v_t_answer, v_t_kept, v_t_settings, .ref a_t_pendingRows, .int t_pendingCount', .int t_totalCost])), (a_t_index, .inr (3, [.ref a_t_rows, .ref a_t_index_entries, .ref a_t_index_bounds, .ref a_t_index_starts, v_t_index_heats, .ref a_t_index_sorted, .int t_index_size', .int t_index_pieces])), (a_t_index_bounds, .inl (t 0, 62, .inl t_index_bounds_)), (a_t_index_entries, .inl (t 0, 120, .inl t_index_entries_')), (a_t_index_sorted, .inl (t 0, 62, .inl t_index_sorted_)), (a_t_index_starts, .inl (t 0, 62, .inl t_index_starts_')), (a_t_pendingRows, .inl (t 0, 31, .inl t_pendingRows_')), (a_t_rows, .inr (6, [.ref a_t_rows_keys, v_t_rows_values, .ref a_t_rows_states, .int t_rows_count])), (a_t_rows_keys, .inl (t 0, 120, .inl t_rows_keys_)), (a_t_rows_states, .inl (t 0, 120, .inl t_rows_states_'))] sz (some (.int r)) 0 0 := by
  obtain ⟨T9, hT⟩ : ∃ T9, T9 = (r, t_pendingCount', t_index_size', t_index_entries_', t_index_starts_', t_pendingRows_', t_rows_states_') := ⟨_, rfl⟩
  rw [← hT] at hF
  obtain rfl : r = T9.1 := by rw [hT]
  obtain rfl : t_pendingCount' = T9.2.1 := by rw [hT]
  obtain rfl : t_index_size' = T9.2.2.1 := by rw [hT]
  obtain rfl : t_index_entries_' = T9.2.2.2.1 := by rw [hT]
  obtain rfl : t_index_starts_' = T9.2.2.2.2.1 := by rw [hT]
  obtain rfl : t_pendingRows_' = T9.2.2.2.2.2.1 := by rw [hT]
  obtain rfl : t_rows_states_' = T9.2.2.2.2.2.2 := by rw [hT]
  clear hT
  refine wr_of (cc := cX2_mergeSpan) (maxL := 8) (ret := (some .int)) (by decide) rfl (Nat.le_of_ble_eq_true rfl) ?_
  intro p e s m args below meth c A Q hQ hx hb hr hml hts hown hlocks hin H locs hP hD hS hA hz hC ls hl
  have hown : s.vm.findClass RX2 = some m.cls := hown
  have hl : lv_has ls 8 [(0, .ref a_t), (1, .int p1), (2, .int p2)] := hl
  have hK := hC.1
  have iw2 : ∀ w ∈ wsX20, w ∈ wsX2_mergeSpan := fun _ h => List.mem_cons_of_mem _ (List.mem_append_left _ (List.mem_append_left _ (List.mem_append_right _ h)))
  have hf12 := hts (.fieldLink RX2 12 "CrackedColumn$Column" "rows" "LCrackedColumn$Rows;") (by decide +kernel)
  have hf45 := hts (.fieldLink RX2 45 "CrackedColumn$Column" "pendingRows" "[I") (by decide +kernel)
  have hf48 := hts (.fieldLink RX2 48 "CrackedColumn$Column" "pendingCount" "I") (by decide +kernel)
  have hm_min198 := hts (.methodLink RX2 198 Lib.Math.min.name) (by decide +kernel)
  have hm_min_s := hts (.static Lib.Math.min.name) (by decide +kernel)
  have hm_min_c := hts (.code Lib.Math.min.name Lib.Math.min.code 2 (some .int)) (by decide +kernel)
  have hm_init := hts (.initialized "java/lang/Math") (by decide +kernel)
  unfold f_X2_mergeSpan at hF
  refine lv_iconst (v := 0) hx hb dX2_mergeSpan_0 (by decide) ?_
  refine lv_istore_n (lv' := [(3, .int 0), (0, .ref a_t), (1, .int p1), (2, .int p2)]) hx hb dX2_mergeSpan_1 rfl hl (by decide) rfl (fun ls hl => ?_)
  refine lv_iconst (v := 0) hx hb dX2_mergeSpan_2 (by decide) ?_
  refine lv_istore (lv' := [(4, .int 0), (3, .int 0), (0, .ref a_t), (1, .int p1), (2, .int p2)]) hx hb dX2_mergeSpan_3 hl (by decide) rfl (fun ls hl => ?_)
  refine lv_aload_n hx hb dX2_mergeSpan_5 rfl (lv_at hl 2 rfl) ?_
  refine va_get (D := D) (ci := 2) (v := .int t_pendingCount) (C := RX2) (T := TX2) (N := 8) hx hb hts iw2 hown hK hP 0 rfl rfl 6 (by decide) hf48 (fun _ h9 => h9) rfl dX2_mergeSpan_6 ?_
  refine lv_bipush (v := 31) hx hb dX2_mergeSpan_9 (by decide) ?_
  refine va_mmin hx hb (hml.trans hl.1.symm) hown hm_min198 hm_min_s hm_init hm_min_c (Nat.le_of_ble_eq_true rfl) (Nat.le_of_ble_eq_true rfl) (Nat.zero_le _) (Nat.zero_le _) dX2_mergeSpan_11 ?_
  refine lv_topi (fun y11_1 ey11_1 => ?_)
  have hF := ltE ey11_1 hF
  refine lv_istore (lv' := [(5, .int y11_1), (4, .int 0), (3, .int 0), (0, .ref a_t), (1, .int p1), (2, .int p2)]) hx hb dX2_mergeSpan_14 hl (by decide) rfl (fun ls hl => ?_)
  refine lv_iconst (v := 0) hx hb dX2_mergeSpan_16 (by decide) ?_
  refine lv_istore (lv' := [(6, .int 0), (5, .int y11_1), (4, .int 0), (3, .int 0), (0, .ref a_t), (1, .int p1), (2, .int p2)]) hx hb dX2_mergeSpan_17 hl (by decide) rfl (fun ls hl => ?_)
  obtain ⟨k79_9, ek79_9, hF⟩ := jnE hF
  have hk79_9 : ∀ (x3_79_2 : Int32) (x4_79_3 : Int32) (t_index_size_79_4 : Int32) (t_index_entries_79_5 : (Nat → Int32)) (t_index_starts_79_6 : (Nat → Int32)) (t_pendingRows_79_7 : (Nat → Int32)) (t_rows_states_79_8 : (Nat → Int32)) (H : Heap) (locs : List Loc) (ls : Array Slot), va_P D vwCl [(a_t, .inr (2, [.ref a_t_rows, .ref a_t_index, v_t_answer, v_t_kept, v_t_settings, .ref a_t_pendingRows, .int t_pendingCount, .int t_totalCost])), (a_t_index, .inr (3, [.ref a_t_rows, .ref a_t_index_entries, .ref a_t_index_bounds, .ref a_t_index_starts, v_t_index_heats, .ref a_t_index_sorted, .int t_index_size_79_4, .int t_index_pieces])), (a_t_index_bounds, .inl (t 0, 62, .inl t_index_bounds_)), (a_t_index_entries, .inl (t 0, 120, .inl t_index_entries_79_5)), (a_t_index_sorted, .inl (t 0, 62, .inl t_index_sorted_)), (a_t_index_starts, .inl (t 0, 62, .inl t_index_starts_79_6)), (a_t_pendingRows, .inl (t 0, 31, .inl t_pendingRows_79_7)), (a_t_rows, .inr (6, [.ref a_t_rows_keys, v_t_rows_values, .ref a_t_rows_states, .int t_rows_count])), (a_t_rows_keys, .inl (t 0, 120, .inl t_rows_keys_)), (a_t_rows_states, .inl (t 0, 120, .inl t_rows_states_79_8))] H → va_D A [(a_t, .inr (2, [.ref a_t_rows, .ref a_t_index, v_t_answer, v_t_kept, v_t_settings, .ref a_t_pendingRows, .int t_pendingCount, .int t_totalCost])), (a_t_index, .inr (3, [.ref a_t_rows, .ref a_t_index_entries, .ref a_t_index_bounds, .ref a_t_index_starts, v_t_index_heats, .ref a_t_index_sorted, .int t_index_size_79_4, .int t_index_pieces])), (a_t_index_bounds, .inl (t 0, 62, .inl t_index_bounds_)), (a_t_index_entries, .inl (t 0, 120, .inl t_index_entries_79_5)), (a_t_index_sorted, .inl (t 0, 62, .inl t_index_sorted_)), (a_t_index_starts, .inl (t 0, 62, .inl t_index_starts_79_6)), (a_t_pendingRows, .inl (t 0, 31, .inl t_pendingRows_79_7)), (a_t_rows, .inr (6, [.ref a_t_rows_keys, v_t_rows_values, .ref a_t_rows_states, .int t_rows_count])), (a_t_rows_keys, .inl (t 0, 120, .inl t_rows_keys_)), (a_t_rows_states, .inl (t 0, 120, .inl t_rows_states_79_8))] → va_S A s.heap H locs → lv_has ls 8 [(0, .ref a_t), (3, .int x3_79_2), (4, .int x4_79_3)] → k79_9 x3_79_2 x4_79_3 t_index_size_79_4 t_index_entries_79_5 t_index_starts_79_6 t_pendingRows_79_7 t_rows_states_79_8 = some T9 → W p l e rm_X2_mergeSpan s m args below meth c H locs 0 0 Q (F0 m 79 ls []) := by
    subst ek79_9
    intro x3_79_2 x4_79_3 t_index_size_79_4 t_index_entries_79_5 t_index_starts_79_6 t_pendingRows_79_7 t_rows_states_79_8 H locs ls hP hD hS hl hF
    refine lv_aload_n hx hb dX2_mergeSpan_79 rfl (lv_at hl 0 rfl) ?_
    refine lv_iload hx hb dX2_mergeSpan_80 (lv_at hl 2 rfl) ?_
    refine my_put (ty := .int) (v := .int x4_79_3) (ci := 2) (C := RX2) (T := TX2) (N := 8) (wn := [(a_t, .inr (2, [.ref a_t_rows, .ref a_t_index, v_t_answer, v_t_kept, v_t_settings, .ref a_t_pendingRows, .int x4_79_3, .int t_totalCost])), (a_t_index, .inr (3, [.ref a_t_rows, .ref a_t_index_entries, .ref a_t_index_bounds, .ref a_t_index_starts, v_t_index_heats, .ref a_t_index_sorted, .int t_index_size_79_4, .int t_index_pieces])), (a_t_index_bounds, .inl (t 0, 62, .inl t_index_bounds_)), (a_t_index_entries, .inl (t 0, 120, .inl t_index_entries_79_5)), (a_t_index_sorted, .inl (t 0, 62, .inl t_index_sorted_)), (a_t_index_starts, .inl (t 0, 62, .inl t_index_starts_79_6)), (a_t_pendingRows, .inl (t 0, 31, .inl t_pendingRows_79_7)), (a_t_rows, .inr (6, [.ref a_t_rows_keys, v_t_rows_values, .ref a_t_rows_states, .int t_rows_count])), (a_t_rows_keys, .inl (t 0, 120, .inl t_rows_keys_)), (a_t_rows_states, .inl (t 0, 120, .inl t_rows_states_79_8))]) hx hb hts iw2 tyX2 tyX2_ok nmX2 hown hK hP hD hS 0 rfl rfl 6 (by decide) hf48 (fun _ h9 => h9) rfl (by decide +kernel) rfl rfl (Nat.le_of_ble_eq_true rfl) rfl dX2_mergeSpan_82 (fun H locs hP hD hS => ?_)
    refine lv_iload_n hx hb dX2_mergeSpan_85 rfl (lv_at hl 1 rfl) ?_
    cases hF
    exact we_iret hx hb hr hlocks dX2_mergeSpan_86 rfl hQ hP hD hS
  have hlp19 : ∀ n19 : Nat, ∀ (x3_19_10 : Int32) (x4_19_11 : Int32) (x6_19_12 : Int32) (t_index_size_19_13 : Int32) (t_index_entries_19_14 : (Nat → Int32)) (t_index_starts_19_15 : (Nat → Int32)) (t_pendingRows_19_16 : (Nat → Int32)) (t_rows_states_19_17 : (Nat → Int32)) (H : Heap) (locs : List Loc) (ls : Array Slot), va_P D vwCl [(a_t, .inr (2, [.ref a_t_rows, .ref a_t_index, v_t_answer, v_t_kept, v_t_settings, .ref a_t_pendingRows, .int t_pendingCount, .int t_totalCost])), (a_t_index, .inr (3, [.ref a_t_rows, .ref a_t_index_entries, .ref a_t_index_bounds, .ref a_t_index_starts, v_t_index_heats, .ref a_t_index_sorted, .int t_index_size_19_13, .int t_index_pieces])), (a_t_index_bounds, .inl (t 0, 62, .inl t_index_bounds_)), (a_t_index_entries, .inl (t 0, 120, .inl t_index_entries_19_14)), (a_t_index_sorted, .inl (t 0, 62, .inl t_index_sorted_)), (a_t_index_starts, .inl (t 0, 62, .inl t_index_starts_19_15)), (a_t_pendingRows, .inl (t 0, 31, .inl t_pendingRows_19_16)), (a_t_rows, .inr (6, [.ref a_t_rows_keys, v_t_rows_values, .ref a_t_rows_states, .int t_rows_count])), (a_t_rows_keys, .inl (t 0, 120, .inl t_rows_keys_)), (a_t_rows_states, .inl (t 0, 120, .inl t_rows_states_19_17))] H → va_D A [(a_t, .inr (2, [.ref a_t_rows, .ref a_t_index, v_t_answer, v_t_kept, v_t_settings, .ref a_t_pendingRows, .int t_pendingCount, .int t_totalCost])), (a_t_index, .inr (3, [.ref a_t_rows, .ref a_t_index_entries, .ref a_t_index_bounds, .ref a_t_index_starts, v_t_index_heats, .ref a_t_index_sorted, .int t_index_size_19_13, .int t_index_pieces])), (a_t_index_bounds, .inl (t 0, 62, .inl t_index_bounds_)), (a_t_index_entries, .inl (t 0, 120, .inl t_index_entries_19_14)), (a_t_index_sorted, .inl (t 0, 62, .inl t_index_sorted_)), (a_t_index_starts, .inl (t 0, 62, .inl t_index_starts_19_15)), (a_t_pendingRows, .inl (t 0, 31, .inl t_pendingRows_19_16)), (a_t_rows, .inr (6, [.ref a_t_rows_keys, v_t_rows_values, .ref a_t_rows_states, .int t_rows_count])), (a_t_rows_keys, .inl (t 0, 120, .inl t_rows_keys_)), (a_t_rows_states, .inl (t 0, 120, .inl t_rows_states_19_17))] → va_S A s.heap H locs → lv_has ls 8 [(0, .ref a_t), (1, .int p1), (2, .int p2), (3, .int x3_19_10), (4, .int x4_19_11), (5, .int y11_1), (6, .int x6_19_12)] → f_X2_mergeSpan_19 N t_index_pieces t_index_bounds_ t_index_sorted_ t_rows_keys_ p1 p2 y11_1 k79_9 n19 x3_19_10 x4_19_11 x6_19_12 t_index_size_19_13 t_index_entries_19_14 t_index_starts_19_15 t_pendingRows_19_16 t_rows_states_19_17 = some T9 → W p l e rm_X2_mergeSpan s m args below meth c H locs 0 0 Q (F0 m 19 ls []) := by
    intro n19
    induction n19 with
    | zero =>
      intro x3_19_10 x4_19_11 x6_19_12 t_index_size_19_13 t_index_entries_19_14 t_index_starts_19_15 t_pendingRows_19_16 t_rows_states_19_17 H locs ls hP hD hS hl hF
      cases (show none = some T9 from hF)
    | succ n19 ih19 =>
      intro x3_19_10 x4_19_11 x6_19_12 t_index_size_19_13 t_index_entries_19_14 t_index_starts_19_15 t_pendingRows_19_16 t_rows_states_19_17 H locs ls hP hD hS hl hF
      rw [f_X2_mergeSpan_19] at hF
      refine lv_iload hx hb dX2_mergeSpan_19 (lv_at hl 6 rfl) ?_
      refine lv_iload hx hb dX2_mergeSpan_21 (lv_at hl 5 rfl) ?_
      refine lv_icmp_ge (tgt := 79) hx hb dX2_mergeSpan_23 (by decide) (fun c23 => ?_) (fun c23 => ?_)
      · have hF := brT c23 hF
        exact hk79_9 x3_19_10 x4_19_11 t_index_size_19_13 t_index_entries_19_14 t_index_starts_19_15 t_pendingRows_19_16 t_rows_states_19_17 H locs ls hP hD hS (lv_sub hl [0, 3, 4] rfl) hF
      · have hF := brF c23 hF
        refine lv_aload_n hx hb dX2_mergeSpan_26 rfl (lv_at hl 0 rfl) ?_
        refine va_get (D := D) (ci := 2) (v := .ref a_t_pendingRows) (C := RX2) (T := TX2) (N := 8) hx hb hts iw2 hown hK hP 0 rfl rfl 5 (by decide) hf45 (fun _ h9 => h9) rfl dX2_mergeSpan_27 ?_
        refine lv_iload hx hb dX2_mergeSpan_30 (lv_at hl 6 rfl) ?_
        obtain ⟨g32_17, hF⟩ := gd hF
        refine my_iald (v := t_pendingRows_19_16 x6_19_12.toNatClampNeg) hx hb hK hP 6 0 rfl rfl g32_17 rfl dX2_mergeSpan_32 ?_
        refine lv_topi (fun y33_19 ey33_19 => ?_)
        have hF := ltE ey33_19 hF
        refine lv_istore (lv' := [(7, .int y33_19), (0, .ref a_t), (1, .int p1), (2, .int p2), (3, .int x3_19_10), (4, .int x4_19_11), (5, .int y11_1), (6, .int x6_19_12)]) hx hb dX2_mergeSpan_33 hl (by decide) rfl (fun ls hl => ?_)
        refine lv_aload_n hx hb dX2_mergeSpan_35 rfl (lv_at hl 1 rfl) ?_
        refine va_get (D := D) (ci := 2) (v := .ref a_t_rows) (C := RX2) (T := TX2) (N := 8) hx hb hts iw2 hown hK hP 0 rfl rfl 0 (by decide) hf12 (fun _ h9 => h9) rfl dX2_mergeSpan_36 ?_
        refine lv_iload hx hb dX2_mergeSpan_39 (lv_at hl 0 rfl) ?_
        refine lv_iload_n hx hb dX2_mergeSpan_41 rfl (lv_at hl 2 rfl) ?_
        refine lv_iload_n hx hb dX2_mergeSpan_42 rfl (lv_at hl 3 rfl) ?_
        obtain ⟨r43_20, h43_20, hF⟩ := bndE hF
        refine rdV (As := [.int y33_19, .int p1, .int p2]) (rest := []) (C := RX6) ⟨hx, hb, hml, hown, hts⟩ (c_X6_isIn l D t z x a_t_rows a_t_rows_keys v_t_rows_values (.ref a_t_rows_states) t_rows_count t_rows_keys_ y33_19 p1 p2 H r43_20 h43_20) (cwV 3 hts gX2_mergeSpan_X6_isIn rfl rfl rfl hd_X6_isIn ⟨Nat.le_of_ble_eq_true rfl, Nat.le_of_ble_eq_true rfl⟩) (hC.at hz hS) (selP (m9 := [false, false, false, false, false, false, false, true, true, false]) rfl rfl hP) 0 rfl (show vwCl[6]? = some (RX6, TX6, 4) from rfl) rfl rfl hl.1 rfl (Nat.le_of_ble_eq_true rfl) dX2_mergeSpan_43 ⟨Nat.zero_le _, Nat.zero_le _⟩ rfl ?_
        refine lv_if_eq (tgt := 61) hx hb dX2_mergeSpan_46 (by decide) (fun c46 => ?_) (fun c46 => ?_)
        · have hF := brT c46 hF
          refine lv_aload_n hx hb dX2_mergeSpan_61 rfl (lv_at hl 1 rfl) ?_
          refine va_get (D := D) (ci := 2) (v := .ref a_t_pendingRows) (C := RX2) (T := TX2) (N := 8) hx hb hts iw2 hown hK hP 0 rfl rfl 5 (by decide) hf45 (fun _ h9 => h9) rfl dX2_mergeSpan_62 ?_
          refine lv_iload hx hb dX2_mergeSpan_65 (lv_at hl 5 rfl) ?_
          refine lv_iload hx hb dX2_mergeSpan_67 (lv_at hl 0 rfl) ?_
          obtain ⟨g69_22, hF⟩ := gd hF
          obtain ⟨t_pendingRows_69_23, et_pendingRows_69_23⟩ : ∃ y : Nat → Int32, y = upd t_pendingRows_19_16 x4_19_11.toNatClampNeg y33_19 := ⟨_, rfl⟩
          have hF := ltE et_pendingRows_69_23 hF
          refine my_iast (g := t_pendingRows_69_23) (wn := [(a_t, .inr (2, [.ref a_t_rows, .ref a_t_index, v_t_answer, v_t_kept, v_t_settings, .ref a_t_pendingRows, .int t_pendingCount, .int t_totalCost])), (a_t_index, .inr (3, [.ref a_t_rows, .ref a_t_index_entries, .ref a_t_index_bounds, .ref a_t_index_starts, v_t_index_heats, .ref a_t_index_sorted, .int t_index_size_19_13, .int t_index_pieces])), (a_t_index_bounds, .inl (t 0, 62, .inl t_index_bounds_)), (a_t_index_entries, .inl (t 0, 120, .inl t_index_entries_19_14)), (a_t_index_sorted, .inl (t 0, 62, .inl t_index_sorted_)), (a_t_index_starts, .inl (t 0, 62, .inl t_index_starts_19_15)), (a_t_pendingRows, .inl (t 0, 31, .inl t_pendingRows_69_23)), (a_t_rows, .inr (6, [.ref a_t_rows_keys, v_t_rows_values, .ref a_t_rows_states, .int t_rows_count])), (a_t_rows_keys, .inl (t 0, 120, .inl t_rows_keys_)), (a_t_rows_states, .inl (t 0, 120, .inl t_rows_states_19_17))]) hx hb hK hP hD hS 6 0 rfl rfl g69_22 et_pendingRows_69_23 rfl dX2_mergeSpan_69 (fun H locs hP hD hS => ?_)
          obtain ⟨y70_24, ey70_24⟩ : ∃ y : Int32, y = x4_19_11 + 1 := ⟨_, rfl⟩
          have hF := ltE ey70_24 hF
          refine lv_iinc (v := y70_24) (lv' := [(4, .int y70_24), (7, .int y33_19), (0, .ref a_t), (1, .int p1), (2, .int p2), (3, .int x3_19_10), (5, .int y11_1), (6, .int x6_19_12)]) hx hb dX2_mergeSpan_70 hl (k := 5) rfl (by rw [ey70_24]; rfl) (by decide) rfl (fun ls hl => ?_)
          obtain ⟨y73_25, ey73_25⟩ : ∃ y : Int32, y = x6_19_12 + 1 := ⟨_, rfl⟩
          have hF := ltE ey73_25 hF
          refine lv_iinc (v := y73_25) (lv' := [(6, .int y73_25), (4, .int y70_24), (7, .int y33_19), (0, .ref a_t), (1, .int p1), (2, .int p2), (3, .int x3_19_10), (5, .int y11_1)]) hx hb dX2_mergeSpan_73 hl (k := 7) rfl (by rw [ey73_25]; rfl) (by decide) rfl (fun ls hl => ?_)
          refine lv_goto (tgt := 19) hx hb dX2_mergeSpan_76 (by decide) ?_
          exact ih19 x3_19_10 y70_24 y73_25 t_index_size_19_13 t_index_entries_19_14 t_index_starts_19_15 t_pendingRows_69_23 t_rows_states_19_17 H locs ls hP hD hS (lv_sub hl [3, 4, 5, 6, 1, 7, 0] rfl) hF
        · have hF := brF c46 hF
          refine lv_iload_n hx hb dX2_mergeSpan_49 rfl (lv_at hl 4 rfl) ?_
          refine lv_aload_n hx hb dX2_mergeSpan_50 rfl (lv_at hl 1 rfl) ?_
          refine lv_iload hx hb dX2_mergeSpan_51 (lv_at hl 0 rfl) ?_
          obtain ⟨r53_26, t_index_size_53_27, t_index_entries_53_28, t_index_starts_53_29, t_rows_states_53_30, h53_30, hF⟩ := bnd5E hF
          refine wrVM (As := [.int y33_19]) (rest := [.int x3_19_10]) (C := RX2) (wn := [(a_t, .inr (2, [.ref a_t_rows, .ref a_t_index, v_t_answer, v_t_kept, v_t_settings, .ref a_t_pendingRows, .int t_pendingCount, .int t_totalCost])), (a_t_index, .inr (3, [.ref a_t_rows, .ref a_t_index_entries, .ref a_t_index_bounds, .ref a_t_index_starts, v_t_index_heats, .ref a_t_index_sorted, .int t_index_size_53_27, .int t_index_pieces])), (a_t_index_bounds, .inl (t 0, 62, .inl t_index_bounds_)), (a_t_index_entries, .inl (t 0, 120, .inl t_index_entries_53_28)), (a_t_index_sorted, .inl (t 0, 62, .inl t_index_sorted_)), (a_t_index_starts, .inl (t 0, 62, .inl t_index_starts_53_29)), (a_t_pendingRows, .inl (t 0, 31, .inl t_pendingRows_19_16)), (a_t_rows, .inr (6, [.ref a_t_rows_keys, v_t_rows_values, .ref a_t_rows_states, .int t_rows_count])), (a_t_rows_keys, .inl (t 0, 120, .inl t_rows_keys_)), (a_t_rows_states, .inl (t 0, 120, .inl t_rows_states_53_30))]) ⟨hx, hb, hml, hown, hts⟩ (c_X2_mergeRow l D t z x N a_t a_t_index a_t_index_bounds a_t_index_entries a_t_index_sorted a_t_index_starts a_t_rows a_t_rows_keys a_t_rows_states v_t_answer v_t_kept v_t_settings (.ref a_t_pendingRows) v_t_index_heats v_t_rows_values t_pendingCount t_totalCost t_index_size_19_13 t_index_pieces t_index_bounds_ t_index_entries_19_14 t_index_sorted_ t_index_starts_19_15 t_rows_count t_rows_keys_ t_rows_states_19_17 y33_19 H.size r53_26 t_index_size_53_27 t_index_entries_53_28 t_index_starts_53_29 t_rows_states_53_30 h53_30) (cwV 1 hts gX2_mergeSpan_X2_mergeRow rfl rfl rfl hd_X2_mergeRow ⟨Nat.le_of_ble_eq_true rfl, Nat.le_of_ble_eq_true rfl⟩) (hC.at hz hS) hP hD hS hA hz [true, true, true, true, true, true, false, true, true, true] rfl rfl rfl rfl 0 rfl (show vwCl[2]? = some (RX2, TX2, 8) from rfl) rfl rfl hl.1 rfl (Nat.le_of_ble_eq_true rfl) dX2_mergeSpan_53 ⟨Nat.zero_le _, Nat.zero_le _⟩ rfl (fun H locs hP hD hS => ?_)
          refine lv_iadd hx hb dX2_mergeSpan_56 ?_
          refine lv_topi (fun y57_32 ey57_32 => ?_)
          have hF := ltE ey57_32 hF
          refine lv_istore_n (lv' := [(3, .int y57_32), (7, .int y33_19), (0, .ref a_t), (1, .int p1), (2, .int p2), (4, .int x4_19_11), (5, .int y11_1), (6, .int x6_19_12)]) hx hb dX2_mergeSpan_57 rfl hl (by decide) rfl (fun ls hl => ?_)
          refine lv_goto (tgt := 73) hx hb dX2_mergeSpan_58 (by decide) ?_
          obtain ⟨y73_33, ey73_33⟩ : ∃ y : Int32, y = x6_19_12 + 1 := ⟨_, rfl⟩
          have hF := ltE ey73_33 hF
          refine lv_iinc (v := y73_33) (lv' := [(6, .int y73_33), (3, .int y57_32), (7, .int y33_19), (0, .ref a_t), (1, .int p1), (2, .int p2), (4, .int x4_19_11), (5, .int y11_1)]) hx hb dX2_mergeSpan_73 hl (k := 7) rfl (by rw [ey73_33]; rfl) (by decide) rfl (fun ls hl => ?_)
          refine lv_goto (tgt := 19) hx hb dX2_mergeSpan_76 (by decide) ?_
          exact ih19 y57_32 x4_19_11 y73_33 t_index_size_53_27 t_index_entries_53_28 t_index_starts_53_29 t_pendingRows_19_16 t_rows_states_53_30 H locs ls hP hD hS (lv_sub hl [3, 4, 5, 1, 6, 7, 0] rfl) hF
  exact hlp19 N 0 0 0 t_index_size t_index_entries_ t_index_starts_ t_pendingRows_ t_rows_states_ H locs ls hP hD hS (lv_sub hl [4, 5, 6, 3, 2, 1, 0] rfl) hF
abbrev rm_X2_mergeTooMany : Room := { frames := 4, cells := 0, slots := 0, locals := 91 }
theorem hd_X2_mergeTooMany : yX2_mergeTooMany.cls = RX2 ∧ yX2_mergeTooMany.cls ≠ "java/lang/invoke/MethodHandle" ∧ yX2_mergeTooMany.cls ≠ "java/lang/invoke/VarHandle" ∧ (parseMethodDescriptor yX2_mergeTooMany.desc).map (fun d => d.parameters.length) = some 0 := by decide +kernel
set_option maxRecDepth 100000 in
set_option maxHeartbeats 4000000 in
theorem c_X2_mergeTooMany (l : Launch) (D : va_G) (t : Nat → ClassId) (z : Nat) (x : Nat → Nat) (N : Nat) (a_t : Nat) (a_t_index : Nat) (a_t_index_bounds : Nat) (a_t_index_entries : Nat) (a_t_index_sorted : Nat) (a_t_index_starts : Nat) (a_t_pendingRows : Nat) (a_t_settings : Nat) (a_t_rows : Nat) (a_t_rows_keys : Nat) (a_t_rows_states : Nat) (v_t_answer : Value) (v_t_kept : Value) (v_t_index_heats : Value) (v_t_rows_values : Value) (t_pendingCount : Int32) (t_totalCost : Int32) (t_index_size : Int32) (t_index_pieces : Int32) (t_index_bounds_ : (Nat → Int32)) (t_index_entries_ : (Nat → Int32)) (t_index_sorted_ : (Nat → Int32)) (t_index_starts_ : (Nat → Int32)) (t_pendingRows_ : (Nat → Int32)) (t_settings_ : (Nat → Int32)) (t_rows_count : Int32) (t_rows_keys_ : (Nat → Int32)) (t_rows_states_ : (Nat → Int32)) (sz : Nat) (t_pendingCount' : Int32) (t_totalCost' : Int32) (t_index_size' : Int32) (t_index_entries_' : (Nat → Int32)) (t_index_starts_' : (Nat → Int32)) (t_pendingRows_' : (Nat → Int32)) (t_rows_states_' : (Nat → Int32)) (hF : f_X2_mergeTooMany N t_pendingCount t_totalCost t_index_size t_index_pieces t_index_bounds_ t_index_entries_ t_index_sorted_ t_index_starts_ t_pendingRows_ t_settings_ t_rows_keys_ t_rows_states_ = some (t_pendingCount', t_totalCost', t_index_size', t_index_entries_', t_index_starts_', t_pendingRows_', t_rows_states_')) : WrM l D (TY t) z x yX2_mergeTooMany wsX2_mergeTooMany rm_X2_mergeTooMany [.ref a_t] [(a_t, .inr (2, [.ref a_t_rows, .ref a_t_index, v_t_answer, v_t_kept, .ref a_t_settings, .ref a_t_pendingRows, .int t_pendingCount, .int t_totalCost])), (a_t_index, .inr (3, [.ref a_t_rows, .ref a_t_index_entries, .ref a_t_index_bounds, .ref a_t_index_starts, v_t_index_heats, .ref a_t_index_sorted, .int t_index_size, .int t_index_pieces])), (a_t_index_bounds, .inl (t 0, 62, .inl t_index_bounds_)), (a_t_index_entries, .inl (t 0, 120, .inl t_index_entries_)), (a_t_index_sorted, .inl (t 0, 62, .inl t_index_sorted_)), (a_t_index_starts, .inl (t 0, 62, .inl t_index_starts_)), (a_t_pendingRows, .inl (t 0, 31, .inl t_pendingRows_)), (a_t_settings, .inl (t 0, 4, .inl t_settings_)), (a_t_rows, .inr (6, [.ref a_t_rows_keys, v_t_rows_values, .ref a_t_rows_states, .int t_rows_count])), (a_t_rows_keys, .inl (t 0, 120, .inl t_rows_keys_)), (a_t_rows_states, .inl (t 0, 120, .inl t_rows_states_))] [(a_t, .inr (2, [.ref a_t_rows, .ref a_t_index, v_t_answer, v_t_kept, .ref a_t_settings, .ref a_t_pendingRows, .int t_pendingCount', .int t_totalCost'])), (a_t_index, .inr (3, [.ref a_t_rows, .ref a_t_index_entries, .ref a_t_index_bounds, .ref a_t_index_starts, v_t_index_heats, .ref a_t_index_sorted, .int t_index_size', .int t_index_pieces])), (a_t_index_bounds, .inl (t 0, 62, .inl t_index_bounds_)), (a_t_index_entries, .inl (t 0, 120, .inl t_index_entries_')), (a_t_index_sorted, .inl (t 0, 62, .inl t_index_sorted_)), (a_t_index_starts, .inl (t 0, 62, .inl t_index_starts_')), (a_t_pendingRows, .inl (t 0, 31, .inl t_pendingRows_')), (a_t_settings, .inl (t 0, 4, .inl t_settings_)), (a_t_rows, .inr (6, [.ref a_t_rows_keys, v_t_rows_values, .ref a_t_rows_states, .int t_rows_count])), (a_t_rows_keys, .inl (t 0, 120, .inl t_rows_keys_)), (a_t_rows_states, .inl (t 0, 120, .inl t_rows_states_'))] sz none 0 0 := by
  obtain ⟨T9, hT⟩ : ∃ T9, T9 = (t_pendingCount', t_totalCost', t_index_size', t_index_entries_', t_index_starts_', t_pendingRows_', t_rows_states_') := ⟨_, rfl⟩
  rw [← hT] at hF
  obtain rfl : t_pendingCount' = T9.1 := by rw [hT]
  obtain rfl : t_totalCost' = T9.2.1 := by rw [hT]
  obtain rfl : t_index_size' = T9.2.2.1 := by rw [hT]
  obtain rfl : t_index_entries_' = T9.2.2.2.1 := by rw [hT]
  obtain rfl : t_index_starts_' = T9.2.2.2.2.1 := by rw [hT]
  obtain rfl : t_pendingRows_' = T9.2.2.2.2.2.1 := by rw [hT]
  obtain rfl : t_rows_states_' = T9.2.2.2.2.2.2 := by rw [hT]
  clear hT
  refine wr_of (cc := cX2_mergeTooMany) (maxL := 4) (ret := none) (by decide) rfl (Nat.le_of_ble_eq_true rfl) ?_
  intro p e s m args below meth c A Q hQ hx hb hr hml hts hown hlocks hin H locs hP hD hS hA hz hC ls hl
  have hown : s.vm.findClass RX2 = some m.cls := hown
  have hl : lv_has ls 4 [(0, .ref a_t)] := hl
  have hK := hC.1
  have iw2 : ∀ w ∈ wsX20, w ∈ wsX2_mergeTooMany := fun _ h => List.mem_cons_of_mem _ (List.mem_append_left _ (List.mem_append_left _ (List.mem_append_right _ h)))
  have hf48 := hts (.fieldLink RX2 48 "CrackedColumn$Column" "pendingCount" "I") (by decide +kernel)
  have hf52 := hts (.fieldLink RX2 52 "CrackedColumn$Column" "totalCost" "I") (by decide +kernel)
  unfold f_X2_mergeTooMany at hF
  refine lv_aload_n hx hb dX2_mergeTooMany_0 rfl (lv_at hl 0 rfl) ?_
  refine lv_iconst (v := 3) hx hb dX2_mergeTooMany_1 (by decide) ?_
  obtain ⟨r2_1, h2_1, hF⟩ := bndE hF
  refine rdV (As := [.int 3]) (rest := []) (C := RX2) ⟨hx, hb, hml, hown, hts⟩ (c_X2_setting l D t z x a_t a_t_settings (.ref a_t_rows) (.ref a_t_index) v_t_answer v_t_kept (.ref a_t_pendingRows) t_pendingCount t_totalCost t_settings_ 3 H r2_1 h2_1) (cwV 1 hts gX2_mergeTooMany_X2_setting rfl rfl rfl hd_X2_setting ⟨Nat.le_of_ble_eq_true rfl, Nat.le_of_ble_eq_true rfl⟩) (hC.at hz hS) (selP (m9 := [true, false, false, false, false, false, false, true, false, false, false]) rfl rfl hP) 0 rfl (show vwCl[2]? = some (RX2, TX2, 8) from rfl) rfl rfl hl.1 rfl (Nat.le_of_ble_eq_true rfl) dX2_mergeTooMany_2 ⟨Nat.zero_le _, Nat.zero_le _⟩ rfl ?_
  refine lv_istore_n (lv' := [(1, .int r2_1), (0, .ref a_t)]) hx hb dX2_mergeTooMany_5 rfl hl (by decide) rfl (fun ls hl => ?_)
  refine lv_aload_n hx hb dX2_mergeTooMany_6 rfl (lv_at hl 1 rfl) ?_
  refine va_get (D := D) (ci := 2) (v := .int t_pendingCount) (C := RX2) (T := TX2) (N := 8) hx hb hts iw2 hown hK hP 0 rfl rfl 6 (by decide) hf48 (fun _ h9 => h9) rfl dX2_mergeTooMany_7 ?_
  refine lv_iload_n hx hb dX2_mergeTooMany_10 rfl (lv_at hl 0 rfl) ?_
  refine lv_isub hx hb dX2_mergeTooMany_11 ?_
  refine lv_topi (fun y12_3 ey12_3 => ?_)
  have hF := ltE ey12_3 hF
  refine lv_istore_n (lv' := [(2, .int y12_3), (1, .int r2_1), (0, .ref a_t)]) hx hb dX2_mergeTooMany_12 rfl hl (by decide) rfl (fun ls hl => ?_)
  obtain ⟨k48_11, ek48_11, hF⟩ := jnE hF
  have hk48_11 : ∀ (t_pendingCount_48_4 : Int32) (t_totalCost_48_5 : Int32) (t_index_size_48_6 : Int32) (t_index_entries_48_7 : (Nat → Int32)) (t_index_starts_48_8 : (Nat → Int32)) (t_pendingRows_48_9 : (Nat → Int32)) (t_rows_states_48_10 : (Nat → Int32)) (H : Heap) (locs : List Loc) (ls : Array Slot), va_P D vwCl [(a_t, .inr (2, [.ref a_t_rows, .ref a_t_index, v_t_answer, v_t_kept, .ref a_t_settings, .ref a_t_pendingRows, .int t_pendingCount_48_4, .int t_totalCost_48_5])), (a_t_index, .inr (3, [.ref a_t_rows, .ref a_t_index_entries, .ref a_t_index_bounds, .ref a_t_index_starts, v_t_index_heats, .ref a_t_index_sorted, .int t_index_size_48_6, .int t_index_pieces])), (a_t_index_bounds, .inl (t 0, 62, .inl t_index_bounds_)), (a_t_index_entries, .inl (t 0, 120, .inl t_index_entries_48_7)), (a_t_index_sorted, .inl (t 0, 62, .inl t_index_sorted_)), (a_t_index_starts, .inl (t 0, 62, .inl t_index_starts_48_8)), (a_t_pendingRows, .inl (t 0, 31, .inl t_pendingRows_48_9)), (a_t_settings, .inl (t 0, 4, .inl t_settings_)), (a_t_rows, .inr (6, [.ref a_t_rows_keys, v_t_rows_values, .ref a_t_rows_states, .int t_rows_count])), (a_t_rows_keys, .inl (t 0, 120, .inl t_rows_keys_)), (a_t_rows_states, .inl (t 0, 120, .inl t_rows_states_48_10))] H → va_D A [(a_t, .inr (2, [.ref a_t_rows, .ref a_t_index, v_t_answer, v_t_kept, .ref a_t_settings, .ref a_t_pendingRows, .int t_pendingCount_48_4, .int t_totalCost_48_5])), (a_t_index, .inr (3, [.ref a_t_rows, .ref a_t_index_entries, .ref a_t_index_bounds, .ref a_t_index_starts, v_t_index_heats, .ref a_t_index_sorted, .int t_index_size_48_6, .int t_index_pieces])), (a_t_index_bounds, .inl (t 0, 62, .inl t_index_bounds_)), (a_t_index_entries, .inl (t 0, 120, .inl t_index_entries_48_7)), (a_t_index_sorted, .inl (t 0, 62, .inl t_index_sorted_)), (a_t_index_starts, .inl (t 0, 62, .inl t_index_starts_48_8)), (a_t_pendingRows, .inl (t 0, 31, .inl t_pendingRows_48_9)), (a_t_settings, .inl (t 0, 4, .inl t_settings_)), (a_t_rows, .inr (6, [.ref a_t_rows_keys, v_t_rows_values, .ref a_t_rows_states, .int t_rows_count])), (a_t_rows_keys, .inl (t 0, 120, .inl t_rows_keys_)), (a_t_rows_states, .inl (t 0, 120, .inl t_rows_states_48_10))] → va_S A s.heap H locs → lv_has ls 4 [] → k48_11 t_pendingCount_48_4 t_totalCost_48_5 t_index_size_48_6 t_index_entries_48_7 t_index_starts_48_8 t_pendingRows_48_9 t_rows_states_48_10 = some T9 → W p l e rm_X2_mergeTooMany s m args below meth c H locs 0 0 Q (F0 m 48 ls []) := by
    subst ek48_11
    intro t_pendingCount_48_4 t_totalCost_48_5 t_index_size_48_6 t_index_entries_48_7 t_index_starts_48_8 t_pendingRows_48_9 t_rows_states_48_10 H locs ls hP hD hS hl hF
    cases hF
    exact we_vret hx hb hr hlocks dX2_mergeTooMany_48 rfl hQ hP hD hS
  have hlp13 : ∀ n13 : Nat, ∀ (x2_13_12 : Int32) (t_pendingCount_13_13 : Int32) (t_totalCost_13_14 : Int32) (t_index_size_13_15 : Int32) (t_index_entries_13_16 : (Nat → Int32)) (t_index_starts_13_17 : (Nat → Int32)) (t_pendingRows_13_18 : (Nat → Int32)) (t_rows_states_13_19 : (Nat → Int32)) (H : Heap) (locs : List Loc) (ls : Array Slot), va_P D vwCl [(a_t, .inr (2, [.ref a_t_rows, .ref a_t_index, v_t_answer, v_t_kept, .ref a_t_settings, .ref a_t_pendingRows, .int t_pendingCount_13_13, .int t_totalCost_13_14])), (a_t_index, .inr (3, [.ref a_t_rows, .ref a_t_index_entries, .ref a_t_index_bounds, .ref a_t_index_starts, v_t_index_heats, .ref a_t_index_sorted, .int t_index_size_13_15, .int t_index_pieces])), (a_t_index_bounds, .inl (t 0, 62, .inl t_index_bounds_)), (a_t_index_entries, .inl (t 0, 120, .inl t_index_entries_13_16)), (a_t_index_sorted, .inl (t 0, 62, .inl t_index_sorted_)), (a_t_index_starts, .inl (t 0, 62, .inl t_index_starts_13_17)), (a_t_pendingRows, .inl (t 0, 31, .inl t_pendingRows_13_18)), (a_t_settings, .inl (t 0, 4, .inl t_settings_)), (a_t_rows, .inr (6, [.ref a_t_rows_keys, v_t_rows_values, .ref a_t_rows_states, .int t_rows_count])), (a_t_rows_keys, .inl (t 0, 120, .inl t_rows_keys_)), (a_t_rows_states, .inl (t 0, 120, .inl t_rows_states_13_19))] H → va_D A [(a_t, .inr (2, [.ref a_t_rows, .ref a_t_index, v_t_answer, v_t_kept, .ref a_t_settings, .ref a_t_pendingRows, .int t_pendingCount_13_13, .int t_totalCost_13_14])), (a_t_index, .inr (3, [.ref a_t_rows, .ref a_t_index_entries, .ref a_t_index_bounds, .ref a_t_index_starts, v_t_index_heats, .ref a_t_index_sorted, .int t_index_size_13_15, .int t_index_pieces])), (a_t_index_bounds, .inl (t 0, 62, .inl t_index_bounds_)), (a_t_index_entries, .inl (t 0, 120, .inl t_index_entries_13_16)), (a_t_index_sorted, .inl (t 0, 62, .inl t_index_sorted_)), (a_t_index_starts, .inl (t 0, 62, .inl t_index_starts_13_17)), (a_t_pendingRows, .inl (t 0, 31, .inl t_pendingRows_13_18)), (a_t_settings, .inl (t 0, 4, .inl t_settings_)), (a_t_rows, .inr (6, [.ref a_t_rows_keys, v_t_rows_values, .ref a_t_rows_states, .int t_rows_count])), (a_t_rows_keys, .inl (t 0, 120, .inl t_rows_keys_)), (a_t_rows_states, .inl (t 0, 120, .inl t_rows_states_13_19))] → va_S A s.heap H locs → lv_has ls 4 [(0, .ref a_t), (2, .int x2_13_12)] → f_X2_mergeTooMany_13 N t_index_pieces t_index_bounds_ t_index_sorted_ t_rows_keys_ k48_11 n13 x2_13_12 t_pendingCount_13_13 t_totalCost_13_14 t_index_size_13_15 t_index_entries_13_16 t_index_starts_13_17 t_pendingRows_13_18 t_rows_states_13_19 = some T9 → W p l e rm_X2_mergeTooMany s m args below meth c H locs 0 0 Q (F0 m 13 ls []) := by
    intro n13
    induction n13 with
    | zero =>
      intro x2_13_12 t_pendingCount_13_13 t_totalCost_13_14 t_index_size_13_15 t_index_entries_13_16 t_index_starts_13_17 t_pendingRows_13_18 t_rows_states_13_19 H locs ls hP hD hS hl hF
      cases (show none = some T9 from hF)
    | succ n13 ih13 =>
      intro x2_13_12 t_pendingCount_13_13 t_totalCost_13_14 t_index_size_13_15 t_index_entries_13_16 t_index_starts_13_17 t_pendingRows_13_18 t_rows_states_13_19 H locs ls hP hD hS hl hF
      rw [f_X2_mergeTooMany_13] at hF
      refine lv_iload_n hx hb dX2_mergeTooMany_13 rfl (lv_at hl 1 rfl) ?_
      refine lv_if_le (tgt := 48) hx hb dX2_mergeTooMany_14 (by decide) (fun c14 => ?_) (fun c14 => ?_)
      · have hF := brT c14 hF
        exact hk48_11 t_pendingCount_13_13 t_totalCost_13_14 t_index_size_13_15 t_index_entries_13_16 t_index_starts_13_17 t_pendingRows_13_18 t_rows_states_13_19 H locs ls hP hD hS (lv_sub hl [] rfl) hF
      · have hF := brF c14 hF
        refine lv_aload_n hx hb dX2_mergeTooMany_17 rfl (lv_at hl 0 rfl) ?_
        refine lv_iconst (v := 0) hx hb dX2_mergeTooMany_18 (by decide) ?_
        obtain ⟨r19_20, h19_20, hF⟩ := bndE hF
        refine rdV (As := [.int 0]) (rest := []) (C := RX2) ⟨hx, hb, hml, hown, hts⟩ (c_X2_pendingAt l D t z x a_t a_t_pendingRows (.ref a_t_rows) (.ref a_t_index) v_t_answer v_t_kept (.ref a_t_settings) t_pendingCount_13_13 t_totalCost_13_14 t_pendingRows_13_18 0 H r19_20 h19_20) (cwV 1 hts gX2_mergeTooMany_X2_pendingAt rfl rfl rfl hd_X2_pendingAt ⟨Nat.le_of_ble_eq_true rfl, Nat.le_of_ble_eq_true rfl⟩) (hC.at hz hS) (selP (m9 := [true, false, false, false, false, false, true, false, false, false, false]) rfl rfl hP) 0 rfl (show vwCl[2]? = some (RX2, TX2, 8) from rfl) rfl rfl hl.1 rfl (Nat.le_of_ble_eq_true rfl) dX2_mergeTooMany_19 ⟨Nat.zero_le _, Nat.zero_le _⟩ rfl ?_
        refine lv_istore_n (lv' := [(3, .int r19_20), (0, .ref a_t), (2, .int x2_13_12)]) hx hb dX2_mergeTooMany_22 rfl hl (by decide) rfl (fun ls hl => ?_)
        refine lv_aload_n hx hb dX2_mergeTooMany_23 rfl (lv_at hl 1 rfl) ?_
        refine lv_iload_n hx hb dX2_mergeTooMany_24 rfl (lv_at hl 0 rfl) ?_
        obtain ⟨t_pendingCount_25_22, t_pendingRows_25_23, h25_23, hF⟩ := bnd2E hF
        refine wrVM (As := [.int r19_20]) (rest := []) (C := RX2) (wn := [(a_t, .inr (2, [.ref a_t_rows, .ref a_t_index, v_t_answer, v_t_kept, .ref a_t_settings, .ref a_t_pendingRows, .int t_pendingCount_25_22, .int t_totalCost_13_14])), (a_t_index, .inr (3, [.ref a_t_rows, .ref a_t_index_entries, .ref a_t_index_bounds, .ref a_t_index_starts, v_t_index_heats, .ref a_t_index_sorted, .int t_index_size_13_15, .int t_index_pieces])), (a_t_index_bounds, .inl (t 0, 62, .inl t_index_bounds_)), (a_t_index_entries, .inl (t 0, 120, .inl t_index_entries_13_16)), (a_t_index_sorted, .inl (t 0, 62, .inl t_index_sorted_)), (a_t_index_starts, .inl (t 0, 62, .inl t_index_starts_13_17)), (a_t_pendingRows, .inl (t 0, 31, .inl t_pendingRows_25_23)), (a_t_settings, .inl (t 0, 4, .inl t_settings_)), (a_t_rows, .inr (6, [.ref a_t_rows_keys, v_t_rows_values, .ref a_t_rows_states, .int t_rows_count])), (a_t_rows_keys, .inl (t 0, 120, .inl t_rows_keys_)), (a_t_rows_states, .inl (t 0, 120, .inl t_rows_states_13_19))]) ⟨hx, hb, hml, hown, hts⟩ (c_X2_removePending l D t z x N a_t a_t_pendingRows (.ref a_t_rows) (.ref a_t_index) v_t_answer v_t_kept (.ref a_t_settings) t_pendingCount_13_13 t_totalCost_13_14 t_pendingRows_13_18 r19_20 H.size t_pendingCount_25_22 t_pendingRows_25_23 h25_23) (cwV 1 hts gX2_mergeTooMany_X2_removePending rfl rfl rfl hd_X2_removePending ⟨Nat.le_of_ble_eq_true rfl, Nat.le_of_ble_eq_true rfl⟩) (hC.at hz hS) hP hD hS hA hz [true, false, false, false, false, false, true, false, false, false, false] rfl rfl rfl rfl 0 rfl (show vwCl[2]? = some (RX2, TX2, 8) from rfl) rfl rfl hl.1 rfl (Nat.le_of_ble_eq_true rfl) dX2_mergeTooMany_25 ⟨Nat.zero_le _, Nat.zero_le _⟩ rfl (fun H locs hP hD hS => ?_)
        refine lv_aload_n hx hb dX2_mergeTooMany_28 rfl (lv_at hl 1 rfl) ?_
        refine lv_dup hx hb dX2_mergeTooMany_29 rfl ?_
        refine va_get (D := D) (ci := 2) (v := .int t_totalCost_13_14) (C := RX2) (T := TX2) (N := 8) hx hb hts iw2 hown hK hP 0 rfl rfl 7 (by decide) hf52 (fun _ h9 => h9) rfl dX2_mergeTooMany_30 ?_
        refine lv_aload_n hx hb dX2_mergeTooMany_33 rfl (lv_at hl 1 rfl) ?_
        refine lv_iload_n hx hb dX2_mergeTooMany_34 rfl (lv_at hl 0 rfl) ?_
        obtain ⟨r35_25, t_index_size_35_26, t_index_entries_35_27, t_index_starts_35_28, t_rows_states_35_29, h35_29, hF⟩ := bnd5E hF
        refine wrVM (As := [.int r19_20]) (rest := [.int t_totalCost_13_14, .ref a_t]) (C := RX2) (wn := [(a_t, .inr (2, [.ref a_t_rows, .ref a_t_index, v_t_answer, v_t_kept, .ref a_t_settings, .ref a_t_pendingRows, .int t_pendingCount_25_22, .int t_totalCost_13_14])), (a_t_index, .inr (3, [.ref a_t_rows, .ref a_t_index_entries, .ref a_t_index_bounds, .ref a_t_index_starts, v_t_index_heats, .ref a_t_index_sorted, .int t_index_size_35_26, .int t_index_pieces])), (a_t_index_bounds, .inl (t 0, 62, .inl t_index_bounds_)), (a_t_index_entries, .inl (t 0, 120, .inl t_index_entries_35_27)), (a_t_index_sorted, .inl (t 0, 62, .inl t_index_sorted_)), (a_t_index_starts, .inl (t 0, 62, .inl t_index_starts_35_28)), (a_t_pendingRows, .inl (t 0, 31, .inl t_pendingRows_25_23)), (a_t_settings, .inl (t 0, 4, .inl t_settings_)), (a_t_rows, .inr (6, [.ref a_t_rows_keys, v_t_rows_values, .ref a_t_rows_states, .int t_rows_count])), (a_t_rows_keys, .inl (t 0, 120, .inl t_rows_keys_)), (a_t_rows_states, .inl (t 0, 120, .inl t_rows_states_35_29))]) ⟨hx, hb, hml, hown, hts⟩ (c_X2_mergeRow l D t z x N a_t a_t_index a_t_index_bounds a_t_index_entries a_t_index_sorted a_t_index_starts a_t_rows a_t_rows_keys a_t_rows_states v_t_answer v_t_kept (.ref a_t_settings) (.ref a_t_pendingRows) v_t_index_heats v_t_rows_values t_pendingCount_25_22 t_totalCost_13_14 t_index_size_13_15 t_index_pieces t_index_bounds_ t_index_entries_13_16 t_index_sorted_ t_index_starts_13_17 t_rows_count t_rows_keys_ t_rows_states_13_19 r19_20 H.size r35_25 t_index_size_35_26 t_index_entries_35_27 t_index_starts_35_28 t_rows_states_35_29 h35_29) (cwV 1 hts gX2_mergeTooMany_X2_mergeRow rfl rfl rfl hd_X2_mergeRow ⟨Nat.le_of_ble_eq_true rfl, Nat.le_of_ble_eq_true rfl⟩) (hC.at hz hS) hP hD hS hA hz [true, true, true, true, true, true, false, false, true, true, true] rfl rfl rfl rfl 0 rfl (show vwCl[2]? = some (RX2, TX2, 8) from rfl) rfl rfl hl.1 rfl (Nat.le_of_ble_eq_true rfl) dX2_mergeTooMany_35 ⟨Nat.zero_le _, Nat.zero_le _⟩ rfl (fun H locs hP hD hS => ?_)
        refine lv_iadd hx hb dX2_mergeTooMany_38 ?_
        refine lv_topi (fun y39_31 ey39_31 => ?_)
        have hF := ltE ey39_31 hF
        refine my_put (ty := .int) (v := .int y39_31) (ci := 2) (C := RX2) (T := TX2) (N := 8) (wn := [(a_t, .inr (2, [.ref a_t_rows, .ref a_t_index, v_t_answer, v_t_kept, .ref a_t_settings, .ref a_t_pendingRows, .int t_pendingCount_25_22, .int y39_31])), (a_t_index, .inr (3, [.ref a_t_rows, .ref a_t_index_entries, .ref a_t_index_bounds, .ref a_t_index_starts, v_t_index_heats, .ref a_t_index_sorted, .int t_index_size_35_26, .int t_index_pieces])), (a_t_index_bounds, .inl (t 0, 62, .inl t_index_bounds_)), (a_t_index_entries, .inl (t 0, 120, .inl t_index_entries_35_27)), (a_t_index_sorted, .inl (t 0, 62, .inl t_index_sorted_)), (a_t_index_starts, .inl (t 0, 62, .inl t_index_starts_35_28)), (a_t_pendingRows, .inl (t 0, 31, .inl t_pendingRows_25_23)), (a_t_settings, .inl (t 0, 4, .inl t_settings_)), (a_t_rows, .inr (6, [.ref a_t_rows_keys, v_t_rows_values, .ref a_t_rows_states, .int t_rows_count])), (a_t_rows_keys, .inl (t 0, 120, .inl t_rows_keys_)), (a_t_rows_states, .inl (t 0, 120, .inl t_rows_states_35_29))]) hx hb hts iw2 tyX2 tyX2_ok nmX2 hown hK hP hD hS 0 rfl rfl 7 (by decide) hf52 (fun _ h9 => h9) rfl (by decide +kernel) rfl rfl (Nat.le_of_ble_eq_true rfl) rfl dX2_mergeTooMany_39 (fun H locs hP hD hS => ?_)
        obtain ⟨y42_32, ey42_32⟩ : ∃ y : Int32, y = x2_13_12 + (-1) := ⟨_, rfl⟩
        have hF := ltE ey42_32 hF
        refine lv_iinc (v := y42_32) (lv' := [(2, .int y42_32), (3, .int r19_20), (0, .ref a_t)]) hx hb dX2_mergeTooMany_42 hl (k := 2) rfl (by rw [ey42_32]; rfl) (by decide) rfl (fun ls hl => ?_)
        refine lv_goto (tgt := 13) hx hb dX2_mergeTooMany_45 (by decide) ?_
        exact ih13 y42_32 t_pendingCount_25_22 y39_31 t_index_size_35_26 t_index_entries_35_27 t_index_starts_35_28 t_pendingRows_25_23 t_rows_states_35_29 H locs ls hP hD hS (lv_sub hl [2, 0] rfl) hF
  exact hlp13 N y12_3 t_pendingCount t_totalCost t_index_size t_index_entries_ t_index_starts_ t_pendingRows_ t_rows_states_ H locs ls hP hD hS (lv_sub hl [2, 0] rfl) hF
abbrev rm_X2_changeSetting : Room := { frames := 5, cells := 0, slots := 0, locals := 114 }
theorem hd_X2_changeSetting : yX2_changeSetting.cls = RX2 ∧ yX2_changeSetting.cls ≠ "java/lang/invoke/MethodHandle" ∧ yX2_changeSetting.cls ≠ "java/lang/invoke/VarHandle" ∧ (parseMethodDescriptor yX2_changeSetting.desc).map (fun d => d.parameters.length) = some 2 := by decide +kernel
set_option maxRecDepth 100000 in
set_option maxHeartbeats 4000000 in
theorem c_X2_changeSetting (l : Launch) (D : va_G) (t : Nat → ClassId) (z : Nat) (x : Nat → Nat) (N : Nat) (a_t : Nat) (a_t_index : Nat) (a_t_index_bounds : Nat) (a_t_index_entries : Nat) (a_t_index_sorted : Nat) (a_t_index_starts : Nat) (a_t_pendingRows : Nat) (a_t_settings : Nat) (a_t_rows : Nat) (a_t_rows_keys : Nat) (a_t_rows_states : Nat) (v_t_answer : Value) (v_t_kept : Value) (v_t_index_heats : Value) (v_t_rows_values : Value) (t_pendingCount : Int32) (t_totalCost : Int32) (t_index_size : Int32) (t_index_pieces : Int32) (t_index_bounds_ : (Nat → Int32)) (t_index_entries_ : (Nat → Int32)) (t_index_sorted_ : (Nat → Int32)) (t_index_starts_ : (Nat → Int32)) (t_pendingRows_ : (Nat → Int32)) (t_settings_ : (Nat → Int32)) (t_rows_count : Int32) (t_rows_keys_ : (Nat → Int32)) (t_rows_states_ : (Nat → Int32)) (p1 : Int32) (p2 : Int32) (sz : Nat) (t_pendingCount' : Int32) (t_totalCost' : Int32) (t_index_size' : Int32) (t_index_entries_' : (Nat → Int32)) (t_index_starts_' : (Nat → Int32)) (t_pendingRows_' : (Nat → Int32)) (t_settings_' : (Nat → Int32)) (t_rows_states_' : (Nat → Int32)) (hF : f_X2_changeSetting N t_pendingCount t_totalCost t_index_size t_index_pieces t_index_bounds_ t_index_entries_ t_index_sorted_ t_index_starts_ t_pendingRows_ t_settings_ t_rows_keys_ t_rows_states_ p1 p2 = some (t_pendingCount', t_totalCost', t_index_size', t_index_entries_', t_index_starts_', t_pendingRows_', t_settings_', t_rows_states_')) : WrM l D (TY t) z x yX2_changeSetting wsX2_changeSetting rm_X2_changeSetting [.ref a_t, .int p1, .int p2] [(a_t, .inr (2, [.ref a_t_rows, .ref a_t_index, v_t_answer, v_t_kept, .ref a_t_settings, .ref a_t_pendingRows, .int t_pendingCount, .int t_totalCost])), (a_t_index, .inr (3, [.ref a_t_rows, .ref a_t_index_entries, .ref a_t_index_bounds, .ref a_t_index_starts, v_t_index_heats, .ref a_t_index_sorted, .int t_index_size, .int t_index_pieces])), (a_t_index_bounds, .inl (t 0, 62, .inl t_index_bounds_)), (a_t_index_entries, .inl (t 0, 120, .inl t_index_entries_)), (a_t_index_sorted, .inl (t 0, 62, .inl t_index_sorted_)), (a_t_index_starts, .inl (t 0, 62, .inl t_index_starts_)), (a_t_pendingRows, .inl (t 0, 31, .inl t_pendingRows_)), (a_t_settings, .inl (t 0, 4, .inl t_settings_)), (a_t_rows, .inr (6, [.ref a_t_rows_keys, v_t_rows_values, .ref a_t_rows_states, .int t_rows_count])), (a_t_rows_keys, .inl (t 0, 120, .inl t_rows_keys_)), (a_t_rows_states, .inl (t 0, 120, .inl t_rows_states_))] [(a_t, .inr (2, [.ref a_t_rows, .ref a_t_index, v_t_answer, v_t_kept, .ref a_t_settings, .ref a_t_pendingRows, .int t_pendingCount', .int t_totalCost'])), (a_t_index, .inr (3, [.ref a_t_rows, .ref a_t_index_entries, .ref a_t_index_bounds, .ref a_t_index_starts, v_t_index_heats, .ref a_t_index_sorted, .int t_index_size', .int t_index_pieces])), (a_t_index_bounds, .inl (t 0, 62, .inl t_index_bounds_)), (a_t_index_entries, .inl (t 0, 120, .inl t_index_entries_')), (a_t_index_sorted, .inl (t 0, 62, .inl t_index_sorted_)), (a_t_index_starts, .inl (t 0, 62, .inl t_index_starts_')), (a_t_pendingRows, .inl (t 0, 31, .inl t_pendingRows_')), (a_t_settings, .inl (t 0, 4, .inl t_settings_')), (a_t_rows, .inr (6, [.ref a_t_rows_keys, v_t_rows_values, .ref a_t_rows_states, .int t_rows_count])), (a_t_rows_keys, .inl (t 0, 120, .inl t_rows_keys_)), (a_t_rows_states, .inl (t 0, 120, .inl t_rows_states_'))] sz none 0 0 := by
  obtain ⟨T9, hT⟩ : ∃ T9, T9 = (t_pendingCount', t_totalCost', t_index_size', t_index_entries_', t_index_starts_', t_pendingRows_', t_settings_', t_rows_states_') := ⟨_, rfl⟩
  rw [← hT] at hF
  obtain rfl : t_pendingCount' = T9.1 := by rw [hT]
  obtain rfl : t_totalCost' = T9.2.1 := by rw [hT]
  obtain rfl : t_index_size' = T9.2.2.1 := by rw [hT]
  obtain rfl : t_index_entries_' = T9.2.2.2.1 := by rw [hT]
  obtain rfl : t_index_starts_' = T9.2.2.2.2.1 := by rw [hT]
  obtain rfl : t_pendingRows_' = T9.2.2.2.2.2.1 := by rw [hT]
  obtain rfl : t_settings_' = T9.2.2.2.2.2.2.1 := by rw [hT]
  obtain rfl : t_rows_states_' = T9.2.2.2.2.2.2.2 := by rw [hT]
  clear hT
  refine wr_of (cc := cX2_changeSetting) (maxL := 3) (ret := none) (by decide) rfl (Nat.le_of_ble_eq_true rfl) ?_
  intro p e s m args below meth c A Q hQ hx hb hr hml hts hown hlocks hin H locs hP hD hS hA hz hC ls hl
  have hown : s.vm.findClass RX2 = some m.cls := hown
  have hl : lv_has ls 3 [(0, .ref a_t), (1, .int p1), (2, .int p2)] := hl
  have hK := hC.1
  unfold f_X2_changeSetting at hF
  refine lv_aload_n hx hb dX2_changeSetting_0 rfl (lv_at hl 0 rfl) ?_
  refine lv_iload_n hx hb dX2_changeSetting_1 rfl (lv_at hl 1 rfl) ?_
  refine lv_iload_n hx hb dX2_changeSetting_2 rfl (lv_at hl 2 rfl) ?_
  obtain ⟨t_settings_3_1, h3_1, hF⟩ := bndE hF
  refine wrVM (As := [.int p1, .int p2]) (rest := []) (C := RX2) (wn := [(a_t, .inr (2, [.ref a_t_rows, .ref a_t_index, v_t_answer, v_t_kept, .ref a_t_settings, .ref a_t_pendingRows, .int t_pendingCount, .int t_totalCost])), (a_t_index, .inr (3, [.ref a_t_rows, .ref a_t_index_entries, .ref a_t_index_bounds, .ref a_t_index_starts, v_t_index_heats, .ref a_t_index_sorted, .int t_index_size, .int t_index_pieces])), (a_t_index_bounds, .inl (t 0, 62, .inl t_index_bounds_)), (a_t_index_entries, .inl (t 0, 120, .inl t_index_entries_)), (a_t_index_sorted, .inl (t 0, 62, .inl t_index_sorted_)), (a_t_index_starts, .inl (t 0, 62, .inl t_index_starts_)), (a_t_pendingRows, .inl (t 0, 31, .inl t_pendingRows_)), (a_t_settings, .inl (t 0, 4, .inl t_settings_3_1)), (a_t_rows, .inr (6, [.ref a_t_rows_keys, v_t_rows_values, .ref a_t_rows_states, .int t_rows_count])), (a_t_rows_keys, .inl (t 0, 120, .inl t_rows_keys_)), (a_t_rows_states, .inl (t 0, 120, .inl t_rows_states_))]) ⟨hx, hb, hml, hown, hts⟩ (c_X2_putSetting l D t z x a_t a_t_settings (.ref a_t_rows) (.ref a_t_index) v_t_answer v_t_kept (.ref a_t_pendingRows) t_pendingCount t_totalCost t_settings_ p1 p2 H.size t_settings_3_1 h3_1) (cwV 2 hts gX2_changeSetting_X2_putSetting rfl rfl rfl hd_X2_putSetting ⟨Nat.le_of_ble_eq_true rfl, Nat.le_of_ble_eq_true rfl⟩) (hC.at hz hS) hP hD hS hA hz [true, false, false, false, false, false, false, true, false, false, false] rfl rfl rfl rfl 0 rfl (show vwCl[2]? = some (RX2, TX2, 8) from rfl) rfl rfl hl.1 rfl (Nat.le_of_ble_eq_true rfl) dX2_changeSetting_3 ⟨Nat.zero_le _, Nat.zero_le _⟩ rfl (fun H locs hP hD hS => ?_)
  refine lv_aload_n hx hb dX2_changeSetting_6 rfl (lv_at hl 0 rfl) ?_
  obtain ⟨t_pendingCount_7_3, t_totalCost_7_4, t_index_size_7_5, t_index_entries_7_6, t_index_starts_7_7, t_pendingRows_7_8, t_rows_states_7_9, h7_9, hF⟩ := bnd7E hF
  refine wrVM (As := []) (rest := []) (C := RX2) (wn := [(a_t, .inr (2, [.ref a_t_rows, .ref a_t_index, v_t_answer, v_t_kept, .ref a_t_settings, .ref a_t_pendingRows, .int t_pendingCount_7_3, .int t_totalCost_7_4])), (a_t_index, .inr (3, [.ref a_t_rows, .ref a_t_index_entries, .ref a_t_index_bounds, .ref a_t_index_starts, v_t_index_heats, .ref a_t_index_sorted, .int t_index_size_7_5, .int t_index_pieces])), (a_t_index_bounds, .inl (t 0, 62, .inl t_index_bounds_)), (a_t_index_entries, .inl (t 0, 120, .inl t_index_entries_7_6)), (a_t_index_sorted, .inl (t 0, 62, .inl t_index_sorted_)), (a_t_index_starts, .inl (t 0, 62, .inl t_index_starts_7_7)), (a_t_pendingRows, .inl (t 0, 31, .inl t_pendingRows_7_8)), (a_t_settings, .inl (t 0, 4, .inl t_settings_3_1)), (a_t_rows, .inr (6, [.ref a_t_rows_keys, v_t_rows_values, .ref a_t_rows_states, .int t_rows_count])), (a_t_rows_keys, .inl (t 0, 120, .inl t_rows_keys_)), (a_t_rows_states, .inl (t 0, 120, .inl t_rows_states_7_9))]) ⟨hx, hb, hml, hown, hts⟩ (c_X2_mergeTooMany l D t z x N a_t a_t_index a_t_index_bounds a_t_index_entries a_t_index_sorted a_t_index_starts a_t_pendingRows a_t_settings a_t_rows a_t_rows_keys a_t_rows_states v_t_answer v_t_kept v_t_index_heats v_t_rows_values t_pendingCount t_totalCost t_index_size t_index_pieces t_index_bounds_ t_index_entries_ t_index_sorted_ t_index_starts_ t_pendingRows_ t_settings_3_1 t_rows_count t_rows_keys_ t_rows_states_ H.size t_pendingCount_7_3 t_totalCost_7_4 t_index_size_7_5 t_index_entries_7_6 t_index_starts_7_7 t_pendingRows_7_8 t_rows_states_7_9 h7_9) (cwV 0 hts gX2_changeSetting_X2_mergeTooMany rfl rfl rfl hd_X2_mergeTooMany ⟨Nat.le_of_ble_eq_true rfl, Nat.le_of_ble_eq_true rfl⟩) (hC.at hz hS) hP hD hS hA hz [true, true, true, true, true, true, true, true, true, true, true] rfl rfl rfl rfl 0 rfl (show vwCl[2]? = some (RX2, TX2, 8) from rfl) rfl rfl hl.1 rfl (Nat.le_of_ble_eq_true rfl) dX2_changeSetting_7 ⟨Nat.zero_le _, Nat.zero_le _⟩ rfl (fun H locs hP hD hS => ?_)
  cases hF
  exact we_vret hx hb hr hlocks dX2_changeSetting_10 rfl hQ hP hD hS
abbrev rm_X2_mergeEverything : Room := { frames := 5, cells := 0, slots := 0, locals := 118 }
theorem hd_X2_mergeEverything : yX2_mergeEverything.cls = RX2 ∧ yX2_mergeEverything.cls ≠ "java/lang/invoke/MethodHandle" ∧ yX2_mergeEverything.cls ≠ "java/lang/invoke/VarHandle" ∧ (parseMethodDescriptor yX2_mergeEverything.desc).map (fun d => d.parameters.length) = some 0 := by decide +kernel
set_option maxRecDepth 100000 in
set_option maxHeartbeats 4000000 in
theorem c_X2_mergeEverything (l : Launch) (D : va_G) (t : Nat → ClassId) (z : Nat) (x : Nat → Nat) (N : Nat) (a_t : Nat) (a_t_index : Nat) (a_t_index_bounds : Nat) (a_t_index_entries : Nat) (a_t_index_sorted : Nat) (a_t_index_starts : Nat) (a_t_pendingRows : Nat) (a_t_rows : Nat) (a_t_rows_keys : Nat) (a_t_rows_states : Nat) (v_t_answer : Value) (v_t_kept : Value) (v_t_settings : Value) (v_t_index_heats : Value) (v_t_rows_values : Value) (t_pendingCount : Int32) (t_totalCost : Int32) (t_index_size : Int32) (t_index_pieces : Int32) (t_index_bounds_ : (Nat → Int32)) (t_index_entries_ : (Nat → Int32)) (t_index_sorted_ : (Nat → Int32)) (t_index_starts_ : (Nat → Int32)) (t_pendingRows_ : (Nat → Int32)) (t_rows_count : Int32) (t_rows_keys_ : (Nat → Int32)) (t_rows_states_ : (Nat → Int32)) (sz : Nat) (r : Int32) (t_pendingCount' : Int32) (t_totalCost' : Int32) (t_index_size' : Int32) (t_index_entries_' : (Nat → Int32)) (t_index_starts_' : (Nat → Int32)) (t_pendingRows_' : (Nat → Int32)) (t_rows_states_' : (Nat → Int32)) (hF : f_X2_mergeEverything N t_pendingCount t_totalCost t_index_size t_index_pieces t_index_bounds_ t_index_entries_ t_index_sorted_ t_index_starts_ t_pendingRows_ t_rows_keys_ t_rows_states_ = some (r, t_pendingCount', t_totalCost', t_index_size', t_index_entries_', t_index_starts_', t_pendingRows_', t_rows_states_')) : WrM l D (TY t) z x yX2_mergeEverything wsX2_mergeEverything rm_X2_mergeEverything [.ref a_t] [(a_t, .inr (2, [.ref a_t_rows, .ref a_t_index, v_t_answer, v_t_kept, v_t_settings, .ref a_t_pendingRows, .int t_pendingCount, .int t_totalCost])), (a_t_index, .inr (3, [.ref a_t_rows, .ref a_t_index_entries, .ref a_t_index_bounds, .ref a_t_index_starts, v_t_index_heats, .ref a_t_index_sorted, .int t_index_size, .int t_index_pieces])), (a_t_index_bounds, .inl (t 0, 62, .inl t_index_bounds_)), (a_t_index_entries, .inl (t 0, 120, .inl t_index_entries_)), (a_t_index_sorted, .inl (t 0, 62, .inl t_index_sorted_)), (a_t_index_starts, .inl (t 0, 62, .inl t_index_starts_)), (a_t_pendingRows, .inl (t 0, 31, .inl t_pendingRows_)), (a_t_rows, .inr (6, [.ref a_t_rows_keys, v_t_rows_values, .ref a_t_rows_states, .int t_rows_count])), (a_t_rows_keys, .inl (t 0, 120, .inl t_rows_keys_)), (a_t_rows_states, .inl (t 0, 120, .inl t_rows_states_))] [(a_t, .inr (2, [.ref a_t_rows, .ref a_t_index, v_t_answer, v_t_kept, v_t_settings, .ref a_t_pendingRows, .int t_pendingCount', .int t_totalCost'])), (a_t_index, .inr (3, [.ref a_t_rows, .ref a_t_index_entries, .ref a_t_index_bounds, .ref a_t_index_starts, v_t_index_heats, .ref a_t_index_sorted, .int t_index_size', .int t_index_pieces])), (a_t_index_bounds, .inl (t 0, 62, .inl t_index_bounds_)), (a_t_index_entries, .inl (t 0, 120, .inl t_index_entries_')), (a_t_index_sorted, .inl (t 0, 62, .inl t_index_sorted_)), (a_t_index_starts, .inl (t 0, 62, .inl t_index_starts_')), (a_t_pendingRows, .inl (t 0, 31, .inl t_pendingRows_')), (a_t_rows, .inr (6, [.ref a_t_rows_keys, v_t_rows_values, .ref a_t_rows_states, .int t_rows_count])), (a_t_rows_keys, .inl (t 0, 120, .inl t_rows_keys_)), (a_t_rows_states, .inl (t 0, 120, .inl t_rows_states_'))] sz (some (.int r)) 0 0 := by
  obtain ⟨T9, hT⟩ : ∃ T9, T9 = (r, t_pendingCount', t_totalCost', t_index_size', t_index_entries_', t_index_starts_', t_pendingRows_', t_rows_states_') := ⟨_, rfl⟩
  rw [← hT] at hF
  obtain rfl : r = T9.1 := by rw [hT]
  obtain rfl : t_pendingCount' = T9.2.1 := by rw [hT]
  obtain rfl : t_totalCost' = T9.2.2.1 := by rw [hT]
  obtain rfl : t_index_size' = T9.2.2.2.1 := by rw [hT]
  obtain rfl : t_index_entries_' = T9.2.2.2.2.1 := by rw [hT]
  obtain rfl : t_index_starts_' = T9.2.2.2.2.2.1 := by rw [hT]
  obtain rfl : t_pendingRows_' = T9.2.2.2.2.2.2.1 := by rw [hT]
  obtain rfl : t_rows_states_' = T9.2.2.2.2.2.2.2 := by rw [hT]
  clear hT
  refine wr_of (cc := cX2_mergeEverything) (maxL := 2) (ret := (some .int)) (by decide) rfl (Nat.le_of_ble_eq_true rfl) ?_
  intro p e s m args below meth c A Q hQ hx hb hr hml hts hown hlocks hin H locs hP hD hS hA hz hC ls hl
  have hown : s.vm.findClass RX2 = some m.cls := hown
  have hl : lv_has ls 2 [(0, .ref a_t)] := hl
  have hK := hC.1
  have iw2 : ∀ w ∈ wsX20, w ∈ wsX2_mergeEverything := fun _ h => List.mem_cons_of_mem _ (List.mem_append_left _ (List.mem_append_left _ (List.mem_append_right _ h)))
  have hf52 := hts (.fieldLink RX2 52 "CrackedColumn$Column" "totalCost" "I") (by decide +kernel)
  unfold f_X2_mergeEverything at hF
  refine lv_aload_n hx hb dX2_mergeEverything_0 rfl (lv_at hl 0 rfl) ?_
  refine lv_iconst (v := 0) hx hb dX2_mergeEverything_1 (by decide) ?_
  refine lv_sipush (v := 10000) hx hb dX2_mergeEverything_2 (by decide) ?_
  obtain ⟨r5_1, t_pendingCount_5_2, t_index_size_5_3, t_index_entries_5_4, t_index_starts_5_5, t_pendingRows_5_6, t_rows_states_5_7, h5_7, hF⟩ := bnd7E hF
  refine wrVM (As := [.int 0, .int 10000]) (rest := []) (C := RX2) (wn := [(a_t, .inr (2, [.ref a_t_rows, .ref a_t_index, v_t_answer, v_t_kept, v_t_settings, .ref a_t_pendingRows, .int t_pendingCount_5_2, .int t_totalCost])), (a_t_index, .inr (3, [.ref a_t_rows, .ref a_t_index_entries, .ref a_t_index_bounds, .ref a_t_index_starts, v_t_index_heats, .ref a_t_index_sorted, .int t_index_size_5_3, .int t_index_pieces])), (a_t_index_bounds, .inl (t 0, 62, .inl t_index_bounds_)), (a_t_index_entries, .inl (t 0, 120, .inl t_index_entries_5_4)), (a_t_index_sorted, .inl (t 0, 62, .inl t_index_sorted_)), (a_t_index_starts, .inl (t 0, 62, .inl t_index_starts_5_5)), (a_t_pendingRows, .inl (t 0, 31, .inl t_pendingRows_5_6)), (a_t_rows, .inr (6, [.ref a_t_rows_keys, v_t_rows_values, .ref a_t_rows_states, .int t_rows_count])), (a_t_rows_keys, .inl (t 0, 120, .inl t_rows_keys_)), (a_t_rows_states, .inl (t 0, 120, .inl t_rows_states_5_7))]) ⟨hx, hb, hml, hown, hts⟩ (c_X2_mergeSpan l D t z x N a_t a_t_index a_t_index_bounds a_t_index_entries a_t_index_sorted a_t_index_starts a_t_pendingRows a_t_rows a_t_rows_keys a_t_rows_states v_t_answer v_t_kept v_t_settings v_t_index_heats v_t_rows_values t_pendingCount t_totalCost t_index_size t_index_pieces t_index_bounds_ t_index_entries_ t_index_sorted_ t_index_starts_ t_pendingRows_ t_rows_count t_rows_keys_ t_rows_states_ 0 10000 H.size r5_1 t_pendingCount_5_2 t_index_size_5_3 t_index_entries_5_4 t_index_starts_5_5 t_pendingRows_5_6 t_rows_states_5_7 h5_7) (cwV 2 hts gX2_mergeEverything_X2_mergeSpan rfl rfl rfl hd_X2_mergeSpan ⟨Nat.le_of_ble_eq_true rfl, Nat.le_of_ble_eq_true rfl⟩) (hC.at hz hS) hP hD hS hA hz [true, true, true, true, true, true, true, true, true, true] rfl rfl rfl rfl 0 rfl (show vwCl[2]? = some (RX2, TX2, 8) from rfl) rfl rfl hl.1 rfl (Nat.le_of_ble_eq_true rfl) dX2_mergeEverything_5 ⟨Nat.zero_le _, Nat.zero_le _⟩ rfl (fun H locs hP hD hS => ?_)
  refine lv_istore_n (lv' := [(1, .int r5_1), (0, .ref a_t)]) hx hb dX2_mergeEverything_8 rfl hl (by decide) rfl (fun ls hl => ?_)
  refine lv_aload_n hx hb dX2_mergeEverything_9 rfl (lv_at hl 1 rfl) ?_
  refine lv_dup hx hb dX2_mergeEverything_10 rfl ?_
  refine va_get (D := D) (ci := 2) (v := .int t_totalCost) (C := RX2) (T := TX2) (N := 8) hx hb hts iw2 hown hK hP 0 rfl rfl 7 (by decide) hf52 (fun _ h9 => h9) rfl dX2_mergeEverything_11 ?_
  refine lv_iload_n hx hb dX2_mergeEverything_14 rfl (lv_at hl 0 rfl) ?_
  refine lv_iadd hx hb dX2_mergeEverything_15 ?_
  refine lv_topi (fun y16_9 ey16_9 => ?_)
  have hF := ltE ey16_9 hF
  refine my_put (ty := .int) (v := .int y16_9) (ci := 2) (C := RX2) (T := TX2) (N := 8) (wn := [(a_t, .inr (2, [.ref a_t_rows, .ref a_t_index, v_t_answer, v_t_kept, v_t_settings, .ref a_t_pendingRows, .int t_pendingCount_5_2, .int y16_9])), (a_t_index, .inr (3, [.ref a_t_rows, .ref a_t_index_entries, .ref a_t_index_bounds, .ref a_t_index_starts, v_t_index_heats, .ref a_t_index_sorted, .int t_index_size_5_3, .int t_index_pieces])), (a_t_index_bounds, .inl (t 0, 62, .inl t_index_bounds_)), (a_t_index_entries, .inl (t 0, 120, .inl t_index_entries_5_4)), (a_t_index_sorted, .inl (t 0, 62, .inl t_index_sorted_)), (a_t_index_starts, .inl (t 0, 62, .inl t_index_starts_5_5)), (a_t_pendingRows, .inl (t 0, 31, .inl t_pendingRows_5_6)), (a_t_rows, .inr (6, [.ref a_t_rows_keys, v_t_rows_values, .ref a_t_rows_states, .int t_rows_count])), (a_t_rows_keys, .inl (t 0, 120, .inl t_rows_keys_)), (a_t_rows_states, .inl (t 0, 120, .inl t_rows_states_5_7))]) hx hb hts iw2 tyX2 tyX2_ok nmX2 hown hK hP hD hS 0 rfl rfl 7 (by decide) hf52 (fun _ h9 => h9) rfl (by decide +kernel) rfl rfl (Nat.le_of_ble_eq_true rfl) rfl dX2_mergeEverything_16 (fun H locs hP hD hS => ?_)
  refine lv_iload_n hx hb dX2_mergeEverything_19 rfl (lv_at hl 0 rfl) ?_
  cases hF
  exact we_iret hx hb hr hlocks dX2_mergeEverything_20 rfl hQ hP hD hS
