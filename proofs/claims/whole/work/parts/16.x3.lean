abbrev rm_X3_init : Room := { frames := 1, cells := 5, slots := 368, locals := 24 }
theorem hd_X3_init : yX3_init.cls = RX3 ∧ yX3_init.cls ≠ "java/lang/invoke/MethodHandle" ∧ yX3_init.cls ≠ "java/lang/invoke/VarHandle" ∧ (parseMethodDescriptor yX3_init.desc).map (fun d => d.parameters.length) = some 1 := by decide +kernel
set_option maxRecDepth 100000 in
set_option maxHeartbeats 4000000 in
theorem c_X3_init (l : Launch) (D : va_G) (t : Nat → ClassId) (z : Nat) (x : Nat → Nat) (a_t : Nat) (a_p1 : Nat) (sz : Nat) (t_size' : Int32) (t_pieces' : Int32) (t_entries_' : (Nat → Int32)) (t_bounds_' : (Nat → Int32)) (t_starts_' : (Nat → Int32)) (t_heats_' : (Nat → Int32)) (t_sorted_' : (Nat → Int32)) (hF : f_X3_init = some (t_size', t_pieces', t_entries_', t_bounds_', t_starts_', t_heats_', t_sorted_')) : CrM l D (TY t) z x yX3_init wsX3_init rm_X3_init [.ref a_t, .ref a_p1] [(a_t, .inr (3, [.null, .null, .null, .null, .null, .null, .int 0, .int 0]))] (fun (q : Nat → Nat) => [(a_t, .inr (3, [.ref a_p1, .ref (q 0), .ref (q 1), .ref (q 2), .ref (q 3), .ref (q 4), .int t_size', .int t_pieces'])), ((q 0), .inl (t 0, 120, .inl t_entries_')), ((q 1), .inl (t 0, 62, .inl t_bounds_')), ((q 2), .inl (t 0, 62, .inl t_starts_')), ((q 3), .inl (t 0, 62, .inl t_heats_')), ((q 4), .inl (t 0, 62, .inl t_sorted_'))]) sz 5 368 := by
  obtain ⟨T9, hT⟩ : ∃ T9, T9 = (t_size', t_pieces', t_entries_', t_bounds_', t_starts_', t_heats_', t_sorted_') := ⟨_, rfl⟩
  rw [← hT] at hF
  obtain rfl : t_size' = T9.1 := by rw [hT]
  obtain rfl : t_pieces' = T9.2.1 := by rw [hT]
  obtain rfl : t_entries_' = T9.2.2.1 := by rw [hT]
  obtain rfl : t_bounds_' = T9.2.2.2.1 := by rw [hT]
  obtain rfl : t_starts_' = T9.2.2.2.2.1 := by rw [hT]
  obtain rfl : t_heats_' = T9.2.2.2.2.2.1 := by rw [hT]
  obtain rfl : t_sorted_' = T9.2.2.2.2.2.2 := by rw [hT]
  clear hT
  refine cr_of (cc := cX3_init) (maxL := 2) (ret := none) (by decide) rfl (Nat.le_of_ble_eq_true rfl) ?_
  intro p e s m args below meth c A Q hQ hx hb hr hml hts hown hlocks hin H locs hP hD hS hA hz hC ls hl
  have hown : s.vm.findClass RX3 = some m.cls := hown
  have hl : lv_has ls 2 [(0, .ref a_t), (1, .ref a_p1)] := hl
  have hK := hC.1
  have iw3 : ∀ w ∈ wsX30, w ∈ wsX3_init := fun _ h => List.mem_cons_of_mem _ (List.mem_append_right _ h)
  have hf9 := hts (.fieldLink RX3 9 "CrackedColumn$Index" "entries" "[I") (by decide +kernel)
  have hf15 := hts (.fieldLink RX3 15 "CrackedColumn$Index" "bounds" "[I") (by decide +kernel)
  have hf18 := hts (.fieldLink RX3 18 "CrackedColumn$Index" "starts" "[I") (by decide +kernel)
  have hf21 := hts (.fieldLink RX3 21 "CrackedColumn$Index" "heats" "[I") (by decide +kernel)
  have hf24 := hts (.fieldLink RX3 24 "CrackedColumn$Index" "sorted" "[I") (by decide +kernel)
  have hf27 := hts (.fieldLink RX3 27 "CrackedColumn$Index" "size" "I") (by decide +kernel)
  have hf31 := hts (.fieldLink RX3 31 "CrackedColumn$Index" "pieces" "I") (by decide +kernel)
  have hf34 := hts (.fieldLink RX3 34 "CrackedColumn$Index" "rows" "LCrackedColumn$Rows;") (by decide +kernel)
  unfold f_X3_init at hF
  refine lv_aload_n hx hb dX3_init_0 rfl (lv_at hl 0 rfl) ?_
  refine W.objInit hx hb hown (hts (.methodLink RX3 3 objectInit) (by decide +kernel)) (hts (.instanceMethod objectInit) (by decide +kernel)) (hts (.code objectInit ⟨#[0xb1]⟩ 1 none) (by decide +kernel)) rfl (hl.1.trans hml.symm) rfl dX3_init_1 (Nat.le_of_ble_eq_true rfl) (Nat.le_of_ble_eq_true rfl) ?_
  refine lv_aload_n hx hb dX3_init_4 rfl (lv_at hl 0 rfl) ?_
  refine lv_bipush (v := 120) hx hb dX3_init_5 (by decide) ?_
  refine my_newa (atype := .int) (ty := .int) (t0 := 0) (wn := (fun a_t_entries => [(a_t, .inr (3, [.null, .null, .null, .null, .null, .null, .int 0, .int 0])), (a_t_entries, .inl (t 0, 120, .inl zf))])) (N' := 120) hx hb (hts (.arrayClass .int) (by decide +kernel)) rfl hK rfl hP hD hS hA (fun _ => rfl) (by decide) (by decide +kernel) (Nat.le_of_ble_eq_true rfl) (Nat.le_of_ble_eq_true rfl) (Nat.le_of_ble_eq_true rfl) (fun a => rfl) dX3_init_7 (fun a_t_entries H hP hD hS => ?_)
  refine my_putF (ty := tyX3 1) (v := .ref a_t_entries) (ci := 3) (C := RX3) (T := TX3) (N := 8) (wn := [(a_t, .inr (3, [.null, .ref a_t_entries, .null, .null, .null, .null, .int 0, .int 0])), (a_t_entries, .inl (t 0, 120, .inl zf))]) hx hb hts iw3 tyX3 tyX3_ok nmX3 hown hK hP hD hS 0 rfl rfl 1 (by decide) hf9 (fun _ h9 => h9) (by decide +kernel) hin rfl (by decide +kernel) rfl rfl (Nat.le_of_ble_eq_true rfl) rfl dX3_init_9 (fun H locs hP hD hS => ?_)
  refine lv_aload_n hx hb dX3_init_12 rfl (lv_at hl 0 rfl) ?_
  refine lv_bipush (v := 62) hx hb dX3_init_13 (by decide) ?_
  refine my_newa (atype := .int) (ty := .int) (t0 := 0) (wn := (fun a_t_bounds => [(a_t, .inr (3, [.null, .ref a_t_entries, .null, .null, .null, .null, .int 0, .int 0])), (a_t_entries, .inl (t 0, 120, .inl zf)), (a_t_bounds, .inl (t 0, 62, .inl zf))])) (N' := 62) hx hb (hts (.arrayClass .int) (by decide +kernel)) rfl hK rfl hP hD hS hA (fun _ => rfl) (by decide) (by decide +kernel) (Nat.le_of_ble_eq_true rfl) (Nat.le_of_ble_eq_true rfl) (Nat.le_of_ble_eq_true rfl) (fun a => rfl) dX3_init_15 (fun a_t_bounds H hP hD hS => ?_)
  refine my_putF (ty := tyX3 2) (v := .ref a_t_bounds) (ci := 3) (C := RX3) (T := TX3) (N := 8) (wn := [(a_t, .inr (3, [.null, .ref a_t_entries, .ref a_t_bounds, .null, .null, .null, .int 0, .int 0])), (a_t_entries, .inl (t 0, 120, .inl zf)), (a_t_bounds, .inl (t 0, 62, .inl zf))]) hx hb hts iw3 tyX3 tyX3_ok nmX3 hown hK hP hD hS 0 rfl rfl 2 (by decide) hf15 (fun _ h9 => h9) (by decide +kernel) hin rfl (by decide +kernel) rfl rfl (Nat.le_of_ble_eq_true rfl) rfl dX3_init_17 (fun H locs hP hD hS => ?_)
  refine lv_aload_n hx hb dX3_init_20 rfl (lv_at hl 0 rfl) ?_
  refine lv_bipush (v := 62) hx hb dX3_init_21 (by decide) ?_
  refine my_newa (atype := .int) (ty := .int) (t0 := 0) (wn := (fun a_t_starts => [(a_t, .inr (3, [.null, .ref a_t_entries, .ref a_t_bounds, .null, .null, .null, .int 0, .int 0])), (a_t_entries, .inl (t 0, 120, .inl zf)), (a_t_bounds, .inl (t 0, 62, .inl zf)), (a_t_starts, .inl (t 0, 62, .inl zf))])) (N' := 62) hx hb (hts (.arrayClass .int) (by decide +kernel)) rfl hK rfl hP hD hS hA (fun _ => rfl) (by decide) (by decide +kernel) (Nat.le_of_ble_eq_true rfl) (Nat.le_of_ble_eq_true rfl) (Nat.le_of_ble_eq_true rfl) (fun a => rfl) dX3_init_23 (fun a_t_starts H hP hD hS => ?_)
  refine my_putF (ty := tyX3 3) (v := .ref a_t_starts) (ci := 3) (C := RX3) (T := TX3) (N := 8) (wn := [(a_t, .inr (3, [.null, .ref a_t_entries, .ref a_t_bounds, .ref a_t_starts, .null, .null, .int 0, .int 0])), (a_t_entries, .inl (t 0, 120, .inl zf)), (a_t_bounds, .inl (t 0, 62, .inl zf)), (a_t_starts, .inl (t 0, 62, .inl zf))]) hx hb hts iw3 tyX3 tyX3_ok nmX3 hown hK hP hD hS 0 rfl rfl 3 (by decide) hf18 (fun _ h9 => h9) (by decide +kernel) hin rfl (by decide +kernel) rfl rfl (Nat.le_of_ble_eq_true rfl) rfl dX3_init_25 (fun H locs hP hD hS => ?_)
  refine lv_aload_n hx hb dX3_init_28 rfl (lv_at hl 0 rfl) ?_
  refine lv_bipush (v := 62) hx hb dX3_init_29 (by decide) ?_
  refine my_newa (atype := .int) (ty := .int) (t0 := 0) (wn := (fun a_t_heats => [(a_t, .inr (3, [.null, .ref a_t_entries, .ref a_t_bounds, .ref a_t_starts, .null, .null, .int 0, .int 0])), (a_t_entries, .inl (t 0, 120, .inl zf)), (a_t_bounds, .inl (t 0, 62, .inl zf)), (a_t_starts, .inl (t 0, 62, .inl zf)), (a_t_heats, .inl (t 0, 62, .inl zf))])) (N' := 62) hx hb (hts (.arrayClass .int) (by decide +kernel)) rfl hK rfl hP hD hS hA (fun _ => rfl) (by decide) (by decide +kernel) (Nat.le_of_ble_eq_true rfl) (Nat.le_of_ble_eq_true rfl) (Nat.le_of_ble_eq_true rfl) (fun a => rfl) dX3_init_31 (fun a_t_heats H hP hD hS => ?_)
  refine my_putF (ty := tyX3 4) (v := .ref a_t_heats) (ci := 3) (C := RX3) (T := TX3) (N := 8) (wn := [(a_t, .inr (3, [.null, .ref a_t_entries, .ref a_t_bounds, .ref a_t_starts, .ref a_t_heats, .null, .int 0, .int 0])), (a_t_entries, .inl (t 0, 120, .inl zf)), (a_t_bounds, .inl (t 0, 62, .inl zf)), (a_t_starts, .inl (t 0, 62, .inl zf)), (a_t_heats, .inl (t 0, 62, .inl zf))]) hx hb hts iw3 tyX3 tyX3_ok nmX3 hown hK hP hD hS 0 rfl rfl 4 (by decide) hf21 (fun _ h9 => h9) (by decide +kernel) hin rfl (by decide +kernel) rfl rfl (Nat.le_of_ble_eq_true rfl) rfl dX3_init_33 (fun H locs hP hD hS => ?_)
  refine lv_aload_n hx hb dX3_init_36 rfl (lv_at hl 0 rfl) ?_
  refine lv_bipush (v := 62) hx hb dX3_init_37 (by decide) ?_
  refine my_newa (atype := .int) (ty := .int) (t0 := 0) (wn := (fun a_t_sorted => [(a_t, .inr (3, [.null, .ref a_t_entries, .ref a_t_bounds, .ref a_t_starts, .ref a_t_heats, .null, .int 0, .int 0])), (a_t_entries, .inl (t 0, 120, .inl zf)), (a_t_bounds, .inl (t 0, 62, .inl zf)), (a_t_starts, .inl (t 0, 62, .inl zf)), (a_t_heats, .inl (t 0, 62, .inl zf)), (a_t_sorted, .inl (t 0, 62, .inl zf))])) (N' := 62) hx hb (hts (.arrayClass .int) (by decide +kernel)) rfl hK rfl hP hD hS hA (fun _ => rfl) (by decide) (by decide +kernel) (Nat.le_of_ble_eq_true rfl) (Nat.le_of_ble_eq_true rfl) (Nat.le_of_ble_eq_true rfl) (fun a => rfl) dX3_init_39 (fun a_t_sorted H hP hD hS => ?_)
  refine my_putF (ty := tyX3 5) (v := .ref a_t_sorted) (ci := 3) (C := RX3) (T := TX3) (N := 8) (wn := [(a_t, .inr (3, [.null, .ref a_t_entries, .ref a_t_bounds, .ref a_t_starts, .ref a_t_heats, .ref a_t_sorted, .int 0, .int 0])), (a_t_entries, .inl (t 0, 120, .inl zf)), (a_t_bounds, .inl (t 0, 62, .inl zf)), (a_t_starts, .inl (t 0, 62, .inl zf)), (a_t_heats, .inl (t 0, 62, .inl zf)), (a_t_sorted, .inl (t 0, 62, .inl zf))]) hx hb hts iw3 tyX3 tyX3_ok nmX3 hown hK hP hD hS 0 rfl rfl 5 (by decide) hf24 (fun _ h9 => h9) (by decide +kernel) hin rfl (by decide +kernel) rfl rfl (Nat.le_of_ble_eq_true rfl) rfl dX3_init_41 (fun H locs hP hD hS => ?_)
  refine lv_aload_n hx hb dX3_init_44 rfl (lv_at hl 0 rfl) ?_
  refine lv_iconst (v := 0) hx hb dX3_init_45 (by decide) ?_
  refine my_put (ty := .int) (v := .int 0) (ci := 3) (C := RX3) (T := TX3) (N := 8) (wn := [(a_t, .inr (3, [.null, .ref a_t_entries, .ref a_t_bounds, .ref a_t_starts, .ref a_t_heats, .ref a_t_sorted, .int 0, .int 0])), (a_t_entries, .inl (t 0, 120, .inl zf)), (a_t_bounds, .inl (t 0, 62, .inl zf)), (a_t_starts, .inl (t 0, 62, .inl zf)), (a_t_heats, .inl (t 0, 62, .inl zf)), (a_t_sorted, .inl (t 0, 62, .inl zf))]) hx hb hts iw3 tyX3 tyX3_ok nmX3 hown hK hP hD hS 0 rfl rfl 6 (by decide) hf27 (fun _ h9 => h9) rfl (by decide +kernel) rfl rfl (Nat.le_of_ble_eq_true rfl) rfl dX3_init_46 (fun H locs hP hD hS => ?_)
  refine lv_aload_n hx hb dX3_init_49 rfl (lv_at hl 0 rfl) ?_
  refine lv_iconst (v := 0) hx hb dX3_init_50 (by decide) ?_
  refine my_put (ty := .int) (v := .int 0) (ci := 3) (C := RX3) (T := TX3) (N := 8) (wn := [(a_t, .inr (3, [.null, .ref a_t_entries, .ref a_t_bounds, .ref a_t_starts, .ref a_t_heats, .ref a_t_sorted, .int 0, .int 0])), (a_t_entries, .inl (t 0, 120, .inl zf)), (a_t_bounds, .inl (t 0, 62, .inl zf)), (a_t_starts, .inl (t 0, 62, .inl zf)), (a_t_heats, .inl (t 0, 62, .inl zf)), (a_t_sorted, .inl (t 0, 62, .inl zf))]) hx hb hts iw3 tyX3 tyX3_ok nmX3 hown hK hP hD hS 0 rfl rfl 7 (by decide) hf31 (fun _ h9 => h9) rfl (by decide +kernel) rfl rfl (Nat.le_of_ble_eq_true rfl) rfl dX3_init_51 (fun H locs hP hD hS => ?_)
  refine lv_aload_n hx hb dX3_init_54 rfl (lv_at hl 0 rfl) ?_
  refine lv_aload_n hx hb dX3_init_55 rfl (lv_at hl 1 rfl) ?_
  refine my_putF (ty := tyX3 0) (v := .ref a_p1) (ci := 3) (C := RX3) (T := TX3) (N := 8) (wn := [(a_t, .inr (3, [.ref a_p1, .ref a_t_entries, .ref a_t_bounds, .ref a_t_starts, .ref a_t_heats, .ref a_t_sorted, .int 0, .int 0])), (a_t_entries, .inl (t 0, 120, .inl zf)), (a_t_bounds, .inl (t 0, 62, .inl zf)), (a_t_starts, .inl (t 0, 62, .inl zf)), (a_t_heats, .inl (t 0, 62, .inl zf)), (a_t_sorted, .inl (t 0, 62, .inl zf))]) hx hb hts iw3 tyX3 tyX3_ok nmX3 hown hK hP hD hS 0 rfl rfl 0 (by decide) hf34 (fun _ h9 => h9) (by decide +kernel) hin rfl (by decide +kernel) rfl rfl (Nat.le_of_ble_eq_true rfl) rfl dX3_init_56 (fun H locs hP hD hS => ?_)
  cases hF
  exact W.widen (k := 5) (n := 368) (Nat.le_of_ble_eq_true rfl) (Nat.le_of_ble_eq_true rfl) (cr_vret hx hb hr hlocks dX3_init_59 hQ hP hD hS (fun i => [a_t_entries, a_t_bounds, a_t_starts, a_t_heats, a_t_sorted].getD i 0) [0, 1, 2, 3, 4, 5] rfl (by decide +kernel))
abbrev rm_X3_clear : Room := { frames := 0, cells := 0, slots := 0, locals := 0 }
theorem hd_X3_clear : yX3_clear.cls = RX3 ∧ yX3_clear.cls ≠ "java/lang/invoke/MethodHandle" ∧ yX3_clear.cls ≠ "java/lang/invoke/VarHandle" ∧ (parseMethodDescriptor yX3_clear.desc).map (fun d => d.parameters.length) = some 0 := by decide +kernel
set_option maxRecDepth 100000 in
set_option maxHeartbeats 4000000 in
theorem c_X3_clear (l : Launch) (D : va_G) (t : Nat → ClassId) (z : Nat) (x : Nat → Nat) (a_t : Nat) (a_t_bounds : Nat) (a_t_heats : Nat) (a_t_sorted : Nat) (a_t_starts : Nat) (v_t_rows : Value) (v_t_entries : Value) (t_size : Int32) (t_pieces : Int32) (t_bounds_ : (Nat → Int32)) (t_heats_ : (Nat → Int32)) (t_sorted_ : (Nat → Int32)) (t_starts_ : (Nat → Int32)) (sz : Nat) (t_size' : Int32) (t_pieces' : Int32) (t_bounds_' : (Nat → Int32)) (t_heats_' : (Nat → Int32)) (t_sorted_' : (Nat → Int32)) (t_starts_' : (Nat → Int32)) (hF : f_X3_clear t_bounds_ t_heats_ t_sorted_ t_starts_ = some (t_size', t_pieces', t_bounds_', t_heats_', t_sorted_', t_starts_')) : WrM l D (TY t) z x yX3_clear wsX3_clear rm_X3_clear [.ref a_t] [(a_t, .inr (3, [v_t_rows, v_t_entries, .ref a_t_bounds, .ref a_t_starts, .ref a_t_heats, .ref a_t_sorted, .int t_size, .int t_pieces])), (a_t_bounds, .inl (t 0, 62, .inl t_bounds_)), (a_t_heats, .inl (t 0, 62, .inl t_heats_)), (a_t_sorted, .inl (t 0, 62, .inl t_sorted_)), (a_t_starts, .inl (t 0, 62, .inl t_starts_))] [(a_t, .inr (3, [v_t_rows, v_t_entries, .ref a_t_bounds, .ref a_t_starts, .ref a_t_heats, .ref a_t_sorted, .int t_size', .int t_pieces'])), (a_t_bounds, .inl (t 0, 62, .inl t_bounds_')), (a_t_heats, .inl (t 0, 62, .inl t_heats_')), (a_t_sorted, .inl (t 0, 62, .inl t_sorted_')), (a_t_starts, .inl (t 0, 62, .inl t_starts_'))] sz none 0 0 := by
  obtain ⟨T9, hT⟩ : ∃ T9, T9 = (t_size', t_pieces', t_bounds_', t_heats_', t_sorted_', t_starts_') := ⟨_, rfl⟩
  rw [← hT] at hF
  obtain rfl : t_size' = T9.1 := by rw [hT]
  obtain rfl : t_pieces' = T9.2.1 := by rw [hT]
  obtain rfl : t_bounds_' = T9.2.2.1 := by rw [hT]
  obtain rfl : t_heats_' = T9.2.2.2.1 := by rw [hT]
  obtain rfl : t_sorted_' = T9.2.2.2.2.1 := by rw [hT]
  obtain rfl : t_starts_' = T9.2.2.2.2.2 := by rw [hT]
  clear hT
  refine wr_of (cc := cX3_clear) (maxL := 1) (ret := none) (by decide) rfl (Nat.le_of_ble_eq_true rfl) ?_
  intro p e s m args below meth c A Q hQ hx hb hr hml hts hown hlocks hin H locs hP hD hS hA hz hC ls hl
  have hown : s.vm.findClass RX3 = some m.cls := hown
  have hl : lv_has ls 1 [(0, .ref a_t)] := hl
  have hK := hC.1
  have iw3 : ∀ w ∈ wsX30, w ∈ wsX3_clear := fun _ h => List.mem_cons_of_mem _ (List.mem_append_right _ h)
  have hf15 := hts (.fieldLink RX3 15 "CrackedColumn$Index" "bounds" "[I") (by decide +kernel)
  have hf18 := hts (.fieldLink RX3 18 "CrackedColumn$Index" "starts" "[I") (by decide +kernel)
  have hf21 := hts (.fieldLink RX3 21 "CrackedColumn$Index" "heats" "[I") (by decide +kernel)
  have hf24 := hts (.fieldLink RX3 24 "CrackedColumn$Index" "sorted" "[I") (by decide +kernel)
  have hf27 := hts (.fieldLink RX3 27 "CrackedColumn$Index" "size" "I") (by decide +kernel)
  have hf31 := hts (.fieldLink RX3 31 "CrackedColumn$Index" "pieces" "I") (by decide +kernel)
  unfold f_X3_clear at hF
  refine lv_aload_n hx hb dX3_clear_0 rfl (lv_at hl 0 rfl) ?_
  refine lv_iconst (v := 0) hx hb dX3_clear_1 (by decide) ?_
  refine my_put (ty := .int) (v := .int 0) (ci := 3) (C := RX3) (T := TX3) (N := 8) (wn := [(a_t, .inr (3, [v_t_rows, v_t_entries, .ref a_t_bounds, .ref a_t_starts, .ref a_t_heats, .ref a_t_sorted, .int 0, .int t_pieces])), (a_t_bounds, .inl (t 0, 62, .inl t_bounds_)), (a_t_heats, .inl (t 0, 62, .inl t_heats_)), (a_t_sorted, .inl (t 0, 62, .inl t_sorted_)), (a_t_starts, .inl (t 0, 62, .inl t_starts_))]) hx hb hts iw3 tyX3 tyX3_ok nmX3 hown hK hP hD hS 0 rfl rfl 6 (by decide) hf27 (fun _ h9 => h9) rfl (by decide +kernel) rfl rfl (Nat.le_of_ble_eq_true rfl) rfl dX3_clear_2 (fun H locs hP hD hS => ?_)
  refine lv_aload_n hx hb dX3_clear_5 rfl (lv_at hl 0 rfl) ?_
  refine lv_iconst (v := 1) hx hb dX3_clear_6 (by decide) ?_
  refine my_put (ty := .int) (v := .int 1) (ci := 3) (C := RX3) (T := TX3) (N := 8) (wn := [(a_t, .inr (3, [v_t_rows, v_t_entries, .ref a_t_bounds, .ref a_t_starts, .ref a_t_heats, .ref a_t_sorted, .int 0, .int 1])), (a_t_bounds, .inl (t 0, 62, .inl t_bounds_)), (a_t_heats, .inl (t 0, 62, .inl t_heats_)), (a_t_sorted, .inl (t 0, 62, .inl t_sorted_)), (a_t_starts, .inl (t 0, 62, .inl t_starts_))]) hx hb hts iw3 tyX3 tyX3_ok nmX3 hown hK hP hD hS 0 rfl rfl 7 (by decide) hf31 (fun _ h9 => h9) rfl (by decide +kernel) rfl rfl (Nat.le_of_ble_eq_true rfl) rfl dX3_clear_7 (fun H locs hP hD hS => ?_)
  refine lv_aload_n hx hb dX3_clear_10 rfl (lv_at hl 0 rfl) ?_
  refine va_get (D := D) (ci := 3) (v := .ref a_t_bounds) (C := RX3) (T := TX3) (N := 8) hx hb hts iw3 hown hK hP 0 rfl rfl 2 (by decide) hf15 (fun _ h9 => h9) rfl dX3_clear_11 ?_
  refine lv_iconst (v := 0) hx hb dX3_clear_14 (by decide) ?_
  refine lv_iconst (v := 0) hx hb dX3_clear_15 (by decide) ?_
  obtain ⟨t_bounds_16_1, et_bounds_16_1⟩ : ∃ y : Nat → Int32, y = upd t_bounds_ 0 0 := ⟨_, rfl⟩
  have hF := ltE et_bounds_16_1 hF
  refine my_iast (g := t_bounds_16_1) (wn := [(a_t, .inr (3, [v_t_rows, v_t_entries, .ref a_t_bounds, .ref a_t_starts, .ref a_t_heats, .ref a_t_sorted, .int 0, .int 1])), (a_t_bounds, .inl (t 0, 62, .inl t_bounds_16_1)), (a_t_heats, .inl (t 0, 62, .inl t_heats_)), (a_t_sorted, .inl (t 0, 62, .inl t_sorted_)), (a_t_starts, .inl (t 0, 62, .inl t_starts_))]) hx hb hK hP hD hS 1 0 rfl rfl (vp_lit (by decide +kernel)) et_bounds_16_1 rfl dX3_clear_16 (fun H locs hP hD hS => ?_)
  refine lv_aload_n hx hb dX3_clear_17 rfl (lv_at hl 0 rfl) ?_
  refine va_get (D := D) (ci := 3) (v := .ref a_t_starts) (C := RX3) (T := TX3) (N := 8) hx hb hts iw3 hown hK hP 0 rfl rfl 3 (by decide) hf18 (fun _ h9 => h9) rfl dX3_clear_18 ?_
  refine lv_iconst (v := 0) hx hb dX3_clear_21 (by decide) ?_
  refine lv_iconst (v := 0) hx hb dX3_clear_22 (by decide) ?_
  obtain ⟨t_starts_23_2, et_starts_23_2⟩ : ∃ y : Nat → Int32, y = upd t_starts_ 0 0 := ⟨_, rfl⟩
  have hF := ltE et_starts_23_2 hF
  refine my_iast (g := t_starts_23_2) (wn := [(a_t, .inr (3, [v_t_rows, v_t_entries, .ref a_t_bounds, .ref a_t_starts, .ref a_t_heats, .ref a_t_sorted, .int 0, .int 1])), (a_t_bounds, .inl (t 0, 62, .inl t_bounds_16_1)), (a_t_heats, .inl (t 0, 62, .inl t_heats_)), (a_t_sorted, .inl (t 0, 62, .inl t_sorted_)), (a_t_starts, .inl (t 0, 62, .inl t_starts_23_2))]) hx hb hK hP hD hS 4 0 rfl rfl (vp_lit (by decide +kernel)) et_starts_23_2 rfl dX3_clear_23 (fun H locs hP hD hS => ?_)
  refine lv_aload_n hx hb dX3_clear_24 rfl (lv_at hl 0 rfl) ?_
  refine va_get (D := D) (ci := 3) (v := .ref a_t_heats) (C := RX3) (T := TX3) (N := 8) hx hb hts iw3 hown hK hP 0 rfl rfl 4 (by decide) hf21 (fun _ h9 => h9) rfl dX3_clear_25 ?_
  refine lv_iconst (v := 0) hx hb dX3_clear_28 (by decide) ?_
  refine lv_iconst (v := 0) hx hb dX3_clear_29 (by decide) ?_
  obtain ⟨t_heats_30_3, et_heats_30_3⟩ : ∃ y : Nat → Int32, y = upd t_heats_ 0 0 := ⟨_, rfl⟩
  have hF := ltE et_heats_30_3 hF
  refine my_iast (g := t_heats_30_3) (wn := [(a_t, .inr (3, [v_t_rows, v_t_entries, .ref a_t_bounds, .ref a_t_starts, .ref a_t_heats, .ref a_t_sorted, .int 0, .int 1])), (a_t_bounds, .inl (t 0, 62, .inl t_bounds_16_1)), (a_t_heats, .inl (t 0, 62, .inl t_heats_30_3)), (a_t_sorted, .inl (t 0, 62, .inl t_sorted_)), (a_t_starts, .inl (t 0, 62, .inl t_starts_23_2))]) hx hb hK hP hD hS 2 0 rfl rfl (vp_lit (by decide +kernel)) et_heats_30_3 rfl dX3_clear_30 (fun H locs hP hD hS => ?_)
  refine lv_aload_n hx hb dX3_clear_31 rfl (lv_at hl 0 rfl) ?_
  refine va_get (D := D) (ci := 3) (v := .ref a_t_sorted) (C := RX3) (T := TX3) (N := 8) hx hb hts iw3 hown hK hP 0 rfl rfl 5 (by decide) hf24 (fun _ h9 => h9) rfl dX3_clear_32 ?_
  refine lv_iconst (v := 0) hx hb dX3_clear_35 (by decide) ?_
  refine lv_iconst (v := 0) hx hb dX3_clear_36 (by decide) ?_
  obtain ⟨t_sorted_37_4, et_sorted_37_4⟩ : ∃ y : Nat → Int32, y = upd t_sorted_ 0 0 := ⟨_, rfl⟩
  have hF := ltE et_sorted_37_4 hF
  refine my_iast (g := t_sorted_37_4) (wn := [(a_t, .inr (3, [v_t_rows, v_t_entries, .ref a_t_bounds, .ref a_t_starts, .ref a_t_heats, .ref a_t_sorted, .int 0, .int 1])), (a_t_bounds, .inl (t 0, 62, .inl t_bounds_16_1)), (a_t_heats, .inl (t 0, 62, .inl t_heats_30_3)), (a_t_sorted, .inl (t 0, 62, .inl t_sorted_37_4)), (a_t_starts, .inl (t 0, 62, .inl t_starts_23_2))]) hx hb hK hP hD hS 3 0 rfl rfl (vp_lit (by decide +kernel)) et_sorted_37_4 rfl dX3_clear_37 (fun H locs hP hD hS => ?_)
  cases hF
  exact we_vret hx hb hr hlocks dX3_clear_38 rfl hQ hP hD hS
abbrev rm_X3_has : Room := { frames := 0, cells := 0, slots := 0, locals := 0 }
theorem hd_X3_has : yX3_has.cls = RX3 ∧ yX3_has.cls ≠ "java/lang/invoke/MethodHandle" ∧ yX3_has.cls ≠ "java/lang/invoke/VarHandle" ∧ (parseMethodDescriptor yX3_has.desc).map (fun d => d.parameters.length) = some 1 := by decide +kernel
set_option maxRecDepth 100000 in
set_option maxHeartbeats 4000000 in
theorem c_X3_has (l : Launch) (D : va_G) (t : Nat → ClassId) (z : Nat) (x : Nat → Nat) (a_t : Nat) (v_t_rows : Value) (v_t_entries : Value) (v_t_bounds : Value) (v_t_starts : Value) (v_t_heats : Value) (v_t_sorted : Value) (t_size : Int32) (t_pieces : Int32) (p1 : Int32) (H : Heap) (r : Int32) (hF : f_X3_has t_pieces p1 = some (r)) : RdM l D (TY t) z x yX3_has wsX3_has rm_X3_has [.ref a_t, .int p1] [(a_t, .inr (3, [v_t_rows, v_t_entries, v_t_bounds, v_t_starts, v_t_heats, v_t_sorted, .int t_size, .int t_pieces]))] H (some (.int r)) := by
  refine rd_of (cc := cX3_has) (maxL := 2) (ret := (some .boolean)) (by decide) rfl (Nat.le_of_ble_eq_true rfl) ?_
  intro p e s m args below meth c Q hQ hx hb hr hml hts hown hlocks hH hP hC ls hl
  have hown : s.vm.findClass RX3 = some m.cls := hown
  have hl : lv_has ls 2 [(0, .ref a_t), (1, .int p1)] := hl
  have hK := hC.1
  have iw3 : ∀ w ∈ wsX30, w ∈ wsX3_has := fun _ h => List.mem_cons_of_mem _ (List.mem_append_right _ h)
  have hf31 := hts (.fieldLink RX3 31 "CrackedColumn$Index" "pieces" "I") (by decide +kernel)
  unfold f_X3_has at hF
  refine lv_iload_n hx hb dX3_has_0 rfl (lv_at hl 1 rfl) ?_
  refine lv_if_lt (tgt := 22) hx hb dX3_has_1 (by decide) (fun c1 => ?_) (fun c1 => ?_)
  · have hF := brT c1 hF
    refine lv_iconst (v := 0) hx hb dX3_has_22 (by decide) ?_
    cases hF
    exact rd_zret hx hb hr hlocks dX3_has_23 rfl rfl hQ
  · have hF := brF c1 hF
    refine lv_iload_n hx hb dX3_has_4 rfl (lv_at hl 1 rfl) ?_
    refine lv_aload_n hx hb dX3_has_5 rfl (lv_at hl 0 rfl) ?_
    refine va_get (D := D) (ci := 3) (v := .int t_pieces) (C := RX3) (T := TX3) (N := 8) hx hb hts iw3 hown hK hP 0 rfl rfl 7 (by decide) hf31 (fun _ h9 => h9) rfl dX3_has_6 ?_
    refine lv_icmp_ge (tgt := 22) hx hb dX3_has_9 (by decide) (fun c9 => ?_) (fun c9 => ?_)
    · have hF := brT c9 hF
      refine lv_iconst (v := 0) hx hb dX3_has_22 (by decide) ?_
      cases hF
      exact rd_zret hx hb hr hlocks dX3_has_23 rfl rfl hQ
    · have hF := brF c9 hF
      refine lv_iload_n hx hb dX3_has_12 rfl (lv_at hl 1 rfl) ?_
      refine lv_bipush (v := 62) hx hb dX3_has_13 (by decide) ?_
      refine lv_icmp_ge (tgt := 22) hx hb dX3_has_15 (by decide) (fun c15 => ?_) (fun c15 => ?_)
      · have hF := brT c15 hF
        refine lv_iconst (v := 0) hx hb dX3_has_22 (by decide) ?_
        cases hF
        exact rd_zret hx hb hr hlocks dX3_has_23 rfl rfl hQ
      · have hF := brF c15 hF
        refine lv_iconst (v := 1) hx hb dX3_has_18 (by decide) ?_
        refine lv_goto (tgt := 23) hx hb dX3_has_19 (by decide) ?_
        cases hF
        exact rd_zret hx hb hr hlocks dX3_has_23 rfl rfl hQ
abbrev rm_X3_boundOf : Room := { frames := 1, cells := 0, slots := 0, locals := 21 }
theorem hd_X3_boundOf : yX3_boundOf.cls = RX3 ∧ yX3_boundOf.cls ≠ "java/lang/invoke/MethodHandle" ∧ yX3_boundOf.cls ≠ "java/lang/invoke/VarHandle" ∧ (parseMethodDescriptor yX3_boundOf.desc).map (fun d => d.parameters.length) = some 1 := by decide +kernel
set_option maxRecDepth 100000 in
set_option maxHeartbeats 4000000 in
theorem c_X3_boundOf (l : Launch) (D : va_G) (t : Nat → ClassId) (z : Nat) (x : Nat → Nat) (a_t : Nat) (a_t_bounds : Nat) (v_t_rows : Value) (v_t_entries : Value) (v_t_starts : Value) (v_t_heats : Value) (v_t_sorted : Value) (t_size : Int32) (t_pieces : Int32) (t_bounds_ : (Nat → Int32)) (p1 : Int32) (H : Heap) (r : Int32) (hF : f_X3_boundOf t_pieces t_bounds_ p1 = some (r)) : RdM l D (TY t) z x yX3_boundOf wsX3_boundOf rm_X3_boundOf [.ref a_t, .int p1] [(a_t, .inr (3, [v_t_rows, v_t_entries, .ref a_t_bounds, v_t_starts, v_t_heats, v_t_sorted, .int t_size, .int t_pieces])), (a_t_bounds, .inl (t 0, 62, .inl t_bounds_))] H (some (.int r)) := by
  refine rd_of (cc := cX3_boundOf) (maxL := 2) (ret := (some .int)) (by decide) rfl (Nat.le_of_ble_eq_true rfl) ?_
  intro p e s m args below meth c Q hQ hx hb hr hml hts hown hlocks hH hP hC ls hl
  have hown : s.vm.findClass RX3 = some m.cls := hown
  have hl : lv_has ls 2 [(0, .ref a_t), (1, .int p1)] := hl
  have hK := hC.1
  have iw3 : ∀ w ∈ wsX30, w ∈ wsX3_boundOf := fun _ h => List.mem_cons_of_mem _ (List.mem_append_right _ h)
  have hf15 := hts (.fieldLink RX3 15 "CrackedColumn$Index" "bounds" "[I") (by decide +kernel)
  unfold f_X3_boundOf at hF
  refine lv_aload_n hx hb dX3_boundOf_0 rfl (lv_at hl 0 rfl) ?_
  refine lv_iload_n hx hb dX3_boundOf_1 rfl (lv_at hl 1 rfl) ?_
  obtain ⟨r2_1, h2_1, hF⟩ := bndE hF
  refine rdV (As := [.int p1]) (rest := []) (C := RX3) ⟨hx, hb, hml, hown, hts⟩ (c_X3_has l D t z x a_t v_t_rows v_t_entries (.ref a_t_bounds) v_t_starts v_t_heats v_t_sorted t_size t_pieces p1 H r2_1 h2_1) (cwV 1 hts gX3_boundOf_X3_has rfl rfl rfl hd_X3_has ⟨Nat.le_of_ble_eq_true rfl, Nat.le_of_ble_eq_true rfl⟩) hC (selP (m9 := [true, false]) rfl rfl hP) 0 rfl (show vwCl[3]? = some (RX3, TX3, 8) from rfl) rfl rfl hl.1 rfl (Nat.le_of_ble_eq_true rfl) dX3_boundOf_2 ⟨Nat.zero_le _, Nat.zero_le _⟩ rfl ?_
  refine lv_if_eq (tgt := 17) hx hb dX3_boundOf_5 (by decide) (fun c5 => ?_) (fun c5 => ?_)
  · have hF := brT c5 hF
    refine lv_sipush (v := 10000) hx hb dX3_boundOf_17 (by decide) ?_
    cases hF
    exact rd_iret hx hb hr hlocks dX3_boundOf_20 rfl hQ
  · have hF := brF c5 hF
    refine lv_aload_n hx hb dX3_boundOf_8 rfl (lv_at hl 0 rfl) ?_
    refine va_get (D := D) (ci := 3) (v := .ref a_t_bounds) (C := RX3) (T := TX3) (N := 8) hx hb hts iw3 hown hK hP 0 rfl rfl 2 (by decide) hf15 (fun _ h9 => h9) rfl dX3_boundOf_9 ?_
    refine lv_iload_n hx hb dX3_boundOf_12 rfl (lv_at hl 1 rfl) ?_
    obtain ⟨g13_2, hF⟩ := gd hF
    refine my_iald (v := t_bounds_ p1.toNatClampNeg) hx hb hK hP 1 0 rfl rfl g13_2 rfl dX3_boundOf_13 ?_
    refine lv_goto (tgt := 20) hx hb dX3_boundOf_14 (by decide) ?_
    cases hF
    exact rd_iret hx hb hr hlocks dX3_boundOf_20 rfl hQ
abbrev rm_X3_startOf : Room := { frames := 1, cells := 0, slots := 0, locals := 21 }
theorem hd_X3_startOf : yX3_startOf.cls = RX3 ∧ yX3_startOf.cls ≠ "java/lang/invoke/MethodHandle" ∧ yX3_startOf.cls ≠ "java/lang/invoke/VarHandle" ∧ (parseMethodDescriptor yX3_startOf.desc).map (fun d => d.parameters.length) = some 1 := by decide +kernel
set_option maxRecDepth 100000 in
set_option maxHeartbeats 4000000 in
theorem c_X3_startOf (l : Launch) (D : va_G) (t : Nat → ClassId) (z : Nat) (x : Nat → Nat) (a_t : Nat) (a_t_starts : Nat) (v_t_rows : Value) (v_t_entries : Value) (v_t_bounds : Value) (v_t_heats : Value) (v_t_sorted : Value) (t_size : Int32) (t_pieces : Int32) (t_starts_ : (Nat → Int32)) (p1 : Int32) (H : Heap) (r : Int32) (hF : f_X3_startOf t_size t_pieces t_starts_ p1 = some (r)) : RdM l D (TY t) z x yX3_startOf wsX3_startOf rm_X3_startOf [.ref a_t, .int p1] [(a_t, .inr (3, [v_t_rows, v_t_entries, v_t_bounds, .ref a_t_starts, v_t_heats, v_t_sorted, .int t_size, .int t_pieces])), (a_t_starts, .inl (t 0, 62, .inl t_starts_))] H (some (.int r)) := by
  refine rd_of (cc := cX3_startOf) (maxL := 2) (ret := (some .int)) (by decide) rfl (Nat.le_of_ble_eq_true rfl) ?_
  intro p e s m args below meth c Q hQ hx hb hr hml hts hown hlocks hH hP hC ls hl
  have hown : s.vm.findClass RX3 = some m.cls := hown
  have hl : lv_has ls 2 [(0, .ref a_t), (1, .int p1)] := hl
  have hK := hC.1
  have iw3 : ∀ w ∈ wsX30, w ∈ wsX3_startOf := fun _ h => List.mem_cons_of_mem _ (List.mem_append_right _ h)
  have hf18 := hts (.fieldLink RX3 18 "CrackedColumn$Index" "starts" "[I") (by decide +kernel)
  have hf27 := hts (.fieldLink RX3 27 "CrackedColumn$Index" "size" "I") (by decide +kernel)
  unfold f_X3_startOf at hF
  refine lv_aload_n hx hb dX3_startOf_0 rfl (lv_at hl 0 rfl) ?_
  refine lv_iload_n hx hb dX3_startOf_1 rfl (lv_at hl 1 rfl) ?_
  obtain ⟨r2_1, h2_1, hF⟩ := bndE hF
  refine rdV (As := [.int p1]) (rest := []) (C := RX3) ⟨hx, hb, hml, hown, hts⟩ (c_X3_has l D t z x a_t v_t_rows v_t_entries v_t_bounds (.ref a_t_starts) v_t_heats v_t_sorted t_size t_pieces p1 H r2_1 h2_1) (cwV 1 hts gX3_startOf_X3_has rfl rfl rfl hd_X3_has ⟨Nat.le_of_ble_eq_true rfl, Nat.le_of_ble_eq_true rfl⟩) hC (selP (m9 := [true, false]) rfl rfl hP) 0 rfl (show vwCl[3]? = some (RX3, TX3, 8) from rfl) rfl rfl hl.1 rfl (Nat.le_of_ble_eq_true rfl) dX3_startOf_2 ⟨Nat.zero_le _, Nat.zero_le _⟩ rfl ?_
  refine lv_if_eq (tgt := 17) hx hb dX3_startOf_5 (by decide) (fun c5 => ?_) (fun c5 => ?_)
  · have hF := brT c5 hF
    refine lv_aload_n hx hb dX3_startOf_17 rfl (lv_at hl 0 rfl) ?_
    refine va_get (D := D) (ci := 3) (v := .int t_size) (C := RX3) (T := TX3) (N := 8) hx hb hts iw3 hown hK hP 0 rfl rfl 6 (by decide) hf27 (fun _ h9 => h9) rfl dX3_startOf_18 ?_
    cases hF
    exact rd_iret hx hb hr hlocks dX3_startOf_21 rfl hQ
  · have hF := brF c5 hF
    refine lv_aload_n hx hb dX3_startOf_8 rfl (lv_at hl 0 rfl) ?_
    refine va_get (D := D) (ci := 3) (v := .ref a_t_starts) (C := RX3) (T := TX3) (N := 8) hx hb hts iw3 hown hK hP 0 rfl rfl 3 (by decide) hf18 (fun _ h9 => h9) rfl dX3_startOf_9 ?_
    refine lv_iload_n hx hb dX3_startOf_12 rfl (lv_at hl 1 rfl) ?_
    obtain ⟨g13_2, hF⟩ := gd hF
    refine my_iald (v := t_starts_ p1.toNatClampNeg) hx hb hK hP 1 0 rfl rfl g13_2 rfl dX3_startOf_13 ?_
    refine lv_goto (tgt := 21) hx hb dX3_startOf_14 (by decide) ?_
    cases hF
    exact rd_iret hx hb hr hlocks dX3_startOf_21 rfl hQ
abbrev rm_X3_sizeOf : Room := { frames := 2, cells := 0, slots := 0, locals := 42 }
theorem hd_X3_sizeOf : yX3_sizeOf.cls = RX3 ∧ yX3_sizeOf.cls ≠ "java/lang/invoke/MethodHandle" ∧ yX3_sizeOf.cls ≠ "java/lang/invoke/VarHandle" ∧ (parseMethodDescriptor yX3_sizeOf.desc).map (fun d => d.parameters.length) = some 1 := by decide +kernel
set_option maxRecDepth 100000 in
set_option maxHeartbeats 4000000 in
theorem c_X3_sizeOf (l : Launch) (D : va_G) (t : Nat → ClassId) (z : Nat) (x : Nat → Nat) (a_t : Nat) (a_t_starts : Nat) (v_t_rows : Value) (v_t_entries : Value) (v_t_bounds : Value) (v_t_heats : Value) (v_t_sorted : Value) (t_size : Int32) (t_pieces : Int32) (t_starts_ : (Nat → Int32)) (p1 : Int32) (H : Heap) (r : Int32) (hF : f_X3_sizeOf t_size t_pieces t_starts_ p1 = some (r)) : RdM l D (TY t) z x yX3_sizeOf wsX3_sizeOf rm_X3_sizeOf [.ref a_t, .int p1] [(a_t, .inr (3, [v_t_rows, v_t_entries, v_t_bounds, .ref a_t_starts, v_t_heats, v_t_sorted, .int t_size, .int t_pieces])), (a_t_starts, .inl (t 0, 62, .inl t_starts_))] H (some (.int r)) := by
  refine rd_of (cc := cX3_sizeOf) (maxL := 2) (ret := (some .int)) (by decide) rfl (Nat.le_of_ble_eq_true rfl) ?_
  intro p e s m args below meth c Q hQ hx hb hr hml hts hown hlocks hH hP hC ls hl
  have hown : s.vm.findClass RX3 = some m.cls := hown
  have hl : lv_has ls 2 [(0, .ref a_t), (1, .int p1)] := hl
  have hK := hC.1
  unfold f_X3_sizeOf at hF
  refine lv_aload_n hx hb dX3_sizeOf_0 rfl (lv_at hl 0 rfl) ?_
  refine lv_iload_n hx hb dX3_sizeOf_1 rfl (lv_at hl 1 rfl) ?_
  refine lv_iconst (v := 1) hx hb dX3_sizeOf_2 (by decide) ?_
  refine lv_iadd hx hb dX3_sizeOf_3 ?_
  obtain ⟨r4_1, h4_1, hF⟩ := bndE hF
  refine rdV (As := [.int (p1 + 1)]) (rest := []) (C := RX3) ⟨hx, hb, hml, hown, hts⟩ (c_X3_startOf l D t z x a_t a_t_starts v_t_rows v_t_entries v_t_bounds v_t_heats v_t_sorted t_size t_pieces t_starts_ (p1 + 1) H r4_1 h4_1) (cwV 1 hts gX3_sizeOf_X3_startOf rfl rfl rfl hd_X3_startOf ⟨Nat.le_of_ble_eq_true rfl, Nat.le_of_ble_eq_true rfl⟩) hC (selP (m9 := [true, true]) rfl rfl hP) 0 rfl (show vwCl[3]? = some (RX3, TX3, 8) from rfl) rfl rfl hl.1 rfl (Nat.le_of_ble_eq_true rfl) dX3_sizeOf_4 ⟨Nat.zero_le _, Nat.zero_le _⟩ rfl ?_
  refine lv_aload_n hx hb dX3_sizeOf_7 rfl (lv_at hl 0 rfl) ?_
  refine lv_iload_n hx hb dX3_sizeOf_8 rfl (lv_at hl 1 rfl) ?_
  obtain ⟨r9_3, h9_3, hF⟩ := bndE hF
  refine rdV (As := [.int p1]) (rest := [.int r4_1]) (C := RX3) ⟨hx, hb, hml, hown, hts⟩ (c_X3_startOf l D t z x a_t a_t_starts v_t_rows v_t_entries v_t_bounds v_t_heats v_t_sorted t_size t_pieces t_starts_ p1 H r9_3 h9_3) (cwV 1 hts gX3_sizeOf_X3_startOf rfl rfl rfl hd_X3_startOf ⟨Nat.le_of_ble_eq_true rfl, Nat.le_of_ble_eq_true rfl⟩) hC (selP (m9 := [true, true]) rfl rfl hP) 0 rfl (show vwCl[3]? = some (RX3, TX3, 8) from rfl) rfl rfl hl.1 rfl (Nat.le_of_ble_eq_true rfl) dX3_sizeOf_9 ⟨Nat.zero_le _, Nat.zero_le _⟩ rfl ?_
  refine lv_isub hx hb dX3_sizeOf_12 ?_
  cases hF
  exact rd_iret hx hb hr hlocks dX3_sizeOf_13 rfl hQ
abbrev rm_X3_heatOf : Room := { frames := 1, cells := 0, slots := 0, locals := 21 }
theorem hd_X3_heatOf : yX3_heatOf.cls = RX3 ∧ yX3_heatOf.cls ≠ "java/lang/invoke/MethodHandle" ∧ yX3_heatOf.cls ≠ "java/lang/invoke/VarHandle" ∧ (parseMethodDescriptor yX3_heatOf.desc).map (fun d => d.parameters.length) = some 1 := by decide +kernel
set_option maxRecDepth 100000 in
set_option maxHeartbeats 4000000 in
theorem c_X3_heatOf (l : Launch) (D : va_G) (t : Nat → ClassId) (z : Nat) (x : Nat → Nat) (a_t : Nat) (a_t_heats : Nat) (v_t_rows : Value) (v_t_entries : Value) (v_t_bounds : Value) (v_t_starts : Value) (v_t_sorted : Value) (t_size : Int32) (t_pieces : Int32) (t_heats_ : (Nat → Int32)) (p1 : Int32) (H : Heap) (r : Int32) (hF : f_X3_heatOf t_pieces t_heats_ p1 = some (r)) : RdM l D (TY t) z x yX3_heatOf wsX3_heatOf rm_X3_heatOf [.ref a_t, .int p1] [(a_t, .inr (3, [v_t_rows, v_t_entries, v_t_bounds, v_t_starts, .ref a_t_heats, v_t_sorted, .int t_size, .int t_pieces])), (a_t_heats, .inl (t 0, 62, .inl t_heats_))] H (some (.int r)) := by
  refine rd_of (cc := cX3_heatOf) (maxL := 2) (ret := (some .int)) (by decide) rfl (Nat.le_of_ble_eq_true rfl) ?_
  intro p e s m args below meth c Q hQ hx hb hr hml hts hown hlocks hH hP hC ls hl
  have hown : s.vm.findClass RX3 = some m.cls := hown
  have hl : lv_has ls 2 [(0, .ref a_t), (1, .int p1)] := hl
  have hK := hC.1
  have iw3 : ∀ w ∈ wsX30, w ∈ wsX3_heatOf := fun _ h => List.mem_cons_of_mem _ (List.mem_append_right _ h)
  have hf21 := hts (.fieldLink RX3 21 "CrackedColumn$Index" "heats" "[I") (by decide +kernel)
  unfold f_X3_heatOf at hF
  refine lv_aload_n hx hb dX3_heatOf_0 rfl (lv_at hl 0 rfl) ?_
  refine lv_iload_n hx hb dX3_heatOf_1 rfl (lv_at hl 1 rfl) ?_
  obtain ⟨r2_1, h2_1, hF⟩ := bndE hF
  refine rdV (As := [.int p1]) (rest := []) (C := RX3) ⟨hx, hb, hml, hown, hts⟩ (c_X3_has l D t z x a_t v_t_rows v_t_entries v_t_bounds v_t_starts (.ref a_t_heats) v_t_sorted t_size t_pieces p1 H r2_1 h2_1) (cwV 1 hts gX3_heatOf_X3_has rfl rfl rfl hd_X3_has ⟨Nat.le_of_ble_eq_true rfl, Nat.le_of_ble_eq_true rfl⟩) hC (selP (m9 := [true, false]) rfl rfl hP) 0 rfl (show vwCl[3]? = some (RX3, TX3, 8) from rfl) rfl rfl hl.1 rfl (Nat.le_of_ble_eq_true rfl) dX3_heatOf_2 ⟨Nat.zero_le _, Nat.zero_le _⟩ rfl ?_
  refine lv_if_eq (tgt := 17) hx hb dX3_heatOf_5 (by decide) (fun c5 => ?_) (fun c5 => ?_)
  · have hF := brT c5 hF
    refine lv_iconst (v := 0) hx hb dX3_heatOf_17 (by decide) ?_
    cases hF
    exact rd_iret hx hb hr hlocks dX3_heatOf_18 rfl hQ
  · have hF := brF c5 hF
    refine lv_aload_n hx hb dX3_heatOf_8 rfl (lv_at hl 0 rfl) ?_
    refine va_get (D := D) (ci := 3) (v := .ref a_t_heats) (C := RX3) (T := TX3) (N := 8) hx hb hts iw3 hown hK hP 0 rfl rfl 4 (by decide) hf21 (fun _ h9 => h9) rfl dX3_heatOf_9 ?_
    refine lv_iload_n hx hb dX3_heatOf_12 rfl (lv_at hl 1 rfl) ?_
    obtain ⟨g13_2, hF⟩ := gd hF
    refine my_iald (v := t_heats_ p1.toNatClampNeg) hx hb hK hP 1 0 rfl rfl g13_2 rfl dX3_heatOf_13 ?_
    refine lv_goto (tgt := 18) hx hb dX3_heatOf_14 (by decide) ?_
    cases hF
    exact rd_iret hx hb hr hlocks dX3_heatOf_18 rfl hQ
abbrev rm_X3_isSorted : Room := { frames := 1, cells := 0, slots := 0, locals := 21 }
theorem hd_X3_isSorted : yX3_isSorted.cls = RX3 ∧ yX3_isSorted.cls ≠ "java/lang/invoke/MethodHandle" ∧ yX3_isSorted.cls ≠ "java/lang/invoke/VarHandle" ∧ (parseMethodDescriptor yX3_isSorted.desc).map (fun d => d.parameters.length) = some 1 := by decide +kernel
set_option maxRecDepth 100000 in
set_option maxHeartbeats 4000000 in
theorem c_X3_isSorted (l : Launch) (D : va_G) (t : Nat → ClassId) (z : Nat) (x : Nat → Nat) (a_t : Nat) (a_t_sorted : Nat) (v_t_rows : Value) (v_t_entries : Value) (v_t_bounds : Value) (v_t_starts : Value) (v_t_heats : Value) (t_size : Int32) (t_pieces : Int32) (t_sorted_ : (Nat → Int32)) (p1 : Int32) (H : Heap) (r : Int32) (hF : f_X3_isSorted t_pieces t_sorted_ p1 = some (r)) : RdM l D (TY t) z x yX3_isSorted wsX3_isSorted rm_X3_isSorted [.ref a_t, .int p1] [(a_t, .inr (3, [v_t_rows, v_t_entries, v_t_bounds, v_t_starts, v_t_heats, .ref a_t_sorted, .int t_size, .int t_pieces])), (a_t_sorted, .inl (t 0, 62, .inl t_sorted_))] H (some (.int r)) := by
  refine rd_of (cc := cX3_isSorted) (maxL := 2) (ret := (some .boolean)) (by decide) rfl (Nat.le_of_ble_eq_true rfl) ?_
  intro p e s m args below meth c Q hQ hx hb hr hml hts hown hlocks hH hP hC ls hl
  have hown : s.vm.findClass RX3 = some m.cls := hown
  have hl : lv_has ls 2 [(0, .ref a_t), (1, .int p1)] := hl
  have hK := hC.1
  have iw3 : ∀ w ∈ wsX30, w ∈ wsX3_isSorted := fun _ h => List.mem_cons_of_mem _ (List.mem_append_right _ h)
  have hf24 := hts (.fieldLink RX3 24 "CrackedColumn$Index" "sorted" "[I") (by decide +kernel)
  unfold f_X3_isSorted at hF
  refine lv_aload_n hx hb dX3_isSorted_0 rfl (lv_at hl 0 rfl) ?_
  refine lv_iload_n hx hb dX3_isSorted_1 rfl (lv_at hl 1 rfl) ?_
  obtain ⟨r2_1, h2_1, hF⟩ := bndE hF
  refine rdV (As := [.int p1]) (rest := []) (C := RX3) ⟨hx, hb, hml, hown, hts⟩ (c_X3_has l D t z x a_t v_t_rows v_t_entries v_t_bounds v_t_starts v_t_heats (.ref a_t_sorted) t_size t_pieces p1 H r2_1 h2_1) (cwV 1 hts gX3_isSorted_X3_has rfl rfl rfl hd_X3_has ⟨Nat.le_of_ble_eq_true rfl, Nat.le_of_ble_eq_true rfl⟩) hC (selP (m9 := [true, false]) rfl rfl hP) 0 rfl (show vwCl[3]? = some (RX3, TX3, 8) from rfl) rfl rfl hl.1 rfl (Nat.le_of_ble_eq_true rfl) dX3_isSorted_2 ⟨Nat.zero_le _, Nat.zero_le _⟩ rfl ?_
  refine lv_if_eq (tgt := 22) hx hb dX3_isSorted_5 (by decide) (fun c5 => ?_) (fun c5 => ?_)
  · have hF := brT c5 hF
    refine lv_iconst (v := 0) hx hb dX3_isSorted_22 (by decide) ?_
    cases hF
    exact rd_zret hx hb hr hlocks dX3_isSorted_23 rfl rfl hQ
  · have hF := brF c5 hF
    refine lv_aload_n hx hb dX3_isSorted_8 rfl (lv_at hl 0 rfl) ?_
    refine va_get (D := D) (ci := 3) (v := .ref a_t_sorted) (C := RX3) (T := TX3) (N := 8) hx hb hts iw3 hown hK hP 0 rfl rfl 5 (by decide) hf24 (fun _ h9 => h9) rfl dX3_isSorted_9 ?_
    refine lv_iload_n hx hb dX3_isSorted_12 rfl (lv_at hl 1 rfl) ?_
    obtain ⟨g13_2, hF⟩ := gd hF
    refine my_iald (v := t_sorted_ p1.toNatClampNeg) hx hb hK hP 1 0 rfl rfl g13_2 rfl dX3_isSorted_13 ?_
    refine lv_iconst (v := 1) hx hb dX3_isSorted_14 (by decide) ?_
    refine lv_icmp_ne (tgt := 22) hx hb dX3_isSorted_15 (by decide) (fun c15 => ?_) (fun c15 => ?_)
    · have hF := brF c15 hF
      refine lv_iconst (v := 0) hx hb dX3_isSorted_22 (by decide) ?_
      cases hF
      exact rd_zret hx hb hr hlocks dX3_isSorted_23 rfl rfl hQ
    · have hF := brT c15 hF
      refine lv_iconst (v := 1) hx hb dX3_isSorted_18 (by decide) ?_
      refine lv_goto (tgt := 23) hx hb dX3_isSorted_19 (by decide) ?_
      cases hF
      exact rd_zret hx hb hr hlocks dX3_isSorted_23 rfl rfl hQ
abbrev rm_X3_sortedPieces : Room := { frames := 2, cells := 0, slots := 0, locals := 42 }
theorem hd_X3_sortedPieces : yX3_sortedPieces.cls = RX3 ∧ yX3_sortedPieces.cls ≠ "java/lang/invoke/MethodHandle" ∧ yX3_sortedPieces.cls ≠ "java/lang/invoke/VarHandle" ∧ (parseMethodDescriptor yX3_sortedPieces.desc).map (fun d => d.parameters.length) = some 0 := by decide +kernel
set_option maxRecDepth 100000 in
set_option maxHeartbeats 4000000 in
theorem c_X3_sortedPieces (l : Launch) (D : va_G) (t : Nat → ClassId) (z : Nat) (x : Nat → Nat) (N : Nat) (a_t : Nat) (a_t_sorted : Nat) (v_t_rows : Value) (v_t_entries : Value) (v_t_bounds : Value) (v_t_starts : Value) (v_t_heats : Value) (t_size : Int32) (t_pieces : Int32) (t_sorted_ : (Nat → Int32)) (H : Heap) (r : Int32) (hF : f_X3_sortedPieces N t_pieces t_sorted_ = some (r)) : RdM l D (TY t) z x yX3_sortedPieces wsX3_sortedPieces rm_X3_sortedPieces [.ref a_t] [(a_t, .inr (3, [v_t_rows, v_t_entries, v_t_bounds, v_t_starts, v_t_heats, .ref a_t_sorted, .int t_size, .int t_pieces])), (a_t_sorted, .inl (t 0, 62, .inl t_sorted_))] H (some (.int r)) := by
  refine rd_of (cc := cX3_sortedPieces) (maxL := 3) (ret := (some .int)) (by decide) rfl (Nat.le_of_ble_eq_true rfl) ?_
  intro p e s m args below meth c Q hQ hx hb hr hml hts hown hlocks hH hP hC ls hl
  have hown : s.vm.findClass RX3 = some m.cls := hown
  have hl : lv_has ls 3 [(0, .ref a_t)] := hl
  have hK := hC.1
  have iw3 : ∀ w ∈ wsX30, w ∈ wsX3_sortedPieces := fun _ h => List.mem_cons_of_mem _ (List.mem_append_right _ h)
  have hf31 := hts (.fieldLink RX3 31 "CrackedColumn$Index" "pieces" "I") (by decide +kernel)
  unfold f_X3_sortedPieces at hF
  refine lv_iconst (v := 0) hx hb dX3_sortedPieces_0 (by decide) ?_
  refine lv_istore_n (lv' := [(1, .int 0), (0, .ref a_t)]) hx hb dX3_sortedPieces_1 rfl hl (by decide) rfl (fun ls hl => ?_)
  refine lv_iconst (v := 0) hx hb dX3_sortedPieces_2 (by decide) ?_
  refine lv_istore_n (lv' := [(2, .int 0), (1, .int 0), (0, .ref a_t)]) hx hb dX3_sortedPieces_3 rfl hl (by decide) rfl (fun ls hl => ?_)
  obtain ⟨k34_2, ek34_2, hF⟩ := jnE hF
  have hk34_2 : ∀ (x1_34_1 : Int32) (ls : Array Slot), lv_has ls 3 [(1, .int x1_34_1)] → k34_2 x1_34_1 = some (r) → W p l e rm_X3_sortedPieces s m args below meth c H [] 0 0 Q (F0 m 34 ls []) := by
    subst ek34_2
    intro x1_34_1 ls hl hF
    refine lv_iload_n hx hb dX3_sortedPieces_34 rfl (lv_at hl 0 rfl) ?_
    cases hF
    exact rd_iret hx hb hr hlocks dX3_sortedPieces_35 rfl hQ
  have hlp4 : ∀ n4 : Nat, ∀ (x1_4_3 : Int32) (x2_4_4 : Int32) (ls : Array Slot), lv_has ls 3 [(0, .ref a_t), (1, .int x1_4_3), (2, .int x2_4_4)] → f_X3_sortedPieces_4 t_pieces t_sorted_ k34_2 n4 x1_4_3 x2_4_4 = some (r) → W p l e rm_X3_sortedPieces s m args below meth c H [] 0 0 Q (F0 m 4 ls []) := by
    intro n4
    induction n4 with
    | zero =>
      intro x1_4_3 x2_4_4 ls hl hF
      cases (show none = some (r) from hF)
    | succ n4 ih4 =>
      intro x1_4_3 x2_4_4 ls hl hF
      rw [f_X3_sortedPieces_4] at hF
      refine lv_iload_n hx hb dX3_sortedPieces_4 rfl (lv_at hl 2 rfl) ?_
      refine lv_aload_n hx hb dX3_sortedPieces_5 rfl (lv_at hl 0 rfl) ?_
      refine va_get (D := D) (ci := 3) (v := .int t_pieces) (C := RX3) (T := TX3) (N := 8) hx hb hts iw3 hown hK hP 0 rfl rfl 7 (by decide) hf31 (fun _ h9 => h9) rfl dX3_sortedPieces_6 ?_
      refine lv_icmp_ge (tgt := 34) hx hb dX3_sortedPieces_9 (by decide) (fun c9 => ?_) (fun c9 => ?_)
      · have hF := brT c9 hF
        exact hk34_2 x1_4_3 ls (lv_sub hl [1] rfl) hF
      · have hF := brF c9 hF
        refine lv_iload_n hx hb dX3_sortedPieces_12 rfl (lv_at hl 1 rfl) ?_
        refine lv_aload_n hx hb dX3_sortedPieces_13 rfl (lv_at hl 0 rfl) ?_
        refine lv_iload_n hx hb dX3_sortedPieces_14 rfl (lv_at hl 2 rfl) ?_
        obtain ⟨r15_5, h15_5, hF⟩ := bndE hF
        refine rdV (As := [.int x2_4_4]) (rest := [.int x1_4_3]) (C := RX3) ⟨hx, hb, hml, hown, hts⟩ (c_X3_isSorted l D t z x a_t a_t_sorted v_t_rows v_t_entries v_t_bounds v_t_starts v_t_heats t_size t_pieces t_sorted_ x2_4_4 H r15_5 h15_5) (cwV 1 hts gX3_sortedPieces_X3_isSorted rfl rfl rfl hd_X3_isSorted ⟨Nat.le_of_ble_eq_true rfl, Nat.le_of_ble_eq_true rfl⟩) hC (selP (m9 := [true, true]) rfl rfl hP) 0 rfl (show vwCl[3]? = some (RX3, TX3, 8) from rfl) rfl rfl hl.1 rfl (Nat.le_of_ble_eq_true rfl) dX3_sortedPieces_15 ⟨Nat.zero_le _, Nat.zero_le _⟩ rfl ?_
        refine lv_if_eq (tgt := 25) hx hb dX3_sortedPieces_18 (by decide) (fun c18 => ?_) (fun c18 => ?_)
        · have hF := brT c18 hF
          refine lv_iconst (v := 0) hx hb dX3_sortedPieces_25 (by decide) ?_
          refine lv_iadd hx hb dX3_sortedPieces_26 ?_
          refine lv_topi (fun y27_7 ey27_7 => ?_)
          have hF := ltE ey27_7 hF
          refine lv_istore_n (lv' := [(1, .int y27_7), (0, .ref a_t), (2, .int x2_4_4)]) hx hb dX3_sortedPieces_27 rfl hl (by decide) rfl (fun ls hl => ?_)
          obtain ⟨y28_8, ey28_8⟩ : ∃ y : Int32, y = x2_4_4 + 1 := ⟨_, rfl⟩
          have hF := ltE ey28_8 hF
          refine lv_iinc (v := y28_8) (lv' := [(2, .int y28_8), (1, .int y27_7), (0, .ref a_t)]) hx hb dX3_sortedPieces_28 hl (k := 2) rfl (by rw [ey28_8]; rfl) (by decide) rfl (fun ls hl => ?_)
          refine lv_goto (tgt := 4) hx hb dX3_sortedPieces_31 (by decide) ?_
          exact ih4 y27_7 y28_8 ls (lv_sub hl [2, 1, 0] rfl) hF
        · have hF := brF c18 hF
          refine lv_iconst (v := 1) hx hb dX3_sortedPieces_21 (by decide) ?_
          refine lv_goto (tgt := 26) hx hb dX3_sortedPieces_22 (by decide) ?_
          refine lv_iadd hx hb dX3_sortedPieces_26 ?_
          refine lv_topi (fun y27_9 ey27_9 => ?_)
          have hF := ltE ey27_9 hF
          refine lv_istore_n (lv' := [(1, .int y27_9), (0, .ref a_t), (2, .int x2_4_4)]) hx hb dX3_sortedPieces_27 rfl hl (by decide) rfl (fun ls hl => ?_)
          obtain ⟨y28_10, ey28_10⟩ : ∃ y : Int32, y = x2_4_4 + 1 := ⟨_, rfl⟩
          have hF := ltE ey28_10 hF
          refine lv_iinc (v := y28_10) (lv' := [(2, .int y28_10), (1, .int y27_9), (0, .ref a_t)]) hx hb dX3_sortedPieces_28 hl (k := 2) rfl (by rw [ey28_10]; rfl) (by decide) rfl (fun ls hl => ?_)
          refine lv_goto (tgt := 4) hx hb dX3_sortedPieces_31 (by decide) ?_
          exact ih4 y27_9 y28_10 ls (lv_sub hl [2, 1, 0] rfl) hF
  exact hlp4 N 0 0 ls (lv_sub hl [2, 1, 0] rfl) hF
abbrev rm_X3_rowAt : Room := { frames := 0, cells := 0, slots := 0, locals := 0 }
theorem hd_X3_rowAt : yX3_rowAt.cls = RX3 ∧ yX3_rowAt.cls ≠ "java/lang/invoke/MethodHandle" ∧ yX3_rowAt.cls ≠ "java/lang/invoke/VarHandle" ∧ (parseMethodDescriptor yX3_rowAt.desc).map (fun d => d.parameters.length) = some 1 := by decide +kernel
set_option maxRecDepth 100000 in
set_option maxHeartbeats 4000000 in
theorem c_X3_rowAt (l : Launch) (D : va_G) (t : Nat → ClassId) (z : Nat) (x : Nat → Nat) (a_t : Nat) (a_t_entries : Nat) (v_t_rows : Value) (v_t_bounds : Value) (v_t_starts : Value) (v_t_heats : Value) (v_t_sorted : Value) (t_size : Int32) (t_pieces : Int32) (t_entries_ : (Nat → Int32)) (p1 : Int32) (H : Heap) (r : Int32) (hF : f_X3_rowAt t_size t_entries_ p1 = some (r)) : RdM l D (TY t) z x yX3_rowAt wsX3_rowAt rm_X3_rowAt [.ref a_t, .int p1] [(a_t, .inr (3, [v_t_rows, .ref a_t_entries, v_t_bounds, v_t_starts, v_t_heats, v_t_sorted, .int t_size, .int t_pieces])), (a_t_entries, .inl (t 0, 120, .inl t_entries_))] H (some (.int r)) := by
  refine rd_of (cc := cX3_rowAt) (maxL := 2) (ret := (some .int)) (by decide) rfl (Nat.le_of_ble_eq_true rfl) ?_
  intro p e s m args below meth c Q hQ hx hb hr hml hts hown hlocks hH hP hC ls hl
  have hown : s.vm.findClass RX3 = some m.cls := hown
  have hl : lv_has ls 2 [(0, .ref a_t), (1, .int p1)] := hl
  have hK := hC.1
  have iw3 : ∀ w ∈ wsX30, w ∈ wsX3_rowAt := fun _ h => List.mem_cons_of_mem _ (List.mem_append_right _ h)
  have hf9 := hts (.fieldLink RX3 9 "CrackedColumn$Index" "entries" "[I") (by decide +kernel)
  have hf27 := hts (.fieldLink RX3 27 "CrackedColumn$Index" "size" "I") (by decide +kernel)
  unfold f_X3_rowAt at hF
  refine lv_iload_n hx hb dX3_rowAt_0 rfl (lv_at hl 1 rfl) ?_
  refine lv_if_lt (tgt := 27) hx hb dX3_rowAt_1 (by decide) (fun c1 => ?_) (fun c1 => ?_)
  · have hF := brT c1 hF
    refine lv_iconst (v := (-1)) hx hb dX3_rowAt_27 (by decide) ?_
    cases hF
    exact rd_iret hx hb hr hlocks dX3_rowAt_28 rfl hQ
  · have hF := brF c1 hF
    refine lv_iload_n hx hb dX3_rowAt_4 rfl (lv_at hl 1 rfl) ?_
    refine lv_aload_n hx hb dX3_rowAt_5 rfl (lv_at hl 0 rfl) ?_
    refine va_get (D := D) (ci := 3) (v := .int t_size) (C := RX3) (T := TX3) (N := 8) hx hb hts iw3 hown hK hP 0 rfl rfl 6 (by decide) hf27 (fun _ h9 => h9) rfl dX3_rowAt_6 ?_
    refine lv_icmp_ge (tgt := 27) hx hb dX3_rowAt_9 (by decide) (fun c9 => ?_) (fun c9 => ?_)
    · have hF := brT c9 hF
      refine lv_iconst (v := (-1)) hx hb dX3_rowAt_27 (by decide) ?_
      cases hF
      exact rd_iret hx hb hr hlocks dX3_rowAt_28 rfl hQ
    · have hF := brF c9 hF
      refine lv_iload_n hx hb dX3_rowAt_12 rfl (lv_at hl 1 rfl) ?_
      refine lv_bipush (v := 120) hx hb dX3_rowAt_13 (by decide) ?_
      refine lv_icmp_ge (tgt := 27) hx hb dX3_rowAt_15 (by decide) (fun c15 => ?_) (fun c15 => ?_)
      · have hF := brT c15 hF
        refine lv_iconst (v := (-1)) hx hb dX3_rowAt_27 (by decide) ?_
        cases hF
        exact rd_iret hx hb hr hlocks dX3_rowAt_28 rfl hQ
      · have hF := brF c15 hF
        refine lv_aload_n hx hb dX3_rowAt_18 rfl (lv_at hl 0 rfl) ?_
        refine va_get (D := D) (ci := 3) (v := .ref a_t_entries) (C := RX3) (T := TX3) (N := 8) hx hb hts iw3 hown hK hP 0 rfl rfl 1 (by decide) hf9 (fun _ h9 => h9) rfl dX3_rowAt_19 ?_
        refine lv_iload_n hx hb dX3_rowAt_22 rfl (lv_at hl 1 rfl) ?_
        obtain ⟨g23_0, hF⟩ := gd hF
        refine my_iald (v := t_entries_ p1.toNatClampNeg) hx hb hK hP 1 0 rfl rfl g23_0 rfl dX3_rowAt_23 ?_
        refine lv_goto (tgt := 28) hx hb dX3_rowAt_24 (by decide) ?_
        cases hF
        exact rd_iret hx hb hr hlocks dX3_rowAt_28 rfl hQ
abbrev rm_X3_keyAt : Room := { frames := 1, cells := 0, slots := 0, locals := 21 }
theorem hd_X3_keyAt : yX3_keyAt.cls = RX3 ∧ yX3_keyAt.cls ≠ "java/lang/invoke/MethodHandle" ∧ yX3_keyAt.cls ≠ "java/lang/invoke/VarHandle" ∧ (parseMethodDescriptor yX3_keyAt.desc).map (fun d => d.parameters.length) = some 1 := by decide +kernel
set_option maxRecDepth 100000 in
set_option maxHeartbeats 4000000 in
theorem c_X3_keyAt (l : Launch) (D : va_G) (t : Nat → ClassId) (z : Nat) (x : Nat → Nat) (a_t : Nat) (a_t_entries : Nat) (a_t_rows : Nat) (a_t_rows_keys : Nat) (v_t_bounds : Value) (v_t_starts : Value) (v_t_heats : Value) (v_t_sorted : Value) (v_t_rows_values : Value) (v_t_rows_states : Value) (t_size : Int32) (t_pieces : Int32) (t_entries_ : (Nat → Int32)) (t_rows_count : Int32) (t_rows_keys_ : (Nat → Int32)) (p1 : Int32) (H : Heap) (r : Int32) (hF : f_X3_keyAt t_size t_entries_ t_rows_keys_ p1 = some (r)) : RdM l D (TY t) z x yX3_keyAt wsX3_keyAt rm_X3_keyAt [.ref a_t, .int p1] [(a_t, .inr (3, [.ref a_t_rows, .ref a_t_entries, v_t_bounds, v_t_starts, v_t_heats, v_t_sorted, .int t_size, .int t_pieces])), (a_t_entries, .inl (t 0, 120, .inl t_entries_)), (a_t_rows, .inr (6, [.ref a_t_rows_keys, v_t_rows_values, v_t_rows_states, .int t_rows_count])), (a_t_rows_keys, .inl (t 0, 120, .inl t_rows_keys_))] H (some (.int r)) := by
  refine rd_of (cc := cX3_keyAt) (maxL := 2) (ret := (some .int)) (by decide) rfl (Nat.le_of_ble_eq_true rfl) ?_
  intro p e s m args below meth c Q hQ hx hb hr hml hts hown hlocks hH hP hC ls hl
  have hown : s.vm.findClass RX3 = some m.cls := hown
  have hl : lv_has ls 2 [(0, .ref a_t), (1, .int p1)] := hl
  have hK := hC.1
  have iw3 : ∀ w ∈ wsX30, w ∈ wsX3_keyAt := fun _ h => List.mem_cons_of_mem _ (List.mem_append_left _ (List.mem_append_right _ h))
  have hf34 := hts (.fieldLink RX3 34 "CrackedColumn$Index" "rows" "LCrackedColumn$Rows;") (by decide +kernel)
  unfold f_X3_keyAt at hF
  refine lv_aload_n hx hb dX3_keyAt_0 rfl (lv_at hl 0 rfl) ?_
  refine va_get (D := D) (ci := 3) (v := .ref a_t_rows) (C := RX3) (T := TX3) (N := 8) hx hb hts iw3 hown hK hP 0 rfl rfl 0 (by decide) hf34 (fun _ h9 => h9) rfl dX3_keyAt_1 ?_
  refine lv_aload_n hx hb dX3_keyAt_4 rfl (lv_at hl 0 rfl) ?_
  refine lv_iload_n hx hb dX3_keyAt_5 rfl (lv_at hl 1 rfl) ?_
  obtain ⟨r6_1, h6_1, hF⟩ := bndE hF
  refine rdV (As := [.int p1]) (rest := [.ref a_t_rows]) (C := RX3) ⟨hx, hb, hml, hown, hts⟩ (c_X3_rowAt l D t z x a_t a_t_entries (.ref a_t_rows) v_t_bounds v_t_starts v_t_heats v_t_sorted t_size t_pieces t_entries_ p1 H r6_1 h6_1) (cwV 1 hts gX3_keyAt_X3_rowAt rfl rfl rfl hd_X3_rowAt ⟨Nat.le_of_ble_eq_true rfl, Nat.le_of_ble_eq_true rfl⟩) hC (selP (m9 := [true, true, false, false]) rfl rfl hP) 0 rfl (show vwCl[3]? = some (RX3, TX3, 8) from rfl) rfl rfl hl.1 rfl (Nat.le_of_ble_eq_true rfl) dX3_keyAt_6 ⟨Nat.zero_le _, Nat.zero_le _⟩ rfl ?_
  obtain ⟨r9_3, h9_3, hF⟩ := bndE hF
  refine rdV (As := [.int r6_1]) (rest := []) (C := RX6) ⟨hx, hb, hml, hown, hts⟩ (c_X6_keyOf l D t z x a_t_rows a_t_rows_keys v_t_rows_values v_t_rows_states t_rows_count t_rows_keys_ r6_1 H r9_3 h9_3) (cwV 1 hts gX3_keyAt_X6_keyOf rfl rfl rfl hd_X6_keyOf ⟨Nat.le_of_ble_eq_true rfl, Nat.le_of_ble_eq_true rfl⟩) hC (selP (m9 := [false, false, true, true]) rfl rfl hP) 0 rfl (show vwCl[6]? = some (RX6, TX6, 4) from rfl) rfl rfl hl.1 rfl (Nat.le_of_ble_eq_true rfl) dX3_keyAt_9 ⟨Nat.zero_le _, Nat.zero_le _⟩ rfl ?_
  cases hF
  exact rd_iret hx hb hr hlocks dX3_keyAt_12 rfl hQ
abbrev rm_X3_placeOf : Room := { frames := 1, cells := 0, slots := 0, locals := 21 }
theorem hd_X3_placeOf : yX3_placeOf.cls = RX3 ∧ yX3_placeOf.cls ≠ "java/lang/invoke/MethodHandle" ∧ yX3_placeOf.cls ≠ "java/lang/invoke/VarHandle" ∧ (parseMethodDescriptor yX3_placeOf.desc).map (fun d => d.parameters.length) = some 1 := by decide +kernel
set_option maxRecDepth 100000 in
set_option maxHeartbeats 4000000 in
theorem c_X3_placeOf (l : Launch) (D : va_G) (t : Nat → ClassId) (z : Nat) (x : Nat → Nat) (N : Nat) (a_t : Nat) (a_t_entries : Nat) (v_t_rows : Value) (v_t_bounds : Value) (v_t_starts : Value) (v_t_heats : Value) (v_t_sorted : Value) (t_size : Int32) (t_pieces : Int32) (t_entries_ : (Nat → Int32)) (p1 : Int32) (H : Heap) (r : Int32) (hF : f_X3_placeOf N t_size t_entries_ p1 = some (r)) : RdM l D (TY t) z x yX3_placeOf wsX3_placeOf rm_X3_placeOf [.ref a_t, .int p1] [(a_t, .inr (3, [v_t_rows, .ref a_t_entries, v_t_bounds, v_t_starts, v_t_heats, v_t_sorted, .int t_size, .int t_pieces])), (a_t_entries, .inl (t 0, 120, .inl t_entries_))] H (some (.int r)) := by
  refine rd_of (cc := cX3_placeOf) (maxL := 3) (ret := (some .int)) (by decide) rfl (Nat.le_of_ble_eq_true rfl) ?_
  intro p e s m args below meth c Q hQ hx hb hr hml hts hown hlocks hH hP hC ls hl
  have hown : s.vm.findClass RX3 = some m.cls := hown
  have hl : lv_has ls 3 [(0, .ref a_t), (1, .int p1)] := hl
  have hK := hC.1
  have iw3 : ∀ w ∈ wsX30, w ∈ wsX3_placeOf := fun _ h => List.mem_cons_of_mem _ (List.mem_append_right _ h)
  have hf27 := hts (.fieldLink RX3 27 "CrackedColumn$Index" "size" "I") (by decide +kernel)
  unfold f_X3_placeOf at hF
  refine lv_iconst (v := 0) hx hb dX3_placeOf_0 (by decide) ?_
  refine lv_istore_n (lv' := [(2, .int 0), (0, .ref a_t), (1, .int p1)]) hx hb dX3_placeOf_1 rfl hl (by decide) rfl (fun ls hl => ?_)
  obtain ⟨k27_1, ek27_1, hF⟩ := jnE hF
  have hk27_1 : ∀ (ls : Array Slot), lv_has ls 3 [] → k27_1 = some (r) → W p l e rm_X3_placeOf s m args below meth c H [] 0 0 Q (F0 m 27 ls []) := by
    subst ek27_1
    intro ls hl hF
    refine lv_iconst (v := (-1)) hx hb dX3_placeOf_27 (by decide) ?_
    cases hF
    exact rd_iret hx hb hr hlocks dX3_placeOf_28 rfl hQ
  obtain ⟨k19_3, ek19_3, hF⟩ := jnE hF
  have hk19_3 : ∀ (x2_19_2 : Int32) (ls : Array Slot), lv_has ls 3 [(2, .int x2_19_2)] → k19_3 x2_19_2 = some (r) → W p l e rm_X3_placeOf s m args below meth c H [] 0 0 Q (F0 m 19 ls []) := by
    subst ek19_3
    intro x2_19_2 ls hl hF
    refine lv_iload_n hx hb dX3_placeOf_19 rfl (lv_at hl 0 rfl) ?_
    cases hF
    exact rd_iret hx hb hr hlocks dX3_placeOf_20 rfl hQ
  have hlp2 : ∀ n2 : Nat, ∀ (x2_2_4 : Int32) (ls : Array Slot), lv_has ls 3 [(0, .ref a_t), (1, .int p1), (2, .int x2_2_4)] → f_X3_placeOf_2 t_size t_entries_ p1 k27_1 k19_3 n2 x2_2_4 = some (r) → W p l e rm_X3_placeOf s m args below meth c H [] 0 0 Q (F0 m 2 ls []) := by
    intro n2
    induction n2 with
    | zero =>
      intro x2_2_4 ls hl hF
      cases (show none = some (r) from hF)
    | succ n2 ih2 =>
      intro x2_2_4 ls hl hF
      rw [f_X3_placeOf_2] at hF
      refine lv_iload_n hx hb dX3_placeOf_2 rfl (lv_at hl 2 rfl) ?_
      refine lv_aload_n hx hb dX3_placeOf_3 rfl (lv_at hl 0 rfl) ?_
      refine va_get (D := D) (ci := 3) (v := .int t_size) (C := RX3) (T := TX3) (N := 8) hx hb hts iw3 hown hK hP 0 rfl rfl 6 (by decide) hf27 (fun _ h9 => h9) rfl dX3_placeOf_4 ?_
      refine lv_icmp_ge (tgt := 27) hx hb dX3_placeOf_7 (by decide) (fun c7 => ?_) (fun c7 => ?_)
      · have hF := brT c7 hF
        exact hk27_1 ls (lv_sub hl [] rfl) hF
      · have hF := brF c7 hF
        refine lv_aload_n hx hb dX3_placeOf_10 rfl (lv_at hl 0 rfl) ?_
        refine lv_iload_n hx hb dX3_placeOf_11 rfl (lv_at hl 2 rfl) ?_
        obtain ⟨r12_5, h12_5, hF⟩ := bndE hF
        refine rdV (As := [.int x2_2_4]) (rest := []) (C := RX3) ⟨hx, hb, hml, hown, hts⟩ (c_X3_rowAt l D t z x a_t a_t_entries v_t_rows v_t_bounds v_t_starts v_t_heats v_t_sorted t_size t_pieces t_entries_ x2_2_4 H r12_5 h12_5) (cwV 1 hts gX3_placeOf_X3_rowAt rfl rfl rfl hd_X3_rowAt ⟨Nat.le_of_ble_eq_true rfl, Nat.le_of_ble_eq_true rfl⟩) hC (selP (m9 := [true, true]) rfl rfl hP) 0 rfl (show vwCl[3]? = some (RX3, TX3, 8) from rfl) rfl rfl hl.1 rfl (Nat.le_of_ble_eq_true rfl) dX3_placeOf_12 ⟨Nat.zero_le _, Nat.zero_le _⟩ rfl ?_
        refine lv_iload_n hx hb dX3_placeOf_15 rfl (lv_at hl 1 rfl) ?_
        refine lv_icmp_ne (tgt := 21) hx hb dX3_placeOf_16 (by decide) (fun c16 => ?_) (fun c16 => ?_)
        · have hF := brF c16 hF
          obtain ⟨y21_7, ey21_7⟩ : ∃ y : Int32, y = x2_2_4 + 1 := ⟨_, rfl⟩
          have hF := ltE ey21_7 hF
          refine lv_iinc (v := y21_7) (lv' := [(2, .int y21_7), (0, .ref a_t), (1, .int p1)]) hx hb dX3_placeOf_21 hl (k := 2) rfl (by rw [ey21_7]; rfl) (by decide) rfl (fun ls hl => ?_)
          refine lv_goto (tgt := 2) hx hb dX3_placeOf_24 (by decide) ?_
          exact ih2 y21_7 ls (lv_sub hl [1, 2, 0] rfl) hF
        · have hF := brT c16 hF
          exact hk19_3 x2_2_4 ls (lv_sub hl [2] rfl) hF
  exact hlp2 N 0 ls (lv_sub hl [1, 2, 0] rfl) hF
abbrev rm_X3_pieceFor : Room := { frames := 0, cells := 0, slots := 0, locals := 0 }
theorem hd_X3_pieceFor : yX3_pieceFor.cls = RX3 ∧ yX3_pieceFor.cls ≠ "java/lang/invoke/MethodHandle" ∧ yX3_pieceFor.cls ≠ "java/lang/invoke/VarHandle" ∧ (parseMethodDescriptor yX3_pieceFor.desc).map (fun d => d.parameters.length) = some 1 := by decide +kernel
set_option maxRecDepth 100000 in
set_option maxHeartbeats 4000000 in
theorem c_X3_pieceFor (l : Launch) (D : va_G) (t : Nat → ClassId) (z : Nat) (x : Nat → Nat) (N : Nat) (a_t : Nat) (a_t_bounds : Nat) (v_t_rows : Value) (v_t_entries : Value) (v_t_starts : Value) (v_t_heats : Value) (v_t_sorted : Value) (t_size : Int32) (t_pieces : Int32) (t_bounds_ : (Nat → Int32)) (p1 : Int32) (H : Heap) (r : Int32) (hF : f_X3_pieceFor N t_pieces t_bounds_ p1 = some (r)) : RdM l D (TY t) z x yX3_pieceFor wsX3_pieceFor rm_X3_pieceFor [.ref a_t, .int p1] [(a_t, .inr (3, [v_t_rows, v_t_entries, .ref a_t_bounds, v_t_starts, v_t_heats, v_t_sorted, .int t_size, .int t_pieces])), (a_t_bounds, .inl (t 0, 62, .inl t_bounds_))] H (some (.int r)) := by
  refine rd_of (cc := cX3_pieceFor) (maxL := 4) (ret := (some .int)) (by decide) rfl (Nat.le_of_ble_eq_true rfl) ?_
  intro p e s m args below meth c Q hQ hx hb hr hml hts hown hlocks hH hP hC ls hl
  have hown : s.vm.findClass RX3 = some m.cls := hown
  have hl : lv_has ls 4 [(0, .ref a_t), (1, .int p1)] := hl
  have hK := hC.1
  have iw3 : ∀ w ∈ wsX30, w ∈ wsX3_pieceFor := fun _ h => List.mem_cons_of_mem _ (List.mem_append_right _ h)
  have hf15 := hts (.fieldLink RX3 15 "CrackedColumn$Index" "bounds" "[I") (by decide +kernel)
  have hf31 := hts (.fieldLink RX3 31 "CrackedColumn$Index" "pieces" "I") (by decide +kernel)
  unfold f_X3_pieceFor at hF
  refine lv_iconst (v := 0) hx hb dX3_pieceFor_0 (by decide) ?_
  refine lv_istore_n (lv' := [(2, .int 0), (0, .ref a_t), (1, .int p1)]) hx hb dX3_pieceFor_1 rfl hl (by decide) rfl (fun ls hl => ?_)
  refine lv_iconst (v := 1) hx hb dX3_pieceFor_2 (by decide) ?_
  refine lv_istore_n (lv' := [(3, .int 1), (2, .int 0), (0, .ref a_t), (1, .int p1)]) hx hb dX3_pieceFor_3 rfl hl (by decide) rfl (fun ls hl => ?_)
  obtain ⟨k36_2, ek36_2, hF⟩ := jnE hF
  have hk36_2 : ∀ (x2_36_1 : Int32) (ls : Array Slot), lv_has ls 4 [(2, .int x2_36_1)] → k36_2 x2_36_1 = some (r) → W p l e rm_X3_pieceFor s m args below meth c H [] 0 0 Q (F0 m 36 ls []) := by
    subst ek36_2
    intro x2_36_1 ls hl hF
    refine lv_iload_n hx hb dX3_pieceFor_36 rfl (lv_at hl 0 rfl) ?_
    cases hF
    exact rd_iret hx hb hr hlocks dX3_pieceFor_37 rfl hQ
  have hlp4 : ∀ n4 : Nat, ∀ (x2_4_3 : Int32) (x3_4_4 : Int32) (ls : Array Slot), lv_has ls 4 [(0, .ref a_t), (1, .int p1), (2, .int x2_4_3), (3, .int x3_4_4)] → f_X3_pieceFor_4 t_pieces t_bounds_ p1 k36_2 n4 x2_4_3 x3_4_4 = some (r) → W p l e rm_X3_pieceFor s m args below meth c H [] 0 0 Q (F0 m 4 ls []) := by
    intro n4
    induction n4 with
    | zero =>
      intro x2_4_3 x3_4_4 ls hl hF
      cases (show none = some (r) from hF)
    | succ n4 ih4 =>
      intro x2_4_3 x3_4_4 ls hl hF
      rw [f_X3_pieceFor_4] at hF
      refine lv_iload_n hx hb dX3_pieceFor_4 rfl (lv_at hl 3 rfl) ?_
      refine lv_aload_n hx hb dX3_pieceFor_5 rfl (lv_at hl 0 rfl) ?_
      refine va_get (D := D) (ci := 3) (v := .int t_pieces) (C := RX3) (T := TX3) (N := 8) hx hb hts iw3 hown hK hP 0 rfl rfl 7 (by decide) hf31 (fun _ h9 => h9) rfl dX3_pieceFor_6 ?_
      refine lv_icmp_ge (tgt := 36) hx hb dX3_pieceFor_9 (by decide) (fun c9 => ?_) (fun c9 => ?_)
      · have hF := brT c9 hF
        exact hk36_2 x2_4_3 ls (lv_sub hl [2] rfl) hF
      · have hF := brF c9 hF
        refine lv_iload_n hx hb dX3_pieceFor_12 rfl (lv_at hl 3 rfl) ?_
        refine lv_bipush (v := 62) hx hb dX3_pieceFor_13 (by decide) ?_
        refine lv_icmp_ge (tgt := 36) hx hb dX3_pieceFor_15 (by decide) (fun c15 => ?_) (fun c15 => ?_)
        · have hF := brT c15 hF
          exact hk36_2 x2_4_3 ls (lv_sub hl [2] rfl) hF
        · have hF := brF c15 hF
          refine lv_aload_n hx hb dX3_pieceFor_18 rfl (lv_at hl 0 rfl) ?_
          refine va_get (D := D) (ci := 3) (v := .ref a_t_bounds) (C := RX3) (T := TX3) (N := 8) hx hb hts iw3 hown hK hP 0 rfl rfl 2 (by decide) hf15 (fun _ h9 => h9) rfl dX3_pieceFor_19 ?_
          refine lv_iload_n hx hb dX3_pieceFor_22 rfl (lv_at hl 3 rfl) ?_
          obtain ⟨g23_4, hF⟩ := gd hF
          refine my_iald (v := t_bounds_ x3_4_4.toNatClampNeg) hx hb hK hP 1 0 rfl rfl g23_4 rfl dX3_pieceFor_23 ?_
          refine lv_iload_n hx hb dX3_pieceFor_24 rfl (lv_at hl 1 rfl) ?_
          refine lv_icmp_gt (tgt := 30) hx hb dX3_pieceFor_25 (by decide) (fun c25 => ?_) (fun c25 => ?_)
          · have hF := brT c25 hF
            obtain ⟨y30_6, ey30_6⟩ : ∃ y : Int32, y = x3_4_4 + 1 := ⟨_, rfl⟩
            have hF := ltE ey30_6 hF
            refine lv_iinc (v := y30_6) (lv' := [(3, .int y30_6), (0, .ref a_t), (1, .int p1), (2, .int x2_4_3)]) hx hb dX3_pieceFor_30 hl (k := 3) rfl (by rw [ey30_6]; rfl) (by decide) rfl (fun ls hl => ?_)
            refine lv_goto (tgt := 4) hx hb dX3_pieceFor_33 (by decide) ?_
            exact ih4 x2_4_3 y30_6 ls (lv_sub hl [1, 2, 3, 0] rfl) hF
          · have hF := brF c25 hF
            refine lv_iload_n hx hb dX3_pieceFor_28 rfl (lv_at hl 3 rfl) ?_
            refine lv_istore_n (lv' := [(2, .int x3_4_4), (0, .ref a_t), (1, .int p1), (3, .int x3_4_4)]) hx hb dX3_pieceFor_29 rfl hl (by decide) rfl (fun ls hl => ?_)
            obtain ⟨y30_7, ey30_7⟩ : ∃ y : Int32, y = x3_4_4 + 1 := ⟨_, rfl⟩
            have hF := ltE ey30_7 hF
            refine lv_iinc (v := y30_7) (lv' := [(3, .int y30_7), (2, .int x3_4_4), (0, .ref a_t), (1, .int p1)]) hx hb dX3_pieceFor_30 hl (k := 3) rfl (by rw [ey30_7]; rfl) (by decide) rfl (fun ls hl => ?_)
            refine lv_goto (tgt := 4) hx hb dX3_pieceFor_33 (by decide) ?_
            exact ih4 x3_4_4 y30_7 ls (lv_sub hl [2, 3, 1, 0] rfl) hF
  exact hlp4 N 0 1 ls (lv_sub hl [2, 3, 1, 0] rfl) hF
abbrev rm_X3_descentsOf : Room := { frames := 2, cells := 0, slots := 0, locals := 42 }
theorem hd_X3_descentsOf : yX3_descentsOf.cls = RX3 ∧ yX3_descentsOf.cls ≠ "java/lang/invoke/MethodHandle" ∧ yX3_descentsOf.cls ≠ "java/lang/invoke/VarHandle" ∧ (parseMethodDescriptor yX3_descentsOf.desc).map (fun d => d.parameters.length) = some 1 := by decide +kernel
set_option maxRecDepth 100000 in
set_option maxHeartbeats 4000000 in
theorem c_X3_descentsOf (l : Launch) (D : va_G) (t : Nat → ClassId) (z : Nat) (x : Nat → Nat) (N : Nat) (a_t : Nat) (a_t_entries : Nat) (a_t_starts : Nat) (a_t_rows : Nat) (a_t_rows_keys : Nat) (v_t_bounds : Value) (v_t_heats : Value) (v_t_sorted : Value) (v_t_rows_values : Value) (v_t_rows_states : Value) (t_size : Int32) (t_pieces : Int32) (t_entries_ : (Nat → Int32)) (t_starts_ : (Nat → Int32)) (t_rows_count : Int32) (t_rows_keys_ : (Nat → Int32)) (p1 : Int32) (H : Heap) (r : Int32) (hF : f_X3_descentsOf N t_size t_pieces t_entries_ t_starts_ t_rows_keys_ p1 = some (r)) : RdM l D (TY t) z x yX3_descentsOf wsX3_descentsOf rm_X3_descentsOf [.ref a_t, .int p1] [(a_t, .inr (3, [.ref a_t_rows, .ref a_t_entries, v_t_bounds, .ref a_t_starts, v_t_heats, v_t_sorted, .int t_size, .int t_pieces])), (a_t_entries, .inl (t 0, 120, .inl t_entries_)), (a_t_starts, .inl (t 0, 62, .inl t_starts_)), (a_t_rows, .inr (6, [.ref a_t_rows_keys, v_t_rows_values, v_t_rows_states, .int t_rows_count])), (a_t_rows_keys, .inl (t 0, 120, .inl t_rows_keys_))] H (some (.int r)) := by
  refine rd_of (cc := cX3_descentsOf) (maxL := 5) (ret := (some .int)) (by decide) rfl (Nat.le_of_ble_eq_true rfl) ?_
  intro p e s m args below meth c Q hQ hx hb hr hml hts hown hlocks hH hP hC ls hl
  have hown : s.vm.findClass RX3 = some m.cls := hown
  have hl : lv_has ls 5 [(0, .ref a_t), (1, .int p1)] := hl
  have hK := hC.1
  unfold f_X3_descentsOf at hF
  refine lv_iconst (v := 0) hx hb dX3_descentsOf_0 (by decide) ?_
  refine lv_istore_n (lv' := [(2, .int 0), (0, .ref a_t), (1, .int p1)]) hx hb dX3_descentsOf_1 rfl hl (by decide) rfl (fun ls hl => ?_)
  refine lv_aload_n hx hb dX3_descentsOf_2 rfl (lv_at hl 1 rfl) ?_
  refine lv_iload_n hx hb dX3_descentsOf_3 rfl (lv_at hl 2 rfl) ?_
  refine lv_iconst (v := 1) hx hb dX3_descentsOf_4 (by decide) ?_
  refine lv_iadd hx hb dX3_descentsOf_5 ?_
  obtain ⟨r6_1, h6_1, hF⟩ := bndE hF
  refine rdV (As := [.int (p1 + 1)]) (rest := []) (C := RX3) ⟨hx, hb, hml, hown, hts⟩ (c_X3_startOf l D t z x a_t a_t_starts (.ref a_t_rows) (.ref a_t_entries) v_t_bounds v_t_heats v_t_sorted t_size t_pieces t_starts_ (p1 + 1) H r6_1 h6_1) (cwV 1 hts gX3_descentsOf_X3_startOf rfl rfl rfl hd_X3_startOf ⟨Nat.le_of_ble_eq_true rfl, Nat.le_of_ble_eq_true rfl⟩) hC (selP (m9 := [true, false, true, false, false]) rfl rfl hP) 0 rfl (show vwCl[3]? = some (RX3, TX3, 8) from rfl) rfl rfl hl.1 rfl (Nat.le_of_ble_eq_true rfl) dX3_descentsOf_6 ⟨Nat.zero_le _, Nat.zero_le _⟩ rfl ?_
  refine lv_iconst (v := 1) hx hb dX3_descentsOf_9 (by decide) ?_
  refine lv_isub hx hb dX3_descentsOf_10 ?_
  refine lv_topi (fun y11_3 ey11_3 => ?_)
  have hF := ltE ey11_3 hF
  refine lv_istore_n (lv' := [(3, .int y11_3), (2, .int 0), (0, .ref a_t), (1, .int p1)]) hx hb dX3_descentsOf_11 rfl hl (by decide) rfl (fun ls hl => ?_)
  refine lv_aload_n hx hb dX3_descentsOf_12 rfl (lv_at hl 2 rfl) ?_
  refine lv_iload_n hx hb dX3_descentsOf_13 rfl (lv_at hl 3 rfl) ?_
  obtain ⟨r14_4, h14_4, hF⟩ := bndE hF
  refine rdV (As := [.int p1]) (rest := []) (C := RX3) ⟨hx, hb, hml, hown, hts⟩ (c_X3_startOf l D t z x a_t a_t_starts (.ref a_t_rows) (.ref a_t_entries) v_t_bounds v_t_heats v_t_sorted t_size t_pieces t_starts_ p1 H r14_4 h14_4) (cwV 1 hts gX3_descentsOf_X3_startOf rfl rfl rfl hd_X3_startOf ⟨Nat.le_of_ble_eq_true rfl, Nat.le_of_ble_eq_true rfl⟩) hC (selP (m9 := [true, false, true, false, false]) rfl rfl hP) 0 rfl (show vwCl[3]? = some (RX3, TX3, 8) from rfl) rfl rfl hl.1 rfl (Nat.le_of_ble_eq_true rfl) dX3_descentsOf_14 ⟨Nat.zero_le _, Nat.zero_le _⟩ rfl ?_
  refine lv_istore (lv' := [(4, .int r14_4), (3, .int y11_3), (2, .int 0), (0, .ref a_t), (1, .int p1)]) hx hb dX3_descentsOf_17 hl (by decide) rfl (fun ls hl => ?_)
  obtain ⟨k56_7, ek56_7, hF⟩ := jnE hF
  have hk56_7 : ∀ (x2_56_6 : Int32) (ls : Array Slot), lv_has ls 5 [(2, .int x2_56_6)] → k56_7 x2_56_6 = some (r) → W p l e rm_X3_descentsOf s m args below meth c H [] 0 0 Q (F0 m 56 ls []) := by
    subst ek56_7
    intro x2_56_6 ls hl hF
    refine lv_iload_n hx hb dX3_descentsOf_56 rfl (lv_at hl 0 rfl) ?_
    cases hF
    exact rd_iret hx hb hr hlocks dX3_descentsOf_57 rfl hQ
  have hlp19 : ∀ n19 : Nat, ∀ (x2_19_8 : Int32) (x4_19_9 : Int32) (ls : Array Slot), lv_has ls 5 [(0, .ref a_t), (2, .int x2_19_8), (3, .int y11_3), (4, .int x4_19_9)] → f_X3_descentsOf_19 t_size t_entries_ t_rows_keys_ y11_3 k56_7 n19 x2_19_8 x4_19_9 = some (r) → W p l e rm_X3_descentsOf s m args below meth c H [] 0 0 Q (F0 m 19 ls []) := by
    intro n19
    induction n19 with
    | zero =>
      intro x2_19_8 x4_19_9 ls hl hF
      cases (show none = some (r) from hF)
    | succ n19 ih19 =>
      intro x2_19_8 x4_19_9 ls hl hF
      rw [f_X3_descentsOf_19] at hF
      refine lv_iload hx hb dX3_descentsOf_19 (lv_at hl 3 rfl) ?_
      refine lv_iload_n hx hb dX3_descentsOf_21 rfl (lv_at hl 2 rfl) ?_
      refine lv_icmp_ge (tgt := 56) hx hb dX3_descentsOf_22 (by decide) (fun c22 => ?_) (fun c22 => ?_)
      · have hF := brT c22 hF
        exact hk56_7 x2_19_8 ls (lv_sub hl [1] rfl) hF
      · have hF := brF c22 hF
        refine lv_iload_n hx hb dX3_descentsOf_25 rfl (lv_at hl 1 rfl) ?_
        refine lv_aload_n hx hb dX3_descentsOf_26 rfl (lv_at hl 0 rfl) ?_
        refine lv_iload hx hb dX3_descentsOf_27 (lv_at hl 3 rfl) ?_
        obtain ⟨r29_10, h29_10, hF⟩ := bndE hF
        refine rdV (As := [.int x4_19_9]) (rest := [.int x2_19_8]) (C := RX3) ⟨hx, hb, hml, hown, hts⟩ (c_X3_keyAt l D t z x a_t a_t_entries a_t_rows a_t_rows_keys v_t_bounds (.ref a_t_starts) v_t_heats v_t_sorted v_t_rows_values v_t_rows_states t_size t_pieces t_entries_ t_rows_count t_rows_keys_ x4_19_9 H r29_10 h29_10) (cwV 1 hts gX3_descentsOf_X3_keyAt rfl rfl rfl hd_X3_keyAt ⟨Nat.le_of_ble_eq_true rfl, Nat.le_of_ble_eq_true rfl⟩) hC (selP (m9 := [true, true, false, true, true]) rfl rfl hP) 0 rfl (show vwCl[3]? = some (RX3, TX3, 8) from rfl) rfl rfl hl.1 rfl (Nat.le_of_ble_eq_true rfl) dX3_descentsOf_29 ⟨Nat.zero_le _, Nat.zero_le _⟩ rfl ?_
        refine lv_aload_n hx hb dX3_descentsOf_32 rfl (lv_at hl 0 rfl) ?_
        refine lv_iload hx hb dX3_descentsOf_33 (lv_at hl 3 rfl) ?_
        refine lv_iconst (v := 1) hx hb dX3_descentsOf_35 (by decide) ?_
        refine lv_iadd hx hb dX3_descentsOf_36 ?_
        obtain ⟨r37_12, h37_12, hF⟩ := bndE hF
        refine rdV (As := [.int (x4_19_9 + 1)]) (rest := [.int r29_10, .int x2_19_8]) (C := RX3) ⟨hx, hb, hml, hown, hts⟩ (c_X3_keyAt l D t z x a_t a_t_entries a_t_rows a_t_rows_keys v_t_bounds (.ref a_t_starts) v_t_heats v_t_sorted v_t_rows_values v_t_rows_states t_size t_pieces t_entries_ t_rows_count t_rows_keys_ (x4_19_9 + 1) H r37_12 h37_12) (cwV 1 hts gX3_descentsOf_X3_keyAt rfl rfl rfl hd_X3_keyAt ⟨Nat.le_of_ble_eq_true rfl, Nat.le_of_ble_eq_true rfl⟩) hC (selP (m9 := [true, true, false, true, true]) rfl rfl hP) 0 rfl (show vwCl[3]? = some (RX3, TX3, 8) from rfl) rfl rfl hl.1 rfl (Nat.le_of_ble_eq_true rfl) dX3_descentsOf_37 ⟨Nat.zero_le _, Nat.zero_le _⟩ rfl ?_
        refine lv_icmp_le (tgt := 47) hx hb dX3_descentsOf_40 (by decide) (fun c40 => ?_) (fun c40 => ?_)
        · have hF := brT c40 hF
          refine lv_iconst (v := 0) hx hb dX3_descentsOf_47 (by decide) ?_
          refine lv_iadd hx hb dX3_descentsOf_48 ?_
          refine lv_topi (fun y49_14 ey49_14 => ?_)
          have hF := ltE ey49_14 hF
          refine lv_istore_n (lv' := [(2, .int y49_14), (0, .ref a_t), (3, .int y11_3), (4, .int x4_19_9)]) hx hb dX3_descentsOf_49 rfl hl (by decide) rfl (fun ls hl => ?_)
          obtain ⟨y50_15, ey50_15⟩ : ∃ y : Int32, y = x4_19_9 + 1 := ⟨_, rfl⟩
          have hF := ltE ey50_15 hF
          refine lv_iinc (v := y50_15) (lv' := [(4, .int y50_15), (2, .int y49_14), (0, .ref a_t), (3, .int y11_3)]) hx hb dX3_descentsOf_50 hl (k := 3) rfl (by rw [ey50_15]; rfl) (by decide) rfl (fun ls hl => ?_)
          refine lv_goto (tgt := 19) hx hb dX3_descentsOf_53 (by decide) ?_
          exact ih19 y49_14 y50_15 ls (lv_sub hl [2, 1, 3, 0] rfl) hF
        · have hF := brF c40 hF
          refine lv_iconst (v := 1) hx hb dX3_descentsOf_43 (by decide) ?_
          refine lv_goto (tgt := 48) hx hb dX3_descentsOf_44 (by decide) ?_
          refine lv_iadd hx hb dX3_descentsOf_48 ?_
          refine lv_topi (fun y49_16 ey49_16 => ?_)
          have hF := ltE ey49_16 hF
          refine lv_istore_n (lv' := [(2, .int y49_16), (0, .ref a_t), (3, .int y11_3), (4, .int x4_19_9)]) hx hb dX3_descentsOf_49 rfl hl (by decide) rfl (fun ls hl => ?_)
          obtain ⟨y50_17, ey50_17⟩ : ∃ y : Int32, y = x4_19_9 + 1 := ⟨_, rfl⟩
          have hF := ltE ey50_17 hF
          refine lv_iinc (v := y50_17) (lv' := [(4, .int y50_17), (2, .int y49_16), (0, .ref a_t), (3, .int y11_3)]) hx hb dX3_descentsOf_50 hl (k := 3) rfl (by rw [ey50_17]; rfl) (by decide) rfl (fun ls hl => ?_)
          refine lv_goto (tgt := 19) hx hb dX3_descentsOf_53 (by decide) ?_
          exact ih19 y49_16 y50_17 ls (lv_sub hl [2, 1, 3, 0] rfl) hF
  exact hlp19 N 0 r14_4 ls (lv_sub hl [3, 2, 1, 0] rfl) hF
abbrev rm_X3_shiftStarts : Room := { frames := 1, cells := 0, slots := 0, locals := 21 }
theorem hd_X3_shiftStarts : yX3_shiftStarts.cls = RX3 ∧ yX3_shiftStarts.cls ≠ "java/lang/invoke/MethodHandle" ∧ yX3_shiftStarts.cls ≠ "java/lang/invoke/VarHandle" ∧ (parseMethodDescriptor yX3_shiftStarts.desc).map (fun d => d.parameters.length) = some 2 := by decide +kernel
set_option maxRecDepth 100000 in
set_option maxHeartbeats 4000000 in
theorem c_X3_shiftStarts (l : Launch) (D : va_G) (t : Nat → ClassId) (z : Nat) (x : Nat → Nat) (N : Nat) (a_t : Nat) (a_t_starts : Nat) (v_t_rows : Value) (v_t_entries : Value) (v_t_bounds : Value) (v_t_heats : Value) (v_t_sorted : Value) (t_size : Int32) (t_pieces : Int32) (t_starts_ : (Nat → Int32)) (p1 : Int32) (p2 : Int32) (sz : Nat) (t_starts_' : (Nat → Int32)) (hF : f_X3_shiftStarts N t_pieces t_starts_ p1 p2 = some (t_starts_')) : WrM l D (TY t) z x yX3_shiftStarts wsX3_shiftStarts rm_X3_shiftStarts [.ref a_t, .int p1, .int p2] [(a_t, .inr (3, [v_t_rows, v_t_entries, v_t_bounds, .ref a_t_starts, v_t_heats, v_t_sorted, .int t_size, .int t_pieces])), (a_t_starts, .inl (t 0, 62, .inl t_starts_))] [(a_t, .inr (3, [v_t_rows, v_t_entries, v_t_bounds, .ref a_t_starts, v_t_heats, v_t_sorted, .int t_size, .int t_pieces])), (a_t_starts, .inl (t 0, 62, .inl t_starts_'))] sz none 0 0 := by
  refine wr_of (cc := cX3_shiftStarts) (maxL := 5) (ret := none) (by decide) rfl (Nat.le_of_ble_eq_true rfl) ?_
  intro p e s m args below meth c A Q hQ hx hb hr hml hts hown hlocks hin H locs hP hD hS hA hz hC ls hl
  have hown : s.vm.findClass RX3 = some m.cls := hown
  have hl : lv_has ls 5 [(0, .ref a_t), (1, .int p1), (2, .int p2)] := hl
  have hK := hC.1
  have iw3 : ∀ w ∈ wsX30, w ∈ wsX3_shiftStarts := fun _ h => List.mem_cons_of_mem _ (List.mem_append_right _ h)
  have hf18 := hts (.fieldLink RX3 18 "CrackedColumn$Index" "starts" "[I") (by decide +kernel)
  have hf31 := hts (.fieldLink RX3 31 "CrackedColumn$Index" "pieces" "I") (by decide +kernel)
  have hm_max90 := hts (.methodLink RX3 90 Lib.Math.max.name) (by decide +kernel)
  have hm_min84 := hts (.methodLink RX3 84 Lib.Math.min.name) (by decide +kernel)
  have hm_max_s := hts (.static Lib.Math.max.name) (by decide +kernel)
  have hm_max_c := hts (.code Lib.Math.max.name Lib.Math.max.code 2 (some .int)) (by decide +kernel)
  have hm_min_s := hts (.static Lib.Math.min.name) (by decide +kernel)
  have hm_min_c := hts (.code Lib.Math.min.name Lib.Math.min.code 2 (some .int)) (by decide +kernel)
  have hm_init := hts (.initialized "java/lang/Math") (by decide +kernel)
  unfold f_X3_shiftStarts at hF
  refine lv_aload_n hx hb dX3_shiftStarts_0 rfl (lv_at hl 0 rfl) ?_
  refine va_get (D := D) (ci := 3) (v := .int t_pieces) (C := RX3) (T := TX3) (N := 8) hx hb hts iw3 hown hK hP 0 rfl rfl 7 (by decide) hf31 (fun _ h9 => h9) rfl dX3_shiftStarts_1 ?_
  refine lv_bipush (v := 62) hx hb dX3_shiftStarts_4 (by decide) ?_
  refine va_mmin hx hb (hml.trans hl.1.symm) hown hm_min84 hm_min_s hm_init hm_min_c (Nat.le_of_ble_eq_true rfl) (Nat.le_of_ble_eq_true rfl) (Nat.zero_le _) (Nat.zero_le _) dX3_shiftStarts_6 ?_
  refine lv_topi (fun y6_1 ey6_1 => ?_)
  have hF := ltE ey6_1 hF
  refine lv_istore_n (lv' := [(3, .int y6_1), (0, .ref a_t), (1, .int p1), (2, .int p2)]) hx hb dX3_shiftStarts_9 rfl hl (by decide) rfl (fun ls hl => ?_)
  refine lv_iload_n hx hb dX3_shiftStarts_10 rfl (lv_at hl 2 rfl) ?_
  refine lv_iconst (v := 0) hx hb dX3_shiftStarts_11 (by decide) ?_
  refine va_mmax hx hb (hml.trans hl.1.symm) hown hm_max90 hm_max_s hm_init hm_max_c (Nat.le_of_ble_eq_true rfl) (Nat.le_of_ble_eq_true rfl) (Nat.zero_le _) (Nat.zero_le _) dX3_shiftStarts_12 ?_
  refine lv_topi (fun y12_2 ey12_2 => ?_)
  have hF := ltE ey12_2 hF
  refine lv_istore (lv' := [(4, .int y12_2), (3, .int y6_1), (0, .ref a_t), (1, .int p1), (2, .int p2)]) hx hb dX3_shiftStarts_15 hl (by decide) rfl (fun ls hl => ?_)
  obtain ⟨k40_4, ek40_4, hF⟩ := jnE hF
  have hk40_4 : ∀ (t_starts_40_3 : (Nat → Int32)) (H : Heap) (locs : List Loc) (ls : Array Slot), va_P D vwCl [(a_t, .inr (3, [v_t_rows, v_t_entries, v_t_bounds, .ref a_t_starts, v_t_heats, v_t_sorted, .int t_size, .int t_pieces])), (a_t_starts, .inl (t 0, 62, .inl t_starts_40_3))] H → va_D A [(a_t, .inr (3, [v_t_rows, v_t_entries, v_t_bounds, .ref a_t_starts, v_t_heats, v_t_sorted, .int t_size, .int t_pieces])), (a_t_starts, .inl (t 0, 62, .inl t_starts_40_3))] → va_S A s.heap H locs → lv_has ls 5 [] → k40_4 t_starts_40_3 = some (t_starts_') → W p l e rm_X3_shiftStarts s m args below meth c H locs 0 0 Q (F0 m 40 ls []) := by
    subst ek40_4
    intro t_starts_40_3 H locs ls hP hD hS hl hF
    cases hF
    exact we_vret hx hb hr hlocks dX3_shiftStarts_40 rfl hQ hP hD hS
  have hlp17 : ∀ n17 : Nat, ∀ (x4_17_5 : Int32) (t_starts_17_6 : (Nat → Int32)) (H : Heap) (locs : List Loc) (ls : Array Slot), va_P D vwCl [(a_t, .inr (3, [v_t_rows, v_t_entries, v_t_bounds, .ref a_t_starts, v_t_heats, v_t_sorted, .int t_size, .int t_pieces])), (a_t_starts, .inl (t 0, 62, .inl t_starts_17_6))] H → va_D A [(a_t, .inr (3, [v_t_rows, v_t_entries, v_t_bounds, .ref a_t_starts, v_t_heats, v_t_sorted, .int t_size, .int t_pieces])), (a_t_starts, .inl (t 0, 62, .inl t_starts_17_6))] → va_S A s.heap H locs → lv_has ls 5 [(0, .ref a_t), (2, .int p2), (3, .int y6_1), (4, .int x4_17_5)] → f_X3_shiftStarts_17 p2 y6_1 k40_4 n17 x4_17_5 t_starts_17_6 = some (t_starts_') → W p l e rm_X3_shiftStarts s m args below meth c H locs 0 0 Q (F0 m 17 ls []) := by
    intro n17
    induction n17 with
    | zero =>
      intro x4_17_5 t_starts_17_6 H locs ls hP hD hS hl hF
      cases (show none = some (t_starts_') from hF)
    | succ n17 ih17 =>
      intro x4_17_5 t_starts_17_6 H locs ls hP hD hS hl hF
      rw [f_X3_shiftStarts_17] at hF
      refine lv_iload hx hb dX3_shiftStarts_17 (lv_at hl 3 rfl) ?_
      refine lv_iload_n hx hb dX3_shiftStarts_19 rfl (lv_at hl 2 rfl) ?_
      refine lv_icmp_ge (tgt := 40) hx hb dX3_shiftStarts_20 (by decide) (fun c20 => ?_) (fun c20 => ?_)
      · have hF := brT c20 hF
        exact hk40_4 t_starts_17_6 H locs ls hP hD hS (lv_sub hl [] rfl) hF
      · have hF := brF c20 hF
        refine lv_aload_n hx hb dX3_shiftStarts_23 rfl (lv_at hl 0 rfl) ?_
        refine va_get (D := D) (ci := 3) (v := .ref a_t_starts) (C := RX3) (T := TX3) (N := 8) hx hb hts iw3 hown hK hP 0 rfl rfl 3 (by decide) hf18 (fun _ h9 => h9) rfl dX3_shiftStarts_24 ?_
        refine lv_iload hx hb dX3_shiftStarts_27 (lv_at hl 3 rfl) ?_
        refine lv_dup2_11 hx hb dX3_shiftStarts_29 rfl rfl ?_
        obtain ⟨g30_6, hF⟩ := gd hF
        refine my_iald (v := t_starts_17_6 x4_17_5.toNatClampNeg) hx hb hK hP 1 0 rfl rfl g30_6 rfl dX3_shiftStarts_30 ?_
        refine lv_iload_n hx hb dX3_shiftStarts_31 rfl (lv_at hl 1 rfl) ?_
        refine lv_iadd hx hb dX3_shiftStarts_32 ?_
        obtain ⟨t_starts_33_8, et_starts_33_8⟩ : ∃ y : Nat → Int32, y = upd t_starts_17_6 x4_17_5.toNatClampNeg ((t_starts_17_6 x4_17_5.toNatClampNeg) + p2) := ⟨_, rfl⟩
        have hF := ltE et_starts_33_8 hF
        refine my_iast (g := t_starts_33_8) (wn := [(a_t, .inr (3, [v_t_rows, v_t_entries, v_t_bounds, .ref a_t_starts, v_t_heats, v_t_sorted, .int t_size, .int t_pieces])), (a_t_starts, .inl (t 0, 62, .inl t_starts_33_8))]) hx hb hK hP hD hS 1 0 rfl rfl g30_6 et_starts_33_8 rfl dX3_shiftStarts_33 (fun H locs hP hD hS => ?_)
        obtain ⟨y34_9, ey34_9⟩ : ∃ y : Int32, y = x4_17_5 + 1 := ⟨_, rfl⟩
        have hF := ltE ey34_9 hF
        refine lv_iinc (v := y34_9) (lv' := [(4, .int y34_9), (0, .ref a_t), (2, .int p2), (3, .int y6_1)]) hx hb dX3_shiftStarts_34 hl (k := 3) rfl (by rw [ey34_9]; rfl) (by decide) rfl (fun ls hl => ?_)
        refine lv_goto (tgt := 17) hx hb dX3_shiftStarts_37 (by decide) ?_
        exact ih17 y34_9 t_starts_33_8 H locs ls hP hD hS (lv_sub hl [1, 2, 3, 0] rfl) hF
  exact hlp17 N y12_2 t_starts_ H locs ls hP hD hS (lv_sub hl [2, 4, 1, 0] rfl) hF
abbrev rm_X3_moveDown : Room := { frames := 1, cells := 0, slots := 0, locals := 40 }
theorem hd_X3_moveDown : yX3_moveDown.cls = RX3 ∧ yX3_moveDown.cls ≠ "java/lang/invoke/MethodHandle" ∧ yX3_moveDown.cls ≠ "java/lang/invoke/VarHandle" ∧ (parseMethodDescriptor yX3_moveDown.desc).map (fun d => d.parameters.length) = some 2 := by decide +kernel
set_option maxRecDepth 100000 in
set_option maxHeartbeats 4000000 in
theorem c_X3_moveDown (l : Launch) (D : va_G) (t : Nat → ClassId) (z : Nat) (x : Nat → Nat) (a_t : Nat) (a_t_entries : Nat) (v_t_rows : Value) (v_t_bounds : Value) (v_t_starts : Value) (v_t_heats : Value) (v_t_sorted : Value) (t_size : Int32) (t_pieces : Int32) (t_entries_ : (Nat → Int32)) (p1 : Int32) (p2 : Int32) (sz : Nat) (t_entries_' : (Nat → Int32)) (hF : f_X3_moveDown t_size t_entries_ p1 p2 = some (t_entries_')) : WrM l D (TY t) z x yX3_moveDown wsX3_moveDown rm_X3_moveDown [.ref a_t, .int p1, .int p2] [(a_t, .inr (3, [v_t_rows, .ref a_t_entries, v_t_bounds, v_t_starts, v_t_heats, v_t_sorted, .int t_size, .int t_pieces])), (a_t_entries, .inl (t 0, 120, .inl t_entries_))] [(a_t, .inr (3, [v_t_rows, .ref a_t_entries, v_t_bounds, v_t_starts, v_t_heats, v_t_sorted, .int t_size, .int t_pieces])), (a_t_entries, .inl (t 0, 120, .inl t_entries_'))] sz none 0 0 := by
  refine wr_of (cc := cX3_moveDown) (maxL := 4) (ret := none) (by decide) rfl (Nat.le_of_ble_eq_true rfl) ?_
  intro p e s m args below meth c A Q hQ hx hb hr hml hts hown hlocks hin H locs hP hD hS hA hz hC ls hl
  have hown : s.vm.findClass RX3 = some m.cls := hown
  have hl : lv_has ls 4 [(0, .ref a_t), (1, .int p1), (2, .int p2)] := hl
  have hK := hC.1
  have iw3 : ∀ w ∈ wsX30, w ∈ wsX3_moveDown := fun _ h => List.mem_cons_of_mem _ (List.mem_append_right _ h)
  have hf9 := hts (.fieldLink RX3 9 "CrackedColumn$Index" "entries" "[I") (by decide +kernel)
  have hf27 := hts (.fieldLink RX3 27 "CrackedColumn$Index" "size" "I") (by decide +kernel)
  have hac := hts (.methodLink RX3 71 arraycopyName) (by decide +kernel)
  have hac_n := hts (.native arraycopyName) (by decide +kernel)
  have hac_s := hts (.static arraycopyName) (by decide +kernel)
  have hac_i := hts (.initialized "java/lang/System") (by decide +kernel)
  unfold f_X3_moveDown at hF
  refine lv_iload_n hx hb dX3_moveDown_0 rfl (lv_at hl 2 rfl) ?_
  refine lv_if_lt (tgt := 23) hx hb dX3_moveDown_1 (by decide) (fun c1 => ?_) (fun c1 => ?_)
  · have hF := brT c1 hF
    cases hF
    exact we_vret hx hb hr hlocks dX3_moveDown_23 rfl hQ hP hD hS
  · have hF := brF c1 hF
    refine lv_iload_n hx hb dX3_moveDown_4 rfl (lv_at hl 1 rfl) ?_
    refine lv_iload_n hx hb dX3_moveDown_5 rfl (lv_at hl 2 rfl) ?_
    refine lv_icmp_le (tgt := 23) hx hb dX3_moveDown_6 (by decide) (fun c6 => ?_) (fun c6 => ?_)
    · have hF := brT c6 hF
      cases hF
      exact we_vret hx hb hr hlocks dX3_moveDown_23 rfl hQ hP hD hS
    · have hF := brF c6 hF
      refine lv_iload_n hx hb dX3_moveDown_9 rfl (lv_at hl 1 rfl) ?_
      refine lv_aload_n hx hb dX3_moveDown_10 rfl (lv_at hl 0 rfl) ?_
      refine va_get (D := D) (ci := 3) (v := .int t_size) (C := RX3) (T := TX3) (N := 8) hx hb hts iw3 hown hK hP 0 rfl rfl 6 (by decide) hf27 (fun _ h9 => h9) rfl dX3_moveDown_11 ?_
      refine lv_icmp_ge (tgt := 23) hx hb dX3_moveDown_14 (by decide) (fun c14 => ?_) (fun c14 => ?_)
      · have hF := brT c14 hF
        cases hF
        exact we_vret hx hb hr hlocks dX3_moveDown_23 rfl hQ hP hD hS
      · have hF := brF c14 hF
        refine lv_iload_n hx hb dX3_moveDown_17 rfl (lv_at hl 1 rfl) ?_
        refine lv_bipush (v := 120) hx hb dX3_moveDown_18 (by decide) ?_
        refine lv_icmp_lt (tgt := 24) hx hb dX3_moveDown_20 (by decide) (fun c20 => ?_) (fun c20 => ?_)
        · have hF := brT c20 hF
          refine lv_aload_n hx hb dX3_moveDown_24 rfl (lv_at hl 0 rfl) ?_
          refine va_get (D := D) (ci := 3) (v := .ref a_t_entries) (C := RX3) (T := TX3) (N := 8) hx hb hts iw3 hown hK hP 0 rfl rfl 1 (by decide) hf9 (fun _ h9 => h9) rfl dX3_moveDown_25 ?_
          refine lv_iload_n hx hb dX3_moveDown_28 rfl (lv_at hl 1 rfl) ?_
          obtain ⟨g29_0, hF⟩ := gd hF
          refine my_iald (v := t_entries_ p1.toNatClampNeg) hx hb hK hP 1 0 rfl rfl g29_0 rfl dX3_moveDown_29 ?_
          refine lv_topi (fun y30_2 ey30_2 => ?_)
          have hF := ltE ey30_2 hF
          refine lv_istore_n (lv' := [(3, .int y30_2), (0, .ref a_t), (1, .int p1), (2, .int p2)]) hx hb dX3_moveDown_30 rfl hl (by decide) rfl (fun ls hl => ?_)
          refine lv_aload_n hx hb dX3_moveDown_31 rfl (lv_at hl 1 rfl) ?_
          refine va_get (D := D) (ci := 3) (v := .ref a_t_entries) (C := RX3) (T := TX3) (N := 8) hx hb hts iw3 hown hK hP 0 rfl rfl 1 (by decide) hf9 (fun _ h9 => h9) rfl dX3_moveDown_32 ?_
          refine lv_iload_n hx hb dX3_moveDown_35 rfl (lv_at hl 3 rfl) ?_
          refine lv_aload_n hx hb dX3_moveDown_36 rfl (lv_at hl 1 rfl) ?_
          refine va_get (D := D) (ci := 3) (v := .ref a_t_entries) (C := RX3) (T := TX3) (N := 8) hx hb hts iw3 hown hK hP 0 rfl rfl 1 (by decide) hf9 (fun _ h9 => h9) rfl dX3_moveDown_37 ?_
          refine lv_iload_n hx hb dX3_moveDown_40 rfl (lv_at hl 3 rfl) ?_
          refine lv_iconst (v := 1) hx hb dX3_moveDown_41 (by decide) ?_
          refine lv_iadd hx hb dX3_moveDown_42 ?_
          refine lv_iload_n hx hb dX3_moveDown_43 rfl (lv_at hl 2 rfl) ?_
          refine lv_iload_n hx hb dX3_moveDown_44 rfl (lv_at hl 3 rfl) ?_
          refine lv_isub hx hb dX3_moveDown_45 ?_
          obtain ⟨g46_3, hF⟩ := gd hF
          obtain ⟨g46_5, hF⟩ := gd hF
          obtain ⟨g46_7, hF⟩ := gd hF
          obtain ⟨g46_9, hF⟩ := gd hF
          obtain ⟨g46_11, hF⟩ := gd hF
          obtain ⟨t_entries_46_8, et_entries_46_8⟩ : ∃ y : Nat → Int32, y = va_cpy t_entries_ t_entries_ p2.toNatClampNeg (p2 + 1).toNatClampNeg (p1 - p2).toNatClampNeg := ⟨_, rfl⟩
          have hF := ltE et_entries_46_8 hF
          refine my_copyi (sp := p2) (dp := (p2 + 1)) (n := (p1 - p2)) (g' := t_entries_46_8) (wn := [(a_t, .inr (3, [v_t_rows, .ref a_t_entries, v_t_bounds, v_t_starts, v_t_heats, v_t_sorted, .int t_size, .int t_pieces])), (a_t_entries, .inl (t 0, 120, .inl t_entries_46_8))]) hx hb (hml.trans hl.1.symm) hown hac hac_n hac_s hac_i hK hP hD hS 1 1 0 0 rfl rfl rfl rfl rfl g46_3 g46_5 g46_7 (Nat.not_lt.mp g46_9) (Nat.not_lt.mp g46_11) (fun _ _ => rfl) (Nat.le_of_ble_eq_true rfl) (Nat.le_of_ble_eq_true rfl) et_entries_46_8 rfl dX3_moveDown_46 (fun H locs hP hD hS => ?_)
          refine lv_aload_n hx hb dX3_moveDown_49 rfl (lv_at hl 1 rfl) ?_
          refine va_get (D := D) (ci := 3) (v := .ref a_t_entries) (C := RX3) (T := TX3) (N := 8) hx hb hts iw3 hown hK hP 0 rfl rfl 1 (by decide) hf9 (fun _ h9 => h9) rfl dX3_moveDown_50 ?_
          refine lv_iload_n hx hb dX3_moveDown_53 rfl (lv_at hl 3 rfl) ?_
          refine lv_iload_n hx hb dX3_moveDown_54 rfl (lv_at hl 0 rfl) ?_
          obtain ⟨g55_14, hF⟩ := gd hF
          obtain ⟨t_entries_55_10, et_entries_55_10⟩ : ∃ y : Nat → Int32, y = upd t_entries_46_8 p2.toNatClampNeg y30_2 := ⟨_, rfl⟩
          have hF := ltE et_entries_55_10 hF
          refine my_iast (g := t_entries_55_10) (wn := [(a_t, .inr (3, [v_t_rows, .ref a_t_entries, v_t_bounds, v_t_starts, v_t_heats, v_t_sorted, .int t_size, .int t_pieces])), (a_t_entries, .inl (t 0, 120, .inl t_entries_55_10))]) hx hb hK hP hD hS 1 0 rfl rfl g55_14 et_entries_55_10 rfl dX3_moveDown_55 (fun H locs hP hD hS => ?_)
          cases hF
          exact we_vret hx hb hr hlocks dX3_moveDown_56 rfl hQ hP hD hS
        · have hF := brF c20 hF
          cases hF
          exact we_vret hx hb hr hlocks dX3_moveDown_23 rfl hQ hP hD hS
abbrev rm_X3_movePiece : Room := { frames := 1, cells := 0, slots := 0, locals := 21 }
theorem hd_X3_movePiece : yX3_movePiece.cls = RX3 ∧ yX3_movePiece.cls ≠ "java/lang/invoke/MethodHandle" ∧ yX3_movePiece.cls ≠ "java/lang/invoke/VarHandle" ∧ (parseMethodDescriptor yX3_movePiece.desc).map (fun d => d.parameters.length) = some 2 := by decide +kernel
set_option maxRecDepth 100000 in
set_option maxHeartbeats 4000000 in
theorem c_X3_movePiece (l : Launch) (D : va_G) (t : Nat → ClassId) (z : Nat) (x : Nat → Nat) (a_t : Nat) (a_t_bounds : Nat) (a_t_heats : Nat) (a_t_sorted : Nat) (a_t_starts : Nat) (v_t_rows : Value) (v_t_entries : Value) (t_size : Int32) (t_pieces : Int32) (t_bounds_ : (Nat → Int32)) (t_heats_ : (Nat → Int32)) (t_sorted_ : (Nat → Int32)) (t_starts_ : (Nat → Int32)) (p1 : Int32) (p2 : Int32) (sz : Nat) (t_bounds_' : (Nat → Int32)) (t_heats_' : (Nat → Int32)) (t_sorted_' : (Nat → Int32)) (t_starts_' : (Nat → Int32)) (hF : f_X3_movePiece t_bounds_ t_heats_ t_sorted_ t_starts_ p1 p2 = some (t_bounds_', t_heats_', t_sorted_', t_starts_')) : WrM l D (TY t) z x yX3_movePiece wsX3_movePiece rm_X3_movePiece [.ref a_t, .int p1, .int p2] [(a_t, .inr (3, [v_t_rows, v_t_entries, .ref a_t_bounds, .ref a_t_starts, .ref a_t_heats, .ref a_t_sorted, .int t_size, .int t_pieces])), (a_t_bounds, .inl (t 0, 62, .inl t_bounds_)), (a_t_heats, .inl (t 0, 62, .inl t_heats_)), (a_t_sorted, .inl (t 0, 62, .inl t_sorted_)), (a_t_starts, .inl (t 0, 62, .inl t_starts_))] [(a_t, .inr (3, [v_t_rows, v_t_entries, .ref a_t_bounds, .ref a_t_starts, .ref a_t_heats, .ref a_t_sorted, .int t_size, .int t_pieces])), (a_t_bounds, .inl (t 0, 62, .inl t_bounds_')), (a_t_heats, .inl (t 0, 62, .inl t_heats_')), (a_t_sorted, .inl (t 0, 62, .inl t_sorted_')), (a_t_starts, .inl (t 0, 62, .inl t_starts_'))] sz none 0 0 := by
  obtain ⟨T9, hT⟩ : ∃ T9, T9 = (t_bounds_', t_heats_', t_sorted_', t_starts_') := ⟨_, rfl⟩
  rw [← hT] at hF
  obtain rfl : t_bounds_' = T9.1 := by rw [hT]
  obtain rfl : t_heats_' = T9.2.1 := by rw [hT]
  obtain rfl : t_sorted_' = T9.2.2.1 := by rw [hT]
  obtain rfl : t_starts_' = T9.2.2.2 := by rw [hT]
  clear hT
  refine wr_of (cc := cX3_movePiece) (maxL := 3) (ret := none) (by decide) rfl (Nat.le_of_ble_eq_true rfl) ?_
  intro p e s m args below meth c A Q hQ hx hb hr hml hts hown hlocks hin H locs hP hD hS hA hz hC ls hl
  have hown : s.vm.findClass RX3 = some m.cls := hown
  have hl : lv_has ls 3 [(0, .ref a_t), (1, .int p1), (2, .int p2)] := hl
  have hK := hC.1
  have iw3 : ∀ w ∈ wsX30, w ∈ wsX3_movePiece := fun _ h => List.mem_cons_of_mem _ (List.mem_append_right _ h)
  have hf15 := hts (.fieldLink RX3 15 "CrackedColumn$Index" "bounds" "[I") (by decide +kernel)
  have hf18 := hts (.fieldLink RX3 18 "CrackedColumn$Index" "starts" "[I") (by decide +kernel)
  have hf21 := hts (.fieldLink RX3 21 "CrackedColumn$Index" "heats" "[I") (by decide +kernel)
  have hf24 := hts (.fieldLink RX3 24 "CrackedColumn$Index" "sorted" "[I") (by decide +kernel)
  have hm_max90 := hts (.methodLink RX3 90 Lib.Math.max.name) (by decide +kernel)
  have hm_min84 := hts (.methodLink RX3 84 Lib.Math.min.name) (by decide +kernel)
  have hm_max_s := hts (.static Lib.Math.max.name) (by decide +kernel)
  have hm_max_c := hts (.code Lib.Math.max.name Lib.Math.max.code 2 (some .int)) (by decide +kernel)
  have hm_min_s := hts (.static Lib.Math.min.name) (by decide +kernel)
  have hm_min_c := hts (.code Lib.Math.min.name Lib.Math.min.code 2 (some .int)) (by decide +kernel)
  have hm_init := hts (.initialized "java/lang/Math") (by decide +kernel)
  unfold f_X3_movePiece at hF
  refine lv_iload_n hx hb dX3_movePiece_0 rfl (lv_at hl 1 rfl) ?_
  refine lv_iload_n hx hb dX3_movePiece_1 rfl (lv_at hl 2 rfl) ?_
  refine va_mmin hx hb (hml.trans hl.1.symm) hown hm_min84 hm_min_s hm_init hm_min_c (Nat.le_of_ble_eq_true rfl) (Nat.le_of_ble_eq_true rfl) (Nat.zero_le _) (Nat.zero_le _) dX3_movePiece_2 ?_
  refine lv_topi (fun y2_1 ey2_1 => ?_)
  have hF := ltE ey2_1 hF
  refine lv_if_lt (tgt := 18) hx hb dX3_movePiece_5 (by decide) (fun c5 => ?_) (fun c5 => ?_)
  · have hF := brT c5 hF
    cases hF
    exact we_vret hx hb hr hlocks dX3_movePiece_18 rfl hQ hP hD hS
  · have hF := brF c5 hF
    refine lv_iload_n hx hb dX3_movePiece_8 rfl (lv_at hl 1 rfl) ?_
    refine lv_iload_n hx hb dX3_movePiece_9 rfl (lv_at hl 2 rfl) ?_
    refine va_mmax hx hb (hml.trans hl.1.symm) hown hm_max90 hm_max_s hm_init hm_max_c (Nat.le_of_ble_eq_true rfl) (Nat.le_of_ble_eq_true rfl) (Nat.zero_le _) (Nat.zero_le _) dX3_movePiece_10 ?_
    refine lv_topi (fun y10_2 ey10_2 => ?_)
    have hF := ltE ey10_2 hF
    refine lv_bipush (v := 62) hx hb dX3_movePiece_13 (by decide) ?_
    refine lv_icmp_lt (tgt := 19) hx hb dX3_movePiece_15 (by decide) (fun c15 => ?_) (fun c15 => ?_)
    · have hF := brT c15 hF
      refine lv_aload_n hx hb dX3_movePiece_19 rfl (lv_at hl 0 rfl) ?_
      refine va_get (D := D) (ci := 3) (v := .ref a_t_bounds) (C := RX3) (T := TX3) (N := 8) hx hb hts iw3 hown hK hP 0 rfl rfl 2 (by decide) hf15 (fun _ h9 => h9) rfl dX3_movePiece_20 ?_
      refine lv_iload_n hx hb dX3_movePiece_23 rfl (lv_at hl 2 rfl) ?_
      refine lv_aload_n hx hb dX3_movePiece_24 rfl (lv_at hl 0 rfl) ?_
      refine va_get (D := D) (ci := 3) (v := .ref a_t_bounds) (C := RX3) (T := TX3) (N := 8) hx hb hts iw3 hown hK hP 0 rfl rfl 2 (by decide) hf15 (fun _ h9 => h9) rfl dX3_movePiece_25 ?_
      refine lv_iload_n hx hb dX3_movePiece_28 rfl (lv_at hl 1 rfl) ?_
      obtain ⟨g29_2, hF⟩ := gd hF
      refine my_iald (v := t_bounds_ p1.toNatClampNeg) hx hb hK hP 1 0 rfl rfl g29_2 rfl dX3_movePiece_29 ?_
      obtain ⟨g30_4, hF⟩ := gd hF
      obtain ⟨t_bounds_30_5, et_bounds_30_5⟩ : ∃ y : Nat → Int32, y = upd t_bounds_ p2.toNatClampNeg (t_bounds_ p1.toNatClampNeg) := ⟨_, rfl⟩
      have hF := ltE et_bounds_30_5 hF
      refine my_iast (g := t_bounds_30_5) (wn := [(a_t, .inr (3, [v_t_rows, v_t_entries, .ref a_t_bounds, .ref a_t_starts, .ref a_t_heats, .ref a_t_sorted, .int t_size, .int t_pieces])), (a_t_bounds, .inl (t 0, 62, .inl t_bounds_30_5)), (a_t_heats, .inl (t 0, 62, .inl t_heats_)), (a_t_sorted, .inl (t 0, 62, .inl t_sorted_)), (a_t_starts, .inl (t 0, 62, .inl t_starts_))]) hx hb hK hP hD hS 1 0 rfl rfl g30_4 et_bounds_30_5 rfl dX3_movePiece_30 (fun H locs hP hD hS => ?_)
      refine lv_aload_n hx hb dX3_movePiece_31 rfl (lv_at hl 0 rfl) ?_
      refine va_get (D := D) (ci := 3) (v := .ref a_t_starts) (C := RX3) (T := TX3) (N := 8) hx hb hts iw3 hown hK hP 0 rfl rfl 3 (by decide) hf18 (fun _ h9 => h9) rfl dX3_movePiece_32 ?_
      refine lv_iload_n hx hb dX3_movePiece_35 rfl (lv_at hl 2 rfl) ?_
      refine lv_aload_n hx hb dX3_movePiece_36 rfl (lv_at hl 0 rfl) ?_
      refine va_get (D := D) (ci := 3) (v := .ref a_t_starts) (C := RX3) (T := TX3) (N := 8) hx hb hts iw3 hown hK hP 0 rfl rfl 3 (by decide) hf18 (fun _ h9 => h9) rfl dX3_movePiece_37 ?_
      refine lv_iload_n hx hb dX3_movePiece_40 rfl (lv_at hl 1 rfl) ?_
      refine my_iald (v := t_starts_ p1.toNatClampNeg) hx hb hK hP 4 0 rfl rfl g29_2 rfl dX3_movePiece_41 ?_
      obtain ⟨t_starts_42_6, et_starts_42_6⟩ : ∃ y : Nat → Int32, y = upd t_starts_ p2.toNatClampNeg (t_starts_ p1.toNatClampNeg) := ⟨_, rfl⟩
      have hF := ltE et_starts_42_6 hF
      refine my_iast (g := t_starts_42_6) (wn := [(a_t, .inr (3, [v_t_rows, v_t_entries, .ref a_t_bounds, .ref a_t_starts, .ref a_t_heats, .ref a_t_sorted, .int t_size, .int t_pieces])), (a_t_bounds, .inl (t 0, 62, .inl t_bounds_30_5)), (a_t_heats, .inl (t 0, 62, .inl t_heats_)), (a_t_sorted, .inl (t 0, 62, .inl t_sorted_)), (a_t_starts, .inl (t 0, 62, .inl t_starts_42_6))]) hx hb hK hP hD hS 4 0 rfl rfl g30_4 et_starts_42_6 rfl dX3_movePiece_42 (fun H locs hP hD hS => ?_)
      refine lv_aload_n hx hb dX3_movePiece_43 rfl (lv_at hl 0 rfl) ?_
      refine va_get (D := D) (ci := 3) (v := .ref a_t_heats) (C := RX3) (T := TX3) (N := 8) hx hb hts iw3 hown hK hP 0 rfl rfl 4 (by decide) hf21 (fun _ h9 => h9) rfl dX3_movePiece_44 ?_
      refine lv_iload_n hx hb dX3_movePiece_47 rfl (lv_at hl 2 rfl) ?_
      refine lv_aload_n hx hb dX3_movePiece_48 rfl (lv_at hl 0 rfl) ?_
      refine va_get (D := D) (ci := 3) (v := .ref a_t_heats) (C := RX3) (T := TX3) (N := 8) hx hb hts iw3 hown hK hP 0 rfl rfl 4 (by decide) hf21 (fun _ h9 => h9) rfl dX3_movePiece_49 ?_
      refine lv_iload_n hx hb dX3_movePiece_52 rfl (lv_at hl 1 rfl) ?_
      refine my_iald (v := t_heats_ p1.toNatClampNeg) hx hb hK hP 2 0 rfl rfl g29_2 rfl dX3_movePiece_53 ?_
      obtain ⟨t_heats_54_7, et_heats_54_7⟩ : ∃ y : Nat → Int32, y = upd t_heats_ p2.toNatClampNeg (t_heats_ p1.toNatClampNeg) := ⟨_, rfl⟩
      have hF := ltE et_heats_54_7 hF
      refine my_iast (g := t_heats_54_7) (wn := [(a_t, .inr (3, [v_t_rows, v_t_entries, .ref a_t_bounds, .ref a_t_starts, .ref a_t_heats, .ref a_t_sorted, .int t_size, .int t_pieces])), (a_t_bounds, .inl (t 0, 62, .inl t_bounds_30_5)), (a_t_heats, .inl (t 0, 62, .inl t_heats_54_7)), (a_t_sorted, .inl (t 0, 62, .inl t_sorted_)), (a_t_starts, .inl (t 0, 62, .inl t_starts_42_6))]) hx hb hK hP hD hS 2 0 rfl rfl g30_4 et_heats_54_7 rfl dX3_movePiece_54 (fun H locs hP hD hS => ?_)
      refine lv_aload_n hx hb dX3_movePiece_55 rfl (lv_at hl 0 rfl) ?_
      refine va_get (D := D) (ci := 3) (v := .ref a_t_sorted) (C := RX3) (T := TX3) (N := 8) hx hb hts iw3 hown hK hP 0 rfl rfl 5 (by decide) hf24 (fun _ h9 => h9) rfl dX3_movePiece_56 ?_
      refine lv_iload_n hx hb dX3_movePiece_59 rfl (lv_at hl 2 rfl) ?_
      refine lv_aload_n hx hb dX3_movePiece_60 rfl (lv_at hl 0 rfl) ?_
      refine va_get (D := D) (ci := 3) (v := .ref a_t_sorted) (C := RX3) (T := TX3) (N := 8) hx hb hts iw3 hown hK hP 0 rfl rfl 5 (by decide) hf24 (fun _ h9 => h9) rfl dX3_movePiece_61 ?_
      refine lv_iload_n hx hb dX3_movePiece_64 rfl (lv_at hl 1 rfl) ?_
      refine my_iald (v := t_sorted_ p1.toNatClampNeg) hx hb hK hP 3 0 rfl rfl g29_2 rfl dX3_movePiece_65 ?_
      obtain ⟨t_sorted_66_8, et_sorted_66_8⟩ : ∃ y : Nat → Int32, y = upd t_sorted_ p2.toNatClampNeg (t_sorted_ p1.toNatClampNeg) := ⟨_, rfl⟩
      have hF := ltE et_sorted_66_8 hF
      refine my_iast (g := t_sorted_66_8) (wn := [(a_t, .inr (3, [v_t_rows, v_t_entries, .ref a_t_bounds, .ref a_t_starts, .ref a_t_heats, .ref a_t_sorted, .int t_size, .int t_pieces])), (a_t_bounds, .inl (t 0, 62, .inl t_bounds_30_5)), (a_t_heats, .inl (t 0, 62, .inl t_heats_54_7)), (a_t_sorted, .inl (t 0, 62, .inl t_sorted_66_8)), (a_t_starts, .inl (t 0, 62, .inl t_starts_42_6))]) hx hb hK hP hD hS 3 0 rfl rfl g30_4 et_sorted_66_8 rfl dX3_movePiece_66 (fun H locs hP hD hS => ?_)
      cases hF
      exact we_vret hx hb hr hlocks dX3_movePiece_67 rfl hQ hP hD hS
    · have hF := brF c15 hF
      cases hF
      exact we_vret hx hb hr hlocks dX3_movePiece_18 rfl hQ hP hD hS
abbrev rm_X3_aheadOf : Room := { frames := 2, cells := 0, slots := 0, locals := 45 }
theorem hd_X3_aheadOf : yX3_aheadOf.cls = RX3 ∧ yX3_aheadOf.cls ≠ "java/lang/invoke/MethodHandle" ∧ yX3_aheadOf.cls ≠ "java/lang/invoke/VarHandle" ∧ (parseMethodDescriptor yX3_aheadOf.desc).map (fun d => d.parameters.length) = some 3 := by decide +kernel
set_option maxRecDepth 100000 in
set_option maxHeartbeats 4000000 in
theorem c_X3_aheadOf (l : Launch) (D : va_G) (t : Nat → ClassId) (z : Nat) (x : Nat → Nat) (N : Nat) (a_t : Nat) (a_t_entries : Nat) (a_t_rows : Nat) (a_t_rows_keys : Nat) (v_t_bounds : Value) (v_t_starts : Value) (v_t_heats : Value) (v_t_sorted : Value) (v_t_rows_values : Value) (v_t_rows_states : Value) (t_size : Int32) (t_pieces : Int32) (t_entries_ : (Nat → Int32)) (t_rows_count : Int32) (t_rows_keys_ : (Nat → Int32)) (p1 : Int32) (p2 : Int32) (p3 : Int32) (H : Heap) (r : Int32) (hF : f_X3_aheadOf N t_size t_entries_ t_rows_keys_ p1 p2 p3 = some (r)) : RdM l D (TY t) z x yX3_aheadOf wsX3_aheadOf rm_X3_aheadOf [.ref a_t, .int p1, .int p2, .int p3] [(a_t, .inr (3, [.ref a_t_rows, .ref a_t_entries, v_t_bounds, v_t_starts, v_t_heats, v_t_sorted, .int t_size, .int t_pieces])), (a_t_entries, .inl (t 0, 120, .inl t_entries_)), (a_t_rows, .inr (6, [.ref a_t_rows_keys, v_t_rows_values, v_t_rows_states, .int t_rows_count])), (a_t_rows_keys, .inl (t 0, 120, .inl t_rows_keys_))] H (some (.int r)) := by
  refine rd_of (cc := cX3_aheadOf) (maxL := 6) (ret := (some .int)) (by decide) rfl (Nat.le_of_ble_eq_true rfl) ?_
  intro p e s m args below meth c Q hQ hx hb hr hml hts hown hlocks hH hP hC ls hl
  have hown : s.vm.findClass RX3 = some m.cls := hown
  have hl : lv_has ls 6 [(0, .ref a_t), (1, .int p1), (2, .int p2), (3, .int p3)] := hl
  have hK := hC.1
  have iw3 : ∀ w ∈ wsX30, w ∈ wsX3_aheadOf := fun _ h => List.mem_cons_of_mem _ (List.mem_append_left _ (List.mem_append_right _ h))
  have hf34 := hts (.fieldLink RX3 34 "CrackedColumn$Index" "rows" "LCrackedColumn$Rows;") (by decide +kernel)
  unfold f_X3_aheadOf at hF
  refine lv_iconst (v := 0) hx hb dX3_aheadOf_0 (by decide) ?_
  refine lv_istore (lv' := [(4, .int 0), (0, .ref a_t), (1, .int p1), (2, .int p2), (3, .int p3)]) hx hb dX3_aheadOf_1 hl (by decide) rfl (fun ls hl => ?_)
  refine lv_iload_n hx hb dX3_aheadOf_3 rfl (lv_at hl 3 rfl) ?_
  refine lv_istore (lv' := [(5, .int p2), (4, .int 0), (0, .ref a_t), (1, .int p1), (2, .int p2), (3, .int p3)]) hx hb dX3_aheadOf_4 hl (by decide) rfl (fun ls hl => ?_)
  obtain ⟨k45_2, ek45_2, hF⟩ := jnE hF
  have hk45_2 : ∀ (x4_45_1 : Int32) (ls : Array Slot), lv_has ls 6 [(4, .int x4_45_1)] → k45_2 x4_45_1 = some (r) → W p l e rm_X3_aheadOf s m args below meth c H [] 0 0 Q (F0 m 45 ls []) := by
    subst ek45_2
    intro x4_45_1 ls hl hF
    refine lv_iload hx hb dX3_aheadOf_45 (lv_at hl 0 rfl) ?_
    cases hF
    exact rd_iret hx hb hr hlocks dX3_aheadOf_47 rfl hQ
  have hlp6 : ∀ n6 : Nat, ∀ (x4_6_3 : Int32) (x5_6_4 : Int32) (ls : Array Slot), lv_has ls 6 [(0, .ref a_t), (1, .int p1), (3, .int p3), (4, .int x4_6_3), (5, .int x5_6_4)] → f_X3_aheadOf_6 t_size t_entries_ t_rows_keys_ p1 p3 k45_2 n6 x4_6_3 x5_6_4 = some (r) → W p l e rm_X3_aheadOf s m args below meth c H [] 0 0 Q (F0 m 6 ls []) := by
    intro n6
    induction n6 with
    | zero =>
      intro x4_6_3 x5_6_4 ls hl hF
      cases (show none = some (r) from hF)
    | succ n6 ih6 =>
      intro x4_6_3 x5_6_4 ls hl hF
      rw [f_X3_aheadOf_6] at hF
      refine lv_iload hx hb dX3_aheadOf_6 (lv_at hl 4 rfl) ?_
      refine lv_iload_n hx hb dX3_aheadOf_8 rfl (lv_at hl 2 rfl) ?_
      refine lv_icmp_ge (tgt := 45) hx hb dX3_aheadOf_9 (by decide) (fun c9 => ?_) (fun c9 => ?_)
      · have hF := brT c9 hF
        exact hk45_2 x4_6_3 ls (lv_sub hl [3] rfl) hF
      · have hF := brF c9 hF
        refine lv_iload hx hb dX3_aheadOf_12 (lv_at hl 3 rfl) ?_
        refine lv_aload_n hx hb dX3_aheadOf_14 rfl (lv_at hl 0 rfl) ?_
        refine va_get (D := D) (ci := 3) (v := .ref a_t_rows) (C := RX3) (T := TX3) (N := 8) hx hb hts iw3 hown hK hP 0 rfl rfl 0 (by decide) hf34 (fun _ h9 => h9) rfl dX3_aheadOf_15 ?_
        refine lv_aload_n hx hb dX3_aheadOf_18 rfl (lv_at hl 0 rfl) ?_
        refine lv_iload hx hb dX3_aheadOf_19 (lv_at hl 4 rfl) ?_
        obtain ⟨r21_5, h21_5, hF⟩ := bndE hF
        refine rdV (As := [.int x5_6_4]) (rest := [.ref a_t_rows, .int x4_6_3]) (C := RX3) ⟨hx, hb, hml, hown, hts⟩ (c_X3_rowAt l D t z x a_t a_t_entries (.ref a_t_rows) v_t_bounds v_t_starts v_t_heats v_t_sorted t_size t_pieces t_entries_ x5_6_4 H r21_5 h21_5) (cwV 1 hts gX3_aheadOf_X3_rowAt rfl rfl rfl hd_X3_rowAt ⟨Nat.le_of_ble_eq_true rfl, Nat.le_of_ble_eq_true rfl⟩) hC (selP (m9 := [true, true, false, false]) rfl rfl hP) 0 rfl (show vwCl[3]? = some (RX3, TX3, 8) from rfl) rfl rfl hl.1 rfl (Nat.le_of_ble_eq_true rfl) dX3_aheadOf_21 ⟨Nat.zero_le _, Nat.zero_le _⟩ rfl ?_
        refine lv_iload_n hx hb dX3_aheadOf_24 rfl (lv_at hl 1 rfl) ?_
        obtain ⟨r25_7, h25_7, hF⟩ := bndE hF
        refine rdV (As := [.int r21_5, .int p1]) (rest := [.int x4_6_3]) (C := RX6) ⟨hx, hb, hml, hown, hts⟩ (c_X6_isAhead l D t z x a_t_rows a_t_rows_keys v_t_rows_values v_t_rows_states t_rows_count t_rows_keys_ r21_5 p1 H r25_7 h25_7) (cwV 2 hts gX3_aheadOf_X6_isAhead rfl rfl rfl hd_X6_isAhead ⟨Nat.le_of_ble_eq_true rfl, Nat.le_of_ble_eq_true rfl⟩) hC (selP (m9 := [false, false, true, true]) rfl rfl hP) 0 rfl (show vwCl[6]? = some (RX6, TX6, 4) from rfl) rfl rfl hl.1 rfl (Nat.le_of_ble_eq_true rfl) dX3_aheadOf_25 ⟨Nat.zero_le _, Nat.zero_le _⟩ rfl ?_
        refine lv_if_eq (tgt := 35) hx hb dX3_aheadOf_28 (by decide) (fun c28 => ?_) (fun c28 => ?_)
        · have hF := brT c28 hF
          refine lv_iconst (v := 0) hx hb dX3_aheadOf_35 (by decide) ?_
          refine lv_iadd hx hb dX3_aheadOf_36 ?_
          refine lv_topi (fun y37_9 ey37_9 => ?_)
          have hF := ltE ey37_9 hF
          refine lv_istore (lv' := [(4, .int y37_9), (0, .ref a_t), (1, .int p1), (3, .int p3), (5, .int x5_6_4)]) hx hb dX3_aheadOf_37 hl (by decide) rfl (fun ls hl => ?_)
          obtain ⟨y39_10, ey39_10⟩ : ∃ y : Int32, y = x5_6_4 + 1 := ⟨_, rfl⟩
          have hF := ltE ey39_10 hF
          refine lv_iinc (v := y39_10) (lv' := [(5, .int y39_10), (4, .int y37_9), (0, .ref a_t), (1, .int p1), (3, .int p3)]) hx hb dX3_aheadOf_39 hl (k := 4) rfl (by rw [ey39_10]; rfl) (by decide) rfl (fun ls hl => ?_)
          refine lv_goto (tgt := 6) hx hb dX3_aheadOf_42 (by decide) ?_
          exact ih6 y37_9 y39_10 ls (lv_sub hl [2, 3, 4, 1, 0] rfl) hF
        · have hF := brF c28 hF
          refine lv_iconst (v := 1) hx hb dX3_aheadOf_31 (by decide) ?_
          refine lv_goto (tgt := 36) hx hb dX3_aheadOf_32 (by decide) ?_
          refine lv_iadd hx hb dX3_aheadOf_36 ?_
          refine lv_topi (fun y37_11 ey37_11 => ?_)
          have hF := ltE ey37_11 hF
          refine lv_istore (lv' := [(4, .int y37_11), (0, .ref a_t), (1, .int p1), (3, .int p3), (5, .int x5_6_4)]) hx hb dX3_aheadOf_37 hl (by decide) rfl (fun ls hl => ?_)
          obtain ⟨y39_12, ey39_12⟩ : ∃ y : Int32, y = x5_6_4 + 1 := ⟨_, rfl⟩
          have hF := ltE ey39_12 hF
          refine lv_iinc (v := y39_12) (lv' := [(5, .int y39_12), (4, .int y37_11), (0, .ref a_t), (1, .int p1), (3, .int p3)]) hx hb dX3_aheadOf_39 hl (k := 4) rfl (by rw [ey39_12]; rfl) (by decide) rfl (fun ls hl => ?_)
          refine lv_goto (tgt := 6) hx hb dX3_aheadOf_42 (by decide) ?_
          exact ih6 y37_11 y39_12 ls (lv_sub hl [2, 3, 4, 1, 0] rfl) hF
  exact hlp6 N 0 p2 ls (lv_sub hl [2, 3, 5, 1, 0] rfl) hF
abbrev rm_X3_slideDown : Room := { frames := 2, cells := 0, slots := 0, locals := 63 }
theorem hd_X3_slideDown : yX3_slideDown.cls = RX3 ∧ yX3_slideDown.cls ≠ "java/lang/invoke/MethodHandle" ∧ yX3_slideDown.cls ≠ "java/lang/invoke/VarHandle" ∧ (parseMethodDescriptor yX3_slideDown.desc).map (fun d => d.parameters.length) = some 2 := by decide +kernel
set_option maxRecDepth 100000 in
set_option maxHeartbeats 4000000 in
theorem c_X3_slideDown (l : Launch) (D : va_G) (t : Nat → ClassId) (z : Nat) (x : Nat → Nat) (N : Nat) (a_t : Nat) (a_t_entries : Nat) (a_t_rows : Nat) (a_t_rows_keys : Nat) (v_t_bounds : Value) (v_t_starts : Value) (v_t_heats : Value) (v_t_sorted : Value) (v_t_rows_values : Value) (v_t_rows_states : Value) (t_size : Int32) (t_pieces : Int32) (t_entries_ : (Nat → Int32)) (t_rows_count : Int32) (t_rows_keys_ : (Nat → Int32)) (p1 : Int32) (p2 : Int32) (sz : Nat) (t_entries_' : (Nat → Int32)) (hF : f_X3_slideDown N t_size t_entries_ t_rows_keys_ p1 p2 = some (t_entries_')) : WrM l D (TY t) z x yX3_slideDown wsX3_slideDown rm_X3_slideDown [.ref a_t, .int p1, .int p2] [(a_t, .inr (3, [.ref a_t_rows, .ref a_t_entries, v_t_bounds, v_t_starts, v_t_heats, v_t_sorted, .int t_size, .int t_pieces])), (a_t_entries, .inl (t 0, 120, .inl t_entries_)), (a_t_rows, .inr (6, [.ref a_t_rows_keys, v_t_rows_values, v_t_rows_states, .int t_rows_count])), (a_t_rows_keys, .inl (t 0, 120, .inl t_rows_keys_))] [(a_t, .inr (3, [.ref a_t_rows, .ref a_t_entries, v_t_bounds, v_t_starts, v_t_heats, v_t_sorted, .int t_size, .int t_pieces])), (a_t_entries, .inl (t 0, 120, .inl t_entries_')), (a_t_rows, .inr (6, [.ref a_t_rows_keys, v_t_rows_values, v_t_rows_states, .int t_rows_count])), (a_t_rows_keys, .inl (t 0, 120, .inl t_rows_keys_))] sz none 0 0 := by
  refine wr_of (cc := cX3_slideDown) (maxL := 5) (ret := none) (by decide) rfl (Nat.le_of_ble_eq_true rfl) ?_
  intro p e s m args below meth c A Q hQ hx hb hr hml hts hown hlocks hin H locs hP hD hS hA hz hC ls hl
  have hown : s.vm.findClass RX3 = some m.cls := hown
  have hl : lv_has ls 5 [(0, .ref a_t), (1, .int p1), (2, .int p2)] := hl
  have hK := hC.1
  have iw3 : ∀ w ∈ wsX30, w ∈ wsX3_slideDown := fun _ h => List.mem_cons_of_mem _ (List.mem_append_left _ (List.mem_append_right _ h))
  have hf34 := hts (.fieldLink RX3 34 "CrackedColumn$Index" "rows" "LCrackedColumn$Rows;") (by decide +kernel)
  unfold f_X3_slideDown at hF
  refine lv_aload_n hx hb dX3_slideDown_0 rfl (lv_at hl 0 rfl) ?_
  refine lv_iload_n hx hb dX3_slideDown_1 rfl (lv_at hl 2 rfl) ?_
  obtain ⟨r2_1, h2_1, hF⟩ := bndE hF
  refine rdV (As := [.int p2]) (rest := []) (C := RX3) ⟨hx, hb, hml, hown, hts⟩ (c_X3_rowAt l D t z x a_t a_t_entries (.ref a_t_rows) v_t_bounds v_t_starts v_t_heats v_t_sorted t_size t_pieces t_entries_ p2 H r2_1 h2_1) (cwV 1 hts gX3_slideDown_X3_rowAt rfl rfl rfl hd_X3_rowAt ⟨Nat.le_of_ble_eq_true rfl, Nat.le_of_ble_eq_true rfl⟩) (hC.at hz hS) (selP (m9 := [true, true, false, false]) rfl rfl hP) 0 rfl (show vwCl[3]? = some (RX3, TX3, 8) from rfl) rfl rfl hl.1 rfl (Nat.le_of_ble_eq_true rfl) dX3_slideDown_2 ⟨Nat.zero_le _, Nat.zero_le _⟩ rfl ?_
  refine lv_istore_n (lv' := [(3, .int r2_1), (0, .ref a_t), (1, .int p1), (2, .int p2)]) hx hb dX3_slideDown_5 rfl hl (by decide) rfl (fun ls hl => ?_)
  refine lv_iload_n hx hb dX3_slideDown_6 rfl (lv_at hl 3 rfl) ?_
  refine lv_istore (lv' := [(4, .int p2), (3, .int r2_1), (0, .ref a_t), (1, .int p1), (2, .int p2)]) hx hb dX3_slideDown_7 hl (by decide) rfl (fun ls hl => ?_)
  obtain ⟨k40_4, ek40_4, hF⟩ := jnE hF
  have hk40_4 : ∀ (x4_40_3 : Int32) (H : Heap) (locs : List Loc) (ls : Array Slot), va_P D vwCl [(a_t, .inr (3, [.ref a_t_rows, .ref a_t_entries, v_t_bounds, v_t_starts, v_t_heats, v_t_sorted, .int t_size, .int t_pieces])), (a_t_entries, .inl (t 0, 120, .inl t_entries_)), (a_t_rows, .inr (6, [.ref a_t_rows_keys, v_t_rows_values, v_t_rows_states, .int t_rows_count])), (a_t_rows_keys, .inl (t 0, 120, .inl t_rows_keys_))] H → va_D A [(a_t, .inr (3, [.ref a_t_rows, .ref a_t_entries, v_t_bounds, v_t_starts, v_t_heats, v_t_sorted, .int t_size, .int t_pieces])), (a_t_entries, .inl (t 0, 120, .inl t_entries_)), (a_t_rows, .inr (6, [.ref a_t_rows_keys, v_t_rows_values, v_t_rows_states, .int t_rows_count])), (a_t_rows_keys, .inl (t 0, 120, .inl t_rows_keys_))] → va_S A s.heap H locs → lv_has ls 5 [(0, .ref a_t), (2, .int p2), (4, .int x4_40_3)] → k40_4 x4_40_3 = some (t_entries_') → W p l e rm_X3_slideDown s m args below meth c H locs 0 0 Q (F0 m 40 ls []) := by
    subst ek40_4
    intro x4_40_3 H locs ls hP hD hS hl hF
    refine lv_aload_n hx hb dX3_slideDown_40 rfl (lv_at hl 0 rfl) ?_
    refine lv_iload_n hx hb dX3_slideDown_41 rfl (lv_at hl 1 rfl) ?_
    refine lv_iload hx hb dX3_slideDown_42 (lv_at hl 2 rfl) ?_
    obtain ⟨t_entries_44_5, h44_5, hF⟩ := bndE hF
    refine wrVM (As := [.int p2, .int x4_40_3]) (rest := []) (C := RX3) (wn := [(a_t, .inr (3, [.ref a_t_rows, .ref a_t_entries, v_t_bounds, v_t_starts, v_t_heats, v_t_sorted, .int t_size, .int t_pieces])), (a_t_entries, .inl (t 0, 120, .inl t_entries_44_5)), (a_t_rows, .inr (6, [.ref a_t_rows_keys, v_t_rows_values, v_t_rows_states, .int t_rows_count])), (a_t_rows_keys, .inl (t 0, 120, .inl t_rows_keys_))]) ⟨hx, hb, hml, hown, hts⟩ (c_X3_moveDown l D t z x a_t a_t_entries (.ref a_t_rows) v_t_bounds v_t_starts v_t_heats v_t_sorted t_size t_pieces t_entries_ p2 x4_40_3 H.size t_entries_44_5 h44_5) (cwV 2 hts gX3_slideDown_X3_moveDown rfl rfl rfl hd_X3_moveDown ⟨Nat.le_of_ble_eq_true rfl, Nat.le_of_ble_eq_true rfl⟩) (hC.at hz hS) hP hD hS hA hz [true, true, false, false] rfl rfl rfl rfl 0 rfl (show vwCl[3]? = some (RX3, TX3, 8) from rfl) rfl rfl hl.1 rfl (Nat.le_of_ble_eq_true rfl) dX3_slideDown_44 ⟨Nat.zero_le _, Nat.zero_le _⟩ rfl (fun H locs hP hD hS => ?_)
    cases hF
    exact we_vret hx hb hr hlocks dX3_slideDown_47 rfl hQ hP hD hS
  have hlp9 : ∀ n9 : Nat, ∀ (x4_9_7 : Int32) (H : Heap) (locs : List Loc) (ls : Array Slot), va_P D vwCl [(a_t, .inr (3, [.ref a_t_rows, .ref a_t_entries, v_t_bounds, v_t_starts, v_t_heats, v_t_sorted, .int t_size, .int t_pieces])), (a_t_entries, .inl (t 0, 120, .inl t_entries_)), (a_t_rows, .inr (6, [.ref a_t_rows_keys, v_t_rows_values, v_t_rows_states, .int t_rows_count])), (a_t_rows_keys, .inl (t 0, 120, .inl t_rows_keys_))] H → va_D A [(a_t, .inr (3, [.ref a_t_rows, .ref a_t_entries, v_t_bounds, v_t_starts, v_t_heats, v_t_sorted, .int t_size, .int t_pieces])), (a_t_entries, .inl (t 0, 120, .inl t_entries_)), (a_t_rows, .inr (6, [.ref a_t_rows_keys, v_t_rows_values, v_t_rows_states, .int t_rows_count])), (a_t_rows_keys, .inl (t 0, 120, .inl t_rows_keys_))] → va_S A s.heap H locs → lv_has ls 5 [(0, .ref a_t), (1, .int p1), (2, .int p2), (3, .int r2_1), (4, .int x4_9_7)] → f_X3_slideDown_9 t_size t_entries_ t_rows_keys_ p1 r2_1 k40_4 n9 x4_9_7 = some (t_entries_') → W p l e rm_X3_slideDown s m args below meth c H locs 0 0 Q (F0 m 9 ls []) := by
    intro n9
    induction n9 with
    | zero =>
      intro x4_9_7 H locs ls hP hD hS hl hF
      cases (show none = some (t_entries_') from hF)
    | succ n9 ih9 =>
      intro x4_9_7 H locs ls hP hD hS hl hF
      rw [f_X3_slideDown_9] at hF
      refine lv_iload hx hb dX3_slideDown_9 (lv_at hl 4 rfl) ?_
      refine lv_iload_n hx hb dX3_slideDown_11 rfl (lv_at hl 1 rfl) ?_
      refine lv_icmp_le (tgt := 40) hx hb dX3_slideDown_12 (by decide) (fun c12 => ?_) (fun c12 => ?_)
      · have hF := brT c12 hF
        exact hk40_4 x4_9_7 H locs ls hP hD hS (lv_sub hl [0, 2, 4] rfl) hF
      · have hF := brF c12 hF
        refine lv_aload_n hx hb dX3_slideDown_15 rfl (lv_at hl 0 rfl) ?_
        refine va_get (D := D) (ci := 3) (v := .ref a_t_rows) (C := RX3) (T := TX3) (N := 8) hx hb hts iw3 hown hK hP 0 rfl rfl 0 (by decide) hf34 (fun _ h9 => h9) rfl dX3_slideDown_16 ?_
        refine lv_iload_n hx hb dX3_slideDown_19 rfl (lv_at hl 3 rfl) ?_
        refine lv_aload_n hx hb dX3_slideDown_20 rfl (lv_at hl 0 rfl) ?_
        refine lv_iload hx hb dX3_slideDown_21 (lv_at hl 4 rfl) ?_
        refine lv_iconst (v := 1) hx hb dX3_slideDown_23 (by decide) ?_
        refine lv_isub hx hb dX3_slideDown_24 ?_
        obtain ⟨r25_8, h25_8, hF⟩ := bndE hF
        refine rdV (As := [.int (x4_9_7 - 1)]) (rest := [.int r2_1, .ref a_t_rows]) (C := RX3) ⟨hx, hb, hml, hown, hts⟩ (c_X3_rowAt l D t z x a_t a_t_entries (.ref a_t_rows) v_t_bounds v_t_starts v_t_heats v_t_sorted t_size t_pieces t_entries_ (x4_9_7 - 1) H r25_8 h25_8) (cwV 1 hts gX3_slideDown_X3_rowAt rfl rfl rfl hd_X3_rowAt ⟨Nat.le_of_ble_eq_true rfl, Nat.le_of_ble_eq_true rfl⟩) (hC.at hz hS) (selP (m9 := [true, true, false, false]) rfl rfl hP) 0 rfl (show vwCl[3]? = some (RX3, TX3, 8) from rfl) rfl rfl hl.1 rfl (Nat.le_of_ble_eq_true rfl) dX3_slideDown_25 ⟨Nat.zero_le _, Nat.zero_le _⟩ rfl ?_
        obtain ⟨r28_10, h28_10, hF⟩ := bndE hF
        refine rdV (As := [.int r2_1, .int r25_8]) (rest := []) (C := RX6) ⟨hx, hb, hml, hown, hts⟩ (c_X6_isAhead l D t z x a_t_rows a_t_rows_keys v_t_rows_values v_t_rows_states t_rows_count t_rows_keys_ r2_1 r25_8 H r28_10 h28_10) (cwV 2 hts gX3_slideDown_X6_isAhead rfl rfl rfl hd_X6_isAhead ⟨Nat.le_of_ble_eq_true rfl, Nat.le_of_ble_eq_true rfl⟩) (hC.at hz hS) (selP (m9 := [false, false, true, true]) rfl rfl hP) 0 rfl (show vwCl[6]? = some (RX6, TX6, 4) from rfl) rfl rfl hl.1 rfl (Nat.le_of_ble_eq_true rfl) dX3_slideDown_28 ⟨Nat.zero_le _, Nat.zero_le _⟩ rfl ?_
        refine lv_if_eq (tgt := 40) hx hb dX3_slideDown_31 (by decide) (fun c31 => ?_) (fun c31 => ?_)
        · have hF := brT c31 hF
          exact hk40_4 x4_9_7 H locs ls hP hD hS (lv_sub hl [0, 2, 4] rfl) hF
        · have hF := brF c31 hF
          obtain ⟨y34_12, ey34_12⟩ : ∃ y : Int32, y = x4_9_7 + (-1) := ⟨_, rfl⟩
          have hF := ltE ey34_12 hF
          refine lv_iinc (v := y34_12) (lv' := [(4, .int y34_12), (0, .ref a_t), (1, .int p1), (2, .int p2), (3, .int r2_1)]) hx hb dX3_slideDown_34 hl (k := 4) rfl (by rw [ey34_12]; rfl) (by decide) rfl (fun ls hl => ?_)
          refine lv_goto (tgt := 9) hx hb dX3_slideDown_37 (by decide) ?_
          exact ih9 y34_12 H locs ls hP hD hS (lv_sub hl [1, 2, 3, 4, 0] rfl) hF
  exact hlp9 N p2 H locs ls hP hD hS (lv_sub hl [2, 3, 4, 1, 0] rfl) hF
abbrev rm_X3_warm : Room := { frames := 1, cells := 0, slots := 0, locals := 21 }
theorem hd_X3_warm : yX3_warm.cls = RX3 ∧ yX3_warm.cls ≠ "java/lang/invoke/MethodHandle" ∧ yX3_warm.cls ≠ "java/lang/invoke/VarHandle" ∧ (parseMethodDescriptor yX3_warm.desc).map (fun d => d.parameters.length) = some 1 := by decide +kernel
set_option maxRecDepth 100000 in
set_option maxHeartbeats 4000000 in
theorem c_X3_warm (l : Launch) (D : va_G) (t : Nat → ClassId) (z : Nat) (x : Nat → Nat) (a_t : Nat) (a_t_heats : Nat) (v_t_rows : Value) (v_t_entries : Value) (v_t_bounds : Value) (v_t_starts : Value) (v_t_sorted : Value) (t_size : Int32) (t_pieces : Int32) (t_heats_ : (Nat → Int32)) (p1 : Int32) (sz : Nat) (t_heats_' : (Nat → Int32)) (hF : f_X3_warm t_pieces t_heats_ p1 = some (t_heats_')) : WrM l D (TY t) z x yX3_warm wsX3_warm rm_X3_warm [.ref a_t, .int p1] [(a_t, .inr (3, [v_t_rows, v_t_entries, v_t_bounds, v_t_starts, .ref a_t_heats, v_t_sorted, .int t_size, .int t_pieces])), (a_t_heats, .inl (t 0, 62, .inl t_heats_))] [(a_t, .inr (3, [v_t_rows, v_t_entries, v_t_bounds, v_t_starts, .ref a_t_heats, v_t_sorted, .int t_size, .int t_pieces])), (a_t_heats, .inl (t 0, 62, .inl t_heats_'))] sz none 0 0 := by
  refine wr_of (cc := cX3_warm) (maxL := 2) (ret := none) (by decide) rfl (Nat.le_of_ble_eq_true rfl) ?_
  intro p e s m args below meth c A Q hQ hx hb hr hml hts hown hlocks hin H locs hP hD hS hA hz hC ls hl
  have hown : s.vm.findClass RX3 = some m.cls := hown
  have hl : lv_has ls 2 [(0, .ref a_t), (1, .int p1)] := hl
  have hK := hC.1
  have iw3 : ∀ w ∈ wsX30, w ∈ wsX3_warm := fun _ h => List.mem_cons_of_mem _ (List.mem_append_right _ h)
  have hf21 := hts (.fieldLink RX3 21 "CrackedColumn$Index" "heats" "[I") (by decide +kernel)
  unfold f_X3_warm at hF
  refine lv_aload_n hx hb dX3_warm_0 rfl (lv_at hl 0 rfl) ?_
  refine lv_iload_n hx hb dX3_warm_1 rfl (lv_at hl 1 rfl) ?_
  obtain ⟨r2_1, h2_1, hF⟩ := bndE hF
  refine rdV (As := [.int p1]) (rest := []) (C := RX3) ⟨hx, hb, hml, hown, hts⟩ (c_X3_has l D t z x a_t v_t_rows v_t_entries v_t_bounds v_t_starts (.ref a_t_heats) v_t_sorted t_size t_pieces p1 H r2_1 h2_1) (cwV 1 hts gX3_warm_X3_has rfl rfl rfl hd_X3_has ⟨Nat.le_of_ble_eq_true rfl, Nat.le_of_ble_eq_true rfl⟩) (hC.at hz hS) (selP (m9 := [true, false]) rfl rfl hP) 0 rfl (show vwCl[3]? = some (RX3, TX3, 8) from rfl) rfl rfl hl.1 rfl (Nat.le_of_ble_eq_true rfl) dX3_warm_2 ⟨Nat.zero_le _, Nat.zero_le _⟩ rfl ?_
  refine lv_if_eq (tgt := 18) hx hb dX3_warm_5 (by decide) (fun c5 => ?_) (fun c5 => ?_)
  · have hF := brT c5 hF
    cases hF
    exact we_vret hx hb hr hlocks dX3_warm_18 rfl hQ hP hD hS
  · have hF := brF c5 hF
    refine lv_aload_n hx hb dX3_warm_8 rfl (lv_at hl 0 rfl) ?_
    refine va_get (D := D) (ci := 3) (v := .ref a_t_heats) (C := RX3) (T := TX3) (N := 8) hx hb hts iw3 hown hK hP 0 rfl rfl 4 (by decide) hf21 (fun _ h9 => h9) rfl dX3_warm_9 ?_
    refine lv_iload_n hx hb dX3_warm_12 rfl (lv_at hl 1 rfl) ?_
    refine lv_dup2_11 hx hb dX3_warm_13 rfl rfl ?_
    obtain ⟨g14_2, hF⟩ := gd hF
    refine my_iald (v := t_heats_ p1.toNatClampNeg) hx hb hK hP 1 0 rfl rfl g14_2 rfl dX3_warm_14 ?_
    refine lv_iconst (v := 1) hx hb dX3_warm_15 (by decide) ?_
    refine lv_iadd hx hb dX3_warm_16 ?_
    obtain ⟨t_heats_17_4, et_heats_17_4⟩ : ∃ y : Nat → Int32, y = upd t_heats_ p1.toNatClampNeg ((t_heats_ p1.toNatClampNeg) + 1) := ⟨_, rfl⟩
    have hF := ltE et_heats_17_4 hF
    refine my_iast (g := t_heats_17_4) (wn := [(a_t, .inr (3, [v_t_rows, v_t_entries, v_t_bounds, v_t_starts, .ref a_t_heats, v_t_sorted, .int t_size, .int t_pieces])), (a_t_heats, .inl (t 0, 62, .inl t_heats_17_4))]) hx hb hK hP hD hS 1 0 rfl rfl g14_2 et_heats_17_4 rfl dX3_warm_17 (fun H locs hP hD hS => ?_)
    cases hF
    exact we_vret hx hb hr hlocks dX3_warm_18 rfl hQ hP hD hS
abbrev rm_X3_joinNext : Room := { frames := 2, cells := 0, slots := 0, locals := 43 }
theorem hd_X3_joinNext : yX3_joinNext.cls = RX3 ∧ yX3_joinNext.cls ≠ "java/lang/invoke/MethodHandle" ∧ yX3_joinNext.cls ≠ "java/lang/invoke/VarHandle" ∧ (parseMethodDescriptor yX3_joinNext.desc).map (fun d => d.parameters.length) = some 1 := by decide +kernel
set_option maxRecDepth 100000 in
set_option maxHeartbeats 4000000 in
theorem c_X3_joinNext (l : Launch) (D : va_G) (t : Nat → ClassId) (z : Nat) (x : Nat → Nat) (N : Nat) (a_t : Nat) (a_t_bounds : Nat) (a_t_heats : Nat) (a_t_sorted : Nat) (a_t_starts : Nat) (v_t_rows : Value) (v_t_entries : Value) (t_size : Int32) (t_pieces : Int32) (t_bounds_ : (Nat → Int32)) (t_heats_ : (Nat → Int32)) (t_sorted_ : (Nat → Int32)) (t_starts_ : (Nat → Int32)) (p1 : Int32) (sz : Nat) (t_pieces' : Int32) (t_bounds_' : (Nat → Int32)) (t_heats_' : (Nat → Int32)) (t_sorted_' : (Nat → Int32)) (t_starts_' : (Nat → Int32)) (hF : f_X3_joinNext N t_pieces t_bounds_ t_heats_ t_sorted_ t_starts_ p1 = some (t_pieces', t_bounds_', t_heats_', t_sorted_', t_starts_')) : WrM l D (TY t) z x yX3_joinNext wsX3_joinNext rm_X3_joinNext [.ref a_t, .int p1] [(a_t, .inr (3, [v_t_rows, v_t_entries, .ref a_t_bounds, .ref a_t_starts, .ref a_t_heats, .ref a_t_sorted, .int t_size, .int t_pieces])), (a_t_bounds, .inl (t 0, 62, .inl t_bounds_)), (a_t_heats, .inl (t 0, 62, .inl t_heats_)), (a_t_sorted, .inl (t 0, 62, .inl t_sorted_)), (a_t_starts, .inl (t 0, 62, .inl t_starts_))] [(a_t, .inr (3, [v_t_rows, v_t_entries, .ref a_t_bounds, .ref a_t_starts, .ref a_t_heats, .ref a_t_sorted, .int t_size, .int t_pieces'])), (a_t_bounds, .inl (t 0, 62, .inl t_bounds_')), (a_t_heats, .inl (t 0, 62, .inl t_heats_')), (a_t_sorted, .inl (t 0, 62, .inl t_sorted_')), (a_t_starts, .inl (t 0, 62, .inl t_starts_'))] sz none 0 0 := by
  obtain ⟨T9, hT⟩ : ∃ T9, T9 = (t_pieces', t_bounds_', t_heats_', t_sorted_', t_starts_') := ⟨_, rfl⟩
  rw [← hT] at hF
  obtain rfl : t_pieces' = T9.1 := by rw [hT]
  obtain rfl : t_bounds_' = T9.2.1 := by rw [hT]
  obtain rfl : t_heats_' = T9.2.2.1 := by rw [hT]
  obtain rfl : t_sorted_' = T9.2.2.2.1 := by rw [hT]
  obtain rfl : t_starts_' = T9.2.2.2.2 := by rw [hT]
  clear hT
  refine wr_of (cc := cX3_joinNext) (maxL := 3) (ret := none) (by decide) rfl (Nat.le_of_ble_eq_true rfl) ?_
  intro p e s m args below meth c A Q hQ hx hb hr hml hts hown hlocks hin H locs hP hD hS hA hz hC ls hl
  have hown : s.vm.findClass RX3 = some m.cls := hown
  have hl : lv_has ls 3 [(0, .ref a_t), (1, .int p1)] := hl
  have hK := hC.1
  have iw3 : ∀ w ∈ wsX30, w ∈ wsX3_joinNext := fun _ h => List.mem_cons_of_mem _ (List.mem_append_right _ h)
  have hf21 := hts (.fieldLink RX3 21 "CrackedColumn$Index" "heats" "[I") (by decide +kernel)
  have hf24 := hts (.fieldLink RX3 24 "CrackedColumn$Index" "sorted" "[I") (by decide +kernel)
  have hf31 := hts (.fieldLink RX3 31 "CrackedColumn$Index" "pieces" "I") (by decide +kernel)
  unfold f_X3_joinNext at hF
  refine lv_aload_n hx hb dX3_joinNext_0 rfl (lv_at hl 0 rfl) ?_
  refine lv_iload_n hx hb dX3_joinNext_1 rfl (lv_at hl 1 rfl) ?_
  obtain ⟨r2_1, h2_1, hF⟩ := bndE hF
  refine rdV (As := [.int p1]) (rest := []) (C := RX3) ⟨hx, hb, hml, hown, hts⟩ (c_X3_has l D t z x a_t v_t_rows v_t_entries (.ref a_t_bounds) (.ref a_t_starts) (.ref a_t_heats) (.ref a_t_sorted) t_size t_pieces p1 H r2_1 h2_1) (cwV 1 hts gX3_joinNext_X3_has rfl rfl rfl hd_X3_has ⟨Nat.le_of_ble_eq_true rfl, Nat.le_of_ble_eq_true rfl⟩) (hC.at hz hS) (selP (m9 := [true, false, false, false, false]) rfl rfl hP) 0 rfl (show vwCl[3]? = some (RX3, TX3, 8) from rfl) rfl rfl hl.1 rfl (Nat.le_of_ble_eq_true rfl) dX3_joinNext_2 ⟨Nat.zero_le _, Nat.zero_le _⟩ rfl ?_
  refine lv_if_eq (tgt := 18) hx hb dX3_joinNext_5 (by decide) (fun c5 => ?_) (fun c5 => ?_)
  · have hF := brT c5 hF
    cases hF
    exact we_vret hx hb hr hlocks dX3_joinNext_18 rfl hQ hP hD hS
  · have hF := brF c5 hF
    refine lv_aload_n hx hb dX3_joinNext_8 rfl (lv_at hl 0 rfl) ?_
    refine lv_iload_n hx hb dX3_joinNext_9 rfl (lv_at hl 1 rfl) ?_
    refine lv_iconst (v := 1) hx hb dX3_joinNext_10 (by decide) ?_
    refine lv_iadd hx hb dX3_joinNext_11 ?_
    obtain ⟨r12_3, h12_3, hF⟩ := bndE hF
    refine rdV (As := [.int (p1 + 1)]) (rest := []) (C := RX3) ⟨hx, hb, hml, hown, hts⟩ (c_X3_has l D t z x a_t v_t_rows v_t_entries (.ref a_t_bounds) (.ref a_t_starts) (.ref a_t_heats) (.ref a_t_sorted) t_size t_pieces (p1 + 1) H r12_3 h12_3) (cwV 1 hts gX3_joinNext_X3_has rfl rfl rfl hd_X3_has ⟨Nat.le_of_ble_eq_true rfl, Nat.le_of_ble_eq_true rfl⟩) (hC.at hz hS) (selP (m9 := [true, false, false, false, false]) rfl rfl hP) 0 rfl (show vwCl[3]? = some (RX3, TX3, 8) from rfl) rfl rfl hl.1 rfl (Nat.le_of_ble_eq_true rfl) dX3_joinNext_12 ⟨Nat.zero_le _, Nat.zero_le _⟩ rfl ?_
    refine lv_if_ne (tgt := 19) hx hb dX3_joinNext_15 (by decide) (fun c15 => ?_) (fun c15 => ?_)
    · have hF := brF c15 hF
      refine lv_aload_n hx hb dX3_joinNext_19 rfl (lv_at hl 0 rfl) ?_
      refine va_get (D := D) (ci := 3) (v := .ref a_t_heats) (C := RX3) (T := TX3) (N := 8) hx hb hts iw3 hown hK hP 0 rfl rfl 4 (by decide) hf21 (fun _ h9 => h9) rfl dX3_joinNext_20 ?_
      refine lv_iload_n hx hb dX3_joinNext_23 rfl (lv_at hl 1 rfl) ?_
      refine lv_dup2_11 hx hb dX3_joinNext_24 rfl rfl ?_
      obtain ⟨g25_4, hF⟩ := gd hF
      refine my_iald (v := t_heats_ p1.toNatClampNeg) hx hb hK hP 2 0 rfl rfl g25_4 rfl dX3_joinNext_25 ?_
      refine lv_aload_n hx hb dX3_joinNext_26 rfl (lv_at hl 0 rfl) ?_
      refine va_get (D := D) (ci := 3) (v := .ref a_t_heats) (C := RX3) (T := TX3) (N := 8) hx hb hts iw3 hown hK hP 0 rfl rfl 4 (by decide) hf21 (fun _ h9 => h9) rfl dX3_joinNext_27 ?_
      refine lv_iload_n hx hb dX3_joinNext_30 rfl (lv_at hl 1 rfl) ?_
      refine lv_iconst (v := 1) hx hb dX3_joinNext_31 (by decide) ?_
      refine lv_iadd hx hb dX3_joinNext_32 ?_
      obtain ⟨g33_6, hF⟩ := gd hF
      refine my_iald (v := t_heats_ (p1 + 1).toNatClampNeg) hx hb hK hP 2 0 rfl rfl g33_6 rfl dX3_joinNext_33 ?_
      refine lv_iadd hx hb dX3_joinNext_34 ?_
      obtain ⟨t_heats_35_7, et_heats_35_7⟩ : ∃ y : Nat → Int32, y = upd t_heats_ p1.toNatClampNeg ((t_heats_ p1.toNatClampNeg) + (t_heats_ (p1 + 1).toNatClampNeg)) := ⟨_, rfl⟩
      have hF := ltE et_heats_35_7 hF
      refine my_iast (g := t_heats_35_7) (wn := [(a_t, .inr (3, [v_t_rows, v_t_entries, .ref a_t_bounds, .ref a_t_starts, .ref a_t_heats, .ref a_t_sorted, .int t_size, .int t_pieces])), (a_t_bounds, .inl (t 0, 62, .inl t_bounds_)), (a_t_heats, .inl (t 0, 62, .inl t_heats_35_7)), (a_t_sorted, .inl (t 0, 62, .inl t_sorted_)), (a_t_starts, .inl (t 0, 62, .inl t_starts_))]) hx hb hK hP hD hS 2 0 rfl rfl g25_4 et_heats_35_7 rfl dX3_joinNext_35 (fun H locs hP hD hS => ?_)
      refine lv_aload_n hx hb dX3_joinNext_36 rfl (lv_at hl 0 rfl) ?_
      refine va_get (D := D) (ci := 3) (v := .ref a_t_sorted) (C := RX3) (T := TX3) (N := 8) hx hb hts iw3 hown hK hP 0 rfl rfl 5 (by decide) hf24 (fun _ h9 => h9) rfl dX3_joinNext_37 ?_
      refine lv_iload_n hx hb dX3_joinNext_40 rfl (lv_at hl 1 rfl) ?_
      refine lv_dup2_11 hx hb dX3_joinNext_41 rfl rfl ?_
      refine my_iald (v := t_sorted_ p1.toNatClampNeg) hx hb hK hP 3 0 rfl rfl g25_4 rfl dX3_joinNext_42 ?_
      refine lv_aload_n hx hb dX3_joinNext_43 rfl (lv_at hl 0 rfl) ?_
      refine va_get (D := D) (ci := 3) (v := .ref a_t_sorted) (C := RX3) (T := TX3) (N := 8) hx hb hts iw3 hown hK hP 0 rfl rfl 5 (by decide) hf24 (fun _ h9 => h9) rfl dX3_joinNext_44 ?_
      refine lv_iload_n hx hb dX3_joinNext_47 rfl (lv_at hl 1 rfl) ?_
      refine lv_iconst (v := 1) hx hb dX3_joinNext_48 (by decide) ?_
      refine lv_iadd hx hb dX3_joinNext_49 ?_
      refine my_iald (v := t_sorted_ (p1 + 1).toNatClampNeg) hx hb hK hP 3 0 rfl rfl g33_6 rfl dX3_joinNext_50 ?_
      refine lv_imul hx hb dX3_joinNext_51 ?_
      obtain ⟨t_sorted_52_8, et_sorted_52_8⟩ : ∃ y : Nat → Int32, y = upd t_sorted_ p1.toNatClampNeg ((t_sorted_ p1.toNatClampNeg) * (t_sorted_ (p1 + 1).toNatClampNeg)) := ⟨_, rfl⟩
      have hF := ltE et_sorted_52_8 hF
      refine my_iast (g := t_sorted_52_8) (wn := [(a_t, .inr (3, [v_t_rows, v_t_entries, .ref a_t_bounds, .ref a_t_starts, .ref a_t_heats, .ref a_t_sorted, .int t_size, .int t_pieces])), (a_t_bounds, .inl (t 0, 62, .inl t_bounds_)), (a_t_heats, .inl (t 0, 62, .inl t_heats_35_7)), (a_t_sorted, .inl (t 0, 62, .inl t_sorted_52_8)), (a_t_starts, .inl (t 0, 62, .inl t_starts_))]) hx hb hK hP hD hS 3 0 rfl rfl g25_4 et_sorted_52_8 rfl dX3_joinNext_52 (fun H locs hP hD hS => ?_)
      refine lv_iload_n hx hb dX3_joinNext_53 rfl (lv_at hl 1 rfl) ?_
      refine lv_iconst (v := 2) hx hb dX3_joinNext_54 (by decide) ?_
      refine lv_iadd hx hb dX3_joinNext_55 ?_
      refine lv_topi (fun y56_9 ey56_9 => ?_)
      have hF := ltE ey56_9 hF
      refine lv_istore_n (lv' := [(2, .int y56_9), (0, .ref a_t), (1, .int p1)]) hx hb dX3_joinNext_56 rfl hl (by decide) rfl (fun ls hl => ?_)
      obtain ⟨k79_14, ek79_14, hF⟩ := jnE hF
      have hk79_14 : ∀ (t_bounds_79_10 : (Nat → Int32)) (t_heats_79_11 : (Nat → Int32)) (t_sorted_79_12 : (Nat → Int32)) (t_starts_79_13 : (Nat → Int32)) (H : Heap) (locs : List Loc) (ls : Array Slot), va_P D vwCl [(a_t, .inr (3, [v_t_rows, v_t_entries, .ref a_t_bounds, .ref a_t_starts, .ref a_t_heats, .ref a_t_sorted, .int t_size, .int t_pieces])), (a_t_bounds, .inl (t 0, 62, .inl t_bounds_79_10)), (a_t_heats, .inl (t 0, 62, .inl t_heats_79_11)), (a_t_sorted, .inl (t 0, 62, .inl t_sorted_79_12)), (a_t_starts, .inl (t 0, 62, .inl t_starts_79_13))] H → va_D A [(a_t, .inr (3, [v_t_rows, v_t_entries, .ref a_t_bounds, .ref a_t_starts, .ref a_t_heats, .ref a_t_sorted, .int t_size, .int t_pieces])), (a_t_bounds, .inl (t 0, 62, .inl t_bounds_79_10)), (a_t_heats, .inl (t 0, 62, .inl t_heats_79_11)), (a_t_sorted, .inl (t 0, 62, .inl t_sorted_79_12)), (a_t_starts, .inl (t 0, 62, .inl t_starts_79_13))] → va_S A s.heap H locs → lv_has ls 3 [(0, .ref a_t)] → k79_14 t_bounds_79_10 t_heats_79_11 t_sorted_79_12 t_starts_79_13 = some T9 → W p l e rm_X3_joinNext s m args below meth c H locs 0 0 Q (F0 m 79 ls []) := by
        subst ek79_14
        intro t_bounds_79_10 t_heats_79_11 t_sorted_79_12 t_starts_79_13 H locs ls hP hD hS hl hF
        refine lv_aload_n hx hb dX3_joinNext_79 rfl (lv_at hl 0 rfl) ?_
        refine lv_dup hx hb dX3_joinNext_80 rfl ?_
        refine va_get (D := D) (ci := 3) (v := .int t_pieces) (C := RX3) (T := TX3) (N := 8) hx hb hts iw3 hown hK hP 0 rfl rfl 7 (by decide) hf31 (fun _ h9 => h9) rfl dX3_joinNext_81 ?_
        refine lv_iconst (v := 1) hx hb dX3_joinNext_84 (by decide) ?_
        refine lv_isub hx hb dX3_joinNext_85 ?_
        refine lv_topi (fun y86_15 ey86_15 => ?_)
        have hF := ltE ey86_15 hF
        refine my_put (ty := .int) (v := .int y86_15) (ci := 3) (C := RX3) (T := TX3) (N := 8) (wn := [(a_t, .inr (3, [v_t_rows, v_t_entries, .ref a_t_bounds, .ref a_t_starts, .ref a_t_heats, .ref a_t_sorted, .int t_size, .int y86_15])), (a_t_bounds, .inl (t 0, 62, .inl t_bounds_79_10)), (a_t_heats, .inl (t 0, 62, .inl t_heats_79_11)), (a_t_sorted, .inl (t 0, 62, .inl t_sorted_79_12)), (a_t_starts, .inl (t 0, 62, .inl t_starts_79_13))]) hx hb hts iw3 tyX3 tyX3_ok nmX3 hown hK hP hD hS 0 rfl rfl 7 (by decide) hf31 (fun _ h9 => h9) rfl (by decide +kernel) rfl rfl (Nat.le_of_ble_eq_true rfl) rfl dX3_joinNext_86 (fun H locs hP hD hS => ?_)
        cases hF
        exact we_vret hx hb hr hlocks dX3_joinNext_89 rfl hQ hP hD hS
      have hlp57 : ∀ n57 : Nat, ∀ (x2_57_16 : Int32) (t_bounds_57_17 : (Nat → Int32)) (t_heats_57_18 : (Nat → Int32)) (t_sorted_57_19 : (Nat → Int32)) (t_starts_57_20 : (Nat → Int32)) (H : Heap) (locs : List Loc) (ls : Array Slot), va_P D vwCl [(a_t, .inr (3, [v_t_rows, v_t_entries, .ref a_t_bounds, .ref a_t_starts, .ref a_t_heats, .ref a_t_sorted, .int t_size, .int t_pieces])), (a_t_bounds, .inl (t 0, 62, .inl t_bounds_57_17)), (a_t_heats, .inl (t 0, 62, .inl t_heats_57_18)), (a_t_sorted, .inl (t 0, 62, .inl t_sorted_57_19)), (a_t_starts, .inl (t 0, 62, .inl t_starts_57_20))] H → va_D A [(a_t, .inr (3, [v_t_rows, v_t_entries, .ref a_t_bounds, .ref a_t_starts, .ref a_t_heats, .ref a_t_sorted, .int t_size, .int t_pieces])), (a_t_bounds, .inl (t 0, 62, .inl t_bounds_57_17)), (a_t_heats, .inl (t 0, 62, .inl t_heats_57_18)), (a_t_sorted, .inl (t 0, 62, .inl t_sorted_57_19)), (a_t_starts, .inl (t 0, 62, .inl t_starts_57_20))] → va_S A s.heap H locs → lv_has ls 3 [(0, .ref a_t), (2, .int x2_57_16)] → f_X3_joinNext_57 t_pieces k79_14 n57 x2_57_16 t_bounds_57_17 t_heats_57_18 t_sorted_57_19 t_starts_57_20 = some T9 → W p l e rm_X3_joinNext s m args below meth c H locs 0 0 Q (F0 m 57 ls []) := by
        intro n57
        induction n57 with
        | zero =>
          intro x2_57_16 t_bounds_57_17 t_heats_57_18 t_sorted_57_19 t_starts_57_20 H locs ls hP hD hS hl hF
          cases (show none = some T9 from hF)
        | succ n57 ih57 =>
          intro x2_57_16 t_bounds_57_17 t_heats_57_18 t_sorted_57_19 t_starts_57_20 H locs ls hP hD hS hl hF
          rw [f_X3_joinNext_57] at hF
          refine lv_iload_n hx hb dX3_joinNext_57 rfl (lv_at hl 1 rfl) ?_
          refine lv_aload_n hx hb dX3_joinNext_58 rfl (lv_at hl 0 rfl) ?_
          refine va_get (D := D) (ci := 3) (v := .int t_pieces) (C := RX3) (T := TX3) (N := 8) hx hb hts iw3 hown hK hP 0 rfl rfl 7 (by decide) hf31 (fun _ h9 => h9) rfl dX3_joinNext_59 ?_
          refine lv_icmp_ge (tgt := 79) hx hb dX3_joinNext_62 (by decide) (fun c62 => ?_) (fun c62 => ?_)
          · have hF := brT c62 hF
            exact hk79_14 t_bounds_57_17 t_heats_57_18 t_sorted_57_19 t_starts_57_20 H locs ls hP hD hS (lv_sub hl [0] rfl) hF
          · have hF := brF c62 hF
            refine lv_aload_n hx hb dX3_joinNext_65 rfl (lv_at hl 0 rfl) ?_
            refine lv_iload_n hx hb dX3_joinNext_66 rfl (lv_at hl 1 rfl) ?_
            refine lv_iload_n hx hb dX3_joinNext_67 rfl (lv_at hl 1 rfl) ?_
            refine lv_iconst (v := 1) hx hb dX3_joinNext_68 (by decide) ?_
            refine lv_isub hx hb dX3_joinNext_69 ?_
            obtain ⟨t_bounds_70_21, t_heats_70_22, t_sorted_70_23, t_starts_70_24, h70_24, hF⟩ := bnd4E hF
            refine wrVM (As := [.int x2_57_16, .int (x2_57_16 - 1)]) (rest := []) (C := RX3) (wn := [(a_t, .inr (3, [v_t_rows, v_t_entries, .ref a_t_bounds, .ref a_t_starts, .ref a_t_heats, .ref a_t_sorted, .int t_size, .int t_pieces])), (a_t_bounds, .inl (t 0, 62, .inl t_bounds_70_21)), (a_t_heats, .inl (t 0, 62, .inl t_heats_70_22)), (a_t_sorted, .inl (t 0, 62, .inl t_sorted_70_23)), (a_t_starts, .inl (t 0, 62, .inl t_starts_70_24))]) ⟨hx, hb, hml, hown, hts⟩ (c_X3_movePiece l D t z x a_t a_t_bounds a_t_heats a_t_sorted a_t_starts v_t_rows v_t_entries t_size t_pieces t_bounds_57_17 t_heats_57_18 t_sorted_57_19 t_starts_57_20 x2_57_16 (x2_57_16 - 1) H.size t_bounds_70_21 t_heats_70_22 t_sorted_70_23 t_starts_70_24 h70_24) (cwV 2 hts gX3_joinNext_X3_movePiece rfl rfl rfl hd_X3_movePiece ⟨Nat.le_of_ble_eq_true rfl, Nat.le_of_ble_eq_true rfl⟩) (hC.at hz hS) hP hD hS hA hz [true, true, true, true, true] rfl rfl rfl rfl 0 rfl (show vwCl[3]? = some (RX3, TX3, 8) from rfl) rfl rfl hl.1 rfl (Nat.le_of_ble_eq_true rfl) dX3_joinNext_70 ⟨Nat.zero_le _, Nat.zero_le _⟩ rfl (fun H locs hP hD hS => ?_)
            obtain ⟨y73_26, ey73_26⟩ : ∃ y : Int32, y = x2_57_16 + 1 := ⟨_, rfl⟩
            have hF := ltE ey73_26 hF
            refine lv_iinc (v := y73_26) (lv' := [(2, .int y73_26), (0, .ref a_t)]) hx hb dX3_joinNext_73 hl (k := 1) rfl (by rw [ey73_26]; rfl) (by decide) rfl (fun ls hl => ?_)
            refine lv_goto (tgt := 57) hx hb dX3_joinNext_76 (by decide) ?_
            exact ih57 y73_26 t_bounds_70_21 t_heats_70_22 t_sorted_70_23 t_starts_70_24 H locs ls hP hD hS (lv_sub hl [1, 0] rfl) hF
      exact hlp57 N y56_9 t_bounds_ t_heats_35_7 t_sorted_52_8 t_starts_ H locs ls hP hD hS (lv_sub hl [1, 0] rfl) hF
    · have hF := brT c15 hF
      cases hF
      exact we_vret hx hb hr hlocks dX3_joinNext_18 rfl hQ hP hD hS
abbrev rm_X3_hottestPiece : Room := { frames := 2, cells := 0, slots := 0, locals := 42 }
theorem hd_X3_hottestPiece : yX3_hottestPiece.cls = RX3 ∧ yX3_hottestPiece.cls ≠ "java/lang/invoke/MethodHandle" ∧ yX3_hottestPiece.cls ≠ "java/lang/invoke/VarHandle" ∧ (parseMethodDescriptor yX3_hottestPiece.desc).map (fun d => d.parameters.length) = some 0 := by decide +kernel
set_option maxRecDepth 100000 in
set_option maxHeartbeats 4000000 in
theorem c_X3_hottestPiece (l : Launch) (D : va_G) (t : Nat → ClassId) (z : Nat) (x : Nat → Nat) (N : Nat) (a_t : Nat) (a_t_heats : Nat) (v_t_rows : Value) (v_t_entries : Value) (v_t_bounds : Value) (v_t_starts : Value) (v_t_sorted : Value) (t_size : Int32) (t_pieces : Int32) (t_heats_ : (Nat → Int32)) (H : Heap) (r : Int32) (hF : f_X3_hottestPiece N t_pieces t_heats_ = some (r)) : RdM l D (TY t) z x yX3_hottestPiece wsX3_hottestPiece rm_X3_hottestPiece [.ref a_t] [(a_t, .inr (3, [v_t_rows, v_t_entries, v_t_bounds, v_t_starts, .ref a_t_heats, v_t_sorted, .int t_size, .int t_pieces])), (a_t_heats, .inl (t 0, 62, .inl t_heats_))] H (some (.int r)) := by
  refine rd_of (cc := cX3_hottestPiece) (maxL := 3) (ret := (some .int)) (by decide) rfl (Nat.le_of_ble_eq_true rfl) ?_
  intro p e s m args below meth c Q hQ hx hb hr hml hts hown hlocks hH hP hC ls hl
  have hown : s.vm.findClass RX3 = some m.cls := hown
  have hl : lv_has ls 3 [(0, .ref a_t)] := hl
  have hK := hC.1
  have iw3 : ∀ w ∈ wsX30, w ∈ wsX3_hottestPiece := fun _ h => List.mem_cons_of_mem _ (List.mem_append_right _ h)
  have hf31 := hts (.fieldLink RX3 31 "CrackedColumn$Index" "pieces" "I") (by decide +kernel)
  unfold f_X3_hottestPiece at hF
  refine lv_iconst (v := 0) hx hb dX3_hottestPiece_0 (by decide) ?_
  refine lv_istore_n (lv' := [(1, .int 0), (0, .ref a_t)]) hx hb dX3_hottestPiece_1 rfl hl (by decide) rfl (fun ls hl => ?_)
  refine lv_iconst (v := 1) hx hb dX3_hottestPiece_2 (by decide) ?_
  refine lv_istore_n (lv' := [(2, .int 1), (1, .int 0), (0, .ref a_t)]) hx hb dX3_hottestPiece_3 rfl hl (by decide) rfl (fun ls hl => ?_)
  obtain ⟨k37_2, ek37_2, hF⟩ := jnE hF
  have hk37_2 : ∀ (x1_37_1 : Int32) (ls : Array Slot), lv_has ls 3 [(1, .int x1_37_1)] → k37_2 x1_37_1 = some (r) → W p l e rm_X3_hottestPiece s m args below meth c H [] 0 0 Q (F0 m 37 ls []) := by
    subst ek37_2
    intro x1_37_1 ls hl hF
    refine lv_iload_n hx hb dX3_hottestPiece_37 rfl (lv_at hl 0 rfl) ?_
    cases hF
    exact rd_iret hx hb hr hlocks dX3_hottestPiece_38 rfl hQ
  have hlp4 : ∀ n4 : Nat, ∀ (x1_4_3 : Int32) (x2_4_4 : Int32) (ls : Array Slot), lv_has ls 3 [(0, .ref a_t), (1, .int x1_4_3), (2, .int x2_4_4)] → f_X3_hottestPiece_4 t_pieces t_heats_ k37_2 n4 x1_4_3 x2_4_4 = some (r) → W p l e rm_X3_hottestPiece s m args below meth c H [] 0 0 Q (F0 m 4 ls []) := by
    intro n4
    induction n4 with
    | zero =>
      intro x1_4_3 x2_4_4 ls hl hF
      cases (show none = some (r) from hF)
    | succ n4 ih4 =>
      intro x1_4_3 x2_4_4 ls hl hF
      rw [f_X3_hottestPiece_4] at hF
      refine lv_iload_n hx hb dX3_hottestPiece_4 rfl (lv_at hl 2 rfl) ?_
      refine lv_aload_n hx hb dX3_hottestPiece_5 rfl (lv_at hl 0 rfl) ?_
      refine va_get (D := D) (ci := 3) (v := .int t_pieces) (C := RX3) (T := TX3) (N := 8) hx hb hts iw3 hown hK hP 0 rfl rfl 7 (by decide) hf31 (fun _ h9 => h9) rfl dX3_hottestPiece_6 ?_
      refine lv_icmp_ge (tgt := 37) hx hb dX3_hottestPiece_9 (by decide) (fun c9 => ?_) (fun c9 => ?_)
      · have hF := brT c9 hF
        exact hk37_2 x1_4_3 ls (lv_sub hl [1] rfl) hF
      · have hF := brF c9 hF
        refine lv_aload_n hx hb dX3_hottestPiece_12 rfl (lv_at hl 0 rfl) ?_
        refine lv_iload_n hx hb dX3_hottestPiece_13 rfl (lv_at hl 2 rfl) ?_
        obtain ⟨r14_5, h14_5, hF⟩ := bndE hF
        refine rdV (As := [.int x2_4_4]) (rest := []) (C := RX3) ⟨hx, hb, hml, hown, hts⟩ (c_X3_heatOf l D t z x a_t a_t_heats v_t_rows v_t_entries v_t_bounds v_t_starts v_t_sorted t_size t_pieces t_heats_ x2_4_4 H r14_5 h14_5) (cwV 1 hts gX3_hottestPiece_X3_heatOf rfl rfl rfl hd_X3_heatOf ⟨Nat.le_of_ble_eq_true rfl, Nat.le_of_ble_eq_true rfl⟩) hC (selP (m9 := [true, true]) rfl rfl hP) 0 rfl (show vwCl[3]? = some (RX3, TX3, 8) from rfl) rfl rfl hl.1 rfl (Nat.le_of_ble_eq_true rfl) dX3_hottestPiece_14 ⟨Nat.zero_le _, Nat.zero_le _⟩ rfl ?_
        refine lv_aload_n hx hb dX3_hottestPiece_17 rfl (lv_at hl 0 rfl) ?_
        refine lv_iload_n hx hb dX3_hottestPiece_18 rfl (lv_at hl 1 rfl) ?_
        obtain ⟨r19_7, h19_7, hF⟩ := bndE hF
        refine rdV (As := [.int x1_4_3]) (rest := [.int r14_5]) (C := RX3) ⟨hx, hb, hml, hown, hts⟩ (c_X3_heatOf l D t z x a_t a_t_heats v_t_rows v_t_entries v_t_bounds v_t_starts v_t_sorted t_size t_pieces t_heats_ x1_4_3 H r19_7 h19_7) (cwV 1 hts gX3_hottestPiece_X3_heatOf rfl rfl rfl hd_X3_heatOf ⟨Nat.le_of_ble_eq_true rfl, Nat.le_of_ble_eq_true rfl⟩) hC (selP (m9 := [true, true]) rfl rfl hP) 0 rfl (show vwCl[3]? = some (RX3, TX3, 8) from rfl) rfl rfl hl.1 rfl (Nat.le_of_ble_eq_true rfl) dX3_hottestPiece_19 ⟨Nat.zero_le _, Nat.zero_le _⟩ rfl ?_
        refine lv_icmp_le (tgt := 29) hx hb dX3_hottestPiece_22 (by decide) (fun c22 => ?_) (fun c22 => ?_)
        · have hF := brT c22 hF
          refine lv_iload_n hx hb dX3_hottestPiece_29 rfl (lv_at hl 1 rfl) ?_
          refine lv_istore_n (lv' := [(1, .int x1_4_3), (0, .ref a_t), (2, .int x2_4_4)]) hx hb dX3_hottestPiece_30 rfl hl (by decide) rfl (fun ls hl => ?_)
          obtain ⟨y31_9, ey31_9⟩ : ∃ y : Int32, y = x2_4_4 + 1 := ⟨_, rfl⟩
          have hF := ltE ey31_9 hF
          refine lv_iinc (v := y31_9) (lv' := [(2, .int y31_9), (1, .int x1_4_3), (0, .ref a_t)]) hx hb dX3_hottestPiece_31 hl (k := 2) rfl (by rw [ey31_9]; rfl) (by decide) rfl (fun ls hl => ?_)
          refine lv_goto (tgt := 4) hx hb dX3_hottestPiece_34 (by decide) ?_
          exact ih4 x1_4_3 y31_9 ls (lv_sub hl [2, 1, 0] rfl) hF
        · have hF := brF c22 hF
          refine lv_iload_n hx hb dX3_hottestPiece_25 rfl (lv_at hl 2 rfl) ?_
          refine lv_goto (tgt := 30) hx hb dX3_hottestPiece_26 (by decide) ?_
          refine lv_istore_n (lv' := [(1, .int x2_4_4), (0, .ref a_t), (2, .int x2_4_4)]) hx hb dX3_hottestPiece_30 rfl hl (by decide) rfl (fun ls hl => ?_)
          obtain ⟨y31_10, ey31_10⟩ : ∃ y : Int32, y = x2_4_4 + 1 := ⟨_, rfl⟩
          have hF := ltE ey31_10 hF
          refine lv_iinc (v := y31_10) (lv' := [(2, .int y31_10), (1, .int x2_4_4), (0, .ref a_t)]) hx hb dX3_hottestPiece_31 hl (k := 2) rfl (by rw [ey31_10]; rfl) (by decide) rfl (fun ls hl => ?_)
          refine lv_goto (tgt := 4) hx hb dX3_hottestPiece_34 (by decide) ?_
          exact ih4 x2_4_4 y31_10 ls (lv_sub hl [2, 1, 0] rfl) hF
  exact hlp4 N 0 1 ls (lv_sub hl [2, 1, 0] rfl) hF
abbrev rm_X3_pairHeat : Room := { frames := 2, cells := 0, slots := 0, locals := 42 }
theorem hd_X3_pairHeat : yX3_pairHeat.cls = RX3 ∧ yX3_pairHeat.cls ≠ "java/lang/invoke/MethodHandle" ∧ yX3_pairHeat.cls ≠ "java/lang/invoke/VarHandle" ∧ (parseMethodDescriptor yX3_pairHeat.desc).map (fun d => d.parameters.length) = some 1 := by decide +kernel
set_option maxRecDepth 100000 in
set_option maxHeartbeats 4000000 in
theorem c_X3_pairHeat (l : Launch) (D : va_G) (t : Nat → ClassId) (z : Nat) (x : Nat → Nat) (a_t : Nat) (a_t_heats : Nat) (v_t_rows : Value) (v_t_entries : Value) (v_t_bounds : Value) (v_t_starts : Value) (v_t_sorted : Value) (t_size : Int32) (t_pieces : Int32) (t_heats_ : (Nat → Int32)) (p1 : Int32) (H : Heap) (r : Int32) (hF : f_X3_pairHeat t_pieces t_heats_ p1 = some (r)) : RdM l D (TY t) z x yX3_pairHeat wsX3_pairHeat rm_X3_pairHeat [.ref a_t, .int p1] [(a_t, .inr (3, [v_t_rows, v_t_entries, v_t_bounds, v_t_starts, .ref a_t_heats, v_t_sorted, .int t_size, .int t_pieces])), (a_t_heats, .inl (t 0, 62, .inl t_heats_))] H (some (.int r)) := by
  refine rd_of (cc := cX3_pairHeat) (maxL := 2) (ret := (some .int)) (by decide) rfl (Nat.le_of_ble_eq_true rfl) ?_
  intro p e s m args below meth c Q hQ hx hb hr hml hts hown hlocks hH hP hC ls hl
  have hown : s.vm.findClass RX3 = some m.cls := hown
  have hl : lv_has ls 2 [(0, .ref a_t), (1, .int p1)] := hl
  have hK := hC.1
  unfold f_X3_pairHeat at hF
  refine lv_aload_n hx hb dX3_pairHeat_0 rfl (lv_at hl 0 rfl) ?_
  refine lv_iload_n hx hb dX3_pairHeat_1 rfl (lv_at hl 1 rfl) ?_
  obtain ⟨r2_1, h2_1, hF⟩ := bndE hF
  refine rdV (As := [.int p1]) (rest := []) (C := RX3) ⟨hx, hb, hml, hown, hts⟩ (c_X3_heatOf l D t z x a_t a_t_heats v_t_rows v_t_entries v_t_bounds v_t_starts v_t_sorted t_size t_pieces t_heats_ p1 H r2_1 h2_1) (cwV 1 hts gX3_pairHeat_X3_heatOf rfl rfl rfl hd_X3_heatOf ⟨Nat.le_of_ble_eq_true rfl, Nat.le_of_ble_eq_true rfl⟩) hC (selP (m9 := [true, true]) rfl rfl hP) 0 rfl (show vwCl[3]? = some (RX3, TX3, 8) from rfl) rfl rfl hl.1 rfl (Nat.le_of_ble_eq_true rfl) dX3_pairHeat_2 ⟨Nat.zero_le _, Nat.zero_le _⟩ rfl ?_
  refine lv_aload_n hx hb dX3_pairHeat_5 rfl (lv_at hl 0 rfl) ?_
  refine lv_iload_n hx hb dX3_pairHeat_6 rfl (lv_at hl 1 rfl) ?_
  refine lv_iconst (v := 1) hx hb dX3_pairHeat_7 (by decide) ?_
  refine lv_iadd hx hb dX3_pairHeat_8 ?_
  obtain ⟨r9_3, h9_3, hF⟩ := bndE hF
  refine rdV (As := [.int (p1 + 1)]) (rest := [.int r2_1]) (C := RX3) ⟨hx, hb, hml, hown, hts⟩ (c_X3_heatOf l D t z x a_t a_t_heats v_t_rows v_t_entries v_t_bounds v_t_starts v_t_sorted t_size t_pieces t_heats_ (p1 + 1) H r9_3 h9_3) (cwV 1 hts gX3_pairHeat_X3_heatOf rfl rfl rfl hd_X3_heatOf ⟨Nat.le_of_ble_eq_true rfl, Nat.le_of_ble_eq_true rfl⟩) hC (selP (m9 := [true, true]) rfl rfl hP) 0 rfl (show vwCl[3]? = some (RX3, TX3, 8) from rfl) rfl rfl hl.1 rfl (Nat.le_of_ble_eq_true rfl) dX3_pairHeat_9 ⟨Nat.zero_le _, Nat.zero_le _⟩ rfl ?_
  refine lv_iadd hx hb dX3_pairHeat_12 ?_
  cases hF
  exact rd_iret hx hb hr hlocks dX3_pairHeat_13 rfl hQ
abbrev rm_X3_largestUnsorted : Room := { frames := 3, cells := 0, slots := 0, locals := 63 }
theorem hd_X3_largestUnsorted : yX3_largestUnsorted.cls = RX3 ∧ yX3_largestUnsorted.cls ≠ "java/lang/invoke/MethodHandle" ∧ yX3_largestUnsorted.cls ≠ "java/lang/invoke/VarHandle" ∧ (parseMethodDescriptor yX3_largestUnsorted.desc).map (fun d => d.parameters.length) = some 0 := by decide +kernel
set_option maxRecDepth 100000 in
set_option maxHeartbeats 4000000 in
theorem c_X3_largestUnsorted (l : Launch) (D : va_G) (t : Nat → ClassId) (z : Nat) (x : Nat → Nat) (N : Nat) (a_t : Nat) (a_t_sorted : Nat) (a_t_starts : Nat) (v_t_rows : Value) (v_t_entries : Value) (v_t_bounds : Value) (v_t_heats : Value) (t_size : Int32) (t_pieces : Int32) (t_sorted_ : (Nat → Int32)) (t_starts_ : (Nat → Int32)) (H : Heap) (r : Int32) (hF : f_X3_largestUnsorted N t_size t_pieces t_sorted_ t_starts_ = some (r)) : RdM l D (TY t) z x yX3_largestUnsorted wsX3_largestUnsorted rm_X3_largestUnsorted [.ref a_t] [(a_t, .inr (3, [v_t_rows, v_t_entries, v_t_bounds, .ref a_t_starts, v_t_heats, .ref a_t_sorted, .int t_size, .int t_pieces])), (a_t_sorted, .inl (t 0, 62, .inl t_sorted_)), (a_t_starts, .inl (t 0, 62, .inl t_starts_))] H (some (.int r)) := by
  refine rd_of (cc := cX3_largestUnsorted) (maxL := 3) (ret := (some .int)) (by decide) rfl (Nat.le_of_ble_eq_true rfl) ?_
  intro p e s m args below meth c Q hQ hx hb hr hml hts hown hlocks hH hP hC ls hl
  have hown : s.vm.findClass RX3 = some m.cls := hown
  have hl : lv_has ls 3 [(0, .ref a_t)] := hl
  have hK := hC.1
  have iw3 : ∀ w ∈ wsX30, w ∈ wsX3_largestUnsorted := fun _ h => List.mem_cons_of_mem _ (List.mem_append_right _ h)
  have hf31 := hts (.fieldLink RX3 31 "CrackedColumn$Index" "pieces" "I") (by decide +kernel)
  unfold f_X3_largestUnsorted at hF
  refine lv_iconst (v := (-1)) hx hb dX3_largestUnsorted_0 (by decide) ?_
  refine lv_istore_n (lv' := [(1, .int (-1)), (0, .ref a_t)]) hx hb dX3_largestUnsorted_1 rfl hl (by decide) rfl (fun ls hl => ?_)
  refine lv_iconst (v := 0) hx hb dX3_largestUnsorted_2 (by decide) ?_
  refine lv_istore_n (lv' := [(2, .int 0), (1, .int (-1)), (0, .ref a_t)]) hx hb dX3_largestUnsorted_3 rfl hl (by decide) rfl (fun ls hl => ?_)
  obtain ⟨k46_2, ek46_2, hF⟩ := jnE hF
  have hk46_2 : ∀ (x1_46_1 : Int32) (ls : Array Slot), lv_has ls 3 [(1, .int x1_46_1)] → k46_2 x1_46_1 = some (r) → W p l e rm_X3_largestUnsorted s m args below meth c H [] 0 0 Q (F0 m 46 ls []) := by
    subst ek46_2
    intro x1_46_1 ls hl hF
    refine lv_iload_n hx hb dX3_largestUnsorted_46 rfl (lv_at hl 0 rfl) ?_
    cases hF
    exact rd_iret hx hb hr hlocks dX3_largestUnsorted_47 rfl hQ
  have hlp4 : ∀ n4 : Nat, ∀ (x1_4_3 : Int32) (x2_4_4 : Int32) (ls : Array Slot), lv_has ls 3 [(0, .ref a_t), (1, .int x1_4_3), (2, .int x2_4_4)] → f_X3_largestUnsorted_4 t_size t_pieces t_sorted_ t_starts_ k46_2 n4 x1_4_3 x2_4_4 = some (r) → W p l e rm_X3_largestUnsorted s m args below meth c H [] 0 0 Q (F0 m 4 ls []) := by
    intro n4
    induction n4 with
    | zero =>
      intro x1_4_3 x2_4_4 ls hl hF
      cases (show none = some (r) from hF)
    | succ n4 ih4 =>
      intro x1_4_3 x2_4_4 ls hl hF
      rw [f_X3_largestUnsorted_4] at hF
      refine lv_iload_n hx hb dX3_largestUnsorted_4 rfl (lv_at hl 2 rfl) ?_
      refine lv_aload_n hx hb dX3_largestUnsorted_5 rfl (lv_at hl 0 rfl) ?_
      refine va_get (D := D) (ci := 3) (v := .int t_pieces) (C := RX3) (T := TX3) (N := 8) hx hb hts iw3 hown hK hP 0 rfl rfl 7 (by decide) hf31 (fun _ h9 => h9) rfl dX3_largestUnsorted_6 ?_
      refine lv_icmp_ge (tgt := 46) hx hb dX3_largestUnsorted_9 (by decide) (fun c9 => ?_) (fun c9 => ?_)
      · have hF := brT c9 hF
        exact hk46_2 x1_4_3 ls (lv_sub hl [1] rfl) hF
      · have hF := brF c9 hF
        refine lv_aload_n hx hb dX3_largestUnsorted_12 rfl (lv_at hl 0 rfl) ?_
        refine lv_iload_n hx hb dX3_largestUnsorted_13 rfl (lv_at hl 2 rfl) ?_
        obtain ⟨r14_5, h14_5, hF⟩ := bndE hF
        refine rdV (As := [.int x2_4_4]) (rest := []) (C := RX3) ⟨hx, hb, hml, hown, hts⟩ (c_X3_isSorted l D t z x a_t a_t_sorted v_t_rows v_t_entries v_t_bounds (.ref a_t_starts) v_t_heats t_size t_pieces t_sorted_ x2_4_4 H r14_5 h14_5) (cwV 1 hts gX3_largestUnsorted_X3_isSorted rfl rfl rfl hd_X3_isSorted ⟨Nat.le_of_ble_eq_true rfl, Nat.le_of_ble_eq_true rfl⟩) hC (selP (m9 := [true, true, false]) rfl rfl hP) 0 rfl (show vwCl[3]? = some (RX3, TX3, 8) from rfl) rfl rfl hl.1 rfl (Nat.le_of_ble_eq_true rfl) dX3_largestUnsorted_14 ⟨Nat.zero_le _, Nat.zero_le _⟩ rfl ?_
        refine lv_if_ne (tgt := 40) hx hb dX3_largestUnsorted_17 (by decide) (fun c17 => ?_) (fun c17 => ?_)
        · have hF := brF c17 hF
          obtain ⟨y40_7, ey40_7⟩ : ∃ y : Int32, y = x2_4_4 + 1 := ⟨_, rfl⟩
          have hF := ltE ey40_7 hF
          refine lv_iinc (v := y40_7) (lv' := [(2, .int y40_7), (0, .ref a_t), (1, .int x1_4_3)]) hx hb dX3_largestUnsorted_40 hl (k := 2) rfl (by rw [ey40_7]; rfl) (by decide) rfl (fun ls hl => ?_)
          refine lv_goto (tgt := 4) hx hb dX3_largestUnsorted_43 (by decide) ?_
          exact ih4 x1_4_3 y40_7 ls (lv_sub hl [1, 2, 0] rfl) hF
        · have hF := brT c17 hF
          refine lv_iload_n hx hb dX3_largestUnsorted_20 rfl (lv_at hl 1 rfl) ?_
          refine lv_iconst (v := (-1)) hx hb dX3_largestUnsorted_21 (by decide) ?_
          refine lv_icmp_eq (tgt := 38) hx hb dX3_largestUnsorted_22 (by decide) (fun c22 => ?_) (fun c22 => ?_)
          · have hF := brT c22 hF
            refine lv_iload_n hx hb dX3_largestUnsorted_38 rfl (lv_at hl 2 rfl) ?_
            refine lv_istore_n (lv' := [(1, .int x2_4_4), (0, .ref a_t), (2, .int x2_4_4)]) hx hb dX3_largestUnsorted_39 rfl hl (by decide) rfl (fun ls hl => ?_)
            obtain ⟨y40_8, ey40_8⟩ : ∃ y : Int32, y = x2_4_4 + 1 := ⟨_, rfl⟩
            have hF := ltE ey40_8 hF
            refine lv_iinc (v := y40_8) (lv' := [(2, .int y40_8), (1, .int x2_4_4), (0, .ref a_t)]) hx hb dX3_largestUnsorted_40 hl (k := 2) rfl (by rw [ey40_8]; rfl) (by decide) rfl (fun ls hl => ?_)
            refine lv_goto (tgt := 4) hx hb dX3_largestUnsorted_43 (by decide) ?_
            exact ih4 x2_4_4 y40_8 ls (lv_sub hl [2, 1, 0] rfl) hF
          · have hF := brF c22 hF
            refine lv_aload_n hx hb dX3_largestUnsorted_25 rfl (lv_at hl 0 rfl) ?_
            refine lv_iload_n hx hb dX3_largestUnsorted_26 rfl (lv_at hl 2 rfl) ?_
            obtain ⟨r27_9, h27_9, hF⟩ := bndE hF
            refine rdV (As := [.int x2_4_4]) (rest := []) (C := RX3) ⟨hx, hb, hml, hown, hts⟩ (c_X3_sizeOf l D t z x a_t a_t_starts v_t_rows v_t_entries v_t_bounds v_t_heats (.ref a_t_sorted) t_size t_pieces t_starts_ x2_4_4 H r27_9 h27_9) (cwV 1 hts gX3_largestUnsorted_X3_sizeOf rfl rfl rfl hd_X3_sizeOf ⟨Nat.le_of_ble_eq_true rfl, Nat.le_of_ble_eq_true rfl⟩) hC (selP (m9 := [true, false, true]) rfl rfl hP) 0 rfl (show vwCl[3]? = some (RX3, TX3, 8) from rfl) rfl rfl hl.1 rfl (Nat.le_of_ble_eq_true rfl) dX3_largestUnsorted_27 ⟨Nat.zero_le _, Nat.zero_le _⟩ rfl ?_
            refine lv_aload_n hx hb dX3_largestUnsorted_30 rfl (lv_at hl 0 rfl) ?_
            refine lv_iload_n hx hb dX3_largestUnsorted_31 rfl (lv_at hl 1 rfl) ?_
            obtain ⟨r32_11, h32_11, hF⟩ := bndE hF
            refine rdV (As := [.int x1_4_3]) (rest := [.int r27_9]) (C := RX3) ⟨hx, hb, hml, hown, hts⟩ (c_X3_sizeOf l D t z x a_t a_t_starts v_t_rows v_t_entries v_t_bounds v_t_heats (.ref a_t_sorted) t_size t_pieces t_starts_ x1_4_3 H r32_11 h32_11) (cwV 1 hts gX3_largestUnsorted_X3_sizeOf rfl rfl rfl hd_X3_sizeOf ⟨Nat.le_of_ble_eq_true rfl, Nat.le_of_ble_eq_true rfl⟩) hC (selP (m9 := [true, false, true]) rfl rfl hP) 0 rfl (show vwCl[3]? = some (RX3, TX3, 8) from rfl) rfl rfl hl.1 rfl (Nat.le_of_ble_eq_true rfl) dX3_largestUnsorted_32 ⟨Nat.zero_le _, Nat.zero_le _⟩ rfl ?_
            refine lv_icmp_le (tgt := 40) hx hb dX3_largestUnsorted_35 (by decide) (fun c35 => ?_) (fun c35 => ?_)
            · have hF := brT c35 hF
              obtain ⟨y40_13, ey40_13⟩ : ∃ y : Int32, y = x2_4_4 + 1 := ⟨_, rfl⟩
              have hF := ltE ey40_13 hF
              refine lv_iinc (v := y40_13) (lv' := [(2, .int y40_13), (0, .ref a_t), (1, .int x1_4_3)]) hx hb dX3_largestUnsorted_40 hl (k := 2) rfl (by rw [ey40_13]; rfl) (by decide) rfl (fun ls hl => ?_)
              refine lv_goto (tgt := 4) hx hb dX3_largestUnsorted_43 (by decide) ?_
              exact ih4 x1_4_3 y40_13 ls (lv_sub hl [1, 2, 0] rfl) hF
            · have hF := brF c35 hF
              refine lv_iload_n hx hb dX3_largestUnsorted_38 rfl (lv_at hl 2 rfl) ?_
              refine lv_istore_n (lv' := [(1, .int x2_4_4), (0, .ref a_t), (2, .int x2_4_4)]) hx hb dX3_largestUnsorted_39 rfl hl (by decide) rfl (fun ls hl => ?_)
              obtain ⟨y40_14, ey40_14⟩ : ∃ y : Int32, y = x2_4_4 + 1 := ⟨_, rfl⟩
              have hF := ltE ey40_14 hF
              refine lv_iinc (v := y40_14) (lv' := [(2, .int y40_14), (1, .int x2_4_4), (0, .ref a_t)]) hx hb dX3_largestUnsorted_40 hl (k := 2) rfl (by rw [ey40_14]; rfl) (by decide) rfl (fun ls hl => ?_)
              refine lv_goto (tgt := 4) hx hb dX3_largestUnsorted_43 (by decide) ?_
              exact ih4 x2_4_4 y40_14 ls (lv_sub hl [2, 1, 0] rfl) hF
  exact hlp4 N (-1) 0 ls (lv_sub hl [2, 1, 0] rfl) hF
abbrev rm_X3_gapAt : Room := { frames := 3, cells := 0, slots := 0, locals := 63 }
theorem hd_X3_gapAt : yX3_gapAt.cls = RX3 ∧ yX3_gapAt.cls ≠ "java/lang/invoke/MethodHandle" ∧ yX3_gapAt.cls ≠ "java/lang/invoke/VarHandle" ∧ (parseMethodDescriptor yX3_gapAt.desc).map (fun d => d.parameters.length) = some 2 := by decide +kernel
set_option maxRecDepth 100000 in
set_option maxHeartbeats 4000000 in
theorem c_X3_gapAt (l : Launch) (D : va_G) (t : Nat → ClassId) (z : Nat) (x : Nat → Nat) (N : Nat) (a_t : Nat) (a_t_entries : Nat) (a_t_starts : Nat) (a_t_rows : Nat) (a_t_rows_keys : Nat) (v_t_bounds : Value) (v_t_heats : Value) (v_t_sorted : Value) (v_t_rows_values : Value) (v_t_rows_states : Value) (t_size : Int32) (t_pieces : Int32) (t_entries_ : (Nat → Int32)) (t_starts_ : (Nat → Int32)) (t_rows_count : Int32) (t_rows_keys_ : (Nat → Int32)) (p1 : Int32) (p2 : Int32) (H : Heap) (r : Int32) (hF : f_X3_gapAt N t_size t_pieces t_entries_ t_starts_ t_rows_keys_ p1 p2 = some (r)) : RdM l D (TY t) z x yX3_gapAt wsX3_gapAt rm_X3_gapAt [.ref a_t, .int p1, .int p2] [(a_t, .inr (3, [.ref a_t_rows, .ref a_t_entries, v_t_bounds, .ref a_t_starts, v_t_heats, v_t_sorted, .int t_size, .int t_pieces])), (a_t_entries, .inl (t 0, 120, .inl t_entries_)), (a_t_starts, .inl (t 0, 62, .inl t_starts_)), (a_t_rows, .inr (6, [.ref a_t_rows_keys, v_t_rows_values, v_t_rows_states, .int t_rows_count])), (a_t_rows_keys, .inl (t 0, 120, .inl t_rows_keys_))] H (some (.int r)) := by
  refine rd_of (cc := cX3_gapAt) (maxL := 6) (ret := (some .int)) (by decide) rfl (Nat.le_of_ble_eq_true rfl) ?_
  intro p e s m args below meth c Q hQ hx hb hr hml hts hown hlocks hH hP hC ls hl
  have hown : s.vm.findClass RX3 = some m.cls := hown
  have hl : lv_has ls 6 [(0, .ref a_t), (1, .int p1), (2, .int p2)] := hl
  have hK := hC.1
  have hm_abs127 := hts (.methodLink RX3 127 Lib.Math.abs.name) (by decide +kernel)
  have hm_abs_s := hts (.static Lib.Math.abs.name) (by decide +kernel)
  have hm_abs_c := hts (.code Lib.Math.abs.name Lib.Math.abs.code 1 (some .int)) (by decide +kernel)
  have hm_init := hts (.initialized "java/lang/Math") (by decide +kernel)
  unfold f_X3_gapAt at hF
  refine lv_iconst (v := 0) hx hb dX3_gapAt_0 (by decide) ?_
  refine lv_istore_n (lv' := [(3, .int 0), (0, .ref a_t), (1, .int p1), (2, .int p2)]) hx hb dX3_gapAt_1 rfl hl (by decide) rfl (fun ls hl => ?_)
  refine lv_aload_n hx hb dX3_gapAt_2 rfl (lv_at hl 1 rfl) ?_
  refine lv_iload_n hx hb dX3_gapAt_3 rfl (lv_at hl 2 rfl) ?_
  refine lv_iconst (v := 1) hx hb dX3_gapAt_4 (by decide) ?_
  refine lv_iadd hx hb dX3_gapAt_5 ?_
  obtain ⟨r6_1, h6_1, hF⟩ := bndE hF
  refine rdV (As := [.int (p1 + 1)]) (rest := []) (C := RX3) ⟨hx, hb, hml, hown, hts⟩ (c_X3_startOf l D t z x a_t a_t_starts (.ref a_t_rows) (.ref a_t_entries) v_t_bounds v_t_heats v_t_sorted t_size t_pieces t_starts_ (p1 + 1) H r6_1 h6_1) (cwV 1 hts gX3_gapAt_X3_startOf rfl rfl rfl hd_X3_startOf ⟨Nat.le_of_ble_eq_true rfl, Nat.le_of_ble_eq_true rfl⟩) hC (selP (m9 := [true, false, true, false, false]) rfl rfl hP) 0 rfl (show vwCl[3]? = some (RX3, TX3, 8) from rfl) rfl rfl hl.1 rfl (Nat.le_of_ble_eq_true rfl) dX3_gapAt_6 ⟨Nat.zero_le _, Nat.zero_le _⟩ rfl ?_
  refine lv_istore (lv' := [(4, .int r6_1), (3, .int 0), (0, .ref a_t), (1, .int p1), (2, .int p2)]) hx hb dX3_gapAt_9 hl (by decide) rfl (fun ls hl => ?_)
  refine lv_aload_n hx hb dX3_gapAt_11 rfl (lv_at hl 2 rfl) ?_
  refine lv_iload_n hx hb dX3_gapAt_12 rfl (lv_at hl 3 rfl) ?_
  obtain ⟨r13_3, h13_3, hF⟩ := bndE hF
  refine rdV (As := [.int p1]) (rest := []) (C := RX3) ⟨hx, hb, hml, hown, hts⟩ (c_X3_startOf l D t z x a_t a_t_starts (.ref a_t_rows) (.ref a_t_entries) v_t_bounds v_t_heats v_t_sorted t_size t_pieces t_starts_ p1 H r13_3 h13_3) (cwV 1 hts gX3_gapAt_X3_startOf rfl rfl rfl hd_X3_startOf ⟨Nat.le_of_ble_eq_true rfl, Nat.le_of_ble_eq_true rfl⟩) hC (selP (m9 := [true, false, true, false, false]) rfl rfl hP) 0 rfl (show vwCl[3]? = some (RX3, TX3, 8) from rfl) rfl rfl hl.1 rfl (Nat.le_of_ble_eq_true rfl) dX3_gapAt_13 ⟨Nat.zero_le _, Nat.zero_le _⟩ rfl ?_
  refine lv_istore (lv' := [(5, .int r13_3), (4, .int r6_1), (3, .int 0), (0, .ref a_t), (1, .int p1), (2, .int p2)]) hx hb dX3_gapAt_16 hl (by decide) rfl (fun ls hl => ?_)
  obtain ⟨k49_6, ek49_6, hF⟩ := jnE hF
  have hk49_6 : ∀ (x3_49_5 : Int32) (ls : Array Slot), lv_has ls 6 [(0, .ref a_t), (1, .int p1), (3, .int x3_49_5)] → k49_6 x3_49_5 = some (r) → W p l e rm_X3_gapAt s m args below meth c H [] 0 0 Q (F0 m 49 ls []) := by
    subst ek49_6
    intro x3_49_5 ls hl hF
    refine lv_aload_n hx hb dX3_gapAt_49 rfl (lv_at hl 0 rfl) ?_
    refine lv_iload_n hx hb dX3_gapAt_50 rfl (lv_at hl 1 rfl) ?_
    obtain ⟨r51_7, h51_7, hF⟩ := bndE hF
    refine rdV (As := [.int p1]) (rest := []) (C := RX3) ⟨hx, hb, hml, hown, hts⟩ (c_X3_sizeOf l D t z x a_t a_t_starts (.ref a_t_rows) (.ref a_t_entries) v_t_bounds v_t_heats v_t_sorted t_size t_pieces t_starts_ p1 H r51_7 h51_7) (cwV 1 hts gX3_gapAt_X3_sizeOf rfl rfl rfl hd_X3_sizeOf ⟨Nat.le_of_ble_eq_true rfl, Nat.le_of_ble_eq_true rfl⟩) hC (selP (m9 := [true, false, true, false, false]) rfl rfl hP) 0 rfl (show vwCl[3]? = some (RX3, TX3, 8) from rfl) rfl rfl hl.1 rfl (Nat.le_of_ble_eq_true rfl) dX3_gapAt_51 ⟨Nat.zero_le _, Nat.zero_le _⟩ rfl ?_
    refine lv_iconst (v := 2) hx hb dX3_gapAt_54 (by decide) ?_
    refine lv_iload_n hx hb dX3_gapAt_55 rfl (lv_at hl 2 rfl) ?_
    refine lv_imul hx hb dX3_gapAt_56 ?_
    refine lv_isub hx hb dX3_gapAt_57 ?_
    refine va_mabs hx hb (hml.trans hl.1.symm) hown hm_abs127 hm_abs_s hm_init hm_abs_c (Nat.le_of_ble_eq_true rfl) (Nat.le_of_ble_eq_true rfl) (Nat.zero_le _) (Nat.zero_le _) dX3_gapAt_58 ?_
    refine lv_topi (fun y58_9 ey58_9 => ?_)
    have hF := ltE ey58_9 hF
    cases hF
    exact rd_iret hx hb hr hlocks dX3_gapAt_61 rfl hQ
  have hlp18 : ∀ n18 : Nat, ∀ (x3_18_10 : Int32) (x5_18_11 : Int32) (ls : Array Slot), lv_has ls 6 [(0, .ref a_t), (1, .int p1), (2, .int p2), (3, .int x3_18_10), (4, .int r6_1), (5, .int x5_18_11)] → f_X3_gapAt_18 t_size t_entries_ t_rows_keys_ p2 r6_1 k49_6 n18 x3_18_10 x5_18_11 = some (r) → W p l e rm_X3_gapAt s m args below meth c H [] 0 0 Q (F0 m 18 ls []) := by
    intro n18
    induction n18 with
    | zero =>
      intro x3_18_10 x5_18_11 ls hl hF
      cases (show none = some (r) from hF)
    | succ n18 ih18 =>
      intro x3_18_10 x5_18_11 ls hl hF
      rw [f_X3_gapAt_18] at hF
      refine lv_iload hx hb dX3_gapAt_18 (lv_at hl 5 rfl) ?_
      refine lv_iload hx hb dX3_gapAt_20 (lv_at hl 4 rfl) ?_
      refine lv_icmp_ge (tgt := 49) hx hb dX3_gapAt_22 (by decide) (fun c22 => ?_) (fun c22 => ?_)
      · have hF := brT c22 hF
        exact hk49_6 x3_18_10 ls (lv_sub hl [0, 1, 3] rfl) hF
      · have hF := brF c22 hF
        refine lv_iload_n hx hb dX3_gapAt_25 rfl (lv_at hl 3 rfl) ?_
        refine lv_aload_n hx hb dX3_gapAt_26 rfl (lv_at hl 0 rfl) ?_
        refine lv_iload hx hb dX3_gapAt_27 (lv_at hl 5 rfl) ?_
        obtain ⟨r29_12, h29_12, hF⟩ := bndE hF
        refine rdV (As := [.int x5_18_11]) (rest := [.int x3_18_10]) (C := RX3) ⟨hx, hb, hml, hown, hts⟩ (c_X3_keyAt l D t z x a_t a_t_entries a_t_rows a_t_rows_keys v_t_bounds (.ref a_t_starts) v_t_heats v_t_sorted v_t_rows_values v_t_rows_states t_size t_pieces t_entries_ t_rows_count t_rows_keys_ x5_18_11 H r29_12 h29_12) (cwV 1 hts gX3_gapAt_X3_keyAt rfl rfl rfl hd_X3_keyAt ⟨Nat.le_of_ble_eq_true rfl, Nat.le_of_ble_eq_true rfl⟩) hC (selP (m9 := [true, true, false, true, true]) rfl rfl hP) 0 rfl (show vwCl[3]? = some (RX3, TX3, 8) from rfl) rfl rfl hl.1 rfl (Nat.le_of_ble_eq_true rfl) dX3_gapAt_29 ⟨Nat.zero_le _, Nat.zero_le _⟩ rfl ?_
        refine lv_iload_n hx hb dX3_gapAt_32 rfl (lv_at hl 2 rfl) ?_
        refine lv_icmp_ge (tgt := 40) hx hb dX3_gapAt_33 (by decide) (fun c33 => ?_) (fun c33 => ?_)
        · have hF := brT c33 hF
          refine lv_iconst (v := 0) hx hb dX3_gapAt_40 (by decide) ?_
          refine lv_iadd hx hb dX3_gapAt_41 ?_
          refine lv_topi (fun y42_14 ey42_14 => ?_)
          have hF := ltE ey42_14 hF
          refine lv_istore_n (lv' := [(3, .int y42_14), (0, .ref a_t), (1, .int p1), (2, .int p2), (4, .int r6_1), (5, .int x5_18_11)]) hx hb dX3_gapAt_42 rfl hl (by decide) rfl (fun ls hl => ?_)
          obtain ⟨y43_15, ey43_15⟩ : ∃ y : Int32, y = x5_18_11 + 1 := ⟨_, rfl⟩
          have hF := ltE ey43_15 hF
          refine lv_iinc (v := y43_15) (lv' := [(5, .int y43_15), (3, .int y42_14), (0, .ref a_t), (1, .int p1), (2, .int p2), (4, .int r6_1)]) hx hb dX3_gapAt_43 hl (k := 5) rfl (by rw [ey43_15]; rfl) (by decide) rfl (fun ls hl => ?_)
          refine lv_goto (tgt := 18) hx hb dX3_gapAt_46 (by decide) ?_
          exact ih18 y42_14 y43_15 ls (lv_sub hl [2, 3, 4, 1, 5, 0] rfl) hF
        · have hF := brF c33 hF
          refine lv_iconst (v := 1) hx hb dX3_gapAt_36 (by decide) ?_
          refine lv_goto (tgt := 41) hx hb dX3_gapAt_37 (by decide) ?_
          refine lv_iadd hx hb dX3_gapAt_41 ?_
          refine lv_topi (fun y42_16 ey42_16 => ?_)
          have hF := ltE ey42_16 hF
          refine lv_istore_n (lv' := [(3, .int y42_16), (0, .ref a_t), (1, .int p1), (2, .int p2), (4, .int r6_1), (5, .int x5_18_11)]) hx hb dX3_gapAt_42 rfl hl (by decide) rfl (fun ls hl => ?_)
          obtain ⟨y43_17, ey43_17⟩ : ∃ y : Int32, y = x5_18_11 + 1 := ⟨_, rfl⟩
          have hF := ltE ey43_17 hF
          refine lv_iinc (v := y43_17) (lv' := [(5, .int y43_17), (3, .int y42_16), (0, .ref a_t), (1, .int p1), (2, .int p2), (4, .int r6_1)]) hx hb dX3_gapAt_43 hl (k := 5) rfl (by rw [ey43_17]; rfl) (by decide) rfl (fun ls hl => ?_)
          refine lv_goto (tgt := 18) hx hb dX3_gapAt_46 (by decide) ?_
          exact ih18 y42_16 y43_17 ls (lv_sub hl [2, 3, 4, 1, 5, 0] rfl) hF
  exact hlp18 N 0 r13_3 ls (lv_sub hl [3, 4, 5, 2, 1, 0] rfl) hF
abbrev rm_X3_become : Room := { frames := 2, cells := 0, slots := 0, locals := 61 }
theorem hd_X3_become : yX3_become.cls = RX3 ∧ yX3_become.cls ≠ "java/lang/invoke/MethodHandle" ∧ yX3_become.cls ≠ "java/lang/invoke/VarHandle" ∧ (parseMethodDescriptor yX3_become.desc).map (fun d => d.parameters.length) = some 1 := by decide +kernel
set_option maxRecDepth 100000 in
set_option maxHeartbeats 4000000 in
theorem c_X3_become (l : Launch) (D : va_G) (t : Nat → ClassId) (z : Nat) (x : Nat → Nat) (a_p1 : Nat) (a_p1_bounds : Nat) (a_p1_entries : Nat) (a_p1_heats : Nat) (a_p1_sorted : Nat) (a_p1_starts : Nat) (a_t : Nat) (a_t_bounds : Nat) (a_t_entries : Nat) (a_t_heats : Nat) (a_t_sorted : Nat) (a_t_starts : Nat) (v_p1_rows : Value) (v_t_rows : Value) (p1_size : Int32) (p1_pieces : Int32) (p1_bounds_ : (Nat → Int32)) (p1_entries_ : (Nat → Int32)) (p1_heats_ : (Nat → Int32)) (p1_sorted_ : (Nat → Int32)) (p1_starts_ : (Nat → Int32)) (t_size : Int32) (t_pieces : Int32) (t_bounds_ : (Nat → Int32)) (t_entries_ : (Nat → Int32)) (t_heats_ : (Nat → Int32)) (t_sorted_ : (Nat → Int32)) (t_starts_ : (Nat → Int32)) (sz : Nat) (t_size' : Int32) (t_pieces' : Int32) (t_bounds_' : (Nat → Int32)) (t_entries_' : (Nat → Int32)) (t_heats_' : (Nat → Int32)) (t_sorted_' : (Nat → Int32)) (t_starts_' : (Nat → Int32)) (hF : f_X3_become p1_size p1_pieces p1_bounds_ p1_entries_ p1_heats_ p1_sorted_ p1_starts_ t_bounds_ t_entries_ t_heats_ t_sorted_ t_starts_ = some (t_size', t_pieces', t_bounds_', t_entries_', t_heats_', t_sorted_', t_starts_')) : WrM l D (TY t) z x yX3_become wsX3_become rm_X3_become [.ref a_t, .ref a_p1] [(a_p1, .inr (3, [v_p1_rows, .ref a_p1_entries, .ref a_p1_bounds, .ref a_p1_starts, .ref a_p1_heats, .ref a_p1_sorted, .int p1_size, .int p1_pieces])), (a_p1_bounds, .inl (t 0, 62, .inl p1_bounds_)), (a_p1_entries, .inl (t 0, 120, .inl p1_entries_)), (a_p1_heats, .inl (t 0, 62, .inl p1_heats_)), (a_p1_sorted, .inl (t 0, 62, .inl p1_sorted_)), (a_p1_starts, .inl (t 0, 62, .inl p1_starts_)), (a_t, .inr (3, [v_t_rows, .ref a_t_entries, .ref a_t_bounds, .ref a_t_starts, .ref a_t_heats, .ref a_t_sorted, .int t_size, .int t_pieces])), (a_t_bounds, .inl (t 0, 62, .inl t_bounds_)), (a_t_entries, .inl (t 0, 120, .inl t_entries_)), (a_t_heats, .inl (t 0, 62, .inl t_heats_)), (a_t_sorted, .inl (t 0, 62, .inl t_sorted_)), (a_t_starts, .inl (t 0, 62, .inl t_starts_))] [(a_p1, .inr (3, [v_p1_rows, .ref a_p1_entries, .ref a_p1_bounds, .ref a_p1_starts, .ref a_p1_heats, .ref a_p1_sorted, .int p1_size, .int p1_pieces])), (a_p1_bounds, .inl (t 0, 62, .inl p1_bounds_)), (a_p1_entries, .inl (t 0, 120, .inl p1_entries_)), (a_p1_heats, .inl (t 0, 62, .inl p1_heats_)), (a_p1_sorted, .inl (t 0, 62, .inl p1_sorted_)), (a_p1_starts, .inl (t 0, 62, .inl p1_starts_)), (a_t, .inr (3, [v_t_rows, .ref a_t_entries, .ref a_t_bounds, .ref a_t_starts, .ref a_t_heats, .ref a_t_sorted, .int t_size', .int t_pieces'])), (a_t_bounds, .inl (t 0, 62, .inl t_bounds_')), (a_t_entries, .inl (t 0, 120, .inl t_entries_')), (a_t_heats, .inl (t 0, 62, .inl t_heats_')), (a_t_sorted, .inl (t 0, 62, .inl t_sorted_')), (a_t_starts, .inl (t 0, 62, .inl t_starts_'))] sz none 0 0 := by
  obtain ⟨T9, hT⟩ : ∃ T9, T9 = (t_size', t_pieces', t_bounds_', t_entries_', t_heats_', t_sorted_', t_starts_') := ⟨_, rfl⟩
  rw [← hT] at hF
  obtain rfl : t_size' = T9.1 := by rw [hT]
  obtain rfl : t_pieces' = T9.2.1 := by rw [hT]
  obtain rfl : t_bounds_' = T9.2.2.1 := by rw [hT]
  obtain rfl : t_entries_' = T9.2.2.2.1 := by rw [hT]
  obtain rfl : t_heats_' = T9.2.2.2.2.1 := by rw [hT]
  obtain rfl : t_sorted_' = T9.2.2.2.2.2.1 := by rw [hT]
  obtain rfl : t_starts_' = T9.2.2.2.2.2.2 := by rw [hT]
  clear hT
  refine wr_of (cc := cX3_become) (maxL := 2) (ret := none) (by decide) rfl (Nat.le_of_ble_eq_true rfl) ?_
  intro p e s m args below meth c A Q hQ hx hb hr hml hts hown hlocks hin H locs hP hD hS hA hz hC ls hl
  have hown : s.vm.findClass RX3 = some m.cls := hown
  have hl : lv_has ls 2 [(0, .ref a_t), (1, .ref a_p1)] := hl
  have hK := hC.1
  have iw3 : ∀ w ∈ wsX30, w ∈ wsX3_become := fun _ h => List.mem_cons_of_mem _ (List.mem_append_right _ h)
  have hf9 := hts (.fieldLink RX3 9 "CrackedColumn$Index" "entries" "[I") (by decide +kernel)
  have hf15 := hts (.fieldLink RX3 15 "CrackedColumn$Index" "bounds" "[I") (by decide +kernel)
  have hf18 := hts (.fieldLink RX3 18 "CrackedColumn$Index" "starts" "[I") (by decide +kernel)
  have hf21 := hts (.fieldLink RX3 21 "CrackedColumn$Index" "heats" "[I") (by decide +kernel)
  have hf24 := hts (.fieldLink RX3 24 "CrackedColumn$Index" "sorted" "[I") (by decide +kernel)
  have hf27 := hts (.fieldLink RX3 27 "CrackedColumn$Index" "size" "I") (by decide +kernel)
  have hf31 := hts (.fieldLink RX3 31 "CrackedColumn$Index" "pieces" "I") (by decide +kernel)
  have hini_X7 := hts (.initialized RX7) (by decide +kernel)
  unfold f_X3_become at hF
  refine lv_aload_n hx hb dX3_become_0 rfl (lv_at hl 1 rfl) ?_
  refine va_get (D := D) (ci := 3) (v := .ref a_p1_entries) (C := RX3) (T := TX3) (N := 8) hx hb hts iw3 hown hK hP 0 rfl rfl 1 (by decide) hf9 (fun _ h9 => h9) rfl dX3_become_1 ?_
  refine lv_aload_n hx hb dX3_become_4 rfl (lv_at hl 0 rfl) ?_
  refine va_get (D := D) (ci := 3) (v := .ref a_t_entries) (C := RX3) (T := TX3) (N := 8) hx hb hts iw3 hown hK hP 6 rfl rfl 1 (by decide) hf9 (fun _ h9 => h9) rfl dX3_become_5 ?_
  obtain ⟨t_entries_8_1, h8_1, hF⟩ := bndE hF
  refine wrSNM (As := [.ref a_p1_entries, .ref a_t_entries]) (rest := []) (wn := [(a_p1, .inr (3, [v_p1_rows, .ref a_p1_entries, .ref a_p1_bounds, .ref a_p1_starts, .ref a_p1_heats, .ref a_p1_sorted, .int p1_size, .int p1_pieces])), (a_p1_bounds, .inl (t 0, 62, .inl p1_bounds_)), (a_p1_entries, .inl (t 0, 120, .inl p1_entries_)), (a_p1_heats, .inl (t 0, 62, .inl p1_heats_)), (a_p1_sorted, .inl (t 0, 62, .inl p1_sorted_)), (a_p1_starts, .inl (t 0, 62, .inl p1_starts_)), (a_t, .inr (3, [v_t_rows, .ref a_t_entries, .ref a_t_bounds, .ref a_t_starts, .ref a_t_heats, .ref a_t_sorted, .int t_size, .int t_pieces])), (a_t_bounds, .inl (t 0, 62, .inl t_bounds_)), (a_t_entries, .inl (t 0, 120, .inl t_entries_8_1)), (a_t_heats, .inl (t 0, 62, .inl t_heats_)), (a_t_sorted, .inl (t 0, 62, .inl t_sorted_)), (a_t_starts, .inl (t 0, 62, .inl t_starts_))]) ⟨hx, hb, hml, hown, hts⟩ (c_X7_copyAll l D t z x a_p1_entries a_t_entries 120 120 p1_entries_ t_entries_ H.size t_entries_8_1 h8_1) ⟨va_cnB 2 hts gX3_become_X7_copyAll_n38 rfl rfl rfl (nw_8 hC.2.1) hini_X7 hd_X7_copyAll.2 ⟨Nat.le_of_ble_eq_true rfl, Nat.le_of_ble_eq_true rfl⟩, hts (.static yX7_copyAll) (by decide +kernel), trivial⟩ (hC.at hz hS) hP hD hS hA hz [false, false, true, false, false, false, false, false, true, false, false, false] rfl rfl rfl rfl rfl hl.1 rfl (Nat.le_of_ble_eq_true rfl) dX3_become_8 ⟨Nat.zero_le _, Nat.zero_le _⟩ rfl (fun H locs hP hD hS => ?_)
  refine lv_aload_n hx hb dX3_become_11 rfl (lv_at hl 1 rfl) ?_
  refine va_get (D := D) (ci := 3) (v := .ref a_p1_bounds) (C := RX3) (T := TX3) (N := 8) hx hb hts iw3 hown hK hP 0 rfl rfl 2 (by decide) hf15 (fun _ h9 => h9) rfl dX3_become_12 ?_
  refine lv_aload_n hx hb dX3_become_15 rfl (lv_at hl 0 rfl) ?_
  refine va_get (D := D) (ci := 3) (v := .ref a_t_bounds) (C := RX3) (T := TX3) (N := 8) hx hb hts iw3 hown hK hP 6 rfl rfl 2 (by decide) hf15 (fun _ h9 => h9) rfl dX3_become_16 ?_
  obtain ⟨t_bounds_19_3, h19_3, hF⟩ := bndE hF
  refine wrSNM (As := [.ref a_p1_bounds, .ref a_t_bounds]) (rest := []) (wn := [(a_p1, .inr (3, [v_p1_rows, .ref a_p1_entries, .ref a_p1_bounds, .ref a_p1_starts, .ref a_p1_heats, .ref a_p1_sorted, .int p1_size, .int p1_pieces])), (a_p1_bounds, .inl (t 0, 62, .inl p1_bounds_)), (a_p1_entries, .inl (t 0, 120, .inl p1_entries_)), (a_p1_heats, .inl (t 0, 62, .inl p1_heats_)), (a_p1_sorted, .inl (t 0, 62, .inl p1_sorted_)), (a_p1_starts, .inl (t 0, 62, .inl p1_starts_)), (a_t, .inr (3, [v_t_rows, .ref a_t_entries, .ref a_t_bounds, .ref a_t_starts, .ref a_t_heats, .ref a_t_sorted, .int t_size, .int t_pieces])), (a_t_bounds, .inl (t 0, 62, .inl t_bounds_19_3)), (a_t_entries, .inl (t 0, 120, .inl t_entries_8_1)), (a_t_heats, .inl (t 0, 62, .inl t_heats_)), (a_t_sorted, .inl (t 0, 62, .inl t_sorted_)), (a_t_starts, .inl (t 0, 62, .inl t_starts_))]) ⟨hx, hb, hml, hown, hts⟩ (c_X7_copyAll l D t z x a_p1_bounds a_t_bounds 62 62 p1_bounds_ t_bounds_ H.size t_bounds_19_3 h19_3) ⟨va_cnB 2 hts gX3_become_X7_copyAll_n38 rfl rfl rfl (nw_8 hC.2.1) hini_X7 hd_X7_copyAll.2 ⟨Nat.le_of_ble_eq_true rfl, Nat.le_of_ble_eq_true rfl⟩, hts (.static yX7_copyAll) (by decide +kernel), trivial⟩ (hC.at hz hS) hP hD hS hA hz [false, true, false, false, false, false, false, true, false, false, false, false] rfl rfl rfl rfl rfl hl.1 rfl (Nat.le_of_ble_eq_true rfl) dX3_become_19 ⟨Nat.zero_le _, Nat.zero_le _⟩ rfl (fun H locs hP hD hS => ?_)
  refine lv_aload_n hx hb dX3_become_22 rfl (lv_at hl 1 rfl) ?_
  refine va_get (D := D) (ci := 3) (v := .ref a_p1_starts) (C := RX3) (T := TX3) (N := 8) hx hb hts iw3 hown hK hP 0 rfl rfl 3 (by decide) hf18 (fun _ h9 => h9) rfl dX3_become_23 ?_
  refine lv_aload_n hx hb dX3_become_26 rfl (lv_at hl 0 rfl) ?_
  refine va_get (D := D) (ci := 3) (v := .ref a_t_starts) (C := RX3) (T := TX3) (N := 8) hx hb hts iw3 hown hK hP 6 rfl rfl 3 (by decide) hf18 (fun _ h9 => h9) rfl dX3_become_27 ?_
  obtain ⟨t_starts_30_5, h30_5, hF⟩ := bndE hF
  refine wrSNM (As := [.ref a_p1_starts, .ref a_t_starts]) (rest := []) (wn := [(a_p1, .inr (3, [v_p1_rows, .ref a_p1_entries, .ref a_p1_bounds, .ref a_p1_starts, .ref a_p1_heats, .ref a_p1_sorted, .int p1_size, .int p1_pieces])), (a_p1_bounds, .inl (t 0, 62, .inl p1_bounds_)), (a_p1_entries, .inl (t 0, 120, .inl p1_entries_)), (a_p1_heats, .inl (t 0, 62, .inl p1_heats_)), (a_p1_sorted, .inl (t 0, 62, .inl p1_sorted_)), (a_p1_starts, .inl (t 0, 62, .inl p1_starts_)), (a_t, .inr (3, [v_t_rows, .ref a_t_entries, .ref a_t_bounds, .ref a_t_starts, .ref a_t_heats, .ref a_t_sorted, .int t_size, .int t_pieces])), (a_t_bounds, .inl (t 0, 62, .inl t_bounds_19_3)), (a_t_entries, .inl (t 0, 120, .inl t_entries_8_1)), (a_t_heats, .inl (t 0, 62, .inl t_heats_)), (a_t_sorted, .inl (t 0, 62, .inl t_sorted_)), (a_t_starts, .inl (t 0, 62, .inl t_starts_30_5))]) ⟨hx, hb, hml, hown, hts⟩ (c_X7_copyAll l D t z x a_p1_starts a_t_starts 62 62 p1_starts_ t_starts_ H.size t_starts_30_5 h30_5) ⟨va_cnB 2 hts gX3_become_X7_copyAll_n38 rfl rfl rfl (nw_8 hC.2.1) hini_X7 hd_X7_copyAll.2 ⟨Nat.le_of_ble_eq_true rfl, Nat.le_of_ble_eq_true rfl⟩, hts (.static yX7_copyAll) (by decide +kernel), trivial⟩ (hC.at hz hS) hP hD hS hA hz [false, false, false, false, false, true, false, false, false, false, false, true] rfl rfl rfl rfl rfl hl.1 rfl (Nat.le_of_ble_eq_true rfl) dX3_become_30 ⟨Nat.zero_le _, Nat.zero_le _⟩ rfl (fun H locs hP hD hS => ?_)
  refine lv_aload_n hx hb dX3_become_33 rfl (lv_at hl 1 rfl) ?_
  refine va_get (D := D) (ci := 3) (v := .ref a_p1_heats) (C := RX3) (T := TX3) (N := 8) hx hb hts iw3 hown hK hP 0 rfl rfl 4 (by decide) hf21 (fun _ h9 => h9) rfl dX3_become_34 ?_
  refine lv_aload_n hx hb dX3_become_37 rfl (lv_at hl 0 rfl) ?_
  refine va_get (D := D) (ci := 3) (v := .ref a_t_heats) (C := RX3) (T := TX3) (N := 8) hx hb hts iw3 hown hK hP 6 rfl rfl 4 (by decide) hf21 (fun _ h9 => h9) rfl dX3_become_38 ?_
  obtain ⟨t_heats_41_7, h41_7, hF⟩ := bndE hF
  refine wrSNM (As := [.ref a_p1_heats, .ref a_t_heats]) (rest := []) (wn := [(a_p1, .inr (3, [v_p1_rows, .ref a_p1_entries, .ref a_p1_bounds, .ref a_p1_starts, .ref a_p1_heats, .ref a_p1_sorted, .int p1_size, .int p1_pieces])), (a_p1_bounds, .inl (t 0, 62, .inl p1_bounds_)), (a_p1_entries, .inl (t 0, 120, .inl p1_entries_)), (a_p1_heats, .inl (t 0, 62, .inl p1_heats_)), (a_p1_sorted, .inl (t 0, 62, .inl p1_sorted_)), (a_p1_starts, .inl (t 0, 62, .inl p1_starts_)), (a_t, .inr (3, [v_t_rows, .ref a_t_entries, .ref a_t_bounds, .ref a_t_starts, .ref a_t_heats, .ref a_t_sorted, .int t_size, .int t_pieces])), (a_t_bounds, .inl (t 0, 62, .inl t_bounds_19_3)), (a_t_entries, .inl (t 0, 120, .inl t_entries_8_1)), (a_t_heats, .inl (t 0, 62, .inl t_heats_41_7)), (a_t_sorted, .inl (t 0, 62, .inl t_sorted_)), (a_t_starts, .inl (t 0, 62, .inl t_starts_30_5))]) ⟨hx, hb, hml, hown, hts⟩ (c_X7_copyAll l D t z x a_p1_heats a_t_heats 62 62 p1_heats_ t_heats_ H.size t_heats_41_7 h41_7) ⟨va_cnB 2 hts gX3_become_X7_copyAll_n38 rfl rfl rfl (nw_8 hC.2.1) hini_X7 hd_X7_copyAll.2 ⟨Nat.le_of_ble_eq_true rfl, Nat.le_of_ble_eq_true rfl⟩, hts (.static yX7_copyAll) (by decide +kernel), trivial⟩ (hC.at hz hS) hP hD hS hA hz [false, false, false, true, false, false, false, false, false, true, false, false] rfl rfl rfl rfl rfl hl.1 rfl (Nat.le_of_ble_eq_true rfl) dX3_become_41 ⟨Nat.zero_le _, Nat.zero_le _⟩ rfl (fun H locs hP hD hS => ?_)
  refine lv_aload_n hx hb dX3_become_44 rfl (lv_at hl 1 rfl) ?_
  refine va_get (D := D) (ci := 3) (v := .ref a_p1_sorted) (C := RX3) (T := TX3) (N := 8) hx hb hts iw3 hown hK hP 0 rfl rfl 5 (by decide) hf24 (fun _ h9 => h9) rfl dX3_become_45 ?_
  refine lv_aload_n hx hb dX3_become_48 rfl (lv_at hl 0 rfl) ?_
  refine va_get (D := D) (ci := 3) (v := .ref a_t_sorted) (C := RX3) (T := TX3) (N := 8) hx hb hts iw3 hown hK hP 6 rfl rfl 5 (by decide) hf24 (fun _ h9 => h9) rfl dX3_become_49 ?_
  obtain ⟨t_sorted_52_9, h52_9, hF⟩ := bndE hF
  refine wrSNM (As := [.ref a_p1_sorted, .ref a_t_sorted]) (rest := []) (wn := [(a_p1, .inr (3, [v_p1_rows, .ref a_p1_entries, .ref a_p1_bounds, .ref a_p1_starts, .ref a_p1_heats, .ref a_p1_sorted, .int p1_size, .int p1_pieces])), (a_p1_bounds, .inl (t 0, 62, .inl p1_bounds_)), (a_p1_entries, .inl (t 0, 120, .inl p1_entries_)), (a_p1_heats, .inl (t 0, 62, .inl p1_heats_)), (a_p1_sorted, .inl (t 0, 62, .inl p1_sorted_)), (a_p1_starts, .inl (t 0, 62, .inl p1_starts_)), (a_t, .inr (3, [v_t_rows, .ref a_t_entries, .ref a_t_bounds, .ref a_t_starts, .ref a_t_heats, .ref a_t_sorted, .int t_size, .int t_pieces])), (a_t_bounds, .inl (t 0, 62, .inl t_bounds_19_3)), (a_t_entries, .inl (t 0, 120, .inl t_entries_8_1)), (a_t_heats, .inl (t 0, 62, .inl t_heats_41_7)), (a_t_sorted, .inl (t 0, 62, .inl t_sorted_52_9)), (a_t_starts, .inl (t 0, 62, .inl t_starts_30_5))]) ⟨hx, hb, hml, hown, hts⟩ (c_X7_copyAll l D t z x a_p1_sorted a_t_sorted 62 62 p1_sorted_ t_sorted_ H.size t_sorted_52_9 h52_9) ⟨va_cnB 2 hts gX3_become_X7_copyAll_n38 rfl rfl rfl (nw_8 hC.2.1) hini_X7 hd_X7_copyAll.2 ⟨Nat.le_of_ble_eq_true rfl, Nat.le_of_ble_eq_true rfl⟩, hts (.static yX7_copyAll) (by decide +kernel), trivial⟩ (hC.at hz hS) hP hD hS hA hz [false, false, false, false, true, false, false, false, false, false, true, false] rfl rfl rfl rfl rfl hl.1 rfl (Nat.le_of_ble_eq_true rfl) dX3_become_52 ⟨Nat.zero_le _, Nat.zero_le _⟩ rfl (fun H locs hP hD hS => ?_)
  refine lv_aload_n hx hb dX3_become_55 rfl (lv_at hl 0 rfl) ?_
  refine lv_aload_n hx hb dX3_become_56 rfl (lv_at hl 1 rfl) ?_
  refine va_get (D := D) (ci := 3) (v := .int p1_size) (C := RX3) (T := TX3) (N := 8) hx hb hts iw3 hown hK hP 0 rfl rfl 6 (by decide) hf27 (fun _ h9 => h9) rfl dX3_become_57 ?_
  refine my_put (ty := .int) (v := .int p1_size) (ci := 3) (C := RX3) (T := TX3) (N := 8) (wn := [(a_p1, .inr (3, [v_p1_rows, .ref a_p1_entries, .ref a_p1_bounds, .ref a_p1_starts, .ref a_p1_heats, .ref a_p1_sorted, .int p1_size, .int p1_pieces])), (a_p1_bounds, .inl (t 0, 62, .inl p1_bounds_)), (a_p1_entries, .inl (t 0, 120, .inl p1_entries_)), (a_p1_heats, .inl (t 0, 62, .inl p1_heats_)), (a_p1_sorted, .inl (t 0, 62, .inl p1_sorted_)), (a_p1_starts, .inl (t 0, 62, .inl p1_starts_)), (a_t, .inr (3, [v_t_rows, .ref a_t_entries, .ref a_t_bounds, .ref a_t_starts, .ref a_t_heats, .ref a_t_sorted, .int p1_size, .int t_pieces])), (a_t_bounds, .inl (t 0, 62, .inl t_bounds_19_3)), (a_t_entries, .inl (t 0, 120, .inl t_entries_8_1)), (a_t_heats, .inl (t 0, 62, .inl t_heats_41_7)), (a_t_sorted, .inl (t 0, 62, .inl t_sorted_52_9)), (a_t_starts, .inl (t 0, 62, .inl t_starts_30_5))]) hx hb hts iw3 tyX3 tyX3_ok nmX3 hown hK hP hD hS 6 rfl rfl 6 (by decide) hf27 (fun _ h9 => h9) rfl (by decide +kernel) rfl rfl (Nat.le_of_ble_eq_true rfl) rfl dX3_become_60 (fun H locs hP hD hS => ?_)
  refine lv_aload_n hx hb dX3_become_63 rfl (lv_at hl 0 rfl) ?_
  refine lv_aload_n hx hb dX3_become_64 rfl (lv_at hl 1 rfl) ?_
  refine va_get (D := D) (ci := 3) (v := .int p1_pieces) (C := RX3) (T := TX3) (N := 8) hx hb hts iw3 hown hK hP 0 rfl rfl 7 (by decide) hf31 (fun _ h9 => h9) rfl dX3_become_65 ?_
  refine my_put (ty := .int) (v := .int p1_pieces) (ci := 3) (C := RX3) (T := TX3) (N := 8) (wn := [(a_p1, .inr (3, [v_p1_rows, .ref a_p1_entries, .ref a_p1_bounds, .ref a_p1_starts, .ref a_p1_heats, .ref a_p1_sorted, .int p1_size, .int p1_pieces])), (a_p1_bounds, .inl (t 0, 62, .inl p1_bounds_)), (a_p1_entries, .inl (t 0, 120, .inl p1_entries_)), (a_p1_heats, .inl (t 0, 62, .inl p1_heats_)), (a_p1_sorted, .inl (t 0, 62, .inl p1_sorted_)), (a_p1_starts, .inl (t 0, 62, .inl p1_starts_)), (a_t, .inr (3, [v_t_rows, .ref a_t_entries, .ref a_t_bounds, .ref a_t_starts, .ref a_t_heats, .ref a_t_sorted, .int p1_size, .int p1_pieces])), (a_t_bounds, .inl (t 0, 62, .inl t_bounds_19_3)), (a_t_entries, .inl (t 0, 120, .inl t_entries_8_1)), (a_t_heats, .inl (t 0, 62, .inl t_heats_41_7)), (a_t_sorted, .inl (t 0, 62, .inl t_sorted_52_9)), (a_t_starts, .inl (t 0, 62, .inl t_starts_30_5))]) hx hb hts iw3 tyX3 tyX3_ok nmX3 hown hK hP hD hS 6 rfl rfl 7 (by decide) hf31 (fun _ h9 => h9) rfl (by decide +kernel) rfl rfl (Nat.le_of_ble_eq_true rfl) rfl dX3_become_68 (fun H locs hP hD hS => ?_)
  cases hF
  exact we_vret hx hb hr hlocks dX3_become_71 rfl hQ hP hD hS
abbrev rm_X3_putIn : Room := { frames := 2, cells := 0, slots := 0, locals := 45 }
theorem hd_X3_putIn : yX3_putIn.cls = RX3 ∧ yX3_putIn.cls ≠ "java/lang/invoke/MethodHandle" ∧ yX3_putIn.cls ≠ "java/lang/invoke/VarHandle" ∧ (parseMethodDescriptor yX3_putIn.desc).map (fun d => d.parameters.length) = some 1 := by decide +kernel
set_option maxRecDepth 100000 in
set_option maxHeartbeats 4000000 in
theorem c_X3_putIn (l : Launch) (D : va_G) (t : Nat → ClassId) (z : Nat) (x : Nat → Nat) (N : Nat) (a_t : Nat) (a_t_bounds : Nat) (a_t_entries : Nat) (a_t_sorted : Nat) (a_t_starts : Nat) (a_t_rows : Nat) (a_t_rows_keys : Nat) (v_t_heats : Value) (v_t_rows_values : Value) (v_t_rows_states : Value) (t_size : Int32) (t_pieces : Int32) (t_bounds_ : (Nat → Int32)) (t_entries_ : (Nat → Int32)) (t_sorted_ : (Nat → Int32)) (t_starts_ : (Nat → Int32)) (t_rows_count : Int32) (t_rows_keys_ : (Nat → Int32)) (p1 : Int32) (sz : Nat) (t_size' : Int32) (t_entries_' : (Nat → Int32)) (t_starts_' : (Nat → Int32)) (hF : f_X3_putIn N t_size t_pieces t_bounds_ t_entries_ t_sorted_ t_starts_ t_rows_keys_ p1 = some (t_size', t_entries_', t_starts_')) : WrM l D (TY t) z x yX3_putIn wsX3_putIn rm_X3_putIn [.ref a_t, .int p1] [(a_t, .inr (3, [.ref a_t_rows, .ref a_t_entries, .ref a_t_bounds, .ref a_t_starts, v_t_heats, .ref a_t_sorted, .int t_size, .int t_pieces])), (a_t_bounds, .inl (t 0, 62, .inl t_bounds_)), (a_t_entries, .inl (t 0, 120, .inl t_entries_)), (a_t_sorted, .inl (t 0, 62, .inl t_sorted_)), (a_t_starts, .inl (t 0, 62, .inl t_starts_)), (a_t_rows, .inr (6, [.ref a_t_rows_keys, v_t_rows_values, v_t_rows_states, .int t_rows_count])), (a_t_rows_keys, .inl (t 0, 120, .inl t_rows_keys_))] [(a_t, .inr (3, [.ref a_t_rows, .ref a_t_entries, .ref a_t_bounds, .ref a_t_starts, v_t_heats, .ref a_t_sorted, .int t_size', .int t_pieces])), (a_t_bounds, .inl (t 0, 62, .inl t_bounds_)), (a_t_entries, .inl (t 0, 120, .inl t_entries_')), (a_t_sorted, .inl (t 0, 62, .inl t_sorted_)), (a_t_starts, .inl (t 0, 62, .inl t_starts_')), (a_t_rows, .inr (6, [.ref a_t_rows_keys, v_t_rows_values, v_t_rows_states, .int t_rows_count])), (a_t_rows_keys, .inl (t 0, 120, .inl t_rows_keys_))] sz none 0 0 := by
  refine wr_of (cc := cX3_putIn) (maxL := 5) (ret := none) (by decide) rfl (Nat.le_of_ble_eq_true rfl) ?_
  intro p e s m args below meth c A Q hQ hx hb hr hml hts hown hlocks hin H locs hP hD hS hA hz hC ls hl
  have hown : s.vm.findClass RX3 = some m.cls := hown
  have hl : lv_has ls 5 [(0, .ref a_t), (1, .int p1)] := hl
  have hK := hC.1
  have iw3 : ∀ w ∈ wsX30, w ∈ wsX3_putIn := fun _ h => List.mem_cons_of_mem _ (List.mem_append_left _ (List.mem_append_right _ h))
  have hf9 := hts (.fieldLink RX3 9 "CrackedColumn$Index" "entries" "[I") (by decide +kernel)
  have hf27 := hts (.fieldLink RX3 27 "CrackedColumn$Index" "size" "I") (by decide +kernel)
  have hf34 := hts (.fieldLink RX3 34 "CrackedColumn$Index" "rows" "LCrackedColumn$Rows;") (by decide +kernel)
  have hac := hts (.methodLink RX3 71 arraycopyName) (by decide +kernel)
  have hac_n := hts (.native arraycopyName) (by decide +kernel)
  have hac_s := hts (.static arraycopyName) (by decide +kernel)
  have hac_i := hts (.initialized "java/lang/System") (by decide +kernel)
  unfold f_X3_putIn at hF
  refine lv_aload_n hx hb dX3_putIn_0 rfl (lv_at hl 0 rfl) ?_
  refine lv_aload_n hx hb dX3_putIn_1 rfl (lv_at hl 0 rfl) ?_
  refine va_get (D := D) (ci := 3) (v := .ref a_t_rows) (C := RX3) (T := TX3) (N := 8) hx hb hts iw3 hown hK hP 0 rfl rfl 0 (by decide) hf34 (fun _ h9 => h9) rfl dX3_putIn_2 ?_
  refine lv_iload_n hx hb dX3_putIn_5 rfl (lv_at hl 1 rfl) ?_
  obtain ⟨r6_1, h6_1, hF⟩ := bndE hF
  refine rdV (As := [.int p1]) (rest := [.ref a_t]) (C := RX6) ⟨hx, hb, hml, hown, hts⟩ (c_X6_keyOf l D t z x a_t_rows a_t_rows_keys v_t_rows_values v_t_rows_states t_rows_count t_rows_keys_ p1 H r6_1 h6_1) (cwV 1 hts gX3_putIn_X6_keyOf rfl rfl rfl hd_X6_keyOf ⟨Nat.le_of_ble_eq_true rfl, Nat.le_of_ble_eq_true rfl⟩) (hC.at hz hS) (selP (m9 := [false, false, false, false, false, true, true]) rfl rfl hP) 0 rfl (show vwCl[6]? = some (RX6, TX6, 4) from rfl) rfl rfl hl.1 rfl (Nat.le_of_ble_eq_true rfl) dX3_putIn_6 ⟨Nat.zero_le _, Nat.zero_le _⟩ rfl ?_
  obtain ⟨r9_3, h9_3, hF⟩ := bndE hF
  refine rdV (As := [.int r6_1]) (rest := []) (C := RX3) ⟨hx, hb, hml, hown, hts⟩ (c_X3_pieceFor l D t z x N a_t a_t_bounds (.ref a_t_rows) (.ref a_t_entries) (.ref a_t_starts) v_t_heats (.ref a_t_sorted) t_size t_pieces t_bounds_ r6_1 H r9_3 h9_3) (cwV 1 hts gX3_putIn_X3_pieceFor rfl rfl rfl hd_X3_pieceFor ⟨Nat.le_of_ble_eq_true rfl, Nat.le_of_ble_eq_true rfl⟩) (hC.at hz hS) (selP (m9 := [true, true, false, false, false, false, false]) rfl rfl hP) 0 rfl (show vwCl[3]? = some (RX3, TX3, 8) from rfl) rfl rfl hl.1 rfl (Nat.le_of_ble_eq_true rfl) dX3_putIn_9 ⟨Nat.zero_le _, Nat.zero_le _⟩ rfl ?_
  refine lv_istore_n (lv' := [(2, .int r9_3), (0, .ref a_t), (1, .int p1)]) hx hb dX3_putIn_12 rfl hl (by decide) rfl (fun ls hl => ?_)
  refine lv_aload_n hx hb dX3_putIn_13 rfl (lv_at hl 1 rfl) ?_
  refine lv_iload_n hx hb dX3_putIn_14 rfl (lv_at hl 0 rfl) ?_
  refine lv_iconst (v := 1) hx hb dX3_putIn_15 (by decide) ?_
  refine lv_iadd hx hb dX3_putIn_16 ?_
  obtain ⟨r17_5, h17_5, hF⟩ := bndE hF
  refine rdV (As := [.int (r9_3 + 1)]) (rest := []) (C := RX3) ⟨hx, hb, hml, hown, hts⟩ (c_X3_startOf l D t z x a_t a_t_starts (.ref a_t_rows) (.ref a_t_entries) (.ref a_t_bounds) v_t_heats (.ref a_t_sorted) t_size t_pieces t_starts_ (r9_3 + 1) H r17_5 h17_5) (cwV 1 hts gX3_putIn_X3_startOf rfl rfl rfl hd_X3_startOf ⟨Nat.le_of_ble_eq_true rfl, Nat.le_of_ble_eq_true rfl⟩) (hC.at hz hS) (selP (m9 := [true, false, false, false, true, false, false]) rfl rfl hP) 0 rfl (show vwCl[3]? = some (RX3, TX3, 8) from rfl) rfl rfl hl.1 rfl (Nat.le_of_ble_eq_true rfl) dX3_putIn_17 ⟨Nat.zero_le _, Nat.zero_le _⟩ rfl ?_
  refine lv_istore_n (lv' := [(3, .int r17_5), (2, .int r9_3), (0, .ref a_t), (1, .int p1)]) hx hb dX3_putIn_20 rfl hl (by decide) rfl (fun ls hl => ?_)
  refine lv_aload_n hx hb dX3_putIn_21 rfl (lv_at hl 2 rfl) ?_
  refine lv_iload_n hx hb dX3_putIn_22 rfl (lv_at hl 1 rfl) ?_
  obtain ⟨r23_7, h23_7, hF⟩ := bndE hF
  refine rdV (As := [.int r9_3]) (rest := []) (C := RX3) ⟨hx, hb, hml, hown, hts⟩ (c_X3_isSorted l D t z x a_t a_t_sorted (.ref a_t_rows) (.ref a_t_entries) (.ref a_t_bounds) (.ref a_t_starts) v_t_heats t_size t_pieces t_sorted_ r9_3 H r23_7 h23_7) (cwV 1 hts gX3_putIn_X3_isSorted rfl rfl rfl hd_X3_isSorted ⟨Nat.le_of_ble_eq_true rfl, Nat.le_of_ble_eq_true rfl⟩) (hC.at hz hS) (selP (m9 := [true, false, false, true, false, false, false]) rfl rfl hP) 0 rfl (show vwCl[3]? = some (RX3, TX3, 8) from rfl) rfl rfl hl.1 rfl (Nat.le_of_ble_eq_true rfl) dX3_putIn_23 ⟨Nat.zero_le _, Nat.zero_le _⟩ rfl ?_
  obtain ⟨k38_10, ek38_10, hF⟩ := jnE hF
  have hk38_10 : ∀ (s0_38_9 : Int32) (H : Heap) (locs : List Loc) (ls : Array Slot), va_P D vwCl [(a_t, .inr (3, [.ref a_t_rows, .ref a_t_entries, .ref a_t_bounds, .ref a_t_starts, v_t_heats, .ref a_t_sorted, .int t_size, .int t_pieces])), (a_t_bounds, .inl (t 0, 62, .inl t_bounds_)), (a_t_entries, .inl (t 0, 120, .inl t_entries_)), (a_t_sorted, .inl (t 0, 62, .inl t_sorted_)), (a_t_starts, .inl (t 0, 62, .inl t_starts_)), (a_t_rows, .inr (6, [.ref a_t_rows_keys, v_t_rows_values, v_t_rows_states, .int t_rows_count])), (a_t_rows_keys, .inl (t 0, 120, .inl t_rows_keys_))] H → va_D A [(a_t, .inr (3, [.ref a_t_rows, .ref a_t_entries, .ref a_t_bounds, .ref a_t_starts, v_t_heats, .ref a_t_sorted, .int t_size, .int t_pieces])), (a_t_bounds, .inl (t 0, 62, .inl t_bounds_)), (a_t_entries, .inl (t 0, 120, .inl t_entries_)), (a_t_sorted, .inl (t 0, 62, .inl t_sorted_)), (a_t_starts, .inl (t 0, 62, .inl t_starts_)), (a_t_rows, .inr (6, [.ref a_t_rows_keys, v_t_rows_values, v_t_rows_states, .int t_rows_count])), (a_t_rows_keys, .inl (t 0, 120, .inl t_rows_keys_))] → va_S A s.heap H locs → lv_has ls 5 [(0, .ref a_t), (1, .int p1), (2, .int r9_3), (3, .int r17_5)] → k38_10 s0_38_9 = some (t_size', t_entries_', t_starts_') → W p l e rm_X3_putIn s m args below meth c H locs 0 0 Q (F0 m 38 ls [.int s0_38_9]) := by
    subst ek38_10
    intro s0_38_9 H locs ls hP hD hS hl hF
    refine lv_istore (lv' := [(4, .int s0_38_9), (0, .ref a_t), (1, .int p1), (2, .int r9_3), (3, .int r17_5)]) hx hb dX3_putIn_38 hl (by decide) rfl (fun ls hl => ?_)
    obtain ⟨k70_12, ek70_12, hF⟩ := jnE hF
    have hk70_12 : ∀ (x3_70_11 : Int32) (H : Heap) (locs : List Loc) (ls : Array Slot), va_P D vwCl [(a_t, .inr (3, [.ref a_t_rows, .ref a_t_entries, .ref a_t_bounds, .ref a_t_starts, v_t_heats, .ref a_t_sorted, .int t_size, .int t_pieces])), (a_t_bounds, .inl (t 0, 62, .inl t_bounds_)), (a_t_entries, .inl (t 0, 120, .inl t_entries_)), (a_t_sorted, .inl (t 0, 62, .inl t_sorted_)), (a_t_starts, .inl (t 0, 62, .inl t_starts_)), (a_t_rows, .inr (6, [.ref a_t_rows_keys, v_t_rows_values, v_t_rows_states, .int t_rows_count])), (a_t_rows_keys, .inl (t 0, 120, .inl t_rows_keys_))] H → va_D A [(a_t, .inr (3, [.ref a_t_rows, .ref a_t_entries, .ref a_t_bounds, .ref a_t_starts, v_t_heats, .ref a_t_sorted, .int t_size, .int t_pieces])), (a_t_bounds, .inl (t 0, 62, .inl t_bounds_)), (a_t_entries, .inl (t 0, 120, .inl t_entries_)), (a_t_sorted, .inl (t 0, 62, .inl t_sorted_)), (a_t_starts, .inl (t 0, 62, .inl t_starts_)), (a_t_rows, .inr (6, [.ref a_t_rows_keys, v_t_rows_values, v_t_rows_states, .int t_rows_count])), (a_t_rows_keys, .inl (t 0, 120, .inl t_rows_keys_))] → va_S A s.heap H locs → lv_has ls 5 [(0, .ref a_t), (1, .int p1), (2, .int r9_3), (3, .int x3_70_11)] → k70_12 x3_70_11 = some (t_size', t_entries_', t_starts_') → W p l e rm_X3_putIn s m args below meth c H locs 0 0 Q (F0 m 70 ls []) := by
      subst ek70_12
      intro x3_70_11 H locs ls hP hD hS hl hF
      refine lv_iload_n hx hb dX3_putIn_70 rfl (lv_at hl 3 rfl) ?_
      refine lv_if_lt (tgt := 91) hx hb dX3_putIn_71 (by decide) (fun c71 => ?_) (fun c71 => ?_)
      · have hF := brT c71 hF
        cases hF
        exact we_vret hx hb hr hlocks dX3_putIn_91 rfl hQ hP hD hS
      · have hF := brF c71 hF
        refine lv_iload_n hx hb dX3_putIn_74 rfl (lv_at hl 3 rfl) ?_
        refine lv_aload_n hx hb dX3_putIn_75 rfl (lv_at hl 0 rfl) ?_
        refine va_get (D := D) (ci := 3) (v := .int t_size) (C := RX3) (T := TX3) (N := 8) hx hb hts iw3 hown hK hP 0 rfl rfl 6 (by decide) hf27 (fun _ h9 => h9) rfl dX3_putIn_76 ?_
        refine lv_icmp_gt (tgt := 91) hx hb dX3_putIn_79 (by decide) (fun c79 => ?_) (fun c79 => ?_)
        · have hF := brT c79 hF
          cases hF
          exact we_vret hx hb hr hlocks dX3_putIn_91 rfl hQ hP hD hS
        · have hF := brF c79 hF
          refine lv_aload_n hx hb dX3_putIn_82 rfl (lv_at hl 0 rfl) ?_
          refine va_get (D := D) (ci := 3) (v := .int t_size) (C := RX3) (T := TX3) (N := 8) hx hb hts iw3 hown hK hP 0 rfl rfl 6 (by decide) hf27 (fun _ h9 => h9) rfl dX3_putIn_83 ?_
          refine lv_bipush (v := 120) hx hb dX3_putIn_86 (by decide) ?_
          refine lv_icmp_lt (tgt := 92) hx hb dX3_putIn_88 (by decide) (fun c88 => ?_) (fun c88 => ?_)
          · have hF := brT c88 hF
            refine lv_aload_n hx hb dX3_putIn_92 rfl (lv_at hl 0 rfl) ?_
            refine va_get (D := D) (ci := 3) (v := .ref a_t_entries) (C := RX3) (T := TX3) (N := 8) hx hb hts iw3 hown hK hP 0 rfl rfl 1 (by decide) hf9 (fun _ h9 => h9) rfl dX3_putIn_93 ?_
            refine lv_iload_n hx hb dX3_putIn_96 rfl (lv_at hl 3 rfl) ?_
            refine lv_aload_n hx hb dX3_putIn_97 rfl (lv_at hl 0 rfl) ?_
            refine va_get (D := D) (ci := 3) (v := .ref a_t_entries) (C := RX3) (T := TX3) (N := 8) hx hb hts iw3 hown hK hP 0 rfl rfl 1 (by decide) hf9 (fun _ h9 => h9) rfl dX3_putIn_98 ?_
            refine lv_iload_n hx hb dX3_putIn_101 rfl (lv_at hl 3 rfl) ?_
            refine lv_iconst (v := 1) hx hb dX3_putIn_102 (by decide) ?_
            refine lv_iadd hx hb dX3_putIn_103 ?_
            refine lv_aload_n hx hb dX3_putIn_104 rfl (lv_at hl 0 rfl) ?_
            refine va_get (D := D) (ci := 3) (v := .int t_size) (C := RX3) (T := TX3) (N := 8) hx hb hts iw3 hown hK hP 0 rfl rfl 6 (by decide) hf27 (fun _ h9 => h9) rfl dX3_putIn_105 ?_
            refine lv_iload_n hx hb dX3_putIn_108 rfl (lv_at hl 3 rfl) ?_
            refine lv_isub hx hb dX3_putIn_109 ?_
            obtain ⟨g110_12, hF⟩ := gd hF
            obtain ⟨g110_14, hF⟩ := gd hF
            obtain ⟨g110_16, hF⟩ := gd hF
            obtain ⟨g110_18, hF⟩ := gd hF
            obtain ⟨g110_20, hF⟩ := gd hF
            obtain ⟨t_entries_110_18, et_entries_110_18⟩ : ∃ y : Nat → Int32, y = va_cpy t_entries_ t_entries_ x3_70_11.toNatClampNeg (x3_70_11 + 1).toNatClampNeg (t_size - x3_70_11).toNatClampNeg := ⟨_, rfl⟩
            have hF := ltE et_entries_110_18 hF
            refine my_copyi (sp := x3_70_11) (dp := (x3_70_11 + 1)) (n := (t_size - x3_70_11)) (g' := t_entries_110_18) (wn := [(a_t, .inr (3, [.ref a_t_rows, .ref a_t_entries, .ref a_t_bounds, .ref a_t_starts, v_t_heats, .ref a_t_sorted, .int t_size, .int t_pieces])), (a_t_bounds, .inl (t 0, 62, .inl t_bounds_)), (a_t_entries, .inl (t 0, 120, .inl t_entries_110_18)), (a_t_sorted, .inl (t 0, 62, .inl t_sorted_)), (a_t_starts, .inl (t 0, 62, .inl t_starts_)), (a_t_rows, .inr (6, [.ref a_t_rows_keys, v_t_rows_values, v_t_rows_states, .int t_rows_count])), (a_t_rows_keys, .inl (t 0, 120, .inl t_rows_keys_))]) hx hb (hml.trans hl.1.symm) hown hac hac_n hac_s hac_i hK hP hD hS 2 2 0 0 rfl rfl rfl rfl rfl g110_12 g110_14 g110_16 (Nat.not_lt.mp g110_18) (Nat.not_lt.mp g110_20) (fun _ _ => rfl) (Nat.le_of_ble_eq_true rfl) (Nat.le_of_ble_eq_true rfl) et_entries_110_18 rfl dX3_putIn_110 (fun H locs hP hD hS => ?_)
            refine lv_aload_n hx hb dX3_putIn_113 rfl (lv_at hl 0 rfl) ?_
            refine va_get (D := D) (ci := 3) (v := .ref a_t_entries) (C := RX3) (T := TX3) (N := 8) hx hb hts iw3 hown hK hP 0 rfl rfl 1 (by decide) hf9 (fun _ h9 => h9) rfl dX3_putIn_114 ?_
            refine lv_iload_n hx hb dX3_putIn_117 rfl (lv_at hl 3 rfl) ?_
            refine lv_iload_n hx hb dX3_putIn_118 rfl (lv_at hl 1 rfl) ?_
            obtain ⟨g119_23, hF⟩ := gd hF
            obtain ⟨t_entries_119_20, et_entries_119_20⟩ : ∃ y : Nat → Int32, y = upd t_entries_110_18 x3_70_11.toNatClampNeg p1 := ⟨_, rfl⟩
            have hF := ltE et_entries_119_20 hF
            refine my_iast (g := t_entries_119_20) (wn := [(a_t, .inr (3, [.ref a_t_rows, .ref a_t_entries, .ref a_t_bounds, .ref a_t_starts, v_t_heats, .ref a_t_sorted, .int t_size, .int t_pieces])), (a_t_bounds, .inl (t 0, 62, .inl t_bounds_)), (a_t_entries, .inl (t 0, 120, .inl t_entries_119_20)), (a_t_sorted, .inl (t 0, 62, .inl t_sorted_)), (a_t_starts, .inl (t 0, 62, .inl t_starts_)), (a_t_rows, .inr (6, [.ref a_t_rows_keys, v_t_rows_values, v_t_rows_states, .int t_rows_count])), (a_t_rows_keys, .inl (t 0, 120, .inl t_rows_keys_))]) hx hb hK hP hD hS 2 0 rfl rfl g119_23 et_entries_119_20 rfl dX3_putIn_119 (fun H locs hP hD hS => ?_)
            refine lv_aload_n hx hb dX3_putIn_120 rfl (lv_at hl 0 rfl) ?_
            refine lv_dup hx hb dX3_putIn_121 rfl ?_
            refine va_get (D := D) (ci := 3) (v := .int t_size) (C := RX3) (T := TX3) (N := 8) hx hb hts iw3 hown hK hP 0 rfl rfl 6 (by decide) hf27 (fun _ h9 => h9) rfl dX3_putIn_122 ?_
            refine lv_iconst (v := 1) hx hb dX3_putIn_125 (by decide) ?_
            refine lv_iadd hx hb dX3_putIn_126 ?_
            refine lv_topi (fun y127_21 ey127_21 => ?_)
            have hF := ltE ey127_21 hF
            refine my_put (ty := .int) (v := .int y127_21) (ci := 3) (C := RX3) (T := TX3) (N := 8) (wn := [(a_t, .inr (3, [.ref a_t_rows, .ref a_t_entries, .ref a_t_bounds, .ref a_t_starts, v_t_heats, .ref a_t_sorted, .int y127_21, .int t_pieces])), (a_t_bounds, .inl (t 0, 62, .inl t_bounds_)), (a_t_entries, .inl (t 0, 120, .inl t_entries_119_20)), (a_t_sorted, .inl (t 0, 62, .inl t_sorted_)), (a_t_starts, .inl (t 0, 62, .inl t_starts_)), (a_t_rows, .inr (6, [.ref a_t_rows_keys, v_t_rows_values, v_t_rows_states, .int t_rows_count])), (a_t_rows_keys, .inl (t 0, 120, .inl t_rows_keys_))]) hx hb hts iw3 tyX3 tyX3_ok nmX3 hown hK hP hD hS 0 rfl rfl 6 (by decide) hf27 (fun _ h9 => h9) rfl (by decide +kernel) rfl rfl (Nat.le_of_ble_eq_true rfl) rfl dX3_putIn_127 (fun H locs hP hD hS => ?_)
            refine lv_aload_n hx hb dX3_putIn_130 rfl (lv_at hl 0 rfl) ?_
            refine lv_iload_n hx hb dX3_putIn_131 rfl (lv_at hl 2 rfl) ?_
            refine lv_iconst (v := 1) hx hb dX3_putIn_132 (by decide) ?_
            refine lv_iadd hx hb dX3_putIn_133 ?_
            refine lv_iconst (v := 1) hx hb dX3_putIn_134 (by decide) ?_
            obtain ⟨t_starts_135_22, h135_22, hF⟩ := bndE hF
            refine wrVM (As := [.int (r9_3 + 1), .int 1]) (rest := []) (C := RX3) (wn := [(a_t, .inr (3, [.ref a_t_rows, .ref a_t_entries, .ref a_t_bounds, .ref a_t_starts, v_t_heats, .ref a_t_sorted, .int y127_21, .int t_pieces])), (a_t_bounds, .inl (t 0, 62, .inl t_bounds_)), (a_t_entries, .inl (t 0, 120, .inl t_entries_119_20)), (a_t_sorted, .inl (t 0, 62, .inl t_sorted_)), (a_t_starts, .inl (t 0, 62, .inl t_starts_135_22)), (a_t_rows, .inr (6, [.ref a_t_rows_keys, v_t_rows_values, v_t_rows_states, .int t_rows_count])), (a_t_rows_keys, .inl (t 0, 120, .inl t_rows_keys_))]) ⟨hx, hb, hml, hown, hts⟩ (c_X3_shiftStarts l D t z x N a_t a_t_starts (.ref a_t_rows) (.ref a_t_entries) (.ref a_t_bounds) v_t_heats (.ref a_t_sorted) y127_21 t_pieces t_starts_ (r9_3 + 1) 1 H.size t_starts_135_22 h135_22) (cwV 2 hts gX3_putIn_X3_shiftStarts rfl rfl rfl hd_X3_shiftStarts ⟨Nat.le_of_ble_eq_true rfl, Nat.le_of_ble_eq_true rfl⟩) (hC.at hz hS) hP hD hS hA hz [true, false, false, false, true, false, false] rfl rfl rfl rfl 0 rfl (show vwCl[3]? = some (RX3, TX3, 8) from rfl) rfl rfl hl.1 rfl (Nat.le_of_ble_eq_true rfl) dX3_putIn_135 ⟨Nat.zero_le _, Nat.zero_le _⟩ rfl (fun H locs hP hD hS => ?_)
            cases hF
            exact we_vret hx hb hr hlocks dX3_putIn_138 rfl hQ hP hD hS
          · have hF := brF c88 hF
            cases hF
            exact we_vret hx hb hr hlocks dX3_putIn_91 rfl hQ hP hD hS
    have hlp40 : ∀ n40 : Nat, ∀ (x3_40_24 : Int32) (H : Heap) (locs : List Loc) (ls : Array Slot), va_P D vwCl [(a_t, .inr (3, [.ref a_t_rows, .ref a_t_entries, .ref a_t_bounds, .ref a_t_starts, v_t_heats, .ref a_t_sorted, .int t_size, .int t_pieces])), (a_t_bounds, .inl (t 0, 62, .inl t_bounds_)), (a_t_entries, .inl (t 0, 120, .inl t_entries_)), (a_t_sorted, .inl (t 0, 62, .inl t_sorted_)), (a_t_starts, .inl (t 0, 62, .inl t_starts_)), (a_t_rows, .inr (6, [.ref a_t_rows_keys, v_t_rows_values, v_t_rows_states, .int t_rows_count])), (a_t_rows_keys, .inl (t 0, 120, .inl t_rows_keys_))] H → va_D A [(a_t, .inr (3, [.ref a_t_rows, .ref a_t_entries, .ref a_t_bounds, .ref a_t_starts, v_t_heats, .ref a_t_sorted, .int t_size, .int t_pieces])), (a_t_bounds, .inl (t 0, 62, .inl t_bounds_)), (a_t_entries, .inl (t 0, 120, .inl t_entries_)), (a_t_sorted, .inl (t 0, 62, .inl t_sorted_)), (a_t_starts, .inl (t 0, 62, .inl t_starts_)), (a_t_rows, .inr (6, [.ref a_t_rows_keys, v_t_rows_values, v_t_rows_states, .int t_rows_count])), (a_t_rows_keys, .inl (t 0, 120, .inl t_rows_keys_))] → va_S A s.heap H locs → lv_has ls 5 [(0, .ref a_t), (1, .int p1), (2, .int r9_3), (3, .int x3_40_24), (4, .int s0_38_9)] → f_X3_putIn_40 t_size t_entries_ t_rows_keys_ p1 s0_38_9 k70_12 n40 x3_40_24 = some (t_size', t_entries_', t_starts_') → W p l e rm_X3_putIn s m args below meth c H locs 0 0 Q (F0 m 40 ls []) := by
      intro n40
      induction n40 with
      | zero =>
        intro x3_40_24 H locs ls hP hD hS hl hF
        cases (show none = some (t_size', t_entries_', t_starts_') from hF)
      | succ n40 ih40 =>
        intro x3_40_24 H locs ls hP hD hS hl hF
        rw [f_X3_putIn_40] at hF
        refine lv_iload_n hx hb dX3_putIn_40 rfl (lv_at hl 3 rfl) ?_
        refine lv_iload hx hb dX3_putIn_41 (lv_at hl 4 rfl) ?_
        refine lv_icmp_le (tgt := 70) hx hb dX3_putIn_43 (by decide) (fun c43 => ?_) (fun c43 => ?_)
        · have hF := brT c43 hF
          exact hk70_12 x3_40_24 H locs ls hP hD hS (lv_sub hl [0, 1, 2, 3] rfl) hF
        · have hF := brF c43 hF
          refine lv_aload_n hx hb dX3_putIn_46 rfl (lv_at hl 0 rfl) ?_
          refine va_get (D := D) (ci := 3) (v := .ref a_t_rows) (C := RX3) (T := TX3) (N := 8) hx hb hts iw3 hown hK hP 0 rfl rfl 0 (by decide) hf34 (fun _ h9 => h9) rfl dX3_putIn_47 ?_
          refine lv_iload_n hx hb dX3_putIn_50 rfl (lv_at hl 1 rfl) ?_
          refine lv_aload_n hx hb dX3_putIn_51 rfl (lv_at hl 0 rfl) ?_
          refine lv_iload_n hx hb dX3_putIn_52 rfl (lv_at hl 3 rfl) ?_
          refine lv_iconst (v := 1) hx hb dX3_putIn_53 (by decide) ?_
          refine lv_isub hx hb dX3_putIn_54 ?_
          obtain ⟨r55_25, h55_25, hF⟩ := bndE hF
          refine rdV (As := [.int (x3_40_24 - 1)]) (rest := [.int p1, .ref a_t_rows]) (C := RX3) ⟨hx, hb, hml, hown, hts⟩ (c_X3_rowAt l D t z x a_t a_t_entries (.ref a_t_rows) (.ref a_t_bounds) (.ref a_t_starts) v_t_heats (.ref a_t_sorted) t_size t_pieces t_entries_ (x3_40_24 - 1) H r55_25 h55_25) (cwV 1 hts gX3_putIn_X3_rowAt rfl rfl rfl hd_X3_rowAt ⟨Nat.le_of_ble_eq_true rfl, Nat.le_of_ble_eq_true rfl⟩) (hC.at hz hS) (selP (m9 := [true, false, true, false, false, false, false]) rfl rfl hP) 0 rfl (show vwCl[3]? = some (RX3, TX3, 8) from rfl) rfl rfl hl.1 rfl (Nat.le_of_ble_eq_true rfl) dX3_putIn_55 ⟨Nat.zero_le _, Nat.zero_le _⟩ rfl ?_
          obtain ⟨r58_27, h58_27, hF⟩ := bndE hF
          refine rdV (As := [.int p1, .int r55_25]) (rest := []) (C := RX6) ⟨hx, hb, hml, hown, hts⟩ (c_X6_isAhead l D t z x a_t_rows a_t_rows_keys v_t_rows_values v_t_rows_states t_rows_count t_rows_keys_ p1 r55_25 H r58_27 h58_27) (cwV 2 hts gX3_putIn_X6_isAhead rfl rfl rfl hd_X6_isAhead ⟨Nat.le_of_ble_eq_true rfl, Nat.le_of_ble_eq_true rfl⟩) (hC.at hz hS) (selP (m9 := [false, false, false, false, false, true, true]) rfl rfl hP) 0 rfl (show vwCl[6]? = some (RX6, TX6, 4) from rfl) rfl rfl hl.1 rfl (Nat.le_of_ble_eq_true rfl) dX3_putIn_58 ⟨Nat.zero_le _, Nat.zero_le _⟩ rfl ?_
          refine lv_if_eq (tgt := 70) hx hb dX3_putIn_61 (by decide) (fun c61 => ?_) (fun c61 => ?_)
          · have hF := brT c61 hF
            exact hk70_12 x3_40_24 H locs ls hP hD hS (lv_sub hl [0, 1, 2, 3] rfl) hF
          · have hF := brF c61 hF
            obtain ⟨y64_29, ey64_29⟩ : ∃ y : Int32, y = x3_40_24 + (-1) := ⟨_, rfl⟩
            have hF := ltE ey64_29 hF
            refine lv_iinc (v := y64_29) (lv' := [(3, .int y64_29), (0, .ref a_t), (1, .int p1), (2, .int r9_3), (4, .int s0_38_9)]) hx hb dX3_putIn_64 hl (k := 3) rfl (by rw [ey64_29]; rfl) (by decide) rfl (fun ls hl => ?_)
            refine lv_goto (tgt := 40) hx hb dX3_putIn_67 (by decide) ?_
            exact ih40 y64_29 H locs ls hP hD hS (lv_sub hl [1, 2, 3, 0, 4] rfl) hF
    exact hlp40 N r17_5 H locs ls hP hD hS (lv_sub hl [1, 2, 3, 4, 0] rfl) hF
  refine lv_if_eq (tgt := 37) hx hb dX3_putIn_26 (by decide) (fun c26 => ?_) (fun c26 => ?_)
  · have hF := brT c26 hF
    refine lv_iload_n hx hb dX3_putIn_37 rfl (lv_at hl 0 rfl) ?_
    exact hk38_10 r17_5 H locs ls hP hD hS (lv_sub hl [2, 3, 1, 0] rfl) hF
  · have hF := brF c26 hF
    refine lv_aload_n hx hb dX3_putIn_29 rfl (lv_at hl 2 rfl) ?_
    refine lv_iload_n hx hb dX3_putIn_30 rfl (lv_at hl 1 rfl) ?_
    obtain ⟨r31_30, h31_30, hF⟩ := bndE hF
    refine rdV (As := [.int r9_3]) (rest := []) (C := RX3) ⟨hx, hb, hml, hown, hts⟩ (c_X3_startOf l D t z x a_t a_t_starts (.ref a_t_rows) (.ref a_t_entries) (.ref a_t_bounds) v_t_heats (.ref a_t_sorted) t_size t_pieces t_starts_ r9_3 H r31_30 h31_30) (cwV 1 hts gX3_putIn_X3_startOf rfl rfl rfl hd_X3_startOf ⟨Nat.le_of_ble_eq_true rfl, Nat.le_of_ble_eq_true rfl⟩) (hC.at hz hS) (selP (m9 := [true, false, false, false, true, false, false]) rfl rfl hP) 0 rfl (show vwCl[3]? = some (RX3, TX3, 8) from rfl) rfl rfl hl.1 rfl (Nat.le_of_ble_eq_true rfl) dX3_putIn_31 ⟨Nat.zero_le _, Nat.zero_le _⟩ rfl ?_
    refine lv_goto (tgt := 38) hx hb dX3_putIn_34 (by decide) ?_
    exact hk38_10 r31_30 H locs ls hP hD hS (lv_sub hl [2, 3, 1, 0] rfl) hF
abbrev rm_X3_takeOut : Room := { frames := 2, cells := 0, slots := 0, locals := 45 }
theorem hd_X3_takeOut : yX3_takeOut.cls = RX3 ∧ yX3_takeOut.cls ≠ "java/lang/invoke/MethodHandle" ∧ yX3_takeOut.cls ≠ "java/lang/invoke/VarHandle" ∧ (parseMethodDescriptor yX3_takeOut.desc).map (fun d => d.parameters.length) = some 1 := by decide +kernel
set_option maxRecDepth 100000 in
set_option maxHeartbeats 4000000 in
theorem c_X3_takeOut (l : Launch) (D : va_G) (t : Nat → ClassId) (z : Nat) (x : Nat → Nat) (N : Nat) (a_t : Nat) (a_t_bounds : Nat) (a_t_entries : Nat) (a_t_starts : Nat) (a_t_rows : Nat) (a_t_rows_keys : Nat) (v_t_heats : Value) (v_t_sorted : Value) (v_t_rows_values : Value) (v_t_rows_states : Value) (t_size : Int32) (t_pieces : Int32) (t_bounds_ : (Nat → Int32)) (t_entries_ : (Nat → Int32)) (t_starts_ : (Nat → Int32)) (t_rows_count : Int32) (t_rows_keys_ : (Nat → Int32)) (p1 : Int32) (sz : Nat) (t_size' : Int32) (t_entries_' : (Nat → Int32)) (t_starts_' : (Nat → Int32)) (hF : f_X3_takeOut N t_size t_pieces t_bounds_ t_entries_ t_starts_ t_rows_keys_ p1 = some (t_size', t_entries_', t_starts_')) : WrM l D (TY t) z x yX3_takeOut wsX3_takeOut rm_X3_takeOut [.ref a_t, .int p1] [(a_t, .inr (3, [.ref a_t_rows, .ref a_t_entries, .ref a_t_bounds, .ref a_t_starts, v_t_heats, v_t_sorted, .int t_size, .int t_pieces])), (a_t_bounds, .inl (t 0, 62, .inl t_bounds_)), (a_t_entries, .inl (t 0, 120, .inl t_entries_)), (a_t_starts, .inl (t 0, 62, .inl t_starts_)), (a_t_rows, .inr (6, [.ref a_t_rows_keys, v_t_rows_values, v_t_rows_states, .int t_rows_count])), (a_t_rows_keys, .inl (t 0, 120, .inl t_rows_keys_))] [(a_t, .inr (3, [.ref a_t_rows, .ref a_t_entries, .ref a_t_bounds, .ref a_t_starts, v_t_heats, v_t_sorted, .int t_size', .int t_pieces])), (a_t_bounds, .inl (t 0, 62, .inl t_bounds_)), (a_t_entries, .inl (t 0, 120, .inl t_entries_')), (a_t_starts, .inl (t 0, 62, .inl t_starts_')), (a_t_rows, .inr (6, [.ref a_t_rows_keys, v_t_rows_values, v_t_rows_states, .int t_rows_count])), (a_t_rows_keys, .inl (t 0, 120, .inl t_rows_keys_))] sz none 0 0 := by
  refine wr_of (cc := cX3_takeOut) (maxL := 4) (ret := none) (by decide) rfl (Nat.le_of_ble_eq_true rfl) ?_
  intro p e s m args below meth c A Q hQ hx hb hr hml hts hown hlocks hin H locs hP hD hS hA hz hC ls hl
  have hown : s.vm.findClass RX3 = some m.cls := hown
  have hl : lv_has ls 4 [(0, .ref a_t), (1, .int p1)] := hl
  have hK := hC.1
  have iw3 : ∀ w ∈ wsX30, w ∈ wsX3_takeOut := fun _ h => List.mem_cons_of_mem _ (List.mem_append_left _ (List.mem_append_right _ h))
  have hf9 := hts (.fieldLink RX3 9 "CrackedColumn$Index" "entries" "[I") (by decide +kernel)
  have hf27 := hts (.fieldLink RX3 27 "CrackedColumn$Index" "size" "I") (by decide +kernel)
  have hf34 := hts (.fieldLink RX3 34 "CrackedColumn$Index" "rows" "LCrackedColumn$Rows;") (by decide +kernel)
  have hac := hts (.methodLink RX3 71 arraycopyName) (by decide +kernel)
  have hac_n := hts (.native arraycopyName) (by decide +kernel)
  have hac_s := hts (.static arraycopyName) (by decide +kernel)
  have hac_i := hts (.initialized "java/lang/System") (by decide +kernel)
  unfold f_X3_takeOut at hF
  refine lv_aload_n hx hb dX3_takeOut_0 rfl (lv_at hl 0 rfl) ?_
  refine lv_iload_n hx hb dX3_takeOut_1 rfl (lv_at hl 1 rfl) ?_
  obtain ⟨r2_1, h2_1, hF⟩ := bndE hF
  refine rdV (As := [.int p1]) (rest := []) (C := RX3) ⟨hx, hb, hml, hown, hts⟩ (c_X3_placeOf l D t z x N a_t a_t_entries (.ref a_t_rows) (.ref a_t_bounds) (.ref a_t_starts) v_t_heats v_t_sorted t_size t_pieces t_entries_ p1 H r2_1 h2_1) (cwV 1 hts gX3_takeOut_X3_placeOf rfl rfl rfl hd_X3_placeOf ⟨Nat.le_of_ble_eq_true rfl, Nat.le_of_ble_eq_true rfl⟩) (hC.at hz hS) (selP (m9 := [true, false, true, false, false, false]) rfl rfl hP) 0 rfl (show vwCl[3]? = some (RX3, TX3, 8) from rfl) rfl rfl hl.1 rfl (Nat.le_of_ble_eq_true rfl) dX3_takeOut_2 ⟨Nat.zero_le _, Nat.zero_le _⟩ rfl ?_
  refine lv_istore_n (lv' := [(2, .int r2_1), (0, .ref a_t), (1, .int p1)]) hx hb dX3_takeOut_5 rfl hl (by decide) rfl (fun ls hl => ?_)
  refine lv_iload_n hx hb dX3_takeOut_6 rfl (lv_at hl 0 rfl) ?_
  refine lv_if_lt (tgt := 27) hx hb dX3_takeOut_7 (by decide) (fun c7 => ?_) (fun c7 => ?_)
  · have hF := brT c7 hF
    cases hF
    exact we_vret hx hb hr hlocks dX3_takeOut_27 rfl hQ hP hD hS
  · have hF := brF c7 hF
    refine lv_iload_n hx hb dX3_takeOut_10 rfl (lv_at hl 0 rfl) ?_
    refine lv_aload_n hx hb dX3_takeOut_11 rfl (lv_at hl 1 rfl) ?_
    refine va_get (D := D) (ci := 3) (v := .int t_size) (C := RX3) (T := TX3) (N := 8) hx hb hts iw3 hown hK hP 0 rfl rfl 6 (by decide) hf27 (fun _ h9 => h9) rfl dX3_takeOut_12 ?_
    refine lv_icmp_ge (tgt := 27) hx hb dX3_takeOut_15 (by decide) (fun c15 => ?_) (fun c15 => ?_)
    · have hF := brT c15 hF
      cases hF
      exact we_vret hx hb hr hlocks dX3_takeOut_27 rfl hQ hP hD hS
    · have hF := brF c15 hF
      refine lv_aload_n hx hb dX3_takeOut_18 rfl (lv_at hl 1 rfl) ?_
      refine va_get (D := D) (ci := 3) (v := .int t_size) (C := RX3) (T := TX3) (N := 8) hx hb hts iw3 hown hK hP 0 rfl rfl 6 (by decide) hf27 (fun _ h9 => h9) rfl dX3_takeOut_19 ?_
      refine lv_bipush (v := 120) hx hb dX3_takeOut_22 (by decide) ?_
      refine lv_icmp_le (tgt := 28) hx hb dX3_takeOut_24 (by decide) (fun c24 => ?_) (fun c24 => ?_)
      · have hF := brT c24 hF
        refine lv_aload_n hx hb dX3_takeOut_28 rfl (lv_at hl 1 rfl) ?_
        refine lv_aload_n hx hb dX3_takeOut_29 rfl (lv_at hl 1 rfl) ?_
        refine va_get (D := D) (ci := 3) (v := .ref a_t_rows) (C := RX3) (T := TX3) (N := 8) hx hb hts iw3 hown hK hP 0 rfl rfl 0 (by decide) hf34 (fun _ h9 => h9) rfl dX3_takeOut_30 ?_
        refine lv_iload_n hx hb dX3_takeOut_33 rfl (lv_at hl 2 rfl) ?_
        obtain ⟨r34_3, h34_3, hF⟩ := bndE hF
        refine rdV (As := [.int p1]) (rest := [.ref a_t]) (C := RX6) ⟨hx, hb, hml, hown, hts⟩ (c_X6_keyOf l D t z x a_t_rows a_t_rows_keys v_t_rows_values v_t_rows_states t_rows_count t_rows_keys_ p1 H r34_3 h34_3) (cwV 1 hts gX3_takeOut_X6_keyOf rfl rfl rfl hd_X6_keyOf ⟨Nat.le_of_ble_eq_true rfl, Nat.le_of_ble_eq_true rfl⟩) (hC.at hz hS) (selP (m9 := [false, false, false, false, true, true]) rfl rfl hP) 0 rfl (show vwCl[6]? = some (RX6, TX6, 4) from rfl) rfl rfl hl.1 rfl (Nat.le_of_ble_eq_true rfl) dX3_takeOut_34 ⟨Nat.zero_le _, Nat.zero_le _⟩ rfl ?_
        obtain ⟨r37_5, h37_5, hF⟩ := bndE hF
        refine rdV (As := [.int r34_3]) (rest := []) (C := RX3) ⟨hx, hb, hml, hown, hts⟩ (c_X3_pieceFor l D t z x N a_t a_t_bounds (.ref a_t_rows) (.ref a_t_entries) (.ref a_t_starts) v_t_heats v_t_sorted t_size t_pieces t_bounds_ r34_3 H r37_5 h37_5) (cwV 1 hts gX3_takeOut_X3_pieceFor rfl rfl rfl hd_X3_pieceFor ⟨Nat.le_of_ble_eq_true rfl, Nat.le_of_ble_eq_true rfl⟩) (hC.at hz hS) (selP (m9 := [true, true, false, false, false, false]) rfl rfl hP) 0 rfl (show vwCl[3]? = some (RX3, TX3, 8) from rfl) rfl rfl hl.1 rfl (Nat.le_of_ble_eq_true rfl) dX3_takeOut_37 ⟨Nat.zero_le _, Nat.zero_le _⟩ rfl ?_
        refine lv_istore_n (lv' := [(3, .int r37_5), (2, .int r2_1), (0, .ref a_t), (1, .int p1)]) hx hb dX3_takeOut_40 rfl hl (by decide) rfl (fun ls hl => ?_)
        refine lv_aload_n hx hb dX3_takeOut_41 rfl (lv_at hl 2 rfl) ?_
        refine va_get (D := D) (ci := 3) (v := .ref a_t_entries) (C := RX3) (T := TX3) (N := 8) hx hb hts iw3 hown hK hP 0 rfl rfl 1 (by decide) hf9 (fun _ h9 => h9) rfl dX3_takeOut_42 ?_
        refine lv_iload_n hx hb dX3_takeOut_45 rfl (lv_at hl 1 rfl) ?_
        refine lv_iconst (v := 1) hx hb dX3_takeOut_46 (by decide) ?_
        refine lv_iadd hx hb dX3_takeOut_47 ?_
        refine lv_aload_n hx hb dX3_takeOut_48 rfl (lv_at hl 2 rfl) ?_
        refine va_get (D := D) (ci := 3) (v := .ref a_t_entries) (C := RX3) (T := TX3) (N := 8) hx hb hts iw3 hown hK hP 0 rfl rfl 1 (by decide) hf9 (fun _ h9 => h9) rfl dX3_takeOut_49 ?_
        refine lv_iload_n hx hb dX3_takeOut_52 rfl (lv_at hl 1 rfl) ?_
        refine lv_aload_n hx hb dX3_takeOut_53 rfl (lv_at hl 2 rfl) ?_
        refine va_get (D := D) (ci := 3) (v := .int t_size) (C := RX3) (T := TX3) (N := 8) hx hb hts iw3 hown hK hP 0 rfl rfl 6 (by decide) hf27 (fun _ h9 => h9) rfl dX3_takeOut_54 ?_
        refine lv_iload_n hx hb dX3_takeOut_57 rfl (lv_at hl 1 rfl) ?_
        refine lv_isub hx hb dX3_takeOut_58 ?_
        refine lv_iconst (v := 1) hx hb dX3_takeOut_59 (by decide) ?_
        refine lv_isub hx hb dX3_takeOut_60 ?_
        obtain ⟨g61_6, hF⟩ := gd hF
        obtain ⟨g61_8, hF⟩ := gd hF
        obtain ⟨g61_10, hF⟩ := gd hF
        obtain ⟨g61_12, hF⟩ := gd hF
        obtain ⟨g61_14, hF⟩ := gd hF
        obtain ⟨t_entries_61_12, et_entries_61_12⟩ : ∃ y : Nat → Int32, y = va_cpy t_entries_ t_entries_ (r2_1 + 1).toNatClampNeg r2_1.toNatClampNeg ((t_size - r2_1) - 1).toNatClampNeg := ⟨_, rfl⟩
        have hF := ltE et_entries_61_12 hF
        refine my_copyi (sp := (r2_1 + 1)) (dp := r2_1) (n := ((t_size - r2_1) - 1)) (g' := t_entries_61_12) (wn := [(a_t, .inr (3, [.ref a_t_rows, .ref a_t_entries, .ref a_t_bounds, .ref a_t_starts, v_t_heats, v_t_sorted, .int t_size, .int t_pieces])), (a_t_bounds, .inl (t 0, 62, .inl t_bounds_)), (a_t_entries, .inl (t 0, 120, .inl t_entries_61_12)), (a_t_starts, .inl (t 0, 62, .inl t_starts_)), (a_t_rows, .inr (6, [.ref a_t_rows_keys, v_t_rows_values, v_t_rows_states, .int t_rows_count])), (a_t_rows_keys, .inl (t 0, 120, .inl t_rows_keys_))]) hx hb (hml.trans hl.1.symm) hown hac hac_n hac_s hac_i hK hP hD hS 2 2 0 0 rfl rfl rfl rfl rfl g61_6 g61_8 g61_10 (Nat.not_lt.mp g61_12) (Nat.not_lt.mp g61_14) (fun _ _ => rfl) (Nat.le_of_ble_eq_true rfl) (Nat.le_of_ble_eq_true rfl) et_entries_61_12 rfl dX3_takeOut_61 (fun H locs hP hD hS => ?_)
        refine lv_aload_n hx hb dX3_takeOut_64 rfl (lv_at hl 2 rfl) ?_
        refine lv_dup hx hb dX3_takeOut_65 rfl ?_
        refine va_get (D := D) (ci := 3) (v := .int t_size) (C := RX3) (T := TX3) (N := 8) hx hb hts iw3 hown hK hP 0 rfl rfl 6 (by decide) hf27 (fun _ h9 => h9) rfl dX3_takeOut_66 ?_
        refine lv_iconst (v := 1) hx hb dX3_takeOut_69 (by decide) ?_
        refine lv_isub hx hb dX3_takeOut_70 ?_
        refine lv_topi (fun y71_13 ey71_13 => ?_)
        have hF := ltE ey71_13 hF
        refine my_put (ty := .int) (v := .int y71_13) (ci := 3) (C := RX3) (T := TX3) (N := 8) (wn := [(a_t, .inr (3, [.ref a_t_rows, .ref a_t_entries, .ref a_t_bounds, .ref a_t_starts, v_t_heats, v_t_sorted, .int y71_13, .int t_pieces])), (a_t_bounds, .inl (t 0, 62, .inl t_bounds_)), (a_t_entries, .inl (t 0, 120, .inl t_entries_61_12)), (a_t_starts, .inl (t 0, 62, .inl t_starts_)), (a_t_rows, .inr (6, [.ref a_t_rows_keys, v_t_rows_values, v_t_rows_states, .int t_rows_count])), (a_t_rows_keys, .inl (t 0, 120, .inl t_rows_keys_))]) hx hb hts iw3 tyX3 tyX3_ok nmX3 hown hK hP hD hS 0 rfl rfl 6 (by decide) hf27 (fun _ h9 => h9) rfl (by decide +kernel) rfl rfl (Nat.le_of_ble_eq_true rfl) rfl dX3_takeOut_71 (fun H locs hP hD hS => ?_)
        refine lv_aload_n hx hb dX3_takeOut_74 rfl (lv_at hl 2 rfl) ?_
        refine lv_iload_n hx hb dX3_takeOut_75 rfl (lv_at hl 0 rfl) ?_
        refine lv_iconst (v := 1) hx hb dX3_takeOut_76 (by decide) ?_
        refine lv_iadd hx hb dX3_takeOut_77 ?_
        refine lv_iconst (v := (-1)) hx hb dX3_takeOut_78 (by decide) ?_
        obtain ⟨t_starts_79_14, h79_14, hF⟩ := bndE hF
        refine wrVM (As := [.int (r37_5 + 1), .int (-1)]) (rest := []) (C := RX3) (wn := [(a_t, .inr (3, [.ref a_t_rows, .ref a_t_entries, .ref a_t_bounds, .ref a_t_starts, v_t_heats, v_t_sorted, .int y71_13, .int t_pieces])), (a_t_bounds, .inl (t 0, 62, .inl t_bounds_)), (a_t_entries, .inl (t 0, 120, .inl t_entries_61_12)), (a_t_starts, .inl (t 0, 62, .inl t_starts_79_14)), (a_t_rows, .inr (6, [.ref a_t_rows_keys, v_t_rows_values, v_t_rows_states, .int t_rows_count])), (a_t_rows_keys, .inl (t 0, 120, .inl t_rows_keys_))]) ⟨hx, hb, hml, hown, hts⟩ (c_X3_shiftStarts l D t z x N a_t a_t_starts (.ref a_t_rows) (.ref a_t_entries) (.ref a_t_bounds) v_t_heats v_t_sorted y71_13 t_pieces t_starts_ (r37_5 + 1) (-1) H.size t_starts_79_14 h79_14) (cwV 2 hts gX3_takeOut_X3_shiftStarts rfl rfl rfl hd_X3_shiftStarts ⟨Nat.le_of_ble_eq_true rfl, Nat.le_of_ble_eq_true rfl⟩) (hC.at hz hS) hP hD hS hA hz [true, false, false, true, false, false] rfl rfl rfl rfl 0 rfl (show vwCl[3]? = some (RX3, TX3, 8) from rfl) rfl rfl hl.1 rfl (Nat.le_of_ble_eq_true rfl) dX3_takeOut_79 ⟨Nat.zero_le _, Nat.zero_le _⟩ rfl (fun H locs hP hD hS => ?_)
        cases hF
        exact we_vret hx hb hr hlocks dX3_takeOut_82 rfl hQ hP hD hS
      · have hF := brF c24 hF
        cases hF
        exact we_vret hx hb hr hlocks dX3_takeOut_27 rfl hQ hP hD hS
abbrev rm_X3_gatherLess : Room := { frames := 2, cells := 0, slots := 0, locals := 63 }
theorem hd_X3_gatherLess : yX3_gatherLess.cls = RX3 ∧ yX3_gatherLess.cls ≠ "java/lang/invoke/MethodHandle" ∧ yX3_gatherLess.cls ≠ "java/lang/invoke/VarHandle" ∧ (parseMethodDescriptor yX3_gatherLess.desc).map (fun d => d.parameters.length) = some 2 := by decide +kernel
set_option maxRecDepth 100000 in
set_option maxHeartbeats 4000000 in
theorem c_X3_gatherLess (l : Launch) (D : va_G) (t : Nat → ClassId) (z : Nat) (x : Nat → Nat) (N : Nat) (a_t : Nat) (a_t_entries : Nat) (a_t_starts : Nat) (a_t_rows : Nat) (a_t_rows_keys : Nat) (v_t_bounds : Value) (v_t_heats : Value) (v_t_sorted : Value) (v_t_rows_values : Value) (v_t_rows_states : Value) (t_size : Int32) (t_pieces : Int32) (t_entries_ : (Nat → Int32)) (t_starts_ : (Nat → Int32)) (t_rows_count : Int32) (t_rows_keys_ : (Nat → Int32)) (p1 : Int32) (p2 : Int32) (sz : Nat) (r : Int32) (t_entries_' : (Nat → Int32)) (hF : f_X3_gatherLess N t_size t_pieces t_entries_ t_starts_ t_rows_keys_ p1 p2 = some (r, t_entries_')) : WrM l D (TY t) z x yX3_gatherLess wsX3_gatherLess rm_X3_gatherLess [.ref a_t, .int p1, .int p2] [(a_t, .inr (3, [.ref a_t_rows, .ref a_t_entries, v_t_bounds, .ref a_t_starts, v_t_heats, v_t_sorted, .int t_size, .int t_pieces])), (a_t_entries, .inl (t 0, 120, .inl t_entries_)), (a_t_starts, .inl (t 0, 62, .inl t_starts_)), (a_t_rows, .inr (6, [.ref a_t_rows_keys, v_t_rows_values, v_t_rows_states, .int t_rows_count])), (a_t_rows_keys, .inl (t 0, 120, .inl t_rows_keys_))] [(a_t, .inr (3, [.ref a_t_rows, .ref a_t_entries, v_t_bounds, .ref a_t_starts, v_t_heats, v_t_sorted, .int t_size, .int t_pieces])), (a_t_entries, .inl (t 0, 120, .inl t_entries_')), (a_t_starts, .inl (t 0, 62, .inl t_starts_)), (a_t_rows, .inr (6, [.ref a_t_rows_keys, v_t_rows_values, v_t_rows_states, .int t_rows_count])), (a_t_rows_keys, .inl (t 0, 120, .inl t_rows_keys_))] sz (some (.int r)) 0 0 := by
  refine wr_of (cc := cX3_gatherLess) (maxL := 6) (ret := (some .int)) (by decide) rfl (Nat.le_of_ble_eq_true rfl) ?_
  intro p e s m args below meth c A Q hQ hx hb hr hml hts hown hlocks hin H locs hP hD hS hA hz hC ls hl
  have hown : s.vm.findClass RX3 = some m.cls := hown
  have hl : lv_has ls 6 [(0, .ref a_t), (1, .int p1), (2, .int p2)] := hl
  have hK := hC.1
  unfold f_X3_gatherLess at hF
  refine lv_aload_n hx hb dX3_gatherLess_0 rfl (lv_at hl 0 rfl) ?_
  refine lv_iload_n hx hb dX3_gatherLess_1 rfl (lv_at hl 1 rfl) ?_
  obtain ⟨r2_1, h2_1, hF⟩ := bndE hF
  refine rdV (As := [.int p1]) (rest := []) (C := RX3) ⟨hx, hb, hml, hown, hts⟩ (c_X3_startOf l D t z x a_t a_t_starts (.ref a_t_rows) (.ref a_t_entries) v_t_bounds v_t_heats v_t_sorted t_size t_pieces t_starts_ p1 H r2_1 h2_1) (cwV 1 hts gX3_gatherLess_X3_startOf rfl rfl rfl hd_X3_startOf ⟨Nat.le_of_ble_eq_true rfl, Nat.le_of_ble_eq_true rfl⟩) (hC.at hz hS) (selP (m9 := [true, false, true, false, false]) rfl rfl hP) 0 rfl (show vwCl[3]? = some (RX3, TX3, 8) from rfl) rfl rfl hl.1 rfl (Nat.le_of_ble_eq_true rfl) dX3_gatherLess_2 ⟨Nat.zero_le _, Nat.zero_le _⟩ rfl ?_
  refine lv_istore_n (lv' := [(3, .int r2_1), (0, .ref a_t), (1, .int p1), (2, .int p2)]) hx hb dX3_gatherLess_5 rfl hl (by decide) rfl (fun ls hl => ?_)
  refine lv_aload_n hx hb dX3_gatherLess_6 rfl (lv_at hl 1 rfl) ?_
  refine lv_iload_n hx hb dX3_gatherLess_7 rfl (lv_at hl 2 rfl) ?_
  refine lv_iconst (v := 1) hx hb dX3_gatherLess_8 (by decide) ?_
  refine lv_iadd hx hb dX3_gatherLess_9 ?_
  obtain ⟨r10_3, h10_3, hF⟩ := bndE hF
  refine rdV (As := [.int (p1 + 1)]) (rest := []) (C := RX3) ⟨hx, hb, hml, hown, hts⟩ (c_X3_startOf l D t z x a_t a_t_starts (.ref a_t_rows) (.ref a_t_entries) v_t_bounds v_t_heats v_t_sorted t_size t_pieces t_starts_ (p1 + 1) H r10_3 h10_3) (cwV 1 hts gX3_gatherLess_X3_startOf rfl rfl rfl hd_X3_startOf ⟨Nat.le_of_ble_eq_true rfl, Nat.le_of_ble_eq_true rfl⟩) (hC.at hz hS) (selP (m9 := [true, false, true, false, false]) rfl rfl hP) 0 rfl (show vwCl[3]? = some (RX3, TX3, 8) from rfl) rfl rfl hl.1 rfl (Nat.le_of_ble_eq_true rfl) dX3_gatherLess_10 ⟨Nat.zero_le _, Nat.zero_le _⟩ rfl ?_
  refine lv_istore (lv' := [(4, .int r10_3), (3, .int r2_1), (0, .ref a_t), (1, .int p1), (2, .int p2)]) hx hb dX3_gatherLess_13 hl (by decide) rfl (fun ls hl => ?_)
  refine lv_iload_n hx hb dX3_gatherLess_15 rfl (lv_at hl 1 rfl) ?_
  refine lv_istore (lv' := [(5, .int r2_1), (4, .int r10_3), (3, .int r2_1), (0, .ref a_t), (1, .int p1), (2, .int p2)]) hx hb dX3_gatherLess_16 hl (by decide) rfl (fun ls hl => ?_)
  obtain ⟨k51_7, ek51_7, hF⟩ := jnE hF
  have hk51_7 : ∀ (x3_51_5 : Int32) (t_entries_51_6 : (Nat → Int32)) (H : Heap) (locs : List Loc) (ls : Array Slot), va_P D vwCl [(a_t, .inr (3, [.ref a_t_rows, .ref a_t_entries, v_t_bounds, .ref a_t_starts, v_t_heats, v_t_sorted, .int t_size, .int t_pieces])), (a_t_entries, .inl (t 0, 120, .inl t_entries_51_6)), (a_t_starts, .inl (t 0, 62, .inl t_starts_)), (a_t_rows, .inr (6, [.ref a_t_rows_keys, v_t_rows_values, v_t_rows_states, .int t_rows_count])), (a_t_rows_keys, .inl (t 0, 120, .inl t_rows_keys_))] H → va_D A [(a_t, .inr (3, [.ref a_t_rows, .ref a_t_entries, v_t_bounds, .ref a_t_starts, v_t_heats, v_t_sorted, .int t_size, .int t_pieces])), (a_t_entries, .inl (t 0, 120, .inl t_entries_51_6)), (a_t_starts, .inl (t 0, 62, .inl t_starts_)), (a_t_rows, .inr (6, [.ref a_t_rows_keys, v_t_rows_values, v_t_rows_states, .int t_rows_count])), (a_t_rows_keys, .inl (t 0, 120, .inl t_rows_keys_))] → va_S A s.heap H locs → lv_has ls 6 [(3, .int x3_51_5)] → k51_7 x3_51_5 t_entries_51_6 = some (r, t_entries_') → W p l e rm_X3_gatherLess s m args below meth c H locs 0 0 Q (F0 m 51 ls []) := by
    subst ek51_7
    intro x3_51_5 t_entries_51_6 H locs ls hP hD hS hl hF
    refine lv_iload_n hx hb dX3_gatherLess_51 rfl (lv_at hl 0 rfl) ?_
    cases hF
    exact we_iret hx hb hr hlocks dX3_gatherLess_52 rfl hQ hP hD hS
  have hlp18 : ∀ n18 : Nat, ∀ (x3_18_8 : Int32) (x5_18_9 : Int32) (t_entries_18_10 : (Nat → Int32)) (H : Heap) (locs : List Loc) (ls : Array Slot), va_P D vwCl [(a_t, .inr (3, [.ref a_t_rows, .ref a_t_entries, v_t_bounds, .ref a_t_starts, v_t_heats, v_t_sorted, .int t_size, .int t_pieces])), (a_t_entries, .inl (t 0, 120, .inl t_entries_18_10)), (a_t_starts, .inl (t 0, 62, .inl t_starts_)), (a_t_rows, .inr (6, [.ref a_t_rows_keys, v_t_rows_values, v_t_rows_states, .int t_rows_count])), (a_t_rows_keys, .inl (t 0, 120, .inl t_rows_keys_))] H → va_D A [(a_t, .inr (3, [.ref a_t_rows, .ref a_t_entries, v_t_bounds, .ref a_t_starts, v_t_heats, v_t_sorted, .int t_size, .int t_pieces])), (a_t_entries, .inl (t 0, 120, .inl t_entries_18_10)), (a_t_starts, .inl (t 0, 62, .inl t_starts_)), (a_t_rows, .inr (6, [.ref a_t_rows_keys, v_t_rows_values, v_t_rows_states, .int t_rows_count])), (a_t_rows_keys, .inl (t 0, 120, .inl t_rows_keys_))] → va_S A s.heap H locs → lv_has ls 6 [(0, .ref a_t), (2, .int p2), (3, .int x3_18_8), (4, .int r10_3), (5, .int x5_18_9)] → f_X3_gatherLess_18 t_size t_rows_keys_ p2 r10_3 k51_7 n18 x3_18_8 x5_18_9 t_entries_18_10 = some (r, t_entries_') → W p l e rm_X3_gatherLess s m args below meth c H locs 0 0 Q (F0 m 18 ls []) := by
    intro n18
    induction n18 with
    | zero =>
      intro x3_18_8 x5_18_9 t_entries_18_10 H locs ls hP hD hS hl hF
      cases (show none = some (r, t_entries_') from hF)
    | succ n18 ih18 =>
      intro x3_18_8 x5_18_9 t_entries_18_10 H locs ls hP hD hS hl hF
      rw [f_X3_gatherLess_18] at hF
      refine lv_iload hx hb dX3_gatherLess_18 (lv_at hl 4 rfl) ?_
      refine lv_iload hx hb dX3_gatherLess_20 (lv_at hl 3 rfl) ?_
      refine lv_icmp_ge (tgt := 51) hx hb dX3_gatherLess_22 (by decide) (fun c22 => ?_) (fun c22 => ?_)
      · have hF := brT c22 hF
        exact hk51_7 x3_18_8 t_entries_18_10 H locs ls hP hD hS (lv_sub hl [2] rfl) hF
      · have hF := brF c22 hF
        refine lv_aload_n hx hb dX3_gatherLess_25 rfl (lv_at hl 0 rfl) ?_
        refine lv_iload hx hb dX3_gatherLess_26 (lv_at hl 4 rfl) ?_
        obtain ⟨r28_11, h28_11, hF⟩ := bndE hF
        refine rdV (As := [.int x5_18_9]) (rest := []) (C := RX3) ⟨hx, hb, hml, hown, hts⟩ (c_X3_keyAt l D t z x a_t a_t_entries a_t_rows a_t_rows_keys v_t_bounds (.ref a_t_starts) v_t_heats v_t_sorted v_t_rows_values v_t_rows_states t_size t_pieces t_entries_18_10 t_rows_count t_rows_keys_ x5_18_9 H r28_11 h28_11) (cwV 1 hts gX3_gatherLess_X3_keyAt rfl rfl rfl hd_X3_keyAt ⟨Nat.le_of_ble_eq_true rfl, Nat.le_of_ble_eq_true rfl⟩) (hC.at hz hS) (selP (m9 := [true, true, false, true, true]) rfl rfl hP) 0 rfl (show vwCl[3]? = some (RX3, TX3, 8) from rfl) rfl rfl hl.1 rfl (Nat.le_of_ble_eq_true rfl) dX3_gatherLess_28 ⟨Nat.zero_le _, Nat.zero_le _⟩ rfl ?_
        refine lv_iload_n hx hb dX3_gatherLess_31 rfl (lv_at hl 1 rfl) ?_
        refine lv_icmp_ge (tgt := 45) hx hb dX3_gatherLess_32 (by decide) (fun c32 => ?_) (fun c32 => ?_)
        · have hF := brT c32 hF
          obtain ⟨y45_13, ey45_13⟩ : ∃ y : Int32, y = x5_18_9 + 1 := ⟨_, rfl⟩
          have hF := ltE ey45_13 hF
          refine lv_iinc (v := y45_13) (lv' := [(5, .int y45_13), (0, .ref a_t), (2, .int p2), (3, .int x3_18_8), (4, .int r10_3)]) hx hb dX3_gatherLess_45 hl (k := 4) rfl (by rw [ey45_13]; rfl) (by decide) rfl (fun ls hl => ?_)
          refine lv_goto (tgt := 18) hx hb dX3_gatherLess_48 (by decide) ?_
          exact ih18 x3_18_8 y45_13 t_entries_18_10 H locs ls hP hD hS (lv_sub hl [1, 2, 3, 4, 0] rfl) hF
        · have hF := brF c32 hF
          refine lv_aload_n hx hb dX3_gatherLess_35 rfl (lv_at hl 0 rfl) ?_
          refine lv_iload hx hb dX3_gatherLess_36 (lv_at hl 4 rfl) ?_
          refine lv_iload_n hx hb dX3_gatherLess_38 rfl (lv_at hl 2 rfl) ?_
          obtain ⟨t_entries_39_14, h39_14, hF⟩ := bndE hF
          refine wrVM (As := [.int x5_18_9, .int x3_18_8]) (rest := []) (C := RX3) (wn := [(a_t, .inr (3, [.ref a_t_rows, .ref a_t_entries, v_t_bounds, .ref a_t_starts, v_t_heats, v_t_sorted, .int t_size, .int t_pieces])), (a_t_entries, .inl (t 0, 120, .inl t_entries_39_14)), (a_t_starts, .inl (t 0, 62, .inl t_starts_)), (a_t_rows, .inr (6, [.ref a_t_rows_keys, v_t_rows_values, v_t_rows_states, .int t_rows_count])), (a_t_rows_keys, .inl (t 0, 120, .inl t_rows_keys_))]) ⟨hx, hb, hml, hown, hts⟩ (c_X3_moveDown l D t z x a_t a_t_entries (.ref a_t_rows) v_t_bounds (.ref a_t_starts) v_t_heats v_t_sorted t_size t_pieces t_entries_18_10 x5_18_9 x3_18_8 H.size t_entries_39_14 h39_14) (cwV 2 hts gX3_gatherLess_X3_moveDown rfl rfl rfl hd_X3_moveDown ⟨Nat.le_of_ble_eq_true rfl, Nat.le_of_ble_eq_true rfl⟩) (hC.at hz hS) hP hD hS hA hz [true, true, false, false, false] rfl rfl rfl rfl 0 rfl (show vwCl[3]? = some (RX3, TX3, 8) from rfl) rfl rfl hl.1 rfl (Nat.le_of_ble_eq_true rfl) dX3_gatherLess_39 ⟨Nat.zero_le _, Nat.zero_le _⟩ rfl (fun H locs hP hD hS => ?_)
          obtain ⟨y42_16, ey42_16⟩ : ∃ y : Int32, y = x3_18_8 + 1 := ⟨_, rfl⟩
          have hF := ltE ey42_16 hF
          refine lv_iinc (v := y42_16) (lv' := [(3, .int y42_16), (0, .ref a_t), (2, .int p2), (4, .int r10_3), (5, .int x5_18_9)]) hx hb dX3_gatherLess_42 hl (k := 2) rfl (by rw [ey42_16]; rfl) (by decide) rfl (fun ls hl => ?_)
          obtain ⟨y45_17, ey45_17⟩ : ∃ y : Int32, y = x5_18_9 + 1 := ⟨_, rfl⟩
          have hF := ltE ey45_17 hF
          refine lv_iinc (v := y45_17) (lv' := [(5, .int y45_17), (3, .int y42_16), (0, .ref a_t), (2, .int p2), (4, .int r10_3)]) hx hb dX3_gatherLess_45 hl (k := 4) rfl (by rw [ey45_17]; rfl) (by decide) rfl (fun ls hl => ?_)
          refine lv_goto (tgt := 18) hx hb dX3_gatherLess_48 (by decide) ?_
          exact ih18 y42_16 y45_17 t_entries_39_14 H locs ls hP hD hS (lv_sub hl [2, 3, 1, 4, 0] rfl) hF
  exact hlp18 N r2_1 r2_1 t_entries_ H locs ls hP hD hS (lv_sub hl [3, 5, 2, 1, 0] rfl) hF
abbrev rm_X3_misplacedIn : Room := { frames := 3, cells := 0, slots := 0, locals := 70 }
theorem hd_X3_misplacedIn : yX3_misplacedIn.cls = RX3 ∧ yX3_misplacedIn.cls ≠ "java/lang/invoke/MethodHandle" ∧ yX3_misplacedIn.cls ≠ "java/lang/invoke/VarHandle" ∧ (parseMethodDescriptor yX3_misplacedIn.desc).map (fun d => d.parameters.length) = some 1 := by decide +kernel
set_option maxRecDepth 100000 in
set_option maxHeartbeats 4000000 in
theorem c_X3_misplacedIn (l : Launch) (D : va_G) (t : Nat → ClassId) (z : Nat) (x : Nat → Nat) (N : Nat) (a_t : Nat) (a_t_entries : Nat) (a_t_starts : Nat) (a_t_rows : Nat) (a_t_rows_keys : Nat) (v_t_bounds : Value) (v_t_heats : Value) (v_t_sorted : Value) (v_t_rows_values : Value) (v_t_rows_states : Value) (t_size : Int32) (t_pieces : Int32) (t_entries_ : (Nat → Int32)) (t_starts_ : (Nat → Int32)) (t_rows_count : Int32) (t_rows_keys_ : (Nat → Int32)) (p1 : Int32) (H : Heap) (r : Int32) (hF : f_X3_misplacedIn N t_size t_pieces t_entries_ t_starts_ t_rows_keys_ p1 = some (r)) : RdM l D (TY t) z x yX3_misplacedIn wsX3_misplacedIn rm_X3_misplacedIn [.ref a_t, .int p1] [(a_t, .inr (3, [.ref a_t_rows, .ref a_t_entries, v_t_bounds, .ref a_t_starts, v_t_heats, v_t_sorted, .int t_size, .int t_pieces])), (a_t_entries, .inl (t 0, 120, .inl t_entries_)), (a_t_starts, .inl (t 0, 62, .inl t_starts_)), (a_t_rows, .inr (6, [.ref a_t_rows_keys, v_t_rows_values, v_t_rows_states, .int t_rows_count])), (a_t_rows_keys, .inl (t 0, 120, .inl t_rows_keys_))] H (some (.int r)) := by
  refine rd_of (cc := cX3_misplacedIn) (maxL := 6) (ret := (some .int)) (by decide) rfl (Nat.le_of_ble_eq_true rfl) ?_
  intro p e s m args below meth c Q hQ hx hb hr hml hts hown hlocks hH hP hC ls hl
  have hown : s.vm.findClass RX3 = some m.cls := hown
  have hl : lv_has ls 6 [(0, .ref a_t), (1, .int p1)] := hl
  have hK := hC.1
  unfold f_X3_misplacedIn at hF
  refine lv_aload_n hx hb dX3_misplacedIn_0 rfl (lv_at hl 0 rfl) ?_
  refine lv_iload_n hx hb dX3_misplacedIn_1 rfl (lv_at hl 1 rfl) ?_
  obtain ⟨r2_1, h2_1, hF⟩ := bndE hF
  refine rdV (As := [.int p1]) (rest := []) (C := RX3) ⟨hx, hb, hml, hown, hts⟩ (c_X3_startOf l D t z x a_t a_t_starts (.ref a_t_rows) (.ref a_t_entries) v_t_bounds v_t_heats v_t_sorted t_size t_pieces t_starts_ p1 H r2_1 h2_1) (cwV 1 hts gX3_misplacedIn_X3_startOf rfl rfl rfl hd_X3_startOf ⟨Nat.le_of_ble_eq_true rfl, Nat.le_of_ble_eq_true rfl⟩) hC (selP (m9 := [true, false, true, false, false]) rfl rfl hP) 0 rfl (show vwCl[3]? = some (RX3, TX3, 8) from rfl) rfl rfl hl.1 rfl (Nat.le_of_ble_eq_true rfl) dX3_misplacedIn_2 ⟨Nat.zero_le _, Nat.zero_le _⟩ rfl ?_
  refine lv_istore_n (lv' := [(2, .int r2_1), (0, .ref a_t), (1, .int p1)]) hx hb dX3_misplacedIn_5 rfl hl (by decide) rfl (fun ls hl => ?_)
  refine lv_aload_n hx hb dX3_misplacedIn_6 rfl (lv_at hl 1 rfl) ?_
  refine lv_iload_n hx hb dX3_misplacedIn_7 rfl (lv_at hl 2 rfl) ?_
  refine lv_iconst (v := 1) hx hb dX3_misplacedIn_8 (by decide) ?_
  refine lv_iadd hx hb dX3_misplacedIn_9 ?_
  obtain ⟨r10_3, h10_3, hF⟩ := bndE hF
  refine rdV (As := [.int (p1 + 1)]) (rest := []) (C := RX3) ⟨hx, hb, hml, hown, hts⟩ (c_X3_startOf l D t z x a_t a_t_starts (.ref a_t_rows) (.ref a_t_entries) v_t_bounds v_t_heats v_t_sorted t_size t_pieces t_starts_ (p1 + 1) H r10_3 h10_3) (cwV 1 hts gX3_misplacedIn_X3_startOf rfl rfl rfl hd_X3_startOf ⟨Nat.le_of_ble_eq_true rfl, Nat.le_of_ble_eq_true rfl⟩) hC (selP (m9 := [true, false, true, false, false]) rfl rfl hP) 0 rfl (show vwCl[3]? = some (RX3, TX3, 8) from rfl) rfl rfl hl.1 rfl (Nat.le_of_ble_eq_true rfl) dX3_misplacedIn_10 ⟨Nat.zero_le _, Nat.zero_le _⟩ rfl ?_
  refine lv_istore_n (lv' := [(3, .int r10_3), (2, .int r2_1), (0, .ref a_t), (1, .int p1)]) hx hb dX3_misplacedIn_13 rfl hl (by decide) rfl (fun ls hl => ?_)
  refine lv_iconst (v := 0) hx hb dX3_misplacedIn_14 (by decide) ?_
  refine lv_istore (lv' := [(4, .int 0), (3, .int r10_3), (2, .int r2_1), (0, .ref a_t), (1, .int p1)]) hx hb dX3_misplacedIn_15 hl (by decide) rfl (fun ls hl => ?_)
  refine lv_iload_n hx hb dX3_misplacedIn_17 rfl (lv_at hl 2 rfl) ?_
  refine lv_istore (lv' := [(5, .int r2_1), (4, .int 0), (3, .int r10_3), (2, .int r2_1), (0, .ref a_t), (1, .int p1)]) hx hb dX3_misplacedIn_18 hl (by decide) rfl (fun ls hl => ?_)
  obtain ⟨k61_6, ek61_6, hF⟩ := jnE hF
  have hk61_6 : ∀ (x4_61_5 : Int32) (ls : Array Slot), lv_has ls 6 [(4, .int x4_61_5)] → k61_6 x4_61_5 = some (r) → W p l e rm_X3_misplacedIn s m args below meth c H [] 0 0 Q (F0 m 61 ls []) := by
    subst ek61_6
    intro x4_61_5 ls hl hF
    refine lv_iload hx hb dX3_misplacedIn_61 (lv_at hl 0 rfl) ?_
    cases hF
    exact rd_iret hx hb hr hlocks dX3_misplacedIn_63 rfl hQ
  have hlp20 : ∀ n20 : Nat, ∀ (x4_20_7 : Int32) (x5_20_8 : Int32) (ls : Array Slot), lv_has ls 6 [(0, .ref a_t), (2, .int r2_1), (3, .int r10_3), (4, .int x4_20_7), (5, .int x5_20_8)] → f_X3_misplacedIn_20 N t_size t_entries_ t_rows_keys_ r2_1 r10_3 k61_6 n20 x4_20_7 x5_20_8 = some (r) → W p l e rm_X3_misplacedIn s m args below meth c H [] 0 0 Q (F0 m 20 ls []) := by
    intro n20
    induction n20 with
    | zero =>
      intro x4_20_7 x5_20_8 ls hl hF
      cases (show none = some (r) from hF)
    | succ n20 ih20 =>
      intro x4_20_7 x5_20_8 ls hl hF
      rw [f_X3_misplacedIn_20] at hF
      refine lv_iload hx hb dX3_misplacedIn_20 (lv_at hl 4 rfl) ?_
      refine lv_iload_n hx hb dX3_misplacedIn_22 rfl (lv_at hl 2 rfl) ?_
      refine lv_icmp_ge (tgt := 61) hx hb dX3_misplacedIn_23 (by decide) (fun c23 => ?_) (fun c23 => ?_)
      · have hF := brT c23 hF
        exact hk61_6 x4_20_7 ls (lv_sub hl [3] rfl) hF
      · have hF := brF c23 hF
        refine lv_iload hx hb dX3_misplacedIn_26 (lv_at hl 3 rfl) ?_
        refine lv_aload_n hx hb dX3_misplacedIn_28 rfl (lv_at hl 0 rfl) ?_
        refine lv_aload_n hx hb dX3_misplacedIn_29 rfl (lv_at hl 0 rfl) ?_
        refine lv_iload hx hb dX3_misplacedIn_30 (lv_at hl 4 rfl) ?_
        obtain ⟨r32_9, h32_9, hF⟩ := bndE hF
        refine rdV (As := [.int x5_20_8]) (rest := [.ref a_t, .int x4_20_7]) (C := RX3) ⟨hx, hb, hml, hown, hts⟩ (c_X3_rowAt l D t z x a_t a_t_entries (.ref a_t_rows) v_t_bounds (.ref a_t_starts) v_t_heats v_t_sorted t_size t_pieces t_entries_ x5_20_8 H r32_9 h32_9) (cwV 1 hts gX3_misplacedIn_X3_rowAt rfl rfl rfl hd_X3_rowAt ⟨Nat.le_of_ble_eq_true rfl, Nat.le_of_ble_eq_true rfl⟩) hC (selP (m9 := [true, true, false, false, false]) rfl rfl hP) 0 rfl (show vwCl[3]? = some (RX3, TX3, 8) from rfl) rfl rfl hl.1 rfl (Nat.le_of_ble_eq_true rfl) dX3_misplacedIn_32 ⟨Nat.zero_le _, Nat.zero_le _⟩ rfl ?_
        refine lv_iload_n hx hb dX3_misplacedIn_35 rfl (lv_at hl 1 rfl) ?_
        refine lv_iload_n hx hb dX3_misplacedIn_36 rfl (lv_at hl 2 rfl) ?_
        obtain ⟨r37_11, h37_11, hF⟩ := bndE hF
        refine rdV (As := [.int r32_9, .int r2_1, .int r10_3]) (rest := [.int x4_20_7]) (C := RX3) ⟨hx, hb, hml, hown, hts⟩ (c_X3_aheadOf l D t z x N a_t a_t_entries a_t_rows a_t_rows_keys v_t_bounds (.ref a_t_starts) v_t_heats v_t_sorted v_t_rows_values v_t_rows_states t_size t_pieces t_entries_ t_rows_count t_rows_keys_ r32_9 r2_1 r10_3 H r37_11 h37_11) (cwV 3 hts gX3_misplacedIn_X3_aheadOf rfl rfl rfl hd_X3_aheadOf ⟨Nat.le_of_ble_eq_true rfl, Nat.le_of_ble_eq_true rfl⟩) hC (selP (m9 := [true, true, false, true, true]) rfl rfl hP) 0 rfl (show vwCl[3]? = some (RX3, TX3, 8) from rfl) rfl rfl hl.1 rfl (Nat.le_of_ble_eq_true rfl) dX3_misplacedIn_37 ⟨Nat.zero_le _, Nat.zero_le _⟩ rfl ?_
        refine lv_iload hx hb dX3_misplacedIn_40 (lv_at hl 4 rfl) ?_
        refine lv_iload_n hx hb dX3_misplacedIn_42 rfl (lv_at hl 1 rfl) ?_
        refine lv_isub hx hb dX3_misplacedIn_43 ?_
        refine lv_icmp_eq (tgt := 51) hx hb dX3_misplacedIn_44 (by decide) (fun c44 => ?_) (fun c44 => ?_)
        · have hF := brT c44 hF
          refine lv_iconst (v := 0) hx hb dX3_misplacedIn_51 (by decide) ?_
          refine lv_iadd hx hb dX3_misplacedIn_52 ?_
          refine lv_topi (fun y53_13 ey53_13 => ?_)
          have hF := ltE ey53_13 hF
          refine lv_istore (lv' := [(4, .int y53_13), (0, .ref a_t), (2, .int r2_1), (3, .int r10_3), (5, .int x5_20_8)]) hx hb dX3_misplacedIn_53 hl (by decide) rfl (fun ls hl => ?_)
          obtain ⟨y55_14, ey55_14⟩ : ∃ y : Int32, y = x5_20_8 + 1 := ⟨_, rfl⟩
          have hF := ltE ey55_14 hF
          refine lv_iinc (v := y55_14) (lv' := [(5, .int y55_14), (4, .int y53_13), (0, .ref a_t), (2, .int r2_1), (3, .int r10_3)]) hx hb dX3_misplacedIn_55 hl (k := 4) rfl (by rw [ey55_14]; rfl) (by decide) rfl (fun ls hl => ?_)
          refine lv_goto (tgt := 20) hx hb dX3_misplacedIn_58 (by decide) ?_
          exact ih20 y53_13 y55_14 ls (lv_sub hl [2, 3, 4, 1, 0] rfl) hF
        · have hF := brF c44 hF
          refine lv_iconst (v := 1) hx hb dX3_misplacedIn_47 (by decide) ?_
          refine lv_goto (tgt := 52) hx hb dX3_misplacedIn_48 (by decide) ?_
          refine lv_iadd hx hb dX3_misplacedIn_52 ?_
          refine lv_topi (fun y53_15 ey53_15 => ?_)
          have hF := ltE ey53_15 hF
          refine lv_istore (lv' := [(4, .int y53_15), (0, .ref a_t), (2, .int r2_1), (3, .int r10_3), (5, .int x5_20_8)]) hx hb dX3_misplacedIn_53 hl (by decide) rfl (fun ls hl => ?_)
          obtain ⟨y55_16, ey55_16⟩ : ∃ y : Int32, y = x5_20_8 + 1 := ⟨_, rfl⟩
          have hF := ltE ey55_16 hF
          refine lv_iinc (v := y55_16) (lv' := [(5, .int y55_16), (4, .int y53_15), (0, .ref a_t), (2, .int r2_1), (3, .int r10_3)]) hx hb dX3_misplacedIn_55 hl (k := 4) rfl (by rw [ey55_16]; rfl) (by decide) rfl (fun ls hl => ?_)
          refine lv_goto (tgt := 20) hx hb dX3_misplacedIn_58 (by decide) ?_
          exact ih20 y53_15 y55_16 ls (lv_sub hl [2, 3, 4, 1, 0] rfl) hF
  exact hlp20 N 0 r2_1 ls (lv_sub hl [4, 3, 2, 1, 0] rfl) hF
abbrev rm_X3_putInOrder : Room := { frames := 3, cells := 0, slots := 0, locals := 87 }
theorem hd_X3_putInOrder : yX3_putInOrder.cls = RX3 ∧ yX3_putInOrder.cls ≠ "java/lang/invoke/MethodHandle" ∧ yX3_putInOrder.cls ≠ "java/lang/invoke/VarHandle" ∧ (parseMethodDescriptor yX3_putInOrder.desc).map (fun d => d.parameters.length) = some 1 := by decide +kernel
set_option maxRecDepth 100000 in
set_option maxHeartbeats 4000000 in
theorem c_X3_putInOrder (l : Launch) (D : va_G) (t : Nat → ClassId) (z : Nat) (x : Nat → Nat) (N : Nat) (a_t : Nat) (a_t_entries : Nat) (a_t_sorted : Nat) (a_t_starts : Nat) (a_t_rows : Nat) (a_t_rows_keys : Nat) (v_t_bounds : Value) (v_t_heats : Value) (v_t_rows_values : Value) (v_t_rows_states : Value) (t_size : Int32) (t_pieces : Int32) (t_entries_ : (Nat → Int32)) (t_sorted_ : (Nat → Int32)) (t_starts_ : (Nat → Int32)) (t_rows_count : Int32) (t_rows_keys_ : (Nat → Int32)) (p1 : Int32) (sz : Nat) (t_entries_' : (Nat → Int32)) (t_sorted_' : (Nat → Int32)) (hF : f_X3_putInOrder N t_size t_pieces t_entries_ t_sorted_ t_starts_ t_rows_keys_ p1 = some (t_entries_', t_sorted_')) : WrM l D (TY t) z x yX3_putInOrder wsX3_putInOrder rm_X3_putInOrder [.ref a_t, .int p1] [(a_t, .inr (3, [.ref a_t_rows, .ref a_t_entries, v_t_bounds, .ref a_t_starts, v_t_heats, .ref a_t_sorted, .int t_size, .int t_pieces])), (a_t_entries, .inl (t 0, 120, .inl t_entries_)), (a_t_sorted, .inl (t 0, 62, .inl t_sorted_)), (a_t_starts, .inl (t 0, 62, .inl t_starts_)), (a_t_rows, .inr (6, [.ref a_t_rows_keys, v_t_rows_values, v_t_rows_states, .int t_rows_count])), (a_t_rows_keys, .inl (t 0, 120, .inl t_rows_keys_))] [(a_t, .inr (3, [.ref a_t_rows, .ref a_t_entries, v_t_bounds, .ref a_t_starts, v_t_heats, .ref a_t_sorted, .int t_size, .int t_pieces])), (a_t_entries, .inl (t 0, 120, .inl t_entries_')), (a_t_sorted, .inl (t 0, 62, .inl t_sorted_')), (a_t_starts, .inl (t 0, 62, .inl t_starts_)), (a_t_rows, .inr (6, [.ref a_t_rows_keys, v_t_rows_values, v_t_rows_states, .int t_rows_count])), (a_t_rows_keys, .inl (t 0, 120, .inl t_rows_keys_))] sz none 0 0 := by
  refine wr_of (cc := cX3_putInOrder) (maxL := 5) (ret := none) (by decide) rfl (Nat.le_of_ble_eq_true rfl) ?_
  intro p e s m args below meth c A Q hQ hx hb hr hml hts hown hlocks hin H locs hP hD hS hA hz hC ls hl
  have hown : s.vm.findClass RX3 = some m.cls := hown
  have hl : lv_has ls 5 [(0, .ref a_t), (1, .int p1)] := hl
  have hK := hC.1
  have iw3 : ∀ w ∈ wsX30, w ∈ wsX3_putInOrder := fun _ h => List.mem_cons_of_mem _ (List.mem_append_left _ (List.mem_append_right _ h))
  have hf24 := hts (.fieldLink RX3 24 "CrackedColumn$Index" "sorted" "[I") (by decide +kernel)
  unfold f_X3_putInOrder at hF
  refine lv_aload_n hx hb dX3_putInOrder_0 rfl (lv_at hl 0 rfl) ?_
  refine lv_iload_n hx hb dX3_putInOrder_1 rfl (lv_at hl 1 rfl) ?_
  obtain ⟨r2_1, h2_1, hF⟩ := bndE hF
  refine rdV (As := [.int p1]) (rest := []) (C := RX3) ⟨hx, hb, hml, hown, hts⟩ (c_X3_has l D t z x a_t (.ref a_t_rows) (.ref a_t_entries) v_t_bounds (.ref a_t_starts) v_t_heats (.ref a_t_sorted) t_size t_pieces p1 H r2_1 h2_1) (cwV 1 hts gX3_putInOrder_X3_has rfl rfl rfl hd_X3_has ⟨Nat.le_of_ble_eq_true rfl, Nat.le_of_ble_eq_true rfl⟩) (hC.at hz hS) (selP (m9 := [true, false, false, false, false, false]) rfl rfl hP) 0 rfl (show vwCl[3]? = some (RX3, TX3, 8) from rfl) rfl rfl hl.1 rfl (Nat.le_of_ble_eq_true rfl) dX3_putInOrder_2 ⟨Nat.zero_le _, Nat.zero_le _⟩ rfl ?_
  refine lv_if_ne (tgt := 9) hx hb dX3_putInOrder_5 (by decide) (fun c5 => ?_) (fun c5 => ?_)
  · have hF := brF c5 hF
    refine lv_aload_n hx hb dX3_putInOrder_9 rfl (lv_at hl 0 rfl) ?_
    refine lv_iload_n hx hb dX3_putInOrder_10 rfl (lv_at hl 1 rfl) ?_
    obtain ⟨r11_3, h11_3, hF⟩ := bndE hF
    refine rdV (As := [.int p1]) (rest := []) (C := RX3) ⟨hx, hb, hml, hown, hts⟩ (c_X3_startOf l D t z x a_t a_t_starts (.ref a_t_rows) (.ref a_t_entries) v_t_bounds v_t_heats (.ref a_t_sorted) t_size t_pieces t_starts_ p1 H r11_3 h11_3) (cwV 1 hts gX3_putInOrder_X3_startOf rfl rfl rfl hd_X3_startOf ⟨Nat.le_of_ble_eq_true rfl, Nat.le_of_ble_eq_true rfl⟩) (hC.at hz hS) (selP (m9 := [true, false, false, true, false, false]) rfl rfl hP) 0 rfl (show vwCl[3]? = some (RX3, TX3, 8) from rfl) rfl rfl hl.1 rfl (Nat.le_of_ble_eq_true rfl) dX3_putInOrder_11 ⟨Nat.zero_le _, Nat.zero_le _⟩ rfl ?_
    refine lv_istore_n (lv' := [(2, .int r11_3), (0, .ref a_t), (1, .int p1)]) hx hb dX3_putInOrder_14 rfl hl (by decide) rfl (fun ls hl => ?_)
    refine lv_aload_n hx hb dX3_putInOrder_15 rfl (lv_at hl 1 rfl) ?_
    refine lv_iload_n hx hb dX3_putInOrder_16 rfl (lv_at hl 2 rfl) ?_
    refine lv_iconst (v := 1) hx hb dX3_putInOrder_17 (by decide) ?_
    refine lv_iadd hx hb dX3_putInOrder_18 ?_
    obtain ⟨r19_5, h19_5, hF⟩ := bndE hF
    refine rdV (As := [.int (p1 + 1)]) (rest := []) (C := RX3) ⟨hx, hb, hml, hown, hts⟩ (c_X3_startOf l D t z x a_t a_t_starts (.ref a_t_rows) (.ref a_t_entries) v_t_bounds v_t_heats (.ref a_t_sorted) t_size t_pieces t_starts_ (p1 + 1) H r19_5 h19_5) (cwV 1 hts gX3_putInOrder_X3_startOf rfl rfl rfl hd_X3_startOf ⟨Nat.le_of_ble_eq_true rfl, Nat.le_of_ble_eq_true rfl⟩) (hC.at hz hS) (selP (m9 := [true, false, false, true, false, false]) rfl rfl hP) 0 rfl (show vwCl[3]? = some (RX3, TX3, 8) from rfl) rfl rfl hl.1 rfl (Nat.le_of_ble_eq_true rfl) dX3_putInOrder_19 ⟨Nat.zero_le _, Nat.zero_le _⟩ rfl ?_
    refine lv_istore_n (lv' := [(3, .int r19_5), (2, .int r11_3), (0, .ref a_t), (1, .int p1)]) hx hb dX3_putInOrder_22 rfl hl (by decide) rfl (fun ls hl => ?_)
    refine lv_iload_n hx hb dX3_putInOrder_23 rfl (lv_at hl 1 rfl) ?_
    refine lv_iconst (v := 1) hx hb dX3_putInOrder_24 (by decide) ?_
    refine lv_iadd hx hb dX3_putInOrder_25 ?_
    refine lv_topi (fun y26_7 ey26_7 => ?_)
    have hF := ltE ey26_7 hF
    refine lv_istore (lv' := [(4, .int y26_7), (3, .int r19_5), (2, .int r11_3), (0, .ref a_t), (1, .int p1)]) hx hb dX3_putInOrder_26 hl (by decide) rfl (fun ls hl => ?_)
    obtain ⟨k47_9, ek47_9, hF⟩ := jnE hF
    have hk47_9 : ∀ (t_entries_47_8 : (Nat → Int32)) (H : Heap) (locs : List Loc) (ls : Array Slot), va_P D vwCl [(a_t, .inr (3, [.ref a_t_rows, .ref a_t_entries, v_t_bounds, .ref a_t_starts, v_t_heats, .ref a_t_sorted, .int t_size, .int t_pieces])), (a_t_entries, .inl (t 0, 120, .inl t_entries_47_8)), (a_t_sorted, .inl (t 0, 62, .inl t_sorted_)), (a_t_starts, .inl (t 0, 62, .inl t_starts_)), (a_t_rows, .inr (6, [.ref a_t_rows_keys, v_t_rows_values, v_t_rows_states, .int t_rows_count])), (a_t_rows_keys, .inl (t 0, 120, .inl t_rows_keys_))] H → va_D A [(a_t, .inr (3, [.ref a_t_rows, .ref a_t_entries, v_t_bounds, .ref a_t_starts, v_t_heats, .ref a_t_sorted, .int t_size, .int t_pieces])), (a_t_entries, .inl (t 0, 120, .inl t_entries_47_8)), (a_t_sorted, .inl (t 0, 62, .inl t_sorted_)), (a_t_starts, .inl (t 0, 62, .inl t_starts_)), (a_t_rows, .inr (6, [.ref a_t_rows_keys, v_t_rows_values, v_t_rows_states, .int t_rows_count])), (a_t_rows_keys, .inl (t 0, 120, .inl t_rows_keys_))] → va_S A s.heap H locs → lv_has ls 5 [(0, .ref a_t), (1, .int p1)] → k47_9 t_entries_47_8 = some (t_entries_', t_sorted_') → W p l e rm_X3_putInOrder s m args below meth c H locs 0 0 Q (F0 m 47 ls []) := by
      subst ek47_9
      intro t_entries_47_8 H locs ls hP hD hS hl hF
      refine lv_aload_n hx hb dX3_putInOrder_47 rfl (lv_at hl 0 rfl) ?_
      refine va_get (D := D) (ci := 3) (v := .ref a_t_sorted) (C := RX3) (T := TX3) (N := 8) hx hb hts iw3 hown hK hP 0 rfl rfl 5 (by decide) hf24 (fun _ h9 => h9) rfl dX3_putInOrder_48 ?_
      refine lv_iload_n hx hb dX3_putInOrder_51 rfl (lv_at hl 1 rfl) ?_
      refine lv_iconst (v := 1) hx hb dX3_putInOrder_52 (by decide) ?_
      obtain ⟨g53_9, hF⟩ := gd hF
      obtain ⟨t_sorted_53_11, et_sorted_53_11⟩ : ∃ y : Nat → Int32, y = upd t_sorted_ p1.toNatClampNeg 1 := ⟨_, rfl⟩
      have hF := ltE et_sorted_53_11 hF
      refine my_iast (g := t_sorted_53_11) (wn := [(a_t, .inr (3, [.ref a_t_rows, .ref a_t_entries, v_t_bounds, .ref a_t_starts, v_t_heats, .ref a_t_sorted, .int t_size, .int t_pieces])), (a_t_entries, .inl (t 0, 120, .inl t_entries_47_8)), (a_t_sorted, .inl (t 0, 62, .inl t_sorted_53_11)), (a_t_starts, .inl (t 0, 62, .inl t_starts_)), (a_t_rows, .inr (6, [.ref a_t_rows_keys, v_t_rows_values, v_t_rows_states, .int t_rows_count])), (a_t_rows_keys, .inl (t 0, 120, .inl t_rows_keys_))]) hx hb hK hP hD hS 2 0 rfl rfl g53_9 et_sorted_53_11 rfl dX3_putInOrder_53 (fun H locs hP hD hS => ?_)
      cases hF
      exact we_vret hx hb hr hlocks dX3_putInOrder_54 rfl hQ hP hD hS
    have hlp28 : ∀ n28 : Nat, ∀ (x4_28_12 : Int32) (t_entries_28_13 : (Nat → Int32)) (H : Heap) (locs : List Loc) (ls : Array Slot), va_P D vwCl [(a_t, .inr (3, [.ref a_t_rows, .ref a_t_entries, v_t_bounds, .ref a_t_starts, v_t_heats, .ref a_t_sorted, .int t_size, .int t_pieces])), (a_t_entries, .inl (t 0, 120, .inl t_entries_28_13)), (a_t_sorted, .inl (t 0, 62, .inl t_sorted_)), (a_t_starts, .inl (t 0, 62, .inl t_starts_)), (a_t_rows, .inr (6, [.ref a_t_rows_keys, v_t_rows_values, v_t_rows_states, .int t_rows_count])), (a_t_rows_keys, .inl (t 0, 120, .inl t_rows_keys_))] H → va_D A [(a_t, .inr (3, [.ref a_t_rows, .ref a_t_entries, v_t_bounds, .ref a_t_starts, v_t_heats, .ref a_t_sorted, .int t_size, .int t_pieces])), (a_t_entries, .inl (t 0, 120, .inl t_entries_28_13)), (a_t_sorted, .inl (t 0, 62, .inl t_sorted_)), (a_t_starts, .inl (t 0, 62, .inl t_starts_)), (a_t_rows, .inr (6, [.ref a_t_rows_keys, v_t_rows_values, v_t_rows_states, .int t_rows_count])), (a_t_rows_keys, .inl (t 0, 120, .inl t_rows_keys_))] → va_S A s.heap H locs → lv_has ls 5 [(0, .ref a_t), (1, .int p1), (2, .int r11_3), (3, .int r19_5), (4, .int x4_28_12)] → f_X3_putInOrder_28 N t_size t_rows_keys_ r11_3 r19_5 k47_9 n28 x4_28_12 t_entries_28_13 = some (t_entries_', t_sorted_') → W p l e rm_X3_putInOrder s m args below meth c H locs 0 0 Q (F0 m 28 ls []) := by
      intro n28
      induction n28 with
      | zero =>
        intro x4_28_12 t_entries_28_13 H locs ls hP hD hS hl hF
        cases (show none = some (t_entries_', t_sorted_') from hF)
      | succ n28 ih28 =>
        intro x4_28_12 t_entries_28_13 H locs ls hP hD hS hl hF
        rw [f_X3_putInOrder_28] at hF
        refine lv_iload hx hb dX3_putInOrder_28 (lv_at hl 4 rfl) ?_
        refine lv_iload_n hx hb dX3_putInOrder_30 rfl (lv_at hl 3 rfl) ?_
        refine lv_icmp_ge (tgt := 47) hx hb dX3_putInOrder_31 (by decide) (fun c31 => ?_) (fun c31 => ?_)
        · have hF := brT c31 hF
          exact hk47_9 t_entries_28_13 H locs ls hP hD hS (lv_sub hl [0, 1] rfl) hF
        · have hF := brF c31 hF
          refine lv_aload_n hx hb dX3_putInOrder_34 rfl (lv_at hl 0 rfl) ?_
          refine lv_iload_n hx hb dX3_putInOrder_35 rfl (lv_at hl 2 rfl) ?_
          refine lv_iload hx hb dX3_putInOrder_36 (lv_at hl 4 rfl) ?_
          obtain ⟨t_entries_38_14, h38_14, hF⟩ := bndE hF
          refine wrVM (As := [.int r11_3, .int x4_28_12]) (rest := []) (C := RX3) (wn := [(a_t, .inr (3, [.ref a_t_rows, .ref a_t_entries, v_t_bounds, .ref a_t_starts, v_t_heats, .ref a_t_sorted, .int t_size, .int t_pieces])), (a_t_entries, .inl (t 0, 120, .inl t_entries_38_14)), (a_t_sorted, .inl (t 0, 62, .inl t_sorted_)), (a_t_starts, .inl (t 0, 62, .inl t_starts_)), (a_t_rows, .inr (6, [.ref a_t_rows_keys, v_t_rows_values, v_t_rows_states, .int t_rows_count])), (a_t_rows_keys, .inl (t 0, 120, .inl t_rows_keys_))]) ⟨hx, hb, hml, hown, hts⟩ (c_X3_slideDown l D t z x N a_t a_t_entries a_t_rows a_t_rows_keys v_t_bounds (.ref a_t_starts) v_t_heats (.ref a_t_sorted) v_t_rows_values v_t_rows_states t_size t_pieces t_entries_28_13 t_rows_count t_rows_keys_ r11_3 x4_28_12 H.size t_entries_38_14 h38_14) (cwV 2 hts gX3_putInOrder_X3_slideDown rfl rfl rfl hd_X3_slideDown ⟨Nat.le_of_ble_eq_true rfl, Nat.le_of_ble_eq_true rfl⟩) (hC.at hz hS) hP hD hS hA hz [true, true, false, false, true, true] rfl rfl rfl rfl 0 rfl (show vwCl[3]? = some (RX3, TX3, 8) from rfl) rfl rfl hl.1 rfl (Nat.le_of_ble_eq_true rfl) dX3_putInOrder_38 ⟨Nat.zero_le _, Nat.zero_le _⟩ rfl (fun H locs hP hD hS => ?_)
          obtain ⟨y41_16, ey41_16⟩ : ∃ y : Int32, y = x4_28_12 + 1 := ⟨_, rfl⟩
          have hF := ltE ey41_16 hF
          refine lv_iinc (v := y41_16) (lv' := [(4, .int y41_16), (0, .ref a_t), (1, .int p1), (2, .int r11_3), (3, .int r19_5)]) hx hb dX3_putInOrder_41 hl (k := 4) rfl (by rw [ey41_16]; rfl) (by decide) rfl (fun ls hl => ?_)
          refine lv_goto (tgt := 28) hx hb dX3_putInOrder_44 (by decide) ?_
          exact ih28 y41_16 t_entries_38_14 H locs ls hP hD hS (lv_sub hl [1, 2, 3, 4, 0] rfl) hF
    exact hlp28 N y26_7 t_entries_ H locs ls hP hD hS (lv_sub hl [3, 4, 2, 1, 0] rfl) hF
  · have hF := brT c5 hF
    cases hF
    exact we_vret hx hb hr hlocks dX3_putInOrder_8 rfl hQ hP hD hS
abbrev rm_X3_coldestOfPairs : Room := { frames := 3, cells := 0, slots := 0, locals := 63 }
theorem hd_X3_coldestOfPairs : yX3_coldestOfPairs.cls = RX3 ∧ yX3_coldestOfPairs.cls ≠ "java/lang/invoke/MethodHandle" ∧ yX3_coldestOfPairs.cls ≠ "java/lang/invoke/VarHandle" ∧ (parseMethodDescriptor yX3_coldestOfPairs.desc).map (fun d => d.parameters.length) = some 0 := by decide +kernel
set_option maxRecDepth 100000 in
set_option maxHeartbeats 4000000 in
theorem c_X3_coldestOfPairs (l : Launch) (D : va_G) (t : Nat → ClassId) (z : Nat) (x : Nat → Nat) (N : Nat) (a_t : Nat) (a_t_heats : Nat) (v_t_rows : Value) (v_t_entries : Value) (v_t_bounds : Value) (v_t_starts : Value) (v_t_sorted : Value) (t_size : Int32) (t_pieces : Int32) (t_heats_ : (Nat → Int32)) (H : Heap) (r : Int32) (hF : f_X3_coldestOfPairs N t_pieces t_heats_ = some (r)) : RdM l D (TY t) z x yX3_coldestOfPairs wsX3_coldestOfPairs rm_X3_coldestOfPairs [.ref a_t] [(a_t, .inr (3, [v_t_rows, v_t_entries, v_t_bounds, v_t_starts, .ref a_t_heats, v_t_sorted, .int t_size, .int t_pieces])), (a_t_heats, .inl (t 0, 62, .inl t_heats_))] H (some (.int r)) := by
  refine rd_of (cc := cX3_coldestOfPairs) (maxL := 3) (ret := (some .int)) (by decide) rfl (Nat.le_of_ble_eq_true rfl) ?_
  intro p e s m args below meth c Q hQ hx hb hr hml hts hown hlocks hH hP hC ls hl
  have hown : s.vm.findClass RX3 = some m.cls := hown
  have hl : lv_has ls 3 [(0, .ref a_t)] := hl
  have hK := hC.1
  have iw3 : ∀ w ∈ wsX30, w ∈ wsX3_coldestOfPairs := fun _ h => List.mem_cons_of_mem _ (List.mem_append_right _ h)
  have hf31 := hts (.fieldLink RX3 31 "CrackedColumn$Index" "pieces" "I") (by decide +kernel)
  unfold f_X3_coldestOfPairs at hF
  refine lv_iconst (v := (-1)) hx hb dX3_coldestOfPairs_0 (by decide) ?_
  refine lv_istore_n (lv' := [(1, .int (-1)), (0, .ref a_t)]) hx hb dX3_coldestOfPairs_1 rfl hl (by decide) rfl (fun ls hl => ?_)
  refine lv_iconst (v := 0) hx hb dX3_coldestOfPairs_2 (by decide) ?_
  refine lv_istore_n (lv' := [(2, .int 0), (1, .int (-1)), (0, .ref a_t)]) hx hb dX3_coldestOfPairs_3 rfl hl (by decide) rfl (fun ls hl => ?_)
  obtain ⟨k44_2, ek44_2, hF⟩ := jnE hF
  have hk44_2 : ∀ (x1_44_1 : Int32) (ls : Array Slot), lv_has ls 3 [(1, .int x1_44_1)] → k44_2 x1_44_1 = some (r) → W p l e rm_X3_coldestOfPairs s m args below meth c H [] 0 0 Q (F0 m 44 ls []) := by
    subst ek44_2
    intro x1_44_1 ls hl hF
    refine lv_iload_n hx hb dX3_coldestOfPairs_44 rfl (lv_at hl 0 rfl) ?_
    cases hF
    exact rd_iret hx hb hr hlocks dX3_coldestOfPairs_45 rfl hQ
  have hlp4 : ∀ n4 : Nat, ∀ (x1_4_3 : Int32) (x2_4_4 : Int32) (ls : Array Slot), lv_has ls 3 [(0, .ref a_t), (1, .int x1_4_3), (2, .int x2_4_4)] → f_X3_coldestOfPairs_4 t_pieces t_heats_ k44_2 n4 x1_4_3 x2_4_4 = some (r) → W p l e rm_X3_coldestOfPairs s m args below meth c H [] 0 0 Q (F0 m 4 ls []) := by
    intro n4
    induction n4 with
    | zero =>
      intro x1_4_3 x2_4_4 ls hl hF
      cases (show none = some (r) from hF)
    | succ n4 ih4 =>
      intro x1_4_3 x2_4_4 ls hl hF
      rw [f_X3_coldestOfPairs_4] at hF
      refine lv_iload_n hx hb dX3_coldestOfPairs_4 rfl (lv_at hl 2 rfl) ?_
      refine lv_aload_n hx hb dX3_coldestOfPairs_5 rfl (lv_at hl 0 rfl) ?_
      refine va_get (D := D) (ci := 3) (v := .int t_pieces) (C := RX3) (T := TX3) (N := 8) hx hb hts iw3 hown hK hP 0 rfl rfl 7 (by decide) hf31 (fun _ h9 => h9) rfl dX3_coldestOfPairs_6 ?_
      refine lv_iconst (v := 1) hx hb dX3_coldestOfPairs_9 (by decide) ?_
      refine lv_isub hx hb dX3_coldestOfPairs_10 ?_
      refine lv_icmp_ge (tgt := 44) hx hb dX3_coldestOfPairs_11 (by decide) (fun c11 => ?_) (fun c11 => ?_)
      · have hF := brT c11 hF
        exact hk44_2 x1_4_3 ls (lv_sub hl [1] rfl) hF
      · have hF := brF c11 hF
        refine lv_iload_n hx hb dX3_coldestOfPairs_14 rfl (lv_at hl 1 rfl) ?_
        refine lv_iconst (v := (-1)) hx hb dX3_coldestOfPairs_15 (by decide) ?_
        refine lv_icmp_eq (tgt := 32) hx hb dX3_coldestOfPairs_16 (by decide) (fun c16 => ?_) (fun c16 => ?_)
        · have hF := brT c16 hF
          refine lv_iload_n hx hb dX3_coldestOfPairs_32 rfl (lv_at hl 2 rfl) ?_
          refine lv_goto (tgt := 37) hx hb dX3_coldestOfPairs_33 (by decide) ?_
          refine lv_istore_n (lv' := [(1, .int x2_4_4), (0, .ref a_t), (2, .int x2_4_4)]) hx hb dX3_coldestOfPairs_37 rfl hl (by decide) rfl (fun ls hl => ?_)
          obtain ⟨y38_5, ey38_5⟩ : ∃ y : Int32, y = x2_4_4 + 1 := ⟨_, rfl⟩
          have hF := ltE ey38_5 hF
          refine lv_iinc (v := y38_5) (lv' := [(2, .int y38_5), (1, .int x2_4_4), (0, .ref a_t)]) hx hb dX3_coldestOfPairs_38 hl (k := 2) rfl (by rw [ey38_5]; rfl) (by decide) rfl (fun ls hl => ?_)
          refine lv_goto (tgt := 4) hx hb dX3_coldestOfPairs_41 (by decide) ?_
          exact ih4 x2_4_4 y38_5 ls (lv_sub hl [2, 1, 0] rfl) hF
        · have hF := brF c16 hF
          refine lv_aload_n hx hb dX3_coldestOfPairs_19 rfl (lv_at hl 0 rfl) ?_
          refine lv_iload_n hx hb dX3_coldestOfPairs_20 rfl (lv_at hl 2 rfl) ?_
          obtain ⟨r21_6, h21_6, hF⟩ := bndE hF
          refine rdV (As := [.int x2_4_4]) (rest := []) (C := RX3) ⟨hx, hb, hml, hown, hts⟩ (c_X3_pairHeat l D t z x a_t a_t_heats v_t_rows v_t_entries v_t_bounds v_t_starts v_t_sorted t_size t_pieces t_heats_ x2_4_4 H r21_6 h21_6) (cwV 1 hts gX3_coldestOfPairs_X3_pairHeat rfl rfl rfl hd_X3_pairHeat ⟨Nat.le_of_ble_eq_true rfl, Nat.le_of_ble_eq_true rfl⟩) hC (selP (m9 := [true, true]) rfl rfl hP) 0 rfl (show vwCl[3]? = some (RX3, TX3, 8) from rfl) rfl rfl hl.1 rfl (Nat.le_of_ble_eq_true rfl) dX3_coldestOfPairs_21 ⟨Nat.zero_le _, Nat.zero_le _⟩ rfl ?_
          refine lv_aload_n hx hb dX3_coldestOfPairs_24 rfl (lv_at hl 0 rfl) ?_
          refine lv_iload_n hx hb dX3_coldestOfPairs_25 rfl (lv_at hl 1 rfl) ?_
          obtain ⟨r26_8, h26_8, hF⟩ := bndE hF
          refine rdV (As := [.int x1_4_3]) (rest := [.int r21_6]) (C := RX3) ⟨hx, hb, hml, hown, hts⟩ (c_X3_pairHeat l D t z x a_t a_t_heats v_t_rows v_t_entries v_t_bounds v_t_starts v_t_sorted t_size t_pieces t_heats_ x1_4_3 H r26_8 h26_8) (cwV 1 hts gX3_coldestOfPairs_X3_pairHeat rfl rfl rfl hd_X3_pairHeat ⟨Nat.le_of_ble_eq_true rfl, Nat.le_of_ble_eq_true rfl⟩) hC (selP (m9 := [true, true]) rfl rfl hP) 0 rfl (show vwCl[3]? = some (RX3, TX3, 8) from rfl) rfl rfl hl.1 rfl (Nat.le_of_ble_eq_true rfl) dX3_coldestOfPairs_26 ⟨Nat.zero_le _, Nat.zero_le _⟩ rfl ?_
          refine lv_icmp_ge (tgt := 36) hx hb dX3_coldestOfPairs_29 (by decide) (fun c29 => ?_) (fun c29 => ?_)
          · have hF := brT c29 hF
            refine lv_iload_n hx hb dX3_coldestOfPairs_36 rfl (lv_at hl 1 rfl) ?_
            refine lv_istore_n (lv' := [(1, .int x1_4_3), (0, .ref a_t), (2, .int x2_4_4)]) hx hb dX3_coldestOfPairs_37 rfl hl (by decide) rfl (fun ls hl => ?_)
            obtain ⟨y38_10, ey38_10⟩ : ∃ y : Int32, y = x2_4_4 + 1 := ⟨_, rfl⟩
            have hF := ltE ey38_10 hF
            refine lv_iinc (v := y38_10) (lv' := [(2, .int y38_10), (1, .int x1_4_3), (0, .ref a_t)]) hx hb dX3_coldestOfPairs_38 hl (k := 2) rfl (by rw [ey38_10]; rfl) (by decide) rfl (fun ls hl => ?_)
            refine lv_goto (tgt := 4) hx hb dX3_coldestOfPairs_41 (by decide) ?_
            exact ih4 x1_4_3 y38_10 ls (lv_sub hl [2, 1, 0] rfl) hF
          · have hF := brF c29 hF
            refine lv_iload_n hx hb dX3_coldestOfPairs_32 rfl (lv_at hl 2 rfl) ?_
            refine lv_goto (tgt := 37) hx hb dX3_coldestOfPairs_33 (by decide) ?_
            refine lv_istore_n (lv' := [(1, .int x2_4_4), (0, .ref a_t), (2, .int x2_4_4)]) hx hb dX3_coldestOfPairs_37 rfl hl (by decide) rfl (fun ls hl => ?_)
            obtain ⟨y38_11, ey38_11⟩ : ∃ y : Int32, y = x2_4_4 + 1 := ⟨_, rfl⟩
            have hF := ltE ey38_11 hF
            refine lv_iinc (v := y38_11) (lv' := [(2, .int y38_11), (1, .int x2_4_4), (0, .ref a_t)]) hx hb dX3_coldestOfPairs_38 hl (k := 2) rfl (by rw [ey38_11]; rfl) (by decide) rfl (fun ls hl => ?_)
            refine lv_goto (tgt := 4) hx hb dX3_coldestOfPairs_41 (by decide) ?_
            exact ih4 x2_4_4 y38_11 ls (lv_sub hl [2, 1, 0] rfl) hF
  exact hlp4 N (-1) 0 ls (lv_sub hl [2, 1, 0] rfl) hF
abbrev rm_X3_evenKeyOf : Room := { frames := 4, cells := 0, slots := 0, locals := 88 }
theorem hd_X3_evenKeyOf : yX3_evenKeyOf.cls = RX3 ∧ yX3_evenKeyOf.cls ≠ "java/lang/invoke/MethodHandle" ∧ yX3_evenKeyOf.cls ≠ "java/lang/invoke/VarHandle" ∧ (parseMethodDescriptor yX3_evenKeyOf.desc).map (fun d => d.parameters.length) = some 1 := by decide +kernel
set_option maxRecDepth 100000 in
set_option maxHeartbeats 4000000 in
theorem c_X3_evenKeyOf (l : Launch) (D : va_G) (t : Nat → ClassId) (z : Nat) (x : Nat → Nat) (N : Nat) (a_t : Nat) (a_t_bounds : Nat) (a_t_entries : Nat) (a_t_starts : Nat) (a_t_rows : Nat) (a_t_rows_keys : Nat) (v_t_heats : Value) (v_t_sorted : Value) (v_t_rows_values : Value) (v_t_rows_states : Value) (t_size : Int32) (t_pieces : Int32) (t_bounds_ : (Nat → Int32)) (t_entries_ : (Nat → Int32)) (t_starts_ : (Nat → Int32)) (t_rows_count : Int32) (t_rows_keys_ : (Nat → Int32)) (p1 : Int32) (H : Heap) (r : Int32) (hF : f_X3_evenKeyOf N t_size t_pieces t_bounds_ t_entries_ t_starts_ t_rows_keys_ p1 = some (r)) : RdM l D (TY t) z x yX3_evenKeyOf wsX3_evenKeyOf rm_X3_evenKeyOf [.ref a_t, .int p1] [(a_t, .inr (3, [.ref a_t_rows, .ref a_t_entries, .ref a_t_bounds, .ref a_t_starts, v_t_heats, v_t_sorted, .int t_size, .int t_pieces])), (a_t_bounds, .inl (t 0, 62, .inl t_bounds_)), (a_t_entries, .inl (t 0, 120, .inl t_entries_)), (a_t_starts, .inl (t 0, 62, .inl t_starts_)), (a_t_rows, .inr (6, [.ref a_t_rows_keys, v_t_rows_values, v_t_rows_states, .int t_rows_count])), (a_t_rows_keys, .inl (t 0, 120, .inl t_rows_keys_))] H (some (.int r)) := by
  refine rd_of (cc := cX3_evenKeyOf) (maxL := 8) (ret := (some .int)) (by decide) rfl (Nat.le_of_ble_eq_true rfl) ?_
  intro p e s m args below meth c Q hQ hx hb hr hml hts hown hlocks hH hP hC ls hl
  have hown : s.vm.findClass RX3 = some m.cls := hown
  have hl : lv_has ls 8 [(0, .ref a_t), (1, .int p1)] := hl
  have hK := hC.1
  unfold f_X3_evenKeyOf at hF
  refine lv_iconst (v := (-1)) hx hb dX3_evenKeyOf_0 (by decide) ?_
  refine lv_istore_n (lv' := [(2, .int (-1)), (0, .ref a_t), (1, .int p1)]) hx hb dX3_evenKeyOf_1 rfl hl (by decide) rfl (fun ls hl => ?_)
  refine lv_iconst (v := 0) hx hb dX3_evenKeyOf_2 (by decide) ?_
  refine lv_istore_n (lv' := [(3, .int 0), (2, .int (-1)), (0, .ref a_t), (1, .int p1)]) hx hb dX3_evenKeyOf_3 rfl hl (by decide) rfl (fun ls hl => ?_)
  refine lv_aload_n hx hb dX3_evenKeyOf_4 rfl (lv_at hl 2 rfl) ?_
  refine lv_iload_n hx hb dX3_evenKeyOf_5 rfl (lv_at hl 3 rfl) ?_
  refine lv_iconst (v := 1) hx hb dX3_evenKeyOf_6 (by decide) ?_
  refine lv_iadd hx hb dX3_evenKeyOf_7 ?_
  obtain ⟨r8_1, h8_1, hF⟩ := bndE hF
  refine rdV (As := [.int (p1 + 1)]) (rest := []) (C := RX3) ⟨hx, hb, hml, hown, hts⟩ (c_X3_startOf l D t z x a_t a_t_starts (.ref a_t_rows) (.ref a_t_entries) (.ref a_t_bounds) v_t_heats v_t_sorted t_size t_pieces t_starts_ (p1 + 1) H r8_1 h8_1) (cwV 1 hts gX3_evenKeyOf_X3_startOf rfl rfl rfl hd_X3_startOf ⟨Nat.le_of_ble_eq_true rfl, Nat.le_of_ble_eq_true rfl⟩) hC (selP (m9 := [true, false, false, true, false, false]) rfl rfl hP) 0 rfl (show vwCl[3]? = some (RX3, TX3, 8) from rfl) rfl rfl hl.1 rfl (Nat.le_of_ble_eq_true rfl) dX3_evenKeyOf_8 ⟨Nat.zero_le _, Nat.zero_le _⟩ rfl ?_
  refine lv_istore (lv' := [(4, .int r8_1), (3, .int 0), (2, .int (-1)), (0, .ref a_t), (1, .int p1)]) hx hb dX3_evenKeyOf_11 hl (by decide) rfl (fun ls hl => ?_)
  refine lv_aload_n hx hb dX3_evenKeyOf_13 rfl (lv_at hl 3 rfl) ?_
  refine lv_iload_n hx hb dX3_evenKeyOf_14 rfl (lv_at hl 4 rfl) ?_
  obtain ⟨r15_3, h15_3, hF⟩ := bndE hF
  refine rdV (As := [.int p1]) (rest := []) (C := RX3) ⟨hx, hb, hml, hown, hts⟩ (c_X3_startOf l D t z x a_t a_t_starts (.ref a_t_rows) (.ref a_t_entries) (.ref a_t_bounds) v_t_heats v_t_sorted t_size t_pieces t_starts_ p1 H r15_3 h15_3) (cwV 1 hts gX3_evenKeyOf_X3_startOf rfl rfl rfl hd_X3_startOf ⟨Nat.le_of_ble_eq_true rfl, Nat.le_of_ble_eq_true rfl⟩) hC (selP (m9 := [true, false, false, true, false, false]) rfl rfl hP) 0 rfl (show vwCl[3]? = some (RX3, TX3, 8) from rfl) rfl rfl hl.1 rfl (Nat.le_of_ble_eq_true rfl) dX3_evenKeyOf_15 ⟨Nat.zero_le _, Nat.zero_le _⟩ rfl ?_
  refine lv_istore (lv' := [(5, .int r15_3), (4, .int r8_1), (3, .int 0), (2, .int (-1)), (0, .ref a_t), (1, .int p1)]) hx hb dX3_evenKeyOf_18 hl (by decide) rfl (fun ls hl => ?_)
  obtain ⟨k89_6, ek89_6, hF⟩ := jnE hF
  have hk89_6 : ∀ (x2_89_5 : Int32) (ls : Array Slot), lv_has ls 8 [(2, .int x2_89_5)] → k89_6 x2_89_5 = some (r) → W p l e rm_X3_evenKeyOf s m args below meth c H [] 0 0 Q (F0 m 89 ls []) := by
    subst ek89_6
    intro x2_89_5 ls hl hF
    refine lv_iload_n hx hb dX3_evenKeyOf_89 rfl (lv_at hl 0 rfl) ?_
    cases hF
    exact rd_iret hx hb hr hlocks dX3_evenKeyOf_90 rfl hQ
  have hlp20 : ∀ n20 : Nat, ∀ (x2_20_7 : Int32) (x3_20_8 : Int32) (x5_20_9 : Int32) (ls : Array Slot), lv_has ls 8 [(0, .ref a_t), (1, .int p1), (2, .int x2_20_7), (3, .int x3_20_8), (4, .int r8_1), (5, .int x5_20_9)] → f_X3_evenKeyOf_20 N t_size t_pieces t_bounds_ t_entries_ t_starts_ t_rows_keys_ p1 r8_1 k89_6 n20 x2_20_7 x3_20_8 x5_20_9 = some (r) → W p l e rm_X3_evenKeyOf s m args below meth c H [] 0 0 Q (F0 m 20 ls []) := by
    intro n20
    induction n20 with
    | zero =>
      intro x2_20_7 x3_20_8 x5_20_9 ls hl hF
      cases (show none = some (r) from hF)
    | succ n20 ih20 =>
      intro x2_20_7 x3_20_8 x5_20_9 ls hl hF
      rw [f_X3_evenKeyOf_20] at hF
      refine lv_iload hx hb dX3_evenKeyOf_20 (lv_at hl 5 rfl) ?_
      refine lv_iload hx hb dX3_evenKeyOf_22 (lv_at hl 4 rfl) ?_
      refine lv_icmp_ge (tgt := 89) hx hb dX3_evenKeyOf_24 (by decide) (fun c24 => ?_) (fun c24 => ?_)
      · have hF := brT c24 hF
        exact hk89_6 x2_20_7 ls (lv_sub hl [2] rfl) hF
      · have hF := brF c24 hF
        refine lv_aload_n hx hb dX3_evenKeyOf_27 rfl (lv_at hl 0 rfl) ?_
        refine lv_iload hx hb dX3_evenKeyOf_28 (lv_at hl 5 rfl) ?_
        obtain ⟨r30_10, h30_10, hF⟩ := bndE hF
        refine rdV (As := [.int x5_20_9]) (rest := []) (C := RX3) ⟨hx, hb, hml, hown, hts⟩ (c_X3_keyAt l D t z x a_t a_t_entries a_t_rows a_t_rows_keys (.ref a_t_bounds) (.ref a_t_starts) v_t_heats v_t_sorted v_t_rows_values v_t_rows_states t_size t_pieces t_entries_ t_rows_count t_rows_keys_ x5_20_9 H r30_10 h30_10) (cwV 1 hts gX3_evenKeyOf_X3_keyAt rfl rfl rfl hd_X3_keyAt ⟨Nat.le_of_ble_eq_true rfl, Nat.le_of_ble_eq_true rfl⟩) hC (selP (m9 := [true, false, true, false, true, true]) rfl rfl hP) 0 rfl (show vwCl[3]? = some (RX3, TX3, 8) from rfl) rfl rfl hl.1 rfl (Nat.le_of_ble_eq_true rfl) dX3_evenKeyOf_30 ⟨Nat.zero_le _, Nat.zero_le _⟩ rfl ?_
        refine lv_istore (lv' := [(6, .int r30_10), (0, .ref a_t), (1, .int p1), (2, .int x2_20_7), (3, .int x3_20_8), (4, .int r8_1), (5, .int x5_20_9)]) hx hb dX3_evenKeyOf_33 hl (by decide) rfl (fun ls hl => ?_)
        refine lv_iload hx hb dX3_evenKeyOf_35 (lv_at hl 0 rfl) ?_
        refine lv_aload_n hx hb dX3_evenKeyOf_37 rfl (lv_at hl 1 rfl) ?_
        refine lv_iload_n hx hb dX3_evenKeyOf_38 rfl (lv_at hl 2 rfl) ?_
        obtain ⟨r39_12, h39_12, hF⟩ := bndE hF
        refine rdV (As := [.int p1]) (rest := [.int r30_10]) (C := RX3) ⟨hx, hb, hml, hown, hts⟩ (c_X3_boundOf l D t z x a_t a_t_bounds (.ref a_t_rows) (.ref a_t_entries) (.ref a_t_starts) v_t_heats v_t_sorted t_size t_pieces t_bounds_ p1 H r39_12 h39_12) (cwV 1 hts gX3_evenKeyOf_X3_boundOf rfl rfl rfl hd_X3_boundOf ⟨Nat.le_of_ble_eq_true rfl, Nat.le_of_ble_eq_true rfl⟩) hC (selP (m9 := [true, true, false, false, false, false]) rfl rfl hP) 0 rfl (show vwCl[3]? = some (RX3, TX3, 8) from rfl) rfl rfl hl.1 rfl (Nat.le_of_ble_eq_true rfl) dX3_evenKeyOf_39 ⟨Nat.zero_le _, Nat.zero_le _⟩ rfl ?_
        refine lv_icmp_le (tgt := 83) hx hb dX3_evenKeyOf_42 (by decide) (fun c42 => ?_) (fun c42 => ?_)
        · have hF := brT c42 hF
          obtain ⟨y83_14, ey83_14⟩ : ∃ y : Int32, y = x5_20_9 + 1 := ⟨_, rfl⟩
          have hF := ltE ey83_14 hF
          refine lv_iinc (v := y83_14) (lv' := [(5, .int y83_14), (6, .int r30_10), (0, .ref a_t), (1, .int p1), (2, .int x2_20_7), (3, .int x3_20_8), (4, .int r8_1)]) hx hb dX3_evenKeyOf_83 hl (k := 6) rfl (by rw [ey83_14]; rfl) (by decide) rfl (fun ls hl => ?_)
          refine lv_goto (tgt := 20) hx hb dX3_evenKeyOf_86 (by decide) ?_
          exact ih20 x2_20_7 x3_20_8 y83_14 ls (lv_sub hl [2, 3, 4, 5, 6, 0] rfl) hF
        · have hF := brF c42 hF
          refine lv_aload_n hx hb dX3_evenKeyOf_45 rfl (lv_at hl 1 rfl) ?_
          refine lv_iload_n hx hb dX3_evenKeyOf_46 rfl (lv_at hl 2 rfl) ?_
          refine lv_iload hx hb dX3_evenKeyOf_47 (lv_at hl 0 rfl) ?_
          obtain ⟨r49_15, h49_15, hF⟩ := bndE hF
          refine rdV (As := [.int p1, .int r30_10]) (rest := []) (C := RX3) ⟨hx, hb, hml, hown, hts⟩ (c_X3_gapAt l D t z x N a_t a_t_entries a_t_starts a_t_rows a_t_rows_keys (.ref a_t_bounds) v_t_heats v_t_sorted v_t_rows_values v_t_rows_states t_size t_pieces t_entries_ t_starts_ t_rows_count t_rows_keys_ p1 r30_10 H r49_15 h49_15) (cwV 2 hts gX3_evenKeyOf_X3_gapAt rfl rfl rfl hd_X3_gapAt ⟨Nat.le_of_ble_eq_true rfl, Nat.le_of_ble_eq_true rfl⟩) hC (selP (m9 := [true, false, true, true, true, true]) rfl rfl hP) 0 rfl (show vwCl[3]? = some (RX3, TX3, 8) from rfl) rfl rfl hl.1 rfl (Nat.le_of_ble_eq_true rfl) dX3_evenKeyOf_49 ⟨Nat.zero_le _, Nat.zero_le _⟩ rfl ?_
          refine lv_istore (lv' := [(7, .int r49_15), (6, .int r30_10), (0, .ref a_t), (1, .int p1), (2, .int x2_20_7), (3, .int x3_20_8), (4, .int r8_1), (5, .int x5_20_9)]) hx hb dX3_evenKeyOf_52 hl (by decide) rfl (fun ls hl => ?_)
          refine lv_iload_n hx hb dX3_evenKeyOf_54 rfl (lv_at hl 4 rfl) ?_
          refine lv_iconst (v := (-1)) hx hb dX3_evenKeyOf_55 (by decide) ?_
          refine lv_icmp_eq (tgt := 77) hx hb dX3_evenKeyOf_56 (by decide) (fun c56 => ?_) (fun c56 => ?_)
          · have hF := brT c56 hF
            refine lv_iload hx hb dX3_evenKeyOf_77 (lv_at hl 1 rfl) ?_
            refine lv_istore_n (lv' := [(2, .int r30_10), (7, .int r49_15), (6, .int r30_10), (0, .ref a_t), (1, .int p1), (3, .int x3_20_8), (4, .int r8_1), (5, .int x5_20_9)]) hx hb dX3_evenKeyOf_79 rfl hl (by decide) rfl (fun ls hl => ?_)
            refine lv_iload hx hb dX3_evenKeyOf_80 (lv_at hl 1 rfl) ?_
            refine lv_istore_n (lv' := [(3, .int r49_15), (2, .int r30_10), (7, .int r49_15), (6, .int r30_10), (0, .ref a_t), (1, .int p1), (4, .int r8_1), (5, .int x5_20_9)]) hx hb dX3_evenKeyOf_82 rfl hl (by decide) rfl (fun ls hl => ?_)
            obtain ⟨y83_17, ey83_17⟩ : ∃ y : Int32, y = x5_20_9 + 1 := ⟨_, rfl⟩
            have hF := ltE ey83_17 hF
            refine lv_iinc (v := y83_17) (lv' := [(5, .int y83_17), (3, .int r49_15), (2, .int r30_10), (7, .int r49_15), (6, .int r30_10), (0, .ref a_t), (1, .int p1), (4, .int r8_1)]) hx hb dX3_evenKeyOf_83 hl (k := 7) rfl (by rw [ey83_17]; rfl) (by decide) rfl (fun ls hl => ?_)
            refine lv_goto (tgt := 20) hx hb dX3_evenKeyOf_86 (by decide) ?_
            exact ih20 r30_10 r49_15 y83_17 ls (lv_sub hl [5, 6, 2, 1, 7, 0] rfl) hF
          · have hF := brF c56 hF
            refine lv_iload hx hb dX3_evenKeyOf_59 (lv_at hl 0 rfl) ?_
            refine lv_iload_n hx hb dX3_evenKeyOf_61 rfl (lv_at hl 5 rfl) ?_
            refine lv_icmp_lt (tgt := 77) hx hb dX3_evenKeyOf_62 (by decide) (fun c62 => ?_) (fun c62 => ?_)
            · have hF := brT c62 hF
              refine lv_iload hx hb dX3_evenKeyOf_77 (lv_at hl 1 rfl) ?_
              refine lv_istore_n (lv' := [(2, .int r30_10), (7, .int r49_15), (6, .int r30_10), (0, .ref a_t), (1, .int p1), (3, .int x3_20_8), (4, .int r8_1), (5, .int x5_20_9)]) hx hb dX3_evenKeyOf_79 rfl hl (by decide) rfl (fun ls hl => ?_)
              refine lv_iload hx hb dX3_evenKeyOf_80 (lv_at hl 1 rfl) ?_
              refine lv_istore_n (lv' := [(3, .int r49_15), (2, .int r30_10), (7, .int r49_15), (6, .int r30_10), (0, .ref a_t), (1, .int p1), (4, .int r8_1), (5, .int x5_20_9)]) hx hb dX3_evenKeyOf_82 rfl hl (by decide) rfl (fun ls hl => ?_)
              obtain ⟨y83_18, ey83_18⟩ : ∃ y : Int32, y = x5_20_9 + 1 := ⟨_, rfl⟩
              have hF := ltE ey83_18 hF
              refine lv_iinc (v := y83_18) (lv' := [(5, .int y83_18), (3, .int r49_15), (2, .int r30_10), (7, .int r49_15), (6, .int r30_10), (0, .ref a_t), (1, .int p1), (4, .int r8_1)]) hx hb dX3_evenKeyOf_83 hl (k := 7) rfl (by rw [ey83_18]; rfl) (by decide) rfl (fun ls hl => ?_)
              refine lv_goto (tgt := 20) hx hb dX3_evenKeyOf_86 (by decide) ?_
              exact ih20 r30_10 r49_15 y83_18 ls (lv_sub hl [5, 6, 2, 1, 7, 0] rfl) hF
            · have hF := brF c62 hF
              refine lv_iload hx hb dX3_evenKeyOf_65 (lv_at hl 0 rfl) ?_
              refine lv_iload_n hx hb dX3_evenKeyOf_67 rfl (lv_at hl 5 rfl) ?_
              refine lv_icmp_ne (tgt := 83) hx hb dX3_evenKeyOf_68 (by decide) (fun c68 => ?_) (fun c68 => ?_)
              · have hF := brF c68 hF
                obtain ⟨y83_19, ey83_19⟩ : ∃ y : Int32, y = x5_20_9 + 1 := ⟨_, rfl⟩
                have hF := ltE ey83_19 hF
                refine lv_iinc (v := y83_19) (lv' := [(5, .int y83_19), (7, .int r49_15), (6, .int r30_10), (0, .ref a_t), (1, .int p1), (2, .int x2_20_7), (3, .int x3_20_8), (4, .int r8_1)]) hx hb dX3_evenKeyOf_83 hl (k := 7) rfl (by rw [ey83_19]; rfl) (by decide) rfl (fun ls hl => ?_)
                refine lv_goto (tgt := 20) hx hb dX3_evenKeyOf_86 (by decide) ?_
                exact ih20 x2_20_7 x3_20_8 y83_19 ls (lv_sub hl [3, 4, 5, 6, 7, 0] rfl) hF
              · have hF := brT c68 hF
                refine lv_iload hx hb dX3_evenKeyOf_71 (lv_at hl 1 rfl) ?_
                refine lv_iload_n hx hb dX3_evenKeyOf_73 rfl (lv_at hl 4 rfl) ?_
                refine lv_icmp_ge (tgt := 83) hx hb dX3_evenKeyOf_74 (by decide) (fun c74 => ?_) (fun c74 => ?_)
                · have hF := brT c74 hF
                  obtain ⟨y83_20, ey83_20⟩ : ∃ y : Int32, y = x5_20_9 + 1 := ⟨_, rfl⟩
                  have hF := ltE ey83_20 hF
                  refine lv_iinc (v := y83_20) (lv' := [(5, .int y83_20), (7, .int r49_15), (6, .int r30_10), (0, .ref a_t), (1, .int p1), (2, .int x2_20_7), (3, .int x3_20_8), (4, .int r8_1)]) hx hb dX3_evenKeyOf_83 hl (k := 7) rfl (by rw [ey83_20]; rfl) (by decide) rfl (fun ls hl => ?_)
                  refine lv_goto (tgt := 20) hx hb dX3_evenKeyOf_86 (by decide) ?_
                  exact ih20 x2_20_7 x3_20_8 y83_20 ls (lv_sub hl [3, 4, 5, 6, 7, 0] rfl) hF
                · have hF := brF c74 hF
                  refine lv_iload hx hb dX3_evenKeyOf_77 (lv_at hl 1 rfl) ?_
                  refine lv_istore_n (lv' := [(2, .int r30_10), (7, .int r49_15), (6, .int r30_10), (0, .ref a_t), (1, .int p1), (3, .int x3_20_8), (4, .int r8_1), (5, .int x5_20_9)]) hx hb dX3_evenKeyOf_79 rfl hl (by decide) rfl (fun ls hl => ?_)
                  refine lv_iload hx hb dX3_evenKeyOf_80 (lv_at hl 1 rfl) ?_
                  refine lv_istore_n (lv' := [(3, .int r49_15), (2, .int r30_10), (7, .int r49_15), (6, .int r30_10), (0, .ref a_t), (1, .int p1), (4, .int r8_1), (5, .int x5_20_9)]) hx hb dX3_evenKeyOf_82 rfl hl (by decide) rfl (fun ls hl => ?_)
                  obtain ⟨y83_21, ey83_21⟩ : ∃ y : Int32, y = x5_20_9 + 1 := ⟨_, rfl⟩
                  have hF := ltE ey83_21 hF
                  refine lv_iinc (v := y83_21) (lv' := [(5, .int y83_21), (3, .int r49_15), (2, .int r30_10), (7, .int r49_15), (6, .int r30_10), (0, .ref a_t), (1, .int p1), (4, .int r8_1)]) hx hb dX3_evenKeyOf_83 hl (k := 7) rfl (by rw [ey83_21]; rfl) (by decide) rfl (fun ls hl => ?_)
                  refine lv_goto (tgt := 20) hx hb dX3_evenKeyOf_86 (by decide) ?_
                  exact ih20 r30_10 r49_15 y83_21 ls (lv_sub hl [5, 6, 2, 1, 7, 0] rfl) hF
  exact hlp20 N (-1) 0 r15_3 ls (lv_sub hl [4, 5, 3, 2, 1, 0] rfl) hF
abbrev rm_X3_divideAt : Room := { frames := 3, cells := 0, slots := 0, locals := 88 }
theorem hd_X3_divideAt : yX3_divideAt.cls = RX3 ∧ yX3_divideAt.cls ≠ "java/lang/invoke/MethodHandle" ∧ yX3_divideAt.cls ≠ "java/lang/invoke/VarHandle" ∧ (parseMethodDescriptor yX3_divideAt.desc).map (fun d => d.parameters.length) = some 1 := by decide +kernel
set_option maxRecDepth 100000 in
set_option maxHeartbeats 4000000 in
theorem c_X3_divideAt (l : Launch) (D : va_G) (t : Nat → ClassId) (z : Nat) (x : Nat → Nat) (N : Nat) (a_t : Nat) (a_t_bounds : Nat) (a_t_entries : Nat) (a_t_heats : Nat) (a_t_sorted : Nat) (a_t_starts : Nat) (a_t_rows : Nat) (a_t_rows_keys : Nat) (v_t_rows_values : Value) (v_t_rows_states : Value) (t_size : Int32) (t_pieces : Int32) (t_bounds_ : (Nat → Int32)) (t_entries_ : (Nat → Int32)) (t_heats_ : (Nat → Int32)) (t_sorted_ : (Nat → Int32)) (t_starts_ : (Nat → Int32)) (t_rows_count : Int32) (t_rows_keys_ : (Nat → Int32)) (p1 : Int32) (sz : Nat) (r : Int32) (t_pieces' : Int32) (t_bounds_' : (Nat → Int32)) (t_entries_' : (Nat → Int32)) (t_heats_' : (Nat → Int32)) (t_sorted_' : (Nat → Int32)) (t_starts_' : (Nat → Int32)) (hF : f_X3_divideAt N t_size t_pieces t_bounds_ t_entries_ t_heats_ t_sorted_ t_starts_ t_rows_keys_ p1 = some (r, t_pieces', t_bounds_', t_entries_', t_heats_', t_sorted_', t_starts_')) : WrM l D (TY t) z x yX3_divideAt wsX3_divideAt rm_X3_divideAt [.ref a_t, .int p1] [(a_t, .inr (3, [.ref a_t_rows, .ref a_t_entries, .ref a_t_bounds, .ref a_t_starts, .ref a_t_heats, .ref a_t_sorted, .int t_size, .int t_pieces])), (a_t_bounds, .inl (t 0, 62, .inl t_bounds_)), (a_t_entries, .inl (t 0, 120, .inl t_entries_)), (a_t_heats, .inl (t 0, 62, .inl t_heats_)), (a_t_sorted, .inl (t 0, 62, .inl t_sorted_)), (a_t_starts, .inl (t 0, 62, .inl t_starts_)), (a_t_rows, .inr (6, [.ref a_t_rows_keys, v_t_rows_values, v_t_rows_states, .int t_rows_count])), (a_t_rows_keys, .inl (t 0, 120, .inl t_rows_keys_))] [(a_t, .inr (3, [.ref a_t_rows, .ref a_t_entries, .ref a_t_bounds, .ref a_t_starts, .ref a_t_heats, .ref a_t_sorted, .int t_size, .int t_pieces'])), (a_t_bounds, .inl (t 0, 62, .inl t_bounds_')), (a_t_entries, .inl (t 0, 120, .inl t_entries_')), (a_t_heats, .inl (t 0, 62, .inl t_heats_')), (a_t_sorted, .inl (t 0, 62, .inl t_sorted_')), (a_t_starts, .inl (t 0, 62, .inl t_starts_')), (a_t_rows, .inr (6, [.ref a_t_rows_keys, v_t_rows_values, v_t_rows_states, .int t_rows_count])), (a_t_rows_keys, .inl (t 0, 120, .inl t_rows_keys_))] sz (some (.int r)) 0 0 := by
  obtain ⟨T9, hT⟩ : ∃ T9, T9 = (r, t_pieces', t_bounds_', t_entries_', t_heats_', t_sorted_', t_starts_') := ⟨_, rfl⟩
  rw [← hT] at hF
  obtain rfl : r = T9.1 := by rw [hT]
  obtain rfl : t_pieces' = T9.2.1 := by rw [hT]
  obtain rfl : t_bounds_' = T9.2.2.1 := by rw [hT]
  obtain rfl : t_entries_' = T9.2.2.2.1 := by rw [hT]
  obtain rfl : t_heats_' = T9.2.2.2.2.1 := by rw [hT]
  obtain rfl : t_sorted_' = T9.2.2.2.2.2.1 := by rw [hT]
  obtain rfl : t_starts_' = T9.2.2.2.2.2.2 := by rw [hT]
  clear hT
  refine wr_of (cc := cX3_divideAt) (maxL := 7) (ret := (some .int)) (by decide) rfl (Nat.le_of_ble_eq_true rfl) ?_
  intro p e s m args below meth c A Q hQ hx hb hr hml hts hown hlocks hin H locs hP hD hS hA hz hC ls hl
  have hown : s.vm.findClass RX3 = some m.cls := hown
  have hl : lv_has ls 7 [(0, .ref a_t), (1, .int p1)] := hl
  have hK := hC.1
  have iw3 : ∀ w ∈ wsX30, w ∈ wsX3_divideAt := fun _ h => List.mem_cons_of_mem _ (List.mem_append_left _ (List.mem_append_right _ h))
  have hf15 := hts (.fieldLink RX3 15 "CrackedColumn$Index" "bounds" "[I") (by decide +kernel)
  have hf18 := hts (.fieldLink RX3 18 "CrackedColumn$Index" "starts" "[I") (by decide +kernel)
  have hf21 := hts (.fieldLink RX3 21 "CrackedColumn$Index" "heats" "[I") (by decide +kernel)
  have hf31 := hts (.fieldLink RX3 31 "CrackedColumn$Index" "pieces" "I") (by decide +kernel)
  have hini_X7 := hts (.initialized RX7) (by decide +kernel)
  unfold f_X3_divideAt at hF
  refine lv_aload_n hx hb dX3_divideAt_0 rfl (lv_at hl 0 rfl) ?_
  refine lv_iload_n hx hb dX3_divideAt_1 rfl (lv_at hl 1 rfl) ?_
  obtain ⟨r2_1, h2_1, hF⟩ := bndE hF
  refine rdV (As := [.int p1]) (rest := []) (C := RX3) ⟨hx, hb, hml, hown, hts⟩ (c_X3_pieceFor l D t z x N a_t a_t_bounds (.ref a_t_rows) (.ref a_t_entries) (.ref a_t_starts) (.ref a_t_heats) (.ref a_t_sorted) t_size t_pieces t_bounds_ p1 H r2_1 h2_1) (cwV 1 hts gX3_divideAt_X3_pieceFor rfl rfl rfl hd_X3_pieceFor ⟨Nat.le_of_ble_eq_true rfl, Nat.le_of_ble_eq_true rfl⟩) (hC.at hz hS) (selP (m9 := [true, true, false, false, false, false, false, false]) rfl rfl hP) 0 rfl (show vwCl[3]? = some (RX3, TX3, 8) from rfl) rfl rfl hl.1 rfl (Nat.le_of_ble_eq_true rfl) dX3_divideAt_2 ⟨Nat.zero_le _, Nat.zero_le _⟩ rfl ?_
  refine lv_istore_n (lv' := [(2, .int r2_1), (0, .ref a_t), (1, .int p1)]) hx hb dX3_divideAt_5 rfl hl (by decide) rfl (fun ls hl => ?_)
  refine lv_aload_n hx hb dX3_divideAt_6 rfl (lv_at hl 1 rfl) ?_
  refine lv_iload_n hx hb dX3_divideAt_7 rfl (lv_at hl 0 rfl) ?_
  obtain ⟨r8_3, h8_3, hF⟩ := bndE hF
  refine rdV (As := [.int r2_1]) (rest := []) (C := RX3) ⟨hx, hb, hml, hown, hts⟩ (c_X3_has l D t z x a_t (.ref a_t_rows) (.ref a_t_entries) (.ref a_t_bounds) (.ref a_t_starts) (.ref a_t_heats) (.ref a_t_sorted) t_size t_pieces r2_1 H r8_3 h8_3) (cwV 1 hts gX3_divideAt_X3_has rfl rfl rfl hd_X3_has ⟨Nat.le_of_ble_eq_true rfl, Nat.le_of_ble_eq_true rfl⟩) (hC.at hz hS) (selP (m9 := [true, false, false, false, false, false, false, false]) rfl rfl hP) 0 rfl (show vwCl[3]? = some (RX3, TX3, 8) from rfl) rfl rfl hl.1 rfl (Nat.le_of_ble_eq_true rfl) dX3_divideAt_8 ⟨Nat.zero_le _, Nat.zero_le _⟩ rfl ?_
  refine lv_if_eq (tgt := 32) hx hb dX3_divideAt_11 (by decide) (fun c11 => ?_) (fun c11 => ?_)
  · have hF := brT c11 hF
    refine lv_iconst (v := 0) hx hb dX3_divideAt_32 (by decide) ?_
    cases hF
    exact we_iret hx hb hr hlocks dX3_divideAt_33 rfl hQ hP hD hS
  · have hF := brF c11 hF
    refine lv_aload_n hx hb dX3_divideAt_14 rfl (lv_at hl 1 rfl) ?_
    refine lv_iload_n hx hb dX3_divideAt_15 rfl (lv_at hl 0 rfl) ?_
    obtain ⟨r16_5, h16_5, hF⟩ := bndE hF
    refine rdV (As := [.int r2_1]) (rest := []) (C := RX3) ⟨hx, hb, hml, hown, hts⟩ (c_X3_boundOf l D t z x a_t a_t_bounds (.ref a_t_rows) (.ref a_t_entries) (.ref a_t_starts) (.ref a_t_heats) (.ref a_t_sorted) t_size t_pieces t_bounds_ r2_1 H r16_5 h16_5) (cwV 1 hts gX3_divideAt_X3_boundOf rfl rfl rfl hd_X3_boundOf ⟨Nat.le_of_ble_eq_true rfl, Nat.le_of_ble_eq_true rfl⟩) (hC.at hz hS) (selP (m9 := [true, true, false, false, false, false, false, false]) rfl rfl hP) 0 rfl (show vwCl[3]? = some (RX3, TX3, 8) from rfl) rfl rfl hl.1 rfl (Nat.le_of_ble_eq_true rfl) dX3_divideAt_16 ⟨Nat.zero_le _, Nat.zero_le _⟩ rfl ?_
    refine lv_iload_n hx hb dX3_divideAt_19 rfl (lv_at hl 2 rfl) ?_
    refine lv_icmp_eq (tgt := 32) hx hb dX3_divideAt_20 (by decide) (fun c20 => ?_) (fun c20 => ?_)
    · have hF := brT c20 hF
      refine lv_iconst (v := 0) hx hb dX3_divideAt_32 (by decide) ?_
      cases hF
      exact we_iret hx hb hr hlocks dX3_divideAt_33 rfl hQ hP hD hS
    · have hF := brF c20 hF
      refine lv_aload_n hx hb dX3_divideAt_23 rfl (lv_at hl 1 rfl) ?_
      refine va_get (D := D) (ci := 3) (v := .int t_pieces) (C := RX3) (T := TX3) (N := 8) hx hb hts iw3 hown hK hP 0 rfl rfl 7 (by decide) hf31 (fun _ h9 => h9) rfl dX3_divideAt_24 ?_
      refine lv_bipush (v := 62) hx hb dX3_divideAt_27 (by decide) ?_
      refine lv_icmp_lt (tgt := 34) hx hb dX3_divideAt_29 (by decide) (fun c29 => ?_) (fun c29 => ?_)
      · have hF := brT c29 hF
        refine lv_aload_n hx hb dX3_divideAt_34 rfl (lv_at hl 1 rfl) ?_
        refine lv_iload_n hx hb dX3_divideAt_35 rfl (lv_at hl 0 rfl) ?_
        obtain ⟨r36_7, h36_7, hF⟩ := bndE hF
        refine rdV (As := [.int r2_1]) (rest := []) (C := RX3) ⟨hx, hb, hml, hown, hts⟩ (c_X3_sizeOf l D t z x a_t a_t_starts (.ref a_t_rows) (.ref a_t_entries) (.ref a_t_bounds) (.ref a_t_heats) (.ref a_t_sorted) t_size t_pieces t_starts_ r2_1 H r36_7 h36_7) (cwV 1 hts gX3_divideAt_X3_sizeOf rfl rfl rfl hd_X3_sizeOf ⟨Nat.le_of_ble_eq_true rfl, Nat.le_of_ble_eq_true rfl⟩) (hC.at hz hS) (selP (m9 := [true, false, false, false, false, true, false, false]) rfl rfl hP) 0 rfl (show vwCl[3]? = some (RX3, TX3, 8) from rfl) rfl rfl hl.1 rfl (Nat.le_of_ble_eq_true rfl) dX3_divideAt_36 ⟨Nat.zero_le _, Nat.zero_le _⟩ rfl ?_
        refine lv_istore_n (lv' := [(3, .int r36_7), (2, .int r2_1), (0, .ref a_t), (1, .int p1)]) hx hb dX3_divideAt_39 rfl hl (by decide) rfl (fun ls hl => ?_)
        refine lv_aload_n hx hb dX3_divideAt_40 rfl (lv_at hl 2 rfl) ?_
        refine lv_iload_n hx hb dX3_divideAt_41 rfl (lv_at hl 1 rfl) ?_
        obtain ⟨r42_9, h42_9, hF⟩ := bndE hF
        refine rdV (As := [.int r2_1]) (rest := []) (C := RX3) ⟨hx, hb, hml, hown, hts⟩ (c_X3_isSorted l D t z x a_t a_t_sorted (.ref a_t_rows) (.ref a_t_entries) (.ref a_t_bounds) (.ref a_t_starts) (.ref a_t_heats) t_size t_pieces t_sorted_ r2_1 H r42_9 h42_9) (cwV 1 hts gX3_divideAt_X3_isSorted rfl rfl rfl hd_X3_isSorted ⟨Nat.le_of_ble_eq_true rfl, Nat.le_of_ble_eq_true rfl⟩) (hC.at hz hS) (selP (m9 := [true, false, false, false, true, false, false, false]) rfl rfl hP) 0 rfl (show vwCl[3]? = some (RX3, TX3, 8) from rfl) rfl rfl hl.1 rfl (Nat.le_of_ble_eq_true rfl) dX3_divideAt_42 ⟨Nat.zero_le _, Nat.zero_le _⟩ rfl ?_
        obtain ⟨k58_12, ek58_12, hF⟩ := jnE hF
        have hk58_12 : ∀ (s0_58_11 : Int32) (H : Heap) (locs : List Loc) (ls : Array Slot), va_P D vwCl [(a_t, .inr (3, [.ref a_t_rows, .ref a_t_entries, .ref a_t_bounds, .ref a_t_starts, .ref a_t_heats, .ref a_t_sorted, .int t_size, .int t_pieces])), (a_t_bounds, .inl (t 0, 62, .inl t_bounds_)), (a_t_entries, .inl (t 0, 120, .inl t_entries_)), (a_t_heats, .inl (t 0, 62, .inl t_heats_)), (a_t_sorted, .inl (t 0, 62, .inl t_sorted_)), (a_t_starts, .inl (t 0, 62, .inl t_starts_)), (a_t_rows, .inr (6, [.ref a_t_rows_keys, v_t_rows_values, v_t_rows_states, .int t_rows_count])), (a_t_rows_keys, .inl (t 0, 120, .inl t_rows_keys_))] H → va_D A [(a_t, .inr (3, [.ref a_t_rows, .ref a_t_entries, .ref a_t_bounds, .ref a_t_starts, .ref a_t_heats, .ref a_t_sorted, .int t_size, .int t_pieces])), (a_t_bounds, .inl (t 0, 62, .inl t_bounds_)), (a_t_entries, .inl (t 0, 120, .inl t_entries_)), (a_t_heats, .inl (t 0, 62, .inl t_heats_)), (a_t_sorted, .inl (t 0, 62, .inl t_sorted_)), (a_t_starts, .inl (t 0, 62, .inl t_starts_)), (a_t_rows, .inr (6, [.ref a_t_rows_keys, v_t_rows_values, v_t_rows_states, .int t_rows_count])), (a_t_rows_keys, .inl (t 0, 120, .inl t_rows_keys_))] → va_S A s.heap H locs → lv_has ls 7 [(0, .ref a_t), (1, .int p1), (2, .int r2_1)] → k58_12 s0_58_11 = some T9 → W p l e rm_X3_divideAt s m args below meth c H locs 0 0 Q (F0 m 58 ls [.int s0_58_11]) := by
          subst ek58_12
          intro s0_58_11 H locs ls hP hD hS hl hF
          refine lv_istore (lv' := [(4, .int s0_58_11), (0, .ref a_t), (1, .int p1), (2, .int r2_1)]) hx hb dX3_divideAt_58 hl (by decide) rfl (fun ls hl => ?_)
          refine lv_aload_n hx hb dX3_divideAt_60 rfl (lv_at hl 1 rfl) ?_
          refine lv_iload_n hx hb dX3_divideAt_61 rfl (lv_at hl 3 rfl) ?_
          refine lv_iload_n hx hb dX3_divideAt_62 rfl (lv_at hl 2 rfl) ?_
          obtain ⟨r63_13, t_entries_63_14, h63_14, hF⟩ := bnd2E hF
          refine wrVM (As := [.int r2_1, .int p1]) (rest := []) (C := RX3) (wn := [(a_t, .inr (3, [.ref a_t_rows, .ref a_t_entries, .ref a_t_bounds, .ref a_t_starts, .ref a_t_heats, .ref a_t_sorted, .int t_size, .int t_pieces])), (a_t_bounds, .inl (t 0, 62, .inl t_bounds_)), (a_t_entries, .inl (t 0, 120, .inl t_entries_63_14)), (a_t_heats, .inl (t 0, 62, .inl t_heats_)), (a_t_sorted, .inl (t 0, 62, .inl t_sorted_)), (a_t_starts, .inl (t 0, 62, .inl t_starts_)), (a_t_rows, .inr (6, [.ref a_t_rows_keys, v_t_rows_values, v_t_rows_states, .int t_rows_count])), (a_t_rows_keys, .inl (t 0, 120, .inl t_rows_keys_))]) ⟨hx, hb, hml, hown, hts⟩ (c_X3_gatherLess l D t z x N a_t a_t_entries a_t_starts a_t_rows a_t_rows_keys (.ref a_t_bounds) (.ref a_t_heats) (.ref a_t_sorted) v_t_rows_values v_t_rows_states t_size t_pieces t_entries_ t_starts_ t_rows_count t_rows_keys_ r2_1 p1 H.size r63_13 t_entries_63_14 h63_14) (cwV 2 hts gX3_divideAt_X3_gatherLess rfl rfl rfl hd_X3_gatherLess ⟨Nat.le_of_ble_eq_true rfl, Nat.le_of_ble_eq_true rfl⟩) (hC.at hz hS) hP hD hS hA hz [true, false, true, false, false, true, true, true] rfl rfl rfl rfl 0 rfl (show vwCl[3]? = some (RX3, TX3, 8) from rfl) rfl rfl hl.1 rfl (Nat.le_of_ble_eq_true rfl) dX3_divideAt_63 ⟨Nat.zero_le _, Nat.zero_le _⟩ rfl (fun H locs hP hD hS => ?_)
          refine lv_istore (lv' := [(5, .int r63_13), (4, .int s0_58_11), (0, .ref a_t), (1, .int p1), (2, .int r2_1)]) hx hb dX3_divideAt_66 hl (by decide) rfl (fun ls hl => ?_)
          refine lv_aload_n hx hb dX3_divideAt_68 rfl (lv_at hl 2 rfl) ?_
          refine va_get (D := D) (ci := 3) (v := .int t_pieces) (C := RX3) (T := TX3) (N := 8) hx hb hts iw3 hown hK hP 0 rfl rfl 7 (by decide) hf31 (fun _ h9 => h9) rfl dX3_divideAt_69 ?_
          refine lv_istore (lv' := [(6, .int t_pieces), (5, .int r63_13), (4, .int s0_58_11), (0, .ref a_t), (1, .int p1), (2, .int r2_1)]) hx hb dX3_divideAt_72 hl (by decide) rfl (fun ls hl => ?_)
          obtain ⟨k96_20, ek96_20, hF⟩ := jnE hF
          have hk96_20 : ∀ (t_bounds_96_16 : (Nat → Int32)) (t_heats_96_17 : (Nat → Int32)) (t_sorted_96_18 : (Nat → Int32)) (t_starts_96_19 : (Nat → Int32)) (H : Heap) (locs : List Loc) (ls : Array Slot), va_P D vwCl [(a_t, .inr (3, [.ref a_t_rows, .ref a_t_entries, .ref a_t_bounds, .ref a_t_starts, .ref a_t_heats, .ref a_t_sorted, .int t_size, .int t_pieces])), (a_t_bounds, .inl (t 0, 62, .inl t_bounds_96_16)), (a_t_entries, .inl (t 0, 120, .inl t_entries_63_14)), (a_t_heats, .inl (t 0, 62, .inl t_heats_96_17)), (a_t_sorted, .inl (t 0, 62, .inl t_sorted_96_18)), (a_t_starts, .inl (t 0, 62, .inl t_starts_96_19)), (a_t_rows, .inr (6, [.ref a_t_rows_keys, v_t_rows_values, v_t_rows_states, .int t_rows_count])), (a_t_rows_keys, .inl (t 0, 120, .inl t_rows_keys_))] H → va_D A [(a_t, .inr (3, [.ref a_t_rows, .ref a_t_entries, .ref a_t_bounds, .ref a_t_starts, .ref a_t_heats, .ref a_t_sorted, .int t_size, .int t_pieces])), (a_t_bounds, .inl (t 0, 62, .inl t_bounds_96_16)), (a_t_entries, .inl (t 0, 120, .inl t_entries_63_14)), (a_t_heats, .inl (t 0, 62, .inl t_heats_96_17)), (a_t_sorted, .inl (t 0, 62, .inl t_sorted_96_18)), (a_t_starts, .inl (t 0, 62, .inl t_starts_96_19)), (a_t_rows, .inr (6, [.ref a_t_rows_keys, v_t_rows_values, v_t_rows_states, .int t_rows_count])), (a_t_rows_keys, .inl (t 0, 120, .inl t_rows_keys_))] → va_S A s.heap H locs → lv_has ls 7 [(0, .ref a_t), (1, .int p1), (2, .int r2_1), (4, .int s0_58_11), (5, .int r63_13)] → k96_20 t_bounds_96_16 t_heats_96_17 t_sorted_96_18 t_starts_96_19 = some T9 → W p l e rm_X3_divideAt s m args below meth c H locs 0 0 Q (F0 m 96 ls []) := by
            subst ek96_20
            intro t_bounds_96_16 t_heats_96_17 t_sorted_96_18 t_starts_96_19 H locs ls hP hD hS hl hF
            refine lv_aload_n hx hb dX3_divideAt_96 rfl (lv_at hl 0 rfl) ?_
            refine lv_dup hx hb dX3_divideAt_97 rfl ?_
            refine va_get (D := D) (ci := 3) (v := .int t_pieces) (C := RX3) (T := TX3) (N := 8) hx hb hts iw3 hown hK hP 0 rfl rfl 7 (by decide) hf31 (fun _ h9 => h9) rfl dX3_divideAt_98 ?_
            refine lv_iconst (v := 1) hx hb dX3_divideAt_101 (by decide) ?_
            refine lv_iadd hx hb dX3_divideAt_102 ?_
            refine lv_topi (fun y103_21 ey103_21 => ?_)
            have hF := ltE ey103_21 hF
            refine my_put (ty := .int) (v := .int y103_21) (ci := 3) (C := RX3) (T := TX3) (N := 8) (wn := [(a_t, .inr (3, [.ref a_t_rows, .ref a_t_entries, .ref a_t_bounds, .ref a_t_starts, .ref a_t_heats, .ref a_t_sorted, .int t_size, .int y103_21])), (a_t_bounds, .inl (t 0, 62, .inl t_bounds_96_16)), (a_t_entries, .inl (t 0, 120, .inl t_entries_63_14)), (a_t_heats, .inl (t 0, 62, .inl t_heats_96_17)), (a_t_sorted, .inl (t 0, 62, .inl t_sorted_96_18)), (a_t_starts, .inl (t 0, 62, .inl t_starts_96_19)), (a_t_rows, .inr (6, [.ref a_t_rows_keys, v_t_rows_values, v_t_rows_states, .int t_rows_count])), (a_t_rows_keys, .inl (t 0, 120, .inl t_rows_keys_))]) hx hb hts iw3 tyX3 tyX3_ok nmX3 hown hK hP hD hS 0 rfl rfl 7 (by decide) hf31 (fun _ h9 => h9) rfl (by decide +kernel) rfl rfl (Nat.le_of_ble_eq_true rfl) rfl dX3_divideAt_103 (fun H locs hP hD hS => ?_)
            refine lv_aload_n hx hb dX3_divideAt_106 rfl (lv_at hl 0 rfl) ?_
            refine va_get (D := D) (ci := 3) (v := .ref a_t_heats) (C := RX3) (T := TX3) (N := 8) hx hb hts iw3 hown hK hP 0 rfl rfl 4 (by decide) hf21 (fun _ h9 => h9) rfl dX3_divideAt_107 ?_
            refine lv_iload_n hx hb dX3_divideAt_110 rfl (lv_at hl 2 rfl) ?_
            refine lv_dup2_11 hx hb dX3_divideAt_111 rfl rfl ?_
            obtain ⟨g112_21, hF⟩ := gd hF
            refine my_iald (v := t_heats_96_17 r2_1.toNatClampNeg) hx hb hK hP 3 0 rfl rfl g112_21 rfl dX3_divideAt_112 ?_
            refine lv_iconst (v := 2) hx hb dX3_divideAt_113 (by decide) ?_
            refine lv_idiv hx hb dX3_divideAt_114 (by decide) ?_
            obtain ⟨t_heats_115_23, et_heats_115_23⟩ : ∃ y : Nat → Int32, y = upd t_heats_96_17 r2_1.toNatClampNeg ((t_heats_96_17 r2_1.toNatClampNeg) / 2) := ⟨_, rfl⟩
            have hF := ltE et_heats_115_23 hF
            refine my_iast (g := t_heats_115_23) (wn := [(a_t, .inr (3, [.ref a_t_rows, .ref a_t_entries, .ref a_t_bounds, .ref a_t_starts, .ref a_t_heats, .ref a_t_sorted, .int t_size, .int y103_21])), (a_t_bounds, .inl (t 0, 62, .inl t_bounds_96_16)), (a_t_entries, .inl (t 0, 120, .inl t_entries_63_14)), (a_t_heats, .inl (t 0, 62, .inl t_heats_115_23)), (a_t_sorted, .inl (t 0, 62, .inl t_sorted_96_18)), (a_t_starts, .inl (t 0, 62, .inl t_starts_96_19)), (a_t_rows, .inr (6, [.ref a_t_rows_keys, v_t_rows_values, v_t_rows_states, .int t_rows_count])), (a_t_rows_keys, .inl (t 0, 120, .inl t_rows_keys_))]) hx hb hK hP hD hS 3 0 rfl rfl g112_21 et_heats_115_23 rfl dX3_divideAt_115 (fun H locs hP hD hS => ?_)
            refine lv_aload_n hx hb dX3_divideAt_116 rfl (lv_at hl 0 rfl) ?_
            refine va_get (D := D) (ci := 3) (v := .ref a_t_bounds) (C := RX3) (T := TX3) (N := 8) hx hb hts iw3 hown hK hP 0 rfl rfl 2 (by decide) hf15 (fun _ h9 => h9) rfl dX3_divideAt_117 ?_
            refine lv_iload_n hx hb dX3_divideAt_120 rfl (lv_at hl 2 rfl) ?_
            refine lv_iconst (v := 1) hx hb dX3_divideAt_121 (by decide) ?_
            refine lv_iadd hx hb dX3_divideAt_122 ?_
            refine lv_iload_n hx hb dX3_divideAt_123 rfl (lv_at hl 1 rfl) ?_
            obtain ⟨g124_24, hF⟩ := gd hF
            obtain ⟨t_bounds_124_25, et_bounds_124_25⟩ : ∃ y : Nat → Int32, y = upd t_bounds_96_16 (r2_1 + 1).toNatClampNeg p1 := ⟨_, rfl⟩
            have hF := ltE et_bounds_124_25 hF
            refine my_iast (g := t_bounds_124_25) (wn := [(a_t, .inr (3, [.ref a_t_rows, .ref a_t_entries, .ref a_t_bounds, .ref a_t_starts, .ref a_t_heats, .ref a_t_sorted, .int t_size, .int y103_21])), (a_t_bounds, .inl (t 0, 62, .inl t_bounds_124_25)), (a_t_entries, .inl (t 0, 120, .inl t_entries_63_14)), (a_t_heats, .inl (t 0, 62, .inl t_heats_115_23)), (a_t_sorted, .inl (t 0, 62, .inl t_sorted_96_18)), (a_t_starts, .inl (t 0, 62, .inl t_starts_96_19)), (a_t_rows, .inr (6, [.ref a_t_rows_keys, v_t_rows_values, v_t_rows_states, .int t_rows_count])), (a_t_rows_keys, .inl (t 0, 120, .inl t_rows_keys_))]) hx hb hK hP hD hS 1 0 rfl rfl g124_24 et_bounds_124_25 rfl dX3_divideAt_124 (fun H locs hP hD hS => ?_)
            refine lv_aload_n hx hb dX3_divideAt_125 rfl (lv_at hl 0 rfl) ?_
            refine va_get (D := D) (ci := 3) (v := .ref a_t_starts) (C := RX3) (T := TX3) (N := 8) hx hb hts iw3 hown hK hP 0 rfl rfl 3 (by decide) hf18 (fun _ h9 => h9) rfl dX3_divideAt_126 ?_
            refine lv_iload_n hx hb dX3_divideAt_129 rfl (lv_at hl 2 rfl) ?_
            refine lv_iconst (v := 1) hx hb dX3_divideAt_130 (by decide) ?_
            refine lv_iadd hx hb dX3_divideAt_131 ?_
            refine lv_iload hx hb dX3_divideAt_132 (lv_at hl 4 rfl) ?_
            obtain ⟨t_starts_134_26, et_starts_134_26⟩ : ∃ y : Nat → Int32, y = upd t_starts_96_19 (r2_1 + 1).toNatClampNeg r63_13 := ⟨_, rfl⟩
            have hF := ltE et_starts_134_26 hF
            refine my_iast (g := t_starts_134_26) (wn := [(a_t, .inr (3, [.ref a_t_rows, .ref a_t_entries, .ref a_t_bounds, .ref a_t_starts, .ref a_t_heats, .ref a_t_sorted, .int t_size, .int y103_21])), (a_t_bounds, .inl (t 0, 62, .inl t_bounds_124_25)), (a_t_entries, .inl (t 0, 120, .inl t_entries_63_14)), (a_t_heats, .inl (t 0, 62, .inl t_heats_115_23)), (a_t_sorted, .inl (t 0, 62, .inl t_sorted_96_18)), (a_t_starts, .inl (t 0, 62, .inl t_starts_134_26)), (a_t_rows, .inr (6, [.ref a_t_rows_keys, v_t_rows_values, v_t_rows_states, .int t_rows_count])), (a_t_rows_keys, .inl (t 0, 120, .inl t_rows_keys_))]) hx hb hK hP hD hS 5 0 rfl rfl g124_24 et_starts_134_26 rfl dX3_divideAt_134 (fun H locs hP hD hS => ?_)
            refine lv_aload_n hx hb dX3_divideAt_135 rfl (lv_at hl 0 rfl) ?_
            refine va_get (D := D) (ci := 3) (v := .ref a_t_heats) (C := RX3) (T := TX3) (N := 8) hx hb hts iw3 hown hK hP 0 rfl rfl 4 (by decide) hf21 (fun _ h9 => h9) rfl dX3_divideAt_136 ?_
            refine lv_iload_n hx hb dX3_divideAt_139 rfl (lv_at hl 2 rfl) ?_
            refine lv_iconst (v := 1) hx hb dX3_divideAt_140 (by decide) ?_
            refine lv_iadd hx hb dX3_divideAt_141 ?_
            refine lv_aload_n hx hb dX3_divideAt_142 rfl (lv_at hl 0 rfl) ?_
            refine va_get (D := D) (ci := 3) (v := .ref a_t_heats) (C := RX3) (T := TX3) (N := 8) hx hb hts iw3 hown hK hP 0 rfl rfl 4 (by decide) hf21 (fun _ h9 => h9) rfl dX3_divideAt_143 ?_
            refine lv_iload_n hx hb dX3_divideAt_146 rfl (lv_at hl 2 rfl) ?_
            refine my_iald (v := t_heats_115_23 r2_1.toNatClampNeg) hx hb hK hP 3 0 rfl rfl g112_21 rfl dX3_divideAt_147 ?_
            obtain ⟨t_heats_148_27, et_heats_148_27⟩ : ∃ y : Nat → Int32, y = upd t_heats_115_23 (r2_1 + 1).toNatClampNeg (t_heats_115_23 r2_1.toNatClampNeg) := ⟨_, rfl⟩
            have hF := ltE et_heats_148_27 hF
            refine my_iast (g := t_heats_148_27) (wn := [(a_t, .inr (3, [.ref a_t_rows, .ref a_t_entries, .ref a_t_bounds, .ref a_t_starts, .ref a_t_heats, .ref a_t_sorted, .int t_size, .int y103_21])), (a_t_bounds, .inl (t 0, 62, .inl t_bounds_124_25)), (a_t_entries, .inl (t 0, 120, .inl t_entries_63_14)), (a_t_heats, .inl (t 0, 62, .inl t_heats_148_27)), (a_t_sorted, .inl (t 0, 62, .inl t_sorted_96_18)), (a_t_starts, .inl (t 0, 62, .inl t_starts_134_26)), (a_t_rows, .inr (6, [.ref a_t_rows_keys, v_t_rows_values, v_t_rows_states, .int t_rows_count])), (a_t_rows_keys, .inl (t 0, 120, .inl t_rows_keys_))]) hx hb hK hP hD hS 3 0 rfl rfl g124_24 et_heats_148_27 rfl dX3_divideAt_148 (fun H locs hP hD hS => ?_)
            refine lv_iload hx hb dX3_divideAt_149 (lv_at hl 3 rfl) ?_
            cases hF
            exact we_iret hx hb hr hlocks dX3_divideAt_151 rfl hQ hP hD hS
          have hlp74 : ∀ n74 : Nat, ∀ (x6_74_28 : Int32) (t_bounds_74_29 : (Nat → Int32)) (t_heats_74_30 : (Nat → Int32)) (t_sorted_74_31 : (Nat → Int32)) (t_starts_74_32 : (Nat → Int32)) (H : Heap) (locs : List Loc) (ls : Array Slot), va_P D vwCl [(a_t, .inr (3, [.ref a_t_rows, .ref a_t_entries, .ref a_t_bounds, .ref a_t_starts, .ref a_t_heats, .ref a_t_sorted, .int t_size, .int t_pieces])), (a_t_bounds, .inl (t 0, 62, .inl t_bounds_74_29)), (a_t_entries, .inl (t 0, 120, .inl t_entries_63_14)), (a_t_heats, .inl (t 0, 62, .inl t_heats_74_30)), (a_t_sorted, .inl (t 0, 62, .inl t_sorted_74_31)), (a_t_starts, .inl (t 0, 62, .inl t_starts_74_32)), (a_t_rows, .inr (6, [.ref a_t_rows_keys, v_t_rows_values, v_t_rows_states, .int t_rows_count])), (a_t_rows_keys, .inl (t 0, 120, .inl t_rows_keys_))] H → va_D A [(a_t, .inr (3, [.ref a_t_rows, .ref a_t_entries, .ref a_t_bounds, .ref a_t_starts, .ref a_t_heats, .ref a_t_sorted, .int t_size, .int t_pieces])), (a_t_bounds, .inl (t 0, 62, .inl t_bounds_74_29)), (a_t_entries, .inl (t 0, 120, .inl t_entries_63_14)), (a_t_heats, .inl (t 0, 62, .inl t_heats_74_30)), (a_t_sorted, .inl (t 0, 62, .inl t_sorted_74_31)), (a_t_starts, .inl (t 0, 62, .inl t_starts_74_32)), (a_t_rows, .inr (6, [.ref a_t_rows_keys, v_t_rows_values, v_t_rows_states, .int t_rows_count])), (a_t_rows_keys, .inl (t 0, 120, .inl t_rows_keys_))] → va_S A s.heap H locs → lv_has ls 7 [(0, .ref a_t), (1, .int p1), (2, .int r2_1), (4, .int s0_58_11), (5, .int r63_13), (6, .int x6_74_28)] → f_X3_divideAt_74 r2_1 k96_20 n74 x6_74_28 t_bounds_74_29 t_heats_74_30 t_sorted_74_31 t_starts_74_32 = some T9 → W p l e rm_X3_divideAt s m args below meth c H locs 0 0 Q (F0 m 74 ls []) := by
            intro n74
            induction n74 with
            | zero =>
              intro x6_74_28 t_bounds_74_29 t_heats_74_30 t_sorted_74_31 t_starts_74_32 H locs ls hP hD hS hl hF
              cases (show none = some T9 from hF)
            | succ n74 ih74 =>
              intro x6_74_28 t_bounds_74_29 t_heats_74_30 t_sorted_74_31 t_starts_74_32 H locs ls hP hD hS hl hF
              rw [f_X3_divideAt_74] at hF
              refine lv_iload hx hb dX3_divideAt_74 (lv_at hl 5 rfl) ?_
              refine lv_iload_n hx hb dX3_divideAt_76 rfl (lv_at hl 2 rfl) ?_
              refine lv_icmp_le (tgt := 96) hx hb dX3_divideAt_77 (by decide) (fun c77 => ?_) (fun c77 => ?_)
              · have hF := brT c77 hF
                exact hk96_20 t_bounds_74_29 t_heats_74_30 t_sorted_74_31 t_starts_74_32 H locs ls hP hD hS (lv_sub hl [0, 1, 2, 3, 4] rfl) hF
              · have hF := brF c77 hF
                refine lv_aload_n hx hb dX3_divideAt_80 rfl (lv_at hl 0 rfl) ?_
                refine lv_iload hx hb dX3_divideAt_81 (lv_at hl 5 rfl) ?_
                refine lv_iconst (v := 1) hx hb dX3_divideAt_83 (by decide) ?_
                refine lv_isub hx hb dX3_divideAt_84 ?_
                refine lv_iload hx hb dX3_divideAt_85 (lv_at hl 5 rfl) ?_
                obtain ⟨t_bounds_87_33, t_heats_87_34, t_sorted_87_35, t_starts_87_36, h87_36, hF⟩ := bnd4E hF
                refine wrVM (As := [.int (x6_74_28 - 1), .int x6_74_28]) (rest := []) (C := RX3) (wn := [(a_t, .inr (3, [.ref a_t_rows, .ref a_t_entries, .ref a_t_bounds, .ref a_t_starts, .ref a_t_heats, .ref a_t_sorted, .int t_size, .int t_pieces])), (a_t_bounds, .inl (t 0, 62, .inl t_bounds_87_33)), (a_t_entries, .inl (t 0, 120, .inl t_entries_63_14)), (a_t_heats, .inl (t 0, 62, .inl t_heats_87_34)), (a_t_sorted, .inl (t 0, 62, .inl t_sorted_87_35)), (a_t_starts, .inl (t 0, 62, .inl t_starts_87_36)), (a_t_rows, .inr (6, [.ref a_t_rows_keys, v_t_rows_values, v_t_rows_states, .int t_rows_count])), (a_t_rows_keys, .inl (t 0, 120, .inl t_rows_keys_))]) ⟨hx, hb, hml, hown, hts⟩ (c_X3_movePiece l D t z x a_t a_t_bounds a_t_heats a_t_sorted a_t_starts (.ref a_t_rows) (.ref a_t_entries) t_size t_pieces t_bounds_74_29 t_heats_74_30 t_sorted_74_31 t_starts_74_32 (x6_74_28 - 1) x6_74_28 H.size t_bounds_87_33 t_heats_87_34 t_sorted_87_35 t_starts_87_36 h87_36) (cwV 2 hts gX3_divideAt_X3_movePiece rfl rfl rfl hd_X3_movePiece ⟨Nat.le_of_ble_eq_true rfl, Nat.le_of_ble_eq_true rfl⟩) (hC.at hz hS) hP hD hS hA hz [true, true, false, true, true, true, false, false] rfl rfl rfl rfl 0 rfl (show vwCl[3]? = some (RX3, TX3, 8) from rfl) rfl rfl hl.1 rfl (Nat.le_of_ble_eq_true rfl) dX3_divideAt_87 ⟨Nat.zero_le _, Nat.zero_le _⟩ rfl (fun H locs hP hD hS => ?_)
                obtain ⟨y90_38, ey90_38⟩ : ∃ y : Int32, y = x6_74_28 + (-1) := ⟨_, rfl⟩
                have hF := ltE ey90_38 hF
                refine lv_iinc (v := y90_38) (lv' := [(6, .int y90_38), (0, .ref a_t), (1, .int p1), (2, .int r2_1), (4, .int s0_58_11), (5, .int r63_13)]) hx hb dX3_divideAt_90 hl (k := 5) rfl (by rw [ey90_38]; rfl) (by decide) rfl (fun ls hl => ?_)
                refine lv_goto (tgt := 74) hx hb dX3_divideAt_93 (by decide) ?_
                exact ih74 y90_38 t_bounds_87_33 t_heats_87_34 t_sorted_87_35 t_starts_87_36 H locs ls hP hD hS (lv_sub hl [1, 2, 3, 4, 5, 0] rfl) hF
          exact hlp74 N t_pieces t_bounds_ t_heats_ t_sorted_ t_starts_ H locs ls hP hD hS (lv_sub hl [3, 4, 5, 2, 1, 0] rfl) hF
        refine lv_if_eq (tgt := 57) hx hb dX3_divideAt_45 (by decide) (fun c45 => ?_) (fun c45 => ?_)
        · have hF := brT c45 hF
          refine lv_iload_n hx hb dX3_divideAt_57 rfl (lv_at hl 0 rfl) ?_
          exact hk58_12 r36_7 H locs ls hP hD hS (lv_sub hl [2, 3, 1] rfl) hF
        · have hF := brF c45 hF
          refine lv_iload_n hx hb dX3_divideAt_48 rfl (lv_at hl 0 rfl) ?_
          refine lv_iconst (v := 1) hx hb dX3_divideAt_49 (by decide) ?_
          refine lv_iadd hx hb dX3_divideAt_50 ?_
          obtain ⟨r51_39, h51_39, hF⟩ := bndE hF
          refine rdSN (As := [.int (r36_7 + 1)]) (rest := []) ⟨hx, hb, hml, hown, hts⟩ (c_X7_powerFor l D t z x N (r36_7 + 1) H r51_39 h51_39) ⟨va_cnB 1 hts gX3_divideAt_X7_powerFor_n99 rfl rfl rfl (nw_9 hC.2.1) hini_X7 hd_X7_powerFor.2 ⟨Nat.le_of_ble_eq_true rfl, Nat.le_of_ble_eq_true rfl⟩, hts (.static yX7_powerFor) (by decide +kernel), trivial⟩ (hC.at hz hS) (selP (m9 := [false, false, false, false, false, false, false, false]) rfl rfl hP) rfl hl.1 rfl (Nat.le_of_ble_eq_true rfl) dX3_divideAt_51 ⟨Nat.zero_le _, Nat.zero_le _⟩ rfl ?_
          refine lv_goto (tgt := 58) hx hb dX3_divideAt_54 (by decide) ?_
          exact hk58_12 r51_39 H locs ls hP hD hS (lv_sub hl [2, 3, 1] rfl) hF
      · have hF := brF c29 hF
        refine lv_iconst (v := 0) hx hb dX3_divideAt_32 (by decide) ?_
        cases hF
        exact we_iret hx hb hr hlocks dX3_divideAt_33 rfl hQ hP hD hS
