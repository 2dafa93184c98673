theorem swOut0_4 {x : Int32} (c0 : ¬ x = 0) (c1 : ¬ x = 1) (c2 : ¬ x = 2) (c3 : ¬ x = 3) (c4 : ¬ x = 4) : x.toInt < 0 ∨ 4 < x.toInt := by
  have e : ∀ k : Int32, x.toInt = k.toInt → x = k := fun k h => Int32.toInt_inj.mp h
  have n0 : x.toInt ≠ 0 := fun h => c0 (e 0 (h.trans (by decide)))
  have n1 : x.toInt ≠ 1 := fun h => c1 (e 1 (h.trans (by decide)))
  have n2 : x.toInt ≠ 2 := fun h => c2 (e 2 (h.trans (by decide)))
  have n3 : x.toInt ≠ 3 := fun h => c3 (e 3 (h.trans (by decide)))
  have n4 : x.toInt ≠ 4 := fun h => c4 (e 4 (h.trans (by decide)))
  omega
abbrev rm_X8_lives : Room := { frames := 0, cells := 0, slots := 0, locals := 0 }
theorem hd_X8_lives : yX8_lives.cls = RX8 ∧ yX8_lives.cls ≠ "java/lang/invoke/MethodHandle" ∧ yX8_lives.cls ≠ "java/lang/invoke/VarHandle" ∧ (parseMethodDescriptor yX8_lives.desc).map (fun d => d.parameters.length) = some 1 := by decide +kernel
set_option maxRecDepth 100000 in
set_option maxHeartbeats 4000000 in
theorem c_X8_lives (l : Launch) (D : va_G) (t : Nat → ClassId) (z : Nat) (x : Nat → Nat) (a_t : Nat) (a_t_a : Nat) (v_t_fresh : Value) (v_t_aside : Value) (v_t_kept : Value) (v_t_buffer : Value) (v_t_moved : Value) (v_t_written : Value) (t_keptMany : Int32) (t_thrown : Int32) (t_buffered : Int32) (t_size : Int32) (t_at : Int32) (t_behind : Int32) (t_kind : Int32) (t_number : Int32) (t_wrong : Int32) (t_wrongAt : Int32) (t_errorAt : Int32) (t_unused : Int32) (t_writtenMany : Int32) (t_a_ : (Nat → Int32)) (p1 : Int32) (H : Heap) (r : Int32) (hF : f_X8_lives t_a_ p1 = some (r)) : RdM l D (TY t) z x yX8_lives wsX8_lives rm_X8_lives [.ref a_t, .int p1] [(a_t, .inr (8, [.ref a_t_a, v_t_fresh, v_t_aside, v_t_kept, .int t_keptMany, .int t_thrown, v_t_buffer, .int t_buffered, .int t_size, .int t_at, .int t_behind, .int t_kind, .int t_number, .int t_wrong, .int t_wrongAt, .int t_errorAt, v_t_moved, .int t_unused, v_t_written, .int t_writtenMany])), (a_t_a, .inl (t 0, 876, .inl t_a_))] H (some (.int r)) := by
  refine rd_of (cc := cX8_lives) (maxL := 2) (ret := (some .boolean)) (by decide) rfl (Nat.le_of_ble_eq_true rfl) ?_
  intro p e s m args below meth c Q hQ hx hb hr hml hts hown hlocks hH hP hC ls hl
  have hown : s.vm.findClass RX8 = some m.cls := hown
  have hl : lv_has ls 2 [(0, .ref a_t), (1, .int p1)] := hl
  have hK := hC.1
  have iw8 : ∀ w ∈ wsX80, w ∈ wsX8_lives := fun _ h => List.mem_cons_of_mem _ (List.mem_append_right _ h)
  have hf7 := hts (.fieldLink RX8 7 "CrackedColumnModel" "a" "[I") (by decide +kernel)
  unfold f_X8_lives at hF
  refine lv_aload_n hx hb dX8_lives_0 rfl (lv_at hl 0 rfl) ?_
  refine va_get (D := D) (ci := 8) (v := .ref a_t_a) (C := RX8) (T := TX8) (N := 20) hx hb hts iw8 hown hK hP 0 rfl rfl 0 (by decide) hf7 (fun _ h9 => h9) rfl dX8_lives_1 ?_
  refine lv_sipush (v := 260) hx hb dX8_lives_4 (by decide) ?_
  refine lv_iload_n hx hb dX8_lives_7 rfl (lv_at hl 1 rfl) ?_
  refine lv_iadd hx hb dX8_lives_8 ?_
  obtain ⟨g9_0, hF⟩ := gd hF
  refine my_iald (v := t_a_ (260 + p1).toNatClampNeg) hx hb hK hP 1 0 rfl rfl g9_0 rfl dX8_lives_9 ?_
  refine lv_iconst (v := 1) hx hb dX8_lives_10 (by decide) ?_
  refine lv_icmp_gt (tgt := 18) hx hb dX8_lives_11 (by decide) (fun c11 => ?_) (fun c11 => ?_)
  · have hF := brT c11 hF
    refine lv_iconst (v := 0) hx hb dX8_lives_18 (by decide) ?_
    cases hF
    exact rd_zret hx hb hr hlocks dX8_lives_19 rfl rfl hQ
  · have hF := brF c11 hF
    refine lv_iconst (v := 1) hx hb dX8_lives_14 (by decide) ?_
    refine lv_goto (tgt := 19) hx hb dX8_lives_15 (by decide) ?_
    cases hF
    exact rd_zret hx hb hr hlocks dX8_lives_19 rfl rfl hQ
abbrev rm_X8_delete : Room := { frames := 5, cells := 0, slots := 0, locals := 112 }
theorem hd_X8_delete : yX8_delete.cls = RX8 ∧ yX8_delete.cls ≠ "java/lang/invoke/MethodHandle" ∧ yX8_delete.cls ≠ "java/lang/invoke/VarHandle" ∧ (parseMethodDescriptor yX8_delete.desc).map (fun d => d.parameters.length) = some 1 := by decide +kernel
set_option maxRecDepth 100000 in
set_option maxHeartbeats 4000000 in
theorem c_X8_delete (l : Launch) (D : va_G) (t : Nat → ClassId) (z : Nat) (x : Nat → Nat) (N : Nat) (a_t : Nat) (a_t_a : Nat) (a_t_kept : Nat) (v_t_fresh : Value) (v_t_aside : Value) (v_t_buffer : Value) (v_t_moved : Value) (v_t_written : Value) (t_keptMany : Int32) (t_thrown : Int32) (t_buffered : Int32) (t_size : Int32) (t_at : Int32) (t_behind : Int32) (t_kind : Int32) (t_number : Int32) (t_wrong : Int32) (t_wrongAt : Int32) (t_errorAt : Int32) (t_unused : Int32) (t_writtenMany : Int32) (t_a_ : (Nat → Int32)) (t_kept_ : (Nat → Int32)) (p1 : Int32) (sz : Nat) (r : Int32) (t_keptMany' : Int32) (t_thrown' : Int32) (t_a_' : (Nat → Int32)) (t_kept_' : (Nat → Int32)) (hF : f_X8_delete N t_keptMany t_a_ t_kept_ p1 = some (r, t_keptMany', t_thrown', t_a_', t_kept_')) : WrM l D (TY t) z x yX8_delete wsX8_delete rm_X8_delete [.ref a_t, .int p1] [(a_t, .inr (8, [.ref a_t_a, v_t_fresh, v_t_aside, .ref a_t_kept, .int t_keptMany, .int t_thrown, v_t_buffer, .int t_buffered, .int t_size, .int t_at, .int t_behind, .int t_kind, .int t_number, .int t_wrong, .int t_wrongAt, .int t_errorAt, v_t_moved, .int t_unused, v_t_written, .int t_writtenMany])), (a_t_a, .inl (t 0, 876, .inl t_a_)), (a_t_kept, .inl (t 0, 7008, .inl t_kept_))] [(a_t, .inr (8, [.ref a_t_a, v_t_fresh, v_t_aside, .ref a_t_kept, .int t_keptMany', .int t_thrown', v_t_buffer, .int t_buffered, .int t_size, .int t_at, .int t_behind, .int t_kind, .int t_number, .int t_wrong, .int t_wrongAt, .int t_errorAt, v_t_moved, .int t_unused, v_t_written, .int t_writtenMany])), (a_t_a, .inl (t 0, 876, .inl t_a_')), (a_t_kept, .inl (t 0, 7008, .inl t_kept_'))] sz (some (.int r)) 0 0 := by
  obtain ⟨T9, hT⟩ : ∃ T9, T9 = (r, t_keptMany', t_thrown', t_a_', t_kept_') := ⟨_, rfl⟩
  rw [← hT] at hF
  obtain rfl : r = T9.1 := by rw [hT]
  obtain rfl : t_keptMany' = T9.2.1 := by rw [hT]
  obtain rfl : t_thrown' = T9.2.2.1 := by rw [hT]
  obtain rfl : t_a_' = T9.2.2.2.1 := by rw [hT]
  obtain rfl : t_kept_' = T9.2.2.2.2 := by rw [hT]
  clear hT
  refine wr_of (cc := cX8_delete) (maxL := 3) (ret := (some .int)) (by decide) rfl (Nat.le_of_ble_eq_true rfl) ?_
  intro p e s m args below meth c A Q hQ hx hb hr hml hts hown hlocks hin H locs hP hD hS hA hz hC ls hl
  have hown : s.vm.findClass RX8 = some m.cls := hown
  have hl : lv_has ls 3 [(0, .ref a_t), (1, .int p1)] := hl
  have hK := hC.1
  have iw8 : ∀ w ∈ wsX80, w ∈ wsX8_delete := fun _ h => List.mem_cons_of_mem _ (List.mem_append_right _ h)
  have hf7 := hts (.fieldLink RX8 7 "CrackedColumnModel" "a" "[I") (by decide +kernel)
  have hf45 := hts (.fieldLink RX8 45 "CrackedColumnModel" "thrown" "I") (by decide +kernel)
  unfold f_X8_delete at hF
  refine lv_aload_n hx hb dX8_delete_0 rfl (lv_at hl 0 rfl) ?_
  refine lv_aload_n hx hb dX8_delete_1 rfl (lv_at hl 0 rfl) ?_
  refine lv_iload_n hx hb dX8_delete_2 rfl (lv_at hl 1 rfl) ?_
  obtain ⟨r3_1, h3_1, hF⟩ := bndE hF
  refine rdV (As := [.int p1]) (rest := [.ref a_t]) (C := RX8) ⟨hx, hb, hml, hown, hts⟩ (c_X8_isRow l D t z x a_t a_t_a v_t_fresh v_t_aside (.ref a_t_kept) v_t_buffer v_t_moved v_t_written t_keptMany t_thrown t_buffered t_size t_at t_behind t_kind t_number t_wrong t_wrongAt t_errorAt t_unused t_writtenMany t_a_ p1 H r3_1 h3_1) (cwV 1 hts gX8_delete_X8_isRow rfl rfl rfl hd_X8_isRow ⟨Nat.le_of_ble_eq_true rfl, Nat.le_of_ble_eq_true rfl⟩) (hC.at hz hS) (selP (m9 := [true, true, false]) rfl rfl hP) 0 rfl (show vwCl[8]? = some (RX8, TX8, 20) from rfl) rfl rfl hl.1 rfl (Nat.le_of_ble_eq_true rfl) dX8_delete_3 ⟨Nat.zero_le _, Nat.zero_le _⟩ rfl ?_
  obtain ⟨k26_4, ek26_4, hF⟩ := jnE hF
  have hk26_4 : ∀ (s0_26_3 : Int32) (H : Heap) (locs : List Loc) (ls : Array Slot), va_P D vwCl [(a_t, .inr (8, [.ref a_t_a, v_t_fresh, v_t_aside, .ref a_t_kept, .int t_keptMany, .int t_thrown, v_t_buffer, .int t_buffered, .int t_size, .int t_at, .int t_behind, .int t_kind, .int t_number, .int t_wrong, .int t_wrongAt, .int t_errorAt, v_t_moved, .int t_unused, v_t_written, .int t_writtenMany])), (a_t_a, .inl (t 0, 876, .inl t_a_)), (a_t_kept, .inl (t 0, 7008, .inl t_kept_))] H → va_D A [(a_t, .inr (8, [.ref a_t_a, v_t_fresh, v_t_aside, .ref a_t_kept, .int t_keptMany, .int t_thrown, v_t_buffer, .int t_buffered, .int t_size, .int t_at, .int t_behind, .int t_kind, .int t_number, .int t_wrong, .int t_wrongAt, .int t_errorAt, v_t_moved, .int t_unused, v_t_written, .int t_writtenMany])), (a_t_a, .inl (t 0, 876, .inl t_a_)), (a_t_kept, .inl (t 0, 7008, .inl t_kept_))] → va_S A s.heap H locs → lv_has ls 3 [(0, .ref a_t), (1, .int p1)] → k26_4 s0_26_3 = some T9 → W p l e rm_X8_delete s m args below meth c H locs 0 0 Q (F0 m 26 ls [.int s0_26_3, .ref a_t]) := by
    subst ek26_4
    intro s0_26_3 H locs ls hP hD hS hl hF
    refine my_put (ty := .int) (v := .int s0_26_3) (ci := 8) (C := RX8) (T := TX8) (N := 20) (wn := [(a_t, .inr (8, [.ref a_t_a, v_t_fresh, v_t_aside, .ref a_t_kept, .int t_keptMany, .int s0_26_3, v_t_buffer, .int t_buffered, .int t_size, .int t_at, .int t_behind, .int t_kind, .int t_number, .int t_wrong, .int t_wrongAt, .int t_errorAt, v_t_moved, .int t_unused, v_t_written, .int t_writtenMany])), (a_t_a, .inl (t 0, 876, .inl t_a_)), (a_t_kept, .inl (t 0, 7008, .inl t_kept_))]) hx hb hts iw8 tyX8 tyX8_ok nmX8 hown hK hP hD hS 0 rfl rfl 5 (by decide) hf45 (fun _ h9 => h9) rfl (by decide +kernel) rfl rfl (Nat.le_of_ble_eq_true rfl) rfl dX8_delete_26 (fun H locs hP hD hS => ?_)
    refine lv_aload_n hx hb dX8_delete_29 rfl (lv_at hl 0 rfl) ?_
    refine va_get (D := D) (ci := 8) (v := .int s0_26_3) (C := RX8) (T := TX8) (N := 20) hx hb hts iw8 hown hK hP 0 rfl rfl 5 (by decide) hf45 (fun _ h9 => h9) rfl dX8_delete_30 ?_
    refine lv_if_le (tgt := 38) hx hb dX8_delete_33 (by decide) (fun c33 => ?_) (fun c33 => ?_)
    · have hF := brT c33 hF
      refine lv_aload_n hx hb dX8_delete_38 rfl (lv_at hl 0 rfl) ?_
      obtain ⟨t_keptMany_39_5, t_kept_39_6, h39_6, hF⟩ := bnd2E hF
      refine wrVM (As := []) (rest := []) (C := RX8) (wn := [(a_t, .inr (8, [.ref a_t_a, v_t_fresh, v_t_aside, .ref a_t_kept, .int t_keptMany_39_5, .int s0_26_3, v_t_buffer, .int t_buffered, .int t_size, .int t_at, .int t_behind, .int t_kind, .int t_number, .int t_wrong, .int t_wrongAt, .int t_errorAt, v_t_moved, .int t_unused, v_t_written, .int t_writtenMany])), (a_t_a, .inl (t 0, 876, .inl t_a_)), (a_t_kept, .inl (t 0, 7008, .inl t_kept_39_6))]) ⟨hx, hb, hml, hown, hts⟩ (c_X8_keeps l D t z x N a_t a_t_a a_t_kept v_t_fresh v_t_aside v_t_buffer v_t_moved v_t_written t_keptMany s0_26_3 t_buffered t_size t_at t_behind t_kind t_number t_wrong t_wrongAt t_errorAt t_unused t_writtenMany t_a_ t_kept_ H.size t_keptMany_39_5 t_kept_39_6 h39_6) (cwV 0 hts gX8_delete_X8_keeps rfl rfl rfl hd_X8_keeps ⟨Nat.le_of_ble_eq_true rfl, Nat.le_of_ble_eq_true rfl⟩) (hC.at hz hS) hP hD hS hA hz [true, true, true] rfl rfl rfl rfl 0 rfl (show vwCl[8]? = some (RX8, TX8, 20) from rfl) rfl rfl hl.1 rfl (Nat.le_of_ble_eq_true rfl) dX8_delete_39 ⟨Nat.zero_le _, Nat.zero_le _⟩ rfl (fun H locs hP hD hS => ?_)
      refine lv_aload_n hx hb dX8_delete_42 rfl (lv_at hl 0 rfl) ?_
      refine va_get (D := D) (ci := 8) (v := .ref a_t_a) (C := RX8) (T := TX8) (N := 20) hx hb hts iw8 hown hK hP 0 rfl rfl 0 (by decide) hf7 (fun _ h9 => h9) rfl dX8_delete_43 ?_
      refine lv_sipush (v := 260) hx hb dX8_delete_46 (by decide) ?_
      refine lv_iload_n hx hb dX8_delete_49 rfl (lv_at hl 1 rfl) ?_
      refine lv_iadd hx hb dX8_delete_50 ?_
      obtain ⟨g51_7, hF⟩ := gd hF
      refine my_iald (v := t_a_ (260 + p1).toNatClampNeg) hx hb hK hP 1 0 rfl rfl g51_7 rfl dX8_delete_51 ?_
      refine lv_if_ne (tgt := 78) hx hb dX8_delete_52 (by decide) (fun c52 => ?_) (fun c52 => ?_)
      · have hF := brF c52 hF
        refine lv_aload_n hx hb dX8_delete_78 rfl (lv_at hl 0 rfl) ?_
        refine va_get (D := D) (ci := 8) (v := .ref a_t_a) (C := RX8) (T := TX8) (N := 20) hx hb hts iw8 hown hK hP 0 rfl rfl 0 (by decide) hf7 (fun _ h9 => h9) rfl dX8_delete_79 ?_
        refine lv_sipush (v := 260) hx hb dX8_delete_82 (by decide) ?_
        refine lv_iload_n hx hb dX8_delete_85 rfl (lv_at hl 1 rfl) ?_
        refine lv_iadd hx hb dX8_delete_86 ?_
        refine lv_iconst (v := 3) hx hb dX8_delete_87 (by decide) ?_
        obtain ⟨t_a_88_9, et_a_88_9⟩ : ∃ y : Nat → Int32, y = upd t_a_ (260 + p1).toNatClampNeg 3 := ⟨_, rfl⟩
        have hF := ltE et_a_88_9 hF
        refine my_iast (g := t_a_88_9) (wn := [(a_t, .inr (8, [.ref a_t_a, v_t_fresh, v_t_aside, .ref a_t_kept, .int t_keptMany_39_5, .int s0_26_3, v_t_buffer, .int t_buffered, .int t_size, .int t_at, .int t_behind, .int t_kind, .int t_number, .int t_wrong, .int t_wrongAt, .int t_errorAt, v_t_moved, .int t_unused, v_t_written, .int t_writtenMany])), (a_t_a, .inl (t 0, 876, .inl t_a_88_9)), (a_t_kept, .inl (t 0, 7008, .inl t_kept_39_6))]) hx hb hK hP hD hS 1 0 rfl rfl g51_7 et_a_88_9 rfl dX8_delete_88 (fun H locs hP hD hS => ?_)
        refine lv_iconst (v := 0) hx hb dX8_delete_89 (by decide) ?_
        refine lv_istore_n (lv' := [(2, .int 0), (0, .ref a_t), (1, .int p1)]) hx hb dX8_delete_90 rfl hl (by decide) rfl (fun ls hl => ?_)
        obtain ⟨k111_11, ek111_11, hF⟩ := jnE hF
        have hk111_11 : ∀ (x2_111_10 : Int32) (H : Heap) (locs : List Loc) (ls : Array Slot), va_P D vwCl [(a_t, .inr (8, [.ref a_t_a, v_t_fresh, v_t_aside, .ref a_t_kept, .int t_keptMany_39_5, .int s0_26_3, v_t_buffer, .int t_buffered, .int t_size, .int t_at, .int t_behind, .int t_kind, .int t_number, .int t_wrong, .int t_wrongAt, .int t_errorAt, v_t_moved, .int t_unused, v_t_written, .int t_writtenMany])), (a_t_a, .inl (t 0, 876, .inl t_a_88_9)), (a_t_kept, .inl (t 0, 7008, .inl t_kept_39_6))] H → va_D A [(a_t, .inr (8, [.ref a_t_a, v_t_fresh, v_t_aside, .ref a_t_kept, .int t_keptMany_39_5, .int s0_26_3, v_t_buffer, .int t_buffered, .int t_size, .int t_at, .int t_behind, .int t_kind, .int t_number, .int t_wrong, .int t_wrongAt, .int t_errorAt, v_t_moved, .int t_unused, v_t_written, .int t_writtenMany])), (a_t_a, .inl (t 0, 876, .inl t_a_88_9)), (a_t_kept, .inl (t 0, 7008, .inl t_kept_39_6))] → va_S A s.heap H locs → lv_has ls 3 [(0, .ref a_t), (2, .int x2_111_10)] → k111_11 x2_111_10 = some T9 → W p l e rm_X8_delete s m args below meth c H locs 0 0 Q (F0 m 111 ls []) := by
          subst ek111_11
          intro x2_111_10 H locs ls hP hD hS hl hF
          refine lv_aload_n hx hb dX8_delete_111 rfl (lv_at hl 0 rfl) ?_
          refine lv_iload_n hx hb dX8_delete_112 rfl (lv_at hl 1 rfl) ?_
          obtain ⟨t_a_113_12, h113_12, hF⟩ := bndE hF
          refine wrVM (As := [.int x2_111_10]) (rest := []) (C := RX8) (wn := [(a_t, .inr (8, [.ref a_t_a, v_t_fresh, v_t_aside, .ref a_t_kept, .int t_keptMany_39_5, .int s0_26_3, v_t_buffer, .int t_buffered, .int t_size, .int t_at, .int t_behind, .int t_kind, .int t_number, .int t_wrong, .int t_wrongAt, .int t_errorAt, v_t_moved, .int t_unused, v_t_written, .int t_writtenMany])), (a_t_a, .inl (t 0, 876, .inl t_a_113_12)), (a_t_kept, .inl (t 0, 7008, .inl t_kept_39_6))]) ⟨hx, hb, hml, hown, hts⟩ (c_X8_unwaits l D t z x N a_t a_t_a v_t_fresh v_t_aside (.ref a_t_kept) v_t_buffer v_t_moved v_t_written t_keptMany_39_5 s0_26_3 t_buffered t_size t_at t_behind t_kind t_number t_wrong t_wrongAt t_errorAt t_unused t_writtenMany t_a_88_9 x2_111_10 H.size t_a_113_12 h113_12) (cwV 1 hts gX8_delete_X8_unwaits rfl rfl rfl hd_X8_unwaits ⟨Nat.le_of_ble_eq_true rfl, Nat.le_of_ble_eq_true rfl⟩) (hC.at hz hS) hP hD hS hA hz [true, true, false] rfl rfl rfl rfl 0 rfl (show vwCl[8]? = some (RX8, TX8, 20) from rfl) rfl rfl hl.1 rfl (Nat.le_of_ble_eq_true rfl) dX8_delete_113 ⟨Nat.zero_le _, Nat.zero_le _⟩ rfl (fun H locs hP hD hS => ?_)
          refine lv_aload_n hx hb dX8_delete_116 rfl (lv_at hl 0 rfl) ?_
          refine va_get (D := D) (ci := 8) (v := .ref a_t_a) (C := RX8) (T := TX8) (N := 20) hx hb hts iw8 hown hK hP 0 rfl rfl 0 (by decide) hf7 (fun _ h9 => h9) rfl dX8_delete_117 ?_
          refine lv_iconst (v := 2) hx hb dX8_delete_120 (by decide) ?_
          refine my_iald (v := t_a_113_12 2) hx hb hK hP 1 0 rfl rfl (vp_lit (by decide +kernel)) rfl dX8_delete_121 ?_
          cases hF
          exact we_iret hx hb hr hlocks dX8_delete_122 rfl hQ hP hD hS
        have hlp91 : ∀ n91 : Nat, ∀ (x2_91_14 : Int32) (H : Heap) (locs : List Loc) (ls : Array Slot), va_P D vwCl [(a_t, .inr (8, [.ref a_t_a, v_t_fresh, v_t_aside, .ref a_t_kept, .int t_keptMany_39_5, .int s0_26_3, v_t_buffer, .int t_buffered, .int t_size, .int t_at, .int t_behind, .int t_kind, .int t_number, .int t_wrong, .int t_wrongAt, .int t_errorAt, v_t_moved, .int t_unused, v_t_written, .int t_writtenMany])), (a_t_a, .inl (t 0, 876, .inl t_a_88_9)), (a_t_kept, .inl (t 0, 7008, .inl t_kept_39_6))] H → va_D A [(a_t, .inr (8, [.ref a_t_a, v_t_fresh, v_t_aside, .ref a_t_kept, .int t_keptMany_39_5, .int s0_26_3, v_t_buffer, .int t_buffered, .int t_size, .int t_at, .int t_behind, .int t_kind, .int t_number, .int t_wrong, .int t_wrongAt, .int t_errorAt, v_t_moved, .int t_unused, v_t_written, .int t_writtenMany])), (a_t_a, .inl (t 0, 876, .inl t_a_88_9)), (a_t_kept, .inl (t 0, 7008, .inl t_kept_39_6))] → va_S A s.heap H locs → lv_has ls 3 [(0, .ref a_t), (1, .int p1), (2, .int x2_91_14)] → f_X8_delete_91 p1 t_a_88_9 k111_11 n91 x2_91_14 = some T9 → W p l e rm_X8_delete s m args below meth c H locs 0 0 Q (F0 m 91 ls []) := by
          intro n91
          induction n91 with
          | zero =>
            intro x2_91_14 H locs ls hP hD hS hl hF
            cases (show none = some T9 from hF)
          | succ n91 ih91 =>
            intro x2_91_14 H locs ls hP hD hS hl hF
            rw [f_X8_delete_91] at hF
            refine lv_aload_n hx hb dX8_delete_91 rfl (lv_at hl 0 rfl) ?_
            refine va_get (D := D) (ci := 8) (v := .ref a_t_a) (C := RX8) (T := TX8) (N := 20) hx hb hts iw8 hown hK hP 0 rfl rfl 0 (by decide) hf7 (fun _ h9 => h9) rfl dX8_delete_92 ?_
            refine lv_sipush (v := 500) hx hb dX8_delete_95 (by decide) ?_
            refine lv_iload_n hx hb dX8_delete_98 rfl (lv_at hl 2 rfl) ?_
            refine lv_iadd hx hb dX8_delete_99 ?_
            obtain ⟨g100_14, hF⟩ := gd hF
            refine my_iald (v := t_a_88_9 (500 + x2_91_14).toNatClampNeg) hx hb hK hP 1 0 rfl rfl g100_14 rfl dX8_delete_100 ?_
            refine lv_iload_n hx hb dX8_delete_101 rfl (lv_at hl 1 rfl) ?_
            refine lv_icmp_eq (tgt := 111) hx hb dX8_delete_102 (by decide) (fun c102 => ?_) (fun c102 => ?_)
            · have hF := brT c102 hF
              exact hk111_11 x2_91_14 H locs ls hP hD hS (lv_sub hl [0, 2] rfl) hF
            · have hF := brF c102 hF
              obtain ⟨y105_16, ey105_16⟩ : ∃ y : Int32, y = x2_91_14 + 1 := ⟨_, rfl⟩
              have hF := ltE ey105_16 hF
              refine lv_iinc (v := y105_16) (lv' := [(2, .int y105_16), (0, .ref a_t), (1, .int p1)]) hx hb dX8_delete_105 hl (k := 2) rfl (by rw [ey105_16]; rfl) (by decide) rfl (fun ls hl => ?_)
              refine lv_goto (tgt := 91) hx hb dX8_delete_108 (by decide) ?_
              exact ih91 y105_16 H locs ls hP hD hS (lv_sub hl [1, 2, 0] rfl) hF
        exact hlp91 N 0 H locs ls hP hD hS (lv_sub hl [1, 2, 0] rfl) hF
      · have hF := brT c52 hF
        refine lv_aload_n hx hb dX8_delete_55 rfl (lv_at hl 0 rfl) ?_
        refine va_get (D := D) (ci := 8) (v := .ref a_t_a) (C := RX8) (T := TX8) (N := 20) hx hb hts iw8 hown hK hP 0 rfl rfl 0 (by decide) hf7 (fun _ h9 => h9) rfl dX8_delete_56 ?_
        refine lv_sipush (v := 260) hx hb dX8_delete_59 (by decide) ?_
        refine lv_iload_n hx hb dX8_delete_62 rfl (lv_at hl 1 rfl) ?_
        refine lv_iadd hx hb dX8_delete_63 ?_
        refine lv_iconst (v := 2) hx hb dX8_delete_64 (by decide) ?_
        obtain ⟨t_a_65_17, et_a_65_17⟩ : ∃ y : Nat → Int32, y = upd t_a_ (260 + p1).toNatClampNeg 2 := ⟨_, rfl⟩
        have hF := ltE et_a_65_17 hF
        refine my_iast (g := t_a_65_17) (wn := [(a_t, .inr (8, [.ref a_t_a, v_t_fresh, v_t_aside, .ref a_t_kept, .int t_keptMany_39_5, .int s0_26_3, v_t_buffer, .int t_buffered, .int t_size, .int t_at, .int t_behind, .int t_kind, .int t_number, .int t_wrong, .int t_wrongAt, .int t_errorAt, v_t_moved, .int t_unused, v_t_written, .int t_writtenMany])), (a_t_a, .inl (t 0, 876, .inl t_a_65_17)), (a_t_kept, .inl (t 0, 7008, .inl t_kept_39_6))]) hx hb hK hP hD hS 1 0 rfl rfl g51_7 et_a_65_17 rfl dX8_delete_65 (fun H locs hP hD hS => ?_)
        refine lv_aload_n hx hb dX8_delete_66 rfl (lv_at hl 0 rfl) ?_
        refine lv_iload_n hx hb dX8_delete_67 rfl (lv_at hl 1 rfl) ?_
        obtain ⟨t_a_68_18, h68_18, hF⟩ := bndE hF
        refine wrVM (As := [.int p1]) (rest := []) (C := RX8) (wn := [(a_t, .inr (8, [.ref a_t_a, v_t_fresh, v_t_aside, .ref a_t_kept, .int t_keptMany_39_5, .int s0_26_3, v_t_buffer, .int t_buffered, .int t_size, .int t_at, .int t_behind, .int t_kind, .int t_number, .int t_wrong, .int t_wrongAt, .int t_errorAt, v_t_moved, .int t_unused, v_t_written, .int t_writtenMany])), (a_t_a, .inl (t 0, 876, .inl t_a_68_18)), (a_t_kept, .inl (t 0, 7008, .inl t_kept_39_6))]) ⟨hx, hb, hml, hown, hts⟩ (c_X8_waits l D t z x a_t a_t_a v_t_fresh v_t_aside (.ref a_t_kept) v_t_buffer v_t_moved v_t_written t_keptMany_39_5 s0_26_3 t_buffered t_size t_at t_behind t_kind t_number t_wrong t_wrongAt t_errorAt t_unused t_writtenMany t_a_65_17 p1 H.size t_a_68_18 h68_18) (cwV 1 hts gX8_delete_X8_waits rfl rfl rfl hd_X8_waits ⟨Nat.le_of_ble_eq_true rfl, Nat.le_of_ble_eq_true rfl⟩) (hC.at hz hS) hP hD hS hA hz [true, true, false] rfl rfl rfl rfl 0 rfl (show vwCl[8]? = some (RX8, TX8, 20) from rfl) rfl rfl hl.1 rfl (Nat.le_of_ble_eq_true rfl) dX8_delete_68 ⟨Nat.zero_le _, Nat.zero_le _⟩ rfl (fun H locs hP hD hS => ?_)
        refine lv_aload_n hx hb dX8_delete_71 rfl (lv_at hl 0 rfl) ?_
        obtain ⟨t_a_72_20, h72_20, hF⟩ := bndE hF
        refine wrVM (As := []) (rest := []) (C := RX8) (wn := [(a_t, .inr (8, [.ref a_t_a, v_t_fresh, v_t_aside, .ref a_t_kept, .int t_keptMany_39_5, .int s0_26_3, v_t_buffer, .int t_buffered, .int t_size, .int t_at, .int t_behind, .int t_kind, .int t_number, .int t_wrong, .int t_wrongAt, .int t_errorAt, v_t_moved, .int t_unused, v_t_written, .int t_writtenMany])), (a_t_a, .inl (t 0, 876, .inl t_a_72_20)), (a_t_kept, .inl (t 0, 7008, .inl t_kept_39_6))]) ⟨hx, hb, hml, hown, hts⟩ (c_X8_forces l D t z x N a_t a_t_a v_t_fresh v_t_aside (.ref a_t_kept) v_t_buffer v_t_moved v_t_written t_keptMany_39_5 s0_26_3 t_buffered t_size t_at t_behind t_kind t_number t_wrong t_wrongAt t_errorAt t_unused t_writtenMany t_a_68_18 H.size t_a_72_20 h72_20) (cwV 0 hts gX8_delete_X8_forces rfl rfl rfl hd_X8_forces ⟨Nat.le_of_ble_eq_true rfl, Nat.le_of_ble_eq_true rfl⟩) (hC.at hz hS) hP hD hS hA hz [true, true, false] rfl rfl rfl rfl 0 rfl (show vwCl[8]? = some (RX8, TX8, 20) from rfl) rfl rfl hl.1 rfl (Nat.le_of_ble_eq_true rfl) dX8_delete_72 ⟨Nat.zero_le _, Nat.zero_le _⟩ rfl (fun H locs hP hD hS => ?_)
        refine lv_goto (tgt := 116) hx hb dX8_delete_75 (by decide) ?_
        refine lv_aload_n hx hb dX8_delete_116 rfl (lv_at hl 0 rfl) ?_
        refine va_get (D := D) (ci := 8) (v := .ref a_t_a) (C := RX8) (T := TX8) (N := 20) hx hb hts iw8 hown hK hP 0 rfl rfl 0 (by decide) hf7 (fun _ h9 => h9) rfl dX8_delete_117 ?_
        refine lv_iconst (v := 2) hx hb dX8_delete_120 (by decide) ?_
        refine my_iald (v := t_a_72_20 2) hx hb hK hP 1 0 rfl rfl (vp_lit (by decide +kernel)) rfl dX8_delete_121 ?_
        cases hF
        exact we_iret hx hb hr hlocks dX8_delete_122 rfl hQ hP hD hS
    · have hF := brF c33 hF
      refine lv_iconst (v := 0) hx hb dX8_delete_36 (by decide) ?_
      cases hF
      exact we_iret hx hb hr hlocks dX8_delete_37 rfl hQ hP hD hS
  refine lv_if_ne (tgt := 13) hx hb dX8_delete_6 (by decide) (fun c6 => ?_) (fun c6 => ?_)
  · have hF := brF c6 hF
    refine lv_aload_n hx hb dX8_delete_13 rfl (lv_at hl 0 rfl) ?_
    refine lv_iload_n hx hb dX8_delete_14 rfl (lv_at hl 1 rfl) ?_
    obtain ⟨r15_22, h15_22, hF⟩ := bndE hF
    refine rdV (As := [.int p1]) (rest := [.ref a_t]) (C := RX8) ⟨hx, hb, hml, hown, hts⟩ (c_X8_lives l D t z x a_t a_t_a v_t_fresh v_t_aside (.ref a_t_kept) v_t_buffer v_t_moved v_t_written t_keptMany t_thrown t_buffered t_size t_at t_behind t_kind t_number t_wrong t_wrongAt t_errorAt t_unused t_writtenMany t_a_ p1 H r15_22 h15_22) (cwV 1 hts gX8_delete_X8_lives rfl rfl rfl hd_X8_lives ⟨Nat.le_of_ble_eq_true rfl, Nat.le_of_ble_eq_true rfl⟩) (hC.at hz hS) (selP (m9 := [true, true, false]) rfl rfl hP) 0 rfl (show vwCl[8]? = some (RX8, TX8, 20) from rfl) rfl rfl hl.1 rfl (Nat.le_of_ble_eq_true rfl) dX8_delete_15 ⟨Nat.zero_le _, Nat.zero_le _⟩ rfl ?_
    refine lv_if_eq (tgt := 25) hx hb dX8_delete_18 (by decide) (fun c18 => ?_) (fun c18 => ?_)
    · have hF := brT c18 hF
      refine lv_iconst (v := 2) hx hb dX8_delete_25 (by decide) ?_
      exact hk26_4 2 H locs ls hP hD hS hl hF
    · have hF := brF c18 hF
      refine lv_iconst (v := 0) hx hb dX8_delete_21 (by decide) ?_
      refine lv_goto (tgt := 26) hx hb dX8_delete_22 (by decide) ?_
      exact hk26_4 0 H locs ls hP hD hS hl hF
  · have hF := brT c6 hF
    refine lv_iconst (v := 1) hx hb dX8_delete_9 (by decide) ?_
    refine lv_goto (tgt := 26) hx hb dX8_delete_10 (by decide) ?_
    exact hk26_4 1 H locs ls hP hD hS hl hF
abbrev rm_X8_isSpan : Room := { frames := 1, cells := 0, slots := 0, locals := 22 }
theorem hd_X8_isSpan : yX8_isSpan.cls = RX8 ∧ yX8_isSpan.cls ≠ "java/lang/invoke/MethodHandle" ∧ yX8_isSpan.cls ≠ "java/lang/invoke/VarHandle" ∧ (parseMethodDescriptor yX8_isSpan.desc).map (fun d => d.parameters.length) = some 2 := by decide +kernel
set_option maxRecDepth 100000 in
set_option maxHeartbeats 4000000 in
theorem c_X8_isSpan (l : Launch) (D : va_G) (t : Nat → ClassId) (z : Nat) (x : Nat → Nat) (p0 : Int32) (p1 : Int32) (H : Heap) (r : Int32) (hF : f_X8_isSpan p0 p1 = some (r)) : RdM l D (TY t) z x yX8_isSpan wsX8_isSpan rm_X8_isSpan [.int p0, .int p1] [] H (some (.int r)) := by
  refine rd_of (cc := cX8_isSpan) (maxL := 2) (ret := (some .boolean)) (by decide) rfl (Nat.le_of_ble_eq_true rfl) ?_
  intro p e s m args below meth c Q hQ hx hb hr hml hts hown hlocks hH hP hC ls hl
  have hown : s.vm.findClass RX8 = some m.cls := hown
  have hl : lv_has ls 2 [(0, .int p0), (1, .int p1)] := hl
  have hK := hC.1
  unfold f_X8_isSpan at hF
  refine lv_iload_n hx hb dX8_isSpan_0 rfl (lv_at hl 0 rfl) ?_
  refine lv_iconst (v := 0) hx hb dX8_isSpan_1 (by decide) ?_
  refine lv_sipush (v := 9999) hx hb dX8_isSpan_2 (by decide) ?_
  obtain ⟨r5_1, h5_1, hF⟩ := bndE hF
  refine rdS (As := [.int p0, .int 0, .int 9999]) (rest := []) ⟨hx, hb, hml, hown, hts⟩ (c_X8_isIn l D t z x p0 0 9999 H r5_1 h5_1) (va_cwS 3 hts gX8_isSpan_X8_isIn rfl rfl rfl hd_X8_isIn.2 ⟨Nat.le_of_ble_eq_true rfl, Nat.le_of_ble_eq_true rfl⟩) hC (selP (m9 := []) rfl rfl hP) rfl hl.1 rfl (Nat.le_of_ble_eq_true rfl) dX8_isSpan_5 ⟨Nat.zero_le _, Nat.zero_le _⟩ rfl ?_
  refine lv_if_eq (tgt := 27) hx hb dX8_isSpan_8 (by decide) (fun c8 => ?_) (fun c8 => ?_)
  · have hF := brT c8 hF
    refine lv_iconst (v := 0) hx hb dX8_isSpan_27 (by decide) ?_
    cases hF
    exact rd_zret hx hb hr hlocks dX8_isSpan_28 rfl rfl hQ
  · have hF := brF c8 hF
    refine lv_iload_n hx hb dX8_isSpan_11 rfl (lv_at hl 1 rfl) ?_
    refine lv_iload_n hx hb dX8_isSpan_12 rfl (lv_at hl 0 rfl) ?_
    refine lv_icmp_le (tgt := 27) hx hb dX8_isSpan_13 (by decide) (fun c13 => ?_) (fun c13 => ?_)
    · have hF := brT c13 hF
      refine lv_iconst (v := 0) hx hb dX8_isSpan_27 (by decide) ?_
      cases hF
      exact rd_zret hx hb hr hlocks dX8_isSpan_28 rfl rfl hQ
    · have hF := brF c13 hF
      refine lv_iload_n hx hb dX8_isSpan_16 rfl (lv_at hl 1 rfl) ?_
      refine lv_sipush (v := 10000) hx hb dX8_isSpan_17 (by decide) ?_
      refine lv_icmp_gt (tgt := 27) hx hb dX8_isSpan_20 (by decide) (fun c20 => ?_) (fun c20 => ?_)
      · have hF := brT c20 hF
        refine lv_iconst (v := 0) hx hb dX8_isSpan_27 (by decide) ?_
        cases hF
        exact rd_zret hx hb hr hlocks dX8_isSpan_28 rfl rfl hQ
      · have hF := brF c20 hF
        refine lv_iconst (v := 1) hx hb dX8_isSpan_23 (by decide) ?_
        refine lv_goto (tgt := 28) hx hb dX8_isSpan_24 (by decide) ?_
        cases hF
        exact rd_zret hx hb hr hlocks dX8_isSpan_28 rfl rfl hQ
abbrev rm_X8_mergesIn : Room := { frames := 4, cells := 0, slots := 0, locals := 92 }
theorem hd_X8_mergesIn : yX8_mergesIn.cls = RX8 ∧ yX8_mergesIn.cls ≠ "java/lang/invoke/MethodHandle" ∧ yX8_mergesIn.cls ≠ "java/lang/invoke/VarHandle" ∧ (parseMethodDescriptor yX8_mergesIn.desc).map (fun d => d.parameters.length) = some 2 := by decide +kernel
set_option maxRecDepth 100000 in
set_option maxHeartbeats 4000000 in
theorem c_X8_mergesIn (l : Launch) (D : va_G) (t : Nat → ClassId) (z : Nat) (x : Nat → Nat) (N : Nat) (a_t : Nat) (a_t_a : Nat) (v_t_fresh : Value) (v_t_aside : Value) (v_t_kept : Value) (v_t_buffer : Value) (v_t_moved : Value) (v_t_written : Value) (t_keptMany : Int32) (t_thrown : Int32) (t_buffered : Int32) (t_size : Int32) (t_at : Int32) (t_behind : Int32) (t_kind : Int32) (t_number : Int32) (t_wrong : Int32) (t_wrongAt : Int32) (t_errorAt : Int32) (t_unused : Int32) (t_writtenMany : Int32) (t_a_ : (Nat → Int32)) (p1 : Int32) (p2 : Int32) (sz : Nat) (r : Int32) (t_a_' : (Nat → Int32)) (hF : f_X8_mergesIn N t_a_ p1 p2 = some (r, t_a_')) : WrM l D (TY t) z x yX8_mergesIn wsX8_mergesIn rm_X8_mergesIn [.ref a_t, .int p1, .int p2] [(a_t, .inr (8, [.ref a_t_a, v_t_fresh, v_t_aside, v_t_kept, .int t_keptMany, .int t_thrown, v_t_buffer, .int t_buffered, .int t_size, .int t_at, .int t_behind, .int t_kind, .int t_number, .int t_wrong, .int t_wrongAt, .int t_errorAt, v_t_moved, .int t_unused, v_t_written, .int t_writtenMany])), (a_t_a, .inl (t 0, 876, .inl t_a_))] [(a_t, .inr (8, [.ref a_t_a, v_t_fresh, v_t_aside, v_t_kept, .int t_keptMany, .int t_thrown, v_t_buffer, .int t_buffered, .int t_size, .int t_at, .int t_behind, .int t_kind, .int t_number, .int t_wrong, .int t_wrongAt, .int t_errorAt, v_t_moved, .int t_unused, v_t_written, .int t_writtenMany])), (a_t_a, .inl (t 0, 876, .inl t_a_'))] sz (some (.int r)) 0 0 := by
  refine wr_of (cc := cX8_mergesIn) (maxL := 6) (ret := (some .int)) (by decide) rfl (Nat.le_of_ble_eq_true rfl) ?_
  intro p e s m args below meth c A Q hQ hx hb hr hml hts hown hlocks hin H locs hP hD hS hA hz hC ls hl
  have hown : s.vm.findClass RX8 = some m.cls := hown
  have hl : lv_has ls 6 [(0, .ref a_t), (1, .int p1), (2, .int p2)] := hl
  have hK := hC.1
  have iw8 : ∀ w ∈ wsX80, w ∈ wsX8_mergesIn := fun _ h => List.mem_cons_of_mem _ (List.mem_append_right _ h)
  have hf7 := hts (.fieldLink RX8 7 "CrackedColumnModel" "a" "[I") (by decide +kernel)
  unfold f_X8_mergesIn at hF
  refine lv_iconst (v := 0) hx hb dX8_mergesIn_0 (by decide) ?_
  refine lv_istore_n (lv' := [(3, .int 0), (0, .ref a_t), (1, .int p1), (2, .int p2)]) hx hb dX8_mergesIn_1 rfl hl (by decide) rfl (fun ls hl => ?_)
  refine lv_iconst (v := 0) hx hb dX8_mergesIn_2 (by decide) ?_
  refine lv_istore (lv' := [(4, .int 0), (3, .int 0), (0, .ref a_t), (1, .int p1), (2, .int p2)]) hx hb dX8_mergesIn_3 hl (by decide) rfl (fun ls hl => ?_)
  obtain ⟨k78_3, ek78_3, hF⟩ := jnE hF
  have hk78_3 : ∀ (x3_78_1 : Int32) (t_a_78_2 : (Nat → Int32)) (H : Heap) (locs : List Loc) (ls : Array Slot), va_P D vwCl [(a_t, .inr (8, [.ref a_t_a, v_t_fresh, v_t_aside, v_t_kept, .int t_keptMany, .int t_thrown, v_t_buffer, .int t_buffered, .int t_size, .int t_at, .int t_behind, .int t_kind, .int t_number, .int t_wrong, .int t_wrongAt, .int t_errorAt, v_t_moved, .int t_unused, v_t_written, .int t_writtenMany])), (a_t_a, .inl (t 0, 876, .inl t_a_78_2))] H → va_D A [(a_t, .inr (8, [.ref a_t_a, v_t_fresh, v_t_aside, v_t_kept, .int t_keptMany, .int t_thrown, v_t_buffer, .int t_buffered, .int t_size, .int t_at, .int t_behind, .int t_kind, .int t_number, .int t_wrong, .int t_wrongAt, .int t_errorAt, v_t_moved, .int t_unused, v_t_written, .int t_writtenMany])), (a_t_a, .inl (t 0, 876, .inl t_a_78_2))] → va_S A s.heap H locs → lv_has ls 6 [(3, .int x3_78_1)] → k78_3 x3_78_1 t_a_78_2 = some (r, t_a_') → W p l e rm_X8_mergesIn s m args below meth c H locs 0 0 Q (F0 m 78 ls []) := by
    subst ek78_3
    intro x3_78_1 t_a_78_2 H locs ls hP hD hS hl hF
    refine lv_iload_n hx hb dX8_mergesIn_78 rfl (lv_at hl 0 rfl) ?_
    cases hF
    exact we_iret hx hb hr hlocks dX8_mergesIn_79 rfl hQ hP hD hS
  have hlp5 : ∀ n5 : Nat, ∀ (x3_5_4 : Int32) (x4_5_5 : Int32) (t_a_5_6 : (Nat → Int32)) (H : Heap) (locs : List Loc) (ls : Array Slot), va_P D vwCl [(a_t, .inr (8, [.ref a_t_a, v_t_fresh, v_t_aside, v_t_kept, .int t_keptMany, .int t_thrown, v_t_buffer, .int t_buffered, .int t_size, .int t_at, .int t_behind, .int t_kind, .int t_number, .int t_wrong, .int t_wrongAt, .int t_errorAt, v_t_moved, .int t_unused, v_t_written, .int t_writtenMany])), (a_t_a, .inl (t 0, 876, .inl t_a_5_6))] H → va_D A [(a_t, .inr (8, [.ref a_t_a, v_t_fresh, v_t_aside, v_t_kept, .int t_keptMany, .int t_thrown, v_t_buffer, .int t_buffered, .int t_size, .int t_at, .int t_behind, .int t_kind, .int t_number, .int t_wrong, .int t_wrongAt, .int t_errorAt, v_t_moved, .int t_unused, v_t_written, .int t_writtenMany])), (a_t_a, .inl (t 0, 876, .inl t_a_5_6))] → va_S A s.heap H locs → lv_has ls 6 [(0, .ref a_t), (1, .int p1), (2, .int p2), (3, .int x3_5_4), (4, .int x4_5_5)] → f_X8_mergesIn_5 N p1 p2 k78_3 n5 x3_5_4 x4_5_5 t_a_5_6 = some (r, t_a_') → W p l e rm_X8_mergesIn s m args below meth c H locs 0 0 Q (F0 m 5 ls []) := by
    intro n5
    induction n5 with
    | zero =>
      intro x3_5_4 x4_5_5 t_a_5_6 H locs ls hP hD hS hl hF
      cases (show none = some (r, t_a_') from hF)
    | succ n5 ih5 =>
      intro x3_5_4 x4_5_5 t_a_5_6 H locs ls hP hD hS hl hF
      rw [f_X8_mergesIn_5] at hF
      refine lv_iload hx hb dX8_mergesIn_5 (lv_at hl 4 rfl) ?_
      refine lv_aload_n hx hb dX8_mergesIn_7 rfl (lv_at hl 0 rfl) ?_
      refine va_get (D := D) (ci := 8) (v := .ref a_t_a) (C := RX8) (T := TX8) (N := 20) hx hb hts iw8 hown hK hP 0 rfl rfl 0 (by decide) hf7 (fun _ h9 => h9) rfl dX8_mergesIn_8 ?_
      refine lv_iconst (v := 2) hx hb dX8_mergesIn_11 (by decide) ?_
      refine my_iald (v := t_a_5_6 2) hx hb hK hP 1 0 rfl rfl (vp_lit (by decide +kernel)) rfl dX8_mergesIn_12 ?_
      refine lv_icmp_ge (tgt := 78) hx hb dX8_mergesIn_13 (by decide) (fun c13 => ?_) (fun c13 => ?_)
      · have hF := brT c13 hF
        exact hk78_3 x3_5_4 t_a_5_6 H locs ls hP hD hS (lv_sub hl [3] rfl) hF
      · have hF := brF c13 hF
        refine lv_aload_n hx hb dX8_mergesIn_16 rfl (lv_at hl 0 rfl) ?_
        refine va_get (D := D) (ci := 8) (v := .ref a_t_a) (C := RX8) (T := TX8) (N := 20) hx hb hts iw8 hown hK hP 0 rfl rfl 0 (by decide) hf7 (fun _ h9 => h9) rfl dX8_mergesIn_17 ?_
        refine lv_bipush (v := 20) hx hb dX8_mergesIn_20 (by decide) ?_
        refine lv_aload_n hx hb dX8_mergesIn_22 rfl (lv_at hl 0 rfl) ?_
        refine va_get (D := D) (ci := 8) (v := .ref a_t_a) (C := RX8) (T := TX8) (N := 20) hx hb hts iw8 hown hK hP 0 rfl rfl 0 (by decide) hf7 (fun _ h9 => h9) rfl dX8_mergesIn_23 ?_
        refine lv_sipush (v := 500) hx hb dX8_mergesIn_26 (by decide) ?_
        refine lv_iload hx hb dX8_mergesIn_29 (lv_at hl 4 rfl) ?_
        refine lv_iadd hx hb dX8_mergesIn_31 ?_
        obtain ⟨g32_6, hF⟩ := gd hF
        refine my_iald (v := t_a_5_6 (500 + x4_5_5).toNatClampNeg) hx hb hK hP 1 0 rfl rfl g32_6 rfl dX8_mergesIn_32 ?_
        refine lv_iadd hx hb dX8_mergesIn_33 ?_
        obtain ⟨g34_8, hF⟩ := gd hF
        refine my_iald (v := t_a_5_6 (20 + (t_a_5_6 (500 + x4_5_5).toNatClampNeg)).toNatClampNeg) hx hb hK hP 1 0 rfl rfl g34_8 rfl dX8_mergesIn_34 ?_
        refine lv_iload_n hx hb dX8_mergesIn_35 rfl (lv_at hl 1 rfl) ?_
        refine lv_iload_n hx hb dX8_mergesIn_36 rfl (lv_at hl 2 rfl) ?_
        refine lv_iconst (v := 1) hx hb dX8_mergesIn_37 (by decide) ?_
        refine lv_isub hx hb dX8_mergesIn_38 ?_
        obtain ⟨r39_9, h39_9, hF⟩ := bndE hF
        refine rdS (As := [.int (t_a_5_6 (20 + (t_a_5_6 (500 + x4_5_5).toNatClampNeg)).toNatClampNeg), .int p1, .int (p2 - 1)]) (rest := []) ⟨hx, hb, hml, hown, hts⟩ (c_X8_isIn l D t z x (t_a_5_6 (20 + (t_a_5_6 (500 + x4_5_5).toNatClampNeg)).toNatClampNeg) p1 (p2 - 1) H r39_9 h39_9) (va_cwS 3 hts gX8_mergesIn_X8_isIn rfl rfl rfl hd_X8_isIn.2 ⟨Nat.le_of_ble_eq_true rfl, Nat.le_of_ble_eq_true rfl⟩) (hC.at hz hS) (selP (m9 := [false, false]) rfl rfl hP) rfl hl.1 rfl (Nat.le_of_ble_eq_true rfl) dX8_mergesIn_39 ⟨Nat.zero_le _, Nat.zero_le _⟩ rfl ?_
        refine lv_istore (lv' := [(5, .int r39_9), (0, .ref a_t), (1, .int p1), (2, .int p2), (3, .int x3_5_4), (4, .int x4_5_5)]) hx hb dX8_mergesIn_42 hl (by decide) rfl (fun ls hl => ?_)
        refine lv_iload hx hb dX8_mergesIn_44 (lv_at hl 0 rfl) ?_
        refine lv_if_eq (tgt := 72) hx hb dX8_mergesIn_46 (by decide) (fun c46 => ?_) (fun c46 => ?_)
        · have hF := brT c46 hF
          obtain ⟨y72_11, ey72_11⟩ : ∃ y : Int32, y = x4_5_5 + 1 := ⟨_, rfl⟩
          have hF := ltE ey72_11 hF
          refine lv_iinc (v := y72_11) (lv' := [(4, .int y72_11), (5, .int r39_9), (0, .ref a_t), (1, .int p1), (2, .int p2), (3, .int x3_5_4)]) hx hb dX8_mergesIn_72 hl (k := 5) rfl (by rw [ey72_11]; rfl) (by decide) rfl (fun ls hl => ?_)
          refine lv_goto (tgt := 5) hx hb dX8_mergesIn_75 (by decide) ?_
          exact ih5 x3_5_4 y72_11 t_a_5_6 H locs ls hP hD hS (lv_sub hl [2, 3, 4, 5, 0] rfl) hF
        · have hF := brF c46 hF
          refine lv_iload_n hx hb dX8_mergesIn_49 rfl (lv_at hl 4 rfl) ?_
          refine lv_aload_n hx hb dX8_mergesIn_50 rfl (lv_at hl 1 rfl) ?_
          refine lv_iload hx hb dX8_mergesIn_51 (lv_at hl 5 rfl) ?_
          obtain ⟨r53_12, t_a_53_13, h53_13, hF⟩ := bnd2E hF
          refine wrVM (As := [.int x4_5_5]) (rest := [.int x3_5_4]) (C := RX8) (wn := [(a_t, .inr (8, [.ref a_t_a, v_t_fresh, v_t_aside, v_t_kept, .int t_keptMany, .int t_thrown, v_t_buffer, .int t_buffered, .int t_size, .int t_at, .int t_behind, .int t_kind, .int t_number, .int t_wrong, .int t_wrongAt, .int t_errorAt, v_t_moved, .int t_unused, v_t_written, .int t_writtenMany])), (a_t_a, .inl (t 0, 876, .inl t_a_53_13))]) ⟨hx, hb, hml, hown, hts⟩ (c_X8_merges l D t z x N a_t a_t_a v_t_fresh v_t_aside v_t_kept v_t_buffer v_t_moved v_t_written t_keptMany t_thrown t_buffered t_size t_at t_behind t_kind t_number t_wrong t_wrongAt t_errorAt t_unused t_writtenMany t_a_5_6 x4_5_5 H.size r53_12 t_a_53_13 h53_13) (cwV 1 hts gX8_mergesIn_X8_merges rfl rfl rfl hd_X8_merges ⟨Nat.le_of_ble_eq_true rfl, Nat.le_of_ble_eq_true rfl⟩) (hC.at hz hS) hP hD hS hA hz [true, true] rfl rfl rfl rfl 0 rfl (show vwCl[8]? = some (RX8, TX8, 20) from rfl) rfl rfl hl.1 rfl (Nat.le_of_ble_eq_true rfl) dX8_mergesIn_53 ⟨Nat.zero_le _, Nat.zero_le _⟩ rfl (fun H locs hP hD hS => ?_)
          refine lv_iadd hx hb dX8_mergesIn_56 ?_
          refine lv_topi (fun y57_15 ey57_15 => ?_)
          have hF := ltE ey57_15 hF
          refine lv_istore_n (lv' := [(3, .int y57_15), (5, .int r39_9), (0, .ref a_t), (1, .int p1), (2, .int p2), (4, .int x4_5_5)]) hx hb dX8_mergesIn_57 rfl hl (by decide) rfl (fun ls hl => ?_)
          refine lv_aload_n hx hb dX8_mergesIn_58 rfl (lv_at hl 2 rfl) ?_
          refine va_get (D := D) (ci := 8) (v := .ref a_t_a) (C := RX8) (T := TX8) (N := 20) hx hb hts iw8 hown hK hP 0 rfl rfl 0 (by decide) hf7 (fun _ h9 => h9) rfl dX8_mergesIn_59 ?_
          refine lv_bipush (v := 15) hx hb dX8_mergesIn_62 (by decide) ?_
          refine lv_dup2_11 hx hb dX8_mergesIn_64 rfl rfl ?_
          refine my_iald (v := t_a_53_13 15) hx hb hK hP 1 0 rfl rfl (vp_lit (by decide +kernel)) rfl dX8_mergesIn_65 ?_
          refine lv_iconst (v := 1) hx hb dX8_mergesIn_66 (by decide) ?_
          refine lv_iadd hx hb dX8_mergesIn_67 ?_
          obtain ⟨t_a_68_16, et_a_68_16⟩ : ∃ y : Nat → Int32, y = upd t_a_53_13 15 ((t_a_53_13 15) + 1) := ⟨_, rfl⟩
          have hF := ltE et_a_68_16 hF
          refine my_iast (g := t_a_68_16) (wn := [(a_t, .inr (8, [.ref a_t_a, v_t_fresh, v_t_aside, v_t_kept, .int t_keptMany, .int t_thrown, v_t_buffer, .int t_buffered, .int t_size, .int t_at, .int t_behind, .int t_kind, .int t_number, .int t_wrong, .int t_wrongAt, .int t_errorAt, v_t_moved, .int t_unused, v_t_written, .int t_writtenMany])), (a_t_a, .inl (t 0, 876, .inl t_a_68_16))]) hx hb hK hP hD hS 1 0 rfl rfl (vp_lit (by decide +kernel)) et_a_68_16 rfl dX8_mergesIn_68 (fun H locs hP hD hS => ?_)
          refine lv_goto (tgt := 75) hx hb dX8_mergesIn_69 (by decide) ?_
          refine lv_goto (tgt := 5) hx hb dX8_mergesIn_75 (by decide) ?_
          exact ih5 y57_15 x4_5_5 t_a_68_16 H locs ls hP hD hS (lv_sub hl [2, 3, 4, 0, 5] rfl) hF
  exact hlp5 N 0 0 t_a_ H locs ls hP hD hS (lv_sub hl [2, 3, 4, 1, 0] rfl) hF
abbrev rm_X8_looksAt : Room := { frames := 1, cells := 0, slots := 0, locals := 21 }
theorem hd_X8_looksAt : yX8_looksAt.cls = RX8 ∧ yX8_looksAt.cls ≠ "java/lang/invoke/MethodHandle" ∧ yX8_looksAt.cls ≠ "java/lang/invoke/VarHandle" ∧ (parseMethodDescriptor yX8_looksAt.desc).map (fun d => d.parameters.length) = some 1 := by decide +kernel
set_option maxRecDepth 100000 in
set_option maxHeartbeats 4000000 in
theorem c_X8_looksAt (l : Launch) (D : va_G) (t : Nat → ClassId) (z : Nat) (x : Nat → Nat) (a_t : Nat) (a_t_a : Nat) (v_t_fresh : Value) (v_t_aside : Value) (v_t_kept : Value) (v_t_buffer : Value) (v_t_moved : Value) (v_t_written : Value) (t_keptMany : Int32) (t_thrown : Int32) (t_buffered : Int32) (t_size : Int32) (t_at : Int32) (t_behind : Int32) (t_kind : Int32) (t_number : Int32) (t_wrong : Int32) (t_wrongAt : Int32) (t_errorAt : Int32) (t_unused : Int32) (t_writtenMany : Int32) (t_a_ : (Nat → Int32)) (p1 : Int32) (sz : Nat) (t_a_' : (Nat → Int32)) (hF : f_X8_looksAt t_a_ p1 = some (t_a_')) : WrM l D (TY t) z x yX8_looksAt wsX8_looksAt rm_X8_looksAt [.ref a_t, .int p1] [(a_t, .inr (8, [.ref a_t_a, v_t_fresh, v_t_aside, v_t_kept, .int t_keptMany, .int t_thrown, v_t_buffer, .int t_buffered, .int t_size, .int t_at, .int t_behind, .int t_kind, .int t_number, .int t_wrong, .int t_wrongAt, .int t_errorAt, v_t_moved, .int t_unused, v_t_written, .int t_writtenMany])), (a_t_a, .inl (t 0, 876, .inl t_a_))] [(a_t, .inr (8, [.ref a_t_a, v_t_fresh, v_t_aside, v_t_kept, .int t_keptMany, .int t_thrown, v_t_buffer, .int t_buffered, .int t_size, .int t_at, .int t_behind, .int t_kind, .int t_number, .int t_wrong, .int t_wrongAt, .int t_errorAt, v_t_moved, .int t_unused, v_t_written, .int t_writtenMany])), (a_t_a, .inl (t 0, 876, .inl t_a_'))] sz none 0 0 := by
  refine wr_of (cc := cX8_looksAt) (maxL := 3) (ret := none) (by decide) rfl (Nat.le_of_ble_eq_true rfl) ?_
  intro p e s m args below meth c A Q hQ hx hb hr hml hts hown hlocks hin H locs hP hD hS hA hz hC ls hl
  have hown : s.vm.findClass RX8 = some m.cls := hown
  have hl : lv_has ls 3 [(0, .ref a_t), (1, .int p1)] := hl
  have hK := hC.1
  have iw8 : ∀ w ∈ wsX80, w ∈ wsX8_looksAt := fun _ h => List.mem_cons_of_mem _ (List.mem_append_right _ h)
  have hf7 := hts (.fieldLink RX8 7 "CrackedColumnModel" "a" "[I") (by decide +kernel)
  unfold f_X8_looksAt at hF
  refine lv_aload_n hx hb dX8_looksAt_0 rfl (lv_at hl 0 rfl) ?_
  refine lv_iload_n hx hb dX8_looksAt_1 rfl (lv_at hl 1 rfl) ?_
  obtain ⟨r2_1, h2_1, hF⟩ := bndE hF
  refine rdV (As := [.int p1]) (rest := []) (C := RX8) ⟨hx, hb, hml, hown, hts⟩ (c_X8_keyAt l D t z x a_t a_t_a v_t_fresh v_t_aside v_t_kept v_t_buffer v_t_moved v_t_written t_keptMany t_thrown t_buffered t_size t_at t_behind t_kind t_number t_wrong t_wrongAt t_errorAt t_unused t_writtenMany t_a_ p1 H r2_1 h2_1) (cwV 1 hts gX8_looksAt_X8_keyAt rfl rfl rfl hd_X8_keyAt ⟨Nat.le_of_ble_eq_true rfl, Nat.le_of_ble_eq_true rfl⟩) (hC.at hz hS) (selP (m9 := [true, true]) rfl rfl hP) 0 rfl (show vwCl[8]? = some (RX8, TX8, 20) from rfl) rfl rfl hl.1 rfl (Nat.le_of_ble_eq_true rfl) dX8_looksAt_2 ⟨Nat.zero_le _, Nat.zero_le _⟩ rfl ?_
  refine lv_istore_n (lv' := [(2, .int r2_1), (0, .ref a_t), (1, .int p1)]) hx hb dX8_looksAt_5 rfl hl (by decide) rfl (fun ls hl => ?_)
  refine lv_aload_n hx hb dX8_looksAt_6 rfl (lv_at hl 1 rfl) ?_
  refine va_get (D := D) (ci := 8) (v := .ref a_t_a) (C := RX8) (T := TX8) (N := 20) hx hb hts iw8 hown hK hP 0 rfl rfl 0 (by decide) hf7 (fun _ h9 => h9) rfl dX8_looksAt_7 ?_
  refine lv_bipush (v := 10) hx hb dX8_looksAt_10 (by decide) ?_
  refine lv_dup2_11 hx hb dX8_looksAt_12 rfl rfl ?_
  refine my_iald (v := t_a_ 10) hx hb hK hP 1 0 rfl rfl (vp_lit (by decide +kernel)) rfl dX8_looksAt_13 ?_
  refine lv_iconst (v := 1) hx hb dX8_looksAt_14 (by decide) ?_
  refine lv_iadd hx hb dX8_looksAt_15 ?_
  obtain ⟨t_a_16_3, et_a_16_3⟩ : ∃ y : Nat → Int32, y = upd t_a_ 10 ((t_a_ 10) + 1) := ⟨_, rfl⟩
  have hF := ltE et_a_16_3 hF
  refine my_iast (g := t_a_16_3) (wn := [(a_t, .inr (8, [.ref a_t_a, v_t_fresh, v_t_aside, v_t_kept, .int t_keptMany, .int t_thrown, v_t_buffer, .int t_buffered, .int t_size, .int t_at, .int t_behind, .int t_kind, .int t_number, .int t_wrong, .int t_wrongAt, .int t_errorAt, v_t_moved, .int t_unused, v_t_written, .int t_writtenMany])), (a_t_a, .inl (t 0, 876, .inl t_a_16_3))]) hx hb hK hP hD hS 1 0 rfl rfl (vp_lit (by decide +kernel)) et_a_16_3 rfl dX8_looksAt_16 (fun H locs hP hD hS => ?_)
  refine lv_aload_n hx hb dX8_looksAt_17 rfl (lv_at hl 1 rfl) ?_
  refine va_get (D := D) (ci := 8) (v := .ref a_t_a) (C := RX8) (T := TX8) (N := 20) hx hb hts iw8 hown hK hP 0 rfl rfl 0 (by decide) hf7 (fun _ h9 => h9) rfl dX8_looksAt_18 ?_
  refine lv_bipush (v := 11) hx hb dX8_looksAt_21 (by decide) ?_
  refine lv_dup2_11 hx hb dX8_looksAt_23 rfl rfl ?_
  refine my_iald (v := t_a_16_3 11) hx hb hK hP 1 0 rfl rfl (vp_lit (by decide +kernel)) rfl dX8_looksAt_24 ?_
  refine lv_aload_n hx hb dX8_looksAt_25 rfl (lv_at hl 1 rfl) ?_
  refine va_get (D := D) (ci := 8) (v := .ref a_t_a) (C := RX8) (T := TX8) (N := 20) hx hb hts iw8 hown hK hP 0 rfl rfl 0 (by decide) hf7 (fun _ h9 => h9) rfl dX8_looksAt_26 ?_
  refine lv_sipush (v := 140) hx hb dX8_looksAt_29 (by decide) ?_
  refine lv_aload_n hx hb dX8_looksAt_32 rfl (lv_at hl 1 rfl) ?_
  refine va_get (D := D) (ci := 8) (v := .ref a_t_a) (C := RX8) (T := TX8) (N := 20) hx hb hts iw8 hown hK hP 0 rfl rfl 0 (by decide) hf7 (fun _ h9 => h9) rfl dX8_looksAt_33 ?_
  refine lv_sipush (v := 380) hx hb dX8_looksAt_36 (by decide) ?_
  refine lv_iload_n hx hb dX8_looksAt_39 rfl (lv_at hl 2 rfl) ?_
  refine lv_iadd hx hb dX8_looksAt_40 ?_
  obtain ⟨g41_3, hF⟩ := gd hF
  refine my_iald (v := t_a_16_3 (380 + p1).toNatClampNeg) hx hb hK hP 1 0 rfl rfl g41_3 rfl dX8_looksAt_41 ?_
  refine lv_iadd hx hb dX8_looksAt_42 ?_
  obtain ⟨g43_5, hF⟩ := gd hF
  refine my_iald (v := t_a_16_3 (140 + (t_a_16_3 (380 + p1).toNatClampNeg)).toNatClampNeg) hx hb hK hP 1 0 rfl rfl g43_5 rfl dX8_looksAt_43 ?_
  refine lv_iadd hx hb dX8_looksAt_44 ?_
  obtain ⟨t_a_45_6, et_a_45_6⟩ : ∃ y : Nat → Int32, y = upd t_a_16_3 11 ((t_a_16_3 11) + (t_a_16_3 (140 + (t_a_16_3 (380 + p1).toNatClampNeg)).toNatClampNeg)) := ⟨_, rfl⟩
  have hF := ltE et_a_45_6 hF
  refine my_iast (g := t_a_45_6) (wn := [(a_t, .inr (8, [.ref a_t_a, v_t_fresh, v_t_aside, v_t_kept, .int t_keptMany, .int t_thrown, v_t_buffer, .int t_buffered, .int t_size, .int t_at, .int t_behind, .int t_kind, .int t_number, .int t_wrong, .int t_wrongAt, .int t_errorAt, v_t_moved, .int t_unused, v_t_written, .int t_writtenMany])), (a_t_a, .inl (t 0, 876, .inl t_a_45_6))]) hx hb hK hP hD hS 1 0 rfl rfl (vp_lit (by decide +kernel)) et_a_45_6 rfl dX8_looksAt_45 (fun H locs hP hD hS => ?_)
  refine lv_aload_n hx hb dX8_looksAt_46 rfl (lv_at hl 1 rfl) ?_
  refine va_get (D := D) (ci := 8) (v := .ref a_t_a) (C := RX8) (T := TX8) (N := 20) hx hb hts iw8 hown hK hP 0 rfl rfl 0 (by decide) hf7 (fun _ h9 => h9) rfl dX8_looksAt_47 ?_
  refine lv_bipush (v := 12) hx hb dX8_looksAt_50 (by decide) ?_
  refine lv_aload_n hx hb dX8_looksAt_52 rfl (lv_at hl 1 rfl) ?_
  refine va_get (D := D) (ci := 8) (v := .ref a_t_a) (C := RX8) (T := TX8) (N := 20) hx hb hts iw8 hown hK hP 0 rfl rfl 0 (by decide) hf7 (fun _ h9 => h9) rfl dX8_looksAt_53 ?_
  refine lv_bipush (v := 12) hx hb dX8_looksAt_56 (by decide) ?_
  refine my_iald (v := t_a_45_6 12) hx hb hK hP 1 0 rfl rfl (vp_lit (by decide +kernel)) rfl dX8_looksAt_58 ?_
  refine lv_iconst (v := (-1)) hx hb dX8_looksAt_59 (by decide) ?_
  obtain ⟨k85_8, ek85_8, hF⟩ := jnE hF
  have hk85_8 : ∀ (s0_85_7 : Int32) (H : Heap) (locs : List Loc) (ls : Array Slot), va_P D vwCl [(a_t, .inr (8, [.ref a_t_a, v_t_fresh, v_t_aside, v_t_kept, .int t_keptMany, .int t_thrown, v_t_buffer, .int t_buffered, .int t_size, .int t_at, .int t_behind, .int t_kind, .int t_number, .int t_wrong, .int t_wrongAt, .int t_errorAt, v_t_moved, .int t_unused, v_t_written, .int t_writtenMany])), (a_t_a, .inl (t 0, 876, .inl t_a_45_6))] H → va_D A [(a_t, .inr (8, [.ref a_t_a, v_t_fresh, v_t_aside, v_t_kept, .int t_keptMany, .int t_thrown, v_t_buffer, .int t_buffered, .int t_size, .int t_at, .int t_behind, .int t_kind, .int t_number, .int t_wrong, .int t_wrongAt, .int t_errorAt, v_t_moved, .int t_unused, v_t_written, .int t_writtenMany])), (a_t_a, .inl (t 0, 876, .inl t_a_45_6))] → va_S A s.heap H locs → lv_has ls 3 [(0, .ref a_t), (2, .int r2_1)] → k85_8 s0_85_7 = some (t_a_') → W p l e rm_X8_looksAt s m args below meth c H locs 0 0 Q (F0 m 85 ls [.int s0_85_7, .int 12, .ref a_t_a]) := by
    subst ek85_8
    intro s0_85_7 H locs ls hP hD hS hl hF
    obtain ⟨t_a_85_9, et_a_85_9⟩ : ∃ y : Nat → Int32, y = upd t_a_45_6 12 s0_85_7 := ⟨_, rfl⟩
    have hF := ltE et_a_85_9 hF
    refine my_iast (g := t_a_85_9) (wn := [(a_t, .inr (8, [.ref a_t_a, v_t_fresh, v_t_aside, v_t_kept, .int t_keptMany, .int t_thrown, v_t_buffer, .int t_buffered, .int t_size, .int t_at, .int t_behind, .int t_kind, .int t_number, .int t_wrong, .int t_wrongAt, .int t_errorAt, v_t_moved, .int t_unused, v_t_written, .int t_writtenMany])), (a_t_a, .inl (t 0, 876, .inl t_a_85_9))]) hx hb hK hP hD hS 1 0 rfl rfl (vp_lit (by decide +kernel)) et_a_85_9 rfl dX8_looksAt_85 (fun H locs hP hD hS => ?_)
    refine lv_aload_n hx hb dX8_looksAt_86 rfl (lv_at hl 0 rfl) ?_
    refine va_get (D := D) (ci := 8) (v := .ref a_t_a) (C := RX8) (T := TX8) (N := 20) hx hb hts iw8 hown hK hP 0 rfl rfl 0 (by decide) hf7 (fun _ h9 => h9) rfl dX8_looksAt_87 ?_
    refine lv_bipush (v := 13) hx hb dX8_looksAt_90 (by decide) ?_
    refine lv_iload_n hx hb dX8_looksAt_92 rfl (lv_at hl 1 rfl) ?_
    refine lv_aload_n hx hb dX8_looksAt_93 rfl (lv_at hl 0 rfl) ?_
    refine va_get (D := D) (ci := 8) (v := .ref a_t_a) (C := RX8) (T := TX8) (N := 20) hx hb hts iw8 hown hK hP 0 rfl rfl 0 (by decide) hf7 (fun _ h9 => h9) rfl dX8_looksAt_94 ?_
    refine lv_bipush (v := 13) hx hb dX8_looksAt_97 (by decide) ?_
    refine my_iald (v := t_a_85_9 13) hx hb hK hP 1 0 rfl rfl (vp_lit (by decide +kernel)) rfl dX8_looksAt_99 ?_
    refine lv_icmp_le (tgt := 107) hx hb dX8_looksAt_100 (by decide) (fun c100 => ?_) (fun c100 => ?_)
    · have hF := brT c100 hF
      refine lv_aload_n hx hb dX8_looksAt_107 rfl (lv_at hl 0 rfl) ?_
      refine va_get (D := D) (ci := 8) (v := .ref a_t_a) (C := RX8) (T := TX8) (N := 20) hx hb hts iw8 hown hK hP 0 rfl rfl 0 (by decide) hf7 (fun _ h9 => h9) rfl dX8_looksAt_108 ?_
      refine lv_bipush (v := 13) hx hb dX8_looksAt_111 (by decide) ?_
      refine my_iald (v := t_a_85_9 13) hx hb hK hP 1 0 rfl rfl (vp_lit (by decide +kernel)) rfl dX8_looksAt_113 ?_
      obtain ⟨t_a_114_10, et_a_114_10⟩ : ∃ y : Nat → Int32, y = upd t_a_85_9 13 (t_a_85_9 13) := ⟨_, rfl⟩
      have hF := ltE et_a_114_10 hF
      refine my_iast (g := t_a_114_10) (wn := [(a_t, .inr (8, [.ref a_t_a, v_t_fresh, v_t_aside, v_t_kept, .int t_keptMany, .int t_thrown, v_t_buffer, .int t_buffered, .int t_size, .int t_at, .int t_behind, .int t_kind, .int t_number, .int t_wrong, .int t_wrongAt, .int t_errorAt, v_t_moved, .int t_unused, v_t_written, .int t_writtenMany])), (a_t_a, .inl (t 0, 876, .inl t_a_114_10))]) hx hb hK hP hD hS 1 0 rfl rfl (vp_lit (by decide +kernel)) et_a_114_10 rfl dX8_looksAt_114 (fun H locs hP hD hS => ?_)
      cases hF
      exact we_vret hx hb hr hlocks dX8_looksAt_115 rfl hQ hP hD hS
    · have hF := brF c100 hF
      refine lv_iload_n hx hb dX8_looksAt_103 rfl (lv_at hl 1 rfl) ?_
      refine lv_goto (tgt := 114) hx hb dX8_looksAt_104 (by decide) ?_
      obtain ⟨t_a_114_11, et_a_114_11⟩ : ∃ y : Nat → Int32, y = upd t_a_85_9 13 r2_1 := ⟨_, rfl⟩
      have hF := ltE et_a_114_11 hF
      refine my_iast (g := t_a_114_11) (wn := [(a_t, .inr (8, [.ref a_t_a, v_t_fresh, v_t_aside, v_t_kept, .int t_keptMany, .int t_thrown, v_t_buffer, .int t_buffered, .int t_size, .int t_at, .int t_behind, .int t_kind, .int t_number, .int t_wrong, .int t_wrongAt, .int t_errorAt, v_t_moved, .int t_unused, v_t_written, .int t_writtenMany])), (a_t_a, .inl (t 0, 876, .inl t_a_114_11))]) hx hb hK hP hD hS 1 0 rfl rfl (vp_lit (by decide +kernel)) et_a_114_11 rfl dX8_looksAt_114 (fun H locs hP hD hS => ?_)
      cases hF
      exact we_vret hx hb hr hlocks dX8_looksAt_115 rfl hQ hP hD hS
  refine lv_icmp_eq (tgt := 74) hx hb dX8_looksAt_60 (by decide) (fun c60 => ?_) (fun c60 => ?_)
  · have hF := brT c60 hF
    refine lv_iload_n hx hb dX8_looksAt_74 rfl (lv_at hl 0 rfl) ?_
    refine lv_goto (tgt := 85) hx hb dX8_looksAt_75 (by decide) ?_
    exact hk85_8 r2_1 H locs ls hP hD hS (lv_sub hl [1, 0] rfl) hF
  · have hF := brF c60 hF
    refine lv_iload_n hx hb dX8_looksAt_63 rfl (lv_at hl 0 rfl) ?_
    refine lv_aload_n hx hb dX8_looksAt_64 rfl (lv_at hl 1 rfl) ?_
    refine va_get (D := D) (ci := 8) (v := .ref a_t_a) (C := RX8) (T := TX8) (N := 20) hx hb hts iw8 hown hK hP 0 rfl rfl 0 (by decide) hf7 (fun _ h9 => h9) rfl dX8_looksAt_65 ?_
    refine lv_bipush (v := 12) hx hb dX8_looksAt_68 (by decide) ?_
    refine my_iald (v := t_a_45_6 12) hx hb hK hP 1 0 rfl rfl (vp_lit (by decide +kernel)) rfl dX8_looksAt_70 ?_
    refine lv_icmp_ge (tgt := 78) hx hb dX8_looksAt_71 (by decide) (fun c71 => ?_) (fun c71 => ?_)
    · have hF := brT c71 hF
      refine lv_aload_n hx hb dX8_looksAt_78 rfl (lv_at hl 1 rfl) ?_
      refine va_get (D := D) (ci := 8) (v := .ref a_t_a) (C := RX8) (T := TX8) (N := 20) hx hb hts iw8 hown hK hP 0 rfl rfl 0 (by decide) hf7 (fun _ h9 => h9) rfl dX8_looksAt_79 ?_
      refine lv_bipush (v := 12) hx hb dX8_looksAt_82 (by decide) ?_
      refine my_iald (v := t_a_45_6 12) hx hb hK hP 1 0 rfl rfl (vp_lit (by decide +kernel)) rfl dX8_looksAt_84 ?_
      exact hk85_8 (t_a_45_6 12) H locs ls hP hD hS (lv_sub hl [1, 0] rfl) hF
    · have hF := brF c71 hF
      refine lv_iload_n hx hb dX8_looksAt_74 rfl (lv_at hl 0 rfl) ?_
      refine lv_goto (tgt := 85) hx hb dX8_looksAt_75 (by decide) ?_
      exact hk85_8 r2_1 H locs ls hP hD hS (lv_sub hl [1, 0] rfl) hF
abbrev rm_X8_isRead : Room := { frames := 1, cells := 0, slots := 0, locals := 22 }
theorem hd_X8_isRead : yX8_isRead.cls = RX8 ∧ yX8_isRead.cls ≠ "java/lang/invoke/MethodHandle" ∧ yX8_isRead.cls ≠ "java/lang/invoke/VarHandle" ∧ (parseMethodDescriptor yX8_isRead.desc).map (fun d => d.parameters.length) = some 3 := by decide +kernel
set_option maxRecDepth 100000 in
set_option maxHeartbeats 4000000 in
theorem c_X8_isRead (l : Launch) (D : va_G) (t : Nat → ClassId) (z : Nat) (x : Nat → Nat) (a_t : Nat) (a_t_a : Nat) (v_t_fresh : Value) (v_t_aside : Value) (v_t_kept : Value) (v_t_buffer : Value) (v_t_moved : Value) (v_t_written : Value) (t_keptMany : Int32) (t_thrown : Int32) (t_buffered : Int32) (t_size : Int32) (t_at : Int32) (t_behind : Int32) (t_kind : Int32) (t_number : Int32) (t_wrong : Int32) (t_wrongAt : Int32) (t_errorAt : Int32) (t_unused : Int32) (t_writtenMany : Int32) (t_a_ : (Nat → Int32)) (p1 : Int32) (p2 : Int32) (p3 : Int32) (H : Heap) (r : Int32) (hF : f_X8_isRead t_a_ p1 p2 p3 = some (r)) : RdM l D (TY t) z x yX8_isRead wsX8_isRead rm_X8_isRead [.ref a_t, .int p1, .int p2, .int p3] [(a_t, .inr (8, [.ref a_t_a, v_t_fresh, v_t_aside, v_t_kept, .int t_keptMany, .int t_thrown, v_t_buffer, .int t_buffered, .int t_size, .int t_at, .int t_behind, .int t_kind, .int t_number, .int t_wrong, .int t_wrongAt, .int t_errorAt, v_t_moved, .int t_unused, v_t_written, .int t_writtenMany])), (a_t_a, .inl (t 0, 876, .inl t_a_))] H (some (.int r)) := by
  refine rd_of (cc := cX8_isRead) (maxL := 4) (ret := (some .boolean)) (by decide) rfl (Nat.le_of_ble_eq_true rfl) ?_
  intro p e s m args below meth c Q hQ hx hb hr hml hts hown hlocks hH hP hC ls hl
  have hown : s.vm.findClass RX8 = some m.cls := hown
  have hl : lv_has ls 4 [(0, .ref a_t), (1, .int p1), (2, .int p2), (3, .int p3)] := hl
  have hK := hC.1
  unfold f_X8_isRead at hF
  refine lv_aload_n hx hb dX8_isRead_0 rfl (lv_at hl 0 rfl) ?_
  refine lv_iload_n hx hb dX8_isRead_1 rfl (lv_at hl 1 rfl) ?_
  refine lv_iconst (v := 0) hx hb dX8_isRead_2 (by decide) ?_
  obtain ⟨r3_1, h3_1, hF⟩ := bndE hF
  refine rdV (As := [.int p1, .int 0]) (rest := []) (C := RX8) ⟨hx, hb, hml, hown, hts⟩ (c_X8_of l D t z x a_t a_t_a v_t_fresh v_t_aside v_t_kept v_t_buffer v_t_moved v_t_written t_keptMany t_thrown t_buffered t_size t_at t_behind t_kind t_number t_wrong t_wrongAt t_errorAt t_unused t_writtenMany t_a_ p1 0 H r3_1 h3_1) (cwV 2 hts gX8_isRead_X8_of rfl rfl rfl hd_X8_of ⟨Nat.le_of_ble_eq_true rfl, Nat.le_of_ble_eq_true rfl⟩) hC (selP (m9 := [true, true]) rfl rfl hP) 0 rfl (show vwCl[8]? = some (RX8, TX8, 20) from rfl) rfl rfl hl.1 rfl (Nat.le_of_ble_eq_true rfl) dX8_isRead_3 ⟨Nat.zero_le _, Nat.zero_le _⟩ rfl ?_
  refine lv_iload_n hx hb dX8_isRead_6 rfl (lv_at hl 2 rfl) ?_
  refine lv_iload_n hx hb dX8_isRead_7 rfl (lv_at hl 3 rfl) ?_
  refine lv_iconst (v := 1) hx hb dX8_isRead_8 (by decide) ?_
  refine lv_isub hx hb dX8_isRead_9 ?_
  obtain ⟨r10_3, h10_3, hF⟩ := bndE hF
  refine rdS (As := [.int r3_1, .int p2, .int (p3 - 1)]) (rest := []) ⟨hx, hb, hml, hown, hts⟩ (c_X8_isIn l D t z x r3_1 p2 (p3 - 1) H r10_3 h10_3) (va_cwS 3 hts gX8_isRead_X8_isIn rfl rfl rfl hd_X8_isIn.2 ⟨Nat.le_of_ble_eq_true rfl, Nat.le_of_ble_eq_true rfl⟩) hC (selP (m9 := [false, false]) rfl rfl hP) rfl hl.1 rfl (Nat.le_of_ble_eq_true rfl) dX8_isRead_10 ⟨Nat.zero_le _, Nat.zero_le _⟩ rfl ?_
  obtain ⟨g13_4, hF⟩ := gp hF
  cases hF
  exact rd_zret hx hb hr hlocks dX8_isRead_13 (boolN g13_4) rfl hQ
abbrev rm_X8_readsPieces : Room := { frames := 2, cells := 0, slots := 0, locals := 45 }
theorem hd_X8_readsPieces : yX8_readsPieces.cls = RX8 ∧ yX8_readsPieces.cls ≠ "java/lang/invoke/MethodHandle" ∧ yX8_readsPieces.cls ≠ "java/lang/invoke/VarHandle" ∧ (parseMethodDescriptor yX8_readsPieces.desc).map (fun d => d.parameters.length) = some 2 := by decide +kernel
set_option maxRecDepth 100000 in
set_option maxHeartbeats 4000000 in
theorem c_X8_readsPieces (l : Launch) (D : va_G) (t : Nat → ClassId) (z : Nat) (x : Nat → Nat) (N : Nat) (a_t : Nat) (a_t_a : Nat) (v_t_fresh : Value) (v_t_aside : Value) (v_t_kept : Value) (v_t_buffer : Value) (v_t_moved : Value) (v_t_written : Value) (t_keptMany : Int32) (t_thrown : Int32) (t_buffered : Int32) (t_size : Int32) (t_at : Int32) (t_behind : Int32) (t_kind : Int32) (t_number : Int32) (t_wrong : Int32) (t_wrongAt : Int32) (t_errorAt : Int32) (t_unused : Int32) (t_writtenMany : Int32) (t_a_ : (Nat → Int32)) (p1 : Int32) (p2 : Int32) (sz : Nat) (r : Int32) (t_a_' : (Nat → Int32)) (hF : f_X8_readsPieces N t_a_ p1 p2 = some (r, t_a_')) : WrM l D (TY t) z x yX8_readsPieces wsX8_readsPieces rm_X8_readsPieces [.ref a_t, .int p1, .int p2] [(a_t, .inr (8, [.ref a_t_a, v_t_fresh, v_t_aside, v_t_kept, .int t_keptMany, .int t_thrown, v_t_buffer, .int t_buffered, .int t_size, .int t_at, .int t_behind, .int t_kind, .int t_number, .int t_wrong, .int t_wrongAt, .int t_errorAt, v_t_moved, .int t_unused, v_t_written, .int t_writtenMany])), (a_t_a, .inl (t 0, 876, .inl t_a_))] [(a_t, .inr (8, [.ref a_t_a, v_t_fresh, v_t_aside, v_t_kept, .int t_keptMany, .int t_thrown, v_t_buffer, .int t_buffered, .int t_size, .int t_at, .int t_behind, .int t_kind, .int t_number, .int t_wrong, .int t_wrongAt, .int t_errorAt, v_t_moved, .int t_unused, v_t_written, .int t_writtenMany])), (a_t_a, .inl (t 0, 876, .inl t_a_'))] sz (some (.int r)) 0 0 := by
  refine wr_of (cc := cX8_readsPieces) (maxL := 5) (ret := (some .int)) (by decide) rfl (Nat.le_of_ble_eq_true rfl) ?_
  intro p e s m args below meth c A Q hQ hx hb hr hml hts hown hlocks hin H locs hP hD hS hA hz hC ls hl
  have hown : s.vm.findClass RX8 = some m.cls := hown
  have hl : lv_has ls 5 [(0, .ref a_t), (1, .int p1), (2, .int p2)] := hl
  have hK := hC.1
  have iw8 : ∀ w ∈ wsX80, w ∈ wsX8_readsPieces := fun _ h => List.mem_cons_of_mem _ (List.mem_append_right _ h)
  have hf7 := hts (.fieldLink RX8 7 "CrackedColumnModel" "a" "[I") (by decide +kernel)
  unfold f_X8_readsPieces at hF
  refine lv_iconst (v := 0) hx hb dX8_readsPieces_0 (by decide) ?_
  refine lv_istore_n (lv' := [(3, .int 0), (0, .ref a_t), (1, .int p1), (2, .int p2)]) hx hb dX8_readsPieces_1 rfl hl (by decide) rfl (fun ls hl => ?_)
  obtain ⟨k87_2, ek87_2, hF⟩ := jnE hF
  have hk87_2 : ∀ (t_a_87_1 : (Nat → Int32)) (H : Heap) (locs : List Loc) (ls : Array Slot), va_P D vwCl [(a_t, .inr (8, [.ref a_t_a, v_t_fresh, v_t_aside, v_t_kept, .int t_keptMany, .int t_thrown, v_t_buffer, .int t_buffered, .int t_size, .int t_at, .int t_behind, .int t_kind, .int t_number, .int t_wrong, .int t_wrongAt, .int t_errorAt, v_t_moved, .int t_unused, v_t_written, .int t_writtenMany])), (a_t_a, .inl (t 0, 876, .inl t_a_87_1))] H → va_D A [(a_t, .inr (8, [.ref a_t_a, v_t_fresh, v_t_aside, v_t_kept, .int t_keptMany, .int t_thrown, v_t_buffer, .int t_buffered, .int t_size, .int t_at, .int t_behind, .int t_kind, .int t_number, .int t_wrong, .int t_wrongAt, .int t_errorAt, v_t_moved, .int t_unused, v_t_written, .int t_writtenMany])), (a_t_a, .inl (t 0, 876, .inl t_a_87_1))] → va_S A s.heap H locs → lv_has ls 5 [(0, .ref a_t)] → k87_2 t_a_87_1 = some (r, t_a_') → W p l e rm_X8_readsPieces s m args below meth c H locs 0 0 Q (F0 m 87 ls []) := by
    subst ek87_2
    intro t_a_87_1 H locs ls hP hD hS hl hF
    refine lv_aload_n hx hb dX8_readsPieces_87 rfl (lv_at hl 0 rfl) ?_
    refine va_get (D := D) (ci := 8) (v := .ref a_t_a) (C := RX8) (T := TX8) (N := 20) hx hb hts iw8 hown hK hP 0 rfl rfl 0 (by decide) hf7 (fun _ h9 => h9) rfl dX8_readsPieces_88 ?_
    refine lv_bipush (v := 10) hx hb dX8_readsPieces_91 (by decide) ?_
    refine my_iald (v := t_a_87_1 10) hx hb hK hP 1 0 rfl rfl (vp_lit (by decide +kernel)) rfl dX8_readsPieces_93 ?_
    cases hF
    exact we_iret hx hb hr hlocks dX8_readsPieces_94 rfl hQ hP hD hS
  have hlp2 : ∀ n2 : Nat, ∀ (x3_2_3 : Int32) (t_a_2_4 : (Nat → Int32)) (H : Heap) (locs : List Loc) (ls : Array Slot), va_P D vwCl [(a_t, .inr (8, [.ref a_t_a, v_t_fresh, v_t_aside, v_t_kept, .int t_keptMany, .int t_thrown, v_t_buffer, .int t_buffered, .int t_size, .int t_at, .int t_behind, .int t_kind, .int t_number, .int t_wrong, .int t_wrongAt, .int t_errorAt, v_t_moved, .int t_unused, v_t_written, .int t_writtenMany])), (a_t_a, .inl (t 0, 876, .inl t_a_2_4))] H → va_D A [(a_t, .inr (8, [.ref a_t_a, v_t_fresh, v_t_aside, v_t_kept, .int t_keptMany, .int t_thrown, v_t_buffer, .int t_buffered, .int t_size, .int t_at, .int t_behind, .int t_kind, .int t_number, .int t_wrong, .int t_wrongAt, .int t_errorAt, v_t_moved, .int t_unused, v_t_written, .int t_writtenMany])), (a_t_a, .inl (t 0, 876, .inl t_a_2_4))] → va_S A s.heap H locs → lv_has ls 5 [(0, .ref a_t), (1, .int p1), (2, .int p2), (3, .int x3_2_3)] → f_X8_readsPieces_2 N p1 p2 k87_2 n2 x3_2_3 t_a_2_4 = some (r, t_a_') → W p l e rm_X8_readsPieces s m args below meth c H locs 0 0 Q (F0 m 2 ls []) := by
    intro n2
    induction n2 with
    | zero =>
      intro x3_2_3 t_a_2_4 H locs ls hP hD hS hl hF
      cases (show none = some (r, t_a_') from hF)
    | succ n2 ih2 =>
      intro x3_2_3 t_a_2_4 H locs ls hP hD hS hl hF
      rw [f_X8_readsPieces_2] at hF
      refine lv_iload_n hx hb dX8_readsPieces_2 rfl (lv_at hl 3 rfl) ?_
      refine lv_aload_n hx hb dX8_readsPieces_3 rfl (lv_at hl 0 rfl) ?_
      refine va_get (D := D) (ci := 8) (v := .ref a_t_a) (C := RX8) (T := TX8) (N := 20) hx hb hts iw8 hown hK hP 0 rfl rfl 0 (by decide) hf7 (fun _ h9 => h9) rfl dX8_readsPieces_4 ?_
      refine lv_iconst (v := 3) hx hb dX8_readsPieces_7 (by decide) ?_
      refine my_iald (v := t_a_2_4 3) hx hb hK hP 1 0 rfl rfl (vp_lit (by decide +kernel)) rfl dX8_readsPieces_8 ?_
      refine lv_icmp_ge (tgt := 87) hx hb dX8_readsPieces_9 (by decide) (fun c9 => ?_) (fun c9 => ?_)
      · have hF := brT c9 hF
        exact hk87_2 t_a_2_4 H locs ls hP hD hS (lv_sub hl [0] rfl) hF
      · have hF := brF c9 hF
        refine lv_aload_n hx hb dX8_readsPieces_12 rfl (lv_at hl 0 rfl) ?_
        refine lv_iload_n hx hb dX8_readsPieces_13 rfl (lv_at hl 3 rfl) ?_
        refine lv_iload_n hx hb dX8_readsPieces_14 rfl (lv_at hl 1 rfl) ?_
        refine lv_iload_n hx hb dX8_readsPieces_15 rfl (lv_at hl 2 rfl) ?_
        obtain ⟨r16_5, h16_5, hF⟩ := bndE hF
        refine rdV (As := [.int x3_2_3, .int p1, .int p2]) (rest := []) (C := RX8) ⟨hx, hb, hml, hown, hts⟩ (c_X8_isRead l D t z x a_t a_t_a v_t_fresh v_t_aside v_t_kept v_t_buffer v_t_moved v_t_written t_keptMany t_thrown t_buffered t_size t_at t_behind t_kind t_number t_wrong t_wrongAt t_errorAt t_unused t_writtenMany t_a_2_4 x3_2_3 p1 p2 H r16_5 h16_5) (cwV 3 hts gX8_readsPieces_X8_isRead rfl rfl rfl hd_X8_isRead ⟨Nat.le_of_ble_eq_true rfl, Nat.le_of_ble_eq_true rfl⟩) (hC.at hz hS) (selP (m9 := [true, true]) rfl rfl hP) 0 rfl (show vwCl[8]? = some (RX8, TX8, 20) from rfl) rfl rfl hl.1 rfl (Nat.le_of_ble_eq_true rfl) dX8_readsPieces_16 ⟨Nat.zero_le _, Nat.zero_le _⟩ rfl ?_
        refine lv_if_ne (tgt := 25) hx hb dX8_readsPieces_19 (by decide) (fun c19 => ?_) (fun c19 => ?_)
        · have hF := brF c19 hF
          refine lv_aload_n hx hb dX8_readsPieces_25 rfl (lv_at hl 0 rfl) ?_
          refine lv_iload_n hx hb dX8_readsPieces_26 rfl (lv_at hl 3 rfl) ?_
          refine lv_iconst (v := 2) hx hb dX8_readsPieces_27 (by decide) ?_
          refine lv_aload_n hx hb dX8_readsPieces_28 rfl (lv_at hl 0 rfl) ?_
          refine lv_iload_n hx hb dX8_readsPieces_29 rfl (lv_at hl 3 rfl) ?_
          refine lv_iconst (v := 2) hx hb dX8_readsPieces_30 (by decide) ?_
          obtain ⟨r31_7, h31_7, hF⟩ := bndE hF
          refine rdV (As := [.int x3_2_3, .int 2]) (rest := [.int 2, .int x3_2_3, .ref a_t]) (C := RX8) ⟨hx, hb, hml, hown, hts⟩ (c_X8_of l D t z x a_t a_t_a v_t_fresh v_t_aside v_t_kept v_t_buffer v_t_moved v_t_written t_keptMany t_thrown t_buffered t_size t_at t_behind t_kind t_number t_wrong t_wrongAt t_errorAt t_unused t_writtenMany t_a_2_4 x3_2_3 2 H r31_7 h31_7) (cwV 2 hts gX8_readsPieces_X8_of rfl rfl rfl hd_X8_of ⟨Nat.le_of_ble_eq_true rfl, Nat.le_of_ble_eq_true rfl⟩) (hC.at hz hS) (selP (m9 := [true, true]) rfl rfl hP) 0 rfl (show vwCl[8]? = some (RX8, TX8, 20) from rfl) rfl rfl hl.1 rfl (Nat.le_of_ble_eq_true rfl) dX8_readsPieces_31 ⟨Nat.zero_le _, Nat.zero_le _⟩ rfl ?_
          refine lv_iconst (v := 1) hx hb dX8_readsPieces_34 (by decide) ?_
          refine lv_iadd hx hb dX8_readsPieces_35 ?_
          obtain ⟨t_a_36_9, h36_9, hF⟩ := bndE hF
          refine wrVM (As := [.int x3_2_3, .int 2, .int (r31_7 + 1)]) (rest := []) (C := RX8) (wn := [(a_t, .inr (8, [.ref a_t_a, v_t_fresh, v_t_aside, v_t_kept, .int t_keptMany, .int t_thrown, v_t_buffer, .int t_buffered, .int t_size, .int t_at, .int t_behind, .int t_kind, .int t_number, .int t_wrong, .int t_wrongAt, .int t_errorAt, v_t_moved, .int t_unused, v_t_written, .int t_writtenMany])), (a_t_a, .inl (t 0, 876, .inl t_a_36_9))]) ⟨hx, hb, hml, hown, hts⟩ (c_X8_puts l D t z x a_t a_t_a v_t_fresh v_t_aside v_t_kept v_t_buffer v_t_moved v_t_written t_keptMany t_thrown t_buffered t_size t_at t_behind t_kind t_number t_wrong t_wrongAt t_errorAt t_unused t_writtenMany t_a_2_4 x3_2_3 2 (r31_7 + 1) H.size t_a_36_9 h36_9) (cwV 3 hts gX8_readsPieces_X8_puts rfl rfl rfl hd_X8_puts ⟨Nat.le_of_ble_eq_true rfl, Nat.le_of_ble_eq_true rfl⟩) (hC.at hz hS) hP hD hS hA hz [true, true] rfl rfl rfl rfl 0 rfl (show vwCl[8]? = some (RX8, TX8, 20) from rfl) rfl rfl hl.1 rfl (Nat.le_of_ble_eq_true rfl) dX8_readsPieces_36 ⟨Nat.zero_le _, Nat.zero_le _⟩ rfl (fun H locs hP hD hS => ?_)
          refine lv_aload_n hx hb dX8_readsPieces_39 rfl (lv_at hl 0 rfl) ?_
          refine va_get (D := D) (ci := 8) (v := .ref a_t_a) (C := RX8) (T := TX8) (N := 20) hx hb hts iw8 hown hK hP 0 rfl rfl 0 (by decide) hf7 (fun _ h9 => h9) rfl dX8_readsPieces_40 ?_
          refine lv_bipush (v := 16) hx hb dX8_readsPieces_43 (by decide) ?_
          refine lv_dup2_11 hx hb dX8_readsPieces_45 rfl rfl ?_
          refine my_iald (v := t_a_36_9 16) hx hb hK hP 1 0 rfl rfl (vp_lit (by decide +kernel)) rfl dX8_readsPieces_46 ?_
          refine lv_iconst (v := 1) hx hb dX8_readsPieces_47 (by decide) ?_
          refine lv_iadd hx hb dX8_readsPieces_48 ?_
          obtain ⟨t_a_49_11, et_a_49_11⟩ : ∃ y : Nat → Int32, y = upd t_a_36_9 16 ((t_a_36_9 16) + 1) := ⟨_, rfl⟩
          have hF := ltE et_a_49_11 hF
          refine my_iast (g := t_a_49_11) (wn := [(a_t, .inr (8, [.ref a_t_a, v_t_fresh, v_t_aside, v_t_kept, .int t_keptMany, .int t_thrown, v_t_buffer, .int t_buffered, .int t_size, .int t_at, .int t_behind, .int t_kind, .int t_number, .int t_wrong, .int t_wrongAt, .int t_errorAt, v_t_moved, .int t_unused, v_t_written, .int t_writtenMany])), (a_t_a, .inl (t 0, 876, .inl t_a_49_11))]) hx hb hK hP hD hS 1 0 rfl rfl (vp_lit (by decide +kernel)) et_a_49_11 rfl dX8_readsPieces_49 (fun H locs hP hD hS => ?_)
          refine lv_aload_n hx hb dX8_readsPieces_50 rfl (lv_at hl 0 rfl) ?_
          refine lv_iload_n hx hb dX8_readsPieces_51 rfl (lv_at hl 3 rfl) ?_
          obtain ⟨r52_12, h52_12, hF⟩ := bndE hF
          refine rdV (As := [.int x3_2_3]) (rest := []) (C := RX8) ⟨hx, hb, hml, hown, hts⟩ (c_X8_firstPlace l D t z x N a_t a_t_a v_t_fresh v_t_aside v_t_kept v_t_buffer v_t_moved v_t_written t_keptMany t_thrown t_buffered t_size t_at t_behind t_kind t_number t_wrong t_wrongAt t_errorAt t_unused t_writtenMany t_a_49_11 x3_2_3 H r52_12 h52_12) (cwV 1 hts gX8_readsPieces_X8_firstPlace rfl rfl rfl hd_X8_firstPlace ⟨Nat.le_of_ble_eq_true rfl, Nat.le_of_ble_eq_true rfl⟩) (hC.at hz hS) (selP (m9 := [true, true]) rfl rfl hP) 0 rfl (show vwCl[8]? = some (RX8, TX8, 20) from rfl) rfl rfl hl.1 rfl (Nat.le_of_ble_eq_true rfl) dX8_readsPieces_52 ⟨Nat.zero_le _, Nat.zero_le _⟩ rfl ?_
          refine lv_istore (lv' := [(4, .int r52_12), (0, .ref a_t), (1, .int p1), (2, .int p2), (3, .int x3_2_3)]) hx hb dX8_readsPieces_55 hl (by decide) rfl (fun ls hl => ?_)
          obtain ⟨k81_15, ek81_15, hF⟩ := jnE hF
          have hk81_15 : ∀ (t_a_81_14 : (Nat → Int32)) (H : Heap) (locs : List Loc) (ls : Array Slot), va_P D vwCl [(a_t, .inr (8, [.ref a_t_a, v_t_fresh, v_t_aside, v_t_kept, .int t_keptMany, .int t_thrown, v_t_buffer, .int t_buffered, .int t_size, .int t_at, .int t_behind, .int t_kind, .int t_number, .int t_wrong, .int t_wrongAt, .int t_errorAt, v_t_moved, .int t_unused, v_t_written, .int t_writtenMany])), (a_t_a, .inl (t 0, 876, .inl t_a_81_14))] H → va_D A [(a_t, .inr (8, [.ref a_t_a, v_t_fresh, v_t_aside, v_t_kept, .int t_keptMany, .int t_thrown, v_t_buffer, .int t_buffered, .int t_size, .int t_at, .int t_behind, .int t_kind, .int t_number, .int t_wrong, .int t_wrongAt, .int t_errorAt, v_t_moved, .int t_unused, v_t_written, .int t_writtenMany])), (a_t_a, .inl (t 0, 876, .inl t_a_81_14))] → va_S A s.heap H locs → lv_has ls 5 [(0, .ref a_t), (1, .int p1), (2, .int p2), (3, .int x3_2_3)] → k81_15 t_a_81_14 = some (r, t_a_') → W p l e rm_X8_readsPieces s m args below meth c H locs 0 0 Q (F0 m 81 ls []) := by
            subst ek81_15
            intro t_a_81_14 H locs ls hP hD hS hl hF
            obtain ⟨y81_16, ey81_16⟩ : ∃ y : Int32, y = x3_2_3 + 1 := ⟨_, rfl⟩
            have hF := ltE ey81_16 hF
            refine lv_iinc (v := y81_16) (lv' := [(3, .int y81_16), (0, .ref a_t), (1, .int p1), (2, .int p2)]) hx hb dX8_readsPieces_81 hl (k := 3) rfl (by rw [ey81_16]; rfl) (by decide) rfl (fun ls hl => ?_)
            refine lv_goto (tgt := 2) hx hb dX8_readsPieces_84 (by decide) ?_
            exact ih2 y81_16 t_a_81_14 H locs ls hP hD hS (lv_sub hl [1, 2, 3, 0] rfl) hF
          have hlp57 : ∀ n57 : Nat, ∀ (x4_57_17 : Int32) (t_a_57_18 : (Nat → Int32)) (H : Heap) (locs : List Loc) (ls : Array Slot), va_P D vwCl [(a_t, .inr (8, [.ref a_t_a, v_t_fresh, v_t_aside, v_t_kept, .int t_keptMany, .int t_thrown, v_t_buffer, .int t_buffered, .int t_size, .int t_at, .int t_behind, .int t_kind, .int t_number, .int t_wrong, .int t_wrongAt, .int t_errorAt, v_t_moved, .int t_unused, v_t_written, .int t_writtenMany])), (a_t_a, .inl (t 0, 876, .inl t_a_57_18))] H → va_D A [(a_t, .inr (8, [.ref a_t_a, v_t_fresh, v_t_aside, v_t_kept, .int t_keptMany, .int t_thrown, v_t_buffer, .int t_buffered, .int t_size, .int t_at, .int t_behind, .int t_kind, .int t_number, .int t_wrong, .int t_wrongAt, .int t_errorAt, v_t_moved, .int t_unused, v_t_written, .int t_writtenMany])), (a_t_a, .inl (t 0, 876, .inl t_a_57_18))] → va_S A s.heap H locs → lv_has ls 5 [(0, .ref a_t), (1, .int p1), (2, .int p2), (3, .int x3_2_3), (4, .int x4_57_17)] → f_X8_readsPieces_57 N x3_2_3 k81_15 n57 x4_57_17 t_a_57_18 = some (r, t_a_') → W p l e rm_X8_readsPieces s m args below meth c H locs 0 0 Q (F0 m 57 ls []) := by
            intro n57
            induction n57 with
            | zero =>
              intro x4_57_17 t_a_57_18 H locs ls hP hD hS hl hF
              cases (show none = some (r, t_a_') from hF)
            | succ n57 ih57 =>
              intro x4_57_17 t_a_57_18 H locs ls hP hD hS hl hF
              rw [f_X8_readsPieces_57] at hF
              refine lv_iload hx hb dX8_readsPieces_57 (lv_at hl 4 rfl) ?_
              refine lv_aload_n hx hb dX8_readsPieces_59 rfl (lv_at hl 0 rfl) ?_
              refine lv_iload_n hx hb dX8_readsPieces_60 rfl (lv_at hl 3 rfl) ?_
              refine lv_iconst (v := 1) hx hb dX8_readsPieces_61 (by decide) ?_
              refine lv_iadd hx hb dX8_readsPieces_62 ?_
              obtain ⟨r63_19, h63_19, hF⟩ := bndE hF
              refine rdV (As := [.int (x3_2_3 + 1)]) (rest := [.int x4_57_17]) (C := RX8) ⟨hx, hb, hml, hown, hts⟩ (c_X8_firstPlace l D t z x N a_t a_t_a v_t_fresh v_t_aside v_t_kept v_t_buffer v_t_moved v_t_written t_keptMany t_thrown t_buffered t_size t_at t_behind t_kind t_number t_wrong t_wrongAt t_errorAt t_unused t_writtenMany t_a_57_18 (x3_2_3 + 1) H r63_19 h63_19) (cwV 1 hts gX8_readsPieces_X8_firstPlace rfl rfl rfl hd_X8_firstPlace ⟨Nat.le_of_ble_eq_true rfl, Nat.le_of_ble_eq_true rfl⟩) (hC.at hz hS) (selP (m9 := [true, true]) rfl rfl hP) 0 rfl (show vwCl[8]? = some (RX8, TX8, 20) from rfl) rfl rfl hl.1 rfl (Nat.le_of_ble_eq_true rfl) dX8_readsPieces_63 ⟨Nat.zero_le _, Nat.zero_le _⟩ rfl ?_
              refine lv_icmp_ge (tgt := 81) hx hb dX8_readsPieces_66 (by decide) (fun c66 => ?_) (fun c66 => ?_)
              · have hF := brT c66 hF
                exact hk81_15 t_a_57_18 H locs ls hP hD hS (lv_sub hl [0, 1, 2, 3] rfl) hF
              · have hF := brF c66 hF
                refine lv_aload_n hx hb dX8_readsPieces_69 rfl (lv_at hl 0 rfl) ?_
                refine lv_iload hx hb dX8_readsPieces_70 (lv_at hl 4 rfl) ?_
                obtain ⟨t_a_72_21, h72_21, hF⟩ := bndE hF
                refine wrVM (As := [.int x4_57_17]) (rest := []) (C := RX8) (wn := [(a_t, .inr (8, [.ref a_t_a, v_t_fresh, v_t_aside, v_t_kept, .int t_keptMany, .int t_thrown, v_t_buffer, .int t_buffered, .int t_size, .int t_at, .int t_behind, .int t_kind, .int t_number, .int t_wrong, .int t_wrongAt, .int t_errorAt, v_t_moved, .int t_unused, v_t_written, .int t_writtenMany])), (a_t_a, .inl (t 0, 876, .inl t_a_72_21))]) ⟨hx, hb, hml, hown, hts⟩ (c_X8_looksAt l D t z x a_t a_t_a v_t_fresh v_t_aside v_t_kept v_t_buffer v_t_moved v_t_written t_keptMany t_thrown t_buffered t_size t_at t_behind t_kind t_number t_wrong t_wrongAt t_errorAt t_unused t_writtenMany t_a_57_18 x4_57_17 H.size t_a_72_21 h72_21) (cwV 1 hts gX8_readsPieces_X8_looksAt rfl rfl rfl hd_X8_looksAt ⟨Nat.le_of_ble_eq_true rfl, Nat.le_of_ble_eq_true rfl⟩) (hC.at hz hS) hP hD hS hA hz [true, true] rfl rfl rfl rfl 0 rfl (show vwCl[8]? = some (RX8, TX8, 20) from rfl) rfl rfl hl.1 rfl (Nat.le_of_ble_eq_true rfl) dX8_readsPieces_72 ⟨Nat.zero_le _, Nat.zero_le _⟩ rfl (fun H locs hP hD hS => ?_)
                obtain ⟨y75_23, ey75_23⟩ : ∃ y : Int32, y = x4_57_17 + 1 := ⟨_, rfl⟩
                have hF := ltE ey75_23 hF
                refine lv_iinc (v := y75_23) (lv' := [(4, .int y75_23), (0, .ref a_t), (1, .int p1), (2, .int p2), (3, .int x3_2_3)]) hx hb dX8_readsPieces_75 hl (k := 4) rfl (by rw [ey75_23]; rfl) (by decide) rfl (fun ls hl => ?_)
                refine lv_goto (tgt := 57) hx hb dX8_readsPieces_78 (by decide) ?_
                exact ih57 y75_23 t_a_72_21 H locs ls hP hD hS (lv_sub hl [1, 2, 3, 4, 0] rfl) hF
          exact hlp57 N r52_12 t_a_49_11 H locs ls hP hD hS (lv_sub hl [1, 2, 3, 4, 0] rfl) hF
        · have hF := brT c19 hF
          refine lv_goto (tgt := 81) hx hb dX8_readsPieces_22 (by decide) ?_
          obtain ⟨y81_24, ey81_24⟩ : ∃ y : Int32, y = x3_2_3 + 1 := ⟨_, rfl⟩
          have hF := ltE ey81_24 hF
          refine lv_iinc (v := y81_24) (lv' := [(3, .int y81_24), (0, .ref a_t), (1, .int p1), (2, .int p2)]) hx hb dX8_readsPieces_81 hl (k := 3) rfl (by rw [ey81_24]; rfl) (by decide) rfl (fun ls hl => ?_)
          refine lv_goto (tgt := 2) hx hb dX8_readsPieces_84 (by decide) ?_
          exact ih2 y81_24 t_a_2_4 H locs ls hP hD hS (lv_sub hl [1, 2, 3, 0] rfl) hF
  exact hlp2 N 0 t_a_ H locs ls hP hD hS (lv_sub hl [1, 2, 3, 0] rfl) hF
abbrev rm_X8_sortsHot : Room := { frames := 3, cells := 0, slots := 0, locals := 71 }
theorem hd_X8_sortsHot : yX8_sortsHot.cls = RX8 ∧ yX8_sortsHot.cls ≠ "java/lang/invoke/MethodHandle" ∧ yX8_sortsHot.cls ≠ "java/lang/invoke/VarHandle" ∧ (parseMethodDescriptor yX8_sortsHot.desc).map (fun d => d.parameters.length) = some 2 := by decide +kernel
set_option maxRecDepth 100000 in
set_option maxHeartbeats 4000000 in
theorem c_X8_sortsHot (l : Launch) (D : va_G) (t : Nat → ClassId) (z : Nat) (x : Nat → Nat) (N : Nat) (a_t : Nat) (a_t_a : Nat) (a_t_moved : Nat) (v_t_fresh : Value) (v_t_aside : Value) (v_t_kept : Value) (v_t_buffer : Value) (v_t_written : Value) (t_keptMany : Int32) (t_thrown : Int32) (t_buffered : Int32) (t_size : Int32) (t_at : Int32) (t_behind : Int32) (t_kind : Int32) (t_number : Int32) (t_wrong : Int32) (t_wrongAt : Int32) (t_errorAt : Int32) (t_unused : Int32) (t_writtenMany : Int32) (t_a_ : (Nat → Int32)) (t_moved_ : (Nat → Int32)) (p1 : Int32) (p2 : Int32) (sz : Nat) (r : Int32) (t_unused' : Int32) (t_a_' : (Nat → Int32)) (t_moved_' : (Nat → Int32)) (hF : f_X8_sortsHot N t_unused t_a_ t_moved_ p1 p2 = some (r, t_unused', t_a_', t_moved_')) : WrM l D (TY t) z x yX8_sortsHot wsX8_sortsHot rm_X8_sortsHot [.ref a_t, .int p1, .int p2] [(a_t, .inr (8, [.ref a_t_a, v_t_fresh, v_t_aside, v_t_kept, .int t_keptMany, .int t_thrown, v_t_buffer, .int t_buffered, .int t_size, .int t_at, .int t_behind, .int t_kind, .int t_number, .int t_wrong, .int t_wrongAt, .int t_errorAt, .ref a_t_moved, .int t_unused, v_t_written, .int t_writtenMany])), (a_t_a, .inl (t 0, 876, .inl t_a_)), (a_t_moved, .inl (t 0, 120, .inl t_moved_))] [(a_t, .inr (8, [.ref a_t_a, v_t_fresh, v_t_aside, v_t_kept, .int t_keptMany, .int t_thrown, v_t_buffer, .int t_buffered, .int t_size, .int t_at, .int t_behind, .int t_kind, .int t_number, .int t_wrong, .int t_wrongAt, .int t_errorAt, .ref a_t_moved, .int t_unused', v_t_written, .int t_writtenMany])), (a_t_a, .inl (t 0, 876, .inl t_a_')), (a_t_moved, .inl (t 0, 120, .inl t_moved_'))] sz (some (.int r)) 0 0 := by
  obtain ⟨T9, hT⟩ : ∃ T9, T9 = (r, t_unused', t_a_', t_moved_') := ⟨_, rfl⟩
  rw [← hT] at hF
  obtain rfl : r = T9.1 := by rw [hT]
  obtain rfl : t_unused' = T9.2.1 := by rw [hT]
  obtain rfl : t_a_' = T9.2.2.1 := by rw [hT]
  obtain rfl : t_moved_' = T9.2.2.2 := by rw [hT]
  clear hT
  refine wr_of (cc := cX8_sortsHot) (maxL := 6) (ret := (some .int)) (by decide) rfl (Nat.le_of_ble_eq_true rfl) ?_
  intro p e s m args below meth c A Q hQ hx hb hr hml hts hown hlocks hin H locs hP hD hS hA hz hC ls hl
  have hown : s.vm.findClass RX8 = some m.cls := hown
  have hl : lv_has ls 6 [(0, .ref a_t), (1, .int p1), (2, .int p2)] := hl
  have hK := hC.1
  have iw8 : ∀ w ∈ wsX80, w ∈ wsX8_sortsHot := fun _ h => List.mem_cons_of_mem _ (List.mem_append_right _ h)
  have hf7 := hts (.fieldLink RX8 7 "CrackedColumnModel" "a" "[I") (by decide +kernel)
  have hf210 := hts (.fieldLink RX8 210 "CrackedColumnModel" "unused" "I") (by decide +kernel)
  unfold f_X8_sortsHot at hF
  refine lv_iconst (v := 0) hx hb dX8_sortsHot_0 (by decide) ?_
  refine lv_istore_n (lv' := [(3, .int 0), (0, .ref a_t), (1, .int p1), (2, .int p2)]) hx hb dX8_sortsHot_1 rfl hl (by decide) rfl (fun ls hl => ?_)
  refine lv_iconst (v := 0) hx hb dX8_sortsHot_2 (by decide) ?_
  refine lv_istore (lv' := [(4, .int 0), (3, .int 0), (0, .ref a_t), (1, .int p1), (2, .int p2)]) hx hb dX8_sortsHot_3 hl (by decide) rfl (fun ls hl => ?_)
  obtain ⟨k119_5, ek119_5, hF⟩ := jnE hF
  have hk119_5 : ∀ (x3_119_1 : Int32) (t_unused_119_2 : Int32) (t_a_119_3 : (Nat → Int32)) (t_moved_119_4 : (Nat → Int32)) (H : Heap) (locs : List Loc) (ls : Array Slot), va_P D vwCl [(a_t, .inr (8, [.ref a_t_a, v_t_fresh, v_t_aside, v_t_kept, .int t_keptMany, .int t_thrown, v_t_buffer, .int t_buffered, .int t_size, .int t_at, .int t_behind, .int t_kind, .int t_number, .int t_wrong, .int t_wrongAt, .int t_errorAt, .ref a_t_moved, .int t_unused_119_2, v_t_written, .int t_writtenMany])), (a_t_a, .inl (t 0, 876, .inl t_a_119_3)), (a_t_moved, .inl (t 0, 120, .inl t_moved_119_4))] H → va_D A [(a_t, .inr (8, [.ref a_t_a, v_t_fresh, v_t_aside, v_t_kept, .int t_keptMany, .int t_thrown, v_t_buffer, .int t_buffered, .int t_size, .int t_at, .int t_behind, .int t_kind, .int t_number, .int t_wrong, .int t_wrongAt, .int t_errorAt, .ref a_t_moved, .int t_unused_119_2, v_t_written, .int t_writtenMany])), (a_t_a, .inl (t 0, 876, .inl t_a_119_3)), (a_t_moved, .inl (t 0, 120, .inl t_moved_119_4))] → va_S A s.heap H locs → lv_has ls 6 [(3, .int x3_119_1)] → k119_5 x3_119_1 t_unused_119_2 t_a_119_3 t_moved_119_4 = some T9 → W p l e rm_X8_sortsHot s m args below meth c H locs 0 0 Q (F0 m 119 ls []) := by
    subst ek119_5
    intro x3_119_1 t_unused_119_2 t_a_119_3 t_moved_119_4 H locs ls hP hD hS hl hF
    refine lv_iload_n hx hb dX8_sortsHot_119 rfl (lv_at hl 0 rfl) ?_
    cases hF
    exact we_iret hx hb hr hlocks dX8_sortsHot_120 rfl hQ hP hD hS
  have hlp5 : ∀ n5 : Nat, ∀ (x3_5_6 : Int32) (x4_5_7 : Int32) (t_unused_5_8 : Int32) (t_a_5_9 : (Nat → Int32)) (t_moved_5_10 : (Nat → Int32)) (H : Heap) (locs : List Loc) (ls : Array Slot), va_P D vwCl [(a_t, .inr (8, [.ref a_t_a, v_t_fresh, v_t_aside, v_t_kept, .int t_keptMany, .int t_thrown, v_t_buffer, .int t_buffered, .int t_size, .int t_at, .int t_behind, .int t_kind, .int t_number, .int t_wrong, .int t_wrongAt, .int t_errorAt, .ref a_t_moved, .int t_unused_5_8, v_t_written, .int t_writtenMany])), (a_t_a, .inl (t 0, 876, .inl t_a_5_9)), (a_t_moved, .inl (t 0, 120, .inl t_moved_5_10))] H → va_D A [(a_t, .inr (8, [.ref a_t_a, v_t_fresh, v_t_aside, v_t_kept, .int t_keptMany, .int t_thrown, v_t_buffer, .int t_buffered, .int t_size, .int t_at, .int t_behind, .int t_kind, .int t_number, .int t_wrong, .int t_wrongAt, .int t_errorAt, .ref a_t_moved, .int t_unused_5_8, v_t_written, .int t_writtenMany])), (a_t_a, .inl (t 0, 876, .inl t_a_5_9)), (a_t_moved, .inl (t 0, 120, .inl t_moved_5_10))] → va_S A s.heap H locs → lv_has ls 6 [(0, .ref a_t), (1, .int p1), (2, .int p2), (3, .int x3_5_6), (4, .int x4_5_7)] → f_X8_sortsHot_5 N p1 p2 k119_5 n5 x3_5_6 x4_5_7 t_unused_5_8 t_a_5_9 t_moved_5_10 = some T9 → W p l e rm_X8_sortsHot s m args below meth c H locs 0 0 Q (F0 m 5 ls []) := by
    intro n5
    induction n5 with
    | zero =>
      intro x3_5_6 x4_5_7 t_unused_5_8 t_a_5_9 t_moved_5_10 H locs ls hP hD hS hl hF
      cases (show none = some T9 from hF)
    | succ n5 ih5 =>
      intro x3_5_6 x4_5_7 t_unused_5_8 t_a_5_9 t_moved_5_10 H locs ls hP hD hS hl hF
      rw [f_X8_sortsHot_5] at hF
      refine lv_iload hx hb dX8_sortsHot_5 (lv_at hl 4 rfl) ?_
      refine lv_aload_n hx hb dX8_sortsHot_7 rfl (lv_at hl 0 rfl) ?_
      refine va_get (D := D) (ci := 8) (v := .ref a_t_a) (C := RX8) (T := TX8) (N := 20) hx hb hts iw8 hown hK hP 0 rfl rfl 0 (by decide) hf7 (fun _ h9 => h9) rfl dX8_sortsHot_8 ?_
      refine lv_iconst (v := 3) hx hb dX8_sortsHot_11 (by decide) ?_
      refine my_iald (v := t_a_5_9 3) hx hb hK hP 1 0 rfl rfl (vp_lit (by decide +kernel)) rfl dX8_sortsHot_12 ?_
      refine lv_icmp_ge (tgt := 119) hx hb dX8_sortsHot_13 (by decide) (fun c13 => ?_) (fun c13 => ?_)
      · have hF := brT c13 hF
        exact hk119_5 x3_5_6 t_unused_5_8 t_a_5_9 t_moved_5_10 H locs ls hP hD hS (lv_sub hl [3] rfl) hF
      · have hF := brF c13 hF
        refine lv_aload_n hx hb dX8_sortsHot_16 rfl (lv_at hl 0 rfl) ?_
        refine lv_iload hx hb dX8_sortsHot_17 (lv_at hl 4 rfl) ?_
        refine lv_iconst (v := 1) hx hb dX8_sortsHot_19 (by decide) ?_
        obtain ⟨r20_11, h20_11, hF⟩ := bndE hF
        refine rdV (As := [.int x4_5_7, .int 1]) (rest := []) (C := RX8) ⟨hx, hb, hml, hown, hts⟩ (c_X8_of l D t z x a_t a_t_a v_t_fresh v_t_aside v_t_kept v_t_buffer (.ref a_t_moved) v_t_written t_keptMany t_thrown t_buffered t_size t_at t_behind t_kind t_number t_wrong t_wrongAt t_errorAt t_unused_5_8 t_writtenMany t_a_5_9 x4_5_7 1 H r20_11 h20_11) (cwV 2 hts gX8_sortsHot_X8_of rfl rfl rfl hd_X8_of ⟨Nat.le_of_ble_eq_true rfl, Nat.le_of_ble_eq_true rfl⟩) (hC.at hz hS) (selP (m9 := [true, true, false]) rfl rfl hP) 0 rfl (show vwCl[8]? = some (RX8, TX8, 20) from rfl) rfl rfl hl.1 rfl (Nat.le_of_ble_eq_true rfl) dX8_sortsHot_20 ⟨Nat.zero_le _, Nat.zero_le _⟩ rfl ?_
        refine lv_istore (lv' := [(5, .int r20_11), (0, .ref a_t), (1, .int p1), (2, .int p2), (3, .int x3_5_6), (4, .int x4_5_7)]) hx hb dX8_sortsHot_23 hl (by decide) rfl (fun ls hl => ?_)
        refine lv_aload_n hx hb dX8_sortsHot_25 rfl (lv_at hl 1 rfl) ?_
        refine lv_iload hx hb dX8_sortsHot_26 (lv_at hl 5 rfl) ?_
        refine lv_iload_n hx hb dX8_sortsHot_28 rfl (lv_at hl 2 rfl) ?_
        refine lv_iload_n hx hb dX8_sortsHot_29 rfl (lv_at hl 3 rfl) ?_
        obtain ⟨r30_13, h30_13, hF⟩ := bndE hF
        refine rdV (As := [.int x4_5_7, .int p1, .int p2]) (rest := []) (C := RX8) ⟨hx, hb, hml, hown, hts⟩ (c_X8_isRead l D t z x a_t a_t_a v_t_fresh v_t_aside v_t_kept v_t_buffer (.ref a_t_moved) v_t_written t_keptMany t_thrown t_buffered t_size t_at t_behind t_kind t_number t_wrong t_wrongAt t_errorAt t_unused_5_8 t_writtenMany t_a_5_9 x4_5_7 p1 p2 H r30_13 h30_13) (cwV 3 hts gX8_sortsHot_X8_isRead rfl rfl rfl hd_X8_isRead ⟨Nat.le_of_ble_eq_true rfl, Nat.le_of_ble_eq_true rfl⟩) (hC.at hz hS) (selP (m9 := [true, true, false]) rfl rfl hP) 0 rfl (show vwCl[8]? = some (RX8, TX8, 20) from rfl) rfl rfl hl.1 rfl (Nat.le_of_ble_eq_true rfl) dX8_sortsHot_30 ⟨Nat.zero_le _, Nat.zero_le _⟩ rfl ?_
        refine lv_if_eq (tgt := 113) hx hb dX8_sortsHot_33 (by decide) (fun c33 => ?_) (fun c33 => ?_)
        · have hF := brT c33 hF
          obtain ⟨y113_15, ey113_15⟩ : ∃ y : Int32, y = x4_5_7 + 1 := ⟨_, rfl⟩
          have hF := ltE ey113_15 hF
          refine lv_iinc (v := y113_15) (lv' := [(4, .int y113_15), (5, .int r20_11), (0, .ref a_t), (1, .int p1), (2, .int p2), (3, .int x3_5_6)]) hx hb dX8_sortsHot_113 hl (k := 5) rfl (by rw [ey113_15]; rfl) (by decide) rfl (fun ls hl => ?_)
          refine lv_goto (tgt := 5) hx hb dX8_sortsHot_116 (by decide) ?_
          exact ih5 x3_5_6 y113_15 t_unused_5_8 t_a_5_9 t_moved_5_10 H locs ls hP hD hS (lv_sub hl [2, 3, 4, 5, 0] rfl) hF
        · have hF := brF c33 hF
          refine lv_aload_n hx hb dX8_sortsHot_36 rfl (lv_at hl 1 rfl) ?_
          refine lv_iload hx hb dX8_sortsHot_37 (lv_at hl 5 rfl) ?_
          refine lv_iconst (v := 3) hx hb dX8_sortsHot_39 (by decide) ?_
          obtain ⟨r40_16, h40_16, hF⟩ := bndE hF
          refine rdV (As := [.int x4_5_7, .int 3]) (rest := []) (C := RX8) ⟨hx, hb, hml, hown, hts⟩ (c_X8_of l D t z x a_t a_t_a v_t_fresh v_t_aside v_t_kept v_t_buffer (.ref a_t_moved) v_t_written t_keptMany t_thrown t_buffered t_size t_at t_behind t_kind t_number t_wrong t_wrongAt t_errorAt t_unused_5_8 t_writtenMany t_a_5_9 x4_5_7 3 H r40_16 h40_16) (cwV 2 hts gX8_sortsHot_X8_of rfl rfl rfl hd_X8_of ⟨Nat.le_of_ble_eq_true rfl, Nat.le_of_ble_eq_true rfl⟩) (hC.at hz hS) (selP (m9 := [true, true, false]) rfl rfl hP) 0 rfl (show vwCl[8]? = some (RX8, TX8, 20) from rfl) rfl rfl hl.1 rfl (Nat.le_of_ble_eq_true rfl) dX8_sortsHot_40 ⟨Nat.zero_le _, Nat.zero_le _⟩ rfl ?_
          refine lv_iconst (v := 1) hx hb dX8_sortsHot_43 (by decide) ?_
          refine lv_icmp_eq (tgt := 113) hx hb dX8_sortsHot_44 (by decide) (fun c44 => ?_) (fun c44 => ?_)
          · have hF := brT c44 hF
            obtain ⟨y113_18, ey113_18⟩ : ∃ y : Int32, y = x4_5_7 + 1 := ⟨_, rfl⟩
            have hF := ltE ey113_18 hF
            refine lv_iinc (v := y113_18) (lv' := [(4, .int y113_18), (5, .int r20_11), (0, .ref a_t), (1, .int p1), (2, .int p2), (3, .int x3_5_6)]) hx hb dX8_sortsHot_113 hl (k := 5) rfl (by rw [ey113_18]; rfl) (by decide) rfl (fun ls hl => ?_)
            refine lv_goto (tgt := 5) hx hb dX8_sortsHot_116 (by decide) ?_
            exact ih5 x3_5_6 y113_18 t_unused_5_8 t_a_5_9 t_moved_5_10 H locs ls hP hD hS (lv_sub hl [2, 3, 4, 5, 0] rfl) hF
          · have hF := brF c44 hF
            refine lv_aload_n hx hb dX8_sortsHot_47 rfl (lv_at hl 1 rfl) ?_
            refine lv_iload hx hb dX8_sortsHot_48 (lv_at hl 5 rfl) ?_
            refine lv_iconst (v := 2) hx hb dX8_sortsHot_50 (by decide) ?_
            obtain ⟨r51_19, h51_19, hF⟩ := bndE hF
            refine rdV (As := [.int x4_5_7, .int 2]) (rest := []) (C := RX8) ⟨hx, hb, hml, hown, hts⟩ (c_X8_of l D t z x a_t a_t_a v_t_fresh v_t_aside v_t_kept v_t_buffer (.ref a_t_moved) v_t_written t_keptMany t_thrown t_buffered t_size t_at t_behind t_kind t_number t_wrong t_wrongAt t_errorAt t_unused_5_8 t_writtenMany t_a_5_9 x4_5_7 2 H r51_19 h51_19) (cwV 2 hts gX8_sortsHot_X8_of rfl rfl rfl hd_X8_of ⟨Nat.le_of_ble_eq_true rfl, Nat.le_of_ble_eq_true rfl⟩) (hC.at hz hS) (selP (m9 := [true, true, false]) rfl rfl hP) 0 rfl (show vwCl[8]? = some (RX8, TX8, 20) from rfl) rfl rfl hl.1 rfl (Nat.le_of_ble_eq_true rfl) dX8_sortsHot_51 ⟨Nat.zero_le _, Nat.zero_le _⟩ rfl ?_
            refine lv_aload_n hx hb dX8_sortsHot_54 rfl (lv_at hl 1 rfl) ?_
            refine va_get (D := D) (ci := 8) (v := .ref a_t_a) (C := RX8) (T := TX8) (N := 20) hx hb hts iw8 hown hK hP 0 rfl rfl 0 (by decide) hf7 (fun _ h9 => h9) rfl dX8_sortsHot_55 ?_
            refine lv_iconst (v := 4) hx hb dX8_sortsHot_58 (by decide) ?_
            refine my_iald (v := t_a_5_9 4) hx hb hK hP 1 0 rfl rfl (vp_lit (by decide +kernel)) rfl dX8_sortsHot_59 ?_
            refine lv_icmp_lt (tgt := 113) hx hb dX8_sortsHot_60 (by decide) (fun c60 => ?_) (fun c60 => ?_)
            · have hF := brT c60 hF
              obtain ⟨y113_21, ey113_21⟩ : ∃ y : Int32, y = x4_5_7 + 1 := ⟨_, rfl⟩
              have hF := ltE ey113_21 hF
              refine lv_iinc (v := y113_21) (lv' := [(4, .int y113_21), (5, .int r20_11), (0, .ref a_t), (1, .int p1), (2, .int p2), (3, .int x3_5_6)]) hx hb dX8_sortsHot_113 hl (k := 5) rfl (by rw [ey113_21]; rfl) (by decide) rfl (fun ls hl => ?_)
              refine lv_goto (tgt := 5) hx hb dX8_sortsHot_116 (by decide) ?_
              exact ih5 x3_5_6 y113_21 t_unused_5_8 t_a_5_9 t_moved_5_10 H locs ls hP hD hS (lv_sub hl [2, 3, 4, 5, 0] rfl) hF
            · have hF := brF c60 hF
              refine lv_iload hx hb dX8_sortsHot_63 (lv_at hl 0 rfl) ?_
              refine lv_iconst (v := 2) hx hb dX8_sortsHot_65 (by decide) ?_
              refine lv_aload_n hx hb dX8_sortsHot_66 rfl (lv_at hl 1 rfl) ?_
              refine va_get (D := D) (ci := 8) (v := .ref a_t_a) (C := RX8) (T := TX8) (N := 20) hx hb hts iw8 hown hK hP 0 rfl rfl 0 (by decide) hf7 (fun _ h9 => h9) rfl dX8_sortsHot_67 ?_
              refine lv_iconst (v := 5) hx hb dX8_sortsHot_70 (by decide) ?_
              refine my_iald (v := t_a_5_9 5) hx hb hK hP 1 0 rfl rfl (vp_lit (by decide +kernel)) rfl dX8_sortsHot_71 ?_
              obtain ⟨r72_22, h72_22, hF⟩ := bndE hF
              refine rdS (As := [.int r20_11, .int 2, .int (t_a_5_9 5)]) (rest := []) ⟨hx, hb, hml, hown, hts⟩ (c_X8_isIn l D t z x r20_11 2 (t_a_5_9 5) H r72_22 h72_22) (va_cwS 3 hts gX8_sortsHot_X8_isIn rfl rfl rfl hd_X8_isIn.2 ⟨Nat.le_of_ble_eq_true rfl, Nat.le_of_ble_eq_true rfl⟩) (hC.at hz hS) (selP (m9 := [false, false, false]) rfl rfl hP) rfl hl.1 rfl (Nat.le_of_ble_eq_true rfl) dX8_sortsHot_72 ⟨Nat.zero_le _, Nat.zero_le _⟩ rfl ?_
              refine lv_if_ne (tgt := 81) hx hb dX8_sortsHot_75 (by decide) (fun c75 => ?_) (fun c75 => ?_)
              · have hF := brF c75 hF
                refine lv_aload_n hx hb dX8_sortsHot_81 rfl (lv_at hl 1 rfl) ?_
                refine lv_aload_n hx hb dX8_sortsHot_82 rfl (lv_at hl 1 rfl) ?_
                refine lv_iload hx hb dX8_sortsHot_83 (lv_at hl 5 rfl) ?_
                obtain ⟨r85_24, t_a_85_25, t_moved_85_26, h85_26, hF⟩ := bnd3E hF
                refine wrVM (As := [.int x4_5_7]) (rest := [.ref a_t]) (C := RX8) (wn := [(a_t, .inr (8, [.ref a_t_a, v_t_fresh, v_t_aside, v_t_kept, .int t_keptMany, .int t_thrown, v_t_buffer, .int t_buffered, .int t_size, .int t_at, .int t_behind, .int t_kind, .int t_number, .int t_wrong, .int t_wrongAt, .int t_errorAt, .ref a_t_moved, .int t_unused_5_8, v_t_written, .int t_writtenMany])), (a_t_a, .inl (t 0, 876, .inl t_a_85_25)), (a_t_moved, .inl (t 0, 120, .inl t_moved_85_26))]) ⟨hx, hb, hml, hown, hts⟩ (c_X8_sorts l D t z x N a_t a_t_a a_t_moved v_t_fresh v_t_aside v_t_kept v_t_buffer v_t_written t_keptMany t_thrown t_buffered t_size t_at t_behind t_kind t_number t_wrong t_wrongAt t_errorAt t_unused_5_8 t_writtenMany t_a_5_9 t_moved_5_10 x4_5_7 H.size r85_24 t_a_85_25 t_moved_85_26 h85_26) (cwV 1 hts gX8_sortsHot_X8_sorts rfl rfl rfl hd_X8_sorts ⟨Nat.le_of_ble_eq_true rfl, Nat.le_of_ble_eq_true rfl⟩) (hC.at hz hS) hP hD hS hA hz [true, true, true] rfl rfl rfl rfl 0 rfl (show vwCl[8]? = some (RX8, TX8, 20) from rfl) rfl rfl hl.1 rfl (Nat.le_of_ble_eq_true rfl) dX8_sortsHot_85 ⟨Nat.zero_le _, Nat.zero_le _⟩ rfl (fun H locs hP hD hS => ?_)
                refine my_put (ty := .int) (v := .int r85_24) (ci := 8) (C := RX8) (T := TX8) (N := 20) (wn := [(a_t, .inr (8, [.ref a_t_a, v_t_fresh, v_t_aside, v_t_kept, .int t_keptMany, .int t_thrown, v_t_buffer, .int t_buffered, .int t_size, .int t_at, .int t_behind, .int t_kind, .int t_number, .int t_wrong, .int t_wrongAt, .int t_errorAt, .ref a_t_moved, .int r85_24, v_t_written, .int t_writtenMany])), (a_t_a, .inl (t 0, 876, .inl t_a_85_25)), (a_t_moved, .inl (t 0, 120, .inl t_moved_85_26))]) hx hb hts iw8 tyX8 tyX8_ok nmX8 hown hK hP hD hS 0 rfl rfl 17 (by decide) hf210 (fun _ h9 => h9) rfl (by decide +kernel) rfl rfl (Nat.le_of_ble_eq_true rfl) rfl dX8_sortsHot_88 (fun H locs hP hD hS => ?_)
                refine lv_aload_n hx hb dX8_sortsHot_91 rfl (lv_at hl 1 rfl) ?_
                refine va_get (D := D) (ci := 8) (v := .ref a_t_a) (C := RX8) (T := TX8) (N := 20) hx hb hts iw8 hown hK hP 0 rfl rfl 0 (by decide) hf7 (fun _ h9 => h9) rfl dX8_sortsHot_92 ?_
                refine lv_bipush (v := 17) hx hb dX8_sortsHot_95 (by decide) ?_
                refine lv_dup2_11 hx hb dX8_sortsHot_97 rfl rfl ?_
                refine my_iald (v := t_a_85_25 17) hx hb hK hP 1 0 rfl rfl (vp_lit (by decide +kernel)) rfl dX8_sortsHot_98 ?_
                refine lv_iconst (v := 1) hx hb dX8_sortsHot_99 (by decide) ?_
                refine lv_iadd hx hb dX8_sortsHot_100 ?_
                obtain ⟨t_a_101_28, et_a_101_28⟩ : ∃ y : Nat → Int32, y = upd t_a_85_25 17 ((t_a_85_25 17) + 1) := ⟨_, rfl⟩
                have hF := ltE et_a_101_28 hF
                refine my_iast (g := t_a_101_28) (wn := [(a_t, .inr (8, [.ref a_t_a, v_t_fresh, v_t_aside, v_t_kept, .int t_keptMany, .int t_thrown, v_t_buffer, .int t_buffered, .int t_size, .int t_at, .int t_behind, .int t_kind, .int t_number, .int t_wrong, .int t_wrongAt, .int t_errorAt, .ref a_t_moved, .int r85_24, v_t_written, .int t_writtenMany])), (a_t_a, .inl (t 0, 876, .inl t_a_101_28)), (a_t_moved, .inl (t 0, 120, .inl t_moved_85_26))]) hx hb hK hP hD hS 1 0 rfl rfl (vp_lit (by decide +kernel)) et_a_101_28 rfl dX8_sortsHot_101 (fun H locs hP hD hS => ?_)
                refine lv_iload_n hx hb dX8_sortsHot_102 rfl (lv_at hl 4 rfl) ?_
                refine lv_iload hx hb dX8_sortsHot_103 (lv_at hl 0 rfl) ?_
                refine lv_iload hx hb dX8_sortsHot_105 (lv_at hl 0 rfl) ?_
                obtain ⟨r107_29, h107_29, hF⟩ := bndE hF
                refine rdS (As := [.int r20_11]) (rest := [.int r20_11, .int x3_5_6]) ⟨hx, hb, hml, hown, hts⟩ (c_X8_logOf l D t z x N r20_11 H r107_29 h107_29) (va_cwS 1 hts gX8_sortsHot_X8_logOf rfl rfl rfl hd_X8_logOf.2 ⟨Nat.le_of_ble_eq_true rfl, Nat.le_of_ble_eq_true rfl⟩) (hC.at hz hS) (selP (m9 := [false, false, false]) rfl rfl hP) rfl hl.1 rfl (Nat.le_of_ble_eq_true rfl) dX8_sortsHot_107 ⟨Nat.zero_le _, Nat.zero_le _⟩ rfl ?_
                refine lv_imul hx hb dX8_sortsHot_110 ?_
                refine lv_iadd hx hb dX8_sortsHot_111 ?_
                refine lv_topi (fun y112_31 ey112_31 => ?_)
                have hF := ltE ey112_31 hF
                refine lv_istore_n (lv' := [(3, .int y112_31), (5, .int r20_11), (0, .ref a_t), (1, .int p1), (2, .int p2), (4, .int x4_5_7)]) hx hb dX8_sortsHot_112 rfl hl (by decide) rfl (fun ls hl => ?_)
                obtain ⟨y113_32, ey113_32⟩ : ∃ y : Int32, y = x4_5_7 + 1 := ⟨_, rfl⟩
                have hF := ltE ey113_32 hF
                refine lv_iinc (v := y113_32) (lv' := [(4, .int y113_32), (3, .int y112_31), (5, .int r20_11), (0, .ref a_t), (1, .int p1), (2, .int p2)]) hx hb dX8_sortsHot_113 hl (k := 5) rfl (by rw [ey113_32]; rfl) (by decide) rfl (fun ls hl => ?_)
                refine lv_goto (tgt := 5) hx hb dX8_sortsHot_116 (by decide) ?_
                exact ih5 y112_31 y113_32 r85_24 t_a_101_28 t_moved_85_26 H locs ls hP hD hS (lv_sub hl [3, 4, 5, 1, 0] rfl) hF
              · have hF := brT c75 hF
                refine lv_goto (tgt := 113) hx hb dX8_sortsHot_78 (by decide) ?_
                obtain ⟨y113_33, ey113_33⟩ : ∃ y : Int32, y = x4_5_7 + 1 := ⟨_, rfl⟩
                have hF := ltE ey113_33 hF
                refine lv_iinc (v := y113_33) (lv' := [(4, .int y113_33), (5, .int r20_11), (0, .ref a_t), (1, .int p1), (2, .int p2), (3, .int x3_5_6)]) hx hb dX8_sortsHot_113 hl (k := 5) rfl (by rw [ey113_33]; rfl) (by decide) rfl (fun ls hl => ?_)
                refine lv_goto (tgt := 5) hx hb dX8_sortsHot_116 (by decide) ?_
                exact ih5 x3_5_6 y113_33 t_unused_5_8 t_a_5_9 t_moved_5_10 H locs ls hP hD hS (lv_sub hl [2, 3, 4, 5, 0] rfl) hF
  exact hlp5 N 0 0 t_unused t_a_ t_moved_ H locs ls hP hD hS (lv_sub hl [2, 3, 4, 1, 0] rfl) hF
abbrev rm_X8_queries : Room := { frames := 5, cells := 0, slots := 0, locals := 117 }
theorem hd_X8_queries : yX8_queries.cls = RX8 ∧ yX8_queries.cls ≠ "java/lang/invoke/MethodHandle" ∧ yX8_queries.cls ≠ "java/lang/invoke/VarHandle" ∧ (parseMethodDescriptor yX8_queries.desc).map (fun d => d.parameters.length) = some 2 := by decide +kernel
set_option maxRecDepth 100000 in
set_option maxHeartbeats 4000000 in
theorem c_X8_queries (l : Launch) (D : va_G) (t : Nat → ClassId) (z : Nat) (x : Nat → Nat) (N : Nat) (a_t : Nat) (a_t_a : Nat) (a_t_moved : Nat) (v_t_fresh : Value) (v_t_aside : Value) (v_t_kept : Value) (v_t_buffer : Value) (v_t_written : Value) (t_keptMany : Int32) (t_thrown : Int32) (t_buffered : Int32) (t_size : Int32) (t_at : Int32) (t_behind : Int32) (t_kind : Int32) (t_number : Int32) (t_wrong : Int32) (t_wrongAt : Int32) (t_errorAt : Int32) (t_unused : Int32) (t_writtenMany : Int32) (t_a_ : (Nat → Int32)) (t_moved_ : (Nat → Int32)) (p1 : Int32) (p2 : Int32) (sz : Nat) (t_unused' : Int32) (t_a_' : (Nat → Int32)) (t_moved_' : (Nat → Int32)) (hF : f_X8_queries N t_unused t_a_ t_moved_ p1 p2 = some (t_unused', t_a_', t_moved_')) : WrM l D (TY t) z x yX8_queries wsX8_queries rm_X8_queries [.ref a_t, .int p1, .int p2] [(a_t, .inr (8, [.ref a_t_a, v_t_fresh, v_t_aside, v_t_kept, .int t_keptMany, .int t_thrown, v_t_buffer, .int t_buffered, .int t_size, .int t_at, .int t_behind, .int t_kind, .int t_number, .int t_wrong, .int t_wrongAt, .int t_errorAt, .ref a_t_moved, .int t_unused, v_t_written, .int t_writtenMany])), (a_t_a, .inl (t 0, 876, .inl t_a_)), (a_t_moved, .inl (t 0, 120, .inl t_moved_))] [(a_t, .inr (8, [.ref a_t_a, v_t_fresh, v_t_aside, v_t_kept, .int t_keptMany, .int t_thrown, v_t_buffer, .int t_buffered, .int t_size, .int t_at, .int t_behind, .int t_kind, .int t_number, .int t_wrong, .int t_wrongAt, .int t_errorAt, .ref a_t_moved, .int t_unused', v_t_written, .int t_writtenMany])), (a_t_a, .inl (t 0, 876, .inl t_a_')), (a_t_moved, .inl (t 0, 120, .inl t_moved_'))] sz none 0 0 := by
  refine wr_of (cc := cX8_queries) (maxL := 4) (ret := none) (by decide) rfl (Nat.le_of_ble_eq_true rfl) ?_
  intro p e s m args below meth c A Q hQ hx hb hr hml hts hown hlocks hin H locs hP hD hS hA hz hC ls hl
  have hown : s.vm.findClass RX8 = some m.cls := hown
  have hl : lv_has ls 4 [(0, .ref a_t), (1, .int p1), (2, .int p2)] := hl
  have hK := hC.1
  have iw8 : ∀ w ∈ wsX80, w ∈ wsX8_queries := fun _ h => List.mem_cons_of_mem _ (List.mem_append_right _ h)
  have hf7 := hts (.fieldLink RX8 7 "CrackedColumnModel" "a" "[I") (by decide +kernel)
  unfold f_X8_queries at hF
  refine lv_iconst (v := 0) hx hb dX8_queries_0 (by decide) ?_
  refine lv_istore_n (lv' := [(3, .int 0), (0, .ref a_t), (1, .int p1), (2, .int p2)]) hx hb dX8_queries_1 rfl hl (by decide) rfl (fun ls hl => ?_)
  obtain ⟨k38_2, ek38_2, hF⟩ := jnE hF
  have hk38_2 : ∀ (t_a_38_1 : (Nat → Int32)) (H : Heap) (locs : List Loc) (ls : Array Slot), va_P D vwCl [(a_t, .inr (8, [.ref a_t_a, v_t_fresh, v_t_aside, v_t_kept, .int t_keptMany, .int t_thrown, v_t_buffer, .int t_buffered, .int t_size, .int t_at, .int t_behind, .int t_kind, .int t_number, .int t_wrong, .int t_wrongAt, .int t_errorAt, .ref a_t_moved, .int t_unused, v_t_written, .int t_writtenMany])), (a_t_a, .inl (t 0, 876, .inl t_a_38_1)), (a_t_moved, .inl (t 0, 120, .inl t_moved_))] H → va_D A [(a_t, .inr (8, [.ref a_t_a, v_t_fresh, v_t_aside, v_t_kept, .int t_keptMany, .int t_thrown, v_t_buffer, .int t_buffered, .int t_size, .int t_at, .int t_behind, .int t_kind, .int t_number, .int t_wrong, .int t_wrongAt, .int t_errorAt, .ref a_t_moved, .int t_unused, v_t_written, .int t_writtenMany])), (a_t_a, .inl (t 0, 876, .inl t_a_38_1)), (a_t_moved, .inl (t 0, 120, .inl t_moved_))] → va_S A s.heap H locs → lv_has ls 4 [(0, .ref a_t), (1, .int p1), (2, .int p2)] → k38_2 t_a_38_1 = some (t_unused', t_a_', t_moved_') → W p l e rm_X8_queries s m args below meth c H locs 0 0 Q (F0 m 38 ls []) := by
    subst ek38_2
    intro t_a_38_1 H locs ls hP hD hS hl hF
    refine lv_aload_n hx hb dX8_queries_38 rfl (lv_at hl 0 rfl) ?_
    refine va_get (D := D) (ci := 8) (v := .ref a_t_a) (C := RX8) (T := TX8) (N := 20) hx hb hts iw8 hown hK hP 0 rfl rfl 0 (by decide) hf7 (fun _ h9 => h9) rfl dX8_queries_39 ?_
    refine lv_bipush (v := 9) hx hb dX8_queries_42 (by decide) ?_
    refine lv_iconst (v := 1) hx hb dX8_queries_44 (by decide) ?_
    obtain ⟨t_a_45_3, et_a_45_3⟩ : ∃ y : Nat → Int32, y = upd t_a_38_1 9 1 := ⟨_, rfl⟩
    have hF := ltE et_a_45_3 hF
    refine my_iast (g := t_a_45_3) (wn := [(a_t, .inr (8, [.ref a_t_a, v_t_fresh, v_t_aside, v_t_kept, .int t_keptMany, .int t_thrown, v_t_buffer, .int t_buffered, .int t_size, .int t_at, .int t_behind, .int t_kind, .int t_number, .int t_wrong, .int t_wrongAt, .int t_errorAt, .ref a_t_moved, .int t_unused, v_t_written, .int t_writtenMany])), (a_t_a, .inl (t 0, 876, .inl t_a_45_3)), (a_t_moved, .inl (t 0, 120, .inl t_moved_))]) hx hb hK hP hD hS 1 0 rfl rfl (vp_lit (by decide +kernel)) et_a_45_3 rfl dX8_queries_45 (fun H locs hP hD hS => ?_)
    refine lv_aload_n hx hb dX8_queries_46 rfl (lv_at hl 0 rfl) ?_
    refine lv_iload_n hx hb dX8_queries_47 rfl (lv_at hl 1 rfl) ?_
    refine lv_iload_n hx hb dX8_queries_48 rfl (lv_at hl 2 rfl) ?_
    obtain ⟨r49_4, t_a_49_5, h49_5, hF⟩ := bnd2E hF
    refine wrVM (As := [.int p1, .int p2]) (rest := []) (C := RX8) (wn := [(a_t, .inr (8, [.ref a_t_a, v_t_fresh, v_t_aside, v_t_kept, .int t_keptMany, .int t_thrown, v_t_buffer, .int t_buffered, .int t_size, .int t_at, .int t_behind, .int t_kind, .int t_number, .int t_wrong, .int t_wrongAt, .int t_errorAt, .ref a_t_moved, .int t_unused, v_t_written, .int t_writtenMany])), (a_t_a, .inl (t 0, 876, .inl t_a_49_5)), (a_t_moved, .inl (t 0, 120, .inl t_moved_))]) ⟨hx, hb, hml, hown, hts⟩ (c_X8_mergesIn l D t z x N a_t a_t_a v_t_fresh v_t_aside v_t_kept v_t_buffer (.ref a_t_moved) v_t_written t_keptMany t_thrown t_buffered t_size t_at t_behind t_kind t_number t_wrong t_wrongAt t_errorAt t_unused t_writtenMany t_a_45_3 p1 p2 H.size r49_4 t_a_49_5 h49_5) (cwV 2 hts gX8_queries_X8_mergesIn rfl rfl rfl hd_X8_mergesIn ⟨Nat.le_of_ble_eq_true rfl, Nat.le_of_ble_eq_true rfl⟩) (hC.at hz hS) hP hD hS hA hz [true, true, false] rfl rfl rfl rfl 0 rfl (show vwCl[8]? = some (RX8, TX8, 20) from rfl) rfl rfl hl.1 rfl (Nat.le_of_ble_eq_true rfl) dX8_queries_49 ⟨Nat.zero_le _, Nat.zero_le _⟩ rfl (fun H locs hP hD hS => ?_)
    refine lv_istore_n (lv' := [(3, .int r49_4), (0, .ref a_t), (1, .int p1), (2, .int p2)]) hx hb dX8_queries_52 rfl hl (by decide) rfl (fun ls hl => ?_)
    refine lv_iload_n hx hb dX8_queries_53 rfl (lv_at hl 0 rfl) ?_
    refine lv_aload_n hx hb dX8_queries_54 rfl (lv_at hl 1 rfl) ?_
    refine lv_iload_n hx hb dX8_queries_55 rfl (lv_at hl 2 rfl) ?_
    obtain ⟨r56_7, t_a_56_8, t_moved_56_9, h56_9, hF⟩ := bnd3E hF
    refine wrVM (As := [.int p1]) (rest := [.int r49_4]) (C := RX8) (wn := [(a_t, .inr (8, [.ref a_t_a, v_t_fresh, v_t_aside, v_t_kept, .int t_keptMany, .int t_thrown, v_t_buffer, .int t_buffered, .int t_size, .int t_at, .int t_behind, .int t_kind, .int t_number, .int t_wrong, .int t_wrongAt, .int t_errorAt, .ref a_t_moved, .int t_unused, v_t_written, .int t_writtenMany])), (a_t_a, .inl (t 0, 876, .inl t_a_56_8)), (a_t_moved, .inl (t 0, 120, .inl t_moved_56_9))]) ⟨hx, hb, hml, hown, hts⟩ (c_X8_cracks l D t z x N a_t a_t_a a_t_moved v_t_fresh v_t_aside v_t_kept v_t_buffer v_t_written t_keptMany t_thrown t_buffered t_size t_at t_behind t_kind t_number t_wrong t_wrongAt t_errorAt t_unused t_writtenMany t_a_49_5 t_moved_ p1 H.size r56_7 t_a_56_8 t_moved_56_9 h56_9) (cwV 1 hts gX8_queries_X8_cracks rfl rfl rfl hd_X8_cracks ⟨Nat.le_of_ble_eq_true rfl, Nat.le_of_ble_eq_true rfl⟩) (hC.at hz hS) hP hD hS hA hz [true, true, true] rfl rfl rfl rfl 0 rfl (show vwCl[8]? = some (RX8, TX8, 20) from rfl) rfl rfl hl.1 rfl (Nat.le_of_ble_eq_true rfl) dX8_queries_56 ⟨Nat.zero_le _, Nat.zero_le _⟩ rfl (fun H locs hP hD hS => ?_)
    refine lv_iadd hx hb dX8_queries_59 ?_
    refine lv_topi (fun y60_11 ey60_11 => ?_)
    have hF := ltE ey60_11 hF
    refine lv_istore_n (lv' := [(3, .int y60_11), (0, .ref a_t), (1, .int p1), (2, .int p2)]) hx hb dX8_queries_60 rfl hl (by decide) rfl (fun ls hl => ?_)
    refine lv_iload_n hx hb dX8_queries_61 rfl (lv_at hl 0 rfl) ?_
    refine lv_aload_n hx hb dX8_queries_62 rfl (lv_at hl 1 rfl) ?_
    refine lv_iload_n hx hb dX8_queries_63 rfl (lv_at hl 3 rfl) ?_
    obtain ⟨r64_12, t_a_64_13, t_moved_64_14, h64_14, hF⟩ := bnd3E hF
    refine wrVM (As := [.int p2]) (rest := [.int y60_11]) (C := RX8) (wn := [(a_t, .inr (8, [.ref a_t_a, v_t_fresh, v_t_aside, v_t_kept, .int t_keptMany, .int t_thrown, v_t_buffer, .int t_buffered, .int t_size, .int t_at, .int t_behind, .int t_kind, .int t_number, .int t_wrong, .int t_wrongAt, .int t_errorAt, .ref a_t_moved, .int t_unused, v_t_written, .int t_writtenMany])), (a_t_a, .inl (t 0, 876, .inl t_a_64_13)), (a_t_moved, .inl (t 0, 120, .inl t_moved_64_14))]) ⟨hx, hb, hml, hown, hts⟩ (c_X8_cracks l D t z x N a_t a_t_a a_t_moved v_t_fresh v_t_aside v_t_kept v_t_buffer v_t_written t_keptMany t_thrown t_buffered t_size t_at t_behind t_kind t_number t_wrong t_wrongAt t_errorAt t_unused t_writtenMany t_a_56_8 t_moved_56_9 p2 H.size r64_12 t_a_64_13 t_moved_64_14 h64_14) (cwV 1 hts gX8_queries_X8_cracks rfl rfl rfl hd_X8_cracks ⟨Nat.le_of_ble_eq_true rfl, Nat.le_of_ble_eq_true rfl⟩) (hC.at hz hS) hP hD hS hA hz [true, true, true] rfl rfl rfl rfl 0 rfl (show vwCl[8]? = some (RX8, TX8, 20) from rfl) rfl rfl hl.1 rfl (Nat.le_of_ble_eq_true rfl) dX8_queries_64 ⟨Nat.zero_le _, Nat.zero_le _⟩ rfl (fun H locs hP hD hS => ?_)
    refine lv_iadd hx hb dX8_queries_67 ?_
    refine lv_topi (fun y68_16 ey68_16 => ?_)
    have hF := ltE ey68_16 hF
    refine lv_istore_n (lv' := [(3, .int y68_16), (0, .ref a_t), (1, .int p1), (2, .int p2)]) hx hb dX8_queries_68 rfl hl (by decide) rfl (fun ls hl => ?_)
    refine lv_iload_n hx hb dX8_queries_69 rfl (lv_at hl 0 rfl) ?_
    refine lv_aload_n hx hb dX8_queries_70 rfl (lv_at hl 1 rfl) ?_
    refine lv_iload_n hx hb dX8_queries_71 rfl (lv_at hl 2 rfl) ?_
    refine lv_iload_n hx hb dX8_queries_72 rfl (lv_at hl 3 rfl) ?_
    obtain ⟨r73_17, t_a_73_18, h73_18, hF⟩ := bnd2E hF
    refine wrVM (As := [.int p1, .int p2]) (rest := [.int y68_16]) (C := RX8) (wn := [(a_t, .inr (8, [.ref a_t_a, v_t_fresh, v_t_aside, v_t_kept, .int t_keptMany, .int t_thrown, v_t_buffer, .int t_buffered, .int t_size, .int t_at, .int t_behind, .int t_kind, .int t_number, .int t_wrong, .int t_wrongAt, .int t_errorAt, .ref a_t_moved, .int t_unused, v_t_written, .int t_writtenMany])), (a_t_a, .inl (t 0, 876, .inl t_a_73_18)), (a_t_moved, .inl (t 0, 120, .inl t_moved_64_14))]) ⟨hx, hb, hml, hown, hts⟩ (c_X8_readsPieces l D t z x N a_t a_t_a v_t_fresh v_t_aside v_t_kept v_t_buffer (.ref a_t_moved) v_t_written t_keptMany t_thrown t_buffered t_size t_at t_behind t_kind t_number t_wrong t_wrongAt t_errorAt t_unused t_writtenMany t_a_64_13 p1 p2 H.size r73_17 t_a_73_18 h73_18) (cwV 2 hts gX8_queries_X8_readsPieces rfl rfl rfl hd_X8_readsPieces ⟨Nat.le_of_ble_eq_true rfl, Nat.le_of_ble_eq_true rfl⟩) (hC.at hz hS) hP hD hS hA hz [true, true, false] rfl rfl rfl rfl 0 rfl (show vwCl[8]? = some (RX8, TX8, 20) from rfl) rfl rfl hl.1 rfl (Nat.le_of_ble_eq_true rfl) dX8_queries_73 ⟨Nat.zero_le _, Nat.zero_le _⟩ rfl (fun H locs hP hD hS => ?_)
    refine lv_iadd hx hb dX8_queries_76 ?_
    refine lv_topi (fun y77_20 ey77_20 => ?_)
    have hF := ltE ey77_20 hF
    refine lv_istore_n (lv' := [(3, .int y77_20), (0, .ref a_t), (1, .int p1), (2, .int p2)]) hx hb dX8_queries_77 rfl hl (by decide) rfl (fun ls hl => ?_)
    refine lv_iload_n hx hb dX8_queries_78 rfl (lv_at hl 0 rfl) ?_
    refine lv_aload_n hx hb dX8_queries_79 rfl (lv_at hl 1 rfl) ?_
    refine lv_iload_n hx hb dX8_queries_80 rfl (lv_at hl 2 rfl) ?_
    refine lv_iload_n hx hb dX8_queries_81 rfl (lv_at hl 3 rfl) ?_
    obtain ⟨r82_21, t_unused_82_22, t_a_82_23, t_moved_82_24, h82_24, hF⟩ := bnd4E hF
    refine wrVM (As := [.int p1, .int p2]) (rest := [.int y77_20]) (C := RX8) (wn := [(a_t, .inr (8, [.ref a_t_a, v_t_fresh, v_t_aside, v_t_kept, .int t_keptMany, .int t_thrown, v_t_buffer, .int t_buffered, .int t_size, .int t_at, .int t_behind, .int t_kind, .int t_number, .int t_wrong, .int t_wrongAt, .int t_errorAt, .ref a_t_moved, .int t_unused_82_22, v_t_written, .int t_writtenMany])), (a_t_a, .inl (t 0, 876, .inl t_a_82_23)), (a_t_moved, .inl (t 0, 120, .inl t_moved_82_24))]) ⟨hx, hb, hml, hown, hts⟩ (c_X8_sortsHot l D t z x N a_t a_t_a a_t_moved v_t_fresh v_t_aside v_t_kept v_t_buffer v_t_written t_keptMany t_thrown t_buffered t_size t_at t_behind t_kind t_number t_wrong t_wrongAt t_errorAt t_unused t_writtenMany t_a_73_18 t_moved_64_14 p1 p2 H.size r82_21 t_unused_82_22 t_a_82_23 t_moved_82_24 h82_24) (cwV 2 hts gX8_queries_X8_sortsHot rfl rfl rfl hd_X8_sortsHot ⟨Nat.le_of_ble_eq_true rfl, Nat.le_of_ble_eq_true rfl⟩) (hC.at hz hS) hP hD hS hA hz [true, true, true] rfl rfl rfl rfl 0 rfl (show vwCl[8]? = some (RX8, TX8, 20) from rfl) rfl rfl hl.1 rfl (Nat.le_of_ble_eq_true rfl) dX8_queries_82 ⟨Nat.zero_le _, Nat.zero_le _⟩ rfl (fun H locs hP hD hS => ?_)
    refine lv_iadd hx hb dX8_queries_85 ?_
    refine lv_topi (fun y86_26 ey86_26 => ?_)
    have hF := ltE ey86_26 hF
    refine lv_istore_n (lv' := [(3, .int y86_26), (0, .ref a_t), (1, .int p1), (2, .int p2)]) hx hb dX8_queries_86 rfl hl (by decide) rfl (fun ls hl => ?_)
    obtain ⟨k125_28, ek125_28, hF⟩ := jnE hF
    have hk125_28 : ∀ (t_a_125_27 : (Nat → Int32)) (H : Heap) (locs : List Loc) (ls : Array Slot), va_P D vwCl [(a_t, .inr (8, [.ref a_t_a, v_t_fresh, v_t_aside, v_t_kept, .int t_keptMany, .int t_thrown, v_t_buffer, .int t_buffered, .int t_size, .int t_at, .int t_behind, .int t_kind, .int t_number, .int t_wrong, .int t_wrongAt, .int t_errorAt, .ref a_t_moved, .int t_unused_82_22, v_t_written, .int t_writtenMany])), (a_t_a, .inl (t 0, 876, .inl t_a_125_27)), (a_t_moved, .inl (t 0, 120, .inl t_moved_82_24))] H → va_D A [(a_t, .inr (8, [.ref a_t_a, v_t_fresh, v_t_aside, v_t_kept, .int t_keptMany, .int t_thrown, v_t_buffer, .int t_buffered, .int t_size, .int t_at, .int t_behind, .int t_kind, .int t_number, .int t_wrong, .int t_wrongAt, .int t_errorAt, .ref a_t_moved, .int t_unused_82_22, v_t_written, .int t_writtenMany])), (a_t_a, .inl (t 0, 876, .inl t_a_125_27)), (a_t_moved, .inl (t 0, 120, .inl t_moved_82_24))] → va_S A s.heap H locs → lv_has ls 4 [(0, .ref a_t), (3, .int y86_26)] → k125_28 t_a_125_27 = some (t_unused', t_a_', t_moved_') → W p l e rm_X8_queries s m args below meth c H locs 0 0 Q (F0 m 125 ls []) := by
      subst ek125_28
      intro t_a_125_27 H locs ls hP hD hS hl hF
      refine lv_aload_n hx hb dX8_queries_125 rfl (lv_at hl 0 rfl) ?_
      refine va_get (D := D) (ci := 8) (v := .ref a_t_a) (C := RX8) (T := TX8) (N := 20) hx hb hts iw8 hown hK hP 0 rfl rfl 0 (by decide) hf7 (fun _ h9 => h9) rfl dX8_queries_126 ?_
      refine lv_bipush (v := 14) hx hb dX8_queries_129 (by decide) ?_
      refine lv_iload_n hx hb dX8_queries_131 rfl (lv_at hl 1 rfl) ?_
      obtain ⟨t_a_132_29, et_a_132_29⟩ : ∃ y : Nat → Int32, y = upd t_a_125_27 14 y86_26 := ⟨_, rfl⟩
      have hF := ltE et_a_132_29 hF
      refine my_iast (g := t_a_132_29) (wn := [(a_t, .inr (8, [.ref a_t_a, v_t_fresh, v_t_aside, v_t_kept, .int t_keptMany, .int t_thrown, v_t_buffer, .int t_buffered, .int t_size, .int t_at, .int t_behind, .int t_kind, .int t_number, .int t_wrong, .int t_wrongAt, .int t_errorAt, .ref a_t_moved, .int t_unused_82_22, v_t_written, .int t_writtenMany])), (a_t_a, .inl (t 0, 876, .inl t_a_132_29)), (a_t_moved, .inl (t 0, 120, .inl t_moved_82_24))]) hx hb hK hP hD hS 1 0 rfl rfl (vp_lit (by decide +kernel)) et_a_132_29 rfl dX8_queries_132 (fun H locs hP hD hS => ?_)
      refine lv_aload_n hx hb dX8_queries_133 rfl (lv_at hl 0 rfl) ?_
      refine va_get (D := D) (ci := 8) (v := .ref a_t_a) (C := RX8) (T := TX8) (N := 20) hx hb hts iw8 hown hK hP 0 rfl rfl 0 (by decide) hf7 (fun _ h9 => h9) rfl dX8_queries_134 ?_
      refine lv_bipush (v := 8) hx hb dX8_queries_137 (by decide) ?_
      refine lv_dup2_11 hx hb dX8_queries_139 rfl rfl ?_
      refine my_iald (v := t_a_132_29 8) hx hb hK hP 1 0 rfl rfl (vp_lit (by decide +kernel)) rfl dX8_queries_140 ?_
      refine lv_iload_n hx hb dX8_queries_141 rfl (lv_at hl 1 rfl) ?_
      refine lv_iadd hx hb dX8_queries_142 ?_
      obtain ⟨t_a_143_30, et_a_143_30⟩ : ∃ y : Nat → Int32, y = upd t_a_132_29 8 ((t_a_132_29 8) + y86_26) := ⟨_, rfl⟩
      have hF := ltE et_a_143_30 hF
      refine my_iast (g := t_a_143_30) (wn := [(a_t, .inr (8, [.ref a_t_a, v_t_fresh, v_t_aside, v_t_kept, .int t_keptMany, .int t_thrown, v_t_buffer, .int t_buffered, .int t_size, .int t_at, .int t_behind, .int t_kind, .int t_number, .int t_wrong, .int t_wrongAt, .int t_errorAt, .ref a_t_moved, .int t_unused_82_22, v_t_written, .int t_writtenMany])), (a_t_a, .inl (t 0, 876, .inl t_a_143_30)), (a_t_moved, .inl (t 0, 120, .inl t_moved_82_24))]) hx hb hK hP hD hS 1 0 rfl rfl (vp_lit (by decide +kernel)) et_a_143_30 rfl dX8_queries_143 (fun H locs hP hD hS => ?_)
      cases hF
      exact we_vret hx hb hr hlocks dX8_queries_144 rfl hQ hP hD hS
    have hlp87 : ∀ n87 : Nat, ∀ (t_a_87_31 : (Nat → Int32)) (H : Heap) (locs : List Loc) (ls : Array Slot), va_P D vwCl [(a_t, .inr (8, [.ref a_t_a, v_t_fresh, v_t_aside, v_t_kept, .int t_keptMany, .int t_thrown, v_t_buffer, .int t_buffered, .int t_size, .int t_at, .int t_behind, .int t_kind, .int t_number, .int t_wrong, .int t_wrongAt, .int t_errorAt, .ref a_t_moved, .int t_unused_82_22, v_t_written, .int t_writtenMany])), (a_t_a, .inl (t 0, 876, .inl t_a_87_31)), (a_t_moved, .inl (t 0, 120, .inl t_moved_82_24))] H → va_D A [(a_t, .inr (8, [.ref a_t_a, v_t_fresh, v_t_aside, v_t_kept, .int t_keptMany, .int t_thrown, v_t_buffer, .int t_buffered, .int t_size, .int t_at, .int t_behind, .int t_kind, .int t_number, .int t_wrong, .int t_wrongAt, .int t_errorAt, .ref a_t_moved, .int t_unused_82_22, v_t_written, .int t_writtenMany])), (a_t_a, .inl (t 0, 876, .inl t_a_87_31)), (a_t_moved, .inl (t 0, 120, .inl t_moved_82_24))] → va_S A s.heap H locs → lv_has ls 4 [(0, .ref a_t), (3, .int y86_26)] → f_X8_queries_87 N k125_28 n87 t_a_87_31 = some (t_unused', t_a_', t_moved_') → W p l e rm_X8_queries s m args below meth c H locs 0 0 Q (F0 m 87 ls []) := by
      intro n87
      induction n87 with
      | zero =>
        intro t_a_87_31 H locs ls hP hD hS hl hF
        cases (show none = some (t_unused', t_a_', t_moved_') from hF)
      | succ n87 ih87 =>
        intro t_a_87_31 H locs ls hP hD hS hl hF
        rw [f_X8_queries_87] at hF
        refine lv_aload_n hx hb dX8_queries_87 rfl (lv_at hl 0 rfl) ?_
        refine va_get (D := D) (ci := 8) (v := .ref a_t_a) (C := RX8) (T := TX8) (N := 20) hx hb hts iw8 hown hK hP 0 rfl rfl 0 (by decide) hf7 (fun _ h9 => h9) rfl dX8_queries_88 ?_
        refine lv_iconst (v := 3) hx hb dX8_queries_91 (by decide) ?_
        refine my_iald (v := t_a_87_31 3) hx hb hK hP 1 0 rfl rfl (vp_lit (by decide +kernel)) rfl dX8_queries_92 ?_
        refine lv_aload_n hx hb dX8_queries_93 rfl (lv_at hl 0 rfl) ?_
        refine va_get (D := D) (ci := 8) (v := .ref a_t_a) (C := RX8) (T := TX8) (N := 20) hx hb hts iw8 hown hK hP 0 rfl rfl 0 (by decide) hf7 (fun _ h9 => h9) rfl dX8_queries_94 ?_
        refine lv_bipush (v := 6) hx hb dX8_queries_97 (by decide) ?_
        refine my_iald (v := t_a_87_31 6) hx hb hK hP 1 0 rfl rfl (vp_lit (by decide +kernel)) rfl dX8_queries_99 ?_
        refine lv_icmp_le (tgt := 125) hx hb dX8_queries_100 (by decide) (fun c100 => ?_) (fun c100 => ?_)
        · have hF := brT c100 hF
          exact hk125_28 t_a_87_31 H locs ls hP hD hS hl hF
        · have hF := brF c100 hF
          refine lv_aload_n hx hb dX8_queries_103 rfl (lv_at hl 0 rfl) ?_
          refine lv_aload_n hx hb dX8_queries_104 rfl (lv_at hl 0 rfl) ?_
          obtain ⟨r105_32, h105_32, hF⟩ := bndE hF
          refine rdV (As := []) (rest := [.ref a_t]) (C := RX8) ⟨hx, hb, hml, hown, hts⟩ (c_X8_coldest l D t z x N a_t a_t_a v_t_fresh v_t_aside v_t_kept v_t_buffer (.ref a_t_moved) v_t_written t_keptMany t_thrown t_buffered t_size t_at t_behind t_kind t_number t_wrong t_wrongAt t_errorAt t_unused_82_22 t_writtenMany t_a_87_31 H r105_32 h105_32) (cwV 0 hts gX8_queries_X8_coldest rfl rfl rfl hd_X8_coldest ⟨Nat.le_of_ble_eq_true rfl, Nat.le_of_ble_eq_true rfl⟩) (hC.at hz hS) (selP (m9 := [true, true, false]) rfl rfl hP) 0 rfl (show vwCl[8]? = some (RX8, TX8, 20) from rfl) rfl rfl hl.1 rfl (Nat.le_of_ble_eq_true rfl) dX8_queries_105 ⟨Nat.zero_le _, Nat.zero_le _⟩ rfl ?_
          obtain ⟨t_a_108_34, h108_34, hF⟩ := bndE hF
          refine wrVM (As := [.int r105_32]) (rest := []) (C := RX8) (wn := [(a_t, .inr (8, [.ref a_t_a, v_t_fresh, v_t_aside, v_t_kept, .int t_keptMany, .int t_thrown, v_t_buffer, .int t_buffered, .int t_size, .int t_at, .int t_behind, .int t_kind, .int t_number, .int t_wrong, .int t_wrongAt, .int t_errorAt, .ref a_t_moved, .int t_unused_82_22, v_t_written, .int t_writtenMany])), (a_t_a, .inl (t 0, 876, .inl t_a_108_34)), (a_t_moved, .inl (t 0, 120, .inl t_moved_82_24))]) ⟨hx, hb, hml, hown, hts⟩ (c_X8_joins l D t z x N a_t a_t_a v_t_fresh v_t_aside v_t_kept v_t_buffer (.ref a_t_moved) v_t_written t_keptMany t_thrown t_buffered t_size t_at t_behind t_kind t_number t_wrong t_wrongAt t_errorAt t_unused_82_22 t_writtenMany t_a_87_31 r105_32 H.size t_a_108_34 h108_34) (cwV 1 hts gX8_queries_X8_joins rfl rfl rfl hd_X8_joins ⟨Nat.le_of_ble_eq_true rfl, Nat.le_of_ble_eq_true rfl⟩) (hC.at hz hS) hP hD hS hA hz [true, true, false] rfl rfl rfl rfl 0 rfl (show vwCl[8]? = some (RX8, TX8, 20) from rfl) rfl rfl hl.1 rfl (Nat.le_of_ble_eq_true rfl) dX8_queries_108 ⟨Nat.zero_le _, Nat.zero_le _⟩ rfl (fun H locs hP hD hS => ?_)
          refine lv_aload_n hx hb dX8_queries_111 rfl (lv_at hl 0 rfl) ?_
          refine va_get (D := D) (ci := 8) (v := .ref a_t_a) (C := RX8) (T := TX8) (N := 20) hx hb hts iw8 hown hK hP 0 rfl rfl 0 (by decide) hf7 (fun _ h9 => h9) rfl dX8_queries_112 ?_
          refine lv_bipush (v := 18) hx hb dX8_queries_115 (by decide) ?_
          refine lv_dup2_11 hx hb dX8_queries_117 rfl rfl ?_
          refine my_iald (v := t_a_108_34 18) hx hb hK hP 1 0 rfl rfl (vp_lit (by decide +kernel)) rfl dX8_queries_118 ?_
          refine lv_iconst (v := 1) hx hb dX8_queries_119 (by decide) ?_
          refine lv_iadd hx hb dX8_queries_120 ?_
          obtain ⟨t_a_121_36, et_a_121_36⟩ : ∃ y : Nat → Int32, y = upd t_a_108_34 18 ((t_a_108_34 18) + 1) := ⟨_, rfl⟩
          have hF := ltE et_a_121_36 hF
          refine my_iast (g := t_a_121_36) (wn := [(a_t, .inr (8, [.ref a_t_a, v_t_fresh, v_t_aside, v_t_kept, .int t_keptMany, .int t_thrown, v_t_buffer, .int t_buffered, .int t_size, .int t_at, .int t_behind, .int t_kind, .int t_number, .int t_wrong, .int t_wrongAt, .int t_errorAt, .ref a_t_moved, .int t_unused_82_22, v_t_written, .int t_writtenMany])), (a_t_a, .inl (t 0, 876, .inl t_a_121_36)), (a_t_moved, .inl (t 0, 120, .inl t_moved_82_24))]) hx hb hK hP hD hS 1 0 rfl rfl (vp_lit (by decide +kernel)) et_a_121_36 rfl dX8_queries_121 (fun H locs hP hD hS => ?_)
          refine lv_goto (tgt := 87) hx hb dX8_queries_122 (by decide) ?_
          exact ih87 t_a_121_36 H locs ls hP hD hS hl hF
    exact hlp87 N t_a_82_23 H locs ls hP hD hS (lv_sub hl [1, 0] rfl) hF
  have hlp2 : ∀ n2 : Nat, ∀ (x3_2_37 : Int32) (t_a_2_38 : (Nat → Int32)) (H : Heap) (locs : List Loc) (ls : Array Slot), va_P D vwCl [(a_t, .inr (8, [.ref a_t_a, v_t_fresh, v_t_aside, v_t_kept, .int t_keptMany, .int t_thrown, v_t_buffer, .int t_buffered, .int t_size, .int t_at, .int t_behind, .int t_kind, .int t_number, .int t_wrong, .int t_wrongAt, .int t_errorAt, .ref a_t_moved, .int t_unused, v_t_written, .int t_writtenMany])), (a_t_a, .inl (t 0, 876, .inl t_a_2_38)), (a_t_moved, .inl (t 0, 120, .inl t_moved_))] H → va_D A [(a_t, .inr (8, [.ref a_t_a, v_t_fresh, v_t_aside, v_t_kept, .int t_keptMany, .int t_thrown, v_t_buffer, .int t_buffered, .int t_size, .int t_at, .int t_behind, .int t_kind, .int t_number, .int t_wrong, .int t_wrongAt, .int t_errorAt, .ref a_t_moved, .int t_unused, v_t_written, .int t_writtenMany])), (a_t_a, .inl (t 0, 876, .inl t_a_2_38)), (a_t_moved, .inl (t 0, 120, .inl t_moved_))] → va_S A s.heap H locs → lv_has ls 4 [(0, .ref a_t), (1, .int p1), (2, .int p2), (3, .int x3_2_37)] → f_X8_queries_2 k38_2 n2 x3_2_37 t_a_2_38 = some (t_unused', t_a_', t_moved_') → W p l e rm_X8_queries s m args below meth c H locs 0 0 Q (F0 m 2 ls []) := by
    intro n2
    induction n2 with
    | zero =>
      intro x3_2_37 t_a_2_38 H locs ls hP hD hS hl hF
      cases (show none = some (t_unused', t_a_', t_moved_') from hF)
    | succ n2 ih2 =>
      intro x3_2_37 t_a_2_38 H locs ls hP hD hS hl hF
      rw [f_X8_queries_2] at hF
      refine lv_iload_n hx hb dX8_queries_2 rfl (lv_at hl 3 rfl) ?_
      refine lv_bipush (v := 9) hx hb dX8_queries_3 (by decide) ?_
      refine lv_icmp_ge (tgt := 38) hx hb dX8_queries_5 (by decide) (fun c5 => ?_) (fun c5 => ?_)
      · have hF := brT c5 hF
        exact hk38_2 t_a_2_38 H locs ls hP hD hS (lv_sub hl [0, 1, 2] rfl) hF
      · have hF := brF c5 hF
        refine lv_aload_n hx hb dX8_queries_8 rfl (lv_at hl 0 rfl) ?_
        refine va_get (D := D) (ci := 8) (v := .ref a_t_a) (C := RX8) (T := TX8) (N := 20) hx hb hts iw8 hown hK hP 0 rfl rfl 0 (by decide) hf7 (fun _ h9 => h9) rfl dX8_queries_9 ?_
        refine lv_bipush (v := 10) hx hb dX8_queries_12 (by decide) ?_
        refine lv_iload_n hx hb dX8_queries_14 rfl (lv_at hl 3 rfl) ?_
        refine lv_iadd hx hb dX8_queries_15 ?_
        refine lv_iload_n hx hb dX8_queries_16 rfl (lv_at hl 3 rfl) ?_
        refine lv_iconst (v := 2) hx hb dX8_queries_17 (by decide) ?_
        refine lv_icmp_eq (tgt := 26) hx hb dX8_queries_18 (by decide) (fun c18 => ?_) (fun c18 => ?_)
        · have hF := brT c18 hF
          refine lv_iconst (v := (-1)) hx hb dX8_queries_26 (by decide) ?_
          refine lv_goto (tgt := 31) hx hb dX8_queries_27 (by decide) ?_
          obtain ⟨g31_38, hF⟩ := gd hF
          obtain ⟨t_a_31_40, et_a_31_40⟩ : ∃ y : Nat → Int32, y = upd t_a_2_38 (10 + x3_2_37).toNatClampNeg (-1) := ⟨_, rfl⟩
          have hF := ltE et_a_31_40 hF
          refine my_iast (g := t_a_31_40) (wn := [(a_t, .inr (8, [.ref a_t_a, v_t_fresh, v_t_aside, v_t_kept, .int t_keptMany, .int t_thrown, v_t_buffer, .int t_buffered, .int t_size, .int t_at, .int t_behind, .int t_kind, .int t_number, .int t_wrong, .int t_wrongAt, .int t_errorAt, .ref a_t_moved, .int t_unused, v_t_written, .int t_writtenMany])), (a_t_a, .inl (t 0, 876, .inl t_a_31_40)), (a_t_moved, .inl (t 0, 120, .inl t_moved_))]) hx hb hK hP hD hS 1 0 rfl rfl g31_38 et_a_31_40 rfl dX8_queries_31 (fun H locs hP hD hS => ?_)
          obtain ⟨y32_41, ey32_41⟩ : ∃ y : Int32, y = x3_2_37 + 1 := ⟨_, rfl⟩
          have hF := ltE ey32_41 hF
          refine lv_iinc (v := y32_41) (lv' := [(3, .int y32_41), (0, .ref a_t), (1, .int p1), (2, .int p2)]) hx hb dX8_queries_32 hl (k := 3) rfl (by rw [ey32_41]; rfl) (by decide) rfl (fun ls hl => ?_)
          refine lv_goto (tgt := 2) hx hb dX8_queries_35 (by decide) ?_
          exact ih2 y32_41 t_a_31_40 H locs ls hP hD hS (lv_sub hl [1, 2, 3, 0] rfl) hF
        · have hF := brF c18 hF
          refine lv_iload_n hx hb dX8_queries_21 rfl (lv_at hl 3 rfl) ?_
          refine lv_iconst (v := 3) hx hb dX8_queries_22 (by decide) ?_
          refine lv_icmp_ne (tgt := 30) hx hb dX8_queries_23 (by decide) (fun c23 => ?_) (fun c23 => ?_)
          · have hF := brF c23 hF
            refine lv_iconst (v := 0) hx hb dX8_queries_30 (by decide) ?_
            obtain ⟨g31_41, hF⟩ := gd hF
            obtain ⟨t_a_31_43, et_a_31_43⟩ : ∃ y : Nat → Int32, y = upd t_a_2_38 (10 + x3_2_37).toNatClampNeg 0 := ⟨_, rfl⟩
            have hF := ltE et_a_31_43 hF
            refine my_iast (g := t_a_31_43) (wn := [(a_t, .inr (8, [.ref a_t_a, v_t_fresh, v_t_aside, v_t_kept, .int t_keptMany, .int t_thrown, v_t_buffer, .int t_buffered, .int t_size, .int t_at, .int t_behind, .int t_kind, .int t_number, .int t_wrong, .int t_wrongAt, .int t_errorAt, .ref a_t_moved, .int t_unused, v_t_written, .int t_writtenMany])), (a_t_a, .inl (t 0, 876, .inl t_a_31_43)), (a_t_moved, .inl (t 0, 120, .inl t_moved_))]) hx hb hK hP hD hS 1 0 rfl rfl g31_41 et_a_31_43 rfl dX8_queries_31 (fun H locs hP hD hS => ?_)
            obtain ⟨y32_44, ey32_44⟩ : ∃ y : Int32, y = x3_2_37 + 1 := ⟨_, rfl⟩
            have hF := ltE ey32_44 hF
            refine lv_iinc (v := y32_44) (lv' := [(3, .int y32_44), (0, .ref a_t), (1, .int p1), (2, .int p2)]) hx hb dX8_queries_32 hl (k := 3) rfl (by rw [ey32_44]; rfl) (by decide) rfl (fun ls hl => ?_)
            refine lv_goto (tgt := 2) hx hb dX8_queries_35 (by decide) ?_
            exact ih2 y32_44 t_a_31_43 H locs ls hP hD hS (lv_sub hl [1, 2, 3, 0] rfl) hF
          · have hF := brT c23 hF
            refine lv_iconst (v := (-1)) hx hb dX8_queries_26 (by decide) ?_
            refine lv_goto (tgt := 31) hx hb dX8_queries_27 (by decide) ?_
            obtain ⟨g31_44, hF⟩ := gd hF
            obtain ⟨t_a_31_46, et_a_31_46⟩ : ∃ y : Nat → Int32, y = upd t_a_2_38 (10 + x3_2_37).toNatClampNeg (-1) := ⟨_, rfl⟩
            have hF := ltE et_a_31_46 hF
            refine my_iast (g := t_a_31_46) (wn := [(a_t, .inr (8, [.ref a_t_a, v_t_fresh, v_t_aside, v_t_kept, .int t_keptMany, .int t_thrown, v_t_buffer, .int t_buffered, .int t_size, .int t_at, .int t_behind, .int t_kind, .int t_number, .int t_wrong, .int t_wrongAt, .int t_errorAt, .ref a_t_moved, .int t_unused, v_t_written, .int t_writtenMany])), (a_t_a, .inl (t 0, 876, .inl t_a_31_46)), (a_t_moved, .inl (t 0, 120, .inl t_moved_))]) hx hb hK hP hD hS 1 0 rfl rfl g31_44 et_a_31_46 rfl dX8_queries_31 (fun H locs hP hD hS => ?_)
            obtain ⟨y32_47, ey32_47⟩ : ∃ y : Int32, y = x3_2_37 + 1 := ⟨_, rfl⟩
            have hF := ltE ey32_47 hF
            refine lv_iinc (v := y32_47) (lv' := [(3, .int y32_47), (0, .ref a_t), (1, .int p1), (2, .int p2)]) hx hb dX8_queries_32 hl (k := 3) rfl (by rw [ey32_47]; rfl) (by decide) rfl (fun ls hl => ?_)
            refine lv_goto (tgt := 2) hx hb dX8_queries_35 (by decide) ?_
            exact ih2 y32_47 t_a_31_46 H locs ls hP hD hS (lv_sub hl [1, 2, 3, 0] rfl) hF
  exact hlp2 N 0 t_a_ H locs ls hP hD hS (lv_sub hl [1, 2, 3, 0] rfl) hF
abbrev rm_X8_notes : Room := { frames := 0, cells := 0, slots := 0, locals := 0 }
theorem hd_X8_notes : yX8_notes.cls = RX8 ∧ yX8_notes.cls ≠ "java/lang/invoke/MethodHandle" ∧ yX8_notes.cls ≠ "java/lang/invoke/VarHandle" ∧ (parseMethodDescriptor yX8_notes.desc).map (fun d => d.parameters.length) = some 2 := by decide +kernel
set_option maxRecDepth 100000 in
set_option maxHeartbeats 4000000 in
theorem c_X8_notes (l : Launch) (D : va_G) (t : Nat → ClassId) (z : Nat) (x : Nat → Nat) (N : Nat) (a_t : Nat) (a_t_a : Nat) (v_t_fresh : Value) (v_t_aside : Value) (v_t_kept : Value) (v_t_buffer : Value) (v_t_moved : Value) (v_t_written : Value) (t_keptMany : Int32) (t_thrown : Int32) (t_buffered : Int32) (t_size : Int32) (t_at : Int32) (t_behind : Int32) (t_kind : Int32) (t_number : Int32) (t_wrong : Int32) (t_wrongAt : Int32) (t_errorAt : Int32) (t_unused : Int32) (t_writtenMany : Int32) (t_a_ : (Nat → Int32)) (p1 : Int32) (p2 : Int32) (sz : Nat) (t_a_' : (Nat → Int32)) (hF : f_X8_notes N t_a_ p1 p2 = some (t_a_')) : WrM l D (TY t) z x yX8_notes wsX8_notes rm_X8_notes [.ref a_t, .int p1, .int p2] [(a_t, .inr (8, [.ref a_t_a, v_t_fresh, v_t_aside, v_t_kept, .int t_keptMany, .int t_thrown, v_t_buffer, .int t_buffered, .int t_size, .int t_at, .int t_behind, .int t_kind, .int t_number, .int t_wrong, .int t_wrongAt, .int t_errorAt, v_t_moved, .int t_unused, v_t_written, .int t_writtenMany])), (a_t_a, .inl (t 0, 876, .inl t_a_))] [(a_t, .inr (8, [.ref a_t_a, v_t_fresh, v_t_aside, v_t_kept, .int t_keptMany, .int t_thrown, v_t_buffer, .int t_buffered, .int t_size, .int t_at, .int t_behind, .int t_kind, .int t_number, .int t_wrong, .int t_wrongAt, .int t_errorAt, v_t_moved, .int t_unused, v_t_written, .int t_writtenMany])), (a_t_a, .inl (t 0, 876, .inl t_a_'))] sz none 0 0 := by
  refine wr_of (cc := cX8_notes) (maxL := 5) (ret := none) (by decide) rfl (Nat.le_of_ble_eq_true rfl) ?_
  intro p e s m args below meth c A Q hQ hx hb hr hml hts hown hlocks hin H locs hP hD hS hA hz hC ls hl
  have hown : s.vm.findClass RX8 = some m.cls := hown
  have hl : lv_has ls 5 [(0, .ref a_t), (1, .int p1), (2, .int p2)] := hl
  have hK := hC.1
  have iw8 : ∀ w ∈ wsX80, w ∈ wsX8_notes := fun _ h => List.mem_cons_of_mem _ (List.mem_append_right _ h)
  have hf7 := hts (.fieldLink RX8 7 "CrackedColumnModel" "a" "[I") (by decide +kernel)
  unfold f_X8_notes at hF
  refine lv_aload_n hx hb dX8_notes_0 rfl (lv_at hl 0 rfl) ?_
  refine va_get (D := D) (ci := 8) (v := .ref a_t_a) (C := RX8) (T := TX8) (N := 20) hx hb hts iw8 hown hK hP 0 rfl rfl 0 (by decide) hf7 (fun _ h9 => h9) rfl dX8_notes_1 ?_
  refine lv_bipush (v := 19) hx hb dX8_notes_4 (by decide) ?_
  refine my_iald (v := t_a_ 19) hx hb hK hP 1 0 rfl rfl (vp_lit (by decide +kernel)) rfl dX8_notes_6 ?_
  refine lv_bipush (v := 20) hx hb dX8_notes_7 (by decide) ?_
  obtain ⟨k24_2, ek24_2, hF⟩ := jnE hF
  have hk24_2 : ∀ (s0_24_1 : Int32) (H : Heap) (locs : List Loc) (ls : Array Slot), va_P D vwCl [(a_t, .inr (8, [.ref a_t_a, v_t_fresh, v_t_aside, v_t_kept, .int t_keptMany, .int t_thrown, v_t_buffer, .int t_buffered, .int t_size, .int t_at, .int t_behind, .int t_kind, .int t_number, .int t_wrong, .int t_wrongAt, .int t_errorAt, v_t_moved, .int t_unused, v_t_written, .int t_writtenMany])), (a_t_a, .inl (t 0, 876, .inl t_a_))] H → va_D A [(a_t, .inr (8, [.ref a_t_a, v_t_fresh, v_t_aside, v_t_kept, .int t_keptMany, .int t_thrown, v_t_buffer, .int t_buffered, .int t_size, .int t_at, .int t_behind, .int t_kind, .int t_number, .int t_wrong, .int t_wrongAt, .int t_errorAt, v_t_moved, .int t_unused, v_t_written, .int t_writtenMany])), (a_t_a, .inl (t 0, 876, .inl t_a_))] → va_S A s.heap H locs → lv_has ls 5 [(0, .ref a_t), (1, .int p1), (2, .int p2)] → k24_2 s0_24_1 = some (t_a_') → W p l e rm_X8_notes s m args below meth c H locs 0 0 Q (F0 m 24 ls [.int s0_24_1]) := by
    subst ek24_2
    intro s0_24_1 H locs ls hP hD hS hl hF
    refine lv_istore_n (lv' := [(3, .int s0_24_1), (0, .ref a_t), (1, .int p1), (2, .int p2)]) hx hb dX8_notes_24 rfl hl (by decide) rfl (fun ls hl => ?_)
    refine lv_sipush (v := 796) hx hb dX8_notes_25 (by decide) ?_
    refine lv_iconst (v := 4) hx hb dX8_notes_28 (by decide) ?_
    refine lv_iload_n hx hb dX8_notes_29 rfl (lv_at hl 0 rfl) ?_
    refine lv_imul hx hb dX8_notes_30 ?_
    refine lv_iadd hx hb dX8_notes_31 ?_
    refine lv_iconst (v := 1) hx hb dX8_notes_32 (by decide) ?_
    refine lv_isub hx hb dX8_notes_33 ?_
    refine lv_topi (fun y34_3 ey34_3 => ?_)
    have hF := ltE ey34_3 hF
    refine lv_istore (lv' := [(4, .int y34_3), (3, .int s0_24_1), (0, .ref a_t), (1, .int p1), (2, .int p2)]) hx hb dX8_notes_34 hl (by decide) rfl (fun ls hl => ?_)
    obtain ⟨k66_5, ek66_5, hF⟩ := jnE hF
    have hk66_5 : ∀ (t_a_66_4 : (Nat → Int32)) (H : Heap) (locs : List Loc) (ls : Array Slot), va_P D vwCl [(a_t, .inr (8, [.ref a_t_a, v_t_fresh, v_t_aside, v_t_kept, .int t_keptMany, .int t_thrown, v_t_buffer, .int t_buffered, .int t_size, .int t_at, .int t_behind, .int t_kind, .int t_number, .int t_wrong, .int t_wrongAt, .int t_errorAt, v_t_moved, .int t_unused, v_t_written, .int t_writtenMany])), (a_t_a, .inl (t 0, 876, .inl t_a_66_4))] H → va_D A [(a_t, .inr (8, [.ref a_t_a, v_t_fresh, v_t_aside, v_t_kept, .int t_keptMany, .int t_thrown, v_t_buffer, .int t_buffered, .int t_size, .int t_at, .int t_behind, .int t_kind, .int t_number, .int t_wrong, .int t_wrongAt, .int t_errorAt, v_t_moved, .int t_unused, v_t_written, .int t_writtenMany])), (a_t_a, .inl (t 0, 876, .inl t_a_66_4))] → va_S A s.heap H locs → lv_has ls 5 [(0, .ref a_t), (1, .int p1), (2, .int p2), (3, .int s0_24_1)] → k66_5 t_a_66_4 = some (t_a_') → W p l e rm_X8_notes s m args below meth c H locs 0 0 Q (F0 m 66 ls []) := by
      subst ek66_5
      intro t_a_66_4 H locs ls hP hD hS hl hF
      refine lv_aload_n hx hb dX8_notes_66 rfl (lv_at hl 0 rfl) ?_
      refine va_get (D := D) (ci := 8) (v := .ref a_t_a) (C := RX8) (T := TX8) (N := 20) hx hb hts iw8 hown hK hP 0 rfl rfl 0 (by decide) hf7 (fun _ h9 => h9) rfl dX8_notes_67 ?_
      refine lv_bipush (v := 19) hx hb dX8_notes_70 (by decide) ?_
      refine lv_iload_n hx hb dX8_notes_72 rfl (lv_at hl 3 rfl) ?_
      refine lv_iconst (v := 1) hx hb dX8_notes_73 (by decide) ?_
      refine lv_iadd hx hb dX8_notes_74 ?_
      obtain ⟨t_a_75_6, et_a_75_6⟩ : ∃ y : Nat → Int32, y = upd t_a_66_4 19 (s0_24_1 + 1) := ⟨_, rfl⟩
      have hF := ltE et_a_75_6 hF
      refine my_iast (g := t_a_75_6) (wn := [(a_t, .inr (8, [.ref a_t_a, v_t_fresh, v_t_aside, v_t_kept, .int t_keptMany, .int t_thrown, v_t_buffer, .int t_buffered, .int t_size, .int t_at, .int t_behind, .int t_kind, .int t_number, .int t_wrong, .int t_wrongAt, .int t_errorAt, v_t_moved, .int t_unused, v_t_written, .int t_writtenMany])), (a_t_a, .inl (t 0, 876, .inl t_a_75_6))]) hx hb hK hP hD hS 1 0 rfl rfl (vp_lit (by decide +kernel)) et_a_75_6 rfl dX8_notes_75 (fun H locs hP hD hS => ?_)
      refine lv_aload_n hx hb dX8_notes_76 rfl (lv_at hl 0 rfl) ?_
      refine va_get (D := D) (ci := 8) (v := .ref a_t_a) (C := RX8) (T := TX8) (N := 20) hx hb hts iw8 hown hK hP 0 rfl rfl 0 (by decide) hf7 (fun _ h9 => h9) rfl dX8_notes_77 ?_
      refine lv_sipush (v := 796) hx hb dX8_notes_80 (by decide) ?_
      refine lv_iload_n hx hb dX8_notes_83 rfl (lv_at hl 1 rfl) ?_
      obtain ⟨t_a_84_7, et_a_84_7⟩ : ∃ y : Nat → Int32, y = upd t_a_75_6 796 p1 := ⟨_, rfl⟩
      have hF := ltE et_a_84_7 hF
      refine my_iast (g := t_a_84_7) (wn := [(a_t, .inr (8, [.ref a_t_a, v_t_fresh, v_t_aside, v_t_kept, .int t_keptMany, .int t_thrown, v_t_buffer, .int t_buffered, .int t_size, .int t_at, .int t_behind, .int t_kind, .int t_number, .int t_wrong, .int t_wrongAt, .int t_errorAt, v_t_moved, .int t_unused, v_t_written, .int t_writtenMany])), (a_t_a, .inl (t 0, 876, .inl t_a_84_7))]) hx hb hK hP hD hS 1 0 rfl rfl (vp_lit (by decide +kernel)) et_a_84_7 rfl dX8_notes_84 (fun H locs hP hD hS => ?_)
      refine lv_aload_n hx hb dX8_notes_85 rfl (lv_at hl 0 rfl) ?_
      refine va_get (D := D) (ci := 8) (v := .ref a_t_a) (C := RX8) (T := TX8) (N := 20) hx hb hts iw8 hown hK hP 0 rfl rfl 0 (by decide) hf7 (fun _ h9 => h9) rfl dX8_notes_86 ?_
      refine lv_sipush (v := 797) hx hb dX8_notes_89 (by decide) ?_
      refine lv_iload_n hx hb dX8_notes_92 rfl (lv_at hl 2 rfl) ?_
      obtain ⟨t_a_93_8, et_a_93_8⟩ : ∃ y : Nat → Int32, y = upd t_a_84_7 797 p2 := ⟨_, rfl⟩
      have hF := ltE et_a_93_8 hF
      refine my_iast (g := t_a_93_8) (wn := [(a_t, .inr (8, [.ref a_t_a, v_t_fresh, v_t_aside, v_t_kept, .int t_keptMany, .int t_thrown, v_t_buffer, .int t_buffered, .int t_size, .int t_at, .int t_behind, .int t_kind, .int t_number, .int t_wrong, .int t_wrongAt, .int t_errorAt, v_t_moved, .int t_unused, v_t_written, .int t_writtenMany])), (a_t_a, .inl (t 0, 876, .inl t_a_93_8))]) hx hb hK hP hD hS 1 0 rfl rfl (vp_lit (by decide +kernel)) et_a_93_8 rfl dX8_notes_93 (fun H locs hP hD hS => ?_)
      refine lv_aload_n hx hb dX8_notes_94 rfl (lv_at hl 0 rfl) ?_
      refine va_get (D := D) (ci := 8) (v := .ref a_t_a) (C := RX8) (T := TX8) (N := 20) hx hb hts iw8 hown hK hP 0 rfl rfl 0 (by decide) hf7 (fun _ h9 => h9) rfl dX8_notes_95 ?_
      refine lv_sipush (v := 798) hx hb dX8_notes_98 (by decide) ?_
      refine lv_aload_n hx hb dX8_notes_101 rfl (lv_at hl 0 rfl) ?_
      refine va_get (D := D) (ci := 8) (v := .ref a_t_a) (C := RX8) (T := TX8) (N := 20) hx hb hts iw8 hown hK hP 0 rfl rfl 0 (by decide) hf7 (fun _ h9 => h9) rfl dX8_notes_102 ?_
      refine lv_bipush (v := 10) hx hb dX8_notes_105 (by decide) ?_
      refine my_iald (v := t_a_93_8 10) hx hb hK hP 1 0 rfl rfl (vp_lit (by decide +kernel)) rfl dX8_notes_107 ?_
      obtain ⟨t_a_108_9, et_a_108_9⟩ : ∃ y : Nat → Int32, y = upd t_a_93_8 798 (t_a_93_8 10) := ⟨_, rfl⟩
      have hF := ltE et_a_108_9 hF
      refine my_iast (g := t_a_108_9) (wn := [(a_t, .inr (8, [.ref a_t_a, v_t_fresh, v_t_aside, v_t_kept, .int t_keptMany, .int t_thrown, v_t_buffer, .int t_buffered, .int t_size, .int t_at, .int t_behind, .int t_kind, .int t_number, .int t_wrong, .int t_wrongAt, .int t_errorAt, v_t_moved, .int t_unused, v_t_written, .int t_writtenMany])), (a_t_a, .inl (t 0, 876, .inl t_a_108_9))]) hx hb hK hP hD hS 1 0 rfl rfl (vp_lit (by decide +kernel)) et_a_108_9 rfl dX8_notes_108 (fun H locs hP hD hS => ?_)
      refine lv_aload_n hx hb dX8_notes_109 rfl (lv_at hl 0 rfl) ?_
      refine va_get (D := D) (ci := 8) (v := .ref a_t_a) (C := RX8) (T := TX8) (N := 20) hx hb hts iw8 hown hK hP 0 rfl rfl 0 (by decide) hf7 (fun _ h9 => h9) rfl dX8_notes_110 ?_
      refine lv_sipush (v := 799) hx hb dX8_notes_113 (by decide) ?_
      refine lv_aload_n hx hb dX8_notes_116 rfl (lv_at hl 0 rfl) ?_
      refine va_get (D := D) (ci := 8) (v := .ref a_t_a) (C := RX8) (T := TX8) (N := 20) hx hb hts iw8 hown hK hP 0 rfl rfl 0 (by decide) hf7 (fun _ h9 => h9) rfl dX8_notes_117 ?_
      refine lv_bipush (v := 14) hx hb dX8_notes_120 (by decide) ?_
      refine my_iald (v := t_a_108_9 14) hx hb hK hP 1 0 rfl rfl (vp_lit (by decide +kernel)) rfl dX8_notes_122 ?_
      obtain ⟨t_a_123_10, et_a_123_10⟩ : ∃ y : Nat → Int32, y = upd t_a_108_9 799 (t_a_108_9 14) := ⟨_, rfl⟩
      have hF := ltE et_a_123_10 hF
      refine my_iast (g := t_a_123_10) (wn := [(a_t, .inr (8, [.ref a_t_a, v_t_fresh, v_t_aside, v_t_kept, .int t_keptMany, .int t_thrown, v_t_buffer, .int t_buffered, .int t_size, .int t_at, .int t_behind, .int t_kind, .int t_number, .int t_wrong, .int t_wrongAt, .int t_errorAt, v_t_moved, .int t_unused, v_t_written, .int t_writtenMany])), (a_t_a, .inl (t 0, 876, .inl t_a_123_10))]) hx hb hK hP hD hS 1 0 rfl rfl (vp_lit (by decide +kernel)) et_a_123_10 rfl dX8_notes_123 (fun H locs hP hD hS => ?_)
      cases hF
      exact we_vret hx hb hr hlocks dX8_notes_124 rfl hQ hP hD hS
    have hlp36 : ∀ n36 : Nat, ∀ (x4_36_11 : Int32) (t_a_36_12 : (Nat → Int32)) (H : Heap) (locs : List Loc) (ls : Array Slot), va_P D vwCl [(a_t, .inr (8, [.ref a_t_a, v_t_fresh, v_t_aside, v_t_kept, .int t_keptMany, .int t_thrown, v_t_buffer, .int t_buffered, .int t_size, .int t_at, .int t_behind, .int t_kind, .int t_number, .int t_wrong, .int t_wrongAt, .int t_errorAt, v_t_moved, .int t_unused, v_t_written, .int t_writtenMany])), (a_t_a, .inl (t 0, 876, .inl t_a_36_12))] H → va_D A [(a_t, .inr (8, [.ref a_t_a, v_t_fresh, v_t_aside, v_t_kept, .int t_keptMany, .int t_thrown, v_t_buffer, .int t_buffered, .int t_size, .int t_at, .int t_behind, .int t_kind, .int t_number, .int t_wrong, .int t_wrongAt, .int t_errorAt, v_t_moved, .int t_unused, v_t_written, .int t_writtenMany])), (a_t_a, .inl (t 0, 876, .inl t_a_36_12))] → va_S A s.heap H locs → lv_has ls 5 [(0, .ref a_t), (1, .int p1), (2, .int p2), (3, .int s0_24_1), (4, .int x4_36_11)] → f_X8_notes_36 k66_5 n36 x4_36_11 t_a_36_12 = some (t_a_') → W p l e rm_X8_notes s m args below meth c H locs 0 0 Q (F0 m 36 ls []) := by
      intro n36
      induction n36 with
      | zero =>
        intro x4_36_11 t_a_36_12 H locs ls hP hD hS hl hF
        cases (show none = some (t_a_') from hF)
      | succ n36 ih36 =>
        intro x4_36_11 t_a_36_12 H locs ls hP hD hS hl hF
        rw [f_X8_notes_36] at hF
        refine lv_iload hx hb dX8_notes_36 (lv_at hl 4 rfl) ?_
        refine lv_sipush (v := 796) hx hb dX8_notes_38 (by decide) ?_
        refine lv_icmp_lt (tgt := 66) hx hb dX8_notes_41 (by decide) (fun c41 => ?_) (fun c41 => ?_)
        · have hF := brT c41 hF
          exact hk66_5 t_a_36_12 H locs ls hP hD hS (lv_sub hl [0, 1, 2, 3] rfl) hF
        · have hF := brF c41 hF
          refine lv_aload_n hx hb dX8_notes_44 rfl (lv_at hl 0 rfl) ?_
          refine va_get (D := D) (ci := 8) (v := .ref a_t_a) (C := RX8) (T := TX8) (N := 20) hx hb hts iw8 hown hK hP 0 rfl rfl 0 (by decide) hf7 (fun _ h9 => h9) rfl dX8_notes_45 ?_
          refine lv_iload hx hb dX8_notes_48 (lv_at hl 4 rfl) ?_
          refine lv_iconst (v := 4) hx hb dX8_notes_50 (by decide) ?_
          refine lv_iadd hx hb dX8_notes_51 ?_
          refine lv_aload_n hx hb dX8_notes_52 rfl (lv_at hl 0 rfl) ?_
          refine va_get (D := D) (ci := 8) (v := .ref a_t_a) (C := RX8) (T := TX8) (N := 20) hx hb hts iw8 hown hK hP 0 rfl rfl 0 (by decide) hf7 (fun _ h9 => h9) rfl dX8_notes_53 ?_
          refine lv_iload hx hb dX8_notes_56 (lv_at hl 4 rfl) ?_
          obtain ⟨g58_12, hF⟩ := gd hF
          refine my_iald (v := t_a_36_12 x4_36_11.toNatClampNeg) hx hb hK hP 1 0 rfl rfl g58_12 rfl dX8_notes_58 ?_
          obtain ⟨g59_14, hF⟩ := gd hF
          obtain ⟨t_a_59_15, et_a_59_15⟩ : ∃ y : Nat → Int32, y = upd t_a_36_12 (x4_36_11 + 4).toNatClampNeg (t_a_36_12 x4_36_11.toNatClampNeg) := ⟨_, rfl⟩
          have hF := ltE et_a_59_15 hF
          refine my_iast (g := t_a_59_15) (wn := [(a_t, .inr (8, [.ref a_t_a, v_t_fresh, v_t_aside, v_t_kept, .int t_keptMany, .int t_thrown, v_t_buffer, .int t_buffered, .int t_size, .int t_at, .int t_behind, .int t_kind, .int t_number, .int t_wrong, .int t_wrongAt, .int t_errorAt, v_t_moved, .int t_unused, v_t_written, .int t_writtenMany])), (a_t_a, .inl (t 0, 876, .inl t_a_59_15))]) hx hb hK hP hD hS 1 0 rfl rfl g59_14 et_a_59_15 rfl dX8_notes_59 (fun H locs hP hD hS => ?_)
          obtain ⟨y60_16, ey60_16⟩ : ∃ y : Int32, y = x4_36_11 + (-1) := ⟨_, rfl⟩
          have hF := ltE ey60_16 hF
          refine lv_iinc (v := y60_16) (lv' := [(4, .int y60_16), (0, .ref a_t), (1, .int p1), (2, .int p2), (3, .int s0_24_1)]) hx hb dX8_notes_60 hl (k := 4) rfl (by rw [ey60_16]; rfl) (by decide) rfl (fun ls hl => ?_)
          refine lv_goto (tgt := 36) hx hb dX8_notes_63 (by decide) ?_
          exact ih36 y60_16 t_a_59_15 H locs ls hP hD hS (lv_sub hl [1, 2, 3, 4, 0] rfl) hF
    exact hlp36 N y34_3 t_a_ H locs ls hP hD hS (lv_sub hl [2, 3, 4, 1, 0] rfl) hF
  refine lv_icmp_ge (tgt := 22) hx hb dX8_notes_9 (by decide) (fun c9 => ?_) (fun c9 => ?_)
  · have hF := brT c9 hF
    refine lv_bipush (v := 19) hx hb dX8_notes_22 (by decide) ?_
    exact hk24_2 19 H locs ls hP hD hS hl hF
  · have hF := brF c9 hF
    refine lv_aload_n hx hb dX8_notes_12 rfl (lv_at hl 0 rfl) ?_
    refine va_get (D := D) (ci := 8) (v := .ref a_t_a) (C := RX8) (T := TX8) (N := 20) hx hb hts iw8 hown hK hP 0 rfl rfl 0 (by decide) hf7 (fun _ h9 => h9) rfl dX8_notes_13 ?_
    refine lv_bipush (v := 19) hx hb dX8_notes_16 (by decide) ?_
    refine my_iald (v := t_a_ 19) hx hb hK hP 1 0 rfl rfl (vp_lit (by decide +kernel)) rfl dX8_notes_18 ?_
    refine lv_goto (tgt := 24) hx hb dX8_notes_19 (by decide) ?_
    exact hk24_2 (t_a_ 19) H locs ls hP hD hS hl hF
abbrev rm_X8_query : Room := { frames := 6, cells := 0, slots := 0, locals := 140 }
theorem hd_X8_query : yX8_query.cls = RX8 ∧ yX8_query.cls ≠ "java/lang/invoke/MethodHandle" ∧ yX8_query.cls ≠ "java/lang/invoke/VarHandle" ∧ (parseMethodDescriptor yX8_query.desc).map (fun d => d.parameters.length) = some 2 := by decide +kernel
set_option maxRecDepth 100000 in
set_option maxHeartbeats 4000000 in
theorem c_X8_query (l : Launch) (D : va_G) (t : Nat → ClassId) (z : Nat) (x : Nat → Nat) (N : Nat) (a_t : Nat) (a_t_a : Nat) (a_t_kept : Nat) (a_t_moved : Nat) (v_t_fresh : Value) (v_t_aside : Value) (v_t_buffer : Value) (v_t_written : Value) (t_keptMany : Int32) (t_thrown : Int32) (t_buffered : Int32) (t_size : Int32) (t_at : Int32) (t_behind : Int32) (t_kind : Int32) (t_number : Int32) (t_wrong : Int32) (t_wrongAt : Int32) (t_errorAt : Int32) (t_unused : Int32) (t_writtenMany : Int32) (t_a_ : (Nat → Int32)) (t_kept_ : (Nat → Int32)) (t_moved_ : (Nat → Int32)) (p1 : Int32) (p2 : Int32) (sz : Nat) (r : Int32) (t_keptMany' : Int32) (t_thrown' : Int32) (t_unused' : Int32) (t_a_' : (Nat → Int32)) (t_kept_' : (Nat → Int32)) (t_moved_' : (Nat → Int32)) (hF : f_X8_query N t_keptMany t_unused t_a_ t_kept_ t_moved_ p1 p2 = some (r, t_keptMany', t_thrown', t_unused', t_a_', t_kept_', t_moved_')) : WrM l D (TY t) z x yX8_query wsX8_query rm_X8_query [.ref a_t, .int p1, .int p2] [(a_t, .inr (8, [.ref a_t_a, v_t_fresh, v_t_aside, .ref a_t_kept, .int t_keptMany, .int t_thrown, v_t_buffer, .int t_buffered, .int t_size, .int t_at, .int t_behind, .int t_kind, .int t_number, .int t_wrong, .int t_wrongAt, .int t_errorAt, .ref a_t_moved, .int t_unused, v_t_written, .int t_writtenMany])), (a_t_a, .inl (t 0, 876, .inl t_a_)), (a_t_kept, .inl (t 0, 7008, .inl t_kept_)), (a_t_moved, .inl (t 0, 120, .inl t_moved_))] [(a_t, .inr (8, [.ref a_t_a, v_t_fresh, v_t_aside, .ref a_t_kept, .int t_keptMany', .int t_thrown', v_t_buffer, .int t_buffered, .int t_size, .int t_at, .int t_behind, .int t_kind, .int t_number, .int t_wrong, .int t_wrongAt, .int t_errorAt, .ref a_t_moved, .int t_unused', v_t_written, .int t_writtenMany])), (a_t_a, .inl (t 0, 876, .inl t_a_')), (a_t_kept, .inl (t 0, 7008, .inl t_kept_')), (a_t_moved, .inl (t 0, 120, .inl t_moved_'))] sz (some (.int r)) 0 0 := by
  obtain ⟨T9, hT⟩ : ∃ T9, T9 = (r, t_keptMany', t_thrown', t_unused', t_a_', t_kept_', t_moved_') := ⟨_, rfl⟩
  rw [← hT] at hF
  obtain rfl : r = T9.1 := by rw [hT]
  obtain rfl : t_keptMany' = T9.2.1 := by rw [hT]
  obtain rfl : t_thrown' = T9.2.2.1 := by rw [hT]
  obtain rfl : t_unused' = T9.2.2.2.1 := by rw [hT]
  obtain rfl : t_a_' = T9.2.2.2.2.1 := by rw [hT]
  obtain rfl : t_kept_' = T9.2.2.2.2.2.1 := by rw [hT]
  obtain rfl : t_moved_' = T9.2.2.2.2.2.2 := by rw [hT]
  clear hT
  refine wr_of (cc := cX8_query) (maxL := 3) (ret := (some .int)) (by decide) rfl (Nat.le_of_ble_eq_true rfl) ?_
  intro p e s m args below meth c A Q hQ hx hb hr hml hts hown hlocks hin H locs hP hD hS hA hz hC ls hl
  have hown : s.vm.findClass RX8 = some m.cls := hown
  have hl : lv_has ls 3 [(0, .ref a_t), (1, .int p1), (2, .int p2)] := hl
  have hK := hC.1
  have iw8 : ∀ w ∈ wsX80, w ∈ wsX8_query := fun _ h => List.mem_cons_of_mem _ (List.mem_append_right _ h)
  have hf7 := hts (.fieldLink RX8 7 "CrackedColumnModel" "a" "[I") (by decide +kernel)
  have hf45 := hts (.fieldLink RX8 45 "CrackedColumnModel" "thrown" "I") (by decide +kernel)
  unfold f_X8_query at hF
  refine lv_aload_n hx hb dX8_query_0 rfl (lv_at hl 0 rfl) ?_
  refine lv_iload_n hx hb dX8_query_1 rfl (lv_at hl 1 rfl) ?_
  refine lv_iload_n hx hb dX8_query_2 rfl (lv_at hl 2 rfl) ?_
  obtain ⟨r3_1, h3_1, hF⟩ := bndE hF
  refine rdS (As := [.int p1, .int p2]) (rest := [.ref a_t]) ⟨hx, hb, hml, hown, hts⟩ (c_X8_isSpan l D t z x p1 p2 H r3_1 h3_1) (va_cwS 2 hts gX8_query_X8_isSpan rfl rfl rfl hd_X8_isSpan.2 ⟨Nat.le_of_ble_eq_true rfl, Nat.le_of_ble_eq_true rfl⟩) (hC.at hz hS) (selP (m9 := [false, false, false, false]) rfl rfl hP) rfl hl.1 rfl (Nat.le_of_ble_eq_true rfl) dX8_query_3 ⟨Nat.zero_le _, Nat.zero_le _⟩ rfl ?_
  obtain ⟨k14_4, ek14_4, hF⟩ := jnE hF
  have hk14_4 : ∀ (s0_14_3 : Int32) (H : Heap) (locs : List Loc) (ls : Array Slot), va_P D vwCl [(a_t, .inr (8, [.ref a_t_a, v_t_fresh, v_t_aside, .ref a_t_kept, .int t_keptMany, .int t_thrown, v_t_buffer, .int t_buffered, .int t_size, .int t_at, .int t_behind, .int t_kind, .int t_number, .int t_wrong, .int t_wrongAt, .int t_errorAt, .ref a_t_moved, .int t_unused, v_t_written, .int t_writtenMany])), (a_t_a, .inl (t 0, 876, .inl t_a_)), (a_t_kept, .inl (t 0, 7008, .inl t_kept_)), (a_t_moved, .inl (t 0, 120, .inl t_moved_))] H → va_D A [(a_t, .inr (8, [.ref a_t_a, v_t_fresh, v_t_aside, .ref a_t_kept, .int t_keptMany, .int t_thrown, v_t_buffer, .int t_buffered, .int t_size, .int t_at, .int t_behind, .int t_kind, .int t_number, .int t_wrong, .int t_wrongAt, .int t_errorAt, .ref a_t_moved, .int t_unused, v_t_written, .int t_writtenMany])), (a_t_a, .inl (t 0, 876, .inl t_a_)), (a_t_kept, .inl (t 0, 7008, .inl t_kept_)), (a_t_moved, .inl (t 0, 120, .inl t_moved_))] → va_S A s.heap H locs → lv_has ls 3 [(0, .ref a_t), (1, .int p1), (2, .int p2)] → k14_4 s0_14_3 = some T9 → W p l e rm_X8_query s m args below meth c H locs 0 0 Q (F0 m 14 ls [.int s0_14_3, .ref a_t]) := by
    subst ek14_4
    intro s0_14_3 H locs ls hP hD hS hl hF
    refine my_put (ty := .int) (v := .int s0_14_3) (ci := 8) (C := RX8) (T := TX8) (N := 20) (wn := [(a_t, .inr (8, [.ref a_t_a, v_t_fresh, v_t_aside, .ref a_t_kept, .int t_keptMany, .int s0_14_3, v_t_buffer, .int t_buffered, .int t_size, .int t_at, .int t_behind, .int t_kind, .int t_number, .int t_wrong, .int t_wrongAt, .int t_errorAt, .ref a_t_moved, .int t_unused, v_t_written, .int t_writtenMany])), (a_t_a, .inl (t 0, 876, .inl t_a_)), (a_t_kept, .inl (t 0, 7008, .inl t_kept_)), (a_t_moved, .inl (t 0, 120, .inl t_moved_))]) hx hb hts iw8 tyX8 tyX8_ok nmX8 hown hK hP hD hS 0 rfl rfl 5 (by decide) hf45 (fun _ h9 => h9) rfl (by decide +kernel) rfl rfl (Nat.le_of_ble_eq_true rfl) rfl dX8_query_14 (fun H locs hP hD hS => ?_)
    refine lv_aload_n hx hb dX8_query_17 rfl (lv_at hl 0 rfl) ?_
    refine va_get (D := D) (ci := 8) (v := .int s0_14_3) (C := RX8) (T := TX8) (N := 20) hx hb hts iw8 hown hK hP 0 rfl rfl 5 (by decide) hf45 (fun _ h9 => h9) rfl dX8_query_18 ?_
    refine lv_if_le (tgt := 26) hx hb dX8_query_21 (by decide) (fun c21 => ?_) (fun c21 => ?_)
    · have hF := brT c21 hF
      refine lv_aload_n hx hb dX8_query_26 rfl (lv_at hl 0 rfl) ?_
      obtain ⟨t_keptMany_27_5, t_kept_27_6, h27_6, hF⟩ := bnd2E hF
      refine wrVM (As := []) (rest := []) (C := RX8) (wn := [(a_t, .inr (8, [.ref a_t_a, v_t_fresh, v_t_aside, .ref a_t_kept, .int t_keptMany_27_5, .int s0_14_3, v_t_buffer, .int t_buffered, .int t_size, .int t_at, .int t_behind, .int t_kind, .int t_number, .int t_wrong, .int t_wrongAt, .int t_errorAt, .ref a_t_moved, .int t_unused, v_t_written, .int t_writtenMany])), (a_t_a, .inl (t 0, 876, .inl t_a_)), (a_t_kept, .inl (t 0, 7008, .inl t_kept_27_6)), (a_t_moved, .inl (t 0, 120, .inl t_moved_))]) ⟨hx, hb, hml, hown, hts⟩ (c_X8_keeps l D t z x N a_t a_t_a a_t_kept v_t_fresh v_t_aside v_t_buffer (.ref a_t_moved) v_t_written t_keptMany s0_14_3 t_buffered t_size t_at t_behind t_kind t_number t_wrong t_wrongAt t_errorAt t_unused t_writtenMany t_a_ t_kept_ H.size t_keptMany_27_5 t_kept_27_6 h27_6) (cwV 0 hts gX8_query_X8_keeps rfl rfl rfl hd_X8_keeps ⟨Nat.le_of_ble_eq_true rfl, Nat.le_of_ble_eq_true rfl⟩) (hC.at hz hS) hP hD hS hA hz [true, true, true, false] rfl rfl rfl rfl 0 rfl (show vwCl[8]? = some (RX8, TX8, 20) from rfl) rfl rfl hl.1 rfl (Nat.le_of_ble_eq_true rfl) dX8_query_27 ⟨Nat.zero_le _, Nat.zero_le _⟩ rfl (fun H locs hP hD hS => ?_)
      refine lv_aload_n hx hb dX8_query_30 rfl (lv_at hl 0 rfl) ?_
      refine lv_iload_n hx hb dX8_query_31 rfl (lv_at hl 1 rfl) ?_
      refine lv_iload_n hx hb dX8_query_32 rfl (lv_at hl 2 rfl) ?_
      obtain ⟨t_unused_33_8, t_a_33_9, t_moved_33_10, h33_10, hF⟩ := bnd3E hF
      refine wrVM (As := [.int p1, .int p2]) (rest := []) (C := RX8) (wn := [(a_t, .inr (8, [.ref a_t_a, v_t_fresh, v_t_aside, .ref a_t_kept, .int t_keptMany_27_5, .int s0_14_3, v_t_buffer, .int t_buffered, .int t_size, .int t_at, .int t_behind, .int t_kind, .int t_number, .int t_wrong, .int t_wrongAt, .int t_errorAt, .ref a_t_moved, .int t_unused_33_8, v_t_written, .int t_writtenMany])), (a_t_a, .inl (t 0, 876, .inl t_a_33_9)), (a_t_kept, .inl (t 0, 7008, .inl t_kept_27_6)), (a_t_moved, .inl (t 0, 120, .inl t_moved_33_10))]) ⟨hx, hb, hml, hown, hts⟩ (c_X8_queries l D t z x N a_t a_t_a a_t_moved v_t_fresh v_t_aside (.ref a_t_kept) v_t_buffer v_t_written t_keptMany_27_5 s0_14_3 t_buffered t_size t_at t_behind t_kind t_number t_wrong t_wrongAt t_errorAt t_unused t_writtenMany t_a_ t_moved_ p1 p2 H.size t_unused_33_8 t_a_33_9 t_moved_33_10 h33_10) (cwV 2 hts gX8_query_X8_queries rfl rfl rfl hd_X8_queries ⟨Nat.le_of_ble_eq_true rfl, Nat.le_of_ble_eq_true rfl⟩) (hC.at hz hS) hP hD hS hA hz [true, true, false, true] rfl rfl rfl rfl 0 rfl (show vwCl[8]? = some (RX8, TX8, 20) from rfl) rfl rfl hl.1 rfl (Nat.le_of_ble_eq_true rfl) dX8_query_33 ⟨Nat.zero_le _, Nat.zero_le _⟩ rfl (fun H locs hP hD hS => ?_)
      refine lv_aload_n hx hb dX8_query_36 rfl (lv_at hl 0 rfl) ?_
      refine lv_iload_n hx hb dX8_query_37 rfl (lv_at hl 1 rfl) ?_
      refine lv_iload_n hx hb dX8_query_38 rfl (lv_at hl 2 rfl) ?_
      obtain ⟨t_a_39_12, h39_12, hF⟩ := bndE hF
      refine wrVM (As := [.int p1, .int p2]) (rest := []) (C := RX8) (wn := [(a_t, .inr (8, [.ref a_t_a, v_t_fresh, v_t_aside, .ref a_t_kept, .int t_keptMany_27_5, .int s0_14_3, v_t_buffer, .int t_buffered, .int t_size, .int t_at, .int t_behind, .int t_kind, .int t_number, .int t_wrong, .int t_wrongAt, .int t_errorAt, .ref a_t_moved, .int t_unused_33_8, v_t_written, .int t_writtenMany])), (a_t_a, .inl (t 0, 876, .inl t_a_39_12)), (a_t_kept, .inl (t 0, 7008, .inl t_kept_27_6)), (a_t_moved, .inl (t 0, 120, .inl t_moved_33_10))]) ⟨hx, hb, hml, hown, hts⟩ (c_X8_notes l D t z x N a_t a_t_a v_t_fresh v_t_aside (.ref a_t_kept) v_t_buffer (.ref a_t_moved) v_t_written t_keptMany_27_5 s0_14_3 t_buffered t_size t_at t_behind t_kind t_number t_wrong t_wrongAt t_errorAt t_unused_33_8 t_writtenMany t_a_33_9 p1 p2 H.size t_a_39_12 h39_12) (cwV 2 hts gX8_query_X8_notes rfl rfl rfl hd_X8_notes ⟨Nat.le_of_ble_eq_true rfl, Nat.le_of_ble_eq_true rfl⟩) (hC.at hz hS) hP hD hS hA hz [true, true, false, false] rfl rfl rfl rfl 0 rfl (show vwCl[8]? = some (RX8, TX8, 20) from rfl) rfl rfl hl.1 rfl (Nat.le_of_ble_eq_true rfl) dX8_query_39 ⟨Nat.zero_le _, Nat.zero_le _⟩ rfl (fun H locs hP hD hS => ?_)
      refine lv_aload_n hx hb dX8_query_42 rfl (lv_at hl 0 rfl) ?_
      refine va_get (D := D) (ci := 8) (v := .ref a_t_a) (C := RX8) (T := TX8) (N := 20) hx hb hts iw8 hown hK hP 0 rfl rfl 0 (by decide) hf7 (fun _ h9 => h9) rfl dX8_query_43 ?_
      refine lv_bipush (v := 10) hx hb dX8_query_46 (by decide) ?_
      refine my_iald (v := t_a_39_12 10) hx hb hK hP 1 0 rfl rfl (vp_lit (by decide +kernel)) rfl dX8_query_48 ?_
      cases hF
      exact we_iret hx hb hr hlocks dX8_query_49 rfl hQ hP hD hS
    · have hF := brF c21 hF
      refine lv_iconst (v := 0) hx hb dX8_query_24 (by decide) ?_
      cases hF
      exact we_iret hx hb hr hlocks dX8_query_25 rfl hQ hP hD hS
  refine lv_if_eq (tgt := 13) hx hb dX8_query_6 (by decide) (fun c6 => ?_) (fun c6 => ?_)
  · have hF := brT c6 hF
    refine lv_iconst (v := 1) hx hb dX8_query_13 (by decide) ?_
    exact hk14_4 1 H locs ls hP hD hS hl hF
  · have hF := brF c6 hF
    refine lv_iconst (v := 0) hx hb dX8_query_9 (by decide) ?_
    refine lv_goto (tgt := 14) hx hb dX8_query_10 (by decide) ?_
    exact hk14_4 0 H locs ls hP hD hS hl hF
abbrev rm_X8_answer : Room := { frames := 1, cells := 0, slots := 0, locals := 22 }
theorem hd_X8_answer : yX8_answer.cls = RX8 ∧ yX8_answer.cls ≠ "java/lang/invoke/MethodHandle" ∧ yX8_answer.cls ≠ "java/lang/invoke/VarHandle" ∧ (parseMethodDescriptor yX8_answer.desc).map (fun d => d.parameters.length) = some 1 := by decide +kernel
set_option maxRecDepth 100000 in
set_option maxHeartbeats 4000000 in
theorem c_X8_answer (l : Launch) (D : va_G) (t : Nat → ClassId) (z : Nat) (x : Nat → Nat) (a_t : Nat) (a_t_a : Nat) (v_t_fresh : Value) (v_t_aside : Value) (v_t_kept : Value) (v_t_buffer : Value) (v_t_moved : Value) (v_t_written : Value) (t_keptMany : Int32) (t_thrown : Int32) (t_buffered : Int32) (t_size : Int32) (t_at : Int32) (t_behind : Int32) (t_kind : Int32) (t_number : Int32) (t_wrong : Int32) (t_wrongAt : Int32) (t_errorAt : Int32) (t_unused : Int32) (t_writtenMany : Int32) (t_a_ : (Nat → Int32)) (p1 : Int32) (sz : Nat) (r : Int32) (t_thrown' : Int32) (hF : f_X8_answer t_a_ p1 = some (r, t_thrown')) : WrM l D (TY t) z x yX8_answer wsX8_answer rm_X8_answer [.ref a_t, .int p1] [(a_t, .inr (8, [.ref a_t_a, v_t_fresh, v_t_aside, v_t_kept, .int t_keptMany, .int t_thrown, v_t_buffer, .int t_buffered, .int t_size, .int t_at, .int t_behind, .int t_kind, .int t_number, .int t_wrong, .int t_wrongAt, .int t_errorAt, v_t_moved, .int t_unused, v_t_written, .int t_writtenMany])), (a_t_a, .inl (t 0, 876, .inl t_a_))] [(a_t, .inr (8, [.ref a_t_a, v_t_fresh, v_t_aside, v_t_kept, .int t_keptMany, .int t_thrown', v_t_buffer, .int t_buffered, .int t_size, .int t_at, .int t_behind, .int t_kind, .int t_number, .int t_wrong, .int t_wrongAt, .int t_errorAt, v_t_moved, .int t_unused, v_t_written, .int t_writtenMany])), (a_t_a, .inl (t 0, 876, .inl t_a_))] sz (some (.int r)) 0 0 := by
  refine wr_of (cc := cX8_answer) (maxL := 2) (ret := (some .int)) (by decide) rfl (Nat.le_of_ble_eq_true rfl) ?_
  intro p e s m args below meth c A Q hQ hx hb hr hml hts hown hlocks hin H locs hP hD hS hA hz hC ls hl
  have hown : s.vm.findClass RX8 = some m.cls := hown
  have hl : lv_has ls 2 [(0, .ref a_t), (1, .int p1)] := hl
  have hK := hC.1
  have iw8 : ∀ w ∈ wsX80, w ∈ wsX8_answer := fun _ h => List.mem_cons_of_mem _ (List.mem_append_right _ h)
  have hf7 := hts (.fieldLink RX8 7 "CrackedColumnModel" "a" "[I") (by decide +kernel)
  have hf45 := hts (.fieldLink RX8 45 "CrackedColumnModel" "thrown" "I") (by decide +kernel)
  unfold f_X8_answer at hF
  refine lv_aload_n hx hb dX8_answer_0 rfl (lv_at hl 0 rfl) ?_
  refine lv_iload_n hx hb dX8_answer_1 rfl (lv_at hl 1 rfl) ?_
  refine lv_iconst (v := 0) hx hb dX8_answer_2 (by decide) ?_
  refine lv_bipush (v := 8) hx hb dX8_answer_3 (by decide) ?_
  obtain ⟨r5_1, h5_1, hF⟩ := bndE hF
  refine rdS (As := [.int p1, .int 0, .int 8]) (rest := [.ref a_t]) ⟨hx, hb, hml, hown, hts⟩ (c_X8_isIn l D t z x p1 0 8 H r5_1 h5_1) (va_cwS 3 hts gX8_answer_X8_isIn rfl rfl rfl hd_X8_isIn.2 ⟨Nat.le_of_ble_eq_true rfl, Nat.le_of_ble_eq_true rfl⟩) (hC.at hz hS) (selP (m9 := [false, false]) rfl rfl hP) rfl hl.1 rfl (Nat.le_of_ble_eq_true rfl) dX8_answer_5 ⟨Nat.zero_le _, Nat.zero_le _⟩ rfl ?_
  obtain ⟨k30_4, ek30_4, hF⟩ := jnE hF
  have hk30_4 : ∀ (s0_30_3 : Int32) (H : Heap) (locs : List Loc) (ls : Array Slot), va_P D vwCl [(a_t, .inr (8, [.ref a_t_a, v_t_fresh, v_t_aside, v_t_kept, .int t_keptMany, .int t_thrown, v_t_buffer, .int t_buffered, .int t_size, .int t_at, .int t_behind, .int t_kind, .int t_number, .int t_wrong, .int t_wrongAt, .int t_errorAt, v_t_moved, .int t_unused, v_t_written, .int t_writtenMany])), (a_t_a, .inl (t 0, 876, .inl t_a_))] H → va_D A [(a_t, .inr (8, [.ref a_t_a, v_t_fresh, v_t_aside, v_t_kept, .int t_keptMany, .int t_thrown, v_t_buffer, .int t_buffered, .int t_size, .int t_at, .int t_behind, .int t_kind, .int t_number, .int t_wrong, .int t_wrongAt, .int t_errorAt, v_t_moved, .int t_unused, v_t_written, .int t_writtenMany])), (a_t_a, .inl (t 0, 876, .inl t_a_))] → va_S A s.heap H locs → lv_has ls 2 [(0, .ref a_t), (1, .int p1)] → k30_4 s0_30_3 = some (r, t_thrown') → W p l e rm_X8_answer s m args below meth c H locs 0 0 Q (F0 m 30 ls [.int s0_30_3, .ref a_t]) := by
    subst ek30_4
    intro s0_30_3 H locs ls hP hD hS hl hF
    refine my_put (ty := .int) (v := .int s0_30_3) (ci := 8) (C := RX8) (T := TX8) (N := 20) (wn := [(a_t, .inr (8, [.ref a_t_a, v_t_fresh, v_t_aside, v_t_kept, .int t_keptMany, .int s0_30_3, v_t_buffer, .int t_buffered, .int t_size, .int t_at, .int t_behind, .int t_kind, .int t_number, .int t_wrong, .int t_wrongAt, .int t_errorAt, v_t_moved, .int t_unused, v_t_written, .int t_writtenMany])), (a_t_a, .inl (t 0, 876, .inl t_a_))]) hx hb hts iw8 tyX8 tyX8_ok nmX8 hown hK hP hD hS 0 rfl rfl 5 (by decide) hf45 (fun _ h9 => h9) rfl (by decide +kernel) rfl rfl (Nat.le_of_ble_eq_true rfl) rfl dX8_answer_30 (fun H locs hP hD hS => ?_)
    refine lv_aload_n hx hb dX8_answer_33 rfl (lv_at hl 0 rfl) ?_
    refine va_get (D := D) (ci := 8) (v := .int s0_30_3) (C := RX8) (T := TX8) (N := 20) hx hb hts iw8 hown hK hP 0 rfl rfl 5 (by decide) hf45 (fun _ h9 => h9) rfl dX8_answer_34 ?_
    refine lv_if_le (tgt := 44) hx hb dX8_answer_37 (by decide) (fun c37 => ?_) (fun c37 => ?_)
    · have hF := brT c37 hF
      refine lv_aload_n hx hb dX8_answer_44 rfl (lv_at hl 0 rfl) ?_
      refine va_get (D := D) (ci := 8) (v := .ref a_t_a) (C := RX8) (T := TX8) (N := 20) hx hb hts iw8 hown hK hP 0 rfl rfl 0 (by decide) hf7 (fun _ h9 => h9) rfl dX8_answer_45 ?_
      refine lv_bipush (v := 10) hx hb dX8_answer_48 (by decide) ?_
      refine lv_iload_n hx hb dX8_answer_50 rfl (lv_at hl 1 rfl) ?_
      refine lv_iadd hx hb dX8_answer_51 ?_
      obtain ⟨g52_4, hF⟩ := gd hF
      refine my_iald (v := t_a_ (10 + p1).toNatClampNeg) hx hb hK hP 1 0 rfl rfl g52_4 rfl dX8_answer_52 ?_
      cases hF
      exact we_iret hx hb hr hlocks dX8_answer_53 rfl hQ hP hD hS
    · have hF := brF c37 hF
      refine lv_iconst (v := 0) hx hb dX8_answer_40 (by decide) ?_
      refine lv_goto (tgt := 53) hx hb dX8_answer_41 (by decide) ?_
      cases hF
      exact we_iret hx hb hr hlocks dX8_answer_53 rfl hQ hP hD hS
  refine lv_if_ne (tgt := 15) hx hb dX8_answer_8 (by decide) (fun c8 => ?_) (fun c8 => ?_)
  · have hF := brF c8 hF
    refine lv_aload_n hx hb dX8_answer_15 rfl (lv_at hl 0 rfl) ?_
    refine va_get (D := D) (ci := 8) (v := .ref a_t_a) (C := RX8) (T := TX8) (N := 20) hx hb hts iw8 hown hK hP 0 rfl rfl 0 (by decide) hf7 (fun _ h9 => h9) rfl dX8_answer_16 ?_
    refine lv_bipush (v := 9) hx hb dX8_answer_19 (by decide) ?_
    refine my_iald (v := t_a_ 9) hx hb hK hP 1 0 rfl rfl (vp_lit (by decide +kernel)) rfl dX8_answer_21 ?_
    refine lv_if_ne (tgt := 29) hx hb dX8_answer_22 (by decide) (fun c22 => ?_) (fun c22 => ?_)
    · have hF := brF c22 hF
      refine lv_iconst (v := 0) hx hb dX8_answer_29 (by decide) ?_
      exact hk30_4 0 H locs ls hP hD hS hl hF
    · have hF := brT c22 hF
      refine lv_iconst (v := 2) hx hb dX8_answer_25 (by decide) ?_
      refine lv_goto (tgt := 30) hx hb dX8_answer_26 (by decide) ?_
      exact hk30_4 2 H locs ls hP hD hS hl hF
  · have hF := brT c8 hF
    refine lv_iconst (v := 1) hx hb dX8_answer_11 (by decide) ?_
    refine lv_goto (tgt := 30) hx hb dX8_answer_12 (by decide) ?_
    exact hk30_4 1 H locs ls hP hD hS hl hF
abbrev rm_X8_costNow : Room := { frames := 6, cells := 0, slots := 0, locals := 140 }
theorem hd_X8_costNow : yX8_costNow.cls = RX8 ∧ yX8_costNow.cls ≠ "java/lang/invoke/MethodHandle" ∧ yX8_costNow.cls ≠ "java/lang/invoke/VarHandle" ∧ (parseMethodDescriptor yX8_costNow.desc).map (fun d => d.parameters.length) = some 2 := by decide +kernel
set_option maxRecDepth 100000 in
set_option maxHeartbeats 4000000 in
theorem c_X8_costNow (l : Launch) (D : va_G) (t : Nat → ClassId) (z : Nat) (x : Nat → Nat) (N : Nat) (a_t : Nat) (a_t_a : Nat) (a_t_aside : Nat) (a_t_moved : Nat) (v_t_fresh : Value) (v_t_kept : Value) (v_t_buffer : Value) (v_t_written : Value) (t_keptMany : Int32) (t_thrown : Int32) (t_buffered : Int32) (t_size : Int32) (t_at : Int32) (t_behind : Int32) (t_kind : Int32) (t_number : Int32) (t_wrong : Int32) (t_wrongAt : Int32) (t_errorAt : Int32) (t_unused : Int32) (t_writtenMany : Int32) (t_a_ : (Nat → Int32)) (t_aside_ : (Nat → Int32)) (t_moved_ : (Nat → Int32)) (p1 : Int32) (p2 : Int32) (sz : Nat) (r : Int32) (t_unused' : Int32) (t_a_' : (Nat → Int32)) (t_aside_' : (Nat → Int32)) (t_moved_' : (Nat → Int32)) (hF : f_X8_costNow N t_unused t_a_ t_aside_ t_moved_ p1 p2 = some (r, t_unused', t_a_', t_aside_', t_moved_')) : WrM l D (TY t) z x yX8_costNow wsX8_costNow rm_X8_costNow [.ref a_t, .int p1, .int p2] [(a_t, .inr (8, [.ref a_t_a, v_t_fresh, .ref a_t_aside, v_t_kept, .int t_keptMany, .int t_thrown, v_t_buffer, .int t_buffered, .int t_size, .int t_at, .int t_behind, .int t_kind, .int t_number, .int t_wrong, .int t_wrongAt, .int t_errorAt, .ref a_t_moved, .int t_unused, v_t_written, .int t_writtenMany])), (a_t_a, .inl (t 0, 876, .inl t_a_)), (a_t_aside, .inl (t 0, 876, .inl t_aside_)), (a_t_moved, .inl (t 0, 120, .inl t_moved_))] [(a_t, .inr (8, [.ref a_t_a, v_t_fresh, .ref a_t_aside, v_t_kept, .int t_keptMany, .int t_thrown, v_t_buffer, .int t_buffered, .int t_size, .int t_at, .int t_behind, .int t_kind, .int t_number, .int t_wrong, .int t_wrongAt, .int t_errorAt, .ref a_t_moved, .int t_unused', v_t_written, .int t_writtenMany])), (a_t_a, .inl (t 0, 876, .inl t_a_')), (a_t_aside, .inl (t 0, 876, .inl t_aside_')), (a_t_moved, .inl (t 0, 120, .inl t_moved_'))] sz (some (.int r)) 0 0 := by
  obtain ⟨T9, hT⟩ : ∃ T9, T9 = (r, t_unused', t_a_', t_aside_', t_moved_') := ⟨_, rfl⟩
  rw [← hT] at hF
  obtain rfl : r = T9.1 := by rw [hT]
  obtain rfl : t_unused' = T9.2.1 := by rw [hT]
  obtain rfl : t_a_' = T9.2.2.1 := by rw [hT]
  obtain rfl : t_aside_' = T9.2.2.2.1 := by rw [hT]
  obtain rfl : t_moved_' = T9.2.2.2.2 := by rw [hT]
  clear hT
  refine wr_of (cc := cX8_costNow) (maxL := 4) (ret := (some .int)) (by decide) rfl (Nat.le_of_ble_eq_true rfl) ?_
  intro p e s m args below meth c A Q hQ hx hb hr hml hts hown hlocks hin H locs hP hD hS hA hz hC ls hl
  have hown : s.vm.findClass RX8 = some m.cls := hown
  have hl : lv_has ls 4 [(0, .ref a_t), (1, .int p1), (2, .int p2)] := hl
  have hK := hC.1
  have iw8 : ∀ w ∈ wsX80, w ∈ wsX8_costNow := fun _ h => List.mem_cons_of_mem _ (List.mem_append_right _ h)
  have hf7 := hts (.fieldLink RX8 7 "CrackedColumnModel" "a" "[I") (by decide +kernel)
  have hf16 := hts (.fieldLink RX8 16 "CrackedColumnModel" "aside" "[I") (by decide +kernel)
  unfold f_X8_costNow at hF
  refine lv_aload_n hx hb dX8_costNow_0 rfl (lv_at hl 0 rfl) ?_
  refine va_get (D := D) (ci := 8) (v := .ref a_t_aside) (C := RX8) (T := TX8) (N := 20) hx hb hts iw8 hown hK hP 0 rfl rfl 2 (by decide) hf16 (fun _ h9 => h9) rfl dX8_costNow_1 ?_
  refine lv_aload_n hx hb dX8_costNow_4 rfl (lv_at hl 0 rfl) ?_
  refine va_get (D := D) (ci := 8) (v := .ref a_t_a) (C := RX8) (T := TX8) (N := 20) hx hb hts iw8 hown hK hP 0 rfl rfl 0 (by decide) hf7 (fun _ h9 => h9) rfl dX8_costNow_5 ?_
  obtain ⟨t_aside_8_1, h8_1, hF⟩ := bndE hF
  refine wrS (As := [.ref a_t_aside, .ref a_t_a]) (rest := []) (wr := [(a_t, .inr (8, [.ref a_t_a, v_t_fresh, .ref a_t_aside, v_t_kept, .int t_keptMany, .int t_thrown, v_t_buffer, .int t_buffered, .int t_size, .int t_at, .int t_behind, .int t_kind, .int t_number, .int t_wrong, .int t_wrongAt, .int t_errorAt, .ref a_t_moved, .int t_unused, v_t_written, .int t_writtenMany])), (a_t_moved, .inl (t 0, 120, .inl t_moved_))]) (wn := [(a_t, .inr (8, [.ref a_t_a, v_t_fresh, .ref a_t_aside, v_t_kept, .int t_keptMany, .int t_thrown, v_t_buffer, .int t_buffered, .int t_size, .int t_at, .int t_behind, .int t_kind, .int t_number, .int t_wrong, .int t_wrongAt, .int t_errorAt, .ref a_t_moved, .int t_unused, v_t_written, .int t_writtenMany])), (a_t_moved, .inl (t 0, 120, .inl t_moved_)), (a_t_aside, .inl (t 0, 876, .inl t_aside_8_1)), (a_t_a, .inl (t 0, 876, .inl t_a_))]) ⟨hx, hb, hml, hown, hts⟩ (c_X8_sets l D t z x N a_t_aside a_t_a 876 876 t_aside_ t_a_ H.size t_aside_8_1 h8_1) (va_cwS 2 hts gX8_costNow_X8_sets rfl rfl rfl hd_X8_sets.2 ⟨Nat.le_of_ble_eq_true rfl, Nat.le_of_ble_eq_true rfl⟩) (hC.at hz hS) hP hD hS hA hz [2, 1] [0, 3] rfl rfl (by decide +kernel) (by decide +kernel) (by decide +kernel) rfl hl.1 rfl (Nat.le_of_ble_eq_true rfl) dX8_costNow_8 ⟨Nat.zero_le _, Nat.zero_le _⟩ rfl rfl (fun H locs hP hD hS => ?_)
  refine lv_aload_n hx hb dX8_costNow_11 rfl (lv_at hl 0 rfl) ?_
  refine lv_iload_n hx hb dX8_costNow_12 rfl (lv_at hl 1 rfl) ?_
  refine lv_iload_n hx hb dX8_costNow_13 rfl (lv_at hl 2 rfl) ?_
  obtain ⟨t_unused_14_3, t_a_14_4, t_moved_14_5, h14_5, hF⟩ := bnd3E hF
  refine wrV (As := [.int p1, .int p2]) (rest := []) (C := RX8) (wr := [(a_t_aside, .inl (t 0, 876, .inl t_aside_8_1))]) (wn := [(a_t_aside, .inl (t 0, 876, .inl t_aside_8_1)), (a_t, .inr (8, [.ref a_t_a, v_t_fresh, .ref a_t_aside, v_t_kept, .int t_keptMany, .int t_thrown, v_t_buffer, .int t_buffered, .int t_size, .int t_at, .int t_behind, .int t_kind, .int t_number, .int t_wrong, .int t_wrongAt, .int t_errorAt, .ref a_t_moved, .int t_unused_14_3, v_t_written, .int t_writtenMany])), (a_t_a, .inl (t 0, 876, .inl t_a_14_4)), (a_t_moved, .inl (t 0, 120, .inl t_moved_14_5))]) ⟨hx, hb, hml, hown, hts⟩ (c_X8_queries l D t z x N a_t a_t_a a_t_moved v_t_fresh (.ref a_t_aside) v_t_kept v_t_buffer v_t_written t_keptMany t_thrown t_buffered t_size t_at t_behind t_kind t_number t_wrong t_wrongAt t_errorAt t_unused t_writtenMany t_a_ t_moved_ p1 p2 H.size t_unused_14_3 t_a_14_4 t_moved_14_5 h14_5) (cwV 2 hts gX8_costNow_X8_queries rfl rfl rfl hd_X8_queries ⟨Nat.le_of_ble_eq_true rfl, Nat.le_of_ble_eq_true rfl⟩) (hC.at hz hS) hP hD hS hA hz [0, 3, 1] [2] rfl rfl (by decide +kernel) (by decide +kernel) (by decide +kernel) 0 rfl (show vwCl[8]? = some (RX8, TX8, 20) from rfl) rfl rfl hl.1 rfl (Nat.le_of_ble_eq_true rfl) dX8_costNow_14 ⟨Nat.zero_le _, Nat.zero_le _⟩ rfl rfl (fun H locs hP hD hS => ?_)
  refine lv_aload_n hx hb dX8_costNow_17 rfl (lv_at hl 0 rfl) ?_
  refine va_get (D := D) (ci := 8) (v := .ref a_t_a) (C := RX8) (T := TX8) (N := 20) hx hb hts iw8 hown hK hP 1 rfl rfl 0 (by decide) hf7 (fun _ h9 => h9) rfl dX8_costNow_18 ?_
  refine lv_bipush (v := 14) hx hb dX8_costNow_21 (by decide) ?_
  refine my_iald (v := t_a_14_4 14) hx hb hK hP 2 0 rfl rfl (vp_lit (by decide +kernel)) rfl dX8_costNow_23 ?_
  refine lv_topi (fun y24_7 ey24_7 => ?_)
  have hF := ltE ey24_7 hF
  refine lv_istore_n (lv' := [(3, .int y24_7), (0, .ref a_t), (1, .int p1), (2, .int p2)]) hx hb dX8_costNow_24 rfl hl (by decide) rfl (fun ls hl => ?_)
  refine lv_aload_n hx hb dX8_costNow_25 rfl (lv_at hl 1 rfl) ?_
  refine va_get (D := D) (ci := 8) (v := .ref a_t_a) (C := RX8) (T := TX8) (N := 20) hx hb hts iw8 hown hK hP 1 rfl rfl 0 (by decide) hf7 (fun _ h9 => h9) rfl dX8_costNow_26 ?_
  refine lv_aload_n hx hb dX8_costNow_29 rfl (lv_at hl 1 rfl) ?_
  refine va_get (D := D) (ci := 8) (v := .ref a_t_aside) (C := RX8) (T := TX8) (N := 20) hx hb hts iw8 hown hK hP 1 rfl rfl 2 (by decide) hf16 (fun _ h9 => h9) rfl dX8_costNow_30 ?_
  obtain ⟨t_a_33_8, h33_8, hF⟩ := bndE hF
  refine wrS (As := [.ref a_t_a, .ref a_t_aside]) (rest := []) (wr := [(a_t, .inr (8, [.ref a_t_a, v_t_fresh, .ref a_t_aside, v_t_kept, .int t_keptMany, .int t_thrown, v_t_buffer, .int t_buffered, .int t_size, .int t_at, .int t_behind, .int t_kind, .int t_number, .int t_wrong, .int t_wrongAt, .int t_errorAt, .ref a_t_moved, .int t_unused_14_3, v_t_written, .int t_writtenMany])), (a_t_moved, .inl (t 0, 120, .inl t_moved_14_5))]) (wn := [(a_t, .inr (8, [.ref a_t_a, v_t_fresh, .ref a_t_aside, v_t_kept, .int t_keptMany, .int t_thrown, v_t_buffer, .int t_buffered, .int t_size, .int t_at, .int t_behind, .int t_kind, .int t_number, .int t_wrong, .int t_wrongAt, .int t_errorAt, .ref a_t_moved, .int t_unused_14_3, v_t_written, .int t_writtenMany])), (a_t_moved, .inl (t 0, 120, .inl t_moved_14_5)), (a_t_a, .inl (t 0, 876, .inl t_a_33_8)), (a_t_aside, .inl (t 0, 876, .inl t_aside_8_1))]) ⟨hx, hb, hml, hown, hts⟩ (c_X8_sets l D t z x N a_t_a a_t_aside 876 876 t_a_14_4 t_aside_8_1 H.size t_a_33_8 h33_8) (va_cwS 2 hts gX8_costNow_X8_sets rfl rfl rfl hd_X8_sets.2 ⟨Nat.le_of_ble_eq_true rfl, Nat.le_of_ble_eq_true rfl⟩) (hC.at hz hS) hP hD hS hA hz [2, 0] [1, 3] rfl rfl (by decide +kernel) (by decide +kernel) (by decide +kernel) rfl hl.1 rfl (Nat.le_of_ble_eq_true rfl) dX8_costNow_33 ⟨Nat.zero_le _, Nat.zero_le _⟩ rfl rfl (fun H locs hP hD hS => ?_)
  refine lv_iload_n hx hb dX8_costNow_36 rfl (lv_at hl 0 rfl) ?_
  cases hF
  exact wr_iret hx hb hr hlocks dX8_costNow_37 rfl hQ hP hD hS [0, 2, 3, 1] rfl (by decide +kernel)
abbrev rm_X8_askedOf : Room := { frames := 0, cells := 0, slots := 0, locals := 0 }
theorem hd_X8_askedOf : yX8_askedOf.cls = RX8 ∧ yX8_askedOf.cls ≠ "java/lang/invoke/MethodHandle" ∧ yX8_askedOf.cls ≠ "java/lang/invoke/VarHandle" ∧ (parseMethodDescriptor yX8_askedOf.desc).map (fun d => d.parameters.length) = some 2 := by decide +kernel
set_option maxRecDepth 100000 in
set_option maxHeartbeats 4000000 in
theorem c_X8_askedOf (l : Launch) (D : va_G) (t : Nat → ClassId) (z : Nat) (x : Nat → Nat) (a_t : Nat) (a_t_a : Nat) (v_t_fresh : Value) (v_t_aside : Value) (v_t_kept : Value) (v_t_buffer : Value) (v_t_moved : Value) (v_t_written : Value) (t_keptMany : Int32) (t_thrown : Int32) (t_buffered : Int32) (t_size : Int32) (t_at : Int32) (t_behind : Int32) (t_kind : Int32) (t_number : Int32) (t_wrong : Int32) (t_wrongAt : Int32) (t_errorAt : Int32) (t_unused : Int32) (t_writtenMany : Int32) (t_a_ : (Nat → Int32)) (p1 : Int32) (p2 : Int32) (H : Heap) (r : Int32) (hF : f_X8_askedOf t_a_ p1 p2 = some (r)) : RdM l D (TY t) z x yX8_askedOf wsX8_askedOf rm_X8_askedOf [.ref a_t, .int p1, .int p2] [(a_t, .inr (8, [.ref a_t_a, v_t_fresh, v_t_aside, v_t_kept, .int t_keptMany, .int t_thrown, v_t_buffer, .int t_buffered, .int t_size, .int t_at, .int t_behind, .int t_kind, .int t_number, .int t_wrong, .int t_wrongAt, .int t_errorAt, v_t_moved, .int t_unused, v_t_written, .int t_writtenMany])), (a_t_a, .inl (t 0, 876, .inl t_a_))] H (some (.int r)) := by
  refine rd_of (cc := cX8_askedOf) (maxL := 3) (ret := (some .int)) (by decide) rfl (Nat.le_of_ble_eq_true rfl) ?_
  intro p e s m args below meth c Q hQ hx hb hr hml hts hown hlocks hH hP hC ls hl
  have hown : s.vm.findClass RX8 = some m.cls := hown
  have hl : lv_has ls 3 [(0, .ref a_t), (1, .int p1), (2, .int p2)] := hl
  have hK := hC.1
  have iw8 : ∀ w ∈ wsX80, w ∈ wsX8_askedOf := fun _ h => List.mem_cons_of_mem _ (List.mem_append_right _ h)
  have hf7 := hts (.fieldLink RX8 7 "CrackedColumnModel" "a" "[I") (by decide +kernel)
  unfold f_X8_askedOf at hF
  refine lv_aload_n hx hb dX8_askedOf_0 rfl (lv_at hl 0 rfl) ?_
  refine va_get (D := D) (ci := 8) (v := .ref a_t_a) (C := RX8) (T := TX8) (N := 20) hx hb hts iw8 hown hK hP 0 rfl rfl 0 (by decide) hf7 (fun _ h9 => h9) rfl dX8_askedOf_1 ?_
  refine lv_sipush (v := 796) hx hb dX8_askedOf_4 (by decide) ?_
  refine lv_iconst (v := 4) hx hb dX8_askedOf_7 (by decide) ?_
  refine lv_iload_n hx hb dX8_askedOf_8 rfl (lv_at hl 1 rfl) ?_
  refine lv_imul hx hb dX8_askedOf_9 ?_
  refine lv_iadd hx hb dX8_askedOf_10 ?_
  refine lv_iload_n hx hb dX8_askedOf_11 rfl (lv_at hl 2 rfl) ?_
  refine lv_iadd hx hb dX8_askedOf_12 ?_
  obtain ⟨g13_0, hF⟩ := gd hF
  refine my_iald (v := t_a_ ((796 + (4 * p1)) + p2).toNatClampNeg) hx hb hK hP 1 0 rfl rfl g13_0 rfl dX8_askedOf_13 ?_
  cases hF
  exact rd_iret hx hb hr hlocks dX8_askedOf_14 rfl hQ
abbrev rm_X8_asked : Room := { frames := 7, cells := 0, slots := 0, locals := 163 }
theorem hd_X8_asked : yX8_asked.cls = RX8 ∧ yX8_asked.cls ≠ "java/lang/invoke/MethodHandle" ∧ yX8_asked.cls ≠ "java/lang/invoke/VarHandle" ∧ (parseMethodDescriptor yX8_asked.desc).map (fun d => d.parameters.length) = some 2 := by decide +kernel
set_option maxRecDepth 100000 in
set_option maxHeartbeats 4000000 in
theorem c_X8_asked (l : Launch) (D : va_G) (t : Nat → ClassId) (z : Nat) (x : Nat → Nat) (N : Nat) (a_t : Nat) (a_t_a : Nat) (a_t_aside : Nat) (a_t_moved : Nat) (v_t_fresh : Value) (v_t_kept : Value) (v_t_buffer : Value) (v_t_written : Value) (t_keptMany : Int32) (t_thrown : Int32) (t_buffered : Int32) (t_size : Int32) (t_at : Int32) (t_behind : Int32) (t_kind : Int32) (t_number : Int32) (t_wrong : Int32) (t_wrongAt : Int32) (t_errorAt : Int32) (t_unused : Int32) (t_writtenMany : Int32) (t_a_ : (Nat → Int32)) (t_aside_ : (Nat → Int32)) (t_moved_ : (Nat → Int32)) (p1 : Int32) (p2 : Int32) (sz : Nat) (r : Int32) (t_thrown' : Int32) (t_unused' : Int32) (t_a_' : (Nat → Int32)) (t_aside_' : (Nat → Int32)) (t_moved_' : (Nat → Int32)) (hF : f_X8_asked N t_unused t_a_ t_aside_ t_moved_ p1 p2 = some (r, t_thrown', t_unused', t_a_', t_aside_', t_moved_')) : WrM l D (TY t) z x yX8_asked wsX8_asked rm_X8_asked [.ref a_t, .int p1, .int p2] [(a_t, .inr (8, [.ref a_t_a, v_t_fresh, .ref a_t_aside, v_t_kept, .int t_keptMany, .int t_thrown, v_t_buffer, .int t_buffered, .int t_size, .int t_at, .int t_behind, .int t_kind, .int t_number, .int t_wrong, .int t_wrongAt, .int t_errorAt, .ref a_t_moved, .int t_unused, v_t_written, .int t_writtenMany])), (a_t_a, .inl (t 0, 876, .inl t_a_)), (a_t_aside, .inl (t 0, 876, .inl t_aside_)), (a_t_moved, .inl (t 0, 120, .inl t_moved_))] [(a_t, .inr (8, [.ref a_t_a, v_t_fresh, .ref a_t_aside, v_t_kept, .int t_keptMany, .int t_thrown', v_t_buffer, .int t_buffered, .int t_size, .int t_at, .int t_behind, .int t_kind, .int t_number, .int t_wrong, .int t_wrongAt, .int t_errorAt, .ref a_t_moved, .int t_unused', v_t_written, .int t_writtenMany])), (a_t_a, .inl (t 0, 876, .inl t_a_')), (a_t_aside, .inl (t 0, 876, .inl t_aside_')), (a_t_moved, .inl (t 0, 120, .inl t_moved_'))] sz (some (.int r)) 0 0 := by
  obtain ⟨T9, hT⟩ : ∃ T9, T9 = (r, t_thrown', t_unused', t_a_', t_aside_', t_moved_') := ⟨_, rfl⟩
  rw [← hT] at hF
  obtain rfl : r = T9.1 := by rw [hT]
  obtain rfl : t_thrown' = T9.2.1 := by rw [hT]
  obtain rfl : t_unused' = T9.2.2.1 := by rw [hT]
  obtain rfl : t_a_' = T9.2.2.2.1 := by rw [hT]
  obtain rfl : t_aside_' = T9.2.2.2.2.1 := by rw [hT]
  obtain rfl : t_moved_' = T9.2.2.2.2.2 := by rw [hT]
  clear hT
  refine wr_of (cc := cX8_asked) (maxL := 3) (ret := (some .int)) (by decide) rfl (Nat.le_of_ble_eq_true rfl) ?_
  intro p e s m args below meth c A Q hQ hx hb hr hml hts hown hlocks hin H locs hP hD hS hA hz hC ls hl
  have hown : s.vm.findClass RX8 = some m.cls := hown
  have hl : lv_has ls 3 [(0, .ref a_t), (1, .int p1), (2, .int p2)] := hl
  have hK := hC.1
  have iw8 : ∀ w ∈ wsX80, w ∈ wsX8_asked := fun _ h => List.mem_cons_of_mem _ (List.mem_append_right _ h)
  have hf7 := hts (.fieldLink RX8 7 "CrackedColumnModel" "a" "[I") (by decide +kernel)
  have hf45 := hts (.fieldLink RX8 45 "CrackedColumnModel" "thrown" "I") (by decide +kernel)
  unfold f_X8_asked at hF
  refine lv_aload_n hx hb dX8_asked_0 rfl (lv_at hl 0 rfl) ?_
  refine lv_iload_n hx hb dX8_asked_1 rfl (lv_at hl 1 rfl) ?_
  refine lv_iconst (v := 0) hx hb dX8_asked_2 (by decide) ?_
  refine lv_aload_n hx hb dX8_asked_3 rfl (lv_at hl 0 rfl) ?_
  refine va_get (D := D) (ci := 8) (v := .ref a_t_a) (C := RX8) (T := TX8) (N := 20) hx hb hts iw8 hown hK hP 0 rfl rfl 0 (by decide) hf7 (fun _ h9 => h9) rfl dX8_asked_4 ?_
  refine lv_bipush (v := 19) hx hb dX8_asked_7 (by decide) ?_
  refine my_iald (v := t_a_ 19) hx hb hK hP 1 0 rfl rfl (vp_lit (by decide +kernel)) rfl dX8_asked_9 ?_
  refine lv_iconst (v := 1) hx hb dX8_asked_10 (by decide) ?_
  refine lv_isub hx hb dX8_asked_11 ?_
  obtain ⟨r12_1, h12_1, hF⟩ := bndE hF
  refine rdS (As := [.int p1, .int 0, .int ((t_a_ 19) - 1)]) (rest := [.ref a_t]) ⟨hx, hb, hml, hown, hts⟩ (c_X8_isIn l D t z x p1 0 ((t_a_ 19) - 1) H r12_1 h12_1) (va_cwS 3 hts gX8_asked_X8_isIn rfl rfl rfl hd_X8_isIn.2 ⟨Nat.le_of_ble_eq_true rfl, Nat.le_of_ble_eq_true rfl⟩) (hC.at hz hS) (selP (m9 := [false, false, false, false]) rfl rfl hP) rfl hl.1 rfl (Nat.le_of_ble_eq_true rfl) dX8_asked_12 ⟨Nat.zero_le _, Nat.zero_le _⟩ rfl ?_
  obtain ⟨k36_4, ek36_4, hF⟩ := jnE hF
  have hk36_4 : ∀ (s0_36_3 : Int32) (H : Heap) (locs : List Loc) (ls : Array Slot), va_P D vwCl [(a_t, .inr (8, [.ref a_t_a, v_t_fresh, .ref a_t_aside, v_t_kept, .int t_keptMany, .int t_thrown, v_t_buffer, .int t_buffered, .int t_size, .int t_at, .int t_behind, .int t_kind, .int t_number, .int t_wrong, .int t_wrongAt, .int t_errorAt, .ref a_t_moved, .int t_unused, v_t_written, .int t_writtenMany])), (a_t_a, .inl (t 0, 876, .inl t_a_)), (a_t_aside, .inl (t 0, 876, .inl t_aside_)), (a_t_moved, .inl (t 0, 120, .inl t_moved_))] H → va_D A [(a_t, .inr (8, [.ref a_t_a, v_t_fresh, .ref a_t_aside, v_t_kept, .int t_keptMany, .int t_thrown, v_t_buffer, .int t_buffered, .int t_size, .int t_at, .int t_behind, .int t_kind, .int t_number, .int t_wrong, .int t_wrongAt, .int t_errorAt, .ref a_t_moved, .int t_unused, v_t_written, .int t_writtenMany])), (a_t_a, .inl (t 0, 876, .inl t_a_)), (a_t_aside, .inl (t 0, 876, .inl t_aside_)), (a_t_moved, .inl (t 0, 120, .inl t_moved_))] → va_S A s.heap H locs → lv_has ls 3 [(0, .ref a_t), (1, .int p1), (2, .int p2)] → k36_4 s0_36_3 = some T9 → W p l e rm_X8_asked s m args below meth c H locs 0 0 Q (F0 m 36 ls [.int s0_36_3, .ref a_t]) := by
    subst ek36_4
    intro s0_36_3 H locs ls hP hD hS hl hF
    refine my_put (ty := .int) (v := .int s0_36_3) (ci := 8) (C := RX8) (T := TX8) (N := 20) (wn := [(a_t, .inr (8, [.ref a_t_a, v_t_fresh, .ref a_t_aside, v_t_kept, .int t_keptMany, .int s0_36_3, v_t_buffer, .int t_buffered, .int t_size, .int t_at, .int t_behind, .int t_kind, .int t_number, .int t_wrong, .int t_wrongAt, .int t_errorAt, .ref a_t_moved, .int t_unused, v_t_written, .int t_writtenMany])), (a_t_a, .inl (t 0, 876, .inl t_a_)), (a_t_aside, .inl (t 0, 876, .inl t_aside_)), (a_t_moved, .inl (t 0, 120, .inl t_moved_))]) hx hb hts iw8 tyX8 tyX8_ok nmX8 hown hK hP hD hS 0 rfl rfl 5 (by decide) hf45 (fun _ h9 => h9) rfl (by decide +kernel) rfl rfl (Nat.le_of_ble_eq_true rfl) rfl dX8_asked_36 (fun H locs hP hD hS => ?_)
    refine lv_aload_n hx hb dX8_asked_39 rfl (lv_at hl 0 rfl) ?_
    refine va_get (D := D) (ci := 8) (v := .int s0_36_3) (C := RX8) (T := TX8) (N := 20) hx hb hts iw8 hown hK hP 0 rfl rfl 5 (by decide) hf45 (fun _ h9 => h9) rfl dX8_asked_40 ?_
    refine lv_if_le (tgt := 48) hx hb dX8_asked_43 (by decide) (fun c43 => ?_) (fun c43 => ?_)
    · have hF := brT c43 hF
      refine lv_iload_n hx hb dX8_asked_48 rfl (lv_at hl 2 rfl) ?_
      refine lv_iconst (v := 4) hx hb dX8_asked_49 (by decide) ?_
      refine lv_icmp_ge (tgt := 62) hx hb dX8_asked_50 (by decide) (fun c50 => ?_) (fun c50 => ?_)
      · have hF := brT c50 hF
        refine lv_aload_n hx hb dX8_asked_62 rfl (lv_at hl 0 rfl) ?_
        refine lv_aload_n hx hb dX8_asked_63 rfl (lv_at hl 0 rfl) ?_
        refine lv_iload_n hx hb dX8_asked_64 rfl (lv_at hl 1 rfl) ?_
        refine lv_iconst (v := 0) hx hb dX8_asked_65 (by decide) ?_
        obtain ⟨r66_5, h66_5, hF⟩ := bndE hF
        refine rdV (As := [.int p1, .int 0]) (rest := [.ref a_t]) (C := RX8) ⟨hx, hb, hml, hown, hts⟩ (c_X8_askedOf l D t z x a_t a_t_a v_t_fresh (.ref a_t_aside) v_t_kept v_t_buffer (.ref a_t_moved) v_t_written t_keptMany s0_36_3 t_buffered t_size t_at t_behind t_kind t_number t_wrong t_wrongAt t_errorAt t_unused t_writtenMany t_a_ p1 0 H r66_5 h66_5) (cwV 2 hts gX8_asked_X8_askedOf rfl rfl rfl hd_X8_askedOf ⟨Nat.le_of_ble_eq_true rfl, Nat.le_of_ble_eq_true rfl⟩) (hC.at hz hS) (selP (m9 := [true, true, false, false]) rfl rfl hP) 0 rfl (show vwCl[8]? = some (RX8, TX8, 20) from rfl) rfl rfl hl.1 rfl (Nat.le_of_ble_eq_true rfl) dX8_asked_66 ⟨Nat.zero_le _, Nat.zero_le _⟩ rfl ?_
        refine lv_aload_n hx hb dX8_asked_69 rfl (lv_at hl 0 rfl) ?_
        refine lv_iload_n hx hb dX8_asked_70 rfl (lv_at hl 1 rfl) ?_
        refine lv_iconst (v := 1) hx hb dX8_asked_71 (by decide) ?_
        obtain ⟨r72_7, h72_7, hF⟩ := bndE hF
        refine rdV (As := [.int p1, .int 1]) (rest := [.int r66_5, .ref a_t]) (C := RX8) ⟨hx, hb, hml, hown, hts⟩ (c_X8_askedOf l D t z x a_t a_t_a v_t_fresh (.ref a_t_aside) v_t_kept v_t_buffer (.ref a_t_moved) v_t_written t_keptMany s0_36_3 t_buffered t_size t_at t_behind t_kind t_number t_wrong t_wrongAt t_errorAt t_unused t_writtenMany t_a_ p1 1 H r72_7 h72_7) (cwV 2 hts gX8_asked_X8_askedOf rfl rfl rfl hd_X8_askedOf ⟨Nat.le_of_ble_eq_true rfl, Nat.le_of_ble_eq_true rfl⟩) (hC.at hz hS) (selP (m9 := [true, true, false, false]) rfl rfl hP) 0 rfl (show vwCl[8]? = some (RX8, TX8, 20) from rfl) rfl rfl hl.1 rfl (Nat.le_of_ble_eq_true rfl) dX8_asked_72 ⟨Nat.zero_le _, Nat.zero_le _⟩ rfl ?_
        obtain ⟨r75_9, t_unused_75_10, t_a_75_11, t_aside_75_12, t_moved_75_13, h75_13, hF⟩ := bnd5E hF
        refine wrVM (As := [.int r66_5, .int r72_7]) (rest := []) (C := RX8) (wn := [(a_t, .inr (8, [.ref a_t_a, v_t_fresh, .ref a_t_aside, v_t_kept, .int t_keptMany, .int s0_36_3, v_t_buffer, .int t_buffered, .int t_size, .int t_at, .int t_behind, .int t_kind, .int t_number, .int t_wrong, .int t_wrongAt, .int t_errorAt, .ref a_t_moved, .int t_unused_75_10, v_t_written, .int t_writtenMany])), (a_t_a, .inl (t 0, 876, .inl t_a_75_11)), (a_t_aside, .inl (t 0, 876, .inl t_aside_75_12)), (a_t_moved, .inl (t 0, 120, .inl t_moved_75_13))]) ⟨hx, hb, hml, hown, hts⟩ (c_X8_costNow l D t z x N a_t a_t_a a_t_aside a_t_moved v_t_fresh v_t_kept v_t_buffer v_t_written t_keptMany s0_36_3 t_buffered t_size t_at t_behind t_kind t_number t_wrong t_wrongAt t_errorAt t_unused t_writtenMany t_a_ t_aside_ t_moved_ r66_5 r72_7 H.size r75_9 t_unused_75_10 t_a_75_11 t_aside_75_12 t_moved_75_13 h75_13) (cwV 2 hts gX8_asked_X8_costNow rfl rfl rfl hd_X8_costNow ⟨Nat.le_of_ble_eq_true rfl, Nat.le_of_ble_eq_true rfl⟩) (hC.at hz hS) hP hD hS hA hz [true, true, true, true] rfl rfl rfl rfl 0 rfl (show vwCl[8]? = some (RX8, TX8, 20) from rfl) rfl rfl hl.1 rfl (Nat.le_of_ble_eq_true rfl) dX8_asked_75 ⟨Nat.zero_le _, Nat.zero_le _⟩ rfl (fun H locs hP hD hS => ?_)
        refine lv_aload_n hx hb dX8_asked_78 rfl (lv_at hl 0 rfl) ?_
        refine lv_iload_n hx hb dX8_asked_79 rfl (lv_at hl 1 rfl) ?_
        refine lv_iconst (v := 3) hx hb dX8_asked_80 (by decide) ?_
        obtain ⟨r81_15, h81_15, hF⟩ := bndE hF
        refine rdV (As := [.int p1, .int 3]) (rest := [.int r75_9]) (C := RX8) ⟨hx, hb, hml, hown, hts⟩ (c_X8_askedOf l D t z x a_t a_t_a v_t_fresh (.ref a_t_aside) v_t_kept v_t_buffer (.ref a_t_moved) v_t_written t_keptMany s0_36_3 t_buffered t_size t_at t_behind t_kind t_number t_wrong t_wrongAt t_errorAt t_unused_75_10 t_writtenMany t_a_75_11 p1 3 H r81_15 h81_15) (cwV 2 hts gX8_asked_X8_askedOf rfl rfl rfl hd_X8_askedOf ⟨Nat.le_of_ble_eq_true rfl, Nat.le_of_ble_eq_true rfl⟩) (hC.at hz hS) (selP (m9 := [true, true, false, false]) rfl rfl hP) 0 rfl (show vwCl[8]? = some (RX8, TX8, 20) from rfl) rfl rfl hl.1 rfl (Nat.le_of_ble_eq_true rfl) dX8_asked_81 ⟨Nat.zero_le _, Nat.zero_le _⟩ rfl ?_
        refine lv_isub hx hb dX8_asked_84 ?_
        cases hF
        exact we_iret hx hb hr hlocks dX8_asked_85 rfl hQ hP hD hS
      · have hF := brF c50 hF
        refine lv_aload_n hx hb dX8_asked_53 rfl (lv_at hl 0 rfl) ?_
        refine lv_iload_n hx hb dX8_asked_54 rfl (lv_at hl 1 rfl) ?_
        refine lv_iload_n hx hb dX8_asked_55 rfl (lv_at hl 2 rfl) ?_
        obtain ⟨r56_17, h56_17, hF⟩ := bndE hF
        refine rdV (As := [.int p1, .int p2]) (rest := []) (C := RX8) ⟨hx, hb, hml, hown, hts⟩ (c_X8_askedOf l D t z x a_t a_t_a v_t_fresh (.ref a_t_aside) v_t_kept v_t_buffer (.ref a_t_moved) v_t_written t_keptMany s0_36_3 t_buffered t_size t_at t_behind t_kind t_number t_wrong t_wrongAt t_errorAt t_unused t_writtenMany t_a_ p1 p2 H r56_17 h56_17) (cwV 2 hts gX8_asked_X8_askedOf rfl rfl rfl hd_X8_askedOf ⟨Nat.le_of_ble_eq_true rfl, Nat.le_of_ble_eq_true rfl⟩) (hC.at hz hS) (selP (m9 := [true, true, false, false]) rfl rfl hP) 0 rfl (show vwCl[8]? = some (RX8, TX8, 20) from rfl) rfl rfl hl.1 rfl (Nat.le_of_ble_eq_true rfl) dX8_asked_56 ⟨Nat.zero_le _, Nat.zero_le _⟩ rfl ?_
        refine lv_goto (tgt := 85) hx hb dX8_asked_59 (by decide) ?_
        cases hF
        exact we_iret hx hb hr hlocks dX8_asked_85 rfl hQ hP hD hS
    · have hF := brF c43 hF
      refine lv_iconst (v := 0) hx hb dX8_asked_46 (by decide) ?_
      cases hF
      exact we_iret hx hb hr hlocks dX8_asked_47 rfl hQ hP hD hS
  refine lv_if_ne (tgt := 22) hx hb dX8_asked_15 (by decide) (fun c15 => ?_) (fun c15 => ?_)
  · have hF := brF c15 hF
    refine lv_iload_n hx hb dX8_asked_22 rfl (lv_at hl 2 rfl) ?_
    refine lv_iconst (v := 0) hx hb dX8_asked_23 (by decide) ?_
    refine lv_iconst (v := 4) hx hb dX8_asked_24 (by decide) ?_
    obtain ⟨r25_19, h25_19, hF⟩ := bndE hF
    refine rdS (As := [.int p2, .int 0, .int 4]) (rest := [.ref a_t]) ⟨hx, hb, hml, hown, hts⟩ (c_X8_isIn l D t z x p2 0 4 H r25_19 h25_19) (va_cwS 3 hts gX8_asked_X8_isIn rfl rfl rfl hd_X8_isIn.2 ⟨Nat.le_of_ble_eq_true rfl, Nat.le_of_ble_eq_true rfl⟩) (hC.at hz hS) (selP (m9 := [false, false, false, false]) rfl rfl hP) rfl hl.1 rfl (Nat.le_of_ble_eq_true rfl) dX8_asked_25 ⟨Nat.zero_le _, Nat.zero_le _⟩ rfl ?_
    refine lv_if_eq (tgt := 35) hx hb dX8_asked_28 (by decide) (fun c28 => ?_) (fun c28 => ?_)
    · have hF := brT c28 hF
      refine lv_iconst (v := 2) hx hb dX8_asked_35 (by decide) ?_
      exact hk36_4 2 H locs ls hP hD hS hl hF
    · have hF := brF c28 hF
      refine lv_iconst (v := 0) hx hb dX8_asked_31 (by decide) ?_
      refine lv_goto (tgt := 36) hx hb dX8_asked_32 (by decide) ?_
      exact hk36_4 0 H locs ls hP hD hS hl hF
  · have hF := brT c15 hF
    refine lv_iconst (v := 1) hx hb dX8_asked_18 (by decide) ?_
    refine lv_goto (tgt := 36) hx hb dX8_asked_19 (by decide) ?_
    exact hk36_4 1 H locs ls hP hD hS hl hF
abbrev rm_X8_nearest : Room := { frames := 2, cells := 0, slots := 0, locals := 43 }
theorem hd_X8_nearest : yX8_nearest.cls = RX8 ∧ yX8_nearest.cls ≠ "java/lang/invoke/MethodHandle" ∧ yX8_nearest.cls ≠ "java/lang/invoke/VarHandle" ∧ (parseMethodDescriptor yX8_nearest.desc).map (fun d => d.parameters.length) = some 2 := by decide +kernel
set_option maxRecDepth 100000 in
set_option maxHeartbeats 4000000 in
theorem c_X8_nearest (l : Launch) (D : va_G) (t : Nat → ClassId) (z : Nat) (x : Nat → Nat) (N : Nat) (a_t : Nat) (a_t_a : Nat) (v_t_fresh : Value) (v_t_aside : Value) (v_t_kept : Value) (v_t_buffer : Value) (v_t_moved : Value) (v_t_written : Value) (t_keptMany : Int32) (t_thrown : Int32) (t_buffered : Int32) (t_size : Int32) (t_at : Int32) (t_behind : Int32) (t_kind : Int32) (t_number : Int32) (t_wrong : Int32) (t_wrongAt : Int32) (t_errorAt : Int32) (t_unused : Int32) (t_writtenMany : Int32) (t_a_ : (Nat → Int32)) (p1 : Int32) (p2 : Int32) (sz : Nat) (r : Int32) (t_thrown' : Int32) (hF : f_X8_nearest N t_a_ p1 p2 = some (r, t_thrown')) : WrM l D (TY t) z x yX8_nearest wsX8_nearest rm_X8_nearest [.ref a_t, .int p1, .int p2] [(a_t, .inr (8, [.ref a_t_a, v_t_fresh, v_t_aside, v_t_kept, .int t_keptMany, .int t_thrown, v_t_buffer, .int t_buffered, .int t_size, .int t_at, .int t_behind, .int t_kind, .int t_number, .int t_wrong, .int t_wrongAt, .int t_errorAt, v_t_moved, .int t_unused, v_t_written, .int t_writtenMany])), (a_t_a, .inl (t 0, 876, .inl t_a_))] [(a_t, .inr (8, [.ref a_t_a, v_t_fresh, v_t_aside, v_t_kept, .int t_keptMany, .int t_thrown', v_t_buffer, .int t_buffered, .int t_size, .int t_at, .int t_behind, .int t_kind, .int t_number, .int t_wrong, .int t_wrongAt, .int t_errorAt, v_t_moved, .int t_unused, v_t_written, .int t_writtenMany])), (a_t_a, .inl (t 0, 876, .inl t_a_))] sz (some (.int r)) 0 0 := by
  refine wr_of (cc := cX8_nearest) (maxL := 8) (ret := (some .int)) (by decide) rfl (Nat.le_of_ble_eq_true rfl) ?_
  intro p e s m args below meth c A Q hQ hx hb hr hml hts hown hlocks hin H locs hP hD hS hA hz hC ls hl
  have hown : s.vm.findClass RX8 = some m.cls := hown
  have hl : lv_has ls 8 [(0, .ref a_t), (1, .int p1), (2, .int p2)] := hl
  have hK := hC.1
  have iw8 : ∀ w ∈ wsX80, w ∈ wsX8_nearest := fun _ h => List.mem_cons_of_mem _ (List.mem_append_right _ h)
  have hf7 := hts (.fieldLink RX8 7 "CrackedColumnModel" "a" "[I") (by decide +kernel)
  have hf45 := hts (.fieldLink RX8 45 "CrackedColumnModel" "thrown" "I") (by decide +kernel)
  unfold f_X8_nearest at hF
  refine lv_aload_n hx hb dX8_nearest_0 rfl (lv_at hl 0 rfl) ?_
  refine lv_iload_n hx hb dX8_nearest_1 rfl (lv_at hl 1 rfl) ?_
  refine lv_iload_n hx hb dX8_nearest_2 rfl (lv_at hl 2 rfl) ?_
  obtain ⟨r3_1, h3_1, hF⟩ := bndE hF
  refine rdS (As := [.int p1, .int p2]) (rest := [.ref a_t]) ⟨hx, hb, hml, hown, hts⟩ (c_X8_isSpan l D t z x p1 p2 H r3_1 h3_1) (va_cwS 2 hts gX8_nearest_X8_isSpan rfl rfl rfl hd_X8_isSpan.2 ⟨Nat.le_of_ble_eq_true rfl, Nat.le_of_ble_eq_true rfl⟩) (hC.at hz hS) (selP (m9 := [false, false]) rfl rfl hP) rfl hl.1 rfl (Nat.le_of_ble_eq_true rfl) dX8_nearest_3 ⟨Nat.zero_le _, Nat.zero_le _⟩ rfl ?_
  obtain ⟨k14_4, ek14_4, hF⟩ := jnE hF
  have hk14_4 : ∀ (s0_14_3 : Int32) (H : Heap) (locs : List Loc) (ls : Array Slot), va_P D vwCl [(a_t, .inr (8, [.ref a_t_a, v_t_fresh, v_t_aside, v_t_kept, .int t_keptMany, .int t_thrown, v_t_buffer, .int t_buffered, .int t_size, .int t_at, .int t_behind, .int t_kind, .int t_number, .int t_wrong, .int t_wrongAt, .int t_errorAt, v_t_moved, .int t_unused, v_t_written, .int t_writtenMany])), (a_t_a, .inl (t 0, 876, .inl t_a_))] H → va_D A [(a_t, .inr (8, [.ref a_t_a, v_t_fresh, v_t_aside, v_t_kept, .int t_keptMany, .int t_thrown, v_t_buffer, .int t_buffered, .int t_size, .int t_at, .int t_behind, .int t_kind, .int t_number, .int t_wrong, .int t_wrongAt, .int t_errorAt, v_t_moved, .int t_unused, v_t_written, .int t_writtenMany])), (a_t_a, .inl (t 0, 876, .inl t_a_))] → va_S A s.heap H locs → lv_has ls 8 [(0, .ref a_t), (1, .int p1), (2, .int p2)] → k14_4 s0_14_3 = some (r, t_thrown') → W p l e rm_X8_nearest s m args below meth c H locs 0 0 Q (F0 m 14 ls [.int s0_14_3, .ref a_t]) := by
    subst ek14_4
    intro s0_14_3 H locs ls hP hD hS hl hF
    refine my_put (ty := .int) (v := .int s0_14_3) (ci := 8) (C := RX8) (T := TX8) (N := 20) (wn := [(a_t, .inr (8, [.ref a_t_a, v_t_fresh, v_t_aside, v_t_kept, .int t_keptMany, .int s0_14_3, v_t_buffer, .int t_buffered, .int t_size, .int t_at, .int t_behind, .int t_kind, .int t_number, .int t_wrong, .int t_wrongAt, .int t_errorAt, v_t_moved, .int t_unused, v_t_written, .int t_writtenMany])), (a_t_a, .inl (t 0, 876, .inl t_a_))]) hx hb hts iw8 tyX8 tyX8_ok nmX8 hown hK hP hD hS 0 rfl rfl 5 (by decide) hf45 (fun _ h9 => h9) rfl (by decide +kernel) rfl rfl (Nat.le_of_ble_eq_true rfl) rfl dX8_nearest_14 (fun H locs hP hD hS => ?_)
    refine lv_iconst (v := (-1)) hx hb dX8_nearest_17 (by decide) ?_
    refine lv_istore_n (lv' := [(3, .int (-1)), (0, .ref a_t), (1, .int p1), (2, .int p2)]) hx hb dX8_nearest_18 rfl hl (by decide) rfl (fun ls hl => ?_)
    refine lv_iconst (v := 0) hx hb dX8_nearest_19 (by decide) ?_
    refine lv_istore (lv' := [(4, .int 0), (3, .int (-1)), (0, .ref a_t), (1, .int p1), (2, .int p2)]) hx hb dX8_nearest_20 hl (by decide) rfl (fun ls hl => ?_)
    refine lv_iconst (v := 0) hx hb dX8_nearest_22 (by decide) ?_
    refine lv_istore (lv' := [(5, .int 0), (4, .int 0), (3, .int (-1)), (0, .ref a_t), (1, .int p1), (2, .int p2)]) hx hb dX8_nearest_23 hl (by decide) rfl (fun ls hl => ?_)
    obtain ⟨k121_6, ek121_6, hF⟩ := jnE hF
    have hk121_6 : ∀ (x3_121_5 : Int32) (H : Heap) (locs : List Loc) (ls : Array Slot), va_P D vwCl [(a_t, .inr (8, [.ref a_t_a, v_t_fresh, v_t_aside, v_t_kept, .int t_keptMany, .int s0_14_3, v_t_buffer, .int t_buffered, .int t_size, .int t_at, .int t_behind, .int t_kind, .int t_number, .int t_wrong, .int t_wrongAt, .int t_errorAt, v_t_moved, .int t_unused, v_t_written, .int t_writtenMany])), (a_t_a, .inl (t 0, 876, .inl t_a_))] H → va_D A [(a_t, .inr (8, [.ref a_t_a, v_t_fresh, v_t_aside, v_t_kept, .int t_keptMany, .int s0_14_3, v_t_buffer, .int t_buffered, .int t_size, .int t_at, .int t_behind, .int t_kind, .int t_number, .int t_wrong, .int t_wrongAt, .int t_errorAt, v_t_moved, .int t_unused, v_t_written, .int t_writtenMany])), (a_t_a, .inl (t 0, 876, .inl t_a_))] → va_S A s.heap H locs → lv_has ls 8 [(0, .ref a_t), (3, .int x3_121_5)] → k121_6 x3_121_5 = some (r, t_thrown') → W p l e rm_X8_nearest s m args below meth c H locs 0 0 Q (F0 m 121 ls []) := by
      subst ek121_6
      intro x3_121_5 H locs ls hP hD hS hl hF
      refine lv_aload_n hx hb dX8_nearest_121 rfl (lv_at hl 0 rfl) ?_
      refine va_get (D := D) (ci := 8) (v := .int s0_14_3) (C := RX8) (T := TX8) (N := 20) hx hb hts iw8 hown hK hP 0 rfl rfl 5 (by decide) hf45 (fun _ h9 => h9) rfl dX8_nearest_122 ?_
      refine lv_if_le (tgt := 132) hx hb dX8_nearest_125 (by decide) (fun c125 => ?_) (fun c125 => ?_)
      · have hF := brT c125 hF
        refine lv_iload_n hx hb dX8_nearest_132 rfl (lv_at hl 1 rfl) ?_
        cases hF
        exact we_iret hx hb hr hlocks dX8_nearest_133 rfl hQ hP hD hS
      · have hF := brF c125 hF
        refine lv_iconst (v := 0) hx hb dX8_nearest_128 (by decide) ?_
        refine lv_goto (tgt := 133) hx hb dX8_nearest_129 (by decide) ?_
        cases hF
        exact we_iret hx hb hr hlocks dX8_nearest_133 rfl hQ hP hD hS
    have hlp25 : ∀ n25 : Nat, ∀ (x3_25_7 : Int32) (x4_25_8 : Int32) (x5_25_9 : Int32) (H : Heap) (locs : List Loc) (ls : Array Slot), va_P D vwCl [(a_t, .inr (8, [.ref a_t_a, v_t_fresh, v_t_aside, v_t_kept, .int t_keptMany, .int s0_14_3, v_t_buffer, .int t_buffered, .int t_size, .int t_at, .int t_behind, .int t_kind, .int t_number, .int t_wrong, .int t_wrongAt, .int t_errorAt, v_t_moved, .int t_unused, v_t_written, .int t_writtenMany])), (a_t_a, .inl (t 0, 876, .inl t_a_))] H → va_D A [(a_t, .inr (8, [.ref a_t_a, v_t_fresh, v_t_aside, v_t_kept, .int t_keptMany, .int s0_14_3, v_t_buffer, .int t_buffered, .int t_size, .int t_at, .int t_behind, .int t_kind, .int t_number, .int t_wrong, .int t_wrongAt, .int t_errorAt, v_t_moved, .int t_unused, v_t_written, .int t_writtenMany])), (a_t_a, .inl (t 0, 876, .inl t_a_))] → va_S A s.heap H locs → lv_has ls 8 [(0, .ref a_t), (1, .int p1), (2, .int p2), (3, .int x3_25_7), (4, .int x4_25_8), (5, .int x5_25_9)] → f_X8_nearest_25 t_a_ p1 p2 s0_14_3 k121_6 n25 x3_25_7 x4_25_8 x5_25_9 = some (r, t_thrown') → W p l e rm_X8_nearest s m args below meth c H locs 0 0 Q (F0 m 25 ls []) := by
      intro n25
      induction n25 with
      | zero =>
        intro x3_25_7 x4_25_8 x5_25_9 H locs ls hP hD hS hl hF
        cases (show none = some (r, t_thrown') from hF)
      | succ n25 ih25 =>
        intro x3_25_7 x4_25_8 x5_25_9 H locs ls hP hD hS hl hF
        rw [f_X8_nearest_25] at hF
        refine lv_iload hx hb dX8_nearest_25 (lv_at hl 5 rfl) ?_
        refine lv_aload_n hx hb dX8_nearest_27 rfl (lv_at hl 0 rfl) ?_
        refine va_get (D := D) (ci := 8) (v := .ref a_t_a) (C := RX8) (T := TX8) (N := 20) hx hb hts iw8 hown hK hP 0 rfl rfl 0 (by decide) hf7 (fun _ h9 => h9) rfl dX8_nearest_28 ?_
        refine lv_bipush (v := 19) hx hb dX8_nearest_31 (by decide) ?_
        refine my_iald (v := t_a_ 19) hx hb hK hP 1 0 rfl rfl (vp_lit (by decide +kernel)) rfl dX8_nearest_33 ?_
        refine lv_icmp_ge (tgt := 121) hx hb dX8_nearest_34 (by decide) (fun c34 => ?_) (fun c34 => ?_)
        · have hF := brT c34 hF
          exact hk121_6 x3_25_7 H locs ls hP hD hS (lv_sub hl [0, 3] rfl) hF
        · have hF := brF c34 hF
          refine lv_aload_n hx hb dX8_nearest_37 rfl (lv_at hl 0 rfl) ?_
          refine va_get (D := D) (ci := 8) (v := .int s0_14_3) (C := RX8) (T := TX8) (N := 20) hx hb hts iw8 hown hK hP 0 rfl rfl 5 (by decide) hf45 (fun _ h9 => h9) rfl dX8_nearest_38 ?_
          refine lv_if_ne (tgt := 121) hx hb dX8_nearest_41 (by decide) (fun c41 => ?_) (fun c41 => ?_)
          · have hF := brF c41 hF
            exact hk121_6 x3_25_7 H locs ls hP hD hS (lv_sub hl [0, 3] rfl) hF
          · have hF := brT c41 hF
            refine lv_aload_n hx hb dX8_nearest_44 rfl (lv_at hl 0 rfl) ?_
            refine lv_iload hx hb dX8_nearest_45 (lv_at hl 5 rfl) ?_
            refine lv_iconst (v := 0) hx hb dX8_nearest_47 (by decide) ?_
            obtain ⟨r48_10, h48_10, hF⟩ := bndE hF
            refine rdV (As := [.int x5_25_9, .int 0]) (rest := []) (C := RX8) ⟨hx, hb, hml, hown, hts⟩ (c_X8_askedOf l D t z x a_t a_t_a v_t_fresh v_t_aside v_t_kept v_t_buffer v_t_moved v_t_written t_keptMany s0_14_3 t_buffered t_size t_at t_behind t_kind t_number t_wrong t_wrongAt t_errorAt t_unused t_writtenMany t_a_ x5_25_9 0 H r48_10 h48_10) (cwV 2 hts gX8_nearest_X8_askedOf rfl rfl rfl hd_X8_askedOf ⟨Nat.le_of_ble_eq_true rfl, Nat.le_of_ble_eq_true rfl⟩) (hC.at hz hS) (selP (m9 := [true, true]) rfl rfl hP) 0 rfl (show vwCl[8]? = some (RX8, TX8, 20) from rfl) rfl rfl hl.1 rfl (Nat.le_of_ble_eq_true rfl) dX8_nearest_48 ⟨Nat.zero_le _, Nat.zero_le _⟩ rfl ?_
            refine lv_iload_n hx hb dX8_nearest_51 rfl (lv_at hl 1 rfl) ?_
            obtain ⟨k66_13, ek66_13, hF⟩ := jnE hF
            have hk66_13 : ∀ (s0_66_12 : Int32) (H : Heap) (locs : List Loc) (ls : Array Slot), va_P D vwCl [(a_t, .inr (8, [.ref a_t_a, v_t_fresh, v_t_aside, v_t_kept, .int t_keptMany, .int s0_14_3, v_t_buffer, .int t_buffered, .int t_size, .int t_at, .int t_behind, .int t_kind, .int t_number, .int t_wrong, .int t_wrongAt, .int t_errorAt, v_t_moved, .int t_unused, v_t_written, .int t_writtenMany])), (a_t_a, .inl (t 0, 876, .inl t_a_))] H → va_D A [(a_t, .inr (8, [.ref a_t_a, v_t_fresh, v_t_aside, v_t_kept, .int t_keptMany, .int s0_14_3, v_t_buffer, .int t_buffered, .int t_size, .int t_at, .int t_behind, .int t_kind, .int t_number, .int t_wrong, .int t_wrongAt, .int t_errorAt, v_t_moved, .int t_unused, v_t_written, .int t_writtenMany])), (a_t_a, .inl (t 0, 876, .inl t_a_))] → va_S A s.heap H locs → lv_has ls 8 [(0, .ref a_t), (1, .int p1), (2, .int p2), (3, .int x3_25_7), (4, .int x4_25_8), (5, .int x5_25_9)] → k66_13 s0_66_12 = some (r, t_thrown') → W p l e rm_X8_nearest s m args below meth c H locs 0 0 Q (F0 m 66 ls [.int s0_66_12]) := by
              subst ek66_13
              intro s0_66_12 H locs ls hP hD hS hl hF
              refine lv_istore (lv' := [(6, .int s0_66_12), (0, .ref a_t), (1, .int p1), (2, .int p2), (3, .int x3_25_7), (4, .int x4_25_8), (5, .int x5_25_9)]) hx hb dX8_nearest_66 hl (by decide) rfl (fun ls hl => ?_)
              refine lv_aload_n hx hb dX8_nearest_68 rfl (lv_at hl 1 rfl) ?_
              refine lv_iload hx hb dX8_nearest_69 (lv_at hl 6 rfl) ?_
              refine lv_iconst (v := 1) hx hb dX8_nearest_71 (by decide) ?_
              obtain ⟨r72_14, h72_14, hF⟩ := bndE hF
              refine rdV (As := [.int x5_25_9, .int 1]) (rest := []) (C := RX8) ⟨hx, hb, hml, hown, hts⟩ (c_X8_askedOf l D t z x a_t a_t_a v_t_fresh v_t_aside v_t_kept v_t_buffer v_t_moved v_t_written t_keptMany s0_14_3 t_buffered t_size t_at t_behind t_kind t_number t_wrong t_wrongAt t_errorAt t_unused t_writtenMany t_a_ x5_25_9 1 H r72_14 h72_14) (cwV 2 hts gX8_nearest_X8_askedOf rfl rfl rfl hd_X8_askedOf ⟨Nat.le_of_ble_eq_true rfl, Nat.le_of_ble_eq_true rfl⟩) (hC.at hz hS) (selP (m9 := [true, true]) rfl rfl hP) 0 rfl (show vwCl[8]? = some (RX8, TX8, 20) from rfl) rfl rfl hl.1 rfl (Nat.le_of_ble_eq_true rfl) dX8_nearest_72 ⟨Nat.zero_le _, Nat.zero_le _⟩ rfl ?_
              refine lv_iload_n hx hb dX8_nearest_75 rfl (lv_at hl 3 rfl) ?_
              obtain ⟨k90_17, ek90_17, hF⟩ := jnE hF
              have hk90_17 : ∀ (s0_90_16 : Int32) (H : Heap) (locs : List Loc) (ls : Array Slot), va_P D vwCl [(a_t, .inr (8, [.ref a_t_a, v_t_fresh, v_t_aside, v_t_kept, .int t_keptMany, .int s0_14_3, v_t_buffer, .int t_buffered, .int t_size, .int t_at, .int t_behind, .int t_kind, .int t_number, .int t_wrong, .int t_wrongAt, .int t_errorAt, v_t_moved, .int t_unused, v_t_written, .int t_writtenMany])), (a_t_a, .inl (t 0, 876, .inl t_a_))] H → va_D A [(a_t, .inr (8, [.ref a_t_a, v_t_fresh, v_t_aside, v_t_kept, .int t_keptMany, .int s0_14_3, v_t_buffer, .int t_buffered, .int t_size, .int t_at, .int t_behind, .int t_kind, .int t_number, .int t_wrong, .int t_wrongAt, .int t_errorAt, v_t_moved, .int t_unused, v_t_written, .int t_writtenMany])), (a_t_a, .inl (t 0, 876, .inl t_a_))] → va_S A s.heap H locs → lv_has ls 8 [(0, .ref a_t), (1, .int p1), (2, .int p2), (3, .int x3_25_7), (4, .int x4_25_8), (5, .int x5_25_9), (6, .int s0_66_12)] → k90_17 s0_90_16 = some (r, t_thrown') → W p l e rm_X8_nearest s m args below meth c H locs 0 0 Q (F0 m 90 ls [.int s0_90_16]) := by
                subst ek90_17
                intro s0_90_16 H locs ls hP hD hS hl hF
                refine lv_istore (lv' := [(7, .int s0_90_16), (0, .ref a_t), (1, .int p1), (2, .int p2), (3, .int x3_25_7), (4, .int x4_25_8), (5, .int x5_25_9), (6, .int s0_66_12)]) hx hb dX8_nearest_90 hl (by decide) rfl (fun ls hl => ?_)
                refine lv_iload hx hb dX8_nearest_92 (lv_at hl 0 rfl) ?_
                refine lv_iload hx hb dX8_nearest_94 (lv_at hl 7 rfl) ?_
                refine lv_isub hx hb dX8_nearest_96 ?_
                refine lv_iload hx hb dX8_nearest_97 (lv_at hl 5 rfl) ?_
                refine lv_icmp_gt (tgt := 105) hx hb dX8_nearest_99 (by decide) (fun c99 => ?_) (fun c99 => ?_)
                · have hF := brT c99 hF
                  refine lv_iload hx hb dX8_nearest_105 (lv_at hl 6 rfl) ?_
                  refine lv_istore_n (lv' := [(3, .int x5_25_9), (7, .int s0_90_16), (0, .ref a_t), (1, .int p1), (2, .int p2), (4, .int x4_25_8), (5, .int x5_25_9), (6, .int s0_66_12)]) hx hb dX8_nearest_107 rfl hl (by decide) rfl (fun ls hl => ?_)
                  refine lv_iload hx hb dX8_nearest_108 (lv_at hl 1 rfl) ?_
                  refine lv_iload hx hb dX8_nearest_110 (lv_at hl 7 rfl) ?_
                  refine lv_isub hx hb dX8_nearest_112 ?_
                  refine lv_topi (fun y113_18 ey113_18 => ?_)
                  have hF := ltE ey113_18 hF
                  refine lv_istore (lv' := [(4, .int y113_18), (3, .int x5_25_9), (7, .int s0_90_16), (0, .ref a_t), (1, .int p1), (2, .int p2), (5, .int x5_25_9), (6, .int s0_66_12)]) hx hb dX8_nearest_113 hl (by decide) rfl (fun ls hl => ?_)
                  obtain ⟨y115_19, ey115_19⟩ : ∃ y : Int32, y = x5_25_9 + 1 := ⟨_, rfl⟩
                  have hF := ltE ey115_19 hF
                  refine lv_iinc (v := y115_19) (lv' := [(5, .int y115_19), (4, .int y113_18), (3, .int x5_25_9), (7, .int s0_90_16), (0, .ref a_t), (1, .int p1), (2, .int p2), (6, .int s0_66_12)]) hx hb dX8_nearest_115 hl (k := 6) rfl (by rw [ey115_19]; rfl) (by decide) rfl (fun ls hl => ?_)
                  refine lv_goto (tgt := 25) hx hb dX8_nearest_118 (by decide) ?_
                  exact ih25 x5_25_9 y113_18 y115_19 H locs ls hP hD hS (lv_sub hl [4, 5, 6, 2, 1, 0] rfl) hF
                · have hF := brF c99 hF
                  refine lv_goto (tgt := 115) hx hb dX8_nearest_102 (by decide) ?_
                  obtain ⟨y115_20, ey115_20⟩ : ∃ y : Int32, y = x5_25_9 + 1 := ⟨_, rfl⟩
                  have hF := ltE ey115_20 hF
                  refine lv_iinc (v := y115_20) (lv' := [(5, .int y115_20), (7, .int s0_90_16), (0, .ref a_t), (1, .int p1), (2, .int p2), (3, .int x3_25_7), (4, .int x4_25_8), (6, .int s0_66_12)]) hx hb dX8_nearest_115 hl (k := 6) rfl (by rw [ey115_20]; rfl) (by decide) rfl (fun ls hl => ?_)
                  refine lv_goto (tgt := 25) hx hb dX8_nearest_118 (by decide) ?_
                  exact ih25 x3_25_7 x4_25_8 y115_20 H locs ls hP hD hS (lv_sub hl [2, 3, 4, 5, 6, 0] rfl) hF
              refine lv_icmp_ge (tgt := 89) hx hb dX8_nearest_76 (by decide) (fun c76 => ?_) (fun c76 => ?_)
              · have hF := brT c76 hF
                refine lv_iload_n hx hb dX8_nearest_89 rfl (lv_at hl 3 rfl) ?_
                exact hk90_17 p2 H locs ls hP hD hS (lv_sub hl [1, 2, 3, 4, 5, 6, 0] rfl) hF
              · have hF := brF c76 hF
                refine lv_aload_n hx hb dX8_nearest_79 rfl (lv_at hl 1 rfl) ?_
                refine lv_iload hx hb dX8_nearest_80 (lv_at hl 6 rfl) ?_
                refine lv_iconst (v := 1) hx hb dX8_nearest_82 (by decide) ?_
                obtain ⟨r83_21, h83_21, hF⟩ := bndE hF
                refine rdV (As := [.int x5_25_9, .int 1]) (rest := []) (C := RX8) ⟨hx, hb, hml, hown, hts⟩ (c_X8_askedOf l D t z x a_t a_t_a v_t_fresh v_t_aside v_t_kept v_t_buffer v_t_moved v_t_written t_keptMany s0_14_3 t_buffered t_size t_at t_behind t_kind t_number t_wrong t_wrongAt t_errorAt t_unused t_writtenMany t_a_ x5_25_9 1 H r83_21 h83_21) (cwV 2 hts gX8_nearest_X8_askedOf rfl rfl rfl hd_X8_askedOf ⟨Nat.le_of_ble_eq_true rfl, Nat.le_of_ble_eq_true rfl⟩) (hC.at hz hS) (selP (m9 := [true, true]) rfl rfl hP) 0 rfl (show vwCl[8]? = some (RX8, TX8, 20) from rfl) rfl rfl hl.1 rfl (Nat.le_of_ble_eq_true rfl) dX8_nearest_83 ⟨Nat.zero_le _, Nat.zero_le _⟩ rfl ?_
                refine lv_goto (tgt := 90) hx hb dX8_nearest_86 (by decide) ?_
                exact hk90_17 r83_21 H locs ls hP hD hS (lv_sub hl [1, 2, 3, 4, 5, 6, 0] rfl) hF
            refine lv_icmp_le (tgt := 65) hx hb dX8_nearest_52 (by decide) (fun c52 => ?_) (fun c52 => ?_)
            · have hF := brT c52 hF
              refine lv_iload_n hx hb dX8_nearest_65 rfl (lv_at hl 1 rfl) ?_
              exact hk66_13 p1 H locs ls hP hD hS hl hF
            · have hF := brF c52 hF
              refine lv_aload_n hx hb dX8_nearest_55 rfl (lv_at hl 0 rfl) ?_
              refine lv_iload hx hb dX8_nearest_56 (lv_at hl 5 rfl) ?_
              refine lv_iconst (v := 0) hx hb dX8_nearest_58 (by decide) ?_
              obtain ⟨r59_23, h59_23, hF⟩ := bndE hF
              refine rdV (As := [.int x5_25_9, .int 0]) (rest := []) (C := RX8) ⟨hx, hb, hml, hown, hts⟩ (c_X8_askedOf l D t z x a_t a_t_a v_t_fresh v_t_aside v_t_kept v_t_buffer v_t_moved v_t_written t_keptMany s0_14_3 t_buffered t_size t_at t_behind t_kind t_number t_wrong t_wrongAt t_errorAt t_unused t_writtenMany t_a_ x5_25_9 0 H r59_23 h59_23) (cwV 2 hts gX8_nearest_X8_askedOf rfl rfl rfl hd_X8_askedOf ⟨Nat.le_of_ble_eq_true rfl, Nat.le_of_ble_eq_true rfl⟩) (hC.at hz hS) (selP (m9 := [true, true]) rfl rfl hP) 0 rfl (show vwCl[8]? = some (RX8, TX8, 20) from rfl) rfl rfl hl.1 rfl (Nat.le_of_ble_eq_true rfl) dX8_nearest_59 ⟨Nat.zero_le _, Nat.zero_le _⟩ rfl ?_
              refine lv_goto (tgt := 66) hx hb dX8_nearest_62 (by decide) ?_
              exact hk66_13 r59_23 H locs ls hP hD hS hl hF
    exact hlp25 N (-1) 0 0 H locs ls hP hD hS (lv_sub hl [3, 4, 5, 2, 1, 0] rfl) hF
  refine lv_if_eq (tgt := 13) hx hb dX8_nearest_6 (by decide) (fun c6 => ?_) (fun c6 => ?_)
  · have hF := brT c6 hF
    refine lv_iconst (v := 1) hx hb dX8_nearest_13 (by decide) ?_
    exact hk14_4 1 H locs ls hP hD hS hl hF
  · have hF := brF c6 hF
    refine lv_iconst (v := 0) hx hb dX8_nearest_9 (by decide) ?_
    refine lv_goto (tgt := 14) hx hb dX8_nearest_10 (by decide) ?_
    exact hk14_4 0 H locs ls hP hD hS hl hF
abbrev rm_X8_scans : Room := { frames := 1, cells := 0, slots := 0, locals := 22 }
theorem hd_X8_scans : yX8_scans.cls = RX8 ∧ yX8_scans.cls ≠ "java/lang/invoke/MethodHandle" ∧ yX8_scans.cls ≠ "java/lang/invoke/VarHandle" ∧ (parseMethodDescriptor yX8_scans.desc).map (fun d => d.parameters.length) = some 3 := by decide +kernel
set_option maxRecDepth 100000 in
set_option maxHeartbeats 4000000 in
theorem c_X8_scans (l : Launch) (D : va_G) (t : Nat → ClassId) (z : Nat) (x : Nat → Nat) (N : Nat) (a_t : Nat) (a_t_a : Nat) (v_t_fresh : Value) (v_t_aside : Value) (v_t_kept : Value) (v_t_buffer : Value) (v_t_moved : Value) (v_t_written : Value) (t_keptMany : Int32) (t_thrown : Int32) (t_buffered : Int32) (t_size : Int32) (t_at : Int32) (t_behind : Int32) (t_kind : Int32) (t_number : Int32) (t_wrong : Int32) (t_wrongAt : Int32) (t_errorAt : Int32) (t_unused : Int32) (t_writtenMany : Int32) (t_a_ : (Nat → Int32)) (p1 : Int32) (p2 : Int32) (p3 : Int32) (H : Heap) (r : Int32) (hF : f_X8_scans N t_a_ p1 p2 p3 = some (r)) : RdM l D (TY t) z x yX8_scans wsX8_scans rm_X8_scans [.ref a_t, .int p1, .int p2, .int p3] [(a_t, .inr (8, [.ref a_t_a, v_t_fresh, v_t_aside, v_t_kept, .int t_keptMany, .int t_thrown, v_t_buffer, .int t_buffered, .int t_size, .int t_at, .int t_behind, .int t_kind, .int t_number, .int t_wrong, .int t_wrongAt, .int t_errorAt, v_t_moved, .int t_unused, v_t_written, .int t_writtenMany])), (a_t_a, .inl (t 0, 876, .inl t_a_))] H (some (.int r)) := by
  refine rd_of (cc := cX8_scans) (maxL := 10) (ret := (some .int)) (by decide) rfl (Nat.le_of_ble_eq_true rfl) ?_
  intro p e s m args below meth c Q hQ hx hb hr hml hts hown hlocks hH hP hC ls hl
  have hown : s.vm.findClass RX8 = some m.cls := hown
  have hl : lv_has ls 10 [(0, .ref a_t), (1, .int p1), (2, .int p2), (3, .int p3)] := hl
  have hK := hC.1
  have iw8 : ∀ w ∈ wsX80, w ∈ wsX8_scans := fun _ h => List.mem_cons_of_mem _ (List.mem_append_right _ h)
  have hf7 := hts (.fieldLink RX8 7 "CrackedColumnModel" "a" "[I") (by decide +kernel)
  unfold f_X8_scans at hF
  refine lv_iconst (v := 0) hx hb dX8_scans_0 (by decide) ?_
  refine lv_istore (lv' := [(4, .int 0), (0, .ref a_t), (1, .int p1), (2, .int p2), (3, .int p3)]) hx hb dX8_scans_1 hl (by decide) rfl (fun ls hl => ?_)
  refine lv_iconst (v := 0) hx hb dX8_scans_3 (by decide) ?_
  refine lv_istore (lv' := [(5, .int 0), (4, .int 0), (0, .ref a_t), (1, .int p1), (2, .int p2), (3, .int p3)]) hx hb dX8_scans_4 hl (by decide) rfl (fun ls hl => ?_)
  refine lv_iconst (v := (-1)) hx hb dX8_scans_6 (by decide) ?_
  refine lv_istore (lv' := [(6, .int (-1)), (5, .int 0), (4, .int 0), (0, .ref a_t), (1, .int p1), (2, .int p2), (3, .int p3)]) hx hb dX8_scans_7 hl (by decide) rfl (fun ls hl => ?_)
  refine lv_iconst (v := (-1)) hx hb dX8_scans_9 (by decide) ?_
  refine lv_istore (lv' := [(7, .int (-1)), (6, .int (-1)), (5, .int 0), (4, .int 0), (0, .ref a_t), (1, .int p1), (2, .int p2), (3, .int p3)]) hx hb dX8_scans_10 hl (by decide) rfl (fun ls hl => ?_)
  refine lv_iconst (v := 0) hx hb dX8_scans_12 (by decide) ?_
  refine lv_istore (lv' := [(8, .int 0), (7, .int (-1)), (6, .int (-1)), (5, .int 0), (4, .int 0), (0, .ref a_t), (1, .int p1), (2, .int p2), (3, .int p3)]) hx hb dX8_scans_13 hl (by decide) rfl (fun ls hl => ?_)
  obtain ⟨k125_5, ek125_5, hF⟩ := jnE hF
  have hk125_5 : ∀ (x4_125_1 : Int32) (x5_125_2 : Int32) (x6_125_3 : Int32) (x7_125_4 : Int32) (ls : Array Slot), lv_has ls 10 [(3, .int p3), (4, .int x4_125_1), (5, .int x5_125_2), (6, .int x6_125_3), (7, .int x7_125_4)] → k125_5 x4_125_1 x5_125_2 x6_125_3 x7_125_4 = some (r) → W p l e rm_X8_scans s m args below meth c H [] 0 0 Q (F0 m 125 ls []) := by
    subst ek125_5
    intro x4_125_1 x5_125_2 x6_125_3 x7_125_4 ls hl hF
    refine lv_iload_n hx hb dX8_scans_125 rfl (lv_at hl 0 rfl) ?_
    refine lv_if_ne (tgt := 134) hx hb dX8_scans_126 (by decide) (fun c126 => ?_) (fun c126 => ?_)
    · have hF := brF c126 hF
      refine lv_iload_n hx hb dX8_scans_134 rfl (lv_at hl 0 rfl) ?_
      refine lv_iconst (v := 1) hx hb dX8_scans_135 (by decide) ?_
      refine lv_icmp_ne (tgt := 144) hx hb dX8_scans_136 (by decide) (fun c136 => ?_) (fun c136 => ?_)
      · have hF := brF c136 hF
        refine lv_iload_n hx hb dX8_scans_144 rfl (lv_at hl 0 rfl) ?_
        refine lv_iconst (v := 2) hx hb dX8_scans_145 (by decide) ?_
        refine lv_icmp_ne (tgt := 154) hx hb dX8_scans_146 (by decide) (fun c146 => ?_) (fun c146 => ?_)
        · have hF := brF c146 hF
          refine lv_iload hx hb dX8_scans_154 (lv_at hl 4 rfl) ?_
          cases hF
          exact rd_iret hx hb hr hlocks dX8_scans_156 rfl hQ
        · have hF := brT c146 hF
          refine lv_iload hx hb dX8_scans_149 (lv_at hl 3 rfl) ?_
          refine lv_goto (tgt := 156) hx hb dX8_scans_151 (by decide) ?_
          cases hF
          exact rd_iret hx hb hr hlocks dX8_scans_156 rfl hQ
      · have hF := brT c136 hF
        refine lv_iload hx hb dX8_scans_139 (lv_at hl 2 rfl) ?_
        refine lv_goto (tgt := 156) hx hb dX8_scans_141 (by decide) ?_
        cases hF
        exact rd_iret hx hb hr hlocks dX8_scans_156 rfl hQ
    · have hF := brT c126 hF
      refine lv_iload hx hb dX8_scans_129 (lv_at hl 1 rfl) ?_
      refine lv_goto (tgt := 156) hx hb dX8_scans_131 (by decide) ?_
      cases hF
      exact rd_iret hx hb hr hlocks dX8_scans_156 rfl hQ
  have hlp15 : ∀ n15 : Nat, ∀ (x4_15_6 : Int32) (x5_15_7 : Int32) (x6_15_8 : Int32) (x7_15_9 : Int32) (x8_15_10 : Int32) (ls : Array Slot), lv_has ls 10 [(0, .ref a_t), (1, .int p1), (2, .int p2), (3, .int p3), (4, .int x4_15_6), (5, .int x5_15_7), (6, .int x6_15_8), (7, .int x7_15_9), (8, .int x8_15_10)] → f_X8_scans_15 t_a_ p1 p2 k125_5 n15 x4_15_6 x5_15_7 x6_15_8 x7_15_9 x8_15_10 = some (r) → W p l e rm_X8_scans s m args below meth c H [] 0 0 Q (F0 m 15 ls []) := by
    intro n15
    induction n15 with
    | zero =>
      intro x4_15_6 x5_15_7 x6_15_8 x7_15_9 x8_15_10 ls hl hF
      cases (show none = some (r) from hF)
    | succ n15 ih15 =>
      intro x4_15_6 x5_15_7 x6_15_8 x7_15_9 x8_15_10 ls hl hF
      rw [f_X8_scans_15] at hF
      refine lv_iload hx hb dX8_scans_15 (lv_at hl 8 rfl) ?_
      refine lv_aload_n hx hb dX8_scans_17 rfl (lv_at hl 0 rfl) ?_
      refine va_get (D := D) (ci := 8) (v := .ref a_t_a) (C := RX8) (T := TX8) (N := 20) hx hb hts iw8 hown hK hP 0 rfl rfl 0 (by decide) hf7 (fun _ h9 => h9) rfl dX8_scans_18 ?_
      refine lv_iconst (v := 0) hx hb dX8_scans_21 (by decide) ?_
      refine my_iald (v := t_a_ 0) hx hb hK hP 1 0 rfl rfl (vp_lit (by decide +kernel)) rfl dX8_scans_22 ?_
      refine lv_icmp_ge (tgt := 125) hx hb dX8_scans_23 (by decide) (fun c23 => ?_) (fun c23 => ?_)
      · have hF := brT c23 hF
        exact hk125_5 x4_15_6 x5_15_7 x6_15_8 x7_15_9 ls (lv_sub hl [3, 4, 5, 6, 7] rfl) hF
      · have hF := brF c23 hF
        refine lv_aload_n hx hb dX8_scans_26 rfl (lv_at hl 0 rfl) ?_
        refine va_get (D := D) (ci := 8) (v := .ref a_t_a) (C := RX8) (T := TX8) (N := 20) hx hb hts iw8 hown hK hP 0 rfl rfl 0 (by decide) hf7 (fun _ h9 => h9) rfl dX8_scans_27 ?_
        refine lv_bipush (v := 20) hx hb dX8_scans_30 (by decide) ?_
        refine lv_iload hx hb dX8_scans_32 (lv_at hl 8 rfl) ?_
        refine lv_iadd hx hb dX8_scans_34 ?_
        obtain ⟨g35_10, hF⟩ := gd hF
        refine my_iald (v := t_a_ (20 + x8_15_10).toNatClampNeg) hx hb hK hP 1 0 rfl rfl g35_10 rfl dX8_scans_35 ?_
        refine lv_topi (fun y36_12 ey36_12 => ?_)
        have hF := ltE ey36_12 hF
        refine lv_istore (lv' := [(9, .int y36_12), (0, .ref a_t), (1, .int p1), (2, .int p2), (3, .int p3), (4, .int x4_15_6), (5, .int x5_15_7), (6, .int x6_15_8), (7, .int x7_15_9), (8, .int x8_15_10)]) hx hb dX8_scans_36 hl (by decide) rfl (fun ls hl => ?_)
        refine lv_aload_n hx hb dX8_scans_38 rfl (lv_at hl 1 rfl) ?_
        refine lv_iload hx hb dX8_scans_39 (lv_at hl 9 rfl) ?_
        obtain ⟨r41_13, h41_13, hF⟩ := bndE hF
        refine rdV (As := [.int x8_15_10]) (rest := []) (C := RX8) ⟨hx, hb, hml, hown, hts⟩ (c_X8_lives l D t z x a_t a_t_a v_t_fresh v_t_aside v_t_kept v_t_buffer v_t_moved v_t_written t_keptMany t_thrown t_buffered t_size t_at t_behind t_kind t_number t_wrong t_wrongAt t_errorAt t_unused t_writtenMany t_a_ x8_15_10 H r41_13 h41_13) (cwV 1 hts gX8_scans_X8_lives rfl rfl rfl hd_X8_lives ⟨Nat.le_of_ble_eq_true rfl, Nat.le_of_ble_eq_true rfl⟩) hC (selP (m9 := [true, true]) rfl rfl hP) 0 rfl (show vwCl[8]? = some (RX8, TX8, 20) from rfl) rfl rfl hl.1 rfl (Nat.le_of_ble_eq_true rfl) dX8_scans_41 ⟨Nat.zero_le _, Nat.zero_le _⟩ rfl ?_
        refine lv_if_eq (tgt := 119) hx hb dX8_scans_44 (by decide) (fun c44 => ?_) (fun c44 => ?_)
        · have hF := brT c44 hF
          obtain ⟨y119_15, ey119_15⟩ : ∃ y : Int32, y = x8_15_10 + 1 := ⟨_, rfl⟩
          have hF := ltE ey119_15 hF
          refine lv_iinc (v := y119_15) (lv' := [(8, .int y119_15), (9, .int y36_12), (0, .ref a_t), (1, .int p1), (2, .int p2), (3, .int p3), (4, .int x4_15_6), (5, .int x5_15_7), (6, .int x6_15_8), (7, .int x7_15_9)]) hx hb dX8_scans_119 hl (k := 9) rfl (by rw [ey119_15]; rfl) (by decide) rfl (fun ls hl => ?_)
          refine lv_goto (tgt := 15) hx hb dX8_scans_122 (by decide) ?_
          exact ih15 x4_15_6 x5_15_7 x6_15_8 x7_15_9 y119_15 ls (lv_sub hl [2, 3, 4, 5, 6, 7, 8, 9, 0] rfl) hF
        · have hF := brF c44 hF
          refine lv_iload hx hb dX8_scans_47 (lv_at hl 0 rfl) ?_
          refine lv_iload_n hx hb dX8_scans_49 rfl (lv_at hl 2 rfl) ?_
          refine lv_iload_n hx hb dX8_scans_50 rfl (lv_at hl 3 rfl) ?_
          refine lv_iconst (v := 1) hx hb dX8_scans_51 (by decide) ?_
          refine lv_isub hx hb dX8_scans_52 ?_
          obtain ⟨r53_16, h53_16, hF⟩ := bndE hF
          refine rdS (As := [.int y36_12, .int p1, .int (p2 - 1)]) (rest := []) ⟨hx, hb, hml, hown, hts⟩ (c_X8_isIn l D t z x y36_12 p1 (p2 - 1) H r53_16 h53_16) (va_cwS 3 hts gX8_scans_X8_isIn rfl rfl rfl hd_X8_isIn.2 ⟨Nat.le_of_ble_eq_true rfl, Nat.le_of_ble_eq_true rfl⟩) hC (selP (m9 := [false, false]) rfl rfl hP) rfl hl.1 rfl (Nat.le_of_ble_eq_true rfl) dX8_scans_53 ⟨Nat.zero_le _, Nat.zero_le _⟩ rfl ?_
          refine lv_if_ne (tgt := 62) hx hb dX8_scans_56 (by decide) (fun c56 => ?_) (fun c56 => ?_)
          · have hF := brF c56 hF
            obtain ⟨y62_18, ey62_18⟩ : ∃ y : Int32, y = x4_15_6 + 1 := ⟨_, rfl⟩
            have hF := ltE ey62_18 hF
            refine lv_iinc (v := y62_18) (lv' := [(4, .int y62_18), (9, .int y36_12), (0, .ref a_t), (1, .int p1), (2, .int p2), (3, .int p3), (5, .int x5_15_7), (6, .int x6_15_8), (7, .int x7_15_9), (8, .int x8_15_10)]) hx hb dX8_scans_62 hl (k := 5) rfl (by rw [ey62_18]; rfl) (by decide) rfl (fun ls hl => ?_)
            refine lv_iload hx hb dX8_scans_65 (lv_at hl 6 rfl) ?_
            refine lv_aload_n hx hb dX8_scans_67 rfl (lv_at hl 2 rfl) ?_
            refine va_get (D := D) (ci := 8) (v := .ref a_t_a) (C := RX8) (T := TX8) (N := 20) hx hb hts iw8 hown hK hP 0 rfl rfl 0 (by decide) hf7 (fun _ h9 => h9) rfl dX8_scans_68 ?_
            refine lv_sipush (v := 140) hx hb dX8_scans_71 (by decide) ?_
            refine lv_iload hx hb dX8_scans_74 (lv_at hl 9 rfl) ?_
            refine lv_iadd hx hb dX8_scans_76 ?_
            obtain ⟨g77_19, hF⟩ := gd hF
            refine my_iald (v := t_a_ (140 + x8_15_10).toNatClampNeg) hx hb hK hP 1 0 rfl rfl g77_19 rfl dX8_scans_77 ?_
            refine lv_iadd hx hb dX8_scans_78 ?_
            refine lv_topi (fun y79_20 ey79_20 => ?_)
            have hF := ltE ey79_20 hF
            refine lv_istore (lv' := [(5, .int y79_20), (4, .int y62_18), (9, .int y36_12), (0, .ref a_t), (1, .int p1), (2, .int p2), (3, .int p3), (6, .int x6_15_8), (7, .int x7_15_9), (8, .int x8_15_10)]) hx hb dX8_scans_79 hl (by decide) rfl (fun ls hl => ?_)
            refine lv_iload hx hb dX8_scans_81 (lv_at hl 7 rfl) ?_
            refine lv_iconst (v := (-1)) hx hb dX8_scans_83 (by decide) ?_
            obtain ⟨k101_22, ek101_22, hF⟩ := jnE hF
            have hk101_22 : ∀ (s0_101_21 : Int32) (ls : Array Slot), lv_has ls 10 [(0, .ref a_t), (1, .int p1), (2, .int p2), (3, .int p3), (4, .int y62_18), (5, .int y79_20), (7, .int x7_15_9), (8, .int x8_15_10), (9, .int y36_12)] → k101_22 s0_101_21 = some (r) → W p l e rm_X8_scans s m args below meth c H [] 0 0 Q (F0 m 101 ls [.int s0_101_21]) := by
              subst ek101_22
              intro s0_101_21 ls hl hF
              refine lv_istore (lv' := [(6, .int s0_101_21), (0, .ref a_t), (1, .int p1), (2, .int p2), (3, .int p3), (4, .int y62_18), (5, .int y79_20), (7, .int x7_15_9), (8, .int x8_15_10), (9, .int y36_12)]) hx hb dX8_scans_101 hl (by decide) rfl (fun ls hl => ?_)
              refine lv_iload hx hb dX8_scans_103 (lv_at hl 9 rfl) ?_
              refine lv_iload hx hb dX8_scans_105 (lv_at hl 7 rfl) ?_
              refine lv_icmp_le (tgt := 115) hx hb dX8_scans_107 (by decide) (fun c107 => ?_) (fun c107 => ?_)
              · have hF := brT c107 hF
                refine lv_iload hx hb dX8_scans_115 (lv_at hl 7 rfl) ?_
                refine lv_istore (lv' := [(7, .int x7_15_9), (6, .int s0_101_21), (0, .ref a_t), (1, .int p1), (2, .int p2), (3, .int p3), (4, .int y62_18), (5, .int y79_20), (8, .int x8_15_10), (9, .int y36_12)]) hx hb dX8_scans_117 hl (by decide) rfl (fun ls hl => ?_)
                obtain ⟨y119_23, ey119_23⟩ : ∃ y : Int32, y = x8_15_10 + 1 := ⟨_, rfl⟩
                have hF := ltE ey119_23 hF
                refine lv_iinc (v := y119_23) (lv' := [(8, .int y119_23), (7, .int x7_15_9), (6, .int s0_101_21), (0, .ref a_t), (1, .int p1), (2, .int p2), (3, .int p3), (4, .int y62_18), (5, .int y79_20), (9, .int y36_12)]) hx hb dX8_scans_119 hl (k := 8) rfl (by rw [ey119_23]; rfl) (by decide) rfl (fun ls hl => ?_)
                refine lv_goto (tgt := 15) hx hb dX8_scans_122 (by decide) ?_
                exact ih15 y62_18 y79_20 s0_101_21 x7_15_9 y119_23 ls (lv_sub hl [3, 4, 5, 6, 7, 8, 2, 1, 0] rfl) hF
              · have hF := brF c107 hF
                refine lv_iload hx hb dX8_scans_110 (lv_at hl 9 rfl) ?_
                refine lv_goto (tgt := 117) hx hb dX8_scans_112 (by decide) ?_
                refine lv_istore (lv' := [(7, .int y36_12), (6, .int s0_101_21), (0, .ref a_t), (1, .int p1), (2, .int p2), (3, .int p3), (4, .int y62_18), (5, .int y79_20), (8, .int x8_15_10), (9, .int y36_12)]) hx hb dX8_scans_117 hl (by decide) rfl (fun ls hl => ?_)
                obtain ⟨y119_24, ey119_24⟩ : ∃ y : Int32, y = x8_15_10 + 1 := ⟨_, rfl⟩
                have hF := ltE ey119_24 hF
                refine lv_iinc (v := y119_24) (lv' := [(8, .int y119_24), (7, .int y36_12), (6, .int s0_101_21), (0, .ref a_t), (1, .int p1), (2, .int p2), (3, .int p3), (4, .int y62_18), (5, .int y79_20), (9, .int y36_12)]) hx hb dX8_scans_119 hl (k := 8) rfl (by rw [ey119_24]; rfl) (by decide) rfl (fun ls hl => ?_)
                refine lv_goto (tgt := 15) hx hb dX8_scans_122 (by decide) ?_
                exact ih15 y62_18 y79_20 s0_101_21 y36_12 y119_24 ls (lv_sub hl [3, 4, 5, 6, 7, 8, 2, 1, 0] rfl) hF
            refine lv_icmp_eq (tgt := 94) hx hb dX8_scans_84 (by decide) (fun c84 => ?_) (fun c84 => ?_)
            · have hF := brT c84 hF
              refine lv_iload hx hb dX8_scans_94 (lv_at hl 2 rfl) ?_
              refine lv_goto (tgt := 101) hx hb dX8_scans_96 (by decide) ?_
              exact hk101_22 y36_12 ls (lv_sub hl [3, 4, 5, 6, 1, 0, 8, 9, 2] rfl) hF
            · have hF := brF c84 hF
              refine lv_iload hx hb dX8_scans_87 (lv_at hl 2 rfl) ?_
              refine lv_iload hx hb dX8_scans_89 (lv_at hl 7 rfl) ?_
              refine lv_icmp_ge (tgt := 99) hx hb dX8_scans_91 (by decide) (fun c91 => ?_) (fun c91 => ?_)
              · have hF := brT c91 hF
                refine lv_iload hx hb dX8_scans_99 (lv_at hl 7 rfl) ?_
                exact hk101_22 x6_15_8 ls (lv_sub hl [3, 4, 5, 6, 1, 0, 8, 9, 2] rfl) hF
              · have hF := brF c91 hF
                refine lv_iload hx hb dX8_scans_94 (lv_at hl 2 rfl) ?_
                refine lv_goto (tgt := 101) hx hb dX8_scans_96 (by decide) ?_
                exact hk101_22 y36_12 ls (lv_sub hl [3, 4, 5, 6, 1, 0, 8, 9, 2] rfl) hF
          · have hF := brT c56 hF
            refine lv_goto (tgt := 119) hx hb dX8_scans_59 (by decide) ?_
            obtain ⟨y119_25, ey119_25⟩ : ∃ y : Int32, y = x8_15_10 + 1 := ⟨_, rfl⟩
            have hF := ltE ey119_25 hF
            refine lv_iinc (v := y119_25) (lv' := [(8, .int y119_25), (9, .int y36_12), (0, .ref a_t), (1, .int p1), (2, .int p2), (3, .int p3), (4, .int x4_15_6), (5, .int x5_15_7), (6, .int x6_15_8), (7, .int x7_15_9)]) hx hb dX8_scans_119 hl (k := 9) rfl (by rw [ey119_25]; rfl) (by decide) rfl (fun ls hl => ?_)
            refine lv_goto (tgt := 15) hx hb dX8_scans_122 (by decide) ?_
            exact ih15 x4_15_6 x5_15_7 x6_15_8 x7_15_9 y119_25 ls (lv_sub hl [2, 3, 4, 5, 6, 7, 8, 9, 0] rfl) hF
  exact hlp15 N 0 0 (-1) (-1) 0 ls (lv_sub hl [5, 6, 7, 8, 4, 3, 2, 1, 0] rfl) hF
abbrev rm_X8_scan : Room := { frames := 2, cells := 0, slots := 0, locals := 51 }
theorem hd_X8_scan : yX8_scan.cls = RX8 ∧ yX8_scan.cls ≠ "java/lang/invoke/MethodHandle" ∧ yX8_scan.cls ≠ "java/lang/invoke/VarHandle" ∧ (parseMethodDescriptor yX8_scan.desc).map (fun d => d.parameters.length) = some 3 := by decide +kernel
set_option maxRecDepth 100000 in
set_option maxHeartbeats 4000000 in
theorem c_X8_scan (l : Launch) (D : va_G) (t : Nat → ClassId) (z : Nat) (x : Nat → Nat) (N : Nat) (a_t : Nat) (a_t_a : Nat) (v_t_fresh : Value) (v_t_aside : Value) (v_t_kept : Value) (v_t_buffer : Value) (v_t_moved : Value) (v_t_written : Value) (t_keptMany : Int32) (t_thrown : Int32) (t_buffered : Int32) (t_size : Int32) (t_at : Int32) (t_behind : Int32) (t_kind : Int32) (t_number : Int32) (t_wrong : Int32) (t_wrongAt : Int32) (t_errorAt : Int32) (t_unused : Int32) (t_writtenMany : Int32) (t_a_ : (Nat → Int32)) (p1 : Int32) (p2 : Int32) (p3 : Int32) (sz : Nat) (r : Int32) (t_thrown' : Int32) (hF : f_X8_scan N t_a_ p1 p2 p3 = some (r, t_thrown')) : WrM l D (TY t) z x yX8_scan wsX8_scan rm_X8_scan [.ref a_t, .int p1, .int p2, .int p3] [(a_t, .inr (8, [.ref a_t_a, v_t_fresh, v_t_aside, v_t_kept, .int t_keptMany, .int t_thrown, v_t_buffer, .int t_buffered, .int t_size, .int t_at, .int t_behind, .int t_kind, .int t_number, .int t_wrong, .int t_wrongAt, .int t_errorAt, v_t_moved, .int t_unused, v_t_written, .int t_writtenMany])), (a_t_a, .inl (t 0, 876, .inl t_a_))] [(a_t, .inr (8, [.ref a_t_a, v_t_fresh, v_t_aside, v_t_kept, .int t_keptMany, .int t_thrown', v_t_buffer, .int t_buffered, .int t_size, .int t_at, .int t_behind, .int t_kind, .int t_number, .int t_wrong, .int t_wrongAt, .int t_errorAt, v_t_moved, .int t_unused, v_t_written, .int t_writtenMany])), (a_t_a, .inl (t 0, 876, .inl t_a_))] sz (some (.int r)) 0 0 := by
  refine wr_of (cc := cX8_scan) (maxL := 4) (ret := (some .int)) (by decide) rfl (Nat.le_of_ble_eq_true rfl) ?_
  intro p e s m args below meth c A Q hQ hx hb hr hml hts hown hlocks hin H locs hP hD hS hA hz hC ls hl
  have hown : s.vm.findClass RX8 = some m.cls := hown
  have hl : lv_has ls 4 [(0, .ref a_t), (1, .int p1), (2, .int p2), (3, .int p3)] := hl
  have hK := hC.1
  have iw8 : ∀ w ∈ wsX80, w ∈ wsX8_scan := fun _ h => List.mem_cons_of_mem _ (List.mem_append_right _ h)
  have hf45 := hts (.fieldLink RX8 45 "CrackedColumnModel" "thrown" "I") (by decide +kernel)
  unfold f_X8_scan at hF
  refine lv_aload_n hx hb dX8_scan_0 rfl (lv_at hl 0 rfl) ?_
  refine lv_iload_n hx hb dX8_scan_1 rfl (lv_at hl 1 rfl) ?_
  refine lv_iload_n hx hb dX8_scan_2 rfl (lv_at hl 2 rfl) ?_
  obtain ⟨r3_1, h3_1, hF⟩ := bndE hF
  refine rdS (As := [.int p1, .int p2]) (rest := [.ref a_t]) ⟨hx, hb, hml, hown, hts⟩ (c_X8_isSpan l D t z x p1 p2 H r3_1 h3_1) (va_cwS 2 hts gX8_scan_X8_isSpan rfl rfl rfl hd_X8_isSpan.2 ⟨Nat.le_of_ble_eq_true rfl, Nat.le_of_ble_eq_true rfl⟩) (hC.at hz hS) (selP (m9 := [false, false]) rfl rfl hP) rfl hl.1 rfl (Nat.le_of_ble_eq_true rfl) dX8_scan_3 ⟨Nat.zero_le _, Nat.zero_le _⟩ rfl ?_
  obtain ⟨k23_4, ek23_4, hF⟩ := jnE hF
  have hk23_4 : ∀ (s0_23_3 : Int32) (H : Heap) (locs : List Loc) (ls : Array Slot), va_P D vwCl [(a_t, .inr (8, [.ref a_t_a, v_t_fresh, v_t_aside, v_t_kept, .int t_keptMany, .int t_thrown, v_t_buffer, .int t_buffered, .int t_size, .int t_at, .int t_behind, .int t_kind, .int t_number, .int t_wrong, .int t_wrongAt, .int t_errorAt, v_t_moved, .int t_unused, v_t_written, .int t_writtenMany])), (a_t_a, .inl (t 0, 876, .inl t_a_))] H → va_D A [(a_t, .inr (8, [.ref a_t_a, v_t_fresh, v_t_aside, v_t_kept, .int t_keptMany, .int t_thrown, v_t_buffer, .int t_buffered, .int t_size, .int t_at, .int t_behind, .int t_kind, .int t_number, .int t_wrong, .int t_wrongAt, .int t_errorAt, v_t_moved, .int t_unused, v_t_written, .int t_writtenMany])), (a_t_a, .inl (t 0, 876, .inl t_a_))] → va_S A s.heap H locs → lv_has ls 4 [(0, .ref a_t), (1, .int p1), (2, .int p2), (3, .int p3)] → k23_4 s0_23_3 = some (r, t_thrown') → W p l e rm_X8_scan s m args below meth c H locs 0 0 Q (F0 m 23 ls [.int s0_23_3, .ref a_t]) := by
    subst ek23_4
    intro s0_23_3 H locs ls hP hD hS hl hF
    refine my_put (ty := .int) (v := .int s0_23_3) (ci := 8) (C := RX8) (T := TX8) (N := 20) (wn := [(a_t, .inr (8, [.ref a_t_a, v_t_fresh, v_t_aside, v_t_kept, .int t_keptMany, .int s0_23_3, v_t_buffer, .int t_buffered, .int t_size, .int t_at, .int t_behind, .int t_kind, .int t_number, .int t_wrong, .int t_wrongAt, .int t_errorAt, v_t_moved, .int t_unused, v_t_written, .int t_writtenMany])), (a_t_a, .inl (t 0, 876, .inl t_a_))]) hx hb hts iw8 tyX8 tyX8_ok nmX8 hown hK hP hD hS 0 rfl rfl 5 (by decide) hf45 (fun _ h9 => h9) rfl (by decide +kernel) rfl rfl (Nat.le_of_ble_eq_true rfl) rfl dX8_scan_23 (fun H locs hP hD hS => ?_)
    refine lv_aload_n hx hb dX8_scan_26 rfl (lv_at hl 0 rfl) ?_
    refine va_get (D := D) (ci := 8) (v := .int s0_23_3) (C := RX8) (T := TX8) (N := 20) hx hb hts iw8 hown hK hP 0 rfl rfl 5 (by decide) hf45 (fun _ h9 => h9) rfl dX8_scan_27 ?_
    refine lv_if_le (tgt := 37) hx hb dX8_scan_30 (by decide) (fun c30 => ?_) (fun c30 => ?_)
    · have hF := brT c30 hF
      refine lv_aload_n hx hb dX8_scan_37 rfl (lv_at hl 0 rfl) ?_
      refine lv_iload_n hx hb dX8_scan_38 rfl (lv_at hl 1 rfl) ?_
      refine lv_iload_n hx hb dX8_scan_39 rfl (lv_at hl 2 rfl) ?_
      refine lv_iload_n hx hb dX8_scan_40 rfl (lv_at hl 3 rfl) ?_
      obtain ⟨r41_5, h41_5, hF⟩ := bndE hF
      refine rdV (As := [.int p1, .int p2, .int p3]) (rest := []) (C := RX8) ⟨hx, hb, hml, hown, hts⟩ (c_X8_scans l D t z x N a_t a_t_a v_t_fresh v_t_aside v_t_kept v_t_buffer v_t_moved v_t_written t_keptMany s0_23_3 t_buffered t_size t_at t_behind t_kind t_number t_wrong t_wrongAt t_errorAt t_unused t_writtenMany t_a_ p1 p2 p3 H r41_5 h41_5) (cwV 3 hts gX8_scan_X8_scans rfl rfl rfl hd_X8_scans ⟨Nat.le_of_ble_eq_true rfl, Nat.le_of_ble_eq_true rfl⟩) (hC.at hz hS) (selP (m9 := [true, true]) rfl rfl hP) 0 rfl (show vwCl[8]? = some (RX8, TX8, 20) from rfl) rfl rfl hl.1 rfl (Nat.le_of_ble_eq_true rfl) dX8_scan_41 ⟨Nat.zero_le _, Nat.zero_le _⟩ rfl ?_
      cases hF
      exact we_iret hx hb hr hlocks dX8_scan_44 rfl hQ hP hD hS
    · have hF := brF c30 hF
      refine lv_iconst (v := 0) hx hb dX8_scan_33 (by decide) ?_
      refine lv_goto (tgt := 44) hx hb dX8_scan_34 (by decide) ?_
      cases hF
      exact we_iret hx hb hr hlocks dX8_scan_44 rfl hQ hP hD hS
  refine lv_if_eq (tgt := 22) hx hb dX8_scan_6 (by decide) (fun c6 => ?_) (fun c6 => ?_)
  · have hF := brT c6 hF
    refine lv_iconst (v := 1) hx hb dX8_scan_22 (by decide) ?_
    exact hk23_4 1 H locs ls hP hD hS hl hF
  · have hF := brF c6 hF
    refine lv_iload_n hx hb dX8_scan_9 rfl (lv_at hl 3 rfl) ?_
    refine lv_iconst (v := 0) hx hb dX8_scan_10 (by decide) ?_
    refine lv_iconst (v := 3) hx hb dX8_scan_11 (by decide) ?_
    obtain ⟨r12_7, h12_7, hF⟩ := bndE hF
    refine rdS (As := [.int p3, .int 0, .int 3]) (rest := [.ref a_t]) ⟨hx, hb, hml, hown, hts⟩ (c_X8_isIn l D t z x p3 0 3 H r12_7 h12_7) (va_cwS 3 hts gX8_scan_X8_isIn rfl rfl rfl hd_X8_isIn.2 ⟨Nat.le_of_ble_eq_true rfl, Nat.le_of_ble_eq_true rfl⟩) (hC.at hz hS) (selP (m9 := [false, false]) rfl rfl hP) rfl hl.1 rfl (Nat.le_of_ble_eq_true rfl) dX8_scan_12 ⟨Nat.zero_le _, Nat.zero_le _⟩ rfl ?_
    refine lv_if_eq (tgt := 22) hx hb dX8_scan_15 (by decide) (fun c15 => ?_) (fun c15 => ?_)
    · have hF := brT c15 hF
      refine lv_iconst (v := 1) hx hb dX8_scan_22 (by decide) ?_
      exact hk23_4 1 H locs ls hP hD hS hl hF
    · have hF := brF c15 hF
      refine lv_iconst (v := 0) hx hb dX8_scan_18 (by decide) ?_
      refine lv_goto (tgt := 23) hx hb dX8_scan_19 (by decide) ?_
      exact hk23_4 0 H locs ls hP hD hS hl hF
abbrev rm_X8_mean : Room := { frames := 2, cells := 0, slots := 0, locals := 51 }
theorem hd_X8_mean : yX8_mean.cls = RX8 ∧ yX8_mean.cls ≠ "java/lang/invoke/MethodHandle" ∧ yX8_mean.cls ≠ "java/lang/invoke/VarHandle" ∧ (parseMethodDescriptor yX8_mean.desc).map (fun d => d.parameters.length) = some 2 := by decide +kernel
set_option maxRecDepth 100000 in
set_option maxHeartbeats 4000000 in
theorem c_X8_mean (l : Launch) (D : va_G) (t : Nat → ClassId) (z : Nat) (x : Nat → Nat) (N : Nat) (a_t : Nat) (a_t_a : Nat) (v_t_fresh : Value) (v_t_aside : Value) (v_t_kept : Value) (v_t_buffer : Value) (v_t_moved : Value) (v_t_written : Value) (t_keptMany : Int32) (t_thrown : Int32) (t_buffered : Int32) (t_size : Int32) (t_at : Int32) (t_behind : Int32) (t_kind : Int32) (t_number : Int32) (t_wrong : Int32) (t_wrongAt : Int32) (t_errorAt : Int32) (t_unused : Int32) (t_writtenMany : Int32) (t_a_ : (Nat → Int32)) (p1 : Int32) (p2 : Int32) (sz : Nat) (r : UInt32) (t_thrown' : Int32) (hF : f_X8_mean N t_a_ p1 p2 = some (r, t_thrown')) : WrM l D (TY t) z x yX8_mean wsX8_mean rm_X8_mean [.ref a_t, .int p1, .int p2] [(a_t, .inr (8, [.ref a_t_a, v_t_fresh, v_t_aside, v_t_kept, .int t_keptMany, .int t_thrown, v_t_buffer, .int t_buffered, .int t_size, .int t_at, .int t_behind, .int t_kind, .int t_number, .int t_wrong, .int t_wrongAt, .int t_errorAt, v_t_moved, .int t_unused, v_t_written, .int t_writtenMany])), (a_t_a, .inl (t 0, 876, .inl t_a_))] [(a_t, .inr (8, [.ref a_t_a, v_t_fresh, v_t_aside, v_t_kept, .int t_keptMany, .int t_thrown', v_t_buffer, .int t_buffered, .int t_size, .int t_at, .int t_behind, .int t_kind, .int t_number, .int t_wrong, .int t_wrongAt, .int t_errorAt, v_t_moved, .int t_unused, v_t_written, .int t_writtenMany])), (a_t_a, .inl (t 0, 876, .inl t_a_))] sz (some (.float r)) 0 0 := by
  refine wr_of (cc := cX8_mean) (maxL := 3) (ret := (some .float)) (by decide) rfl (Nat.le_of_ble_eq_true rfl) ?_
  intro p e s m args below meth c A Q hQ hx hb hr hml hts hown hlocks hin H locs hP hD hS hA hz hC ls hl
  have hown : s.vm.findClass RX8 = some m.cls := hown
  have hl : lv_has ls 3 [(0, .ref a_t), (1, .int p1), (2, .int p2)] := hl
  have hK := hC.1
  have iw8 : ∀ w ∈ wsX80, w ∈ wsX8_mean := fun _ h => List.mem_cons_of_mem _ (List.mem_append_right _ h)
  have hf45 := hts (.fieldLink RX8 45 "CrackedColumnModel" "thrown" "I") (by decide +kernel)
  unfold f_X8_mean at hF
  refine lv_aload_n hx hb dX8_mean_0 rfl (lv_at hl 0 rfl) ?_
  refine lv_iload_n hx hb dX8_mean_1 rfl (lv_at hl 1 rfl) ?_
  refine lv_iload_n hx hb dX8_mean_2 rfl (lv_at hl 2 rfl) ?_
  obtain ⟨r3_1, h3_1, hF⟩ := bndE hF
  refine rdS (As := [.int p1, .int p2]) (rest := [.ref a_t]) ⟨hx, hb, hml, hown, hts⟩ (c_X8_isSpan l D t z x p1 p2 H r3_1 h3_1) (va_cwS 2 hts gX8_mean_X8_isSpan rfl rfl rfl hd_X8_isSpan.2 ⟨Nat.le_of_ble_eq_true rfl, Nat.le_of_ble_eq_true rfl⟩) (hC.at hz hS) (selP (m9 := [false, false]) rfl rfl hP) rfl hl.1 rfl (Nat.le_of_ble_eq_true rfl) dX8_mean_3 ⟨Nat.zero_le _, Nat.zero_le _⟩ rfl ?_
  obtain ⟨k28_4, ek28_4, hF⟩ := jnE hF
  have hk28_4 : ∀ (s0_28_3 : Int32) (H : Heap) (locs : List Loc) (ls : Array Slot), va_P D vwCl [(a_t, .inr (8, [.ref a_t_a, v_t_fresh, v_t_aside, v_t_kept, .int t_keptMany, .int t_thrown, v_t_buffer, .int t_buffered, .int t_size, .int t_at, .int t_behind, .int t_kind, .int t_number, .int t_wrong, .int t_wrongAt, .int t_errorAt, v_t_moved, .int t_unused, v_t_written, .int t_writtenMany])), (a_t_a, .inl (t 0, 876, .inl t_a_))] H → va_D A [(a_t, .inr (8, [.ref a_t_a, v_t_fresh, v_t_aside, v_t_kept, .int t_keptMany, .int t_thrown, v_t_buffer, .int t_buffered, .int t_size, .int t_at, .int t_behind, .int t_kind, .int t_number, .int t_wrong, .int t_wrongAt, .int t_errorAt, v_t_moved, .int t_unused, v_t_written, .int t_writtenMany])), (a_t_a, .inl (t 0, 876, .inl t_a_))] → va_S A s.heap H locs → lv_has ls 3 [(0, .ref a_t), (1, .int p1), (2, .int p2)] → k28_4 s0_28_3 = some (r, t_thrown') → W p l e rm_X8_mean s m args below meth c H locs 0 0 Q (F0 m 28 ls [.int s0_28_3, .ref a_t]) := by
    subst ek28_4
    intro s0_28_3 H locs ls hP hD hS hl hF
    refine my_put (ty := .int) (v := .int s0_28_3) (ci := 8) (C := RX8) (T := TX8) (N := 20) (wn := [(a_t, .inr (8, [.ref a_t_a, v_t_fresh, v_t_aside, v_t_kept, .int t_keptMany, .int s0_28_3, v_t_buffer, .int t_buffered, .int t_size, .int t_at, .int t_behind, .int t_kind, .int t_number, .int t_wrong, .int t_wrongAt, .int t_errorAt, v_t_moved, .int t_unused, v_t_written, .int t_writtenMany])), (a_t_a, .inl (t 0, 876, .inl t_a_))]) hx hb hts iw8 tyX8 tyX8_ok nmX8 hown hK hP hD hS 0 rfl rfl 5 (by decide) hf45 (fun _ h9 => h9) rfl (by decide +kernel) rfl rfl (Nat.le_of_ble_eq_true rfl) rfl dX8_mean_28 (fun H locs hP hD hS => ?_)
    refine lv_aload_n hx hb dX8_mean_31 rfl (lv_at hl 0 rfl) ?_
    refine va_get (D := D) (ci := 8) (v := .int s0_28_3) (C := RX8) (T := TX8) (N := 20) hx hb hts iw8 hown hK hP 0 rfl rfl 5 (by decide) hf45 (fun _ h9 => h9) rfl dX8_mean_32 ?_
    refine lv_if_le (tgt := 42) hx hb dX8_mean_35 (by decide) (fun c35 => ?_) (fun c35 => ?_)
    · have hF := brT c35 hF
      refine lv_aload_n hx hb dX8_mean_42 rfl (lv_at hl 0 rfl) ?_
      refine lv_iload_n hx hb dX8_mean_43 rfl (lv_at hl 1 rfl) ?_
      refine lv_iload_n hx hb dX8_mean_44 rfl (lv_at hl 2 rfl) ?_
      refine lv_iconst (v := 1) hx hb dX8_mean_45 (by decide) ?_
      obtain ⟨r46_5, h46_5, hF⟩ := bndE hF
      refine rdV (As := [.int p1, .int p2, .int 1]) (rest := []) (C := RX8) ⟨hx, hb, hml, hown, hts⟩ (c_X8_scans l D t z x N a_t a_t_a v_t_fresh v_t_aside v_t_kept v_t_buffer v_t_moved v_t_written t_keptMany s0_28_3 t_buffered t_size t_at t_behind t_kind t_number t_wrong t_wrongAt t_errorAt t_unused t_writtenMany t_a_ p1 p2 1 H r46_5 h46_5) (cwV 3 hts gX8_mean_X8_scans rfl rfl rfl hd_X8_scans ⟨Nat.le_of_ble_eq_true rfl, Nat.le_of_ble_eq_true rfl⟩) (hC.at hz hS) (selP (m9 := [true, true]) rfl rfl hP) 0 rfl (show vwCl[8]? = some (RX8, TX8, 20) from rfl) rfl rfl hl.1 rfl (Nat.le_of_ble_eq_true rfl) dX8_mean_46 ⟨Nat.zero_le _, Nat.zero_le _⟩ rfl ?_
      refine lv_i2f hx hb dX8_mean_49 ?_
      refine lv_aload_n hx hb dX8_mean_50 rfl (lv_at hl 0 rfl) ?_
      refine lv_iload_n hx hb dX8_mean_51 rfl (lv_at hl 1 rfl) ?_
      refine lv_iload_n hx hb dX8_mean_52 rfl (lv_at hl 2 rfl) ?_
      refine lv_iconst (v := 0) hx hb dX8_mean_53 (by decide) ?_
      obtain ⟨r54_7, h54_7, hF⟩ := bndE hF
      refine rdV (As := [.int p1, .int p2, .int 0]) (rest := [.float (FP.i2f r46_5)]) (C := RX8) ⟨hx, hb, hml, hown, hts⟩ (c_X8_scans l D t z x N a_t a_t_a v_t_fresh v_t_aside v_t_kept v_t_buffer v_t_moved v_t_written t_keptMany s0_28_3 t_buffered t_size t_at t_behind t_kind t_number t_wrong t_wrongAt t_errorAt t_unused t_writtenMany t_a_ p1 p2 0 H r54_7 h54_7) (cwV 3 hts gX8_mean_X8_scans rfl rfl rfl hd_X8_scans ⟨Nat.le_of_ble_eq_true rfl, Nat.le_of_ble_eq_true rfl⟩) (hC.at hz hS) (selP (m9 := [true, true]) rfl rfl hP) 0 rfl (show vwCl[8]? = some (RX8, TX8, 20) from rfl) rfl rfl hl.1 rfl (Nat.le_of_ble_eq_true rfl) dX8_mean_54 ⟨Nat.zero_le _, Nat.zero_le _⟩ rfl ?_
      refine lv_i2f hx hb dX8_mean_57 ?_
      obtain ⟨g58_8, hF⟩ := gp hF
      refine lv_fdiv hx hb dX8_mean_58 g58_8 ?_
      cases hF
      exact we_fret hx hb hr hlocks dX8_mean_59 rfl hQ hP hD hS
    · have hF := brF c35 hF
      refine lv_fconst0 hx hb dX8_mean_38 ?_
      refine lv_goto (tgt := 59) hx hb dX8_mean_39 (by decide) ?_
      cases hF
      exact we_fret hx hb hr hlocks dX8_mean_59 rfl hQ hP hD hS
  refine lv_if_ne (tgt := 13) hx hb dX8_mean_6 (by decide) (fun c6 => ?_) (fun c6 => ?_)
  · have hF := brF c6 hF
    refine lv_aload_n hx hb dX8_mean_13 rfl (lv_at hl 0 rfl) ?_
    refine lv_iload_n hx hb dX8_mean_14 rfl (lv_at hl 1 rfl) ?_
    refine lv_iload_n hx hb dX8_mean_15 rfl (lv_at hl 2 rfl) ?_
    refine lv_iconst (v := 0) hx hb dX8_mean_16 (by decide) ?_
    obtain ⟨r17_10, h17_10, hF⟩ := bndE hF
    refine rdV (As := [.int p1, .int p2, .int 0]) (rest := [.ref a_t]) (C := RX8) ⟨hx, hb, hml, hown, hts⟩ (c_X8_scans l D t z x N a_t a_t_a v_t_fresh v_t_aside v_t_kept v_t_buffer v_t_moved v_t_written t_keptMany t_thrown t_buffered t_size t_at t_behind t_kind t_number t_wrong t_wrongAt t_errorAt t_unused t_writtenMany t_a_ p1 p2 0 H r17_10 h17_10) (cwV 3 hts gX8_mean_X8_scans rfl rfl rfl hd_X8_scans ⟨Nat.le_of_ble_eq_true rfl, Nat.le_of_ble_eq_true rfl⟩) (hC.at hz hS) (selP (m9 := [true, true]) rfl rfl hP) 0 rfl (show vwCl[8]? = some (RX8, TX8, 20) from rfl) rfl rfl hl.1 rfl (Nat.le_of_ble_eq_true rfl) dX8_mean_17 ⟨Nat.zero_le _, Nat.zero_le _⟩ rfl ?_
    refine lv_if_ne (tgt := 27) hx hb dX8_mean_20 (by decide) (fun c20 => ?_) (fun c20 => ?_)
    · have hF := brF c20 hF
      refine lv_iconst (v := 0) hx hb dX8_mean_27 (by decide) ?_
      exact hk28_4 0 H locs ls hP hD hS hl hF
    · have hF := brT c20 hF
      refine lv_iconst (v := 2) hx hb dX8_mean_23 (by decide) ?_
      refine lv_goto (tgt := 28) hx hb dX8_mean_24 (by decide) ?_
      exact hk28_4 2 H locs ls hP hD hS hl hF
  · have hF := brT c6 hF
    refine lv_iconst (v := 1) hx hb dX8_mean_9 (by decide) ?_
    refine lv_goto (tgt := 28) hx hb dX8_mean_10 (by decide) ?_
    exact hk28_4 1 H locs ls hP hD hS hl hF
abbrev rm_X8_ordered : Room := { frames := 1, cells := 0, slots := 0, locals := 22 }
theorem hd_X8_ordered : yX8_ordered.cls = RX8 ∧ yX8_ordered.cls ≠ "java/lang/invoke/MethodHandle" ∧ yX8_ordered.cls ≠ "java/lang/invoke/VarHandle" ∧ (parseMethodDescriptor yX8_ordered.desc).map (fun d => d.parameters.length) = some 1 := by decide +kernel
set_option maxRecDepth 100000 in
set_option maxHeartbeats 4000000 in
theorem c_X8_ordered (l : Launch) (D : va_G) (t : Nat → ClassId) (z : Nat) (x : Nat → Nat) (N : Nat) (a_t : Nat) (a_t_a : Nat) (v_t_fresh : Value) (v_t_aside : Value) (v_t_kept : Value) (v_t_buffer : Value) (v_t_moved : Value) (v_t_written : Value) (t_keptMany : Int32) (t_thrown : Int32) (t_buffered : Int32) (t_size : Int32) (t_at : Int32) (t_behind : Int32) (t_kind : Int32) (t_number : Int32) (t_wrong : Int32) (t_wrongAt : Int32) (t_errorAt : Int32) (t_unused : Int32) (t_writtenMany : Int32) (t_a_ : (Nat → Int32)) (p1 : Int32) (sz : Nat) (r : Int32) (t_thrown' : Int32) (hF : f_X8_ordered N t_a_ p1 = some (r, t_thrown')) : WrM l D (TY t) z x yX8_ordered wsX8_ordered rm_X8_ordered [.ref a_t, .int p1] [(a_t, .inr (8, [.ref a_t_a, v_t_fresh, v_t_aside, v_t_kept, .int t_keptMany, .int t_thrown, v_t_buffer, .int t_buffered, .int t_size, .int t_at, .int t_behind, .int t_kind, .int t_number, .int t_wrong, .int t_wrongAt, .int t_errorAt, v_t_moved, .int t_unused, v_t_written, .int t_writtenMany])), (a_t_a, .inl (t 0, 876, .inl t_a_))] [(a_t, .inr (8, [.ref a_t_a, v_t_fresh, v_t_aside, v_t_kept, .int t_keptMany, .int t_thrown', v_t_buffer, .int t_buffered, .int t_size, .int t_at, .int t_behind, .int t_kind, .int t_number, .int t_wrong, .int t_wrongAt, .int t_errorAt, v_t_moved, .int t_unused, v_t_written, .int t_writtenMany])), (a_t_a, .inl (t 0, 876, .inl t_a_))] sz (some (.int r)) 0 0 := by
  refine wr_of (cc := cX8_ordered) (maxL := 5) (ret := (some .int)) (by decide) rfl (Nat.le_of_ble_eq_true rfl) ?_
  intro p e s m args below meth c A Q hQ hx hb hr hml hts hown hlocks hin H locs hP hD hS hA hz hC ls hl
  have hown : s.vm.findClass RX8 = some m.cls := hown
  have hl : lv_has ls 5 [(0, .ref a_t), (1, .int p1)] := hl
  have hK := hC.1
  have iw8 : ∀ w ∈ wsX80, w ∈ wsX8_ordered := fun _ h => List.mem_cons_of_mem _ (List.mem_append_right _ h)
  have hf7 := hts (.fieldLink RX8 7 "CrackedColumnModel" "a" "[I") (by decide +kernel)
  have hf45 := hts (.fieldLink RX8 45 "CrackedColumnModel" "thrown" "I") (by decide +kernel)
  unfold f_X8_ordered at hF
  refine lv_aload_n hx hb dX8_ordered_0 rfl (lv_at hl 0 rfl) ?_
  refine lv_iconst (v := 1) hx hb dX8_ordered_1 (by decide) ?_
  refine my_put (ty := .int) (v := .int 1) (ci := 8) (C := RX8) (T := TX8) (N := 20) (wn := [(a_t, .inr (8, [.ref a_t_a, v_t_fresh, v_t_aside, v_t_kept, .int t_keptMany, .int 1, v_t_buffer, .int t_buffered, .int t_size, .int t_at, .int t_behind, .int t_kind, .int t_number, .int t_wrong, .int t_wrongAt, .int t_errorAt, v_t_moved, .int t_unused, v_t_written, .int t_writtenMany])), (a_t_a, .inl (t 0, 876, .inl t_a_))]) hx hb hts iw8 tyX8 tyX8_ok nmX8 hown hK hP hD hS 0 rfl rfl 5 (by decide) hf45 (fun _ h9 => h9) rfl (by decide +kernel) rfl rfl (Nat.le_of_ble_eq_true rfl) rfl dX8_ordered_2 (fun H locs hP hD hS => ?_)
  refine lv_iconst (v := 0) hx hb dX8_ordered_5 (by decide) ?_
  refine lv_istore_n (lv' := [(2, .int 0), (0, .ref a_t), (1, .int p1)]) hx hb dX8_ordered_6 rfl hl (by decide) rfl (fun ls hl => ?_)
  obtain ⟨k95_1, ek95_1, hF⟩ := jnE hF
  have hk95_1 : ∀ (H : Heap) (locs : List Loc) (ls : Array Slot), va_P D vwCl [(a_t, .inr (8, [.ref a_t_a, v_t_fresh, v_t_aside, v_t_kept, .int t_keptMany, .int 1, v_t_buffer, .int t_buffered, .int t_size, .int t_at, .int t_behind, .int t_kind, .int t_number, .int t_wrong, .int t_wrongAt, .int t_errorAt, v_t_moved, .int t_unused, v_t_written, .int t_writtenMany])), (a_t_a, .inl (t 0, 876, .inl t_a_))] H → va_D A [(a_t, .inr (8, [.ref a_t_a, v_t_fresh, v_t_aside, v_t_kept, .int t_keptMany, .int 1, v_t_buffer, .int t_buffered, .int t_size, .int t_at, .int t_behind, .int t_kind, .int t_number, .int t_wrong, .int t_wrongAt, .int t_errorAt, v_t_moved, .int t_unused, v_t_written, .int t_writtenMany])), (a_t_a, .inl (t 0, 876, .inl t_a_))] → va_S A s.heap H locs → lv_has ls 5 [] → k95_1 = some (r, t_thrown') → W p l e rm_X8_ordered s m args below meth c H locs 0 0 Q (F0 m 95 ls []) := by
    subst ek95_1
    intro H locs ls hP hD hS hl hF
    refine lv_iconst (v := 0) hx hb dX8_ordered_95 (by decide) ?_
    cases hF
    exact we_iret hx hb hr hlocks dX8_ordered_96 rfl hQ hP hD hS
  obtain ⟨k82_3, ek82_3, hF⟩ := jnE hF
  have hk82_3 : ∀ (x2_82_2 : Int32) (H : Heap) (locs : List Loc) (ls : Array Slot), va_P D vwCl [(a_t, .inr (8, [.ref a_t_a, v_t_fresh, v_t_aside, v_t_kept, .int t_keptMany, .int 1, v_t_buffer, .int t_buffered, .int t_size, .int t_at, .int t_behind, .int t_kind, .int t_number, .int t_wrong, .int t_wrongAt, .int t_errorAt, v_t_moved, .int t_unused, v_t_written, .int t_writtenMany])), (a_t_a, .inl (t 0, 876, .inl t_a_))] H → va_D A [(a_t, .inr (8, [.ref a_t_a, v_t_fresh, v_t_aside, v_t_kept, .int t_keptMany, .int 1, v_t_buffer, .int t_buffered, .int t_size, .int t_at, .int t_behind, .int t_kind, .int t_number, .int t_wrong, .int t_wrongAt, .int t_errorAt, v_t_moved, .int t_unused, v_t_written, .int t_writtenMany])), (a_t_a, .inl (t 0, 876, .inl t_a_))] → va_S A s.heap H locs → lv_has ls 5 [(0, .ref a_t), (2, .int x2_82_2)] → k82_3 x2_82_2 = some (r, t_thrown') → W p l e rm_X8_ordered s m args below meth c H locs 0 0 Q (F0 m 82 ls []) := by
    subst ek82_3
    intro x2_82_2 H locs ls hP hD hS hl hF
    refine lv_aload_n hx hb dX8_ordered_82 rfl (lv_at hl 0 rfl) ?_
    refine lv_iconst (v := 0) hx hb dX8_ordered_83 (by decide) ?_
    refine my_put (ty := .int) (v := .int 0) (ci := 8) (C := RX8) (T := TX8) (N := 20) (wn := [(a_t, .inr (8, [.ref a_t_a, v_t_fresh, v_t_aside, v_t_kept, .int t_keptMany, .int 0, v_t_buffer, .int t_buffered, .int t_size, .int t_at, .int t_behind, .int t_kind, .int t_number, .int t_wrong, .int t_wrongAt, .int t_errorAt, v_t_moved, .int t_unused, v_t_written, .int t_writtenMany])), (a_t_a, .inl (t 0, 876, .inl t_a_))]) hx hb hts iw8 tyX8 tyX8_ok nmX8 hown hK hP hD hS 0 rfl rfl 5 (by decide) hf45 (fun _ h9 => h9) rfl (by decide +kernel) rfl rfl (Nat.le_of_ble_eq_true rfl) rfl dX8_ordered_84 (fun H locs hP hD hS => ?_)
    refine lv_iload_n hx hb dX8_ordered_87 rfl (lv_at hl 1 rfl) ?_
    cases hF
    exact we_iret hx hb hr hlocks dX8_ordered_88 rfl hQ hP hD hS
  have hlp7 : ∀ n7 : Nat, ∀ (x2_7_4 : Int32) (H : Heap) (locs : List Loc) (ls : Array Slot), va_P D vwCl [(a_t, .inr (8, [.ref a_t_a, v_t_fresh, v_t_aside, v_t_kept, .int t_keptMany, .int 1, v_t_buffer, .int t_buffered, .int t_size, .int t_at, .int t_behind, .int t_kind, .int t_number, .int t_wrong, .int t_wrongAt, .int t_errorAt, v_t_moved, .int t_unused, v_t_written, .int t_writtenMany])), (a_t_a, .inl (t 0, 876, .inl t_a_))] H → va_D A [(a_t, .inr (8, [.ref a_t_a, v_t_fresh, v_t_aside, v_t_kept, .int t_keptMany, .int 1, v_t_buffer, .int t_buffered, .int t_size, .int t_at, .int t_behind, .int t_kind, .int t_number, .int t_wrong, .int t_wrongAt, .int t_errorAt, v_t_moved, .int t_unused, v_t_written, .int t_writtenMany])), (a_t_a, .inl (t 0, 876, .inl t_a_))] → va_S A s.heap H locs → lv_has ls 5 [(0, .ref a_t), (1, .int p1), (2, .int x2_7_4)] → f_X8_ordered_7 N t_a_ p1 k95_1 k82_3 n7 x2_7_4 = some (r, t_thrown') → W p l e rm_X8_ordered s m args below meth c H locs 0 0 Q (F0 m 7 ls []) := by
    intro n7
    induction n7 with
    | zero =>
      intro x2_7_4 H locs ls hP hD hS hl hF
      cases (show none = some (r, t_thrown') from hF)
    | succ n7 ih7 =>
      intro x2_7_4 H locs ls hP hD hS hl hF
      rw [f_X8_ordered_7] at hF
      refine lv_iload_n hx hb dX8_ordered_7 rfl (lv_at hl 2 rfl) ?_
      refine lv_aload_n hx hb dX8_ordered_8 rfl (lv_at hl 0 rfl) ?_
      refine va_get (D := D) (ci := 8) (v := .ref a_t_a) (C := RX8) (T := TX8) (N := 20) hx hb hts iw8 hown hK hP 0 rfl rfl 0 (by decide) hf7 (fun _ h9 => h9) rfl dX8_ordered_9 ?_
      refine lv_iconst (v := 0) hx hb dX8_ordered_12 (by decide) ?_
      refine my_iald (v := t_a_ 0) hx hb hK hP 1 0 rfl rfl (vp_lit (by decide +kernel)) rfl dX8_ordered_13 ?_
      refine lv_icmp_ge (tgt := 95) hx hb dX8_ordered_14 (by decide) (fun c14 => ?_) (fun c14 => ?_)
      · have hF := brT c14 hF
        exact hk95_1 H locs ls hP hD hS (lv_sub hl [] rfl) hF
      · have hF := brF c14 hF
        refine lv_iconst (v := 0) hx hb dX8_ordered_17 (by decide) ?_
        refine lv_istore_n (lv' := [(3, .int 0), (0, .ref a_t), (1, .int p1), (2, .int x2_7_4)]) hx hb dX8_ordered_18 rfl hl (by decide) rfl (fun ls hl => ?_)
        refine lv_iconst (v := 0) hx hb dX8_ordered_19 (by decide) ?_
        refine lv_istore (lv' := [(4, .int 0), (3, .int 0), (0, .ref a_t), (1, .int p1), (2, .int x2_7_4)]) hx hb dX8_ordered_20 hl (by decide) rfl (fun ls hl => ?_)
        obtain ⟨k66_6, ek66_6, hF⟩ := jnE hF
        have hk66_6 : ∀ (x3_66_5 : Int32) (H : Heap) (locs : List Loc) (ls : Array Slot), va_P D vwCl [(a_t, .inr (8, [.ref a_t_a, v_t_fresh, v_t_aside, v_t_kept, .int t_keptMany, .int 1, v_t_buffer, .int t_buffered, .int t_size, .int t_at, .int t_behind, .int t_kind, .int t_number, .int t_wrong, .int t_wrongAt, .int t_errorAt, v_t_moved, .int t_unused, v_t_written, .int t_writtenMany])), (a_t_a, .inl (t 0, 876, .inl t_a_))] H → va_D A [(a_t, .inr (8, [.ref a_t_a, v_t_fresh, v_t_aside, v_t_kept, .int t_keptMany, .int 1, v_t_buffer, .int t_buffered, .int t_size, .int t_at, .int t_behind, .int t_kind, .int t_number, .int t_wrong, .int t_wrongAt, .int t_errorAt, v_t_moved, .int t_unused, v_t_written, .int t_writtenMany])), (a_t_a, .inl (t 0, 876, .inl t_a_))] → va_S A s.heap H locs → lv_has ls 5 [(0, .ref a_t), (1, .int p1), (2, .int x2_7_4), (3, .int x3_66_5)] → k66_6 x3_66_5 = some (r, t_thrown') → W p l e rm_X8_ordered s m args below meth c H locs 0 0 Q (F0 m 66 ls []) := by
          subst ek66_6
          intro x3_66_5 H locs ls hP hD hS hl hF
          refine lv_aload_n hx hb dX8_ordered_66 rfl (lv_at hl 0 rfl) ?_
          refine lv_iload_n hx hb dX8_ordered_67 rfl (lv_at hl 2 rfl) ?_
          obtain ⟨r68_7, h68_7, hF⟩ := bndE hF
          refine rdV (As := [.int x2_7_4]) (rest := []) (C := RX8) ⟨hx, hb, hml, hown, hts⟩ (c_X8_lives l D t z x a_t a_t_a v_t_fresh v_t_aside v_t_kept v_t_buffer v_t_moved v_t_written t_keptMany 1 t_buffered t_size t_at t_behind t_kind t_number t_wrong t_wrongAt t_errorAt t_unused t_writtenMany t_a_ x2_7_4 H r68_7 h68_7) (cwV 1 hts gX8_ordered_X8_lives rfl rfl rfl hd_X8_lives ⟨Nat.le_of_ble_eq_true rfl, Nat.le_of_ble_eq_true rfl⟩) (hC.at hz hS) (selP (m9 := [true, true]) rfl rfl hP) 0 rfl (show vwCl[8]? = some (RX8, TX8, 20) from rfl) rfl rfl hl.1 rfl (Nat.le_of_ble_eq_true rfl) dX8_ordered_68 ⟨Nat.zero_le _, Nat.zero_le _⟩ rfl ?_
          refine lv_if_eq (tgt := 89) hx hb dX8_ordered_71 (by decide) (fun c71 => ?_) (fun c71 => ?_)
          · have hF := brT c71 hF
            obtain ⟨y89_9, ey89_9⟩ : ∃ y : Int32, y = x2_7_4 + 1 := ⟨_, rfl⟩
            have hF := ltE ey89_9 hF
            refine lv_iinc (v := y89_9) (lv' := [(2, .int y89_9), (0, .ref a_t), (1, .int p1), (3, .int x3_66_5)]) hx hb dX8_ordered_89 hl (k := 2) rfl (by rw [ey89_9]; rfl) (by decide) rfl (fun ls hl => ?_)
            refine lv_goto (tgt := 7) hx hb dX8_ordered_92 (by decide) ?_
            exact ih7 y89_9 H locs ls hP hD hS (lv_sub hl [1, 2, 0] rfl) hF
          · have hF := brF c71 hF
            refine lv_iload_n hx hb dX8_ordered_74 rfl (lv_at hl 3 rfl) ?_
            refine lv_iload_n hx hb dX8_ordered_75 rfl (lv_at hl 1 rfl) ?_
            refine lv_icmp_eq (tgt := 82) hx hb dX8_ordered_76 (by decide) (fun c76 => ?_) (fun c76 => ?_)
            · have hF := brT c76 hF
              exact hk82_3 x2_7_4 H locs ls hP hD hS (lv_sub hl [0, 2] rfl) hF
            · have hF := brF c76 hF
              refine lv_goto (tgt := 89) hx hb dX8_ordered_79 (by decide) ?_
              obtain ⟨y89_10, ey89_10⟩ : ∃ y : Int32, y = x2_7_4 + 1 := ⟨_, rfl⟩
              have hF := ltE ey89_10 hF
              refine lv_iinc (v := y89_10) (lv' := [(2, .int y89_10), (0, .ref a_t), (1, .int p1), (3, .int x3_66_5)]) hx hb dX8_ordered_89 hl (k := 2) rfl (by rw [ey89_10]; rfl) (by decide) rfl (fun ls hl => ?_)
              refine lv_goto (tgt := 7) hx hb dX8_ordered_92 (by decide) ?_
              exact ih7 y89_10 H locs ls hP hD hS (lv_sub hl [1, 2, 0] rfl) hF
        have hlp22 : ∀ n22 : Nat, ∀ (x3_22_11 : Int32) (x4_22_12 : Int32) (H : Heap) (locs : List Loc) (ls : Array Slot), va_P D vwCl [(a_t, .inr (8, [.ref a_t_a, v_t_fresh, v_t_aside, v_t_kept, .int t_keptMany, .int 1, v_t_buffer, .int t_buffered, .int t_size, .int t_at, .int t_behind, .int t_kind, .int t_number, .int t_wrong, .int t_wrongAt, .int t_errorAt, v_t_moved, .int t_unused, v_t_written, .int t_writtenMany])), (a_t_a, .inl (t 0, 876, .inl t_a_))] H → va_D A [(a_t, .inr (8, [.ref a_t_a, v_t_fresh, v_t_aside, v_t_kept, .int t_keptMany, .int 1, v_t_buffer, .int t_buffered, .int t_size, .int t_at, .int t_behind, .int t_kind, .int t_number, .int t_wrong, .int t_wrongAt, .int t_errorAt, v_t_moved, .int t_unused, v_t_written, .int t_writtenMany])), (a_t_a, .inl (t 0, 876, .inl t_a_))] → va_S A s.heap H locs → lv_has ls 5 [(0, .ref a_t), (1, .int p1), (2, .int x2_7_4), (3, .int x3_22_11), (4, .int x4_22_12)] → f_X8_ordered_22 t_a_ x2_7_4 k66_6 n22 x3_22_11 x4_22_12 = some (r, t_thrown') → W p l e rm_X8_ordered s m args below meth c H locs 0 0 Q (F0 m 22 ls []) := by
          intro n22
          induction n22 with
          | zero =>
            intro x3_22_11 x4_22_12 H locs ls hP hD hS hl hF
            cases (show none = some (r, t_thrown') from hF)
          | succ n22 ih22 =>
            intro x3_22_11 x4_22_12 H locs ls hP hD hS hl hF
            rw [f_X8_ordered_22] at hF
            refine lv_iload hx hb dX8_ordered_22 (lv_at hl 4 rfl) ?_
            refine lv_aload_n hx hb dX8_ordered_24 rfl (lv_at hl 0 rfl) ?_
            refine va_get (D := D) (ci := 8) (v := .ref a_t_a) (C := RX8) (T := TX8) (N := 20) hx hb hts iw8 hown hK hP 0 rfl rfl 0 (by decide) hf7 (fun _ h9 => h9) rfl dX8_ordered_25 ?_
            refine lv_iconst (v := 0) hx hb dX8_ordered_28 (by decide) ?_
            refine my_iald (v := t_a_ 0) hx hb hK hP 1 0 rfl rfl (vp_lit (by decide +kernel)) rfl dX8_ordered_29 ?_
            refine lv_icmp_ge (tgt := 66) hx hb dX8_ordered_30 (by decide) (fun c30 => ?_) (fun c30 => ?_)
            · have hF := brT c30 hF
              exact hk66_6 x3_22_11 H locs ls hP hD hS (lv_sub hl [0, 1, 2, 3] rfl) hF
            · have hF := brF c30 hF
              refine lv_iload_n hx hb dX8_ordered_33 rfl (lv_at hl 3 rfl) ?_
              refine lv_aload_n hx hb dX8_ordered_34 rfl (lv_at hl 0 rfl) ?_
              refine lv_iload hx hb dX8_ordered_35 (lv_at hl 4 rfl) ?_
              obtain ⟨r37_13, h37_13, hF⟩ := bndE hF
              refine rdV (As := [.int x4_22_12]) (rest := [.int x3_22_11]) (C := RX8) ⟨hx, hb, hml, hown, hts⟩ (c_X8_lives l D t z x a_t a_t_a v_t_fresh v_t_aside v_t_kept v_t_buffer v_t_moved v_t_written t_keptMany 1 t_buffered t_size t_at t_behind t_kind t_number t_wrong t_wrongAt t_errorAt t_unused t_writtenMany t_a_ x4_22_12 H r37_13 h37_13) (cwV 1 hts gX8_ordered_X8_lives rfl rfl rfl hd_X8_lives ⟨Nat.le_of_ble_eq_true rfl, Nat.le_of_ble_eq_true rfl⟩) (hC.at hz hS) (selP (m9 := [true, true]) rfl rfl hP) 0 rfl (show vwCl[8]? = some (RX8, TX8, 20) from rfl) rfl rfl hl.1 rfl (Nat.le_of_ble_eq_true rfl) dX8_ordered_37 ⟨Nat.zero_le _, Nat.zero_le _⟩ rfl ?_
              refine lv_if_eq (tgt := 57) hx hb dX8_ordered_40 (by decide) (fun c40 => ?_) (fun c40 => ?_)
              · have hF := brT c40 hF
                refine lv_iconst (v := 0) hx hb dX8_ordered_57 (by decide) ?_
                refine lv_iadd hx hb dX8_ordered_58 ?_
                refine lv_topi (fun y59_15 ey59_15 => ?_)
                have hF := ltE ey59_15 hF
                refine lv_istore_n (lv' := [(3, .int y59_15), (0, .ref a_t), (1, .int p1), (2, .int x2_7_4), (4, .int x4_22_12)]) hx hb dX8_ordered_59 rfl hl (by decide) rfl (fun ls hl => ?_)
                obtain ⟨y60_16, ey60_16⟩ : ∃ y : Int32, y = x4_22_12 + 1 := ⟨_, rfl⟩
                have hF := ltE ey60_16 hF
                refine lv_iinc (v := y60_16) (lv' := [(4, .int y60_16), (3, .int y59_15), (0, .ref a_t), (1, .int p1), (2, .int x2_7_4)]) hx hb dX8_ordered_60 hl (k := 4) rfl (by rw [ey60_16]; rfl) (by decide) rfl (fun ls hl => ?_)
                refine lv_goto (tgt := 22) hx hb dX8_ordered_63 (by decide) ?_
                exact ih22 y59_15 y60_16 H locs ls hP hD hS (lv_sub hl [2, 3, 4, 1, 0] rfl) hF
              · have hF := brF c40 hF
                refine lv_aload_n hx hb dX8_ordered_43 rfl (lv_at hl 0 rfl) ?_
                refine lv_iload hx hb dX8_ordered_44 (lv_at hl 4 rfl) ?_
                refine lv_iload_n hx hb dX8_ordered_46 rfl (lv_at hl 2 rfl) ?_
                obtain ⟨r47_17, h47_17, hF⟩ := bndE hF
                refine rdV (As := [.int x4_22_12, .int x2_7_4]) (rest := [.int x3_22_11]) (C := RX8) ⟨hx, hb, hml, hown, hts⟩ (c_X8_isAhead l D t z x a_t a_t_a v_t_fresh v_t_aside v_t_kept v_t_buffer v_t_moved v_t_written t_keptMany 1 t_buffered t_size t_at t_behind t_kind t_number t_wrong t_wrongAt t_errorAt t_unused t_writtenMany t_a_ x4_22_12 x2_7_4 H r47_17 h47_17) (cwV 2 hts gX8_ordered_X8_isAhead rfl rfl rfl hd_X8_isAhead ⟨Nat.le_of_ble_eq_true rfl, Nat.le_of_ble_eq_true rfl⟩) (hC.at hz hS) (selP (m9 := [true, true]) rfl rfl hP) 0 rfl (show vwCl[8]? = some (RX8, TX8, 20) from rfl) rfl rfl hl.1 rfl (Nat.le_of_ble_eq_true rfl) dX8_ordered_47 ⟨Nat.zero_le _, Nat.zero_le _⟩ rfl ?_
                refine lv_if_eq (tgt := 57) hx hb dX8_ordered_50 (by decide) (fun c50 => ?_) (fun c50 => ?_)
                · have hF := brT c50 hF
                  refine lv_iconst (v := 0) hx hb dX8_ordered_57 (by decide) ?_
                  refine lv_iadd hx hb dX8_ordered_58 ?_
                  refine lv_topi (fun y59_19 ey59_19 => ?_)
                  have hF := ltE ey59_19 hF
                  refine lv_istore_n (lv' := [(3, .int y59_19), (0, .ref a_t), (1, .int p1), (2, .int x2_7_4), (4, .int x4_22_12)]) hx hb dX8_ordered_59 rfl hl (by decide) rfl (fun ls hl => ?_)
                  obtain ⟨y60_20, ey60_20⟩ : ∃ y : Int32, y = x4_22_12 + 1 := ⟨_, rfl⟩
                  have hF := ltE ey60_20 hF
                  refine lv_iinc (v := y60_20) (lv' := [(4, .int y60_20), (3, .int y59_19), (0, .ref a_t), (1, .int p1), (2, .int x2_7_4)]) hx hb dX8_ordered_60 hl (k := 4) rfl (by rw [ey60_20]; rfl) (by decide) rfl (fun ls hl => ?_)
                  refine lv_goto (tgt := 22) hx hb dX8_ordered_63 (by decide) ?_
                  exact ih22 y59_19 y60_20 H locs ls hP hD hS (lv_sub hl [2, 3, 4, 1, 0] rfl) hF
                · have hF := brF c50 hF
                  refine lv_iconst (v := 1) hx hb dX8_ordered_53 (by decide) ?_
                  refine lv_goto (tgt := 58) hx hb dX8_ordered_54 (by decide) ?_
                  refine lv_iadd hx hb dX8_ordered_58 ?_
                  refine lv_topi (fun y59_21 ey59_21 => ?_)
                  have hF := ltE ey59_21 hF
                  refine lv_istore_n (lv' := [(3, .int y59_21), (0, .ref a_t), (1, .int p1), (2, .int x2_7_4), (4, .int x4_22_12)]) hx hb dX8_ordered_59 rfl hl (by decide) rfl (fun ls hl => ?_)
                  obtain ⟨y60_22, ey60_22⟩ : ∃ y : Int32, y = x4_22_12 + 1 := ⟨_, rfl⟩
                  have hF := ltE ey60_22 hF
                  refine lv_iinc (v := y60_22) (lv' := [(4, .int y60_22), (3, .int y59_21), (0, .ref a_t), (1, .int p1), (2, .int x2_7_4)]) hx hb dX8_ordered_60 hl (k := 4) rfl (by rw [ey60_22]; rfl) (by decide) rfl (fun ls hl => ?_)
                  refine lv_goto (tgt := 22) hx hb dX8_ordered_63 (by decide) ?_
                  exact ih22 y59_21 y60_22 H locs ls hP hD hS (lv_sub hl [2, 3, 4, 1, 0] rfl) hF
        exact hlp22 N 0 0 H locs ls hP hD hS (lv_sub hl [2, 3, 4, 1, 0] rfl) hF
  exact hlp7 N 0 H locs ls hP hD hS (lv_sub hl [1, 2, 0] rfl) hF
abbrev rm_X8_living : Room := { frames := 1, cells := 0, slots := 0, locals := 21 }
theorem hd_X8_living : yX8_living.cls = RX8 ∧ yX8_living.cls ≠ "java/lang/invoke/MethodHandle" ∧ yX8_living.cls ≠ "java/lang/invoke/VarHandle" ∧ (parseMethodDescriptor yX8_living.desc).map (fun d => d.parameters.length) = some 0 := by decide +kernel
set_option maxRecDepth 100000 in
set_option maxHeartbeats 4000000 in
theorem c_X8_living (l : Launch) (D : va_G) (t : Nat → ClassId) (z : Nat) (x : Nat → Nat) (N : Nat) (a_t : Nat) (a_t_a : Nat) (v_t_fresh : Value) (v_t_aside : Value) (v_t_kept : Value) (v_t_buffer : Value) (v_t_moved : Value) (v_t_written : Value) (t_keptMany : Int32) (t_thrown : Int32) (t_buffered : Int32) (t_size : Int32) (t_at : Int32) (t_behind : Int32) (t_kind : Int32) (t_number : Int32) (t_wrong : Int32) (t_wrongAt : Int32) (t_errorAt : Int32) (t_unused : Int32) (t_writtenMany : Int32) (t_a_ : (Nat → Int32)) (H : Heap) (r : Int32) (hF : f_X8_living N t_a_ = some (r)) : RdM l D (TY t) z x yX8_living wsX8_living rm_X8_living [.ref a_t] [(a_t, .inr (8, [.ref a_t_a, v_t_fresh, v_t_aside, v_t_kept, .int t_keptMany, .int t_thrown, v_t_buffer, .int t_buffered, .int t_size, .int t_at, .int t_behind, .int t_kind, .int t_number, .int t_wrong, .int t_wrongAt, .int t_errorAt, v_t_moved, .int t_unused, v_t_written, .int t_writtenMany])), (a_t_a, .inl (t 0, 876, .inl t_a_))] H (some (.int r)) := by
  refine rd_of (cc := cX8_living) (maxL := 3) (ret := (some .int)) (by decide) rfl (Nat.le_of_ble_eq_true rfl) ?_
  intro p e s m args below meth c Q hQ hx hb hr hml hts hown hlocks hH hP hC ls hl
  have hown : s.vm.findClass RX8 = some m.cls := hown
  have hl : lv_has ls 3 [(0, .ref a_t)] := hl
  have hK := hC.1
  have iw8 : ∀ w ∈ wsX80, w ∈ wsX8_living := fun _ h => List.mem_cons_of_mem _ (List.mem_append_right _ h)
  have hf7 := hts (.fieldLink RX8 7 "CrackedColumnModel" "a" "[I") (by decide +kernel)
  unfold f_X8_living at hF
  refine lv_iconst (v := 0) hx hb dX8_living_0 (by decide) ?_
  refine lv_istore_n (lv' := [(1, .int 0), (0, .ref a_t)]) hx hb dX8_living_1 rfl hl (by decide) rfl (fun ls hl => ?_)
  refine lv_iconst (v := 0) hx hb dX8_living_2 (by decide) ?_
  refine lv_istore_n (lv' := [(2, .int 0), (1, .int 0), (0, .ref a_t)]) hx hb dX8_living_3 rfl hl (by decide) rfl (fun ls hl => ?_)
  obtain ⟨k36_2, ek36_2, hF⟩ := jnE hF
  have hk36_2 : ∀ (x1_36_1 : Int32) (ls : Array Slot), lv_has ls 3 [(1, .int x1_36_1)] → k36_2 x1_36_1 = some (r) → W p l e rm_X8_living s m args below meth c H [] 0 0 Q (F0 m 36 ls []) := by
    subst ek36_2
    intro x1_36_1 ls hl hF
    refine lv_iload_n hx hb dX8_living_36 rfl (lv_at hl 0 rfl) ?_
    cases hF
    exact rd_iret hx hb hr hlocks dX8_living_37 rfl hQ
  have hlp4 : ∀ n4 : Nat, ∀ (x1_4_3 : Int32) (x2_4_4 : Int32) (ls : Array Slot), lv_has ls 3 [(0, .ref a_t), (1, .int x1_4_3), (2, .int x2_4_4)] → f_X8_living_4 t_a_ k36_2 n4 x1_4_3 x2_4_4 = some (r) → W p l e rm_X8_living s m args below meth c H [] 0 0 Q (F0 m 4 ls []) := by
    intro n4
    induction n4 with
    | zero =>
      intro x1_4_3 x2_4_4 ls hl hF
      cases (show none = some (r) from hF)
    | succ n4 ih4 =>
      intro x1_4_3 x2_4_4 ls hl hF
      rw [f_X8_living_4] at hF
      refine lv_iload_n hx hb dX8_living_4 rfl (lv_at hl 2 rfl) ?_
      refine lv_aload_n hx hb dX8_living_5 rfl (lv_at hl 0 rfl) ?_
      refine va_get (D := D) (ci := 8) (v := .ref a_t_a) (C := RX8) (T := TX8) (N := 20) hx hb hts iw8 hown hK hP 0 rfl rfl 0 (by decide) hf7 (fun _ h9 => h9) rfl dX8_living_6 ?_
      refine lv_iconst (v := 0) hx hb dX8_living_9 (by decide) ?_
      refine my_iald (v := t_a_ 0) hx hb hK hP 1 0 rfl rfl (vp_lit (by decide +kernel)) rfl dX8_living_10 ?_
      refine lv_icmp_ge (tgt := 36) hx hb dX8_living_11 (by decide) (fun c11 => ?_) (fun c11 => ?_)
      · have hF := brT c11 hF
        exact hk36_2 x1_4_3 ls (lv_sub hl [1] rfl) hF
      · have hF := brF c11 hF
        refine lv_iload_n hx hb dX8_living_14 rfl (lv_at hl 1 rfl) ?_
        refine lv_aload_n hx hb dX8_living_15 rfl (lv_at hl 0 rfl) ?_
        refine lv_iload_n hx hb dX8_living_16 rfl (lv_at hl 2 rfl) ?_
        obtain ⟨r17_5, h17_5, hF⟩ := bndE hF
        refine rdV (As := [.int x2_4_4]) (rest := [.int x1_4_3]) (C := RX8) ⟨hx, hb, hml, hown, hts⟩ (c_X8_lives l D t z x a_t a_t_a v_t_fresh v_t_aside v_t_kept v_t_buffer v_t_moved v_t_written t_keptMany t_thrown t_buffered t_size t_at t_behind t_kind t_number t_wrong t_wrongAt t_errorAt t_unused t_writtenMany t_a_ x2_4_4 H r17_5 h17_5) (cwV 1 hts gX8_living_X8_lives rfl rfl rfl hd_X8_lives ⟨Nat.le_of_ble_eq_true rfl, Nat.le_of_ble_eq_true rfl⟩) hC (selP (m9 := [true, true]) rfl rfl hP) 0 rfl (show vwCl[8]? = some (RX8, TX8, 20) from rfl) rfl rfl hl.1 rfl (Nat.le_of_ble_eq_true rfl) dX8_living_17 ⟨Nat.zero_le _, Nat.zero_le _⟩ rfl ?_
        refine lv_if_eq (tgt := 27) hx hb dX8_living_20 (by decide) (fun c20 => ?_) (fun c20 => ?_)
        · have hF := brT c20 hF
          refine lv_iconst (v := 0) hx hb dX8_living_27 (by decide) ?_
          refine lv_iadd hx hb dX8_living_28 ?_
          refine lv_topi (fun y29_7 ey29_7 => ?_)
          have hF := ltE ey29_7 hF
          refine lv_istore_n (lv' := [(1, .int y29_7), (0, .ref a_t), (2, .int x2_4_4)]) hx hb dX8_living_29 rfl hl (by decide) rfl (fun ls hl => ?_)
          obtain ⟨y30_8, ey30_8⟩ : ∃ y : Int32, y = x2_4_4 + 1 := ⟨_, rfl⟩
          have hF := ltE ey30_8 hF
          refine lv_iinc (v := y30_8) (lv' := [(2, .int y30_8), (1, .int y29_7), (0, .ref a_t)]) hx hb dX8_living_30 hl (k := 2) rfl (by rw [ey30_8]; rfl) (by decide) rfl (fun ls hl => ?_)
          refine lv_goto (tgt := 4) hx hb dX8_living_33 (by decide) ?_
          exact ih4 y29_7 y30_8 ls (lv_sub hl [2, 1, 0] rfl) hF
        · have hF := brF c20 hF
          refine lv_iconst (v := 1) hx hb dX8_living_23 (by decide) ?_
          refine lv_goto (tgt := 28) hx hb dX8_living_24 (by decide) ?_
          refine lv_iadd hx hb dX8_living_28 ?_
          refine lv_topi (fun y29_9 ey29_9 => ?_)
          have hF := ltE ey29_9 hF
          refine lv_istore_n (lv' := [(1, .int y29_9), (0, .ref a_t), (2, .int x2_4_4)]) hx hb dX8_living_29 rfl hl (by decide) rfl (fun ls hl => ?_)
          obtain ⟨y30_10, ey30_10⟩ : ∃ y : Int32, y = x2_4_4 + 1 := ⟨_, rfl⟩
          have hF := ltE ey30_10 hF
          refine lv_iinc (v := y30_10) (lv' := [(2, .int y30_10), (1, .int y29_9), (0, .ref a_t)]) hx hb dX8_living_30 hl (k := 2) rfl (by rw [ey30_10]; rfl) (by decide) rfl (fun ls hl => ?_)
          refine lv_goto (tgt := 4) hx hb dX8_living_33 (by decide) ?_
          exact ih4 y29_9 y30_10 ls (lv_sub hl [2, 1, 0] rfl) hF
  exact hlp4 N 0 0 ls (lv_sub hl [2, 1, 0] rfl) hF
abbrev rm_X8_sortedPieces : Room := { frames := 1, cells := 0, slots := 0, locals := 22 }
theorem hd_X8_sortedPieces : yX8_sortedPieces.cls = RX8 ∧ yX8_sortedPieces.cls ≠ "java/lang/invoke/MethodHandle" ∧ yX8_sortedPieces.cls ≠ "java/lang/invoke/VarHandle" ∧ (parseMethodDescriptor yX8_sortedPieces.desc).map (fun d => d.parameters.length) = some 0 := by decide +kernel
set_option maxRecDepth 100000 in
set_option maxHeartbeats 4000000 in
theorem c_X8_sortedPieces (l : Launch) (D : va_G) (t : Nat → ClassId) (z : Nat) (x : Nat → Nat) (N : Nat) (a_t : Nat) (a_t_a : Nat) (v_t_fresh : Value) (v_t_aside : Value) (v_t_kept : Value) (v_t_buffer : Value) (v_t_moved : Value) (v_t_written : Value) (t_keptMany : Int32) (t_thrown : Int32) (t_buffered : Int32) (t_size : Int32) (t_at : Int32) (t_behind : Int32) (t_kind : Int32) (t_number : Int32) (t_wrong : Int32) (t_wrongAt : Int32) (t_errorAt : Int32) (t_unused : Int32) (t_writtenMany : Int32) (t_a_ : (Nat → Int32)) (H : Heap) (r : Int32) (hF : f_X8_sortedPieces N t_a_ = some (r)) : RdM l D (TY t) z x yX8_sortedPieces wsX8_sortedPieces rm_X8_sortedPieces [.ref a_t] [(a_t, .inr (8, [.ref a_t_a, v_t_fresh, v_t_aside, v_t_kept, .int t_keptMany, .int t_thrown, v_t_buffer, .int t_buffered, .int t_size, .int t_at, .int t_behind, .int t_kind, .int t_number, .int t_wrong, .int t_wrongAt, .int t_errorAt, v_t_moved, .int t_unused, v_t_written, .int t_writtenMany])), (a_t_a, .inl (t 0, 876, .inl t_a_))] H (some (.int r)) := by
  refine rd_of (cc := cX8_sortedPieces) (maxL := 3) (ret := (some .int)) (by decide) rfl (Nat.le_of_ble_eq_true rfl) ?_
  intro p e s m args below meth c Q hQ hx hb hr hml hts hown hlocks hH hP hC ls hl
  have hown : s.vm.findClass RX8 = some m.cls := hown
  have hl : lv_has ls 3 [(0, .ref a_t)] := hl
  have hK := hC.1
  have iw8 : ∀ w ∈ wsX80, w ∈ wsX8_sortedPieces := fun _ h => List.mem_cons_of_mem _ (List.mem_append_right _ h)
  have hf7 := hts (.fieldLink RX8 7 "CrackedColumnModel" "a" "[I") (by decide +kernel)
  unfold f_X8_sortedPieces at hF
  refine lv_iconst (v := 0) hx hb dX8_sortedPieces_0 (by decide) ?_
  refine lv_istore_n (lv' := [(1, .int 0), (0, .ref a_t)]) hx hb dX8_sortedPieces_1 rfl hl (by decide) rfl (fun ls hl => ?_)
  refine lv_iconst (v := 0) hx hb dX8_sortedPieces_2 (by decide) ?_
  refine lv_istore_n (lv' := [(2, .int 0), (1, .int 0), (0, .ref a_t)]) hx hb dX8_sortedPieces_3 rfl hl (by decide) rfl (fun ls hl => ?_)
  obtain ⟨k29_2, ek29_2, hF⟩ := jnE hF
  have hk29_2 : ∀ (x1_29_1 : Int32) (ls : Array Slot), lv_has ls 3 [(1, .int x1_29_1)] → k29_2 x1_29_1 = some (r) → W p l e rm_X8_sortedPieces s m args below meth c H [] 0 0 Q (F0 m 29 ls []) := by
    subst ek29_2
    intro x1_29_1 ls hl hF
    refine lv_iload_n hx hb dX8_sortedPieces_29 rfl (lv_at hl 0 rfl) ?_
    cases hF
    exact rd_iret hx hb hr hlocks dX8_sortedPieces_30 rfl hQ
  have hlp4 : ∀ n4 : Nat, ∀ (x1_4_3 : Int32) (x2_4_4 : Int32) (ls : Array Slot), lv_has ls 3 [(0, .ref a_t), (1, .int x1_4_3), (2, .int x2_4_4)] → f_X8_sortedPieces_4 t_a_ k29_2 n4 x1_4_3 x2_4_4 = some (r) → W p l e rm_X8_sortedPieces s m args below meth c H [] 0 0 Q (F0 m 4 ls []) := by
    intro n4
    induction n4 with
    | zero =>
      intro x1_4_3 x2_4_4 ls hl hF
      cases (show none = some (r) from hF)
    | succ n4 ih4 =>
      intro x1_4_3 x2_4_4 ls hl hF
      rw [f_X8_sortedPieces_4] at hF
      refine lv_iload_n hx hb dX8_sortedPieces_4 rfl (lv_at hl 2 rfl) ?_
      refine lv_aload_n hx hb dX8_sortedPieces_5 rfl (lv_at hl 0 rfl) ?_
      refine va_get (D := D) (ci := 8) (v := .ref a_t_a) (C := RX8) (T := TX8) (N := 20) hx hb hts iw8 hown hK hP 0 rfl rfl 0 (by decide) hf7 (fun _ h9 => h9) rfl dX8_sortedPieces_6 ?_
      refine lv_iconst (v := 3) hx hb dX8_sortedPieces_9 (by decide) ?_
      refine my_iald (v := t_a_ 3) hx hb hK hP 1 0 rfl rfl (vp_lit (by decide +kernel)) rfl dX8_sortedPieces_10 ?_
      refine lv_icmp_ge (tgt := 29) hx hb dX8_sortedPieces_11 (by decide) (fun c11 => ?_) (fun c11 => ?_)
      · have hF := brT c11 hF
        exact hk29_2 x1_4_3 ls (lv_sub hl [1] rfl) hF
      · have hF := brF c11 hF
        refine lv_iload_n hx hb dX8_sortedPieces_14 rfl (lv_at hl 1 rfl) ?_
        refine lv_aload_n hx hb dX8_sortedPieces_15 rfl (lv_at hl 0 rfl) ?_
        refine lv_iload_n hx hb dX8_sortedPieces_16 rfl (lv_at hl 2 rfl) ?_
        refine lv_iconst (v := 3) hx hb dX8_sortedPieces_17 (by decide) ?_
        obtain ⟨r18_5, h18_5, hF⟩ := bndE hF
        refine rdV (As := [.int x2_4_4, .int 3]) (rest := [.int x1_4_3]) (C := RX8) ⟨hx, hb, hml, hown, hts⟩ (c_X8_of l D t z x a_t a_t_a v_t_fresh v_t_aside v_t_kept v_t_buffer v_t_moved v_t_written t_keptMany t_thrown t_buffered t_size t_at t_behind t_kind t_number t_wrong t_wrongAt t_errorAt t_unused t_writtenMany t_a_ x2_4_4 3 H r18_5 h18_5) (cwV 2 hts gX8_sortedPieces_X8_of rfl rfl rfl hd_X8_of ⟨Nat.le_of_ble_eq_true rfl, Nat.le_of_ble_eq_true rfl⟩) hC (selP (m9 := [true, true]) rfl rfl hP) 0 rfl (show vwCl[8]? = some (RX8, TX8, 20) from rfl) rfl rfl hl.1 rfl (Nat.le_of_ble_eq_true rfl) dX8_sortedPieces_18 ⟨Nat.zero_le _, Nat.zero_le _⟩ rfl ?_
        refine lv_iadd hx hb dX8_sortedPieces_21 ?_
        refine lv_topi (fun y22_7 ey22_7 => ?_)
        have hF := ltE ey22_7 hF
        refine lv_istore_n (lv' := [(1, .int y22_7), (0, .ref a_t), (2, .int x2_4_4)]) hx hb dX8_sortedPieces_22 rfl hl (by decide) rfl (fun ls hl => ?_)
        obtain ⟨y23_8, ey23_8⟩ : ∃ y : Int32, y = x2_4_4 + 1 := ⟨_, rfl⟩
        have hF := ltE ey23_8 hF
        refine lv_iinc (v := y23_8) (lv' := [(2, .int y23_8), (1, .int y22_7), (0, .ref a_t)]) hx hb dX8_sortedPieces_23 hl (k := 2) rfl (by rw [ey23_8]; rfl) (by decide) rfl (fun ls hl => ?_)
        refine lv_goto (tgt := 4) hx hb dX8_sortedPieces_26 (by decide) ?_
        exact ih4 y22_7 y23_8 ls (lv_sub hl [2, 1, 0] rfl) hF
  exact hlp4 N 0 0 ls (lv_sub hl [2, 1, 0] rfl) hF
abbrev rm_X8_count : Room := { frames := 2, cells := 0, slots := 0, locals := 44 }
theorem hd_X8_count : yX8_count.cls = RX8 ∧ yX8_count.cls ≠ "java/lang/invoke/MethodHandle" ∧ yX8_count.cls ≠ "java/lang/invoke/VarHandle" ∧ (parseMethodDescriptor yX8_count.desc).map (fun d => d.parameters.length) = some 1 := by decide +kernel
set_option maxRecDepth 100000 in
set_option maxHeartbeats 4000000 in
theorem c_X8_count (l : Launch) (D : va_G) (t : Nat → ClassId) (z : Nat) (x : Nat → Nat) (N : Nat) (a_t : Nat) (a_t_a : Nat) (v_t_fresh : Value) (v_t_aside : Value) (v_t_kept : Value) (v_t_buffer : Value) (v_t_moved : Value) (v_t_written : Value) (t_keptMany : Int32) (t_thrown : Int32) (t_buffered : Int32) (t_size : Int32) (t_at : Int32) (t_behind : Int32) (t_kind : Int32) (t_number : Int32) (t_wrong : Int32) (t_wrongAt : Int32) (t_errorAt : Int32) (t_unused : Int32) (t_writtenMany : Int32) (t_a_ : (Nat → Int32)) (p1 : Int32) (sz : Nat) (r : Int32) (t_thrown' : Int32) (hF : f_X8_count N t_a_ p1 = some (r, t_thrown')) : WrM l D (TY t) z x yX8_count wsX8_count rm_X8_count [.ref a_t, .int p1] [(a_t, .inr (8, [.ref a_t_a, v_t_fresh, v_t_aside, v_t_kept, .int t_keptMany, .int t_thrown, v_t_buffer, .int t_buffered, .int t_size, .int t_at, .int t_behind, .int t_kind, .int t_number, .int t_wrong, .int t_wrongAt, .int t_errorAt, v_t_moved, .int t_unused, v_t_written, .int t_writtenMany])), (a_t_a, .inl (t 0, 876, .inl t_a_))] [(a_t, .inr (8, [.ref a_t_a, v_t_fresh, v_t_aside, v_t_kept, .int t_keptMany, .int t_thrown', v_t_buffer, .int t_buffered, .int t_size, .int t_at, .int t_behind, .int t_kind, .int t_number, .int t_wrong, .int t_wrongAt, .int t_errorAt, v_t_moved, .int t_unused, v_t_written, .int t_writtenMany])), (a_t_a, .inl (t 0, 876, .inl t_a_))] sz (some (.int r)) 0 0 := by
  refine wr_of (cc := cX8_count) (maxL := 2) (ret := (some .int)) (by decide) rfl (Nat.le_of_ble_eq_true rfl) ?_
  intro p e s m args below meth c A Q hQ hx hb hr hml hts hown hlocks hin H locs hP hD hS hA hz hC ls hl
  have hown : s.vm.findClass RX8 = some m.cls := hown
  have hl : lv_has ls 2 [(0, .ref a_t), (1, .int p1)] := hl
  have hK := hC.1
  have iw8 : ∀ w ∈ wsX80, w ∈ wsX8_count := fun _ h => List.mem_cons_of_mem _ (List.mem_append_right _ h)
  have hf7 := hts (.fieldLink RX8 7 "CrackedColumnModel" "a" "[I") (by decide +kernel)
  have hf45 := hts (.fieldLink RX8 45 "CrackedColumnModel" "thrown" "I") (by decide +kernel)
  unfold f_X8_count at hF
  refine lv_aload_n hx hb dX8_count_0 rfl (lv_at hl 0 rfl) ?_
  refine lv_iload_n hx hb dX8_count_1 rfl (lv_at hl 1 rfl) ?_
  refine lv_iconst (v := 0) hx hb dX8_count_2 (by decide) ?_
  refine lv_bipush (v := 11) hx hb dX8_count_3 (by decide) ?_
  obtain ⟨r5_1, h5_1, hF⟩ := bndE hF
  refine rdS (As := [.int p1, .int 0, .int 11]) (rest := [.ref a_t]) ⟨hx, hb, hml, hown, hts⟩ (c_X8_isIn l D t z x p1 0 11 H r5_1 h5_1) (va_cwS 3 hts gX8_count_X8_isIn rfl rfl rfl hd_X8_isIn.2 ⟨Nat.le_of_ble_eq_true rfl, Nat.le_of_ble_eq_true rfl⟩) (hC.at hz hS) (selP (m9 := [false, false]) rfl rfl hP) rfl hl.1 rfl (Nat.le_of_ble_eq_true rfl) dX8_count_5 ⟨Nat.zero_le _, Nat.zero_le _⟩ rfl ?_
  obtain ⟨k16_4, ek16_4, hF⟩ := jnE hF
  have hk16_4 : ∀ (s0_16_3 : Int32) (H : Heap) (locs : List Loc) (ls : Array Slot), va_P D vwCl [(a_t, .inr (8, [.ref a_t_a, v_t_fresh, v_t_aside, v_t_kept, .int t_keptMany, .int t_thrown, v_t_buffer, .int t_buffered, .int t_size, .int t_at, .int t_behind, .int t_kind, .int t_number, .int t_wrong, .int t_wrongAt, .int t_errorAt, v_t_moved, .int t_unused, v_t_written, .int t_writtenMany])), (a_t_a, .inl (t 0, 876, .inl t_a_))] H → va_D A [(a_t, .inr (8, [.ref a_t_a, v_t_fresh, v_t_aside, v_t_kept, .int t_keptMany, .int t_thrown, v_t_buffer, .int t_buffered, .int t_size, .int t_at, .int t_behind, .int t_kind, .int t_number, .int t_wrong, .int t_wrongAt, .int t_errorAt, v_t_moved, .int t_unused, v_t_written, .int t_writtenMany])), (a_t_a, .inl (t 0, 876, .inl t_a_))] → va_S A s.heap H locs → lv_has ls 2 [(0, .ref a_t), (1, .int p1)] → k16_4 s0_16_3 = some (r, t_thrown') → W p l e rm_X8_count s m args below meth c H locs 0 0 Q (F0 m 16 ls [.int s0_16_3, .ref a_t]) := by
    subst ek16_4
    intro s0_16_3 H locs ls hP hD hS hl hF
    refine my_put (ty := .int) (v := .int s0_16_3) (ci := 8) (C := RX8) (T := TX8) (N := 20) (wn := [(a_t, .inr (8, [.ref a_t_a, v_t_fresh, v_t_aside, v_t_kept, .int t_keptMany, .int s0_16_3, v_t_buffer, .int t_buffered, .int t_size, .int t_at, .int t_behind, .int t_kind, .int t_number, .int t_wrong, .int t_wrongAt, .int t_errorAt, v_t_moved, .int t_unused, v_t_written, .int t_writtenMany])), (a_t_a, .inl (t 0, 876, .inl t_a_))]) hx hb hts iw8 tyX8 tyX8_ok nmX8 hown hK hP hD hS 0 rfl rfl 5 (by decide) hf45 (fun _ h9 => h9) rfl (by decide +kernel) rfl rfl (Nat.le_of_ble_eq_true rfl) rfl dX8_count_16 (fun H locs hP hD hS => ?_)
    refine lv_aload_n hx hb dX8_count_19 rfl (lv_at hl 0 rfl) ?_
    refine va_get (D := D) (ci := 8) (v := .int s0_16_3) (C := RX8) (T := TX8) (N := 20) hx hb hts iw8 hown hK hP 0 rfl rfl 5 (by decide) hf45 (fun _ h9 => h9) rfl dX8_count_20 ?_
    refine lv_if_le (tgt := 28) hx hb dX8_count_23 (by decide) (fun c23 => ?_) (fun c23 => ?_)
    · have hF := brT c23 hF
      refine lv_iload_n hx hb dX8_count_28 rfl (lv_at hl 1 rfl) ?_
      by_cases c29_0 : p1 = 0
      · have hF := brT c29_0 hF
        refine lv_tableIn (tgt := 92) hx hb dX8_count_29 (by rw [c29_0]; decide) (by rw [c29_0]; decide) (by rw [c29_0]; rfl) (by decide) ?_
        refine lv_aload_n hx hb dX8_count_92 rfl (lv_at hl 0 rfl) ?_
        refine va_get (D := D) (ci := 8) (v := .ref a_t_a) (C := RX8) (T := TX8) (N := 20) hx hb hts iw8 hown hK hP 0 rfl rfl 0 (by decide) hf7 (fun _ h9 => h9) rfl dX8_count_93 ?_
        refine lv_iconst (v := 0) hx hb dX8_count_96 (by decide) ?_
        refine my_iald (v := t_a_ 0) hx hb hK hP 1 0 rfl rfl (vp_lit (by decide +kernel)) rfl dX8_count_97 ?_
        cases hF
        exact we_iret hx hb hr hlocks dX8_count_98 rfl hQ hP hD hS
      have hF := brF c29_0 hF
      by_cases c29_1 : p1 = 1
      · have hF := brT c29_1 hF
        refine lv_tableIn (tgt := 99) hx hb dX8_count_29 (by rw [c29_1]; decide) (by rw [c29_1]; decide) (by rw [c29_1]; rfl) (by decide) ?_
        refine lv_aload_n hx hb dX8_count_99 rfl (lv_at hl 0 rfl) ?_
        obtain ⟨r100_5, h100_5, hF⟩ := bndE hF
        refine rdV (As := []) (rest := []) (C := RX8) ⟨hx, hb, hml, hown, hts⟩ (c_X8_living l D t z x N a_t a_t_a v_t_fresh v_t_aside v_t_kept v_t_buffer v_t_moved v_t_written t_keptMany s0_16_3 t_buffered t_size t_at t_behind t_kind t_number t_wrong t_wrongAt t_errorAt t_unused t_writtenMany t_a_ H r100_5 h100_5) (cwV 0 hts gX8_count_X8_living rfl rfl rfl hd_X8_living ⟨Nat.le_of_ble_eq_true rfl, Nat.le_of_ble_eq_true rfl⟩) (hC.at hz hS) (selP (m9 := [true, true]) rfl rfl hP) 0 rfl (show vwCl[8]? = some (RX8, TX8, 20) from rfl) rfl rfl hl.1 rfl (Nat.le_of_ble_eq_true rfl) dX8_count_100 ⟨Nat.zero_le _, Nat.zero_le _⟩ rfl ?_
        cases hF
        exact we_iret hx hb hr hlocks dX8_count_103 rfl hQ hP hD hS
      have hF := brF c29_1 hF
      by_cases c29_2 : p1 = 2
      · have hF := brT c29_2 hF
        refine lv_tableIn (tgt := 104) hx hb dX8_count_29 (by rw [c29_2]; decide) (by rw [c29_2]; decide) (by rw [c29_2]; rfl) (by decide) ?_
        refine lv_aload_n hx hb dX8_count_104 rfl (lv_at hl 0 rfl) ?_
        refine va_get (D := D) (ci := 8) (v := .ref a_t_a) (C := RX8) (T := TX8) (N := 20) hx hb hts iw8 hown hK hP 0 rfl rfl 0 (by decide) hf7 (fun _ h9 => h9) rfl dX8_count_105 ?_
        refine lv_iconst (v := 1) hx hb dX8_count_108 (by decide) ?_
        refine my_iald (v := t_a_ 1) hx hb hK hP 1 0 rfl rfl (vp_lit (by decide +kernel)) rfl dX8_count_109 ?_
        cases hF
        exact we_iret hx hb hr hlocks dX8_count_110 rfl hQ hP hD hS
      have hF := brF c29_2 hF
      by_cases c29_3 : p1 = 3
      · have hF := brT c29_3 hF
        refine lv_tableIn (tgt := 111) hx hb dX8_count_29 (by rw [c29_3]; decide) (by rw [c29_3]; decide) (by rw [c29_3]; rfl) (by decide) ?_
        refine lv_aload_n hx hb dX8_count_111 rfl (lv_at hl 0 rfl) ?_
        refine va_get (D := D) (ci := 8) (v := .ref a_t_a) (C := RX8) (T := TX8) (N := 20) hx hb hts iw8 hown hK hP 0 rfl rfl 0 (by decide) hf7 (fun _ h9 => h9) rfl dX8_count_112 ?_
        refine lv_iconst (v := 2) hx hb dX8_count_115 (by decide) ?_
        refine my_iald (v := t_a_ 2) hx hb hK hP 1 0 rfl rfl (vp_lit (by decide +kernel)) rfl dX8_count_116 ?_
        cases hF
        exact we_iret hx hb hr hlocks dX8_count_117 rfl hQ hP hD hS
      have hF := brF c29_3 hF
      by_cases c29_4 : p1 = 4
      · have hF := brT c29_4 hF
        refine lv_tableIn (tgt := 118) hx hb dX8_count_29 (by rw [c29_4]; decide) (by rw [c29_4]; decide) (by rw [c29_4]; rfl) (by decide) ?_
        refine lv_aload_n hx hb dX8_count_118 rfl (lv_at hl 0 rfl) ?_
        refine va_get (D := D) (ci := 8) (v := .ref a_t_a) (C := RX8) (T := TX8) (N := 20) hx hb hts iw8 hown hK hP 0 rfl rfl 0 (by decide) hf7 (fun _ h9 => h9) rfl dX8_count_119 ?_
        refine lv_iconst (v := 3) hx hb dX8_count_122 (by decide) ?_
        refine my_iald (v := t_a_ 3) hx hb hK hP 1 0 rfl rfl (vp_lit (by decide +kernel)) rfl dX8_count_123 ?_
        cases hF
        exact we_iret hx hb hr hlocks dX8_count_124 rfl hQ hP hD hS
      have hF := brF c29_4 hF
      by_cases c29_5 : p1 = 5
      · have hF := brT c29_5 hF
        refine lv_tableIn (tgt := 125) hx hb dX8_count_29 (by rw [c29_5]; decide) (by rw [c29_5]; decide) (by rw [c29_5]; rfl) (by decide) ?_
        refine lv_aload_n hx hb dX8_count_125 rfl (lv_at hl 0 rfl) ?_
        obtain ⟨r126_7, h126_7, hF⟩ := bndE hF
        refine rdV (As := []) (rest := []) (C := RX8) ⟨hx, hb, hml, hown, hts⟩ (c_X8_sortedPieces l D t z x N a_t a_t_a v_t_fresh v_t_aside v_t_kept v_t_buffer v_t_moved v_t_written t_keptMany s0_16_3 t_buffered t_size t_at t_behind t_kind t_number t_wrong t_wrongAt t_errorAt t_unused t_writtenMany t_a_ H r126_7 h126_7) (cwV 0 hts gX8_count_X8_sortedPieces rfl rfl rfl hd_X8_sortedPieces ⟨Nat.le_of_ble_eq_true rfl, Nat.le_of_ble_eq_true rfl⟩) (hC.at hz hS) (selP (m9 := [true, true]) rfl rfl hP) 0 rfl (show vwCl[8]? = some (RX8, TX8, 20) from rfl) rfl rfl hl.1 rfl (Nat.le_of_ble_eq_true rfl) dX8_count_126 ⟨Nat.zero_le _, Nat.zero_le _⟩ rfl ?_
        cases hF
        exact we_iret hx hb hr hlocks dX8_count_129 rfl hQ hP hD hS
      have hF := brF c29_5 hF
      by_cases c29_6 : p1 = 6
      · have hF := brT c29_6 hF
        refine lv_tableIn (tgt := 138) hx hb dX8_count_29 (by rw [c29_6]; decide) (by rw [c29_6]; decide) (by rw [c29_6]; rfl) (by decide) ?_
        refine lv_aload_n hx hb dX8_count_138 rfl (lv_at hl 0 rfl) ?_
        refine va_get (D := D) (ci := 8) (v := .ref a_t_a) (C := RX8) (T := TX8) (N := 20) hx hb hts iw8 hown hK hP 0 rfl rfl 0 (by decide) hf7 (fun _ h9 => h9) rfl dX8_count_139 ?_
        refine lv_iconst (v := 4) hx hb dX8_count_142 (by decide) ?_
        refine lv_iload_n hx hb dX8_count_143 rfl (lv_at hl 1 rfl) ?_
        refine lv_iadd hx hb dX8_count_144 ?_
        refine lv_bipush (v := 6) hx hb dX8_count_145 (by decide) ?_
        refine lv_isub hx hb dX8_count_147 ?_
        obtain ⟨g148_8, hF⟩ := gd hF
        refine my_iald (v := t_a_ ((4 + p1) - 6).toNatClampNeg) hx hb hK hP 1 0 rfl rfl g148_8 rfl dX8_count_148 ?_
        cases hF
        exact we_iret hx hb hr hlocks dX8_count_149 rfl hQ hP hD hS
      have hF := brF c29_6 hF
      by_cases c29_7 : p1 = 7
      · have hF := brT c29_7 hF
        refine lv_tableIn (tgt := 138) hx hb dX8_count_29 (by rw [c29_7]; decide) (by rw [c29_7]; decide) (by rw [c29_7]; rfl) (by decide) ?_
        refine lv_aload_n hx hb dX8_count_138 rfl (lv_at hl 0 rfl) ?_
        refine va_get (D := D) (ci := 8) (v := .ref a_t_a) (C := RX8) (T := TX8) (N := 20) hx hb hts iw8 hown hK hP 0 rfl rfl 0 (by decide) hf7 (fun _ h9 => h9) rfl dX8_count_139 ?_
        refine lv_iconst (v := 4) hx hb dX8_count_142 (by decide) ?_
        refine lv_iload_n hx hb dX8_count_143 rfl (lv_at hl 1 rfl) ?_
        refine lv_iadd hx hb dX8_count_144 ?_
        refine lv_bipush (v := 6) hx hb dX8_count_145 (by decide) ?_
        refine lv_isub hx hb dX8_count_147 ?_
        obtain ⟨g148_9, hF⟩ := gd hF
        refine my_iald (v := t_a_ ((4 + p1) - 6).toNatClampNeg) hx hb hK hP 1 0 rfl rfl g148_9 rfl dX8_count_148 ?_
        cases hF
        exact we_iret hx hb hr hlocks dX8_count_149 rfl hQ hP hD hS
      have hF := brF c29_7 hF
      by_cases c29_8 : p1 = 8
      · have hF := brT c29_8 hF
        refine lv_tableIn (tgt := 138) hx hb dX8_count_29 (by rw [c29_8]; decide) (by rw [c29_8]; decide) (by rw [c29_8]; rfl) (by decide) ?_
        refine lv_aload_n hx hb dX8_count_138 rfl (lv_at hl 0 rfl) ?_
        refine va_get (D := D) (ci := 8) (v := .ref a_t_a) (C := RX8) (T := TX8) (N := 20) hx hb hts iw8 hown hK hP 0 rfl rfl 0 (by decide) hf7 (fun _ h9 => h9) rfl dX8_count_139 ?_
        refine lv_iconst (v := 4) hx hb dX8_count_142 (by decide) ?_
        refine lv_iload_n hx hb dX8_count_143 rfl (lv_at hl 1 rfl) ?_
        refine lv_iadd hx hb dX8_count_144 ?_
        refine lv_bipush (v := 6) hx hb dX8_count_145 (by decide) ?_
        refine lv_isub hx hb dX8_count_147 ?_
        obtain ⟨g148_10, hF⟩ := gd hF
        refine my_iald (v := t_a_ ((4 + p1) - 6).toNatClampNeg) hx hb hK hP 1 0 rfl rfl g148_10 rfl dX8_count_148 ?_
        cases hF
        exact we_iret hx hb hr hlocks dX8_count_149 rfl hQ hP hD hS
      have hF := brF c29_8 hF
      by_cases c29_9 : p1 = 9
      · have hF := brT c29_9 hF
        refine lv_tableIn (tgt := 138) hx hb dX8_count_29 (by rw [c29_9]; decide) (by rw [c29_9]; decide) (by rw [c29_9]; rfl) (by decide) ?_
        refine lv_aload_n hx hb dX8_count_138 rfl (lv_at hl 0 rfl) ?_
        refine va_get (D := D) (ci := 8) (v := .ref a_t_a) (C := RX8) (T := TX8) (N := 20) hx hb hts iw8 hown hK hP 0 rfl rfl 0 (by decide) hf7 (fun _ h9 => h9) rfl dX8_count_139 ?_
        refine lv_iconst (v := 4) hx hb dX8_count_142 (by decide) ?_
        refine lv_iload_n hx hb dX8_count_143 rfl (lv_at hl 1 rfl) ?_
        refine lv_iadd hx hb dX8_count_144 ?_
        refine lv_bipush (v := 6) hx hb dX8_count_145 (by decide) ?_
        refine lv_isub hx hb dX8_count_147 ?_
        obtain ⟨g148_11, hF⟩ := gd hF
        refine my_iald (v := t_a_ ((4 + p1) - 6).toNatClampNeg) hx hb hK hP 1 0 rfl rfl g148_11 rfl dX8_count_148 ?_
        cases hF
        exact we_iret hx hb hr hlocks dX8_count_149 rfl hQ hP hD hS
      have hF := brF c29_9 hF
      by_cases c29_10 : p1 = 10
      · have hF := brT c29_10 hF
        refine lv_tableIn (tgt := 138) hx hb dX8_count_29 (by rw [c29_10]; decide) (by rw [c29_10]; decide) (by rw [c29_10]; rfl) (by decide) ?_
        refine lv_aload_n hx hb dX8_count_138 rfl (lv_at hl 0 rfl) ?_
        refine va_get (D := D) (ci := 8) (v := .ref a_t_a) (C := RX8) (T := TX8) (N := 20) hx hb hts iw8 hown hK hP 0 rfl rfl 0 (by decide) hf7 (fun _ h9 => h9) rfl dX8_count_139 ?_
        refine lv_iconst (v := 4) hx hb dX8_count_142 (by decide) ?_
        refine lv_iload_n hx hb dX8_count_143 rfl (lv_at hl 1 rfl) ?_
        refine lv_iadd hx hb dX8_count_144 ?_
        refine lv_bipush (v := 6) hx hb dX8_count_145 (by decide) ?_
        refine lv_isub hx hb dX8_count_147 ?_
        obtain ⟨g148_12, hF⟩ := gd hF
        refine my_iald (v := t_a_ ((4 + p1) - 6).toNatClampNeg) hx hb hK hP 1 0 rfl rfl g148_12 rfl dX8_count_148 ?_
        cases hF
        exact we_iret hx hb hr hlocks dX8_count_149 rfl hQ hP hD hS
      have hF := brF c29_10 hF
      by_cases c29_11 : p1 = 11
      · have hF := brT c29_11 hF
        refine lv_tableIn (tgt := 130) hx hb dX8_count_29 (by rw [c29_11]; decide) (by rw [c29_11]; decide) (by rw [c29_11]; rfl) (by decide) ?_
        refine lv_aload_n hx hb dX8_count_130 rfl (lv_at hl 0 rfl) ?_
        refine va_get (D := D) (ci := 8) (v := .ref a_t_a) (C := RX8) (T := TX8) (N := 20) hx hb hts iw8 hown hK hP 0 rfl rfl 0 (by decide) hf7 (fun _ h9 => h9) rfl dX8_count_131 ?_
        refine lv_bipush (v := 19) hx hb dX8_count_134 (by decide) ?_
        refine my_iald (v := t_a_ 19) hx hb hK hP 1 0 rfl rfl (vp_lit (by decide +kernel)) rfl dX8_count_136 ?_
        cases hF
        exact we_iret hx hb hr hlocks dX8_count_137 rfl hQ hP hD hS
      have hF := brF c29_11 hF
      refine lv_tableOut (tgt := 138) hx hb dX8_count_29 (swOut0_11 c29_0 c29_1 c29_2 c29_3 c29_4 c29_5 c29_6 c29_7 c29_8 c29_9 c29_10 c29_11) (by decide) ?_
      refine lv_aload_n hx hb dX8_count_138 rfl (lv_at hl 0 rfl) ?_
      refine va_get (D := D) (ci := 8) (v := .ref a_t_a) (C := RX8) (T := TX8) (N := 20) hx hb hts iw8 hown hK hP 0 rfl rfl 0 (by decide) hf7 (fun _ h9 => h9) rfl dX8_count_139 ?_
      refine lv_iconst (v := 4) hx hb dX8_count_142 (by decide) ?_
      refine lv_iload_n hx hb dX8_count_143 rfl (lv_at hl 1 rfl) ?_
      refine lv_iadd hx hb dX8_count_144 ?_
      refine lv_bipush (v := 6) hx hb dX8_count_145 (by decide) ?_
      refine lv_isub hx hb dX8_count_147 ?_
      obtain ⟨g148_13, hF⟩ := gd hF
      refine my_iald (v := t_a_ ((4 + p1) - 6).toNatClampNeg) hx hb hK hP 1 0 rfl rfl g148_13 rfl dX8_count_148 ?_
      cases hF
      exact we_iret hx hb hr hlocks dX8_count_149 rfl hQ hP hD hS
    · have hF := brF c23 hF
      refine lv_iconst (v := 0) hx hb dX8_count_26 (by decide) ?_
      cases hF
      exact we_iret hx hb hr hlocks dX8_count_27 rfl hQ hP hD hS
  refine lv_if_eq (tgt := 15) hx hb dX8_count_8 (by decide) (fun c8 => ?_) (fun c8 => ?_)
  · have hF := brT c8 hF
    refine lv_iconst (v := 1) hx hb dX8_count_15 (by decide) ?_
    exact hk16_4 1 H locs ls hP hD hS hl hF
  · have hF := brF c8 hF
    refine lv_iconst (v := 0) hx hb dX8_count_11 (by decide) ?_
    refine lv_goto (tgt := 16) hx hb dX8_count_12 (by decide) ?_
    exact hk16_4 0 H locs ls hP hD hS hl hF
abbrev rm_X8_row : Room := { frames := 2, cells := 0, slots := 0, locals := 43 }
theorem hd_X8_row : yX8_row.cls = RX8 ∧ yX8_row.cls ≠ "java/lang/invoke/MethodHandle" ∧ yX8_row.cls ≠ "java/lang/invoke/VarHandle" ∧ (parseMethodDescriptor yX8_row.desc).map (fun d => d.parameters.length) = some 2 := by decide +kernel
set_option maxRecDepth 100000 in
set_option maxHeartbeats 4000000 in
theorem c_X8_row (l : Launch) (D : va_G) (t : Nat → ClassId) (z : Nat) (x : Nat → Nat) (N : Nat) (a_t : Nat) (a_t_a : Nat) (v_t_fresh : Value) (v_t_aside : Value) (v_t_kept : Value) (v_t_buffer : Value) (v_t_moved : Value) (v_t_written : Value) (t_keptMany : Int32) (t_thrown : Int32) (t_buffered : Int32) (t_size : Int32) (t_at : Int32) (t_behind : Int32) (t_kind : Int32) (t_number : Int32) (t_wrong : Int32) (t_wrongAt : Int32) (t_errorAt : Int32) (t_unused : Int32) (t_writtenMany : Int32) (t_a_ : (Nat → Int32)) (p1 : Int32) (p2 : Int32) (sz : Nat) (r : Int32) (t_thrown' : Int32) (hF : f_X8_row N t_a_ p1 p2 = some (r, t_thrown')) : WrM l D (TY t) z x yX8_row wsX8_row rm_X8_row [.ref a_t, .int p1, .int p2] [(a_t, .inr (8, [.ref a_t_a, v_t_fresh, v_t_aside, v_t_kept, .int t_keptMany, .int t_thrown, v_t_buffer, .int t_buffered, .int t_size, .int t_at, .int t_behind, .int t_kind, .int t_number, .int t_wrong, .int t_wrongAt, .int t_errorAt, v_t_moved, .int t_unused, v_t_written, .int t_writtenMany])), (a_t_a, .inl (t 0, 876, .inl t_a_))] [(a_t, .inr (8, [.ref a_t_a, v_t_fresh, v_t_aside, v_t_kept, .int t_keptMany, .int t_thrown', v_t_buffer, .int t_buffered, .int t_size, .int t_at, .int t_behind, .int t_kind, .int t_number, .int t_wrong, .int t_wrongAt, .int t_errorAt, v_t_moved, .int t_unused, v_t_written, .int t_writtenMany])), (a_t_a, .inl (t 0, 876, .inl t_a_))] sz (some (.int r)) 0 0 := by
  refine wr_of (cc := cX8_row) (maxL := 3) (ret := (some .int)) (by decide) rfl (Nat.le_of_ble_eq_true rfl) ?_
  intro p e s m args below meth c A Q hQ hx hb hr hml hts hown hlocks hin H locs hP hD hS hA hz hC ls hl
  have hown : s.vm.findClass RX8 = some m.cls := hown
  have hl : lv_has ls 3 [(0, .ref a_t), (1, .int p1), (2, .int p2)] := hl
  have hK := hC.1
  have iw8 : ∀ w ∈ wsX80, w ∈ wsX8_row := fun _ h => List.mem_cons_of_mem _ (List.mem_append_right _ h)
  have hf7 := hts (.fieldLink RX8 7 "CrackedColumnModel" "a" "[I") (by decide +kernel)
  have hf45 := hts (.fieldLink RX8 45 "CrackedColumnModel" "thrown" "I") (by decide +kernel)
  unfold f_X8_row at hF
  refine lv_aload_n hx hb dX8_row_0 rfl (lv_at hl 0 rfl) ?_
  refine lv_aload_n hx hb dX8_row_1 rfl (lv_at hl 0 rfl) ?_
  refine lv_iload_n hx hb dX8_row_2 rfl (lv_at hl 1 rfl) ?_
  obtain ⟨r3_1, h3_1, hF⟩ := bndE hF
  refine rdV (As := [.int p1]) (rest := [.ref a_t]) (C := RX8) ⟨hx, hb, hml, hown, hts⟩ (c_X8_isRow l D t z x a_t a_t_a v_t_fresh v_t_aside v_t_kept v_t_buffer v_t_moved v_t_written t_keptMany t_thrown t_buffered t_size t_at t_behind t_kind t_number t_wrong t_wrongAt t_errorAt t_unused t_writtenMany t_a_ p1 H r3_1 h3_1) (cwV 1 hts gX8_row_X8_isRow rfl rfl rfl hd_X8_isRow ⟨Nat.le_of_ble_eq_true rfl, Nat.le_of_ble_eq_true rfl⟩) (hC.at hz hS) (selP (m9 := [true, true]) rfl rfl hP) 0 rfl (show vwCl[8]? = some (RX8, TX8, 20) from rfl) rfl rfl hl.1 rfl (Nat.le_of_ble_eq_true rfl) dX8_row_3 ⟨Nat.zero_le _, Nat.zero_le _⟩ rfl ?_
  obtain ⟨k27_4, ek27_4, hF⟩ := jnE hF
  have hk27_4 : ∀ (s0_27_3 : Int32) (H : Heap) (locs : List Loc) (ls : Array Slot), va_P D vwCl [(a_t, .inr (8, [.ref a_t_a, v_t_fresh, v_t_aside, v_t_kept, .int t_keptMany, .int t_thrown, v_t_buffer, .int t_buffered, .int t_size, .int t_at, .int t_behind, .int t_kind, .int t_number, .int t_wrong, .int t_wrongAt, .int t_errorAt, v_t_moved, .int t_unused, v_t_written, .int t_writtenMany])), (a_t_a, .inl (t 0, 876, .inl t_a_))] H → va_D A [(a_t, .inr (8, [.ref a_t_a, v_t_fresh, v_t_aside, v_t_kept, .int t_keptMany, .int t_thrown, v_t_buffer, .int t_buffered, .int t_size, .int t_at, .int t_behind, .int t_kind, .int t_number, .int t_wrong, .int t_wrongAt, .int t_errorAt, v_t_moved, .int t_unused, v_t_written, .int t_writtenMany])), (a_t_a, .inl (t 0, 876, .inl t_a_))] → va_S A s.heap H locs → lv_has ls 3 [(0, .ref a_t), (1, .int p1), (2, .int p2)] → k27_4 s0_27_3 = some (r, t_thrown') → W p l e rm_X8_row s m args below meth c H locs 0 0 Q (F0 m 27 ls [.int s0_27_3, .ref a_t]) := by
    subst ek27_4
    intro s0_27_3 H locs ls hP hD hS hl hF
    refine my_put (ty := .int) (v := .int s0_27_3) (ci := 8) (C := RX8) (T := TX8) (N := 20) (wn := [(a_t, .inr (8, [.ref a_t_a, v_t_fresh, v_t_aside, v_t_kept, .int t_keptMany, .int s0_27_3, v_t_buffer, .int t_buffered, .int t_size, .int t_at, .int t_behind, .int t_kind, .int t_number, .int t_wrong, .int t_wrongAt, .int t_errorAt, v_t_moved, .int t_unused, v_t_written, .int t_writtenMany])), (a_t_a, .inl (t 0, 876, .inl t_a_))]) hx hb hts iw8 tyX8 tyX8_ok nmX8 hown hK hP hD hS 0 rfl rfl 5 (by decide) hf45 (fun _ h9 => h9) rfl (by decide +kernel) rfl rfl (Nat.le_of_ble_eq_true rfl) rfl dX8_row_27 (fun H locs hP hD hS => ?_)
    refine lv_aload_n hx hb dX8_row_30 rfl (lv_at hl 0 rfl) ?_
    refine va_get (D := D) (ci := 8) (v := .int s0_27_3) (C := RX8) (T := TX8) (N := 20) hx hb hts iw8 hown hK hP 0 rfl rfl 5 (by decide) hf45 (fun _ h9 => h9) rfl dX8_row_31 ?_
    refine lv_if_le (tgt := 39) hx hb dX8_row_34 (by decide) (fun c34 => ?_) (fun c34 => ?_)
    · have hF := brT c34 hF
      refine lv_iload_n hx hb dX8_row_39 rfl (lv_at hl 2 rfl) ?_
      refine lv_if_ne (tgt := 55) hx hb dX8_row_40 (by decide) (fun c40 => ?_) (fun c40 => ?_)
      · have hF := brF c40 hF
        refine lv_iload_n hx hb dX8_row_55 rfl (lv_at hl 2 rfl) ?_
        refine lv_iconst (v := 1) hx hb dX8_row_56 (by decide) ?_
        refine lv_icmp_ne (tgt := 73) hx hb dX8_row_57 (by decide) (fun c57 => ?_) (fun c57 => ?_)
        · have hF := brF c57 hF
          refine lv_iload_n hx hb dX8_row_73 rfl (lv_at hl 2 rfl) ?_
          refine lv_iconst (v := 2) hx hb dX8_row_74 (by decide) ?_
          refine lv_icmp_ne (tgt := 91) hx hb dX8_row_75 (by decide) (fun c75 => ?_) (fun c75 => ?_)
          · have hF := brF c75 hF
            refine lv_aload_n hx hb dX8_row_91 rfl (lv_at hl 0 rfl) ?_
            refine lv_iload_n hx hb dX8_row_92 rfl (lv_at hl 1 rfl) ?_
            obtain ⟨r93_5, h93_5, hF⟩ := bndE hF
            refine rdV (As := [.int p1]) (rest := []) (C := RX8) ⟨hx, hb, hml, hown, hts⟩ (c_X8_placeOf l D t z x N a_t a_t_a v_t_fresh v_t_aside v_t_kept v_t_buffer v_t_moved v_t_written t_keptMany s0_27_3 t_buffered t_size t_at t_behind t_kind t_number t_wrong t_wrongAt t_errorAt t_unused t_writtenMany t_a_ p1 H r93_5 h93_5) (cwV 1 hts gX8_row_X8_placeOf rfl rfl rfl hd_X8_placeOf ⟨Nat.le_of_ble_eq_true rfl, Nat.le_of_ble_eq_true rfl⟩) (hC.at hz hS) (selP (m9 := [true, true]) rfl rfl hP) 0 rfl (show vwCl[8]? = some (RX8, TX8, 20) from rfl) rfl rfl hl.1 rfl (Nat.le_of_ble_eq_true rfl) dX8_row_93 ⟨Nat.zero_le _, Nat.zero_le _⟩ rfl ?_
            cases hF
            exact we_iret hx hb hr hlocks dX8_row_96 rfl hQ hP hD hS
          · have hF := brT c75 hF
            refine lv_aload_n hx hb dX8_row_78 rfl (lv_at hl 0 rfl) ?_
            refine va_get (D := D) (ci := 8) (v := .ref a_t_a) (C := RX8) (T := TX8) (N := 20) hx hb hts iw8 hown hK hP 0 rfl rfl 0 (by decide) hf7 (fun _ h9 => h9) rfl dX8_row_79 ?_
            refine lv_sipush (v := 260) hx hb dX8_row_82 (by decide) ?_
            refine lv_iload_n hx hb dX8_row_85 rfl (lv_at hl 1 rfl) ?_
            refine lv_iadd hx hb dX8_row_86 ?_
            obtain ⟨g87_6, hF⟩ := gd hF
            refine my_iald (v := t_a_ (260 + p1).toNatClampNeg) hx hb hK hP 1 0 rfl rfl g87_6 rfl dX8_row_87 ?_
            refine lv_goto (tgt := 96) hx hb dX8_row_88 (by decide) ?_
            cases hF
            exact we_iret hx hb hr hlocks dX8_row_96 rfl hQ hP hD hS
        · have hF := brT c57 hF
          refine lv_aload_n hx hb dX8_row_60 rfl (lv_at hl 0 rfl) ?_
          refine va_get (D := D) (ci := 8) (v := .ref a_t_a) (C := RX8) (T := TX8) (N := 20) hx hb hts iw8 hown hK hP 0 rfl rfl 0 (by decide) hf7 (fun _ h9 => h9) rfl dX8_row_61 ?_
          refine lv_sipush (v := 140) hx hb dX8_row_64 (by decide) ?_
          refine lv_iload_n hx hb dX8_row_67 rfl (lv_at hl 1 rfl) ?_
          refine lv_iadd hx hb dX8_row_68 ?_
          obtain ⟨g69_7, hF⟩ := gd hF
          refine my_iald (v := t_a_ (140 + p1).toNatClampNeg) hx hb hK hP 1 0 rfl rfl g69_7 rfl dX8_row_69 ?_
          refine lv_goto (tgt := 96) hx hb dX8_row_70 (by decide) ?_
          cases hF
          exact we_iret hx hb hr hlocks dX8_row_96 rfl hQ hP hD hS
      · have hF := brT c40 hF
        refine lv_aload_n hx hb dX8_row_43 rfl (lv_at hl 0 rfl) ?_
        refine va_get (D := D) (ci := 8) (v := .ref a_t_a) (C := RX8) (T := TX8) (N := 20) hx hb hts iw8 hown hK hP 0 rfl rfl 0 (by decide) hf7 (fun _ h9 => h9) rfl dX8_row_44 ?_
        refine lv_bipush (v := 20) hx hb dX8_row_47 (by decide) ?_
        refine lv_iload_n hx hb dX8_row_49 rfl (lv_at hl 1 rfl) ?_
        refine lv_iadd hx hb dX8_row_50 ?_
        obtain ⟨g51_8, hF⟩ := gd hF
        refine my_iald (v := t_a_ (20 + p1).toNatClampNeg) hx hb hK hP 1 0 rfl rfl g51_8 rfl dX8_row_51 ?_
        refine lv_goto (tgt := 96) hx hb dX8_row_52 (by decide) ?_
        cases hF
        exact we_iret hx hb hr hlocks dX8_row_96 rfl hQ hP hD hS
    · have hF := brF c34 hF
      refine lv_iconst (v := 0) hx hb dX8_row_37 (by decide) ?_
      cases hF
      exact we_iret hx hb hr hlocks dX8_row_38 rfl hQ hP hD hS
  refine lv_if_ne (tgt := 13) hx hb dX8_row_6 (by decide) (fun c6 => ?_) (fun c6 => ?_)
  · have hF := brF c6 hF
    refine lv_iload_n hx hb dX8_row_13 rfl (lv_at hl 2 rfl) ?_
    refine lv_iconst (v := 0) hx hb dX8_row_14 (by decide) ?_
    refine lv_iconst (v := 3) hx hb dX8_row_15 (by decide) ?_
    obtain ⟨r16_10, h16_10, hF⟩ := bndE hF
    refine rdS (As := [.int p2, .int 0, .int 3]) (rest := [.ref a_t]) ⟨hx, hb, hml, hown, hts⟩ (c_X8_isIn l D t z x p2 0 3 H r16_10 h16_10) (va_cwS 3 hts gX8_row_X8_isIn rfl rfl rfl hd_X8_isIn.2 ⟨Nat.le_of_ble_eq_true rfl, Nat.le_of_ble_eq_true rfl⟩) (hC.at hz hS) (selP (m9 := [false, false]) rfl rfl hP) rfl hl.1 rfl (Nat.le_of_ble_eq_true rfl) dX8_row_16 ⟨Nat.zero_le _, Nat.zero_le _⟩ rfl ?_
    refine lv_if_eq (tgt := 26) hx hb dX8_row_19 (by decide) (fun c19 => ?_) (fun c19 => ?_)
    · have hF := brT c19 hF
      refine lv_iconst (v := 2) hx hb dX8_row_26 (by decide) ?_
      exact hk27_4 2 H locs ls hP hD hS hl hF
    · have hF := brF c19 hF
      refine lv_iconst (v := 0) hx hb dX8_row_22 (by decide) ?_
      refine lv_goto (tgt := 27) hx hb dX8_row_23 (by decide) ?_
      exact hk27_4 0 H locs ls hP hD hS hl hF
  · have hF := brT c6 hF
    refine lv_iconst (v := 1) hx hb dX8_row_9 (by decide) ?_
    refine lv_goto (tgt := 27) hx hb dX8_row_10 (by decide) ?_
    exact hk27_4 1 H locs ls hP hD hS hl hF
abbrev rm_X8_entry : Room := { frames := 1, cells := 0, slots := 0, locals := 22 }
theorem hd_X8_entry : yX8_entry.cls = RX8 ∧ yX8_entry.cls ≠ "java/lang/invoke/MethodHandle" ∧ yX8_entry.cls ≠ "java/lang/invoke/VarHandle" ∧ (parseMethodDescriptor yX8_entry.desc).map (fun d => d.parameters.length) = some 1 := by decide +kernel
set_option maxRecDepth 100000 in
set_option maxHeartbeats 4000000 in
theorem c_X8_entry (l : Launch) (D : va_G) (t : Nat → ClassId) (z : Nat) (x : Nat → Nat) (a_t : Nat) (a_t_a : Nat) (v_t_fresh : Value) (v_t_aside : Value) (v_t_kept : Value) (v_t_buffer : Value) (v_t_moved : Value) (v_t_written : Value) (t_keptMany : Int32) (t_thrown : Int32) (t_buffered : Int32) (t_size : Int32) (t_at : Int32) (t_behind : Int32) (t_kind : Int32) (t_number : Int32) (t_wrong : Int32) (t_wrongAt : Int32) (t_errorAt : Int32) (t_unused : Int32) (t_writtenMany : Int32) (t_a_ : (Nat → Int32)) (p1 : Int32) (sz : Nat) (r : Int32) (t_thrown' : Int32) (hF : f_X8_entry t_a_ p1 = some (r, t_thrown')) : WrM l D (TY t) z x yX8_entry wsX8_entry rm_X8_entry [.ref a_t, .int p1] [(a_t, .inr (8, [.ref a_t_a, v_t_fresh, v_t_aside, v_t_kept, .int t_keptMany, .int t_thrown, v_t_buffer, .int t_buffered, .int t_size, .int t_at, .int t_behind, .int t_kind, .int t_number, .int t_wrong, .int t_wrongAt, .int t_errorAt, v_t_moved, .int t_unused, v_t_written, .int t_writtenMany])), (a_t_a, .inl (t 0, 876, .inl t_a_))] [(a_t, .inr (8, [.ref a_t_a, v_t_fresh, v_t_aside, v_t_kept, .int t_keptMany, .int t_thrown', v_t_buffer, .int t_buffered, .int t_size, .int t_at, .int t_behind, .int t_kind, .int t_number, .int t_wrong, .int t_wrongAt, .int t_errorAt, v_t_moved, .int t_unused, v_t_written, .int t_writtenMany])), (a_t_a, .inl (t 0, 876, .inl t_a_))] sz (some (.int r)) 0 0 := by
  refine wr_of (cc := cX8_entry) (maxL := 2) (ret := (some .int)) (by decide) rfl (Nat.le_of_ble_eq_true rfl) ?_
  intro p e s m args below meth c A Q hQ hx hb hr hml hts hown hlocks hin H locs hP hD hS hA hz hC ls hl
  have hown : s.vm.findClass RX8 = some m.cls := hown
  have hl : lv_has ls 2 [(0, .ref a_t), (1, .int p1)] := hl
  have hK := hC.1
  have iw8 : ∀ w ∈ wsX80, w ∈ wsX8_entry := fun _ h => List.mem_cons_of_mem _ (List.mem_append_right _ h)
  have hf7 := hts (.fieldLink RX8 7 "CrackedColumnModel" "a" "[I") (by decide +kernel)
  have hf45 := hts (.fieldLink RX8 45 "CrackedColumnModel" "thrown" "I") (by decide +kernel)
  unfold f_X8_entry at hF
  refine lv_aload_n hx hb dX8_entry_0 rfl (lv_at hl 0 rfl) ?_
  refine lv_iload_n hx hb dX8_entry_1 rfl (lv_at hl 1 rfl) ?_
  refine lv_iconst (v := 0) hx hb dX8_entry_2 (by decide) ?_
  refine lv_aload_n hx hb dX8_entry_3 rfl (lv_at hl 0 rfl) ?_
  refine va_get (D := D) (ci := 8) (v := .ref a_t_a) (C := RX8) (T := TX8) (N := 20) hx hb hts iw8 hown hK hP 0 rfl rfl 0 (by decide) hf7 (fun _ h9 => h9) rfl dX8_entry_4 ?_
  refine lv_iconst (v := 1) hx hb dX8_entry_7 (by decide) ?_
  refine my_iald (v := t_a_ 1) hx hb hK hP 1 0 rfl rfl (vp_lit (by decide +kernel)) rfl dX8_entry_8 ?_
  refine lv_iconst (v := 1) hx hb dX8_entry_9 (by decide) ?_
  refine lv_isub hx hb dX8_entry_10 ?_
  obtain ⟨r11_1, h11_1, hF⟩ := bndE hF
  refine rdS (As := [.int p1, .int 0, .int ((t_a_ 1) - 1)]) (rest := [.ref a_t]) ⟨hx, hb, hml, hown, hts⟩ (c_X8_isIn l D t z x p1 0 ((t_a_ 1) - 1) H r11_1 h11_1) (va_cwS 3 hts gX8_entry_X8_isIn rfl rfl rfl hd_X8_isIn.2 ⟨Nat.le_of_ble_eq_true rfl, Nat.le_of_ble_eq_true rfl⟩) (hC.at hz hS) (selP (m9 := [false, false]) rfl rfl hP) rfl hl.1 rfl (Nat.le_of_ble_eq_true rfl) dX8_entry_11 ⟨Nat.zero_le _, Nat.zero_le _⟩ rfl ?_
  obtain ⟨k22_4, ek22_4, hF⟩ := jnE hF
  have hk22_4 : ∀ (s0_22_3 : Int32) (H : Heap) (locs : List Loc) (ls : Array Slot), va_P D vwCl [(a_t, .inr (8, [.ref a_t_a, v_t_fresh, v_t_aside, v_t_kept, .int t_keptMany, .int t_thrown, v_t_buffer, .int t_buffered, .int t_size, .int t_at, .int t_behind, .int t_kind, .int t_number, .int t_wrong, .int t_wrongAt, .int t_errorAt, v_t_moved, .int t_unused, v_t_written, .int t_writtenMany])), (a_t_a, .inl (t 0, 876, .inl t_a_))] H → va_D A [(a_t, .inr (8, [.ref a_t_a, v_t_fresh, v_t_aside, v_t_kept, .int t_keptMany, .int t_thrown, v_t_buffer, .int t_buffered, .int t_size, .int t_at, .int t_behind, .int t_kind, .int t_number, .int t_wrong, .int t_wrongAt, .int t_errorAt, v_t_moved, .int t_unused, v_t_written, .int t_writtenMany])), (a_t_a, .inl (t 0, 876, .inl t_a_))] → va_S A s.heap H locs → lv_has ls 2 [(0, .ref a_t), (1, .int p1)] → k22_4 s0_22_3 = some (r, t_thrown') → W p l e rm_X8_entry s m args below meth c H locs 0 0 Q (F0 m 22 ls [.int s0_22_3, .ref a_t]) := by
    subst ek22_4
    intro s0_22_3 H locs ls hP hD hS hl hF
    refine my_put (ty := .int) (v := .int s0_22_3) (ci := 8) (C := RX8) (T := TX8) (N := 20) (wn := [(a_t, .inr (8, [.ref a_t_a, v_t_fresh, v_t_aside, v_t_kept, .int t_keptMany, .int s0_22_3, v_t_buffer, .int t_buffered, .int t_size, .int t_at, .int t_behind, .int t_kind, .int t_number, .int t_wrong, .int t_wrongAt, .int t_errorAt, v_t_moved, .int t_unused, v_t_written, .int t_writtenMany])), (a_t_a, .inl (t 0, 876, .inl t_a_))]) hx hb hts iw8 tyX8 tyX8_ok nmX8 hown hK hP hD hS 0 rfl rfl 5 (by decide) hf45 (fun _ h9 => h9) rfl (by decide +kernel) rfl rfl (Nat.le_of_ble_eq_true rfl) rfl dX8_entry_22 (fun H locs hP hD hS => ?_)
    refine lv_aload_n hx hb dX8_entry_25 rfl (lv_at hl 0 rfl) ?_
    refine va_get (D := D) (ci := 8) (v := .int s0_22_3) (C := RX8) (T := TX8) (N := 20) hx hb hts iw8 hown hK hP 0 rfl rfl 5 (by decide) hf45 (fun _ h9 => h9) rfl dX8_entry_26 ?_
    refine lv_if_le (tgt := 36) hx hb dX8_entry_29 (by decide) (fun c29 => ?_) (fun c29 => ?_)
    · have hF := brT c29 hF
      refine lv_aload_n hx hb dX8_entry_36 rfl (lv_at hl 0 rfl) ?_
      refine va_get (D := D) (ci := 8) (v := .ref a_t_a) (C := RX8) (T := TX8) (N := 20) hx hb hts iw8 hown hK hP 0 rfl rfl 0 (by decide) hf7 (fun _ h9 => h9) rfl dX8_entry_37 ?_
      refine lv_sipush (v := 380) hx hb dX8_entry_40 (by decide) ?_
      refine lv_iload_n hx hb dX8_entry_43 rfl (lv_at hl 1 rfl) ?_
      refine lv_iadd hx hb dX8_entry_44 ?_
      obtain ⟨g45_4, hF⟩ := gd hF
      refine my_iald (v := t_a_ (380 + p1).toNatClampNeg) hx hb hK hP 1 0 rfl rfl g45_4 rfl dX8_entry_45 ?_
      cases hF
      exact we_iret hx hb hr hlocks dX8_entry_46 rfl hQ hP hD hS
    · have hF := brF c29 hF
      refine lv_iconst (v := 0) hx hb dX8_entry_32 (by decide) ?_
      refine lv_goto (tgt := 46) hx hb dX8_entry_33 (by decide) ?_
      cases hF
      exact we_iret hx hb hr hlocks dX8_entry_46 rfl hQ hP hD hS
  refine lv_if_eq (tgt := 21) hx hb dX8_entry_14 (by decide) (fun c14 => ?_) (fun c14 => ?_)
  · have hF := brT c14 hF
    refine lv_iconst (v := 1) hx hb dX8_entry_21 (by decide) ?_
    exact hk22_4 1 H locs ls hP hD hS hl hF
  · have hF := brF c14 hF
    refine lv_iconst (v := 0) hx hb dX8_entry_17 (by decide) ?_
    refine lv_goto (tgt := 22) hx hb dX8_entry_18 (by decide) ?_
    exact hk22_4 0 H locs ls hP hD hS hl hF
abbrev rm_X8_isPiece : Room := { frames := 1, cells := 0, slots := 0, locals := 22 }
theorem hd_X8_isPiece : yX8_isPiece.cls = RX8 ∧ yX8_isPiece.cls ≠ "java/lang/invoke/MethodHandle" ∧ yX8_isPiece.cls ≠ "java/lang/invoke/VarHandle" ∧ (parseMethodDescriptor yX8_isPiece.desc).map (fun d => d.parameters.length) = some 1 := by decide +kernel
set_option maxRecDepth 100000 in
set_option maxHeartbeats 4000000 in
theorem c_X8_isPiece (l : Launch) (D : va_G) (t : Nat → ClassId) (z : Nat) (x : Nat → Nat) (a_t : Nat) (a_t_a : Nat) (v_t_fresh : Value) (v_t_aside : Value) (v_t_kept : Value) (v_t_buffer : Value) (v_t_moved : Value) (v_t_written : Value) (t_keptMany : Int32) (t_thrown : Int32) (t_buffered : Int32) (t_size : Int32) (t_at : Int32) (t_behind : Int32) (t_kind : Int32) (t_number : Int32) (t_wrong : Int32) (t_wrongAt : Int32) (t_errorAt : Int32) (t_unused : Int32) (t_writtenMany : Int32) (t_a_ : (Nat → Int32)) (p1 : Int32) (H : Heap) (r : Int32) (hF : f_X8_isPiece t_a_ p1 = some (r)) : RdM l D (TY t) z x yX8_isPiece wsX8_isPiece rm_X8_isPiece [.ref a_t, .int p1] [(a_t, .inr (8, [.ref a_t_a, v_t_fresh, v_t_aside, v_t_kept, .int t_keptMany, .int t_thrown, v_t_buffer, .int t_buffered, .int t_size, .int t_at, .int t_behind, .int t_kind, .int t_number, .int t_wrong, .int t_wrongAt, .int t_errorAt, v_t_moved, .int t_unused, v_t_written, .int t_writtenMany])), (a_t_a, .inl (t 0, 876, .inl t_a_))] H (some (.int r)) := by
  refine rd_of (cc := cX8_isPiece) (maxL := 2) (ret := (some .boolean)) (by decide) rfl (Nat.le_of_ble_eq_true rfl) ?_
  intro p e s m args below meth c Q hQ hx hb hr hml hts hown hlocks hH hP hC ls hl
  have hown : s.vm.findClass RX8 = some m.cls := hown
  have hl : lv_has ls 2 [(0, .ref a_t), (1, .int p1)] := hl
  have hK := hC.1
  have iw8 : ∀ w ∈ wsX80, w ∈ wsX8_isPiece := fun _ h => List.mem_cons_of_mem _ (List.mem_append_right _ h)
  have hf7 := hts (.fieldLink RX8 7 "CrackedColumnModel" "a" "[I") (by decide +kernel)
  unfold f_X8_isPiece at hF
  refine lv_iload_n hx hb dX8_isPiece_0 rfl (lv_at hl 1 rfl) ?_
  refine lv_iconst (v := 0) hx hb dX8_isPiece_1 (by decide) ?_
  refine lv_aload_n hx hb dX8_isPiece_2 rfl (lv_at hl 0 rfl) ?_
  refine va_get (D := D) (ci := 8) (v := .ref a_t_a) (C := RX8) (T := TX8) (N := 20) hx hb hts iw8 hown hK hP 0 rfl rfl 0 (by decide) hf7 (fun _ h9 => h9) rfl dX8_isPiece_3 ?_
  refine lv_iconst (v := 3) hx hb dX8_isPiece_6 (by decide) ?_
  refine my_iald (v := t_a_ 3) hx hb hK hP 1 0 rfl rfl (vp_lit (by decide +kernel)) rfl dX8_isPiece_7 ?_
  refine lv_iconst (v := 1) hx hb dX8_isPiece_8 (by decide) ?_
  refine lv_isub hx hb dX8_isPiece_9 ?_
  obtain ⟨r10_1, h10_1, hF⟩ := bndE hF
  refine rdS (As := [.int p1, .int 0, .int ((t_a_ 3) - 1)]) (rest := []) ⟨hx, hb, hml, hown, hts⟩ (c_X8_isIn l D t z x p1 0 ((t_a_ 3) - 1) H r10_1 h10_1) (va_cwS 3 hts gX8_isPiece_X8_isIn rfl rfl rfl hd_X8_isIn.2 ⟨Nat.le_of_ble_eq_true rfl, Nat.le_of_ble_eq_true rfl⟩) hC (selP (m9 := [false, false]) rfl rfl hP) rfl hl.1 rfl (Nat.le_of_ble_eq_true rfl) dX8_isPiece_10 ⟨Nat.zero_le _, Nat.zero_le _⟩ rfl ?_
  obtain ⟨g13_2, hF⟩ := gp hF
  cases hF
  exact rd_zret hx hb hr hlocks dX8_isPiece_13 (boolN g13_2) rfl hQ
abbrev rm_X8_falls : Room := { frames := 2, cells := 0, slots := 0, locals := 45 }
theorem hd_X8_falls : yX8_falls.cls = RX8 ∧ yX8_falls.cls ≠ "java/lang/invoke/MethodHandle" ∧ yX8_falls.cls ≠ "java/lang/invoke/VarHandle" ∧ (parseMethodDescriptor yX8_falls.desc).map (fun d => d.parameters.length) = some 1 := by decide +kernel
set_option maxRecDepth 100000 in
set_option maxHeartbeats 4000000 in
theorem c_X8_falls (l : Launch) (D : va_G) (t : Nat → ClassId) (z : Nat) (x : Nat → Nat) (N : Nat) (a_t : Nat) (a_t_a : Nat) (v_t_fresh : Value) (v_t_aside : Value) (v_t_kept : Value) (v_t_buffer : Value) (v_t_moved : Value) (v_t_written : Value) (t_keptMany : Int32) (t_thrown : Int32) (t_buffered : Int32) (t_size : Int32) (t_at : Int32) (t_behind : Int32) (t_kind : Int32) (t_number : Int32) (t_wrong : Int32) (t_wrongAt : Int32) (t_errorAt : Int32) (t_unused : Int32) (t_writtenMany : Int32) (t_a_ : (Nat → Int32)) (p1 : Int32) (H : Heap) (r : Int32) (hF : f_X8_falls N t_a_ p1 = some (r)) : RdM l D (TY t) z x yX8_falls wsX8_falls rm_X8_falls [.ref a_t, .int p1] [(a_t, .inr (8, [.ref a_t_a, v_t_fresh, v_t_aside, v_t_kept, .int t_keptMany, .int t_thrown, v_t_buffer, .int t_buffered, .int t_size, .int t_at, .int t_behind, .int t_kind, .int t_number, .int t_wrong, .int t_wrongAt, .int t_errorAt, v_t_moved, .int t_unused, v_t_written, .int t_writtenMany])), (a_t_a, .inl (t 0, 876, .inl t_a_))] H (some (.int r)) := by
  refine rd_of (cc := cX8_falls) (maxL := 4) (ret := (some .int)) (by decide) rfl (Nat.le_of_ble_eq_true rfl) ?_
  intro p e s m args below meth c Q hQ hx hb hr hml hts hown hlocks hH hP hC ls hl
  have hown : s.vm.findClass RX8 = some m.cls := hown
  have hl : lv_has ls 4 [(0, .ref a_t), (1, .int p1)] := hl
  have hK := hC.1
  unfold f_X8_falls at hF
  refine lv_iconst (v := 0) hx hb dX8_falls_0 (by decide) ?_
  refine lv_istore_n (lv' := [(2, .int 0), (0, .ref a_t), (1, .int p1)]) hx hb dX8_falls_1 rfl hl (by decide) rfl (fun ls hl => ?_)
  refine lv_aload_n hx hb dX8_falls_2 rfl (lv_at hl 1 rfl) ?_
  refine lv_iload_n hx hb dX8_falls_3 rfl (lv_at hl 2 rfl) ?_
  obtain ⟨r4_1, h4_1, hF⟩ := bndE hF
  refine rdV (As := [.int p1]) (rest := []) (C := RX8) ⟨hx, hb, hml, hown, hts⟩ (c_X8_firstPlace l D t z x N a_t a_t_a v_t_fresh v_t_aside v_t_kept v_t_buffer v_t_moved v_t_written t_keptMany t_thrown t_buffered t_size t_at t_behind t_kind t_number t_wrong t_wrongAt t_errorAt t_unused t_writtenMany t_a_ p1 H r4_1 h4_1) (cwV 1 hts gX8_falls_X8_firstPlace rfl rfl rfl hd_X8_firstPlace ⟨Nat.le_of_ble_eq_true rfl, Nat.le_of_ble_eq_true rfl⟩) hC (selP (m9 := [true, true]) rfl rfl hP) 0 rfl (show vwCl[8]? = some (RX8, TX8, 20) from rfl) rfl rfl hl.1 rfl (Nat.le_of_ble_eq_true rfl) dX8_falls_4 ⟨Nat.zero_le _, Nat.zero_le _⟩ rfl ?_
  refine lv_iconst (v := 1) hx hb dX8_falls_7 (by decide) ?_
  refine lv_iadd hx hb dX8_falls_8 ?_
  refine lv_topi (fun y9_3 ey9_3 => ?_)
  have hF := ltE ey9_3 hF
  refine lv_istore_n (lv' := [(3, .int y9_3), (2, .int 0), (0, .ref a_t), (1, .int p1)]) hx hb dX8_falls_9 rfl hl (by decide) rfl (fun ls hl => ?_)
  obtain ⟨k50_5, ek50_5, hF⟩ := jnE hF
  have hk50_5 : ∀ (x2_50_4 : Int32) (ls : Array Slot), lv_has ls 4 [(2, .int x2_50_4)] → k50_5 x2_50_4 = some (r) → W p l e rm_X8_falls s m args below meth c H [] 0 0 Q (F0 m 50 ls []) := by
    subst ek50_5
    intro x2_50_4 ls hl hF
    refine lv_iload_n hx hb dX8_falls_50 rfl (lv_at hl 0 rfl) ?_
    cases hF
    exact rd_iret hx hb hr hlocks dX8_falls_51 rfl hQ
  have hlp10 : ∀ n10 : Nat, ∀ (x2_10_6 : Int32) (x3_10_7 : Int32) (ls : Array Slot), lv_has ls 4 [(0, .ref a_t), (1, .int p1), (2, .int x2_10_6), (3, .int x3_10_7)] → f_X8_falls_10 N t_a_ p1 k50_5 n10 x2_10_6 x3_10_7 = some (r) → W p l e rm_X8_falls s m args below meth c H [] 0 0 Q (F0 m 10 ls []) := by
    intro n10
    induction n10 with
    | zero =>
      intro x2_10_6 x3_10_7 ls hl hF
      cases (show none = some (r) from hF)
    | succ n10 ih10 =>
      intro x2_10_6 x3_10_7 ls hl hF
      rw [f_X8_falls_10] at hF
      refine lv_iload_n hx hb dX8_falls_10 rfl (lv_at hl 3 rfl) ?_
      refine lv_aload_n hx hb dX8_falls_11 rfl (lv_at hl 0 rfl) ?_
      refine lv_iload_n hx hb dX8_falls_12 rfl (lv_at hl 1 rfl) ?_
      refine lv_iconst (v := 1) hx hb dX8_falls_13 (by decide) ?_
      refine lv_iadd hx hb dX8_falls_14 ?_
      obtain ⟨r15_8, h15_8, hF⟩ := bndE hF
      refine rdV (As := [.int (p1 + 1)]) (rest := [.int x3_10_7]) (C := RX8) ⟨hx, hb, hml, hown, hts⟩ (c_X8_firstPlace l D t z x N a_t a_t_a v_t_fresh v_t_aside v_t_kept v_t_buffer v_t_moved v_t_written t_keptMany t_thrown t_buffered t_size t_at t_behind t_kind t_number t_wrong t_wrongAt t_errorAt t_unused t_writtenMany t_a_ (p1 + 1) H r15_8 h15_8) (cwV 1 hts gX8_falls_X8_firstPlace rfl rfl rfl hd_X8_firstPlace ⟨Nat.le_of_ble_eq_true rfl, Nat.le_of_ble_eq_true rfl⟩) hC (selP (m9 := [true, true]) rfl rfl hP) 0 rfl (show vwCl[8]? = some (RX8, TX8, 20) from rfl) rfl rfl hl.1 rfl (Nat.le_of_ble_eq_true rfl) dX8_falls_15 ⟨Nat.zero_le _, Nat.zero_le _⟩ rfl ?_
      refine lv_icmp_ge (tgt := 50) hx hb dX8_falls_18 (by decide) (fun c18 => ?_) (fun c18 => ?_)
      · have hF := brT c18 hF
        exact hk50_5 x2_10_6 ls (lv_sub hl [2] rfl) hF
      · have hF := brF c18 hF
        refine lv_iload_n hx hb dX8_falls_21 rfl (lv_at hl 2 rfl) ?_
        refine lv_aload_n hx hb dX8_falls_22 rfl (lv_at hl 0 rfl) ?_
        refine lv_iload_n hx hb dX8_falls_23 rfl (lv_at hl 3 rfl) ?_
        refine lv_iconst (v := 1) hx hb dX8_falls_24 (by decide) ?_
        refine lv_isub hx hb dX8_falls_25 ?_
        obtain ⟨r26_10, h26_10, hF⟩ := bndE hF
        refine rdV (As := [.int (x3_10_7 - 1)]) (rest := [.int x2_10_6]) (C := RX8) ⟨hx, hb, hml, hown, hts⟩ (c_X8_keyAt l D t z x a_t a_t_a v_t_fresh v_t_aside v_t_kept v_t_buffer v_t_moved v_t_written t_keptMany t_thrown t_buffered t_size t_at t_behind t_kind t_number t_wrong t_wrongAt t_errorAt t_unused t_writtenMany t_a_ (x3_10_7 - 1) H r26_10 h26_10) (cwV 1 hts gX8_falls_X8_keyAt rfl rfl rfl hd_X8_keyAt ⟨Nat.le_of_ble_eq_true rfl, Nat.le_of_ble_eq_true rfl⟩) hC (selP (m9 := [true, true]) rfl rfl hP) 0 rfl (show vwCl[8]? = some (RX8, TX8, 20) from rfl) rfl rfl hl.1 rfl (Nat.le_of_ble_eq_true rfl) dX8_falls_26 ⟨Nat.zero_le _, Nat.zero_le _⟩ rfl ?_
        refine lv_aload_n hx hb dX8_falls_29 rfl (lv_at hl 0 rfl) ?_
        refine lv_iload_n hx hb dX8_falls_30 rfl (lv_at hl 3 rfl) ?_
        obtain ⟨r31_12, h31_12, hF⟩ := bndE hF
        refine rdV (As := [.int x3_10_7]) (rest := [.int r26_10, .int x2_10_6]) (C := RX8) ⟨hx, hb, hml, hown, hts⟩ (c_X8_keyAt l D t z x a_t a_t_a v_t_fresh v_t_aside v_t_kept v_t_buffer v_t_moved v_t_written t_keptMany t_thrown t_buffered t_size t_at t_behind t_kind t_number t_wrong t_wrongAt t_errorAt t_unused t_writtenMany t_a_ x3_10_7 H r31_12 h31_12) (cwV 1 hts gX8_falls_X8_keyAt rfl rfl rfl hd_X8_keyAt ⟨Nat.le_of_ble_eq_true rfl, Nat.le_of_ble_eq_true rfl⟩) hC (selP (m9 := [true, true]) rfl rfl hP) 0 rfl (show vwCl[8]? = some (RX8, TX8, 20) from rfl) rfl rfl hl.1 rfl (Nat.le_of_ble_eq_true rfl) dX8_falls_31 ⟨Nat.zero_le _, Nat.zero_le _⟩ rfl ?_
        refine lv_icmp_le (tgt := 41) hx hb dX8_falls_34 (by decide) (fun c34 => ?_) (fun c34 => ?_)
        · have hF := brT c34 hF
          refine lv_iconst (v := 0) hx hb dX8_falls_41 (by decide) ?_
          refine lv_iadd hx hb dX8_falls_42 ?_
          refine lv_topi (fun y43_14 ey43_14 => ?_)
          have hF := ltE ey43_14 hF
          refine lv_istore_n (lv' := [(2, .int y43_14), (0, .ref a_t), (1, .int p1), (3, .int x3_10_7)]) hx hb dX8_falls_43 rfl hl (by decide) rfl (fun ls hl => ?_)
          obtain ⟨y44_15, ey44_15⟩ : ∃ y : Int32, y = x3_10_7 + 1 := ⟨_, rfl⟩
          have hF := ltE ey44_15 hF
          refine lv_iinc (v := y44_15) (lv' := [(3, .int y44_15), (2, .int y43_14), (0, .ref a_t), (1, .int p1)]) hx hb dX8_falls_44 hl (k := 3) rfl (by rw [ey44_15]; rfl) (by decide) rfl (fun ls hl => ?_)
          refine lv_goto (tgt := 10) hx hb dX8_falls_47 (by decide) ?_
          exact ih10 y43_14 y44_15 ls (lv_sub hl [2, 3, 1, 0] rfl) hF
        · have hF := brF c34 hF
          refine lv_iconst (v := 1) hx hb dX8_falls_37 (by decide) ?_
          refine lv_goto (tgt := 42) hx hb dX8_falls_38 (by decide) ?_
          refine lv_iadd hx hb dX8_falls_42 ?_
          refine lv_topi (fun y43_16 ey43_16 => ?_)
          have hF := ltE ey43_16 hF
          refine lv_istore_n (lv' := [(2, .int y43_16), (0, .ref a_t), (1, .int p1), (3, .int x3_10_7)]) hx hb dX8_falls_43 rfl hl (by decide) rfl (fun ls hl => ?_)
          obtain ⟨y44_17, ey44_17⟩ : ∃ y : Int32, y = x3_10_7 + 1 := ⟨_, rfl⟩
          have hF := ltE ey44_17 hF
          refine lv_iinc (v := y44_17) (lv' := [(3, .int y44_17), (2, .int y43_16), (0, .ref a_t), (1, .int p1)]) hx hb dX8_falls_44 hl (k := 3) rfl (by rw [ey44_17]; rfl) (by decide) rfl (fun ls hl => ?_)
          refine lv_goto (tgt := 10) hx hb dX8_falls_47 (by decide) ?_
          exact ih10 y43_16 y44_17 ls (lv_sub hl [2, 3, 1, 0] rfl) hF
  exact hlp10 N 0 y9_3 ls (lv_sub hl [2, 3, 1, 0] rfl) hF
abbrev rm_X8_piece : Room := { frames := 3, cells := 0, slots := 0, locals := 68 }
theorem hd_X8_piece : yX8_piece.cls = RX8 ∧ yX8_piece.cls ≠ "java/lang/invoke/MethodHandle" ∧ yX8_piece.cls ≠ "java/lang/invoke/VarHandle" ∧ (parseMethodDescriptor yX8_piece.desc).map (fun d => d.parameters.length) = some 2 := by decide +kernel
set_option maxRecDepth 100000 in
set_option maxHeartbeats 4000000 in
theorem c_X8_piece (l : Launch) (D : va_G) (t : Nat → ClassId) (z : Nat) (x : Nat → Nat) (N : Nat) (a_t : Nat) (a_t_a : Nat) (v_t_fresh : Value) (v_t_aside : Value) (v_t_kept : Value) (v_t_buffer : Value) (v_t_moved : Value) (v_t_written : Value) (t_keptMany : Int32) (t_thrown : Int32) (t_buffered : Int32) (t_size : Int32) (t_at : Int32) (t_behind : Int32) (t_kind : Int32) (t_number : Int32) (t_wrong : Int32) (t_wrongAt : Int32) (t_errorAt : Int32) (t_unused : Int32) (t_writtenMany : Int32) (t_a_ : (Nat → Int32)) (p1 : Int32) (p2 : Int32) (sz : Nat) (r : Int32) (t_thrown' : Int32) (hF : f_X8_piece N t_a_ p1 p2 = some (r, t_thrown')) : WrM l D (TY t) z x yX8_piece wsX8_piece rm_X8_piece [.ref a_t, .int p1, .int p2] [(a_t, .inr (8, [.ref a_t_a, v_t_fresh, v_t_aside, v_t_kept, .int t_keptMany, .int t_thrown, v_t_buffer, .int t_buffered, .int t_size, .int t_at, .int t_behind, .int t_kind, .int t_number, .int t_wrong, .int t_wrongAt, .int t_errorAt, v_t_moved, .int t_unused, v_t_written, .int t_writtenMany])), (a_t_a, .inl (t 0, 876, .inl t_a_))] [(a_t, .inr (8, [.ref a_t_a, v_t_fresh, v_t_aside, v_t_kept, .int t_keptMany, .int t_thrown', v_t_buffer, .int t_buffered, .int t_size, .int t_at, .int t_behind, .int t_kind, .int t_number, .int t_wrong, .int t_wrongAt, .int t_errorAt, v_t_moved, .int t_unused, v_t_written, .int t_writtenMany])), (a_t_a, .inl (t 0, 876, .inl t_a_))] sz (some (.int r)) 0 0 := by
  refine wr_of (cc := cX8_piece) (maxL := 3) (ret := (some .int)) (by decide) rfl (Nat.le_of_ble_eq_true rfl) ?_
  intro p e s m args below meth c A Q hQ hx hb hr hml hts hown hlocks hin H locs hP hD hS hA hz hC ls hl
  have hown : s.vm.findClass RX8 = some m.cls := hown
  have hl : lv_has ls 3 [(0, .ref a_t), (1, .int p1), (2, .int p2)] := hl
  have hK := hC.1
  have iw8 : ∀ w ∈ wsX80, w ∈ wsX8_piece := fun _ h => List.mem_cons_of_mem _ (List.mem_append_right _ h)
  have hf45 := hts (.fieldLink RX8 45 "CrackedColumnModel" "thrown" "I") (by decide +kernel)
  unfold f_X8_piece at hF
  refine lv_aload_n hx hb dX8_piece_0 rfl (lv_at hl 0 rfl) ?_
  refine lv_aload_n hx hb dX8_piece_1 rfl (lv_at hl 0 rfl) ?_
  refine lv_iload_n hx hb dX8_piece_2 rfl (lv_at hl 1 rfl) ?_
  obtain ⟨r3_1, h3_1, hF⟩ := bndE hF
  refine rdV (As := [.int p1]) (rest := [.ref a_t]) (C := RX8) ⟨hx, hb, hml, hown, hts⟩ (c_X8_isPiece l D t z x a_t a_t_a v_t_fresh v_t_aside v_t_kept v_t_buffer v_t_moved v_t_written t_keptMany t_thrown t_buffered t_size t_at t_behind t_kind t_number t_wrong t_wrongAt t_errorAt t_unused t_writtenMany t_a_ p1 H r3_1 h3_1) (cwV 1 hts gX8_piece_X8_isPiece rfl rfl rfl hd_X8_isPiece ⟨Nat.le_of_ble_eq_true rfl, Nat.le_of_ble_eq_true rfl⟩) (hC.at hz hS) (selP (m9 := [true, true]) rfl rfl hP) 0 rfl (show vwCl[8]? = some (RX8, TX8, 20) from rfl) rfl rfl hl.1 rfl (Nat.le_of_ble_eq_true rfl) dX8_piece_3 ⟨Nat.zero_le _, Nat.zero_le _⟩ rfl ?_
  obtain ⟨k27_4, ek27_4, hF⟩ := jnE hF
  have hk27_4 : ∀ (s0_27_3 : Int32) (H : Heap) (locs : List Loc) (ls : Array Slot), va_P D vwCl [(a_t, .inr (8, [.ref a_t_a, v_t_fresh, v_t_aside, v_t_kept, .int t_keptMany, .int t_thrown, v_t_buffer, .int t_buffered, .int t_size, .int t_at, .int t_behind, .int t_kind, .int t_number, .int t_wrong, .int t_wrongAt, .int t_errorAt, v_t_moved, .int t_unused, v_t_written, .int t_writtenMany])), (a_t_a, .inl (t 0, 876, .inl t_a_))] H → va_D A [(a_t, .inr (8, [.ref a_t_a, v_t_fresh, v_t_aside, v_t_kept, .int t_keptMany, .int t_thrown, v_t_buffer, .int t_buffered, .int t_size, .int t_at, .int t_behind, .int t_kind, .int t_number, .int t_wrong, .int t_wrongAt, .int t_errorAt, v_t_moved, .int t_unused, v_t_written, .int t_writtenMany])), (a_t_a, .inl (t 0, 876, .inl t_a_))] → va_S A s.heap H locs → lv_has ls 3 [(0, .ref a_t), (1, .int p1), (2, .int p2)] → k27_4 s0_27_3 = some (r, t_thrown') → W p l e rm_X8_piece s m args below meth c H locs 0 0 Q (F0 m 27 ls [.int s0_27_3, .ref a_t]) := by
    subst ek27_4
    intro s0_27_3 H locs ls hP hD hS hl hF
    refine my_put (ty := .int) (v := .int s0_27_3) (ci := 8) (C := RX8) (T := TX8) (N := 20) (wn := [(a_t, .inr (8, [.ref a_t_a, v_t_fresh, v_t_aside, v_t_kept, .int t_keptMany, .int s0_27_3, v_t_buffer, .int t_buffered, .int t_size, .int t_at, .int t_behind, .int t_kind, .int t_number, .int t_wrong, .int t_wrongAt, .int t_errorAt, v_t_moved, .int t_unused, v_t_written, .int t_writtenMany])), (a_t_a, .inl (t 0, 876, .inl t_a_))]) hx hb hts iw8 tyX8 tyX8_ok nmX8 hown hK hP hD hS 0 rfl rfl 5 (by decide) hf45 (fun _ h9 => h9) rfl (by decide +kernel) rfl rfl (Nat.le_of_ble_eq_true rfl) rfl dX8_piece_27 (fun H locs hP hD hS => ?_)
    refine lv_aload_n hx hb dX8_piece_30 rfl (lv_at hl 0 rfl) ?_
    refine va_get (D := D) (ci := 8) (v := .int s0_27_3) (C := RX8) (T := TX8) (N := 20) hx hb hts iw8 hown hK hP 0 rfl rfl 5 (by decide) hf45 (fun _ h9 => h9) rfl dX8_piece_31 ?_
    refine lv_if_le (tgt := 39) hx hb dX8_piece_34 (by decide) (fun c34 => ?_) (fun c34 => ?_)
    · have hF := brT c34 hF
      refine lv_iload_n hx hb dX8_piece_39 rfl (lv_at hl 2 rfl) ?_
      by_cases c40_0 : p2 = 0
      · have hF := brT c40_0 hF
        refine lv_tableIn (tgt := 76) hx hb dX8_piece_40 (by rw [c40_0]; decide) (by rw [c40_0]; decide) (by rw [c40_0]; rfl) (by decide) ?_
        refine lv_aload_n hx hb dX8_piece_76 rfl (lv_at hl 0 rfl) ?_
        refine lv_iload_n hx hb dX8_piece_77 rfl (lv_at hl 1 rfl) ?_
        refine lv_iconst (v := 0) hx hb dX8_piece_78 (by decide) ?_
        obtain ⟨r79_5, h79_5, hF⟩ := bndE hF
        refine rdV (As := [.int p1, .int 0]) (rest := []) (C := RX8) ⟨hx, hb, hml, hown, hts⟩ (c_X8_of l D t z x a_t a_t_a v_t_fresh v_t_aside v_t_kept v_t_buffer v_t_moved v_t_written t_keptMany s0_27_3 t_buffered t_size t_at t_behind t_kind t_number t_wrong t_wrongAt t_errorAt t_unused t_writtenMany t_a_ p1 0 H r79_5 h79_5) (cwV 2 hts gX8_piece_X8_of rfl rfl rfl hd_X8_of ⟨Nat.le_of_ble_eq_true rfl, Nat.le_of_ble_eq_true rfl⟩) (hC.at hz hS) (selP (m9 := [true, true]) rfl rfl hP) 0 rfl (show vwCl[8]? = some (RX8, TX8, 20) from rfl) rfl rfl hl.1 rfl (Nat.le_of_ble_eq_true rfl) dX8_piece_79 ⟨Nat.zero_le _, Nat.zero_le _⟩ rfl ?_
        cases hF
        exact we_iret hx hb hr hlocks dX8_piece_82 rfl hQ hP hD hS
      have hF := brF c40_0 hF
      by_cases c40_1 : p2 = 1
      · have hF := brT c40_1 hF
        refine lv_tableIn (tgt := 83) hx hb dX8_piece_40 (by rw [c40_1]; decide) (by rw [c40_1]; decide) (by rw [c40_1]; rfl) (by decide) ?_
        refine lv_aload_n hx hb dX8_piece_83 rfl (lv_at hl 0 rfl) ?_
        refine lv_iload_n hx hb dX8_piece_84 rfl (lv_at hl 1 rfl) ?_
        obtain ⟨r85_7, h85_7, hF⟩ := bndE hF
        refine rdV (As := [.int p1]) (rest := []) (C := RX8) ⟨hx, hb, hml, hown, hts⟩ (c_X8_firstPlace l D t z x N a_t a_t_a v_t_fresh v_t_aside v_t_kept v_t_buffer v_t_moved v_t_written t_keptMany s0_27_3 t_buffered t_size t_at t_behind t_kind t_number t_wrong t_wrongAt t_errorAt t_unused t_writtenMany t_a_ p1 H r85_7 h85_7) (cwV 1 hts gX8_piece_X8_firstPlace rfl rfl rfl hd_X8_firstPlace ⟨Nat.le_of_ble_eq_true rfl, Nat.le_of_ble_eq_true rfl⟩) (hC.at hz hS) (selP (m9 := [true, true]) rfl rfl hP) 0 rfl (show vwCl[8]? = some (RX8, TX8, 20) from rfl) rfl rfl hl.1 rfl (Nat.le_of_ble_eq_true rfl) dX8_piece_85 ⟨Nat.zero_le _, Nat.zero_le _⟩ rfl ?_
        cases hF
        exact we_iret hx hb hr hlocks dX8_piece_88 rfl hQ hP hD hS
      have hF := brF c40_1 hF
      by_cases c40_2 : p2 = 2
      · have hF := brT c40_2 hF
        refine lv_tableIn (tgt := 89) hx hb dX8_piece_40 (by rw [c40_2]; decide) (by rw [c40_2]; decide) (by rw [c40_2]; rfl) (by decide) ?_
        refine lv_aload_n hx hb dX8_piece_89 rfl (lv_at hl 0 rfl) ?_
        refine lv_iload_n hx hb dX8_piece_90 rfl (lv_at hl 1 rfl) ?_
        refine lv_iconst (v := 1) hx hb dX8_piece_91 (by decide) ?_
        obtain ⟨r92_9, h92_9, hF⟩ := bndE hF
        refine rdV (As := [.int p1, .int 1]) (rest := []) (C := RX8) ⟨hx, hb, hml, hown, hts⟩ (c_X8_of l D t z x a_t a_t_a v_t_fresh v_t_aside v_t_kept v_t_buffer v_t_moved v_t_written t_keptMany s0_27_3 t_buffered t_size t_at t_behind t_kind t_number t_wrong t_wrongAt t_errorAt t_unused t_writtenMany t_a_ p1 1 H r92_9 h92_9) (cwV 2 hts gX8_piece_X8_of rfl rfl rfl hd_X8_of ⟨Nat.le_of_ble_eq_true rfl, Nat.le_of_ble_eq_true rfl⟩) (hC.at hz hS) (selP (m9 := [true, true]) rfl rfl hP) 0 rfl (show vwCl[8]? = some (RX8, TX8, 20) from rfl) rfl rfl hl.1 rfl (Nat.le_of_ble_eq_true rfl) dX8_piece_92 ⟨Nat.zero_le _, Nat.zero_le _⟩ rfl ?_
        cases hF
        exact we_iret hx hb hr hlocks dX8_piece_95 rfl hQ hP hD hS
      have hF := brF c40_2 hF
      by_cases c40_3 : p2 = 3
      · have hF := brT c40_3 hF
        refine lv_tableIn (tgt := 96) hx hb dX8_piece_40 (by rw [c40_3]; decide) (by rw [c40_3]; decide) (by rw [c40_3]; rfl) (by decide) ?_
        refine lv_aload_n hx hb dX8_piece_96 rfl (lv_at hl 0 rfl) ?_
        refine lv_iload_n hx hb dX8_piece_97 rfl (lv_at hl 1 rfl) ?_
        refine lv_iconst (v := 2) hx hb dX8_piece_98 (by decide) ?_
        obtain ⟨r99_11, h99_11, hF⟩ := bndE hF
        refine rdV (As := [.int p1, .int 2]) (rest := []) (C := RX8) ⟨hx, hb, hml, hown, hts⟩ (c_X8_of l D t z x a_t a_t_a v_t_fresh v_t_aside v_t_kept v_t_buffer v_t_moved v_t_written t_keptMany s0_27_3 t_buffered t_size t_at t_behind t_kind t_number t_wrong t_wrongAt t_errorAt t_unused t_writtenMany t_a_ p1 2 H r99_11 h99_11) (cwV 2 hts gX8_piece_X8_of rfl rfl rfl hd_X8_of ⟨Nat.le_of_ble_eq_true rfl, Nat.le_of_ble_eq_true rfl⟩) (hC.at hz hS) (selP (m9 := [true, true]) rfl rfl hP) 0 rfl (show vwCl[8]? = some (RX8, TX8, 20) from rfl) rfl rfl hl.1 rfl (Nat.le_of_ble_eq_true rfl) dX8_piece_99 ⟨Nat.zero_le _, Nat.zero_le _⟩ rfl ?_
        cases hF
        exact we_iret hx hb hr hlocks dX8_piece_102 rfl hQ hP hD hS
      have hF := brF c40_3 hF
      by_cases c40_4 : p2 = 4
      · have hF := brT c40_4 hF
        refine lv_tableIn (tgt := 103) hx hb dX8_piece_40 (by rw [c40_4]; decide) (by rw [c40_4]; decide) (by rw [c40_4]; rfl) (by decide) ?_
        refine lv_aload_n hx hb dX8_piece_103 rfl (lv_at hl 0 rfl) ?_
        refine lv_iload_n hx hb dX8_piece_104 rfl (lv_at hl 1 rfl) ?_
        refine lv_iconst (v := 3) hx hb dX8_piece_105 (by decide) ?_
        obtain ⟨r106_13, h106_13, hF⟩ := bndE hF
        refine rdV (As := [.int p1, .int 3]) (rest := []) (C := RX8) ⟨hx, hb, hml, hown, hts⟩ (c_X8_of l D t z x a_t a_t_a v_t_fresh v_t_aside v_t_kept v_t_buffer v_t_moved v_t_written t_keptMany s0_27_3 t_buffered t_size t_at t_behind t_kind t_number t_wrong t_wrongAt t_errorAt t_unused t_writtenMany t_a_ p1 3 H r106_13 h106_13) (cwV 2 hts gX8_piece_X8_of rfl rfl rfl hd_X8_of ⟨Nat.le_of_ble_eq_true rfl, Nat.le_of_ble_eq_true rfl⟩) (hC.at hz hS) (selP (m9 := [true, true]) rfl rfl hP) 0 rfl (show vwCl[8]? = some (RX8, TX8, 20) from rfl) rfl rfl hl.1 rfl (Nat.le_of_ble_eq_true rfl) dX8_piece_106 ⟨Nat.zero_le _, Nat.zero_le _⟩ rfl ?_
        cases hF
        exact we_iret hx hb hr hlocks dX8_piece_109 rfl hQ hP hD hS
      have hF := brF c40_4 hF
      refine lv_tableOut (tgt := 110) hx hb dX8_piece_40 (swOut0_4 c40_0 c40_1 c40_2 c40_3 c40_4) (by decide) ?_
      refine lv_aload_n hx hb dX8_piece_110 rfl (lv_at hl 0 rfl) ?_
      refine lv_iload_n hx hb dX8_piece_111 rfl (lv_at hl 1 rfl) ?_
      obtain ⟨r112_15, h112_15, hF⟩ := bndE hF
      refine rdV (As := [.int p1]) (rest := []) (C := RX8) ⟨hx, hb, hml, hown, hts⟩ (c_X8_falls l D t z x N a_t a_t_a v_t_fresh v_t_aside v_t_kept v_t_buffer v_t_moved v_t_written t_keptMany s0_27_3 t_buffered t_size t_at t_behind t_kind t_number t_wrong t_wrongAt t_errorAt t_unused t_writtenMany t_a_ p1 H r112_15 h112_15) (cwV 1 hts gX8_piece_X8_falls rfl rfl rfl hd_X8_falls ⟨Nat.le_of_ble_eq_true rfl, Nat.le_of_ble_eq_true rfl⟩) (hC.at hz hS) (selP (m9 := [true, true]) rfl rfl hP) 0 rfl (show vwCl[8]? = some (RX8, TX8, 20) from rfl) rfl rfl hl.1 rfl (Nat.le_of_ble_eq_true rfl) dX8_piece_112 ⟨Nat.zero_le _, Nat.zero_le _⟩ rfl ?_
      cases hF
      exact we_iret hx hb hr hlocks dX8_piece_115 rfl hQ hP hD hS
    · have hF := brF c34 hF
      refine lv_iconst (v := 0) hx hb dX8_piece_37 (by decide) ?_
      cases hF
      exact we_iret hx hb hr hlocks dX8_piece_38 rfl hQ hP hD hS
  refine lv_if_ne (tgt := 13) hx hb dX8_piece_6 (by decide) (fun c6 => ?_) (fun c6 => ?_)
  · have hF := brF c6 hF
    refine lv_iload_n hx hb dX8_piece_13 rfl (lv_at hl 2 rfl) ?_
    refine lv_iconst (v := 0) hx hb dX8_piece_14 (by decide) ?_
    refine lv_iconst (v := 5) hx hb dX8_piece_15 (by decide) ?_
    obtain ⟨r16_17, h16_17, hF⟩ := bndE hF
    refine rdS (As := [.int p2, .int 0, .int 5]) (rest := [.ref a_t]) ⟨hx, hb, hml, hown, hts⟩ (c_X8_isIn l D t z x p2 0 5 H r16_17 h16_17) (va_cwS 3 hts gX8_piece_X8_isIn rfl rfl rfl hd_X8_isIn.2 ⟨Nat.le_of_ble_eq_true rfl, Nat.le_of_ble_eq_true rfl⟩) (hC.at hz hS) (selP (m9 := [false, false]) rfl rfl hP) rfl hl.1 rfl (Nat.le_of_ble_eq_true rfl) dX8_piece_16 ⟨Nat.zero_le _, Nat.zero_le _⟩ rfl ?_
    refine lv_if_eq (tgt := 26) hx hb dX8_piece_19 (by decide) (fun c19 => ?_) (fun c19 => ?_)
    · have hF := brT c19 hF
      refine lv_iconst (v := 2) hx hb dX8_piece_26 (by decide) ?_
      exact hk27_4 2 H locs ls hP hD hS hl hF
    · have hF := brF c19 hF
      refine lv_iconst (v := 0) hx hb dX8_piece_22 (by decide) ?_
      refine lv_goto (tgt := 27) hx hb dX8_piece_23 (by decide) ?_
      exact hk27_4 0 H locs ls hP hD hS hl hF
  · have hF := brT c6 hF
    refine lv_iconst (v := 1) hx hb dX8_piece_9 (by decide) ?_
    refine lv_goto (tgt := 27) hx hb dX8_piece_10 (by decide) ?_
    exact hk27_4 1 H locs ls hP hD hS hl hF
abbrev rm_X8_pieceOf : Room := { frames := 2, cells := 0, slots := 0, locals := 44 }
theorem hd_X8_pieceOf : yX8_pieceOf.cls = RX8 ∧ yX8_pieceOf.cls ≠ "java/lang/invoke/MethodHandle" ∧ yX8_pieceOf.cls ≠ "java/lang/invoke/VarHandle" ∧ (parseMethodDescriptor yX8_pieceOf.desc).map (fun d => d.parameters.length) = some 1 := by decide +kernel
set_option maxRecDepth 100000 in
set_option maxHeartbeats 4000000 in
theorem c_X8_pieceOf (l : Launch) (D : va_G) (t : Nat → ClassId) (z : Nat) (x : Nat → Nat) (N : Nat) (a_t : Nat) (a_t_a : Nat) (v_t_fresh : Value) (v_t_aside : Value) (v_t_kept : Value) (v_t_buffer : Value) (v_t_moved : Value) (v_t_written : Value) (t_keptMany : Int32) (t_thrown : Int32) (t_buffered : Int32) (t_size : Int32) (t_at : Int32) (t_behind : Int32) (t_kind : Int32) (t_number : Int32) (t_wrong : Int32) (t_wrongAt : Int32) (t_errorAt : Int32) (t_unused : Int32) (t_writtenMany : Int32) (t_a_ : (Nat → Int32)) (p1 : Int32) (sz : Nat) (r : Int32) (t_thrown' : Int32) (hF : f_X8_pieceOf N t_a_ p1 = some (r, t_thrown')) : WrM l D (TY t) z x yX8_pieceOf wsX8_pieceOf rm_X8_pieceOf [.ref a_t, .int p1] [(a_t, .inr (8, [.ref a_t_a, v_t_fresh, v_t_aside, v_t_kept, .int t_keptMany, .int t_thrown, v_t_buffer, .int t_buffered, .int t_size, .int t_at, .int t_behind, .int t_kind, .int t_number, .int t_wrong, .int t_wrongAt, .int t_errorAt, v_t_moved, .int t_unused, v_t_written, .int t_writtenMany])), (a_t_a, .inl (t 0, 876, .inl t_a_))] [(a_t, .inr (8, [.ref a_t_a, v_t_fresh, v_t_aside, v_t_kept, .int t_keptMany, .int t_thrown', v_t_buffer, .int t_buffered, .int t_size, .int t_at, .int t_behind, .int t_kind, .int t_number, .int t_wrong, .int t_wrongAt, .int t_errorAt, v_t_moved, .int t_unused, v_t_written, .int t_writtenMany])), (a_t_a, .inl (t 0, 876, .inl t_a_))] sz (some (.int r)) 0 0 := by
  refine wr_of (cc := cX8_pieceOf) (maxL := 2) (ret := (some .int)) (by decide) rfl (Nat.le_of_ble_eq_true rfl) ?_
  intro p e s m args below meth c A Q hQ hx hb hr hml hts hown hlocks hin H locs hP hD hS hA hz hC ls hl
  have hown : s.vm.findClass RX8 = some m.cls := hown
  have hl : lv_has ls 2 [(0, .ref a_t), (1, .int p1)] := hl
  have hK := hC.1
  have iw8 : ∀ w ∈ wsX80, w ∈ wsX8_pieceOf := fun _ h => List.mem_cons_of_mem _ (List.mem_append_right _ h)
  have hf45 := hts (.fieldLink RX8 45 "CrackedColumnModel" "thrown" "I") (by decide +kernel)
  unfold f_X8_pieceOf at hF
  refine lv_aload_n hx hb dX8_pieceOf_0 rfl (lv_at hl 0 rfl) ?_
  refine lv_iload_n hx hb dX8_pieceOf_1 rfl (lv_at hl 1 rfl) ?_
  refine lv_iconst (v := 0) hx hb dX8_pieceOf_2 (by decide) ?_
  refine lv_sipush (v := 9999) hx hb dX8_pieceOf_3 (by decide) ?_
  obtain ⟨r6_1, h6_1, hF⟩ := bndE hF
  refine rdS (As := [.int p1, .int 0, .int 9999]) (rest := [.ref a_t]) ⟨hx, hb, hml, hown, hts⟩ (c_X8_isIn l D t z x p1 0 9999 H r6_1 h6_1) (va_cwS 3 hts gX8_pieceOf_X8_isIn rfl rfl rfl hd_X8_isIn.2 ⟨Nat.le_of_ble_eq_true rfl, Nat.le_of_ble_eq_true rfl⟩) (hC.at hz hS) (selP (m9 := [false, false]) rfl rfl hP) rfl hl.1 rfl (Nat.le_of_ble_eq_true rfl) dX8_pieceOf_6 ⟨Nat.zero_le _, Nat.zero_le _⟩ rfl ?_
  obtain ⟨k17_4, ek17_4, hF⟩ := jnE hF
  have hk17_4 : ∀ (s0_17_3 : Int32) (H : Heap) (locs : List Loc) (ls : Array Slot), va_P D vwCl [(a_t, .inr (8, [.ref a_t_a, v_t_fresh, v_t_aside, v_t_kept, .int t_keptMany, .int t_thrown, v_t_buffer, .int t_buffered, .int t_size, .int t_at, .int t_behind, .int t_kind, .int t_number, .int t_wrong, .int t_wrongAt, .int t_errorAt, v_t_moved, .int t_unused, v_t_written, .int t_writtenMany])), (a_t_a, .inl (t 0, 876, .inl t_a_))] H → va_D A [(a_t, .inr (8, [.ref a_t_a, v_t_fresh, v_t_aside, v_t_kept, .int t_keptMany, .int t_thrown, v_t_buffer, .int t_buffered, .int t_size, .int t_at, .int t_behind, .int t_kind, .int t_number, .int t_wrong, .int t_wrongAt, .int t_errorAt, v_t_moved, .int t_unused, v_t_written, .int t_writtenMany])), (a_t_a, .inl (t 0, 876, .inl t_a_))] → va_S A s.heap H locs → lv_has ls 2 [(0, .ref a_t), (1, .int p1)] → k17_4 s0_17_3 = some (r, t_thrown') → W p l e rm_X8_pieceOf s m args below meth c H locs 0 0 Q (F0 m 17 ls [.int s0_17_3, .ref a_t]) := by
    subst ek17_4
    intro s0_17_3 H locs ls hP hD hS hl hF
    refine my_put (ty := .int) (v := .int s0_17_3) (ci := 8) (C := RX8) (T := TX8) (N := 20) (wn := [(a_t, .inr (8, [.ref a_t_a, v_t_fresh, v_t_aside, v_t_kept, .int t_keptMany, .int s0_17_3, v_t_buffer, .int t_buffered, .int t_size, .int t_at, .int t_behind, .int t_kind, .int t_number, .int t_wrong, .int t_wrongAt, .int t_errorAt, v_t_moved, .int t_unused, v_t_written, .int t_writtenMany])), (a_t_a, .inl (t 0, 876, .inl t_a_))]) hx hb hts iw8 tyX8 tyX8_ok nmX8 hown hK hP hD hS 0 rfl rfl 5 (by decide) hf45 (fun _ h9 => h9) rfl (by decide +kernel) rfl rfl (Nat.le_of_ble_eq_true rfl) rfl dX8_pieceOf_17 (fun H locs hP hD hS => ?_)
    refine lv_aload_n hx hb dX8_pieceOf_20 rfl (lv_at hl 0 rfl) ?_
    refine va_get (D := D) (ci := 8) (v := .int s0_17_3) (C := RX8) (T := TX8) (N := 20) hx hb hts iw8 hown hK hP 0 rfl rfl 5 (by decide) hf45 (fun _ h9 => h9) rfl dX8_pieceOf_21 ?_
    refine lv_if_le (tgt := 31) hx hb dX8_pieceOf_24 (by decide) (fun c24 => ?_) (fun c24 => ?_)
    · have hF := brT c24 hF
      refine lv_aload_n hx hb dX8_pieceOf_31 rfl (lv_at hl 0 rfl) ?_
      refine lv_iload_n hx hb dX8_pieceOf_32 rfl (lv_at hl 1 rfl) ?_
      obtain ⟨r33_5, h33_5, hF⟩ := bndE hF
      refine rdV (As := [.int p1]) (rest := []) (C := RX8) ⟨hx, hb, hml, hown, hts⟩ (c_X8_lastPiece l D t z x N a_t a_t_a v_t_fresh v_t_aside v_t_kept v_t_buffer v_t_moved v_t_written t_keptMany s0_17_3 t_buffered t_size t_at t_behind t_kind t_number t_wrong t_wrongAt t_errorAt t_unused t_writtenMany t_a_ p1 H r33_5 h33_5) (cwV 1 hts gX8_pieceOf_X8_lastPiece rfl rfl rfl hd_X8_lastPiece ⟨Nat.le_of_ble_eq_true rfl, Nat.le_of_ble_eq_true rfl⟩) (hC.at hz hS) (selP (m9 := [true, true]) rfl rfl hP) 0 rfl (show vwCl[8]? = some (RX8, TX8, 20) from rfl) rfl rfl hl.1 rfl (Nat.le_of_ble_eq_true rfl) dX8_pieceOf_33 ⟨Nat.zero_le _, Nat.zero_le _⟩ rfl ?_
      cases hF
      exact we_iret hx hb hr hlocks dX8_pieceOf_36 rfl hQ hP hD hS
    · have hF := brF c24 hF
      refine lv_iconst (v := 0) hx hb dX8_pieceOf_27 (by decide) ?_
      refine lv_goto (tgt := 36) hx hb dX8_pieceOf_28 (by decide) ?_
      cases hF
      exact we_iret hx hb hr hlocks dX8_pieceOf_36 rfl hQ hP hD hS
  refine lv_if_eq (tgt := 16) hx hb dX8_pieceOf_9 (by decide) (fun c9 => ?_) (fun c9 => ?_)
  · have hF := brT c9 hF
    refine lv_iconst (v := 1) hx hb dX8_pieceOf_16 (by decide) ?_
    exact hk17_4 1 H locs ls hP hD hS hl hF
  · have hF := brF c9 hF
    refine lv_iconst (v := 0) hx hb dX8_pieceOf_12 (by decide) ?_
    refine lv_goto (tgt := 17) hx hb dX8_pieceOf_13 (by decide) ?_
    exact hk17_4 0 H locs ls hP hD hS hl hF
abbrev rm_X8_pending : Room := { frames := 1, cells := 0, slots := 0, locals := 22 }
theorem hd_X8_pending : yX8_pending.cls = RX8 ∧ yX8_pending.cls ≠ "java/lang/invoke/MethodHandle" ∧ yX8_pending.cls ≠ "java/lang/invoke/VarHandle" ∧ (parseMethodDescriptor yX8_pending.desc).map (fun d => d.parameters.length) = some 1 := by decide +kernel
set_option maxRecDepth 100000 in
set_option maxHeartbeats 4000000 in
theorem c_X8_pending (l : Launch) (D : va_G) (t : Nat → ClassId) (z : Nat) (x : Nat → Nat) (a_t : Nat) (a_t_a : Nat) (v_t_fresh : Value) (v_t_aside : Value) (v_t_kept : Value) (v_t_buffer : Value) (v_t_moved : Value) (v_t_written : Value) (t_keptMany : Int32) (t_thrown : Int32) (t_buffered : Int32) (t_size : Int32) (t_at : Int32) (t_behind : Int32) (t_kind : Int32) (t_number : Int32) (t_wrong : Int32) (t_wrongAt : Int32) (t_errorAt : Int32) (t_unused : Int32) (t_writtenMany : Int32) (t_a_ : (Nat → Int32)) (p1 : Int32) (sz : Nat) (r : Int32) (t_thrown' : Int32) (hF : f_X8_pending t_a_ p1 = some (r, t_thrown')) : WrM l D (TY t) z x yX8_pending wsX8_pending rm_X8_pending [.ref a_t, .int p1] [(a_t, .inr (8, [.ref a_t_a, v_t_fresh, v_t_aside, v_t_kept, .int t_keptMany, .int t_thrown, v_t_buffer, .int t_buffered, .int t_size, .int t_at, .int t_behind, .int t_kind, .int t_number, .int t_wrong, .int t_wrongAt, .int t_errorAt, v_t_moved, .int t_unused, v_t_written, .int t_writtenMany])), (a_t_a, .inl (t 0, 876, .inl t_a_))] [(a_t, .inr (8, [.ref a_t_a, v_t_fresh, v_t_aside, v_t_kept, .int t_keptMany, .int t_thrown', v_t_buffer, .int t_buffered, .int t_size, .int t_at, .int t_behind, .int t_kind, .int t_number, .int t_wrong, .int t_wrongAt, .int t_errorAt, v_t_moved, .int t_unused, v_t_written, .int t_writtenMany])), (a_t_a, .inl (t 0, 876, .inl t_a_))] sz (some (.int r)) 0 0 := by
  refine wr_of (cc := cX8_pending) (maxL := 2) (ret := (some .int)) (by decide) rfl (Nat.le_of_ble_eq_true rfl) ?_
  intro p e s m args below meth c A Q hQ hx hb hr hml hts hown hlocks hin H locs hP hD hS hA hz hC ls hl
  have hown : s.vm.findClass RX8 = some m.cls := hown
  have hl : lv_has ls 2 [(0, .ref a_t), (1, .int p1)] := hl
  have hK := hC.1
  have iw8 : ∀ w ∈ wsX80, w ∈ wsX8_pending := fun _ h => List.mem_cons_of_mem _ (List.mem_append_right _ h)
  have hf7 := hts (.fieldLink RX8 7 "CrackedColumnModel" "a" "[I") (by decide +kernel)
  have hf45 := hts (.fieldLink RX8 45 "CrackedColumnModel" "thrown" "I") (by decide +kernel)
  unfold f_X8_pending at hF
  refine lv_aload_n hx hb dX8_pending_0 rfl (lv_at hl 0 rfl) ?_
  refine lv_iload_n hx hb dX8_pending_1 rfl (lv_at hl 1 rfl) ?_
  refine lv_iconst (v := 0) hx hb dX8_pending_2 (by decide) ?_
  refine lv_aload_n hx hb dX8_pending_3 rfl (lv_at hl 0 rfl) ?_
  refine va_get (D := D) (ci := 8) (v := .ref a_t_a) (C := RX8) (T := TX8) (N := 20) hx hb hts iw8 hown hK hP 0 rfl rfl 0 (by decide) hf7 (fun _ h9 => h9) rfl dX8_pending_4 ?_
  refine lv_iconst (v := 2) hx hb dX8_pending_7 (by decide) ?_
  refine my_iald (v := t_a_ 2) hx hb hK hP 1 0 rfl rfl (vp_lit (by decide +kernel)) rfl dX8_pending_8 ?_
  refine lv_iconst (v := 1) hx hb dX8_pending_9 (by decide) ?_
  refine lv_isub hx hb dX8_pending_10 ?_
  obtain ⟨r11_1, h11_1, hF⟩ := bndE hF
  refine rdS (As := [.int p1, .int 0, .int ((t_a_ 2) - 1)]) (rest := [.ref a_t]) ⟨hx, hb, hml, hown, hts⟩ (c_X8_isIn l D t z x p1 0 ((t_a_ 2) - 1) H r11_1 h11_1) (va_cwS 3 hts gX8_pending_X8_isIn rfl rfl rfl hd_X8_isIn.2 ⟨Nat.le_of_ble_eq_true rfl, Nat.le_of_ble_eq_true rfl⟩) (hC.at hz hS) (selP (m9 := [false, false]) rfl rfl hP) rfl hl.1 rfl (Nat.le_of_ble_eq_true rfl) dX8_pending_11 ⟨Nat.zero_le _, Nat.zero_le _⟩ rfl ?_
  obtain ⟨k22_4, ek22_4, hF⟩ := jnE hF
  have hk22_4 : ∀ (s0_22_3 : Int32) (H : Heap) (locs : List Loc) (ls : Array Slot), va_P D vwCl [(a_t, .inr (8, [.ref a_t_a, v_t_fresh, v_t_aside, v_t_kept, .int t_keptMany, .int t_thrown, v_t_buffer, .int t_buffered, .int t_size, .int t_at, .int t_behind, .int t_kind, .int t_number, .int t_wrong, .int t_wrongAt, .int t_errorAt, v_t_moved, .int t_unused, v_t_written, .int t_writtenMany])), (a_t_a, .inl (t 0, 876, .inl t_a_))] H → va_D A [(a_t, .inr (8, [.ref a_t_a, v_t_fresh, v_t_aside, v_t_kept, .int t_keptMany, .int t_thrown, v_t_buffer, .int t_buffered, .int t_size, .int t_at, .int t_behind, .int t_kind, .int t_number, .int t_wrong, .int t_wrongAt, .int t_errorAt, v_t_moved, .int t_unused, v_t_written, .int t_writtenMany])), (a_t_a, .inl (t 0, 876, .inl t_a_))] → va_S A s.heap H locs → lv_has ls 2 [(0, .ref a_t), (1, .int p1)] → k22_4 s0_22_3 = some (r, t_thrown') → W p l e rm_X8_pending s m args below meth c H locs 0 0 Q (F0 m 22 ls [.int s0_22_3, .ref a_t]) := by
    subst ek22_4
    intro s0_22_3 H locs ls hP hD hS hl hF
    refine my_put (ty := .int) (v := .int s0_22_3) (ci := 8) (C := RX8) (T := TX8) (N := 20) (wn := [(a_t, .inr (8, [.ref a_t_a, v_t_fresh, v_t_aside, v_t_kept, .int t_keptMany, .int s0_22_3, v_t_buffer, .int t_buffered, .int t_size, .int t_at, .int t_behind, .int t_kind, .int t_number, .int t_wrong, .int t_wrongAt, .int t_errorAt, v_t_moved, .int t_unused, v_t_written, .int t_writtenMany])), (a_t_a, .inl (t 0, 876, .inl t_a_))]) hx hb hts iw8 tyX8 tyX8_ok nmX8 hown hK hP hD hS 0 rfl rfl 5 (by decide) hf45 (fun _ h9 => h9) rfl (by decide +kernel) rfl rfl (Nat.le_of_ble_eq_true rfl) rfl dX8_pending_22 (fun H locs hP hD hS => ?_)
    refine lv_aload_n hx hb dX8_pending_25 rfl (lv_at hl 0 rfl) ?_
    refine va_get (D := D) (ci := 8) (v := .int s0_22_3) (C := RX8) (T := TX8) (N := 20) hx hb hts iw8 hown hK hP 0 rfl rfl 5 (by decide) hf45 (fun _ h9 => h9) rfl dX8_pending_26 ?_
    refine lv_if_le (tgt := 36) hx hb dX8_pending_29 (by decide) (fun c29 => ?_) (fun c29 => ?_)
    · have hF := brT c29 hF
      refine lv_aload_n hx hb dX8_pending_36 rfl (lv_at hl 0 rfl) ?_
      refine va_get (D := D) (ci := 8) (v := .ref a_t_a) (C := RX8) (T := TX8) (N := 20) hx hb hts iw8 hown hK hP 0 rfl rfl 0 (by decide) hf7 (fun _ h9 => h9) rfl dX8_pending_37 ?_
      refine lv_sipush (v := 500) hx hb dX8_pending_40 (by decide) ?_
      refine lv_iload_n hx hb dX8_pending_43 rfl (lv_at hl 1 rfl) ?_
      refine lv_iadd hx hb dX8_pending_44 ?_
      obtain ⟨g45_4, hF⟩ := gd hF
      refine my_iald (v := t_a_ (500 + p1).toNatClampNeg) hx hb hK hP 1 0 rfl rfl g45_4 rfl dX8_pending_45 ?_
      cases hF
      exact we_iret hx hb hr hlocks dX8_pending_46 rfl hQ hP hD hS
    · have hF := brF c29 hF
      refine lv_iconst (v := 0) hx hb dX8_pending_32 (by decide) ?_
      refine lv_goto (tgt := 46) hx hb dX8_pending_33 (by decide) ?_
      cases hF
      exact we_iret hx hb hr hlocks dX8_pending_46 rfl hQ hP hD hS
  refine lv_if_eq (tgt := 21) hx hb dX8_pending_14 (by decide) (fun c14 => ?_) (fun c14 => ?_)
  · have hF := brT c14 hF
    refine lv_iconst (v := 1) hx hb dX8_pending_21 (by decide) ?_
    exact hk22_4 1 H locs ls hP hD hS hl hF
  · have hF := brF c14 hF
    refine lv_iconst (v := 0) hx hb dX8_pending_17 (by decide) ?_
    refine lv_goto (tgt := 22) hx hb dX8_pending_18 (by decide) ?_
    exact hk22_4 0 H locs ls hP hD hS hl hF
abbrev rm_X8_least : Room := { frames := 0, cells := 0, slots := 0, locals := 0 }
theorem hd_X8_least : yX8_least.cls = RX8 ∧ yX8_least.cls ≠ "java/lang/invoke/MethodHandle" ∧ yX8_least.cls ≠ "java/lang/invoke/VarHandle" ∧ (parseMethodDescriptor yX8_least.desc).map (fun d => d.parameters.length) = some 1 := by decide +kernel
set_option maxRecDepth 100000 in
set_option maxHeartbeats 4000000 in
theorem c_X8_least (l : Launch) (D : va_G) (t : Nat → ClassId) (z : Nat) (x : Nat → Nat) (p0 : Int32) (H : Heap) (r : Int32) (hF : f_X8_least p0 = some (r)) : RdM l D (TY t) z x yX8_least wsX8_least rm_X8_least [.int p0] [] H (some (.int r)) := by
  refine rd_of (cc := cX8_least) (maxL := 1) (ret := (some .int)) (by decide) rfl (Nat.le_of_ble_eq_true rfl) ?_
  intro p e s m args below meth c Q hQ hx hb hr hml hts hown hlocks hH hP hC ls hl
  have hown : s.vm.findClass RX8 = some m.cls := hown
  have hl : lv_has ls 1 [(0, .int p0)] := hl
  have hK := hC.1
  unfold f_X8_least at hF
  refine lv_iload_n hx hb dX8_least_0 rfl (lv_at hl 0 rfl) ?_
  refine lv_iconst (v := 1) hx hb dX8_least_1 (by decide) ?_
  refine lv_icmp_eq (tgt := 10) hx hb dX8_least_2 (by decide) (fun c2 => ?_) (fun c2 => ?_)
  · have hF := brT c2 hF
    refine lv_iconst (v := 2) hx hb dX8_least_10 (by decide) ?_
    refine lv_goto (tgt := 15) hx hb dX8_least_11 (by decide) ?_
    cases hF
    exact rd_iret hx hb hr hlocks dX8_least_15 rfl hQ
  · have hF := brF c2 hF
    refine lv_iload_n hx hb dX8_least_5 rfl (lv_at hl 0 rfl) ?_
    refine lv_iconst (v := 2) hx hb dX8_least_6 (by decide) ?_
    refine lv_icmp_ne (tgt := 14) hx hb dX8_least_7 (by decide) (fun c7 => ?_) (fun c7 => ?_)
    · have hF := brF c7 hF
      refine lv_iconst (v := 1) hx hb dX8_least_14 (by decide) ?_
      cases hF
      exact rd_iret hx hb hr hlocks dX8_least_15 rfl hQ
    · have hF := brT c7 hF
      refine lv_iconst (v := 2) hx hb dX8_least_10 (by decide) ?_
      refine lv_goto (tgt := 15) hx hb dX8_least_11 (by decide) ?_
      cases hF
      exact rd_iret hx hb hr hlocks dX8_least_15 rfl hQ
abbrev rm_X8_greatest : Room := { frames := 0, cells := 0, slots := 0, locals := 0 }
theorem hd_X8_greatest : yX8_greatest.cls = RX8 ∧ yX8_greatest.cls ≠ "java/lang/invoke/MethodHandle" ∧ yX8_greatest.cls ≠ "java/lang/invoke/VarHandle" ∧ (parseMethodDescriptor yX8_greatest.desc).map (fun d => d.parameters.length) = some 1 := by decide +kernel
set_option maxRecDepth 100000 in
set_option maxHeartbeats 4000000 in
theorem c_X8_greatest (l : Launch) (D : va_G) (t : Nat → ClassId) (z : Nat) (x : Nat → Nat) (p0 : Int32) (H : Heap) (r : Int32) (hF : f_X8_greatest p0 = some (r)) : RdM l D (TY t) z x yX8_greatest wsX8_greatest rm_X8_greatest [.int p0] [] H (some (.int r)) := by
  refine rd_of (cc := cX8_greatest) (maxL := 1) (ret := (some .int)) (by decide) rfl (Nat.le_of_ble_eq_true rfl) ?_
  intro p e s m args below meth c Q hQ hx hb hr hml hts hown hlocks hH hP hC ls hl
  have hown : s.vm.findClass RX8 = some m.cls := hown
  have hl : lv_has ls 1 [(0, .int p0)] := hl
  have hK := hC.1
  unfold f_X8_greatest at hF
  refine lv_iload_n hx hb dX8_greatest_0 rfl (lv_at hl 0 rfl) ?_
  refine lv_if_ne (tgt := 9) hx hb dX8_greatest_1 (by decide) (fun c1 => ?_) (fun c1 => ?_)
  · have hF := brF c1 hF
    refine lv_iload_n hx hb dX8_greatest_9 rfl (lv_at hl 0 rfl) ?_
    refine lv_iconst (v := 1) hx hb dX8_greatest_10 (by decide) ?_
    refine lv_icmp_ne (tgt := 19) hx hb dX8_greatest_11 (by decide) (fun c11 => ?_) (fun c11 => ?_)
    · have hF := brF c11 hF
      refine lv_iload_n hx hb dX8_greatest_19 rfl (lv_at hl 0 rfl) ?_
      refine lv_iconst (v := 2) hx hb dX8_greatest_20 (by decide) ?_
      refine lv_icmp_ne (tgt := 29) hx hb dX8_greatest_21 (by decide) (fun c21 => ?_) (fun c21 => ?_)
      · have hF := brF c21 hF
        refine lv_bipush (v := 30) hx hb dX8_greatest_29 (by decide) ?_
        cases hF
        exact rd_iret hx hb hr hlocks dX8_greatest_31 rfl hQ
      · have hF := brT c21 hF
        refine lv_bipush (v := 40) hx hb dX8_greatest_24 (by decide) ?_
        refine lv_goto (tgt := 31) hx hb dX8_greatest_26 (by decide) ?_
        cases hF
        exact rd_iret hx hb hr hlocks dX8_greatest_31 rfl hQ
    · have hF := brT c11 hF
      refine lv_bipush (v := 120) hx hb dX8_greatest_14 (by decide) ?_
      refine lv_goto (tgt := 31) hx hb dX8_greatest_16 (by decide) ?_
      cases hF
      exact rd_iret hx hb hr hlocks dX8_greatest_31 rfl hQ
  · have hF := brT c1 hF
    refine lv_bipush (v := 20) hx hb dX8_greatest_4 (by decide) ?_
    refine lv_goto (tgt := 31) hx hb dX8_greatest_6 (by decide) ?_
    cases hF
    exact rd_iret hx hb hr hlocks dX8_greatest_31 rfl hQ
abbrev rm_X8_set : Room := { frames := 5, cells := 0, slots := 0, locals := 112 }
theorem hd_X8_set : yX8_set.cls = RX8 ∧ yX8_set.cls ≠ "java/lang/invoke/MethodHandle" ∧ yX8_set.cls ≠ "java/lang/invoke/VarHandle" ∧ (parseMethodDescriptor yX8_set.desc).map (fun d => d.parameters.length) = some 2 := by decide +kernel
set_option maxRecDepth 100000 in
set_option maxHeartbeats 4000000 in
theorem c_X8_set (l : Launch) (D : va_G) (t : Nat → ClassId) (z : Nat) (x : Nat → Nat) (N : Nat) (a_t : Nat) (a_t_a : Nat) (a_t_kept : Nat) (v_t_fresh : Value) (v_t_aside : Value) (v_t_buffer : Value) (v_t_moved : Value) (v_t_written : Value) (t_keptMany : Int32) (t_thrown : Int32) (t_buffered : Int32) (t_size : Int32) (t_at : Int32) (t_behind : Int32) (t_kind : Int32) (t_number : Int32) (t_wrong : Int32) (t_wrongAt : Int32) (t_errorAt : Int32) (t_unused : Int32) (t_writtenMany : Int32) (t_a_ : (Nat → Int32)) (t_kept_ : (Nat → Int32)) (p1 : Int32) (p2 : Int32) (sz : Nat) (r : Int32) (t_keptMany' : Int32) (t_thrown' : Int32) (t_a_' : (Nat → Int32)) (t_kept_' : (Nat → Int32)) (hF : f_X8_set N t_keptMany t_a_ t_kept_ p1 p2 = some (r, t_keptMany', t_thrown', t_a_', t_kept_')) : WrM l D (TY t) z x yX8_set wsX8_set rm_X8_set [.ref a_t, .int p1, .int p2] [(a_t, .inr (8, [.ref a_t_a, v_t_fresh, v_t_aside, .ref a_t_kept, .int t_keptMany, .int t_thrown, v_t_buffer, .int t_buffered, .int t_size, .int t_at, .int t_behind, .int t_kind, .int t_number, .int t_wrong, .int t_wrongAt, .int t_errorAt, v_t_moved, .int t_unused, v_t_written, .int t_writtenMany])), (a_t_a, .inl (t 0, 876, .inl t_a_)), (a_t_kept, .inl (t 0, 7008, .inl t_kept_))] [(a_t, .inr (8, [.ref a_t_a, v_t_fresh, v_t_aside, .ref a_t_kept, .int t_keptMany', .int t_thrown', v_t_buffer, .int t_buffered, .int t_size, .int t_at, .int t_behind, .int t_kind, .int t_number, .int t_wrong, .int t_wrongAt, .int t_errorAt, v_t_moved, .int t_unused, v_t_written, .int t_writtenMany])), (a_t_a, .inl (t 0, 876, .inl t_a_')), (a_t_kept, .inl (t 0, 7008, .inl t_kept_'))] sz (some (.int r)) 0 0 := by
  obtain ⟨T9, hT⟩ : ∃ T9, T9 = (r, t_keptMany', t_thrown', t_a_', t_kept_') := ⟨_, rfl⟩
  rw [← hT] at hF
  obtain rfl : r = T9.1 := by rw [hT]
  obtain rfl : t_keptMany' = T9.2.1 := by rw [hT]
  obtain rfl : t_thrown' = T9.2.2.1 := by rw [hT]
  obtain rfl : t_a_' = T9.2.2.2.1 := by rw [hT]
  obtain rfl : t_kept_' = T9.2.2.2.2 := by rw [hT]
  clear hT
  refine wr_of (cc := cX8_set) (maxL := 4) (ret := (some .int)) (by decide) rfl (Nat.le_of_ble_eq_true rfl) ?_
  intro p e s m args below meth c A Q hQ hx hb hr hml hts hown hlocks hin H locs hP hD hS hA hz hC ls hl
  have hown : s.vm.findClass RX8 = some m.cls := hown
  have hl : lv_has ls 4 [(0, .ref a_t), (1, .int p1), (2, .int p2)] := hl
  have hK := hC.1
  have iw8 : ∀ w ∈ wsX80, w ∈ wsX8_set := fun _ h => List.mem_cons_of_mem _ (List.mem_append_right _ h)
  have hf7 := hts (.fieldLink RX8 7 "CrackedColumnModel" "a" "[I") (by decide +kernel)
  have hf45 := hts (.fieldLink RX8 45 "CrackedColumnModel" "thrown" "I") (by decide +kernel)
  unfold f_X8_set at hF
  refine lv_aload_n hx hb dX8_set_0 rfl (lv_at hl 0 rfl) ?_
  refine lv_iload_n hx hb dX8_set_1 rfl (lv_at hl 1 rfl) ?_
  refine lv_iconst (v := 0) hx hb dX8_set_2 (by decide) ?_
  refine lv_iconst (v := 3) hx hb dX8_set_3 (by decide) ?_
  obtain ⟨r4_1, h4_1, hF⟩ := bndE hF
  refine rdS (As := [.int p1, .int 0, .int 3]) (rest := [.ref a_t]) ⟨hx, hb, hml, hown, hts⟩ (c_X8_isIn l D t z x p1 0 3 H r4_1 h4_1) (va_cwS 3 hts gX8_set_X8_isIn rfl rfl rfl hd_X8_isIn.2 ⟨Nat.le_of_ble_eq_true rfl, Nat.le_of_ble_eq_true rfl⟩) (hC.at hz hS) (selP (m9 := [false, false, false]) rfl rfl hP) rfl hl.1 rfl (Nat.le_of_ble_eq_true rfl) dX8_set_4 ⟨Nat.zero_le _, Nat.zero_le _⟩ rfl ?_
  obtain ⟨k30_4, ek30_4, hF⟩ := jnE hF
  have hk30_4 : ∀ (s0_30_3 : Int32) (H : Heap) (locs : List Loc) (ls : Array Slot), va_P D vwCl [(a_t, .inr (8, [.ref a_t_a, v_t_fresh, v_t_aside, .ref a_t_kept, .int t_keptMany, .int t_thrown, v_t_buffer, .int t_buffered, .int t_size, .int t_at, .int t_behind, .int t_kind, .int t_number, .int t_wrong, .int t_wrongAt, .int t_errorAt, v_t_moved, .int t_unused, v_t_written, .int t_writtenMany])), (a_t_a, .inl (t 0, 876, .inl t_a_)), (a_t_kept, .inl (t 0, 7008, .inl t_kept_))] H → va_D A [(a_t, .inr (8, [.ref a_t_a, v_t_fresh, v_t_aside, .ref a_t_kept, .int t_keptMany, .int t_thrown, v_t_buffer, .int t_buffered, .int t_size, .int t_at, .int t_behind, .int t_kind, .int t_number, .int t_wrong, .int t_wrongAt, .int t_errorAt, v_t_moved, .int t_unused, v_t_written, .int t_writtenMany])), (a_t_a, .inl (t 0, 876, .inl t_a_)), (a_t_kept, .inl (t 0, 7008, .inl t_kept_))] → va_S A s.heap H locs → lv_has ls 4 [(0, .ref a_t), (1, .int p1), (2, .int p2)] → k30_4 s0_30_3 = some T9 → W p l e rm_X8_set s m args below meth c H locs 0 0 Q (F0 m 30 ls [.int s0_30_3, .ref a_t]) := by
    subst ek30_4
    intro s0_30_3 H locs ls hP hD hS hl hF
    refine my_put (ty := .int) (v := .int s0_30_3) (ci := 8) (C := RX8) (T := TX8) (N := 20) (wn := [(a_t, .inr (8, [.ref a_t_a, v_t_fresh, v_t_aside, .ref a_t_kept, .int t_keptMany, .int s0_30_3, v_t_buffer, .int t_buffered, .int t_size, .int t_at, .int t_behind, .int t_kind, .int t_number, .int t_wrong, .int t_wrongAt, .int t_errorAt, v_t_moved, .int t_unused, v_t_written, .int t_writtenMany])), (a_t_a, .inl (t 0, 876, .inl t_a_)), (a_t_kept, .inl (t 0, 7008, .inl t_kept_))]) hx hb hts iw8 tyX8 tyX8_ok nmX8 hown hK hP hD hS 0 rfl rfl 5 (by decide) hf45 (fun _ h9 => h9) rfl (by decide +kernel) rfl rfl (Nat.le_of_ble_eq_true rfl) rfl dX8_set_30 (fun H locs hP hD hS => ?_)
    refine lv_aload_n hx hb dX8_set_33 rfl (lv_at hl 0 rfl) ?_
    refine va_get (D := D) (ci := 8) (v := .int s0_30_3) (C := RX8) (T := TX8) (N := 20) hx hb hts iw8 hown hK hP 0 rfl rfl 5 (by decide) hf45 (fun _ h9 => h9) rfl dX8_set_34 ?_
    refine lv_if_le (tgt := 42) hx hb dX8_set_37 (by decide) (fun c37 => ?_) (fun c37 => ?_)
    · have hF := brT c37 hF
      refine lv_aload_n hx hb dX8_set_42 rfl (lv_at hl 0 rfl) ?_
      obtain ⟨t_keptMany_43_5, t_kept_43_6, h43_6, hF⟩ := bnd2E hF
      refine wrVM (As := []) (rest := []) (C := RX8) (wn := [(a_t, .inr (8, [.ref a_t_a, v_t_fresh, v_t_aside, .ref a_t_kept, .int t_keptMany_43_5, .int s0_30_3, v_t_buffer, .int t_buffered, .int t_size, .int t_at, .int t_behind, .int t_kind, .int t_number, .int t_wrong, .int t_wrongAt, .int t_errorAt, v_t_moved, .int t_unused, v_t_written, .int t_writtenMany])), (a_t_a, .inl (t 0, 876, .inl t_a_)), (a_t_kept, .inl (t 0, 7008, .inl t_kept_43_6))]) ⟨hx, hb, hml, hown, hts⟩ (c_X8_keeps l D t z x N a_t a_t_a a_t_kept v_t_fresh v_t_aside v_t_buffer v_t_moved v_t_written t_keptMany s0_30_3 t_buffered t_size t_at t_behind t_kind t_number t_wrong t_wrongAt t_errorAt t_unused t_writtenMany t_a_ t_kept_ H.size t_keptMany_43_5 t_kept_43_6 h43_6) (cwV 0 hts gX8_set_X8_keeps rfl rfl rfl hd_X8_keeps ⟨Nat.le_of_ble_eq_true rfl, Nat.le_of_ble_eq_true rfl⟩) (hC.at hz hS) hP hD hS hA hz [true, true, true] rfl rfl rfl rfl 0 rfl (show vwCl[8]? = some (RX8, TX8, 20) from rfl) rfl rfl hl.1 rfl (Nat.le_of_ble_eq_true rfl) dX8_set_43 ⟨Nat.zero_le _, Nat.zero_le _⟩ rfl (fun H locs hP hD hS => ?_)
      refine lv_aload_n hx hb dX8_set_46 rfl (lv_at hl 0 rfl) ?_
      refine va_get (D := D) (ci := 8) (v := .ref a_t_a) (C := RX8) (T := TX8) (N := 20) hx hb hts iw8 hown hK hP 0 rfl rfl 0 (by decide) hf7 (fun _ h9 => h9) rfl dX8_set_47 ?_
      refine lv_iconst (v := 4) hx hb dX8_set_50 (by decide) ?_
      refine lv_iload_n hx hb dX8_set_51 rfl (lv_at hl 1 rfl) ?_
      refine lv_iadd hx hb dX8_set_52 ?_
      obtain ⟨g53_7, hF⟩ := gd hF
      refine my_iald (v := t_a_ (4 + p1).toNatClampNeg) hx hb hK hP 1 0 rfl rfl g53_7 rfl dX8_set_53 ?_
      refine lv_topi (fun y54_9 ey54_9 => ?_)
      have hF := ltE ey54_9 hF
      refine lv_istore_n (lv' := [(3, .int y54_9), (0, .ref a_t), (1, .int p1), (2, .int p2)]) hx hb dX8_set_54 rfl hl (by decide) rfl (fun ls hl => ?_)
      refine lv_aload_n hx hb dX8_set_55 rfl (lv_at hl 1 rfl) ?_
      refine va_get (D := D) (ci := 8) (v := .ref a_t_a) (C := RX8) (T := TX8) (N := 20) hx hb hts iw8 hown hK hP 0 rfl rfl 0 (by decide) hf7 (fun _ h9 => h9) rfl dX8_set_56 ?_
      refine lv_iconst (v := 4) hx hb dX8_set_59 (by decide) ?_
      refine lv_iload_n hx hb dX8_set_60 rfl (lv_at hl 2 rfl) ?_
      refine lv_iadd hx hb dX8_set_61 ?_
      refine lv_iload_n hx hb dX8_set_62 rfl (lv_at hl 3 rfl) ?_
      obtain ⟨t_a_63_10, et_a_63_10⟩ : ∃ y : Nat → Int32, y = upd t_a_ (4 + p1).toNatClampNeg p2 := ⟨_, rfl⟩
      have hF := ltE et_a_63_10 hF
      refine my_iast (g := t_a_63_10) (wn := [(a_t, .inr (8, [.ref a_t_a, v_t_fresh, v_t_aside, .ref a_t_kept, .int t_keptMany_43_5, .int s0_30_3, v_t_buffer, .int t_buffered, .int t_size, .int t_at, .int t_behind, .int t_kind, .int t_number, .int t_wrong, .int t_wrongAt, .int t_errorAt, v_t_moved, .int t_unused, v_t_written, .int t_writtenMany])), (a_t_a, .inl (t 0, 876, .inl t_a_63_10)), (a_t_kept, .inl (t 0, 7008, .inl t_kept_43_6))]) hx hb hK hP hD hS 1 0 rfl rfl g53_7 et_a_63_10 rfl dX8_set_63 (fun H locs hP hD hS => ?_)
      refine lv_aload_n hx hb dX8_set_64 rfl (lv_at hl 1 rfl) ?_
      obtain ⟨t_a_65_11, h65_11, hF⟩ := bndE hF
      refine wrVM (As := []) (rest := []) (C := RX8) (wn := [(a_t, .inr (8, [.ref a_t_a, v_t_fresh, v_t_aside, .ref a_t_kept, .int t_keptMany_43_5, .int s0_30_3, v_t_buffer, .int t_buffered, .int t_size, .int t_at, .int t_behind, .int t_kind, .int t_number, .int t_wrong, .int t_wrongAt, .int t_errorAt, v_t_moved, .int t_unused, v_t_written, .int t_writtenMany])), (a_t_a, .inl (t 0, 876, .inl t_a_65_11)), (a_t_kept, .inl (t 0, 7008, .inl t_kept_43_6))]) ⟨hx, hb, hml, hown, hts⟩ (c_X8_forces l D t z x N a_t a_t_a v_t_fresh v_t_aside (.ref a_t_kept) v_t_buffer v_t_moved v_t_written t_keptMany_43_5 s0_30_3 t_buffered t_size t_at t_behind t_kind t_number t_wrong t_wrongAt t_errorAt t_unused t_writtenMany t_a_63_10 H.size t_a_65_11 h65_11) (cwV 0 hts gX8_set_X8_forces rfl rfl rfl hd_X8_forces ⟨Nat.le_of_ble_eq_true rfl, Nat.le_of_ble_eq_true rfl⟩) (hC.at hz hS) hP hD hS hA hz [true, true, false] rfl rfl rfl rfl 0 rfl (show vwCl[8]? = some (RX8, TX8, 20) from rfl) rfl rfl hl.1 rfl (Nat.le_of_ble_eq_true rfl) dX8_set_65 ⟨Nat.zero_le _, Nat.zero_le _⟩ rfl (fun H locs hP hD hS => ?_)
      refine lv_iload_n hx hb dX8_set_68 rfl (lv_at hl 0 rfl) ?_
      cases hF
      exact we_iret hx hb hr hlocks dX8_set_69 rfl hQ hP hD hS
    · have hF := brF c37 hF
      refine lv_iconst (v := 0) hx hb dX8_set_40 (by decide) ?_
      cases hF
      exact we_iret hx hb hr hlocks dX8_set_41 rfl hQ hP hD hS
  refine lv_if_eq (tgt := 29) hx hb dX8_set_7 (by decide) (fun c7 => ?_) (fun c7 => ?_)
  · have hF := brT c7 hF
    refine lv_iconst (v := 1) hx hb dX8_set_29 (by decide) ?_
    exact hk30_4 1 H locs ls hP hD hS hl hF
  · have hF := brF c7 hF
    refine lv_iload_n hx hb dX8_set_10 rfl (lv_at hl 2 rfl) ?_
    refine lv_iload_n hx hb dX8_set_11 rfl (lv_at hl 1 rfl) ?_
    obtain ⟨r12_13, h12_13, hF⟩ := bndE hF
    refine rdS (As := [.int p1]) (rest := [.int p2, .ref a_t]) ⟨hx, hb, hml, hown, hts⟩ (c_X8_least l D t z x p1 H r12_13 h12_13) (va_cwS 1 hts gX8_set_X8_least rfl rfl rfl hd_X8_least.2 ⟨Nat.le_of_ble_eq_true rfl, Nat.le_of_ble_eq_true rfl⟩) (hC.at hz hS) (selP (m9 := [false, false, false]) rfl rfl hP) rfl hl.1 rfl (Nat.le_of_ble_eq_true rfl) dX8_set_12 ⟨Nat.zero_le _, Nat.zero_le _⟩ rfl ?_
    refine lv_iload_n hx hb dX8_set_15 rfl (lv_at hl 1 rfl) ?_
    obtain ⟨r16_15, h16_15, hF⟩ := bndE hF
    refine rdS (As := [.int p1]) (rest := [.int r12_13, .int p2, .ref a_t]) ⟨hx, hb, hml, hown, hts⟩ (c_X8_greatest l D t z x p1 H r16_15 h16_15) (va_cwS 1 hts gX8_set_X8_greatest rfl rfl rfl hd_X8_greatest.2 ⟨Nat.le_of_ble_eq_true rfl, Nat.le_of_ble_eq_true rfl⟩) (hC.at hz hS) (selP (m9 := [false, false, false]) rfl rfl hP) rfl hl.1 rfl (Nat.le_of_ble_eq_true rfl) dX8_set_16 ⟨Nat.zero_le _, Nat.zero_le _⟩ rfl ?_
    obtain ⟨r19_17, h19_17, hF⟩ := bndE hF
    refine rdS (As := [.int p2, .int r12_13, .int r16_15]) (rest := [.ref a_t]) ⟨hx, hb, hml, hown, hts⟩ (c_X8_isIn l D t z x p2 r12_13 r16_15 H r19_17 h19_17) (va_cwS 3 hts gX8_set_X8_isIn rfl rfl rfl hd_X8_isIn.2 ⟨Nat.le_of_ble_eq_true rfl, Nat.le_of_ble_eq_true rfl⟩) (hC.at hz hS) (selP (m9 := [false, false, false]) rfl rfl hP) rfl hl.1 rfl (Nat.le_of_ble_eq_true rfl) dX8_set_19 ⟨Nat.zero_le _, Nat.zero_le _⟩ rfl ?_
    refine lv_if_eq (tgt := 29) hx hb dX8_set_22 (by decide) (fun c22 => ?_) (fun c22 => ?_)
    · have hF := brT c22 hF
      refine lv_iconst (v := 1) hx hb dX8_set_29 (by decide) ?_
      exact hk30_4 1 H locs ls hP hD hS hl hF
    · have hF := brF c22 hF
      refine lv_iconst (v := 0) hx hb dX8_set_25 (by decide) ?_
      refine lv_goto (tgt := 30) hx hb dX8_set_26 (by decide) ?_
      exact hk30_4 0 H locs ls hP hD hS hl hF
abbrev rm_X8_sort : Room := { frames := 3, cells := 0, slots := 0, locals := 71 }
theorem hd_X8_sort : yX8_sort.cls = RX8 ∧ yX8_sort.cls ≠ "java/lang/invoke/MethodHandle" ∧ yX8_sort.cls ≠ "java/lang/invoke/VarHandle" ∧ (parseMethodDescriptor yX8_sort.desc).map (fun d => d.parameters.length) = some 1 := by decide +kernel
set_option maxRecDepth 100000 in
set_option maxHeartbeats 4000000 in
theorem c_X8_sort (l : Launch) (D : va_G) (t : Nat → ClassId) (z : Nat) (x : Nat → Nat) (N : Nat) (a_t : Nat) (a_t_a : Nat) (a_t_kept : Nat) (a_t_moved : Nat) (v_t_fresh : Value) (v_t_aside : Value) (v_t_buffer : Value) (v_t_written : Value) (t_keptMany : Int32) (t_thrown : Int32) (t_buffered : Int32) (t_size : Int32) (t_at : Int32) (t_behind : Int32) (t_kind : Int32) (t_number : Int32) (t_wrong : Int32) (t_wrongAt : Int32) (t_errorAt : Int32) (t_unused : Int32) (t_writtenMany : Int32) (t_a_ : (Nat → Int32)) (t_kept_ : (Nat → Int32)) (t_moved_ : (Nat → Int32)) (p1 : Int32) (sz : Nat) (r : Int32) (t_keptMany' : Int32) (t_thrown' : Int32) (t_a_' : (Nat → Int32)) (t_kept_' : (Nat → Int32)) (t_moved_' : (Nat → Int32)) (hF : f_X8_sort N t_keptMany t_a_ t_kept_ t_moved_ p1 = some (r, t_keptMany', t_thrown', t_a_', t_kept_', t_moved_')) : WrM l D (TY t) z x yX8_sort wsX8_sort rm_X8_sort [.ref a_t, .int p1] [(a_t, .inr (8, [.ref a_t_a, v_t_fresh, v_t_aside, .ref a_t_kept, .int t_keptMany, .int t_thrown, v_t_buffer, .int t_buffered, .int t_size, .int t_at, .int t_behind, .int t_kind, .int t_number, .int t_wrong, .int t_wrongAt, .int t_errorAt, .ref a_t_moved, .int t_unused, v_t_written, .int t_writtenMany])), (a_t_a, .inl (t 0, 876, .inl t_a_)), (a_t_kept, .inl (t 0, 7008, .inl t_kept_)), (a_t_moved, .inl (t 0, 120, .inl t_moved_))] [(a_t, .inr (8, [.ref a_t_a, v_t_fresh, v_t_aside, .ref a_t_kept, .int t_keptMany', .int t_thrown', v_t_buffer, .int t_buffered, .int t_size, .int t_at, .int t_behind, .int t_kind, .int t_number, .int t_wrong, .int t_wrongAt, .int t_errorAt, .ref a_t_moved, .int t_unused, v_t_written, .int t_writtenMany])), (a_t_a, .inl (t 0, 876, .inl t_a_')), (a_t_kept, .inl (t 0, 7008, .inl t_kept_')), (a_t_moved, .inl (t 0, 120, .inl t_moved_'))] sz (some (.int r)) 0 0 := by
  obtain ⟨T9, hT⟩ : ∃ T9, T9 = (r, t_keptMany', t_thrown', t_a_', t_kept_', t_moved_') := ⟨_, rfl⟩
  rw [← hT] at hF
  obtain rfl : r = T9.1 := by rw [hT]
  obtain rfl : t_keptMany' = T9.2.1 := by rw [hT]
  obtain rfl : t_thrown' = T9.2.2.1 := by rw [hT]
  obtain rfl : t_a_' = T9.2.2.2.1 := by rw [hT]
  obtain rfl : t_kept_' = T9.2.2.2.2.1 := by rw [hT]
  obtain rfl : t_moved_' = T9.2.2.2.2.2 := by rw [hT]
  clear hT
  refine wr_of (cc := cX8_sort) (maxL := 2) (ret := (some .int)) (by decide) rfl (Nat.le_of_ble_eq_true rfl) ?_
  intro p e s m args below meth c A Q hQ hx hb hr hml hts hown hlocks hin H locs hP hD hS hA hz hC ls hl
  have hown : s.vm.findClass RX8 = some m.cls := hown
  have hl : lv_has ls 2 [(0, .ref a_t), (1, .int p1)] := hl
  have hK := hC.1
  have iw8 : ∀ w ∈ wsX80, w ∈ wsX8_sort := fun _ h => List.mem_cons_of_mem _ (List.mem_append_right _ h)
  have hf45 := hts (.fieldLink RX8 45 "CrackedColumnModel" "thrown" "I") (by decide +kernel)
  unfold f_X8_sort at hF
  refine lv_aload_n hx hb dX8_sort_0 rfl (lv_at hl 0 rfl) ?_
  refine lv_aload_n hx hb dX8_sort_1 rfl (lv_at hl 0 rfl) ?_
  refine lv_iload_n hx hb dX8_sort_2 rfl (lv_at hl 1 rfl) ?_
  obtain ⟨r3_1, h3_1, hF⟩ := bndE hF
  refine rdV (As := [.int p1]) (rest := [.ref a_t]) (C := RX8) ⟨hx, hb, hml, hown, hts⟩ (c_X8_isPiece l D t z x a_t a_t_a v_t_fresh v_t_aside (.ref a_t_kept) v_t_buffer (.ref a_t_moved) v_t_written t_keptMany t_thrown t_buffered t_size t_at t_behind t_kind t_number t_wrong t_wrongAt t_errorAt t_unused t_writtenMany t_a_ p1 H r3_1 h3_1) (cwV 1 hts gX8_sort_X8_isPiece rfl rfl rfl hd_X8_isPiece ⟨Nat.le_of_ble_eq_true rfl, Nat.le_of_ble_eq_true rfl⟩) (hC.at hz hS) (selP (m9 := [true, true, false, false]) rfl rfl hP) 0 rfl (show vwCl[8]? = some (RX8, TX8, 20) from rfl) rfl rfl hl.1 rfl (Nat.le_of_ble_eq_true rfl) dX8_sort_3 ⟨Nat.zero_le _, Nat.zero_le _⟩ rfl ?_
  obtain ⟨k14_4, ek14_4, hF⟩ := jnE hF
  have hk14_4 : ∀ (s0_14_3 : Int32) (H : Heap) (locs : List Loc) (ls : Array Slot), va_P D vwCl [(a_t, .inr (8, [.ref a_t_a, v_t_fresh, v_t_aside, .ref a_t_kept, .int t_keptMany, .int t_thrown, v_t_buffer, .int t_buffered, .int t_size, .int t_at, .int t_behind, .int t_kind, .int t_number, .int t_wrong, .int t_wrongAt, .int t_errorAt, .ref a_t_moved, .int t_unused, v_t_written, .int t_writtenMany])), (a_t_a, .inl (t 0, 876, .inl t_a_)), (a_t_kept, .inl (t 0, 7008, .inl t_kept_)), (a_t_moved, .inl (t 0, 120, .inl t_moved_))] H → va_D A [(a_t, .inr (8, [.ref a_t_a, v_t_fresh, v_t_aside, .ref a_t_kept, .int t_keptMany, .int t_thrown, v_t_buffer, .int t_buffered, .int t_size, .int t_at, .int t_behind, .int t_kind, .int t_number, .int t_wrong, .int t_wrongAt, .int t_errorAt, .ref a_t_moved, .int t_unused, v_t_written, .int t_writtenMany])), (a_t_a, .inl (t 0, 876, .inl t_a_)), (a_t_kept, .inl (t 0, 7008, .inl t_kept_)), (a_t_moved, .inl (t 0, 120, .inl t_moved_))] → va_S A s.heap H locs → lv_has ls 2 [(0, .ref a_t), (1, .int p1)] → k14_4 s0_14_3 = some T9 → W p l e rm_X8_sort s m args below meth c H locs 0 0 Q (F0 m 14 ls [.int s0_14_3, .ref a_t]) := by
    subst ek14_4
    intro s0_14_3 H locs ls hP hD hS hl hF
    refine my_put (ty := .int) (v := .int s0_14_3) (ci := 8) (C := RX8) (T := TX8) (N := 20) (wn := [(a_t, .inr (8, [.ref a_t_a, v_t_fresh, v_t_aside, .ref a_t_kept, .int t_keptMany, .int s0_14_3, v_t_buffer, .int t_buffered, .int t_size, .int t_at, .int t_behind, .int t_kind, .int t_number, .int t_wrong, .int t_wrongAt, .int t_errorAt, .ref a_t_moved, .int t_unused, v_t_written, .int t_writtenMany])), (a_t_a, .inl (t 0, 876, .inl t_a_)), (a_t_kept, .inl (t 0, 7008, .inl t_kept_)), (a_t_moved, .inl (t 0, 120, .inl t_moved_))]) hx hb hts iw8 tyX8 tyX8_ok nmX8 hown hK hP hD hS 0 rfl rfl 5 (by decide) hf45 (fun _ h9 => h9) rfl (by decide +kernel) rfl rfl (Nat.le_of_ble_eq_true rfl) rfl dX8_sort_14 (fun H locs hP hD hS => ?_)
    refine lv_aload_n hx hb dX8_sort_17 rfl (lv_at hl 0 rfl) ?_
    refine va_get (D := D) (ci := 8) (v := .int s0_14_3) (C := RX8) (T := TX8) (N := 20) hx hb hts iw8 hown hK hP 0 rfl rfl 5 (by decide) hf45 (fun _ h9 => h9) rfl dX8_sort_18 ?_
    refine lv_if_le (tgt := 26) hx hb dX8_sort_21 (by decide) (fun c21 => ?_) (fun c21 => ?_)
    · have hF := brT c21 hF
      refine lv_aload_n hx hb dX8_sort_26 rfl (lv_at hl 0 rfl) ?_
      obtain ⟨t_keptMany_27_5, t_kept_27_6, h27_6, hF⟩ := bnd2E hF
      refine wrVM (As := []) (rest := []) (C := RX8) (wn := [(a_t, .inr (8, [.ref a_t_a, v_t_fresh, v_t_aside, .ref a_t_kept, .int t_keptMany_27_5, .int s0_14_3, v_t_buffer, .int t_buffered, .int t_size, .int t_at, .int t_behind, .int t_kind, .int t_number, .int t_wrong, .int t_wrongAt, .int t_errorAt, .ref a_t_moved, .int t_unused, v_t_written, .int t_writtenMany])), (a_t_a, .inl (t 0, 876, .inl t_a_)), (a_t_kept, .inl (t 0, 7008, .inl t_kept_27_6)), (a_t_moved, .inl (t 0, 120, .inl t_moved_))]) ⟨hx, hb, hml, hown, hts⟩ (c_X8_keeps l D t z x N a_t a_t_a a_t_kept v_t_fresh v_t_aside v_t_buffer (.ref a_t_moved) v_t_written t_keptMany s0_14_3 t_buffered t_size t_at t_behind t_kind t_number t_wrong t_wrongAt t_errorAt t_unused t_writtenMany t_a_ t_kept_ H.size t_keptMany_27_5 t_kept_27_6 h27_6) (cwV 0 hts gX8_sort_X8_keeps rfl rfl rfl hd_X8_keeps ⟨Nat.le_of_ble_eq_true rfl, Nat.le_of_ble_eq_true rfl⟩) (hC.at hz hS) hP hD hS hA hz [true, true, true, false] rfl rfl rfl rfl 0 rfl (show vwCl[8]? = some (RX8, TX8, 20) from rfl) rfl rfl hl.1 rfl (Nat.le_of_ble_eq_true rfl) dX8_sort_27 ⟨Nat.zero_le _, Nat.zero_le _⟩ rfl (fun H locs hP hD hS => ?_)
      refine lv_aload_n hx hb dX8_sort_30 rfl (lv_at hl 0 rfl) ?_
      refine lv_iload_n hx hb dX8_sort_31 rfl (lv_at hl 1 rfl) ?_
      obtain ⟨r32_8, t_a_32_9, t_moved_32_10, h32_10, hF⟩ := bnd3E hF
      refine wrVM (As := [.int p1]) (rest := []) (C := RX8) (wn := [(a_t, .inr (8, [.ref a_t_a, v_t_fresh, v_t_aside, .ref a_t_kept, .int t_keptMany_27_5, .int s0_14_3, v_t_buffer, .int t_buffered, .int t_size, .int t_at, .int t_behind, .int t_kind, .int t_number, .int t_wrong, .int t_wrongAt, .int t_errorAt, .ref a_t_moved, .int t_unused, v_t_written, .int t_writtenMany])), (a_t_a, .inl (t 0, 876, .inl t_a_32_9)), (a_t_kept, .inl (t 0, 7008, .inl t_kept_27_6)), (a_t_moved, .inl (t 0, 120, .inl t_moved_32_10))]) ⟨hx, hb, hml, hown, hts⟩ (c_X8_sorts l D t z x N a_t a_t_a a_t_moved v_t_fresh v_t_aside (.ref a_t_kept) v_t_buffer v_t_written t_keptMany_27_5 s0_14_3 t_buffered t_size t_at t_behind t_kind t_number t_wrong t_wrongAt t_errorAt t_unused t_writtenMany t_a_ t_moved_ p1 H.size r32_8 t_a_32_9 t_moved_32_10 h32_10) (cwV 1 hts gX8_sort_X8_sorts rfl rfl rfl hd_X8_sorts ⟨Nat.le_of_ble_eq_true rfl, Nat.le_of_ble_eq_true rfl⟩) (hC.at hz hS) hP hD hS hA hz [true, true, false, true] rfl rfl rfl rfl 0 rfl (show vwCl[8]? = some (RX8, TX8, 20) from rfl) rfl rfl hl.1 rfl (Nat.le_of_ble_eq_true rfl) dX8_sort_32 ⟨Nat.zero_le _, Nat.zero_le _⟩ rfl (fun H locs hP hD hS => ?_)
      cases hF
      exact we_iret hx hb hr hlocks dX8_sort_35 rfl hQ hP hD hS
    · have hF := brF c21 hF
      refine lv_iconst (v := 0) hx hb dX8_sort_24 (by decide) ?_
      cases hF
      exact we_iret hx hb hr hlocks dX8_sort_25 rfl hQ hP hD hS
  refine lv_if_eq (tgt := 13) hx hb dX8_sort_6 (by decide) (fun c6 => ?_) (fun c6 => ?_)
  · have hF := brT c6 hF
    refine lv_iconst (v := 1) hx hb dX8_sort_13 (by decide) ?_
    exact hk14_4 1 H locs ls hP hD hS hl hF
  · have hF := brF c6 hF
    refine lv_iconst (v := 0) hx hb dX8_sort_9 (by decide) ?_
    refine lv_goto (tgt := 14) hx hb dX8_sort_10 (by decide) ?_
    exact hk14_4 0 H locs ls hP hD hS hl hF
abbrev rm_X8_crack : Room := { frames := 3, cells := 0, slots := 0, locals := 74 }
theorem hd_X8_crack : yX8_crack.cls = RX8 ∧ yX8_crack.cls ≠ "java/lang/invoke/MethodHandle" ∧ yX8_crack.cls ≠ "java/lang/invoke/VarHandle" ∧ (parseMethodDescriptor yX8_crack.desc).map (fun d => d.parameters.length) = some 1 := by decide +kernel
set_option maxRecDepth 100000 in
set_option maxHeartbeats 4000000 in
theorem c_X8_crack (l : Launch) (D : va_G) (t : Nat → ClassId) (z : Nat) (x : Nat → Nat) (N : Nat) (a_t : Nat) (a_t_a : Nat) (a_t_kept : Nat) (a_t_moved : Nat) (v_t_fresh : Value) (v_t_aside : Value) (v_t_buffer : Value) (v_t_written : Value) (t_keptMany : Int32) (t_thrown : Int32) (t_buffered : Int32) (t_size : Int32) (t_at : Int32) (t_behind : Int32) (t_kind : Int32) (t_number : Int32) (t_wrong : Int32) (t_wrongAt : Int32) (t_errorAt : Int32) (t_unused : Int32) (t_writtenMany : Int32) (t_a_ : (Nat → Int32)) (t_kept_ : (Nat → Int32)) (t_moved_ : (Nat → Int32)) (p1 : Int32) (sz : Nat) (r : Int32) (t_keptMany' : Int32) (t_thrown' : Int32) (t_a_' : (Nat → Int32)) (t_kept_' : (Nat → Int32)) (t_moved_' : (Nat → Int32)) (hF : f_X8_crack N t_keptMany t_a_ t_kept_ t_moved_ p1 = some (r, t_keptMany', t_thrown', t_a_', t_kept_', t_moved_')) : WrM l D (TY t) z x yX8_crack wsX8_crack rm_X8_crack [.ref a_t, .int p1] [(a_t, .inr (8, [.ref a_t_a, v_t_fresh, v_t_aside, .ref a_t_kept, .int t_keptMany, .int t_thrown, v_t_buffer, .int t_buffered, .int t_size, .int t_at, .int t_behind, .int t_kind, .int t_number, .int t_wrong, .int t_wrongAt, .int t_errorAt, .ref a_t_moved, .int t_unused, v_t_written, .int t_writtenMany])), (a_t_a, .inl (t 0, 876, .inl t_a_)), (a_t_kept, .inl (t 0, 7008, .inl t_kept_)), (a_t_moved, .inl (t 0, 120, .inl t_moved_))] [(a_t, .inr (8, [.ref a_t_a, v_t_fresh, v_t_aside, .ref a_t_kept, .int t_keptMany', .int t_thrown', v_t_buffer, .int t_buffered, .int t_size, .int t_at, .int t_behind, .int t_kind, .int t_number, .int t_wrong, .int t_wrongAt, .int t_errorAt, .ref a_t_moved, .int t_unused, v_t_written, .int t_writtenMany])), (a_t_a, .inl (t 0, 876, .inl t_a_')), (a_t_kept, .inl (t 0, 7008, .inl t_kept_')), (a_t_moved, .inl (t 0, 120, .inl t_moved_'))] sz (some (.int r)) 0 0 := by
  obtain ⟨T9, hT⟩ : ∃ T9, T9 = (r, t_keptMany', t_thrown', t_a_', t_kept_', t_moved_') := ⟨_, rfl⟩
  rw [← hT] at hF
  obtain rfl : r = T9.1 := by rw [hT]
  obtain rfl : t_keptMany' = T9.2.1 := by rw [hT]
  obtain rfl : t_thrown' = T9.2.2.1 := by rw [hT]
  obtain rfl : t_a_' = T9.2.2.2.1 := by rw [hT]
  obtain rfl : t_kept_' = T9.2.2.2.2.1 := by rw [hT]
  obtain rfl : t_moved_' = T9.2.2.2.2.2 := by rw [hT]
  clear hT
  refine wr_of (cc := cX8_crack) (maxL := 3) (ret := (some .int)) (by decide) rfl (Nat.le_of_ble_eq_true rfl) ?_
  intro p e s m args below meth c A Q hQ hx hb hr hml hts hown hlocks hin H locs hP hD hS hA hz hC ls hl
  have hown : s.vm.findClass RX8 = some m.cls := hown
  have hl : lv_has ls 3 [(0, .ref a_t), (1, .int p1)] := hl
  have hK := hC.1
  have iw8 : ∀ w ∈ wsX80, w ∈ wsX8_crack := fun _ h => List.mem_cons_of_mem _ (List.mem_append_right _ h)
  have hf7 := hts (.fieldLink RX8 7 "CrackedColumnModel" "a" "[I") (by decide +kernel)
  have hf45 := hts (.fieldLink RX8 45 "CrackedColumnModel" "thrown" "I") (by decide +kernel)
  unfold f_X8_crack at hF
  refine lv_aload_n hx hb dX8_crack_0 rfl (lv_at hl 0 rfl) ?_
  refine lv_iload_n hx hb dX8_crack_1 rfl (lv_at hl 1 rfl) ?_
  refine lv_iconst (v := 0) hx hb dX8_crack_2 (by decide) ?_
  refine lv_sipush (v := 10000) hx hb dX8_crack_3 (by decide) ?_
  obtain ⟨r6_1, h6_1, hF⟩ := bndE hF
  refine rdS (As := [.int p1, .int 0, .int 10000]) (rest := [.ref a_t]) ⟨hx, hb, hml, hown, hts⟩ (c_X8_isIn l D t z x p1 0 10000 H r6_1 h6_1) (va_cwS 3 hts gX8_crack_X8_isIn rfl rfl rfl hd_X8_isIn.2 ⟨Nat.le_of_ble_eq_true rfl, Nat.le_of_ble_eq_true rfl⟩) (hC.at hz hS) (selP (m9 := [false, false, false, false]) rfl rfl hP) rfl hl.1 rfl (Nat.le_of_ble_eq_true rfl) dX8_crack_6 ⟨Nat.zero_le _, Nat.zero_le _⟩ rfl ?_
  obtain ⟨k32_4, ek32_4, hF⟩ := jnE hF
  have hk32_4 : ∀ (s0_32_3 : Int32) (H : Heap) (locs : List Loc) (ls : Array Slot), va_P D vwCl [(a_t, .inr (8, [.ref a_t_a, v_t_fresh, v_t_aside, .ref a_t_kept, .int t_keptMany, .int t_thrown, v_t_buffer, .int t_buffered, .int t_size, .int t_at, .int t_behind, .int t_kind, .int t_number, .int t_wrong, .int t_wrongAt, .int t_errorAt, .ref a_t_moved, .int t_unused, v_t_written, .int t_writtenMany])), (a_t_a, .inl (t 0, 876, .inl t_a_)), (a_t_kept, .inl (t 0, 7008, .inl t_kept_)), (a_t_moved, .inl (t 0, 120, .inl t_moved_))] H → va_D A [(a_t, .inr (8, [.ref a_t_a, v_t_fresh, v_t_aside, .ref a_t_kept, .int t_keptMany, .int t_thrown, v_t_buffer, .int t_buffered, .int t_size, .int t_at, .int t_behind, .int t_kind, .int t_number, .int t_wrong, .int t_wrongAt, .int t_errorAt, .ref a_t_moved, .int t_unused, v_t_written, .int t_writtenMany])), (a_t_a, .inl (t 0, 876, .inl t_a_)), (a_t_kept, .inl (t 0, 7008, .inl t_kept_)), (a_t_moved, .inl (t 0, 120, .inl t_moved_))] → va_S A s.heap H locs → lv_has ls 3 [(0, .ref a_t), (1, .int p1)] → k32_4 s0_32_3 = some T9 → W p l e rm_X8_crack s m args below meth c H locs 0 0 Q (F0 m 32 ls [.int s0_32_3, .ref a_t]) := by
    subst ek32_4
    intro s0_32_3 H locs ls hP hD hS hl hF
    refine my_put (ty := .int) (v := .int s0_32_3) (ci := 8) (C := RX8) (T := TX8) (N := 20) (wn := [(a_t, .inr (8, [.ref a_t_a, v_t_fresh, v_t_aside, .ref a_t_kept, .int t_keptMany, .int s0_32_3, v_t_buffer, .int t_buffered, .int t_size, .int t_at, .int t_behind, .int t_kind, .int t_number, .int t_wrong, .int t_wrongAt, .int t_errorAt, .ref a_t_moved, .int t_unused, v_t_written, .int t_writtenMany])), (a_t_a, .inl (t 0, 876, .inl t_a_)), (a_t_kept, .inl (t 0, 7008, .inl t_kept_)), (a_t_moved, .inl (t 0, 120, .inl t_moved_))]) hx hb hts iw8 tyX8 tyX8_ok nmX8 hown hK hP hD hS 0 rfl rfl 5 (by decide) hf45 (fun _ h9 => h9) rfl (by decide +kernel) rfl rfl (Nat.le_of_ble_eq_true rfl) rfl dX8_crack_32 (fun H locs hP hD hS => ?_)
    refine lv_aload_n hx hb dX8_crack_35 rfl (lv_at hl 0 rfl) ?_
    refine va_get (D := D) (ci := 8) (v := .int s0_32_3) (C := RX8) (T := TX8) (N := 20) hx hb hts iw8 hown hK hP 0 rfl rfl 5 (by decide) hf45 (fun _ h9 => h9) rfl dX8_crack_36 ?_
    refine lv_if_le (tgt := 44) hx hb dX8_crack_39 (by decide) (fun c39 => ?_) (fun c39 => ?_)
    · have hF := brT c39 hF
      refine lv_aload_n hx hb dX8_crack_44 rfl (lv_at hl 0 rfl) ?_
      obtain ⟨t_keptMany_45_5, t_kept_45_6, h45_6, hF⟩ := bnd2E hF
      refine wrVM (As := []) (rest := []) (C := RX8) (wn := [(a_t, .inr (8, [.ref a_t_a, v_t_fresh, v_t_aside, .ref a_t_kept, .int t_keptMany_45_5, .int s0_32_3, v_t_buffer, .int t_buffered, .int t_size, .int t_at, .int t_behind, .int t_kind, .int t_number, .int t_wrong, .int t_wrongAt, .int t_errorAt, .ref a_t_moved, .int t_unused, v_t_written, .int t_writtenMany])), (a_t_a, .inl (t 0, 876, .inl t_a_)), (a_t_kept, .inl (t 0, 7008, .inl t_kept_45_6)), (a_t_moved, .inl (t 0, 120, .inl t_moved_))]) ⟨hx, hb, hml, hown, hts⟩ (c_X8_keeps l D t z x N a_t a_t_a a_t_kept v_t_fresh v_t_aside v_t_buffer (.ref a_t_moved) v_t_written t_keptMany s0_32_3 t_buffered t_size t_at t_behind t_kind t_number t_wrong t_wrongAt t_errorAt t_unused t_writtenMany t_a_ t_kept_ H.size t_keptMany_45_5 t_kept_45_6 h45_6) (cwV 0 hts gX8_crack_X8_keeps rfl rfl rfl hd_X8_keeps ⟨Nat.le_of_ble_eq_true rfl, Nat.le_of_ble_eq_true rfl⟩) (hC.at hz hS) hP hD hS hA hz [true, true, true, false] rfl rfl rfl rfl 0 rfl (show vwCl[8]? = some (RX8, TX8, 20) from rfl) rfl rfl hl.1 rfl (Nat.le_of_ble_eq_true rfl) dX8_crack_45 ⟨Nat.zero_le _, Nat.zero_le _⟩ rfl (fun H locs hP hD hS => ?_)
      refine lv_aload_n hx hb dX8_crack_48 rfl (lv_at hl 0 rfl) ?_
      refine lv_iload_n hx hb dX8_crack_49 rfl (lv_at hl 1 rfl) ?_
      obtain ⟨r50_8, t_a_50_9, t_moved_50_10, h50_10, hF⟩ := bnd3E hF
      refine wrVM (As := [.int p1]) (rest := []) (C := RX8) (wn := [(a_t, .inr (8, [.ref a_t_a, v_t_fresh, v_t_aside, .ref a_t_kept, .int t_keptMany_45_5, .int s0_32_3, v_t_buffer, .int t_buffered, .int t_size, .int t_at, .int t_behind, .int t_kind, .int t_number, .int t_wrong, .int t_wrongAt, .int t_errorAt, .ref a_t_moved, .int t_unused, v_t_written, .int t_writtenMany])), (a_t_a, .inl (t 0, 876, .inl t_a_50_9)), (a_t_kept, .inl (t 0, 7008, .inl t_kept_45_6)), (a_t_moved, .inl (t 0, 120, .inl t_moved_50_10))]) ⟨hx, hb, hml, hown, hts⟩ (c_X8_cracks l D t z x N a_t a_t_a a_t_moved v_t_fresh v_t_aside (.ref a_t_kept) v_t_buffer v_t_written t_keptMany_45_5 s0_32_3 t_buffered t_size t_at t_behind t_kind t_number t_wrong t_wrongAt t_errorAt t_unused t_writtenMany t_a_ t_moved_ p1 H.size r50_8 t_a_50_9 t_moved_50_10 h50_10) (cwV 1 hts gX8_crack_X8_cracks rfl rfl rfl hd_X8_cracks ⟨Nat.le_of_ble_eq_true rfl, Nat.le_of_ble_eq_true rfl⟩) (hC.at hz hS) hP hD hS hA hz [true, true, false, true] rfl rfl rfl rfl 0 rfl (show vwCl[8]? = some (RX8, TX8, 20) from rfl) rfl rfl hl.1 rfl (Nat.le_of_ble_eq_true rfl) dX8_crack_50 ⟨Nat.zero_le _, Nat.zero_le _⟩ rfl (fun H locs hP hD hS => ?_)
      refine lv_istore_n (lv' := [(2, .int r50_8), (0, .ref a_t), (1, .int p1)]) hx hb dX8_crack_53 rfl hl (by decide) rfl (fun ls hl => ?_)
      refine lv_aload_n hx hb dX8_crack_54 rfl (lv_at hl 1 rfl) ?_
      refine va_get (D := D) (ci := 8) (v := .ref a_t_a) (C := RX8) (T := TX8) (N := 20) hx hb hts iw8 hown hK hP 0 rfl rfl 0 (by decide) hf7 (fun _ h9 => h9) rfl dX8_crack_55 ?_
      refine lv_bipush (v := 8) hx hb dX8_crack_58 (by decide) ?_
      refine lv_dup2_11 hx hb dX8_crack_60 rfl rfl ?_
      refine my_iald (v := t_a_50_9 8) hx hb hK hP 1 0 rfl rfl (vp_lit (by decide +kernel)) rfl dX8_crack_61 ?_
      refine lv_iload_n hx hb dX8_crack_62 rfl (lv_at hl 0 rfl) ?_
      refine lv_iadd hx hb dX8_crack_63 ?_
      obtain ⟨t_a_64_12, et_a_64_12⟩ : ∃ y : Nat → Int32, y = upd t_a_50_9 8 ((t_a_50_9 8) + r50_8) := ⟨_, rfl⟩
      have hF := ltE et_a_64_12 hF
      refine my_iast (g := t_a_64_12) (wn := [(a_t, .inr (8, [.ref a_t_a, v_t_fresh, v_t_aside, .ref a_t_kept, .int t_keptMany_45_5, .int s0_32_3, v_t_buffer, .int t_buffered, .int t_size, .int t_at, .int t_behind, .int t_kind, .int t_number, .int t_wrong, .int t_wrongAt, .int t_errorAt, .ref a_t_moved, .int t_unused, v_t_written, .int t_writtenMany])), (a_t_a, .inl (t 0, 876, .inl t_a_64_12)), (a_t_kept, .inl (t 0, 7008, .inl t_kept_45_6)), (a_t_moved, .inl (t 0, 120, .inl t_moved_50_10))]) hx hb hK hP hD hS 1 0 rfl rfl (vp_lit (by decide +kernel)) et_a_64_12 rfl dX8_crack_64 (fun H locs hP hD hS => ?_)
      refine lv_iload_n hx hb dX8_crack_65 rfl (lv_at hl 0 rfl) ?_
      cases hF
      exact we_iret hx hb hr hlocks dX8_crack_66 rfl hQ hP hD hS
    · have hF := brF c39 hF
      refine lv_iconst (v := 0) hx hb dX8_crack_42 (by decide) ?_
      cases hF
      exact we_iret hx hb hr hlocks dX8_crack_43 rfl hQ hP hD hS
  refine lv_if_ne (tgt := 16) hx hb dX8_crack_9 (by decide) (fun c9 => ?_) (fun c9 => ?_)
  · have hF := brF c9 hF
    refine lv_aload_n hx hb dX8_crack_16 rfl (lv_at hl 0 rfl) ?_
    refine va_get (D := D) (ci := 8) (v := .ref a_t_a) (C := RX8) (T := TX8) (N := 20) hx hb hts iw8 hown hK hP 0 rfl rfl 0 (by decide) hf7 (fun _ h9 => h9) rfl dX8_crack_17 ?_
    refine lv_iconst (v := 3) hx hb dX8_crack_20 (by decide) ?_
    refine my_iald (v := t_a_ 3) hx hb hK hP 1 0 rfl rfl (vp_lit (by decide +kernel)) rfl dX8_crack_21 ?_
    refine lv_bipush (v := 60) hx hb dX8_crack_22 (by decide) ?_
    refine lv_icmp_lt (tgt := 31) hx hb dX8_crack_24 (by decide) (fun c24 => ?_) (fun c24 => ?_)
    · have hF := brT c24 hF
      refine lv_iconst (v := 0) hx hb dX8_crack_31 (by decide) ?_
      exact hk32_4 0 H locs ls hP hD hS hl hF
    · have hF := brF c24 hF
      refine lv_iconst (v := 2) hx hb dX8_crack_27 (by decide) ?_
      refine lv_goto (tgt := 32) hx hb dX8_crack_28 (by decide) ?_
      exact hk32_4 2 H locs ls hP hD hS hl hF
  · have hF := brT c9 hF
    refine lv_iconst (v := 1) hx hb dX8_crack_12 (by decide) ?_
    refine lv_goto (tgt := 32) hx hb dX8_crack_13 (by decide) ?_
    exact hk32_4 1 H locs ls hP hD hS hl hF
abbrev rm_X8_largest : Room := { frames := 1, cells := 0, slots := 0, locals := 22 }
theorem hd_X8_largest : yX8_largest.cls = RX8 ∧ yX8_largest.cls ≠ "java/lang/invoke/MethodHandle" ∧ yX8_largest.cls ≠ "java/lang/invoke/VarHandle" ∧ (parseMethodDescriptor yX8_largest.desc).map (fun d => d.parameters.length) = some 0 := by decide +kernel
set_option maxRecDepth 100000 in
set_option maxHeartbeats 4000000 in
theorem c_X8_largest (l : Launch) (D : va_G) (t : Nat → ClassId) (z : Nat) (x : Nat → Nat) (N : Nat) (a_t : Nat) (a_t_a : Nat) (v_t_fresh : Value) (v_t_aside : Value) (v_t_kept : Value) (v_t_buffer : Value) (v_t_moved : Value) (v_t_written : Value) (t_keptMany : Int32) (t_thrown : Int32) (t_buffered : Int32) (t_size : Int32) (t_at : Int32) (t_behind : Int32) (t_kind : Int32) (t_number : Int32) (t_wrong : Int32) (t_wrongAt : Int32) (t_errorAt : Int32) (t_unused : Int32) (t_writtenMany : Int32) (t_a_ : (Nat → Int32)) (H : Heap) (r : Int32) (hF : f_X8_largest N t_a_ = some (r)) : RdM l D (TY t) z x yX8_largest wsX8_largest rm_X8_largest [.ref a_t] [(a_t, .inr (8, [.ref a_t_a, v_t_fresh, v_t_aside, v_t_kept, .int t_keptMany, .int t_thrown, v_t_buffer, .int t_buffered, .int t_size, .int t_at, .int t_behind, .int t_kind, .int t_number, .int t_wrong, .int t_wrongAt, .int t_errorAt, v_t_moved, .int t_unused, v_t_written, .int t_writtenMany])), (a_t_a, .inl (t 0, 876, .inl t_a_))] H (some (.int r)) := by
  refine rd_of (cc := cX8_largest) (maxL := 3) (ret := (some .int)) (by decide) rfl (Nat.le_of_ble_eq_true rfl) ?_
  intro p e s m args below meth c Q hQ hx hb hr hml hts hown hlocks hH hP hC ls hl
  have hown : s.vm.findClass RX8 = some m.cls := hown
  have hl : lv_has ls 3 [(0, .ref a_t)] := hl
  have hK := hC.1
  have iw8 : ∀ w ∈ wsX80, w ∈ wsX8_largest := fun _ h => List.mem_cons_of_mem _ (List.mem_append_right _ h)
  have hf7 := hts (.fieldLink RX8 7 "CrackedColumnModel" "a" "[I") (by decide +kernel)
  unfold f_X8_largest at hF
  refine lv_iconst (v := (-1)) hx hb dX8_largest_0 (by decide) ?_
  refine lv_istore_n (lv' := [(1, .int (-1)), (0, .ref a_t)]) hx hb dX8_largest_1 rfl hl (by decide) rfl (fun ls hl => ?_)
  refine lv_iconst (v := 0) hx hb dX8_largest_2 (by decide) ?_
  refine lv_istore_n (lv' := [(2, .int 0), (1, .int (-1)), (0, .ref a_t)]) hx hb dX8_largest_3 rfl hl (by decide) rfl (fun ls hl => ?_)
  obtain ⟨k55_2, ek55_2, hF⟩ := jnE hF
  have hk55_2 : ∀ (x1_55_1 : Int32) (ls : Array Slot), lv_has ls 3 [(1, .int x1_55_1)] → k55_2 x1_55_1 = some (r) → W p l e rm_X8_largest s m args below meth c H [] 0 0 Q (F0 m 55 ls []) := by
    subst ek55_2
    intro x1_55_1 ls hl hF
    refine lv_iload_n hx hb dX8_largest_55 rfl (lv_at hl 0 rfl) ?_
    cases hF
    exact rd_iret hx hb hr hlocks dX8_largest_56 rfl hQ
  have hlp4 : ∀ n4 : Nat, ∀ (x1_4_3 : Int32) (x2_4_4 : Int32) (ls : Array Slot), lv_has ls 3 [(0, .ref a_t), (1, .int x1_4_3), (2, .int x2_4_4)] → f_X8_largest_4 t_a_ k55_2 n4 x1_4_3 x2_4_4 = some (r) → W p l e rm_X8_largest s m args below meth c H [] 0 0 Q (F0 m 4 ls []) := by
    intro n4
    induction n4 with
    | zero =>
      intro x1_4_3 x2_4_4 ls hl hF
      cases (show none = some (r) from hF)
    | succ n4 ih4 =>
      intro x1_4_3 x2_4_4 ls hl hF
      rw [f_X8_largest_4] at hF
      refine lv_iload_n hx hb dX8_largest_4 rfl (lv_at hl 2 rfl) ?_
      refine lv_aload_n hx hb dX8_largest_5 rfl (lv_at hl 0 rfl) ?_
      refine va_get (D := D) (ci := 8) (v := .ref a_t_a) (C := RX8) (T := TX8) (N := 20) hx hb hts iw8 hown hK hP 0 rfl rfl 0 (by decide) hf7 (fun _ h9 => h9) rfl dX8_largest_6 ?_
      refine lv_iconst (v := 3) hx hb dX8_largest_9 (by decide) ?_
      refine my_iald (v := t_a_ 3) hx hb hK hP 1 0 rfl rfl (vp_lit (by decide +kernel)) rfl dX8_largest_10 ?_
      refine lv_icmp_ge (tgt := 55) hx hb dX8_largest_11 (by decide) (fun c11 => ?_) (fun c11 => ?_)
      · have hF := brT c11 hF
        exact hk55_2 x1_4_3 ls (lv_sub hl [1] rfl) hF
      · have hF := brF c11 hF
        refine lv_aload_n hx hb dX8_largest_14 rfl (lv_at hl 0 rfl) ?_
        refine lv_iload_n hx hb dX8_largest_15 rfl (lv_at hl 2 rfl) ?_
        refine lv_iconst (v := 3) hx hb dX8_largest_16 (by decide) ?_
        obtain ⟨r17_5, h17_5, hF⟩ := bndE hF
        refine rdV (As := [.int x2_4_4, .int 3]) (rest := []) (C := RX8) ⟨hx, hb, hml, hown, hts⟩ (c_X8_of l D t z x a_t a_t_a v_t_fresh v_t_aside v_t_kept v_t_buffer v_t_moved v_t_written t_keptMany t_thrown t_buffered t_size t_at t_behind t_kind t_number t_wrong t_wrongAt t_errorAt t_unused t_writtenMany t_a_ x2_4_4 3 H r17_5 h17_5) (cwV 2 hts gX8_largest_X8_of rfl rfl rfl hd_X8_of ⟨Nat.le_of_ble_eq_true rfl, Nat.le_of_ble_eq_true rfl⟩) hC (selP (m9 := [true, true]) rfl rfl hP) 0 rfl (show vwCl[8]? = some (RX8, TX8, 20) from rfl) rfl rfl hl.1 rfl (Nat.le_of_ble_eq_true rfl) dX8_largest_17 ⟨Nat.zero_le _, Nat.zero_le _⟩ rfl ?_
        refine lv_if_ne (tgt := 47) hx hb dX8_largest_20 (by decide) (fun c20 => ?_) (fun c20 => ?_)
        · have hF := brF c20 hF
          refine lv_iload_n hx hb dX8_largest_47 rfl (lv_at hl 1 rfl) ?_
          refine lv_istore_n (lv' := [(1, .int x1_4_3), (0, .ref a_t), (2, .int x2_4_4)]) hx hb dX8_largest_48 rfl hl (by decide) rfl (fun ls hl => ?_)
          obtain ⟨y49_7, ey49_7⟩ : ∃ y : Int32, y = x2_4_4 + 1 := ⟨_, rfl⟩
          have hF := ltE ey49_7 hF
          refine lv_iinc (v := y49_7) (lv' := [(2, .int y49_7), (1, .int x1_4_3), (0, .ref a_t)]) hx hb dX8_largest_49 hl (k := 2) rfl (by rw [ey49_7]; rfl) (by decide) rfl (fun ls hl => ?_)
          refine lv_goto (tgt := 4) hx hb dX8_largest_52 (by decide) ?_
          exact ih4 x1_4_3 y49_7 ls (lv_sub hl [2, 1, 0] rfl) hF
        · have hF := brT c20 hF
          refine lv_iload_n hx hb dX8_largest_23 rfl (lv_at hl 1 rfl) ?_
          refine lv_iconst (v := (-1)) hx hb dX8_largest_24 (by decide) ?_
          refine lv_icmp_eq (tgt := 43) hx hb dX8_largest_25 (by decide) (fun c25 => ?_) (fun c25 => ?_)
          · have hF := brT c25 hF
            refine lv_iload_n hx hb dX8_largest_43 rfl (lv_at hl 2 rfl) ?_
            refine lv_goto (tgt := 48) hx hb dX8_largest_44 (by decide) ?_
            refine lv_istore_n (lv' := [(1, .int x2_4_4), (0, .ref a_t), (2, .int x2_4_4)]) hx hb dX8_largest_48 rfl hl (by decide) rfl (fun ls hl => ?_)
            obtain ⟨y49_8, ey49_8⟩ : ∃ y : Int32, y = x2_4_4 + 1 := ⟨_, rfl⟩
            have hF := ltE ey49_8 hF
            refine lv_iinc (v := y49_8) (lv' := [(2, .int y49_8), (1, .int x2_4_4), (0, .ref a_t)]) hx hb dX8_largest_49 hl (k := 2) rfl (by rw [ey49_8]; rfl) (by decide) rfl (fun ls hl => ?_)
            refine lv_goto (tgt := 4) hx hb dX8_largest_52 (by decide) ?_
            exact ih4 x2_4_4 y49_8 ls (lv_sub hl [2, 1, 0] rfl) hF
          · have hF := brF c25 hF
            refine lv_aload_n hx hb dX8_largest_28 rfl (lv_at hl 0 rfl) ?_
            refine lv_iload_n hx hb dX8_largest_29 rfl (lv_at hl 2 rfl) ?_
            refine lv_iconst (v := 1) hx hb dX8_largest_30 (by decide) ?_
            obtain ⟨r31_9, h31_9, hF⟩ := bndE hF
            refine rdV (As := [.int x2_4_4, .int 1]) (rest := []) (C := RX8) ⟨hx, hb, hml, hown, hts⟩ (c_X8_of l D t z x a_t a_t_a v_t_fresh v_t_aside v_t_kept v_t_buffer v_t_moved v_t_written t_keptMany t_thrown t_buffered t_size t_at t_behind t_kind t_number t_wrong t_wrongAt t_errorAt t_unused t_writtenMany t_a_ x2_4_4 1 H r31_9 h31_9) (cwV 2 hts gX8_largest_X8_of rfl rfl rfl hd_X8_of ⟨Nat.le_of_ble_eq_true rfl, Nat.le_of_ble_eq_true rfl⟩) hC (selP (m9 := [true, true]) rfl rfl hP) 0 rfl (show vwCl[8]? = some (RX8, TX8, 20) from rfl) rfl rfl hl.1 rfl (Nat.le_of_ble_eq_true rfl) dX8_largest_31 ⟨Nat.zero_le _, Nat.zero_le _⟩ rfl ?_
            refine lv_aload_n hx hb dX8_largest_34 rfl (lv_at hl 0 rfl) ?_
            refine lv_iload_n hx hb dX8_largest_35 rfl (lv_at hl 1 rfl) ?_
            refine lv_iconst (v := 1) hx hb dX8_largest_36 (by decide) ?_
            obtain ⟨r37_11, h37_11, hF⟩ := bndE hF
            refine rdV (As := [.int x1_4_3, .int 1]) (rest := [.int r31_9]) (C := RX8) ⟨hx, hb, hml, hown, hts⟩ (c_X8_of l D t z x a_t a_t_a v_t_fresh v_t_aside v_t_kept v_t_buffer v_t_moved v_t_written t_keptMany t_thrown t_buffered t_size t_at t_behind t_kind t_number t_wrong t_wrongAt t_errorAt t_unused t_writtenMany t_a_ x1_4_3 1 H r37_11 h37_11) (cwV 2 hts gX8_largest_X8_of rfl rfl rfl hd_X8_of ⟨Nat.le_of_ble_eq_true rfl, Nat.le_of_ble_eq_true rfl⟩) hC (selP (m9 := [true, true]) rfl rfl hP) 0 rfl (show vwCl[8]? = some (RX8, TX8, 20) from rfl) rfl rfl hl.1 rfl (Nat.le_of_ble_eq_true rfl) dX8_largest_37 ⟨Nat.zero_le _, Nat.zero_le _⟩ rfl ?_
            refine lv_icmp_le (tgt := 47) hx hb dX8_largest_40 (by decide) (fun c40 => ?_) (fun c40 => ?_)
            · have hF := brT c40 hF
              refine lv_iload_n hx hb dX8_largest_47 rfl (lv_at hl 1 rfl) ?_
              refine lv_istore_n (lv' := [(1, .int x1_4_3), (0, .ref a_t), (2, .int x2_4_4)]) hx hb dX8_largest_48 rfl hl (by decide) rfl (fun ls hl => ?_)
              obtain ⟨y49_13, ey49_13⟩ : ∃ y : Int32, y = x2_4_4 + 1 := ⟨_, rfl⟩
              have hF := ltE ey49_13 hF
              refine lv_iinc (v := y49_13) (lv' := [(2, .int y49_13), (1, .int x1_4_3), (0, .ref a_t)]) hx hb dX8_largest_49 hl (k := 2) rfl (by rw [ey49_13]; rfl) (by decide) rfl (fun ls hl => ?_)
              refine lv_goto (tgt := 4) hx hb dX8_largest_52 (by decide) ?_
              exact ih4 x1_4_3 y49_13 ls (lv_sub hl [2, 1, 0] rfl) hF
            · have hF := brF c40 hF
              refine lv_iload_n hx hb dX8_largest_43 rfl (lv_at hl 2 rfl) ?_
              refine lv_goto (tgt := 48) hx hb dX8_largest_44 (by decide) ?_
              refine lv_istore_n (lv' := [(1, .int x2_4_4), (0, .ref a_t), (2, .int x2_4_4)]) hx hb dX8_largest_48 rfl hl (by decide) rfl (fun ls hl => ?_)
              obtain ⟨y49_14, ey49_14⟩ : ∃ y : Int32, y = x2_4_4 + 1 := ⟨_, rfl⟩
              have hF := ltE ey49_14 hF
              refine lv_iinc (v := y49_14) (lv' := [(2, .int y49_14), (1, .int x2_4_4), (0, .ref a_t)]) hx hb dX8_largest_49 hl (k := 2) rfl (by rw [ey49_14]; rfl) (by decide) rfl (fun ls hl => ?_)
              refine lv_goto (tgt := 4) hx hb dX8_largest_52 (by decide) ?_
              exact ih4 x2_4_4 y49_14 ls (lv_sub hl [2, 1, 0] rfl) hF
  exact hlp4 N (-1) 0 ls (lv_sub hl [2, 1, 0] rfl) hF
abbrev rm_X8_unevenAt : Room := { frames := 2, cells := 0, slots := 0, locals := 45 }
theorem hd_X8_unevenAt : yX8_unevenAt.cls = RX8 ∧ yX8_unevenAt.cls ≠ "java/lang/invoke/MethodHandle" ∧ yX8_unevenAt.cls ≠ "java/lang/invoke/VarHandle" ∧ (parseMethodDescriptor yX8_unevenAt.desc).map (fun d => d.parameters.length) = some 2 := by decide +kernel
set_option maxRecDepth 100000 in
set_option maxHeartbeats 4000000 in
theorem c_X8_unevenAt (l : Launch) (D : va_G) (t : Nat → ClassId) (z : Nat) (x : Nat → Nat) (N : Nat) (a_t : Nat) (a_t_a : Nat) (v_t_fresh : Value) (v_t_aside : Value) (v_t_kept : Value) (v_t_buffer : Value) (v_t_moved : Value) (v_t_written : Value) (t_keptMany : Int32) (t_thrown : Int32) (t_buffered : Int32) (t_size : Int32) (t_at : Int32) (t_behind : Int32) (t_kind : Int32) (t_number : Int32) (t_wrong : Int32) (t_wrongAt : Int32) (t_errorAt : Int32) (t_unused : Int32) (t_writtenMany : Int32) (t_a_ : (Nat → Int32)) (p1 : Int32) (p2 : Int32) (H : Heap) (r : Int32) (hF : f_X8_unevenAt N t_a_ p1 p2 = some (r)) : RdM l D (TY t) z x yX8_unevenAt wsX8_unevenAt rm_X8_unevenAt [.ref a_t, .int p1, .int p2] [(a_t, .inr (8, [.ref a_t_a, v_t_fresh, v_t_aside, v_t_kept, .int t_keptMany, .int t_thrown, v_t_buffer, .int t_buffered, .int t_size, .int t_at, .int t_behind, .int t_kind, .int t_number, .int t_wrong, .int t_wrongAt, .int t_errorAt, v_t_moved, .int t_unused, v_t_written, .int t_writtenMany])), (a_t_a, .inl (t 0, 876, .inl t_a_))] H (some (.int r)) := by
  refine rd_of (cc := cX8_unevenAt) (maxL := 5) (ret := (some .int)) (by decide) rfl (Nat.le_of_ble_eq_true rfl) ?_
  intro p e s m args below meth c Q hQ hx hb hr hml hts hown hlocks hH hP hC ls hl
  have hown : s.vm.findClass RX8 = some m.cls := hown
  have hl : lv_has ls 5 [(0, .ref a_t), (1, .int p1), (2, .int p2)] := hl
  have hK := hC.1
  unfold f_X8_unevenAt at hF
  refine lv_iconst (v := 0) hx hb dX8_unevenAt_0 (by decide) ?_
  refine lv_istore_n (lv' := [(3, .int 0), (0, .ref a_t), (1, .int p1), (2, .int p2)]) hx hb dX8_unevenAt_1 rfl hl (by decide) rfl (fun ls hl => ?_)
  refine lv_aload_n hx hb dX8_unevenAt_2 rfl (lv_at hl 1 rfl) ?_
  refine lv_iload_n hx hb dX8_unevenAt_3 rfl (lv_at hl 2 rfl) ?_
  obtain ⟨r4_1, h4_1, hF⟩ := bndE hF
  refine rdV (As := [.int p1]) (rest := []) (C := RX8) ⟨hx, hb, hml, hown, hts⟩ (c_X8_firstPlace l D t z x N a_t a_t_a v_t_fresh v_t_aside v_t_kept v_t_buffer v_t_moved v_t_written t_keptMany t_thrown t_buffered t_size t_at t_behind t_kind t_number t_wrong t_wrongAt t_errorAt t_unused t_writtenMany t_a_ p1 H r4_1 h4_1) (cwV 1 hts gX8_unevenAt_X8_firstPlace rfl rfl rfl hd_X8_firstPlace ⟨Nat.le_of_ble_eq_true rfl, Nat.le_of_ble_eq_true rfl⟩) hC (selP (m9 := [true, true]) rfl rfl hP) 0 rfl (show vwCl[8]? = some (RX8, TX8, 20) from rfl) rfl rfl hl.1 rfl (Nat.le_of_ble_eq_true rfl) dX8_unevenAt_4 ⟨Nat.zero_le _, Nat.zero_le _⟩ rfl ?_
  refine lv_istore (lv' := [(4, .int r4_1), (3, .int 0), (0, .ref a_t), (1, .int p1), (2, .int p2)]) hx hb dX8_unevenAt_7 hl (by decide) rfl (fun ls hl => ?_)
  obtain ⟨k45_4, ek45_4, hF⟩ := jnE hF
  have hk45_4 : ∀ (x3_45_3 : Int32) (ls : Array Slot), lv_has ls 5 [(3, .int x3_45_3)] → k45_4 x3_45_3 = some (r) → W p l e rm_X8_unevenAt s m args below meth c H [] 0 0 Q (F0 m 45 ls []) := by
    subst ek45_4
    intro x3_45_3 ls hl hF
    refine lv_iload_n hx hb dX8_unevenAt_45 rfl (lv_at hl 0 rfl) ?_
    refine lv_if_ge (tgt := 54) hx hb dX8_unevenAt_46 (by decide) (fun c46 => ?_) (fun c46 => ?_)
    · have hF := brT c46 hF
      refine lv_iload_n hx hb dX8_unevenAt_54 rfl (lv_at hl 0 rfl) ?_
      cases hF
      exact rd_iret hx hb hr hlocks dX8_unevenAt_55 rfl hQ
    · have hF := brF c46 hF
      refine lv_iload_n hx hb dX8_unevenAt_49 rfl (lv_at hl 0 rfl) ?_
      refine lv_ineg hx hb dX8_unevenAt_50 ?_
      refine lv_goto (tgt := 55) hx hb dX8_unevenAt_51 (by decide) ?_
      cases hF
      exact rd_iret hx hb hr hlocks dX8_unevenAt_55 rfl hQ
  have hlp9 : ∀ n9 : Nat, ∀ (x3_9_5 : Int32) (x4_9_6 : Int32) (ls : Array Slot), lv_has ls 5 [(0, .ref a_t), (1, .int p1), (2, .int p2), (3, .int x3_9_5), (4, .int x4_9_6)] → f_X8_unevenAt_9 N t_a_ p1 p2 k45_4 n9 x3_9_5 x4_9_6 = some (r) → W p l e rm_X8_unevenAt s m args below meth c H [] 0 0 Q (F0 m 9 ls []) := by
    intro n9
    induction n9 with
    | zero =>
      intro x3_9_5 x4_9_6 ls hl hF
      cases (show none = some (r) from hF)
    | succ n9 ih9 =>
      intro x3_9_5 x4_9_6 ls hl hF
      rw [f_X8_unevenAt_9] at hF
      refine lv_iload hx hb dX8_unevenAt_9 (lv_at hl 4 rfl) ?_
      refine lv_aload_n hx hb dX8_unevenAt_11 rfl (lv_at hl 0 rfl) ?_
      refine lv_iload_n hx hb dX8_unevenAt_12 rfl (lv_at hl 1 rfl) ?_
      refine lv_iconst (v := 1) hx hb dX8_unevenAt_13 (by decide) ?_
      refine lv_iadd hx hb dX8_unevenAt_14 ?_
      obtain ⟨r15_7, h15_7, hF⟩ := bndE hF
      refine rdV (As := [.int (p1 + 1)]) (rest := [.int x4_9_6]) (C := RX8) ⟨hx, hb, hml, hown, hts⟩ (c_X8_firstPlace l D t z x N a_t a_t_a v_t_fresh v_t_aside v_t_kept v_t_buffer v_t_moved v_t_written t_keptMany t_thrown t_buffered t_size t_at t_behind t_kind t_number t_wrong t_wrongAt t_errorAt t_unused t_writtenMany t_a_ (p1 + 1) H r15_7 h15_7) (cwV 1 hts gX8_unevenAt_X8_firstPlace rfl rfl rfl hd_X8_firstPlace ⟨Nat.le_of_ble_eq_true rfl, Nat.le_of_ble_eq_true rfl⟩) hC (selP (m9 := [true, true]) rfl rfl hP) 0 rfl (show vwCl[8]? = some (RX8, TX8, 20) from rfl) rfl rfl hl.1 rfl (Nat.le_of_ble_eq_true rfl) dX8_unevenAt_15 ⟨Nat.zero_le _, Nat.zero_le _⟩ rfl ?_
      refine lv_icmp_ge (tgt := 45) hx hb dX8_unevenAt_18 (by decide) (fun c18 => ?_) (fun c18 => ?_)
      · have hF := brT c18 hF
        exact hk45_4 x3_9_5 ls (lv_sub hl [3] rfl) hF
      · have hF := brF c18 hF
        refine lv_iload_n hx hb dX8_unevenAt_21 rfl (lv_at hl 3 rfl) ?_
        refine lv_aload_n hx hb dX8_unevenAt_22 rfl (lv_at hl 0 rfl) ?_
        refine lv_iload hx hb dX8_unevenAt_23 (lv_at hl 4 rfl) ?_
        obtain ⟨r25_9, h25_9, hF⟩ := bndE hF
        refine rdV (As := [.int x4_9_6]) (rest := [.int x3_9_5]) (C := RX8) ⟨hx, hb, hml, hown, hts⟩ (c_X8_keyAt l D t z x a_t a_t_a v_t_fresh v_t_aside v_t_kept v_t_buffer v_t_moved v_t_written t_keptMany t_thrown t_buffered t_size t_at t_behind t_kind t_number t_wrong t_wrongAt t_errorAt t_unused t_writtenMany t_a_ x4_9_6 H r25_9 h25_9) (cwV 1 hts gX8_unevenAt_X8_keyAt rfl rfl rfl hd_X8_keyAt ⟨Nat.le_of_ble_eq_true rfl, Nat.le_of_ble_eq_true rfl⟩) hC (selP (m9 := [true, true]) rfl rfl hP) 0 rfl (show vwCl[8]? = some (RX8, TX8, 20) from rfl) rfl rfl hl.1 rfl (Nat.le_of_ble_eq_true rfl) dX8_unevenAt_25 ⟨Nat.zero_le _, Nat.zero_le _⟩ rfl ?_
        refine lv_iload_n hx hb dX8_unevenAt_28 rfl (lv_at hl 2 rfl) ?_
        refine lv_icmp_ge (tgt := 36) hx hb dX8_unevenAt_29 (by decide) (fun c29 => ?_) (fun c29 => ?_)
        · have hF := brT c29 hF
          refine lv_iconst (v := (-1)) hx hb dX8_unevenAt_36 (by decide) ?_
          refine lv_iadd hx hb dX8_unevenAt_37 ?_
          refine lv_topi (fun y38_11 ey38_11 => ?_)
          have hF := ltE ey38_11 hF
          refine lv_istore_n (lv' := [(3, .int y38_11), (0, .ref a_t), (1, .int p1), (2, .int p2), (4, .int x4_9_6)]) hx hb dX8_unevenAt_38 rfl hl (by decide) rfl (fun ls hl => ?_)
          obtain ⟨y39_12, ey39_12⟩ : ∃ y : Int32, y = x4_9_6 + 1 := ⟨_, rfl⟩
          have hF := ltE ey39_12 hF
          refine lv_iinc (v := y39_12) (lv' := [(4, .int y39_12), (3, .int y38_11), (0, .ref a_t), (1, .int p1), (2, .int p2)]) hx hb dX8_unevenAt_39 hl (k := 4) rfl (by rw [ey39_12]; rfl) (by decide) rfl (fun ls hl => ?_)
          refine lv_goto (tgt := 9) hx hb dX8_unevenAt_42 (by decide) ?_
          exact ih9 y38_11 y39_12 ls (lv_sub hl [2, 3, 4, 1, 0] rfl) hF
        · have hF := brF c29 hF
          refine lv_iconst (v := 1) hx hb dX8_unevenAt_32 (by decide) ?_
          refine lv_goto (tgt := 37) hx hb dX8_unevenAt_33 (by decide) ?_
          refine lv_iadd hx hb dX8_unevenAt_37 ?_
          refine lv_topi (fun y38_13 ey38_13 => ?_)
          have hF := ltE ey38_13 hF
          refine lv_istore_n (lv' := [(3, .int y38_13), (0, .ref a_t), (1, .int p1), (2, .int p2), (4, .int x4_9_6)]) hx hb dX8_unevenAt_38 rfl hl (by decide) rfl (fun ls hl => ?_)
          obtain ⟨y39_14, ey39_14⟩ : ∃ y : Int32, y = x4_9_6 + 1 := ⟨_, rfl⟩
          have hF := ltE ey39_14 hF
          refine lv_iinc (v := y39_14) (lv' := [(4, .int y39_14), (3, .int y38_13), (0, .ref a_t), (1, .int p1), (2, .int p2)]) hx hb dX8_unevenAt_39 hl (k := 4) rfl (by rw [ey39_14]; rfl) (by decide) rfl (fun ls hl => ?_)
          refine lv_goto (tgt := 9) hx hb dX8_unevenAt_42 (by decide) ?_
          exact ih9 y38_13 y39_14 ls (lv_sub hl [2, 3, 4, 1, 0] rfl) hF
  exact hlp9 N 0 r4_1 ls (lv_sub hl [2, 3, 4, 1, 0] rfl) hF
abbrev rm_X8_evenCrack : Room := { frames := 3, cells := 0, slots := 0, locals := 69 }
theorem hd_X8_evenCrack : yX8_evenCrack.cls = RX8 ∧ yX8_evenCrack.cls ≠ "java/lang/invoke/MethodHandle" ∧ yX8_evenCrack.cls ≠ "java/lang/invoke/VarHandle" ∧ (parseMethodDescriptor yX8_evenCrack.desc).map (fun d => d.parameters.length) = some 0 := by decide +kernel
set_option maxRecDepth 100000 in
set_option maxHeartbeats 4000000 in
theorem c_X8_evenCrack (l : Launch) (D : va_G) (t : Nat → ClassId) (z : Nat) (x : Nat → Nat) (N : Nat) (a_t : Nat) (a_t_a : Nat) (v_t_fresh : Value) (v_t_aside : Value) (v_t_kept : Value) (v_t_buffer : Value) (v_t_moved : Value) (v_t_written : Value) (t_keptMany : Int32) (t_thrown : Int32) (t_buffered : Int32) (t_size : Int32) (t_at : Int32) (t_behind : Int32) (t_kind : Int32) (t_number : Int32) (t_wrong : Int32) (t_wrongAt : Int32) (t_errorAt : Int32) (t_unused : Int32) (t_writtenMany : Int32) (t_a_ : (Nat → Int32)) (sz : Nat) (r : Int32) (t_thrown' : Int32) (hF : f_X8_evenCrack N t_a_ = some (r, t_thrown')) : WrM l D (TY t) z x yX8_evenCrack wsX8_evenCrack rm_X8_evenCrack [.ref a_t] [(a_t, .inr (8, [.ref a_t_a, v_t_fresh, v_t_aside, v_t_kept, .int t_keptMany, .int t_thrown, v_t_buffer, .int t_buffered, .int t_size, .int t_at, .int t_behind, .int t_kind, .int t_number, .int t_wrong, .int t_wrongAt, .int t_errorAt, v_t_moved, .int t_unused, v_t_written, .int t_writtenMany])), (a_t_a, .inl (t 0, 876, .inl t_a_))] [(a_t, .inr (8, [.ref a_t_a, v_t_fresh, v_t_aside, v_t_kept, .int t_keptMany, .int t_thrown', v_t_buffer, .int t_buffered, .int t_size, .int t_at, .int t_behind, .int t_kind, .int t_number, .int t_wrong, .int t_wrongAt, .int t_errorAt, v_t_moved, .int t_unused, v_t_written, .int t_writtenMany])), (a_t_a, .inl (t 0, 876, .inl t_a_))] sz (some (.int r)) 0 0 := by
  refine wr_of (cc := cX8_evenCrack) (maxL := 8) (ret := (some .int)) (by decide) rfl (Nat.le_of_ble_eq_true rfl) ?_
  intro p e s m args below meth c A Q hQ hx hb hr hml hts hown hlocks hin H locs hP hD hS hA hz hC ls hl
  have hown : s.vm.findClass RX8 = some m.cls := hown
  have hl : lv_has ls 8 [(0, .ref a_t)] := hl
  have hK := hC.1
  have iw8 : ∀ w ∈ wsX80, w ∈ wsX8_evenCrack := fun _ h => List.mem_cons_of_mem _ (List.mem_append_right _ h)
  have hf45 := hts (.fieldLink RX8 45 "CrackedColumnModel" "thrown" "I") (by decide +kernel)
  unfold f_X8_evenCrack at hF
  refine lv_aload_n hx hb dX8_evenCrack_0 rfl (lv_at hl 0 rfl) ?_
  obtain ⟨r1_1, h1_1, hF⟩ := bndE hF
  refine rdV (As := []) (rest := []) (C := RX8) ⟨hx, hb, hml, hown, hts⟩ (c_X8_largest l D t z x N a_t a_t_a v_t_fresh v_t_aside v_t_kept v_t_buffer v_t_moved v_t_written t_keptMany t_thrown t_buffered t_size t_at t_behind t_kind t_number t_wrong t_wrongAt t_errorAt t_unused t_writtenMany t_a_ H r1_1 h1_1) (cwV 0 hts gX8_evenCrack_X8_largest rfl rfl rfl hd_X8_largest ⟨Nat.le_of_ble_eq_true rfl, Nat.le_of_ble_eq_true rfl⟩) (hC.at hz hS) (selP (m9 := [true, true]) rfl rfl hP) 0 rfl (show vwCl[8]? = some (RX8, TX8, 20) from rfl) rfl rfl hl.1 rfl (Nat.le_of_ble_eq_true rfl) dX8_evenCrack_1 ⟨Nat.zero_le _, Nat.zero_le _⟩ rfl ?_
  refine lv_istore_n (lv' := [(1, .int r1_1), (0, .ref a_t)]) hx hb dX8_evenCrack_4 rfl hl (by decide) rfl (fun ls hl => ?_)
  refine lv_iconst (v := (-1)) hx hb dX8_evenCrack_5 (by decide) ?_
  refine lv_istore_n (lv' := [(2, .int (-1)), (1, .int r1_1), (0, .ref a_t)]) hx hb dX8_evenCrack_6 rfl hl (by decide) rfl (fun ls hl => ?_)
  refine lv_iconst (v := 0) hx hb dX8_evenCrack_7 (by decide) ?_
  refine lv_istore_n (lv' := [(3, .int 0), (2, .int (-1)), (1, .int r1_1), (0, .ref a_t)]) hx hb dX8_evenCrack_8 rfl hl (by decide) rfl (fun ls hl => ?_)
  refine lv_iload_n hx hb dX8_evenCrack_9 rfl (lv_at hl 2 rfl) ?_
  refine lv_iconst (v := (-1)) hx hb dX8_evenCrack_10 (by decide) ?_
  obtain ⟨k23_4, ek23_4, hF⟩ := jnE hF
  have hk23_4 : ∀ (s0_23_3 : Int32) (H : Heap) (locs : List Loc) (ls : Array Slot), va_P D vwCl [(a_t, .inr (8, [.ref a_t_a, v_t_fresh, v_t_aside, v_t_kept, .int t_keptMany, .int t_thrown, v_t_buffer, .int t_buffered, .int t_size, .int t_at, .int t_behind, .int t_kind, .int t_number, .int t_wrong, .int t_wrongAt, .int t_errorAt, v_t_moved, .int t_unused, v_t_written, .int t_writtenMany])), (a_t_a, .inl (t 0, 876, .inl t_a_))] H → va_D A [(a_t, .inr (8, [.ref a_t_a, v_t_fresh, v_t_aside, v_t_kept, .int t_keptMany, .int t_thrown, v_t_buffer, .int t_buffered, .int t_size, .int t_at, .int t_behind, .int t_kind, .int t_number, .int t_wrong, .int t_wrongAt, .int t_errorAt, v_t_moved, .int t_unused, v_t_written, .int t_writtenMany])), (a_t_a, .inl (t 0, 876, .inl t_a_))] → va_S A s.heap H locs → lv_has ls 8 [(0, .ref a_t), (1, .int r1_1), (2, .int (-1)), (3, .int 0)] → k23_4 s0_23_3 = some (r, t_thrown') → W p l e rm_X8_evenCrack s m args below meth c H locs 0 0 Q (F0 m 23 ls [.int s0_23_3]) := by
    subst ek23_4
    intro s0_23_3 H locs ls hP hD hS hl hF
    refine lv_istore (lv' := [(4, .int s0_23_3), (0, .ref a_t), (1, .int r1_1), (2, .int (-1)), (3, .int 0)]) hx hb dX8_evenCrack_23 hl (by decide) rfl (fun ls hl => ?_)
    obtain ⟨k120_6, ek120_6, hF⟩ := jnE hF
    have hk120_6 : ∀ (x2_120_5 : Int32) (H : Heap) (locs : List Loc) (ls : Array Slot), va_P D vwCl [(a_t, .inr (8, [.ref a_t_a, v_t_fresh, v_t_aside, v_t_kept, .int t_keptMany, .int t_thrown, v_t_buffer, .int t_buffered, .int t_size, .int t_at, .int t_behind, .int t_kind, .int t_number, .int t_wrong, .int t_wrongAt, .int t_errorAt, v_t_moved, .int t_unused, v_t_written, .int t_writtenMany])), (a_t_a, .inl (t 0, 876, .inl t_a_))] H → va_D A [(a_t, .inr (8, [.ref a_t_a, v_t_fresh, v_t_aside, v_t_kept, .int t_keptMany, .int t_thrown, v_t_buffer, .int t_buffered, .int t_size, .int t_at, .int t_behind, .int t_kind, .int t_number, .int t_wrong, .int t_wrongAt, .int t_errorAt, v_t_moved, .int t_unused, v_t_written, .int t_writtenMany])), (a_t_a, .inl (t 0, 876, .inl t_a_))] → va_S A s.heap H locs → lv_has ls 8 [(0, .ref a_t), (2, .int x2_120_5)] → k120_6 x2_120_5 = some (r, t_thrown') → W p l e rm_X8_evenCrack s m args below meth c H locs 0 0 Q (F0 m 120 ls []) := by
      subst ek120_6
      intro x2_120_5 H locs ls hP hD hS hl hF
      refine lv_aload_n hx hb dX8_evenCrack_120 rfl (lv_at hl 0 rfl) ?_
      refine lv_iload_n hx hb dX8_evenCrack_121 rfl (lv_at hl 1 rfl) ?_
      refine lv_iconst (v := (-1)) hx hb dX8_evenCrack_122 (by decide) ?_
      obtain ⟨k131_8, ek131_8, hF⟩ := jnE hF
      have hk131_8 : ∀ (s0_131_7 : Int32) (H : Heap) (locs : List Loc) (ls : Array Slot), va_P D vwCl [(a_t, .inr (8, [.ref a_t_a, v_t_fresh, v_t_aside, v_t_kept, .int t_keptMany, .int t_thrown, v_t_buffer, .int t_buffered, .int t_size, .int t_at, .int t_behind, .int t_kind, .int t_number, .int t_wrong, .int t_wrongAt, .int t_errorAt, v_t_moved, .int t_unused, v_t_written, .int t_writtenMany])), (a_t_a, .inl (t 0, 876, .inl t_a_))] H → va_D A [(a_t, .inr (8, [.ref a_t_a, v_t_fresh, v_t_aside, v_t_kept, .int t_keptMany, .int t_thrown, v_t_buffer, .int t_buffered, .int t_size, .int t_at, .int t_behind, .int t_kind, .int t_number, .int t_wrong, .int t_wrongAt, .int t_errorAt, v_t_moved, .int t_unused, v_t_written, .int t_writtenMany])), (a_t_a, .inl (t 0, 876, .inl t_a_))] → va_S A s.heap H locs → lv_has ls 8 [(0, .ref a_t), (2, .int x2_120_5)] → k131_8 s0_131_7 = some (r, t_thrown') → W p l e rm_X8_evenCrack s m args below meth c H locs 0 0 Q (F0 m 131 ls [.int s0_131_7, .ref a_t]) := by
        subst ek131_8
        intro s0_131_7 H locs ls hP hD hS hl hF
        refine my_put (ty := .int) (v := .int s0_131_7) (ci := 8) (C := RX8) (T := TX8) (N := 20) (wn := [(a_t, .inr (8, [.ref a_t_a, v_t_fresh, v_t_aside, v_t_kept, .int t_keptMany, .int s0_131_7, v_t_buffer, .int t_buffered, .int t_size, .int t_at, .int t_behind, .int t_kind, .int t_number, .int t_wrong, .int t_wrongAt, .int t_errorAt, v_t_moved, .int t_unused, v_t_written, .int t_writtenMany])), (a_t_a, .inl (t 0, 876, .inl t_a_))]) hx hb hts iw8 tyX8 tyX8_ok nmX8 hown hK hP hD hS 0 rfl rfl 5 (by decide) hf45 (fun _ h9 => h9) rfl (by decide +kernel) rfl rfl (Nat.le_of_ble_eq_true rfl) rfl dX8_evenCrack_131 (fun H locs hP hD hS => ?_)
        refine lv_aload_n hx hb dX8_evenCrack_134 rfl (lv_at hl 0 rfl) ?_
        refine va_get (D := D) (ci := 8) (v := .int s0_131_7) (C := RX8) (T := TX8) (N := 20) hx hb hts iw8 hown hK hP 0 rfl rfl 5 (by decide) hf45 (fun _ h9 => h9) rfl dX8_evenCrack_135 ?_
        refine lv_if_le (tgt := 145) hx hb dX8_evenCrack_138 (by decide) (fun c138 => ?_) (fun c138 => ?_)
        · have hF := brT c138 hF
          refine lv_iload_n hx hb dX8_evenCrack_145 rfl (lv_at hl 1 rfl) ?_
          cases hF
          exact we_iret hx hb hr hlocks dX8_evenCrack_146 rfl hQ hP hD hS
        · have hF := brF c138 hF
          refine lv_iconst (v := 0) hx hb dX8_evenCrack_141 (by decide) ?_
          refine lv_goto (tgt := 146) hx hb dX8_evenCrack_142 (by decide) ?_
          cases hF
          exact we_iret hx hb hr hlocks dX8_evenCrack_146 rfl hQ hP hD hS
      refine lv_icmp_ne (tgt := 130) hx hb dX8_evenCrack_123 (by decide) (fun c123 => ?_) (fun c123 => ?_)
      · have hF := brF c123 hF
        refine lv_iconst (v := 0) hx hb dX8_evenCrack_130 (by decide) ?_
        exact hk131_8 0 H locs ls hP hD hS hl hF
      · have hF := brT c123 hF
        refine lv_iconst (v := 1) hx hb dX8_evenCrack_126 (by decide) ?_
        refine lv_goto (tgt := 131) hx hb dX8_evenCrack_127 (by decide) ?_
        exact hk131_8 1 H locs ls hP hD hS hl hF
    have hlp25 : ∀ n25 : Nat, ∀ (x2_25_9 : Int32) (x3_25_10 : Int32) (x4_25_11 : Int32) (H : Heap) (locs : List Loc) (ls : Array Slot), va_P D vwCl [(a_t, .inr (8, [.ref a_t_a, v_t_fresh, v_t_aside, v_t_kept, .int t_keptMany, .int t_thrown, v_t_buffer, .int t_buffered, .int t_size, .int t_at, .int t_behind, .int t_kind, .int t_number, .int t_wrong, .int t_wrongAt, .int t_errorAt, v_t_moved, .int t_unused, v_t_written, .int t_writtenMany])), (a_t_a, .inl (t 0, 876, .inl t_a_))] H → va_D A [(a_t, .inr (8, [.ref a_t_a, v_t_fresh, v_t_aside, v_t_kept, .int t_keptMany, .int t_thrown, v_t_buffer, .int t_buffered, .int t_size, .int t_at, .int t_behind, .int t_kind, .int t_number, .int t_wrong, .int t_wrongAt, .int t_errorAt, v_t_moved, .int t_unused, v_t_written, .int t_writtenMany])), (a_t_a, .inl (t 0, 876, .inl t_a_))] → va_S A s.heap H locs → lv_has ls 8 [(0, .ref a_t), (1, .int r1_1), (2, .int x2_25_9), (3, .int x3_25_10), (4, .int x4_25_11)] → f_X8_evenCrack_25 N t_a_ r1_1 k120_6 n25 x2_25_9 x3_25_10 x4_25_11 = some (r, t_thrown') → W p l e rm_X8_evenCrack s m args below meth c H locs 0 0 Q (F0 m 25 ls []) := by
      intro n25
      induction n25 with
      | zero =>
        intro x2_25_9 x3_25_10 x4_25_11 H locs ls hP hD hS hl hF
        cases (show none = some (r, t_thrown') from hF)
      | succ n25 ih25 =>
        intro x2_25_9 x3_25_10 x4_25_11 H locs ls hP hD hS hl hF
        rw [f_X8_evenCrack_25] at hF
        refine lv_iload_n hx hb dX8_evenCrack_25 rfl (lv_at hl 1 rfl) ?_
        refine lv_iconst (v := (-1)) hx hb dX8_evenCrack_26 (by decide) ?_
        refine lv_icmp_eq (tgt := 120) hx hb dX8_evenCrack_27 (by decide) (fun c27 => ?_) (fun c27 => ?_)
        · have hF := brT c27 hF
          exact hk120_6 x2_25_9 H locs ls hP hD hS (lv_sub hl [0, 2] rfl) hF
        · have hF := brF c27 hF
          refine lv_iload hx hb dX8_evenCrack_30 (lv_at hl 4 rfl) ?_
          refine lv_aload_n hx hb dX8_evenCrack_32 rfl (lv_at hl 0 rfl) ?_
          refine lv_iload_n hx hb dX8_evenCrack_33 rfl (lv_at hl 1 rfl) ?_
          refine lv_iconst (v := 1) hx hb dX8_evenCrack_34 (by decide) ?_
          refine lv_iadd hx hb dX8_evenCrack_35 ?_
          obtain ⟨r36_12, h36_12, hF⟩ := bndE hF
          refine rdV (As := [.int (r1_1 + 1)]) (rest := [.int x4_25_11]) (C := RX8) ⟨hx, hb, hml, hown, hts⟩ (c_X8_firstPlace l D t z x N a_t a_t_a v_t_fresh v_t_aside v_t_kept v_t_buffer v_t_moved v_t_written t_keptMany t_thrown t_buffered t_size t_at t_behind t_kind t_number t_wrong t_wrongAt t_errorAt t_unused t_writtenMany t_a_ (r1_1 + 1) H r36_12 h36_12) (cwV 1 hts gX8_evenCrack_X8_firstPlace rfl rfl rfl hd_X8_firstPlace ⟨Nat.le_of_ble_eq_true rfl, Nat.le_of_ble_eq_true rfl⟩) (hC.at hz hS) (selP (m9 := [true, true]) rfl rfl hP) 0 rfl (show vwCl[8]? = some (RX8, TX8, 20) from rfl) rfl rfl hl.1 rfl (Nat.le_of_ble_eq_true rfl) dX8_evenCrack_36 ⟨Nat.zero_le _, Nat.zero_le _⟩ rfl ?_
          refine lv_icmp_ge (tgt := 120) hx hb dX8_evenCrack_39 (by decide) (fun c39 => ?_) (fun c39 => ?_)
          · have hF := brT c39 hF
            exact hk120_6 x2_25_9 H locs ls hP hD hS (lv_sub hl [0, 2] rfl) hF
          · have hF := brF c39 hF
            refine lv_aload_n hx hb dX8_evenCrack_42 rfl (lv_at hl 0 rfl) ?_
            refine lv_iload hx hb dX8_evenCrack_43 (lv_at hl 4 rfl) ?_
            obtain ⟨r45_14, h45_14, hF⟩ := bndE hF
            refine rdV (As := [.int x4_25_11]) (rest := []) (C := RX8) ⟨hx, hb, hml, hown, hts⟩ (c_X8_keyAt l D t z x a_t a_t_a v_t_fresh v_t_aside v_t_kept v_t_buffer v_t_moved v_t_written t_keptMany t_thrown t_buffered t_size t_at t_behind t_kind t_number t_wrong t_wrongAt t_errorAt t_unused t_writtenMany t_a_ x4_25_11 H r45_14 h45_14) (cwV 1 hts gX8_evenCrack_X8_keyAt rfl rfl rfl hd_X8_keyAt ⟨Nat.le_of_ble_eq_true rfl, Nat.le_of_ble_eq_true rfl⟩) (hC.at hz hS) (selP (m9 := [true, true]) rfl rfl hP) 0 rfl (show vwCl[8]? = some (RX8, TX8, 20) from rfl) rfl rfl hl.1 rfl (Nat.le_of_ble_eq_true rfl) dX8_evenCrack_45 ⟨Nat.zero_le _, Nat.zero_le _⟩ rfl ?_
            refine lv_istore (lv' := [(5, .int r45_14), (0, .ref a_t), (1, .int r1_1), (2, .int x2_25_9), (3, .int x3_25_10), (4, .int x4_25_11)]) hx hb dX8_evenCrack_48 hl (by decide) rfl (fun ls hl => ?_)
            refine lv_aload_n hx hb dX8_evenCrack_50 rfl (lv_at hl 1 rfl) ?_
            refine lv_iload_n hx hb dX8_evenCrack_51 rfl (lv_at hl 2 rfl) ?_
            refine lv_iload hx hb dX8_evenCrack_52 (lv_at hl 0 rfl) ?_
            obtain ⟨r54_16, h54_16, hF⟩ := bndE hF
            refine rdV (As := [.int r1_1, .int r45_14]) (rest := []) (C := RX8) ⟨hx, hb, hml, hown, hts⟩ (c_X8_unevenAt l D t z x N a_t a_t_a v_t_fresh v_t_aside v_t_kept v_t_buffer v_t_moved v_t_written t_keptMany t_thrown t_buffered t_size t_at t_behind t_kind t_number t_wrong t_wrongAt t_errorAt t_unused t_writtenMany t_a_ r1_1 r45_14 H r54_16 h54_16) (cwV 2 hts gX8_evenCrack_X8_unevenAt rfl rfl rfl hd_X8_unevenAt ⟨Nat.le_of_ble_eq_true rfl, Nat.le_of_ble_eq_true rfl⟩) (hC.at hz hS) (selP (m9 := [true, true]) rfl rfl hP) 0 rfl (show vwCl[8]? = some (RX8, TX8, 20) from rfl) rfl rfl hl.1 rfl (Nat.le_of_ble_eq_true rfl) dX8_evenCrack_54 ⟨Nat.zero_le _, Nat.zero_le _⟩ rfl ?_
            refine lv_istore (lv' := [(6, .int r54_16), (5, .int r45_14), (0, .ref a_t), (1, .int r1_1), (2, .int x2_25_9), (3, .int x3_25_10), (4, .int x4_25_11)]) hx hb dX8_evenCrack_57 hl (by decide) rfl (fun ls hl => ?_)
            refine lv_iload_n hx hb dX8_evenCrack_59 rfl (lv_at hl 4 rfl) ?_
            refine lv_iconst (v := (-1)) hx hb dX8_evenCrack_60 (by decide) ?_
            obtain ⟨k87_19, ek87_19, hF⟩ := jnE hF
            have hk87_19 : ∀ (s0_87_18 : Int32) (H : Heap) (locs : List Loc) (ls : Array Slot), va_P D vwCl [(a_t, .inr (8, [.ref a_t_a, v_t_fresh, v_t_aside, v_t_kept, .int t_keptMany, .int t_thrown, v_t_buffer, .int t_buffered, .int t_size, .int t_at, .int t_behind, .int t_kind, .int t_number, .int t_wrong, .int t_wrongAt, .int t_errorAt, v_t_moved, .int t_unused, v_t_written, .int t_writtenMany])), (a_t_a, .inl (t 0, 876, .inl t_a_))] H → va_D A [(a_t, .inr (8, [.ref a_t_a, v_t_fresh, v_t_aside, v_t_kept, .int t_keptMany, .int t_thrown, v_t_buffer, .int t_buffered, .int t_size, .int t_at, .int t_behind, .int t_kind, .int t_number, .int t_wrong, .int t_wrongAt, .int t_errorAt, v_t_moved, .int t_unused, v_t_written, .int t_writtenMany])), (a_t_a, .inl (t 0, 876, .inl t_a_))] → va_S A s.heap H locs → lv_has ls 8 [(0, .ref a_t), (1, .int r1_1), (2, .int x2_25_9), (3, .int x3_25_10), (4, .int x4_25_11), (5, .int r45_14), (6, .int r54_16)] → k87_19 s0_87_18 = some (r, t_thrown') → W p l e rm_X8_evenCrack s m args below meth c H locs 0 0 Q (F0 m 87 ls [.int s0_87_18]) := by
              subst ek87_19
              intro s0_87_18 H locs ls hP hD hS hl hF
              refine lv_istore (lv' := [(7, .int s0_87_18), (0, .ref a_t), (1, .int r1_1), (2, .int x2_25_9), (3, .int x3_25_10), (4, .int x4_25_11), (5, .int r45_14), (6, .int r54_16)]) hx hb dX8_evenCrack_87 hl (by decide) rfl (fun ls hl => ?_)
              refine lv_iload hx hb dX8_evenCrack_89 (lv_at hl 6 rfl) ?_
              refine lv_aload_n hx hb dX8_evenCrack_91 rfl (lv_at hl 1 rfl) ?_
              refine lv_iload_n hx hb dX8_evenCrack_92 rfl (lv_at hl 2 rfl) ?_
              refine lv_iconst (v := 0) hx hb dX8_evenCrack_93 (by decide) ?_
              obtain ⟨r94_20, h94_20, hF⟩ := bndE hF
              refine rdV (As := [.int r1_1, .int 0]) (rest := [.int r45_14]) (C := RX8) ⟨hx, hb, hml, hown, hts⟩ (c_X8_of l D t z x a_t a_t_a v_t_fresh v_t_aside v_t_kept v_t_buffer v_t_moved v_t_written t_keptMany t_thrown t_buffered t_size t_at t_behind t_kind t_number t_wrong t_wrongAt t_errorAt t_unused t_writtenMany t_a_ r1_1 0 H r94_20 h94_20) (cwV 2 hts gX8_evenCrack_X8_of rfl rfl rfl hd_X8_of ⟨Nat.le_of_ble_eq_true rfl, Nat.le_of_ble_eq_true rfl⟩) (hC.at hz hS) (selP (m9 := [true, true]) rfl rfl hP) 0 rfl (show vwCl[8]? = some (RX8, TX8, 20) from rfl) rfl rfl hl.1 rfl (Nat.le_of_ble_eq_true rfl) dX8_evenCrack_94 ⟨Nat.zero_le _, Nat.zero_le _⟩ rfl ?_
              refine lv_icmp_le (tgt := 114) hx hb dX8_evenCrack_97 (by decide) (fun c97 => ?_) (fun c97 => ?_)
              · have hF := brT c97 hF
                obtain ⟨y114_22, ey114_22⟩ : ∃ y : Int32, y = x4_25_11 + 1 := ⟨_, rfl⟩
                have hF := ltE ey114_22 hF
                refine lv_iinc (v := y114_22) (lv' := [(4, .int y114_22), (7, .int s0_87_18), (0, .ref a_t), (1, .int r1_1), (2, .int x2_25_9), (3, .int x3_25_10), (5, .int r45_14), (6, .int r54_16)]) hx hb dX8_evenCrack_114 hl (k := 5) rfl (by rw [ey114_22]; rfl) (by decide) rfl (fun ls hl => ?_)
                refine lv_goto (tgt := 25) hx hb dX8_evenCrack_117 (by decide) ?_
                exact ih25 x2_25_9 x3_25_10 y114_22 H locs ls hP hD hS (lv_sub hl [2, 3, 4, 5, 0] rfl) hF
              · have hF := brF c97 hF
                refine lv_iload hx hb dX8_evenCrack_100 (lv_at hl 0 rfl) ?_
                refine lv_if_ne (tgt := 108) hx hb dX8_evenCrack_102 (by decide) (fun c102 => ?_) (fun c102 => ?_)
                · have hF := brF c102 hF
                  refine lv_iload hx hb dX8_evenCrack_108 (lv_at hl 6 rfl) ?_
                  refine lv_istore_n (lv' := [(2, .int r45_14), (7, .int s0_87_18), (0, .ref a_t), (1, .int r1_1), (3, .int x3_25_10), (4, .int x4_25_11), (5, .int r45_14), (6, .int r54_16)]) hx hb dX8_evenCrack_110 rfl hl (by decide) rfl (fun ls hl => ?_)
                  refine lv_iload hx hb dX8_evenCrack_111 (lv_at hl 7 rfl) ?_
                  refine lv_istore_n (lv' := [(3, .int r54_16), (2, .int r45_14), (7, .int s0_87_18), (0, .ref a_t), (1, .int r1_1), (4, .int x4_25_11), (5, .int r45_14), (6, .int r54_16)]) hx hb dX8_evenCrack_113 rfl hl (by decide) rfl (fun ls hl => ?_)
                  obtain ⟨y114_23, ey114_23⟩ : ∃ y : Int32, y = x4_25_11 + 1 := ⟨_, rfl⟩
                  have hF := ltE ey114_23 hF
                  refine lv_iinc (v := y114_23) (lv' := [(4, .int y114_23), (3, .int r54_16), (2, .int r45_14), (7, .int s0_87_18), (0, .ref a_t), (1, .int r1_1), (5, .int r45_14), (6, .int r54_16)]) hx hb dX8_evenCrack_114 hl (k := 5) rfl (by rw [ey114_23]; rfl) (by decide) rfl (fun ls hl => ?_)
                  refine lv_goto (tgt := 25) hx hb dX8_evenCrack_117 (by decide) ?_
                  exact ih25 r45_14 r54_16 y114_23 H locs ls hP hD hS (lv_sub hl [4, 5, 2, 1, 0] rfl) hF
                · have hF := brT c102 hF
                  refine lv_goto (tgt := 114) hx hb dX8_evenCrack_105 (by decide) ?_
                  obtain ⟨y114_24, ey114_24⟩ : ∃ y : Int32, y = x4_25_11 + 1 := ⟨_, rfl⟩
                  have hF := ltE ey114_24 hF
                  refine lv_iinc (v := y114_24) (lv' := [(4, .int y114_24), (7, .int s0_87_18), (0, .ref a_t), (1, .int r1_1), (2, .int x2_25_9), (3, .int x3_25_10), (5, .int r45_14), (6, .int r54_16)]) hx hb dX8_evenCrack_114 hl (k := 5) rfl (by rw [ey114_24]; rfl) (by decide) rfl (fun ls hl => ?_)
                  refine lv_goto (tgt := 25) hx hb dX8_evenCrack_117 (by decide) ?_
                  exact ih25 x2_25_9 x3_25_10 y114_24 H locs ls hP hD hS (lv_sub hl [2, 3, 4, 5, 0] rfl) hF
            refine lv_icmp_eq (tgt := 82) hx hb dX8_evenCrack_61 (by decide) (fun c61 => ?_) (fun c61 => ?_)
            · have hF := brT c61 hF
              refine lv_iconst (v := 1) hx hb dX8_evenCrack_82 (by decide) ?_
              refine lv_goto (tgt := 87) hx hb dX8_evenCrack_83 (by decide) ?_
              exact hk87_19 1 H locs ls hP hD hS (lv_sub hl [2, 3, 4, 5, 6, 1, 0] rfl) hF
            · have hF := brF c61 hF
              refine lv_iload hx hb dX8_evenCrack_64 (lv_at hl 0 rfl) ?_
              refine lv_iload_n hx hb dX8_evenCrack_66 rfl (lv_at hl 5 rfl) ?_
              refine lv_icmp_lt (tgt := 82) hx hb dX8_evenCrack_67 (by decide) (fun c67 => ?_) (fun c67 => ?_)
              · have hF := brT c67 hF
                refine lv_iconst (v := 1) hx hb dX8_evenCrack_82 (by decide) ?_
                refine lv_goto (tgt := 87) hx hb dX8_evenCrack_83 (by decide) ?_
                exact hk87_19 1 H locs ls hP hD hS (lv_sub hl [2, 3, 4, 5, 6, 1, 0] rfl) hF
              · have hF := brF c67 hF
                refine lv_iload hx hb dX8_evenCrack_70 (lv_at hl 0 rfl) ?_
                refine lv_iload_n hx hb dX8_evenCrack_72 rfl (lv_at hl 5 rfl) ?_
                refine lv_icmp_ne (tgt := 86) hx hb dX8_evenCrack_73 (by decide) (fun c73 => ?_) (fun c73 => ?_)
                · have hF := brF c73 hF
                  refine lv_iconst (v := 0) hx hb dX8_evenCrack_86 (by decide) ?_
                  exact hk87_19 0 H locs ls hP hD hS (lv_sub hl [2, 3, 4, 5, 6, 1, 0] rfl) hF
                · have hF := brT c73 hF
                  refine lv_iload hx hb dX8_evenCrack_76 (lv_at hl 1 rfl) ?_
                  refine lv_iload_n hx hb dX8_evenCrack_78 rfl (lv_at hl 4 rfl) ?_
                  refine lv_icmp_ge (tgt := 86) hx hb dX8_evenCrack_79 (by decide) (fun c79 => ?_) (fun c79 => ?_)
                  · have hF := brT c79 hF
                    refine lv_iconst (v := 0) hx hb dX8_evenCrack_86 (by decide) ?_
                    exact hk87_19 0 H locs ls hP hD hS (lv_sub hl [2, 3, 4, 5, 6, 1, 0] rfl) hF
                  · have hF := brF c79 hF
                    refine lv_iconst (v := 1) hx hb dX8_evenCrack_82 (by decide) ?_
                    refine lv_goto (tgt := 87) hx hb dX8_evenCrack_83 (by decide) ?_
                    exact hk87_19 1 H locs ls hP hD hS (lv_sub hl [2, 3, 4, 5, 6, 1, 0] rfl) hF
    exact hlp25 N (-1) 0 s0_23_3 H locs ls hP hD hS (lv_sub hl [1, 2, 3, 4, 0] rfl) hF
  refine lv_icmp_ne (tgt := 18) hx hb dX8_evenCrack_11 (by decide) (fun c11 => ?_) (fun c11 => ?_)
  · have hF := brF c11 hF
    refine lv_aload_n hx hb dX8_evenCrack_18 rfl (lv_at hl 3 rfl) ?_
    refine lv_iload_n hx hb dX8_evenCrack_19 rfl (lv_at hl 2 rfl) ?_
    obtain ⟨r20_25, h20_25, hF⟩ := bndE hF
    refine rdV (As := [.int r1_1]) (rest := []) (C := RX8) ⟨hx, hb, hml, hown, hts⟩ (c_X8_firstPlace l D t z x N a_t a_t_a v_t_fresh v_t_aside v_t_kept v_t_buffer v_t_moved v_t_written t_keptMany t_thrown t_buffered t_size t_at t_behind t_kind t_number t_wrong t_wrongAt t_errorAt t_unused t_writtenMany t_a_ r1_1 H r20_25 h20_25) (cwV 1 hts gX8_evenCrack_X8_firstPlace rfl rfl rfl hd_X8_firstPlace ⟨Nat.le_of_ble_eq_true rfl, Nat.le_of_ble_eq_true rfl⟩) (hC.at hz hS) (selP (m9 := [true, true]) rfl rfl hP) 0 rfl (show vwCl[8]? = some (RX8, TX8, 20) from rfl) rfl rfl hl.1 rfl (Nat.le_of_ble_eq_true rfl) dX8_evenCrack_20 ⟨Nat.zero_le _, Nat.zero_le _⟩ rfl ?_
    exact hk23_4 r20_25 H locs ls hP hD hS (lv_sub hl [3, 2, 1, 0] rfl) hF
  · have hF := brT c11 hF
    refine lv_iconst (v := 0) hx hb dX8_evenCrack_14 (by decide) ?_
    refine lv_goto (tgt := 23) hx hb dX8_evenCrack_15 (by decide) ?_
    exact hk23_4 0 H locs ls hP hD hS (lv_sub hl [3, 2, 1, 0] rfl) hF
abbrev rm_X8_drop : Room := { frames := 2, cells := 0, slots := 0, locals := 45 }
theorem hd_X8_drop : yX8_drop.cls = RX8 ∧ yX8_drop.cls ≠ "java/lang/invoke/MethodHandle" ∧ yX8_drop.cls ≠ "java/lang/invoke/VarHandle" ∧ (parseMethodDescriptor yX8_drop.desc).map (fun d => d.parameters.length) = some 1 := by decide +kernel
set_option maxRecDepth 100000 in
set_option maxHeartbeats 4000000 in
theorem c_X8_drop (l : Launch) (D : va_G) (t : Nat → ClassId) (z : Nat) (x : Nat → Nat) (N : Nat) (a_t : Nat) (a_t_a : Nat) (a_t_kept : Nat) (v_t_fresh : Value) (v_t_aside : Value) (v_t_buffer : Value) (v_t_moved : Value) (v_t_written : Value) (t_keptMany : Int32) (t_thrown : Int32) (t_buffered : Int32) (t_size : Int32) (t_at : Int32) (t_behind : Int32) (t_kind : Int32) (t_number : Int32) (t_wrong : Int32) (t_wrongAt : Int32) (t_errorAt : Int32) (t_unused : Int32) (t_writtenMany : Int32) (t_a_ : (Nat → Int32)) (t_kept_ : (Nat → Int32)) (p1 : Int32) (sz : Nat) (r : Int32) (t_keptMany' : Int32) (t_thrown' : Int32) (t_a_' : (Nat → Int32)) (t_kept_' : (Nat → Int32)) (hF : f_X8_drop N t_keptMany t_a_ t_kept_ p1 = some (r, t_keptMany', t_thrown', t_a_', t_kept_')) : WrM l D (TY t) z x yX8_drop wsX8_drop rm_X8_drop [.ref a_t, .int p1] [(a_t, .inr (8, [.ref a_t_a, v_t_fresh, v_t_aside, .ref a_t_kept, .int t_keptMany, .int t_thrown, v_t_buffer, .int t_buffered, .int t_size, .int t_at, .int t_behind, .int t_kind, .int t_number, .int t_wrong, .int t_wrongAt, .int t_errorAt, v_t_moved, .int t_unused, v_t_written, .int t_writtenMany])), (a_t_a, .inl (t 0, 876, .inl t_a_)), (a_t_kept, .inl (t 0, 7008, .inl t_kept_))] [(a_t, .inr (8, [.ref a_t_a, v_t_fresh, v_t_aside, .ref a_t_kept, .int t_keptMany', .int t_thrown', v_t_buffer, .int t_buffered, .int t_size, .int t_at, .int t_behind, .int t_kind, .int t_number, .int t_wrong, .int t_wrongAt, .int t_errorAt, v_t_moved, .int t_unused, v_t_written, .int t_writtenMany])), (a_t_a, .inl (t 0, 876, .inl t_a_')), (a_t_kept, .inl (t 0, 7008, .inl t_kept_'))] sz (some (.int r)) 0 0 := by
  obtain ⟨T9, hT⟩ : ∃ T9, T9 = (r, t_keptMany', t_thrown', t_a_', t_kept_') := ⟨_, rfl⟩
  rw [← hT] at hF
  obtain rfl : r = T9.1 := by rw [hT]
  obtain rfl : t_keptMany' = T9.2.1 := by rw [hT]
  obtain rfl : t_thrown' = T9.2.2.1 := by rw [hT]
  obtain rfl : t_a_' = T9.2.2.2.1 := by rw [hT]
  obtain rfl : t_kept_' = T9.2.2.2.2 := by rw [hT]
  clear hT
  refine wr_of (cc := cX8_drop) (maxL := 2) (ret := (some .int)) (by decide) rfl (Nat.le_of_ble_eq_true rfl) ?_
  intro p e s m args below meth c A Q hQ hx hb hr hml hts hown hlocks hin H locs hP hD hS hA hz hC ls hl
  have hown : s.vm.findClass RX8 = some m.cls := hown
  have hl : lv_has ls 2 [(0, .ref a_t), (1, .int p1)] := hl
  have hK := hC.1
  have iw8 : ∀ w ∈ wsX80, w ∈ wsX8_drop := fun _ h => List.mem_cons_of_mem _ (List.mem_append_right _ h)
  have hf45 := hts (.fieldLink RX8 45 "CrackedColumnModel" "thrown" "I") (by decide +kernel)
  unfold f_X8_drop at hF
  refine lv_aload_n hx hb dX8_drop_0 rfl (lv_at hl 0 rfl) ?_
  refine lv_aload_n hx hb dX8_drop_1 rfl (lv_at hl 0 rfl) ?_
  refine lv_iload_n hx hb dX8_drop_2 rfl (lv_at hl 1 rfl) ?_
  obtain ⟨r3_1, h3_1, hF⟩ := bndE hF
  refine rdV (As := [.int p1]) (rest := [.ref a_t]) (C := RX8) ⟨hx, hb, hml, hown, hts⟩ (c_X8_isPiece l D t z x a_t a_t_a v_t_fresh v_t_aside (.ref a_t_kept) v_t_buffer v_t_moved v_t_written t_keptMany t_thrown t_buffered t_size t_at t_behind t_kind t_number t_wrong t_wrongAt t_errorAt t_unused t_writtenMany t_a_ p1 H r3_1 h3_1) (cwV 1 hts gX8_drop_X8_isPiece rfl rfl rfl hd_X8_isPiece ⟨Nat.le_of_ble_eq_true rfl, Nat.le_of_ble_eq_true rfl⟩) (hC.at hz hS) (selP (m9 := [true, true, false]) rfl rfl hP) 0 rfl (show vwCl[8]? = some (RX8, TX8, 20) from rfl) rfl rfl hl.1 rfl (Nat.le_of_ble_eq_true rfl) dX8_drop_3 ⟨Nat.zero_le _, Nat.zero_le _⟩ rfl ?_
  obtain ⟨k22_4, ek22_4, hF⟩ := jnE hF
  have hk22_4 : ∀ (s0_22_3 : Int32) (H : Heap) (locs : List Loc) (ls : Array Slot), va_P D vwCl [(a_t, .inr (8, [.ref a_t_a, v_t_fresh, v_t_aside, .ref a_t_kept, .int t_keptMany, .int t_thrown, v_t_buffer, .int t_buffered, .int t_size, .int t_at, .int t_behind, .int t_kind, .int t_number, .int t_wrong, .int t_wrongAt, .int t_errorAt, v_t_moved, .int t_unused, v_t_written, .int t_writtenMany])), (a_t_a, .inl (t 0, 876, .inl t_a_)), (a_t_kept, .inl (t 0, 7008, .inl t_kept_))] H → va_D A [(a_t, .inr (8, [.ref a_t_a, v_t_fresh, v_t_aside, .ref a_t_kept, .int t_keptMany, .int t_thrown, v_t_buffer, .int t_buffered, .int t_size, .int t_at, .int t_behind, .int t_kind, .int t_number, .int t_wrong, .int t_wrongAt, .int t_errorAt, v_t_moved, .int t_unused, v_t_written, .int t_writtenMany])), (a_t_a, .inl (t 0, 876, .inl t_a_)), (a_t_kept, .inl (t 0, 7008, .inl t_kept_))] → va_S A s.heap H locs → lv_has ls 2 [(0, .ref a_t), (1, .int p1)] → k22_4 s0_22_3 = some T9 → W p l e rm_X8_drop s m args below meth c H locs 0 0 Q (F0 m 22 ls [.int s0_22_3, .ref a_t]) := by
    subst ek22_4
    intro s0_22_3 H locs ls hP hD hS hl hF
    refine my_put (ty := .int) (v := .int s0_22_3) (ci := 8) (C := RX8) (T := TX8) (N := 20) (wn := [(a_t, .inr (8, [.ref a_t_a, v_t_fresh, v_t_aside, .ref a_t_kept, .int t_keptMany, .int s0_22_3, v_t_buffer, .int t_buffered, .int t_size, .int t_at, .int t_behind, .int t_kind, .int t_number, .int t_wrong, .int t_wrongAt, .int t_errorAt, v_t_moved, .int t_unused, v_t_written, .int t_writtenMany])), (a_t_a, .inl (t 0, 876, .inl t_a_)), (a_t_kept, .inl (t 0, 7008, .inl t_kept_))]) hx hb hts iw8 tyX8 tyX8_ok nmX8 hown hK hP hD hS 0 rfl rfl 5 (by decide) hf45 (fun _ h9 => h9) rfl (by decide +kernel) rfl rfl (Nat.le_of_ble_eq_true rfl) rfl dX8_drop_22 (fun H locs hP hD hS => ?_)
    refine lv_aload_n hx hb dX8_drop_25 rfl (lv_at hl 0 rfl) ?_
    refine va_get (D := D) (ci := 8) (v := .int s0_22_3) (C := RX8) (T := TX8) (N := 20) hx hb hts iw8 hown hK hP 0 rfl rfl 5 (by decide) hf45 (fun _ h9 => h9) rfl dX8_drop_26 ?_
    refine lv_if_le (tgt := 34) hx hb dX8_drop_29 (by decide) (fun c29 => ?_) (fun c29 => ?_)
    · have hF := brT c29 hF
      refine lv_aload_n hx hb dX8_drop_34 rfl (lv_at hl 0 rfl) ?_
      obtain ⟨t_keptMany_35_5, t_kept_35_6, h35_6, hF⟩ := bnd2E hF
      refine wrVM (As := []) (rest := []) (C := RX8) (wn := [(a_t, .inr (8, [.ref a_t_a, v_t_fresh, v_t_aside, .ref a_t_kept, .int t_keptMany_35_5, .int s0_22_3, v_t_buffer, .int t_buffered, .int t_size, .int t_at, .int t_behind, .int t_kind, .int t_number, .int t_wrong, .int t_wrongAt, .int t_errorAt, v_t_moved, .int t_unused, v_t_written, .int t_writtenMany])), (a_t_a, .inl (t 0, 876, .inl t_a_)), (a_t_kept, .inl (t 0, 7008, .inl t_kept_35_6))]) ⟨hx, hb, hml, hown, hts⟩ (c_X8_keeps l D t z x N a_t a_t_a a_t_kept v_t_fresh v_t_aside v_t_buffer v_t_moved v_t_written t_keptMany s0_22_3 t_buffered t_size t_at t_behind t_kind t_number t_wrong t_wrongAt t_errorAt t_unused t_writtenMany t_a_ t_kept_ H.size t_keptMany_35_5 t_kept_35_6 h35_6) (cwV 0 hts gX8_drop_X8_keeps rfl rfl rfl hd_X8_keeps ⟨Nat.le_of_ble_eq_true rfl, Nat.le_of_ble_eq_true rfl⟩) (hC.at hz hS) hP hD hS hA hz [true, true, true] rfl rfl rfl rfl 0 rfl (show vwCl[8]? = some (RX8, TX8, 20) from rfl) rfl rfl hl.1 rfl (Nat.le_of_ble_eq_true rfl) dX8_drop_35 ⟨Nat.zero_le _, Nat.zero_le _⟩ rfl (fun H locs hP hD hS => ?_)
      refine lv_aload_n hx hb dX8_drop_38 rfl (lv_at hl 0 rfl) ?_
      refine lv_iload_n hx hb dX8_drop_39 rfl (lv_at hl 1 rfl) ?_
      refine lv_iconst (v := 1) hx hb dX8_drop_40 (by decide) ?_
      refine lv_isub hx hb dX8_drop_41 ?_
      obtain ⟨t_a_42_8, h42_8, hF⟩ := bndE hF
      refine wrVM (As := [.int (p1 - 1)]) (rest := []) (C := RX8) (wn := [(a_t, .inr (8, [.ref a_t_a, v_t_fresh, v_t_aside, .ref a_t_kept, .int t_keptMany_35_5, .int s0_22_3, v_t_buffer, .int t_buffered, .int t_size, .int t_at, .int t_behind, .int t_kind, .int t_number, .int t_wrong, .int t_wrongAt, .int t_errorAt, v_t_moved, .int t_unused, v_t_written, .int t_writtenMany])), (a_t_a, .inl (t 0, 876, .inl t_a_42_8)), (a_t_kept, .inl (t 0, 7008, .inl t_kept_35_6))]) ⟨hx, hb, hml, hown, hts⟩ (c_X8_joins l D t z x N a_t a_t_a v_t_fresh v_t_aside (.ref a_t_kept) v_t_buffer v_t_moved v_t_written t_keptMany_35_5 s0_22_3 t_buffered t_size t_at t_behind t_kind t_number t_wrong t_wrongAt t_errorAt t_unused t_writtenMany t_a_ (p1 - 1) H.size t_a_42_8 h42_8) (cwV 1 hts gX8_drop_X8_joins rfl rfl rfl hd_X8_joins ⟨Nat.le_of_ble_eq_true rfl, Nat.le_of_ble_eq_true rfl⟩) (hC.at hz hS) hP hD hS hA hz [true, true, false] rfl rfl rfl rfl 0 rfl (show vwCl[8]? = some (RX8, TX8, 20) from rfl) rfl rfl hl.1 rfl (Nat.le_of_ble_eq_true rfl) dX8_drop_42 ⟨Nat.zero_le _, Nat.zero_le _⟩ rfl (fun H locs hP hD hS => ?_)
      refine lv_aload_n hx hb dX8_drop_45 rfl (lv_at hl 0 rfl) ?_
      refine lv_iload_n hx hb dX8_drop_46 rfl (lv_at hl 1 rfl) ?_
      refine lv_iconst (v := 1) hx hb dX8_drop_47 (by decide) ?_
      refine lv_isub hx hb dX8_drop_48 ?_
      refine lv_iconst (v := 1) hx hb dX8_drop_49 (by decide) ?_
      obtain ⟨r50_10, h50_10, hF⟩ := bndE hF
      refine rdV (As := [.int (p1 - 1), .int 1]) (rest := []) (C := RX8) ⟨hx, hb, hml, hown, hts⟩ (c_X8_of l D t z x a_t a_t_a v_t_fresh v_t_aside (.ref a_t_kept) v_t_buffer v_t_moved v_t_written t_keptMany_35_5 s0_22_3 t_buffered t_size t_at t_behind t_kind t_number t_wrong t_wrongAt t_errorAt t_unused t_writtenMany t_a_42_8 (p1 - 1) 1 H r50_10 h50_10) (cwV 2 hts gX8_drop_X8_of rfl rfl rfl hd_X8_of ⟨Nat.le_of_ble_eq_true rfl, Nat.le_of_ble_eq_true rfl⟩) (hC.at hz hS) (selP (m9 := [true, true, false]) rfl rfl hP) 0 rfl (show vwCl[8]? = some (RX8, TX8, 20) from rfl) rfl rfl hl.1 rfl (Nat.le_of_ble_eq_true rfl) dX8_drop_50 ⟨Nat.zero_le _, Nat.zero_le _⟩ rfl ?_
      cases hF
      exact we_iret hx hb hr hlocks dX8_drop_53 rfl hQ hP hD hS
    · have hF := brF c29 hF
      refine lv_iconst (v := 0) hx hb dX8_drop_32 (by decide) ?_
      cases hF
      exact we_iret hx hb hr hlocks dX8_drop_33 rfl hQ hP hD hS
  refine lv_if_ne (tgt := 13) hx hb dX8_drop_6 (by decide) (fun c6 => ?_) (fun c6 => ?_)
  · have hF := brF c6 hF
    refine lv_iload_n hx hb dX8_drop_13 rfl (lv_at hl 1 rfl) ?_
    refine lv_if_ne (tgt := 21) hx hb dX8_drop_14 (by decide) (fun c14 => ?_) (fun c14 => ?_)
    · have hF := brF c14 hF
      refine lv_iconst (v := 0) hx hb dX8_drop_21 (by decide) ?_
      exact hk22_4 0 H locs ls hP hD hS hl hF
    · have hF := brT c14 hF
      refine lv_iconst (v := 2) hx hb dX8_drop_17 (by decide) ?_
      refine lv_goto (tgt := 22) hx hb dX8_drop_18 (by decide) ?_
      exact hk22_4 2 H locs ls hP hD hS hl hF
  · have hF := brT c6 hF
    refine lv_iconst (v := 1) hx hb dX8_drop_9 (by decide) ?_
    refine lv_goto (tgt := 22) hx hb dX8_drop_10 (by decide) ?_
    exact hk22_4 1 H locs ls hP hD hS hl hF
abbrev rm_X8_hottest : Room := { frames := 1, cells := 0, slots := 0, locals := 22 }
theorem hd_X8_hottest : yX8_hottest.cls = RX8 ∧ yX8_hottest.cls ≠ "java/lang/invoke/MethodHandle" ∧ yX8_hottest.cls ≠ "java/lang/invoke/VarHandle" ∧ (parseMethodDescriptor yX8_hottest.desc).map (fun d => d.parameters.length) = some 0 := by decide +kernel
set_option maxRecDepth 100000 in
set_option maxHeartbeats 4000000 in
theorem c_X8_hottest (l : Launch) (D : va_G) (t : Nat → ClassId) (z : Nat) (x : Nat → Nat) (N : Nat) (a_t : Nat) (a_t_a : Nat) (v_t_fresh : Value) (v_t_aside : Value) (v_t_kept : Value) (v_t_buffer : Value) (v_t_moved : Value) (v_t_written : Value) (t_keptMany : Int32) (t_thrown : Int32) (t_buffered : Int32) (t_size : Int32) (t_at : Int32) (t_behind : Int32) (t_kind : Int32) (t_number : Int32) (t_wrong : Int32) (t_wrongAt : Int32) (t_errorAt : Int32) (t_unused : Int32) (t_writtenMany : Int32) (t_a_ : (Nat → Int32)) (sz : Nat) (r : Int32) (t_thrown' : Int32) (hF : f_X8_hottest N t_a_ = some (r, t_thrown')) : WrM l D (TY t) z x yX8_hottest wsX8_hottest rm_X8_hottest [.ref a_t] [(a_t, .inr (8, [.ref a_t_a, v_t_fresh, v_t_aside, v_t_kept, .int t_keptMany, .int t_thrown, v_t_buffer, .int t_buffered, .int t_size, .int t_at, .int t_behind, .int t_kind, .int t_number, .int t_wrong, .int t_wrongAt, .int t_errorAt, v_t_moved, .int t_unused, v_t_written, .int t_writtenMany])), (a_t_a, .inl (t 0, 876, .inl t_a_))] [(a_t, .inr (8, [.ref a_t_a, v_t_fresh, v_t_aside, v_t_kept, .int t_keptMany, .int t_thrown', v_t_buffer, .int t_buffered, .int t_size, .int t_at, .int t_behind, .int t_kind, .int t_number, .int t_wrong, .int t_wrongAt, .int t_errorAt, v_t_moved, .int t_unused, v_t_written, .int t_writtenMany])), (a_t_a, .inl (t 0, 876, .inl t_a_))] sz (some (.int r)) 0 0 := by
  refine wr_of (cc := cX8_hottest) (maxL := 3) (ret := (some .int)) (by decide) rfl (Nat.le_of_ble_eq_true rfl) ?_
  intro p e s m args below meth c A Q hQ hx hb hr hml hts hown hlocks hin H locs hP hD hS hA hz hC ls hl
  have hown : s.vm.findClass RX8 = some m.cls := hown
  have hl : lv_has ls 3 [(0, .ref a_t)] := hl
  have hK := hC.1
  have iw8 : ∀ w ∈ wsX80, w ∈ wsX8_hottest := fun _ h => List.mem_cons_of_mem _ (List.mem_append_right _ h)
  have hf7 := hts (.fieldLink RX8 7 "CrackedColumnModel" "a" "[I") (by decide +kernel)
  have hf45 := hts (.fieldLink RX8 45 "CrackedColumnModel" "thrown" "I") (by decide +kernel)
  unfold f_X8_hottest at hF
  refine lv_aload_n hx hb dX8_hottest_0 rfl (lv_at hl 0 rfl) ?_
  refine lv_iconst (v := 0) hx hb dX8_hottest_1 (by decide) ?_
  refine my_put (ty := .int) (v := .int 0) (ci := 8) (C := RX8) (T := TX8) (N := 20) (wn := [(a_t, .inr (8, [.ref a_t_a, v_t_fresh, v_t_aside, v_t_kept, .int t_keptMany, .int 0, v_t_buffer, .int t_buffered, .int t_size, .int t_at, .int t_behind, .int t_kind, .int t_number, .int t_wrong, .int t_wrongAt, .int t_errorAt, v_t_moved, .int t_unused, v_t_written, .int t_writtenMany])), (a_t_a, .inl (t 0, 876, .inl t_a_))]) hx hb hts iw8 tyX8 tyX8_ok nmX8 hown hK hP hD hS 0 rfl rfl 5 (by decide) hf45 (fun _ h9 => h9) rfl (by decide +kernel) rfl rfl (Nat.le_of_ble_eq_true rfl) rfl dX8_hottest_2 (fun H locs hP hD hS => ?_)
  refine lv_iconst (v := 0) hx hb dX8_hottest_5 (by decide) ?_
  refine lv_istore_n (lv' := [(1, .int 0), (0, .ref a_t)]) hx hb dX8_hottest_6 rfl hl (by decide) rfl (fun ls hl => ?_)
  refine lv_iconst (v := 1) hx hb dX8_hottest_7 (by decide) ?_
  refine lv_istore_n (lv' := [(2, .int 1), (1, .int 0), (0, .ref a_t)]) hx hb dX8_hottest_8 rfl hl (by decide) rfl (fun ls hl => ?_)
  obtain ⟨k46_2, ek46_2, hF⟩ := jnE hF
  have hk46_2 : ∀ (x1_46_1 : Int32) (H : Heap) (locs : List Loc) (ls : Array Slot), va_P D vwCl [(a_t, .inr (8, [.ref a_t_a, v_t_fresh, v_t_aside, v_t_kept, .int t_keptMany, .int 0, v_t_buffer, .int t_buffered, .int t_size, .int t_at, .int t_behind, .int t_kind, .int t_number, .int t_wrong, .int t_wrongAt, .int t_errorAt, v_t_moved, .int t_unused, v_t_written, .int t_writtenMany])), (a_t_a, .inl (t 0, 876, .inl t_a_))] H → va_D A [(a_t, .inr (8, [.ref a_t_a, v_t_fresh, v_t_aside, v_t_kept, .int t_keptMany, .int 0, v_t_buffer, .int t_buffered, .int t_size, .int t_at, .int t_behind, .int t_kind, .int t_number, .int t_wrong, .int t_wrongAt, .int t_errorAt, v_t_moved, .int t_unused, v_t_written, .int t_writtenMany])), (a_t_a, .inl (t 0, 876, .inl t_a_))] → va_S A s.heap H locs → lv_has ls 3 [(1, .int x1_46_1)] → k46_2 x1_46_1 = some (r, t_thrown') → W p l e rm_X8_hottest s m args below meth c H locs 0 0 Q (F0 m 46 ls []) := by
    subst ek46_2
    intro x1_46_1 H locs ls hP hD hS hl hF
    refine lv_iload_n hx hb dX8_hottest_46 rfl (lv_at hl 0 rfl) ?_
    cases hF
    exact we_iret hx hb hr hlocks dX8_hottest_47 rfl hQ hP hD hS
  have hlp9 : ∀ n9 : Nat, ∀ (x1_9_3 : Int32) (x2_9_4 : Int32) (H : Heap) (locs : List Loc) (ls : Array Slot), va_P D vwCl [(a_t, .inr (8, [.ref a_t_a, v_t_fresh, v_t_aside, v_t_kept, .int t_keptMany, .int 0, v_t_buffer, .int t_buffered, .int t_size, .int t_at, .int t_behind, .int t_kind, .int t_number, .int t_wrong, .int t_wrongAt, .int t_errorAt, v_t_moved, .int t_unused, v_t_written, .int t_writtenMany])), (a_t_a, .inl (t 0, 876, .inl t_a_))] H → va_D A [(a_t, .inr (8, [.ref a_t_a, v_t_fresh, v_t_aside, v_t_kept, .int t_keptMany, .int 0, v_t_buffer, .int t_buffered, .int t_size, .int t_at, .int t_behind, .int t_kind, .int t_number, .int t_wrong, .int t_wrongAt, .int t_errorAt, v_t_moved, .int t_unused, v_t_written, .int t_writtenMany])), (a_t_a, .inl (t 0, 876, .inl t_a_))] → va_S A s.heap H locs → lv_has ls 3 [(0, .ref a_t), (1, .int x1_9_3), (2, .int x2_9_4)] → f_X8_hottest_9 t_a_ k46_2 n9 x1_9_3 x2_9_4 = some (r, t_thrown') → W p l e rm_X8_hottest s m args below meth c H locs 0 0 Q (F0 m 9 ls []) := by
    intro n9
    induction n9 with
    | zero =>
      intro x1_9_3 x2_9_4 H locs ls hP hD hS hl hF
      cases (show none = some (r, t_thrown') from hF)
    | succ n9 ih9 =>
      intro x1_9_3 x2_9_4 H locs ls hP hD hS hl hF
      rw [f_X8_hottest_9] at hF
      refine lv_iload_n hx hb dX8_hottest_9 rfl (lv_at hl 2 rfl) ?_
      refine lv_aload_n hx hb dX8_hottest_10 rfl (lv_at hl 0 rfl) ?_
      refine va_get (D := D) (ci := 8) (v := .ref a_t_a) (C := RX8) (T := TX8) (N := 20) hx hb hts iw8 hown hK hP 0 rfl rfl 0 (by decide) hf7 (fun _ h9 => h9) rfl dX8_hottest_11 ?_
      refine lv_iconst (v := 3) hx hb dX8_hottest_14 (by decide) ?_
      refine my_iald (v := t_a_ 3) hx hb hK hP 1 0 rfl rfl (vp_lit (by decide +kernel)) rfl dX8_hottest_15 ?_
      refine lv_icmp_ge (tgt := 46) hx hb dX8_hottest_16 (by decide) (fun c16 => ?_) (fun c16 => ?_)
      · have hF := brT c16 hF
        exact hk46_2 x1_9_3 H locs ls hP hD hS (lv_sub hl [1] rfl) hF
      · have hF := brF c16 hF
        refine lv_aload_n hx hb dX8_hottest_19 rfl (lv_at hl 0 rfl) ?_
        refine lv_iload_n hx hb dX8_hottest_20 rfl (lv_at hl 2 rfl) ?_
        refine lv_iconst (v := 2) hx hb dX8_hottest_21 (by decide) ?_
        obtain ⟨r22_5, h22_5, hF⟩ := bndE hF
        refine rdV (As := [.int x2_9_4, .int 2]) (rest := []) (C := RX8) ⟨hx, hb, hml, hown, hts⟩ (c_X8_of l D t z x a_t a_t_a v_t_fresh v_t_aside v_t_kept v_t_buffer v_t_moved v_t_written t_keptMany 0 t_buffered t_size t_at t_behind t_kind t_number t_wrong t_wrongAt t_errorAt t_unused t_writtenMany t_a_ x2_9_4 2 H r22_5 h22_5) (cwV 2 hts gX8_hottest_X8_of rfl rfl rfl hd_X8_of ⟨Nat.le_of_ble_eq_true rfl, Nat.le_of_ble_eq_true rfl⟩) (hC.at hz hS) (selP (m9 := [true, true]) rfl rfl hP) 0 rfl (show vwCl[8]? = some (RX8, TX8, 20) from rfl) rfl rfl hl.1 rfl (Nat.le_of_ble_eq_true rfl) dX8_hottest_22 ⟨Nat.zero_le _, Nat.zero_le _⟩ rfl ?_
        refine lv_aload_n hx hb dX8_hottest_25 rfl (lv_at hl 0 rfl) ?_
        refine lv_iload_n hx hb dX8_hottest_26 rfl (lv_at hl 1 rfl) ?_
        refine lv_iconst (v := 2) hx hb dX8_hottest_27 (by decide) ?_
        obtain ⟨r28_7, h28_7, hF⟩ := bndE hF
        refine rdV (As := [.int x1_9_3, .int 2]) (rest := [.int r22_5]) (C := RX8) ⟨hx, hb, hml, hown, hts⟩ (c_X8_of l D t z x a_t a_t_a v_t_fresh v_t_aside v_t_kept v_t_buffer v_t_moved v_t_written t_keptMany 0 t_buffered t_size t_at t_behind t_kind t_number t_wrong t_wrongAt t_errorAt t_unused t_writtenMany t_a_ x1_9_3 2 H r28_7 h28_7) (cwV 2 hts gX8_hottest_X8_of rfl rfl rfl hd_X8_of ⟨Nat.le_of_ble_eq_true rfl, Nat.le_of_ble_eq_true rfl⟩) (hC.at hz hS) (selP (m9 := [true, true]) rfl rfl hP) 0 rfl (show vwCl[8]? = some (RX8, TX8, 20) from rfl) rfl rfl hl.1 rfl (Nat.le_of_ble_eq_true rfl) dX8_hottest_28 ⟨Nat.zero_le _, Nat.zero_le _⟩ rfl ?_
        refine lv_icmp_le (tgt := 38) hx hb dX8_hottest_31 (by decide) (fun c31 => ?_) (fun c31 => ?_)
        · have hF := brT c31 hF
          refine lv_iload_n hx hb dX8_hottest_38 rfl (lv_at hl 1 rfl) ?_
          refine lv_istore_n (lv' := [(1, .int x1_9_3), (0, .ref a_t), (2, .int x2_9_4)]) hx hb dX8_hottest_39 rfl hl (by decide) rfl (fun ls hl => ?_)
          obtain ⟨y40_9, ey40_9⟩ : ∃ y : Int32, y = x2_9_4 + 1 := ⟨_, rfl⟩
          have hF := ltE ey40_9 hF
          refine lv_iinc (v := y40_9) (lv' := [(2, .int y40_9), (1, .int x1_9_3), (0, .ref a_t)]) hx hb dX8_hottest_40 hl (k := 2) rfl (by rw [ey40_9]; rfl) (by decide) rfl (fun ls hl => ?_)
          refine lv_goto (tgt := 9) hx hb dX8_hottest_43 (by decide) ?_
          exact ih9 x1_9_3 y40_9 H locs ls hP hD hS (lv_sub hl [2, 1, 0] rfl) hF
        · have hF := brF c31 hF
          refine lv_iload_n hx hb dX8_hottest_34 rfl (lv_at hl 2 rfl) ?_
          refine lv_goto (tgt := 39) hx hb dX8_hottest_35 (by decide) ?_
          refine lv_istore_n (lv' := [(1, .int x2_9_4), (0, .ref a_t), (2, .int x2_9_4)]) hx hb dX8_hottest_39 rfl hl (by decide) rfl (fun ls hl => ?_)
          obtain ⟨y40_10, ey40_10⟩ : ∃ y : Int32, y = x2_9_4 + 1 := ⟨_, rfl⟩
          have hF := ltE ey40_10 hF
          refine lv_iinc (v := y40_10) (lv' := [(2, .int y40_10), (1, .int x2_9_4), (0, .ref a_t)]) hx hb dX8_hottest_40 hl (k := 2) rfl (by rw [ey40_10]; rfl) (by decide) rfl (fun ls hl => ?_)
          refine lv_goto (tgt := 9) hx hb dX8_hottest_43 (by decide) ?_
          exact ih9 x2_9_4 y40_10 H locs ls hP hD hS (lv_sub hl [2, 1, 0] rfl) hF
  exact hlp9 N 0 1 H locs ls hP hD hS (lv_sub hl [2, 1, 0] rfl) hF
abbrev rm_X8_coldestPair : Room := { frames := 2, cells := 0, slots := 0, locals := 44 }
theorem hd_X8_coldestPair : yX8_coldestPair.cls = RX8 ∧ yX8_coldestPair.cls ≠ "java/lang/invoke/MethodHandle" ∧ yX8_coldestPair.cls ≠ "java/lang/invoke/VarHandle" ∧ (parseMethodDescriptor yX8_coldestPair.desc).map (fun d => d.parameters.length) = some 0 := by decide +kernel
set_option maxRecDepth 100000 in
set_option maxHeartbeats 4000000 in
theorem c_X8_coldestPair (l : Launch) (D : va_G) (t : Nat → ClassId) (z : Nat) (x : Nat → Nat) (N : Nat) (a_t : Nat) (a_t_a : Nat) (v_t_fresh : Value) (v_t_aside : Value) (v_t_kept : Value) (v_t_buffer : Value) (v_t_moved : Value) (v_t_written : Value) (t_keptMany : Int32) (t_thrown : Int32) (t_buffered : Int32) (t_size : Int32) (t_at : Int32) (t_behind : Int32) (t_kind : Int32) (t_number : Int32) (t_wrong : Int32) (t_wrongAt : Int32) (t_errorAt : Int32) (t_unused : Int32) (t_writtenMany : Int32) (t_a_ : (Nat → Int32)) (sz : Nat) (r : Int32) (t_thrown' : Int32) (hF : f_X8_coldestPair N t_a_ = some (r, t_thrown')) : WrM l D (TY t) z x yX8_coldestPair wsX8_coldestPair rm_X8_coldestPair [.ref a_t] [(a_t, .inr (8, [.ref a_t_a, v_t_fresh, v_t_aside, v_t_kept, .int t_keptMany, .int t_thrown, v_t_buffer, .int t_buffered, .int t_size, .int t_at, .int t_behind, .int t_kind, .int t_number, .int t_wrong, .int t_wrongAt, .int t_errorAt, v_t_moved, .int t_unused, v_t_written, .int t_writtenMany])), (a_t_a, .inl (t 0, 876, .inl t_a_))] [(a_t, .inr (8, [.ref a_t_a, v_t_fresh, v_t_aside, v_t_kept, .int t_keptMany, .int t_thrown', v_t_buffer, .int t_buffered, .int t_size, .int t_at, .int t_behind, .int t_kind, .int t_number, .int t_wrong, .int t_wrongAt, .int t_errorAt, v_t_moved, .int t_unused, v_t_written, .int t_writtenMany])), (a_t_a, .inl (t 0, 876, .inl t_a_))] sz (some (.int r)) 0 0 := by
  refine wr_of (cc := cX8_coldestPair) (maxL := 1) (ret := (some .int)) (by decide) rfl (Nat.le_of_ble_eq_true rfl) ?_
  intro p e s m args below meth c A Q hQ hx hb hr hml hts hown hlocks hin H locs hP hD hS hA hz hC ls hl
  have hown : s.vm.findClass RX8 = some m.cls := hown
  have hl : lv_has ls 1 [(0, .ref a_t)] := hl
  have hK := hC.1
  have iw8 : ∀ w ∈ wsX80, w ∈ wsX8_coldestPair := fun _ h => List.mem_cons_of_mem _ (List.mem_append_right _ h)
  have hf7 := hts (.fieldLink RX8 7 "CrackedColumnModel" "a" "[I") (by decide +kernel)
  have hf45 := hts (.fieldLink RX8 45 "CrackedColumnModel" "thrown" "I") (by decide +kernel)
  unfold f_X8_coldestPair at hF
  refine lv_aload_n hx hb dX8_coldestPair_0 rfl (lv_at hl 0 rfl) ?_
  refine lv_aload_n hx hb dX8_coldestPair_1 rfl (lv_at hl 0 rfl) ?_
  refine va_get (D := D) (ci := 8) (v := .ref a_t_a) (C := RX8) (T := TX8) (N := 20) hx hb hts iw8 hown hK hP 0 rfl rfl 0 (by decide) hf7 (fun _ h9 => h9) rfl dX8_coldestPair_2 ?_
  refine lv_iconst (v := 3) hx hb dX8_coldestPair_5 (by decide) ?_
  refine my_iald (v := t_a_ 3) hx hb hK hP 1 0 rfl rfl (vp_lit (by decide +kernel)) rfl dX8_coldestPair_6 ?_
  refine lv_iconst (v := 1) hx hb dX8_coldestPair_7 (by decide) ?_
  obtain ⟨k16_2, ek16_2, hF⟩ := jnE hF
  have hk16_2 : ∀ (s0_16_1 : Int32) (H : Heap) (locs : List Loc) (ls : Array Slot), va_P D vwCl [(a_t, .inr (8, [.ref a_t_a, v_t_fresh, v_t_aside, v_t_kept, .int t_keptMany, .int t_thrown, v_t_buffer, .int t_buffered, .int t_size, .int t_at, .int t_behind, .int t_kind, .int t_number, .int t_wrong, .int t_wrongAt, .int t_errorAt, v_t_moved, .int t_unused, v_t_written, .int t_writtenMany])), (a_t_a, .inl (t 0, 876, .inl t_a_))] H → va_D A [(a_t, .inr (8, [.ref a_t_a, v_t_fresh, v_t_aside, v_t_kept, .int t_keptMany, .int t_thrown, v_t_buffer, .int t_buffered, .int t_size, .int t_at, .int t_behind, .int t_kind, .int t_number, .int t_wrong, .int t_wrongAt, .int t_errorAt, v_t_moved, .int t_unused, v_t_written, .int t_writtenMany])), (a_t_a, .inl (t 0, 876, .inl t_a_))] → va_S A s.heap H locs → lv_has ls 1 [(0, .ref a_t)] → k16_2 s0_16_1 = some (r, t_thrown') → W p l e rm_X8_coldestPair s m args below meth c H locs 0 0 Q (F0 m 16 ls [.int s0_16_1, .ref a_t]) := by
    subst ek16_2
    intro s0_16_1 H locs ls hP hD hS hl hF
    refine my_put (ty := .int) (v := .int s0_16_1) (ci := 8) (C := RX8) (T := TX8) (N := 20) (wn := [(a_t, .inr (8, [.ref a_t_a, v_t_fresh, v_t_aside, v_t_kept, .int t_keptMany, .int s0_16_1, v_t_buffer, .int t_buffered, .int t_size, .int t_at, .int t_behind, .int t_kind, .int t_number, .int t_wrong, .int t_wrongAt, .int t_errorAt, v_t_moved, .int t_unused, v_t_written, .int t_writtenMany])), (a_t_a, .inl (t 0, 876, .inl t_a_))]) hx hb hts iw8 tyX8 tyX8_ok nmX8 hown hK hP hD hS 0 rfl rfl 5 (by decide) hf45 (fun _ h9 => h9) rfl (by decide +kernel) rfl rfl (Nat.le_of_ble_eq_true rfl) rfl dX8_coldestPair_16 (fun H locs hP hD hS => ?_)
    refine lv_aload_n hx hb dX8_coldestPair_19 rfl (lv_at hl 0 rfl) ?_
    refine va_get (D := D) (ci := 8) (v := .int s0_16_1) (C := RX8) (T := TX8) (N := 20) hx hb hts iw8 hown hK hP 0 rfl rfl 5 (by decide) hf45 (fun _ h9 => h9) rfl dX8_coldestPair_20 ?_
    refine lv_if_le (tgt := 30) hx hb dX8_coldestPair_23 (by decide) (fun c23 => ?_) (fun c23 => ?_)
    · have hF := brT c23 hF
      refine lv_aload_n hx hb dX8_coldestPair_30 rfl (lv_at hl 0 rfl) ?_
      obtain ⟨r31_3, h31_3, hF⟩ := bndE hF
      refine rdV (As := []) (rest := []) (C := RX8) ⟨hx, hb, hml, hown, hts⟩ (c_X8_coldest l D t z x N a_t a_t_a v_t_fresh v_t_aside v_t_kept v_t_buffer v_t_moved v_t_written t_keptMany s0_16_1 t_buffered t_size t_at t_behind t_kind t_number t_wrong t_wrongAt t_errorAt t_unused t_writtenMany t_a_ H r31_3 h31_3) (cwV 0 hts gX8_coldestPair_X8_coldest rfl rfl rfl hd_X8_coldest ⟨Nat.le_of_ble_eq_true rfl, Nat.le_of_ble_eq_true rfl⟩) (hC.at hz hS) (selP (m9 := [true, true]) rfl rfl hP) 0 rfl (show vwCl[8]? = some (RX8, TX8, 20) from rfl) rfl rfl hl.1 rfl (Nat.le_of_ble_eq_true rfl) dX8_coldestPair_31 ⟨Nat.zero_le _, Nat.zero_le _⟩ rfl ?_
      cases hF
      exact we_iret hx hb hr hlocks dX8_coldestPair_34 rfl hQ hP hD hS
    · have hF := brF c23 hF
      refine lv_iconst (v := 0) hx hb dX8_coldestPair_26 (by decide) ?_
      refine lv_goto (tgt := 34) hx hb dX8_coldestPair_27 (by decide) ?_
      cases hF
      exact we_iret hx hb hr hlocks dX8_coldestPair_34 rfl hQ hP hD hS
  refine lv_icmp_ne (tgt := 15) hx hb dX8_coldestPair_8 (by decide) (fun c8 => ?_) (fun c8 => ?_)
  · have hF := brF c8 hF
    refine lv_iconst (v := 0) hx hb dX8_coldestPair_15 (by decide) ?_
    exact hk16_2 0 H locs ls hP hD hS hl hF
  · have hF := brT c8 hF
    refine lv_iconst (v := 1) hx hb dX8_coldestPair_11 (by decide) ?_
    refine lv_goto (tgt := 16) hx hb dX8_coldestPair_12 (by decide) ?_
    exact hk16_2 1 H locs ls hP hD hS hl hF
abbrev rm_X8_says : Room := { frames := 0, cells := 0, slots := 0, locals := 0 }
theorem hd_X8_says : yX8_says.cls = RX8 ∧ yX8_says.cls ≠ "java/lang/invoke/MethodHandle" ∧ yX8_says.cls ≠ "java/lang/invoke/VarHandle" ∧ (parseMethodDescriptor yX8_says.desc).map (fun d => d.parameters.length) = some 1 := by decide +kernel
set_option maxRecDepth 100000 in
set_option maxHeartbeats 4000000 in
theorem c_X8_says (l : Launch) (D : va_G) (t : Nat → ClassId) (z : Nat) (x : Nat → Nat) (a_t : Nat) (a_t_written : Nat) (v_t_a : Value) (v_t_fresh : Value) (v_t_aside : Value) (v_t_kept : Value) (v_t_buffer : Value) (v_t_moved : Value) (t_keptMany : Int32) (t_thrown : Int32) (t_buffered : Int32) (t_size : Int32) (t_at : Int32) (t_behind : Int32) (t_kind : Int32) (t_number : Int32) (t_wrong : Int32) (t_wrongAt : Int32) (t_errorAt : Int32) (t_unused : Int32) (t_writtenMany : Int32) (t_written_ : (Nat → Int32)) (p1 : Int32) (sz : Nat) (t_writtenMany' : Int32) (t_written_' : (Nat → Int32)) (hF : f_X8_says t_writtenMany t_written_ p1 = some (t_writtenMany', t_written_')) : WrM l D (TY t) z x yX8_says wsX8_says rm_X8_says [.ref a_t, .int p1] [(a_t, .inr (8, [v_t_a, v_t_fresh, v_t_aside, v_t_kept, .int t_keptMany, .int t_thrown, v_t_buffer, .int t_buffered, .int t_size, .int t_at, .int t_behind, .int t_kind, .int t_number, .int t_wrong, .int t_wrongAt, .int t_errorAt, v_t_moved, .int t_unused, .ref a_t_written, .int t_writtenMany])), (a_t_written, .inl (t 0, 1400, .inl t_written_))] [(a_t, .inr (8, [v_t_a, v_t_fresh, v_t_aside, v_t_kept, .int t_keptMany, .int t_thrown, v_t_buffer, .int t_buffered, .int t_size, .int t_at, .int t_behind, .int t_kind, .int t_number, .int t_wrong, .int t_wrongAt, .int t_errorAt, v_t_moved, .int t_unused, .ref a_t_written, .int t_writtenMany'])), (a_t_written, .inl (t 0, 1400, .inl t_written_'))] sz none 0 0 := by
  refine wr_of (cc := cX8_says) (maxL := 2) (ret := none) (by decide) rfl (Nat.le_of_ble_eq_true rfl) ?_
  intro p e s m args below meth c A Q hQ hx hb hr hml hts hown hlocks hin H locs hP hD hS hA hz hC ls hl
  have hown : s.vm.findClass RX8 = some m.cls := hown
  have hl : lv_has ls 2 [(0, .ref a_t), (1, .int p1)] := hl
  have hK := hC.1
  have iw8 : ∀ w ∈ wsX80, w ∈ wsX8_says := fun _ h => List.mem_cons_of_mem _ (List.mem_append_right _ h)
  have hf32 := hts (.fieldLink RX8 32 "CrackedColumnModel" "written" "[I") (by decide +kernel)
  have hf268 := hts (.fieldLink RX8 268 "CrackedColumnModel" "writtenMany" "I") (by decide +kernel)
  unfold f_X8_says at hF
  refine lv_aload_n hx hb dX8_says_0 rfl (lv_at hl 0 rfl) ?_
  refine va_get (D := D) (ci := 8) (v := .ref a_t_written) (C := RX8) (T := TX8) (N := 20) hx hb hts iw8 hown hK hP 0 rfl rfl 18 (by decide) hf32 (fun _ h9 => h9) rfl dX8_says_1 ?_
  refine lv_aload_n hx hb dX8_says_4 rfl (lv_at hl 0 rfl) ?_
  refine va_get (D := D) (ci := 8) (v := .int t_writtenMany) (C := RX8) (T := TX8) (N := 20) hx hb hts iw8 hown hK hP 0 rfl rfl 19 (by decide) hf268 (fun _ h9 => h9) rfl dX8_says_5 ?_
  refine lv_iload_n hx hb dX8_says_8 rfl (lv_at hl 1 rfl) ?_
  obtain ⟨g9_0, hF⟩ := gd hF
  obtain ⟨t_written_9_2, et_written_9_2⟩ : ∃ y : Nat → Int32, y = upd t_written_ t_writtenMany.toNatClampNeg p1 := ⟨_, rfl⟩
  have hF := ltE et_written_9_2 hF
  refine my_iast (g := t_written_9_2) (wn := [(a_t, .inr (8, [v_t_a, v_t_fresh, v_t_aside, v_t_kept, .int t_keptMany, .int t_thrown, v_t_buffer, .int t_buffered, .int t_size, .int t_at, .int t_behind, .int t_kind, .int t_number, .int t_wrong, .int t_wrongAt, .int t_errorAt, v_t_moved, .int t_unused, .ref a_t_written, .int t_writtenMany])), (a_t_written, .inl (t 0, 1400, .inl t_written_9_2))]) hx hb hK hP hD hS 1 0 rfl rfl g9_0 et_written_9_2 rfl dX8_says_9 (fun H locs hP hD hS => ?_)
  refine lv_aload_n hx hb dX8_says_10 rfl (lv_at hl 0 rfl) ?_
  refine lv_dup hx hb dX8_says_11 rfl ?_
  refine va_get (D := D) (ci := 8) (v := .int t_writtenMany) (C := RX8) (T := TX8) (N := 20) hx hb hts iw8 hown hK hP 0 rfl rfl 19 (by decide) hf268 (fun _ h9 => h9) rfl dX8_says_12 ?_
  refine lv_iconst (v := 1) hx hb dX8_says_15 (by decide) ?_
  refine lv_iadd hx hb dX8_says_16 ?_
  refine lv_topi (fun y17_3 ey17_3 => ?_)
  have hF := ltE ey17_3 hF
  refine my_put (ty := .int) (v := .int y17_3) (ci := 8) (C := RX8) (T := TX8) (N := 20) (wn := [(a_t, .inr (8, [v_t_a, v_t_fresh, v_t_aside, v_t_kept, .int t_keptMany, .int t_thrown, v_t_buffer, .int t_buffered, .int t_size, .int t_at, .int t_behind, .int t_kind, .int t_number, .int t_wrong, .int t_wrongAt, .int t_errorAt, v_t_moved, .int t_unused, .ref a_t_written, .int y17_3])), (a_t_written, .inl (t 0, 1400, .inl t_written_9_2))]) hx hb hts iw8 tyX8 tyX8_ok nmX8 hown hK hP hD hS 0 rfl rfl 19 (by decide) hf268 (fun _ h9 => h9) rfl (by decide +kernel) rfl rfl (Nat.le_of_ble_eq_true rfl) rfl dX8_says_17 (fun H locs hP hD hS => ?_)
  cases hF
  exact we_vret hx hb hr hlocks dX8_says_20 rfl hQ hP hD hS
abbrev rm_X8_saysNumber : Room := { frames := 1, cells := 0, slots := 0, locals := 21 }
theorem hd_X8_saysNumber : yX8_saysNumber.cls = RX8 ∧ yX8_saysNumber.cls ≠ "java/lang/invoke/MethodHandle" ∧ yX8_saysNumber.cls ≠ "java/lang/invoke/VarHandle" ∧ (parseMethodDescriptor yX8_saysNumber.desc).map (fun d => d.parameters.length) = some 1 := by decide +kernel
set_option maxRecDepth 100000 in
set_option maxHeartbeats 4000000 in
theorem c_X8_saysNumber (l : Launch) (D : va_G) (t : Nat → ClassId) (z : Nat) (x : Nat → Nat) (N : Nat) (a_t : Nat) (a_t_written : Nat) (v_t_a : Value) (v_t_fresh : Value) (v_t_aside : Value) (v_t_kept : Value) (v_t_buffer : Value) (v_t_moved : Value) (t_keptMany : Int32) (t_thrown : Int32) (t_buffered : Int32) (t_size : Int32) (t_at : Int32) (t_behind : Int32) (t_kind : Int32) (t_number : Int32) (t_wrong : Int32) (t_wrongAt : Int32) (t_errorAt : Int32) (t_unused : Int32) (t_writtenMany : Int32) (t_written_ : (Nat → Int32)) (p1 : Int32) (sz : Nat) (t_writtenMany' : Int32) (t_written_' : (Nat → Int32)) (hF : f_X8_saysNumber N t_writtenMany t_written_ p1 = some (t_writtenMany', t_written_')) : WrM l D (TY t) z x yX8_saysNumber wsX8_saysNumber rm_X8_saysNumber [.ref a_t, .int p1] [(a_t, .inr (8, [v_t_a, v_t_fresh, v_t_aside, v_t_kept, .int t_keptMany, .int t_thrown, v_t_buffer, .int t_buffered, .int t_size, .int t_at, .int t_behind, .int t_kind, .int t_number, .int t_wrong, .int t_wrongAt, .int t_errorAt, v_t_moved, .int t_unused, .ref a_t_written, .int t_writtenMany])), (a_t_written, .inl (t 0, 1400, .inl t_written_))] [(a_t, .inr (8, [v_t_a, v_t_fresh, v_t_aside, v_t_kept, .int t_keptMany, .int t_thrown, v_t_buffer, .int t_buffered, .int t_size, .int t_at, .int t_behind, .int t_kind, .int t_number, .int t_wrong, .int t_wrongAt, .int t_errorAt, v_t_moved, .int t_unused, .ref a_t_written, .int t_writtenMany'])), (a_t_written, .inl (t 0, 1400, .inl t_written_'))] sz none 0 0 := by
  refine wr_of (cc := cX8_saysNumber) (maxL := 3) (ret := none) (by decide) rfl (Nat.le_of_ble_eq_true rfl) ?_
  intro p e s m args below meth c A Q hQ hx hb hr hml hts hown hlocks hin H locs hP hD hS hA hz hC ls hl
  have hown : s.vm.findClass RX8 = some m.cls := hown
  have hl : lv_has ls 3 [(0, .ref a_t), (1, .int p1)] := hl
  have hK := hC.1
  unfold f_X8_saysNumber at hF
  refine lv_iconst (v := 1) hx hb dX8_saysNumber_0 (by decide) ?_
  refine lv_istore_n (lv' := [(2, .int 1), (0, .ref a_t), (1, .int p1)]) hx hb dX8_saysNumber_1 rfl hl (by decide) rfl (fun ls hl => ?_)
  obtain ⟨k18_2, ek18_2, hF⟩ := jnE hF
  have hk18_2 : ∀ (x2_18_1 : Int32) (H : Heap) (locs : List Loc) (ls : Array Slot), va_P D vwCl [(a_t, .inr (8, [v_t_a, v_t_fresh, v_t_aside, v_t_kept, .int t_keptMany, .int t_thrown, v_t_buffer, .int t_buffered, .int t_size, .int t_at, .int t_behind, .int t_kind, .int t_number, .int t_wrong, .int t_wrongAt, .int t_errorAt, v_t_moved, .int t_unused, .ref a_t_written, .int t_writtenMany])), (a_t_written, .inl (t 0, 1400, .inl t_written_))] H → va_D A [(a_t, .inr (8, [v_t_a, v_t_fresh, v_t_aside, v_t_kept, .int t_keptMany, .int t_thrown, v_t_buffer, .int t_buffered, .int t_size, .int t_at, .int t_behind, .int t_kind, .int t_number, .int t_wrong, .int t_wrongAt, .int t_errorAt, v_t_moved, .int t_unused, .ref a_t_written, .int t_writtenMany])), (a_t_written, .inl (t 0, 1400, .inl t_written_))] → va_S A s.heap H locs → lv_has ls 3 [(0, .ref a_t), (1, .int p1), (2, .int x2_18_1)] → k18_2 x2_18_1 = some (t_writtenMany', t_written_') → W p l e rm_X8_saysNumber s m args below meth c H locs 0 0 Q (F0 m 18 ls []) := by
    subst ek18_2
    intro x2_18_1 H locs ls hP hD hS hl hF
    obtain ⟨k43_5, ek43_5, hF⟩ := jnE hF
    have hk43_5 : ∀ (t_writtenMany_43_3 : Int32) (t_written_43_4 : (Nat → Int32)) (H : Heap) (locs : List Loc) (ls : Array Slot), va_P D vwCl [(a_t, .inr (8, [v_t_a, v_t_fresh, v_t_aside, v_t_kept, .int t_keptMany, .int t_thrown, v_t_buffer, .int t_buffered, .int t_size, .int t_at, .int t_behind, .int t_kind, .int t_number, .int t_wrong, .int t_wrongAt, .int t_errorAt, v_t_moved, .int t_unused, .ref a_t_written, .int t_writtenMany_43_3])), (a_t_written, .inl (t 0, 1400, .inl t_written_43_4))] H → va_D A [(a_t, .inr (8, [v_t_a, v_t_fresh, v_t_aside, v_t_kept, .int t_keptMany, .int t_thrown, v_t_buffer, .int t_buffered, .int t_size, .int t_at, .int t_behind, .int t_kind, .int t_number, .int t_wrong, .int t_wrongAt, .int t_errorAt, v_t_moved, .int t_unused, .ref a_t_written, .int t_writtenMany_43_3])), (a_t_written, .inl (t 0, 1400, .inl t_written_43_4))] → va_S A s.heap H locs → lv_has ls 3 [] → k43_5 t_writtenMany_43_3 t_written_43_4 = some (t_writtenMany', t_written_') → W p l e rm_X8_saysNumber s m args below meth c H locs 0 0 Q (F0 m 43 ls []) := by
      subst ek43_5
      intro t_writtenMany_43_3 t_written_43_4 H locs ls hP hD hS hl hF
      cases hF
      exact we_vret hx hb hr hlocks dX8_saysNumber_43 rfl hQ hP hD hS
    have hlp18 : ∀ n18 : Nat, ∀ (x2_18_6 : Int32) (t_writtenMany_18_7 : Int32) (t_written_18_8 : (Nat → Int32)) (H : Heap) (locs : List Loc) (ls : Array Slot), va_P D vwCl [(a_t, .inr (8, [v_t_a, v_t_fresh, v_t_aside, v_t_kept, .int t_keptMany, .int t_thrown, v_t_buffer, .int t_buffered, .int t_size, .int t_at, .int t_behind, .int t_kind, .int t_number, .int t_wrong, .int t_wrongAt, .int t_errorAt, v_t_moved, .int t_unused, .ref a_t_written, .int t_writtenMany_18_7])), (a_t_written, .inl (t 0, 1400, .inl t_written_18_8))] H → va_D A [(a_t, .inr (8, [v_t_a, v_t_fresh, v_t_aside, v_t_kept, .int t_keptMany, .int t_thrown, v_t_buffer, .int t_buffered, .int t_size, .int t_at, .int t_behind, .int t_kind, .int t_number, .int t_wrong, .int t_wrongAt, .int t_errorAt, v_t_moved, .int t_unused, .ref a_t_written, .int t_writtenMany_18_7])), (a_t_written, .inl (t 0, 1400, .inl t_written_18_8))] → va_S A s.heap H locs → lv_has ls 3 [(0, .ref a_t), (1, .int p1), (2, .int x2_18_6)] → f_X8_saysNumber_18 p1 k43_5 n18 x2_18_6 t_writtenMany_18_7 t_written_18_8 = some (t_writtenMany', t_written_') → W p l e rm_X8_saysNumber s m args below meth c H locs 0 0 Q (F0 m 18 ls []) := by
      intro n18
      induction n18 with
      | zero =>
        intro x2_18_6 t_writtenMany_18_7 t_written_18_8 H locs ls hP hD hS hl hF
        cases (show none = some (t_writtenMany', t_written_') from hF)
      | succ n18 ih18 =>
        intro x2_18_6 t_writtenMany_18_7 t_written_18_8 H locs ls hP hD hS hl hF
        rw [f_X8_saysNumber_18] at hF
        refine lv_iload_n hx hb dX8_saysNumber_18 rfl (lv_at hl 2 rfl) ?_
        refine lv_if_le (tgt := 43) hx hb dX8_saysNumber_19 (by decide) (fun c19 => ?_) (fun c19 => ?_)
        · have hF := brT c19 hF
          exact hk43_5 t_writtenMany_18_7 t_written_18_8 H locs ls hP hD hS (lv_sub hl [] rfl) hF
        · have hF := brF c19 hF
          refine lv_aload_n hx hb dX8_saysNumber_22 rfl (lv_at hl 0 rfl) ?_
          refine lv_bipush (v := 48) hx hb dX8_saysNumber_23 (by decide) ?_
          refine lv_iload_n hx hb dX8_saysNumber_25 rfl (lv_at hl 1 rfl) ?_
          refine lv_iload_n hx hb dX8_saysNumber_26 rfl (lv_at hl 2 rfl) ?_
          obtain ⟨g27_8, hF⟩ := gd hF
          refine lv_idiv hx hb dX8_saysNumber_27 g27_8 ?_
          refine lv_bipush (v := 10) hx hb dX8_saysNumber_28 (by decide) ?_
          refine lv_irem hx hb dX8_saysNumber_30 (by decide) ?_
          refine lv_iadd hx hb dX8_saysNumber_31 ?_
          obtain ⟨t_writtenMany_32_10, t_written_32_11, h32_11, hF⟩ := bnd2E hF
          refine wrVM (As := [.int (48 + ((p1 / x2_18_6) - (p1 / x2_18_6) / 10 * 10))]) (rest := []) (C := RX8) (wn := [(a_t, .inr (8, [v_t_a, v_t_fresh, v_t_aside, v_t_kept, .int t_keptMany, .int t_thrown, v_t_buffer, .int t_buffered, .int t_size, .int t_at, .int t_behind, .int t_kind, .int t_number, .int t_wrong, .int t_wrongAt, .int t_errorAt, v_t_moved, .int t_unused, .ref a_t_written, .int t_writtenMany_32_10])), (a_t_written, .inl (t 0, 1400, .inl t_written_32_11))]) ⟨hx, hb, hml, hown, hts⟩ (c_X8_says l D t z x a_t a_t_written v_t_a v_t_fresh v_t_aside v_t_kept v_t_buffer v_t_moved t_keptMany t_thrown t_buffered t_size t_at t_behind t_kind t_number t_wrong t_wrongAt t_errorAt t_unused t_writtenMany_18_7 t_written_18_8 (48 + ((p1 / x2_18_6) - (p1 / x2_18_6) / 10 * 10)) H.size t_writtenMany_32_10 t_written_32_11 h32_11) (cwV 1 hts gX8_saysNumber_X8_says rfl rfl rfl hd_X8_says ⟨Nat.le_of_ble_eq_true rfl, Nat.le_of_ble_eq_true rfl⟩) (hC.at hz hS) hP hD hS hA hz [true, true] rfl rfl rfl rfl 0 rfl (show vwCl[8]? = some (RX8, TX8, 20) from rfl) rfl rfl hl.1 rfl (Nat.le_of_ble_eq_true rfl) dX8_saysNumber_32 ⟨Nat.zero_le _, Nat.zero_le _⟩ rfl (fun H locs hP hD hS => ?_)
          refine lv_iload_n hx hb dX8_saysNumber_35 rfl (lv_at hl 2 rfl) ?_
          refine lv_bipush (v := 10) hx hb dX8_saysNumber_36 (by decide) ?_
          refine lv_idiv hx hb dX8_saysNumber_38 (by decide) ?_
          refine lv_topi (fun y39_13 ey39_13 => ?_)
          have hF := ltE ey39_13 hF
          refine lv_istore_n (lv' := [(2, .int y39_13), (0, .ref a_t), (1, .int p1)]) hx hb dX8_saysNumber_39 rfl hl (by decide) rfl (fun ls hl => ?_)
          refine lv_goto (tgt := 18) hx hb dX8_saysNumber_40 (by decide) ?_
          exact ih18 y39_13 t_writtenMany_32_10 t_written_32_11 H locs ls hP hD hS (lv_sub hl [1, 2, 0] rfl) hF
    exact hlp18 N x2_18_1 t_writtenMany t_written_ H locs ls hP hD hS hl hF
  have hlp2 : ∀ n2 : Nat, ∀ (x2_2_14 : Int32) (H : Heap) (locs : List Loc) (ls : Array Slot), va_P D vwCl [(a_t, .inr (8, [v_t_a, v_t_fresh, v_t_aside, v_t_kept, .int t_keptMany, .int t_thrown, v_t_buffer, .int t_buffered, .int t_size, .int t_at, .int t_behind, .int t_kind, .int t_number, .int t_wrong, .int t_wrongAt, .int t_errorAt, v_t_moved, .int t_unused, .ref a_t_written, .int t_writtenMany])), (a_t_written, .inl (t 0, 1400, .inl t_written_))] H → va_D A [(a_t, .inr (8, [v_t_a, v_t_fresh, v_t_aside, v_t_kept, .int t_keptMany, .int t_thrown, v_t_buffer, .int t_buffered, .int t_size, .int t_at, .int t_behind, .int t_kind, .int t_number, .int t_wrong, .int t_wrongAt, .int t_errorAt, v_t_moved, .int t_unused, .ref a_t_written, .int t_writtenMany])), (a_t_written, .inl (t 0, 1400, .inl t_written_))] → va_S A s.heap H locs → lv_has ls 3 [(0, .ref a_t), (1, .int p1), (2, .int x2_2_14)] → f_X8_saysNumber_2 p1 k18_2 n2 x2_2_14 = some (t_writtenMany', t_written_') → W p l e rm_X8_saysNumber s m args below meth c H locs 0 0 Q (F0 m 2 ls []) := by
    intro n2
    induction n2 with
    | zero =>
      intro x2_2_14 H locs ls hP hD hS hl hF
      cases (show none = some (t_writtenMany', t_written_') from hF)
    | succ n2 ih2 =>
      intro x2_2_14 H locs ls hP hD hS hl hF
      rw [f_X8_saysNumber_2] at hF
      refine lv_iload_n hx hb dX8_saysNumber_2 rfl (lv_at hl 1 rfl) ?_
      refine lv_iload_n hx hb dX8_saysNumber_3 rfl (lv_at hl 2 rfl) ?_
      obtain ⟨g4_14, hF⟩ := gd hF
      refine lv_idiv hx hb dX8_saysNumber_4 g4_14 ?_
      refine lv_bipush (v := 9) hx hb dX8_saysNumber_5 (by decide) ?_
      refine lv_icmp_le (tgt := 18) hx hb dX8_saysNumber_7 (by decide) (fun c7 => ?_) (fun c7 => ?_)
      · have hF := brT c7 hF
        exact hk18_2 x2_2_14 H locs ls hP hD hS hl hF
      · have hF := brF c7 hF
        refine lv_iload_n hx hb dX8_saysNumber_10 rfl (lv_at hl 2 rfl) ?_
        refine lv_bipush (v := 10) hx hb dX8_saysNumber_11 (by decide) ?_
        refine lv_imul hx hb dX8_saysNumber_13 ?_
        refine lv_topi (fun y14_16 ey14_16 => ?_)
        have hF := ltE ey14_16 hF
        refine lv_istore_n (lv' := [(2, .int y14_16), (0, .ref a_t), (1, .int p1)]) hx hb dX8_saysNumber_14 rfl hl (by decide) rfl (fun ls hl => ?_)
        refine lv_goto (tgt := 2) hx hb dX8_saysNumber_15 (by decide) ?_
        exact ih2 y14_16 H locs ls hP hD hS (lv_sub hl [1, 2, 0] rfl) hF
  exact hlp2 N 1 H locs ls hP hD hS (lv_sub hl [1, 2, 0] rfl) hF
abbrev rm_X8_writePieces : Room := { frames := 2, cells := 0, slots := 0, locals := 43 }
theorem hd_X8_writePieces : yX8_writePieces.cls = RX8 ∧ yX8_writePieces.cls ≠ "java/lang/invoke/MethodHandle" ∧ yX8_writePieces.cls ≠ "java/lang/invoke/VarHandle" ∧ (parseMethodDescriptor yX8_writePieces.desc).map (fun d => d.parameters.length) = some 0 := by decide +kernel
set_option maxRecDepth 100000 in
set_option maxHeartbeats 4000000 in
theorem c_X8_writePieces (l : Launch) (D : va_G) (t : Nat → ClassId) (z : Nat) (x : Nat → Nat) (N : Nat) (a_t : Nat) (a_t_a : Nat) (a_t_written : Nat) (v_t_fresh : Value) (v_t_aside : Value) (v_t_kept : Value) (v_t_buffer : Value) (v_t_moved : Value) (t_keptMany : Int32) (t_thrown : Int32) (t_buffered : Int32) (t_size : Int32) (t_at : Int32) (t_behind : Int32) (t_kind : Int32) (t_number : Int32) (t_wrong : Int32) (t_wrongAt : Int32) (t_errorAt : Int32) (t_unused : Int32) (t_writtenMany : Int32) (t_a_ : (Nat → Int32)) (t_written_ : (Nat → Int32)) (sz : Nat) (r : Int32) (t_thrown' : Int32) (t_writtenMany' : Int32) (t_written_' : (Nat → Int32)) (hF : f_X8_writePieces N t_a_ t_written_ = some (r, t_thrown', t_writtenMany', t_written_')) : WrM l D (TY t) z x yX8_writePieces wsX8_writePieces rm_X8_writePieces [.ref a_t] [(a_t, .inr (8, [.ref a_t_a, v_t_fresh, v_t_aside, v_t_kept, .int t_keptMany, .int t_thrown, v_t_buffer, .int t_buffered, .int t_size, .int t_at, .int t_behind, .int t_kind, .int t_number, .int t_wrong, .int t_wrongAt, .int t_errorAt, v_t_moved, .int t_unused, .ref a_t_written, .int t_writtenMany])), (a_t_a, .inl (t 0, 876, .inl t_a_)), (a_t_written, .inl (t 0, 1400, .inl t_written_))] [(a_t, .inr (8, [.ref a_t_a, v_t_fresh, v_t_aside, v_t_kept, .int t_keptMany, .int t_thrown', v_t_buffer, .int t_buffered, .int t_size, .int t_at, .int t_behind, .int t_kind, .int t_number, .int t_wrong, .int t_wrongAt, .int t_errorAt, v_t_moved, .int t_unused, .ref a_t_written, .int t_writtenMany'])), (a_t_a, .inl (t 0, 876, .inl t_a_)), (a_t_written, .inl (t 0, 1400, .inl t_written_'))] sz (some (.int r)) 0 0 := by
  obtain ⟨T9, hT⟩ : ∃ T9, T9 = (r, t_thrown', t_writtenMany', t_written_') := ⟨_, rfl⟩
  rw [← hT] at hF
  obtain rfl : r = T9.1 := by rw [hT]
  obtain rfl : t_thrown' = T9.2.1 := by rw [hT]
  obtain rfl : t_writtenMany' = T9.2.2.1 := by rw [hT]
  obtain rfl : t_written_' = T9.2.2.2 := by rw [hT]
  clear hT
  refine wr_of (cc := cX8_writePieces) (maxL := 2) (ret := (some .int)) (by decide) rfl (Nat.le_of_ble_eq_true rfl) ?_
  intro p e s m args below meth c A Q hQ hx hb hr hml hts hown hlocks hin H locs hP hD hS hA hz hC ls hl
  have hown : s.vm.findClass RX8 = some m.cls := hown
  have hl : lv_has ls 2 [(0, .ref a_t)] := hl
  have hK := hC.1
  have iw8 : ∀ w ∈ wsX80, w ∈ wsX8_writePieces := fun _ h => List.mem_cons_of_mem _ (List.mem_append_right _ h)
  have hf7 := hts (.fieldLink RX8 7 "CrackedColumnModel" "a" "[I") (by decide +kernel)
  have hf45 := hts (.fieldLink RX8 45 "CrackedColumnModel" "thrown" "I") (by decide +kernel)
  have hf268 := hts (.fieldLink RX8 268 "CrackedColumnModel" "writtenMany" "I") (by decide +kernel)
  unfold f_X8_writePieces at hF
  refine lv_aload_n hx hb dX8_writePieces_0 rfl (lv_at hl 0 rfl) ?_
  refine lv_iconst (v := 0) hx hb dX8_writePieces_1 (by decide) ?_
  refine my_put (ty := .int) (v := .int 0) (ci := 8) (C := RX8) (T := TX8) (N := 20) (wn := [(a_t, .inr (8, [.ref a_t_a, v_t_fresh, v_t_aside, v_t_kept, .int t_keptMany, .int 0, v_t_buffer, .int t_buffered, .int t_size, .int t_at, .int t_behind, .int t_kind, .int t_number, .int t_wrong, .int t_wrongAt, .int t_errorAt, v_t_moved, .int t_unused, .ref a_t_written, .int t_writtenMany])), (a_t_a, .inl (t 0, 876, .inl t_a_)), (a_t_written, .inl (t 0, 1400, .inl t_written_))]) hx hb hts iw8 tyX8 tyX8_ok nmX8 hown hK hP hD hS 0 rfl rfl 5 (by decide) hf45 (fun _ h9 => h9) rfl (by decide +kernel) rfl rfl (Nat.le_of_ble_eq_true rfl) rfl dX8_writePieces_2 (fun H locs hP hD hS => ?_)
  refine lv_aload_n hx hb dX8_writePieces_5 rfl (lv_at hl 0 rfl) ?_
  refine lv_iconst (v := 0) hx hb dX8_writePieces_6 (by decide) ?_
  refine my_put (ty := .int) (v := .int 0) (ci := 8) (C := RX8) (T := TX8) (N := 20) (wn := [(a_t, .inr (8, [.ref a_t_a, v_t_fresh, v_t_aside, v_t_kept, .int t_keptMany, .int 0, v_t_buffer, .int t_buffered, .int t_size, .int t_at, .int t_behind, .int t_kind, .int t_number, .int t_wrong, .int t_wrongAt, .int t_errorAt, v_t_moved, .int t_unused, .ref a_t_written, .int 0])), (a_t_a, .inl (t 0, 876, .inl t_a_)), (a_t_written, .inl (t 0, 1400, .inl t_written_))]) hx hb hts iw8 tyX8 tyX8_ok nmX8 hown hK hP hD hS 0 rfl rfl 19 (by decide) hf268 (fun _ h9 => h9) rfl (by decide +kernel) rfl rfl (Nat.le_of_ble_eq_true rfl) rfl dX8_writePieces_7 (fun H locs hP hD hS => ?_)
  refine lv_iconst (v := 0) hx hb dX8_writePieces_10 (by decide) ?_
  refine lv_istore_n (lv' := [(1, .int 0), (0, .ref a_t)]) hx hb dX8_writePieces_11 rfl hl (by decide) rfl (fun ls hl => ?_)
  obtain ⟨k95_3, ek95_3, hF⟩ := jnE hF
  have hk95_3 : ∀ (t_writtenMany_95_1 : Int32) (t_written_95_2 : (Nat → Int32)) (H : Heap) (locs : List Loc) (ls : Array Slot), va_P D vwCl [(a_t, .inr (8, [.ref a_t_a, v_t_fresh, v_t_aside, v_t_kept, .int t_keptMany, .int 0, v_t_buffer, .int t_buffered, .int t_size, .int t_at, .int t_behind, .int t_kind, .int t_number, .int t_wrong, .int t_wrongAt, .int t_errorAt, v_t_moved, .int t_unused, .ref a_t_written, .int t_writtenMany_95_1])), (a_t_a, .inl (t 0, 876, .inl t_a_)), (a_t_written, .inl (t 0, 1400, .inl t_written_95_2))] H → va_D A [(a_t, .inr (8, [.ref a_t_a, v_t_fresh, v_t_aside, v_t_kept, .int t_keptMany, .int 0, v_t_buffer, .int t_buffered, .int t_size, .int t_at, .int t_behind, .int t_kind, .int t_number, .int t_wrong, .int t_wrongAt, .int t_errorAt, v_t_moved, .int t_unused, .ref a_t_written, .int t_writtenMany_95_1])), (a_t_a, .inl (t 0, 876, .inl t_a_)), (a_t_written, .inl (t 0, 1400, .inl t_written_95_2))] → va_S A s.heap H locs → lv_has ls 2 [(0, .ref a_t)] → k95_3 t_writtenMany_95_1 t_written_95_2 = some T9 → W p l e rm_X8_writePieces s m args below meth c H locs 0 0 Q (F0 m 95 ls []) := by
    subst ek95_3
    intro t_writtenMany_95_1 t_written_95_2 H locs ls hP hD hS hl hF
    refine lv_aload_n hx hb dX8_writePieces_95 rfl (lv_at hl 0 rfl) ?_
    refine va_get (D := D) (ci := 8) (v := .int t_writtenMany_95_1) (C := RX8) (T := TX8) (N := 20) hx hb hts iw8 hown hK hP 0 rfl rfl 19 (by decide) hf268 (fun _ h9 => h9) rfl dX8_writePieces_96 ?_
    cases hF
    exact we_iret hx hb hr hlocks dX8_writePieces_99 rfl hQ hP hD hS
  have hlp12 : ∀ n12 : Nat, ∀ (x1_12_4 : Int32) (t_writtenMany_12_5 : Int32) (t_written_12_6 : (Nat → Int32)) (H : Heap) (locs : List Loc) (ls : Array Slot), va_P D vwCl [(a_t, .inr (8, [.ref a_t_a, v_t_fresh, v_t_aside, v_t_kept, .int t_keptMany, .int 0, v_t_buffer, .int t_buffered, .int t_size, .int t_at, .int t_behind, .int t_kind, .int t_number, .int t_wrong, .int t_wrongAt, .int t_errorAt, v_t_moved, .int t_unused, .ref a_t_written, .int t_writtenMany_12_5])), (a_t_a, .inl (t 0, 876, .inl t_a_)), (a_t_written, .inl (t 0, 1400, .inl t_written_12_6))] H → va_D A [(a_t, .inr (8, [.ref a_t_a, v_t_fresh, v_t_aside, v_t_kept, .int t_keptMany, .int 0, v_t_buffer, .int t_buffered, .int t_size, .int t_at, .int t_behind, .int t_kind, .int t_number, .int t_wrong, .int t_wrongAt, .int t_errorAt, v_t_moved, .int t_unused, .ref a_t_written, .int t_writtenMany_12_5])), (a_t_a, .inl (t 0, 876, .inl t_a_)), (a_t_written, .inl (t 0, 1400, .inl t_written_12_6))] → va_S A s.heap H locs → lv_has ls 2 [(0, .ref a_t), (1, .int x1_12_4)] → f_X8_writePieces_12 N t_a_ k95_3 n12 x1_12_4 t_writtenMany_12_5 t_written_12_6 = some T9 → W p l e rm_X8_writePieces s m args below meth c H locs 0 0 Q (F0 m 12 ls []) := by
    intro n12
    induction n12 with
    | zero =>
      intro x1_12_4 t_writtenMany_12_5 t_written_12_6 H locs ls hP hD hS hl hF
      cases (show none = some T9 from hF)
    | succ n12 ih12 =>
      intro x1_12_4 t_writtenMany_12_5 t_written_12_6 H locs ls hP hD hS hl hF
      rw [f_X8_writePieces_12] at hF
      refine lv_iload_n hx hb dX8_writePieces_12 rfl (lv_at hl 1 rfl) ?_
      refine lv_aload_n hx hb dX8_writePieces_13 rfl (lv_at hl 0 rfl) ?_
      refine va_get (D := D) (ci := 8) (v := .ref a_t_a) (C := RX8) (T := TX8) (N := 20) hx hb hts iw8 hown hK hP 0 rfl rfl 0 (by decide) hf7 (fun _ h9 => h9) rfl dX8_writePieces_14 ?_
      refine lv_iconst (v := 3) hx hb dX8_writePieces_17 (by decide) ?_
      refine my_iald (v := t_a_ 3) hx hb hK hP 1 0 rfl rfl (vp_lit (by decide +kernel)) rfl dX8_writePieces_18 ?_
      refine lv_icmp_ge (tgt := 95) hx hb dX8_writePieces_19 (by decide) (fun c19 => ?_) (fun c19 => ?_)
      · have hF := brT c19 hF
        exact hk95_3 t_writtenMany_12_5 t_written_12_6 H locs ls hP hD hS (lv_sub hl [0] rfl) hF
      · have hF := brF c19 hF
        refine lv_iload_n hx hb dX8_writePieces_22 rfl (lv_at hl 1 rfl) ?_
        obtain ⟨k32_9, ek32_9, hF⟩ := jnE hF
        have hk32_9 : ∀ (t_writtenMany_32_7 : Int32) (t_written_32_8 : (Nat → Int32)) (H : Heap) (locs : List Loc) (ls : Array Slot), va_P D vwCl [(a_t, .inr (8, [.ref a_t_a, v_t_fresh, v_t_aside, v_t_kept, .int t_keptMany, .int 0, v_t_buffer, .int t_buffered, .int t_size, .int t_at, .int t_behind, .int t_kind, .int t_number, .int t_wrong, .int t_wrongAt, .int t_errorAt, v_t_moved, .int t_unused, .ref a_t_written, .int t_writtenMany_32_7])), (a_t_a, .inl (t 0, 876, .inl t_a_)), (a_t_written, .inl (t 0, 1400, .inl t_written_32_8))] H → va_D A [(a_t, .inr (8, [.ref a_t_a, v_t_fresh, v_t_aside, v_t_kept, .int t_keptMany, .int 0, v_t_buffer, .int t_buffered, .int t_size, .int t_at, .int t_behind, .int t_kind, .int t_number, .int t_wrong, .int t_wrongAt, .int t_errorAt, v_t_moved, .int t_unused, .ref a_t_written, .int t_writtenMany_32_7])), (a_t_a, .inl (t 0, 876, .inl t_a_)), (a_t_written, .inl (t 0, 1400, .inl t_written_32_8))] → va_S A s.heap H locs → lv_has ls 2 [(0, .ref a_t), (1, .int x1_12_4)] → k32_9 t_writtenMany_32_7 t_written_32_8 = some T9 → W p l e rm_X8_writePieces s m args below meth c H locs 0 0 Q (F0 m 32 ls []) := by
          subst ek32_9
          intro t_writtenMany_32_7 t_written_32_8 H locs ls hP hD hS hl hF
          refine lv_aload_n hx hb dX8_writePieces_32 rfl (lv_at hl 0 rfl) ?_
          refine lv_aload_n hx hb dX8_writePieces_33 rfl (lv_at hl 0 rfl) ?_
          refine lv_iload_n hx hb dX8_writePieces_34 rfl (lv_at hl 1 rfl) ?_
          refine lv_iconst (v := 0) hx hb dX8_writePieces_35 (by decide) ?_
          obtain ⟨r36_10, h36_10, hF⟩ := bndE hF
          refine rdV (As := [.int x1_12_4, .int 0]) (rest := [.ref a_t]) (C := RX8) ⟨hx, hb, hml, hown, hts⟩ (c_X8_of l D t z x a_t a_t_a v_t_fresh v_t_aside v_t_kept v_t_buffer v_t_moved (.ref a_t_written) t_keptMany 0 t_buffered t_size t_at t_behind t_kind t_number t_wrong t_wrongAt t_errorAt t_unused t_writtenMany_32_7 t_a_ x1_12_4 0 H r36_10 h36_10) (cwV 2 hts gX8_writePieces_X8_of rfl rfl rfl hd_X8_of ⟨Nat.le_of_ble_eq_true rfl, Nat.le_of_ble_eq_true rfl⟩) (hC.at hz hS) (selP (m9 := [true, true, false]) rfl rfl hP) 0 rfl (show vwCl[8]? = some (RX8, TX8, 20) from rfl) rfl rfl hl.1 rfl (Nat.le_of_ble_eq_true rfl) dX8_writePieces_36 ⟨Nat.zero_le _, Nat.zero_le _⟩ rfl ?_
          obtain ⟨t_writtenMany_39_12, t_written_39_13, h39_13, hF⟩ := bnd2E hF
          refine wrVM (As := [.int r36_10]) (rest := []) (C := RX8) (wn := [(a_t, .inr (8, [.ref a_t_a, v_t_fresh, v_t_aside, v_t_kept, .int t_keptMany, .int 0, v_t_buffer, .int t_buffered, .int t_size, .int t_at, .int t_behind, .int t_kind, .int t_number, .int t_wrong, .int t_wrongAt, .int t_errorAt, v_t_moved, .int t_unused, .ref a_t_written, .int t_writtenMany_39_12])), (a_t_a, .inl (t 0, 876, .inl t_a_)), (a_t_written, .inl (t 0, 1400, .inl t_written_39_13))]) ⟨hx, hb, hml, hown, hts⟩ (c_X8_saysNumber l D t z x N a_t a_t_written (.ref a_t_a) v_t_fresh v_t_aside v_t_kept v_t_buffer v_t_moved t_keptMany 0 t_buffered t_size t_at t_behind t_kind t_number t_wrong t_wrongAt t_errorAt t_unused t_writtenMany_32_7 t_written_32_8 r36_10 H.size t_writtenMany_39_12 t_written_39_13 h39_13) (cwV 1 hts gX8_writePieces_X8_saysNumber rfl rfl rfl hd_X8_saysNumber ⟨Nat.le_of_ble_eq_true rfl, Nat.le_of_ble_eq_true rfl⟩) (hC.at hz hS) hP hD hS hA hz [true, false, true] rfl rfl rfl rfl 0 rfl (show vwCl[8]? = some (RX8, TX8, 20) from rfl) rfl rfl hl.1 rfl (Nat.le_of_ble_eq_true rfl) dX8_writePieces_39 ⟨Nat.zero_le _, Nat.zero_le _⟩ rfl (fun H locs hP hD hS => ?_)
          refine lv_aload_n hx hb dX8_writePieces_42 rfl (lv_at hl 0 rfl) ?_
          refine lv_bipush (v := 58) hx hb dX8_writePieces_43 (by decide) ?_
          obtain ⟨t_writtenMany_45_15, t_written_45_16, h45_16, hF⟩ := bnd2E hF
          refine wrVM (As := [.int 58]) (rest := []) (C := RX8) (wn := [(a_t, .inr (8, [.ref a_t_a, v_t_fresh, v_t_aside, v_t_kept, .int t_keptMany, .int 0, v_t_buffer, .int t_buffered, .int t_size, .int t_at, .int t_behind, .int t_kind, .int t_number, .int t_wrong, .int t_wrongAt, .int t_errorAt, v_t_moved, .int t_unused, .ref a_t_written, .int t_writtenMany_45_15])), (a_t_a, .inl (t 0, 876, .inl t_a_)), (a_t_written, .inl (t 0, 1400, .inl t_written_45_16))]) ⟨hx, hb, hml, hown, hts⟩ (c_X8_says l D t z x a_t a_t_written (.ref a_t_a) v_t_fresh v_t_aside v_t_kept v_t_buffer v_t_moved t_keptMany 0 t_buffered t_size t_at t_behind t_kind t_number t_wrong t_wrongAt t_errorAt t_unused t_writtenMany_39_12 t_written_39_13 58 H.size t_writtenMany_45_15 t_written_45_16 h45_16) (cwV 1 hts gX8_writePieces_X8_says rfl rfl rfl hd_X8_says ⟨Nat.le_of_ble_eq_true rfl, Nat.le_of_ble_eq_true rfl⟩) (hC.at hz hS) hP hD hS hA hz [true, false, true] rfl rfl rfl rfl 0 rfl (show vwCl[8]? = some (RX8, TX8, 20) from rfl) rfl rfl hl.1 rfl (Nat.le_of_ble_eq_true rfl) dX8_writePieces_45 ⟨Nat.zero_le _, Nat.zero_le _⟩ rfl (fun H locs hP hD hS => ?_)
          refine lv_aload_n hx hb dX8_writePieces_48 rfl (lv_at hl 0 rfl) ?_
          refine lv_aload_n hx hb dX8_writePieces_49 rfl (lv_at hl 0 rfl) ?_
          refine lv_iload_n hx hb dX8_writePieces_50 rfl (lv_at hl 1 rfl) ?_
          refine lv_iconst (v := 1) hx hb dX8_writePieces_51 (by decide) ?_
          obtain ⟨r52_18, h52_18, hF⟩ := bndE hF
          refine rdV (As := [.int x1_12_4, .int 1]) (rest := [.ref a_t]) (C := RX8) ⟨hx, hb, hml, hown, hts⟩ (c_X8_of l D t z x a_t a_t_a v_t_fresh v_t_aside v_t_kept v_t_buffer v_t_moved (.ref a_t_written) t_keptMany 0 t_buffered t_size t_at t_behind t_kind t_number t_wrong t_wrongAt t_errorAt t_unused t_writtenMany_45_15 t_a_ x1_12_4 1 H r52_18 h52_18) (cwV 2 hts gX8_writePieces_X8_of rfl rfl rfl hd_X8_of ⟨Nat.le_of_ble_eq_true rfl, Nat.le_of_ble_eq_true rfl⟩) (hC.at hz hS) (selP (m9 := [true, true, false]) rfl rfl hP) 0 rfl (show vwCl[8]? = some (RX8, TX8, 20) from rfl) rfl rfl hl.1 rfl (Nat.le_of_ble_eq_true rfl) dX8_writePieces_52 ⟨Nat.zero_le _, Nat.zero_le _⟩ rfl ?_
          obtain ⟨t_writtenMany_55_20, t_written_55_21, h55_21, hF⟩ := bnd2E hF
          refine wrVM (As := [.int r52_18]) (rest := []) (C := RX8) (wn := [(a_t, .inr (8, [.ref a_t_a, v_t_fresh, v_t_aside, v_t_kept, .int t_keptMany, .int 0, v_t_buffer, .int t_buffered, .int t_size, .int t_at, .int t_behind, .int t_kind, .int t_number, .int t_wrong, .int t_wrongAt, .int t_errorAt, v_t_moved, .int t_unused, .ref a_t_written, .int t_writtenMany_55_20])), (a_t_a, .inl (t 0, 876, .inl t_a_)), (a_t_written, .inl (t 0, 1400, .inl t_written_55_21))]) ⟨hx, hb, hml, hown, hts⟩ (c_X8_saysNumber l D t z x N a_t a_t_written (.ref a_t_a) v_t_fresh v_t_aside v_t_kept v_t_buffer v_t_moved t_keptMany 0 t_buffered t_size t_at t_behind t_kind t_number t_wrong t_wrongAt t_errorAt t_unused t_writtenMany_45_15 t_written_45_16 r52_18 H.size t_writtenMany_55_20 t_written_55_21 h55_21) (cwV 1 hts gX8_writePieces_X8_saysNumber rfl rfl rfl hd_X8_saysNumber ⟨Nat.le_of_ble_eq_true rfl, Nat.le_of_ble_eq_true rfl⟩) (hC.at hz hS) hP hD hS hA hz [true, false, true] rfl rfl rfl rfl 0 rfl (show vwCl[8]? = some (RX8, TX8, 20) from rfl) rfl rfl hl.1 rfl (Nat.le_of_ble_eq_true rfl) dX8_writePieces_55 ⟨Nat.zero_le _, Nat.zero_le _⟩ rfl (fun H locs hP hD hS => ?_)
          refine lv_aload_n hx hb dX8_writePieces_58 rfl (lv_at hl 0 rfl) ?_
          refine lv_aload_n hx hb dX8_writePieces_59 rfl (lv_at hl 0 rfl) ?_
          refine lv_iload_n hx hb dX8_writePieces_60 rfl (lv_at hl 1 rfl) ?_
          refine lv_iconst (v := 3) hx hb dX8_writePieces_61 (by decide) ?_
          obtain ⟨r62_23, h62_23, hF⟩ := bndE hF
          refine rdV (As := [.int x1_12_4, .int 3]) (rest := [.ref a_t]) (C := RX8) ⟨hx, hb, hml, hown, hts⟩ (c_X8_of l D t z x a_t a_t_a v_t_fresh v_t_aside v_t_kept v_t_buffer v_t_moved (.ref a_t_written) t_keptMany 0 t_buffered t_size t_at t_behind t_kind t_number t_wrong t_wrongAt t_errorAt t_unused t_writtenMany_55_20 t_a_ x1_12_4 3 H r62_23 h62_23) (cwV 2 hts gX8_writePieces_X8_of rfl rfl rfl hd_X8_of ⟨Nat.le_of_ble_eq_true rfl, Nat.le_of_ble_eq_true rfl⟩) (hC.at hz hS) (selP (m9 := [true, true, false]) rfl rfl hP) 0 rfl (show vwCl[8]? = some (RX8, TX8, 20) from rfl) rfl rfl hl.1 rfl (Nat.le_of_ble_eq_true rfl) dX8_writePieces_62 ⟨Nat.zero_le _, Nat.zero_le _⟩ rfl ?_
          refine lv_iconst (v := 1) hx hb dX8_writePieces_65 (by decide) ?_
          obtain ⟨k76_26, ek76_26, hF⟩ := jnE hF
          have hk76_26 : ∀ (s0_76_25 : Int32) (H : Heap) (locs : List Loc) (ls : Array Slot), va_P D vwCl [(a_t, .inr (8, [.ref a_t_a, v_t_fresh, v_t_aside, v_t_kept, .int t_keptMany, .int 0, v_t_buffer, .int t_buffered, .int t_size, .int t_at, .int t_behind, .int t_kind, .int t_number, .int t_wrong, .int t_wrongAt, .int t_errorAt, v_t_moved, .int t_unused, .ref a_t_written, .int t_writtenMany_55_20])), (a_t_a, .inl (t 0, 876, .inl t_a_)), (a_t_written, .inl (t 0, 1400, .inl t_written_55_21))] H → va_D A [(a_t, .inr (8, [.ref a_t_a, v_t_fresh, v_t_aside, v_t_kept, .int t_keptMany, .int 0, v_t_buffer, .int t_buffered, .int t_size, .int t_at, .int t_behind, .int t_kind, .int t_number, .int t_wrong, .int t_wrongAt, .int t_errorAt, v_t_moved, .int t_unused, .ref a_t_written, .int t_writtenMany_55_20])), (a_t_a, .inl (t 0, 876, .inl t_a_)), (a_t_written, .inl (t 0, 1400, .inl t_written_55_21))] → va_S A s.heap H locs → lv_has ls 2 [(0, .ref a_t), (1, .int x1_12_4)] → k76_26 s0_76_25 = some T9 → W p l e rm_X8_writePieces s m args below meth c H locs 0 0 Q (F0 m 76 ls [.int s0_76_25, .ref a_t]) := by
            subst ek76_26
            intro s0_76_25 H locs ls hP hD hS hl hF
            obtain ⟨t_writtenMany_76_27, t_written_76_28, h76_28, hF⟩ := bnd2E hF
            refine wrVM (As := [.int s0_76_25]) (rest := []) (C := RX8) (wn := [(a_t, .inr (8, [.ref a_t_a, v_t_fresh, v_t_aside, v_t_kept, .int t_keptMany, .int 0, v_t_buffer, .int t_buffered, .int t_size, .int t_at, .int t_behind, .int t_kind, .int t_number, .int t_wrong, .int t_wrongAt, .int t_errorAt, v_t_moved, .int t_unused, .ref a_t_written, .int t_writtenMany_76_27])), (a_t_a, .inl (t 0, 876, .inl t_a_)), (a_t_written, .inl (t 0, 1400, .inl t_written_76_28))]) ⟨hx, hb, hml, hown, hts⟩ (c_X8_says l D t z x a_t a_t_written (.ref a_t_a) v_t_fresh v_t_aside v_t_kept v_t_buffer v_t_moved t_keptMany 0 t_buffered t_size t_at t_behind t_kind t_number t_wrong t_wrongAt t_errorAt t_unused t_writtenMany_55_20 t_written_55_21 s0_76_25 H.size t_writtenMany_76_27 t_written_76_28 h76_28) (cwV 1 hts gX8_writePieces_X8_says rfl rfl rfl hd_X8_says ⟨Nat.le_of_ble_eq_true rfl, Nat.le_of_ble_eq_true rfl⟩) (hC.at hz hS) hP hD hS hA hz [true, false, true] rfl rfl rfl rfl 0 rfl (show vwCl[8]? = some (RX8, TX8, 20) from rfl) rfl rfl hl.1 rfl (Nat.le_of_ble_eq_true rfl) dX8_writePieces_76 ⟨Nat.zero_le _, Nat.zero_le _⟩ rfl (fun H locs hP hD hS => ?_)
            refine lv_aload_n hx hb dX8_writePieces_79 rfl (lv_at hl 0 rfl) ?_
            refine lv_aload_n hx hb dX8_writePieces_80 rfl (lv_at hl 0 rfl) ?_
            refine lv_iload_n hx hb dX8_writePieces_81 rfl (lv_at hl 1 rfl) ?_
            refine lv_iconst (v := 2) hx hb dX8_writePieces_82 (by decide) ?_
            obtain ⟨r83_30, h83_30, hF⟩ := bndE hF
            refine rdV (As := [.int x1_12_4, .int 2]) (rest := [.ref a_t]) (C := RX8) ⟨hx, hb, hml, hown, hts⟩ (c_X8_of l D t z x a_t a_t_a v_t_fresh v_t_aside v_t_kept v_t_buffer v_t_moved (.ref a_t_written) t_keptMany 0 t_buffered t_size t_at t_behind t_kind t_number t_wrong t_wrongAt t_errorAt t_unused t_writtenMany_76_27 t_a_ x1_12_4 2 H r83_30 h83_30) (cwV 2 hts gX8_writePieces_X8_of rfl rfl rfl hd_X8_of ⟨Nat.le_of_ble_eq_true rfl, Nat.le_of_ble_eq_true rfl⟩) (hC.at hz hS) (selP (m9 := [true, true, false]) rfl rfl hP) 0 rfl (show vwCl[8]? = some (RX8, TX8, 20) from rfl) rfl rfl hl.1 rfl (Nat.le_of_ble_eq_true rfl) dX8_writePieces_83 ⟨Nat.zero_le _, Nat.zero_le _⟩ rfl ?_
            obtain ⟨t_writtenMany_86_32, t_written_86_33, h86_33, hF⟩ := bnd2E hF
            refine wrVM (As := [.int r83_30]) (rest := []) (C := RX8) (wn := [(a_t, .inr (8, [.ref a_t_a, v_t_fresh, v_t_aside, v_t_kept, .int t_keptMany, .int 0, v_t_buffer, .int t_buffered, .int t_size, .int t_at, .int t_behind, .int t_kind, .int t_number, .int t_wrong, .int t_wrongAt, .int t_errorAt, v_t_moved, .int t_unused, .ref a_t_written, .int t_writtenMany_86_32])), (a_t_a, .inl (t 0, 876, .inl t_a_)), (a_t_written, .inl (t 0, 1400, .inl t_written_86_33))]) ⟨hx, hb, hml, hown, hts⟩ (c_X8_saysNumber l D t z x N a_t a_t_written (.ref a_t_a) v_t_fresh v_t_aside v_t_kept v_t_buffer v_t_moved t_keptMany 0 t_buffered t_size t_at t_behind t_kind t_number t_wrong t_wrongAt t_errorAt t_unused t_writtenMany_76_27 t_written_76_28 r83_30 H.size t_writtenMany_86_32 t_written_86_33 h86_33) (cwV 1 hts gX8_writePieces_X8_saysNumber rfl rfl rfl hd_X8_saysNumber ⟨Nat.le_of_ble_eq_true rfl, Nat.le_of_ble_eq_true rfl⟩) (hC.at hz hS) hP hD hS hA hz [true, false, true] rfl rfl rfl rfl 0 rfl (show vwCl[8]? = some (RX8, TX8, 20) from rfl) rfl rfl hl.1 rfl (Nat.le_of_ble_eq_true rfl) dX8_writePieces_86 ⟨Nat.zero_le _, Nat.zero_le _⟩ rfl (fun H locs hP hD hS => ?_)
            obtain ⟨y89_35, ey89_35⟩ : ∃ y : Int32, y = x1_12_4 + 1 := ⟨_, rfl⟩
            have hF := ltE ey89_35 hF
            refine lv_iinc (v := y89_35) (lv' := [(1, .int y89_35), (0, .ref a_t)]) hx hb dX8_writePieces_89 hl (k := 1) rfl (by rw [ey89_35]; rfl) (by decide) rfl (fun ls hl => ?_)
            refine lv_goto (tgt := 12) hx hb dX8_writePieces_92 (by decide) ?_
            exact ih12 y89_35 t_writtenMany_86_32 t_written_86_33 H locs ls hP hD hS (lv_sub hl [1, 0] rfl) hF
          refine lv_icmp_ne (tgt := 74) hx hb dX8_writePieces_66 (by decide) (fun c66 => ?_) (fun c66 => ?_)
          · have hF := brF c66 hF
            refine lv_bipush (v := 117) hx hb dX8_writePieces_74 (by decide) ?_
            exact hk76_26 117 H locs ls hP hD hS hl hF
          · have hF := brT c66 hF
            refine lv_bipush (v := 115) hx hb dX8_writePieces_69 (by decide) ?_
            refine lv_goto (tgt := 76) hx hb dX8_writePieces_71 (by decide) ?_
            exact hk76_26 115 H locs ls hP hD hS hl hF
        refine lv_if_le (tgt := 32) hx hb dX8_writePieces_23 (by decide) (fun c23 => ?_) (fun c23 => ?_)
        · have hF := brT c23 hF
          exact hk32_9 t_writtenMany_12_5 t_written_12_6 H locs ls hP hD hS hl hF
        · have hF := brF c23 hF
          refine lv_aload_n hx hb dX8_writePieces_26 rfl (lv_at hl 0 rfl) ?_
          refine lv_bipush (v := 32) hx hb dX8_writePieces_27 (by decide) ?_
          obtain ⟨t_writtenMany_29_36, t_written_29_37, h29_37, hF⟩ := bnd2E hF
          refine wrVM (As := [.int 32]) (rest := []) (C := RX8) (wn := [(a_t, .inr (8, [.ref a_t_a, v_t_fresh, v_t_aside, v_t_kept, .int t_keptMany, .int 0, v_t_buffer, .int t_buffered, .int t_size, .int t_at, .int t_behind, .int t_kind, .int t_number, .int t_wrong, .int t_wrongAt, .int t_errorAt, v_t_moved, .int t_unused, .ref a_t_written, .int t_writtenMany_29_36])), (a_t_a, .inl (t 0, 876, .inl t_a_)), (a_t_written, .inl (t 0, 1400, .inl t_written_29_37))]) ⟨hx, hb, hml, hown, hts⟩ (c_X8_says l D t z x a_t a_t_written (.ref a_t_a) v_t_fresh v_t_aside v_t_kept v_t_buffer v_t_moved t_keptMany 0 t_buffered t_size t_at t_behind t_kind t_number t_wrong t_wrongAt t_errorAt t_unused t_writtenMany_12_5 t_written_12_6 32 H.size t_writtenMany_29_36 t_written_29_37 h29_37) (cwV 1 hts gX8_writePieces_X8_says rfl rfl rfl hd_X8_says ⟨Nat.le_of_ble_eq_true rfl, Nat.le_of_ble_eq_true rfl⟩) (hC.at hz hS) hP hD hS hA hz [true, false, true] rfl rfl rfl rfl 0 rfl (show vwCl[8]? = some (RX8, TX8, 20) from rfl) rfl rfl hl.1 rfl (Nat.le_of_ble_eq_true rfl) dX8_writePieces_29 ⟨Nat.zero_le _, Nat.zero_le _⟩ rfl (fun H locs hP hD hS => ?_)
          exact hk32_9 t_writtenMany_29_36 t_written_29_37 H locs ls hP hD hS hl hF
  exact hlp12 N 0 0 t_written_ H locs ls hP hD hS (lv_sub hl [1, 0] rfl) hF
abbrev rm_X8_writtenByte : Room := { frames := 1, cells := 0, slots := 0, locals := 22 }
theorem hd_X8_writtenByte : yX8_writtenByte.cls = RX8 ∧ yX8_writtenByte.cls ≠ "java/lang/invoke/MethodHandle" ∧ yX8_writtenByte.cls ≠ "java/lang/invoke/VarHandle" ∧ (parseMethodDescriptor yX8_writtenByte.desc).map (fun d => d.parameters.length) = some 1 := by decide +kernel
set_option maxRecDepth 100000 in
set_option maxHeartbeats 4000000 in
theorem c_X8_writtenByte (l : Launch) (D : va_G) (t : Nat → ClassId) (z : Nat) (x : Nat → Nat) (a_t : Nat) (a_t_written : Nat) (v_t_a : Value) (v_t_fresh : Value) (v_t_aside : Value) (v_t_kept : Value) (v_t_buffer : Value) (v_t_moved : Value) (t_keptMany : Int32) (t_thrown : Int32) (t_buffered : Int32) (t_size : Int32) (t_at : Int32) (t_behind : Int32) (t_kind : Int32) (t_number : Int32) (t_wrong : Int32) (t_wrongAt : Int32) (t_errorAt : Int32) (t_unused : Int32) (t_writtenMany : Int32) (t_written_ : (Nat → Int32)) (p1 : Int32) (sz : Nat) (r : Int32) (t_thrown' : Int32) (hF : f_X8_writtenByte t_writtenMany t_written_ p1 = some (r, t_thrown')) : WrM l D (TY t) z x yX8_writtenByte wsX8_writtenByte rm_X8_writtenByte [.ref a_t, .int p1] [(a_t, .inr (8, [v_t_a, v_t_fresh, v_t_aside, v_t_kept, .int t_keptMany, .int t_thrown, v_t_buffer, .int t_buffered, .int t_size, .int t_at, .int t_behind, .int t_kind, .int t_number, .int t_wrong, .int t_wrongAt, .int t_errorAt, v_t_moved, .int t_unused, .ref a_t_written, .int t_writtenMany])), (a_t_written, .inl (t 0, 1400, .inl t_written_))] [(a_t, .inr (8, [v_t_a, v_t_fresh, v_t_aside, v_t_kept, .int t_keptMany, .int t_thrown', v_t_buffer, .int t_buffered, .int t_size, .int t_at, .int t_behind, .int t_kind, .int t_number, .int t_wrong, .int t_wrongAt, .int t_errorAt, v_t_moved, .int t_unused, .ref a_t_written, .int t_writtenMany])), (a_t_written, .inl (t 0, 1400, .inl t_written_))] sz (some (.int r)) 0 0 := by
  refine wr_of (cc := cX8_writtenByte) (maxL := 2) (ret := (some .int)) (by decide) rfl (Nat.le_of_ble_eq_true rfl) ?_
  intro p e s m args below meth c A Q hQ hx hb hr hml hts hown hlocks hin H locs hP hD hS hA hz hC ls hl
  have hown : s.vm.findClass RX8 = some m.cls := hown
  have hl : lv_has ls 2 [(0, .ref a_t), (1, .int p1)] := hl
  have hK := hC.1
  have iw8 : ∀ w ∈ wsX80, w ∈ wsX8_writtenByte := fun _ h => List.mem_cons_of_mem _ (List.mem_append_right _ h)
  have hf32 := hts (.fieldLink RX8 32 "CrackedColumnModel" "written" "[I") (by decide +kernel)
  have hf45 := hts (.fieldLink RX8 45 "CrackedColumnModel" "thrown" "I") (by decide +kernel)
  have hf268 := hts (.fieldLink RX8 268 "CrackedColumnModel" "writtenMany" "I") (by decide +kernel)
  unfold f_X8_writtenByte at hF
  refine lv_aload_n hx hb dX8_writtenByte_0 rfl (lv_at hl 0 rfl) ?_
  refine lv_iload_n hx hb dX8_writtenByte_1 rfl (lv_at hl 1 rfl) ?_
  refine lv_iconst (v := 0) hx hb dX8_writtenByte_2 (by decide) ?_
  refine lv_aload_n hx hb dX8_writtenByte_3 rfl (lv_at hl 0 rfl) ?_
  refine va_get (D := D) (ci := 8) (v := .int t_writtenMany) (C := RX8) (T := TX8) (N := 20) hx hb hts iw8 hown hK hP 0 rfl rfl 19 (by decide) hf268 (fun _ h9 => h9) rfl dX8_writtenByte_4 ?_
  refine lv_iconst (v := 1) hx hb dX8_writtenByte_7 (by decide) ?_
  refine lv_isub hx hb dX8_writtenByte_8 ?_
  obtain ⟨r9_1, h9_1, hF⟩ := bndE hF
  refine rdS (As := [.int p1, .int 0, .int (t_writtenMany - 1)]) (rest := [.ref a_t]) ⟨hx, hb, hml, hown, hts⟩ (c_X8_isIn l D t z x p1 0 (t_writtenMany - 1) H r9_1 h9_1) (va_cwS 3 hts gX8_writtenByte_X8_isIn rfl rfl rfl hd_X8_isIn.2 ⟨Nat.le_of_ble_eq_true rfl, Nat.le_of_ble_eq_true rfl⟩) (hC.at hz hS) (selP (m9 := [false, false]) rfl rfl hP) rfl hl.1 rfl (Nat.le_of_ble_eq_true rfl) dX8_writtenByte_9 ⟨Nat.zero_le _, Nat.zero_le _⟩ rfl ?_
  obtain ⟨k20_4, ek20_4, hF⟩ := jnE hF
  have hk20_4 : ∀ (s0_20_3 : Int32) (H : Heap) (locs : List Loc) (ls : Array Slot), va_P D vwCl [(a_t, .inr (8, [v_t_a, v_t_fresh, v_t_aside, v_t_kept, .int t_keptMany, .int t_thrown, v_t_buffer, .int t_buffered, .int t_size, .int t_at, .int t_behind, .int t_kind, .int t_number, .int t_wrong, .int t_wrongAt, .int t_errorAt, v_t_moved, .int t_unused, .ref a_t_written, .int t_writtenMany])), (a_t_written, .inl (t 0, 1400, .inl t_written_))] H → va_D A [(a_t, .inr (8, [v_t_a, v_t_fresh, v_t_aside, v_t_kept, .int t_keptMany, .int t_thrown, v_t_buffer, .int t_buffered, .int t_size, .int t_at, .int t_behind, .int t_kind, .int t_number, .int t_wrong, .int t_wrongAt, .int t_errorAt, v_t_moved, .int t_unused, .ref a_t_written, .int t_writtenMany])), (a_t_written, .inl (t 0, 1400, .inl t_written_))] → va_S A s.heap H locs → lv_has ls 2 [(0, .ref a_t), (1, .int p1)] → k20_4 s0_20_3 = some (r, t_thrown') → W p l e rm_X8_writtenByte s m args below meth c H locs 0 0 Q (F0 m 20 ls [.int s0_20_3, .ref a_t]) := by
    subst ek20_4
    intro s0_20_3 H locs ls hP hD hS hl hF
    refine my_put (ty := .int) (v := .int s0_20_3) (ci := 8) (C := RX8) (T := TX8) (N := 20) (wn := [(a_t, .inr (8, [v_t_a, v_t_fresh, v_t_aside, v_t_kept, .int t_keptMany, .int s0_20_3, v_t_buffer, .int t_buffered, .int t_size, .int t_at, .int t_behind, .int t_kind, .int t_number, .int t_wrong, .int t_wrongAt, .int t_errorAt, v_t_moved, .int t_unused, .ref a_t_written, .int t_writtenMany])), (a_t_written, .inl (t 0, 1400, .inl t_written_))]) hx hb hts iw8 tyX8 tyX8_ok nmX8 hown hK hP hD hS 0 rfl rfl 5 (by decide) hf45 (fun _ h9 => h9) rfl (by decide +kernel) rfl rfl (Nat.le_of_ble_eq_true rfl) rfl dX8_writtenByte_20 (fun H locs hP hD hS => ?_)
    refine lv_aload_n hx hb dX8_writtenByte_23 rfl (lv_at hl 0 rfl) ?_
    refine va_get (D := D) (ci := 8) (v := .int s0_20_3) (C := RX8) (T := TX8) (N := 20) hx hb hts iw8 hown hK hP 0 rfl rfl 5 (by decide) hf45 (fun _ h9 => h9) rfl dX8_writtenByte_24 ?_
    refine lv_if_le (tgt := 34) hx hb dX8_writtenByte_27 (by decide) (fun c27 => ?_) (fun c27 => ?_)
    · have hF := brT c27 hF
      refine lv_aload_n hx hb dX8_writtenByte_34 rfl (lv_at hl 0 rfl) ?_
      refine va_get (D := D) (ci := 8) (v := .ref a_t_written) (C := RX8) (T := TX8) (N := 20) hx hb hts iw8 hown hK hP 0 rfl rfl 18 (by decide) hf32 (fun _ h9 => h9) rfl dX8_writtenByte_35 ?_
      refine lv_iload_n hx hb dX8_writtenByte_38 rfl (lv_at hl 1 rfl) ?_
      obtain ⟨g39_4, hF⟩ := gd hF
      refine my_iald (v := t_written_ p1.toNatClampNeg) hx hb hK hP 1 0 rfl rfl g39_4 rfl dX8_writtenByte_39 ?_
      cases hF
      exact we_iret hx hb hr hlocks dX8_writtenByte_40 rfl hQ hP hD hS
    · have hF := brF c27 hF
      refine lv_iconst (v := 0) hx hb dX8_writtenByte_30 (by decide) ?_
      refine lv_goto (tgt := 40) hx hb dX8_writtenByte_31 (by decide) ?_
      cases hF
      exact we_iret hx hb hr hlocks dX8_writtenByte_40 rfl hQ hP hD hS
  refine lv_if_eq (tgt := 19) hx hb dX8_writtenByte_12 (by decide) (fun c12 => ?_) (fun c12 => ?_)
  · have hF := brT c12 hF
    refine lv_iconst (v := 1) hx hb dX8_writtenByte_19 (by decide) ?_
    exact hk20_4 1 H locs ls hP hD hS hl hF
  · have hF := brF c12 hF
    refine lv_iconst (v := 0) hx hb dX8_writtenByte_15 (by decide) ?_
    refine lv_goto (tgt := 20) hx hb dX8_writtenByte_16 (by decide) ?_
    exact hk20_4 0 H locs ls hP hD hS hl hF
abbrev rm_X8_init : Room := { frames := 1, cells := 7, slots := 12056, locals := 24 }
theorem hd_X8_init : yX8_init.cls = RX8 ∧ yX8_init.cls ≠ "java/lang/invoke/MethodHandle" ∧ yX8_init.cls ≠ "java/lang/invoke/VarHandle" ∧ (parseMethodDescriptor yX8_init.desc).map (fun d => d.parameters.length) = some 0 := by decide +kernel
set_option maxRecDepth 100000 in
set_option maxHeartbeats 4000000 in
theorem c_X8_init (l : Launch) (D : va_G) (t : Nat → ClassId) (z : Nat) (x : Nat → Nat) (N : Nat) (a_t : Nat) (sz : Nat) (t_keptMany' : Int32) (t_thrown' : Int32) (t_buffered' : Int32) (t_size' : Int32) (t_at' : Int32) (t_behind' : Int32) (t_kind' : Int32) (t_number' : Int32) (t_wrong' : Int32) (t_wrongAt' : Int32) (t_errorAt' : Int32) (t_unused' : Int32) (t_writtenMany' : Int32) (t_a_' : (Nat → Int32)) (t_fresh_' : (Nat → Int32)) (t_aside_' : (Nat → Int32)) (t_kept_' : (Nat → Int32)) (t_buffer_' : (Nat → Int32)) (t_moved_' : (Nat → Int32)) (t_written_' : (Nat → Int32)) (hF : f_X8_init N = some (t_keptMany', t_thrown', t_buffered', t_size', t_at', t_behind', t_kind', t_number', t_wrong', t_wrongAt', t_errorAt', t_unused', t_writtenMany', t_a_', t_fresh_', t_aside_', t_kept_', t_buffer_', t_moved_', t_written_')) : CrM l D (TY t) z x yX8_init wsX8_init rm_X8_init [.ref a_t] [(a_t, .inr (8, [.null, .null, .null, .null, .int 0, .int 0, .null, .int 0, .int 0, .int 0, .int 0, .int 0, .int 0, .int 0, .int 0, .int 0, .null, .int 0, .null, .int 0]))] (fun (q : Nat → Nat) => [(a_t, .inr (8, [.ref (q 0), .ref (q 1), .ref (q 2), .ref (q 3), .int t_keptMany', .int t_thrown', .ref (q 4), .int t_buffered', .int t_size', .int t_at', .int t_behind', .int t_kind', .int t_number', .int t_wrong', .int t_wrongAt', .int t_errorAt', .ref (q 5), .int t_unused', .ref (q 6), .int t_writtenMany'])), ((q 0), .inl (t 0, 876, .inl t_a_')), ((q 1), .inl (t 0, 876, .inl t_fresh_')), ((q 2), .inl (t 0, 876, .inl t_aside_')), ((q 3), .inl (t 0, 7008, .inl t_kept_')), ((q 4), .inl (t 0, 900, .inl t_buffer_')), ((q 5), .inl (t 0, 120, .inl t_moved_')), ((q 6), .inl (t 0, 1400, .inl t_written_'))]) sz 7 12056 := by
  obtain ⟨T9, hT⟩ : ∃ T9, T9 = (t_keptMany', t_thrown', t_buffered', t_size', t_at', t_behind', t_kind', t_number', t_wrong', t_wrongAt', t_errorAt', t_unused', t_writtenMany', t_a_', t_fresh_', t_aside_', t_kept_', t_buffer_', t_moved_', t_written_') := ⟨_, rfl⟩
  rw [← hT] at hF
  obtain rfl : t_keptMany' = T9.1 := by rw [hT]
  obtain rfl : t_thrown' = T9.2.1 := by rw [hT]
  obtain rfl : t_buffered' = T9.2.2.1 := by rw [hT]
  obtain rfl : t_size' = T9.2.2.2.1 := by rw [hT]
  obtain rfl : t_at' = T9.2.2.2.2.1 := by rw [hT]
  obtain rfl : t_behind' = T9.2.2.2.2.2.1 := by rw [hT]
  obtain rfl : t_kind' = T9.2.2.2.2.2.2.1 := by rw [hT]
  obtain rfl : t_number' = T9.2.2.2.2.2.2.2.1 := by rw [hT]
  obtain rfl : t_wrong' = T9.2.2.2.2.2.2.2.2.1 := by rw [hT]
  obtain rfl : t_wrongAt' = T9.2.2.2.2.2.2.2.2.2.1 := by rw [hT]
  obtain rfl : t_errorAt' = T9.2.2.2.2.2.2.2.2.2.2.1 := by rw [hT]
  obtain rfl : t_unused' = T9.2.2.2.2.2.2.2.2.2.2.2.1 := by rw [hT]
  obtain rfl : t_writtenMany' = T9.2.2.2.2.2.2.2.2.2.2.2.2.1 := by rw [hT]
  obtain rfl : t_a_' = T9.2.2.2.2.2.2.2.2.2.2.2.2.2.1 := by rw [hT]
  obtain rfl : t_fresh_' = T9.2.2.2.2.2.2.2.2.2.2.2.2.2.2.1 := by rw [hT]
  obtain rfl : t_aside_' = T9.2.2.2.2.2.2.2.2.2.2.2.2.2.2.2.1 := by rw [hT]
  obtain rfl : t_kept_' = T9.2.2.2.2.2.2.2.2.2.2.2.2.2.2.2.2.1 := by rw [hT]
  obtain rfl : t_buffer_' = T9.2.2.2.2.2.2.2.2.2.2.2.2.2.2.2.2.2.1 := by rw [hT]
  obtain rfl : t_moved_' = T9.2.2.2.2.2.2.2.2.2.2.2.2.2.2.2.2.2.2.1 := by rw [hT]
  obtain rfl : t_written_' = T9.2.2.2.2.2.2.2.2.2.2.2.2.2.2.2.2.2.2.2 := by rw [hT]
  clear hT
  refine cr_of (cc := cX8_init) (maxL := 1) (ret := none) (by decide) rfl (Nat.le_of_ble_eq_true rfl) ?_
  intro p e s m args below meth c A Q hQ hx hb hr hml hts hown hlocks hin H locs hP hD hS hA hz hC ls hl
  have hown : s.vm.findClass RX8 = some m.cls := hown
  have hl : lv_has ls 1 [(0, .ref a_t)] := hl
  have hK := hC.1
  have iw8 : ∀ w ∈ wsX80, w ∈ wsX8_init := fun _ h => List.mem_cons_of_mem _ (List.mem_append_right _ h)
  have hf7 := hts (.fieldLink RX8 7 "CrackedColumnModel" "a" "[I") (by decide +kernel)
  have hf13 := hts (.fieldLink RX8 13 "CrackedColumnModel" "fresh" "[I") (by decide +kernel)
  have hf16 := hts (.fieldLink RX8 16 "CrackedColumnModel" "aside" "[I") (by decide +kernel)
  have hf19 := hts (.fieldLink RX8 19 "CrackedColumnModel" "kept" "[I") (by decide +kernel)
  have hf22 := hts (.fieldLink RX8 22 "CrackedColumnModel" "buffer" "[I") (by decide +kernel)
  have hf25 := hts (.fieldLink RX8 25 "CrackedColumnModel" "errorAt" "I") (by decide +kernel)
  have hf29 := hts (.fieldLink RX8 29 "CrackedColumnModel" "moved" "[I") (by decide +kernel)
  have hf32 := hts (.fieldLink RX8 32 "CrackedColumnModel" "written" "[I") (by decide +kernel)
  unfold f_X8_init at hF
  refine lv_aload_n hx hb dX8_init_0 rfl (lv_at hl 0 rfl) ?_
  refine W.objInit hx hb hown (hts (.methodLink RX8 1 objectInit) (by decide +kernel)) (hts (.instanceMethod objectInit) (by decide +kernel)) (hts (.code objectInit ⟨#[0xb1]⟩ 1 none) (by decide +kernel)) rfl (hl.1.trans hml.symm) rfl dX8_init_1 (Nat.le_of_ble_eq_true rfl) (Nat.le_of_ble_eq_true rfl) ?_
  refine lv_aload_n hx hb dX8_init_4 rfl (lv_at hl 0 rfl) ?_
  refine lv_sipush (v := 876) hx hb dX8_init_5 (by decide) ?_
  refine my_newa (atype := .int) (ty := .int) (t0 := 0) (wn := (fun a_t_a => [(a_t, .inr (8, [.null, .null, .null, .null, .int 0, .int 0, .null, .int 0, .int 0, .int 0, .int 0, .int 0, .int 0, .int 0, .int 0, .int 0, .null, .int 0, .null, .int 0])), (a_t_a, .inl (t 0, 876, .inl zf))])) (N' := 876) hx hb (hts (.arrayClass .int) (by decide +kernel)) rfl hK rfl hP hD hS hA (fun _ => rfl) (by decide) (by decide +kernel) (Nat.le_of_ble_eq_true rfl) (Nat.le_of_ble_eq_true rfl) (Nat.le_of_ble_eq_true rfl) (fun a => rfl) dX8_init_8 (fun a_t_a H hP hD hS => ?_)
  refine my_putF (ty := tyX8 0) (v := .ref a_t_a) (ci := 8) (C := RX8) (T := TX8) (N := 20) (wn := [(a_t, .inr (8, [.ref a_t_a, .null, .null, .null, .int 0, .int 0, .null, .int 0, .int 0, .int 0, .int 0, .int 0, .int 0, .int 0, .int 0, .int 0, .null, .int 0, .null, .int 0])), (a_t_a, .inl (t 0, 876, .inl zf))]) hx hb hts iw8 tyX8 tyX8_ok nmX8 hown hK hP hD hS 0 rfl rfl 0 (by decide) hf7 (fun _ h9 => h9) (by decide +kernel) hin rfl (by decide +kernel) rfl rfl (Nat.le_of_ble_eq_true rfl) rfl dX8_init_10 (fun H locs hP hD hS => ?_)
  refine lv_aload_n hx hb dX8_init_13 rfl (lv_at hl 0 rfl) ?_
  refine lv_sipush (v := 876) hx hb dX8_init_14 (by decide) ?_
  refine my_newa (atype := .int) (ty := .int) (t0 := 0) (wn := (fun a_t_fresh => [(a_t, .inr (8, [.ref a_t_a, .null, .null, .null, .int 0, .int 0, .null, .int 0, .int 0, .int 0, .int 0, .int 0, .int 0, .int 0, .int 0, .int 0, .null, .int 0, .null, .int 0])), (a_t_a, .inl (t 0, 876, .inl zf)), (a_t_fresh, .inl (t 0, 876, .inl zf))])) (N' := 876) hx hb (hts (.arrayClass .int) (by decide +kernel)) rfl hK rfl hP hD hS hA (fun _ => rfl) (by decide) (by decide +kernel) (Nat.le_of_ble_eq_true rfl) (Nat.le_of_ble_eq_true rfl) (Nat.le_of_ble_eq_true rfl) (fun a => rfl) dX8_init_17 (fun a_t_fresh H hP hD hS => ?_)
  refine my_putF (ty := tyX8 1) (v := .ref a_t_fresh) (ci := 8) (C := RX8) (T := TX8) (N := 20) (wn := [(a_t, .inr (8, [.ref a_t_a, .ref a_t_fresh, .null, .null, .int 0, .int 0, .null, .int 0, .int 0, .int 0, .int 0, .int 0, .int 0, .int 0, .int 0, .int 0, .null, .int 0, .null, .int 0])), (a_t_a, .inl (t 0, 876, .inl zf)), (a_t_fresh, .inl (t 0, 876, .inl zf))]) hx hb hts iw8 tyX8 tyX8_ok nmX8 hown hK hP hD hS 0 rfl rfl 1 (by decide) hf13 (fun _ h9 => h9) (by decide +kernel) hin rfl (by decide +kernel) rfl rfl (Nat.le_of_ble_eq_true rfl) rfl dX8_init_19 (fun H locs hP hD hS => ?_)
  refine lv_aload_n hx hb dX8_init_22 rfl (lv_at hl 0 rfl) ?_
  refine lv_sipush (v := 876) hx hb dX8_init_23 (by decide) ?_
  refine my_newa (atype := .int) (ty := .int) (t0 := 0) (wn := (fun a_t_aside => [(a_t, .inr (8, [.ref a_t_a, .ref a_t_fresh, .null, .null, .int 0, .int 0, .null, .int 0, .int 0, .int 0, .int 0, .int 0, .int 0, .int 0, .int 0, .int 0, .null, .int 0, .null, .int 0])), (a_t_a, .inl (t 0, 876, .inl zf)), (a_t_fresh, .inl (t 0, 876, .inl zf)), (a_t_aside, .inl (t 0, 876, .inl zf))])) (N' := 876) hx hb (hts (.arrayClass .int) (by decide +kernel)) rfl hK rfl hP hD hS hA (fun _ => rfl) (by decide) (by decide +kernel) (Nat.le_of_ble_eq_true rfl) (Nat.le_of_ble_eq_true rfl) (Nat.le_of_ble_eq_true rfl) (fun a => rfl) dX8_init_26 (fun a_t_aside H hP hD hS => ?_)
  refine my_putF (ty := tyX8 2) (v := .ref a_t_aside) (ci := 8) (C := RX8) (T := TX8) (N := 20) (wn := [(a_t, .inr (8, [.ref a_t_a, .ref a_t_fresh, .ref a_t_aside, .null, .int 0, .int 0, .null, .int 0, .int 0, .int 0, .int 0, .int 0, .int 0, .int 0, .int 0, .int 0, .null, .int 0, .null, .int 0])), (a_t_a, .inl (t 0, 876, .inl zf)), (a_t_fresh, .inl (t 0, 876, .inl zf)), (a_t_aside, .inl (t 0, 876, .inl zf))]) hx hb hts iw8 tyX8 tyX8_ok nmX8 hown hK hP hD hS 0 rfl rfl 2 (by decide) hf16 (fun _ h9 => h9) (by decide +kernel) hin rfl (by decide +kernel) rfl rfl (Nat.le_of_ble_eq_true rfl) rfl dX8_init_28 (fun H locs hP hD hS => ?_)
  refine lv_aload_n hx hb dX8_init_31 rfl (lv_at hl 0 rfl) ?_
  refine lv_sipush (v := 7008) hx hb dX8_init_32 (by decide) ?_
  refine my_newa (atype := .int) (ty := .int) (t0 := 0) (wn := (fun a_t_kept => [(a_t, .inr (8, [.ref a_t_a, .ref a_t_fresh, .ref a_t_aside, .null, .int 0, .int 0, .null, .int 0, .int 0, .int 0, .int 0, .int 0, .int 0, .int 0, .int 0, .int 0, .null, .int 0, .null, .int 0])), (a_t_a, .inl (t 0, 876, .inl zf)), (a_t_fresh, .inl (t 0, 876, .inl zf)), (a_t_aside, .inl (t 0, 876, .inl zf)), (a_t_kept, .inl (t 0, 7008, .inl zf))])) (N' := 7008) hx hb (hts (.arrayClass .int) (by decide +kernel)) rfl hK rfl hP hD hS hA (fun _ => rfl) (by decide) (by decide +kernel) (Nat.le_of_ble_eq_true rfl) (Nat.le_of_ble_eq_true rfl) (Nat.le_of_ble_eq_true rfl) (fun a => rfl) dX8_init_35 (fun a_t_kept H hP hD hS => ?_)
  refine my_putF (ty := tyX8 3) (v := .ref a_t_kept) (ci := 8) (C := RX8) (T := TX8) (N := 20) (wn := [(a_t, .inr (8, [.ref a_t_a, .ref a_t_fresh, .ref a_t_aside, .ref a_t_kept, .int 0, .int 0, .null, .int 0, .int 0, .int 0, .int 0, .int 0, .int 0, .int 0, .int 0, .int 0, .null, .int 0, .null, .int 0])), (a_t_a, .inl (t 0, 876, .inl zf)), (a_t_fresh, .inl (t 0, 876, .inl zf)), (a_t_aside, .inl (t 0, 876, .inl zf)), (a_t_kept, .inl (t 0, 7008, .inl zf))]) hx hb hts iw8 tyX8 tyX8_ok nmX8 hown hK hP hD hS 0 rfl rfl 3 (by decide) hf19 (fun _ h9 => h9) (by decide +kernel) hin rfl (by decide +kernel) rfl rfl (Nat.le_of_ble_eq_true rfl) rfl dX8_init_37 (fun H locs hP hD hS => ?_)
  refine lv_aload_n hx hb dX8_init_40 rfl (lv_at hl 0 rfl) ?_
  refine lv_sipush (v := 900) hx hb dX8_init_41 (by decide) ?_
  refine my_newa (atype := .int) (ty := .int) (t0 := 0) (wn := (fun a_t_buffer => [(a_t, .inr (8, [.ref a_t_a, .ref a_t_fresh, .ref a_t_aside, .ref a_t_kept, .int 0, .int 0, .null, .int 0, .int 0, .int 0, .int 0, .int 0, .int 0, .int 0, .int 0, .int 0, .null, .int 0, .null, .int 0])), (a_t_a, .inl (t 0, 876, .inl zf)), (a_t_fresh, .inl (t 0, 876, .inl zf)), (a_t_aside, .inl (t 0, 876, .inl zf)), (a_t_kept, .inl (t 0, 7008, .inl zf)), (a_t_buffer, .inl (t 0, 900, .inl zf))])) (N' := 900) hx hb (hts (.arrayClass .int) (by decide +kernel)) rfl hK rfl hP hD hS hA (fun _ => rfl) (by decide) (by decide +kernel) (Nat.le_of_ble_eq_true rfl) (Nat.le_of_ble_eq_true rfl) (Nat.le_of_ble_eq_true rfl) (fun a => rfl) dX8_init_44 (fun a_t_buffer H hP hD hS => ?_)
  refine my_putF (ty := tyX8 6) (v := .ref a_t_buffer) (ci := 8) (C := RX8) (T := TX8) (N := 20) (wn := [(a_t, .inr (8, [.ref a_t_a, .ref a_t_fresh, .ref a_t_aside, .ref a_t_kept, .int 0, .int 0, .ref a_t_buffer, .int 0, .int 0, .int 0, .int 0, .int 0, .int 0, .int 0, .int 0, .int 0, .null, .int 0, .null, .int 0])), (a_t_a, .inl (t 0, 876, .inl zf)), (a_t_fresh, .inl (t 0, 876, .inl zf)), (a_t_aside, .inl (t 0, 876, .inl zf)), (a_t_kept, .inl (t 0, 7008, .inl zf)), (a_t_buffer, .inl (t 0, 900, .inl zf))]) hx hb hts iw8 tyX8 tyX8_ok nmX8 hown hK hP hD hS 0 rfl rfl 6 (by decide) hf22 (fun _ h9 => h9) (by decide +kernel) hin rfl (by decide +kernel) rfl rfl (Nat.le_of_ble_eq_true rfl) rfl dX8_init_46 (fun H locs hP hD hS => ?_)
  refine lv_aload_n hx hb dX8_init_49 rfl (lv_at hl 0 rfl) ?_
  refine lv_iconst (v := (-1)) hx hb dX8_init_50 (by decide) ?_
  refine my_put (ty := .int) (v := .int (-1)) (ci := 8) (C := RX8) (T := TX8) (N := 20) (wn := [(a_t, .inr (8, [.ref a_t_a, .ref a_t_fresh, .ref a_t_aside, .ref a_t_kept, .int 0, .int 0, .ref a_t_buffer, .int 0, .int 0, .int 0, .int 0, .int 0, .int 0, .int 0, .int 0, .int (-1), .null, .int 0, .null, .int 0])), (a_t_a, .inl (t 0, 876, .inl zf)), (a_t_fresh, .inl (t 0, 876, .inl zf)), (a_t_aside, .inl (t 0, 876, .inl zf)), (a_t_kept, .inl (t 0, 7008, .inl zf)), (a_t_buffer, .inl (t 0, 900, .inl zf))]) hx hb hts iw8 tyX8 tyX8_ok nmX8 hown hK hP hD hS 0 rfl rfl 15 (by decide) hf25 (fun _ h9 => h9) rfl (by decide +kernel) rfl rfl (Nat.le_of_ble_eq_true rfl) rfl dX8_init_51 (fun H locs hP hD hS => ?_)
  refine lv_aload_n hx hb dX8_init_54 rfl (lv_at hl 0 rfl) ?_
  refine lv_bipush (v := 120) hx hb dX8_init_55 (by decide) ?_
  refine my_newa (atype := .int) (ty := .int) (t0 := 0) (wn := (fun a_t_moved => [(a_t, .inr (8, [.ref a_t_a, .ref a_t_fresh, .ref a_t_aside, .ref a_t_kept, .int 0, .int 0, .ref a_t_buffer, .int 0, .int 0, .int 0, .int 0, .int 0, .int 0, .int 0, .int 0, .int (-1), .null, .int 0, .null, .int 0])), (a_t_a, .inl (t 0, 876, .inl zf)), (a_t_fresh, .inl (t 0, 876, .inl zf)), (a_t_aside, .inl (t 0, 876, .inl zf)), (a_t_kept, .inl (t 0, 7008, .inl zf)), (a_t_buffer, .inl (t 0, 900, .inl zf)), (a_t_moved, .inl (t 0, 120, .inl zf))])) (N' := 120) hx hb (hts (.arrayClass .int) (by decide +kernel)) rfl hK rfl hP hD hS hA (fun _ => rfl) (by decide) (by decide +kernel) (Nat.le_of_ble_eq_true rfl) (Nat.le_of_ble_eq_true rfl) (Nat.le_of_ble_eq_true rfl) (fun a => rfl) dX8_init_57 (fun a_t_moved H hP hD hS => ?_)
  refine my_putF (ty := tyX8 16) (v := .ref a_t_moved) (ci := 8) (C := RX8) (T := TX8) (N := 20) (wn := [(a_t, .inr (8, [.ref a_t_a, .ref a_t_fresh, .ref a_t_aside, .ref a_t_kept, .int 0, .int 0, .ref a_t_buffer, .int 0, .int 0, .int 0, .int 0, .int 0, .int 0, .int 0, .int 0, .int (-1), .ref a_t_moved, .int 0, .null, .int 0])), (a_t_a, .inl (t 0, 876, .inl zf)), (a_t_fresh, .inl (t 0, 876, .inl zf)), (a_t_aside, .inl (t 0, 876, .inl zf)), (a_t_kept, .inl (t 0, 7008, .inl zf)), (a_t_buffer, .inl (t 0, 900, .inl zf)), (a_t_moved, .inl (t 0, 120, .inl zf))]) hx hb hts iw8 tyX8 tyX8_ok nmX8 hown hK hP hD hS 0 rfl rfl 16 (by decide) hf29 (fun _ h9 => h9) (by decide +kernel) hin rfl (by decide +kernel) rfl rfl (Nat.le_of_ble_eq_true rfl) rfl dX8_init_59 (fun H locs hP hD hS => ?_)
  refine lv_aload_n hx hb dX8_init_62 rfl (lv_at hl 0 rfl) ?_
  refine lv_sipush (v := 1400) hx hb dX8_init_63 (by decide) ?_
  refine my_newa (atype := .int) (ty := .int) (t0 := 0) (wn := (fun a_t_written => [(a_t, .inr (8, [.ref a_t_a, .ref a_t_fresh, .ref a_t_aside, .ref a_t_kept, .int 0, .int 0, .ref a_t_buffer, .int 0, .int 0, .int 0, .int 0, .int 0, .int 0, .int 0, .int 0, .int (-1), .ref a_t_moved, .int 0, .null, .int 0])), (a_t_a, .inl (t 0, 876, .inl zf)), (a_t_fresh, .inl (t 0, 876, .inl zf)), (a_t_aside, .inl (t 0, 876, .inl zf)), (a_t_kept, .inl (t 0, 7008, .inl zf)), (a_t_buffer, .inl (t 0, 900, .inl zf)), (a_t_moved, .inl (t 0, 120, .inl zf)), (a_t_written, .inl (t 0, 1400, .inl zf))])) (N' := 1400) hx hb (hts (.arrayClass .int) (by decide +kernel)) rfl hK rfl hP hD hS hA (fun _ => rfl) (by decide) (by decide +kernel) (Nat.le_of_ble_eq_true rfl) (Nat.le_of_ble_eq_true rfl) (Nat.le_of_ble_eq_true rfl) (fun a => rfl) dX8_init_66 (fun a_t_written H hP hD hS => ?_)
  refine my_putF (ty := tyX8 18) (v := .ref a_t_written) (ci := 8) (C := RX8) (T := TX8) (N := 20) (wn := [(a_t, .inr (8, [.ref a_t_a, .ref a_t_fresh, .ref a_t_aside, .ref a_t_kept, .int 0, .int 0, .ref a_t_buffer, .int 0, .int 0, .int 0, .int 0, .int 0, .int 0, .int 0, .int 0, .int (-1), .ref a_t_moved, .int 0, .ref a_t_written, .int 0])), (a_t_a, .inl (t 0, 876, .inl zf)), (a_t_fresh, .inl (t 0, 876, .inl zf)), (a_t_aside, .inl (t 0, 876, .inl zf)), (a_t_kept, .inl (t 0, 7008, .inl zf)), (a_t_buffer, .inl (t 0, 900, .inl zf)), (a_t_moved, .inl (t 0, 120, .inl zf)), (a_t_written, .inl (t 0, 1400, .inl zf))]) hx hb hts iw8 tyX8 tyX8_ok nmX8 hown hK hP hD hS 0 rfl rfl 18 (by decide) hf32 (fun _ h9 => h9) (by decide +kernel) hin rfl (by decide +kernel) rfl rfl (Nat.le_of_ble_eq_true rfl) rfl dX8_init_68 (fun H locs hP hD hS => ?_)
  refine lv_aload_n hx hb dX8_init_71 rfl (lv_at hl 0 rfl) ?_
  obtain ⟨t_fresh_72_1, h72_1, hF⟩ := bndE hF
  refine wrVM (As := []) (rest := []) (C := RX8) (wn := [(a_t, .inr (8, [.ref a_t_a, .ref a_t_fresh, .ref a_t_aside, .ref a_t_kept, .int 0, .int 0, .ref a_t_buffer, .int 0, .int 0, .int 0, .int 0, .int 0, .int 0, .int 0, .int 0, .int (-1), .ref a_t_moved, .int 0, .ref a_t_written, .int 0])), (a_t_a, .inl (t 0, 876, .inl zf)), (a_t_fresh, .inl (t 0, 876, .inl t_fresh_72_1)), (a_t_aside, .inl (t 0, 876, .inl zf)), (a_t_kept, .inl (t 0, 7008, .inl zf)), (a_t_buffer, .inl (t 0, 900, .inl zf)), (a_t_moved, .inl (t 0, 120, .inl zf)), (a_t_written, .inl (t 0, 1400, .inl zf))]) ⟨hx, hb, hml, hown, hts⟩ (c_X8_begins l D t z x N a_t a_t_fresh (.ref a_t_a) (.ref a_t_aside) (.ref a_t_kept) (.ref a_t_buffer) (.ref a_t_moved) (.ref a_t_written) 0 0 0 0 0 0 0 0 0 0 (-1) 0 0 zf H.size t_fresh_72_1 h72_1) (cwV 0 hts gX8_init_X8_begins rfl rfl rfl hd_X8_begins ⟨Nat.le_of_ble_eq_true rfl, Nat.le_of_ble_eq_true rfl⟩) (hC.at hz hS) hP hD hS hA hz [true, false, true, false, false, false, false, false] rfl rfl rfl rfl 0 rfl (show vwCl[8]? = some (RX8, TX8, 20) from rfl) rfl rfl hl.1 rfl (Nat.le_of_ble_eq_true rfl) dX8_init_72 ⟨Nat.le_of_ble_eq_true rfl, Nat.le_of_ble_eq_true rfl⟩ rfl (fun H locs hP hD hS => ?_)
  refine lv_aload_n hx hb dX8_init_75 rfl (lv_at hl 0 rfl) ?_
  refine va_get (D := D) (ci := 8) (v := .ref a_t_a) (C := RX8) (T := TX8) (N := 20) hx hb hts iw8 hown hK hP 0 rfl rfl 0 (by decide) hf7 (fun _ h9 => h9) rfl dX8_init_76 ?_
  refine lv_aload_n hx hb dX8_init_79 rfl (lv_at hl 0 rfl) ?_
  refine va_get (D := D) (ci := 8) (v := .ref a_t_fresh) (C := RX8) (T := TX8) (N := 20) hx hb hts iw8 hown hK hP 0 rfl rfl 1 (by decide) hf13 (fun _ h9 => h9) rfl dX8_init_80 ?_
  obtain ⟨t_a_83_3, h83_3, hF⟩ := bndE hF
  refine wrSM (As := [.ref a_t_a, .ref a_t_fresh]) (rest := []) (wn := [(a_t, .inr (8, [.ref a_t_a, .ref a_t_fresh, .ref a_t_aside, .ref a_t_kept, .int 0, .int 0, .ref a_t_buffer, .int 0, .int 0, .int 0, .int 0, .int 0, .int 0, .int 0, .int 0, .int (-1), .ref a_t_moved, .int 0, .ref a_t_written, .int 0])), (a_t_a, .inl (t 0, 876, .inl t_a_83_3)), (a_t_fresh, .inl (t 0, 876, .inl t_fresh_72_1)), (a_t_aside, .inl (t 0, 876, .inl zf)), (a_t_kept, .inl (t 0, 7008, .inl zf)), (a_t_buffer, .inl (t 0, 900, .inl zf)), (a_t_moved, .inl (t 0, 120, .inl zf)), (a_t_written, .inl (t 0, 1400, .inl zf))]) ⟨hx, hb, hml, hown, hts⟩ (c_X8_sets l D t z x N a_t_a a_t_fresh 876 876 zf t_fresh_72_1 H.size t_a_83_3 h83_3) (va_cwS 2 hts gX8_init_X8_sets rfl rfl rfl hd_X8_sets.2 ⟨Nat.le_of_ble_eq_true rfl, Nat.le_of_ble_eq_true rfl⟩) (hC.at hz hS) hP hD hS hA hz [false, true, true, false, false, false, false, false] rfl rfl rfl rfl rfl hl.1 rfl (Nat.le_of_ble_eq_true rfl) dX8_init_83 ⟨Nat.le_of_ble_eq_true rfl, Nat.le_of_ble_eq_true rfl⟩ rfl (fun H locs hP hD hS => ?_)
  refine lv_aload_n hx hb dX8_init_86 rfl (lv_at hl 0 rfl) ?_
  obtain ⟨t_a_87_5, h87_5, hF⟩ := bndE hF
  refine wrVM (As := []) (rest := []) (C := RX8) (wn := [(a_t, .inr (8, [.ref a_t_a, .ref a_t_fresh, .ref a_t_aside, .ref a_t_kept, .int 0, .int 0, .ref a_t_buffer, .int 0, .int 0, .int 0, .int 0, .int 0, .int 0, .int 0, .int 0, .int (-1), .ref a_t_moved, .int 0, .ref a_t_written, .int 0])), (a_t_a, .inl (t 0, 876, .inl t_a_87_5)), (a_t_fresh, .inl (t 0, 876, .inl t_fresh_72_1)), (a_t_aside, .inl (t 0, 876, .inl zf)), (a_t_kept, .inl (t 0, 7008, .inl zf)), (a_t_buffer, .inl (t 0, 900, .inl zf)), (a_t_moved, .inl (t 0, 120, .inl zf)), (a_t_written, .inl (t 0, 1400, .inl zf))]) ⟨hx, hb, hml, hown, hts⟩ (c_X8_lays l D t z x N a_t a_t_a (.ref a_t_fresh) (.ref a_t_aside) (.ref a_t_kept) (.ref a_t_buffer) (.ref a_t_moved) (.ref a_t_written) 0 0 0 0 0 0 0 0 0 0 (-1) 0 0 t_a_83_3 H.size t_a_87_5 h87_5) (cwV 0 hts gX8_init_X8_lays rfl rfl rfl hd_X8_lays ⟨Nat.le_of_ble_eq_true rfl, Nat.le_of_ble_eq_true rfl⟩) (hC.at hz hS) hP hD hS hA hz [true, true, false, false, false, false, false, false] rfl rfl rfl rfl 0 rfl (show vwCl[8]? = some (RX8, TX8, 20) from rfl) rfl rfl hl.1 rfl (Nat.le_of_ble_eq_true rfl) dX8_init_87 ⟨Nat.le_of_ble_eq_true rfl, Nat.le_of_ble_eq_true rfl⟩ rfl (fun H locs hP hD hS => ?_)
  cases hF
  exact W.widen (k := 7) (n := 12056) (Nat.le_of_ble_eq_true rfl) (Nat.le_of_ble_eq_true rfl) (cr_vret hx hb hr hlocks dX8_init_90 hQ hP hD hS (fun i => [a_t_a, a_t_fresh, a_t_aside, a_t_kept, a_t_buffer, a_t_moved, a_t_written].getD i 0) [0, 1, 2, 3, 4, 5, 6, 7] rfl (by decide +kernel))
abbrev rm_X8_readsSetting : Room := { frames := 4, cells := 0, slots := 0, locals := 85 }
theorem hd_X8_readsSetting : yX8_readsSetting.cls = RX8 ∧ yX8_readsSetting.cls ≠ "java/lang/invoke/MethodHandle" ∧ yX8_readsSetting.cls ≠ "java/lang/invoke/VarHandle" ∧ (parseMethodDescriptor yX8_readsSetting.desc).map (fun d => d.parameters.length) = some 1 := by decide +kernel
set_option maxRecDepth 100000 in
set_option maxHeartbeats 4000000 in
theorem c_X8_readsSetting (l : Launch) (D : va_G) (t : Nat → ClassId) (z : Nat) (x : Nat → Nat) (N : Nat) (a_t : Nat) (a_t_buffer : Nat) (a_t_fresh : Nat) (v_t_a : Value) (v_t_aside : Value) (v_t_kept : Value) (v_t_moved : Value) (v_t_written : Value) (t_keptMany : Int32) (t_thrown : Int32) (t_buffered : Int32) (t_size : Int32) (t_at : Int32) (t_behind : Int32) (t_kind : Int32) (t_number : Int32) (t_wrong : Int32) (t_wrongAt : Int32) (t_errorAt : Int32) (t_unused : Int32) (t_writtenMany : Int32) (t_buffer_ : (Nat → Int32)) (t_fresh_ : (Nat → Int32)) (p1 : Int32) (sz : Nat) (t_at' : Int32) (t_behind' : Int32) (t_kind' : Int32) (t_number' : Int32) (t_wrong' : Int32) (t_wrongAt' : Int32) (t_fresh_' : (Nat → Int32)) (hF : f_X8_readsSetting N t_size t_at t_behind t_kind t_number t_wrong t_wrongAt t_buffer_ t_fresh_ p1 = some (t_at', t_behind', t_kind', t_number', t_wrong', t_wrongAt', t_fresh_')) : WrM l D (TY t) z x yX8_readsSetting wsX8_readsSetting rm_X8_readsSetting [.ref a_t, .int p1] [(a_t, .inr (8, [v_t_a, .ref a_t_fresh, v_t_aside, v_t_kept, .int t_keptMany, .int t_thrown, .ref a_t_buffer, .int t_buffered, .int t_size, .int t_at, .int t_behind, .int t_kind, .int t_number, .int t_wrong, .int t_wrongAt, .int t_errorAt, v_t_moved, .int t_unused, v_t_written, .int t_writtenMany])), (a_t_buffer, .inl (t 0, 900, .inl t_buffer_)), (a_t_fresh, .inl (t 0, 876, .inl t_fresh_))] [(a_t, .inr (8, [v_t_a, .ref a_t_fresh, v_t_aside, v_t_kept, .int t_keptMany, .int t_thrown, .ref a_t_buffer, .int t_buffered, .int t_size, .int t_at', .int t_behind', .int t_kind', .int t_number', .int t_wrong', .int t_wrongAt', .int t_errorAt, v_t_moved, .int t_unused, v_t_written, .int t_writtenMany])), (a_t_buffer, .inl (t 0, 900, .inl t_buffer_)), (a_t_fresh, .inl (t 0, 876, .inl t_fresh_'))] sz none 0 0 := by
  obtain ⟨T9, hT⟩ : ∃ T9, T9 = (t_at', t_behind', t_kind', t_number', t_wrong', t_wrongAt', t_fresh_') := ⟨_, rfl⟩
  rw [← hT] at hF
  obtain rfl : t_at' = T9.1 := by rw [hT]
  obtain rfl : t_behind' = T9.2.1 := by rw [hT]
  obtain rfl : t_kind' = T9.2.2.1 := by rw [hT]
  obtain rfl : t_number' = T9.2.2.2.1 := by rw [hT]
  obtain rfl : t_wrong' = T9.2.2.2.2.1 := by rw [hT]
  obtain rfl : t_wrongAt' = T9.2.2.2.2.2.1 := by rw [hT]
  obtain rfl : t_fresh_' = T9.2.2.2.2.2.2 := by rw [hT]
  clear hT
  refine wr_of (cc := cX8_readsSetting) (maxL := 3) (ret := none) (by decide) rfl (Nat.le_of_ble_eq_true rfl) ?_
  intro p e s m args below meth c A Q hQ hx hb hr hml hts hown hlocks hin H locs hP hD hS hA hz hC ls hl
  have hown : s.vm.findClass RX8 = some m.cls := hown
  have hl : lv_has ls 3 [(0, .ref a_t), (1, .int p1)] := hl
  have hK := hC.1
  have iw8 : ∀ w ∈ wsX80, w ∈ wsX8_readsSetting := fun _ h => List.mem_cons_of_mem _ (List.mem_append_right _ h)
  have hf13 := hts (.fieldLink RX8 13 "CrackedColumnModel" "fresh" "[I") (by decide +kernel)
  have hf85 := hts (.fieldLink RX8 85 "CrackedColumnModel" "wrong" "I") (by decide +kernel)
  unfold f_X8_readsSetting at hF
  refine lv_aload_n hx hb dX8_readsSetting_0 rfl (lv_at hl 0 rfl) ?_
  refine lv_iconst (v := 1) hx hb dX8_readsSetting_1 (by decide) ?_
  obtain ⟨t_at_2_1, t_behind_2_2, t_kind_2_3, t_number_2_4, t_wrong_2_5, t_wrongAt_2_6, h2_6, hF⟩ := bnd6E hF
  refine wrVM (As := [.int 1]) (rest := []) (C := RX8) (wn := [(a_t, .inr (8, [v_t_a, .ref a_t_fresh, v_t_aside, v_t_kept, .int t_keptMany, .int t_thrown, .ref a_t_buffer, .int t_buffered, .int t_size, .int t_at_2_1, .int t_behind_2_2, .int t_kind_2_3, .int t_number_2_4, .int t_wrong_2_5, .int t_wrongAt_2_6, .int t_errorAt, v_t_moved, .int t_unused, v_t_written, .int t_writtenMany])), (a_t_buffer, .inl (t 0, 900, .inl t_buffer_)), (a_t_fresh, .inl (t 0, 876, .inl t_fresh_))]) ⟨hx, hb, hml, hown, hts⟩ (c_X8_must l D t z x N a_t a_t_buffer v_t_a (.ref a_t_fresh) v_t_aside v_t_kept v_t_moved v_t_written t_keptMany t_thrown t_buffered t_size t_at t_behind t_kind t_number t_wrong t_wrongAt t_errorAt t_unused t_writtenMany t_buffer_ 1 H.size t_at_2_1 t_behind_2_2 t_kind_2_3 t_number_2_4 t_wrong_2_5 t_wrongAt_2_6 h2_6) (cwV 1 hts gX8_readsSetting_X8_must rfl rfl rfl hd_X8_must ⟨Nat.le_of_ble_eq_true rfl, Nat.le_of_ble_eq_true rfl⟩) (hC.at hz hS) hP hD hS hA hz [true, true, false] rfl rfl rfl rfl 0 rfl (show vwCl[8]? = some (RX8, TX8, 20) from rfl) rfl rfl hl.1 rfl (Nat.le_of_ble_eq_true rfl) dX8_readsSetting_2 ⟨Nat.zero_le _, Nat.zero_le _⟩ rfl (fun H locs hP hD hS => ?_)
  refine lv_aload_n hx hb dX8_readsSetting_5 rfl (lv_at hl 0 rfl) ?_
  refine lv_iload_n hx hb dX8_readsSetting_6 rfl (lv_at hl 1 rfl) ?_
  obtain ⟨r7_8, h7_8, hF⟩ := bndE hF
  refine rdS (As := [.int p1]) (rest := [.ref a_t]) ⟨hx, hb, hml, hown, hts⟩ (c_X8_least l D t z x p1 H r7_8 h7_8) (va_cwS 1 hts gX8_readsSetting_X8_least rfl rfl rfl hd_X8_least.2 ⟨Nat.le_of_ble_eq_true rfl, Nat.le_of_ble_eq_true rfl⟩) (hC.at hz hS) (selP (m9 := [false, false, false]) rfl rfl hP) rfl hl.1 rfl (Nat.le_of_ble_eq_true rfl) dX8_readsSetting_7 ⟨Nat.zero_le _, Nat.zero_le _⟩ rfl ?_
  refine lv_iload_n hx hb dX8_readsSetting_10 rfl (lv_at hl 1 rfl) ?_
  obtain ⟨r11_10, h11_10, hF⟩ := bndE hF
  refine rdS (As := [.int p1]) (rest := [.int r7_8, .ref a_t]) ⟨hx, hb, hml, hown, hts⟩ (c_X8_greatest l D t z x p1 H r11_10 h11_10) (va_cwS 1 hts gX8_readsSetting_X8_greatest rfl rfl rfl hd_X8_greatest.2 ⟨Nat.le_of_ble_eq_true rfl, Nat.le_of_ble_eq_true rfl⟩) (hC.at hz hS) (selP (m9 := [false, false, false]) rfl rfl hP) rfl hl.1 rfl (Nat.le_of_ble_eq_true rfl) dX8_readsSetting_11 ⟨Nat.zero_le _, Nat.zero_le _⟩ rfl ?_
  obtain ⟨r14_12, t_at_14_13, t_behind_14_14, t_kind_14_15, t_number_14_16, t_wrong_14_17, t_wrongAt_14_18, h14_18, hF⟩ := bnd7E hF
  refine wrVM (As := [.int r7_8, .int r11_10]) (rest := []) (C := RX8) (wn := [(a_t, .inr (8, [v_t_a, .ref a_t_fresh, v_t_aside, v_t_kept, .int t_keptMany, .int t_thrown, .ref a_t_buffer, .int t_buffered, .int t_size, .int t_at_14_13, .int t_behind_14_14, .int t_kind_14_15, .int t_number_14_16, .int t_wrong_14_17, .int t_wrongAt_14_18, .int t_errorAt, v_t_moved, .int t_unused, v_t_written, .int t_writtenMany])), (a_t_buffer, .inl (t 0, 900, .inl t_buffer_)), (a_t_fresh, .inl (t 0, 876, .inl t_fresh_))]) ⟨hx, hb, hml, hown, hts⟩ (c_X8_takes l D t z x N a_t a_t_buffer v_t_a (.ref a_t_fresh) v_t_aside v_t_kept v_t_moved v_t_written t_keptMany t_thrown t_buffered t_size t_at_2_1 t_behind_2_2 t_kind_2_3 t_number_2_4 t_wrong_2_5 t_wrongAt_2_6 t_errorAt t_unused t_writtenMany t_buffer_ r7_8 r11_10 H.size r14_12 t_at_14_13 t_behind_14_14 t_kind_14_15 t_number_14_16 t_wrong_14_17 t_wrongAt_14_18 h14_18) (cwV 2 hts gX8_readsSetting_X8_takes rfl rfl rfl hd_X8_takes ⟨Nat.le_of_ble_eq_true rfl, Nat.le_of_ble_eq_true rfl⟩) (hC.at hz hS) hP hD hS hA hz [true, true, false] rfl rfl rfl rfl 0 rfl (show vwCl[8]? = some (RX8, TX8, 20) from rfl) rfl rfl hl.1 rfl (Nat.le_of_ble_eq_true rfl) dX8_readsSetting_14 ⟨Nat.zero_le _, Nat.zero_le _⟩ rfl (fun H locs hP hD hS => ?_)
  refine lv_istore_n (lv' := [(2, .int r14_12), (0, .ref a_t), (1, .int p1)]) hx hb dX8_readsSetting_17 rfl hl (by decide) rfl (fun ls hl => ?_)
  refine lv_aload_n hx hb dX8_readsSetting_18 rfl (lv_at hl 1 rfl) ?_
  refine va_get (D := D) (ci := 8) (v := .int t_wrong_14_17) (C := RX8) (T := TX8) (N := 20) hx hb hts iw8 hown hK hP 0 rfl rfl 13 (by decide) hf85 (fun _ h9 => h9) rfl dX8_readsSetting_19 ?_
  refine lv_if_ne (tgt := 34) hx hb dX8_readsSetting_22 (by decide) (fun c22 => ?_) (fun c22 => ?_)
  · have hF := brF c22 hF
    cases hF
    exact we_vret hx hb hr hlocks dX8_readsSetting_34 rfl hQ hP hD hS
  · have hF := brT c22 hF
    refine lv_aload_n hx hb dX8_readsSetting_25 rfl (lv_at hl 1 rfl) ?_
    refine va_get (D := D) (ci := 8) (v := .ref a_t_fresh) (C := RX8) (T := TX8) (N := 20) hx hb hts iw8 hown hK hP 0 rfl rfl 1 (by decide) hf13 (fun _ h9 => h9) rfl dX8_readsSetting_26 ?_
    refine lv_iconst (v := 4) hx hb dX8_readsSetting_29 (by decide) ?_
    refine lv_iload_n hx hb dX8_readsSetting_30 rfl (lv_at hl 2 rfl) ?_
    refine lv_iadd hx hb dX8_readsSetting_31 ?_
    refine lv_iload_n hx hb dX8_readsSetting_32 rfl (lv_at hl 0 rfl) ?_
    obtain ⟨g33_19, hF⟩ := gd hF
    obtain ⟨t_fresh_33_21, et_fresh_33_21⟩ : ∃ y : Nat → Int32, y = upd t_fresh_ (4 + p1).toNatClampNeg r14_12 := ⟨_, rfl⟩
    have hF := ltE et_fresh_33_21 hF
    refine my_iast (g := t_fresh_33_21) (wn := [(a_t, .inr (8, [v_t_a, .ref a_t_fresh, v_t_aside, v_t_kept, .int t_keptMany, .int t_thrown, .ref a_t_buffer, .int t_buffered, .int t_size, .int t_at_14_13, .int t_behind_14_14, .int t_kind_14_15, .int t_number_14_16, .int t_wrong_14_17, .int t_wrongAt_14_18, .int t_errorAt, v_t_moved, .int t_unused, v_t_written, .int t_writtenMany])), (a_t_buffer, .inl (t 0, 900, .inl t_buffer_)), (a_t_fresh, .inl (t 0, 876, .inl t_fresh_33_21))]) hx hb hK hP hD hS 2 0 rfl rfl g33_19 et_fresh_33_21 rfl dX8_readsSetting_33 (fun H locs hP hD hS => ?_)
    cases hF
    exact we_vret hx hb hr hlocks dX8_readsSetting_34 rfl hQ hP hD hS
abbrev rm_X8_readsStatement : Room := { frames := 5, cells := 0, slots := 0, locals := 109 }
theorem hd_X8_readsStatement : yX8_readsStatement.cls = RX8 ∧ yX8_readsStatement.cls ≠ "java/lang/invoke/MethodHandle" ∧ yX8_readsStatement.cls ≠ "java/lang/invoke/VarHandle" ∧ (parseMethodDescriptor yX8_readsStatement.desc).map (fun d => d.parameters.length) = some 0 := by decide +kernel
set_option maxRecDepth 100000 in
set_option maxHeartbeats 4000000 in
theorem c_X8_readsStatement (l : Launch) (D : va_G) (t : Nat → ClassId) (z : Nat) (x : Nat → Nat) (N : Nat) (a_t : Nat) (a_t_buffer : Nat) (a_t_fresh : Nat) (v_t_a : Value) (v_t_aside : Value) (v_t_kept : Value) (v_t_moved : Value) (v_t_written : Value) (t_keptMany : Int32) (t_thrown : Int32) (t_buffered : Int32) (t_size : Int32) (t_at : Int32) (t_behind : Int32) (t_kind : Int32) (t_number : Int32) (t_wrong : Int32) (t_wrongAt : Int32) (t_errorAt : Int32) (t_unused : Int32) (t_writtenMany : Int32) (t_buffer_ : (Nat → Int32)) (t_fresh_ : (Nat → Int32)) (sz : Nat) (t_at' : Int32) (t_behind' : Int32) (t_kind' : Int32) (t_number' : Int32) (t_wrong' : Int32) (t_wrongAt' : Int32) (t_fresh_' : (Nat → Int32)) (hF : f_X8_readsStatement N t_size t_at t_behind t_kind t_number t_wrong t_wrongAt t_buffer_ t_fresh_ = some (t_at', t_behind', t_kind', t_number', t_wrong', t_wrongAt', t_fresh_')) : WrM l D (TY t) z x yX8_readsStatement wsX8_readsStatement rm_X8_readsStatement [.ref a_t] [(a_t, .inr (8, [v_t_a, .ref a_t_fresh, v_t_aside, v_t_kept, .int t_keptMany, .int t_thrown, .ref a_t_buffer, .int t_buffered, .int t_size, .int t_at, .int t_behind, .int t_kind, .int t_number, .int t_wrong, .int t_wrongAt, .int t_errorAt, v_t_moved, .int t_unused, v_t_written, .int t_writtenMany])), (a_t_buffer, .inl (t 0, 900, .inl t_buffer_)), (a_t_fresh, .inl (t 0, 876, .inl t_fresh_))] [(a_t, .inr (8, [v_t_a, .ref a_t_fresh, v_t_aside, v_t_kept, .int t_keptMany, .int t_thrown, .ref a_t_buffer, .int t_buffered, .int t_size, .int t_at', .int t_behind', .int t_kind', .int t_number', .int t_wrong', .int t_wrongAt', .int t_errorAt, v_t_moved, .int t_unused, v_t_written, .int t_writtenMany])), (a_t_buffer, .inl (t 0, 900, .inl t_buffer_)), (a_t_fresh, .inl (t 0, 876, .inl t_fresh_'))] sz none 0 0 := by
  obtain ⟨T9, hT⟩ : ∃ T9, T9 = (t_at', t_behind', t_kind', t_number', t_wrong', t_wrongAt', t_fresh_') := ⟨_, rfl⟩
  rw [← hT] at hF
  obtain rfl : t_at' = T9.1 := by rw [hT]
  obtain rfl : t_behind' = T9.2.1 := by rw [hT]
  obtain rfl : t_kind' = T9.2.2.1 := by rw [hT]
  obtain rfl : t_number' = T9.2.2.2.1 := by rw [hT]
  obtain rfl : t_wrong' = T9.2.2.2.2.1 := by rw [hT]
  obtain rfl : t_wrongAt' = T9.2.2.2.2.2.1 := by rw [hT]
  obtain rfl : t_fresh_' = T9.2.2.2.2.2.2 := by rw [hT]
  clear hT
  refine wr_of (cc := cX8_readsStatement) (maxL := 1) (ret := none) (by decide) rfl (Nat.le_of_ble_eq_true rfl) ?_
  intro p e s m args below meth c A Q hQ hx hb hr hml hts hown hlocks hin H locs hP hD hS hA hz hC ls hl
  have hown : s.vm.findClass RX8 = some m.cls := hown
  have hl : lv_has ls 1 [(0, .ref a_t)] := hl
  have hK := hC.1
  unfold f_X8_readsStatement at hF
  refine lv_aload_n hx hb dX8_readsStatement_0 rfl (lv_at hl 0 rfl) ?_
  refine va_ldcS hx hb hown (show vk_R RX8 125 "row" (x (10 + 0)) s from st_5 hC.2.2) dX8_readsStatement_1 ?_
  obtain ⟨r3_1, h3_1, hF⟩ := bndE hF
  refine rdV (As := [.ref (x (10 + 0))]) (rest := []) (C := RX8) ⟨hx, hb, hml, hown, hts⟩ (c_X8_isWord l D t z x N a_t a_t_buffer v_t_a (.ref a_t_fresh) v_t_aside v_t_kept v_t_moved v_t_written t_keptMany t_thrown t_buffered t_size t_at t_behind t_kind t_number t_wrong t_wrongAt t_errorAt t_unused t_writtenMany t_buffer_ 0 H r3_1 h3_1) (cwV 1 hts gX8_readsStatement_X8_isWord rfl rfl rfl hd_X8_isWord ⟨Nat.le_of_ble_eq_true rfl, Nat.le_of_ble_eq_true rfl⟩) (hC.at hz hS) (selP (m9 := [true, true, false]) rfl rfl hP) 0 rfl (show vwCl[8]? = some (RX8, TX8, 20) from rfl) rfl rfl hl.1 rfl (Nat.le_of_ble_eq_true rfl) dX8_readsStatement_3 ⟨Nat.zero_le _, Nat.zero_le _⟩ rfl ?_
  refine lv_if_eq (tgt := 16) hx hb dX8_readsStatement_6 (by decide) (fun c6 => ?_) (fun c6 => ?_)
  · have hF := brT c6 hF
    refine lv_aload_n hx hb dX8_readsStatement_16 rfl (lv_at hl 0 rfl) ?_
    refine va_ldcS hx hb hown (show vk_R RX8 134 "hot" (x (10 + 1)) s from st_6 hC.2.2) dX8_readsStatement_17 ?_
    obtain ⟨r19_3, h19_3, hF⟩ := bndE hF
    refine rdV (As := [.ref (x (10 + 1))]) (rest := []) (C := RX8) ⟨hx, hb, hml, hown, hts⟩ (c_X8_isWord l D t z x N a_t a_t_buffer v_t_a (.ref a_t_fresh) v_t_aside v_t_kept v_t_moved v_t_written t_keptMany t_thrown t_buffered t_size t_at t_behind t_kind t_number t_wrong t_wrongAt t_errorAt t_unused t_writtenMany t_buffer_ 1 H r19_3 h19_3) (cwV 1 hts gX8_readsStatement_X8_isWord rfl rfl rfl hd_X8_isWord ⟨Nat.le_of_ble_eq_true rfl, Nat.le_of_ble_eq_true rfl⟩) (hC.at hz hS) (selP (m9 := [true, true, false]) rfl rfl hP) 0 rfl (show vwCl[8]? = some (RX8, TX8, 20) from rfl) rfl rfl hl.1 rfl (Nat.le_of_ble_eq_true rfl) dX8_readsStatement_19 ⟨Nat.zero_le _, Nat.zero_le _⟩ rfl ?_
    refine lv_if_eq (tgt := 33) hx hb dX8_readsStatement_22 (by decide) (fun c22 => ?_) (fun c22 => ?_)
    · have hF := brT c22 hF
      refine lv_aload_n hx hb dX8_readsStatement_33 rfl (lv_at hl 0 rfl) ?_
      refine va_ldcS hx hb hown (show vk_R RX8 139 "size" (x (10 + 2)) s from st_7 hC.2.2) dX8_readsStatement_34 ?_
      obtain ⟨r36_5, h36_5, hF⟩ := bndE hF
      refine rdV (As := [.ref (x (10 + 2))]) (rest := []) (C := RX8) ⟨hx, hb, hml, hown, hts⟩ (c_X8_isWord l D t z x N a_t a_t_buffer v_t_a (.ref a_t_fresh) v_t_aside v_t_kept v_t_moved v_t_written t_keptMany t_thrown t_buffered t_size t_at t_behind t_kind t_number t_wrong t_wrongAt t_errorAt t_unused t_writtenMany t_buffer_ 2 H r36_5 h36_5) (cwV 1 hts gX8_readsStatement_X8_isWord rfl rfl rfl hd_X8_isWord ⟨Nat.le_of_ble_eq_true rfl, Nat.le_of_ble_eq_true rfl⟩) (hC.at hz hS) (selP (m9 := [true, true, false]) rfl rfl hP) 0 rfl (show vwCl[8]? = some (RX8, TX8, 20) from rfl) rfl rfl hl.1 rfl (Nat.le_of_ble_eq_true rfl) dX8_readsStatement_36 ⟨Nat.zero_le _, Nat.zero_le _⟩ rfl ?_
      refine lv_if_eq (tgt := 50) hx hb dX8_readsStatement_39 (by decide) (fun c39 => ?_) (fun c39 => ?_)
      · have hF := brT c39 hF
        refine lv_aload_n hx hb dX8_readsStatement_50 rfl (lv_at hl 0 rfl) ?_
        refine va_ldcS hx hb hown (show vk_R RX8 140 "pieces" (x (10 + 3)) s from st_8 hC.2.2) dX8_readsStatement_51 ?_
        obtain ⟨r53_7, h53_7, hF⟩ := bndE hF
        refine rdV (As := [.ref (x (10 + 3))]) (rest := []) (C := RX8) ⟨hx, hb, hml, hown, hts⟩ (c_X8_isWord l D t z x N a_t a_t_buffer v_t_a (.ref a_t_fresh) v_t_aside v_t_kept v_t_moved v_t_written t_keptMany t_thrown t_buffered t_size t_at t_behind t_kind t_number t_wrong t_wrongAt t_errorAt t_unused t_writtenMany t_buffer_ 3 H r53_7 h53_7) (cwV 1 hts gX8_readsStatement_X8_isWord rfl rfl rfl hd_X8_isWord ⟨Nat.le_of_ble_eq_true rfl, Nat.le_of_ble_eq_true rfl⟩) (hC.at hz hS) (selP (m9 := [true, true, false]) rfl rfl hP) 0 rfl (show vwCl[8]? = some (RX8, TX8, 20) from rfl) rfl rfl hl.1 rfl (Nat.le_of_ble_eq_true rfl) dX8_readsStatement_53 ⟨Nat.zero_le _, Nat.zero_le _⟩ rfl ?_
        refine lv_if_eq (tgt := 67) hx hb dX8_readsStatement_56 (by decide) (fun c56 => ?_) (fun c56 => ?_)
        · have hF := brT c56 hF
          refine lv_aload_n hx hb dX8_readsStatement_67 rfl (lv_at hl 0 rfl) ?_
          refine va_ldcS hx hb hown (show vk_R RX8 142 "pending" (x (10 + 4)) s from st_9 hC.2.2) dX8_readsStatement_68 ?_
          obtain ⟨r70_9, h70_9, hF⟩ := bndE hF
          refine rdV (As := [.ref (x (10 + 4))]) (rest := []) (C := RX8) ⟨hx, hb, hml, hown, hts⟩ (c_X8_isWord l D t z x N a_t a_t_buffer v_t_a (.ref a_t_fresh) v_t_aside v_t_kept v_t_moved v_t_written t_keptMany t_thrown t_buffered t_size t_at t_behind t_kind t_number t_wrong t_wrongAt t_errorAt t_unused t_writtenMany t_buffer_ 4 H r70_9 h70_9) (cwV 1 hts gX8_readsStatement_X8_isWord rfl rfl rfl hd_X8_isWord ⟨Nat.le_of_ble_eq_true rfl, Nat.le_of_ble_eq_true rfl⟩) (hC.at hz hS) (selP (m9 := [true, true, false]) rfl rfl hP) 0 rfl (show vwCl[8]? = some (RX8, TX8, 20) from rfl) rfl rfl hl.1 rfl (Nat.le_of_ble_eq_true rfl) dX8_readsStatement_70 ⟨Nat.zero_le _, Nat.zero_le _⟩ rfl ?_
          refine lv_if_eq (tgt := 84) hx hb dX8_readsStatement_73 (by decide) (fun c73 => ?_) (fun c73 => ?_)
          · have hF := brT c73 hF
            refine lv_aload_n hx hb dX8_readsStatement_84 rfl (lv_at hl 0 rfl) ?_
            refine lv_bipush (v := (-2)) hx hb dX8_readsStatement_85 (by decide) ?_
            obtain ⟨t_wrong_87_11, t_wrongAt_87_12, h87_12, hF⟩ := bnd2E hF
            refine wrVM (As := [.int (-2)]) (rest := []) (C := RX8) (wn := [(a_t, .inr (8, [v_t_a, .ref a_t_fresh, v_t_aside, v_t_kept, .int t_keptMany, .int t_thrown, .ref a_t_buffer, .int t_buffered, .int t_size, .int t_at, .int t_behind, .int t_kind, .int t_number, .int t_wrong_87_11, .int t_wrongAt_87_12, .int t_errorAt, v_t_moved, .int t_unused, v_t_written, .int t_writtenMany])), (a_t_buffer, .inl (t 0, 900, .inl t_buffer_)), (a_t_fresh, .inl (t 0, 876, .inl t_fresh_))]) ⟨hx, hb, hml, hown, hts⟩ (c_X8_fails l D t z x a_t v_t_a (.ref a_t_fresh) v_t_aside v_t_kept (.ref a_t_buffer) v_t_moved v_t_written t_keptMany t_thrown t_buffered t_size t_at t_behind t_kind t_number t_wrong t_wrongAt t_errorAt t_unused t_writtenMany (-2) H.size t_wrong_87_11 t_wrongAt_87_12 h87_12) (cwV 1 hts gX8_readsStatement_X8_fails rfl rfl rfl hd_X8_fails ⟨Nat.le_of_ble_eq_true rfl, Nat.le_of_ble_eq_true rfl⟩) (hC.at hz hS) hP hD hS hA hz [true, false, false] rfl rfl rfl rfl 0 rfl (show vwCl[8]? = some (RX8, TX8, 20) from rfl) rfl rfl hl.1 rfl (Nat.le_of_ble_eq_true rfl) dX8_readsStatement_87 ⟨Nat.zero_le _, Nat.zero_le _⟩ rfl (fun H locs hP hD hS => ?_)
            refine lv_aload_n hx hb dX8_readsStatement_90 rfl (lv_at hl 0 rfl) ?_
            refine lv_aload_n hx hb dX8_readsStatement_91 rfl (lv_at hl 0 rfl) ?_
            refine lv_bipush (v := 59) hx hb dX8_readsStatement_92 (by decide) ?_
            obtain ⟨r94_14, h94_14, hF⟩ := bndE hF
            refine rdV (As := [.int 59]) (rest := [.ref a_t]) (C := RX8) ⟨hx, hb, hml, hown, hts⟩ (c_X8_isSign l D t z x a_t a_t_buffer v_t_a (.ref a_t_fresh) v_t_aside v_t_kept v_t_moved v_t_written t_keptMany t_thrown t_buffered t_size t_at t_behind t_kind t_number t_wrong_87_11 t_wrongAt_87_12 t_errorAt t_unused t_writtenMany t_buffer_ 59 H r94_14 h94_14) (cwV 1 hts gX8_readsStatement_X8_isSign rfl rfl rfl hd_X8_isSign ⟨Nat.le_of_ble_eq_true rfl, Nat.le_of_ble_eq_true rfl⟩) (hC.at hz hS) (selP (m9 := [true, true, false]) rfl rfl hP) 0 rfl (show vwCl[8]? = some (RX8, TX8, 20) from rfl) rfl rfl hl.1 rfl (Nat.le_of_ble_eq_true rfl) dX8_readsStatement_94 ⟨Nat.zero_le _, Nat.zero_le _⟩ rfl ?_
            obtain ⟨t_at_97_16, t_behind_97_17, t_kind_97_18, t_number_97_19, t_wrong_97_20, t_wrongAt_97_21, h97_21, hF⟩ := bnd6E hF
            refine wrVM (As := [.int r94_14]) (rest := []) (C := RX8) (wn := [(a_t, .inr (8, [v_t_a, .ref a_t_fresh, v_t_aside, v_t_kept, .int t_keptMany, .int t_thrown, .ref a_t_buffer, .int t_buffered, .int t_size, .int t_at_97_16, .int t_behind_97_17, .int t_kind_97_18, .int t_number_97_19, .int t_wrong_97_20, .int t_wrongAt_97_21, .int t_errorAt, v_t_moved, .int t_unused, v_t_written, .int t_writtenMany])), (a_t_buffer, .inl (t 0, 900, .inl t_buffer_)), (a_t_fresh, .inl (t 0, 876, .inl t_fresh_))]) ⟨hx, hb, hml, hown, hts⟩ (c_X8_must l D t z x N a_t a_t_buffer v_t_a (.ref a_t_fresh) v_t_aside v_t_kept v_t_moved v_t_written t_keptMany t_thrown t_buffered t_size t_at t_behind t_kind t_number t_wrong_87_11 t_wrongAt_87_12 t_errorAt t_unused t_writtenMany t_buffer_ r94_14 H.size t_at_97_16 t_behind_97_17 t_kind_97_18 t_number_97_19 t_wrong_97_20 t_wrongAt_97_21 h97_21) (cwV 1 hts gX8_readsStatement_X8_must rfl rfl rfl hd_X8_must ⟨Nat.le_of_ble_eq_true rfl, Nat.le_of_ble_eq_true rfl⟩) (hC.at hz hS) hP hD hS hA hz [true, true, false] rfl rfl rfl rfl 0 rfl (show vwCl[8]? = some (RX8, TX8, 20) from rfl) rfl rfl hl.1 rfl (Nat.le_of_ble_eq_true rfl) dX8_readsStatement_97 ⟨Nat.zero_le _, Nat.zero_le _⟩ rfl (fun H locs hP hD hS => ?_)
            cases hF
            exact we_vret hx hb hr hlocks dX8_readsStatement_100 rfl hQ hP hD hS
          · have hF := brF c73 hF
            refine lv_aload_n hx hb dX8_readsStatement_76 rfl (lv_at hl 0 rfl) ?_
            refine lv_iconst (v := 3) hx hb dX8_readsStatement_77 (by decide) ?_
            obtain ⟨t_at_78_23, t_behind_78_24, t_kind_78_25, t_number_78_26, t_wrong_78_27, t_wrongAt_78_28, t_fresh_78_29, h78_29, hF⟩ := bnd7E hF
            refine wrVM (As := [.int 3]) (rest := []) (C := RX8) (wn := [(a_t, .inr (8, [v_t_a, .ref a_t_fresh, v_t_aside, v_t_kept, .int t_keptMany, .int t_thrown, .ref a_t_buffer, .int t_buffered, .int t_size, .int t_at_78_23, .int t_behind_78_24, .int t_kind_78_25, .int t_number_78_26, .int t_wrong_78_27, .int t_wrongAt_78_28, .int t_errorAt, v_t_moved, .int t_unused, v_t_written, .int t_writtenMany])), (a_t_buffer, .inl (t 0, 900, .inl t_buffer_)), (a_t_fresh, .inl (t 0, 876, .inl t_fresh_78_29))]) ⟨hx, hb, hml, hown, hts⟩ (c_X8_readsSetting l D t z x N a_t a_t_buffer a_t_fresh v_t_a v_t_aside v_t_kept v_t_moved v_t_written t_keptMany t_thrown t_buffered t_size t_at t_behind t_kind t_number t_wrong t_wrongAt t_errorAt t_unused t_writtenMany t_buffer_ t_fresh_ 3 H.size t_at_78_23 t_behind_78_24 t_kind_78_25 t_number_78_26 t_wrong_78_27 t_wrongAt_78_28 t_fresh_78_29 h78_29) (cwV 1 hts gX8_readsStatement_X8_readsSetting rfl rfl rfl hd_X8_readsSetting ⟨Nat.le_of_ble_eq_true rfl, Nat.le_of_ble_eq_true rfl⟩) (hC.at hz hS) hP hD hS hA hz [true, true, true] rfl rfl rfl rfl 0 rfl (show vwCl[8]? = some (RX8, TX8, 20) from rfl) rfl rfl hl.1 rfl (Nat.le_of_ble_eq_true rfl) dX8_readsStatement_78 ⟨Nat.zero_le _, Nat.zero_le _⟩ rfl (fun H locs hP hD hS => ?_)
            refine lv_goto (tgt := 90) hx hb dX8_readsStatement_81 (by decide) ?_
            refine lv_aload_n hx hb dX8_readsStatement_90 rfl (lv_at hl 0 rfl) ?_
            refine lv_aload_n hx hb dX8_readsStatement_91 rfl (lv_at hl 0 rfl) ?_
            refine lv_bipush (v := 59) hx hb dX8_readsStatement_92 (by decide) ?_
            obtain ⟨r94_31, h94_31, hF⟩ := bndE hF
            refine rdV (As := [.int 59]) (rest := [.ref a_t]) (C := RX8) ⟨hx, hb, hml, hown, hts⟩ (c_X8_isSign l D t z x a_t a_t_buffer v_t_a (.ref a_t_fresh) v_t_aside v_t_kept v_t_moved v_t_written t_keptMany t_thrown t_buffered t_size t_at_78_23 t_behind_78_24 t_kind_78_25 t_number_78_26 t_wrong_78_27 t_wrongAt_78_28 t_errorAt t_unused t_writtenMany t_buffer_ 59 H r94_31 h94_31) (cwV 1 hts gX8_readsStatement_X8_isSign rfl rfl rfl hd_X8_isSign ⟨Nat.le_of_ble_eq_true rfl, Nat.le_of_ble_eq_true rfl⟩) (hC.at hz hS) (selP (m9 := [true, true, false]) rfl rfl hP) 0 rfl (show vwCl[8]? = some (RX8, TX8, 20) from rfl) rfl rfl hl.1 rfl (Nat.le_of_ble_eq_true rfl) dX8_readsStatement_94 ⟨Nat.zero_le _, Nat.zero_le _⟩ rfl ?_
            obtain ⟨t_at_97_33, t_behind_97_34, t_kind_97_35, t_number_97_36, t_wrong_97_37, t_wrongAt_97_38, h97_38, hF⟩ := bnd6E hF
            refine wrVM (As := [.int r94_31]) (rest := []) (C := RX8) (wn := [(a_t, .inr (8, [v_t_a, .ref a_t_fresh, v_t_aside, v_t_kept, .int t_keptMany, .int t_thrown, .ref a_t_buffer, .int t_buffered, .int t_size, .int t_at_97_33, .int t_behind_97_34, .int t_kind_97_35, .int t_number_97_36, .int t_wrong_97_37, .int t_wrongAt_97_38, .int t_errorAt, v_t_moved, .int t_unused, v_t_written, .int t_writtenMany])), (a_t_buffer, .inl (t 0, 900, .inl t_buffer_)), (a_t_fresh, .inl (t 0, 876, .inl t_fresh_78_29))]) ⟨hx, hb, hml, hown, hts⟩ (c_X8_must l D t z x N a_t a_t_buffer v_t_a (.ref a_t_fresh) v_t_aside v_t_kept v_t_moved v_t_written t_keptMany t_thrown t_buffered t_size t_at_78_23 t_behind_78_24 t_kind_78_25 t_number_78_26 t_wrong_78_27 t_wrongAt_78_28 t_errorAt t_unused t_writtenMany t_buffer_ r94_31 H.size t_at_97_33 t_behind_97_34 t_kind_97_35 t_number_97_36 t_wrong_97_37 t_wrongAt_97_38 h97_38) (cwV 1 hts gX8_readsStatement_X8_must rfl rfl rfl hd_X8_must ⟨Nat.le_of_ble_eq_true rfl, Nat.le_of_ble_eq_true rfl⟩) (hC.at hz hS) hP hD hS hA hz [true, true, false] rfl rfl rfl rfl 0 rfl (show vwCl[8]? = some (RX8, TX8, 20) from rfl) rfl rfl hl.1 rfl (Nat.le_of_ble_eq_true rfl) dX8_readsStatement_97 ⟨Nat.zero_le _, Nat.zero_le _⟩ rfl (fun H locs hP hD hS => ?_)
            cases hF
            exact we_vret hx hb hr hlocks dX8_readsStatement_100 rfl hQ hP hD hS
        · have hF := brF c56 hF
          refine lv_aload_n hx hb dX8_readsStatement_59 rfl (lv_at hl 0 rfl) ?_
          refine lv_iconst (v := 2) hx hb dX8_readsStatement_60 (by decide) ?_
          obtain ⟨t_at_61_40, t_behind_61_41, t_kind_61_42, t_number_61_43, t_wrong_61_44, t_wrongAt_61_45, t_fresh_61_46, h61_46, hF⟩ := bnd7E hF
          refine wrVM (As := [.int 2]) (rest := []) (C := RX8) (wn := [(a_t, .inr (8, [v_t_a, .ref a_t_fresh, v_t_aside, v_t_kept, .int t_keptMany, .int t_thrown, .ref a_t_buffer, .int t_buffered, .int t_size, .int t_at_61_40, .int t_behind_61_41, .int t_kind_61_42, .int t_number_61_43, .int t_wrong_61_44, .int t_wrongAt_61_45, .int t_errorAt, v_t_moved, .int t_unused, v_t_written, .int t_writtenMany])), (a_t_buffer, .inl (t 0, 900, .inl t_buffer_)), (a_t_fresh, .inl (t 0, 876, .inl t_fresh_61_46))]) ⟨hx, hb, hml, hown, hts⟩ (c_X8_readsSetting l D t z x N a_t a_t_buffer a_t_fresh v_t_a v_t_aside v_t_kept v_t_moved v_t_written t_keptMany t_thrown t_buffered t_size t_at t_behind t_kind t_number t_wrong t_wrongAt t_errorAt t_unused t_writtenMany t_buffer_ t_fresh_ 2 H.size t_at_61_40 t_behind_61_41 t_kind_61_42 t_number_61_43 t_wrong_61_44 t_wrongAt_61_45 t_fresh_61_46 h61_46) (cwV 1 hts gX8_readsStatement_X8_readsSetting rfl rfl rfl hd_X8_readsSetting ⟨Nat.le_of_ble_eq_true rfl, Nat.le_of_ble_eq_true rfl⟩) (hC.at hz hS) hP hD hS hA hz [true, true, true] rfl rfl rfl rfl 0 rfl (show vwCl[8]? = some (RX8, TX8, 20) from rfl) rfl rfl hl.1 rfl (Nat.le_of_ble_eq_true rfl) dX8_readsStatement_61 ⟨Nat.zero_le _, Nat.zero_le _⟩ rfl (fun H locs hP hD hS => ?_)
          refine lv_goto (tgt := 90) hx hb dX8_readsStatement_64 (by decide) ?_
          refine lv_aload_n hx hb dX8_readsStatement_90 rfl (lv_at hl 0 rfl) ?_
          refine lv_aload_n hx hb dX8_readsStatement_91 rfl (lv_at hl 0 rfl) ?_
          refine lv_bipush (v := 59) hx hb dX8_readsStatement_92 (by decide) ?_
          obtain ⟨r94_48, h94_48, hF⟩ := bndE hF
          refine rdV (As := [.int 59]) (rest := [.ref a_t]) (C := RX8) ⟨hx, hb, hml, hown, hts⟩ (c_X8_isSign l D t z x a_t a_t_buffer v_t_a (.ref a_t_fresh) v_t_aside v_t_kept v_t_moved v_t_written t_keptMany t_thrown t_buffered t_size t_at_61_40 t_behind_61_41 t_kind_61_42 t_number_61_43 t_wrong_61_44 t_wrongAt_61_45 t_errorAt t_unused t_writtenMany t_buffer_ 59 H r94_48 h94_48) (cwV 1 hts gX8_readsStatement_X8_isSign rfl rfl rfl hd_X8_isSign ⟨Nat.le_of_ble_eq_true rfl, Nat.le_of_ble_eq_true rfl⟩) (hC.at hz hS) (selP (m9 := [true, true, false]) rfl rfl hP) 0 rfl (show vwCl[8]? = some (RX8, TX8, 20) from rfl) rfl rfl hl.1 rfl (Nat.le_of_ble_eq_true rfl) dX8_readsStatement_94 ⟨Nat.zero_le _, Nat.zero_le _⟩ rfl ?_
          obtain ⟨t_at_97_50, t_behind_97_51, t_kind_97_52, t_number_97_53, t_wrong_97_54, t_wrongAt_97_55, h97_55, hF⟩ := bnd6E hF
          refine wrVM (As := [.int r94_48]) (rest := []) (C := RX8) (wn := [(a_t, .inr (8, [v_t_a, .ref a_t_fresh, v_t_aside, v_t_kept, .int t_keptMany, .int t_thrown, .ref a_t_buffer, .int t_buffered, .int t_size, .int t_at_97_50, .int t_behind_97_51, .int t_kind_97_52, .int t_number_97_53, .int t_wrong_97_54, .int t_wrongAt_97_55, .int t_errorAt, v_t_moved, .int t_unused, v_t_written, .int t_writtenMany])), (a_t_buffer, .inl (t 0, 900, .inl t_buffer_)), (a_t_fresh, .inl (t 0, 876, .inl t_fresh_61_46))]) ⟨hx, hb, hml, hown, hts⟩ (c_X8_must l D t z x N a_t a_t_buffer v_t_a (.ref a_t_fresh) v_t_aside v_t_kept v_t_moved v_t_written t_keptMany t_thrown t_buffered t_size t_at_61_40 t_behind_61_41 t_kind_61_42 t_number_61_43 t_wrong_61_44 t_wrongAt_61_45 t_errorAt t_unused t_writtenMany t_buffer_ r94_48 H.size t_at_97_50 t_behind_97_51 t_kind_97_52 t_number_97_53 t_wrong_97_54 t_wrongAt_97_55 h97_55) (cwV 1 hts gX8_readsStatement_X8_must rfl rfl rfl hd_X8_must ⟨Nat.le_of_ble_eq_true rfl, Nat.le_of_ble_eq_true rfl⟩) (hC.at hz hS) hP hD hS hA hz [true, true, false] rfl rfl rfl rfl 0 rfl (show vwCl[8]? = some (RX8, TX8, 20) from rfl) rfl rfl hl.1 rfl (Nat.le_of_ble_eq_true rfl) dX8_readsStatement_97 ⟨Nat.zero_le _, Nat.zero_le _⟩ rfl (fun H locs hP hD hS => ?_)
          cases hF
          exact we_vret hx hb hr hlocks dX8_readsStatement_100 rfl hQ hP hD hS
      · have hF := brF c39 hF
        refine lv_aload_n hx hb dX8_readsStatement_42 rfl (lv_at hl 0 rfl) ?_
        refine lv_iconst (v := 1) hx hb dX8_readsStatement_43 (by decide) ?_
        obtain ⟨t_at_44_57, t_behind_44_58, t_kind_44_59, t_number_44_60, t_wrong_44_61, t_wrongAt_44_62, t_fresh_44_63, h44_63, hF⟩ := bnd7E hF
        refine wrVM (As := [.int 1]) (rest := []) (C := RX8) (wn := [(a_t, .inr (8, [v_t_a, .ref a_t_fresh, v_t_aside, v_t_kept, .int t_keptMany, .int t_thrown, .ref a_t_buffer, .int t_buffered, .int t_size, .int t_at_44_57, .int t_behind_44_58, .int t_kind_44_59, .int t_number_44_60, .int t_wrong_44_61, .int t_wrongAt_44_62, .int t_errorAt, v_t_moved, .int t_unused, v_t_written, .int t_writtenMany])), (a_t_buffer, .inl (t 0, 900, .inl t_buffer_)), (a_t_fresh, .inl (t 0, 876, .inl t_fresh_44_63))]) ⟨hx, hb, hml, hown, hts⟩ (c_X8_readsSetting l D t z x N a_t a_t_buffer a_t_fresh v_t_a v_t_aside v_t_kept v_t_moved v_t_written t_keptMany t_thrown t_buffered t_size t_at t_behind t_kind t_number t_wrong t_wrongAt t_errorAt t_unused t_writtenMany t_buffer_ t_fresh_ 1 H.size t_at_44_57 t_behind_44_58 t_kind_44_59 t_number_44_60 t_wrong_44_61 t_wrongAt_44_62 t_fresh_44_63 h44_63) (cwV 1 hts gX8_readsStatement_X8_readsSetting rfl rfl rfl hd_X8_readsSetting ⟨Nat.le_of_ble_eq_true rfl, Nat.le_of_ble_eq_true rfl⟩) (hC.at hz hS) hP hD hS hA hz [true, true, true] rfl rfl rfl rfl 0 rfl (show vwCl[8]? = some (RX8, TX8, 20) from rfl) rfl rfl hl.1 rfl (Nat.le_of_ble_eq_true rfl) dX8_readsStatement_44 ⟨Nat.zero_le _, Nat.zero_le _⟩ rfl (fun H locs hP hD hS => ?_)
        refine lv_goto (tgt := 90) hx hb dX8_readsStatement_47 (by decide) ?_
        refine lv_aload_n hx hb dX8_readsStatement_90 rfl (lv_at hl 0 rfl) ?_
        refine lv_aload_n hx hb dX8_readsStatement_91 rfl (lv_at hl 0 rfl) ?_
        refine lv_bipush (v := 59) hx hb dX8_readsStatement_92 (by decide) ?_
        obtain ⟨r94_65, h94_65, hF⟩ := bndE hF
        refine rdV (As := [.int 59]) (rest := [.ref a_t]) (C := RX8) ⟨hx, hb, hml, hown, hts⟩ (c_X8_isSign l D t z x a_t a_t_buffer v_t_a (.ref a_t_fresh) v_t_aside v_t_kept v_t_moved v_t_written t_keptMany t_thrown t_buffered t_size t_at_44_57 t_behind_44_58 t_kind_44_59 t_number_44_60 t_wrong_44_61 t_wrongAt_44_62 t_errorAt t_unused t_writtenMany t_buffer_ 59 H r94_65 h94_65) (cwV 1 hts gX8_readsStatement_X8_isSign rfl rfl rfl hd_X8_isSign ⟨Nat.le_of_ble_eq_true rfl, Nat.le_of_ble_eq_true rfl⟩) (hC.at hz hS) (selP (m9 := [true, true, false]) rfl rfl hP) 0 rfl (show vwCl[8]? = some (RX8, TX8, 20) from rfl) rfl rfl hl.1 rfl (Nat.le_of_ble_eq_true rfl) dX8_readsStatement_94 ⟨Nat.zero_le _, Nat.zero_le _⟩ rfl ?_
        obtain ⟨t_at_97_67, t_behind_97_68, t_kind_97_69, t_number_97_70, t_wrong_97_71, t_wrongAt_97_72, h97_72, hF⟩ := bnd6E hF
        refine wrVM (As := [.int r94_65]) (rest := []) (C := RX8) (wn := [(a_t, .inr (8, [v_t_a, .ref a_t_fresh, v_t_aside, v_t_kept, .int t_keptMany, .int t_thrown, .ref a_t_buffer, .int t_buffered, .int t_size, .int t_at_97_67, .int t_behind_97_68, .int t_kind_97_69, .int t_number_97_70, .int t_wrong_97_71, .int t_wrongAt_97_72, .int t_errorAt, v_t_moved, .int t_unused, v_t_written, .int t_writtenMany])), (a_t_buffer, .inl (t 0, 900, .inl t_buffer_)), (a_t_fresh, .inl (t 0, 876, .inl t_fresh_44_63))]) ⟨hx, hb, hml, hown, hts⟩ (c_X8_must l D t z x N a_t a_t_buffer v_t_a (.ref a_t_fresh) v_t_aside v_t_kept v_t_moved v_t_written t_keptMany t_thrown t_buffered t_size t_at_44_57 t_behind_44_58 t_kind_44_59 t_number_44_60 t_wrong_44_61 t_wrongAt_44_62 t_errorAt t_unused t_writtenMany t_buffer_ r94_65 H.size t_at_97_67 t_behind_97_68 t_kind_97_69 t_number_97_70 t_wrong_97_71 t_wrongAt_97_72 h97_72) (cwV 1 hts gX8_readsStatement_X8_must rfl rfl rfl hd_X8_must ⟨Nat.le_of_ble_eq_true rfl, Nat.le_of_ble_eq_true rfl⟩) (hC.at hz hS) hP hD hS hA hz [true, true, false] rfl rfl rfl rfl 0 rfl (show vwCl[8]? = some (RX8, TX8, 20) from rfl) rfl rfl hl.1 rfl (Nat.le_of_ble_eq_true rfl) dX8_readsStatement_97 ⟨Nat.zero_le _, Nat.zero_le _⟩ rfl (fun H locs hP hD hS => ?_)
        cases hF
        exact we_vret hx hb hr hlocks dX8_readsStatement_100 rfl hQ hP hD hS
    · have hF := brF c22 hF
      refine lv_aload_n hx hb dX8_readsStatement_25 rfl (lv_at hl 0 rfl) ?_
      refine lv_iconst (v := 0) hx hb dX8_readsStatement_26 (by decide) ?_
      obtain ⟨t_at_27_74, t_behind_27_75, t_kind_27_76, t_number_27_77, t_wrong_27_78, t_wrongAt_27_79, t_fresh_27_80, h27_80, hF⟩ := bnd7E hF
      refine wrVM (As := [.int 0]) (rest := []) (C := RX8) (wn := [(a_t, .inr (8, [v_t_a, .ref a_t_fresh, v_t_aside, v_t_kept, .int t_keptMany, .int t_thrown, .ref a_t_buffer, .int t_buffered, .int t_size, .int t_at_27_74, .int t_behind_27_75, .int t_kind_27_76, .int t_number_27_77, .int t_wrong_27_78, .int t_wrongAt_27_79, .int t_errorAt, v_t_moved, .int t_unused, v_t_written, .int t_writtenMany])), (a_t_buffer, .inl (t 0, 900, .inl t_buffer_)), (a_t_fresh, .inl (t 0, 876, .inl t_fresh_27_80))]) ⟨hx, hb, hml, hown, hts⟩ (c_X8_readsSetting l D t z x N a_t a_t_buffer a_t_fresh v_t_a v_t_aside v_t_kept v_t_moved v_t_written t_keptMany t_thrown t_buffered t_size t_at t_behind t_kind t_number t_wrong t_wrongAt t_errorAt t_unused t_writtenMany t_buffer_ t_fresh_ 0 H.size t_at_27_74 t_behind_27_75 t_kind_27_76 t_number_27_77 t_wrong_27_78 t_wrongAt_27_79 t_fresh_27_80 h27_80) (cwV 1 hts gX8_readsStatement_X8_readsSetting rfl rfl rfl hd_X8_readsSetting ⟨Nat.le_of_ble_eq_true rfl, Nat.le_of_ble_eq_true rfl⟩) (hC.at hz hS) hP hD hS hA hz [true, true, true] rfl rfl rfl rfl 0 rfl (show vwCl[8]? = some (RX8, TX8, 20) from rfl) rfl rfl hl.1 rfl (Nat.le_of_ble_eq_true rfl) dX8_readsStatement_27 ⟨Nat.zero_le _, Nat.zero_le _⟩ rfl (fun H locs hP hD hS => ?_)
      refine lv_goto (tgt := 90) hx hb dX8_readsStatement_30 (by decide) ?_
      refine lv_aload_n hx hb dX8_readsStatement_90 rfl (lv_at hl 0 rfl) ?_
      refine lv_aload_n hx hb dX8_readsStatement_91 rfl (lv_at hl 0 rfl) ?_
      refine lv_bipush (v := 59) hx hb dX8_readsStatement_92 (by decide) ?_
      obtain ⟨r94_82, h94_82, hF⟩ := bndE hF
      refine rdV (As := [.int 59]) (rest := [.ref a_t]) (C := RX8) ⟨hx, hb, hml, hown, hts⟩ (c_X8_isSign l D t z x a_t a_t_buffer v_t_a (.ref a_t_fresh) v_t_aside v_t_kept v_t_moved v_t_written t_keptMany t_thrown t_buffered t_size t_at_27_74 t_behind_27_75 t_kind_27_76 t_number_27_77 t_wrong_27_78 t_wrongAt_27_79 t_errorAt t_unused t_writtenMany t_buffer_ 59 H r94_82 h94_82) (cwV 1 hts gX8_readsStatement_X8_isSign rfl rfl rfl hd_X8_isSign ⟨Nat.le_of_ble_eq_true rfl, Nat.le_of_ble_eq_true rfl⟩) (hC.at hz hS) (selP (m9 := [true, true, false]) rfl rfl hP) 0 rfl (show vwCl[8]? = some (RX8, TX8, 20) from rfl) rfl rfl hl.1 rfl (Nat.le_of_ble_eq_true rfl) dX8_readsStatement_94 ⟨Nat.zero_le _, Nat.zero_le _⟩ rfl ?_
      obtain ⟨t_at_97_84, t_behind_97_85, t_kind_97_86, t_number_97_87, t_wrong_97_88, t_wrongAt_97_89, h97_89, hF⟩ := bnd6E hF
      refine wrVM (As := [.int r94_82]) (rest := []) (C := RX8) (wn := [(a_t, .inr (8, [v_t_a, .ref a_t_fresh, v_t_aside, v_t_kept, .int t_keptMany, .int t_thrown, .ref a_t_buffer, .int t_buffered, .int t_size, .int t_at_97_84, .int t_behind_97_85, .int t_kind_97_86, .int t_number_97_87, .int t_wrong_97_88, .int t_wrongAt_97_89, .int t_errorAt, v_t_moved, .int t_unused, v_t_written, .int t_writtenMany])), (a_t_buffer, .inl (t 0, 900, .inl t_buffer_)), (a_t_fresh, .inl (t 0, 876, .inl t_fresh_27_80))]) ⟨hx, hb, hml, hown, hts⟩ (c_X8_must l D t z x N a_t a_t_buffer v_t_a (.ref a_t_fresh) v_t_aside v_t_kept v_t_moved v_t_written t_keptMany t_thrown t_buffered t_size t_at_27_74 t_behind_27_75 t_kind_27_76 t_number_27_77 t_wrong_27_78 t_wrongAt_27_79 t_errorAt t_unused t_writtenMany t_buffer_ r94_82 H.size t_at_97_84 t_behind_97_85 t_kind_97_86 t_number_97_87 t_wrong_97_88 t_wrongAt_97_89 h97_89) (cwV 1 hts gX8_readsStatement_X8_must rfl rfl rfl hd_X8_must ⟨Nat.le_of_ble_eq_true rfl, Nat.le_of_ble_eq_true rfl⟩) (hC.at hz hS) hP hD hS hA hz [true, true, false] rfl rfl rfl rfl 0 rfl (show vwCl[8]? = some (RX8, TX8, 20) from rfl) rfl rfl hl.1 rfl (Nat.le_of_ble_eq_true rfl) dX8_readsStatement_97 ⟨Nat.zero_le _, Nat.zero_le _⟩ rfl (fun H locs hP hD hS => ?_)
      cases hF
      exact we_vret hx hb hr hlocks dX8_readsStatement_100 rfl hQ hP hD hS
  · have hF := brF c6 hF
    refine lv_aload_n hx hb dX8_readsStatement_9 rfl (lv_at hl 0 rfl) ?_
    obtain ⟨t_at_10_91, t_behind_10_92, t_kind_10_93, t_number_10_94, t_wrong_10_95, t_wrongAt_10_96, t_fresh_10_97, h10_97, hF⟩ := bnd7E hF
    refine wrVM (As := []) (rest := []) (C := RX8) (wn := [(a_t, .inr (8, [v_t_a, .ref a_t_fresh, v_t_aside, v_t_kept, .int t_keptMany, .int t_thrown, .ref a_t_buffer, .int t_buffered, .int t_size, .int t_at_10_91, .int t_behind_10_92, .int t_kind_10_93, .int t_number_10_94, .int t_wrong_10_95, .int t_wrongAt_10_96, .int t_errorAt, v_t_moved, .int t_unused, v_t_written, .int t_writtenMany])), (a_t_buffer, .inl (t 0, 900, .inl t_buffer_)), (a_t_fresh, .inl (t 0, 876, .inl t_fresh_10_97))]) ⟨hx, hb, hml, hown, hts⟩ (c_X8_readsRow l D t z x N a_t a_t_buffer a_t_fresh v_t_a v_t_aside v_t_kept v_t_moved v_t_written t_keptMany t_thrown t_buffered t_size t_at t_behind t_kind t_number t_wrong t_wrongAt t_errorAt t_unused t_writtenMany t_buffer_ t_fresh_ H.size t_at_10_91 t_behind_10_92 t_kind_10_93 t_number_10_94 t_wrong_10_95 t_wrongAt_10_96 t_fresh_10_97 h10_97) (cwV 0 hts gX8_readsStatement_X8_readsRow rfl rfl rfl hd_X8_readsRow ⟨Nat.le_of_ble_eq_true rfl, Nat.le_of_ble_eq_true rfl⟩) (hC.at hz hS) hP hD hS hA hz [true, true, true] rfl rfl rfl rfl 0 rfl (show vwCl[8]? = some (RX8, TX8, 20) from rfl) rfl rfl hl.1 rfl (Nat.le_of_ble_eq_true rfl) dX8_readsStatement_10 ⟨Nat.zero_le _, Nat.zero_le _⟩ rfl (fun H locs hP hD hS => ?_)
    refine lv_goto (tgt := 90) hx hb dX8_readsStatement_13 (by decide) ?_
    refine lv_aload_n hx hb dX8_readsStatement_90 rfl (lv_at hl 0 rfl) ?_
    refine lv_aload_n hx hb dX8_readsStatement_91 rfl (lv_at hl 0 rfl) ?_
    refine lv_bipush (v := 59) hx hb dX8_readsStatement_92 (by decide) ?_
    obtain ⟨r94_99, h94_99, hF⟩ := bndE hF
    refine rdV (As := [.int 59]) (rest := [.ref a_t]) (C := RX8) ⟨hx, hb, hml, hown, hts⟩ (c_X8_isSign l D t z x a_t a_t_buffer v_t_a (.ref a_t_fresh) v_t_aside v_t_kept v_t_moved v_t_written t_keptMany t_thrown t_buffered t_size t_at_10_91 t_behind_10_92 t_kind_10_93 t_number_10_94 t_wrong_10_95 t_wrongAt_10_96 t_errorAt t_unused t_writtenMany t_buffer_ 59 H r94_99 h94_99) (cwV 1 hts gX8_readsStatement_X8_isSign rfl rfl rfl hd_X8_isSign ⟨Nat.le_of_ble_eq_true rfl, Nat.le_of_ble_eq_true rfl⟩) (hC.at hz hS) (selP (m9 := [true, true, false]) rfl rfl hP) 0 rfl (show vwCl[8]? = some (RX8, TX8, 20) from rfl) rfl rfl hl.1 rfl (Nat.le_of_ble_eq_true rfl) dX8_readsStatement_94 ⟨Nat.zero_le _, Nat.zero_le _⟩ rfl ?_
    obtain ⟨t_at_97_101, t_behind_97_102, t_kind_97_103, t_number_97_104, t_wrong_97_105, t_wrongAt_97_106, h97_106, hF⟩ := bnd6E hF
    refine wrVM (As := [.int r94_99]) (rest := []) (C := RX8) (wn := [(a_t, .inr (8, [v_t_a, .ref a_t_fresh, v_t_aside, v_t_kept, .int t_keptMany, .int t_thrown, .ref a_t_buffer, .int t_buffered, .int t_size, .int t_at_97_101, .int t_behind_97_102, .int t_kind_97_103, .int t_number_97_104, .int t_wrong_97_105, .int t_wrongAt_97_106, .int t_errorAt, v_t_moved, .int t_unused, v_t_written, .int t_writtenMany])), (a_t_buffer, .inl (t 0, 900, .inl t_buffer_)), (a_t_fresh, .inl (t 0, 876, .inl t_fresh_10_97))]) ⟨hx, hb, hml, hown, hts⟩ (c_X8_must l D t z x N a_t a_t_buffer v_t_a (.ref a_t_fresh) v_t_aside v_t_kept v_t_moved v_t_written t_keptMany t_thrown t_buffered t_size t_at_10_91 t_behind_10_92 t_kind_10_93 t_number_10_94 t_wrong_10_95 t_wrongAt_10_96 t_errorAt t_unused t_writtenMany t_buffer_ r94_99 H.size t_at_97_101 t_behind_97_102 t_kind_97_103 t_number_97_104 t_wrong_97_105 t_wrongAt_97_106 h97_106) (cwV 1 hts gX8_readsStatement_X8_must rfl rfl rfl hd_X8_must ⟨Nat.le_of_ble_eq_true rfl, Nat.le_of_ble_eq_true rfl⟩) (hC.at hz hS) hP hD hS hA hz [true, true, false] rfl rfl rfl rfl 0 rfl (show vwCl[8]? = some (RX8, TX8, 20) from rfl) rfl rfl hl.1 rfl (Nat.le_of_ble_eq_true rfl) dX8_readsStatement_97 ⟨Nat.zero_le _, Nat.zero_le _⟩ rfl (fun H locs hP hD hS => ?_)
    cases hF
    exact we_vret hx hb hr hlocks dX8_readsStatement_100 rfl hQ hP hD hS
abbrev rm_X8_load : Room := { frames := 6, cells := 0, slots := 0, locals := 129 }
theorem hd_X8_load : yX8_load.cls = RX8 ∧ yX8_load.cls ≠ "java/lang/invoke/MethodHandle" ∧ yX8_load.cls ≠ "java/lang/invoke/VarHandle" ∧ (parseMethodDescriptor yX8_load.desc).map (fun d => d.parameters.length) = some 1 := by decide +kernel
set_option maxRecDepth 100000 in
set_option maxHeartbeats 4000000 in
theorem c_X8_load (l : Launch) (D : va_G) (t : Nat → ClassId) (z : Nat) (x : Nat → Nat) (N : Nat) (a_t : Nat) (a_t_a : Nat) (a_t_buffer : Nat) (a_t_fresh : Nat) (a_t_kept : Nat) (v_t_aside : Value) (v_t_moved : Value) (v_t_written : Value) (t_keptMany : Int32) (t_thrown : Int32) (t_buffered : Int32) (t_size : Int32) (t_at : Int32) (t_behind : Int32) (t_kind : Int32) (t_number : Int32) (t_wrong : Int32) (t_wrongAt : Int32) (t_errorAt : Int32) (t_unused : Int32) (t_writtenMany : Int32) (t_a_ : (Nat → Int32)) (t_buffer_ : (Nat → Int32)) (t_fresh_ : (Nat → Int32)) (t_kept_ : (Nat → Int32)) (p1 : Int32) (sz : Nat) (r : Int32) (t_keptMany' : Int32) (t_thrown' : Int32) (t_buffered' : Int32) (t_size' : Int32) (t_at' : Int32) (t_behind' : Int32) (t_kind' : Int32) (t_number' : Int32) (t_wrong' : Int32) (t_wrongAt' : Int32) (t_errorAt' : Int32) (t_a_' : (Nat → Int32)) (t_fresh_' : (Nat → Int32)) (t_kept_' : (Nat → Int32)) (hF : f_X8_load N t_keptMany t_buffered t_size t_at t_behind t_kind t_number t_wrong t_wrongAt t_errorAt t_a_ t_buffer_ t_fresh_ t_kept_ p1 = some (r, t_keptMany', t_thrown', t_buffered', t_size', t_at', t_behind', t_kind', t_number', t_wrong', t_wrongAt', t_errorAt', t_a_', t_fresh_', t_kept_')) : WrM l D (TY t) z x yX8_load wsX8_load rm_X8_load [.ref a_t, .int p1] [(a_t, .inr (8, [.ref a_t_a, .ref a_t_fresh, v_t_aside, .ref a_t_kept, .int t_keptMany, .int t_thrown, .ref a_t_buffer, .int t_buffered, .int t_size, .int t_at, .int t_behind, .int t_kind, .int t_number, .int t_wrong, .int t_wrongAt, .int t_errorAt, v_t_moved, .int t_unused, v_t_written, .int t_writtenMany])), (a_t_a, .inl (t 0, 876, .inl t_a_)), (a_t_buffer, .inl (t 0, 900, .inl t_buffer_)), (a_t_fresh, .inl (t 0, 876, .inl t_fresh_)), (a_t_kept, .inl (t 0, 7008, .inl t_kept_))] [(a_t, .inr (8, [.ref a_t_a, .ref a_t_fresh, v_t_aside, .ref a_t_kept, .int t_keptMany', .int t_thrown', .ref a_t_buffer, .int t_buffered', .int t_size', .int t_at', .int t_behind', .int t_kind', .int t_number', .int t_wrong', .int t_wrongAt', .int t_errorAt', v_t_moved, .int t_unused, v_t_written, .int t_writtenMany])), (a_t_a, .inl (t 0, 876, .inl t_a_')), (a_t_buffer, .inl (t 0, 900, .inl t_buffer_)), (a_t_fresh, .inl (t 0, 876, .inl t_fresh_')), (a_t_kept, .inl (t 0, 7008, .inl t_kept_'))] sz (some (.int r)) 0 0 := by
  obtain ⟨T9, hT⟩ : ∃ T9, T9 = (r, t_keptMany', t_thrown', t_buffered', t_size', t_at', t_behind', t_kind', t_number', t_wrong', t_wrongAt', t_errorAt', t_a_', t_fresh_', t_kept_') := ⟨_, rfl⟩
  rw [← hT] at hF
  obtain rfl : r = T9.1 := by rw [hT]
  obtain rfl : t_keptMany' = T9.2.1 := by rw [hT]
  obtain rfl : t_thrown' = T9.2.2.1 := by rw [hT]
  obtain rfl : t_buffered' = T9.2.2.2.1 := by rw [hT]
  obtain rfl : t_size' = T9.2.2.2.2.1 := by rw [hT]
  obtain rfl : t_at' = T9.2.2.2.2.2.1 := by rw [hT]
  obtain rfl : t_behind' = T9.2.2.2.2.2.2.1 := by rw [hT]
  obtain rfl : t_kind' = T9.2.2.2.2.2.2.2.1 := by rw [hT]
  obtain rfl : t_number' = T9.2.2.2.2.2.2.2.2.1 := by rw [hT]
  obtain rfl : t_wrong' = T9.2.2.2.2.2.2.2.2.2.1 := by rw [hT]
  obtain rfl : t_wrongAt' = T9.2.2.2.2.2.2.2.2.2.2.1 := by rw [hT]
  obtain rfl : t_errorAt' = T9.2.2.2.2.2.2.2.2.2.2.2.1 := by rw [hT]
  obtain rfl : t_a_' = T9.2.2.2.2.2.2.2.2.2.2.2.2.1 := by rw [hT]
  obtain rfl : t_fresh_' = T9.2.2.2.2.2.2.2.2.2.2.2.2.2.1 := by rw [hT]
  obtain rfl : t_kept_' = T9.2.2.2.2.2.2.2.2.2.2.2.2.2.2 := by rw [hT]
  clear hT
  refine wr_of (cc := cX8_load) (maxL := 2) (ret := (some .int)) (by decide) rfl (Nat.le_of_ble_eq_true rfl) ?_
  intro p e s m args below meth c A Q hQ hx hb hr hml hts hown hlocks hin H locs hP hD hS hA hz hC ls hl
  have hown : s.vm.findClass RX8 = some m.cls := hown
  have hl : lv_has ls 2 [(0, .ref a_t), (1, .int p1)] := hl
  have hK := hC.1
  have iw8 : ∀ w ∈ wsX80, w ∈ wsX8_load := fun _ h => List.mem_cons_of_mem _ (List.mem_append_right _ h)
  have hf7 := hts (.fieldLink RX8 7 "CrackedColumnModel" "a" "[I") (by decide +kernel)
  have hf13 := hts (.fieldLink RX8 13 "CrackedColumnModel" "fresh" "[I") (by decide +kernel)
  have hf25 := hts (.fieldLink RX8 25 "CrackedColumnModel" "errorAt" "I") (by decide +kernel)
  have hf45 := hts (.fieldLink RX8 45 "CrackedColumnModel" "thrown" "I") (by decide +kernel)
  have hf51 := hts (.fieldLink RX8 51 "CrackedColumnModel" "buffered" "I") (by decide +kernel)
  have hf54 := hts (.fieldLink RX8 54 "CrackedColumnModel" "size" "I") (by decide +kernel)
  have hf61 := hts (.fieldLink RX8 61 "CrackedColumnModel" "behind" "I") (by decide +kernel)
  have hf71 := hts (.fieldLink RX8 71 "CrackedColumnModel" "kind" "I") (by decide +kernel)
  have hf85 := hts (.fieldLink RX8 85 "CrackedColumnModel" "wrong" "I") (by decide +kernel)
  have hf98 := hts (.fieldLink RX8 98 "CrackedColumnModel" "wrongAt" "I") (by decide +kernel)
  unfold f_X8_load at hF
  refine lv_aload_n hx hb dX8_load_0 rfl (lv_at hl 0 rfl) ?_
  refine lv_iload_n hx hb dX8_load_1 rfl (lv_at hl 1 rfl) ?_
  refine lv_iconst (v := 0) hx hb dX8_load_2 (by decide) ?_
  refine lv_aload_n hx hb dX8_load_3 rfl (lv_at hl 0 rfl) ?_
  refine va_get (D := D) (ci := 8) (v := .int t_buffered) (C := RX8) (T := TX8) (N := 20) hx hb hts iw8 hown hK hP 0 rfl rfl 7 (by decide) hf51 (fun _ h9 => h9) rfl dX8_load_4 ?_
  obtain ⟨r7_1, h7_1, hF⟩ := bndE hF
  refine rdS (As := [.int p1, .int 0, .int t_buffered]) (rest := [.ref a_t]) ⟨hx, hb, hml, hown, hts⟩ (c_X8_isIn l D t z x p1 0 t_buffered H r7_1 h7_1) (va_cwS 3 hts gX8_load_X8_isIn rfl rfl rfl hd_X8_isIn.2 ⟨Nat.le_of_ble_eq_true rfl, Nat.le_of_ble_eq_true rfl⟩) (hC.at hz hS) (selP (m9 := [false, false, false, false, false]) rfl rfl hP) rfl hl.1 rfl (Nat.le_of_ble_eq_true rfl) dX8_load_7 ⟨Nat.zero_le _, Nat.zero_le _⟩ rfl ?_
  obtain ⟨k18_4, ek18_4, hF⟩ := jnE hF
  have hk18_4 : ∀ (s0_18_3 : Int32) (H : Heap) (locs : List Loc) (ls : Array Slot), va_P D vwCl [(a_t, .inr (8, [.ref a_t_a, .ref a_t_fresh, v_t_aside, .ref a_t_kept, .int t_keptMany, .int t_thrown, .ref a_t_buffer, .int t_buffered, .int t_size, .int t_at, .int t_behind, .int t_kind, .int t_number, .int t_wrong, .int t_wrongAt, .int t_errorAt, v_t_moved, .int t_unused, v_t_written, .int t_writtenMany])), (a_t_a, .inl (t 0, 876, .inl t_a_)), (a_t_buffer, .inl (t 0, 900, .inl t_buffer_)), (a_t_fresh, .inl (t 0, 876, .inl t_fresh_)), (a_t_kept, .inl (t 0, 7008, .inl t_kept_))] H → va_D A [(a_t, .inr (8, [.ref a_t_a, .ref a_t_fresh, v_t_aside, .ref a_t_kept, .int t_keptMany, .int t_thrown, .ref a_t_buffer, .int t_buffered, .int t_size, .int t_at, .int t_behind, .int t_kind, .int t_number, .int t_wrong, .int t_wrongAt, .int t_errorAt, v_t_moved, .int t_unused, v_t_written, .int t_writtenMany])), (a_t_a, .inl (t 0, 876, .inl t_a_)), (a_t_buffer, .inl (t 0, 900, .inl t_buffer_)), (a_t_fresh, .inl (t 0, 876, .inl t_fresh_)), (a_t_kept, .inl (t 0, 7008, .inl t_kept_))] → va_S A s.heap H locs → lv_has ls 2 [(0, .ref a_t), (1, .int p1)] → k18_4 s0_18_3 = some T9 → W p l e rm_X8_load s m args below meth c H locs 0 0 Q (F0 m 18 ls [.int s0_18_3, .ref a_t]) := by
    subst ek18_4
    intro s0_18_3 H locs ls hP hD hS hl hF
    refine my_put (ty := .int) (v := .int s0_18_3) (ci := 8) (C := RX8) (T := TX8) (N := 20) (wn := [(a_t, .inr (8, [.ref a_t_a, .ref a_t_fresh, v_t_aside, .ref a_t_kept, .int t_keptMany, .int s0_18_3, .ref a_t_buffer, .int t_buffered, .int t_size, .int t_at, .int t_behind, .int t_kind, .int t_number, .int t_wrong, .int t_wrongAt, .int t_errorAt, v_t_moved, .int t_unused, v_t_written, .int t_writtenMany])), (a_t_a, .inl (t 0, 876, .inl t_a_)), (a_t_buffer, .inl (t 0, 900, .inl t_buffer_)), (a_t_fresh, .inl (t 0, 876, .inl t_fresh_)), (a_t_kept, .inl (t 0, 7008, .inl t_kept_))]) hx hb hts iw8 tyX8 tyX8_ok nmX8 hown hK hP hD hS 0 rfl rfl 5 (by decide) hf45 (fun _ h9 => h9) rfl (by decide +kernel) rfl rfl (Nat.le_of_ble_eq_true rfl) rfl dX8_load_18 (fun H locs hP hD hS => ?_)
    refine lv_aload_n hx hb dX8_load_21 rfl (lv_at hl 0 rfl) ?_
    refine va_get (D := D) (ci := 8) (v := .int s0_18_3) (C := RX8) (T := TX8) (N := 20) hx hb hts iw8 hown hK hP 0 rfl rfl 5 (by decide) hf45 (fun _ h9 => h9) rfl dX8_load_22 ?_
    refine lv_if_le (tgt := 30) hx hb dX8_load_25 (by decide) (fun c25 => ?_) (fun c25 => ?_)
    · have hF := brT c25 hF
      refine lv_aload_n hx hb dX8_load_30 rfl (lv_at hl 0 rfl) ?_
      refine lv_iload_n hx hb dX8_load_31 rfl (lv_at hl 1 rfl) ?_
      refine my_put (ty := .int) (v := .int p1) (ci := 8) (C := RX8) (T := TX8) (N := 20) (wn := [(a_t, .inr (8, [.ref a_t_a, .ref a_t_fresh, v_t_aside, .ref a_t_kept, .int t_keptMany, .int s0_18_3, .ref a_t_buffer, .int t_buffered, .int p1, .int t_at, .int t_behind, .int t_kind, .int t_number, .int t_wrong, .int t_wrongAt, .int t_errorAt, v_t_moved, .int t_unused, v_t_written, .int t_writtenMany])), (a_t_a, .inl (t 0, 876, .inl t_a_)), (a_t_buffer, .inl (t 0, 900, .inl t_buffer_)), (a_t_fresh, .inl (t 0, 876, .inl t_fresh_)), (a_t_kept, .inl (t 0, 7008, .inl t_kept_))]) hx hb hts iw8 tyX8 tyX8_ok nmX8 hown hK hP hD hS 0 rfl rfl 8 (by decide) hf54 (fun _ h9 => h9) rfl (by decide +kernel) rfl rfl (Nat.le_of_ble_eq_true rfl) rfl dX8_load_32 (fun H locs hP hD hS => ?_)
      refine lv_aload_n hx hb dX8_load_35 rfl (lv_at hl 0 rfl) ?_
      refine lv_iconst (v := 0) hx hb dX8_load_36 (by decide) ?_
      refine my_put (ty := .int) (v := .int 0) (ci := 8) (C := RX8) (T := TX8) (N := 20) (wn := [(a_t, .inr (8, [.ref a_t_a, .ref a_t_fresh, v_t_aside, .ref a_t_kept, .int t_keptMany, .int s0_18_3, .ref a_t_buffer, .int 0, .int p1, .int t_at, .int t_behind, .int t_kind, .int t_number, .int t_wrong, .int t_wrongAt, .int t_errorAt, v_t_moved, .int t_unused, v_t_written, .int t_writtenMany])), (a_t_a, .inl (t 0, 876, .inl t_a_)), (a_t_buffer, .inl (t 0, 900, .inl t_buffer_)), (a_t_fresh, .inl (t 0, 876, .inl t_fresh_)), (a_t_kept, .inl (t 0, 7008, .inl t_kept_))]) hx hb hts iw8 tyX8 tyX8_ok nmX8 hown hK hP hD hS 0 rfl rfl 7 (by decide) hf51 (fun _ h9 => h9) rfl (by decide +kernel) rfl rfl (Nat.le_of_ble_eq_true rfl) rfl dX8_load_37 (fun H locs hP hD hS => ?_)
      refine lv_aload_n hx hb dX8_load_40 rfl (lv_at hl 0 rfl) ?_
      refine lv_iconst (v := 0) hx hb dX8_load_41 (by decide) ?_
      refine my_put (ty := .int) (v := .int 0) (ci := 8) (C := RX8) (T := TX8) (N := 20) (wn := [(a_t, .inr (8, [.ref a_t_a, .ref a_t_fresh, v_t_aside, .ref a_t_kept, .int t_keptMany, .int s0_18_3, .ref a_t_buffer, .int 0, .int p1, .int t_at, .int 0, .int t_kind, .int t_number, .int t_wrong, .int t_wrongAt, .int t_errorAt, v_t_moved, .int t_unused, v_t_written, .int t_writtenMany])), (a_t_a, .inl (t 0, 876, .inl t_a_)), (a_t_buffer, .inl (t 0, 900, .inl t_buffer_)), (a_t_fresh, .inl (t 0, 876, .inl t_fresh_)), (a_t_kept, .inl (t 0, 7008, .inl t_kept_))]) hx hb hts iw8 tyX8 tyX8_ok nmX8 hown hK hP hD hS 0 rfl rfl 10 (by decide) hf61 (fun _ h9 => h9) rfl (by decide +kernel) rfl rfl (Nat.le_of_ble_eq_true rfl) rfl dX8_load_42 (fun H locs hP hD hS => ?_)
      refine lv_aload_n hx hb dX8_load_45 rfl (lv_at hl 0 rfl) ?_
      refine lv_iconst (v := 0) hx hb dX8_load_46 (by decide) ?_
      refine my_put (ty := .int) (v := .int 0) (ci := 8) (C := RX8) (T := TX8) (N := 20) (wn := [(a_t, .inr (8, [.ref a_t_a, .ref a_t_fresh, v_t_aside, .ref a_t_kept, .int t_keptMany, .int s0_18_3, .ref a_t_buffer, .int 0, .int p1, .int t_at, .int 0, .int t_kind, .int t_number, .int 0, .int t_wrongAt, .int t_errorAt, v_t_moved, .int t_unused, v_t_written, .int t_writtenMany])), (a_t_a, .inl (t 0, 876, .inl t_a_)), (a_t_buffer, .inl (t 0, 900, .inl t_buffer_)), (a_t_fresh, .inl (t 0, 876, .inl t_fresh_)), (a_t_kept, .inl (t 0, 7008, .inl t_kept_))]) hx hb hts iw8 tyX8 tyX8_ok nmX8 hown hK hP hD hS 0 rfl rfl 13 (by decide) hf85 (fun _ h9 => h9) rfl (by decide +kernel) rfl rfl (Nat.le_of_ble_eq_true rfl) rfl dX8_load_47 (fun H locs hP hD hS => ?_)
      refine lv_aload_n hx hb dX8_load_50 rfl (lv_at hl 0 rfl) ?_
      obtain ⟨t_fresh_51_5, h51_5, hF⟩ := bndE hF
      refine wrVM (As := []) (rest := []) (C := RX8) (wn := [(a_t, .inr (8, [.ref a_t_a, .ref a_t_fresh, v_t_aside, .ref a_t_kept, .int t_keptMany, .int s0_18_3, .ref a_t_buffer, .int 0, .int p1, .int t_at, .int 0, .int t_kind, .int t_number, .int 0, .int t_wrongAt, .int t_errorAt, v_t_moved, .int t_unused, v_t_written, .int t_writtenMany])), (a_t_a, .inl (t 0, 876, .inl t_a_)), (a_t_buffer, .inl (t 0, 900, .inl t_buffer_)), (a_t_fresh, .inl (t 0, 876, .inl t_fresh_51_5)), (a_t_kept, .inl (t 0, 7008, .inl t_kept_))]) ⟨hx, hb, hml, hown, hts⟩ (c_X8_begins l D t z x N a_t a_t_fresh (.ref a_t_a) v_t_aside (.ref a_t_kept) (.ref a_t_buffer) v_t_moved v_t_written t_keptMany s0_18_3 0 p1 t_at 0 t_kind t_number 0 t_wrongAt t_errorAt t_unused t_writtenMany t_fresh_ H.size t_fresh_51_5 h51_5) (cwV 0 hts gX8_load_X8_begins rfl rfl rfl hd_X8_begins ⟨Nat.le_of_ble_eq_true rfl, Nat.le_of_ble_eq_true rfl⟩) (hC.at hz hS) hP hD hS hA hz [true, false, false, true, false] rfl rfl rfl rfl 0 rfl (show vwCl[8]? = some (RX8, TX8, 20) from rfl) rfl rfl hl.1 rfl (Nat.le_of_ble_eq_true rfl) dX8_load_51 ⟨Nat.zero_le _, Nat.zero_le _⟩ rfl (fun H locs hP hD hS => ?_)
      refine lv_aload_n hx hb dX8_load_54 rfl (lv_at hl 0 rfl) ?_
      obtain ⟨t_at_55_7, t_behind_55_8, t_kind_55_9, t_number_55_10, h55_10, hF⟩ := bnd4E hF
      refine wrVM (As := []) (rest := []) (C := RX8) (wn := [(a_t, .inr (8, [.ref a_t_a, .ref a_t_fresh, v_t_aside, .ref a_t_kept, .int t_keptMany, .int s0_18_3, .ref a_t_buffer, .int 0, .int p1, .int t_at_55_7, .int t_behind_55_8, .int t_kind_55_9, .int t_number_55_10, .int 0, .int t_wrongAt, .int t_errorAt, v_t_moved, .int t_unused, v_t_written, .int t_writtenMany])), (a_t_a, .inl (t 0, 876, .inl t_a_)), (a_t_buffer, .inl (t 0, 900, .inl t_buffer_)), (a_t_fresh, .inl (t 0, 876, .inl t_fresh_51_5)), (a_t_kept, .inl (t 0, 7008, .inl t_kept_))]) ⟨hx, hb, hml, hown, hts⟩ (c_X8_next l D t z x N a_t a_t_buffer (.ref a_t_a) (.ref a_t_fresh) v_t_aside (.ref a_t_kept) v_t_moved v_t_written t_keptMany s0_18_3 0 p1 t_at 0 t_kind t_number 0 t_wrongAt t_errorAt t_unused t_writtenMany t_buffer_ H.size t_at_55_7 t_behind_55_8 t_kind_55_9 t_number_55_10 h55_10) (cwV 0 hts gX8_load_X8_next rfl rfl rfl hd_X8_next ⟨Nat.le_of_ble_eq_true rfl, Nat.le_of_ble_eq_true rfl⟩) (hC.at hz hS) hP hD hS hA hz [true, false, true, false, false] rfl rfl rfl rfl 0 rfl (show vwCl[8]? = some (RX8, TX8, 20) from rfl) rfl rfl hl.1 rfl (Nat.le_of_ble_eq_true rfl) dX8_load_55 ⟨Nat.zero_le _, Nat.zero_le _⟩ rfl (fun H locs hP hD hS => ?_)
      obtain ⟨k80_19, ek80_19, hF⟩ := jnE hF
      have hk80_19 : ∀ (t_at_80_12 : Int32) (t_behind_80_13 : Int32) (t_kind_80_14 : Int32) (t_number_80_15 : Int32) (t_wrong_80_16 : Int32) (t_wrongAt_80_17 : Int32) (t_fresh_80_18 : (Nat → Int32)) (H : Heap) (locs : List Loc) (ls : Array Slot), va_P D vwCl [(a_t, .inr (8, [.ref a_t_a, .ref a_t_fresh, v_t_aside, .ref a_t_kept, .int t_keptMany, .int s0_18_3, .ref a_t_buffer, .int 0, .int p1, .int t_at_80_12, .int t_behind_80_13, .int t_kind_80_14, .int t_number_80_15, .int t_wrong_80_16, .int t_wrongAt_80_17, .int t_errorAt, v_t_moved, .int t_unused, v_t_written, .int t_writtenMany])), (a_t_a, .inl (t 0, 876, .inl t_a_)), (a_t_buffer, .inl (t 0, 900, .inl t_buffer_)), (a_t_fresh, .inl (t 0, 876, .inl t_fresh_80_18)), (a_t_kept, .inl (t 0, 7008, .inl t_kept_))] H → va_D A [(a_t, .inr (8, [.ref a_t_a, .ref a_t_fresh, v_t_aside, .ref a_t_kept, .int t_keptMany, .int s0_18_3, .ref a_t_buffer, .int 0, .int p1, .int t_at_80_12, .int t_behind_80_13, .int t_kind_80_14, .int t_number_80_15, .int t_wrong_80_16, .int t_wrongAt_80_17, .int t_errorAt, v_t_moved, .int t_unused, v_t_written, .int t_writtenMany])), (a_t_a, .inl (t 0, 876, .inl t_a_)), (a_t_buffer, .inl (t 0, 900, .inl t_buffer_)), (a_t_fresh, .inl (t 0, 876, .inl t_fresh_80_18)), (a_t_kept, .inl (t 0, 7008, .inl t_kept_))] → va_S A s.heap H locs → lv_has ls 2 [(0, .ref a_t)] → k80_19 t_at_80_12 t_behind_80_13 t_kind_80_14 t_number_80_15 t_wrong_80_16 t_wrongAt_80_17 t_fresh_80_18 = some T9 → W p l e rm_X8_load s m args below meth c H locs 0 0 Q (F0 m 80 ls []) := by
        subst ek80_19
        intro t_at_80_12 t_behind_80_13 t_kind_80_14 t_number_80_15 t_wrong_80_16 t_wrongAt_80_17 t_fresh_80_18 H locs ls hP hD hS hl hF
        refine lv_aload_n hx hb dX8_load_80 rfl (lv_at hl 0 rfl) ?_
        refine lv_aload_n hx hb dX8_load_81 rfl (lv_at hl 0 rfl) ?_
        refine va_get (D := D) (ci := 8) (v := .int t_wrong_80_16) (C := RX8) (T := TX8) (N := 20) hx hb hts iw8 hown hK hP 0 rfl rfl 13 (by decide) hf85 (fun _ h9 => h9) rfl dX8_load_82 ?_
        obtain ⟨k96_21, ek96_21, hF⟩ := jnE hF
        have hk96_21 : ∀ (s0_96_20 : Int32) (H : Heap) (locs : List Loc) (ls : Array Slot), va_P D vwCl [(a_t, .inr (8, [.ref a_t_a, .ref a_t_fresh, v_t_aside, .ref a_t_kept, .int t_keptMany, .int s0_18_3, .ref a_t_buffer, .int 0, .int p1, .int t_at_80_12, .int t_behind_80_13, .int t_kind_80_14, .int t_number_80_15, .int t_wrong_80_16, .int t_wrongAt_80_17, .int t_errorAt, v_t_moved, .int t_unused, v_t_written, .int t_writtenMany])), (a_t_a, .inl (t 0, 876, .inl t_a_)), (a_t_buffer, .inl (t 0, 900, .inl t_buffer_)), (a_t_fresh, .inl (t 0, 876, .inl t_fresh_80_18)), (a_t_kept, .inl (t 0, 7008, .inl t_kept_))] H → va_D A [(a_t, .inr (8, [.ref a_t_a, .ref a_t_fresh, v_t_aside, .ref a_t_kept, .int t_keptMany, .int s0_18_3, .ref a_t_buffer, .int 0, .int p1, .int t_at_80_12, .int t_behind_80_13, .int t_kind_80_14, .int t_number_80_15, .int t_wrong_80_16, .int t_wrongAt_80_17, .int t_errorAt, v_t_moved, .int t_unused, v_t_written, .int t_writtenMany])), (a_t_a, .inl (t 0, 876, .inl t_a_)), (a_t_buffer, .inl (t 0, 900, .inl t_buffer_)), (a_t_fresh, .inl (t 0, 876, .inl t_fresh_80_18)), (a_t_kept, .inl (t 0, 7008, .inl t_kept_))] → va_S A s.heap H locs → lv_has ls 2 [(0, .ref a_t)] → k96_21 s0_96_20 = some T9 → W p l e rm_X8_load s m args below meth c H locs 0 0 Q (F0 m 96 ls [.int s0_96_20, .ref a_t]) := by
          subst ek96_21
          intro s0_96_20 H locs ls hP hD hS hl hF
          refine my_put (ty := .int) (v := .int s0_96_20) (ci := 8) (C := RX8) (T := TX8) (N := 20) (wn := [(a_t, .inr (8, [.ref a_t_a, .ref a_t_fresh, v_t_aside, .ref a_t_kept, .int t_keptMany, .int s0_18_3, .ref a_t_buffer, .int 0, .int p1, .int t_at_80_12, .int t_behind_80_13, .int t_kind_80_14, .int t_number_80_15, .int t_wrong_80_16, .int t_wrongAt_80_17, .int s0_96_20, v_t_moved, .int t_unused, v_t_written, .int t_writtenMany])), (a_t_a, .inl (t 0, 876, .inl t_a_)), (a_t_buffer, .inl (t 0, 900, .inl t_buffer_)), (a_t_fresh, .inl (t 0, 876, .inl t_fresh_80_18)), (a_t_kept, .inl (t 0, 7008, .inl t_kept_))]) hx hb hts iw8 tyX8 tyX8_ok nmX8 hown hK hP hD hS 0 rfl rfl 15 (by decide) hf25 (fun _ h9 => h9) rfl (by decide +kernel) rfl rfl (Nat.le_of_ble_eq_true rfl) rfl dX8_load_96 (fun H locs hP hD hS => ?_)
          refine lv_aload_n hx hb dX8_load_99 rfl (lv_at hl 0 rfl) ?_
          refine va_get (D := D) (ci := 8) (v := .int t_wrong_80_16) (C := RX8) (T := TX8) (N := 20) hx hb hts iw8 hown hK hP 0 rfl rfl 13 (by decide) hf85 (fun _ h9 => h9) rfl dX8_load_100 ?_
          refine lv_if_eq (tgt := 111) hx hb dX8_load_103 (by decide) (fun c103 => ?_) (fun c103 => ?_)
          · have hF := brT c103 hF
            refine lv_aload_n hx hb dX8_load_111 rfl (lv_at hl 0 rfl) ?_
            obtain ⟨t_keptMany_112_22, t_kept_112_23, h112_23, hF⟩ := bnd2E hF
            refine wrVM (As := []) (rest := []) (C := RX8) (wn := [(a_t, .inr (8, [.ref a_t_a, .ref a_t_fresh, v_t_aside, .ref a_t_kept, .int t_keptMany_112_22, .int s0_18_3, .ref a_t_buffer, .int 0, .int p1, .int t_at_80_12, .int t_behind_80_13, .int t_kind_80_14, .int t_number_80_15, .int t_wrong_80_16, .int t_wrongAt_80_17, .int s0_96_20, v_t_moved, .int t_unused, v_t_written, .int t_writtenMany])), (a_t_a, .inl (t 0, 876, .inl t_a_)), (a_t_buffer, .inl (t 0, 900, .inl t_buffer_)), (a_t_fresh, .inl (t 0, 876, .inl t_fresh_80_18)), (a_t_kept, .inl (t 0, 7008, .inl t_kept_112_23))]) ⟨hx, hb, hml, hown, hts⟩ (c_X8_keeps l D t z x N a_t a_t_a a_t_kept (.ref a_t_fresh) v_t_aside (.ref a_t_buffer) v_t_moved v_t_written t_keptMany s0_18_3 0 p1 t_at_80_12 t_behind_80_13 t_kind_80_14 t_number_80_15 t_wrong_80_16 t_wrongAt_80_17 s0_96_20 t_unused t_writtenMany t_a_ t_kept_ H.size t_keptMany_112_22 t_kept_112_23 h112_23) (cwV 0 hts gX8_load_X8_keeps rfl rfl rfl hd_X8_keeps ⟨Nat.le_of_ble_eq_true rfl, Nat.le_of_ble_eq_true rfl⟩) (hC.at hz hS) hP hD hS hA hz [true, true, false, false, true] rfl rfl rfl rfl 0 rfl (show vwCl[8]? = some (RX8, TX8, 20) from rfl) rfl rfl hl.1 rfl (Nat.le_of_ble_eq_true rfl) dX8_load_112 ⟨Nat.zero_le _, Nat.zero_le _⟩ rfl (fun H locs hP hD hS => ?_)
            refine lv_aload_n hx hb dX8_load_115 rfl (lv_at hl 0 rfl) ?_
            refine va_get (D := D) (ci := 8) (v := .ref a_t_a) (C := RX8) (T := TX8) (N := 20) hx hb hts iw8 hown hK hP 0 rfl rfl 0 (by decide) hf7 (fun _ h9 => h9) rfl dX8_load_116 ?_
            refine lv_aload_n hx hb dX8_load_119 rfl (lv_at hl 0 rfl) ?_
            refine va_get (D := D) (ci := 8) (v := .ref a_t_fresh) (C := RX8) (T := TX8) (N := 20) hx hb hts iw8 hown hK hP 0 rfl rfl 1 (by decide) hf13 (fun _ h9 => h9) rfl dX8_load_120 ?_
            obtain ⟨t_a_123_25, h123_25, hF⟩ := bndE hF
            refine wrSM (As := [.ref a_t_a, .ref a_t_fresh]) (rest := []) (wn := [(a_t, .inr (8, [.ref a_t_a, .ref a_t_fresh, v_t_aside, .ref a_t_kept, .int t_keptMany_112_22, .int s0_18_3, .ref a_t_buffer, .int 0, .int p1, .int t_at_80_12, .int t_behind_80_13, .int t_kind_80_14, .int t_number_80_15, .int t_wrong_80_16, .int t_wrongAt_80_17, .int s0_96_20, v_t_moved, .int t_unused, v_t_written, .int t_writtenMany])), (a_t_a, .inl (t 0, 876, .inl t_a_123_25)), (a_t_buffer, .inl (t 0, 900, .inl t_buffer_)), (a_t_fresh, .inl (t 0, 876, .inl t_fresh_80_18)), (a_t_kept, .inl (t 0, 7008, .inl t_kept_112_23))]) ⟨hx, hb, hml, hown, hts⟩ (c_X8_sets l D t z x N a_t_a a_t_fresh 876 876 t_a_ t_fresh_80_18 H.size t_a_123_25 h123_25) (va_cwS 2 hts gX8_load_X8_sets rfl rfl rfl hd_X8_sets.2 ⟨Nat.le_of_ble_eq_true rfl, Nat.le_of_ble_eq_true rfl⟩) (hC.at hz hS) hP hD hS hA hz [false, true, false, true, false] rfl rfl rfl rfl rfl hl.1 rfl (Nat.le_of_ble_eq_true rfl) dX8_load_123 ⟨Nat.zero_le _, Nat.zero_le _⟩ rfl (fun H locs hP hD hS => ?_)
            refine lv_aload_n hx hb dX8_load_126 rfl (lv_at hl 0 rfl) ?_
            obtain ⟨t_a_127_27, h127_27, hF⟩ := bndE hF
            refine wrVM (As := []) (rest := []) (C := RX8) (wn := [(a_t, .inr (8, [.ref a_t_a, .ref a_t_fresh, v_t_aside, .ref a_t_kept, .int t_keptMany_112_22, .int s0_18_3, .ref a_t_buffer, .int 0, .int p1, .int t_at_80_12, .int t_behind_80_13, .int t_kind_80_14, .int t_number_80_15, .int t_wrong_80_16, .int t_wrongAt_80_17, .int s0_96_20, v_t_moved, .int t_unused, v_t_written, .int t_writtenMany])), (a_t_a, .inl (t 0, 876, .inl t_a_127_27)), (a_t_buffer, .inl (t 0, 900, .inl t_buffer_)), (a_t_fresh, .inl (t 0, 876, .inl t_fresh_80_18)), (a_t_kept, .inl (t 0, 7008, .inl t_kept_112_23))]) ⟨hx, hb, hml, hown, hts⟩ (c_X8_lays l D t z x N a_t a_t_a (.ref a_t_fresh) v_t_aside (.ref a_t_kept) (.ref a_t_buffer) v_t_moved v_t_written t_keptMany_112_22 s0_18_3 0 p1 t_at_80_12 t_behind_80_13 t_kind_80_14 t_number_80_15 t_wrong_80_16 t_wrongAt_80_17 s0_96_20 t_unused t_writtenMany t_a_123_25 H.size t_a_127_27 h127_27) (cwV 0 hts gX8_load_X8_lays rfl rfl rfl hd_X8_lays ⟨Nat.le_of_ble_eq_true rfl, Nat.le_of_ble_eq_true rfl⟩) (hC.at hz hS) hP hD hS hA hz [true, true, false, false, false] rfl rfl rfl rfl 0 rfl (show vwCl[8]? = some (RX8, TX8, 20) from rfl) rfl rfl hl.1 rfl (Nat.le_of_ble_eq_true rfl) dX8_load_127 ⟨Nat.zero_le _, Nat.zero_le _⟩ rfl (fun H locs hP hD hS => ?_)
            refine lv_aload_n hx hb dX8_load_130 rfl (lv_at hl 0 rfl) ?_
            refine va_get (D := D) (ci := 8) (v := .ref a_t_a) (C := RX8) (T := TX8) (N := 20) hx hb hts iw8 hown hK hP 0 rfl rfl 0 (by decide) hf7 (fun _ h9 => h9) rfl dX8_load_131 ?_
            refine lv_iconst (v := 0) hx hb dX8_load_134 (by decide) ?_
            refine my_iald (v := t_a_127_27 0) hx hb hK hP 1 0 rfl rfl (vp_lit (by decide +kernel)) rfl dX8_load_135 ?_
            cases hF
            exact we_iret hx hb hr hlocks dX8_load_136 rfl hQ hP hD hS
          · have hF := brF c103 hF
            refine lv_aload_n hx hb dX8_load_106 rfl (lv_at hl 0 rfl) ?_
            refine va_get (D := D) (ci := 8) (v := .int t_wrong_80_16) (C := RX8) (T := TX8) (N := 20) hx hb hts iw8 hown hK hP 0 rfl rfl 13 (by decide) hf85 (fun _ h9 => h9) rfl dX8_load_107 ?_
            cases hF
            exact we_iret hx hb hr hlocks dX8_load_110 rfl hQ hP hD hS
        refine lv_if_ne (tgt := 92) hx hb dX8_load_85 (by decide) (fun c85 => ?_) (fun c85 => ?_)
        · have hF := brF c85 hF
          refine lv_aload_n hx hb dX8_load_92 rfl (lv_at hl 0 rfl) ?_
          refine va_get (D := D) (ci := 8) (v := .int t_wrongAt_80_17) (C := RX8) (T := TX8) (N := 20) hx hb hts iw8 hown hK hP 0 rfl rfl 14 (by decide) hf98 (fun _ h9 => h9) rfl dX8_load_93 ?_
          exact hk96_21 t_wrongAt_80_17 H locs ls hP hD hS hl hF
        · have hF := brT c85 hF
          refine lv_iconst (v := (-1)) hx hb dX8_load_88 (by decide) ?_
          refine lv_goto (tgt := 96) hx hb dX8_load_89 (by decide) ?_
          exact hk96_21 (-1) H locs ls hP hD hS hl hF
      have hlp58 : ∀ n58 : Nat, ∀ (t_at_58_29 : Int32) (t_behind_58_30 : Int32) (t_kind_58_31 : Int32) (t_number_58_32 : Int32) (t_wrong_58_33 : Int32) (t_wrongAt_58_34 : Int32) (t_fresh_58_35 : (Nat → Int32)) (H : Heap) (locs : List Loc) (ls : Array Slot), va_P D vwCl [(a_t, .inr (8, [.ref a_t_a, .ref a_t_fresh, v_t_aside, .ref a_t_kept, .int t_keptMany, .int s0_18_3, .ref a_t_buffer, .int 0, .int p1, .int t_at_58_29, .int t_behind_58_30, .int t_kind_58_31, .int t_number_58_32, .int t_wrong_58_33, .int t_wrongAt_58_34, .int t_errorAt, v_t_moved, .int t_unused, v_t_written, .int t_writtenMany])), (a_t_a, .inl (t 0, 876, .inl t_a_)), (a_t_buffer, .inl (t 0, 900, .inl t_buffer_)), (a_t_fresh, .inl (t 0, 876, .inl t_fresh_58_35)), (a_t_kept, .inl (t 0, 7008, .inl t_kept_))] H → va_D A [(a_t, .inr (8, [.ref a_t_a, .ref a_t_fresh, v_t_aside, .ref a_t_kept, .int t_keptMany, .int s0_18_3, .ref a_t_buffer, .int 0, .int p1, .int t_at_58_29, .int t_behind_58_30, .int t_kind_58_31, .int t_number_58_32, .int t_wrong_58_33, .int t_wrongAt_58_34, .int t_errorAt, v_t_moved, .int t_unused, v_t_written, .int t_writtenMany])), (a_t_a, .inl (t 0, 876, .inl t_a_)), (a_t_buffer, .inl (t 0, 900, .inl t_buffer_)), (a_t_fresh, .inl (t 0, 876, .inl t_fresh_58_35)), (a_t_kept, .inl (t 0, 7008, .inl t_kept_))] → va_S A s.heap H locs → lv_has ls 2 [(0, .ref a_t)] → f_X8_load_58 N t_buffer_ p1 k80_19 n58 t_at_58_29 t_behind_58_30 t_kind_58_31 t_number_58_32 t_wrong_58_33 t_wrongAt_58_34 t_fresh_58_35 = some T9 → W p l e rm_X8_load s m args below meth c H locs 0 0 Q (F0 m 58 ls []) := by
        intro n58
        induction n58 with
        | zero =>
          intro t_at_58_29 t_behind_58_30 t_kind_58_31 t_number_58_32 t_wrong_58_33 t_wrongAt_58_34 t_fresh_58_35 H locs ls hP hD hS hl hF
          cases (show none = some T9 from hF)
        | succ n58 ih58 =>
          intro t_at_58_29 t_behind_58_30 t_kind_58_31 t_number_58_32 t_wrong_58_33 t_wrongAt_58_34 t_fresh_58_35 H locs ls hP hD hS hl hF
          rw [f_X8_load_58] at hF
          refine lv_aload_n hx hb dX8_load_58 rfl (lv_at hl 0 rfl) ?_
          refine va_get (D := D) (ci := 8) (v := .int t_wrong_58_33) (C := RX8) (T := TX8) (N := 20) hx hb hts iw8 hown hK hP 0 rfl rfl 13 (by decide) hf85 (fun _ h9 => h9) rfl dX8_load_59 ?_
          refine lv_if_ne (tgt := 80) hx hb dX8_load_62 (by decide) (fun c62 => ?_) (fun c62 => ?_)
          · have hF := brF c62 hF
            exact hk80_19 t_at_58_29 t_behind_58_30 t_kind_58_31 t_number_58_32 t_wrong_58_33 t_wrongAt_58_34 t_fresh_58_35 H locs ls hP hD hS hl hF
          · have hF := brT c62 hF
            refine lv_aload_n hx hb dX8_load_65 rfl (lv_at hl 0 rfl) ?_
            refine va_get (D := D) (ci := 8) (v := .int t_kind_58_31) (C := RX8) (T := TX8) (N := 20) hx hb hts iw8 hown hK hP 0 rfl rfl 11 (by decide) hf71 (fun _ h9 => h9) rfl dX8_load_66 ?_
            refine lv_iconst (v := 3) hx hb dX8_load_69 (by decide) ?_
            refine lv_icmp_eq (tgt := 80) hx hb dX8_load_70 (by decide) (fun c70 => ?_) (fun c70 => ?_)
            · have hF := brT c70 hF
              exact hk80_19 t_at_58_29 t_behind_58_30 t_kind_58_31 t_number_58_32 t_wrong_58_33 t_wrongAt_58_34 t_fresh_58_35 H locs ls hP hD hS hl hF
            · have hF := brF c70 hF
              refine lv_aload_n hx hb dX8_load_73 rfl (lv_at hl 0 rfl) ?_
              obtain ⟨t_at_74_36, t_behind_74_37, t_kind_74_38, t_number_74_39, t_wrong_74_40, t_wrongAt_74_41, t_fresh_74_42, h74_42, hF⟩ := bnd7E hF
              refine wrVM (As := []) (rest := []) (C := RX8) (wn := [(a_t, .inr (8, [.ref a_t_a, .ref a_t_fresh, v_t_aside, .ref a_t_kept, .int t_keptMany, .int s0_18_3, .ref a_t_buffer, .int 0, .int p1, .int t_at_74_36, .int t_behind_74_37, .int t_kind_74_38, .int t_number_74_39, .int t_wrong_74_40, .int t_wrongAt_74_41, .int t_errorAt, v_t_moved, .int t_unused, v_t_written, .int t_writtenMany])), (a_t_a, .inl (t 0, 876, .inl t_a_)), (a_t_buffer, .inl (t 0, 900, .inl t_buffer_)), (a_t_fresh, .inl (t 0, 876, .inl t_fresh_74_42)), (a_t_kept, .inl (t 0, 7008, .inl t_kept_))]) ⟨hx, hb, hml, hown, hts⟩ (c_X8_readsStatement l D t z x N a_t a_t_buffer a_t_fresh (.ref a_t_a) v_t_aside (.ref a_t_kept) v_t_moved v_t_written t_keptMany s0_18_3 0 p1 t_at_58_29 t_behind_58_30 t_kind_58_31 t_number_58_32 t_wrong_58_33 t_wrongAt_58_34 t_errorAt t_unused t_writtenMany t_buffer_ t_fresh_58_35 H.size t_at_74_36 t_behind_74_37 t_kind_74_38 t_number_74_39 t_wrong_74_40 t_wrongAt_74_41 t_fresh_74_42 h74_42) (cwV 0 hts gX8_load_X8_readsStatement rfl rfl rfl hd_X8_readsStatement ⟨Nat.le_of_ble_eq_true rfl, Nat.le_of_ble_eq_true rfl⟩) (hC.at hz hS) hP hD hS hA hz [true, false, true, true, false] rfl rfl rfl rfl 0 rfl (show vwCl[8]? = some (RX8, TX8, 20) from rfl) rfl rfl hl.1 rfl (Nat.le_of_ble_eq_true rfl) dX8_load_74 ⟨Nat.zero_le _, Nat.zero_le _⟩ rfl (fun H locs hP hD hS => ?_)
              refine lv_goto (tgt := 58) hx hb dX8_load_77 (by decide) ?_
              exact ih58 t_at_74_36 t_behind_74_37 t_kind_74_38 t_number_74_39 t_wrong_74_40 t_wrongAt_74_41 t_fresh_74_42 H locs ls hP hD hS hl hF
      exact hlp58 N t_at_55_7 t_behind_55_8 t_kind_55_9 t_number_55_10 0 t_wrongAt t_fresh_51_5 H locs ls hP hD hS (lv_sub hl [0] rfl) hF
    · have hF := brF c25 hF
      refine lv_iconst (v := 0) hx hb dX8_load_28 (by decide) ?_
      cases hF
      exact we_iret hx hb hr hlocks dX8_load_29 rfl hQ hP hD hS
  refine lv_if_eq (tgt := 17) hx hb dX8_load_10 (by decide) (fun c10 => ?_) (fun c10 => ?_)
  · have hF := brT c10 hF
    refine lv_iconst (v := 1) hx hb dX8_load_17 (by decide) ?_
    exact hk18_4 1 H locs ls hP hD hS hl hF
  · have hF := brF c10 hF
    refine lv_iconst (v := 0) hx hb dX8_load_13 (by decide) ?_
    refine lv_goto (tgt := 18) hx hb dX8_load_14 (by decide) ?_
    exact hk18_4 0 H locs ls hP hD hS hl hF
abbrev rm_X8_costOf : Room := { frames := 7, cells := 0, slots := 0, locals := 163 }
theorem hd_X8_costOf : yX8_costOf.cls = RX8 ∧ yX8_costOf.cls ≠ "java/lang/invoke/MethodHandle" ∧ yX8_costOf.cls ≠ "java/lang/invoke/VarHandle" ∧ (parseMethodDescriptor yX8_costOf.desc).map (fun d => d.parameters.length) = some 2 := by decide +kernel
set_option maxRecDepth 100000 in
set_option maxHeartbeats 4000000 in
theorem c_X8_costOf (l : Launch) (D : va_G) (t : Nat → ClassId) (z : Nat) (x : Nat → Nat) (N : Nat) (a_t : Nat) (a_t_a : Nat) (a_t_aside : Nat) (a_t_moved : Nat) (v_t_fresh : Value) (v_t_kept : Value) (v_t_buffer : Value) (v_t_written : Value) (t_keptMany : Int32) (t_thrown : Int32) (t_buffered : Int32) (t_size : Int32) (t_at : Int32) (t_behind : Int32) (t_kind : Int32) (t_number : Int32) (t_wrong : Int32) (t_wrongAt : Int32) (t_errorAt : Int32) (t_unused : Int32) (t_writtenMany : Int32) (t_a_ : (Nat → Int32)) (t_aside_ : (Nat → Int32)) (t_moved_ : (Nat → Int32)) (p1 : Int32) (p2 : Int32) (sz : Nat) (r : Int32) (t_thrown' : Int32) (t_unused' : Int32) (t_a_' : (Nat → Int32)) (t_aside_' : (Nat → Int32)) (t_moved_' : (Nat → Int32)) (hF : f_X8_costOf N t_unused t_a_ t_aside_ t_moved_ p1 p2 = some (r, t_thrown', t_unused', t_a_', t_aside_', t_moved_')) : WrM l D (TY t) z x yX8_costOf wsX8_costOf rm_X8_costOf [.ref a_t, .int p1, .int p2] [(a_t, .inr (8, [.ref a_t_a, v_t_fresh, .ref a_t_aside, v_t_kept, .int t_keptMany, .int t_thrown, v_t_buffer, .int t_buffered, .int t_size, .int t_at, .int t_behind, .int t_kind, .int t_number, .int t_wrong, .int t_wrongAt, .int t_errorAt, .ref a_t_moved, .int t_unused, v_t_written, .int t_writtenMany])), (a_t_a, .inl (t 0, 876, .inl t_a_)), (a_t_aside, .inl (t 0, 876, .inl t_aside_)), (a_t_moved, .inl (t 0, 120, .inl t_moved_))] [(a_t, .inr (8, [.ref a_t_a, v_t_fresh, .ref a_t_aside, v_t_kept, .int t_keptMany, .int t_thrown', v_t_buffer, .int t_buffered, .int t_size, .int t_at, .int t_behind, .int t_kind, .int t_number, .int t_wrong, .int t_wrongAt, .int t_errorAt, .ref a_t_moved, .int t_unused', v_t_written, .int t_writtenMany])), (a_t_a, .inl (t 0, 876, .inl t_a_')), (a_t_aside, .inl (t 0, 876, .inl t_aside_')), (a_t_moved, .inl (t 0, 120, .inl t_moved_'))] sz (some (.int r)) 0 0 := by
  obtain ⟨T9, hT⟩ : ∃ T9, T9 = (r, t_thrown', t_unused', t_a_', t_aside_', t_moved_') := ⟨_, rfl⟩
  rw [← hT] at hF
  obtain rfl : r = T9.1 := by rw [hT]
  obtain rfl : t_thrown' = T9.2.1 := by rw [hT]
  obtain rfl : t_unused' = T9.2.2.1 := by rw [hT]
  obtain rfl : t_a_' = T9.2.2.2.1 := by rw [hT]
  obtain rfl : t_aside_' = T9.2.2.2.2.1 := by rw [hT]
  obtain rfl : t_moved_' = T9.2.2.2.2.2 := by rw [hT]
  clear hT
  refine wr_of (cc := cX8_costOf) (maxL := 3) (ret := (some .int)) (by decide) rfl (Nat.le_of_ble_eq_true rfl) ?_
  intro p e s m args below meth c A Q hQ hx hb hr hml hts hown hlocks hin H locs hP hD hS hA hz hC ls hl
  have hown : s.vm.findClass RX8 = some m.cls := hown
  have hl : lv_has ls 3 [(0, .ref a_t), (1, .int p1), (2, .int p2)] := hl
  have hK := hC.1
  have iw8 : ∀ w ∈ wsX80, w ∈ wsX8_costOf := fun _ h => List.mem_cons_of_mem _ (List.mem_append_right _ h)
  have hf45 := hts (.fieldLink RX8 45 "CrackedColumnModel" "thrown" "I") (by decide +kernel)
  unfold f_X8_costOf at hF
  refine lv_aload_n hx hb dX8_costOf_0 rfl (lv_at hl 0 rfl) ?_
  refine lv_iload_n hx hb dX8_costOf_1 rfl (lv_at hl 1 rfl) ?_
  refine lv_iload_n hx hb dX8_costOf_2 rfl (lv_at hl 2 rfl) ?_
  obtain ⟨r3_1, h3_1, hF⟩ := bndE hF
  refine rdS (As := [.int p1, .int p2]) (rest := [.ref a_t]) ⟨hx, hb, hml, hown, hts⟩ (c_X8_isSpan l D t z x p1 p2 H r3_1 h3_1) (va_cwS 2 hts gX8_costOf_X8_isSpan rfl rfl rfl hd_X8_isSpan.2 ⟨Nat.le_of_ble_eq_true rfl, Nat.le_of_ble_eq_true rfl⟩) (hC.at hz hS) (selP (m9 := [false, false, false, false]) rfl rfl hP) rfl hl.1 rfl (Nat.le_of_ble_eq_true rfl) dX8_costOf_3 ⟨Nat.zero_le _, Nat.zero_le _⟩ rfl ?_
  obtain ⟨k14_4, ek14_4, hF⟩ := jnE hF
  have hk14_4 : ∀ (s0_14_3 : Int32) (H : Heap) (locs : List Loc) (ls : Array Slot), va_P D vwCl [(a_t, .inr (8, [.ref a_t_a, v_t_fresh, .ref a_t_aside, v_t_kept, .int t_keptMany, .int t_thrown, v_t_buffer, .int t_buffered, .int t_size, .int t_at, .int t_behind, .int t_kind, .int t_number, .int t_wrong, .int t_wrongAt, .int t_errorAt, .ref a_t_moved, .int t_unused, v_t_written, .int t_writtenMany])), (a_t_a, .inl (t 0, 876, .inl t_a_)), (a_t_aside, .inl (t 0, 876, .inl t_aside_)), (a_t_moved, .inl (t 0, 120, .inl t_moved_))] H → va_D A [(a_t, .inr (8, [.ref a_t_a, v_t_fresh, .ref a_t_aside, v_t_kept, .int t_keptMany, .int t_thrown, v_t_buffer, .int t_buffered, .int t_size, .int t_at, .int t_behind, .int t_kind, .int t_number, .int t_wrong, .int t_wrongAt, .int t_errorAt, .ref a_t_moved, .int t_unused, v_t_written, .int t_writtenMany])), (a_t_a, .inl (t 0, 876, .inl t_a_)), (a_t_aside, .inl (t 0, 876, .inl t_aside_)), (a_t_moved, .inl (t 0, 120, .inl t_moved_))] → va_S A s.heap H locs → lv_has ls 3 [(0, .ref a_t), (1, .int p1), (2, .int p2)] → k14_4 s0_14_3 = some T9 → W p l e rm_X8_costOf s m args below meth c H locs 0 0 Q (F0 m 14 ls [.int s0_14_3, .ref a_t]) := by
    subst ek14_4
    intro s0_14_3 H locs ls hP hD hS hl hF
    refine my_put (ty := .int) (v := .int s0_14_3) (ci := 8) (C := RX8) (T := TX8) (N := 20) (wn := [(a_t, .inr (8, [.ref a_t_a, v_t_fresh, .ref a_t_aside, v_t_kept, .int t_keptMany, .int s0_14_3, v_t_buffer, .int t_buffered, .int t_size, .int t_at, .int t_behind, .int t_kind, .int t_number, .int t_wrong, .int t_wrongAt, .int t_errorAt, .ref a_t_moved, .int t_unused, v_t_written, .int t_writtenMany])), (a_t_a, .inl (t 0, 876, .inl t_a_)), (a_t_aside, .inl (t 0, 876, .inl t_aside_)), (a_t_moved, .inl (t 0, 120, .inl t_moved_))]) hx hb hts iw8 tyX8 tyX8_ok nmX8 hown hK hP hD hS 0 rfl rfl 5 (by decide) hf45 (fun _ h9 => h9) rfl (by decide +kernel) rfl rfl (Nat.le_of_ble_eq_true rfl) rfl dX8_costOf_14 (fun H locs hP hD hS => ?_)
    refine lv_aload_n hx hb dX8_costOf_17 rfl (lv_at hl 0 rfl) ?_
    refine va_get (D := D) (ci := 8) (v := .int s0_14_3) (C := RX8) (T := TX8) (N := 20) hx hb hts iw8 hown hK hP 0 rfl rfl 5 (by decide) hf45 (fun _ h9 => h9) rfl dX8_costOf_18 ?_
    refine lv_if_le (tgt := 26) hx hb dX8_costOf_21 (by decide) (fun c21 => ?_) (fun c21 => ?_)
    · have hF := brT c21 hF
      refine lv_aload_n hx hb dX8_costOf_26 rfl (lv_at hl 0 rfl) ?_
      refine lv_iload_n hx hb dX8_costOf_27 rfl (lv_at hl 1 rfl) ?_
      refine lv_iload_n hx hb dX8_costOf_28 rfl (lv_at hl 2 rfl) ?_
      obtain ⟨r29_5, t_unused_29_6, t_a_29_7, t_aside_29_8, t_moved_29_9, h29_9, hF⟩ := bnd5E hF
      refine wrVM (As := [.int p1, .int p2]) (rest := []) (C := RX8) (wn := [(a_t, .inr (8, [.ref a_t_a, v_t_fresh, .ref a_t_aside, v_t_kept, .int t_keptMany, .int s0_14_3, v_t_buffer, .int t_buffered, .int t_size, .int t_at, .int t_behind, .int t_kind, .int t_number, .int t_wrong, .int t_wrongAt, .int t_errorAt, .ref a_t_moved, .int t_unused_29_6, v_t_written, .int t_writtenMany])), (a_t_a, .inl (t 0, 876, .inl t_a_29_7)), (a_t_aside, .inl (t 0, 876, .inl t_aside_29_8)), (a_t_moved, .inl (t 0, 120, .inl t_moved_29_9))]) ⟨hx, hb, hml, hown, hts⟩ (c_X8_costNow l D t z x N a_t a_t_a a_t_aside a_t_moved v_t_fresh v_t_kept v_t_buffer v_t_written t_keptMany s0_14_3 t_buffered t_size t_at t_behind t_kind t_number t_wrong t_wrongAt t_errorAt t_unused t_writtenMany t_a_ t_aside_ t_moved_ p1 p2 H.size r29_5 t_unused_29_6 t_a_29_7 t_aside_29_8 t_moved_29_9 h29_9) (cwV 2 hts gX8_costOf_X8_costNow rfl rfl rfl hd_X8_costNow ⟨Nat.le_of_ble_eq_true rfl, Nat.le_of_ble_eq_true rfl⟩) (hC.at hz hS) hP hD hS hA hz [true, true, true, true] rfl rfl rfl rfl 0 rfl (show vwCl[8]? = some (RX8, TX8, 20) from rfl) rfl rfl hl.1 rfl (Nat.le_of_ble_eq_true rfl) dX8_costOf_29 ⟨Nat.zero_le _, Nat.zero_le _⟩ rfl (fun H locs hP hD hS => ?_)
      cases hF
      exact we_iret hx hb hr hlocks dX8_costOf_32 rfl hQ hP hD hS
    · have hF := brF c21 hF
      refine lv_iconst (v := 0) hx hb dX8_costOf_24 (by decide) ?_
      cases hF
      exact we_iret hx hb hr hlocks dX8_costOf_25 rfl hQ hP hD hS
  refine lv_if_eq (tgt := 13) hx hb dX8_costOf_6 (by decide) (fun c6 => ?_) (fun c6 => ?_)
  · have hF := brT c6 hF
    refine lv_iconst (v := 1) hx hb dX8_costOf_13 (by decide) ?_
    exact hk14_4 1 H locs ls hP hD hS hl hF
  · have hF := brF c6 hF
    refine lv_iconst (v := 0) hx hb dX8_costOf_9 (by decide) ?_
    refine lv_goto (tgt := 14) hx hb dX8_costOf_10 (by decide) ?_
    exact hk14_4 0 H locs ls hP hD hS hl hF
