abbrev rm_X8_begins : Room := { frames := 0, cells := 0, slots := 0, locals := 0 }
theorem hd_X8_begins : yX8_begins.cls = RX8 ∧ yX8_begins.cls ≠ "java/lang/invoke/MethodHandle" ∧ yX8_begins.cls ≠ "java/lang/invoke/VarHandle" ∧ (parseMethodDescriptor yX8_begins.desc).map (fun d => d.parameters.length) = some 0 := by decide +kernel
set_option maxRecDepth 100000 in
set_option maxHeartbeats 4000000 in
theorem c_X8_begins (l : Launch) (D : va_G) (t : Nat → ClassId) (z : Nat) (x : Nat → Nat) (N : Nat) (a_t : Nat) (a_t_fresh : Nat) (v_t_a : Value) (v_t_aside : Value) (v_t_kept : Value) (v_t_buffer : Value) (v_t_moved : Value) (v_t_written : Value) (t_keptMany : Int32) (t_thrown : Int32) (t_buffered : Int32) (t_size : Int32) (t_at : Int32) (t_behind : Int32) (t_kind : Int32) (t_number : Int32) (t_wrong : Int32) (t_wrongAt : Int32) (t_errorAt : Int32) (t_unused : Int32) (t_writtenMany : Int32) (t_fresh_ : (Nat → Int32)) (sz : Nat) (t_fresh_' : (Nat → Int32)) (hF : f_X8_begins N t_fresh_ = some (t_fresh_')) : WrM l D (TY t) z x yX8_begins wsX8_begins rm_X8_begins [.ref a_t] [(a_t, .inr (8, [v_t_a, .ref a_t_fresh, v_t_aside, v_t_kept, .int t_keptMany, .int t_thrown, v_t_buffer, .int t_buffered, .int t_size, .int t_at, .int t_behind, .int t_kind, .int t_number, .int t_wrong, .int t_wrongAt, .int t_errorAt, v_t_moved, .int t_unused, v_t_written, .int t_writtenMany])), (a_t_fresh, .inl (t 0, 876, .inl t_fresh_))] [(a_t, .inr (8, [v_t_a, .ref a_t_fresh, v_t_aside, v_t_kept, .int t_keptMany, .int t_thrown, v_t_buffer, .int t_buffered, .int t_size, .int t_at, .int t_behind, .int t_kind, .int t_number, .int t_wrong, .int t_wrongAt, .int t_errorAt, v_t_moved, .int t_unused, v_t_written, .int t_writtenMany])), (a_t_fresh, .inl (t 0, 876, .inl t_fresh_'))] sz none 0 0 := by
  refine wr_of (cc := cX8_begins) (maxL := 2) (ret := none) (by decide) rfl (Nat.le_of_ble_eq_true rfl) ?_
  intro p e s m args below meth c A Q hQ hx hb hr hml hts hown hlocks hin H locs hP hD hS hA hz hC ls hl
  have hown : s.vm.findClass RX8 = some m.cls := hown
  have hl : lv_has ls 2 [(0, .ref a_t)] := hl
  have hK := hC.1
  have iw8 : ∀ w ∈ wsX80, w ∈ wsX8_begins := fun _ h => List.mem_cons_of_mem _ (List.mem_append_right _ h)
  have hf13 := hts (.fieldLink RX8 13 "CrackedColumnModel" "fresh" "[I") (by decide +kernel)
  unfold f_X8_begins at hF
  refine lv_iconst (v := 0) hx hb dX8_begins_0 (by decide) ?_
  refine lv_istore_n (lv' := [(1, .int 0), (0, .ref a_t)]) hx hb dX8_begins_1 rfl hl (by decide) rfl (fun ls hl => ?_)
  obtain ⟨k22_2, ek22_2, hF⟩ := jnE hF
  have hk22_2 : ∀ (t_fresh_22_1 : (Nat → Int32)) (H : Heap) (locs : List Loc) (ls : Array Slot), va_P D vwCl [(a_t, .inr (8, [v_t_a, .ref a_t_fresh, v_t_aside, v_t_kept, .int t_keptMany, .int t_thrown, v_t_buffer, .int t_buffered, .int t_size, .int t_at, .int t_behind, .int t_kind, .int t_number, .int t_wrong, .int t_wrongAt, .int t_errorAt, v_t_moved, .int t_unused, v_t_written, .int t_writtenMany])), (a_t_fresh, .inl (t 0, 876, .inl t_fresh_22_1))] H → va_D A [(a_t, .inr (8, [v_t_a, .ref a_t_fresh, v_t_aside, v_t_kept, .int t_keptMany, .int t_thrown, v_t_buffer, .int t_buffered, .int t_size, .int t_at, .int t_behind, .int t_kind, .int t_number, .int t_wrong, .int t_wrongAt, .int t_errorAt, v_t_moved, .int t_unused, v_t_written, .int t_writtenMany])), (a_t_fresh, .inl (t 0, 876, .inl t_fresh_22_1))] → va_S A s.heap H locs → lv_has ls 2 [(0, .ref a_t)] → k22_2 t_fresh_22_1 = some (t_fresh_') → W p l e rm_X8_begins s m args below meth c H locs 0 0 Q (F0 m 22 ls []) := by
    subst ek22_2
    intro t_fresh_22_1 H locs ls hP hD hS hl hF
    refine lv_aload_n hx hb dX8_begins_22 rfl (lv_at hl 0 rfl) ?_
    refine va_get (D := D) (ci := 8) (v := .ref a_t_fresh) (C := RX8) (T := TX8) (N := 20) hx hb hts iw8 hown hK hP 0 rfl rfl 1 (by decide) hf13 (fun _ h9 => h9) rfl dX8_begins_23 ?_
    refine lv_iconst (v := 4) hx hb dX8_begins_26 (by decide) ?_
    refine lv_iconst (v := 3) hx hb dX8_begins_27 (by decide) ?_
    obtain ⟨t_fresh_28_3, et_fresh_28_3⟩ : ∃ y : Nat → Int32, y = upd t_fresh_22_1 4 3 := ⟨_, rfl⟩
    have hF := ltE et_fresh_28_3 hF
    refine my_iast (g := t_fresh_28_3) (wn := [(a_t, .inr (8, [v_t_a, .ref a_t_fresh, v_t_aside, v_t_kept, .int t_keptMany, .int t_thrown, v_t_buffer, .int t_buffered, .int t_size, .int t_at, .int t_behind, .int t_kind, .int t_number, .int t_wrong, .int t_wrongAt, .int t_errorAt, v_t_moved, .int t_unused, v_t_written, .int t_writtenMany])), (a_t_fresh, .inl (t 0, 876, .inl t_fresh_28_3))]) hx hb hK hP hD hS 1 0 rfl rfl (vp_lit (by decide +kernel)) et_fresh_28_3 rfl dX8_begins_28 (fun H locs hP hD hS => ?_)
    refine lv_aload_n hx hb dX8_begins_29 rfl (lv_at hl 0 rfl) ?_
    refine va_get (D := D) (ci := 8) (v := .ref a_t_fresh) (C := RX8) (T := TX8) (N := 20) hx hb hts iw8 hown hK hP 0 rfl rfl 1 (by decide) hf13 (fun _ h9 => h9) rfl dX8_begins_30 ?_
    refine lv_iconst (v := 5) hx hb dX8_begins_33 (by decide) ?_
    refine lv_bipush (v := 16) hx hb dX8_begins_34 (by decide) ?_
    obtain ⟨t_fresh_36_4, et_fresh_36_4⟩ : ∃ y : Nat → Int32, y = upd t_fresh_28_3 5 16 := ⟨_, rfl⟩
    have hF := ltE et_fresh_36_4 hF
    refine my_iast (g := t_fresh_36_4) (wn := [(a_t, .inr (8, [v_t_a, .ref a_t_fresh, v_t_aside, v_t_kept, .int t_keptMany, .int t_thrown, v_t_buffer, .int t_buffered, .int t_size, .int t_at, .int t_behind, .int t_kind, .int t_number, .int t_wrong, .int t_wrongAt, .int t_errorAt, v_t_moved, .int t_unused, v_t_written, .int t_writtenMany])), (a_t_fresh, .inl (t 0, 876, .inl t_fresh_36_4))]) hx hb hK hP hD hS 1 0 rfl rfl (vp_lit (by decide +kernel)) et_fresh_36_4 rfl dX8_begins_36 (fun H locs hP hD hS => ?_)
    refine lv_aload_n hx hb dX8_begins_37 rfl (lv_at hl 0 rfl) ?_
    refine va_get (D := D) (ci := 8) (v := .ref a_t_fresh) (C := RX8) (T := TX8) (N := 20) hx hb hts iw8 hown hK hP 0 rfl rfl 1 (by decide) hf13 (fun _ h9 => h9) rfl dX8_begins_38 ?_
    refine lv_bipush (v := 6) hx hb dX8_begins_41 (by decide) ?_
    refine lv_bipush (v := 12) hx hb dX8_begins_43 (by decide) ?_
    obtain ⟨t_fresh_45_5, et_fresh_45_5⟩ : ∃ y : Nat → Int32, y = upd t_fresh_36_4 6 12 := ⟨_, rfl⟩
    have hF := ltE et_fresh_45_5 hF
    refine my_iast (g := t_fresh_45_5) (wn := [(a_t, .inr (8, [v_t_a, .ref a_t_fresh, v_t_aside, v_t_kept, .int t_keptMany, .int t_thrown, v_t_buffer, .int t_buffered, .int t_size, .int t_at, .int t_behind, .int t_kind, .int t_number, .int t_wrong, .int t_wrongAt, .int t_errorAt, v_t_moved, .int t_unused, v_t_written, .int t_writtenMany])), (a_t_fresh, .inl (t 0, 876, .inl t_fresh_45_5))]) hx hb hK hP hD hS 1 0 rfl rfl (vp_lit (by decide +kernel)) et_fresh_45_5 rfl dX8_begins_45 (fun H locs hP hD hS => ?_)
    refine lv_aload_n hx hb dX8_begins_46 rfl (lv_at hl 0 rfl) ?_
    refine va_get (D := D) (ci := 8) (v := .ref a_t_fresh) (C := RX8) (T := TX8) (N := 20) hx hb hts iw8 hown hK hP 0 rfl rfl 1 (by decide) hf13 (fun _ h9 => h9) rfl dX8_begins_47 ?_
    refine lv_bipush (v := 7) hx hb dX8_begins_50 (by decide) ?_
    refine lv_bipush (v := 8) hx hb dX8_begins_52 (by decide) ?_
    obtain ⟨t_fresh_54_6, et_fresh_54_6⟩ : ∃ y : Nat → Int32, y = upd t_fresh_45_5 7 8 := ⟨_, rfl⟩
    have hF := ltE et_fresh_54_6 hF
    refine my_iast (g := t_fresh_54_6) (wn := [(a_t, .inr (8, [v_t_a, .ref a_t_fresh, v_t_aside, v_t_kept, .int t_keptMany, .int t_thrown, v_t_buffer, .int t_buffered, .int t_size, .int t_at, .int t_behind, .int t_kind, .int t_number, .int t_wrong, .int t_wrongAt, .int t_errorAt, v_t_moved, .int t_unused, v_t_written, .int t_writtenMany])), (a_t_fresh, .inl (t 0, 876, .inl t_fresh_54_6))]) hx hb hK hP hD hS 1 0 rfl rfl (vp_lit (by decide +kernel)) et_fresh_54_6 rfl dX8_begins_54 (fun H locs hP hD hS => ?_)
    cases hF
    exact we_vret hx hb hr hlocks dX8_begins_55 rfl hQ hP hD hS
  have hlp2 : ∀ n2 : Nat, ∀ (x1_2_7 : Int32) (t_fresh_2_8 : (Nat → Int32)) (H : Heap) (locs : List Loc) (ls : Array Slot), va_P D vwCl [(a_t, .inr (8, [v_t_a, .ref a_t_fresh, v_t_aside, v_t_kept, .int t_keptMany, .int t_thrown, v_t_buffer, .int t_buffered, .int t_size, .int t_at, .int t_behind, .int t_kind, .int t_number, .int t_wrong, .int t_wrongAt, .int t_errorAt, v_t_moved, .int t_unused, v_t_written, .int t_writtenMany])), (a_t_fresh, .inl (t 0, 876, .inl t_fresh_2_8))] H → va_D A [(a_t, .inr (8, [v_t_a, .ref a_t_fresh, v_t_aside, v_t_kept, .int t_keptMany, .int t_thrown, v_t_buffer, .int t_buffered, .int t_size, .int t_at, .int t_behind, .int t_kind, .int t_number, .int t_wrong, .int t_wrongAt, .int t_errorAt, v_t_moved, .int t_unused, v_t_written, .int t_writtenMany])), (a_t_fresh, .inl (t 0, 876, .inl t_fresh_2_8))] → va_S A s.heap H locs → lv_has ls 2 [(0, .ref a_t), (1, .int x1_2_7)] → f_X8_begins_2 k22_2 n2 x1_2_7 t_fresh_2_8 = some (t_fresh_') → W p l e rm_X8_begins s m args below meth c H locs 0 0 Q (F0 m 2 ls []) := by
    intro n2
    induction n2 with
    | zero =>
      intro x1_2_7 t_fresh_2_8 H locs ls hP hD hS hl hF
      cases (show none = some (t_fresh_') from hF)
    | succ n2 ih2 =>
      intro x1_2_7 t_fresh_2_8 H locs ls hP hD hS hl hF
      rw [f_X8_begins_2] at hF
      refine lv_iload_n hx hb dX8_begins_2 rfl (lv_at hl 1 rfl) ?_
      refine lv_sipush (v := 876) hx hb dX8_begins_3 (by decide) ?_
      refine lv_icmp_ge (tgt := 22) hx hb dX8_begins_6 (by decide) (fun c6 => ?_) (fun c6 => ?_)
      · have hF := brT c6 hF
        exact hk22_2 t_fresh_2_8 H locs ls hP hD hS (lv_sub hl [0] rfl) hF
      · have hF := brF c6 hF
        refine lv_aload_n hx hb dX8_begins_9 rfl (lv_at hl 0 rfl) ?_
        refine va_get (D := D) (ci := 8) (v := .ref a_t_fresh) (C := RX8) (T := TX8) (N := 20) hx hb hts iw8 hown hK hP 0 rfl rfl 1 (by decide) hf13 (fun _ h9 => h9) rfl dX8_begins_10 ?_
        refine lv_iload_n hx hb dX8_begins_13 rfl (lv_at hl 1 rfl) ?_
        refine lv_iconst (v := 0) hx hb dX8_begins_14 (by decide) ?_
        obtain ⟨g15_8, hF⟩ := gd hF
        obtain ⟨t_fresh_15_10, et_fresh_15_10⟩ : ∃ y : Nat → Int32, y = upd t_fresh_2_8 x1_2_7.toNatClampNeg 0 := ⟨_, rfl⟩
        have hF := ltE et_fresh_15_10 hF
        refine my_iast (g := t_fresh_15_10) (wn := [(a_t, .inr (8, [v_t_a, .ref a_t_fresh, v_t_aside, v_t_kept, .int t_keptMany, .int t_thrown, v_t_buffer, .int t_buffered, .int t_size, .int t_at, .int t_behind, .int t_kind, .int t_number, .int t_wrong, .int t_wrongAt, .int t_errorAt, v_t_moved, .int t_unused, v_t_written, .int t_writtenMany])), (a_t_fresh, .inl (t 0, 876, .inl t_fresh_15_10))]) hx hb hK hP hD hS 1 0 rfl rfl g15_8 et_fresh_15_10 rfl dX8_begins_15 (fun H locs hP hD hS => ?_)
        obtain ⟨y16_11, ey16_11⟩ : ∃ y : Int32, y = x1_2_7 + 1 := ⟨_, rfl⟩
        have hF := ltE ey16_11 hF
        refine lv_iinc (v := y16_11) (lv' := [(1, .int y16_11), (0, .ref a_t)]) hx hb dX8_begins_16 hl (k := 1) rfl (by rw [ey16_11]; rfl) (by decide) rfl (fun ls hl => ?_)
        refine lv_goto (tgt := 2) hx hb dX8_begins_19 (by decide) ?_
        exact ih2 y16_11 t_fresh_15_10 H locs ls hP hD hS (lv_sub hl [1, 0] rfl) hF
  exact hlp2 N 0 t_fresh_ H locs ls hP hD hS (lv_sub hl [1, 0] rfl) hF
abbrev rm_X8_lays : Room := { frames := 0, cells := 0, slots := 0, locals := 0 }
theorem hd_X8_lays : yX8_lays.cls = RX8 ∧ yX8_lays.cls ≠ "java/lang/invoke/MethodHandle" ∧ yX8_lays.cls ≠ "java/lang/invoke/VarHandle" ∧ (parseMethodDescriptor yX8_lays.desc).map (fun d => d.parameters.length) = some 0 := by decide +kernel
set_option maxRecDepth 100000 in
set_option maxHeartbeats 4000000 in
theorem c_X8_lays (l : Launch) (D : va_G) (t : Nat → ClassId) (z : Nat) (x : Nat → Nat) (N : Nat) (a_t : Nat) (a_t_a : Nat) (v_t_fresh : Value) (v_t_aside : Value) (v_t_kept : Value) (v_t_buffer : Value) (v_t_moved : Value) (v_t_written : Value) (t_keptMany : Int32) (t_thrown : Int32) (t_buffered : Int32) (t_size : Int32) (t_at : Int32) (t_behind : Int32) (t_kind : Int32) (t_number : Int32) (t_wrong : Int32) (t_wrongAt : Int32) (t_errorAt : Int32) (t_unused : Int32) (t_writtenMany : Int32) (t_a_ : (Nat → Int32)) (sz : Nat) (t_a_' : (Nat → Int32)) (hF : f_X8_lays N t_a_ = some (t_a_')) : WrM l D (TY t) z x yX8_lays wsX8_lays rm_X8_lays [.ref a_t] [(a_t, .inr (8, [.ref a_t_a, v_t_fresh, v_t_aside, v_t_kept, .int t_keptMany, .int t_thrown, v_t_buffer, .int t_buffered, .int t_size, .int t_at, .int t_behind, .int t_kind, .int t_number, .int t_wrong, .int t_wrongAt, .int t_errorAt, v_t_moved, .int t_unused, v_t_written, .int t_writtenMany])), (a_t_a, .inl (t 0, 876, .inl t_a_))] [(a_t, .inr (8, [.ref a_t_a, v_t_fresh, v_t_aside, v_t_kept, .int t_keptMany, .int t_thrown, v_t_buffer, .int t_buffered, .int t_size, .int t_at, .int t_behind, .int t_kind, .int t_number, .int t_wrong, .int t_wrongAt, .int t_errorAt, v_t_moved, .int t_unused, v_t_written, .int t_writtenMany])), (a_t_a, .inl (t 0, 876, .inl t_a_'))] sz none 0 0 := by
  refine wr_of (cc := cX8_lays) (maxL := 2) (ret := none) (by decide) rfl (Nat.le_of_ble_eq_true rfl) ?_
  intro p e s m args below meth c A Q hQ hx hb hr hml hts hown hlocks hin H locs hP hD hS hA hz hC ls hl
  have hown : s.vm.findClass RX8 = some m.cls := hown
  have hl : lv_has ls 2 [(0, .ref a_t)] := hl
  have hK := hC.1
  have iw8 : ∀ w ∈ wsX80, w ∈ wsX8_lays := fun _ h => List.mem_cons_of_mem _ (List.mem_append_right _ h)
  have hf7 := hts (.fieldLink RX8 7 "CrackedColumnModel" "a" "[I") (by decide +kernel)
  unfold f_X8_lays at hF
  refine lv_aload_n hx hb dX8_lays_0 rfl (lv_at hl 0 rfl) ?_
  refine va_get (D := D) (ci := 8) (v := .ref a_t_a) (C := RX8) (T := TX8) (N := 20) hx hb hts iw8 hown hK hP 0 rfl rfl 0 (by decide) hf7 (fun _ h9 => h9) rfl dX8_lays_1 ?_
  refine lv_iconst (v := 1) hx hb dX8_lays_4 (by decide) ?_
  refine lv_aload_n hx hb dX8_lays_5 rfl (lv_at hl 0 rfl) ?_
  refine va_get (D := D) (ci := 8) (v := .ref a_t_a) (C := RX8) (T := TX8) (N := 20) hx hb hts iw8 hown hK hP 0 rfl rfl 0 (by decide) hf7 (fun _ h9 => h9) rfl dX8_lays_6 ?_
  refine lv_iconst (v := 0) hx hb dX8_lays_9 (by decide) ?_
  refine my_iald (v := t_a_ 0) hx hb hK hP 1 0 rfl rfl (vp_lit (by decide +kernel)) rfl dX8_lays_10 ?_
  obtain ⟨t_a_11_1, et_a_11_1⟩ : ∃ y : Nat → Int32, y = upd t_a_ 1 (t_a_ 0) := ⟨_, rfl⟩
  have hF := ltE et_a_11_1 hF
  refine my_iast (g := t_a_11_1) (wn := [(a_t, .inr (8, [.ref a_t_a, v_t_fresh, v_t_aside, v_t_kept, .int t_keptMany, .int t_thrown, v_t_buffer, .int t_buffered, .int t_size, .int t_at, .int t_behind, .int t_kind, .int t_number, .int t_wrong, .int t_wrongAt, .int t_errorAt, v_t_moved, .int t_unused, v_t_written, .int t_writtenMany])), (a_t_a, .inl (t 0, 876, .inl t_a_11_1))]) hx hb hK hP hD hS 1 0 rfl rfl (vp_lit (by decide +kernel)) et_a_11_1 rfl dX8_lays_11 (fun H locs hP hD hS => ?_)
  refine lv_iconst (v := 0) hx hb dX8_lays_12 (by decide) ?_
  refine lv_istore_n (lv' := [(1, .int 0), (0, .ref a_t)]) hx hb dX8_lays_13 rfl hl (by decide) rfl (fun ls hl => ?_)
  obtain ⟨k41_3, ek41_3, hF⟩ := jnE hF
  have hk41_3 : ∀ (t_a_41_2 : (Nat → Int32)) (H : Heap) (locs : List Loc) (ls : Array Slot), va_P D vwCl [(a_t, .inr (8, [.ref a_t_a, v_t_fresh, v_t_aside, v_t_kept, .int t_keptMany, .int t_thrown, v_t_buffer, .int t_buffered, .int t_size, .int t_at, .int t_behind, .int t_kind, .int t_number, .int t_wrong, .int t_wrongAt, .int t_errorAt, v_t_moved, .int t_unused, v_t_written, .int t_writtenMany])), (a_t_a, .inl (t 0, 876, .inl t_a_41_2))] H → va_D A [(a_t, .inr (8, [.ref a_t_a, v_t_fresh, v_t_aside, v_t_kept, .int t_keptMany, .int t_thrown, v_t_buffer, .int t_buffered, .int t_size, .int t_at, .int t_behind, .int t_kind, .int t_number, .int t_wrong, .int t_wrongAt, .int t_errorAt, v_t_moved, .int t_unused, v_t_written, .int t_writtenMany])), (a_t_a, .inl (t 0, 876, .inl t_a_41_2))] → va_S A s.heap H locs → lv_has ls 2 [(0, .ref a_t)] → k41_3 t_a_41_2 = some (t_a_') → W p l e rm_X8_lays s m args below meth c H locs 0 0 Q (F0 m 41 ls []) := by
    subst ek41_3
    intro t_a_41_2 H locs ls hP hD hS hl hF
    refine lv_aload_n hx hb dX8_lays_41 rfl (lv_at hl 0 rfl) ?_
    refine va_get (D := D) (ci := 8) (v := .ref a_t_a) (C := RX8) (T := TX8) (N := 20) hx hb hts iw8 hown hK hP 0 rfl rfl 0 (by decide) hf7 (fun _ h9 => h9) rfl dX8_lays_42 ?_
    refine lv_iconst (v := 3) hx hb dX8_lays_45 (by decide) ?_
    refine lv_iconst (v := 1) hx hb dX8_lays_46 (by decide) ?_
    obtain ⟨t_a_47_4, et_a_47_4⟩ : ∃ y : Nat → Int32, y = upd t_a_41_2 3 1 := ⟨_, rfl⟩
    have hF := ltE et_a_47_4 hF
    refine my_iast (g := t_a_47_4) (wn := [(a_t, .inr (8, [.ref a_t_a, v_t_fresh, v_t_aside, v_t_kept, .int t_keptMany, .int t_thrown, v_t_buffer, .int t_buffered, .int t_size, .int t_at, .int t_behind, .int t_kind, .int t_number, .int t_wrong, .int t_wrongAt, .int t_errorAt, v_t_moved, .int t_unused, v_t_written, .int t_writtenMany])), (a_t_a, .inl (t 0, 876, .inl t_a_47_4))]) hx hb hK hP hD hS 1 0 rfl rfl (vp_lit (by decide +kernel)) et_a_47_4 rfl dX8_lays_47 (fun H locs hP hD hS => ?_)
    refine lv_aload_n hx hb dX8_lays_48 rfl (lv_at hl 0 rfl) ?_
    refine va_get (D := D) (ci := 8) (v := .ref a_t_a) (C := RX8) (T := TX8) (N := 20) hx hb hts iw8 hown hK hP 0 rfl rfl 0 (by decide) hf7 (fun _ h9 => h9) rfl dX8_lays_49 ?_
    refine lv_sipush (v := 541) hx hb dX8_lays_52 (by decide) ?_
    refine lv_aload_n hx hb dX8_lays_55 rfl (lv_at hl 0 rfl) ?_
    refine va_get (D := D) (ci := 8) (v := .ref a_t_a) (C := RX8) (T := TX8) (N := 20) hx hb hts iw8 hown hK hP 0 rfl rfl 0 (by decide) hf7 (fun _ h9 => h9) rfl dX8_lays_56 ?_
    refine lv_iconst (v := 0) hx hb dX8_lays_59 (by decide) ?_
    refine my_iald (v := t_a_47_4 0) hx hb hK hP 1 0 rfl rfl (vp_lit (by decide +kernel)) rfl dX8_lays_60 ?_
    obtain ⟨t_a_61_5, et_a_61_5⟩ : ∃ y : Nat → Int32, y = upd t_a_47_4 541 (t_a_47_4 0) := ⟨_, rfl⟩
    have hF := ltE et_a_61_5 hF
    refine my_iast (g := t_a_61_5) (wn := [(a_t, .inr (8, [.ref a_t_a, v_t_fresh, v_t_aside, v_t_kept, .int t_keptMany, .int t_thrown, v_t_buffer, .int t_buffered, .int t_size, .int t_at, .int t_behind, .int t_kind, .int t_number, .int t_wrong, .int t_wrongAt, .int t_errorAt, v_t_moved, .int t_unused, v_t_written, .int t_writtenMany])), (a_t_a, .inl (t 0, 876, .inl t_a_61_5))]) hx hb hK hP hD hS 1 0 rfl rfl (vp_lit (by decide +kernel)) et_a_61_5 rfl dX8_lays_61 (fun H locs hP hD hS => ?_)
    cases hF
    exact we_vret hx hb hr hlocks dX8_lays_62 rfl hQ hP hD hS
  have hlp14 : ∀ n14 : Nat, ∀ (x1_14_6 : Int32) (t_a_14_7 : (Nat → Int32)) (H : Heap) (locs : List Loc) (ls : Array Slot), va_P D vwCl [(a_t, .inr (8, [.ref a_t_a, v_t_fresh, v_t_aside, v_t_kept, .int t_keptMany, .int t_thrown, v_t_buffer, .int t_buffered, .int t_size, .int t_at, .int t_behind, .int t_kind, .int t_number, .int t_wrong, .int t_wrongAt, .int t_errorAt, v_t_moved, .int t_unused, v_t_written, .int t_writtenMany])), (a_t_a, .inl (t 0, 876, .inl t_a_14_7))] H → va_D A [(a_t, .inr (8, [.ref a_t_a, v_t_fresh, v_t_aside, v_t_kept, .int t_keptMany, .int t_thrown, v_t_buffer, .int t_buffered, .int t_size, .int t_at, .int t_behind, .int t_kind, .int t_number, .int t_wrong, .int t_wrongAt, .int t_errorAt, v_t_moved, .int t_unused, v_t_written, .int t_writtenMany])), (a_t_a, .inl (t 0, 876, .inl t_a_14_7))] → va_S A s.heap H locs → lv_has ls 2 [(0, .ref a_t), (1, .int x1_14_6)] → f_X8_lays_14 k41_3 n14 x1_14_6 t_a_14_7 = some (t_a_') → W p l e rm_X8_lays s m args below meth c H locs 0 0 Q (F0 m 14 ls []) := by
    intro n14
    induction n14 with
    | zero =>
      intro x1_14_6 t_a_14_7 H locs ls hP hD hS hl hF
      cases (show none = some (t_a_') from hF)
    | succ n14 ih14 =>
      intro x1_14_6 t_a_14_7 H locs ls hP hD hS hl hF
      rw [f_X8_lays_14] at hF
      refine lv_iload_n hx hb dX8_lays_14 rfl (lv_at hl 1 rfl) ?_
      refine lv_aload_n hx hb dX8_lays_15 rfl (lv_at hl 0 rfl) ?_
      refine va_get (D := D) (ci := 8) (v := .ref a_t_a) (C := RX8) (T := TX8) (N := 20) hx hb hts iw8 hown hK hP 0 rfl rfl 0 (by decide) hf7 (fun _ h9 => h9) rfl dX8_lays_16 ?_
      refine lv_iconst (v := 0) hx hb dX8_lays_19 (by decide) ?_
      refine my_iald (v := t_a_14_7 0) hx hb hK hP 1 0 rfl rfl (vp_lit (by decide +kernel)) rfl dX8_lays_20 ?_
      refine lv_icmp_ge (tgt := 41) hx hb dX8_lays_21 (by decide) (fun c21 => ?_) (fun c21 => ?_)
      · have hF := brT c21 hF
        exact hk41_3 t_a_14_7 H locs ls hP hD hS (lv_sub hl [0] rfl) hF
      · have hF := brF c21 hF
        refine lv_aload_n hx hb dX8_lays_24 rfl (lv_at hl 0 rfl) ?_
        refine va_get (D := D) (ci := 8) (v := .ref a_t_a) (C := RX8) (T := TX8) (N := 20) hx hb hts iw8 hown hK hP 0 rfl rfl 0 (by decide) hf7 (fun _ h9 => h9) rfl dX8_lays_25 ?_
        refine lv_sipush (v := 380) hx hb dX8_lays_28 (by decide) ?_
        refine lv_iload_n hx hb dX8_lays_31 rfl (lv_at hl 1 rfl) ?_
        refine lv_iadd hx hb dX8_lays_32 ?_
        refine lv_iload_n hx hb dX8_lays_33 rfl (lv_at hl 1 rfl) ?_
        obtain ⟨g34_7, hF⟩ := gd hF
        obtain ⟨t_a_34_9, et_a_34_9⟩ : ∃ y : Nat → Int32, y = upd t_a_14_7 (380 + x1_14_6).toNatClampNeg x1_14_6 := ⟨_, rfl⟩
        have hF := ltE et_a_34_9 hF
        refine my_iast (g := t_a_34_9) (wn := [(a_t, .inr (8, [.ref a_t_a, v_t_fresh, v_t_aside, v_t_kept, .int t_keptMany, .int t_thrown, v_t_buffer, .int t_buffered, .int t_size, .int t_at, .int t_behind, .int t_kind, .int t_number, .int t_wrong, .int t_wrongAt, .int t_errorAt, v_t_moved, .int t_unused, v_t_written, .int t_writtenMany])), (a_t_a, .inl (t 0, 876, .inl t_a_34_9))]) hx hb hK hP hD hS 1 0 rfl rfl g34_7 et_a_34_9 rfl dX8_lays_34 (fun H locs hP hD hS => ?_)
        obtain ⟨y35_10, ey35_10⟩ : ∃ y : Int32, y = x1_14_6 + 1 := ⟨_, rfl⟩
        have hF := ltE ey35_10 hF
        refine lv_iinc (v := y35_10) (lv' := [(1, .int y35_10), (0, .ref a_t)]) hx hb dX8_lays_35 hl (k := 1) rfl (by rw [ey35_10]; rfl) (by decide) rfl (fun ls hl => ?_)
        refine lv_goto (tgt := 14) hx hb dX8_lays_38 (by decide) ?_
        exact ih14 y35_10 t_a_34_9 H locs ls hP hD hS (lv_sub hl [1, 0] rfl) hF
  exact hlp14 N 0 t_a_11_1 H locs ls hP hD hS (lv_sub hl [1, 0] rfl) hF
abbrev rm_X8_sets : Room := { frames := 0, cells := 0, slots := 0, locals := 0 }
theorem hd_X8_sets : yX8_sets.cls = RX8 ∧ yX8_sets.cls ≠ "java/lang/invoke/MethodHandle" ∧ yX8_sets.cls ≠ "java/lang/invoke/VarHandle" ∧ (parseMethodDescriptor yX8_sets.desc).map (fun d => d.parameters.length) = some 2 := by decide +kernel
set_option maxRecDepth 100000 in
set_option maxHeartbeats 4000000 in
theorem c_X8_sets (l : Launch) (D : va_G) (t : Nat → ClassId) (z : Nat) (x : Nat → Nat) (N : Nat) (a_p0 : Nat) (a_p1 : Nat) (n_p0 : Nat) (n_p1 : Nat) (p0_ : (Nat → Int32)) (p1_ : (Nat → Int32)) (sz : Nat) (p0_' : (Nat → Int32)) (hF : f_X8_sets N p0_ p1_ n_p0 n_p1 = some (p0_')) : WrM l D (TY t) z x yX8_sets wsX8_sets rm_X8_sets [.ref a_p0, .ref a_p1] [(a_p0, .inl (t 0, n_p0, .inl p0_)), (a_p1, .inl (t 0, n_p1, .inl p1_))] [(a_p0, .inl (t 0, n_p0, .inl p0_')), (a_p1, .inl (t 0, n_p1, .inl p1_))] sz none 0 0 := by
  refine wr_of (cc := cX8_sets) (maxL := 3) (ret := none) (by decide) rfl (Nat.le_of_ble_eq_true rfl) ?_
  intro p e s m args below meth c A Q hQ hx hb hr hml hts hown hlocks hin H locs hP hD hS hA hz hC ls hl
  have hown : s.vm.findClass RX8 = some m.cls := hown
  have hl : lv_has ls 3 [(0, .ref a_p0), (1, .ref a_p1)] := hl
  have hK := hC.1
  unfold f_X8_sets at hF
  refine lv_iconst (v := 0) hx hb dX8_sets_0 (by decide) ?_
  refine lv_istore_n (lv' := [(2, .int 0), (0, .ref a_p0), (1, .ref a_p1)]) hx hb dX8_sets_1 rfl hl (by decide) rfl (fun ls hl => ?_)
  obtain ⟨k21_2, ek21_2, hF⟩ := jnE hF
  have hk21_2 : ∀ (p0_21_1 : (Nat → Int32)) (H : Heap) (locs : List Loc) (ls : Array Slot), va_P D vwCl [(a_p0, .inl (t 0, n_p0, .inl p0_21_1)), (a_p1, .inl (t 0, n_p1, .inl p1_))] H → va_D A [(a_p0, .inl (t 0, n_p0, .inl p0_21_1)), (a_p1, .inl (t 0, n_p1, .inl p1_))] → va_S A s.heap H locs → lv_has ls 3 [] → k21_2 p0_21_1 = some (p0_') → W p l e rm_X8_sets s m args below meth c H locs 0 0 Q (F0 m 21 ls []) := by
    subst ek21_2
    intro p0_21_1 H locs ls hP hD hS hl hF
    cases hF
    exact we_vret hx hb hr hlocks dX8_sets_21 rfl hQ hP hD hS
  have hlp2 : ∀ n2 : Nat, ∀ (x2_2_3 : Int32) (p0_2_4 : (Nat → Int32)) (H : Heap) (locs : List Loc) (ls : Array Slot), va_P D vwCl [(a_p0, .inl (t 0, n_p0, .inl p0_2_4)), (a_p1, .inl (t 0, n_p1, .inl p1_))] H → va_D A [(a_p0, .inl (t 0, n_p0, .inl p0_2_4)), (a_p1, .inl (t 0, n_p1, .inl p1_))] → va_S A s.heap H locs → lv_has ls 3 [(0, .ref a_p0), (1, .ref a_p1), (2, .int x2_2_3)] → f_X8_sets_2 p1_ n_p0 n_p1 k21_2 n2 x2_2_3 p0_2_4 = some (p0_') → W p l e rm_X8_sets s m args below meth c H locs 0 0 Q (F0 m 2 ls []) := by
    intro n2
    induction n2 with
    | zero =>
      intro x2_2_3 p0_2_4 H locs ls hP hD hS hl hF
      cases (show none = some (p0_') from hF)
    | succ n2 ih2 =>
      intro x2_2_3 p0_2_4 H locs ls hP hD hS hl hF
      rw [f_X8_sets_2] at hF
      refine lv_iload_n hx hb dX8_sets_2 rfl (lv_at hl 2 rfl) ?_
      refine lv_sipush (v := 876) hx hb dX8_sets_3 (by decide) ?_
      refine lv_icmp_ge (tgt := 21) hx hb dX8_sets_6 (by decide) (fun c6 => ?_) (fun c6 => ?_)
      · have hF := brT c6 hF
        exact hk21_2 p0_2_4 H locs ls hP hD hS (lv_sub hl [] rfl) hF
      · have hF := brF c6 hF
        refine lv_aload_n hx hb dX8_sets_9 rfl (lv_at hl 0 rfl) ?_
        refine lv_iload_n hx hb dX8_sets_10 rfl (lv_at hl 2 rfl) ?_
        refine lv_aload_n hx hb dX8_sets_11 rfl (lv_at hl 1 rfl) ?_
        refine lv_iload_n hx hb dX8_sets_12 rfl (lv_at hl 2 rfl) ?_
        obtain ⟨g13_4, hF⟩ := gd hF
        refine my_iald (v := p1_ x2_2_3.toNatClampNeg) hx hb hK hP 1 0 rfl rfl g13_4 rfl dX8_sets_13 ?_
        obtain ⟨g14_6, hF⟩ := gd hF
        obtain ⟨p0_14_7, ep0_14_7⟩ : ∃ y : Nat → Int32, y = upd p0_2_4 x2_2_3.toNatClampNeg (p1_ x2_2_3.toNatClampNeg) := ⟨_, rfl⟩
        have hF := ltE ep0_14_7 hF
        refine my_iast (g := p0_14_7) (wn := [(a_p0, .inl (t 0, n_p0, .inl p0_14_7)), (a_p1, .inl (t 0, n_p1, .inl p1_))]) hx hb hK hP hD hS 0 0 rfl rfl g14_6 ep0_14_7 rfl dX8_sets_14 (fun H locs hP hD hS => ?_)
        obtain ⟨y15_8, ey15_8⟩ : ∃ y : Int32, y = x2_2_3 + 1 := ⟨_, rfl⟩
        have hF := ltE ey15_8 hF
        refine lv_iinc (v := y15_8) (lv' := [(2, .int y15_8), (0, .ref a_p0), (1, .ref a_p1)]) hx hb dX8_sets_15 hl (k := 2) rfl (by rw [ey15_8]; rfl) (by decide) rfl (fun ls hl => ?_)
        refine lv_goto (tgt := 2) hx hb dX8_sets_18 (by decide) ?_
        exact ih2 y15_8 p0_14_7 H locs ls hP hD hS (lv_sub hl [1, 2, 0] rfl) hF
  exact hlp2 N 0 p0_ H locs ls hP hD hS (lv_sub hl [1, 2, 0] rfl) hF
abbrev rm_X8_thrown : Room := { frames := 0, cells := 0, slots := 0, locals := 0 }
theorem hd_X8_thrown : yX8_thrown.cls = RX8 ∧ yX8_thrown.cls ≠ "java/lang/invoke/MethodHandle" ∧ yX8_thrown.cls ≠ "java/lang/invoke/VarHandle" ∧ (parseMethodDescriptor yX8_thrown.desc).map (fun d => d.parameters.length) = some 0 := by decide +kernel
set_option maxRecDepth 100000 in
set_option maxHeartbeats 4000000 in
theorem c_X8_thrown (l : Launch) (D : va_G) (t : Nat → ClassId) (z : Nat) (x : Nat → Nat) (a_t : Nat) (v_t_a : Value) (v_t_fresh : Value) (v_t_aside : Value) (v_t_kept : Value) (v_t_buffer : Value) (v_t_moved : Value) (v_t_written : Value) (t_keptMany : Int32) (t_thrown : Int32) (t_buffered : Int32) (t_size : Int32) (t_at : Int32) (t_behind : Int32) (t_kind : Int32) (t_number : Int32) (t_wrong : Int32) (t_wrongAt : Int32) (t_errorAt : Int32) (t_unused : Int32) (t_writtenMany : Int32) (H : Heap) (r : Int32) (hF : f_X8_thrown t_thrown = some (r)) : RdM l D (TY t) z x yX8_thrown wsX8_thrown rm_X8_thrown [.ref a_t] [(a_t, .inr (8, [v_t_a, v_t_fresh, v_t_aside, v_t_kept, .int t_keptMany, .int t_thrown, v_t_buffer, .int t_buffered, .int t_size, .int t_at, .int t_behind, .int t_kind, .int t_number, .int t_wrong, .int t_wrongAt, .int t_errorAt, v_t_moved, .int t_unused, v_t_written, .int t_writtenMany]))] H (some (.int r)) := by
  refine rd_of (cc := cX8_thrown) (maxL := 1) (ret := (some .int)) (by decide) rfl (Nat.le_of_ble_eq_true rfl) ?_
  intro p e s m args below meth c Q hQ hx hb hr hml hts hown hlocks hH hP hC ls hl
  have hown : s.vm.findClass RX8 = some m.cls := hown
  have hl : lv_has ls 1 [(0, .ref a_t)] := hl
  have hK := hC.1
  have iw8 : ∀ w ∈ wsX80, w ∈ wsX8_thrown := fun _ h => List.mem_cons_of_mem _ (List.mem_append_right _ h)
  have hf45 := hts (.fieldLink RX8 45 "CrackedColumnModel" "thrown" "I") (by decide +kernel)
  unfold f_X8_thrown at hF
  refine lv_aload_n hx hb dX8_thrown_0 rfl (lv_at hl 0 rfl) ?_
  refine va_get (D := D) (ci := 8) (v := .int t_thrown) (C := RX8) (T := TX8) (N := 20) hx hb hts iw8 hown hK hP 0 rfl rfl 5 (by decide) hf45 (fun _ h9 => h9) rfl dX8_thrown_1 ?_
  cases hF
  exact rd_iret hx hb hr hlocks dX8_thrown_4 rfl hQ
abbrev rm_X8_isIn : Room := { frames := 0, cells := 0, slots := 0, locals := 0 }
theorem hd_X8_isIn : yX8_isIn.cls = RX8 ∧ yX8_isIn.cls ≠ "java/lang/invoke/MethodHandle" ∧ yX8_isIn.cls ≠ "java/lang/invoke/VarHandle" ∧ (parseMethodDescriptor yX8_isIn.desc).map (fun d => d.parameters.length) = some 3 := by decide +kernel
set_option maxRecDepth 100000 in
set_option maxHeartbeats 4000000 in
theorem c_X8_isIn (l : Launch) (D : va_G) (t : Nat → ClassId) (z : Nat) (x : Nat → Nat) (p0 : Int32) (p1 : Int32) (p2 : Int32) (H : Heap) (r : Int32) (hF : f_X8_isIn p0 p1 p2 = some (r)) : RdM l D (TY t) z x yX8_isIn wsX8_isIn rm_X8_isIn [.int p0, .int p1, .int p2] [] H (some (.int r)) := by
  refine rd_of (cc := cX8_isIn) (maxL := 3) (ret := (some .boolean)) (by decide) rfl (Nat.le_of_ble_eq_true rfl) ?_
  intro p e s m args below meth c Q hQ hx hb hr hml hts hown hlocks hH hP hC ls hl
  have hown : s.vm.findClass RX8 = some m.cls := hown
  have hl : lv_has ls 3 [(0, .int p0), (1, .int p1), (2, .int p2)] := hl
  have hK := hC.1
  unfold f_X8_isIn at hF
  refine lv_iload_n hx hb dX8_isIn_0 rfl (lv_at hl 0 rfl) ?_
  refine lv_iload_n hx hb dX8_isIn_1 rfl (lv_at hl 1 rfl) ?_
  refine lv_icmp_lt (tgt := 14) hx hb dX8_isIn_2 (by decide) (fun c2 => ?_) (fun c2 => ?_)
  · have hF := brT c2 hF
    refine lv_iconst (v := 0) hx hb dX8_isIn_14 (by decide) ?_
    cases hF
    exact rd_zret hx hb hr hlocks dX8_isIn_15 rfl rfl hQ
  · have hF := brF c2 hF
    refine lv_iload_n hx hb dX8_isIn_5 rfl (lv_at hl 0 rfl) ?_
    refine lv_iload_n hx hb dX8_isIn_6 rfl (lv_at hl 2 rfl) ?_
    refine lv_icmp_gt (tgt := 14) hx hb dX8_isIn_7 (by decide) (fun c7 => ?_) (fun c7 => ?_)
    · have hF := brT c7 hF
      refine lv_iconst (v := 0) hx hb dX8_isIn_14 (by decide) ?_
      cases hF
      exact rd_zret hx hb hr hlocks dX8_isIn_15 rfl rfl hQ
    · have hF := brF c7 hF
      refine lv_iconst (v := 1) hx hb dX8_isIn_10 (by decide) ?_
      refine lv_goto (tgt := 15) hx hb dX8_isIn_11 (by decide) ?_
      cases hF
      exact rd_zret hx hb hr hlocks dX8_isIn_15 rfl rfl hQ
abbrev rm_X8_keeps : Room := { frames := 0, cells := 0, slots := 0, locals := 0 }
theorem hd_X8_keeps : yX8_keeps.cls = RX8 ∧ yX8_keeps.cls ≠ "java/lang/invoke/MethodHandle" ∧ yX8_keeps.cls ≠ "java/lang/invoke/VarHandle" ∧ (parseMethodDescriptor yX8_keeps.desc).map (fun d => d.parameters.length) = some 0 := by decide +kernel
set_option maxRecDepth 100000 in
set_option maxHeartbeats 4000000 in
theorem c_X8_keeps (l : Launch) (D : va_G) (t : Nat → ClassId) (z : Nat) (x : Nat → Nat) (N : Nat) (a_t : Nat) (a_t_a : Nat) (a_t_kept : Nat) (v_t_fresh : Value) (v_t_aside : Value) (v_t_buffer : Value) (v_t_moved : Value) (v_t_written : Value) (t_keptMany : Int32) (t_thrown : Int32) (t_buffered : Int32) (t_size : Int32) (t_at : Int32) (t_behind : Int32) (t_kind : Int32) (t_number : Int32) (t_wrong : Int32) (t_wrongAt : Int32) (t_errorAt : Int32) (t_unused : Int32) (t_writtenMany : Int32) (t_a_ : (Nat → Int32)) (t_kept_ : (Nat → Int32)) (sz : Nat) (t_keptMany' : Int32) (t_kept_' : (Nat → Int32)) (hF : f_X8_keeps N t_keptMany t_a_ t_kept_ = some (t_keptMany', t_kept_')) : WrM l D (TY t) z x yX8_keeps wsX8_keeps rm_X8_keeps [.ref a_t] [(a_t, .inr (8, [.ref a_t_a, v_t_fresh, v_t_aside, .ref a_t_kept, .int t_keptMany, .int t_thrown, v_t_buffer, .int t_buffered, .int t_size, .int t_at, .int t_behind, .int t_kind, .int t_number, .int t_wrong, .int t_wrongAt, .int t_errorAt, v_t_moved, .int t_unused, v_t_written, .int t_writtenMany])), (a_t_a, .inl (t 0, 876, .inl t_a_)), (a_t_kept, .inl (t 0, 7008, .inl t_kept_))] [(a_t, .inr (8, [.ref a_t_a, v_t_fresh, v_t_aside, .ref a_t_kept, .int t_keptMany', .int t_thrown, v_t_buffer, .int t_buffered, .int t_size, .int t_at, .int t_behind, .int t_kind, .int t_number, .int t_wrong, .int t_wrongAt, .int t_errorAt, v_t_moved, .int t_unused, v_t_written, .int t_writtenMany])), (a_t_a, .inl (t 0, 876, .inl t_a_)), (a_t_kept, .inl (t 0, 7008, .inl t_kept_'))] sz none 0 0 := by
  refine wr_of (cc := cX8_keeps) (maxL := 2) (ret := none) (by decide) rfl (Nat.le_of_ble_eq_true rfl) ?_
  intro p e s m args below meth c A Q hQ hx hb hr hml hts hown hlocks hin H locs hP hD hS hA hz hC ls hl
  have hown : s.vm.findClass RX8 = some m.cls := hown
  have hl : lv_has ls 2 [(0, .ref a_t)] := hl
  have hK := hC.1
  have iw8 : ∀ w ∈ wsX80, w ∈ wsX8_keeps := fun _ h => List.mem_cons_of_mem _ (List.mem_append_right _ h)
  have hf7 := hts (.fieldLink RX8 7 "CrackedColumnModel" "a" "[I") (by decide +kernel)
  have hf19 := hts (.fieldLink RX8 19 "CrackedColumnModel" "kept" "[I") (by decide +kernel)
  have hf48 := hts (.fieldLink RX8 48 "CrackedColumnModel" "keptMany" "I") (by decide +kernel)
  unfold f_X8_keeps at hF
  refine lv_aload_n hx hb dX8_keeps_0 rfl (lv_at hl 0 rfl) ?_
  refine va_get (D := D) (ci := 8) (v := .int t_keptMany) (C := RX8) (T := TX8) (N := 20) hx hb hts iw8 hown hK hP 0 rfl rfl 4 (by decide) hf48 (fun _ h9 => h9) rfl dX8_keeps_1 ?_
  refine lv_bipush (v := 8) hx hb dX8_keeps_4 (by decide) ?_
  obtain ⟨k50_3, ek50_3, hF⟩ := jnE hF
  have hk50_3 : ∀ (t_keptMany_50_1 : Int32) (t_kept_50_2 : (Nat → Int32)) (H : Heap) (locs : List Loc) (ls : Array Slot), va_P D vwCl [(a_t, .inr (8, [.ref a_t_a, v_t_fresh, v_t_aside, .ref a_t_kept, .int t_keptMany_50_1, .int t_thrown, v_t_buffer, .int t_buffered, .int t_size, .int t_at, .int t_behind, .int t_kind, .int t_number, .int t_wrong, .int t_wrongAt, .int t_errorAt, v_t_moved, .int t_unused, v_t_written, .int t_writtenMany])), (a_t_a, .inl (t 0, 876, .inl t_a_)), (a_t_kept, .inl (t 0, 7008, .inl t_kept_50_2))] H → va_D A [(a_t, .inr (8, [.ref a_t_a, v_t_fresh, v_t_aside, .ref a_t_kept, .int t_keptMany_50_1, .int t_thrown, v_t_buffer, .int t_buffered, .int t_size, .int t_at, .int t_behind, .int t_kind, .int t_number, .int t_wrong, .int t_wrongAt, .int t_errorAt, v_t_moved, .int t_unused, v_t_written, .int t_writtenMany])), (a_t_a, .inl (t 0, 876, .inl t_a_)), (a_t_kept, .inl (t 0, 7008, .inl t_kept_50_2))] → va_S A s.heap H locs → lv_has ls 2 [(0, .ref a_t)] → k50_3 t_keptMany_50_1 t_kept_50_2 = some (t_keptMany', t_kept_') → W p l e rm_X8_keeps s m args below meth c H locs 0 0 Q (F0 m 50 ls []) := by
    subst ek50_3
    intro t_keptMany_50_1 t_kept_50_2 H locs ls hP hD hS hl hF
    refine lv_iconst (v := 0) hx hb dX8_keeps_50 (by decide) ?_
    refine lv_istore_n (lv' := [(1, .int 0), (0, .ref a_t)]) hx hb dX8_keeps_51 rfl hl (by decide) rfl (fun ls hl => ?_)
    obtain ⟨k86_5, ek86_5, hF⟩ := jnE hF
    have hk86_5 : ∀ (t_kept_86_4 : (Nat → Int32)) (H : Heap) (locs : List Loc) (ls : Array Slot), va_P D vwCl [(a_t, .inr (8, [.ref a_t_a, v_t_fresh, v_t_aside, .ref a_t_kept, .int t_keptMany_50_1, .int t_thrown, v_t_buffer, .int t_buffered, .int t_size, .int t_at, .int t_behind, .int t_kind, .int t_number, .int t_wrong, .int t_wrongAt, .int t_errorAt, v_t_moved, .int t_unused, v_t_written, .int t_writtenMany])), (a_t_a, .inl (t 0, 876, .inl t_a_)), (a_t_kept, .inl (t 0, 7008, .inl t_kept_86_4))] H → va_D A [(a_t, .inr (8, [.ref a_t_a, v_t_fresh, v_t_aside, .ref a_t_kept, .int t_keptMany_50_1, .int t_thrown, v_t_buffer, .int t_buffered, .int t_size, .int t_at, .int t_behind, .int t_kind, .int t_number, .int t_wrong, .int t_wrongAt, .int t_errorAt, v_t_moved, .int t_unused, v_t_written, .int t_writtenMany])), (a_t_a, .inl (t 0, 876, .inl t_a_)), (a_t_kept, .inl (t 0, 7008, .inl t_kept_86_4))] → va_S A s.heap H locs → lv_has ls 2 [(0, .ref a_t)] → k86_5 t_kept_86_4 = some (t_keptMany', t_kept_') → W p l e rm_X8_keeps s m args below meth c H locs 0 0 Q (F0 m 86 ls []) := by
      subst ek86_5
      intro t_kept_86_4 H locs ls hP hD hS hl hF
      refine lv_aload_n hx hb dX8_keeps_86 rfl (lv_at hl 0 rfl) ?_
      refine lv_dup hx hb dX8_keeps_87 rfl ?_
      refine va_get (D := D) (ci := 8) (v := .int t_keptMany_50_1) (C := RX8) (T := TX8) (N := 20) hx hb hts iw8 hown hK hP 0 rfl rfl 4 (by decide) hf48 (fun _ h9 => h9) rfl dX8_keeps_88 ?_
      refine lv_iconst (v := 1) hx hb dX8_keeps_91 (by decide) ?_
      refine lv_iadd hx hb dX8_keeps_92 ?_
      refine lv_topi (fun y93_6 ey93_6 => ?_)
      have hF := ltE ey93_6 hF
      refine my_put (ty := .int) (v := .int y93_6) (ci := 8) (C := RX8) (T := TX8) (N := 20) (wn := [(a_t, .inr (8, [.ref a_t_a, v_t_fresh, v_t_aside, .ref a_t_kept, .int y93_6, .int t_thrown, v_t_buffer, .int t_buffered, .int t_size, .int t_at, .int t_behind, .int t_kind, .int t_number, .int t_wrong, .int t_wrongAt, .int t_errorAt, v_t_moved, .int t_unused, v_t_written, .int t_writtenMany])), (a_t_a, .inl (t 0, 876, .inl t_a_)), (a_t_kept, .inl (t 0, 7008, .inl t_kept_86_4))]) hx hb hts iw8 tyX8 tyX8_ok nmX8 hown hK hP hD hS 0 rfl rfl 4 (by decide) hf48 (fun _ h9 => h9) rfl (by decide +kernel) rfl rfl (Nat.le_of_ble_eq_true rfl) rfl dX8_keeps_93 (fun H locs hP hD hS => ?_)
      cases hF
      exact we_vret hx hb hr hlocks dX8_keeps_96 rfl hQ hP hD hS
    have hlp52 : ∀ n52 : Nat, ∀ (x1_52_7 : Int32) (t_kept_52_8 : (Nat → Int32)) (H : Heap) (locs : List Loc) (ls : Array Slot), va_P D vwCl [(a_t, .inr (8, [.ref a_t_a, v_t_fresh, v_t_aside, .ref a_t_kept, .int t_keptMany_50_1, .int t_thrown, v_t_buffer, .int t_buffered, .int t_size, .int t_at, .int t_behind, .int t_kind, .int t_number, .int t_wrong, .int t_wrongAt, .int t_errorAt, v_t_moved, .int t_unused, v_t_written, .int t_writtenMany])), (a_t_a, .inl (t 0, 876, .inl t_a_)), (a_t_kept, .inl (t 0, 7008, .inl t_kept_52_8))] H → va_D A [(a_t, .inr (8, [.ref a_t_a, v_t_fresh, v_t_aside, .ref a_t_kept, .int t_keptMany_50_1, .int t_thrown, v_t_buffer, .int t_buffered, .int t_size, .int t_at, .int t_behind, .int t_kind, .int t_number, .int t_wrong, .int t_wrongAt, .int t_errorAt, v_t_moved, .int t_unused, v_t_written, .int t_writtenMany])), (a_t_a, .inl (t 0, 876, .inl t_a_)), (a_t_kept, .inl (t 0, 7008, .inl t_kept_52_8))] → va_S A s.heap H locs → lv_has ls 2 [(0, .ref a_t), (1, .int x1_52_7)] → f_X8_keeps_52 t_a_ t_keptMany_50_1 k86_5 n52 x1_52_7 t_kept_52_8 = some (t_keptMany', t_kept_') → W p l e rm_X8_keeps s m args below meth c H locs 0 0 Q (F0 m 52 ls []) := by
      intro n52
      induction n52 with
      | zero =>
        intro x1_52_7 t_kept_52_8 H locs ls hP hD hS hl hF
        cases (show none = some (t_keptMany', t_kept_') from hF)
      | succ n52 ih52 =>
        intro x1_52_7 t_kept_52_8 H locs ls hP hD hS hl hF
        rw [f_X8_keeps_52] at hF
        refine lv_iload_n hx hb dX8_keeps_52 rfl (lv_at hl 1 rfl) ?_
        refine lv_sipush (v := 876) hx hb dX8_keeps_53 (by decide) ?_
        refine lv_icmp_ge (tgt := 86) hx hb dX8_keeps_56 (by decide) (fun c56 => ?_) (fun c56 => ?_)
        · have hF := brT c56 hF
          exact hk86_5 t_kept_52_8 H locs ls hP hD hS (lv_sub hl [0] rfl) hF
        · have hF := brF c56 hF
          refine lv_aload_n hx hb dX8_keeps_59 rfl (lv_at hl 0 rfl) ?_
          refine va_get (D := D) (ci := 8) (v := .ref a_t_kept) (C := RX8) (T := TX8) (N := 20) hx hb hts iw8 hown hK hP 0 rfl rfl 3 (by decide) hf19 (fun _ h9 => h9) rfl dX8_keeps_60 ?_
          refine lv_sipush (v := 876) hx hb dX8_keeps_63 (by decide) ?_
          refine lv_aload_n hx hb dX8_keeps_66 rfl (lv_at hl 0 rfl) ?_
          refine va_get (D := D) (ci := 8) (v := .int t_keptMany_50_1) (C := RX8) (T := TX8) (N := 20) hx hb hts iw8 hown hK hP 0 rfl rfl 4 (by decide) hf48 (fun _ h9 => h9) rfl dX8_keeps_67 ?_
          refine lv_imul hx hb dX8_keeps_70 ?_
          refine lv_iload_n hx hb dX8_keeps_71 rfl (lv_at hl 1 rfl) ?_
          refine lv_iadd hx hb dX8_keeps_72 ?_
          refine lv_aload_n hx hb dX8_keeps_73 rfl (lv_at hl 0 rfl) ?_
          refine va_get (D := D) (ci := 8) (v := .ref a_t_a) (C := RX8) (T := TX8) (N := 20) hx hb hts iw8 hown hK hP 0 rfl rfl 0 (by decide) hf7 (fun _ h9 => h9) rfl dX8_keeps_74 ?_
          refine lv_iload_n hx hb dX8_keeps_77 rfl (lv_at hl 1 rfl) ?_
          obtain ⟨g78_8, hF⟩ := gd hF
          refine my_iald (v := t_a_ x1_52_7.toNatClampNeg) hx hb hK hP 1 0 rfl rfl g78_8 rfl dX8_keeps_78 ?_
          obtain ⟨g79_10, hF⟩ := gd hF
          obtain ⟨t_kept_79_11, et_kept_79_11⟩ : ∃ y : Nat → Int32, y = upd t_kept_52_8 ((876 * t_keptMany_50_1) + x1_52_7).toNatClampNeg (t_a_ x1_52_7.toNatClampNeg) := ⟨_, rfl⟩
          have hF := ltE et_kept_79_11 hF
          refine my_iast (g := t_kept_79_11) (wn := [(a_t, .inr (8, [.ref a_t_a, v_t_fresh, v_t_aside, .ref a_t_kept, .int t_keptMany_50_1, .int t_thrown, v_t_buffer, .int t_buffered, .int t_size, .int t_at, .int t_behind, .int t_kind, .int t_number, .int t_wrong, .int t_wrongAt, .int t_errorAt, v_t_moved, .int t_unused, v_t_written, .int t_writtenMany])), (a_t_a, .inl (t 0, 876, .inl t_a_)), (a_t_kept, .inl (t 0, 7008, .inl t_kept_79_11))]) hx hb hK hP hD hS 2 0 rfl rfl g79_10 et_kept_79_11 rfl dX8_keeps_79 (fun H locs hP hD hS => ?_)
          obtain ⟨y80_12, ey80_12⟩ : ∃ y : Int32, y = x1_52_7 + 1 := ⟨_, rfl⟩
          have hF := ltE ey80_12 hF
          refine lv_iinc (v := y80_12) (lv' := [(1, .int y80_12), (0, .ref a_t)]) hx hb dX8_keeps_80 hl (k := 1) rfl (by rw [ey80_12]; rfl) (by decide) rfl (fun ls hl => ?_)
          refine lv_goto (tgt := 52) hx hb dX8_keeps_83 (by decide) ?_
          exact ih52 y80_12 t_kept_79_11 H locs ls hP hD hS (lv_sub hl [1, 0] rfl) hF
    exact hlp52 N 0 t_kept_50_2 H locs ls hP hD hS (lv_sub hl [1, 0] rfl) hF
  refine lv_icmp_ne (tgt := 50) hx hb dX8_keeps_6 (by decide) (fun c6 => ?_) (fun c6 => ?_)
  · have hF := brF c6 hF
    exact hk50_3 t_keptMany t_kept_ H locs ls hP hD hS hl hF
  · have hF := brT c6 hF
    refine lv_iconst (v := 0) hx hb dX8_keeps_9 (by decide) ?_
    refine lv_istore_n (lv' := [(1, .int 0), (0, .ref a_t)]) hx hb dX8_keeps_10 rfl hl (by decide) rfl (fun ls hl => ?_)
    obtain ⟨k40_14, ek40_14, hF⟩ := jnE hF
    have hk40_14 : ∀ (t_kept_40_13 : (Nat → Int32)) (H : Heap) (locs : List Loc) (ls : Array Slot), va_P D vwCl [(a_t, .inr (8, [.ref a_t_a, v_t_fresh, v_t_aside, .ref a_t_kept, .int t_keptMany, .int t_thrown, v_t_buffer, .int t_buffered, .int t_size, .int t_at, .int t_behind, .int t_kind, .int t_number, .int t_wrong, .int t_wrongAt, .int t_errorAt, v_t_moved, .int t_unused, v_t_written, .int t_writtenMany])), (a_t_a, .inl (t 0, 876, .inl t_a_)), (a_t_kept, .inl (t 0, 7008, .inl t_kept_40_13))] H → va_D A [(a_t, .inr (8, [.ref a_t_a, v_t_fresh, v_t_aside, .ref a_t_kept, .int t_keptMany, .int t_thrown, v_t_buffer, .int t_buffered, .int t_size, .int t_at, .int t_behind, .int t_kind, .int t_number, .int t_wrong, .int t_wrongAt, .int t_errorAt, v_t_moved, .int t_unused, v_t_written, .int t_writtenMany])), (a_t_a, .inl (t 0, 876, .inl t_a_)), (a_t_kept, .inl (t 0, 7008, .inl t_kept_40_13))] → va_S A s.heap H locs → lv_has ls 2 [(0, .ref a_t)] → k40_14 t_kept_40_13 = some (t_keptMany', t_kept_') → W p l e rm_X8_keeps s m args below meth c H locs 0 0 Q (F0 m 40 ls []) := by
      subst ek40_14
      intro t_kept_40_13 H locs ls hP hD hS hl hF
      refine lv_aload_n hx hb dX8_keeps_40 rfl (lv_at hl 0 rfl) ?_
      refine lv_dup hx hb dX8_keeps_41 rfl ?_
      refine va_get (D := D) (ci := 8) (v := .int t_keptMany) (C := RX8) (T := TX8) (N := 20) hx hb hts iw8 hown hK hP 0 rfl rfl 4 (by decide) hf48 (fun _ h9 => h9) rfl dX8_keeps_42 ?_
      refine lv_iconst (v := 1) hx hb dX8_keeps_45 (by decide) ?_
      refine lv_isub hx hb dX8_keeps_46 ?_
      refine lv_topi (fun y47_15 ey47_15 => ?_)
      have hF := ltE ey47_15 hF
      refine my_put (ty := .int) (v := .int y47_15) (ci := 8) (C := RX8) (T := TX8) (N := 20) (wn := [(a_t, .inr (8, [.ref a_t_a, v_t_fresh, v_t_aside, .ref a_t_kept, .int y47_15, .int t_thrown, v_t_buffer, .int t_buffered, .int t_size, .int t_at, .int t_behind, .int t_kind, .int t_number, .int t_wrong, .int t_wrongAt, .int t_errorAt, v_t_moved, .int t_unused, v_t_written, .int t_writtenMany])), (a_t_a, .inl (t 0, 876, .inl t_a_)), (a_t_kept, .inl (t 0, 7008, .inl t_kept_40_13))]) hx hb hts iw8 tyX8 tyX8_ok nmX8 hown hK hP hD hS 0 rfl rfl 4 (by decide) hf48 (fun _ h9 => h9) rfl (by decide +kernel) rfl rfl (Nat.le_of_ble_eq_true rfl) rfl dX8_keeps_47 (fun H locs hP hD hS => ?_)
      exact hk50_3 y47_15 t_kept_40_13 H locs ls hP hD hS hl hF
    have hlp11 : ∀ n11 : Nat, ∀ (x1_11_16 : Int32) (t_kept_11_17 : (Nat → Int32)) (H : Heap) (locs : List Loc) (ls : Array Slot), va_P D vwCl [(a_t, .inr (8, [.ref a_t_a, v_t_fresh, v_t_aside, .ref a_t_kept, .int t_keptMany, .int t_thrown, v_t_buffer, .int t_buffered, .int t_size, .int t_at, .int t_behind, .int t_kind, .int t_number, .int t_wrong, .int t_wrongAt, .int t_errorAt, v_t_moved, .int t_unused, v_t_written, .int t_writtenMany])), (a_t_a, .inl (t 0, 876, .inl t_a_)), (a_t_kept, .inl (t 0, 7008, .inl t_kept_11_17))] H → va_D A [(a_t, .inr (8, [.ref a_t_a, v_t_fresh, v_t_aside, .ref a_t_kept, .int t_keptMany, .int t_thrown, v_t_buffer, .int t_buffered, .int t_size, .int t_at, .int t_behind, .int t_kind, .int t_number, .int t_wrong, .int t_wrongAt, .int t_errorAt, v_t_moved, .int t_unused, v_t_written, .int t_writtenMany])), (a_t_a, .inl (t 0, 876, .inl t_a_)), (a_t_kept, .inl (t 0, 7008, .inl t_kept_11_17))] → va_S A s.heap H locs → lv_has ls 2 [(0, .ref a_t), (1, .int x1_11_16)] → f_X8_keeps_11 k40_14 n11 x1_11_16 t_kept_11_17 = some (t_keptMany', t_kept_') → W p l e rm_X8_keeps s m args below meth c H locs 0 0 Q (F0 m 11 ls []) := by
      intro n11
      induction n11 with
      | zero =>
        intro x1_11_16 t_kept_11_17 H locs ls hP hD hS hl hF
        cases (show none = some (t_keptMany', t_kept_') from hF)
      | succ n11 ih11 =>
        intro x1_11_16 t_kept_11_17 H locs ls hP hD hS hl hF
        rw [f_X8_keeps_11] at hF
        refine lv_iload_n hx hb dX8_keeps_11 rfl (lv_at hl 1 rfl) ?_
        refine lv_sipush (v := 6132) hx hb dX8_keeps_12 (by decide) ?_
        refine lv_icmp_ge (tgt := 40) hx hb dX8_keeps_15 (by decide) (fun c15 => ?_) (fun c15 => ?_)
        · have hF := brT c15 hF
          exact hk40_14 t_kept_11_17 H locs ls hP hD hS (lv_sub hl [0] rfl) hF
        · have hF := brF c15 hF
          refine lv_aload_n hx hb dX8_keeps_18 rfl (lv_at hl 0 rfl) ?_
          refine va_get (D := D) (ci := 8) (v := .ref a_t_kept) (C := RX8) (T := TX8) (N := 20) hx hb hts iw8 hown hK hP 0 rfl rfl 3 (by decide) hf19 (fun _ h9 => h9) rfl dX8_keeps_19 ?_
          refine lv_iload_n hx hb dX8_keeps_22 rfl (lv_at hl 1 rfl) ?_
          refine lv_aload_n hx hb dX8_keeps_23 rfl (lv_at hl 0 rfl) ?_
          refine va_get (D := D) (ci := 8) (v := .ref a_t_kept) (C := RX8) (T := TX8) (N := 20) hx hb hts iw8 hown hK hP 0 rfl rfl 3 (by decide) hf19 (fun _ h9 => h9) rfl dX8_keeps_24 ?_
          refine lv_iload_n hx hb dX8_keeps_27 rfl (lv_at hl 1 rfl) ?_
          refine lv_sipush (v := 876) hx hb dX8_keeps_28 (by decide) ?_
          refine lv_iadd hx hb dX8_keeps_31 ?_
          obtain ⟨g32_17, hF⟩ := gd hF
          refine my_iald (v := t_kept_11_17 (x1_11_16 + 876).toNatClampNeg) hx hb hK hP 2 0 rfl rfl g32_17 rfl dX8_keeps_32 ?_
          obtain ⟨g33_19, hF⟩ := gd hF
          obtain ⟨t_kept_33_20, et_kept_33_20⟩ : ∃ y : Nat → Int32, y = upd t_kept_11_17 x1_11_16.toNatClampNeg (t_kept_11_17 (x1_11_16 + 876).toNatClampNeg) := ⟨_, rfl⟩
          have hF := ltE et_kept_33_20 hF
          refine my_iast (g := t_kept_33_20) (wn := [(a_t, .inr (8, [.ref a_t_a, v_t_fresh, v_t_aside, .ref a_t_kept, .int t_keptMany, .int t_thrown, v_t_buffer, .int t_buffered, .int t_size, .int t_at, .int t_behind, .int t_kind, .int t_number, .int t_wrong, .int t_wrongAt, .int t_errorAt, v_t_moved, .int t_unused, v_t_written, .int t_writtenMany])), (a_t_a, .inl (t 0, 876, .inl t_a_)), (a_t_kept, .inl (t 0, 7008, .inl t_kept_33_20))]) hx hb hK hP hD hS 2 0 rfl rfl g33_19 et_kept_33_20 rfl dX8_keeps_33 (fun H locs hP hD hS => ?_)
          obtain ⟨y34_21, ey34_21⟩ : ∃ y : Int32, y = x1_11_16 + 1 := ⟨_, rfl⟩
          have hF := ltE ey34_21 hF
          refine lv_iinc (v := y34_21) (lv' := [(1, .int y34_21), (0, .ref a_t)]) hx hb dX8_keeps_34 hl (k := 1) rfl (by rw [ey34_21]; rfl) (by decide) rfl (fun ls hl => ?_)
          refine lv_goto (tgt := 11) hx hb dX8_keeps_37 (by decide) ?_
          exact ih11 y34_21 t_kept_33_20 H locs ls hP hD hS (lv_sub hl [1, 0] rfl) hF
    exact hlp11 N 0 t_kept_ H locs ls hP hD hS (lv_sub hl [1, 0] rfl) hF
abbrev rm_X8_undo : Room := { frames := 0, cells := 0, slots := 0, locals := 0 }
theorem hd_X8_undo : yX8_undo.cls = RX8 ∧ yX8_undo.cls ≠ "java/lang/invoke/MethodHandle" ∧ yX8_undo.cls ≠ "java/lang/invoke/VarHandle" ∧ (parseMethodDescriptor yX8_undo.desc).map (fun d => d.parameters.length) = some 0 := by decide +kernel
set_option maxRecDepth 100000 in
set_option maxHeartbeats 4000000 in
theorem c_X8_undo (l : Launch) (D : va_G) (t : Nat → ClassId) (z : Nat) (x : Nat → Nat) (N : Nat) (a_t : Nat) (a_t_a : Nat) (a_t_kept : Nat) (v_t_fresh : Value) (v_t_aside : Value) (v_t_buffer : Value) (v_t_moved : Value) (v_t_written : Value) (t_keptMany : Int32) (t_thrown : Int32) (t_buffered : Int32) (t_size : Int32) (t_at : Int32) (t_behind : Int32) (t_kind : Int32) (t_number : Int32) (t_wrong : Int32) (t_wrongAt : Int32) (t_errorAt : Int32) (t_unused : Int32) (t_writtenMany : Int32) (t_a_ : (Nat → Int32)) (t_kept_ : (Nat → Int32)) (sz : Nat) (r : Int32) (t_keptMany' : Int32) (t_thrown' : Int32) (t_a_' : (Nat → Int32)) (hF : f_X8_undo N t_keptMany t_a_ t_kept_ = some (r, t_keptMany', t_thrown', t_a_')) : WrM l D (TY t) z x yX8_undo wsX8_undo rm_X8_undo [.ref a_t] [(a_t, .inr (8, [.ref a_t_a, v_t_fresh, v_t_aside, .ref a_t_kept, .int t_keptMany, .int t_thrown, v_t_buffer, .int t_buffered, .int t_size, .int t_at, .int t_behind, .int t_kind, .int t_number, .int t_wrong, .int t_wrongAt, .int t_errorAt, v_t_moved, .int t_unused, v_t_written, .int t_writtenMany])), (a_t_a, .inl (t 0, 876, .inl t_a_)), (a_t_kept, .inl (t 0, 7008, .inl t_kept_))] [(a_t, .inr (8, [.ref a_t_a, v_t_fresh, v_t_aside, .ref a_t_kept, .int t_keptMany', .int t_thrown', v_t_buffer, .int t_buffered, .int t_size, .int t_at, .int t_behind, .int t_kind, .int t_number, .int t_wrong, .int t_wrongAt, .int t_errorAt, v_t_moved, .int t_unused, v_t_written, .int t_writtenMany])), (a_t_a, .inl (t 0, 876, .inl t_a_')), (a_t_kept, .inl (t 0, 7008, .inl t_kept_))] sz (some (.int r)) 0 0 := by
  obtain ⟨T9, hT⟩ : ∃ T9, T9 = (r, t_keptMany', t_thrown', t_a_') := ⟨_, rfl⟩
  rw [← hT] at hF
  obtain rfl : r = T9.1 := by rw [hT]
  obtain rfl : t_keptMany' = T9.2.1 := by rw [hT]
  obtain rfl : t_thrown' = T9.2.2.1 := by rw [hT]
  obtain rfl : t_a_' = T9.2.2.2 := by rw [hT]
  clear hT
  refine wr_of (cc := cX8_undo) (maxL := 2) (ret := (some .int)) (by decide) rfl (Nat.le_of_ble_eq_true rfl) ?_
  intro p e s m args below meth c A Q hQ hx hb hr hml hts hown hlocks hin H locs hP hD hS hA hz hC ls hl
  have hown : s.vm.findClass RX8 = some m.cls := hown
  have hl : lv_has ls 2 [(0, .ref a_t)] := hl
  have hK := hC.1
  have iw8 : ∀ w ∈ wsX80, w ∈ wsX8_undo := fun _ h => List.mem_cons_of_mem _ (List.mem_append_right _ h)
  have hf7 := hts (.fieldLink RX8 7 "CrackedColumnModel" "a" "[I") (by decide +kernel)
  have hf19 := hts (.fieldLink RX8 19 "CrackedColumnModel" "kept" "[I") (by decide +kernel)
  have hf45 := hts (.fieldLink RX8 45 "CrackedColumnModel" "thrown" "I") (by decide +kernel)
  have hf48 := hts (.fieldLink RX8 48 "CrackedColumnModel" "keptMany" "I") (by decide +kernel)
  unfold f_X8_undo at hF
  refine lv_aload_n hx hb dX8_undo_0 rfl (lv_at hl 0 rfl) ?_
  refine lv_aload_n hx hb dX8_undo_1 rfl (lv_at hl 0 rfl) ?_
  refine va_get (D := D) (ci := 8) (v := .int t_keptMany) (C := RX8) (T := TX8) (N := 20) hx hb hts iw8 hown hK hP 0 rfl rfl 4 (by decide) hf48 (fun _ h9 => h9) rfl dX8_undo_2 ?_
  obtain ⟨k13_2, ek13_2, hF⟩ := jnE hF
  have hk13_2 : ∀ (s0_13_1 : Int32) (H : Heap) (locs : List Loc) (ls : Array Slot), va_P D vwCl [(a_t, .inr (8, [.ref a_t_a, v_t_fresh, v_t_aside, .ref a_t_kept, .int t_keptMany, .int t_thrown, v_t_buffer, .int t_buffered, .int t_size, .int t_at, .int t_behind, .int t_kind, .int t_number, .int t_wrong, .int t_wrongAt, .int t_errorAt, v_t_moved, .int t_unused, v_t_written, .int t_writtenMany])), (a_t_a, .inl (t 0, 876, .inl t_a_)), (a_t_kept, .inl (t 0, 7008, .inl t_kept_))] H → va_D A [(a_t, .inr (8, [.ref a_t_a, v_t_fresh, v_t_aside, .ref a_t_kept, .int t_keptMany, .int t_thrown, v_t_buffer, .int t_buffered, .int t_size, .int t_at, .int t_behind, .int t_kind, .int t_number, .int t_wrong, .int t_wrongAt, .int t_errorAt, v_t_moved, .int t_unused, v_t_written, .int t_writtenMany])), (a_t_a, .inl (t 0, 876, .inl t_a_)), (a_t_kept, .inl (t 0, 7008, .inl t_kept_))] → va_S A s.heap H locs → lv_has ls 2 [(0, .ref a_t)] → k13_2 s0_13_1 = some T9 → W p l e rm_X8_undo s m args below meth c H locs 0 0 Q (F0 m 13 ls [.int s0_13_1, .ref a_t]) := by
    subst ek13_2
    intro s0_13_1 H locs ls hP hD hS hl hF
    refine my_put (ty := .int) (v := .int s0_13_1) (ci := 8) (C := RX8) (T := TX8) (N := 20) (wn := [(a_t, .inr (8, [.ref a_t_a, v_t_fresh, v_t_aside, .ref a_t_kept, .int t_keptMany, .int s0_13_1, v_t_buffer, .int t_buffered, .int t_size, .int t_at, .int t_behind, .int t_kind, .int t_number, .int t_wrong, .int t_wrongAt, .int t_errorAt, v_t_moved, .int t_unused, v_t_written, .int t_writtenMany])), (a_t_a, .inl (t 0, 876, .inl t_a_)), (a_t_kept, .inl (t 0, 7008, .inl t_kept_))]) hx hb hts iw8 tyX8 tyX8_ok nmX8 hown hK hP hD hS 0 rfl rfl 5 (by decide) hf45 (fun _ h9 => h9) rfl (by decide +kernel) rfl rfl (Nat.le_of_ble_eq_true rfl) rfl dX8_undo_13 (fun H locs hP hD hS => ?_)
    refine lv_aload_n hx hb dX8_undo_16 rfl (lv_at hl 0 rfl) ?_
    refine va_get (D := D) (ci := 8) (v := .int s0_13_1) (C := RX8) (T := TX8) (N := 20) hx hb hts iw8 hown hK hP 0 rfl rfl 5 (by decide) hf45 (fun _ h9 => h9) rfl dX8_undo_17 ?_
    refine lv_if_le (tgt := 25) hx hb dX8_undo_20 (by decide) (fun c20 => ?_) (fun c20 => ?_)
    · have hF := brT c20 hF
      refine lv_aload_n hx hb dX8_undo_25 rfl (lv_at hl 0 rfl) ?_
      refine lv_dup hx hb dX8_undo_26 rfl ?_
      refine va_get (D := D) (ci := 8) (v := .int t_keptMany) (C := RX8) (T := TX8) (N := 20) hx hb hts iw8 hown hK hP 0 rfl rfl 4 (by decide) hf48 (fun _ h9 => h9) rfl dX8_undo_27 ?_
      refine lv_iconst (v := 1) hx hb dX8_undo_30 (by decide) ?_
      refine lv_isub hx hb dX8_undo_31 ?_
      refine lv_topi (fun y32_3 ey32_3 => ?_)
      have hF := ltE ey32_3 hF
      refine my_put (ty := .int) (v := .int y32_3) (ci := 8) (C := RX8) (T := TX8) (N := 20) (wn := [(a_t, .inr (8, [.ref a_t_a, v_t_fresh, v_t_aside, .ref a_t_kept, .int y32_3, .int s0_13_1, v_t_buffer, .int t_buffered, .int t_size, .int t_at, .int t_behind, .int t_kind, .int t_number, .int t_wrong, .int t_wrongAt, .int t_errorAt, v_t_moved, .int t_unused, v_t_written, .int t_writtenMany])), (a_t_a, .inl (t 0, 876, .inl t_a_)), (a_t_kept, .inl (t 0, 7008, .inl t_kept_))]) hx hb hts iw8 tyX8 tyX8_ok nmX8 hown hK hP hD hS 0 rfl rfl 4 (by decide) hf48 (fun _ h9 => h9) rfl (by decide +kernel) rfl rfl (Nat.le_of_ble_eq_true rfl) rfl dX8_undo_32 (fun H locs hP hD hS => ?_)
      refine lv_iconst (v := 0) hx hb dX8_undo_35 (by decide) ?_
      refine lv_istore_n (lv' := [(1, .int 0), (0, .ref a_t)]) hx hb dX8_undo_36 rfl hl (by decide) rfl (fun ls hl => ?_)
      obtain ⟨k71_5, ek71_5, hF⟩ := jnE hF
      have hk71_5 : ∀ (t_a_71_4 : (Nat → Int32)) (H : Heap) (locs : List Loc) (ls : Array Slot), va_P D vwCl [(a_t, .inr (8, [.ref a_t_a, v_t_fresh, v_t_aside, .ref a_t_kept, .int y32_3, .int s0_13_1, v_t_buffer, .int t_buffered, .int t_size, .int t_at, .int t_behind, .int t_kind, .int t_number, .int t_wrong, .int t_wrongAt, .int t_errorAt, v_t_moved, .int t_unused, v_t_written, .int t_writtenMany])), (a_t_a, .inl (t 0, 876, .inl t_a_71_4)), (a_t_kept, .inl (t 0, 7008, .inl t_kept_))] H → va_D A [(a_t, .inr (8, [.ref a_t_a, v_t_fresh, v_t_aside, .ref a_t_kept, .int y32_3, .int s0_13_1, v_t_buffer, .int t_buffered, .int t_size, .int t_at, .int t_behind, .int t_kind, .int t_number, .int t_wrong, .int t_wrongAt, .int t_errorAt, v_t_moved, .int t_unused, v_t_written, .int t_writtenMany])), (a_t_a, .inl (t 0, 876, .inl t_a_71_4)), (a_t_kept, .inl (t 0, 7008, .inl t_kept_))] → va_S A s.heap H locs → lv_has ls 2 [(0, .ref a_t)] → k71_5 t_a_71_4 = some T9 → W p l e rm_X8_undo s m args below meth c H locs 0 0 Q (F0 m 71 ls []) := by
        subst ek71_5
        intro t_a_71_4 H locs ls hP hD hS hl hF
        refine lv_aload_n hx hb dX8_undo_71 rfl (lv_at hl 0 rfl) ?_
        refine va_get (D := D) (ci := 8) (v := .int y32_3) (C := RX8) (T := TX8) (N := 20) hx hb hts iw8 hown hK hP 0 rfl rfl 4 (by decide) hf48 (fun _ h9 => h9) rfl dX8_undo_72 ?_
        cases hF
        exact we_iret hx hb hr hlocks dX8_undo_75 rfl hQ hP hD hS
      have hlp37 : ∀ n37 : Nat, ∀ (x1_37_6 : Int32) (t_a_37_7 : (Nat → Int32)) (H : Heap) (locs : List Loc) (ls : Array Slot), va_P D vwCl [(a_t, .inr (8, [.ref a_t_a, v_t_fresh, v_t_aside, .ref a_t_kept, .int y32_3, .int s0_13_1, v_t_buffer, .int t_buffered, .int t_size, .int t_at, .int t_behind, .int t_kind, .int t_number, .int t_wrong, .int t_wrongAt, .int t_errorAt, v_t_moved, .int t_unused, v_t_written, .int t_writtenMany])), (a_t_a, .inl (t 0, 876, .inl t_a_37_7)), (a_t_kept, .inl (t 0, 7008, .inl t_kept_))] H → va_D A [(a_t, .inr (8, [.ref a_t_a, v_t_fresh, v_t_aside, .ref a_t_kept, .int y32_3, .int s0_13_1, v_t_buffer, .int t_buffered, .int t_size, .int t_at, .int t_behind, .int t_kind, .int t_number, .int t_wrong, .int t_wrongAt, .int t_errorAt, v_t_moved, .int t_unused, v_t_written, .int t_writtenMany])), (a_t_a, .inl (t 0, 876, .inl t_a_37_7)), (a_t_kept, .inl (t 0, 7008, .inl t_kept_))] → va_S A s.heap H locs → lv_has ls 2 [(0, .ref a_t), (1, .int x1_37_6)] → f_X8_undo_37 t_kept_ y32_3 k71_5 n37 x1_37_6 t_a_37_7 = some T9 → W p l e rm_X8_undo s m args below meth c H locs 0 0 Q (F0 m 37 ls []) := by
        intro n37
        induction n37 with
        | zero =>
          intro x1_37_6 t_a_37_7 H locs ls hP hD hS hl hF
          cases (show none = some T9 from hF)
        | succ n37 ih37 =>
          intro x1_37_6 t_a_37_7 H locs ls hP hD hS hl hF
          rw [f_X8_undo_37] at hF
          refine lv_iload_n hx hb dX8_undo_37 rfl (lv_at hl 1 rfl) ?_
          refine lv_sipush (v := 876) hx hb dX8_undo_38 (by decide) ?_
          refine lv_icmp_ge (tgt := 71) hx hb dX8_undo_41 (by decide) (fun c41 => ?_) (fun c41 => ?_)
          · have hF := brT c41 hF
            exact hk71_5 t_a_37_7 H locs ls hP hD hS (lv_sub hl [0] rfl) hF
          · have hF := brF c41 hF
            refine lv_aload_n hx hb dX8_undo_44 rfl (lv_at hl 0 rfl) ?_
            refine va_get (D := D) (ci := 8) (v := .ref a_t_a) (C := RX8) (T := TX8) (N := 20) hx hb hts iw8 hown hK hP 0 rfl rfl 0 (by decide) hf7 (fun _ h9 => h9) rfl dX8_undo_45 ?_
            refine lv_iload_n hx hb dX8_undo_48 rfl (lv_at hl 1 rfl) ?_
            refine lv_aload_n hx hb dX8_undo_49 rfl (lv_at hl 0 rfl) ?_
            refine va_get (D := D) (ci := 8) (v := .ref a_t_kept) (C := RX8) (T := TX8) (N := 20) hx hb hts iw8 hown hK hP 0 rfl rfl 3 (by decide) hf19 (fun _ h9 => h9) rfl dX8_undo_50 ?_
            refine lv_sipush (v := 876) hx hb dX8_undo_53 (by decide) ?_
            refine lv_aload_n hx hb dX8_undo_56 rfl (lv_at hl 0 rfl) ?_
            refine va_get (D := D) (ci := 8) (v := .int y32_3) (C := RX8) (T := TX8) (N := 20) hx hb hts iw8 hown hK hP 0 rfl rfl 4 (by decide) hf48 (fun _ h9 => h9) rfl dX8_undo_57 ?_
            refine lv_imul hx hb dX8_undo_60 ?_
            refine lv_iload_n hx hb dX8_undo_61 rfl (lv_at hl 1 rfl) ?_
            refine lv_iadd hx hb dX8_undo_62 ?_
            obtain ⟨g63_7, hF⟩ := gd hF
            refine my_iald (v := t_kept_ ((876 * y32_3) + x1_37_6).toNatClampNeg) hx hb hK hP 2 0 rfl rfl g63_7 rfl dX8_undo_63 ?_
            obtain ⟨g64_9, hF⟩ := gd hF
            obtain ⟨t_a_64_10, et_a_64_10⟩ : ∃ y : Nat → Int32, y = upd t_a_37_7 x1_37_6.toNatClampNeg (t_kept_ ((876 * y32_3) + x1_37_6).toNatClampNeg) := ⟨_, rfl⟩
            have hF := ltE et_a_64_10 hF
            refine my_iast (g := t_a_64_10) (wn := [(a_t, .inr (8, [.ref a_t_a, v_t_fresh, v_t_aside, .ref a_t_kept, .int y32_3, .int s0_13_1, v_t_buffer, .int t_buffered, .int t_size, .int t_at, .int t_behind, .int t_kind, .int t_number, .int t_wrong, .int t_wrongAt, .int t_errorAt, v_t_moved, .int t_unused, v_t_written, .int t_writtenMany])), (a_t_a, .inl (t 0, 876, .inl t_a_64_10)), (a_t_kept, .inl (t 0, 7008, .inl t_kept_))]) hx hb hK hP hD hS 1 0 rfl rfl g64_9 et_a_64_10 rfl dX8_undo_64 (fun H locs hP hD hS => ?_)
            obtain ⟨y65_11, ey65_11⟩ : ∃ y : Int32, y = x1_37_6 + 1 := ⟨_, rfl⟩
            have hF := ltE ey65_11 hF
            refine lv_iinc (v := y65_11) (lv' := [(1, .int y65_11), (0, .ref a_t)]) hx hb dX8_undo_65 hl (k := 1) rfl (by rw [ey65_11]; rfl) (by decide) rfl (fun ls hl => ?_)
            refine lv_goto (tgt := 37) hx hb dX8_undo_68 (by decide) ?_
            exact ih37 y65_11 t_a_64_10 H locs ls hP hD hS (lv_sub hl [1, 0] rfl) hF
      exact hlp37 N 0 t_a_ H locs ls hP hD hS (lv_sub hl [1, 0] rfl) hF
    · have hF := brF c20 hF
      refine lv_iconst (v := 0) hx hb dX8_undo_23 (by decide) ?_
      cases hF
      exact we_iret hx hb hr hlocks dX8_undo_24 rfl hQ hP hD hS
  refine lv_if_ne (tgt := 12) hx hb dX8_undo_5 (by decide) (fun c5 => ?_) (fun c5 => ?_)
  · have hF := brF c5 hF
    refine lv_iconst (v := 0) hx hb dX8_undo_12 (by decide) ?_
    exact hk13_2 0 H locs ls hP hD hS hl hF
  · have hF := brT c5 hF
    refine lv_iconst (v := 1) hx hb dX8_undo_8 (by decide) ?_
    refine lv_goto (tgt := 13) hx hb dX8_undo_9 (by decide) ?_
    exact hk13_2 1 H locs ls hP hD hS hl hF
abbrev rm_X8_append : Room := { frames := 0, cells := 0, slots := 0, locals := 0 }
theorem hd_X8_append : yX8_append.cls = RX8 ∧ yX8_append.cls ≠ "java/lang/invoke/MethodHandle" ∧ yX8_append.cls ≠ "java/lang/invoke/VarHandle" ∧ (parseMethodDescriptor yX8_append.desc).map (fun d => d.parameters.length) = some 5 := by decide +kernel
set_option maxRecDepth 100000 in
set_option maxHeartbeats 4000000 in
theorem c_X8_append (l : Launch) (D : va_G) (t : Nat → ClassId) (z : Nat) (x : Nat → Nat) (N : Nat) (a_t : Nat) (a_t_buffer : Nat) (v_t_a : Value) (v_t_fresh : Value) (v_t_aside : Value) (v_t_kept : Value) (v_t_moved : Value) (v_t_written : Value) (t_keptMany : Int32) (t_thrown : Int32) (t_buffered : Int32) (t_size : Int32) (t_at : Int32) (t_behind : Int32) (t_kind : Int32) (t_number : Int32) (t_wrong : Int32) (t_wrongAt : Int32) (t_errorAt : Int32) (t_unused : Int32) (t_writtenMany : Int32) (t_buffer_ : (Nat → Int32)) (p1 : Int32) (p2 : Int32) (p3 : Int32) (p4 : Int32) (p5 : Int32) (sz : Nat) (r : Int32) (t_thrown' : Int32) (t_buffered' : Int32) (t_buffer_' : (Nat → Int32)) (hF : f_X8_append N t_buffered t_buffer_ p1 p2 p3 p4 p5 = some (r, t_thrown', t_buffered', t_buffer_')) : WrM l D (TY t) z x yX8_append wsX8_append rm_X8_append [.ref a_t, .int p1, .int p2, .int p3, .int p4, .int p5] [(a_t, .inr (8, [v_t_a, v_t_fresh, v_t_aside, v_t_kept, .int t_keptMany, .int t_thrown, .ref a_t_buffer, .int t_buffered, .int t_size, .int t_at, .int t_behind, .int t_kind, .int t_number, .int t_wrong, .int t_wrongAt, .int t_errorAt, v_t_moved, .int t_unused, v_t_written, .int t_writtenMany])), (a_t_buffer, .inl (t 0, 900, .inl t_buffer_))] [(a_t, .inr (8, [v_t_a, v_t_fresh, v_t_aside, v_t_kept, .int t_keptMany, .int t_thrown', .ref a_t_buffer, .int t_buffered', .int t_size, .int t_at, .int t_behind, .int t_kind, .int t_number, .int t_wrong, .int t_wrongAt, .int t_errorAt, v_t_moved, .int t_unused, v_t_written, .int t_writtenMany])), (a_t_buffer, .inl (t 0, 900, .inl t_buffer_'))] sz (some (.int r)) 0 0 := by
  obtain ⟨T9, hT⟩ : ∃ T9, T9 = (r, t_thrown', t_buffered', t_buffer_') := ⟨_, rfl⟩
  rw [← hT] at hF
  obtain rfl : r = T9.1 := by rw [hT]
  obtain rfl : t_thrown' = T9.2.1 := by rw [hT]
  obtain rfl : t_buffered' = T9.2.2.1 := by rw [hT]
  obtain rfl : t_buffer_' = T9.2.2.2 := by rw [hT]
  clear hT
  refine wr_of (cc := cX8_append) (maxL := 8) (ret := (some .int)) (by decide) rfl (Nat.le_of_ble_eq_true rfl) ?_
  intro p e s m args below meth c A Q hQ hx hb hr hml hts hown hlocks hin H locs hP hD hS hA hz hC ls hl
  have hown : s.vm.findClass RX8 = some m.cls := hown
  have hl : lv_has ls 8 [(0, .ref a_t), (1, .int p1), (2, .int p2), (3, .int p3), (4, .int p4), (5, .int p5)] := hl
  have hK := hC.1
  have iw8 : ∀ w ∈ wsX80, w ∈ wsX8_append := fun _ h => List.mem_cons_of_mem _ (List.mem_append_right _ h)
  have hf22 := hts (.fieldLink RX8 22 "CrackedColumnModel" "buffer" "[I") (by decide +kernel)
  have hf45 := hts (.fieldLink RX8 45 "CrackedColumnModel" "thrown" "I") (by decide +kernel)
  have hf51 := hts (.fieldLink RX8 51 "CrackedColumnModel" "buffered" "I") (by decide +kernel)
  unfold f_X8_append at hF
  refine lv_aload_n hx hb dX8_append_0 rfl (lv_at hl 0 rfl) ?_
  refine lv_aload_n hx hb dX8_append_1 rfl (lv_at hl 0 rfl) ?_
  refine va_get (D := D) (ci := 8) (v := .int t_buffered) (C := RX8) (T := TX8) (N := 20) hx hb hts iw8 hown hK hP 0 rfl rfl 7 (by decide) hf51 (fun _ h9 => h9) rfl dX8_append_2 ?_
  refine lv_bipush (v := 20) hx hb dX8_append_5 (by decide) ?_
  refine lv_iadd hx hb dX8_append_7 ?_
  refine lv_sipush (v := 900) hx hb dX8_append_8 (by decide) ?_
  obtain ⟨k19_2, ek19_2, hF⟩ := jnE hF
  have hk19_2 : ∀ (s0_19_1 : Int32) (H : Heap) (locs : List Loc) (ls : Array Slot), va_P D vwCl [(a_t, .inr (8, [v_t_a, v_t_fresh, v_t_aside, v_t_kept, .int t_keptMany, .int t_thrown, .ref a_t_buffer, .int t_buffered, .int t_size, .int t_at, .int t_behind, .int t_kind, .int t_number, .int t_wrong, .int t_wrongAt, .int t_errorAt, v_t_moved, .int t_unused, v_t_written, .int t_writtenMany])), (a_t_buffer, .inl (t 0, 900, .inl t_buffer_))] H → va_D A [(a_t, .inr (8, [v_t_a, v_t_fresh, v_t_aside, v_t_kept, .int t_keptMany, .int t_thrown, .ref a_t_buffer, .int t_buffered, .int t_size, .int t_at, .int t_behind, .int t_kind, .int t_number, .int t_wrong, .int t_wrongAt, .int t_errorAt, v_t_moved, .int t_unused, v_t_written, .int t_writtenMany])), (a_t_buffer, .inl (t 0, 900, .inl t_buffer_))] → va_S A s.heap H locs → lv_has ls 8 [(0, .ref a_t), (1, .int p1), (2, .int p2), (3, .int p3), (4, .int p4), (5, .int p5)] → k19_2 s0_19_1 = some T9 → W p l e rm_X8_append s m args below meth c H locs 0 0 Q (F0 m 19 ls [.int s0_19_1, .ref a_t]) := by
    subst ek19_2
    intro s0_19_1 H locs ls hP hD hS hl hF
    refine my_put (ty := .int) (v := .int s0_19_1) (ci := 8) (C := RX8) (T := TX8) (N := 20) (wn := [(a_t, .inr (8, [v_t_a, v_t_fresh, v_t_aside, v_t_kept, .int t_keptMany, .int s0_19_1, .ref a_t_buffer, .int t_buffered, .int t_size, .int t_at, .int t_behind, .int t_kind, .int t_number, .int t_wrong, .int t_wrongAt, .int t_errorAt, v_t_moved, .int t_unused, v_t_written, .int t_writtenMany])), (a_t_buffer, .inl (t 0, 900, .inl t_buffer_))]) hx hb hts iw8 tyX8 tyX8_ok nmX8 hown hK hP hD hS 0 rfl rfl 5 (by decide) hf45 (fun _ h9 => h9) rfl (by decide +kernel) rfl rfl (Nat.le_of_ble_eq_true rfl) rfl dX8_append_19 (fun H locs hP hD hS => ?_)
    refine lv_aload_n hx hb dX8_append_22 rfl (lv_at hl 0 rfl) ?_
    refine va_get (D := D) (ci := 8) (v := .int s0_19_1) (C := RX8) (T := TX8) (N := 20) hx hb hts iw8 hown hK hP 0 rfl rfl 5 (by decide) hf45 (fun _ h9 => h9) rfl dX8_append_23 ?_
    refine lv_if_le (tgt := 31) hx hb dX8_append_26 (by decide) (fun c26 => ?_) (fun c26 => ?_)
    · have hF := brT c26 hF
      refine lv_iconst (v := 0) hx hb dX8_append_31 (by decide) ?_
      refine lv_istore (lv' := [(6, .int 0), (0, .ref a_t), (1, .int p1), (2, .int p2), (3, .int p3), (4, .int p4), (5, .int p5)]) hx hb dX8_append_32 hl (by decide) rfl (fun ls hl => ?_)
      obtain ⟨k131_5, ek131_5, hF⟩ := jnE hF
      have hk131_5 : ∀ (t_buffered_131_3 : Int32) (t_buffer_131_4 : (Nat → Int32)) (H : Heap) (locs : List Loc) (ls : Array Slot), va_P D vwCl [(a_t, .inr (8, [v_t_a, v_t_fresh, v_t_aside, v_t_kept, .int t_keptMany, .int s0_19_1, .ref a_t_buffer, .int t_buffered_131_3, .int t_size, .int t_at, .int t_behind, .int t_kind, .int t_number, .int t_wrong, .int t_wrongAt, .int t_errorAt, v_t_moved, .int t_unused, v_t_written, .int t_writtenMany])), (a_t_buffer, .inl (t 0, 900, .inl t_buffer_131_4))] H → va_D A [(a_t, .inr (8, [v_t_a, v_t_fresh, v_t_aside, v_t_kept, .int t_keptMany, .int s0_19_1, .ref a_t_buffer, .int t_buffered_131_3, .int t_size, .int t_at, .int t_behind, .int t_kind, .int t_number, .int t_wrong, .int t_wrongAt, .int t_errorAt, v_t_moved, .int t_unused, v_t_written, .int t_writtenMany])), (a_t_buffer, .inl (t 0, 900, .inl t_buffer_131_4))] → va_S A s.heap H locs → lv_has ls 8 [(0, .ref a_t)] → k131_5 t_buffered_131_3 t_buffer_131_4 = some T9 → W p l e rm_X8_append s m args below meth c H locs 0 0 Q (F0 m 131 ls []) := by
        subst ek131_5
        intro t_buffered_131_3 t_buffer_131_4 H locs ls hP hD hS hl hF
        refine lv_aload_n hx hb dX8_append_131 rfl (lv_at hl 0 rfl) ?_
        refine va_get (D := D) (ci := 8) (v := .int t_buffered_131_3) (C := RX8) (T := TX8) (N := 20) hx hb hts iw8 hown hK hP 0 rfl rfl 7 (by decide) hf51 (fun _ h9 => h9) rfl dX8_append_132 ?_
        cases hF
        exact we_iret hx hb hr hlocks dX8_append_135 rfl hQ hP hD hS
      have hlp34 : ∀ n34 : Nat, ∀ (x6_34_6 : Int32) (t_buffered_34_7 : Int32) (t_buffer_34_8 : (Nat → Int32)) (H : Heap) (locs : List Loc) (ls : Array Slot), va_P D vwCl [(a_t, .inr (8, [v_t_a, v_t_fresh, v_t_aside, v_t_kept, .int t_keptMany, .int s0_19_1, .ref a_t_buffer, .int t_buffered_34_7, .int t_size, .int t_at, .int t_behind, .int t_kind, .int t_number, .int t_wrong, .int t_wrongAt, .int t_errorAt, v_t_moved, .int t_unused, v_t_written, .int t_writtenMany])), (a_t_buffer, .inl (t 0, 900, .inl t_buffer_34_8))] H → va_D A [(a_t, .inr (8, [v_t_a, v_t_fresh, v_t_aside, v_t_kept, .int t_keptMany, .int s0_19_1, .ref a_t_buffer, .int t_buffered_34_7, .int t_size, .int t_at, .int t_behind, .int t_kind, .int t_number, .int t_wrong, .int t_wrongAt, .int t_errorAt, v_t_moved, .int t_unused, v_t_written, .int t_writtenMany])), (a_t_buffer, .inl (t 0, 900, .inl t_buffer_34_8))] → va_S A s.heap H locs → lv_has ls 8 [(0, .ref a_t), (1, .int p1), (2, .int p2), (3, .int p3), (4, .int p4), (5, .int p5), (6, .int x6_34_6)] → f_X8_append_34 p1 p2 p3 p4 p5 k131_5 n34 x6_34_6 t_buffered_34_7 t_buffer_34_8 = some T9 → W p l e rm_X8_append s m args below meth c H locs 0 0 Q (F0 m 34 ls []) := by
        intro n34
        induction n34 with
        | zero =>
          intro x6_34_6 t_buffered_34_7 t_buffer_34_8 H locs ls hP hD hS hl hF
          cases (show none = some T9 from hF)
        | succ n34 ih34 =>
          intro x6_34_6 t_buffered_34_7 t_buffer_34_8 H locs ls hP hD hS hl hF
          rw [f_X8_append_34] at hF
          refine lv_iload hx hb dX8_append_34 (lv_at hl 6 rfl) ?_
          refine lv_bipush (v := 20) hx hb dX8_append_36 (by decide) ?_
          refine lv_icmp_ge (tgt := 131) hx hb dX8_append_38 (by decide) (fun c38 => ?_) (fun c38 => ?_)
          · have hF := brT c38 hF
            exact hk131_5 t_buffered_34_7 t_buffer_34_8 H locs ls hP hD hS (lv_sub hl [0] rfl) hF
          · have hF := brF c38 hF
            refine lv_iload hx hb dX8_append_41 (lv_at hl 6 rfl) ?_
            refine lv_iconst (v := 4) hx hb dX8_append_43 (by decide) ?_
            obtain ⟨k87_10, ek87_10, hF⟩ := jnE hF
            have hk87_10 : ∀ (s0_87_9 : Int32) (H : Heap) (locs : List Loc) (ls : Array Slot), va_P D vwCl [(a_t, .inr (8, [v_t_a, v_t_fresh, v_t_aside, v_t_kept, .int t_keptMany, .int s0_19_1, .ref a_t_buffer, .int t_buffered_34_7, .int t_size, .int t_at, .int t_behind, .int t_kind, .int t_number, .int t_wrong, .int t_wrongAt, .int t_errorAt, v_t_moved, .int t_unused, v_t_written, .int t_writtenMany])), (a_t_buffer, .inl (t 0, 900, .inl t_buffer_34_8))] H → va_D A [(a_t, .inr (8, [v_t_a, v_t_fresh, v_t_aside, v_t_kept, .int t_keptMany, .int s0_19_1, .ref a_t_buffer, .int t_buffered_34_7, .int t_size, .int t_at, .int t_behind, .int t_kind, .int t_number, .int t_wrong, .int t_wrongAt, .int t_errorAt, v_t_moved, .int t_unused, v_t_written, .int t_writtenMany])), (a_t_buffer, .inl (t 0, 900, .inl t_buffer_34_8))] → va_S A s.heap H locs → lv_has ls 8 [(0, .ref a_t), (1, .int p1), (2, .int p2), (3, .int p3), (4, .int p4), (5, .int p5), (6, .int x6_34_6)] → k87_10 s0_87_9 = some T9 → W p l e rm_X8_append s m args below meth c H locs 0 0 Q (F0 m 87 ls [.int s0_87_9]) := by
              subst ek87_10
              intro s0_87_9 H locs ls hP hD hS hl hF
              refine lv_istore (lv' := [(7, .int s0_87_9), (0, .ref a_t), (1, .int p1), (2, .int p2), (3, .int p3), (4, .int p4), (5, .int p5), (6, .int x6_34_6)]) hx hb dX8_append_87 hl (by decide) rfl (fun ls hl => ?_)
              refine lv_aload_n hx hb dX8_append_89 rfl (lv_at hl 1 rfl) ?_
              refine va_get (D := D) (ci := 8) (v := .ref a_t_buffer) (C := RX8) (T := TX8) (N := 20) hx hb hts iw8 hown hK hP 0 rfl rfl 6 (by decide) hf22 (fun _ h9 => h9) rfl dX8_append_90 ?_
              refine lv_aload_n hx hb dX8_append_93 rfl (lv_at hl 1 rfl) ?_
              refine va_get (D := D) (ci := 8) (v := .int t_buffered_34_7) (C := RX8) (T := TX8) (N := 20) hx hb hts iw8 hown hK hP 0 rfl rfl 7 (by decide) hf51 (fun _ h9 => h9) rfl dX8_append_94 ?_
              refine lv_iload hx hb dX8_append_97 (lv_at hl 0 rfl) ?_
              refine lv_bipush (v := 24) hx hb dX8_append_99 (by decide) ?_
              refine lv_bipush (v := 8) hx hb dX8_append_101 (by decide) ?_
              refine lv_iload hx hb dX8_append_103 (lv_at hl 7 rfl) ?_
              refine lv_iconst (v := 4) hx hb dX8_append_105 (by decide) ?_
              refine lv_irem hx hb dX8_append_106 (by decide) ?_
              refine lv_imul hx hb dX8_append_107 ?_
              refine lv_isub hx hb dX8_append_108 ?_
              refine lv_ishr hx hb dX8_append_109 ?_
              refine lv_sipush (v := 255) hx hb dX8_append_110 (by decide) ?_
              refine lv_iand hx hb dX8_append_113 ?_
              obtain ⟨g114_10, hF⟩ := gd hF
              obtain ⟨t_buffer_114_12, et_buffer_114_12⟩ : ∃ y : Nat → Int32, y = upd t_buffer_34_8 t_buffered_34_7.toNatClampNeg ((s0_87_9 >>> ((24 - (8 * (x6_34_6 - x6_34_6 / 4 * 4))) &&& 31)) &&& 255) := ⟨_, rfl⟩
              have hF := ltE et_buffer_114_12 hF
              refine my_iast (g := t_buffer_114_12) (wn := [(a_t, .inr (8, [v_t_a, v_t_fresh, v_t_aside, v_t_kept, .int t_keptMany, .int s0_19_1, .ref a_t_buffer, .int t_buffered_34_7, .int t_size, .int t_at, .int t_behind, .int t_kind, .int t_number, .int t_wrong, .int t_wrongAt, .int t_errorAt, v_t_moved, .int t_unused, v_t_written, .int t_writtenMany])), (a_t_buffer, .inl (t 0, 900, .inl t_buffer_114_12))]) hx hb hK hP hD hS 1 0 rfl rfl g114_10 et_buffer_114_12 rfl dX8_append_114 (fun H locs hP hD hS => ?_)
              refine lv_aload_n hx hb dX8_append_115 rfl (lv_at hl 1 rfl) ?_
              refine lv_dup hx hb dX8_append_116 rfl ?_
              refine va_get (D := D) (ci := 8) (v := .int t_buffered_34_7) (C := RX8) (T := TX8) (N := 20) hx hb hts iw8 hown hK hP 0 rfl rfl 7 (by decide) hf51 (fun _ h9 => h9) rfl dX8_append_117 ?_
              refine lv_iconst (v := 1) hx hb dX8_append_120 (by decide) ?_
              refine lv_iadd hx hb dX8_append_121 ?_
              refine lv_topi (fun y122_13 ey122_13 => ?_)
              have hF := ltE ey122_13 hF
              refine my_put (ty := .int) (v := .int y122_13) (ci := 8) (C := RX8) (T := TX8) (N := 20) (wn := [(a_t, .inr (8, [v_t_a, v_t_fresh, v_t_aside, v_t_kept, .int t_keptMany, .int s0_19_1, .ref a_t_buffer, .int y122_13, .int t_size, .int t_at, .int t_behind, .int t_kind, .int t_number, .int t_wrong, .int t_wrongAt, .int t_errorAt, v_t_moved, .int t_unused, v_t_written, .int t_writtenMany])), (a_t_buffer, .inl (t 0, 900, .inl t_buffer_114_12))]) hx hb hts iw8 tyX8 tyX8_ok nmX8 hown hK hP hD hS 0 rfl rfl 7 (by decide) hf51 (fun _ h9 => h9) rfl (by decide +kernel) rfl rfl (Nat.le_of_ble_eq_true rfl) rfl dX8_append_122 (fun H locs hP hD hS => ?_)
              obtain ⟨y125_14, ey125_14⟩ : ∃ y : Int32, y = x6_34_6 + 1 := ⟨_, rfl⟩
              have hF := ltE ey125_14 hF
              refine lv_iinc (v := y125_14) (lv' := [(6, .int y125_14), (7, .int s0_87_9), (0, .ref a_t), (1, .int p1), (2, .int p2), (3, .int p3), (4, .int p4), (5, .int p5)]) hx hb dX8_append_125 hl (k := 7) rfl (by rw [ey125_14]; rfl) (by decide) rfl (fun ls hl => ?_)
              refine lv_goto (tgt := 34) hx hb dX8_append_128 (by decide) ?_
              exact ih34 y125_14 y122_13 t_buffer_114_12 H locs ls hP hD hS (lv_sub hl [2, 3, 4, 5, 6, 7, 0] rfl) hF
            refine lv_icmp_ge (tgt := 51) hx hb dX8_append_44 (by decide) (fun c44 => ?_) (fun c44 => ?_)
            · have hF := brT c44 hF
              refine lv_iload hx hb dX8_append_51 (lv_at hl 6 rfl) ?_
              refine lv_bipush (v := 8) hx hb dX8_append_53 (by decide) ?_
              refine lv_icmp_ge (tgt := 62) hx hb dX8_append_55 (by decide) (fun c55 => ?_) (fun c55 => ?_)
              · have hF := brT c55 hF
                refine lv_iload hx hb dX8_append_62 (lv_at hl 6 rfl) ?_
                refine lv_bipush (v := 12) hx hb dX8_append_64 (by decide) ?_
                refine lv_icmp_ge (tgt := 73) hx hb dX8_append_66 (by decide) (fun c66 => ?_) (fun c66 => ?_)
                · have hF := brT c66 hF
                  refine lv_iload hx hb dX8_append_73 (lv_at hl 6 rfl) ?_
                  refine lv_bipush (v := 16) hx hb dX8_append_75 (by decide) ?_
                  refine lv_icmp_ge (tgt := 85) hx hb dX8_append_77 (by decide) (fun c77 => ?_) (fun c77 => ?_)
                  · have hF := brT c77 hF
                    refine lv_iload hx hb dX8_append_85 (lv_at hl 5 rfl) ?_
                    exact hk87_10 p5 H locs ls hP hD hS hl hF
                  · have hF := brF c77 hF
                    refine lv_iload hx hb dX8_append_80 (lv_at hl 4 rfl) ?_
                    refine lv_goto (tgt := 87) hx hb dX8_append_82 (by decide) ?_
                    exact hk87_10 p4 H locs ls hP hD hS hl hF
                · have hF := brF c66 hF
                  refine lv_iload_n hx hb dX8_append_69 rfl (lv_at hl 3 rfl) ?_
                  refine lv_goto (tgt := 87) hx hb dX8_append_70 (by decide) ?_
                  exact hk87_10 p3 H locs ls hP hD hS hl hF
              · have hF := brF c55 hF
                refine lv_iload_n hx hb dX8_append_58 rfl (lv_at hl 2 rfl) ?_
                refine lv_goto (tgt := 87) hx hb dX8_append_59 (by decide) ?_
                exact hk87_10 p2 H locs ls hP hD hS hl hF
            · have hF := brF c44 hF
              refine lv_iload_n hx hb dX8_append_47 rfl (lv_at hl 1 rfl) ?_
              refine lv_goto (tgt := 87) hx hb dX8_append_48 (by decide) ?_
              exact hk87_10 p1 H locs ls hP hD hS hl hF
      exact hlp34 N 0 t_buffered t_buffer_ H locs ls hP hD hS (lv_sub hl [1, 2, 3, 4, 5, 6, 0] rfl) hF
    · have hF := brF c26 hF
      refine lv_iconst (v := 0) hx hb dX8_append_29 (by decide) ?_
      cases hF
      exact we_iret hx hb hr hlocks dX8_append_30 rfl hQ hP hD hS
  refine lv_icmp_le (tgt := 18) hx hb dX8_append_11 (by decide) (fun c11 => ?_) (fun c11 => ?_)
  · have hF := brT c11 hF
    refine lv_iconst (v := 0) hx hb dX8_append_18 (by decide) ?_
    exact hk19_2 0 H locs ls hP hD hS hl hF
  · have hF := brF c11 hF
    refine lv_iconst (v := 1) hx hb dX8_append_14 (by decide) ?_
    refine lv_goto (tgt := 19) hx hb dX8_append_15 (by decide) ?_
    exact hk19_2 1 H locs ls hP hD hS hl hF
abbrev rm_X8_see : Room := { frames := 0, cells := 0, slots := 0, locals := 0 }
theorem hd_X8_see : yX8_see.cls = RX8 ∧ yX8_see.cls ≠ "java/lang/invoke/MethodHandle" ∧ yX8_see.cls ≠ "java/lang/invoke/VarHandle" ∧ (parseMethodDescriptor yX8_see.desc).map (fun d => d.parameters.length) = some 1 := by decide +kernel
set_option maxRecDepth 100000 in
set_option maxHeartbeats 4000000 in
theorem c_X8_see (l : Launch) (D : va_G) (t : Nat → ClassId) (z : Nat) (x : Nat → Nat) (a_t : Nat) (a_t_buffer : Nat) (v_t_a : Value) (v_t_fresh : Value) (v_t_aside : Value) (v_t_kept : Value) (v_t_moved : Value) (v_t_written : Value) (t_keptMany : Int32) (t_thrown : Int32) (t_buffered : Int32) (t_size : Int32) (t_at : Int32) (t_behind : Int32) (t_kind : Int32) (t_number : Int32) (t_wrong : Int32) (t_wrongAt : Int32) (t_errorAt : Int32) (t_unused : Int32) (t_writtenMany : Int32) (t_buffer_ : (Nat → Int32)) (p1 : Int32) (H : Heap) (r : Int32) (hF : f_X8_see t_size t_buffer_ p1 = some (r)) : RdM l D (TY t) z x yX8_see wsX8_see rm_X8_see [.ref a_t, .int p1] [(a_t, .inr (8, [v_t_a, v_t_fresh, v_t_aside, v_t_kept, .int t_keptMany, .int t_thrown, .ref a_t_buffer, .int t_buffered, .int t_size, .int t_at, .int t_behind, .int t_kind, .int t_number, .int t_wrong, .int t_wrongAt, .int t_errorAt, v_t_moved, .int t_unused, v_t_written, .int t_writtenMany])), (a_t_buffer, .inl (t 0, 900, .inl t_buffer_))] H (some (.int r)) := by
  refine rd_of (cc := cX8_see) (maxL := 2) (ret := (some .int)) (by decide) rfl (Nat.le_of_ble_eq_true rfl) ?_
  intro p e s m args below meth c Q hQ hx hb hr hml hts hown hlocks hH hP hC ls hl
  have hown : s.vm.findClass RX8 = some m.cls := hown
  have hl : lv_has ls 2 [(0, .ref a_t), (1, .int p1)] := hl
  have hK := hC.1
  have iw8 : ∀ w ∈ wsX80, w ∈ wsX8_see := fun _ h => List.mem_cons_of_mem _ (List.mem_append_right _ h)
  have hf22 := hts (.fieldLink RX8 22 "CrackedColumnModel" "buffer" "[I") (by decide +kernel)
  have hf54 := hts (.fieldLink RX8 54 "CrackedColumnModel" "size" "I") (by decide +kernel)
  unfold f_X8_see at hF
  refine lv_iload_n hx hb dX8_see_0 rfl (lv_at hl 1 rfl) ?_
  refine lv_aload_n hx hb dX8_see_1 rfl (lv_at hl 0 rfl) ?_
  refine va_get (D := D) (ci := 8) (v := .int t_size) (C := RX8) (T := TX8) (N := 20) hx hb hts iw8 hown hK hP 0 rfl rfl 8 (by decide) hf54 (fun _ h9 => h9) rfl dX8_see_2 ?_
  refine lv_icmp_ge (tgt := 17) hx hb dX8_see_5 (by decide) (fun c5 => ?_) (fun c5 => ?_)
  · have hF := brT c5 hF
    refine lv_iconst (v := (-1)) hx hb dX8_see_17 (by decide) ?_
    cases hF
    exact rd_iret hx hb hr hlocks dX8_see_18 rfl hQ
  · have hF := brF c5 hF
    refine lv_aload_n hx hb dX8_see_8 rfl (lv_at hl 0 rfl) ?_
    refine va_get (D := D) (ci := 8) (v := .ref a_t_buffer) (C := RX8) (T := TX8) (N := 20) hx hb hts iw8 hown hK hP 0 rfl rfl 6 (by decide) hf22 (fun _ h9 => h9) rfl dX8_see_9 ?_
    refine lv_iload_n hx hb dX8_see_12 rfl (lv_at hl 1 rfl) ?_
    obtain ⟨g13_0, hF⟩ := gd hF
    refine my_iald (v := t_buffer_ p1.toNatClampNeg) hx hb hK hP 1 0 rfl rfl g13_0 rfl dX8_see_13 ?_
    refine lv_goto (tgt := 18) hx hb dX8_see_14 (by decide) ?_
    cases hF
    exact rd_iret hx hb hr hlocks dX8_see_18 rfl hQ
abbrev rm_X8_isLetter : Room := { frames := 1, cells := 0, slots := 0, locals := 22 }
theorem hd_X8_isLetter : yX8_isLetter.cls = RX8 ∧ yX8_isLetter.cls ≠ "java/lang/invoke/MethodHandle" ∧ yX8_isLetter.cls ≠ "java/lang/invoke/VarHandle" ∧ (parseMethodDescriptor yX8_isLetter.desc).map (fun d => d.parameters.length) = some 1 := by decide +kernel
set_option maxRecDepth 100000 in
set_option maxHeartbeats 4000000 in
theorem c_X8_isLetter (l : Launch) (D : va_G) (t : Nat → ClassId) (z : Nat) (x : Nat → Nat) (p0 : Int32) (H : Heap) (r : Int32) (hF : f_X8_isLetter p0 = some (r)) : RdM l D (TY t) z x yX8_isLetter wsX8_isLetter rm_X8_isLetter [.int p0] [] H (some (.int r)) := by
  refine rd_of (cc := cX8_isLetter) (maxL := 1) (ret := (some .boolean)) (by decide) rfl (Nat.le_of_ble_eq_true rfl) ?_
  intro p e s m args below meth c Q hQ hx hb hr hml hts hown hlocks hH hP hC ls hl
  have hown : s.vm.findClass RX8 = some m.cls := hown
  have hl : lv_has ls 1 [(0, .int p0)] := hl
  have hK := hC.1
  unfold f_X8_isLetter at hF
  refine lv_iload_n hx hb dX8_isLetter_0 rfl (lv_at hl 0 rfl) ?_
  refine lv_bipush (v := 97) hx hb dX8_isLetter_1 (by decide) ?_
  refine lv_bipush (v := 122) hx hb dX8_isLetter_3 (by decide) ?_
  obtain ⟨r5_1, h5_1, hF⟩ := bndE hF
  refine rdS (As := [.int p0, .int 97, .int 122]) (rest := []) ⟨hx, hb, hml, hown, hts⟩ (c_X8_isIn l D t z x p0 97 122 H r5_1 h5_1) (va_cwS 3 hts gX8_isLetter_X8_isIn rfl rfl rfl hd_X8_isIn.2 ⟨Nat.le_of_ble_eq_true rfl, Nat.le_of_ble_eq_true rfl⟩) hC (selP (m9 := []) rfl rfl hP) rfl hl.1 rfl (Nat.le_of_ble_eq_true rfl) dX8_isLetter_5 ⟨Nat.zero_le _, Nat.zero_le _⟩ rfl ?_
  obtain ⟨g8_2, hF⟩ := gp hF
  cases hF
  exact rd_zret hx hb hr hlocks dX8_isLetter_8 (boolN g8_2) rfl hQ
abbrev rm_X8_isDigit : Room := { frames := 1, cells := 0, slots := 0, locals := 22 }
theorem hd_X8_isDigit : yX8_isDigit.cls = RX8 ∧ yX8_isDigit.cls ≠ "java/lang/invoke/MethodHandle" ∧ yX8_isDigit.cls ≠ "java/lang/invoke/VarHandle" ∧ (parseMethodDescriptor yX8_isDigit.desc).map (fun d => d.parameters.length) = some 1 := by decide +kernel
set_option maxRecDepth 100000 in
set_option maxHeartbeats 4000000 in
theorem c_X8_isDigit (l : Launch) (D : va_G) (t : Nat → ClassId) (z : Nat) (x : Nat → Nat) (p0 : Int32) (H : Heap) (r : Int32) (hF : f_X8_isDigit p0 = some (r)) : RdM l D (TY t) z x yX8_isDigit wsX8_isDigit rm_X8_isDigit [.int p0] [] H (some (.int r)) := by
  refine rd_of (cc := cX8_isDigit) (maxL := 1) (ret := (some .boolean)) (by decide) rfl (Nat.le_of_ble_eq_true rfl) ?_
  intro p e s m args below meth c Q hQ hx hb hr hml hts hown hlocks hH hP hC ls hl
  have hown : s.vm.findClass RX8 = some m.cls := hown
  have hl : lv_has ls 1 [(0, .int p0)] := hl
  have hK := hC.1
  unfold f_X8_isDigit at hF
  refine lv_iload_n hx hb dX8_isDigit_0 rfl (lv_at hl 0 rfl) ?_
  refine lv_bipush (v := 48) hx hb dX8_isDigit_1 (by decide) ?_
  refine lv_bipush (v := 57) hx hb dX8_isDigit_3 (by decide) ?_
  obtain ⟨r5_1, h5_1, hF⟩ := bndE hF
  refine rdS (As := [.int p0, .int 48, .int 57]) (rest := []) ⟨hx, hb, hml, hown, hts⟩ (c_X8_isIn l D t z x p0 48 57 H r5_1 h5_1) (va_cwS 3 hts gX8_isDigit_X8_isIn rfl rfl rfl hd_X8_isIn.2 ⟨Nat.le_of_ble_eq_true rfl, Nat.le_of_ble_eq_true rfl⟩) hC (selP (m9 := []) rfl rfl hP) rfl hl.1 rfl (Nat.le_of_ble_eq_true rfl) dX8_isDigit_5 ⟨Nat.zero_le _, Nat.zero_le _⟩ rfl ?_
  obtain ⟨g8_2, hF⟩ := gp hF
  cases hF
  exact rd_zret hx hb hr hlocks dX8_isDigit_8 (boolN g8_2) rfl hQ
abbrev rm_X8_next : Room := { frames := 2, cells := 0, slots := 0, locals := 42 }
theorem hd_X8_next : yX8_next.cls = RX8 ∧ yX8_next.cls ≠ "java/lang/invoke/MethodHandle" ∧ yX8_next.cls ≠ "java/lang/invoke/VarHandle" ∧ (parseMethodDescriptor yX8_next.desc).map (fun d => d.parameters.length) = some 0 := by decide +kernel
set_option maxRecDepth 100000 in
set_option maxHeartbeats 4000000 in
theorem c_X8_next (l : Launch) (D : va_G) (t : Nat → ClassId) (z : Nat) (x : Nat → Nat) (N : Nat) (a_t : Nat) (a_t_buffer : Nat) (v_t_a : Value) (v_t_fresh : Value) (v_t_aside : Value) (v_t_kept : Value) (v_t_moved : Value) (v_t_written : Value) (t_keptMany : Int32) (t_thrown : Int32) (t_buffered : Int32) (t_size : Int32) (t_at : Int32) (t_behind : Int32) (t_kind : Int32) (t_number : Int32) (t_wrong : Int32) (t_wrongAt : Int32) (t_errorAt : Int32) (t_unused : Int32) (t_writtenMany : Int32) (t_buffer_ : (Nat → Int32)) (sz : Nat) (t_at' : Int32) (t_behind' : Int32) (t_kind' : Int32) (t_number' : Int32) (hF : f_X8_next N t_size t_behind t_number t_buffer_ = some (t_at', t_behind', t_kind', t_number')) : WrM l D (TY t) z x yX8_next wsX8_next rm_X8_next [.ref a_t] [(a_t, .inr (8, [v_t_a, v_t_fresh, v_t_aside, v_t_kept, .int t_keptMany, .int t_thrown, .ref a_t_buffer, .int t_buffered, .int t_size, .int t_at, .int t_behind, .int t_kind, .int t_number, .int t_wrong, .int t_wrongAt, .int t_errorAt, v_t_moved, .int t_unused, v_t_written, .int t_writtenMany])), (a_t_buffer, .inl (t 0, 900, .inl t_buffer_))] [(a_t, .inr (8, [v_t_a, v_t_fresh, v_t_aside, v_t_kept, .int t_keptMany, .int t_thrown, .ref a_t_buffer, .int t_buffered, .int t_size, .int t_at', .int t_behind', .int t_kind', .int t_number', .int t_wrong, .int t_wrongAt, .int t_errorAt, v_t_moved, .int t_unused, v_t_written, .int t_writtenMany])), (a_t_buffer, .inl (t 0, 900, .inl t_buffer_))] sz none 0 0 := by
  obtain ⟨T9, hT⟩ : ∃ T9, T9 = (t_at', t_behind', t_kind', t_number') := ⟨_, rfl⟩
  rw [← hT] at hF
  obtain rfl : t_at' = T9.1 := by rw [hT]
  obtain rfl : t_behind' = T9.2.1 := by rw [hT]
  obtain rfl : t_kind' = T9.2.2.1 := by rw [hT]
  obtain rfl : t_number' = T9.2.2.2 := by rw [hT]
  clear hT
  refine wr_of (cc := cX8_next) (maxL := 1) (ret := none) (by decide) rfl (Nat.le_of_ble_eq_true rfl) ?_
  intro p e s m args below meth c A Q hQ hx hb hr hml hts hown hlocks hin H locs hP hD hS hA hz hC ls hl
  have hown : s.vm.findClass RX8 = some m.cls := hown
  have hl : lv_has ls 1 [(0, .ref a_t)] := hl
  have hK := hC.1
  have iw8 : ∀ w ∈ wsX80, w ∈ wsX8_next := fun _ h => List.mem_cons_of_mem _ (List.mem_append_right _ h)
  have hf54 := hts (.fieldLink RX8 54 "CrackedColumnModel" "size" "I") (by decide +kernel)
  have hf61 := hts (.fieldLink RX8 61 "CrackedColumnModel" "behind" "I") (by decide +kernel)
  have hf64 := hts (.fieldLink RX8 64 "CrackedColumnModel" "at" "I") (by decide +kernel)
  have hf71 := hts (.fieldLink RX8 71 "CrackedColumnModel" "kind" "I") (by decide +kernel)
  have hf81 := hts (.fieldLink RX8 81 "CrackedColumnModel" "number" "I") (by decide +kernel)
  unfold f_X8_next at hF
  refine lv_aload_n hx hb dX8_next_0 rfl (lv_at hl 0 rfl) ?_
  refine lv_aload_n hx hb dX8_next_1 rfl (lv_at hl 0 rfl) ?_
  refine va_get (D := D) (ci := 8) (v := .int t_behind) (C := RX8) (T := TX8) (N := 20) hx hb hts iw8 hown hK hP 0 rfl rfl 10 (by decide) hf61 (fun _ h9 => h9) rfl dX8_next_2 ?_
  refine my_put (ty := .int) (v := .int t_behind) (ci := 8) (C := RX8) (T := TX8) (N := 20) (wn := [(a_t, .inr (8, [v_t_a, v_t_fresh, v_t_aside, v_t_kept, .int t_keptMany, .int t_thrown, .ref a_t_buffer, .int t_buffered, .int t_size, .int t_behind, .int t_behind, .int t_kind, .int t_number, .int t_wrong, .int t_wrongAt, .int t_errorAt, v_t_moved, .int t_unused, v_t_written, .int t_writtenMany])), (a_t_buffer, .inl (t 0, 900, .inl t_buffer_))]) hx hb hts iw8 tyX8 tyX8_ok nmX8 hown hK hP hD hS 0 rfl rfl 9 (by decide) hf64 (fun _ h9 => h9) rfl (by decide +kernel) rfl rfl (Nat.le_of_ble_eq_true rfl) rfl dX8_next_5 (fun H locs hP hD hS => ?_)
  obtain ⟨k34_2, ek34_2, hF⟩ := jnE hF
  have hk34_2 : ∀ (t_at_34_1 : Int32) (H : Heap) (locs : List Loc) (ls : Array Slot), va_P D vwCl [(a_t, .inr (8, [v_t_a, v_t_fresh, v_t_aside, v_t_kept, .int t_keptMany, .int t_thrown, .ref a_t_buffer, .int t_buffered, .int t_size, .int t_at_34_1, .int t_behind, .int t_kind, .int t_number, .int t_wrong, .int t_wrongAt, .int t_errorAt, v_t_moved, .int t_unused, v_t_written, .int t_writtenMany])), (a_t_buffer, .inl (t 0, 900, .inl t_buffer_))] H → va_D A [(a_t, .inr (8, [v_t_a, v_t_fresh, v_t_aside, v_t_kept, .int t_keptMany, .int t_thrown, .ref a_t_buffer, .int t_buffered, .int t_size, .int t_at_34_1, .int t_behind, .int t_kind, .int t_number, .int t_wrong, .int t_wrongAt, .int t_errorAt, v_t_moved, .int t_unused, v_t_written, .int t_writtenMany])), (a_t_buffer, .inl (t 0, 900, .inl t_buffer_))] → va_S A s.heap H locs → lv_has ls 1 [(0, .ref a_t)] → k34_2 t_at_34_1 = some T9 → W p l e rm_X8_next s m args below meth c H locs 0 0 Q (F0 m 34 ls []) := by
    subst ek34_2
    intro t_at_34_1 H locs ls hP hD hS hl hF
    refine lv_aload_n hx hb dX8_next_34 rfl (lv_at hl 0 rfl) ?_
    refine lv_aload_n hx hb dX8_next_35 rfl (lv_at hl 0 rfl) ?_
    refine va_get (D := D) (ci := 8) (v := .int t_at_34_1) (C := RX8) (T := TX8) (N := 20) hx hb hts iw8 hown hK hP 0 rfl rfl 9 (by decide) hf64 (fun _ h9 => h9) rfl dX8_next_36 ?_
    refine my_put (ty := .int) (v := .int t_at_34_1) (ci := 8) (C := RX8) (T := TX8) (N := 20) (wn := [(a_t, .inr (8, [v_t_a, v_t_fresh, v_t_aside, v_t_kept, .int t_keptMany, .int t_thrown, .ref a_t_buffer, .int t_buffered, .int t_size, .int t_at_34_1, .int t_at_34_1, .int t_kind, .int t_number, .int t_wrong, .int t_wrongAt, .int t_errorAt, v_t_moved, .int t_unused, v_t_written, .int t_writtenMany])), (a_t_buffer, .inl (t 0, 900, .inl t_buffer_))]) hx hb hts iw8 tyX8 tyX8_ok nmX8 hown hK hP hD hS 0 rfl rfl 10 (by decide) hf61 (fun _ h9 => h9) rfl (by decide +kernel) rfl rfl (Nat.le_of_ble_eq_true rfl) rfl dX8_next_39 (fun H locs hP hD hS => ?_)
    refine lv_aload_n hx hb dX8_next_42 rfl (lv_at hl 0 rfl) ?_
    refine va_get (D := D) (ci := 8) (v := .int t_at_34_1) (C := RX8) (T := TX8) (N := 20) hx hb hts iw8 hown hK hP 0 rfl rfl 9 (by decide) hf64 (fun _ h9 => h9) rfl dX8_next_43 ?_
    refine lv_aload_n hx hb dX8_next_46 rfl (lv_at hl 0 rfl) ?_
    refine va_get (D := D) (ci := 8) (v := .int t_size) (C := RX8) (T := TX8) (N := 20) hx hb hts iw8 hown hK hP 0 rfl rfl 8 (by decide) hf54 (fun _ h9 => h9) rfl dX8_next_47 ?_
    refine lv_icmp_lt (tgt := 61) hx hb dX8_next_50 (by decide) (fun c50 => ?_) (fun c50 => ?_)
    · have hF := brT c50 hF
      refine lv_aload_n hx hb dX8_next_61 rfl (lv_at hl 0 rfl) ?_
      refine lv_aload_n hx hb dX8_next_62 rfl (lv_at hl 0 rfl) ?_
      refine va_get (D := D) (ci := 8) (v := .int t_at_34_1) (C := RX8) (T := TX8) (N := 20) hx hb hts iw8 hown hK hP 0 rfl rfl 9 (by decide) hf64 (fun _ h9 => h9) rfl dX8_next_63 ?_
      obtain ⟨r66_3, h66_3, hF⟩ := bndE hF
      refine rdV (As := [.int t_at_34_1]) (rest := []) (C := RX8) ⟨hx, hb, hml, hown, hts⟩ (c_X8_see l D t z x a_t a_t_buffer v_t_a v_t_fresh v_t_aside v_t_kept v_t_moved v_t_written t_keptMany t_thrown t_buffered t_size t_at_34_1 t_at_34_1 t_kind t_number t_wrong t_wrongAt t_errorAt t_unused t_writtenMany t_buffer_ t_at_34_1 H r66_3 h66_3) (cwV 1 hts gX8_next_X8_see rfl rfl rfl hd_X8_see ⟨Nat.le_of_ble_eq_true rfl, Nat.le_of_ble_eq_true rfl⟩) (hC.at hz hS) (selP (m9 := [true, true]) rfl rfl hP) 0 rfl (show vwCl[8]? = some (RX8, TX8, 20) from rfl) rfl rfl hl.1 rfl (Nat.le_of_ble_eq_true rfl) dX8_next_66 ⟨Nat.zero_le _, Nat.zero_le _⟩ rfl ?_
      obtain ⟨r69_5, h69_5, hF⟩ := bndE hF
      refine rdS (As := [.int r66_3]) (rest := []) ⟨hx, hb, hml, hown, hts⟩ (c_X8_isLetter l D t z x r66_3 H r69_5 h69_5) (va_cwS 1 hts gX8_next_X8_isLetter rfl rfl rfl hd_X8_isLetter.2 ⟨Nat.le_of_ble_eq_true rfl, Nat.le_of_ble_eq_true rfl⟩) (hC.at hz hS) (selP (m9 := [false, false]) rfl rfl hP) rfl hl.1 rfl (Nat.le_of_ble_eq_true rfl) dX8_next_69 ⟨Nat.zero_le _, Nat.zero_le _⟩ rfl ?_
      refine lv_if_eq (tgt := 110) hx hb dX8_next_72 (by decide) (fun c72 => ?_) (fun c72 => ?_)
      · have hF := brT c72 hF
        refine lv_aload_n hx hb dX8_next_110 rfl (lv_at hl 0 rfl) ?_
        refine lv_aload_n hx hb dX8_next_111 rfl (lv_at hl 0 rfl) ?_
        refine va_get (D := D) (ci := 8) (v := .int t_at_34_1) (C := RX8) (T := TX8) (N := 20) hx hb hts iw8 hown hK hP 0 rfl rfl 9 (by decide) hf64 (fun _ h9 => h9) rfl dX8_next_112 ?_
        obtain ⟨r115_7, h115_7, hF⟩ := bndE hF
        refine rdV (As := [.int t_at_34_1]) (rest := []) (C := RX8) ⟨hx, hb, hml, hown, hts⟩ (c_X8_see l D t z x a_t a_t_buffer v_t_a v_t_fresh v_t_aside v_t_kept v_t_moved v_t_written t_keptMany t_thrown t_buffered t_size t_at_34_1 t_at_34_1 t_kind t_number t_wrong t_wrongAt t_errorAt t_unused t_writtenMany t_buffer_ t_at_34_1 H r115_7 h115_7) (cwV 1 hts gX8_next_X8_see rfl rfl rfl hd_X8_see ⟨Nat.le_of_ble_eq_true rfl, Nat.le_of_ble_eq_true rfl⟩) (hC.at hz hS) (selP (m9 := [true, true]) rfl rfl hP) 0 rfl (show vwCl[8]? = some (RX8, TX8, 20) from rfl) rfl rfl hl.1 rfl (Nat.le_of_ble_eq_true rfl) dX8_next_115 ⟨Nat.zero_le _, Nat.zero_le _⟩ rfl ?_
        obtain ⟨r118_9, h118_9, hF⟩ := bndE hF
        refine rdS (As := [.int r115_7]) (rest := []) ⟨hx, hb, hml, hown, hts⟩ (c_X8_isDigit l D t z x r115_7 H r118_9 h118_9) (va_cwS 1 hts gX8_next_X8_isDigit rfl rfl rfl hd_X8_isDigit.2 ⟨Nat.le_of_ble_eq_true rfl, Nat.le_of_ble_eq_true rfl⟩) (hC.at hz hS) (selP (m9 := [false, false]) rfl rfl hP) rfl hl.1 rfl (Nat.le_of_ble_eq_true rfl) dX8_next_118 ⟨Nat.zero_le _, Nat.zero_le _⟩ rfl ?_
        refine lv_if_eq (tgt := 196) hx hb dX8_next_121 (by decide) (fun c121 => ?_) (fun c121 => ?_)
        · have hF := brT c121 hF
          refine lv_aload_n hx hb dX8_next_196 rfl (lv_at hl 0 rfl) ?_
          refine lv_dup hx hb dX8_next_197 rfl ?_
          refine va_get (D := D) (ci := 8) (v := .int t_at_34_1) (C := RX8) (T := TX8) (N := 20) hx hb hts iw8 hown hK hP 0 rfl rfl 10 (by decide) hf61 (fun _ h9 => h9) rfl dX8_next_198 ?_
          refine lv_iconst (v := 1) hx hb dX8_next_201 (by decide) ?_
          refine lv_iadd hx hb dX8_next_202 ?_
          refine lv_topi (fun y203_11 ey203_11 => ?_)
          have hF := ltE ey203_11 hF
          refine my_put (ty := .int) (v := .int y203_11) (ci := 8) (C := RX8) (T := TX8) (N := 20) (wn := [(a_t, .inr (8, [v_t_a, v_t_fresh, v_t_aside, v_t_kept, .int t_keptMany, .int t_thrown, .ref a_t_buffer, .int t_buffered, .int t_size, .int t_at_34_1, .int y203_11, .int t_kind, .int t_number, .int t_wrong, .int t_wrongAt, .int t_errorAt, v_t_moved, .int t_unused, v_t_written, .int t_writtenMany])), (a_t_buffer, .inl (t 0, 900, .inl t_buffer_))]) hx hb hts iw8 tyX8 tyX8_ok nmX8 hown hK hP hD hS 0 rfl rfl 10 (by decide) hf61 (fun _ h9 => h9) rfl (by decide +kernel) rfl rfl (Nat.le_of_ble_eq_true rfl) rfl dX8_next_203 (fun H locs hP hD hS => ?_)
          refine lv_aload_n hx hb dX8_next_206 rfl (lv_at hl 0 rfl) ?_
          refine lv_iconst (v := 2) hx hb dX8_next_207 (by decide) ?_
          refine my_put (ty := .int) (v := .int 2) (ci := 8) (C := RX8) (T := TX8) (N := 20) (wn := [(a_t, .inr (8, [v_t_a, v_t_fresh, v_t_aside, v_t_kept, .int t_keptMany, .int t_thrown, .ref a_t_buffer, .int t_buffered, .int t_size, .int t_at_34_1, .int y203_11, .int 2, .int t_number, .int t_wrong, .int t_wrongAt, .int t_errorAt, v_t_moved, .int t_unused, v_t_written, .int t_writtenMany])), (a_t_buffer, .inl (t 0, 900, .inl t_buffer_))]) hx hb hts iw8 tyX8 tyX8_ok nmX8 hown hK hP hD hS 0 rfl rfl 11 (by decide) hf71 (fun _ h9 => h9) rfl (by decide +kernel) rfl rfl (Nat.le_of_ble_eq_true rfl) rfl dX8_next_208 (fun H locs hP hD hS => ?_)
          cases hF
          exact we_vret hx hb hr hlocks dX8_next_211 rfl hQ hP hD hS
        · have hF := brF c121 hF
          refine lv_aload_n hx hb dX8_next_124 rfl (lv_at hl 0 rfl) ?_
          refine lv_iconst (v := 0) hx hb dX8_next_125 (by decide) ?_
          refine my_put (ty := .int) (v := .int 0) (ci := 8) (C := RX8) (T := TX8) (N := 20) (wn := [(a_t, .inr (8, [v_t_a, v_t_fresh, v_t_aside, v_t_kept, .int t_keptMany, .int t_thrown, .ref a_t_buffer, .int t_buffered, .int t_size, .int t_at_34_1, .int t_at_34_1, .int t_kind, .int 0, .int t_wrong, .int t_wrongAt, .int t_errorAt, v_t_moved, .int t_unused, v_t_written, .int t_writtenMany])), (a_t_buffer, .inl (t 0, 900, .inl t_buffer_))]) hx hb hts iw8 tyX8 tyX8_ok nmX8 hown hK hP hD hS 0 rfl rfl 12 (by decide) hf81 (fun _ h9 => h9) rfl (by decide +kernel) rfl rfl (Nat.le_of_ble_eq_true rfl) rfl dX8_next_126 (fun H locs hP hD hS => ?_)
          obtain ⟨k188_14, ek188_14, hF⟩ := jnE hF
          have hk188_14 : ∀ (t_behind_188_12 : Int32) (t_number_188_13 : Int32) (H : Heap) (locs : List Loc) (ls : Array Slot), va_P D vwCl [(a_t, .inr (8, [v_t_a, v_t_fresh, v_t_aside, v_t_kept, .int t_keptMany, .int t_thrown, .ref a_t_buffer, .int t_buffered, .int t_size, .int t_at_34_1, .int t_behind_188_12, .int t_kind, .int t_number_188_13, .int t_wrong, .int t_wrongAt, .int t_errorAt, v_t_moved, .int t_unused, v_t_written, .int t_writtenMany])), (a_t_buffer, .inl (t 0, 900, .inl t_buffer_))] H → va_D A [(a_t, .inr (8, [v_t_a, v_t_fresh, v_t_aside, v_t_kept, .int t_keptMany, .int t_thrown, .ref a_t_buffer, .int t_buffered, .int t_size, .int t_at_34_1, .int t_behind_188_12, .int t_kind, .int t_number_188_13, .int t_wrong, .int t_wrongAt, .int t_errorAt, v_t_moved, .int t_unused, v_t_written, .int t_writtenMany])), (a_t_buffer, .inl (t 0, 900, .inl t_buffer_))] → va_S A s.heap H locs → lv_has ls 1 [(0, .ref a_t)] → k188_14 t_behind_188_12 t_number_188_13 = some T9 → W p l e rm_X8_next s m args below meth c H locs 0 0 Q (F0 m 188 ls []) := by
            subst ek188_14
            intro t_behind_188_12 t_number_188_13 H locs ls hP hD hS hl hF
            refine lv_aload_n hx hb dX8_next_188 rfl (lv_at hl 0 rfl) ?_
            refine lv_iconst (v := 1) hx hb dX8_next_189 (by decide) ?_
            refine my_put (ty := .int) (v := .int 1) (ci := 8) (C := RX8) (T := TX8) (N := 20) (wn := [(a_t, .inr (8, [v_t_a, v_t_fresh, v_t_aside, v_t_kept, .int t_keptMany, .int t_thrown, .ref a_t_buffer, .int t_buffered, .int t_size, .int t_at_34_1, .int t_behind_188_12, .int 1, .int t_number_188_13, .int t_wrong, .int t_wrongAt, .int t_errorAt, v_t_moved, .int t_unused, v_t_written, .int t_writtenMany])), (a_t_buffer, .inl (t 0, 900, .inl t_buffer_))]) hx hb hts iw8 tyX8 tyX8_ok nmX8 hown hK hP hD hS 0 rfl rfl 11 (by decide) hf71 (fun _ h9 => h9) rfl (by decide +kernel) rfl rfl (Nat.le_of_ble_eq_true rfl) rfl dX8_next_190 (fun H locs hP hD hS => ?_)
            refine lv_goto (tgt := 211) hx hb dX8_next_193 (by decide) ?_
            cases hF
            exact we_vret hx hb hr hlocks dX8_next_211 rfl hQ hP hD hS
          have hlp129 : ∀ n129 : Nat, ∀ (t_behind_129_15 : Int32) (t_number_129_16 : Int32) (H : Heap) (locs : List Loc) (ls : Array Slot), va_P D vwCl [(a_t, .inr (8, [v_t_a, v_t_fresh, v_t_aside, v_t_kept, .int t_keptMany, .int t_thrown, .ref a_t_buffer, .int t_buffered, .int t_size, .int t_at_34_1, .int t_behind_129_15, .int t_kind, .int t_number_129_16, .int t_wrong, .int t_wrongAt, .int t_errorAt, v_t_moved, .int t_unused, v_t_written, .int t_writtenMany])), (a_t_buffer, .inl (t 0, 900, .inl t_buffer_))] H → va_D A [(a_t, .inr (8, [v_t_a, v_t_fresh, v_t_aside, v_t_kept, .int t_keptMany, .int t_thrown, .ref a_t_buffer, .int t_buffered, .int t_size, .int t_at_34_1, .int t_behind_129_15, .int t_kind, .int t_number_129_16, .int t_wrong, .int t_wrongAt, .int t_errorAt, v_t_moved, .int t_unused, v_t_written, .int t_writtenMany])), (a_t_buffer, .inl (t 0, 900, .inl t_buffer_))] → va_S A s.heap H locs → lv_has ls 1 [(0, .ref a_t)] → f_X8_next_129 t_size t_buffer_ k188_14 n129 t_behind_129_15 t_number_129_16 = some T9 → W p l e rm_X8_next s m args below meth c H locs 0 0 Q (F0 m 129 ls []) := by
            intro n129
            induction n129 with
            | zero =>
              intro t_behind_129_15 t_number_129_16 H locs ls hP hD hS hl hF
              cases (show none = some T9 from hF)
            | succ n129 ih129 =>
              intro t_behind_129_15 t_number_129_16 H locs ls hP hD hS hl hF
              rw [f_X8_next_129] at hF
              refine lv_aload_n hx hb dX8_next_129 rfl (lv_at hl 0 rfl) ?_
              refine lv_aload_n hx hb dX8_next_130 rfl (lv_at hl 0 rfl) ?_
              refine va_get (D := D) (ci := 8) (v := .int t_behind_129_15) (C := RX8) (T := TX8) (N := 20) hx hb hts iw8 hown hK hP 0 rfl rfl 10 (by decide) hf61 (fun _ h9 => h9) rfl dX8_next_131 ?_
              obtain ⟨r134_17, h134_17, hF⟩ := bndE hF
              refine rdV (As := [.int t_behind_129_15]) (rest := []) (C := RX8) ⟨hx, hb, hml, hown, hts⟩ (c_X8_see l D t z x a_t a_t_buffer v_t_a v_t_fresh v_t_aside v_t_kept v_t_moved v_t_written t_keptMany t_thrown t_buffered t_size t_at_34_1 t_behind_129_15 t_kind t_number_129_16 t_wrong t_wrongAt t_errorAt t_unused t_writtenMany t_buffer_ t_behind_129_15 H r134_17 h134_17) (cwV 1 hts gX8_next_X8_see rfl rfl rfl hd_X8_see ⟨Nat.le_of_ble_eq_true rfl, Nat.le_of_ble_eq_true rfl⟩) (hC.at hz hS) (selP (m9 := [true, true]) rfl rfl hP) 0 rfl (show vwCl[8]? = some (RX8, TX8, 20) from rfl) rfl rfl hl.1 rfl (Nat.le_of_ble_eq_true rfl) dX8_next_134 ⟨Nat.zero_le _, Nat.zero_le _⟩ rfl ?_
              obtain ⟨r137_19, h137_19, hF⟩ := bndE hF
              refine rdS (As := [.int r134_17]) (rest := []) ⟨hx, hb, hml, hown, hts⟩ (c_X8_isDigit l D t z x r134_17 H r137_19 h137_19) (va_cwS 1 hts gX8_next_X8_isDigit rfl rfl rfl hd_X8_isDigit.2 ⟨Nat.le_of_ble_eq_true rfl, Nat.le_of_ble_eq_true rfl⟩) (hC.at hz hS) (selP (m9 := [false, false]) rfl rfl hP) rfl hl.1 rfl (Nat.le_of_ble_eq_true rfl) dX8_next_137 ⟨Nat.zero_le _, Nat.zero_le _⟩ rfl ?_
              refine lv_if_eq (tgt := 188) hx hb dX8_next_140 (by decide) (fun c140 => ?_) (fun c140 => ?_)
              · have hF := brT c140 hF
                exact hk188_14 t_behind_129_15 t_number_129_16 H locs ls hP hD hS hl hF
              · have hF := brF c140 hF
                refine lv_aload_n hx hb dX8_next_143 rfl (lv_at hl 0 rfl) ?_
                refine va_get (D := D) (ci := 8) (v := .int t_number_129_16) (C := RX8) (T := TX8) (N := 20) hx hb hts iw8 hown hK hP 0 rfl rfl 12 (by decide) hf81 (fun _ h9 => h9) rfl dX8_next_144 ?_
                refine lv_ldc (v := 100000) hx hb hown (hts (.constant RX8 84 100000) (by decide +kernel)) dX8_next_147 ?_
                obtain ⟨k175_22, ek175_22, hF⟩ := jnE hF
                have hk175_22 : ∀ (t_number_175_21 : Int32) (H : Heap) (locs : List Loc) (ls : Array Slot), va_P D vwCl [(a_t, .inr (8, [v_t_a, v_t_fresh, v_t_aside, v_t_kept, .int t_keptMany, .int t_thrown, .ref a_t_buffer, .int t_buffered, .int t_size, .int t_at_34_1, .int t_behind_129_15, .int t_kind, .int t_number_175_21, .int t_wrong, .int t_wrongAt, .int t_errorAt, v_t_moved, .int t_unused, v_t_written, .int t_writtenMany])), (a_t_buffer, .inl (t 0, 900, .inl t_buffer_))] H → va_D A [(a_t, .inr (8, [v_t_a, v_t_fresh, v_t_aside, v_t_kept, .int t_keptMany, .int t_thrown, .ref a_t_buffer, .int t_buffered, .int t_size, .int t_at_34_1, .int t_behind_129_15, .int t_kind, .int t_number_175_21, .int t_wrong, .int t_wrongAt, .int t_errorAt, v_t_moved, .int t_unused, v_t_written, .int t_writtenMany])), (a_t_buffer, .inl (t 0, 900, .inl t_buffer_))] → va_S A s.heap H locs → lv_has ls 1 [(0, .ref a_t)] → k175_22 t_number_175_21 = some T9 → W p l e rm_X8_next s m args below meth c H locs 0 0 Q (F0 m 175 ls []) := by
                  subst ek175_22
                  intro t_number_175_21 H locs ls hP hD hS hl hF
                  refine lv_aload_n hx hb dX8_next_175 rfl (lv_at hl 0 rfl) ?_
                  refine lv_dup hx hb dX8_next_176 rfl ?_
                  refine va_get (D := D) (ci := 8) (v := .int t_behind_129_15) (C := RX8) (T := TX8) (N := 20) hx hb hts iw8 hown hK hP 0 rfl rfl 10 (by decide) hf61 (fun _ h9 => h9) rfl dX8_next_177 ?_
                  refine lv_iconst (v := 1) hx hb dX8_next_180 (by decide) ?_
                  refine lv_iadd hx hb dX8_next_181 ?_
                  refine lv_topi (fun y182_23 ey182_23 => ?_)
                  have hF := ltE ey182_23 hF
                  refine my_put (ty := .int) (v := .int y182_23) (ci := 8) (C := RX8) (T := TX8) (N := 20) (wn := [(a_t, .inr (8, [v_t_a, v_t_fresh, v_t_aside, v_t_kept, .int t_keptMany, .int t_thrown, .ref a_t_buffer, .int t_buffered, .int t_size, .int t_at_34_1, .int y182_23, .int t_kind, .int t_number_175_21, .int t_wrong, .int t_wrongAt, .int t_errorAt, v_t_moved, .int t_unused, v_t_written, .int t_writtenMany])), (a_t_buffer, .inl (t 0, 900, .inl t_buffer_))]) hx hb hts iw8 tyX8 tyX8_ok nmX8 hown hK hP hD hS 0 rfl rfl 10 (by decide) hf61 (fun _ h9 => h9) rfl (by decide +kernel) rfl rfl (Nat.le_of_ble_eq_true rfl) rfl dX8_next_182 (fun H locs hP hD hS => ?_)
                  refine lv_goto (tgt := 129) hx hb dX8_next_185 (by decide) ?_
                  exact ih129 y182_23 t_number_175_21 H locs ls hP hD hS hl hF
                refine lv_icmp_ge (tgt := 175) hx hb dX8_next_149 (by decide) (fun c149 => ?_) (fun c149 => ?_)
                · have hF := brT c149 hF
                  exact hk175_22 t_number_129_16 H locs ls hP hD hS hl hF
                · have hF := brF c149 hF
                  refine lv_aload_n hx hb dX8_next_152 rfl (lv_at hl 0 rfl) ?_
                  refine lv_bipush (v := 10) hx hb dX8_next_153 (by decide) ?_
                  refine lv_aload_n hx hb dX8_next_155 rfl (lv_at hl 0 rfl) ?_
                  refine va_get (D := D) (ci := 8) (v := .int t_number_129_16) (C := RX8) (T := TX8) (N := 20) hx hb hts iw8 hown hK hP 0 rfl rfl 12 (by decide) hf81 (fun _ h9 => h9) rfl dX8_next_156 ?_
                  refine lv_imul hx hb dX8_next_159 ?_
                  refine lv_aload_n hx hb dX8_next_160 rfl (lv_at hl 0 rfl) ?_
                  refine lv_aload_n hx hb dX8_next_161 rfl (lv_at hl 0 rfl) ?_
                  refine va_get (D := D) (ci := 8) (v := .int t_behind_129_15) (C := RX8) (T := TX8) (N := 20) hx hb hts iw8 hown hK hP 0 rfl rfl 10 (by decide) hf61 (fun _ h9 => h9) rfl dX8_next_162 ?_
                  obtain ⟨r165_24, h165_24, hF⟩ := bndE hF
                  refine rdV (As := [.int t_behind_129_15]) (rest := [.int (10 * t_number_129_16), .ref a_t]) (C := RX8) ⟨hx, hb, hml, hown, hts⟩ (c_X8_see l D t z x a_t a_t_buffer v_t_a v_t_fresh v_t_aside v_t_kept v_t_moved v_t_written t_keptMany t_thrown t_buffered t_size t_at_34_1 t_behind_129_15 t_kind t_number_129_16 t_wrong t_wrongAt t_errorAt t_unused t_writtenMany t_buffer_ t_behind_129_15 H r165_24 h165_24) (cwV 1 hts gX8_next_X8_see rfl rfl rfl hd_X8_see ⟨Nat.le_of_ble_eq_true rfl, Nat.le_of_ble_eq_true rfl⟩) (hC.at hz hS) (selP (m9 := [true, true]) rfl rfl hP) 0 rfl (show vwCl[8]? = some (RX8, TX8, 20) from rfl) rfl rfl hl.1 rfl (Nat.le_of_ble_eq_true rfl) dX8_next_165 ⟨Nat.zero_le _, Nat.zero_le _⟩ rfl ?_
                  refine lv_iadd hx hb dX8_next_168 ?_
                  refine lv_bipush (v := 48) hx hb dX8_next_169 (by decide) ?_
                  refine lv_isub hx hb dX8_next_171 ?_
                  refine lv_topi (fun y172_26 ey172_26 => ?_)
                  have hF := ltE ey172_26 hF
                  refine my_put (ty := .int) (v := .int y172_26) (ci := 8) (C := RX8) (T := TX8) (N := 20) (wn := [(a_t, .inr (8, [v_t_a, v_t_fresh, v_t_aside, v_t_kept, .int t_keptMany, .int t_thrown, .ref a_t_buffer, .int t_buffered, .int t_size, .int t_at_34_1, .int t_behind_129_15, .int t_kind, .int y172_26, .int t_wrong, .int t_wrongAt, .int t_errorAt, v_t_moved, .int t_unused, v_t_written, .int t_writtenMany])), (a_t_buffer, .inl (t 0, 900, .inl t_buffer_))]) hx hb hts iw8 tyX8 tyX8_ok nmX8 hown hK hP hD hS 0 rfl rfl 12 (by decide) hf81 (fun _ h9 => h9) rfl (by decide +kernel) rfl rfl (Nat.le_of_ble_eq_true rfl) rfl dX8_next_172 (fun H locs hP hD hS => ?_)
                  exact hk175_22 y172_26 H locs ls hP hD hS hl hF
          exact hlp129 N t_at_34_1 0 H locs ls hP hD hS hl hF
      · have hF := brF c72 hF
        obtain ⟨k102_28, ek102_28, hF⟩ := jnE hF
        have hk102_28 : ∀ (t_behind_102_27 : Int32) (H : Heap) (locs : List Loc) (ls : Array Slot), va_P D vwCl [(a_t, .inr (8, [v_t_a, v_t_fresh, v_t_aside, v_t_kept, .int t_keptMany, .int t_thrown, .ref a_t_buffer, .int t_buffered, .int t_size, .int t_at_34_1, .int t_behind_102_27, .int t_kind, .int t_number, .int t_wrong, .int t_wrongAt, .int t_errorAt, v_t_moved, .int t_unused, v_t_written, .int t_writtenMany])), (a_t_buffer, .inl (t 0, 900, .inl t_buffer_))] H → va_D A [(a_t, .inr (8, [v_t_a, v_t_fresh, v_t_aside, v_t_kept, .int t_keptMany, .int t_thrown, .ref a_t_buffer, .int t_buffered, .int t_size, .int t_at_34_1, .int t_behind_102_27, .int t_kind, .int t_number, .int t_wrong, .int t_wrongAt, .int t_errorAt, v_t_moved, .int t_unused, v_t_written, .int t_writtenMany])), (a_t_buffer, .inl (t 0, 900, .inl t_buffer_))] → va_S A s.heap H locs → lv_has ls 1 [(0, .ref a_t)] → k102_28 t_behind_102_27 = some T9 → W p l e rm_X8_next s m args below meth c H locs 0 0 Q (F0 m 102 ls []) := by
          subst ek102_28
          intro t_behind_102_27 H locs ls hP hD hS hl hF
          refine lv_aload_n hx hb dX8_next_102 rfl (lv_at hl 0 rfl) ?_
          refine lv_iconst (v := 0) hx hb dX8_next_103 (by decide) ?_
          refine my_put (ty := .int) (v := .int 0) (ci := 8) (C := RX8) (T := TX8) (N := 20) (wn := [(a_t, .inr (8, [v_t_a, v_t_fresh, v_t_aside, v_t_kept, .int t_keptMany, .int t_thrown, .ref a_t_buffer, .int t_buffered, .int t_size, .int t_at_34_1, .int t_behind_102_27, .int 0, .int t_number, .int t_wrong, .int t_wrongAt, .int t_errorAt, v_t_moved, .int t_unused, v_t_written, .int t_writtenMany])), (a_t_buffer, .inl (t 0, 900, .inl t_buffer_))]) hx hb hts iw8 tyX8 tyX8_ok nmX8 hown hK hP hD hS 0 rfl rfl 11 (by decide) hf71 (fun _ h9 => h9) rfl (by decide +kernel) rfl rfl (Nat.le_of_ble_eq_true rfl) rfl dX8_next_104 (fun H locs hP hD hS => ?_)
          refine lv_goto (tgt := 211) hx hb dX8_next_107 (by decide) ?_
          cases hF
          exact we_vret hx hb hr hlocks dX8_next_211 rfl hQ hP hD hS
        have hlp75 : ∀ n75 : Nat, ∀ (t_behind_75_29 : Int32) (H : Heap) (locs : List Loc) (ls : Array Slot), va_P D vwCl [(a_t, .inr (8, [v_t_a, v_t_fresh, v_t_aside, v_t_kept, .int t_keptMany, .int t_thrown, .ref a_t_buffer, .int t_buffered, .int t_size, .int t_at_34_1, .int t_behind_75_29, .int t_kind, .int t_number, .int t_wrong, .int t_wrongAt, .int t_errorAt, v_t_moved, .int t_unused, v_t_written, .int t_writtenMany])), (a_t_buffer, .inl (t 0, 900, .inl t_buffer_))] H → va_D A [(a_t, .inr (8, [v_t_a, v_t_fresh, v_t_aside, v_t_kept, .int t_keptMany, .int t_thrown, .ref a_t_buffer, .int t_buffered, .int t_size, .int t_at_34_1, .int t_behind_75_29, .int t_kind, .int t_number, .int t_wrong, .int t_wrongAt, .int t_errorAt, v_t_moved, .int t_unused, v_t_written, .int t_writtenMany])), (a_t_buffer, .inl (t 0, 900, .inl t_buffer_))] → va_S A s.heap H locs → lv_has ls 1 [(0, .ref a_t)] → f_X8_next_75 t_size t_buffer_ k102_28 n75 t_behind_75_29 = some T9 → W p l e rm_X8_next s m args below meth c H locs 0 0 Q (F0 m 75 ls []) := by
          intro n75
          induction n75 with
          | zero =>
            intro t_behind_75_29 H locs ls hP hD hS hl hF
            cases (show none = some T9 from hF)
          | succ n75 ih75 =>
            intro t_behind_75_29 H locs ls hP hD hS hl hF
            rw [f_X8_next_75] at hF
            refine lv_aload_n hx hb dX8_next_75 rfl (lv_at hl 0 rfl) ?_
            refine lv_aload_n hx hb dX8_next_76 rfl (lv_at hl 0 rfl) ?_
            refine va_get (D := D) (ci := 8) (v := .int t_behind_75_29) (C := RX8) (T := TX8) (N := 20) hx hb hts iw8 hown hK hP 0 rfl rfl 10 (by decide) hf61 (fun _ h9 => h9) rfl dX8_next_77 ?_
            obtain ⟨r80_30, h80_30, hF⟩ := bndE hF
            refine rdV (As := [.int t_behind_75_29]) (rest := []) (C := RX8) ⟨hx, hb, hml, hown, hts⟩ (c_X8_see l D t z x a_t a_t_buffer v_t_a v_t_fresh v_t_aside v_t_kept v_t_moved v_t_written t_keptMany t_thrown t_buffered t_size t_at_34_1 t_behind_75_29 t_kind t_number t_wrong t_wrongAt t_errorAt t_unused t_writtenMany t_buffer_ t_behind_75_29 H r80_30 h80_30) (cwV 1 hts gX8_next_X8_see rfl rfl rfl hd_X8_see ⟨Nat.le_of_ble_eq_true rfl, Nat.le_of_ble_eq_true rfl⟩) (hC.at hz hS) (selP (m9 := [true, true]) rfl rfl hP) 0 rfl (show vwCl[8]? = some (RX8, TX8, 20) from rfl) rfl rfl hl.1 rfl (Nat.le_of_ble_eq_true rfl) dX8_next_80 ⟨Nat.zero_le _, Nat.zero_le _⟩ rfl ?_
            obtain ⟨r83_32, h83_32, hF⟩ := bndE hF
            refine rdS (As := [.int r80_30]) (rest := []) ⟨hx, hb, hml, hown, hts⟩ (c_X8_isLetter l D t z x r80_30 H r83_32 h83_32) (va_cwS 1 hts gX8_next_X8_isLetter rfl rfl rfl hd_X8_isLetter.2 ⟨Nat.le_of_ble_eq_true rfl, Nat.le_of_ble_eq_true rfl⟩) (hC.at hz hS) (selP (m9 := [false, false]) rfl rfl hP) rfl hl.1 rfl (Nat.le_of_ble_eq_true rfl) dX8_next_83 ⟨Nat.zero_le _, Nat.zero_le _⟩ rfl ?_
            refine lv_if_eq (tgt := 102) hx hb dX8_next_86 (by decide) (fun c86 => ?_) (fun c86 => ?_)
            · have hF := brT c86 hF
              exact hk102_28 t_behind_75_29 H locs ls hP hD hS hl hF
            · have hF := brF c86 hF
              refine lv_aload_n hx hb dX8_next_89 rfl (lv_at hl 0 rfl) ?_
              refine lv_dup hx hb dX8_next_90 rfl ?_
              refine va_get (D := D) (ci := 8) (v := .int t_behind_75_29) (C := RX8) (T := TX8) (N := 20) hx hb hts iw8 hown hK hP 0 rfl rfl 10 (by decide) hf61 (fun _ h9 => h9) rfl dX8_next_91 ?_
              refine lv_iconst (v := 1) hx hb dX8_next_94 (by decide) ?_
              refine lv_iadd hx hb dX8_next_95 ?_
              refine lv_topi (fun y96_34 ey96_34 => ?_)
              have hF := ltE ey96_34 hF
              refine my_put (ty := .int) (v := .int y96_34) (ci := 8) (C := RX8) (T := TX8) (N := 20) (wn := [(a_t, .inr (8, [v_t_a, v_t_fresh, v_t_aside, v_t_kept, .int t_keptMany, .int t_thrown, .ref a_t_buffer, .int t_buffered, .int t_size, .int t_at_34_1, .int y96_34, .int t_kind, .int t_number, .int t_wrong, .int t_wrongAt, .int t_errorAt, v_t_moved, .int t_unused, v_t_written, .int t_writtenMany])), (a_t_buffer, .inl (t 0, 900, .inl t_buffer_))]) hx hb hts iw8 tyX8 tyX8_ok nmX8 hown hK hP hD hS 0 rfl rfl 10 (by decide) hf61 (fun _ h9 => h9) rfl (by decide +kernel) rfl rfl (Nat.le_of_ble_eq_true rfl) rfl dX8_next_96 (fun H locs hP hD hS => ?_)
              refine lv_goto (tgt := 75) hx hb dX8_next_99 (by decide) ?_
              exact ih75 y96_34 H locs ls hP hD hS hl hF
        exact hlp75 N t_at_34_1 H locs ls hP hD hS hl hF
    · have hF := brF c50 hF
      refine lv_aload_n hx hb dX8_next_53 rfl (lv_at hl 0 rfl) ?_
      refine lv_iconst (v := 3) hx hb dX8_next_54 (by decide) ?_
      refine my_put (ty := .int) (v := .int 3) (ci := 8) (C := RX8) (T := TX8) (N := 20) (wn := [(a_t, .inr (8, [v_t_a, v_t_fresh, v_t_aside, v_t_kept, .int t_keptMany, .int t_thrown, .ref a_t_buffer, .int t_buffered, .int t_size, .int t_at_34_1, .int t_at_34_1, .int 3, .int t_number, .int t_wrong, .int t_wrongAt, .int t_errorAt, v_t_moved, .int t_unused, v_t_written, .int t_writtenMany])), (a_t_buffer, .inl (t 0, 900, .inl t_buffer_))]) hx hb hts iw8 tyX8 tyX8_ok nmX8 hown hK hP hD hS 0 rfl rfl 11 (by decide) hf71 (fun _ h9 => h9) rfl (by decide +kernel) rfl rfl (Nat.le_of_ble_eq_true rfl) rfl dX8_next_55 (fun H locs hP hD hS => ?_)
      refine lv_goto (tgt := 211) hx hb dX8_next_58 (by decide) ?_
      cases hF
      exact we_vret hx hb hr hlocks dX8_next_211 rfl hQ hP hD hS
  have hlp8 : ∀ n8 : Nat, ∀ (t_at_8_35 : Int32) (H : Heap) (locs : List Loc) (ls : Array Slot), va_P D vwCl [(a_t, .inr (8, [v_t_a, v_t_fresh, v_t_aside, v_t_kept, .int t_keptMany, .int t_thrown, .ref a_t_buffer, .int t_buffered, .int t_size, .int t_at_8_35, .int t_behind, .int t_kind, .int t_number, .int t_wrong, .int t_wrongAt, .int t_errorAt, v_t_moved, .int t_unused, v_t_written, .int t_writtenMany])), (a_t_buffer, .inl (t 0, 900, .inl t_buffer_))] H → va_D A [(a_t, .inr (8, [v_t_a, v_t_fresh, v_t_aside, v_t_kept, .int t_keptMany, .int t_thrown, .ref a_t_buffer, .int t_buffered, .int t_size, .int t_at_8_35, .int t_behind, .int t_kind, .int t_number, .int t_wrong, .int t_wrongAt, .int t_errorAt, v_t_moved, .int t_unused, v_t_written, .int t_writtenMany])), (a_t_buffer, .inl (t 0, 900, .inl t_buffer_))] → va_S A s.heap H locs → lv_has ls 1 [(0, .ref a_t)] → f_X8_next_8 t_size t_buffer_ k34_2 n8 t_at_8_35 = some T9 → W p l e rm_X8_next s m args below meth c H locs 0 0 Q (F0 m 8 ls []) := by
    intro n8
    induction n8 with
    | zero =>
      intro t_at_8_35 H locs ls hP hD hS hl hF
      cases (show none = some T9 from hF)
    | succ n8 ih8 =>
      intro t_at_8_35 H locs ls hP hD hS hl hF
      rw [f_X8_next_8] at hF
      refine lv_aload_n hx hb dX8_next_8 rfl (lv_at hl 0 rfl) ?_
      refine lv_aload_n hx hb dX8_next_9 rfl (lv_at hl 0 rfl) ?_
      refine va_get (D := D) (ci := 8) (v := .int t_at_8_35) (C := RX8) (T := TX8) (N := 20) hx hb hts iw8 hown hK hP 0 rfl rfl 9 (by decide) hf64 (fun _ h9 => h9) rfl dX8_next_10 ?_
      obtain ⟨r13_36, h13_36, hF⟩ := bndE hF
      refine rdV (As := [.int t_at_8_35]) (rest := []) (C := RX8) ⟨hx, hb, hml, hown, hts⟩ (c_X8_see l D t z x a_t a_t_buffer v_t_a v_t_fresh v_t_aside v_t_kept v_t_moved v_t_written t_keptMany t_thrown t_buffered t_size t_at_8_35 t_behind t_kind t_number t_wrong t_wrongAt t_errorAt t_unused t_writtenMany t_buffer_ t_at_8_35 H r13_36 h13_36) (cwV 1 hts gX8_next_X8_see rfl rfl rfl hd_X8_see ⟨Nat.le_of_ble_eq_true rfl, Nat.le_of_ble_eq_true rfl⟩) (hC.at hz hS) (selP (m9 := [true, true]) rfl rfl hP) 0 rfl (show vwCl[8]? = some (RX8, TX8, 20) from rfl) rfl rfl hl.1 rfl (Nat.le_of_ble_eq_true rfl) dX8_next_13 ⟨Nat.zero_le _, Nat.zero_le _⟩ rfl ?_
      refine lv_bipush (v := 32) hx hb dX8_next_16 (by decide) ?_
      refine lv_icmp_ne (tgt := 34) hx hb dX8_next_18 (by decide) (fun c18 => ?_) (fun c18 => ?_)
      · have hF := brF c18 hF
        exact hk34_2 t_at_8_35 H locs ls hP hD hS hl hF
      · have hF := brT c18 hF
        refine lv_aload_n hx hb dX8_next_21 rfl (lv_at hl 0 rfl) ?_
        refine lv_dup hx hb dX8_next_22 rfl ?_
        refine va_get (D := D) (ci := 8) (v := .int t_at_8_35) (C := RX8) (T := TX8) (N := 20) hx hb hts iw8 hown hK hP 0 rfl rfl 9 (by decide) hf64 (fun _ h9 => h9) rfl dX8_next_23 ?_
        refine lv_iconst (v := 1) hx hb dX8_next_26 (by decide) ?_
        refine lv_iadd hx hb dX8_next_27 ?_
        refine lv_topi (fun y28_38 ey28_38 => ?_)
        have hF := ltE ey28_38 hF
        refine my_put (ty := .int) (v := .int y28_38) (ci := 8) (C := RX8) (T := TX8) (N := 20) (wn := [(a_t, .inr (8, [v_t_a, v_t_fresh, v_t_aside, v_t_kept, .int t_keptMany, .int t_thrown, .ref a_t_buffer, .int t_buffered, .int t_size, .int y28_38, .int t_behind, .int t_kind, .int t_number, .int t_wrong, .int t_wrongAt, .int t_errorAt, v_t_moved, .int t_unused, v_t_written, .int t_writtenMany])), (a_t_buffer, .inl (t 0, 900, .inl t_buffer_))]) hx hb hts iw8 tyX8 tyX8_ok nmX8 hown hK hP hD hS 0 rfl rfl 9 (by decide) hf64 (fun _ h9 => h9) rfl (by decide +kernel) rfl rfl (Nat.le_of_ble_eq_true rfl) rfl dX8_next_28 (fun H locs hP hD hS => ?_)
        refine lv_goto (tgt := 8) hx hb dX8_next_31 (by decide) ?_
        exact ih8 y28_38 H locs ls hP hD hS hl hF
  exact hlp8 N t_behind H locs ls hP hD hS hl hF
abbrev rm_X8_isWord : Room := { frames := 4, cells := 0, slots := 0, locals := 85 }
theorem hd_X8_isWord : yX8_isWord.cls = RX8 ∧ yX8_isWord.cls ≠ "java/lang/invoke/MethodHandle" ∧ yX8_isWord.cls ≠ "java/lang/invoke/VarHandle" ∧ (parseMethodDescriptor yX8_isWord.desc).map (fun d => d.parameters.length) = some 1 := by decide +kernel
set_option maxRecDepth 100000 in
set_option maxHeartbeats 4000000 in
theorem c_X8_isWord (l : Launch) (D : va_G) (t : Nat → ClassId) (z : Nat) (x : Nat → Nat) (N : Nat) (a_t : Nat) (a_t_buffer : Nat) (v_t_a : Value) (v_t_fresh : Value) (v_t_aside : Value) (v_t_kept : Value) (v_t_moved : Value) (v_t_written : Value) (t_keptMany : Int32) (t_thrown : Int32) (t_buffered : Int32) (t_size : Int32) (t_at : Int32) (t_behind : Int32) (t_kind : Int32) (t_number : Int32) (t_wrong : Int32) (t_wrongAt : Int32) (t_errorAt : Int32) (t_unused : Int32) (t_writtenMany : Int32) (t_buffer_ : (Nat → Int32)) (w1 : Nat) (H : Heap) (r : Int32) (hF : f_X8_isWord N t_at t_behind t_kind t_wrong t_buffer_ w1 = some (r)) : RdM l D (TY t) z x yX8_isWord wsX8_isWord rm_X8_isWord [.ref a_t, .ref (x (10 + w1))] [(a_t, .inr (8, [v_t_a, v_t_fresh, v_t_aside, v_t_kept, .int t_keptMany, .int t_thrown, .ref a_t_buffer, .int t_buffered, .int t_size, .int t_at, .int t_behind, .int t_kind, .int t_number, .int t_wrong, .int t_wrongAt, .int t_errorAt, v_t_moved, .int t_unused, v_t_written, .int t_writtenMany])), (a_t_buffer, .inl (t 0, 900, .inl t_buffer_))] H (some (.int r)) := by
  refine rd_of (cc := cX8_isWord) (maxL := 3) (ret := (some .boolean)) (by decide) rfl (Nat.le_of_ble_eq_true rfl) ?_
  intro p e s m args below meth c Q hQ hx hb hr hml hts hown hlocks hH hP hC ls hl
  have hown : s.vm.findClass RX8 = some m.cls := hown
  have hl : lv_has ls 3 [(0, .ref a_t), (1, .ref (x (10 + w1)))] := hl
  have hK := hC.1
  have iw8 : ∀ w ∈ wsX80, w ∈ wsX8_isWord := fun _ h => List.mem_cons_of_mem _ (List.mem_append_right _ h)
  have hf22 := hts (.fieldLink RX8 22 "CrackedColumnModel" "buffer" "[I") (by decide +kernel)
  have hf61 := hts (.fieldLink RX8 61 "CrackedColumnModel" "behind" "I") (by decide +kernel)
  have hf64 := hts (.fieldLink RX8 64 "CrackedColumnModel" "at" "I") (by decide +kernel)
  have hf71 := hts (.fieldLink RX8 71 "CrackedColumnModel" "kind" "I") (by decide +kernel)
  have hf85 := hts (.fieldLink RX8 85 "CrackedColumnModel" "wrong" "I") (by decide +kernel)
  have hSr : va_S (fun q => z ≤ q) s.heap H [] := by rw [hH]; exact va_S.rf
  have hCs : CXT D (TY t) z x s s.heap := by rw [hH]; exact hC
  unfold f_X8_isWord at hF
  refine lv_aload_n hx hb dX8_isWord_0 rfl (lv_at hl 0 rfl) ?_
  refine va_get (D := D) (ci := 8) (v := .int t_wrong) (C := RX8) (T := TX8) (N := 20) hx hb hts iw8 hown hK hP 0 rfl rfl 13 (by decide) hf85 (fun _ h9 => h9) rfl dX8_isWord_1 ?_
  refine lv_if_ne (tgt := 30) hx hb dX8_isWord_4 (by decide) (fun c4 => ?_) (fun c4 => ?_)
  · have hF := brF c4 hF
    refine lv_iconst (v := 0) hx hb dX8_isWord_30 (by decide) ?_
    cases hF
    exact rd_zret hx hb hr hlocks dX8_isWord_31 rfl rfl hQ
  · have hF := brT c4 hF
    refine lv_aload_n hx hb dX8_isWord_7 rfl (lv_at hl 0 rfl) ?_
    refine va_get (D := D) (ci := 8) (v := .int t_kind) (C := RX8) (T := TX8) (N := 20) hx hb hts iw8 hown hK hP 0 rfl rfl 11 (by decide) hf71 (fun _ h9 => h9) rfl dX8_isWord_8 ?_
    refine lv_if_ne (tgt := 30) hx hb dX8_isWord_11 (by decide) (fun c11 => ?_) (fun c11 => ?_)
    · have hF := brF c11 hF
      refine lv_iconst (v := 0) hx hb dX8_isWord_30 (by decide) ?_
      cases hF
      exact rd_zret hx hb hr hlocks dX8_isWord_31 rfl rfl hQ
    · have hF := brT c11 hF
      refine lv_aload_n hx hb dX8_isWord_14 rfl (lv_at hl 0 rfl) ?_
      refine va_get (D := D) (ci := 8) (v := .int t_behind) (C := RX8) (T := TX8) (N := 20) hx hb hts iw8 hown hK hP 0 rfl rfl 10 (by decide) hf61 (fun _ h9 => h9) rfl dX8_isWord_15 ?_
      refine lv_aload_n hx hb dX8_isWord_18 rfl (lv_at hl 0 rfl) ?_
      refine va_get (D := D) (ci := 8) (v := .int t_at) (C := RX8) (T := TX8) (N := 20) hx hb hts iw8 hown hK hP 0 rfl rfl 9 (by decide) hf64 (fun _ h9 => h9) rfl dX8_isWord_19 ?_
      refine lv_isub hx hb dX8_isWord_22 ?_
      refine lv_aload_n hx hb dX8_isWord_23 rfl (lv_at hl 1 rfl) ?_
      obtain ⟨g24_0, hF⟩ := gd hF
      refine rdVx (As := []) (rest := [.int (t_behind - t_at)]) (C := RJ0) (W0 := []) ⟨hx, hb, hml, hown, hts⟩ (c_J0_length l D t z x w1 (Nat.lt_of_not_le g24_0) H) (cwV 0 hts gX8_isWord_J0_length_8abf5 rfl rfl rfl hd_J0_length_8abf5 ⟨Nat.le_of_ble_eq_true rfl, Nat.le_of_ble_eq_true rfl⟩) hC (fun k q h => by cases h) (vk_recv (adK := fun i => x (10 + i)) hCs.2.2.2.2.1.1 (Nat.lt_of_not_le g24_0) hSr) rfl hl.1 rfl (Nat.le_of_ble_eq_true rfl) dX8_isWord_24 ⟨Nat.zero_le _, Nat.zero_le _⟩ rfl ?_
      refine lv_icmp_eq (tgt := 32) hx hb dX8_isWord_27 (by decide) (fun c27 => ?_) (fun c27 => ?_)
      · have hF := brT c27 hF
        refine lv_iconst (v := 0) hx hb dX8_isWord_32 (by decide) ?_
        refine lv_istore_n (lv' := [(2, .int 0), (0, .ref a_t), (1, .ref (x (10 + w1)))]) hx hb dX8_isWord_33 rfl hl (by decide) rfl (fun ls hl => ?_)
        obtain ⟨k69_2, ek69_2, hF⟩ := jnE hF
        have hk69_2 : ∀ (ls : Array Slot), lv_has ls 3 [] → k69_2 = some (r) → W p l e rm_X8_isWord s m args below meth c H [] 0 0 Q (F0 m 69 ls []) := by
          subst ek69_2
          intro ls hl hF
          refine lv_iconst (v := 1) hx hb dX8_isWord_69 (by decide) ?_
          cases hF
          exact rd_zret hx hb hr hlocks dX8_isWord_70 rfl rfl hQ
        obtain ⟨k61_3, ek61_3, hF⟩ := jnE hF
        have hk61_3 : ∀ (ls : Array Slot), lv_has ls 3 [] → k61_3 = some (r) → W p l e rm_X8_isWord s m args below meth c H [] 0 0 Q (F0 m 61 ls []) := by
          subst ek61_3
          intro ls hl hF
          refine lv_iconst (v := 0) hx hb dX8_isWord_61 (by decide) ?_
          cases hF
          exact rd_zret hx hb hr hlocks dX8_isWord_62 rfl rfl hQ
        have hlp34 : ∀ n34 : Nat, ∀ (x2_34_4 : Int32) (ls : Array Slot), lv_has ls 3 [(0, .ref a_t), (1, .ref (x (10 + w1))), (2, .int x2_34_4)] → f_X8_isWord_34 t_at t_buffer_ w1 k69_2 k61_3 n34 x2_34_4 = some (r) → W p l e rm_X8_isWord s m args below meth c H [] 0 0 Q (F0 m 34 ls []) := by
          intro n34
          induction n34 with
          | zero =>
            intro x2_34_4 ls hl hF
            cases (show none = some (r) from hF)
          | succ n34 ih34 =>
            intro x2_34_4 ls hl hF
            rw [f_X8_isWord_34] at hF
            refine lv_iload_n hx hb dX8_isWord_34 rfl (lv_at hl 2 rfl) ?_
            refine lv_aload_n hx hb dX8_isWord_35 rfl (lv_at hl 1 rfl) ?_
            obtain ⟨g36_4, hF⟩ := gd hF
            refine rdVx (As := []) (rest := [.int x2_34_4]) (C := RJ0) (W0 := []) ⟨hx, hb, hml, hown, hts⟩ (c_J0_length l D t z x w1 (Nat.lt_of_not_le g36_4) H) (cwV 0 hts gX8_isWord_J0_length_8abf5 rfl rfl rfl hd_J0_length_8abf5 ⟨Nat.le_of_ble_eq_true rfl, Nat.le_of_ble_eq_true rfl⟩) hC (fun k q h => by cases h) (vk_recv (adK := fun i => x (10 + i)) hCs.2.2.2.2.1.1 (Nat.lt_of_not_le g36_4) hSr) rfl hl.1 rfl (Nat.le_of_ble_eq_true rfl) dX8_isWord_36 ⟨Nat.zero_le _, Nat.zero_le _⟩ rfl ?_
            refine lv_icmp_ge (tgt := 69) hx hb dX8_isWord_39 (by decide) (fun c39 => ?_) (fun c39 => ?_)
            · have hF := brT c39 hF
              exact hk69_2 ls (lv_sub hl [] rfl) hF
            · have hF := brF c39 hF
              refine lv_aload_n hx hb dX8_isWord_42 rfl (lv_at hl 0 rfl) ?_
              refine va_get (D := D) (ci := 8) (v := .ref a_t_buffer) (C := RX8) (T := TX8) (N := 20) hx hb hts iw8 hown hK hP 0 rfl rfl 6 (by decide) hf22 (fun _ h9 => h9) rfl dX8_isWord_43 ?_
              refine lv_aload_n hx hb dX8_isWord_46 rfl (lv_at hl 0 rfl) ?_
              refine va_get (D := D) (ci := 8) (v := .int t_at) (C := RX8) (T := TX8) (N := 20) hx hb hts iw8 hown hK hP 0 rfl rfl 9 (by decide) hf64 (fun _ h9 => h9) rfl dX8_isWord_47 ?_
              refine lv_iload_n hx hb dX8_isWord_50 rfl (lv_at hl 2 rfl) ?_
              refine lv_iadd hx hb dX8_isWord_51 ?_
              obtain ⟨g52_6, hF⟩ := gd hF
              refine my_iald (v := t_buffer_ (t_at + x2_34_4).toNatClampNeg) hx hb hK hP 1 0 rfl rfl g52_6 rfl dX8_isWord_52 ?_
              refine lv_aload_n hx hb dX8_isWord_53 rfl (lv_at hl 1 rfl) ?_
              refine lv_iload_n hx hb dX8_isWord_54 rfl (lv_at hl 2 rfl) ?_
              obtain ⟨g55_8, hF⟩ := gd hF
              refine rdVx (As := [.int x2_34_4]) (rest := [.int (t_buffer_ (t_at + x2_34_4).toNatClampNeg)]) (C := RJ0) (W0 := []) ⟨hx, hb, hml, hown, hts⟩ (c_J0_charAt l D t z x w1 (Nat.lt_of_not_le g36_4) x2_34_4 g55_8 H) (cwV 1 hts gX8_isWord_J0_charAt_5068e rfl rfl rfl hd_J0_charAt_5068e ⟨Nat.le_of_ble_eq_true rfl, Nat.le_of_ble_eq_true rfl⟩) hC (fun k q h => by cases h) (vk_recv (adK := fun i => x (10 + i)) hCs.2.2.2.2.1.1 (Nat.lt_of_not_le g36_4) hSr) rfl hl.1 rfl (Nat.le_of_ble_eq_true rfl) dX8_isWord_55 ⟨Nat.zero_le _, Nat.zero_le _⟩ rfl ?_
              refine lv_icmp_eq (tgt := 63) hx hb dX8_isWord_58 (by decide) (fun c58 => ?_) (fun c58 => ?_)
              · have hF := brT c58 hF
                obtain ⟨y63_8, ey63_8⟩ : ∃ y : Int32, y = x2_34_4 + 1 := ⟨_, rfl⟩
                have hF := ltE ey63_8 hF
                refine lv_iinc (v := y63_8) (lv' := [(2, .int y63_8), (0, .ref a_t), (1, .ref (x (10 + w1)))]) hx hb dX8_isWord_63 hl (k := 2) rfl (by rw [ey63_8]; rfl) (by decide) rfl (fun ls hl => ?_)
                refine lv_goto (tgt := 34) hx hb dX8_isWord_66 (by decide) ?_
                exact ih34 y63_8 ls (lv_sub hl [1, 2, 0] rfl) hF
              · have hF := brF c58 hF
                exact hk61_3 ls (lv_sub hl [] rfl) hF
        exact hlp34 N 0 ls (lv_sub hl [1, 2, 0] rfl) hF
      · have hF := brF c27 hF
        refine lv_iconst (v := 0) hx hb dX8_isWord_30 (by decide) ?_
        cases hF
        exact rd_zret hx hb hr hlocks dX8_isWord_31 rfl rfl hQ
abbrev rm_X8_isSign : Room := { frames := 1, cells := 0, slots := 0, locals := 21 }
theorem hd_X8_isSign : yX8_isSign.cls = RX8 ∧ yX8_isSign.cls ≠ "java/lang/invoke/MethodHandle" ∧ yX8_isSign.cls ≠ "java/lang/invoke/VarHandle" ∧ (parseMethodDescriptor yX8_isSign.desc).map (fun d => d.parameters.length) = some 1 := by decide +kernel
set_option maxRecDepth 100000 in
set_option maxHeartbeats 4000000 in
theorem c_X8_isSign (l : Launch) (D : va_G) (t : Nat → ClassId) (z : Nat) (x : Nat → Nat) (a_t : Nat) (a_t_buffer : Nat) (v_t_a : Value) (v_t_fresh : Value) (v_t_aside : Value) (v_t_kept : Value) (v_t_moved : Value) (v_t_written : Value) (t_keptMany : Int32) (t_thrown : Int32) (t_buffered : Int32) (t_size : Int32) (t_at : Int32) (t_behind : Int32) (t_kind : Int32) (t_number : Int32) (t_wrong : Int32) (t_wrongAt : Int32) (t_errorAt : Int32) (t_unused : Int32) (t_writtenMany : Int32) (t_buffer_ : (Nat → Int32)) (p1 : Int32) (H : Heap) (r : Int32) (hF : f_X8_isSign t_size t_at t_kind t_wrong t_buffer_ p1 = some (r)) : RdM l D (TY t) z x yX8_isSign wsX8_isSign rm_X8_isSign [.ref a_t, .int p1] [(a_t, .inr (8, [v_t_a, v_t_fresh, v_t_aside, v_t_kept, .int t_keptMany, .int t_thrown, .ref a_t_buffer, .int t_buffered, .int t_size, .int t_at, .int t_behind, .int t_kind, .int t_number, .int t_wrong, .int t_wrongAt, .int t_errorAt, v_t_moved, .int t_unused, v_t_written, .int t_writtenMany])), (a_t_buffer, .inl (t 0, 900, .inl t_buffer_))] H (some (.int r)) := by
  refine rd_of (cc := cX8_isSign) (maxL := 2) (ret := (some .boolean)) (by decide) rfl (Nat.le_of_ble_eq_true rfl) ?_
  intro p e s m args below meth c Q hQ hx hb hr hml hts hown hlocks hH hP hC ls hl
  have hown : s.vm.findClass RX8 = some m.cls := hown
  have hl : lv_has ls 2 [(0, .ref a_t), (1, .int p1)] := hl
  have hK := hC.1
  have iw8 : ∀ w ∈ wsX80, w ∈ wsX8_isSign := fun _ h => List.mem_cons_of_mem _ (List.mem_append_right _ h)
  have hf64 := hts (.fieldLink RX8 64 "CrackedColumnModel" "at" "I") (by decide +kernel)
  have hf71 := hts (.fieldLink RX8 71 "CrackedColumnModel" "kind" "I") (by decide +kernel)
  have hf85 := hts (.fieldLink RX8 85 "CrackedColumnModel" "wrong" "I") (by decide +kernel)
  unfold f_X8_isSign at hF
  refine lv_aload_n hx hb dX8_isSign_0 rfl (lv_at hl 0 rfl) ?_
  refine va_get (D := D) (ci := 8) (v := .int t_wrong) (C := RX8) (T := TX8) (N := 20) hx hb hts iw8 hown hK hP 0 rfl rfl 13 (by decide) hf85 (fun _ h9 => h9) rfl dX8_isSign_1 ?_
  refine lv_if_ne (tgt := 31) hx hb dX8_isSign_4 (by decide) (fun c4 => ?_) (fun c4 => ?_)
  · have hF := brF c4 hF
    refine lv_iconst (v := 0) hx hb dX8_isSign_31 (by decide) ?_
    cases hF
    exact rd_zret hx hb hr hlocks dX8_isSign_32 rfl rfl hQ
  · have hF := brT c4 hF
    refine lv_aload_n hx hb dX8_isSign_7 rfl (lv_at hl 0 rfl) ?_
    refine va_get (D := D) (ci := 8) (v := .int t_kind) (C := RX8) (T := TX8) (N := 20) hx hb hts iw8 hown hK hP 0 rfl rfl 11 (by decide) hf71 (fun _ h9 => h9) rfl dX8_isSign_8 ?_
    refine lv_iconst (v := 2) hx hb dX8_isSign_11 (by decide) ?_
    refine lv_icmp_ne (tgt := 31) hx hb dX8_isSign_12 (by decide) (fun c12 => ?_) (fun c12 => ?_)
    · have hF := brF c12 hF
      refine lv_iconst (v := 0) hx hb dX8_isSign_31 (by decide) ?_
      cases hF
      exact rd_zret hx hb hr hlocks dX8_isSign_32 rfl rfl hQ
    · have hF := brT c12 hF
      refine lv_aload_n hx hb dX8_isSign_15 rfl (lv_at hl 0 rfl) ?_
      refine lv_aload_n hx hb dX8_isSign_16 rfl (lv_at hl 0 rfl) ?_
      refine va_get (D := D) (ci := 8) (v := .int t_at) (C := RX8) (T := TX8) (N := 20) hx hb hts iw8 hown hK hP 0 rfl rfl 9 (by decide) hf64 (fun _ h9 => h9) rfl dX8_isSign_17 ?_
      obtain ⟨r20_1, h20_1, hF⟩ := bndE hF
      refine rdV (As := [.int t_at]) (rest := []) (C := RX8) ⟨hx, hb, hml, hown, hts⟩ (c_X8_see l D t z x a_t a_t_buffer v_t_a v_t_fresh v_t_aside v_t_kept v_t_moved v_t_written t_keptMany t_thrown t_buffered t_size t_at t_behind t_kind t_number t_wrong t_wrongAt t_errorAt t_unused t_writtenMany t_buffer_ t_at H r20_1 h20_1) (cwV 1 hts gX8_isSign_X8_see rfl rfl rfl hd_X8_see ⟨Nat.le_of_ble_eq_true rfl, Nat.le_of_ble_eq_true rfl⟩) hC (selP (m9 := [true, true]) rfl rfl hP) 0 rfl (show vwCl[8]? = some (RX8, TX8, 20) from rfl) rfl rfl hl.1 rfl (Nat.le_of_ble_eq_true rfl) dX8_isSign_20 ⟨Nat.zero_le _, Nat.zero_le _⟩ rfl ?_
      refine lv_iload_n hx hb dX8_isSign_23 rfl (lv_at hl 1 rfl) ?_
      refine lv_icmp_ne (tgt := 31) hx hb dX8_isSign_24 (by decide) (fun c24 => ?_) (fun c24 => ?_)
      · have hF := brF c24 hF
        refine lv_iconst (v := 0) hx hb dX8_isSign_31 (by decide) ?_
        cases hF
        exact rd_zret hx hb hr hlocks dX8_isSign_32 rfl rfl hQ
      · have hF := brT c24 hF
        refine lv_iconst (v := 1) hx hb dX8_isSign_27 (by decide) ?_
        refine lv_goto (tgt := 32) hx hb dX8_isSign_28 (by decide) ?_
        cases hF
        exact rd_zret hx hb hr hlocks dX8_isSign_32 rfl rfl hQ
abbrev rm_X8_fails : Room := { frames := 0, cells := 0, slots := 0, locals := 0 }
theorem hd_X8_fails : yX8_fails.cls = RX8 ∧ yX8_fails.cls ≠ "java/lang/invoke/MethodHandle" ∧ yX8_fails.cls ≠ "java/lang/invoke/VarHandle" ∧ (parseMethodDescriptor yX8_fails.desc).map (fun d => d.parameters.length) = some 1 := by decide +kernel
set_option maxRecDepth 100000 in
set_option maxHeartbeats 4000000 in
theorem c_X8_fails (l : Launch) (D : va_G) (t : Nat → ClassId) (z : Nat) (x : Nat → Nat) (a_t : Nat) (v_t_a : Value) (v_t_fresh : Value) (v_t_aside : Value) (v_t_kept : Value) (v_t_buffer : Value) (v_t_moved : Value) (v_t_written : Value) (t_keptMany : Int32) (t_thrown : Int32) (t_buffered : Int32) (t_size : Int32) (t_at : Int32) (t_behind : Int32) (t_kind : Int32) (t_number : Int32) (t_wrong : Int32) (t_wrongAt : Int32) (t_errorAt : Int32) (t_unused : Int32) (t_writtenMany : Int32) (p1 : Int32) (sz : Nat) (t_wrong' : Int32) (t_wrongAt' : Int32) (hF : f_X8_fails t_at t_wrong t_wrongAt p1 = some (t_wrong', t_wrongAt')) : WrM l D (TY t) z x yX8_fails wsX8_fails rm_X8_fails [.ref a_t, .int p1] [(a_t, .inr (8, [v_t_a, v_t_fresh, v_t_aside, v_t_kept, .int t_keptMany, .int t_thrown, v_t_buffer, .int t_buffered, .int t_size, .int t_at, .int t_behind, .int t_kind, .int t_number, .int t_wrong, .int t_wrongAt, .int t_errorAt, v_t_moved, .int t_unused, v_t_written, .int t_writtenMany]))] [(a_t, .inr (8, [v_t_a, v_t_fresh, v_t_aside, v_t_kept, .int t_keptMany, .int t_thrown, v_t_buffer, .int t_buffered, .int t_size, .int t_at, .int t_behind, .int t_kind, .int t_number, .int t_wrong', .int t_wrongAt', .int t_errorAt, v_t_moved, .int t_unused, v_t_written, .int t_writtenMany]))] sz none 0 0 := by
  refine wr_of (cc := cX8_fails) (maxL := 2) (ret := none) (by decide) rfl (Nat.le_of_ble_eq_true rfl) ?_
  intro p e s m args below meth c A Q hQ hx hb hr hml hts hown hlocks hin H locs hP hD hS hA hz hC ls hl
  have hown : s.vm.findClass RX8 = some m.cls := hown
  have hl : lv_has ls 2 [(0, .ref a_t), (1, .int p1)] := hl
  have hK := hC.1
  have iw8 : ∀ w ∈ wsX80, w ∈ wsX8_fails := fun _ h => List.mem_cons_of_mem _ (List.mem_append_right _ h)
  have hf64 := hts (.fieldLink RX8 64 "CrackedColumnModel" "at" "I") (by decide +kernel)
  have hf85 := hts (.fieldLink RX8 85 "CrackedColumnModel" "wrong" "I") (by decide +kernel)
  have hf98 := hts (.fieldLink RX8 98 "CrackedColumnModel" "wrongAt" "I") (by decide +kernel)
  unfold f_X8_fails at hF
  refine lv_aload_n hx hb dX8_fails_0 rfl (lv_at hl 0 rfl) ?_
  refine va_get (D := D) (ci := 8) (v := .int t_wrong) (C := RX8) (T := TX8) (N := 20) hx hb hts iw8 hown hK hP 0 rfl rfl 13 (by decide) hf85 (fun _ h9 => h9) rfl dX8_fails_1 ?_
  refine lv_if_eq (tgt := 8) hx hb dX8_fails_4 (by decide) (fun c4 => ?_) (fun c4 => ?_)
  · have hF := brT c4 hF
    refine lv_aload_n hx hb dX8_fails_8 rfl (lv_at hl 0 rfl) ?_
    refine lv_iload_n hx hb dX8_fails_9 rfl (lv_at hl 1 rfl) ?_
    refine my_put (ty := .int) (v := .int p1) (ci := 8) (C := RX8) (T := TX8) (N := 20) (wn := [(a_t, .inr (8, [v_t_a, v_t_fresh, v_t_aside, v_t_kept, .int t_keptMany, .int t_thrown, v_t_buffer, .int t_buffered, .int t_size, .int t_at, .int t_behind, .int t_kind, .int t_number, .int p1, .int t_wrongAt, .int t_errorAt, v_t_moved, .int t_unused, v_t_written, .int t_writtenMany]))]) hx hb hts iw8 tyX8 tyX8_ok nmX8 hown hK hP hD hS 0 rfl rfl 13 (by decide) hf85 (fun _ h9 => h9) rfl (by decide +kernel) rfl rfl (Nat.le_of_ble_eq_true rfl) rfl dX8_fails_10 (fun H locs hP hD hS => ?_)
    refine lv_aload_n hx hb dX8_fails_13 rfl (lv_at hl 0 rfl) ?_
    refine lv_aload_n hx hb dX8_fails_14 rfl (lv_at hl 0 rfl) ?_
    refine va_get (D := D) (ci := 8) (v := .int t_at) (C := RX8) (T := TX8) (N := 20) hx hb hts iw8 hown hK hP 0 rfl rfl 9 (by decide) hf64 (fun _ h9 => h9) rfl dX8_fails_15 ?_
    refine my_put (ty := .int) (v := .int t_at) (ci := 8) (C := RX8) (T := TX8) (N := 20) (wn := [(a_t, .inr (8, [v_t_a, v_t_fresh, v_t_aside, v_t_kept, .int t_keptMany, .int t_thrown, v_t_buffer, .int t_buffered, .int t_size, .int t_at, .int t_behind, .int t_kind, .int t_number, .int p1, .int t_at, .int t_errorAt, v_t_moved, .int t_unused, v_t_written, .int t_writtenMany]))]) hx hb hts iw8 tyX8 tyX8_ok nmX8 hown hK hP hD hS 0 rfl rfl 14 (by decide) hf98 (fun _ h9 => h9) rfl (by decide +kernel) rfl rfl (Nat.le_of_ble_eq_true rfl) rfl dX8_fails_18 (fun H locs hP hD hS => ?_)
    cases hF
    exact we_vret hx hb hr hlocks dX8_fails_21 rfl hQ hP hD hS
  · have hF := brF c4 hF
    cases hF
    exact we_vret hx hb hr hlocks dX8_fails_7 rfl hQ hP hD hS
abbrev rm_X8_must : Room := { frames := 3, cells := 0, slots := 0, locals := 62 }
theorem hd_X8_must : yX8_must.cls = RX8 ∧ yX8_must.cls ≠ "java/lang/invoke/MethodHandle" ∧ yX8_must.cls ≠ "java/lang/invoke/VarHandle" ∧ (parseMethodDescriptor yX8_must.desc).map (fun d => d.parameters.length) = some 1 := by decide +kernel
set_option maxRecDepth 100000 in
set_option maxHeartbeats 4000000 in
theorem c_X8_must (l : Launch) (D : va_G) (t : Nat → ClassId) (z : Nat) (x : Nat → Nat) (N : Nat) (a_t : Nat) (a_t_buffer : Nat) (v_t_a : Value) (v_t_fresh : Value) (v_t_aside : Value) (v_t_kept : Value) (v_t_moved : Value) (v_t_written : Value) (t_keptMany : Int32) (t_thrown : Int32) (t_buffered : Int32) (t_size : Int32) (t_at : Int32) (t_behind : Int32) (t_kind : Int32) (t_number : Int32) (t_wrong : Int32) (t_wrongAt : Int32) (t_errorAt : Int32) (t_unused : Int32) (t_writtenMany : Int32) (t_buffer_ : (Nat → Int32)) (p1 : Int32) (sz : Nat) (t_at' : Int32) (t_behind' : Int32) (t_kind' : Int32) (t_number' : Int32) (t_wrong' : Int32) (t_wrongAt' : Int32) (hF : f_X8_must N t_size t_at t_behind t_kind t_number t_wrong t_wrongAt t_buffer_ p1 = some (t_at', t_behind', t_kind', t_number', t_wrong', t_wrongAt')) : WrM l D (TY t) z x yX8_must wsX8_must rm_X8_must [.ref a_t, .int p1] [(a_t, .inr (8, [v_t_a, v_t_fresh, v_t_aside, v_t_kept, .int t_keptMany, .int t_thrown, .ref a_t_buffer, .int t_buffered, .int t_size, .int t_at, .int t_behind, .int t_kind, .int t_number, .int t_wrong, .int t_wrongAt, .int t_errorAt, v_t_moved, .int t_unused, v_t_written, .int t_writtenMany])), (a_t_buffer, .inl (t 0, 900, .inl t_buffer_))] [(a_t, .inr (8, [v_t_a, v_t_fresh, v_t_aside, v_t_kept, .int t_keptMany, .int t_thrown, .ref a_t_buffer, .int t_buffered, .int t_size, .int t_at', .int t_behind', .int t_kind', .int t_number', .int t_wrong', .int t_wrongAt', .int t_errorAt, v_t_moved, .int t_unused, v_t_written, .int t_writtenMany])), (a_t_buffer, .inl (t 0, 900, .inl t_buffer_))] sz none 0 0 := by
  obtain ⟨T9, hT⟩ : ∃ T9, T9 = (t_at', t_behind', t_kind', t_number', t_wrong', t_wrongAt') := ⟨_, rfl⟩
  rw [← hT] at hF
  obtain rfl : t_at' = T9.1 := by rw [hT]
  obtain rfl : t_behind' = T9.2.1 := by rw [hT]
  obtain rfl : t_kind' = T9.2.2.1 := by rw [hT]
  obtain rfl : t_number' = T9.2.2.2.1 := by rw [hT]
  obtain rfl : t_wrong' = T9.2.2.2.2.1 := by rw [hT]
  obtain rfl : t_wrongAt' = T9.2.2.2.2.2 := by rw [hT]
  clear hT
  refine wr_of (cc := cX8_must) (maxL := 2) (ret := none) (by decide) rfl (Nat.le_of_ble_eq_true rfl) ?_
  intro p e s m args below meth c A Q hQ hx hb hr hml hts hown hlocks hin H locs hP hD hS hA hz hC ls hl
  have hown : s.vm.findClass RX8 = some m.cls := hown
  have hl : lv_has ls 2 [(0, .ref a_t), (1, .int p1)] := hl
  have hK := hC.1
  have iw8 : ∀ w ∈ wsX80, w ∈ wsX8_must := fun _ h => List.mem_cons_of_mem _ (List.mem_append_right _ h)
  have hf85 := hts (.fieldLink RX8 85 "CrackedColumnModel" "wrong" "I") (by decide +kernel)
  unfold f_X8_must at hF
  refine lv_iload_n hx hb dX8_must_0 rfl (lv_at hl 1 rfl) ?_
  refine lv_if_ne (tgt := 10) hx hb dX8_must_1 (by decide) (fun c1 => ?_) (fun c1 => ?_)
  · have hF := brF c1 hF
    refine lv_aload_n hx hb dX8_must_10 rfl (lv_at hl 0 rfl) ?_
    refine va_get (D := D) (ci := 8) (v := .int t_wrong) (C := RX8) (T := TX8) (N := 20) hx hb hts iw8 hown hK hP 0 rfl rfl 13 (by decide) hf85 (fun _ h9 => h9) rfl dX8_must_11 ?_
    refine lv_if_ne (tgt := 21) hx hb dX8_must_14 (by decide) (fun c14 => ?_) (fun c14 => ?_)
    · have hF := brF c14 hF
      cases hF
      exact we_vret hx hb hr hlocks dX8_must_21 rfl hQ hP hD hS
    · have hF := brT c14 hF
      refine lv_aload_n hx hb dX8_must_17 rfl (lv_at hl 0 rfl) ?_
      obtain ⟨t_at_18_1, t_behind_18_2, t_kind_18_3, t_number_18_4, h18_4, hF⟩ := bnd4E hF
      refine wrVM (As := []) (rest := []) (C := RX8) (wn := [(a_t, .inr (8, [v_t_a, v_t_fresh, v_t_aside, v_t_kept, .int t_keptMany, .int t_thrown, .ref a_t_buffer, .int t_buffered, .int t_size, .int t_at_18_1, .int t_behind_18_2, .int t_kind_18_3, .int t_number_18_4, .int t_wrong, .int t_wrongAt, .int t_errorAt, v_t_moved, .int t_unused, v_t_written, .int t_writtenMany])), (a_t_buffer, .inl (t 0, 900, .inl t_buffer_))]) ⟨hx, hb, hml, hown, hts⟩ (c_X8_next l D t z x N a_t a_t_buffer v_t_a v_t_fresh v_t_aside v_t_kept v_t_moved v_t_written t_keptMany t_thrown t_buffered t_size t_at t_behind t_kind t_number t_wrong t_wrongAt t_errorAt t_unused t_writtenMany t_buffer_ H.size t_at_18_1 t_behind_18_2 t_kind_18_3 t_number_18_4 h18_4) (cwV 0 hts gX8_must_X8_next rfl rfl rfl hd_X8_next ⟨Nat.le_of_ble_eq_true rfl, Nat.le_of_ble_eq_true rfl⟩) (hC.at hz hS) hP hD hS hA hz [true, true] rfl rfl rfl rfl 0 rfl (show vwCl[8]? = some (RX8, TX8, 20) from rfl) rfl rfl hl.1 rfl (Nat.le_of_ble_eq_true rfl) dX8_must_18 ⟨Nat.zero_le _, Nat.zero_le _⟩ rfl (fun H locs hP hD hS => ?_)
      cases hF
      exact we_vret hx hb hr hlocks dX8_must_21 rfl hQ hP hD hS
  · have hF := brT c1 hF
    refine lv_aload_n hx hb dX8_must_4 rfl (lv_at hl 0 rfl) ?_
    refine lv_bipush (v := (-2)) hx hb dX8_must_5 (by decide) ?_
    obtain ⟨t_wrong_7_6, t_wrongAt_7_7, h7_7, hF⟩ := bnd2E hF
    refine wrVM (As := [.int (-2)]) (rest := []) (C := RX8) (wn := [(a_t, .inr (8, [v_t_a, v_t_fresh, v_t_aside, v_t_kept, .int t_keptMany, .int t_thrown, .ref a_t_buffer, .int t_buffered, .int t_size, .int t_at, .int t_behind, .int t_kind, .int t_number, .int t_wrong_7_6, .int t_wrongAt_7_7, .int t_errorAt, v_t_moved, .int t_unused, v_t_written, .int t_writtenMany])), (a_t_buffer, .inl (t 0, 900, .inl t_buffer_))]) ⟨hx, hb, hml, hown, hts⟩ (c_X8_fails l D t z x a_t v_t_a v_t_fresh v_t_aside v_t_kept (.ref a_t_buffer) v_t_moved v_t_written t_keptMany t_thrown t_buffered t_size t_at t_behind t_kind t_number t_wrong t_wrongAt t_errorAt t_unused t_writtenMany (-2) H.size t_wrong_7_6 t_wrongAt_7_7 h7_7) (cwV 1 hts gX8_must_X8_fails rfl rfl rfl hd_X8_fails ⟨Nat.le_of_ble_eq_true rfl, Nat.le_of_ble_eq_true rfl⟩) (hC.at hz hS) hP hD hS hA hz [true, false] rfl rfl rfl rfl 0 rfl (show vwCl[8]? = some (RX8, TX8, 20) from rfl) rfl rfl hl.1 rfl (Nat.le_of_ble_eq_true rfl) dX8_must_7 ⟨Nat.zero_le _, Nat.zero_le _⟩ rfl (fun H locs hP hD hS => ?_)
    refine lv_aload_n hx hb dX8_must_10 rfl (lv_at hl 0 rfl) ?_
    refine va_get (D := D) (ci := 8) (v := .int t_wrong_7_6) (C := RX8) (T := TX8) (N := 20) hx hb hts iw8 hown hK hP 0 rfl rfl 13 (by decide) hf85 (fun _ h9 => h9) rfl dX8_must_11 ?_
    refine lv_if_ne (tgt := 21) hx hb dX8_must_14 (by decide) (fun c14 => ?_) (fun c14 => ?_)
    · have hF := brF c14 hF
      cases hF
      exact we_vret hx hb hr hlocks dX8_must_21 rfl hQ hP hD hS
    · have hF := brT c14 hF
      refine lv_aload_n hx hb dX8_must_17 rfl (lv_at hl 0 rfl) ?_
      obtain ⟨t_at_18_9, t_behind_18_10, t_kind_18_11, t_number_18_12, h18_12, hF⟩ := bnd4E hF
      refine wrVM (As := []) (rest := []) (C := RX8) (wn := [(a_t, .inr (8, [v_t_a, v_t_fresh, v_t_aside, v_t_kept, .int t_keptMany, .int t_thrown, .ref a_t_buffer, .int t_buffered, .int t_size, .int t_at_18_9, .int t_behind_18_10, .int t_kind_18_11, .int t_number_18_12, .int t_wrong_7_6, .int t_wrongAt_7_7, .int t_errorAt, v_t_moved, .int t_unused, v_t_written, .int t_writtenMany])), (a_t_buffer, .inl (t 0, 900, .inl t_buffer_))]) ⟨hx, hb, hml, hown, hts⟩ (c_X8_next l D t z x N a_t a_t_buffer v_t_a v_t_fresh v_t_aside v_t_kept v_t_moved v_t_written t_keptMany t_thrown t_buffered t_size t_at t_behind t_kind t_number t_wrong_7_6 t_wrongAt_7_7 t_errorAt t_unused t_writtenMany t_buffer_ H.size t_at_18_9 t_behind_18_10 t_kind_18_11 t_number_18_12 h18_12) (cwV 0 hts gX8_must_X8_next rfl rfl rfl hd_X8_next ⟨Nat.le_of_ble_eq_true rfl, Nat.le_of_ble_eq_true rfl⟩) (hC.at hz hS) hP hD hS hA hz [true, true] rfl rfl rfl rfl 0 rfl (show vwCl[8]? = some (RX8, TX8, 20) from rfl) rfl rfl hl.1 rfl (Nat.le_of_ble_eq_true rfl) dX8_must_18 ⟨Nat.zero_le _, Nat.zero_le _⟩ rfl (fun H locs hP hD hS => ?_)
      cases hF
      exact we_vret hx hb hr hlocks dX8_must_21 rfl hQ hP hD hS
abbrev rm_X8_takes : Room := { frames := 3, cells := 0, slots := 0, locals := 62 }
theorem hd_X8_takes : yX8_takes.cls = RX8 ∧ yX8_takes.cls ≠ "java/lang/invoke/MethodHandle" ∧ yX8_takes.cls ≠ "java/lang/invoke/VarHandle" ∧ (parseMethodDescriptor yX8_takes.desc).map (fun d => d.parameters.length) = some 2 := by decide +kernel
set_option maxRecDepth 100000 in
set_option maxHeartbeats 4000000 in
theorem c_X8_takes (l : Launch) (D : va_G) (t : Nat → ClassId) (z : Nat) (x : Nat → Nat) (N : Nat) (a_t : Nat) (a_t_buffer : Nat) (v_t_a : Value) (v_t_fresh : Value) (v_t_aside : Value) (v_t_kept : Value) (v_t_moved : Value) (v_t_written : Value) (t_keptMany : Int32) (t_thrown : Int32) (t_buffered : Int32) (t_size : Int32) (t_at : Int32) (t_behind : Int32) (t_kind : Int32) (t_number : Int32) (t_wrong : Int32) (t_wrongAt : Int32) (t_errorAt : Int32) (t_unused : Int32) (t_writtenMany : Int32) (t_buffer_ : (Nat → Int32)) (p1 : Int32) (p2 : Int32) (sz : Nat) (r : Int32) (t_at' : Int32) (t_behind' : Int32) (t_kind' : Int32) (t_number' : Int32) (t_wrong' : Int32) (t_wrongAt' : Int32) (hF : f_X8_takes N t_size t_at t_behind t_kind t_number t_wrong t_wrongAt t_buffer_ p1 p2 = some (r, t_at', t_behind', t_kind', t_number', t_wrong', t_wrongAt')) : WrM l D (TY t) z x yX8_takes wsX8_takes rm_X8_takes [.ref a_t, .int p1, .int p2] [(a_t, .inr (8, [v_t_a, v_t_fresh, v_t_aside, v_t_kept, .int t_keptMany, .int t_thrown, .ref a_t_buffer, .int t_buffered, .int t_size, .int t_at, .int t_behind, .int t_kind, .int t_number, .int t_wrong, .int t_wrongAt, .int t_errorAt, v_t_moved, .int t_unused, v_t_written, .int t_writtenMany])), (a_t_buffer, .inl (t 0, 900, .inl t_buffer_))] [(a_t, .inr (8, [v_t_a, v_t_fresh, v_t_aside, v_t_kept, .int t_keptMany, .int t_thrown, .ref a_t_buffer, .int t_buffered, .int t_size, .int t_at', .int t_behind', .int t_kind', .int t_number', .int t_wrong', .int t_wrongAt', .int t_errorAt, v_t_moved, .int t_unused, v_t_written, .int t_writtenMany])), (a_t_buffer, .inl (t 0, 900, .inl t_buffer_))] sz (some (.int r)) 0 0 := by
  obtain ⟨T9, hT⟩ : ∃ T9, T9 = (r, t_at', t_behind', t_kind', t_number', t_wrong', t_wrongAt') := ⟨_, rfl⟩
  rw [← hT] at hF
  obtain rfl : r = T9.1 := by rw [hT]
  obtain rfl : t_at' = T9.2.1 := by rw [hT]
  obtain rfl : t_behind' = T9.2.2.1 := by rw [hT]
  obtain rfl : t_kind' = T9.2.2.2.1 := by rw [hT]
  obtain rfl : t_number' = T9.2.2.2.2.1 := by rw [hT]
  obtain rfl : t_wrong' = T9.2.2.2.2.2.1 := by rw [hT]
  obtain rfl : t_wrongAt' = T9.2.2.2.2.2.2 := by rw [hT]
  clear hT
  refine wr_of (cc := cX8_takes) (maxL := 4) (ret := (some .int)) (by decide) rfl (Nat.le_of_ble_eq_true rfl) ?_
  intro p e s m args below meth c A Q hQ hx hb hr hml hts hown hlocks hin H locs hP hD hS hA hz hC ls hl
  have hown : s.vm.findClass RX8 = some m.cls := hown
  have hl : lv_has ls 4 [(0, .ref a_t), (1, .int p1), (2, .int p2)] := hl
  have hK := hC.1
  have iw8 : ∀ w ∈ wsX80, w ∈ wsX8_takes := fun _ h => List.mem_cons_of_mem _ (List.mem_append_right _ h)
  have hf71 := hts (.fieldLink RX8 71 "CrackedColumnModel" "kind" "I") (by decide +kernel)
  have hf81 := hts (.fieldLink RX8 81 "CrackedColumnModel" "number" "I") (by decide +kernel)
  have hf85 := hts (.fieldLink RX8 85 "CrackedColumnModel" "wrong" "I") (by decide +kernel)
  unfold f_X8_takes at hF
  refine lv_aload_n hx hb dX8_takes_0 rfl (lv_at hl 0 rfl) ?_
  refine va_get (D := D) (ci := 8) (v := .int t_wrong) (C := RX8) (T := TX8) (N := 20) hx hb hts iw8 hown hK hP 0 rfl rfl 13 (by decide) hf85 (fun _ h9 => h9) rfl dX8_takes_1 ?_
  obtain ⟨k49_3, ek49_3, hF⟩ := jnE hF
  have hk49_3 : ∀ (t_wrong_49_1 : Int32) (t_wrongAt_49_2 : Int32) (H : Heap) (locs : List Loc) (ls : Array Slot), va_P D vwCl [(a_t, .inr (8, [v_t_a, v_t_fresh, v_t_aside, v_t_kept, .int t_keptMany, .int t_thrown, .ref a_t_buffer, .int t_buffered, .int t_size, .int t_at, .int t_behind, .int t_kind, .int t_number, .int t_wrong_49_1, .int t_wrongAt_49_2, .int t_errorAt, v_t_moved, .int t_unused, v_t_written, .int t_writtenMany])), (a_t_buffer, .inl (t 0, 900, .inl t_buffer_))] H → va_D A [(a_t, .inr (8, [v_t_a, v_t_fresh, v_t_aside, v_t_kept, .int t_keptMany, .int t_thrown, .ref a_t_buffer, .int t_buffered, .int t_size, .int t_at, .int t_behind, .int t_kind, .int t_number, .int t_wrong_49_1, .int t_wrongAt_49_2, .int t_errorAt, v_t_moved, .int t_unused, v_t_written, .int t_writtenMany])), (a_t_buffer, .inl (t 0, 900, .inl t_buffer_))] → va_S A s.heap H locs → lv_has ls 4 [(0, .ref a_t)] → k49_3 t_wrong_49_1 t_wrongAt_49_2 = some T9 → W p l e rm_X8_takes s m args below meth c H locs 0 0 Q (F0 m 49 ls []) := by
    subst ek49_3
    intro t_wrong_49_1 t_wrongAt_49_2 H locs ls hP hD hS hl hF
    refine lv_aload_n hx hb dX8_takes_49 rfl (lv_at hl 0 rfl) ?_
    refine va_get (D := D) (ci := 8) (v := .int t_wrong_49_1) (C := RX8) (T := TX8) (N := 20) hx hb hts iw8 hown hK hP 0 rfl rfl 13 (by decide) hf85 (fun _ h9 => h9) rfl dX8_takes_50 ?_
    obtain ⟨k64_5, ek64_5, hF⟩ := jnE hF
    have hk64_5 : ∀ (s0_64_4 : Int32) (H : Heap) (locs : List Loc) (ls : Array Slot), va_P D vwCl [(a_t, .inr (8, [v_t_a, v_t_fresh, v_t_aside, v_t_kept, .int t_keptMany, .int t_thrown, .ref a_t_buffer, .int t_buffered, .int t_size, .int t_at, .int t_behind, .int t_kind, .int t_number, .int t_wrong_49_1, .int t_wrongAt_49_2, .int t_errorAt, v_t_moved, .int t_unused, v_t_written, .int t_writtenMany])), (a_t_buffer, .inl (t 0, 900, .inl t_buffer_))] H → va_D A [(a_t, .inr (8, [v_t_a, v_t_fresh, v_t_aside, v_t_kept, .int t_keptMany, .int t_thrown, .ref a_t_buffer, .int t_buffered, .int t_size, .int t_at, .int t_behind, .int t_kind, .int t_number, .int t_wrong_49_1, .int t_wrongAt_49_2, .int t_errorAt, v_t_moved, .int t_unused, v_t_written, .int t_writtenMany])), (a_t_buffer, .inl (t 0, 900, .inl t_buffer_))] → va_S A s.heap H locs → lv_has ls 4 [(0, .ref a_t)] → k64_5 s0_64_4 = some T9 → W p l e rm_X8_takes s m args below meth c H locs 0 0 Q (F0 m 64 ls [.int s0_64_4]) := by
      subst ek64_5
      intro s0_64_4 H locs ls hP hD hS hl hF
      refine lv_istore_n (lv' := [(3, .int s0_64_4), (0, .ref a_t)]) hx hb dX8_takes_64 rfl hl (by decide) rfl (fun ls hl => ?_)
      refine lv_aload_n hx hb dX8_takes_65 rfl (lv_at hl 1 rfl) ?_
      refine va_get (D := D) (ci := 8) (v := .int t_wrong_49_1) (C := RX8) (T := TX8) (N := 20) hx hb hts iw8 hown hK hP 0 rfl rfl 13 (by decide) hf85 (fun _ h9 => h9) rfl dX8_takes_66 ?_
      refine lv_if_ne (tgt := 76) hx hb dX8_takes_69 (by decide) (fun c69 => ?_) (fun c69 => ?_)
      · have hF := brF c69 hF
        refine lv_iload_n hx hb dX8_takes_76 rfl (lv_at hl 0 rfl) ?_
        cases hF
        exact we_iret hx hb hr hlocks dX8_takes_77 rfl hQ hP hD hS
      · have hF := brT c69 hF
        refine lv_aload_n hx hb dX8_takes_72 rfl (lv_at hl 1 rfl) ?_
        obtain ⟨t_at_73_6, t_behind_73_7, t_kind_73_8, t_number_73_9, h73_9, hF⟩ := bnd4E hF
        refine wrVM (As := []) (rest := []) (C := RX8) (wn := [(a_t, .inr (8, [v_t_a, v_t_fresh, v_t_aside, v_t_kept, .int t_keptMany, .int t_thrown, .ref a_t_buffer, .int t_buffered, .int t_size, .int t_at_73_6, .int t_behind_73_7, .int t_kind_73_8, .int t_number_73_9, .int t_wrong_49_1, .int t_wrongAt_49_2, .int t_errorAt, v_t_moved, .int t_unused, v_t_written, .int t_writtenMany])), (a_t_buffer, .inl (t 0, 900, .inl t_buffer_))]) ⟨hx, hb, hml, hown, hts⟩ (c_X8_next l D t z x N a_t a_t_buffer v_t_a v_t_fresh v_t_aside v_t_kept v_t_moved v_t_written t_keptMany t_thrown t_buffered t_size t_at t_behind t_kind t_number t_wrong_49_1 t_wrongAt_49_2 t_errorAt t_unused t_writtenMany t_buffer_ H.size t_at_73_6 t_behind_73_7 t_kind_73_8 t_number_73_9 h73_9) (cwV 0 hts gX8_takes_X8_next rfl rfl rfl hd_X8_next ⟨Nat.le_of_ble_eq_true rfl, Nat.le_of_ble_eq_true rfl⟩) (hC.at hz hS) hP hD hS hA hz [true, true] rfl rfl rfl rfl 0 rfl (show vwCl[8]? = some (RX8, TX8, 20) from rfl) rfl rfl hl.1 rfl (Nat.le_of_ble_eq_true rfl) dX8_takes_73 ⟨Nat.zero_le _, Nat.zero_le _⟩ rfl (fun H locs hP hD hS => ?_)
        refine lv_iload_n hx hb dX8_takes_76 rfl (lv_at hl 0 rfl) ?_
        cases hF
        exact we_iret hx hb hr hlocks dX8_takes_77 rfl hQ hP hD hS
    refine lv_if_ne (tgt := 63) hx hb dX8_takes_53 (by decide) (fun c53 => ?_) (fun c53 => ?_)
    · have hF := brF c53 hF
      refine lv_iconst (v := 0) hx hb dX8_takes_63 (by decide) ?_
      exact hk64_5 0 H locs ls hP hD hS hl hF
    · have hF := brT c53 hF
      refine lv_aload_n hx hb dX8_takes_56 rfl (lv_at hl 0 rfl) ?_
      refine va_get (D := D) (ci := 8) (v := .int t_number) (C := RX8) (T := TX8) (N := 20) hx hb hts iw8 hown hK hP 0 rfl rfl 12 (by decide) hf81 (fun _ h9 => h9) rfl dX8_takes_57 ?_
      refine lv_goto (tgt := 64) hx hb dX8_takes_60 (by decide) ?_
      exact hk64_5 t_number H locs ls hP hD hS hl hF
  obtain ⟨k24_11, ek24_11, hF⟩ := jnE hF
  have hk24_11 : ∀ (H : Heap) (locs : List Loc) (ls : Array Slot), va_P D vwCl [(a_t, .inr (8, [v_t_a, v_t_fresh, v_t_aside, v_t_kept, .int t_keptMany, .int t_thrown, .ref a_t_buffer, .int t_buffered, .int t_size, .int t_at, .int t_behind, .int t_kind, .int t_number, .int t_wrong, .int t_wrongAt, .int t_errorAt, v_t_moved, .int t_unused, v_t_written, .int t_writtenMany])), (a_t_buffer, .inl (t 0, 900, .inl t_buffer_))] H → va_D A [(a_t, .inr (8, [v_t_a, v_t_fresh, v_t_aside, v_t_kept, .int t_keptMany, .int t_thrown, .ref a_t_buffer, .int t_buffered, .int t_size, .int t_at, .int t_behind, .int t_kind, .int t_number, .int t_wrong, .int t_wrongAt, .int t_errorAt, v_t_moved, .int t_unused, v_t_written, .int t_writtenMany])), (a_t_buffer, .inl (t 0, 900, .inl t_buffer_))] → va_S A s.heap H locs → lv_has ls 4 [(0, .ref a_t), (1, .int p1), (2, .int p2)] → k24_11 = some T9 → W p l e rm_X8_takes s m args below meth c H locs 0 0 Q (F0 m 24 ls []) := by
    subst ek24_11
    intro H locs ls hP hD hS hl hF
    refine lv_aload_n hx hb dX8_takes_24 rfl (lv_at hl 0 rfl) ?_
    refine va_get (D := D) (ci := 8) (v := .int t_wrong) (C := RX8) (T := TX8) (N := 20) hx hb hts iw8 hown hK hP 0 rfl rfl 13 (by decide) hf85 (fun _ h9 => h9) rfl dX8_takes_25 ?_
    refine lv_if_ne (tgt := 49) hx hb dX8_takes_28 (by decide) (fun c28 => ?_) (fun c28 => ?_)
    · have hF := brF c28 hF
      exact hk49_3 t_wrong t_wrongAt H locs ls hP hD hS (lv_sub hl [0] rfl) hF
    · have hF := brT c28 hF
      refine lv_aload_n hx hb dX8_takes_31 rfl (lv_at hl 0 rfl) ?_
      refine va_get (D := D) (ci := 8) (v := .int t_number) (C := RX8) (T := TX8) (N := 20) hx hb hts iw8 hown hK hP 0 rfl rfl 12 (by decide) hf81 (fun _ h9 => h9) rfl dX8_takes_32 ?_
      refine lv_iload_n hx hb dX8_takes_35 rfl (lv_at hl 1 rfl) ?_
      refine lv_iload_n hx hb dX8_takes_36 rfl (lv_at hl 2 rfl) ?_
      obtain ⟨r37_12, h37_12, hF⟩ := bndE hF
      refine rdS (As := [.int t_number, .int p1, .int p2]) (rest := []) ⟨hx, hb, hml, hown, hts⟩ (c_X8_isIn l D t z x t_number p1 p2 H r37_12 h37_12) (va_cwS 3 hts gX8_takes_X8_isIn rfl rfl rfl hd_X8_isIn.2 ⟨Nat.le_of_ble_eq_true rfl, Nat.le_of_ble_eq_true rfl⟩) (hC.at hz hS) (selP (m9 := [false, false]) rfl rfl hP) rfl hl.1 rfl (Nat.le_of_ble_eq_true rfl) dX8_takes_37 ⟨Nat.zero_le _, Nat.zero_le _⟩ rfl ?_
      refine lv_if_ne (tgt := 49) hx hb dX8_takes_40 (by decide) (fun c40 => ?_) (fun c40 => ?_)
      · have hF := brF c40 hF
        exact hk49_3 t_wrong t_wrongAt H locs ls hP hD hS (lv_sub hl [0] rfl) hF
      · have hF := brT c40 hF
        refine lv_aload_n hx hb dX8_takes_43 rfl (lv_at hl 0 rfl) ?_
        refine lv_bipush (v := (-3)) hx hb dX8_takes_44 (by decide) ?_
        obtain ⟨t_wrong_46_14, t_wrongAt_46_15, h46_15, hF⟩ := bnd2E hF
        refine wrVM (As := [.int (-3)]) (rest := []) (C := RX8) (wn := [(a_t, .inr (8, [v_t_a, v_t_fresh, v_t_aside, v_t_kept, .int t_keptMany, .int t_thrown, .ref a_t_buffer, .int t_buffered, .int t_size, .int t_at, .int t_behind, .int t_kind, .int t_number, .int t_wrong_46_14, .int t_wrongAt_46_15, .int t_errorAt, v_t_moved, .int t_unused, v_t_written, .int t_writtenMany])), (a_t_buffer, .inl (t 0, 900, .inl t_buffer_))]) ⟨hx, hb, hml, hown, hts⟩ (c_X8_fails l D t z x a_t v_t_a v_t_fresh v_t_aside v_t_kept (.ref a_t_buffer) v_t_moved v_t_written t_keptMany t_thrown t_buffered t_size t_at t_behind t_kind t_number t_wrong t_wrongAt t_errorAt t_unused t_writtenMany (-3) H.size t_wrong_46_14 t_wrongAt_46_15 h46_15) (cwV 1 hts gX8_takes_X8_fails rfl rfl rfl hd_X8_fails ⟨Nat.le_of_ble_eq_true rfl, Nat.le_of_ble_eq_true rfl⟩) (hC.at hz hS) hP hD hS hA hz [true, false] rfl rfl rfl rfl 0 rfl (show vwCl[8]? = some (RX8, TX8, 20) from rfl) rfl rfl hl.1 rfl (Nat.le_of_ble_eq_true rfl) dX8_takes_46 ⟨Nat.zero_le _, Nat.zero_le _⟩ rfl (fun H locs hP hD hS => ?_)
        exact hk49_3 t_wrong_46_14 t_wrongAt_46_15 H locs ls hP hD hS (lv_sub hl [0] rfl) hF
  refine lv_if_ne (tgt := 24) hx hb dX8_takes_4 (by decide) (fun c4 => ?_) (fun c4 => ?_)
  · have hF := brF c4 hF
    exact hk24_11 H locs ls hP hD hS hl hF
  · have hF := brT c4 hF
    refine lv_aload_n hx hb dX8_takes_7 rfl (lv_at hl 0 rfl) ?_
    refine va_get (D := D) (ci := 8) (v := .int t_kind) (C := RX8) (T := TX8) (N := 20) hx hb hts iw8 hown hK hP 0 rfl rfl 11 (by decide) hf71 (fun _ h9 => h9) rfl dX8_takes_8 ?_
    refine lv_iconst (v := 1) hx hb dX8_takes_11 (by decide) ?_
    refine lv_icmp_eq (tgt := 24) hx hb dX8_takes_12 (by decide) (fun c12 => ?_) (fun c12 => ?_)
    · have hF := brT c12 hF
      exact hk24_11 H locs ls hP hD hS hl hF
    · have hF := brF c12 hF
      refine lv_aload_n hx hb dX8_takes_15 rfl (lv_at hl 0 rfl) ?_
      refine lv_bipush (v := (-2)) hx hb dX8_takes_16 (by decide) ?_
      obtain ⟨t_wrong_18_17, t_wrongAt_18_18, h18_18, hF⟩ := bnd2E hF
      refine wrVM (As := [.int (-2)]) (rest := []) (C := RX8) (wn := [(a_t, .inr (8, [v_t_a, v_t_fresh, v_t_aside, v_t_kept, .int t_keptMany, .int t_thrown, .ref a_t_buffer, .int t_buffered, .int t_size, .int t_at, .int t_behind, .int t_kind, .int t_number, .int t_wrong_18_17, .int t_wrongAt_18_18, .int t_errorAt, v_t_moved, .int t_unused, v_t_written, .int t_writtenMany])), (a_t_buffer, .inl (t 0, 900, .inl t_buffer_))]) ⟨hx, hb, hml, hown, hts⟩ (c_X8_fails l D t z x a_t v_t_a v_t_fresh v_t_aside v_t_kept (.ref a_t_buffer) v_t_moved v_t_written t_keptMany t_thrown t_buffered t_size t_at t_behind t_kind t_number t_wrong t_wrongAt t_errorAt t_unused t_writtenMany (-2) H.size t_wrong_18_17 t_wrongAt_18_18 h18_18) (cwV 1 hts gX8_takes_X8_fails rfl rfl rfl hd_X8_fails ⟨Nat.le_of_ble_eq_true rfl, Nat.le_of_ble_eq_true rfl⟩) (hC.at hz hS) hP hD hS hA hz [true, false] rfl rfl rfl rfl 0 rfl (show vwCl[8]? = some (RX8, TX8, 20) from rfl) rfl rfl hl.1 rfl (Nat.le_of_ble_eq_true rfl) dX8_takes_18 ⟨Nat.zero_le _, Nat.zero_le _⟩ rfl (fun H locs hP hD hS => ?_)
      refine lv_goto (tgt := 49) hx hb dX8_takes_21 (by decide) ?_
      exact hk49_3 t_wrong_18_17 t_wrongAt_18_18 H locs ls hP hD hS (lv_sub hl [0] rfl) hF
abbrev rm_X8_readsRow : Room := { frames := 4, cells := 0, slots := 0, locals := 85 }
theorem hd_X8_readsRow : yX8_readsRow.cls = RX8 ∧ yX8_readsRow.cls ≠ "java/lang/invoke/MethodHandle" ∧ yX8_readsRow.cls ≠ "java/lang/invoke/VarHandle" ∧ (parseMethodDescriptor yX8_readsRow.desc).map (fun d => d.parameters.length) = some 0 := by decide +kernel
set_option maxRecDepth 100000 in
set_option maxHeartbeats 4000000 in
theorem c_X8_readsRow (l : Launch) (D : va_G) (t : Nat → ClassId) (z : Nat) (x : Nat → Nat) (N : Nat) (a_t : Nat) (a_t_buffer : Nat) (a_t_fresh : Nat) (v_t_a : Value) (v_t_aside : Value) (v_t_kept : Value) (v_t_moved : Value) (v_t_written : Value) (t_keptMany : Int32) (t_thrown : Int32) (t_buffered : Int32) (t_size : Int32) (t_at : Int32) (t_behind : Int32) (t_kind : Int32) (t_number : Int32) (t_wrong : Int32) (t_wrongAt : Int32) (t_errorAt : Int32) (t_unused : Int32) (t_writtenMany : Int32) (t_buffer_ : (Nat → Int32)) (t_fresh_ : (Nat → Int32)) (sz : Nat) (t_at' : Int32) (t_behind' : Int32) (t_kind' : Int32) (t_number' : Int32) (t_wrong' : Int32) (t_wrongAt' : Int32) (t_fresh_' : (Nat → Int32)) (hF : f_X8_readsRow N t_size t_at t_behind t_kind t_number t_wrong t_wrongAt t_buffer_ t_fresh_ = some (t_at', t_behind', t_kind', t_number', t_wrong', t_wrongAt', t_fresh_')) : WrM l D (TY t) z x yX8_readsRow wsX8_readsRow rm_X8_readsRow [.ref a_t] [(a_t, .inr (8, [v_t_a, .ref a_t_fresh, v_t_aside, v_t_kept, .int t_keptMany, .int t_thrown, .ref a_t_buffer, .int t_buffered, .int t_size, .int t_at, .int t_behind, .int t_kind, .int t_number, .int t_wrong, .int t_wrongAt, .int t_errorAt, v_t_moved, .int t_unused, v_t_written, .int t_writtenMany])), (a_t_buffer, .inl (t 0, 900, .inl t_buffer_)), (a_t_fresh, .inl (t 0, 876, .inl t_fresh_))] [(a_t, .inr (8, [v_t_a, .ref a_t_fresh, v_t_aside, v_t_kept, .int t_keptMany, .int t_thrown, .ref a_t_buffer, .int t_buffered, .int t_size, .int t_at', .int t_behind', .int t_kind', .int t_number', .int t_wrong', .int t_wrongAt', .int t_errorAt, v_t_moved, .int t_unused, v_t_written, .int t_writtenMany])), (a_t_buffer, .inl (t 0, 900, .inl t_buffer_)), (a_t_fresh, .inl (t 0, 876, .inl t_fresh_'))] sz none 0 0 := by
  obtain ⟨T9, hT⟩ : ∃ T9, T9 = (t_at', t_behind', t_kind', t_number', t_wrong', t_wrongAt', t_fresh_') := ⟨_, rfl⟩
  rw [← hT] at hF
  obtain rfl : t_at' = T9.1 := by rw [hT]
  obtain rfl : t_behind' = T9.2.1 := by rw [hT]
  obtain rfl : t_kind' = T9.2.2.1 := by rw [hT]
  obtain rfl : t_number' = T9.2.2.2.1 := by rw [hT]
  obtain rfl : t_wrong' = T9.2.2.2.2.1 := by rw [hT]
  obtain rfl : t_wrongAt' = T9.2.2.2.2.2.1 := by rw [hT]
  obtain rfl : t_fresh_' = T9.2.2.2.2.2.2 := by rw [hT]
  clear hT
  refine wr_of (cc := cX8_readsRow) (maxL := 5) (ret := none) (by decide) rfl (Nat.le_of_ble_eq_true rfl) ?_
  intro p e s m args below meth c A Q hQ hx hb hr hml hts hown hlocks hin H locs hP hD hS hA hz hC ls hl
  have hown : s.vm.findClass RX8 = some m.cls := hown
  have hl : lv_has ls 5 [(0, .ref a_t)] := hl
  have hK := hC.1
  have iw8 : ∀ w ∈ wsX80, w ∈ wsX8_readsRow := fun _ h => List.mem_cons_of_mem _ (List.mem_append_right _ h)
  have hf13 := hts (.fieldLink RX8 13 "CrackedColumnModel" "fresh" "[I") (by decide +kernel)
  have hf85 := hts (.fieldLink RX8 85 "CrackedColumnModel" "wrong" "I") (by decide +kernel)
  unfold f_X8_readsRow at hF
  refine lv_aload_n hx hb dX8_readsRow_0 rfl (lv_at hl 0 rfl) ?_
  refine va_get (D := D) (ci := 8) (v := .ref a_t_fresh) (C := RX8) (T := TX8) (N := 20) hx hb hts iw8 hown hK hP 0 rfl rfl 1 (by decide) hf13 (fun _ h9 => h9) rfl dX8_readsRow_1 ?_
  refine lv_iconst (v := 0) hx hb dX8_readsRow_4 (by decide) ?_
  refine my_iald (v := t_fresh_ 0) hx hb hK hP 2 0 rfl rfl (vp_lit (by decide +kernel)) rfl dX8_readsRow_5 ?_
  refine lv_topi (fun y6_1 ey6_1 => ?_)
  have hF := ltE ey6_1 hF
  refine lv_istore_n (lv' := [(1, .int y6_1), (0, .ref a_t)]) hx hb dX8_readsRow_6 rfl hl (by decide) rfl (fun ls hl => ?_)
  refine lv_iload_n hx hb dX8_readsRow_7 rfl (lv_at hl 0 rfl) ?_
  refine lv_bipush (v := 120) hx hb dX8_readsRow_8 (by decide) ?_
  obtain ⟨k19_4, ek19_4, hF⟩ := jnE hF
  have hk19_4 : ∀ (t_wrong_19_2 : Int32) (t_wrongAt_19_3 : Int32) (H : Heap) (locs : List Loc) (ls : Array Slot), va_P D vwCl [(a_t, .inr (8, [v_t_a, .ref a_t_fresh, v_t_aside, v_t_kept, .int t_keptMany, .int t_thrown, .ref a_t_buffer, .int t_buffered, .int t_size, .int t_at, .int t_behind, .int t_kind, .int t_number, .int t_wrong_19_2, .int t_wrongAt_19_3, .int t_errorAt, v_t_moved, .int t_unused, v_t_written, .int t_writtenMany])), (a_t_buffer, .inl (t 0, 900, .inl t_buffer_)), (a_t_fresh, .inl (t 0, 876, .inl t_fresh_))] H → va_D A [(a_t, .inr (8, [v_t_a, .ref a_t_fresh, v_t_aside, v_t_kept, .int t_keptMany, .int t_thrown, .ref a_t_buffer, .int t_buffered, .int t_size, .int t_at, .int t_behind, .int t_kind, .int t_number, .int t_wrong_19_2, .int t_wrongAt_19_3, .int t_errorAt, v_t_moved, .int t_unused, v_t_written, .int t_writtenMany])), (a_t_buffer, .inl (t 0, 900, .inl t_buffer_)), (a_t_fresh, .inl (t 0, 876, .inl t_fresh_))] → va_S A s.heap H locs → lv_has ls 5 [(0, .ref a_t), (1, .int y6_1)] → k19_4 t_wrong_19_2 t_wrongAt_19_3 = some T9 → W p l e rm_X8_readsRow s m args below meth c H locs 0 0 Q (F0 m 19 ls []) := by
    subst ek19_4
    intro t_wrong_19_2 t_wrongAt_19_3 H locs ls hP hD hS hl hF
    refine lv_aload_n hx hb dX8_readsRow_19 rfl (lv_at hl 0 rfl) ?_
    refine lv_iconst (v := 1) hx hb dX8_readsRow_20 (by decide) ?_
    obtain ⟨t_at_21_5, t_behind_21_6, t_kind_21_7, t_number_21_8, t_wrong_21_9, t_wrongAt_21_10, h21_10, hF⟩ := bnd6E hF
    refine wrVM (As := [.int 1]) (rest := []) (C := RX8) (wn := [(a_t, .inr (8, [v_t_a, .ref a_t_fresh, v_t_aside, v_t_kept, .int t_keptMany, .int t_thrown, .ref a_t_buffer, .int t_buffered, .int t_size, .int t_at_21_5, .int t_behind_21_6, .int t_kind_21_7, .int t_number_21_8, .int t_wrong_21_9, .int t_wrongAt_21_10, .int t_errorAt, v_t_moved, .int t_unused, v_t_written, .int t_writtenMany])), (a_t_buffer, .inl (t 0, 900, .inl t_buffer_)), (a_t_fresh, .inl (t 0, 876, .inl t_fresh_))]) ⟨hx, hb, hml, hown, hts⟩ (c_X8_must l D t z x N a_t a_t_buffer v_t_a (.ref a_t_fresh) v_t_aside v_t_kept v_t_moved v_t_written t_keptMany t_thrown t_buffered t_size t_at t_behind t_kind t_number t_wrong_19_2 t_wrongAt_19_3 t_errorAt t_unused t_writtenMany t_buffer_ 1 H.size t_at_21_5 t_behind_21_6 t_kind_21_7 t_number_21_8 t_wrong_21_9 t_wrongAt_21_10 h21_10) (cwV 1 hts gX8_readsRow_X8_must rfl rfl rfl hd_X8_must ⟨Nat.le_of_ble_eq_true rfl, Nat.le_of_ble_eq_true rfl⟩) (hC.at hz hS) hP hD hS hA hz [true, true, false] rfl rfl rfl rfl 0 rfl (show vwCl[8]? = some (RX8, TX8, 20) from rfl) rfl rfl hl.1 rfl (Nat.le_of_ble_eq_true rfl) dX8_readsRow_21 ⟨Nat.zero_le _, Nat.zero_le _⟩ rfl (fun H locs hP hD hS => ?_)
    refine lv_aload_n hx hb dX8_readsRow_24 rfl (lv_at hl 0 rfl) ?_
    refine lv_iconst (v := 0) hx hb dX8_readsRow_25 (by decide) ?_
    refine lv_sipush (v := 9999) hx hb dX8_readsRow_26 (by decide) ?_
    obtain ⟨r29_12, t_at_29_13, t_behind_29_14, t_kind_29_15, t_number_29_16, t_wrong_29_17, t_wrongAt_29_18, h29_18, hF⟩ := bnd7E hF
    refine wrVM (As := [.int 0, .int 9999]) (rest := []) (C := RX8) (wn := [(a_t, .inr (8, [v_t_a, .ref a_t_fresh, v_t_aside, v_t_kept, .int t_keptMany, .int t_thrown, .ref a_t_buffer, .int t_buffered, .int t_size, .int t_at_29_13, .int t_behind_29_14, .int t_kind_29_15, .int t_number_29_16, .int t_wrong_29_17, .int t_wrongAt_29_18, .int t_errorAt, v_t_moved, .int t_unused, v_t_written, .int t_writtenMany])), (a_t_buffer, .inl (t 0, 900, .inl t_buffer_)), (a_t_fresh, .inl (t 0, 876, .inl t_fresh_))]) ⟨hx, hb, hml, hown, hts⟩ (c_X8_takes l D t z x N a_t a_t_buffer v_t_a (.ref a_t_fresh) v_t_aside v_t_kept v_t_moved v_t_written t_keptMany t_thrown t_buffered t_size t_at_21_5 t_behind_21_6 t_kind_21_7 t_number_21_8 t_wrong_21_9 t_wrongAt_21_10 t_errorAt t_unused t_writtenMany t_buffer_ 0 9999 H.size r29_12 t_at_29_13 t_behind_29_14 t_kind_29_15 t_number_29_16 t_wrong_29_17 t_wrongAt_29_18 h29_18) (cwV 2 hts gX8_readsRow_X8_takes rfl rfl rfl hd_X8_takes ⟨Nat.le_of_ble_eq_true rfl, Nat.le_of_ble_eq_true rfl⟩) (hC.at hz hS) hP hD hS hA hz [true, true, false] rfl rfl rfl rfl 0 rfl (show vwCl[8]? = some (RX8, TX8, 20) from rfl) rfl rfl hl.1 rfl (Nat.le_of_ble_eq_true rfl) dX8_readsRow_29 ⟨Nat.zero_le _, Nat.zero_le _⟩ rfl (fun H locs hP hD hS => ?_)
    refine lv_istore_n (lv' := [(2, .int r29_12), (0, .ref a_t), (1, .int y6_1)]) hx hb dX8_readsRow_32 rfl hl (by decide) rfl (fun ls hl => ?_)
    refine lv_aload_n hx hb dX8_readsRow_33 rfl (lv_at hl 1 rfl) ?_
    refine lv_bipush (v := 45) hx hb dX8_readsRow_34 (by decide) ?_
    obtain ⟨r36_20, h36_20, hF⟩ := bndE hF
    refine rdV (As := [.int 45]) (rest := []) (C := RX8) ⟨hx, hb, hml, hown, hts⟩ (c_X8_isSign l D t z x a_t a_t_buffer v_t_a (.ref a_t_fresh) v_t_aside v_t_kept v_t_moved v_t_written t_keptMany t_thrown t_buffered t_size t_at_29_13 t_behind_29_14 t_kind_29_15 t_number_29_16 t_wrong_29_17 t_wrongAt_29_18 t_errorAt t_unused t_writtenMany t_buffer_ 45 H r36_20 h36_20) (cwV 1 hts gX8_readsRow_X8_isSign rfl rfl rfl hd_X8_isSign ⟨Nat.le_of_ble_eq_true rfl, Nat.le_of_ble_eq_true rfl⟩) (hC.at hz hS) (selP (m9 := [true, true, false]) rfl rfl hP) 0 rfl (show vwCl[8]? = some (RX8, TX8, 20) from rfl) rfl rfl hl.1 rfl (Nat.le_of_ble_eq_true rfl) dX8_readsRow_36 ⟨Nat.zero_le _, Nat.zero_le _⟩ rfl ?_
    refine lv_istore_n (lv' := [(3, .int r36_20), (2, .int r29_12), (0, .ref a_t), (1, .int y6_1)]) hx hb dX8_readsRow_39 rfl hl (by decide) rfl (fun ls hl => ?_)
    refine lv_iload_n hx hb dX8_readsRow_40 rfl (lv_at hl 0 rfl) ?_
    obtain ⟨k48_26, ek48_26, hF⟩ := jnE hF
    have hk48_26 : ∀ (t_at_48_22 : Int32) (t_behind_48_23 : Int32) (t_kind_48_24 : Int32) (t_number_48_25 : Int32) (H : Heap) (locs : List Loc) (ls : Array Slot), va_P D vwCl [(a_t, .inr (8, [v_t_a, .ref a_t_fresh, v_t_aside, v_t_kept, .int t_keptMany, .int t_thrown, .ref a_t_buffer, .int t_buffered, .int t_size, .int t_at_48_22, .int t_behind_48_23, .int t_kind_48_24, .int t_number_48_25, .int t_wrong_29_17, .int t_wrongAt_29_18, .int t_errorAt, v_t_moved, .int t_unused, v_t_written, .int t_writtenMany])), (a_t_buffer, .inl (t 0, 900, .inl t_buffer_)), (a_t_fresh, .inl (t 0, 876, .inl t_fresh_))] H → va_D A [(a_t, .inr (8, [v_t_a, .ref a_t_fresh, v_t_aside, v_t_kept, .int t_keptMany, .int t_thrown, .ref a_t_buffer, .int t_buffered, .int t_size, .int t_at_48_22, .int t_behind_48_23, .int t_kind_48_24, .int t_number_48_25, .int t_wrong_29_17, .int t_wrongAt_29_18, .int t_errorAt, v_t_moved, .int t_unused, v_t_written, .int t_writtenMany])), (a_t_buffer, .inl (t 0, 900, .inl t_buffer_)), (a_t_fresh, .inl (t 0, 876, .inl t_fresh_))] → va_S A s.heap H locs → lv_has ls 5 [(0, .ref a_t), (1, .int y6_1), (2, .int r29_12), (3, .int r36_20)] → k48_26 t_at_48_22 t_behind_48_23 t_kind_48_24 t_number_48_25 = some T9 → W p l e rm_X8_readsRow s m args below meth c H locs 0 0 Q (F0 m 48 ls []) := by
      subst ek48_26
      intro t_at_48_22 t_behind_48_23 t_kind_48_24 t_number_48_25 H locs ls hP hD hS hl hF
      refine lv_aload_n hx hb dX8_readsRow_48 rfl (lv_at hl 0 rfl) ?_
      refine lv_iconst (v := 0) hx hb dX8_readsRow_49 (by decide) ?_
      refine lv_bipush (v := 99) hx hb dX8_readsRow_50 (by decide) ?_
      obtain ⟨r52_27, t_at_52_28, t_behind_52_29, t_kind_52_30, t_number_52_31, t_wrong_52_32, t_wrongAt_52_33, h52_33, hF⟩ := bnd7E hF
      refine wrVM (As := [.int 0, .int 99]) (rest := []) (C := RX8) (wn := [(a_t, .inr (8, [v_t_a, .ref a_t_fresh, v_t_aside, v_t_kept, .int t_keptMany, .int t_thrown, .ref a_t_buffer, .int t_buffered, .int t_size, .int t_at_52_28, .int t_behind_52_29, .int t_kind_52_30, .int t_number_52_31, .int t_wrong_52_32, .int t_wrongAt_52_33, .int t_errorAt, v_t_moved, .int t_unused, v_t_written, .int t_writtenMany])), (a_t_buffer, .inl (t 0, 900, .inl t_buffer_)), (a_t_fresh, .inl (t 0, 876, .inl t_fresh_))]) ⟨hx, hb, hml, hown, hts⟩ (c_X8_takes l D t z x N a_t a_t_buffer v_t_a (.ref a_t_fresh) v_t_aside v_t_kept v_t_moved v_t_written t_keptMany t_thrown t_buffered t_size t_at_48_22 t_behind_48_23 t_kind_48_24 t_number_48_25 t_wrong_29_17 t_wrongAt_29_18 t_errorAt t_unused t_writtenMany t_buffer_ 0 99 H.size r52_27 t_at_52_28 t_behind_52_29 t_kind_52_30 t_number_52_31 t_wrong_52_32 t_wrongAt_52_33 h52_33) (cwV 2 hts gX8_readsRow_X8_takes rfl rfl rfl hd_X8_takes ⟨Nat.le_of_ble_eq_true rfl, Nat.le_of_ble_eq_true rfl⟩) (hC.at hz hS) hP hD hS hA hz [true, true, false] rfl rfl rfl rfl 0 rfl (show vwCl[8]? = some (RX8, TX8, 20) from rfl) rfl rfl hl.1 rfl (Nat.le_of_ble_eq_true rfl) dX8_readsRow_52 ⟨Nat.zero_le _, Nat.zero_le _⟩ rfl (fun H locs hP hD hS => ?_)
      refine lv_istore (lv' := [(4, .int r52_27), (0, .ref a_t), (1, .int y6_1), (2, .int r29_12), (3, .int r36_20)]) hx hb dX8_readsRow_55 hl (by decide) rfl (fun ls hl => ?_)
      refine lv_aload_n hx hb dX8_readsRow_57 rfl (lv_at hl 1 rfl) ?_
      refine va_get (D := D) (ci := 8) (v := .int t_wrong_52_32) (C := RX8) (T := TX8) (N := 20) hx hb hts iw8 hown hK hP 0 rfl rfl 13 (by decide) hf85 (fun _ h9 => h9) rfl dX8_readsRow_58 ?_
      refine lv_if_eq (tgt := 65) hx hb dX8_readsRow_61 (by decide) (fun c61 => ?_) (fun c61 => ?_)
      · have hF := brT c61 hF
        refine lv_aload_n hx hb dX8_readsRow_65 rfl (lv_at hl 1 rfl) ?_
        refine va_get (D := D) (ci := 8) (v := .ref a_t_fresh) (C := RX8) (T := TX8) (N := 20) hx hb hts iw8 hown hK hP 0 rfl rfl 1 (by decide) hf13 (fun _ h9 => h9) rfl dX8_readsRow_66 ?_
        refine lv_bipush (v := 20) hx hb dX8_readsRow_69 (by decide) ?_
        refine lv_iload_n hx hb dX8_readsRow_71 rfl (lv_at hl 2 rfl) ?_
        refine lv_iadd hx hb dX8_readsRow_72 ?_
        refine lv_iload_n hx hb dX8_readsRow_73 rfl (lv_at hl 3 rfl) ?_
        obtain ⟨g74_34, hF⟩ := gd hF
        obtain ⟨t_fresh_74_36, et_fresh_74_36⟩ : ∃ y : Nat → Int32, y = upd t_fresh_ (20 + y6_1).toNatClampNeg r29_12 := ⟨_, rfl⟩
        have hF := ltE et_fresh_74_36 hF
        refine my_iast (g := t_fresh_74_36) (wn := [(a_t, .inr (8, [v_t_a, .ref a_t_fresh, v_t_aside, v_t_kept, .int t_keptMany, .int t_thrown, .ref a_t_buffer, .int t_buffered, .int t_size, .int t_at_52_28, .int t_behind_52_29, .int t_kind_52_30, .int t_number_52_31, .int t_wrong_52_32, .int t_wrongAt_52_33, .int t_errorAt, v_t_moved, .int t_unused, v_t_written, .int t_writtenMany])), (a_t_buffer, .inl (t 0, 900, .inl t_buffer_)), (a_t_fresh, .inl (t 0, 876, .inl t_fresh_74_36))]) hx hb hK hP hD hS 2 0 rfl rfl g74_34 et_fresh_74_36 rfl dX8_readsRow_74 (fun H locs hP hD hS => ?_)
        refine lv_aload_n hx hb dX8_readsRow_75 rfl (lv_at hl 1 rfl) ?_
        refine va_get (D := D) (ci := 8) (v := .ref a_t_fresh) (C := RX8) (T := TX8) (N := 20) hx hb hts iw8 hown hK hP 0 rfl rfl 1 (by decide) hf13 (fun _ h9 => h9) rfl dX8_readsRow_76 ?_
        refine lv_sipush (v := 140) hx hb dX8_readsRow_79 (by decide) ?_
        refine lv_iload_n hx hb dX8_readsRow_82 rfl (lv_at hl 2 rfl) ?_
        refine lv_iadd hx hb dX8_readsRow_83 ?_
        refine lv_iload_n hx hb dX8_readsRow_84 rfl (lv_at hl 4 rfl) ?_
        obtain ⟨k96_38, ek96_38, hF⟩ := jnE hF
        have hk96_38 : ∀ (s0_96_37 : Int32) (H : Heap) (locs : List Loc) (ls : Array Slot), va_P D vwCl [(a_t, .inr (8, [v_t_a, .ref a_t_fresh, v_t_aside, v_t_kept, .int t_keptMany, .int t_thrown, .ref a_t_buffer, .int t_buffered, .int t_size, .int t_at_52_28, .int t_behind_52_29, .int t_kind_52_30, .int t_number_52_31, .int t_wrong_52_32, .int t_wrongAt_52_33, .int t_errorAt, v_t_moved, .int t_unused, v_t_written, .int t_writtenMany])), (a_t_buffer, .inl (t 0, 900, .inl t_buffer_)), (a_t_fresh, .inl (t 0, 876, .inl t_fresh_74_36))] H → va_D A [(a_t, .inr (8, [v_t_a, .ref a_t_fresh, v_t_aside, v_t_kept, .int t_keptMany, .int t_thrown, .ref a_t_buffer, .int t_buffered, .int t_size, .int t_at_52_28, .int t_behind_52_29, .int t_kind_52_30, .int t_number_52_31, .int t_wrong_52_32, .int t_wrongAt_52_33, .int t_errorAt, v_t_moved, .int t_unused, v_t_written, .int t_writtenMany])), (a_t_buffer, .inl (t 0, 900, .inl t_buffer_)), (a_t_fresh, .inl (t 0, 876, .inl t_fresh_74_36))] → va_S A s.heap H locs → lv_has ls 5 [(0, .ref a_t)] → k96_38 s0_96_37 = some T9 → W p l e rm_X8_readsRow s m args below meth c H locs 0 0 Q (F0 m 96 ls [.int s0_96_37, .int (140 + y6_1), .ref a_t_fresh]) := by
          subst ek96_38
          intro s0_96_37 H locs ls hP hD hS hl hF
          obtain ⟨g96_38, hF⟩ := gd hF
          obtain ⟨t_fresh_96_40, et_fresh_96_40⟩ : ∃ y : Nat → Int32, y = upd t_fresh_74_36 (140 + y6_1).toNatClampNeg s0_96_37 := ⟨_, rfl⟩
          have hF := ltE et_fresh_96_40 hF
          refine my_iast (g := t_fresh_96_40) (wn := [(a_t, .inr (8, [v_t_a, .ref a_t_fresh, v_t_aside, v_t_kept, .int t_keptMany, .int t_thrown, .ref a_t_buffer, .int t_buffered, .int t_size, .int t_at_52_28, .int t_behind_52_29, .int t_kind_52_30, .int t_number_52_31, .int t_wrong_52_32, .int t_wrongAt_52_33, .int t_errorAt, v_t_moved, .int t_unused, v_t_written, .int t_writtenMany])), (a_t_buffer, .inl (t 0, 900, .inl t_buffer_)), (a_t_fresh, .inl (t 0, 876, .inl t_fresh_96_40))]) hx hb hK hP hD hS 2 0 rfl rfl g96_38 et_fresh_96_40 rfl dX8_readsRow_96 (fun H locs hP hD hS => ?_)
          refine lv_aload_n hx hb dX8_readsRow_97 rfl (lv_at hl 0 rfl) ?_
          refine va_get (D := D) (ci := 8) (v := .ref a_t_fresh) (C := RX8) (T := TX8) (N := 20) hx hb hts iw8 hown hK hP 0 rfl rfl 1 (by decide) hf13 (fun _ h9 => h9) rfl dX8_readsRow_98 ?_
          refine lv_iconst (v := 0) hx hb dX8_readsRow_101 (by decide) ?_
          refine lv_dup2_11 hx hb dX8_readsRow_102 rfl rfl ?_
          refine my_iald (v := t_fresh_96_40 0) hx hb hK hP 2 0 rfl rfl (vp_lit (by decide +kernel)) rfl dX8_readsRow_103 ?_
          refine lv_iconst (v := 1) hx hb dX8_readsRow_104 (by decide) ?_
          refine lv_iadd hx hb dX8_readsRow_105 ?_
          obtain ⟨t_fresh_106_41, et_fresh_106_41⟩ : ∃ y : Nat → Int32, y = upd t_fresh_96_40 0 ((t_fresh_96_40 0) + 1) := ⟨_, rfl⟩
          have hF := ltE et_fresh_106_41 hF
          refine my_iast (g := t_fresh_106_41) (wn := [(a_t, .inr (8, [v_t_a, .ref a_t_fresh, v_t_aside, v_t_kept, .int t_keptMany, .int t_thrown, .ref a_t_buffer, .int t_buffered, .int t_size, .int t_at_52_28, .int t_behind_52_29, .int t_kind_52_30, .int t_number_52_31, .int t_wrong_52_32, .int t_wrongAt_52_33, .int t_errorAt, v_t_moved, .int t_unused, v_t_written, .int t_writtenMany])), (a_t_buffer, .inl (t 0, 900, .inl t_buffer_)), (a_t_fresh, .inl (t 0, 876, .inl t_fresh_106_41))]) hx hb hK hP hD hS 2 0 rfl rfl (vp_lit (by decide +kernel)) et_fresh_106_41 rfl dX8_readsRow_106 (fun H locs hP hD hS => ?_)
          cases hF
          exact we_vret hx hb hr hlocks dX8_readsRow_107 rfl hQ hP hD hS
        refine lv_if_eq (tgt := 94) hx hb dX8_readsRow_85 (by decide) (fun c85 => ?_) (fun c85 => ?_)
        · have hF := brT c85 hF
          refine lv_iload hx hb dX8_readsRow_94 (lv_at hl 0 rfl) ?_
          exact hk96_38 r52_27 H locs ls hP hD hS (lv_sub hl [1] rfl) hF
        · have hF := brF c85 hF
          refine lv_iload hx hb dX8_readsRow_88 (lv_at hl 0 rfl) ?_
          refine lv_ineg hx hb dX8_readsRow_90 ?_
          refine lv_goto (tgt := 96) hx hb dX8_readsRow_91 (by decide) ?_
          exact hk96_38 (-r52_27) H locs ls hP hD hS (lv_sub hl [1] rfl) hF
      · have hF := brF c61 hF
        cases hF
        exact we_vret hx hb hr hlocks dX8_readsRow_64 rfl hQ hP hD hS
    refine lv_if_eq (tgt := 48) hx hb dX8_readsRow_41 (by decide) (fun c41 => ?_) (fun c41 => ?_)
    · have hF := brT c41 hF
      exact hk48_26 t_at_29_13 t_behind_29_14 t_kind_29_15 t_number_29_16 H locs ls hP hD hS (lv_sub hl [2, 3, 1, 0] rfl) hF
    · have hF := brF c41 hF
      refine lv_aload_n hx hb dX8_readsRow_44 rfl (lv_at hl 2 rfl) ?_
      obtain ⟨t_at_45_42, t_behind_45_43, t_kind_45_44, t_number_45_45, h45_45, hF⟩ := bnd4E hF
      refine wrVM (As := []) (rest := []) (C := RX8) (wn := [(a_t, .inr (8, [v_t_a, .ref a_t_fresh, v_t_aside, v_t_kept, .int t_keptMany, .int t_thrown, .ref a_t_buffer, .int t_buffered, .int t_size, .int t_at_45_42, .int t_behind_45_43, .int t_kind_45_44, .int t_number_45_45, .int t_wrong_29_17, .int t_wrongAt_29_18, .int t_errorAt, v_t_moved, .int t_unused, v_t_written, .int t_writtenMany])), (a_t_buffer, .inl (t 0, 900, .inl t_buffer_)), (a_t_fresh, .inl (t 0, 876, .inl t_fresh_))]) ⟨hx, hb, hml, hown, hts⟩ (c_X8_next l D t z x N a_t a_t_buffer v_t_a (.ref a_t_fresh) v_t_aside v_t_kept v_t_moved v_t_written t_keptMany t_thrown t_buffered t_size t_at_29_13 t_behind_29_14 t_kind_29_15 t_number_29_16 t_wrong_29_17 t_wrongAt_29_18 t_errorAt t_unused t_writtenMany t_buffer_ H.size t_at_45_42 t_behind_45_43 t_kind_45_44 t_number_45_45 h45_45) (cwV 0 hts gX8_readsRow_X8_next rfl rfl rfl hd_X8_next ⟨Nat.le_of_ble_eq_true rfl, Nat.le_of_ble_eq_true rfl⟩) (hC.at hz hS) hP hD hS hA hz [true, true, false] rfl rfl rfl rfl 0 rfl (show vwCl[8]? = some (RX8, TX8, 20) from rfl) rfl rfl hl.1 rfl (Nat.le_of_ble_eq_true rfl) dX8_readsRow_45 ⟨Nat.zero_le _, Nat.zero_le _⟩ rfl (fun H locs hP hD hS => ?_)
      exact hk48_26 t_at_45_42 t_behind_45_43 t_kind_45_44 t_number_45_45 H locs ls hP hD hS (lv_sub hl [2, 3, 1, 0] rfl) hF
  refine lv_icmp_ne (tgt := 19) hx hb dX8_readsRow_10 (by decide) (fun c10 => ?_) (fun c10 => ?_)
  · have hF := brF c10 hF
    exact hk19_4 t_wrong t_wrongAt H locs ls hP hD hS (lv_sub hl [1, 0] rfl) hF
  · have hF := brT c10 hF
    refine lv_aload_n hx hb dX8_readsRow_13 rfl (lv_at hl 1 rfl) ?_
    refine lv_bipush (v := (-4)) hx hb dX8_readsRow_14 (by decide) ?_
    obtain ⟨t_wrong_16_47, t_wrongAt_16_48, h16_48, hF⟩ := bnd2E hF
    refine wrVM (As := [.int (-4)]) (rest := []) (C := RX8) (wn := [(a_t, .inr (8, [v_t_a, .ref a_t_fresh, v_t_aside, v_t_kept, .int t_keptMany, .int t_thrown, .ref a_t_buffer, .int t_buffered, .int t_size, .int t_at, .int t_behind, .int t_kind, .int t_number, .int t_wrong_16_47, .int t_wrongAt_16_48, .int t_errorAt, v_t_moved, .int t_unused, v_t_written, .int t_writtenMany])), (a_t_buffer, .inl (t 0, 900, .inl t_buffer_)), (a_t_fresh, .inl (t 0, 876, .inl t_fresh_))]) ⟨hx, hb, hml, hown, hts⟩ (c_X8_fails l D t z x a_t v_t_a (.ref a_t_fresh) v_t_aside v_t_kept (.ref a_t_buffer) v_t_moved v_t_written t_keptMany t_thrown t_buffered t_size t_at t_behind t_kind t_number t_wrong t_wrongAt t_errorAt t_unused t_writtenMany (-4) H.size t_wrong_16_47 t_wrongAt_16_48 h16_48) (cwV 1 hts gX8_readsRow_X8_fails rfl rfl rfl hd_X8_fails ⟨Nat.le_of_ble_eq_true rfl, Nat.le_of_ble_eq_true rfl⟩) (hC.at hz hS) hP hD hS hA hz [true, false, false] rfl rfl rfl rfl 0 rfl (show vwCl[8]? = some (RX8, TX8, 20) from rfl) rfl rfl hl.1 rfl (Nat.le_of_ble_eq_true rfl) dX8_readsRow_16 ⟨Nat.zero_le _, Nat.zero_le _⟩ rfl (fun H locs hP hD hS => ?_)
    exact hk19_4 t_wrong_16_47 t_wrongAt_16_48 H locs ls hP hD hS (lv_sub hl [1, 0] rfl) hF
abbrev rm_X8_errorPosition : Room := { frames := 0, cells := 0, slots := 0, locals := 0 }
theorem hd_X8_errorPosition : yX8_errorPosition.cls = RX8 ∧ yX8_errorPosition.cls ≠ "java/lang/invoke/MethodHandle" ∧ yX8_errorPosition.cls ≠ "java/lang/invoke/VarHandle" ∧ (parseMethodDescriptor yX8_errorPosition.desc).map (fun d => d.parameters.length) = some 0 := by decide +kernel
set_option maxRecDepth 100000 in
set_option maxHeartbeats 4000000 in
theorem c_X8_errorPosition (l : Launch) (D : va_G) (t : Nat → ClassId) (z : Nat) (x : Nat → Nat) (a_t : Nat) (v_t_a : Value) (v_t_fresh : Value) (v_t_aside : Value) (v_t_kept : Value) (v_t_buffer : Value) (v_t_moved : Value) (v_t_written : Value) (t_keptMany : Int32) (t_thrown : Int32) (t_buffered : Int32) (t_size : Int32) (t_at : Int32) (t_behind : Int32) (t_kind : Int32) (t_number : Int32) (t_wrong : Int32) (t_wrongAt : Int32) (t_errorAt : Int32) (t_unused : Int32) (t_writtenMany : Int32) (sz : Nat) (r : Int32) (t_thrown' : Int32) (hF : f_X8_errorPosition t_errorAt = some (r, t_thrown')) : WrM l D (TY t) z x yX8_errorPosition wsX8_errorPosition rm_X8_errorPosition [.ref a_t] [(a_t, .inr (8, [v_t_a, v_t_fresh, v_t_aside, v_t_kept, .int t_keptMany, .int t_thrown, v_t_buffer, .int t_buffered, .int t_size, .int t_at, .int t_behind, .int t_kind, .int t_number, .int t_wrong, .int t_wrongAt, .int t_errorAt, v_t_moved, .int t_unused, v_t_written, .int t_writtenMany]))] [(a_t, .inr (8, [v_t_a, v_t_fresh, v_t_aside, v_t_kept, .int t_keptMany, .int t_thrown', v_t_buffer, .int t_buffered, .int t_size, .int t_at, .int t_behind, .int t_kind, .int t_number, .int t_wrong, .int t_wrongAt, .int t_errorAt, v_t_moved, .int t_unused, v_t_written, .int t_writtenMany]))] sz (some (.int r)) 0 0 := by
  refine wr_of (cc := cX8_errorPosition) (maxL := 1) (ret := (some .int)) (by decide) rfl (Nat.le_of_ble_eq_true rfl) ?_
  intro p e s m args below meth c A Q hQ hx hb hr hml hts hown hlocks hin H locs hP hD hS hA hz hC ls hl
  have hown : s.vm.findClass RX8 = some m.cls := hown
  have hl : lv_has ls 1 [(0, .ref a_t)] := hl
  have hK := hC.1
  have iw8 : ∀ w ∈ wsX80, w ∈ wsX8_errorPosition := fun _ h => List.mem_cons_of_mem _ (List.mem_append_right _ h)
  have hf25 := hts (.fieldLink RX8 25 "CrackedColumnModel" "errorAt" "I") (by decide +kernel)
  have hf45 := hts (.fieldLink RX8 45 "CrackedColumnModel" "thrown" "I") (by decide +kernel)
  unfold f_X8_errorPosition at hF
  refine lv_aload_n hx hb dX8_errorPosition_0 rfl (lv_at hl 0 rfl) ?_
  refine lv_iconst (v := 0) hx hb dX8_errorPosition_1 (by decide) ?_
  refine my_put (ty := .int) (v := .int 0) (ci := 8) (C := RX8) (T := TX8) (N := 20) (wn := [(a_t, .inr (8, [v_t_a, v_t_fresh, v_t_aside, v_t_kept, .int t_keptMany, .int 0, v_t_buffer, .int t_buffered, .int t_size, .int t_at, .int t_behind, .int t_kind, .int t_number, .int t_wrong, .int t_wrongAt, .int t_errorAt, v_t_moved, .int t_unused, v_t_written, .int t_writtenMany]))]) hx hb hts iw8 tyX8 tyX8_ok nmX8 hown hK hP hD hS 0 rfl rfl 5 (by decide) hf45 (fun _ h9 => h9) rfl (by decide +kernel) rfl rfl (Nat.le_of_ble_eq_true rfl) rfl dX8_errorPosition_2 (fun H locs hP hD hS => ?_)
  refine lv_aload_n hx hb dX8_errorPosition_5 rfl (lv_at hl 0 rfl) ?_
  refine va_get (D := D) (ci := 8) (v := .int t_errorAt) (C := RX8) (T := TX8) (N := 20) hx hb hts iw8 hown hK hP 0 rfl rfl 15 (by decide) hf25 (fun _ h9 => h9) rfl dX8_errorPosition_6 ?_
  cases hF
  exact we_iret hx hb hr hlocks dX8_errorPosition_9 rfl hQ hP hD hS
abbrev rm_X8_of : Room := { frames := 0, cells := 0, slots := 0, locals := 0 }
theorem hd_X8_of : yX8_of.cls = RX8 ∧ yX8_of.cls ≠ "java/lang/invoke/MethodHandle" ∧ yX8_of.cls ≠ "java/lang/invoke/VarHandle" ∧ (parseMethodDescriptor yX8_of.desc).map (fun d => d.parameters.length) = some 2 := by decide +kernel
set_option maxRecDepth 100000 in
set_option maxHeartbeats 4000000 in
theorem c_X8_of (l : Launch) (D : va_G) (t : Nat → ClassId) (z : Nat) (x : Nat → Nat) (a_t : Nat) (a_t_a : Nat) (v_t_fresh : Value) (v_t_aside : Value) (v_t_kept : Value) (v_t_buffer : Value) (v_t_moved : Value) (v_t_written : Value) (t_keptMany : Int32) (t_thrown : Int32) (t_buffered : Int32) (t_size : Int32) (t_at : Int32) (t_behind : Int32) (t_kind : Int32) (t_number : Int32) (t_wrong : Int32) (t_wrongAt : Int32) (t_errorAt : Int32) (t_unused : Int32) (t_writtenMany : Int32) (t_a_ : (Nat → Int32)) (p1 : Int32) (p2 : Int32) (H : Heap) (r : Int32) (hF : f_X8_of t_a_ p1 p2 = some (r)) : RdM l D (TY t) z x yX8_of wsX8_of rm_X8_of [.ref a_t, .int p1, .int p2] [(a_t, .inr (8, [.ref a_t_a, v_t_fresh, v_t_aside, v_t_kept, .int t_keptMany, .int t_thrown, v_t_buffer, .int t_buffered, .int t_size, .int t_at, .int t_behind, .int t_kind, .int t_number, .int t_wrong, .int t_wrongAt, .int t_errorAt, v_t_moved, .int t_unused, v_t_written, .int t_writtenMany])), (a_t_a, .inl (t 0, 876, .inl t_a_))] H (some (.int r)) := by
  refine rd_of (cc := cX8_of) (maxL := 3) (ret := (some .int)) (by decide) rfl (Nat.le_of_ble_eq_true rfl) ?_
  intro p e s m args below meth c Q hQ hx hb hr hml hts hown hlocks hH hP hC ls hl
  have hown : s.vm.findClass RX8 = some m.cls := hown
  have hl : lv_has ls 3 [(0, .ref a_t), (1, .int p1), (2, .int p2)] := hl
  have hK := hC.1
  have iw8 : ∀ w ∈ wsX80, w ∈ wsX8_of := fun _ h => List.mem_cons_of_mem _ (List.mem_append_right _ h)
  have hf7 := hts (.fieldLink RX8 7 "CrackedColumnModel" "a" "[I") (by decide +kernel)
  unfold f_X8_of at hF
  refine lv_aload_n hx hb dX8_of_0 rfl (lv_at hl 0 rfl) ?_
  refine va_get (D := D) (ci := 8) (v := .ref a_t_a) (C := RX8) (T := TX8) (N := 20) hx hb hts iw8 hown hK hP 0 rfl rfl 0 (by decide) hf7 (fun _ h9 => h9) rfl dX8_of_1 ?_
  refine lv_sipush (v := 540) hx hb dX8_of_4 (by decide) ?_
  refine lv_iconst (v := 4) hx hb dX8_of_7 (by decide) ?_
  refine lv_iload_n hx hb dX8_of_8 rfl (lv_at hl 1 rfl) ?_
  refine lv_imul hx hb dX8_of_9 ?_
  refine lv_iadd hx hb dX8_of_10 ?_
  refine lv_iload_n hx hb dX8_of_11 rfl (lv_at hl 2 rfl) ?_
  refine lv_iadd hx hb dX8_of_12 ?_
  obtain ⟨g13_0, hF⟩ := gd hF
  refine my_iald (v := t_a_ ((540 + (4 * p1)) + p2).toNatClampNeg) hx hb hK hP 1 0 rfl rfl g13_0 rfl dX8_of_13 ?_
  cases hF
  exact rd_iret hx hb hr hlocks dX8_of_14 rfl hQ
abbrev rm_X8_puts : Room := { frames := 0, cells := 0, slots := 0, locals := 0 }
theorem hd_X8_puts : yX8_puts.cls = RX8 ∧ yX8_puts.cls ≠ "java/lang/invoke/MethodHandle" ∧ yX8_puts.cls ≠ "java/lang/invoke/VarHandle" ∧ (parseMethodDescriptor yX8_puts.desc).map (fun d => d.parameters.length) = some 3 := by decide +kernel
set_option maxRecDepth 100000 in
set_option maxHeartbeats 4000000 in
theorem c_X8_puts (l : Launch) (D : va_G) (t : Nat → ClassId) (z : Nat) (x : Nat → Nat) (a_t : Nat) (a_t_a : Nat) (v_t_fresh : Value) (v_t_aside : Value) (v_t_kept : Value) (v_t_buffer : Value) (v_t_moved : Value) (v_t_written : Value) (t_keptMany : Int32) (t_thrown : Int32) (t_buffered : Int32) (t_size : Int32) (t_at : Int32) (t_behind : Int32) (t_kind : Int32) (t_number : Int32) (t_wrong : Int32) (t_wrongAt : Int32) (t_errorAt : Int32) (t_unused : Int32) (t_writtenMany : Int32) (t_a_ : (Nat → Int32)) (p1 : Int32) (p2 : Int32) (p3 : Int32) (sz : Nat) (t_a_' : (Nat → Int32)) (hF : f_X8_puts t_a_ p1 p2 p3 = some (t_a_')) : WrM l D (TY t) z x yX8_puts wsX8_puts rm_X8_puts [.ref a_t, .int p1, .int p2, .int p3] [(a_t, .inr (8, [.ref a_t_a, v_t_fresh, v_t_aside, v_t_kept, .int t_keptMany, .int t_thrown, v_t_buffer, .int t_buffered, .int t_size, .int t_at, .int t_behind, .int t_kind, .int t_number, .int t_wrong, .int t_wrongAt, .int t_errorAt, v_t_moved, .int t_unused, v_t_written, .int t_writtenMany])), (a_t_a, .inl (t 0, 876, .inl t_a_))] [(a_t, .inr (8, [.ref a_t_a, v_t_fresh, v_t_aside, v_t_kept, .int t_keptMany, .int t_thrown, v_t_buffer, .int t_buffered, .int t_size, .int t_at, .int t_behind, .int t_kind, .int t_number, .int t_wrong, .int t_wrongAt, .int t_errorAt, v_t_moved, .int t_unused, v_t_written, .int t_writtenMany])), (a_t_a, .inl (t 0, 876, .inl t_a_'))] sz none 0 0 := by
  refine wr_of (cc := cX8_puts) (maxL := 4) (ret := none) (by decide) rfl (Nat.le_of_ble_eq_true rfl) ?_
  intro p e s m args below meth c A Q hQ hx hb hr hml hts hown hlocks hin H locs hP hD hS hA hz hC ls hl
  have hown : s.vm.findClass RX8 = some m.cls := hown
  have hl : lv_has ls 4 [(0, .ref a_t), (1, .int p1), (2, .int p2), (3, .int p3)] := hl
  have hK := hC.1
  have iw8 : ∀ w ∈ wsX80, w ∈ wsX8_puts := fun _ h => List.mem_cons_of_mem _ (List.mem_append_right _ h)
  have hf7 := hts (.fieldLink RX8 7 "CrackedColumnModel" "a" "[I") (by decide +kernel)
  unfold f_X8_puts at hF
  refine lv_aload_n hx hb dX8_puts_0 rfl (lv_at hl 0 rfl) ?_
  refine va_get (D := D) (ci := 8) (v := .ref a_t_a) (C := RX8) (T := TX8) (N := 20) hx hb hts iw8 hown hK hP 0 rfl rfl 0 (by decide) hf7 (fun _ h9 => h9) rfl dX8_puts_1 ?_
  refine lv_sipush (v := 540) hx hb dX8_puts_4 (by decide) ?_
  refine lv_iconst (v := 4) hx hb dX8_puts_7 (by decide) ?_
  refine lv_iload_n hx hb dX8_puts_8 rfl (lv_at hl 1 rfl) ?_
  refine lv_imul hx hb dX8_puts_9 ?_
  refine lv_iadd hx hb dX8_puts_10 ?_
  refine lv_iload_n hx hb dX8_puts_11 rfl (lv_at hl 2 rfl) ?_
  refine lv_iadd hx hb dX8_puts_12 ?_
  refine lv_iload_n hx hb dX8_puts_13 rfl (lv_at hl 3 rfl) ?_
  obtain ⟨g14_0, hF⟩ := gd hF
  obtain ⟨t_a_14_2, et_a_14_2⟩ : ∃ y : Nat → Int32, y = upd t_a_ ((540 + (4 * p1)) + p2).toNatClampNeg p3 := ⟨_, rfl⟩
  have hF := ltE et_a_14_2 hF
  refine my_iast (g := t_a_14_2) (wn := [(a_t, .inr (8, [.ref a_t_a, v_t_fresh, v_t_aside, v_t_kept, .int t_keptMany, .int t_thrown, v_t_buffer, .int t_buffered, .int t_size, .int t_at, .int t_behind, .int t_kind, .int t_number, .int t_wrong, .int t_wrongAt, .int t_errorAt, v_t_moved, .int t_unused, v_t_written, .int t_writtenMany])), (a_t_a, .inl (t 0, 876, .inl t_a_14_2))]) hx hb hK hP hD hS 1 0 rfl rfl g14_0 et_a_14_2 rfl dX8_puts_14 (fun H locs hP hD hS => ?_)
  cases hF
  exact we_vret hx hb hr hlocks dX8_puts_15 rfl hQ hP hD hS
abbrev rm_X8_firstPlace : Room := { frames := 1, cells := 0, slots := 0, locals := 22 }
theorem hd_X8_firstPlace : yX8_firstPlace.cls = RX8 ∧ yX8_firstPlace.cls ≠ "java/lang/invoke/MethodHandle" ∧ yX8_firstPlace.cls ≠ "java/lang/invoke/VarHandle" ∧ (parseMethodDescriptor yX8_firstPlace.desc).map (fun d => d.parameters.length) = some 1 := by decide +kernel
set_option maxRecDepth 100000 in
set_option maxHeartbeats 4000000 in
theorem c_X8_firstPlace (l : Launch) (D : va_G) (t : Nat → ClassId) (z : Nat) (x : Nat → Nat) (N : Nat) (a_t : Nat) (a_t_a : Nat) (v_t_fresh : Value) (v_t_aside : Value) (v_t_kept : Value) (v_t_buffer : Value) (v_t_moved : Value) (v_t_written : Value) (t_keptMany : Int32) (t_thrown : Int32) (t_buffered : Int32) (t_size : Int32) (t_at : Int32) (t_behind : Int32) (t_kind : Int32) (t_number : Int32) (t_wrong : Int32) (t_wrongAt : Int32) (t_errorAt : Int32) (t_unused : Int32) (t_writtenMany : Int32) (t_a_ : (Nat → Int32)) (p1 : Int32) (H : Heap) (r : Int32) (hF : f_X8_firstPlace N t_a_ p1 = some (r)) : RdM l D (TY t) z x yX8_firstPlace wsX8_firstPlace rm_X8_firstPlace [.ref a_t, .int p1] [(a_t, .inr (8, [.ref a_t_a, v_t_fresh, v_t_aside, v_t_kept, .int t_keptMany, .int t_thrown, v_t_buffer, .int t_buffered, .int t_size, .int t_at, .int t_behind, .int t_kind, .int t_number, .int t_wrong, .int t_wrongAt, .int t_errorAt, v_t_moved, .int t_unused, v_t_written, .int t_writtenMany])), (a_t_a, .inl (t 0, 876, .inl t_a_))] H (some (.int r)) := by
  refine rd_of (cc := cX8_firstPlace) (maxL := 4) (ret := (some .int)) (by decide) rfl (Nat.le_of_ble_eq_true rfl) ?_
  intro p e s m args below meth c Q hQ hx hb hr hml hts hown hlocks hH hP hC ls hl
  have hown : s.vm.findClass RX8 = some m.cls := hown
  have hl : lv_has ls 4 [(0, .ref a_t), (1, .int p1)] := hl
  have hK := hC.1
  unfold f_X8_firstPlace at hF
  refine lv_iconst (v := 0) hx hb dX8_firstPlace_0 (by decide) ?_
  refine lv_istore_n (lv' := [(2, .int 0), (0, .ref a_t), (1, .int p1)]) hx hb dX8_firstPlace_1 rfl hl (by decide) rfl (fun ls hl => ?_)
  refine lv_iconst (v := 0) hx hb dX8_firstPlace_2 (by decide) ?_
  refine lv_istore_n (lv' := [(3, .int 0), (2, .int 0), (0, .ref a_t), (1, .int p1)]) hx hb dX8_firstPlace_3 rfl hl (by decide) rfl (fun ls hl => ?_)
  obtain ⟨k24_2, ek24_2, hF⟩ := jnE hF
  have hk24_2 : ∀ (x2_24_1 : Int32) (ls : Array Slot), lv_has ls 4 [(2, .int x2_24_1)] → k24_2 x2_24_1 = some (r) → W p l e rm_X8_firstPlace s m args below meth c H [] 0 0 Q (F0 m 24 ls []) := by
    subst ek24_2
    intro x2_24_1 ls hl hF
    refine lv_iload_n hx hb dX8_firstPlace_24 rfl (lv_at hl 0 rfl) ?_
    cases hF
    exact rd_iret hx hb hr hlocks dX8_firstPlace_25 rfl hQ
  have hlp4 : ∀ n4 : Nat, ∀ (x2_4_3 : Int32) (x3_4_4 : Int32) (ls : Array Slot), lv_has ls 4 [(0, .ref a_t), (1, .int p1), (2, .int x2_4_3), (3, .int x3_4_4)] → f_X8_firstPlace_4 t_a_ p1 k24_2 n4 x2_4_3 x3_4_4 = some (r) → W p l e rm_X8_firstPlace s m args below meth c H [] 0 0 Q (F0 m 4 ls []) := by
    intro n4
    induction n4 with
    | zero =>
      intro x2_4_3 x3_4_4 ls hl hF
      cases (show none = some (r) from hF)
    | succ n4 ih4 =>
      intro x2_4_3 x3_4_4 ls hl hF
      rw [f_X8_firstPlace_4] at hF
      refine lv_iload_n hx hb dX8_firstPlace_4 rfl (lv_at hl 3 rfl) ?_
      refine lv_iload_n hx hb dX8_firstPlace_5 rfl (lv_at hl 1 rfl) ?_
      refine lv_icmp_ge (tgt := 24) hx hb dX8_firstPlace_6 (by decide) (fun c6 => ?_) (fun c6 => ?_)
      · have hF := brT c6 hF
        exact hk24_2 x2_4_3 ls (lv_sub hl [2] rfl) hF
      · have hF := brF c6 hF
        refine lv_iload_n hx hb dX8_firstPlace_9 rfl (lv_at hl 2 rfl) ?_
        refine lv_aload_n hx hb dX8_firstPlace_10 rfl (lv_at hl 0 rfl) ?_
        refine lv_iload_n hx hb dX8_firstPlace_11 rfl (lv_at hl 3 rfl) ?_
        refine lv_iconst (v := 1) hx hb dX8_firstPlace_12 (by decide) ?_
        obtain ⟨r13_5, h13_5, hF⟩ := bndE hF
        refine rdV (As := [.int x3_4_4, .int 1]) (rest := [.int x2_4_3]) (C := RX8) ⟨hx, hb, hml, hown, hts⟩ (c_X8_of l D t z x a_t a_t_a v_t_fresh v_t_aside v_t_kept v_t_buffer v_t_moved v_t_written t_keptMany t_thrown t_buffered t_size t_at t_behind t_kind t_number t_wrong t_wrongAt t_errorAt t_unused t_writtenMany t_a_ x3_4_4 1 H r13_5 h13_5) (cwV 2 hts gX8_firstPlace_X8_of rfl rfl rfl hd_X8_of ⟨Nat.le_of_ble_eq_true rfl, Nat.le_of_ble_eq_true rfl⟩) hC (selP (m9 := [true, true]) rfl rfl hP) 0 rfl (show vwCl[8]? = some (RX8, TX8, 20) from rfl) rfl rfl hl.1 rfl (Nat.le_of_ble_eq_true rfl) dX8_firstPlace_13 ⟨Nat.zero_le _, Nat.zero_le _⟩ rfl ?_
        refine lv_iadd hx hb dX8_firstPlace_16 ?_
        refine lv_topi (fun y17_7 ey17_7 => ?_)
        have hF := ltE ey17_7 hF
        refine lv_istore_n (lv' := [(2, .int y17_7), (0, .ref a_t), (1, .int p1), (3, .int x3_4_4)]) hx hb dX8_firstPlace_17 rfl hl (by decide) rfl (fun ls hl => ?_)
        obtain ⟨y18_8, ey18_8⟩ : ∃ y : Int32, y = x3_4_4 + 1 := ⟨_, rfl⟩
        have hF := ltE ey18_8 hF
        refine lv_iinc (v := y18_8) (lv' := [(3, .int y18_8), (2, .int y17_7), (0, .ref a_t), (1, .int p1)]) hx hb dX8_firstPlace_18 hl (k := 3) rfl (by rw [ey18_8]; rfl) (by decide) rfl (fun ls hl => ?_)
        refine lv_goto (tgt := 4) hx hb dX8_firstPlace_21 (by decide) ?_
        exact ih4 y17_7 y18_8 ls (lv_sub hl [2, 3, 1, 0] rfl) hF
  exact hlp4 N 0 0 ls (lv_sub hl [2, 3, 1, 0] rfl) hF
abbrev rm_X8_lastPiece : Room := { frames := 1, cells := 0, slots := 0, locals := 22 }
theorem hd_X8_lastPiece : yX8_lastPiece.cls = RX8 ∧ yX8_lastPiece.cls ≠ "java/lang/invoke/MethodHandle" ∧ yX8_lastPiece.cls ≠ "java/lang/invoke/VarHandle" ∧ (parseMethodDescriptor yX8_lastPiece.desc).map (fun d => d.parameters.length) = some 1 := by decide +kernel
set_option maxRecDepth 100000 in
set_option maxHeartbeats 4000000 in
theorem c_X8_lastPiece (l : Launch) (D : va_G) (t : Nat → ClassId) (z : Nat) (x : Nat → Nat) (N : Nat) (a_t : Nat) (a_t_a : Nat) (v_t_fresh : Value) (v_t_aside : Value) (v_t_kept : Value) (v_t_buffer : Value) (v_t_moved : Value) (v_t_written : Value) (t_keptMany : Int32) (t_thrown : Int32) (t_buffered : Int32) (t_size : Int32) (t_at : Int32) (t_behind : Int32) (t_kind : Int32) (t_number : Int32) (t_wrong : Int32) (t_wrongAt : Int32) (t_errorAt : Int32) (t_unused : Int32) (t_writtenMany : Int32) (t_a_ : (Nat → Int32)) (p1 : Int32) (H : Heap) (r : Int32) (hF : f_X8_lastPiece N t_a_ p1 = some (r)) : RdM l D (TY t) z x yX8_lastPiece wsX8_lastPiece rm_X8_lastPiece [.ref a_t, .int p1] [(a_t, .inr (8, [.ref a_t_a, v_t_fresh, v_t_aside, v_t_kept, .int t_keptMany, .int t_thrown, v_t_buffer, .int t_buffered, .int t_size, .int t_at, .int t_behind, .int t_kind, .int t_number, .int t_wrong, .int t_wrongAt, .int t_errorAt, v_t_moved, .int t_unused, v_t_written, .int t_writtenMany])), (a_t_a, .inl (t 0, 876, .inl t_a_))] H (some (.int r)) := by
  refine rd_of (cc := cX8_lastPiece) (maxL := 3) (ret := (some .int)) (by decide) rfl (Nat.le_of_ble_eq_true rfl) ?_
  intro p e s m args below meth c Q hQ hx hb hr hml hts hown hlocks hH hP hC ls hl
  have hown : s.vm.findClass RX8 = some m.cls := hown
  have hl : lv_has ls 3 [(0, .ref a_t), (1, .int p1)] := hl
  have hK := hC.1
  have iw8 : ∀ w ∈ wsX80, w ∈ wsX8_lastPiece := fun _ h => List.mem_cons_of_mem _ (List.mem_append_right _ h)
  have hf7 := hts (.fieldLink RX8 7 "CrackedColumnModel" "a" "[I") (by decide +kernel)
  unfold f_X8_lastPiece at hF
  refine lv_aload_n hx hb dX8_lastPiece_0 rfl (lv_at hl 0 rfl) ?_
  refine va_get (D := D) (ci := 8) (v := .ref a_t_a) (C := RX8) (T := TX8) (N := 20) hx hb hts iw8 hown hK hP 0 rfl rfl 0 (by decide) hf7 (fun _ h9 => h9) rfl dX8_lastPiece_1 ?_
  refine lv_iconst (v := 3) hx hb dX8_lastPiece_4 (by decide) ?_
  refine my_iald (v := t_a_ 3) hx hb hK hP 1 0 rfl rfl (vp_lit (by decide +kernel)) rfl dX8_lastPiece_5 ?_
  refine lv_iconst (v := 1) hx hb dX8_lastPiece_6 (by decide) ?_
  refine lv_isub hx hb dX8_lastPiece_7 ?_
  refine lv_topi (fun y8_1 ey8_1 => ?_)
  have hF := ltE ey8_1 hF
  refine lv_istore_n (lv' := [(2, .int y8_1), (0, .ref a_t), (1, .int p1)]) hx hb dX8_lastPiece_8 rfl hl (by decide) rfl (fun ls hl => ?_)
  obtain ⟨k25_3, ek25_3, hF⟩ := jnE hF
  have hk25_3 : ∀ (x2_25_2 : Int32) (ls : Array Slot), lv_has ls 3 [(2, .int x2_25_2)] → k25_3 x2_25_2 = some (r) → W p l e rm_X8_lastPiece s m args below meth c H [] 0 0 Q (F0 m 25 ls []) := by
    subst ek25_3
    intro x2_25_2 ls hl hF
    refine lv_iload_n hx hb dX8_lastPiece_25 rfl (lv_at hl 0 rfl) ?_
    cases hF
    exact rd_iret hx hb hr hlocks dX8_lastPiece_26 rfl hQ
  have hlp9 : ∀ n9 : Nat, ∀ (x2_9_4 : Int32) (ls : Array Slot), lv_has ls 3 [(0, .ref a_t), (1, .int p1), (2, .int x2_9_4)] → f_X8_lastPiece_9 t_a_ p1 k25_3 n9 x2_9_4 = some (r) → W p l e rm_X8_lastPiece s m args below meth c H [] 0 0 Q (F0 m 9 ls []) := by
    intro n9
    induction n9 with
    | zero =>
      intro x2_9_4 ls hl hF
      cases (show none = some (r) from hF)
    | succ n9 ih9 =>
      intro x2_9_4 ls hl hF
      rw [f_X8_lastPiece_9] at hF
      refine lv_aload_n hx hb dX8_lastPiece_9 rfl (lv_at hl 0 rfl) ?_
      refine lv_iload_n hx hb dX8_lastPiece_10 rfl (lv_at hl 2 rfl) ?_
      refine lv_iconst (v := 0) hx hb dX8_lastPiece_11 (by decide) ?_
      obtain ⟨r12_5, h12_5, hF⟩ := bndE hF
      refine rdV (As := [.int x2_9_4, .int 0]) (rest := []) (C := RX8) ⟨hx, hb, hml, hown, hts⟩ (c_X8_of l D t z x a_t a_t_a v_t_fresh v_t_aside v_t_kept v_t_buffer v_t_moved v_t_written t_keptMany t_thrown t_buffered t_size t_at t_behind t_kind t_number t_wrong t_wrongAt t_errorAt t_unused t_writtenMany t_a_ x2_9_4 0 H r12_5 h12_5) (cwV 2 hts gX8_lastPiece_X8_of rfl rfl rfl hd_X8_of ⟨Nat.le_of_ble_eq_true rfl, Nat.le_of_ble_eq_true rfl⟩) hC (selP (m9 := [true, true]) rfl rfl hP) 0 rfl (show vwCl[8]? = some (RX8, TX8, 20) from rfl) rfl rfl hl.1 rfl (Nat.le_of_ble_eq_true rfl) dX8_lastPiece_12 ⟨Nat.zero_le _, Nat.zero_le _⟩ rfl ?_
      refine lv_iload_n hx hb dX8_lastPiece_15 rfl (lv_at hl 1 rfl) ?_
      refine lv_icmp_le (tgt := 25) hx hb dX8_lastPiece_16 (by decide) (fun c16 => ?_) (fun c16 => ?_)
      · have hF := brT c16 hF
        exact hk25_3 x2_9_4 ls (lv_sub hl [2] rfl) hF
      · have hF := brF c16 hF
        obtain ⟨y19_7, ey19_7⟩ : ∃ y : Int32, y = x2_9_4 + (-1) := ⟨_, rfl⟩
        have hF := ltE ey19_7 hF
        refine lv_iinc (v := y19_7) (lv' := [(2, .int y19_7), (0, .ref a_t), (1, .int p1)]) hx hb dX8_lastPiece_19 hl (k := 2) rfl (by rw [ey19_7]; rfl) (by decide) rfl (fun ls hl => ?_)
        refine lv_goto (tgt := 9) hx hb dX8_lastPiece_22 (by decide) ?_
        exact ih9 y19_7 ls (lv_sub hl [1, 2, 0] rfl) hF
  exact hlp9 N y8_1 ls (lv_sub hl [1, 2, 0] rfl) hF
abbrev rm_X8_keyAt : Room := { frames := 0, cells := 0, slots := 0, locals := 0 }
theorem hd_X8_keyAt : yX8_keyAt.cls = RX8 ∧ yX8_keyAt.cls ≠ "java/lang/invoke/MethodHandle" ∧ yX8_keyAt.cls ≠ "java/lang/invoke/VarHandle" ∧ (parseMethodDescriptor yX8_keyAt.desc).map (fun d => d.parameters.length) = some 1 := by decide +kernel
set_option maxRecDepth 100000 in
set_option maxHeartbeats 4000000 in
theorem c_X8_keyAt (l : Launch) (D : va_G) (t : Nat → ClassId) (z : Nat) (x : Nat → Nat) (a_t : Nat) (a_t_a : Nat) (v_t_fresh : Value) (v_t_aside : Value) (v_t_kept : Value) (v_t_buffer : Value) (v_t_moved : Value) (v_t_written : Value) (t_keptMany : Int32) (t_thrown : Int32) (t_buffered : Int32) (t_size : Int32) (t_at : Int32) (t_behind : Int32) (t_kind : Int32) (t_number : Int32) (t_wrong : Int32) (t_wrongAt : Int32) (t_errorAt : Int32) (t_unused : Int32) (t_writtenMany : Int32) (t_a_ : (Nat → Int32)) (p1 : Int32) (H : Heap) (r : Int32) (hF : f_X8_keyAt t_a_ p1 = some (r)) : RdM l D (TY t) z x yX8_keyAt wsX8_keyAt rm_X8_keyAt [.ref a_t, .int p1] [(a_t, .inr (8, [.ref a_t_a, v_t_fresh, v_t_aside, v_t_kept, .int t_keptMany, .int t_thrown, v_t_buffer, .int t_buffered, .int t_size, .int t_at, .int t_behind, .int t_kind, .int t_number, .int t_wrong, .int t_wrongAt, .int t_errorAt, v_t_moved, .int t_unused, v_t_written, .int t_writtenMany])), (a_t_a, .inl (t 0, 876, .inl t_a_))] H (some (.int r)) := by
  refine rd_of (cc := cX8_keyAt) (maxL := 2) (ret := (some .int)) (by decide) rfl (Nat.le_of_ble_eq_true rfl) ?_
  intro p e s m args below meth c Q hQ hx hb hr hml hts hown hlocks hH hP hC ls hl
  have hown : s.vm.findClass RX8 = some m.cls := hown
  have hl : lv_has ls 2 [(0, .ref a_t), (1, .int p1)] := hl
  have hK := hC.1
  have iw8 : ∀ w ∈ wsX80, w ∈ wsX8_keyAt := fun _ h => List.mem_cons_of_mem _ (List.mem_append_right _ h)
  have hf7 := hts (.fieldLink RX8 7 "CrackedColumnModel" "a" "[I") (by decide +kernel)
  unfold f_X8_keyAt at hF
  refine lv_aload_n hx hb dX8_keyAt_0 rfl (lv_at hl 0 rfl) ?_
  refine va_get (D := D) (ci := 8) (v := .ref a_t_a) (C := RX8) (T := TX8) (N := 20) hx hb hts iw8 hown hK hP 0 rfl rfl 0 (by decide) hf7 (fun _ h9 => h9) rfl dX8_keyAt_1 ?_
  refine lv_bipush (v := 20) hx hb dX8_keyAt_4 (by decide) ?_
  refine lv_aload_n hx hb dX8_keyAt_6 rfl (lv_at hl 0 rfl) ?_
  refine va_get (D := D) (ci := 8) (v := .ref a_t_a) (C := RX8) (T := TX8) (N := 20) hx hb hts iw8 hown hK hP 0 rfl rfl 0 (by decide) hf7 (fun _ h9 => h9) rfl dX8_keyAt_7 ?_
  refine lv_sipush (v := 380) hx hb dX8_keyAt_10 (by decide) ?_
  refine lv_iload_n hx hb dX8_keyAt_13 rfl (lv_at hl 1 rfl) ?_
  refine lv_iadd hx hb dX8_keyAt_14 ?_
  obtain ⟨g15_0, hF⟩ := gd hF
  refine my_iald (v := t_a_ (380 + p1).toNatClampNeg) hx hb hK hP 1 0 rfl rfl g15_0 rfl dX8_keyAt_15 ?_
  refine lv_iadd hx hb dX8_keyAt_16 ?_
  obtain ⟨g17_2, hF⟩ := gd hF
  refine my_iald (v := t_a_ (20 + (t_a_ (380 + p1).toNatClampNeg)).toNatClampNeg) hx hb hK hP 1 0 rfl rfl g17_2 rfl dX8_keyAt_17 ?_
  cases hF
  exact rd_iret hx hb hr hlocks dX8_keyAt_18 rfl hQ
abbrev rm_X8_logOf : Room := { frames := 0, cells := 0, slots := 0, locals := 0 }
theorem hd_X8_logOf : yX8_logOf.cls = RX8 ∧ yX8_logOf.cls ≠ "java/lang/invoke/MethodHandle" ∧ yX8_logOf.cls ≠ "java/lang/invoke/VarHandle" ∧ (parseMethodDescriptor yX8_logOf.desc).map (fun d => d.parameters.length) = some 1 := by decide +kernel
set_option maxRecDepth 100000 in
set_option maxHeartbeats 4000000 in
theorem c_X8_logOf (l : Launch) (D : va_G) (t : Nat → ClassId) (z : Nat) (x : Nat → Nat) (N : Nat) (p0 : Int32) (H : Heap) (r : Int32) (hF : f_X8_logOf N p0 = some (r)) : RdM l D (TY t) z x yX8_logOf wsX8_logOf rm_X8_logOf [.int p0] [] H (some (.int r)) := by
  refine rd_of (cc := cX8_logOf) (maxL := 2) (ret := (some .int)) (by decide) rfl (Nat.le_of_ble_eq_true rfl) ?_
  intro p e s m args below meth c Q hQ hx hb hr hml hts hown hlocks hH hP hC ls hl
  have hown : s.vm.findClass RX8 = some m.cls := hown
  have hl : lv_has ls 2 [(0, .int p0)] := hl
  have hK := hC.1
  unfold f_X8_logOf at hF
  refine lv_iconst (v := 0) hx hb dX8_logOf_0 (by decide) ?_
  refine lv_istore_n (lv' := [(1, .int 0), (0, .int p0)]) hx hb dX8_logOf_1 rfl hl (by decide) rfl (fun ls hl => ?_)
  obtain ⟨k15_2, ek15_2, hF⟩ := jnE hF
  have hk15_2 : ∀ (x1_15_1 : Int32) (ls : Array Slot), lv_has ls 2 [(1, .int x1_15_1)] → k15_2 x1_15_1 = some (r) → W p l e rm_X8_logOf s m args below meth c H [] 0 0 Q (F0 m 15 ls []) := by
    subst ek15_2
    intro x1_15_1 ls hl hF
    refine lv_iload_n hx hb dX8_logOf_15 rfl (lv_at hl 0 rfl) ?_
    cases hF
    exact rd_iret hx hb hr hlocks dX8_logOf_16 rfl hQ
  have hlp2 : ∀ n2 : Nat, ∀ (x1_2_3 : Int32) (ls : Array Slot), lv_has ls 2 [(0, .int p0), (1, .int x1_2_3)] → f_X8_logOf_2 p0 k15_2 n2 x1_2_3 = some (r) → W p l e rm_X8_logOf s m args below meth c H [] 0 0 Q (F0 m 2 ls []) := by
    intro n2
    induction n2 with
    | zero =>
      intro x1_2_3 ls hl hF
      cases (show none = some (r) from hF)
    | succ n2 ih2 =>
      intro x1_2_3 ls hl hF
      rw [f_X8_logOf_2] at hF
      refine lv_iconst (v := 1) hx hb dX8_logOf_2 (by decide) ?_
      refine lv_iload_n hx hb dX8_logOf_3 rfl (lv_at hl 1 rfl) ?_
      refine lv_ishl hx hb dX8_logOf_4 ?_
      refine lv_iload_n hx hb dX8_logOf_5 rfl (lv_at hl 0 rfl) ?_
      refine lv_icmp_ge (tgt := 15) hx hb dX8_logOf_6 (by decide) (fun c6 => ?_) (fun c6 => ?_)
      · have hF := brT c6 hF
        exact hk15_2 x1_2_3 ls (lv_sub hl [1] rfl) hF
      · have hF := brF c6 hF
        obtain ⟨y9_4, ey9_4⟩ : ∃ y : Int32, y = x1_2_3 + 1 := ⟨_, rfl⟩
        have hF := ltE ey9_4 hF
        refine lv_iinc (v := y9_4) (lv' := [(1, .int y9_4), (0, .int p0)]) hx hb dX8_logOf_9 hl (k := 1) rfl (by rw [ey9_4]; rfl) (by decide) rfl (fun ls hl => ?_)
        refine lv_goto (tgt := 2) hx hb dX8_logOf_12 (by decide) ?_
        exact ih2 y9_4 ls (lv_sub hl [1, 0] rfl) hF
  exact hlp2 N 0 ls (lv_sub hl [1, 0] rfl) hF
abbrev rm_X8_cracks : Room := { frames := 2, cells := 0, slots := 0, locals := 45 }
theorem hd_X8_cracks : yX8_cracks.cls = RX8 ∧ yX8_cracks.cls ≠ "java/lang/invoke/MethodHandle" ∧ yX8_cracks.cls ≠ "java/lang/invoke/VarHandle" ∧ (parseMethodDescriptor yX8_cracks.desc).map (fun d => d.parameters.length) = some 1 := by decide +kernel
set_option maxRecDepth 100000 in
set_option maxHeartbeats 4000000 in
theorem c_X8_cracks (l : Launch) (D : va_G) (t : Nat → ClassId) (z : Nat) (x : Nat → Nat) (N : Nat) (a_t : Nat) (a_t_a : Nat) (a_t_moved : Nat) (v_t_fresh : Value) (v_t_aside : Value) (v_t_kept : Value) (v_t_buffer : Value) (v_t_written : Value) (t_keptMany : Int32) (t_thrown : Int32) (t_buffered : Int32) (t_size : Int32) (t_at : Int32) (t_behind : Int32) (t_kind : Int32) (t_number : Int32) (t_wrong : Int32) (t_wrongAt : Int32) (t_errorAt : Int32) (t_unused : Int32) (t_writtenMany : Int32) (t_a_ : (Nat → Int32)) (t_moved_ : (Nat → Int32)) (p1 : Int32) (sz : Nat) (r : Int32) (t_a_' : (Nat → Int32)) (t_moved_' : (Nat → Int32)) (hF : f_X8_cracks N t_a_ t_moved_ p1 = some (r, t_a_', t_moved_')) : WrM l D (TY t) z x yX8_cracks wsX8_cracks rm_X8_cracks [.ref a_t, .int p1] [(a_t, .inr (8, [.ref a_t_a, v_t_fresh, v_t_aside, v_t_kept, .int t_keptMany, .int t_thrown, v_t_buffer, .int t_buffered, .int t_size, .int t_at, .int t_behind, .int t_kind, .int t_number, .int t_wrong, .int t_wrongAt, .int t_errorAt, .ref a_t_moved, .int t_unused, v_t_written, .int t_writtenMany])), (a_t_a, .inl (t 0, 876, .inl t_a_)), (a_t_moved, .inl (t 0, 120, .inl t_moved_))] [(a_t, .inr (8, [.ref a_t_a, v_t_fresh, v_t_aside, v_t_kept, .int t_keptMany, .int t_thrown, v_t_buffer, .int t_buffered, .int t_size, .int t_at, .int t_behind, .int t_kind, .int t_number, .int t_wrong, .int t_wrongAt, .int t_errorAt, .ref a_t_moved, .int t_unused, v_t_written, .int t_writtenMany])), (a_t_a, .inl (t 0, 876, .inl t_a_')), (a_t_moved, .inl (t 0, 120, .inl t_moved_'))] sz (some (.int r)) 0 0 := by
  refine wr_of (cc := cX8_cracks) (maxL := 10) (ret := (some .int)) (by decide) rfl (Nat.le_of_ble_eq_true rfl) ?_
  intro p e s m args below meth c A Q hQ hx hb hr hml hts hown hlocks hin H locs hP hD hS hA hz hC ls hl
  have hown : s.vm.findClass RX8 = some m.cls := hown
  have hl : lv_has ls 10 [(0, .ref a_t), (1, .int p1)] := hl
  have hK := hC.1
  have iw8 : ∀ w ∈ wsX80, w ∈ wsX8_cracks := fun _ h => List.mem_cons_of_mem _ (List.mem_append_right _ h)
  have hf7 := hts (.fieldLink RX8 7 "CrackedColumnModel" "a" "[I") (by decide +kernel)
  have hf29 := hts (.fieldLink RX8 29 "CrackedColumnModel" "moved" "[I") (by decide +kernel)
  unfold f_X8_cracks at hF
  refine lv_aload_n hx hb dX8_cracks_0 rfl (lv_at hl 0 rfl) ?_
  refine lv_iload_n hx hb dX8_cracks_1 rfl (lv_at hl 1 rfl) ?_
  obtain ⟨r2_1, h2_1, hF⟩ := bndE hF
  refine rdV (As := [.int p1]) (rest := []) (C := RX8) ⟨hx, hb, hml, hown, hts⟩ (c_X8_lastPiece l D t z x N a_t a_t_a v_t_fresh v_t_aside v_t_kept v_t_buffer (.ref a_t_moved) v_t_written t_keptMany t_thrown t_buffered t_size t_at t_behind t_kind t_number t_wrong t_wrongAt t_errorAt t_unused t_writtenMany t_a_ p1 H r2_1 h2_1) (cwV 1 hts gX8_cracks_X8_lastPiece rfl rfl rfl hd_X8_lastPiece ⟨Nat.le_of_ble_eq_true rfl, Nat.le_of_ble_eq_true rfl⟩) (hC.at hz hS) (selP (m9 := [true, true, false]) rfl rfl hP) 0 rfl (show vwCl[8]? = some (RX8, TX8, 20) from rfl) rfl rfl hl.1 rfl (Nat.le_of_ble_eq_true rfl) dX8_cracks_2 ⟨Nat.zero_le _, Nat.zero_le _⟩ rfl ?_
  refine lv_istore_n (lv' := [(2, .int r2_1), (0, .ref a_t), (1, .int p1)]) hx hb dX8_cracks_5 rfl hl (by decide) rfl (fun ls hl => ?_)
  refine lv_aload_n hx hb dX8_cracks_6 rfl (lv_at hl 1 rfl) ?_
  refine lv_iload_n hx hb dX8_cracks_7 rfl (lv_at hl 0 rfl) ?_
  refine lv_iconst (v := 0) hx hb dX8_cracks_8 (by decide) ?_
  obtain ⟨r9_3, h9_3, hF⟩ := bndE hF
  refine rdV (As := [.int r2_1, .int 0]) (rest := []) (C := RX8) ⟨hx, hb, hml, hown, hts⟩ (c_X8_of l D t z x a_t a_t_a v_t_fresh v_t_aside v_t_kept v_t_buffer (.ref a_t_moved) v_t_written t_keptMany t_thrown t_buffered t_size t_at t_behind t_kind t_number t_wrong t_wrongAt t_errorAt t_unused t_writtenMany t_a_ r2_1 0 H r9_3 h9_3) (cwV 2 hts gX8_cracks_X8_of rfl rfl rfl hd_X8_of ⟨Nat.le_of_ble_eq_true rfl, Nat.le_of_ble_eq_true rfl⟩) (hC.at hz hS) (selP (m9 := [true, true, false]) rfl rfl hP) 0 rfl (show vwCl[8]? = some (RX8, TX8, 20) from rfl) rfl rfl hl.1 rfl (Nat.le_of_ble_eq_true rfl) dX8_cracks_9 ⟨Nat.zero_le _, Nat.zero_le _⟩ rfl ?_
  refine lv_iload_n hx hb dX8_cracks_12 rfl (lv_at hl 2 rfl) ?_
  refine lv_icmp_ne (tgt := 18) hx hb dX8_cracks_13 (by decide) (fun c13 => ?_) (fun c13 => ?_)
  · have hF := brF c13 hF
    refine lv_aload_n hx hb dX8_cracks_18 rfl (lv_at hl 1 rfl) ?_
    refine lv_iload_n hx hb dX8_cracks_19 rfl (lv_at hl 0 rfl) ?_
    obtain ⟨r20_5, h20_5, hF⟩ := bndE hF
    refine rdV (As := [.int r2_1]) (rest := []) (C := RX8) ⟨hx, hb, hml, hown, hts⟩ (c_X8_firstPlace l D t z x N a_t a_t_a v_t_fresh v_t_aside v_t_kept v_t_buffer (.ref a_t_moved) v_t_written t_keptMany t_thrown t_buffered t_size t_at t_behind t_kind t_number t_wrong t_wrongAt t_errorAt t_unused t_writtenMany t_a_ r2_1 H r20_5 h20_5) (cwV 1 hts gX8_cracks_X8_firstPlace rfl rfl rfl hd_X8_firstPlace ⟨Nat.le_of_ble_eq_true rfl, Nat.le_of_ble_eq_true rfl⟩) (hC.at hz hS) (selP (m9 := [true, true, false]) rfl rfl hP) 0 rfl (show vwCl[8]? = some (RX8, TX8, 20) from rfl) rfl rfl hl.1 rfl (Nat.le_of_ble_eq_true rfl) dX8_cracks_20 ⟨Nat.zero_le _, Nat.zero_le _⟩ rfl ?_
    refine lv_istore_n (lv' := [(3, .int r20_5), (2, .int r2_1), (0, .ref a_t), (1, .int p1)]) hx hb dX8_cracks_23 rfl hl (by decide) rfl (fun ls hl => ?_)
    refine lv_aload_n hx hb dX8_cracks_24 rfl (lv_at hl 2 rfl) ?_
    refine lv_iload_n hx hb dX8_cracks_25 rfl (lv_at hl 1 rfl) ?_
    refine lv_iconst (v := 1) hx hb dX8_cracks_26 (by decide) ?_
    obtain ⟨r27_7, h27_7, hF⟩ := bndE hF
    refine rdV (As := [.int r2_1, .int 1]) (rest := []) (C := RX8) ⟨hx, hb, hml, hown, hts⟩ (c_X8_of l D t z x a_t a_t_a v_t_fresh v_t_aside v_t_kept v_t_buffer (.ref a_t_moved) v_t_written t_keptMany t_thrown t_buffered t_size t_at t_behind t_kind t_number t_wrong t_wrongAt t_errorAt t_unused t_writtenMany t_a_ r2_1 1 H r27_7 h27_7) (cwV 2 hts gX8_cracks_X8_of rfl rfl rfl hd_X8_of ⟨Nat.le_of_ble_eq_true rfl, Nat.le_of_ble_eq_true rfl⟩) (hC.at hz hS) (selP (m9 := [true, true, false]) rfl rfl hP) 0 rfl (show vwCl[8]? = some (RX8, TX8, 20) from rfl) rfl rfl hl.1 rfl (Nat.le_of_ble_eq_true rfl) dX8_cracks_27 ⟨Nat.zero_le _, Nat.zero_le _⟩ rfl ?_
    refine lv_istore (lv' := [(4, .int r27_7), (3, .int r20_5), (2, .int r2_1), (0, .ref a_t), (1, .int p1)]) hx hb dX8_cracks_30 hl (by decide) rfl (fun ls hl => ?_)
    refine lv_iconst (v := 0) hx hb dX8_cracks_32 (by decide) ?_
    refine lv_istore (lv' := [(5, .int 0), (4, .int r27_7), (3, .int r20_5), (2, .int r2_1), (0, .ref a_t), (1, .int p1)]) hx hb dX8_cracks_33 hl (by decide) rfl (fun ls hl => ?_)
    refine lv_iconst (v := 0) hx hb dX8_cracks_35 (by decide) ?_
    refine lv_istore (lv' := [(6, .int 0), (5, .int 0), (4, .int r27_7), (3, .int r20_5), (2, .int r2_1), (0, .ref a_t), (1, .int p1)]) hx hb dX8_cracks_36 hl (by decide) rfl (fun ls hl => ?_)
    obtain ⟨k73_10, ek73_10, hF⟩ := jnE hF
    have hk73_10 : ∀ (x5_73_9 : Int32) (H : Heap) (locs : List Loc) (ls : Array Slot), va_P D vwCl [(a_t, .inr (8, [.ref a_t_a, v_t_fresh, v_t_aside, v_t_kept, .int t_keptMany, .int t_thrown, v_t_buffer, .int t_buffered, .int t_size, .int t_at, .int t_behind, .int t_kind, .int t_number, .int t_wrong, .int t_wrongAt, .int t_errorAt, .ref a_t_moved, .int t_unused, v_t_written, .int t_writtenMany])), (a_t_a, .inl (t 0, 876, .inl t_a_)), (a_t_moved, .inl (t 0, 120, .inl t_moved_))] H → va_D A [(a_t, .inr (8, [.ref a_t_a, v_t_fresh, v_t_aside, v_t_kept, .int t_keptMany, .int t_thrown, v_t_buffer, .int t_buffered, .int t_size, .int t_at, .int t_behind, .int t_kind, .int t_number, .int t_wrong, .int t_wrongAt, .int t_errorAt, .ref a_t_moved, .int t_unused, v_t_written, .int t_writtenMany])), (a_t_a, .inl (t 0, 876, .inl t_a_)), (a_t_moved, .inl (t 0, 120, .inl t_moved_))] → va_S A s.heap H locs → lv_has ls 10 [(0, .ref a_t), (1, .int p1), (2, .int r2_1), (3, .int r20_5), (4, .int r27_7), (5, .int x5_73_9)] → k73_10 x5_73_9 = some (r, t_a_', t_moved_') → W p l e rm_X8_cracks s m args below meth c H locs 0 0 Q (F0 m 73 ls []) := by
      subst ek73_10
      intro x5_73_9 H locs ls hP hD hS hl hF
      refine lv_iconst (v := 0) hx hb dX8_cracks_73 (by decide) ?_
      refine lv_istore (lv' := [(6, .int 0), (0, .ref a_t), (1, .int p1), (2, .int r2_1), (3, .int r20_5), (4, .int r27_7), (5, .int x5_73_9)]) hx hb dX8_cracks_74 hl (by decide) rfl (fun ls hl => ?_)
      refine lv_iload hx hb dX8_cracks_76 (lv_at hl 6 rfl) ?_
      refine lv_istore (lv' := [(7, .int x5_73_9), (6, .int 0), (0, .ref a_t), (1, .int p1), (2, .int r2_1), (3, .int r20_5), (4, .int r27_7), (5, .int x5_73_9)]) hx hb dX8_cracks_78 hl (by decide) rfl (fun ls hl => ?_)
      refine lv_iconst (v := 0) hx hb dX8_cracks_80 (by decide) ?_
      refine lv_istore (lv' := [(8, .int 0), (7, .int x5_73_9), (6, .int 0), (0, .ref a_t), (1, .int p1), (2, .int r2_1), (3, .int r20_5), (4, .int r27_7), (5, .int x5_73_9)]) hx hb dX8_cracks_81 hl (by decide) rfl (fun ls hl => ?_)
      obtain ⟨k175_12, ek175_12, hF⟩ := jnE hF
      have hk175_12 : ∀ (t_moved_175_11 : (Nat → Int32)) (H : Heap) (locs : List Loc) (ls : Array Slot), va_P D vwCl [(a_t, .inr (8, [.ref a_t_a, v_t_fresh, v_t_aside, v_t_kept, .int t_keptMany, .int t_thrown, v_t_buffer, .int t_buffered, .int t_size, .int t_at, .int t_behind, .int t_kind, .int t_number, .int t_wrong, .int t_wrongAt, .int t_errorAt, .ref a_t_moved, .int t_unused, v_t_written, .int t_writtenMany])), (a_t_a, .inl (t 0, 876, .inl t_a_)), (a_t_moved, .inl (t 0, 120, .inl t_moved_175_11))] H → va_D A [(a_t, .inr (8, [.ref a_t_a, v_t_fresh, v_t_aside, v_t_kept, .int t_keptMany, .int t_thrown, v_t_buffer, .int t_buffered, .int t_size, .int t_at, .int t_behind, .int t_kind, .int t_number, .int t_wrong, .int t_wrongAt, .int t_errorAt, .ref a_t_moved, .int t_unused, v_t_written, .int t_writtenMany])), (a_t_a, .inl (t 0, 876, .inl t_a_)), (a_t_moved, .inl (t 0, 120, .inl t_moved_175_11))] → va_S A s.heap H locs → lv_has ls 10 [(0, .ref a_t), (1, .int p1), (2, .int r2_1), (3, .int r20_5), (4, .int r27_7), (5, .int x5_73_9)] → k175_12 t_moved_175_11 = some (r, t_a_', t_moved_') → W p l e rm_X8_cracks s m args below meth c H locs 0 0 Q (F0 m 175 ls []) := by
        subst ek175_12
        intro t_moved_175_11 H locs ls hP hD hS hl hF
        refine lv_iconst (v := 0) hx hb dX8_cracks_175 (by decide) ?_
        refine lv_istore (lv' := [(8, .int 0), (0, .ref a_t), (1, .int p1), (2, .int r2_1), (3, .int r20_5), (4, .int r27_7), (5, .int x5_73_9)]) hx hb dX8_cracks_176 hl (by decide) rfl (fun ls hl => ?_)
        obtain ⟨k211_14, ek211_14, hF⟩ := jnE hF
        have hk211_14 : ∀ (t_a_211_13 : (Nat → Int32)) (H : Heap) (locs : List Loc) (ls : Array Slot), va_P D vwCl [(a_t, .inr (8, [.ref a_t_a, v_t_fresh, v_t_aside, v_t_kept, .int t_keptMany, .int t_thrown, v_t_buffer, .int t_buffered, .int t_size, .int t_at, .int t_behind, .int t_kind, .int t_number, .int t_wrong, .int t_wrongAt, .int t_errorAt, .ref a_t_moved, .int t_unused, v_t_written, .int t_writtenMany])), (a_t_a, .inl (t 0, 876, .inl t_a_211_13)), (a_t_moved, .inl (t 0, 120, .inl t_moved_175_11))] H → va_D A [(a_t, .inr (8, [.ref a_t_a, v_t_fresh, v_t_aside, v_t_kept, .int t_keptMany, .int t_thrown, v_t_buffer, .int t_buffered, .int t_size, .int t_at, .int t_behind, .int t_kind, .int t_number, .int t_wrong, .int t_wrongAt, .int t_errorAt, .ref a_t_moved, .int t_unused, v_t_written, .int t_writtenMany])), (a_t_a, .inl (t 0, 876, .inl t_a_211_13)), (a_t_moved, .inl (t 0, 120, .inl t_moved_175_11))] → va_S A s.heap H locs → lv_has ls 10 [(0, .ref a_t), (1, .int p1), (2, .int r2_1), (4, .int r27_7), (5, .int x5_73_9)] → k211_14 t_a_211_13 = some (r, t_a_', t_moved_') → W p l e rm_X8_cracks s m args below meth c H locs 0 0 Q (F0 m 211 ls []) := by
          subst ek211_14
          intro t_a_211_13 H locs ls hP hD hS hl hF
          refine lv_sipush (v := 540) hx hb dX8_cracks_211 (by decide) ?_
          refine lv_iconst (v := 4) hx hb dX8_cracks_214 (by decide) ?_
          refine lv_aload_n hx hb dX8_cracks_215 rfl (lv_at hl 0 rfl) ?_
          refine va_get (D := D) (ci := 8) (v := .ref a_t_a) (C := RX8) (T := TX8) (N := 20) hx hb hts iw8 hown hK hP 0 rfl rfl 0 (by decide) hf7 (fun _ h9 => h9) rfl dX8_cracks_216 ?_
          refine lv_iconst (v := 3) hx hb dX8_cracks_219 (by decide) ?_
          refine my_iald (v := t_a_211_13 3) hx hb hK hP 1 0 rfl rfl (vp_lit (by decide +kernel)) rfl dX8_cracks_220 ?_
          refine lv_imul hx hb dX8_cracks_221 ?_
          refine lv_iadd hx hb dX8_cracks_222 ?_
          refine lv_iconst (v := 1) hx hb dX8_cracks_223 (by decide) ?_
          refine lv_isub hx hb dX8_cracks_224 ?_
          refine lv_topi (fun y225_15 ey225_15 => ?_)
          have hF := ltE ey225_15 hF
          refine lv_istore (lv' := [(8, .int y225_15), (0, .ref a_t), (1, .int p1), (2, .int r2_1), (4, .int r27_7), (5, .int x5_73_9)]) hx hb dX8_cracks_225 hl (by decide) rfl (fun ls hl => ?_)
          obtain ⟨k261_17, ek261_17, hF⟩ := jnE hF
          have hk261_17 : ∀ (t_a_261_16 : (Nat → Int32)) (H : Heap) (locs : List Loc) (ls : Array Slot), va_P D vwCl [(a_t, .inr (8, [.ref a_t_a, v_t_fresh, v_t_aside, v_t_kept, .int t_keptMany, .int t_thrown, v_t_buffer, .int t_buffered, .int t_size, .int t_at, .int t_behind, .int t_kind, .int t_number, .int t_wrong, .int t_wrongAt, .int t_errorAt, .ref a_t_moved, .int t_unused, v_t_written, .int t_writtenMany])), (a_t_a, .inl (t 0, 876, .inl t_a_261_16)), (a_t_moved, .inl (t 0, 120, .inl t_moved_175_11))] H → va_D A [(a_t, .inr (8, [.ref a_t_a, v_t_fresh, v_t_aside, v_t_kept, .int t_keptMany, .int t_thrown, v_t_buffer, .int t_buffered, .int t_size, .int t_at, .int t_behind, .int t_kind, .int t_number, .int t_wrong, .int t_wrongAt, .int t_errorAt, .ref a_t_moved, .int t_unused, v_t_written, .int t_writtenMany])), (a_t_a, .inl (t 0, 876, .inl t_a_261_16)), (a_t_moved, .inl (t 0, 120, .inl t_moved_175_11))] → va_S A s.heap H locs → lv_has ls 10 [(0, .ref a_t), (1, .int p1), (2, .int r2_1), (4, .int r27_7), (5, .int x5_73_9)] → k261_17 t_a_261_16 = some (r, t_a_', t_moved_') → W p l e rm_X8_cracks s m args below meth c H locs 0 0 Q (F0 m 261 ls []) := by
            subst ek261_17
            intro t_a_261_16 H locs ls hP hD hS hl hF
            refine lv_aload_n hx hb dX8_cracks_261 rfl (lv_at hl 0 rfl) ?_
            refine va_get (D := D) (ci := 8) (v := .ref a_t_a) (C := RX8) (T := TX8) (N := 20) hx hb hts iw8 hown hK hP 0 rfl rfl 0 (by decide) hf7 (fun _ h9 => h9) rfl dX8_cracks_262 ?_
            refine lv_iconst (v := 3) hx hb dX8_cracks_265 (by decide) ?_
            refine lv_dup2_11 hx hb dX8_cracks_266 rfl rfl ?_
            refine my_iald (v := t_a_261_16 3) hx hb hK hP 1 0 rfl rfl (vp_lit (by decide +kernel)) rfl dX8_cracks_267 ?_
            refine lv_iconst (v := 1) hx hb dX8_cracks_268 (by decide) ?_
            refine lv_iadd hx hb dX8_cracks_269 ?_
            obtain ⟨t_a_270_18, et_a_270_18⟩ : ∃ y : Nat → Int32, y = upd t_a_261_16 3 ((t_a_261_16 3) + 1) := ⟨_, rfl⟩
            have hF := ltE et_a_270_18 hF
            refine my_iast (g := t_a_270_18) (wn := [(a_t, .inr (8, [.ref a_t_a, v_t_fresh, v_t_aside, v_t_kept, .int t_keptMany, .int t_thrown, v_t_buffer, .int t_buffered, .int t_size, .int t_at, .int t_behind, .int t_kind, .int t_number, .int t_wrong, .int t_wrongAt, .int t_errorAt, .ref a_t_moved, .int t_unused, v_t_written, .int t_writtenMany])), (a_t_a, .inl (t 0, 876, .inl t_a_270_18)), (a_t_moved, .inl (t 0, 120, .inl t_moved_175_11))]) hx hb hK hP hD hS 1 0 rfl rfl (vp_lit (by decide +kernel)) et_a_270_18 rfl dX8_cracks_270 (fun H locs hP hD hS => ?_)
            refine lv_aload_n hx hb dX8_cracks_271 rfl (lv_at hl 0 rfl) ?_
            refine lv_iload_n hx hb dX8_cracks_272 rfl (lv_at hl 2 rfl) ?_
            refine lv_iconst (v := 1) hx hb dX8_cracks_273 (by decide) ?_
            refine lv_iload hx hb dX8_cracks_274 (lv_at hl 4 rfl) ?_
            obtain ⟨t_a_276_19, h276_19, hF⟩ := bndE hF
            refine wrVM (As := [.int r2_1, .int 1, .int x5_73_9]) (rest := []) (C := RX8) (wn := [(a_t, .inr (8, [.ref a_t_a, v_t_fresh, v_t_aside, v_t_kept, .int t_keptMany, .int t_thrown, v_t_buffer, .int t_buffered, .int t_size, .int t_at, .int t_behind, .int t_kind, .int t_number, .int t_wrong, .int t_wrongAt, .int t_errorAt, .ref a_t_moved, .int t_unused, v_t_written, .int t_writtenMany])), (a_t_a, .inl (t 0, 876, .inl t_a_276_19)), (a_t_moved, .inl (t 0, 120, .inl t_moved_175_11))]) ⟨hx, hb, hml, hown, hts⟩ (c_X8_puts l D t z x a_t a_t_a v_t_fresh v_t_aside v_t_kept v_t_buffer (.ref a_t_moved) v_t_written t_keptMany t_thrown t_buffered t_size t_at t_behind t_kind t_number t_wrong t_wrongAt t_errorAt t_unused t_writtenMany t_a_270_18 r2_1 1 x5_73_9 H.size t_a_276_19 h276_19) (cwV 3 hts gX8_cracks_X8_puts rfl rfl rfl hd_X8_puts ⟨Nat.le_of_ble_eq_true rfl, Nat.le_of_ble_eq_true rfl⟩) (hC.at hz hS) hP hD hS hA hz [true, true, false] rfl rfl rfl rfl 0 rfl (show vwCl[8]? = some (RX8, TX8, 20) from rfl) rfl rfl hl.1 rfl (Nat.le_of_ble_eq_true rfl) dX8_cracks_276 ⟨Nat.zero_le _, Nat.zero_le _⟩ rfl (fun H locs hP hD hS => ?_)
            refine lv_aload_n hx hb dX8_cracks_279 rfl (lv_at hl 0 rfl) ?_
            refine lv_iload_n hx hb dX8_cracks_280 rfl (lv_at hl 2 rfl) ?_
            refine lv_iconst (v := 2) hx hb dX8_cracks_281 (by decide) ?_
            refine lv_aload_n hx hb dX8_cracks_282 rfl (lv_at hl 0 rfl) ?_
            refine lv_iload_n hx hb dX8_cracks_283 rfl (lv_at hl 2 rfl) ?_
            refine lv_iconst (v := 2) hx hb dX8_cracks_284 (by decide) ?_
            obtain ⟨r285_21, h285_21, hF⟩ := bndE hF
            refine rdV (As := [.int r2_1, .int 2]) (rest := [.int 2, .int r2_1, .ref a_t]) (C := RX8) ⟨hx, hb, hml, hown, hts⟩ (c_X8_of l D t z x a_t a_t_a v_t_fresh v_t_aside v_t_kept v_t_buffer (.ref a_t_moved) v_t_written t_keptMany t_thrown t_buffered t_size t_at t_behind t_kind t_number t_wrong t_wrongAt t_errorAt t_unused t_writtenMany t_a_276_19 r2_1 2 H r285_21 h285_21) (cwV 2 hts gX8_cracks_X8_of rfl rfl rfl hd_X8_of ⟨Nat.le_of_ble_eq_true rfl, Nat.le_of_ble_eq_true rfl⟩) (hC.at hz hS) (selP (m9 := [true, true, false]) rfl rfl hP) 0 rfl (show vwCl[8]? = some (RX8, TX8, 20) from rfl) rfl rfl hl.1 rfl (Nat.le_of_ble_eq_true rfl) dX8_cracks_285 ⟨Nat.zero_le _, Nat.zero_le _⟩ rfl ?_
            refine lv_iconst (v := 2) hx hb dX8_cracks_288 (by decide) ?_
            refine lv_idiv hx hb dX8_cracks_289 (by decide) ?_
            obtain ⟨t_a_290_23, h290_23, hF⟩ := bndE hF
            refine wrVM (As := [.int r2_1, .int 2, .int (r285_21 / 2)]) (rest := []) (C := RX8) (wn := [(a_t, .inr (8, [.ref a_t_a, v_t_fresh, v_t_aside, v_t_kept, .int t_keptMany, .int t_thrown, v_t_buffer, .int t_buffered, .int t_size, .int t_at, .int t_behind, .int t_kind, .int t_number, .int t_wrong, .int t_wrongAt, .int t_errorAt, .ref a_t_moved, .int t_unused, v_t_written, .int t_writtenMany])), (a_t_a, .inl (t 0, 876, .inl t_a_290_23)), (a_t_moved, .inl (t 0, 120, .inl t_moved_175_11))]) ⟨hx, hb, hml, hown, hts⟩ (c_X8_puts l D t z x a_t a_t_a v_t_fresh v_t_aside v_t_kept v_t_buffer (.ref a_t_moved) v_t_written t_keptMany t_thrown t_buffered t_size t_at t_behind t_kind t_number t_wrong t_wrongAt t_errorAt t_unused t_writtenMany t_a_276_19 r2_1 2 (r285_21 / 2) H.size t_a_290_23 h290_23) (cwV 3 hts gX8_cracks_X8_puts rfl rfl rfl hd_X8_puts ⟨Nat.le_of_ble_eq_true rfl, Nat.le_of_ble_eq_true rfl⟩) (hC.at hz hS) hP hD hS hA hz [true, true, false] rfl rfl rfl rfl 0 rfl (show vwCl[8]? = some (RX8, TX8, 20) from rfl) rfl rfl hl.1 rfl (Nat.le_of_ble_eq_true rfl) dX8_cracks_290 ⟨Nat.zero_le _, Nat.zero_le _⟩ rfl (fun H locs hP hD hS => ?_)
            refine lv_aload_n hx hb dX8_cracks_293 rfl (lv_at hl 0 rfl) ?_
            refine lv_iload_n hx hb dX8_cracks_294 rfl (lv_at hl 2 rfl) ?_
            refine lv_iconst (v := 1) hx hb dX8_cracks_295 (by decide) ?_
            refine lv_iadd hx hb dX8_cracks_296 ?_
            refine lv_iconst (v := 0) hx hb dX8_cracks_297 (by decide) ?_
            refine lv_iload_n hx hb dX8_cracks_298 rfl (lv_at hl 1 rfl) ?_
            obtain ⟨t_a_299_25, h299_25, hF⟩ := bndE hF
            refine wrVM (As := [.int (r2_1 + 1), .int 0, .int p1]) (rest := []) (C := RX8) (wn := [(a_t, .inr (8, [.ref a_t_a, v_t_fresh, v_t_aside, v_t_kept, .int t_keptMany, .int t_thrown, v_t_buffer, .int t_buffered, .int t_size, .int t_at, .int t_behind, .int t_kind, .int t_number, .int t_wrong, .int t_wrongAt, .int t_errorAt, .ref a_t_moved, .int t_unused, v_t_written, .int t_writtenMany])), (a_t_a, .inl (t 0, 876, .inl t_a_299_25)), (a_t_moved, .inl (t 0, 120, .inl t_moved_175_11))]) ⟨hx, hb, hml, hown, hts⟩ (c_X8_puts l D t z x a_t a_t_a v_t_fresh v_t_aside v_t_kept v_t_buffer (.ref a_t_moved) v_t_written t_keptMany t_thrown t_buffered t_size t_at t_behind t_kind t_number t_wrong t_wrongAt t_errorAt t_unused t_writtenMany t_a_290_23 (r2_1 + 1) 0 p1 H.size t_a_299_25 h299_25) (cwV 3 hts gX8_cracks_X8_puts rfl rfl rfl hd_X8_puts ⟨Nat.le_of_ble_eq_true rfl, Nat.le_of_ble_eq_true rfl⟩) (hC.at hz hS) hP hD hS hA hz [true, true, false] rfl rfl rfl rfl 0 rfl (show vwCl[8]? = some (RX8, TX8, 20) from rfl) rfl rfl hl.1 rfl (Nat.le_of_ble_eq_true rfl) dX8_cracks_299 ⟨Nat.zero_le _, Nat.zero_le _⟩ rfl (fun H locs hP hD hS => ?_)
            refine lv_aload_n hx hb dX8_cracks_302 rfl (lv_at hl 0 rfl) ?_
            refine lv_iload_n hx hb dX8_cracks_303 rfl (lv_at hl 2 rfl) ?_
            refine lv_iconst (v := 1) hx hb dX8_cracks_304 (by decide) ?_
            refine lv_iadd hx hb dX8_cracks_305 ?_
            refine lv_iconst (v := 1) hx hb dX8_cracks_306 (by decide) ?_
            refine lv_iload hx hb dX8_cracks_307 (lv_at hl 3 rfl) ?_
            refine lv_iload hx hb dX8_cracks_309 (lv_at hl 4 rfl) ?_
            refine lv_isub hx hb dX8_cracks_311 ?_
            obtain ⟨t_a_312_27, h312_27, hF⟩ := bndE hF
            refine wrVM (As := [.int (r2_1 + 1), .int 1, .int (r27_7 - x5_73_9)]) (rest := []) (C := RX8) (wn := [(a_t, .inr (8, [.ref a_t_a, v_t_fresh, v_t_aside, v_t_kept, .int t_keptMany, .int t_thrown, v_t_buffer, .int t_buffered, .int t_size, .int t_at, .int t_behind, .int t_kind, .int t_number, .int t_wrong, .int t_wrongAt, .int t_errorAt, .ref a_t_moved, .int t_unused, v_t_written, .int t_writtenMany])), (a_t_a, .inl (t 0, 876, .inl t_a_312_27)), (a_t_moved, .inl (t 0, 120, .inl t_moved_175_11))]) ⟨hx, hb, hml, hown, hts⟩ (c_X8_puts l D t z x a_t a_t_a v_t_fresh v_t_aside v_t_kept v_t_buffer (.ref a_t_moved) v_t_written t_keptMany t_thrown t_buffered t_size t_at t_behind t_kind t_number t_wrong t_wrongAt t_errorAt t_unused t_writtenMany t_a_299_25 (r2_1 + 1) 1 (r27_7 - x5_73_9) H.size t_a_312_27 h312_27) (cwV 3 hts gX8_cracks_X8_puts rfl rfl rfl hd_X8_puts ⟨Nat.le_of_ble_eq_true rfl, Nat.le_of_ble_eq_true rfl⟩) (hC.at hz hS) hP hD hS hA hz [true, true, false] rfl rfl rfl rfl 0 rfl (show vwCl[8]? = some (RX8, TX8, 20) from rfl) rfl rfl hl.1 rfl (Nat.le_of_ble_eq_true rfl) dX8_cracks_312 ⟨Nat.zero_le _, Nat.zero_le _⟩ rfl (fun H locs hP hD hS => ?_)
            refine lv_aload_n hx hb dX8_cracks_315 rfl (lv_at hl 0 rfl) ?_
            refine lv_iload_n hx hb dX8_cracks_316 rfl (lv_at hl 2 rfl) ?_
            refine lv_iconst (v := 1) hx hb dX8_cracks_317 (by decide) ?_
            refine lv_iadd hx hb dX8_cracks_318 ?_
            refine lv_iconst (v := 2) hx hb dX8_cracks_319 (by decide) ?_
            refine lv_aload_n hx hb dX8_cracks_320 rfl (lv_at hl 0 rfl) ?_
            refine lv_iload_n hx hb dX8_cracks_321 rfl (lv_at hl 2 rfl) ?_
            refine lv_iconst (v := 2) hx hb dX8_cracks_322 (by decide) ?_
            obtain ⟨r323_29, h323_29, hF⟩ := bndE hF
            refine rdV (As := [.int r2_1, .int 2]) (rest := [.int 2, .int (r2_1 + 1), .ref a_t]) (C := RX8) ⟨hx, hb, hml, hown, hts⟩ (c_X8_of l D t z x a_t a_t_a v_t_fresh v_t_aside v_t_kept v_t_buffer (.ref a_t_moved) v_t_written t_keptMany t_thrown t_buffered t_size t_at t_behind t_kind t_number t_wrong t_wrongAt t_errorAt t_unused t_writtenMany t_a_312_27 r2_1 2 H r323_29 h323_29) (cwV 2 hts gX8_cracks_X8_of rfl rfl rfl hd_X8_of ⟨Nat.le_of_ble_eq_true rfl, Nat.le_of_ble_eq_true rfl⟩) (hC.at hz hS) (selP (m9 := [true, true, false]) rfl rfl hP) 0 rfl (show vwCl[8]? = some (RX8, TX8, 20) from rfl) rfl rfl hl.1 rfl (Nat.le_of_ble_eq_true rfl) dX8_cracks_323 ⟨Nat.zero_le _, Nat.zero_le _⟩ rfl ?_
            obtain ⟨t_a_326_31, h326_31, hF⟩ := bndE hF
            refine wrVM (As := [.int (r2_1 + 1), .int 2, .int r323_29]) (rest := []) (C := RX8) (wn := [(a_t, .inr (8, [.ref a_t_a, v_t_fresh, v_t_aside, v_t_kept, .int t_keptMany, .int t_thrown, v_t_buffer, .int t_buffered, .int t_size, .int t_at, .int t_behind, .int t_kind, .int t_number, .int t_wrong, .int t_wrongAt, .int t_errorAt, .ref a_t_moved, .int t_unused, v_t_written, .int t_writtenMany])), (a_t_a, .inl (t 0, 876, .inl t_a_326_31)), (a_t_moved, .inl (t 0, 120, .inl t_moved_175_11))]) ⟨hx, hb, hml, hown, hts⟩ (c_X8_puts l D t z x a_t a_t_a v_t_fresh v_t_aside v_t_kept v_t_buffer (.ref a_t_moved) v_t_written t_keptMany t_thrown t_buffered t_size t_at t_behind t_kind t_number t_wrong t_wrongAt t_errorAt t_unused t_writtenMany t_a_312_27 (r2_1 + 1) 2 r323_29 H.size t_a_326_31 h326_31) (cwV 3 hts gX8_cracks_X8_puts rfl rfl rfl hd_X8_puts ⟨Nat.le_of_ble_eq_true rfl, Nat.le_of_ble_eq_true rfl⟩) (hC.at hz hS) hP hD hS hA hz [true, true, false] rfl rfl rfl rfl 0 rfl (show vwCl[8]? = some (RX8, TX8, 20) from rfl) rfl rfl hl.1 rfl (Nat.le_of_ble_eq_true rfl) dX8_cracks_326 ⟨Nat.zero_le _, Nat.zero_le _⟩ rfl (fun H locs hP hD hS => ?_)
            refine lv_aload_n hx hb dX8_cracks_329 rfl (lv_at hl 0 rfl) ?_
            refine lv_iload_n hx hb dX8_cracks_330 rfl (lv_at hl 2 rfl) ?_
            refine lv_iconst (v := 3) hx hb dX8_cracks_331 (by decide) ?_
            obtain ⟨r332_33, h332_33, hF⟩ := bndE hF
            refine rdV (As := [.int r2_1, .int 3]) (rest := []) (C := RX8) ⟨hx, hb, hml, hown, hts⟩ (c_X8_of l D t z x a_t a_t_a v_t_fresh v_t_aside v_t_kept v_t_buffer (.ref a_t_moved) v_t_written t_keptMany t_thrown t_buffered t_size t_at t_behind t_kind t_number t_wrong t_wrongAt t_errorAt t_unused t_writtenMany t_a_326_31 r2_1 3 H r332_33 h332_33) (cwV 2 hts gX8_cracks_X8_of rfl rfl rfl hd_X8_of ⟨Nat.le_of_ble_eq_true rfl, Nat.le_of_ble_eq_true rfl⟩) (hC.at hz hS) (selP (m9 := [true, true, false]) rfl rfl hP) 0 rfl (show vwCl[8]? = some (RX8, TX8, 20) from rfl) rfl rfl hl.1 rfl (Nat.le_of_ble_eq_true rfl) dX8_cracks_332 ⟨Nat.zero_le _, Nat.zero_le _⟩ rfl ?_
            refine lv_iconst (v := 1) hx hb dX8_cracks_335 (by decide) ?_
            refine lv_icmp_ne (tgt := 349) hx hb dX8_cracks_336 (by decide) (fun c336 => ?_) (fun c336 => ?_)
            · have hF := brF c336 hF
              refine lv_iload hx hb dX8_cracks_349 (lv_at hl 3 rfl) ?_
              cases hF
              exact we_iret hx hb hr hlocks dX8_cracks_351 rfl hQ hP hD hS
            · have hF := brT c336 hF
              refine lv_iload hx hb dX8_cracks_339 (lv_at hl 3 rfl) ?_
              refine lv_iconst (v := 1) hx hb dX8_cracks_341 (by decide) ?_
              refine lv_iadd hx hb dX8_cracks_342 ?_
              obtain ⟨r343_35, h343_35, hF⟩ := bndE hF
              refine rdS (As := [.int (r27_7 + 1)]) (rest := []) ⟨hx, hb, hml, hown, hts⟩ (c_X8_logOf l D t z x N (r27_7 + 1) H r343_35 h343_35) (va_cwS 1 hts gX8_cracks_X8_logOf rfl rfl rfl hd_X8_logOf.2 ⟨Nat.le_of_ble_eq_true rfl, Nat.le_of_ble_eq_true rfl⟩) (hC.at hz hS) (selP (m9 := [false, false, false]) rfl rfl hP) rfl hl.1 rfl (Nat.le_of_ble_eq_true rfl) dX8_cracks_343 ⟨Nat.zero_le _, Nat.zero_le _⟩ rfl ?_
              refine lv_goto (tgt := 351) hx hb dX8_cracks_346 (by decide) ?_
              cases hF
              exact we_iret hx hb hr hlocks dX8_cracks_351 rfl hQ hP hD hS
          have hlp227 : ∀ n227 : Nat, ∀ (x8_227_37 : Int32) (t_a_227_38 : (Nat → Int32)) (H : Heap) (locs : List Loc) (ls : Array Slot), va_P D vwCl [(a_t, .inr (8, [.ref a_t_a, v_t_fresh, v_t_aside, v_t_kept, .int t_keptMany, .int t_thrown, v_t_buffer, .int t_buffered, .int t_size, .int t_at, .int t_behind, .int t_kind, .int t_number, .int t_wrong, .int t_wrongAt, .int t_errorAt, .ref a_t_moved, .int t_unused, v_t_written, .int t_writtenMany])), (a_t_a, .inl (t 0, 876, .inl t_a_227_38)), (a_t_moved, .inl (t 0, 120, .inl t_moved_175_11))] H → va_D A [(a_t, .inr (8, [.ref a_t_a, v_t_fresh, v_t_aside, v_t_kept, .int t_keptMany, .int t_thrown, v_t_buffer, .int t_buffered, .int t_size, .int t_at, .int t_behind, .int t_kind, .int t_number, .int t_wrong, .int t_wrongAt, .int t_errorAt, .ref a_t_moved, .int t_unused, v_t_written, .int t_writtenMany])), (a_t_a, .inl (t 0, 876, .inl t_a_227_38)), (a_t_moved, .inl (t 0, 120, .inl t_moved_175_11))] → va_S A s.heap H locs → lv_has ls 10 [(0, .ref a_t), (1, .int p1), (2, .int r2_1), (4, .int r27_7), (5, .int x5_73_9), (8, .int x8_227_37)] → f_X8_cracks_227 r2_1 k261_17 n227 x8_227_37 t_a_227_38 = some (r, t_a_', t_moved_') → W p l e rm_X8_cracks s m args below meth c H locs 0 0 Q (F0 m 227 ls []) := by
            intro n227
            induction n227 with
            | zero =>
              intro x8_227_37 t_a_227_38 H locs ls hP hD hS hl hF
              cases (show none = some (r, t_a_', t_moved_') from hF)
            | succ n227 ih227 =>
              intro x8_227_37 t_a_227_38 H locs ls hP hD hS hl hF
              rw [f_X8_cracks_227] at hF
              refine lv_iload hx hb dX8_cracks_227 (lv_at hl 5 rfl) ?_
              refine lv_sipush (v := 540) hx hb dX8_cracks_229 (by decide) ?_
              refine lv_iconst (v := 4) hx hb dX8_cracks_232 (by decide) ?_
              refine lv_iload_n hx hb dX8_cracks_233 rfl (lv_at hl 2 rfl) ?_
              refine lv_imul hx hb dX8_cracks_234 ?_
              refine lv_iadd hx hb dX8_cracks_235 ?_
              refine lv_icmp_lt (tgt := 261) hx hb dX8_cracks_236 (by decide) (fun c236 => ?_) (fun c236 => ?_)
              · have hF := brT c236 hF
                exact hk261_17 t_a_227_38 H locs ls hP hD hS (lv_sub hl [0, 1, 2, 3, 4] rfl) hF
              · have hF := brF c236 hF
                refine lv_aload_n hx hb dX8_cracks_239 rfl (lv_at hl 0 rfl) ?_
                refine va_get (D := D) (ci := 8) (v := .ref a_t_a) (C := RX8) (T := TX8) (N := 20) hx hb hts iw8 hown hK hP 0 rfl rfl 0 (by decide) hf7 (fun _ h9 => h9) rfl dX8_cracks_240 ?_
                refine lv_iload hx hb dX8_cracks_243 (lv_at hl 5 rfl) ?_
                refine lv_iconst (v := 4) hx hb dX8_cracks_245 (by decide) ?_
                refine lv_iadd hx hb dX8_cracks_246 ?_
                refine lv_aload_n hx hb dX8_cracks_247 rfl (lv_at hl 0 rfl) ?_
                refine va_get (D := D) (ci := 8) (v := .ref a_t_a) (C := RX8) (T := TX8) (N := 20) hx hb hts iw8 hown hK hP 0 rfl rfl 0 (by decide) hf7 (fun _ h9 => h9) rfl dX8_cracks_248 ?_
                refine lv_iload hx hb dX8_cracks_251 (lv_at hl 5 rfl) ?_
                obtain ⟨g253_38, hF⟩ := gd hF
                refine my_iald (v := t_a_227_38 x8_227_37.toNatClampNeg) hx hb hK hP 1 0 rfl rfl g253_38 rfl dX8_cracks_253 ?_
                obtain ⟨g254_40, hF⟩ := gd hF
                obtain ⟨t_a_254_41, et_a_254_41⟩ : ∃ y : Nat → Int32, y = upd t_a_227_38 (x8_227_37 + 4).toNatClampNeg (t_a_227_38 x8_227_37.toNatClampNeg) := ⟨_, rfl⟩
                have hF := ltE et_a_254_41 hF
                refine my_iast (g := t_a_254_41) (wn := [(a_t, .inr (8, [.ref a_t_a, v_t_fresh, v_t_aside, v_t_kept, .int t_keptMany, .int t_thrown, v_t_buffer, .int t_buffered, .int t_size, .int t_at, .int t_behind, .int t_kind, .int t_number, .int t_wrong, .int t_wrongAt, .int t_errorAt, .ref a_t_moved, .int t_unused, v_t_written, .int t_writtenMany])), (a_t_a, .inl (t 0, 876, .inl t_a_254_41)), (a_t_moved, .inl (t 0, 120, .inl t_moved_175_11))]) hx hb hK hP hD hS 1 0 rfl rfl g254_40 et_a_254_41 rfl dX8_cracks_254 (fun H locs hP hD hS => ?_)
                obtain ⟨y255_42, ey255_42⟩ : ∃ y : Int32, y = x8_227_37 + (-1) := ⟨_, rfl⟩
                have hF := ltE ey255_42 hF
                refine lv_iinc (v := y255_42) (lv' := [(8, .int y255_42), (0, .ref a_t), (1, .int p1), (2, .int r2_1), (4, .int r27_7), (5, .int x5_73_9)]) hx hb dX8_cracks_255 hl (k := 5) rfl (by rw [ey255_42]; rfl) (by decide) rfl (fun ls hl => ?_)
                refine lv_goto (tgt := 227) hx hb dX8_cracks_258 (by decide) ?_
                exact ih227 y255_42 t_a_254_41 H locs ls hP hD hS (lv_sub hl [1, 2, 3, 4, 5, 0] rfl) hF
          exact hlp227 N y225_15 t_a_211_13 H locs ls hP hD hS (lv_sub hl [1, 2, 3, 4, 5, 0] rfl) hF
        have hlp178 : ∀ n178 : Nat, ∀ (x8_178_43 : Int32) (t_a_178_44 : (Nat → Int32)) (H : Heap) (locs : List Loc) (ls : Array Slot), va_P D vwCl [(a_t, .inr (8, [.ref a_t_a, v_t_fresh, v_t_aside, v_t_kept, .int t_keptMany, .int t_thrown, v_t_buffer, .int t_buffered, .int t_size, .int t_at, .int t_behind, .int t_kind, .int t_number, .int t_wrong, .int t_wrongAt, .int t_errorAt, .ref a_t_moved, .int t_unused, v_t_written, .int t_writtenMany])), (a_t_a, .inl (t 0, 876, .inl t_a_178_44)), (a_t_moved, .inl (t 0, 120, .inl t_moved_175_11))] H → va_D A [(a_t, .inr (8, [.ref a_t_a, v_t_fresh, v_t_aside, v_t_kept, .int t_keptMany, .int t_thrown, v_t_buffer, .int t_buffered, .int t_size, .int t_at, .int t_behind, .int t_kind, .int t_number, .int t_wrong, .int t_wrongAt, .int t_errorAt, .ref a_t_moved, .int t_unused, v_t_written, .int t_writtenMany])), (a_t_a, .inl (t 0, 876, .inl t_a_178_44)), (a_t_moved, .inl (t 0, 120, .inl t_moved_175_11))] → va_S A s.heap H locs → lv_has ls 10 [(0, .ref a_t), (1, .int p1), (2, .int r2_1), (3, .int r20_5), (4, .int r27_7), (5, .int x5_73_9), (8, .int x8_178_43)] → f_X8_cracks_178 r20_5 r27_7 t_moved_175_11 k211_14 n178 x8_178_43 t_a_178_44 = some (r, t_a_', t_moved_') → W p l e rm_X8_cracks s m args below meth c H locs 0 0 Q (F0 m 178 ls []) := by
          intro n178
          induction n178 with
          | zero =>
            intro x8_178_43 t_a_178_44 H locs ls hP hD hS hl hF
            cases (show none = some (r, t_a_', t_moved_') from hF)
          | succ n178 ih178 =>
            intro x8_178_43 t_a_178_44 H locs ls hP hD hS hl hF
            rw [f_X8_cracks_178] at hF
            refine lv_iload hx hb dX8_cracks_178 (lv_at hl 6 rfl) ?_
            refine lv_iload hx hb dX8_cracks_180 (lv_at hl 4 rfl) ?_
            refine lv_icmp_ge (tgt := 211) hx hb dX8_cracks_182 (by decide) (fun c182 => ?_) (fun c182 => ?_)
            · have hF := brT c182 hF
              exact hk211_14 t_a_178_44 H locs ls hP hD hS (lv_sub hl [0, 1, 2, 4, 5] rfl) hF
            · have hF := brF c182 hF
              refine lv_aload_n hx hb dX8_cracks_185 rfl (lv_at hl 0 rfl) ?_
              refine va_get (D := D) (ci := 8) (v := .ref a_t_a) (C := RX8) (T := TX8) (N := 20) hx hb hts iw8 hown hK hP 0 rfl rfl 0 (by decide) hf7 (fun _ h9 => h9) rfl dX8_cracks_186 ?_
              refine lv_sipush (v := 380) hx hb dX8_cracks_189 (by decide) ?_
              refine lv_iload_n hx hb dX8_cracks_192 rfl (lv_at hl 3 rfl) ?_
              refine lv_iadd hx hb dX8_cracks_193 ?_
              refine lv_iload hx hb dX8_cracks_194 (lv_at hl 6 rfl) ?_
              refine lv_iadd hx hb dX8_cracks_196 ?_
              refine lv_aload_n hx hb dX8_cracks_197 rfl (lv_at hl 0 rfl) ?_
              refine va_get (D := D) (ci := 8) (v := .ref a_t_moved) (C := RX8) (T := TX8) (N := 20) hx hb hts iw8 hown hK hP 0 rfl rfl 16 (by decide) hf29 (fun _ h9 => h9) rfl dX8_cracks_198 ?_
              refine lv_iload hx hb dX8_cracks_201 (lv_at hl 6 rfl) ?_
              obtain ⟨g203_44, hF⟩ := gd hF
              refine my_iald (v := t_moved_175_11 x8_178_43.toNatClampNeg) hx hb hK hP 2 0 rfl rfl g203_44 rfl dX8_cracks_203 ?_
              obtain ⟨g204_46, hF⟩ := gd hF
              obtain ⟨t_a_204_47, et_a_204_47⟩ : ∃ y : Nat → Int32, y = upd t_a_178_44 ((380 + r20_5) + x8_178_43).toNatClampNeg (t_moved_175_11 x8_178_43.toNatClampNeg) := ⟨_, rfl⟩
              have hF := ltE et_a_204_47 hF
              refine my_iast (g := t_a_204_47) (wn := [(a_t, .inr (8, [.ref a_t_a, v_t_fresh, v_t_aside, v_t_kept, .int t_keptMany, .int t_thrown, v_t_buffer, .int t_buffered, .int t_size, .int t_at, .int t_behind, .int t_kind, .int t_number, .int t_wrong, .int t_wrongAt, .int t_errorAt, .ref a_t_moved, .int t_unused, v_t_written, .int t_writtenMany])), (a_t_a, .inl (t 0, 876, .inl t_a_204_47)), (a_t_moved, .inl (t 0, 120, .inl t_moved_175_11))]) hx hb hK hP hD hS 1 0 rfl rfl g204_46 et_a_204_47 rfl dX8_cracks_204 (fun H locs hP hD hS => ?_)
              obtain ⟨y205_48, ey205_48⟩ : ∃ y : Int32, y = x8_178_43 + 1 := ⟨_, rfl⟩
              have hF := ltE ey205_48 hF
              refine lv_iinc (v := y205_48) (lv' := [(8, .int y205_48), (0, .ref a_t), (1, .int p1), (2, .int r2_1), (3, .int r20_5), (4, .int r27_7), (5, .int x5_73_9)]) hx hb dX8_cracks_205 hl (k := 6) rfl (by rw [ey205_48]; rfl) (by decide) rfl (fun ls hl => ?_)
              refine lv_goto (tgt := 178) hx hb dX8_cracks_208 (by decide) ?_
              exact ih178 y205_48 t_a_204_47 H locs ls hP hD hS (lv_sub hl [1, 2, 3, 4, 5, 6, 0] rfl) hF
        exact hlp178 N 0 t_a_ H locs ls hP hD hS (lv_sub hl [1, 2, 3, 4, 5, 6, 0] rfl) hF
      have hlp83 : ∀ n83 : Nat, ∀ (x6_83_49 : Int32) (x7_83_50 : Int32) (x8_83_51 : Int32) (t_moved_83_52 : (Nat → Int32)) (H : Heap) (locs : List Loc) (ls : Array Slot), va_P D vwCl [(a_t, .inr (8, [.ref a_t_a, v_t_fresh, v_t_aside, v_t_kept, .int t_keptMany, .int t_thrown, v_t_buffer, .int t_buffered, .int t_size, .int t_at, .int t_behind, .int t_kind, .int t_number, .int t_wrong, .int t_wrongAt, .int t_errorAt, .ref a_t_moved, .int t_unused, v_t_written, .int t_writtenMany])), (a_t_a, .inl (t 0, 876, .inl t_a_)), (a_t_moved, .inl (t 0, 120, .inl t_moved_83_52))] H → va_D A [(a_t, .inr (8, [.ref a_t_a, v_t_fresh, v_t_aside, v_t_kept, .int t_keptMany, .int t_thrown, v_t_buffer, .int t_buffered, .int t_size, .int t_at, .int t_behind, .int t_kind, .int t_number, .int t_wrong, .int t_wrongAt, .int t_errorAt, .ref a_t_moved, .int t_unused, v_t_written, .int t_writtenMany])), (a_t_a, .inl (t 0, 876, .inl t_a_)), (a_t_moved, .inl (t 0, 120, .inl t_moved_83_52))] → va_S A s.heap H locs → lv_has ls 10 [(0, .ref a_t), (1, .int p1), (2, .int r2_1), (3, .int r20_5), (4, .int r27_7), (5, .int x5_73_9), (6, .int x6_83_49), (7, .int x7_83_50), (8, .int x8_83_51)] → f_X8_cracks_83 t_a_ p1 r20_5 r27_7 k175_12 n83 x6_83_49 x7_83_50 x8_83_51 t_moved_83_52 = some (r, t_a_', t_moved_') → W p l e rm_X8_cracks s m args below meth c H locs 0 0 Q (F0 m 83 ls []) := by
        intro n83
        induction n83 with
        | zero =>
          intro x6_83_49 x7_83_50 x8_83_51 t_moved_83_52 H locs ls hP hD hS hl hF
          cases (show none = some (r, t_a_', t_moved_') from hF)
        | succ n83 ih83 =>
          intro x6_83_49 x7_83_50 x8_83_51 t_moved_83_52 H locs ls hP hD hS hl hF
          rw [f_X8_cracks_83] at hF
          refine lv_iload hx hb dX8_cracks_83 (lv_at hl 8 rfl) ?_
          refine lv_iload hx hb dX8_cracks_85 (lv_at hl 4 rfl) ?_
          refine lv_icmp_ge (tgt := 175) hx hb dX8_cracks_87 (by decide) (fun c87 => ?_) (fun c87 => ?_)
          · have hF := brT c87 hF
            exact hk175_12 t_moved_83_52 H locs ls hP hD hS (lv_sub hl [0, 1, 2, 3, 4, 5] rfl) hF
          · have hF := brF c87 hF
            refine lv_aload_n hx hb dX8_cracks_90 rfl (lv_at hl 0 rfl) ?_
            refine lv_iload_n hx hb dX8_cracks_91 rfl (lv_at hl 3 rfl) ?_
            refine lv_iload hx hb dX8_cracks_92 (lv_at hl 8 rfl) ?_
            refine lv_iadd hx hb dX8_cracks_94 ?_
            obtain ⟨r95_53, h95_53, hF⟩ := bndE hF
            refine rdV (As := [.int (r20_5 + x8_83_51)]) (rest := []) (C := RX8) ⟨hx, hb, hml, hown, hts⟩ (c_X8_keyAt l D t z x a_t a_t_a v_t_fresh v_t_aside v_t_kept v_t_buffer (.ref a_t_moved) v_t_written t_keptMany t_thrown t_buffered t_size t_at t_behind t_kind t_number t_wrong t_wrongAt t_errorAt t_unused t_writtenMany t_a_ (r20_5 + x8_83_51) H r95_53 h95_53) (cwV 1 hts gX8_cracks_X8_keyAt rfl rfl rfl hd_X8_keyAt ⟨Nat.le_of_ble_eq_true rfl, Nat.le_of_ble_eq_true rfl⟩) (hC.at hz hS) (selP (m9 := [true, true, false]) rfl rfl hP) 0 rfl (show vwCl[8]? = some (RX8, TX8, 20) from rfl) rfl rfl hl.1 rfl (Nat.le_of_ble_eq_true rfl) dX8_cracks_95 ⟨Nat.zero_le _, Nat.zero_le _⟩ rfl ?_
            refine lv_iload_n hx hb dX8_cracks_98 rfl (lv_at hl 1 rfl) ?_
            obtain ⟨k107_56, ek107_56, hF⟩ := jnE hF
            have hk107_56 : ∀ (s0_107_55 : Int32) (H : Heap) (locs : List Loc) (ls : Array Slot), va_P D vwCl [(a_t, .inr (8, [.ref a_t_a, v_t_fresh, v_t_aside, v_t_kept, .int t_keptMany, .int t_thrown, v_t_buffer, .int t_buffered, .int t_size, .int t_at, .int t_behind, .int t_kind, .int t_number, .int t_wrong, .int t_wrongAt, .int t_errorAt, .ref a_t_moved, .int t_unused, v_t_written, .int t_writtenMany])), (a_t_a, .inl (t 0, 876, .inl t_a_)), (a_t_moved, .inl (t 0, 120, .inl t_moved_83_52))] H → va_D A [(a_t, .inr (8, [.ref a_t_a, v_t_fresh, v_t_aside, v_t_kept, .int t_keptMany, .int t_thrown, v_t_buffer, .int t_buffered, .int t_size, .int t_at, .int t_behind, .int t_kind, .int t_number, .int t_wrong, .int t_wrongAt, .int t_errorAt, .ref a_t_moved, .int t_unused, v_t_written, .int t_writtenMany])), (a_t_a, .inl (t 0, 876, .inl t_a_)), (a_t_moved, .inl (t 0, 120, .inl t_moved_83_52))] → va_S A s.heap H locs → lv_has ls 10 [(0, .ref a_t), (1, .int p1), (2, .int r2_1), (3, .int r20_5), (4, .int r27_7), (5, .int x5_73_9), (6, .int x6_83_49), (7, .int x7_83_50), (8, .int x8_83_51)] → k107_56 s0_107_55 = some (r, t_a_', t_moved_') → W p l e rm_X8_cracks s m args below meth c H locs 0 0 Q (F0 m 107 ls [.int s0_107_55]) := by
              subst ek107_56
              intro s0_107_55 H locs ls hP hD hS hl hF
              refine lv_istore (lv' := [(9, .int s0_107_55), (0, .ref a_t), (1, .int p1), (2, .int r2_1), (3, .int r20_5), (4, .int r27_7), (5, .int x5_73_9), (6, .int x6_83_49), (7, .int x7_83_50), (8, .int x8_83_51)]) hx hb dX8_cracks_107 hl (by decide) rfl (fun ls hl => ?_)
              refine lv_aload_n hx hb dX8_cracks_109 rfl (lv_at hl 1 rfl) ?_
              refine va_get (D := D) (ci := 8) (v := .ref a_t_moved) (C := RX8) (T := TX8) (N := 20) hx hb hts iw8 hown hK hP 0 rfl rfl 16 (by decide) hf29 (fun _ h9 => h9) rfl dX8_cracks_110 ?_
              refine lv_iload hx hb dX8_cracks_113 (lv_at hl 0 rfl) ?_
              obtain ⟨k125_58, ek125_58, hF⟩ := jnE hF
              have hk125_58 : ∀ (s0_125_57 : Int32) (H : Heap) (locs : List Loc) (ls : Array Slot), va_P D vwCl [(a_t, .inr (8, [.ref a_t_a, v_t_fresh, v_t_aside, v_t_kept, .int t_keptMany, .int t_thrown, v_t_buffer, .int t_buffered, .int t_size, .int t_at, .int t_behind, .int t_kind, .int t_number, .int t_wrong, .int t_wrongAt, .int t_errorAt, .ref a_t_moved, .int t_unused, v_t_written, .int t_writtenMany])), (a_t_a, .inl (t 0, 876, .inl t_a_)), (a_t_moved, .inl (t 0, 120, .inl t_moved_83_52))] H → va_D A [(a_t, .inr (8, [.ref a_t_a, v_t_fresh, v_t_aside, v_t_kept, .int t_keptMany, .int t_thrown, v_t_buffer, .int t_buffered, .int t_size, .int t_at, .int t_behind, .int t_kind, .int t_number, .int t_wrong, .int t_wrongAt, .int t_errorAt, .ref a_t_moved, .int t_unused, v_t_written, .int t_writtenMany])), (a_t_a, .inl (t 0, 876, .inl t_a_)), (a_t_moved, .inl (t 0, 120, .inl t_moved_83_52))] → va_S A s.heap H locs → lv_has ls 10 [(0, .ref a_t), (1, .int p1), (2, .int r2_1), (3, .int r20_5), (4, .int r27_7), (5, .int x5_73_9), (6, .int x6_83_49), (7, .int x7_83_50), (8, .int x8_83_51), (9, .int s0_107_55)] → k125_58 s0_125_57 = some (r, t_a_', t_moved_') → W p l e rm_X8_cracks s m args below meth c H locs 0 0 Q (F0 m 125 ls [.int s0_125_57, .ref a_t_moved]) := by
                subst ek125_58
                intro s0_125_57 H locs ls hP hD hS hl hF
                refine lv_aload_n hx hb dX8_cracks_125 rfl (lv_at hl 0 rfl) ?_
                refine va_get (D := D) (ci := 8) (v := .ref a_t_a) (C := RX8) (T := TX8) (N := 20) hx hb hts iw8 hown hK hP 0 rfl rfl 0 (by decide) hf7 (fun _ h9 => h9) rfl dX8_cracks_126 ?_
                refine lv_sipush (v := 380) hx hb dX8_cracks_129 (by decide) ?_
                refine lv_iload_n hx hb dX8_cracks_132 rfl (lv_at hl 3 rfl) ?_
                refine lv_iadd hx hb dX8_cracks_133 ?_
                refine lv_iload hx hb dX8_cracks_134 (lv_at hl 8 rfl) ?_
                refine lv_iadd hx hb dX8_cracks_136 ?_
                obtain ⟨g137_58, hF⟩ := gd hF
                refine my_iald (v := t_a_ ((380 + r20_5) + x8_83_51).toNatClampNeg) hx hb hK hP 1 0 rfl rfl g137_58 rfl dX8_cracks_137 ?_
                obtain ⟨g138_60, hF⟩ := gd hF
                obtain ⟨t_moved_138_61, et_moved_138_61⟩ : ∃ y : Nat → Int32, y = upd t_moved_83_52 s0_125_57.toNatClampNeg (t_a_ ((380 + r20_5) + x8_83_51).toNatClampNeg) := ⟨_, rfl⟩
                have hF := ltE et_moved_138_61 hF
                refine my_iast (g := t_moved_138_61) (wn := [(a_t, .inr (8, [.ref a_t_a, v_t_fresh, v_t_aside, v_t_kept, .int t_keptMany, .int t_thrown, v_t_buffer, .int t_buffered, .int t_size, .int t_at, .int t_behind, .int t_kind, .int t_number, .int t_wrong, .int t_wrongAt, .int t_errorAt, .ref a_t_moved, .int t_unused, v_t_written, .int t_writtenMany])), (a_t_a, .inl (t 0, 876, .inl t_a_)), (a_t_moved, .inl (t 0, 120, .inl t_moved_138_61))]) hx hb hK hP hD hS 2 0 rfl rfl g138_60 et_moved_138_61 rfl dX8_cracks_138 (fun H locs hP hD hS => ?_)
                refine lv_iload hx hb dX8_cracks_139 (lv_at hl 6 rfl) ?_
                refine lv_iload hx hb dX8_cracks_141 (lv_at hl 9 rfl) ?_
                obtain ⟨k151_63, ek151_63, hF⟩ := jnE hF
                have hk151_63 : ∀ (s0_151_62 : Int32) (H : Heap) (locs : List Loc) (ls : Array Slot), va_P D vwCl [(a_t, .inr (8, [.ref a_t_a, v_t_fresh, v_t_aside, v_t_kept, .int t_keptMany, .int t_thrown, v_t_buffer, .int t_buffered, .int t_size, .int t_at, .int t_behind, .int t_kind, .int t_number, .int t_wrong, .int t_wrongAt, .int t_errorAt, .ref a_t_moved, .int t_unused, v_t_written, .int t_writtenMany])), (a_t_a, .inl (t 0, 876, .inl t_a_)), (a_t_moved, .inl (t 0, 120, .inl t_moved_138_61))] H → va_D A [(a_t, .inr (8, [.ref a_t_a, v_t_fresh, v_t_aside, v_t_kept, .int t_keptMany, .int t_thrown, v_t_buffer, .int t_buffered, .int t_size, .int t_at, .int t_behind, .int t_kind, .int t_number, .int t_wrong, .int t_wrongAt, .int t_errorAt, .ref a_t_moved, .int t_unused, v_t_written, .int t_writtenMany])), (a_t_a, .inl (t 0, 876, .inl t_a_)), (a_t_moved, .inl (t 0, 120, .inl t_moved_138_61))] → va_S A s.heap H locs → lv_has ls 10 [(0, .ref a_t), (1, .int p1), (2, .int r2_1), (3, .int r20_5), (4, .int r27_7), (5, .int x5_73_9), (7, .int x7_83_50), (8, .int x8_83_51), (9, .int s0_107_55)] → k151_63 s0_151_62 = some (r, t_a_', t_moved_') → W p l e rm_X8_cracks s m args below meth c H locs 0 0 Q (F0 m 151 ls [.int s0_151_62, .int x6_83_49]) := by
                  subst ek151_63
                  intro s0_151_62 H locs ls hP hD hS hl hF
                  refine lv_iadd hx hb dX8_cracks_151 ?_
                  refine lv_topi (fun y152_64 ey152_64 => ?_)
                  have hF := ltE ey152_64 hF
                  refine lv_istore (lv' := [(6, .int y152_64), (0, .ref a_t), (1, .int p1), (2, .int r2_1), (3, .int r20_5), (4, .int r27_7), (5, .int x5_73_9), (7, .int x7_83_50), (8, .int x8_83_51), (9, .int s0_107_55)]) hx hb dX8_cracks_152 hl (by decide) rfl (fun ls hl => ?_)
                  refine lv_iload hx hb dX8_cracks_154 (lv_at hl 7 rfl) ?_
                  refine lv_iload hx hb dX8_cracks_156 (lv_at hl 9 rfl) ?_
                  refine lv_if_eq (tgt := 165) hx hb dX8_cracks_158 (by decide) (fun c158 => ?_) (fun c158 => ?_)
                  · have hF := brT c158 hF
                    refine lv_iconst (v := 1) hx hb dX8_cracks_165 (by decide) ?_
                    refine lv_iadd hx hb dX8_cracks_166 ?_
                    refine lv_topi (fun y167_65 ey167_65 => ?_)
                    have hF := ltE ey167_65 hF
                    refine lv_istore (lv' := [(7, .int y167_65), (6, .int y152_64), (0, .ref a_t), (1, .int p1), (2, .int r2_1), (3, .int r20_5), (4, .int r27_7), (5, .int x5_73_9), (8, .int x8_83_51), (9, .int s0_107_55)]) hx hb dX8_cracks_167 hl (by decide) rfl (fun ls hl => ?_)
                    obtain ⟨y169_66, ey169_66⟩ : ∃ y : Int32, y = x8_83_51 + 1 := ⟨_, rfl⟩
                    have hF := ltE ey169_66 hF
                    refine lv_iinc (v := y169_66) (lv' := [(8, .int y169_66), (7, .int y167_65), (6, .int y152_64), (0, .ref a_t), (1, .int p1), (2, .int r2_1), (3, .int r20_5), (4, .int r27_7), (5, .int x5_73_9), (9, .int s0_107_55)]) hx hb dX8_cracks_169 hl (k := 8) rfl (by rw [ey169_66]; rfl) (by decide) rfl (fun ls hl => ?_)
                    refine lv_goto (tgt := 83) hx hb dX8_cracks_172 (by decide) ?_
                    exact ih83 y152_64 y167_65 y169_66 t_moved_138_61 H locs ls hP hD hS (lv_sub hl [3, 4, 5, 6, 7, 8, 2, 1, 0] rfl) hF
                  · have hF := brF c158 hF
                    refine lv_iconst (v := 0) hx hb dX8_cracks_161 (by decide) ?_
                    refine lv_goto (tgt := 166) hx hb dX8_cracks_162 (by decide) ?_
                    refine lv_iadd hx hb dX8_cracks_166 ?_
                    refine lv_topi (fun y167_67 ey167_67 => ?_)
                    have hF := ltE ey167_67 hF
                    refine lv_istore (lv' := [(7, .int y167_67), (6, .int y152_64), (0, .ref a_t), (1, .int p1), (2, .int r2_1), (3, .int r20_5), (4, .int r27_7), (5, .int x5_73_9), (8, .int x8_83_51), (9, .int s0_107_55)]) hx hb dX8_cracks_167 hl (by decide) rfl (fun ls hl => ?_)
                    obtain ⟨y169_68, ey169_68⟩ : ∃ y : Int32, y = x8_83_51 + 1 := ⟨_, rfl⟩
                    have hF := ltE ey169_68 hF
                    refine lv_iinc (v := y169_68) (lv' := [(8, .int y169_68), (7, .int y167_67), (6, .int y152_64), (0, .ref a_t), (1, .int p1), (2, .int r2_1), (3, .int r20_5), (4, .int r27_7), (5, .int x5_73_9), (9, .int s0_107_55)]) hx hb dX8_cracks_169 hl (k := 8) rfl (by rw [ey169_68]; rfl) (by decide) rfl (fun ls hl => ?_)
                    refine lv_goto (tgt := 83) hx hb dX8_cracks_172 (by decide) ?_
                    exact ih83 y152_64 y167_67 y169_68 t_moved_138_61 H locs ls hP hD hS (lv_sub hl [3, 4, 5, 6, 7, 8, 2, 1, 0] rfl) hF
                refine lv_if_eq (tgt := 150) hx hb dX8_cracks_143 (by decide) (fun c143 => ?_) (fun c143 => ?_)
                · have hF := brT c143 hF
                  refine lv_iconst (v := 0) hx hb dX8_cracks_150 (by decide) ?_
                  exact hk151_63 0 H locs ls hP hD hS (lv_sub hl [0, 1, 2, 3, 4, 5, 7, 8, 9] rfl) hF
                · have hF := brF c143 hF
                  refine lv_iconst (v := 1) hx hb dX8_cracks_146 (by decide) ?_
                  refine lv_goto (tgt := 151) hx hb dX8_cracks_147 (by decide) ?_
                  exact hk151_63 1 H locs ls hP hD hS (lv_sub hl [0, 1, 2, 3, 4, 5, 7, 8, 9] rfl) hF
              refine lv_if_eq (tgt := 123) hx hb dX8_cracks_115 (by decide) (fun c115 => ?_) (fun c115 => ?_)
              · have hF := brT c115 hF
                refine lv_iload hx hb dX8_cracks_123 (lv_at hl 8 rfl) ?_
                exact hk125_58 x7_83_50 H locs ls hP hD hS (lv_sub hl [1, 2, 3, 4, 5, 6, 7, 8, 9, 0] rfl) hF
              · have hF := brF c115 hF
                refine lv_iload hx hb dX8_cracks_118 (lv_at hl 7 rfl) ?_
                refine lv_goto (tgt := 125) hx hb dX8_cracks_120 (by decide) ?_
                exact hk125_58 x6_83_49 H locs ls hP hD hS (lv_sub hl [1, 2, 3, 4, 5, 6, 7, 8, 9, 0] rfl) hF
            refine lv_icmp_ge (tgt := 106) hx hb dX8_cracks_99 (by decide) (fun c99 => ?_) (fun c99 => ?_)
            · have hF := brT c99 hF
              refine lv_iconst (v := 0) hx hb dX8_cracks_106 (by decide) ?_
              exact hk107_56 0 H locs ls hP hD hS hl hF
            · have hF := brF c99 hF
              refine lv_iconst (v := 1) hx hb dX8_cracks_102 (by decide) ?_
              refine lv_goto (tgt := 107) hx hb dX8_cracks_103 (by decide) ?_
              exact hk107_56 1 H locs ls hP hD hS hl hF
      exact hlp83 N 0 x5_73_9 0 t_moved_ H locs ls hP hD hS (lv_sub hl [3, 4, 5, 6, 7, 8, 2, 1, 0] rfl) hF
    have hlp38 : ∀ n38 : Nat, ∀ (x5_38_69 : Int32) (x6_38_70 : Int32) (H : Heap) (locs : List Loc) (ls : Array Slot), va_P D vwCl [(a_t, .inr (8, [.ref a_t_a, v_t_fresh, v_t_aside, v_t_kept, .int t_keptMany, .int t_thrown, v_t_buffer, .int t_buffered, .int t_size, .int t_at, .int t_behind, .int t_kind, .int t_number, .int t_wrong, .int t_wrongAt, .int t_errorAt, .ref a_t_moved, .int t_unused, v_t_written, .int t_writtenMany])), (a_t_a, .inl (t 0, 876, .inl t_a_)), (a_t_moved, .inl (t 0, 120, .inl t_moved_))] H → va_D A [(a_t, .inr (8, [.ref a_t_a, v_t_fresh, v_t_aside, v_t_kept, .int t_keptMany, .int t_thrown, v_t_buffer, .int t_buffered, .int t_size, .int t_at, .int t_behind, .int t_kind, .int t_number, .int t_wrong, .int t_wrongAt, .int t_errorAt, .ref a_t_moved, .int t_unused, v_t_written, .int t_writtenMany])), (a_t_a, .inl (t 0, 876, .inl t_a_)), (a_t_moved, .inl (t 0, 120, .inl t_moved_))] → va_S A s.heap H locs → lv_has ls 10 [(0, .ref a_t), (1, .int p1), (2, .int r2_1), (3, .int r20_5), (4, .int r27_7), (5, .int x5_38_69), (6, .int x6_38_70)] → f_X8_cracks_38 t_a_ p1 r20_5 r27_7 k73_10 n38 x5_38_69 x6_38_70 = some (r, t_a_', t_moved_') → W p l e rm_X8_cracks s m args below meth c H locs 0 0 Q (F0 m 38 ls []) := by
      intro n38
      induction n38 with
      | zero =>
        intro x5_38_69 x6_38_70 H locs ls hP hD hS hl hF
        cases (show none = some (r, t_a_', t_moved_') from hF)
      | succ n38 ih38 =>
        intro x5_38_69 x6_38_70 H locs ls hP hD hS hl hF
        rw [f_X8_cracks_38] at hF
        refine lv_iload hx hb dX8_cracks_38 (lv_at hl 6 rfl) ?_
        refine lv_iload hx hb dX8_cracks_40 (lv_at hl 4 rfl) ?_
        refine lv_icmp_ge (tgt := 73) hx hb dX8_cracks_42 (by decide) (fun c42 => ?_) (fun c42 => ?_)
        · have hF := brT c42 hF
          exact hk73_10 x5_38_69 H locs ls hP hD hS (lv_sub hl [0, 1, 2, 3, 4, 5] rfl) hF
        · have hF := brF c42 hF
          refine lv_iload hx hb dX8_cracks_45 (lv_at hl 5 rfl) ?_
          refine lv_aload_n hx hb dX8_cracks_47 rfl (lv_at hl 0 rfl) ?_
          refine lv_iload_n hx hb dX8_cracks_48 rfl (lv_at hl 3 rfl) ?_
          refine lv_iload hx hb dX8_cracks_49 (lv_at hl 6 rfl) ?_
          refine lv_iadd hx hb dX8_cracks_51 ?_
          obtain ⟨r52_71, h52_71, hF⟩ := bndE hF
          refine rdV (As := [.int (r20_5 + x6_38_70)]) (rest := [.int x5_38_69]) (C := RX8) ⟨hx, hb, hml, hown, hts⟩ (c_X8_keyAt l D t z x a_t a_t_a v_t_fresh v_t_aside v_t_kept v_t_buffer (.ref a_t_moved) v_t_written t_keptMany t_thrown t_buffered t_size t_at t_behind t_kind t_number t_wrong t_wrongAt t_errorAt t_unused t_writtenMany t_a_ (r20_5 + x6_38_70) H r52_71 h52_71) (cwV 1 hts gX8_cracks_X8_keyAt rfl rfl rfl hd_X8_keyAt ⟨Nat.le_of_ble_eq_true rfl, Nat.le_of_ble_eq_true rfl⟩) (hC.at hz hS) (selP (m9 := [true, true, false]) rfl rfl hP) 0 rfl (show vwCl[8]? = some (RX8, TX8, 20) from rfl) rfl rfl hl.1 rfl (Nat.le_of_ble_eq_true rfl) dX8_cracks_52 ⟨Nat.zero_le _, Nat.zero_le _⟩ rfl ?_
          refine lv_iload_n hx hb dX8_cracks_55 rfl (lv_at hl 1 rfl) ?_
          refine lv_icmp_ge (tgt := 63) hx hb dX8_cracks_56 (by decide) (fun c56 => ?_) (fun c56 => ?_)
          · have hF := brT c56 hF
            refine lv_iconst (v := 0) hx hb dX8_cracks_63 (by decide) ?_
            refine lv_iadd hx hb dX8_cracks_64 ?_
            refine lv_topi (fun y65_73 ey65_73 => ?_)
            have hF := ltE ey65_73 hF
            refine lv_istore (lv' := [(5, .int y65_73), (0, .ref a_t), (1, .int p1), (2, .int r2_1), (3, .int r20_5), (4, .int r27_7), (6, .int x6_38_70)]) hx hb dX8_cracks_65 hl (by decide) rfl (fun ls hl => ?_)
            obtain ⟨y67_74, ey67_74⟩ : ∃ y : Int32, y = x6_38_70 + 1 := ⟨_, rfl⟩
            have hF := ltE ey67_74 hF
            refine lv_iinc (v := y67_74) (lv' := [(6, .int y67_74), (5, .int y65_73), (0, .ref a_t), (1, .int p1), (2, .int r2_1), (3, .int r20_5), (4, .int r27_7)]) hx hb dX8_cracks_67 hl (k := 6) rfl (by rw [ey67_74]; rfl) (by decide) rfl (fun ls hl => ?_)
            refine lv_goto (tgt := 38) hx hb dX8_cracks_70 (by decide) ?_
            exact ih38 y65_73 y67_74 H locs ls hP hD hS (lv_sub hl [2, 3, 4, 5, 6, 1, 0] rfl) hF
          · have hF := brF c56 hF
            refine lv_iconst (v := 1) hx hb dX8_cracks_59 (by decide) ?_
            refine lv_goto (tgt := 64) hx hb dX8_cracks_60 (by decide) ?_
            refine lv_iadd hx hb dX8_cracks_64 ?_
            refine lv_topi (fun y65_75 ey65_75 => ?_)
            have hF := ltE ey65_75 hF
            refine lv_istore (lv' := [(5, .int y65_75), (0, .ref a_t), (1, .int p1), (2, .int r2_1), (3, .int r20_5), (4, .int r27_7), (6, .int x6_38_70)]) hx hb dX8_cracks_65 hl (by decide) rfl (fun ls hl => ?_)
            obtain ⟨y67_76, ey67_76⟩ : ∃ y : Int32, y = x6_38_70 + 1 := ⟨_, rfl⟩
            have hF := ltE ey67_76 hF
            refine lv_iinc (v := y67_76) (lv' := [(6, .int y67_76), (5, .int y65_75), (0, .ref a_t), (1, .int p1), (2, .int r2_1), (3, .int r20_5), (4, .int r27_7)]) hx hb dX8_cracks_67 hl (k := 6) rfl (by rw [ey67_76]; rfl) (by decide) rfl (fun ls hl => ?_)
            refine lv_goto (tgt := 38) hx hb dX8_cracks_70 (by decide) ?_
            exact ih38 y65_75 y67_76 H locs ls hP hD hS (lv_sub hl [2, 3, 4, 5, 6, 1, 0] rfl) hF
    exact hlp38 N 0 0 H locs ls hP hD hS (lv_sub hl [5, 6, 4, 3, 2, 1, 0] rfl) hF
  · have hF := brT c13 hF
    refine lv_iconst (v := 0) hx hb dX8_cracks_16 (by decide) ?_
    cases hF
    exact we_iret hx hb hr hlocks dX8_cracks_17 rfl hQ hP hD hS
abbrev rm_X8_isAhead : Room := { frames := 0, cells := 0, slots := 0, locals := 0 }
theorem hd_X8_isAhead : yX8_isAhead.cls = RX8 ∧ yX8_isAhead.cls ≠ "java/lang/invoke/MethodHandle" ∧ yX8_isAhead.cls ≠ "java/lang/invoke/VarHandle" ∧ (parseMethodDescriptor yX8_isAhead.desc).map (fun d => d.parameters.length) = some 2 := by decide +kernel
set_option maxRecDepth 100000 in
set_option maxHeartbeats 4000000 in
theorem c_X8_isAhead (l : Launch) (D : va_G) (t : Nat → ClassId) (z : Nat) (x : Nat → Nat) (a_t : Nat) (a_t_a : Nat) (v_t_fresh : Value) (v_t_aside : Value) (v_t_kept : Value) (v_t_buffer : Value) (v_t_moved : Value) (v_t_written : Value) (t_keptMany : Int32) (t_thrown : Int32) (t_buffered : Int32) (t_size : Int32) (t_at : Int32) (t_behind : Int32) (t_kind : Int32) (t_number : Int32) (t_wrong : Int32) (t_wrongAt : Int32) (t_errorAt : Int32) (t_unused : Int32) (t_writtenMany : Int32) (t_a_ : (Nat → Int32)) (p1 : Int32) (p2 : Int32) (H : Heap) (r : Int32) (hF : f_X8_isAhead t_a_ p1 p2 = some (r)) : RdM l D (TY t) z x yX8_isAhead wsX8_isAhead rm_X8_isAhead [.ref a_t, .int p1, .int p2] [(a_t, .inr (8, [.ref a_t_a, v_t_fresh, v_t_aside, v_t_kept, .int t_keptMany, .int t_thrown, v_t_buffer, .int t_buffered, .int t_size, .int t_at, .int t_behind, .int t_kind, .int t_number, .int t_wrong, .int t_wrongAt, .int t_errorAt, v_t_moved, .int t_unused, v_t_written, .int t_writtenMany])), (a_t_a, .inl (t 0, 876, .inl t_a_))] H (some (.int r)) := by
  refine rd_of (cc := cX8_isAhead) (maxL := 3) (ret := (some .boolean)) (by decide) rfl (Nat.le_of_ble_eq_true rfl) ?_
  intro p e s m args below meth c Q hQ hx hb hr hml hts hown hlocks hH hP hC ls hl
  have hown : s.vm.findClass RX8 = some m.cls := hown
  have hl : lv_has ls 3 [(0, .ref a_t), (1, .int p1), (2, .int p2)] := hl
  have hK := hC.1
  have iw8 : ∀ w ∈ wsX80, w ∈ wsX8_isAhead := fun _ h => List.mem_cons_of_mem _ (List.mem_append_right _ h)
  have hf7 := hts (.fieldLink RX8 7 "CrackedColumnModel" "a" "[I") (by decide +kernel)
  unfold f_X8_isAhead at hF
  refine lv_aload_n hx hb dX8_isAhead_0 rfl (lv_at hl 0 rfl) ?_
  refine va_get (D := D) (ci := 8) (v := .ref a_t_a) (C := RX8) (T := TX8) (N := 20) hx hb hts iw8 hown hK hP 0 rfl rfl 0 (by decide) hf7 (fun _ h9 => h9) rfl dX8_isAhead_1 ?_
  refine lv_bipush (v := 20) hx hb dX8_isAhead_4 (by decide) ?_
  refine lv_iload_n hx hb dX8_isAhead_6 rfl (lv_at hl 1 rfl) ?_
  refine lv_iadd hx hb dX8_isAhead_7 ?_
  obtain ⟨g8_0, hF⟩ := gd hF
  refine my_iald (v := t_a_ (20 + p1).toNatClampNeg) hx hb hK hP 1 0 rfl rfl g8_0 rfl dX8_isAhead_8 ?_
  refine lv_aload_n hx hb dX8_isAhead_9 rfl (lv_at hl 0 rfl) ?_
  refine va_get (D := D) (ci := 8) (v := .ref a_t_a) (C := RX8) (T := TX8) (N := 20) hx hb hts iw8 hown hK hP 0 rfl rfl 0 (by decide) hf7 (fun _ h9 => h9) rfl dX8_isAhead_10 ?_
  refine lv_bipush (v := 20) hx hb dX8_isAhead_13 (by decide) ?_
  refine lv_iload_n hx hb dX8_isAhead_15 rfl (lv_at hl 2 rfl) ?_
  refine lv_iadd hx hb dX8_isAhead_16 ?_
  obtain ⟨g17_2, hF⟩ := gd hF
  refine my_iald (v := t_a_ (20 + p2).toNatClampNeg) hx hb hK hP 1 0 rfl rfl g17_2 rfl dX8_isAhead_17 ?_
  refine lv_icmp_ne (tgt := 34) hx hb dX8_isAhead_18 (by decide) (fun c18 => ?_) (fun c18 => ?_)
  · have hF := brF c18 hF
    refine lv_aload_n hx hb dX8_isAhead_34 rfl (lv_at hl 0 rfl) ?_
    refine va_get (D := D) (ci := 8) (v := .ref a_t_a) (C := RX8) (T := TX8) (N := 20) hx hb hts iw8 hown hK hP 0 rfl rfl 0 (by decide) hf7 (fun _ h9 => h9) rfl dX8_isAhead_35 ?_
    refine lv_bipush (v := 20) hx hb dX8_isAhead_38 (by decide) ?_
    refine lv_iload_n hx hb dX8_isAhead_40 rfl (lv_at hl 1 rfl) ?_
    refine lv_iadd hx hb dX8_isAhead_41 ?_
    refine my_iald (v := t_a_ (20 + p1).toNatClampNeg) hx hb hK hP 1 0 rfl rfl g8_0 rfl dX8_isAhead_42 ?_
    refine lv_aload_n hx hb dX8_isAhead_43 rfl (lv_at hl 0 rfl) ?_
    refine va_get (D := D) (ci := 8) (v := .ref a_t_a) (C := RX8) (T := TX8) (N := 20) hx hb hts iw8 hown hK hP 0 rfl rfl 0 (by decide) hf7 (fun _ h9 => h9) rfl dX8_isAhead_44 ?_
    refine lv_bipush (v := 20) hx hb dX8_isAhead_47 (by decide) ?_
    refine lv_iload_n hx hb dX8_isAhead_49 rfl (lv_at hl 2 rfl) ?_
    refine lv_iadd hx hb dX8_isAhead_50 ?_
    refine my_iald (v := t_a_ (20 + p2).toNatClampNeg) hx hb hK hP 1 0 rfl rfl g17_2 rfl dX8_isAhead_51 ?_
    refine lv_icmp_ge (tgt := 59) hx hb dX8_isAhead_52 (by decide) (fun c52 => ?_) (fun c52 => ?_)
    · have hF := brT c52 hF
      refine lv_iconst (v := 0) hx hb dX8_isAhead_59 (by decide) ?_
      cases hF
      exact rd_zret hx hb hr hlocks dX8_isAhead_60 rfl rfl hQ
    · have hF := brF c52 hF
      refine lv_iconst (v := 1) hx hb dX8_isAhead_55 (by decide) ?_
      refine lv_goto (tgt := 60) hx hb dX8_isAhead_56 (by decide) ?_
      cases hF
      exact rd_zret hx hb hr hlocks dX8_isAhead_60 rfl rfl hQ
  · have hF := brT c18 hF
    refine lv_iload_n hx hb dX8_isAhead_21 rfl (lv_at hl 1 rfl) ?_
    refine lv_iload_n hx hb dX8_isAhead_22 rfl (lv_at hl 2 rfl) ?_
    refine lv_icmp_ge (tgt := 30) hx hb dX8_isAhead_23 (by decide) (fun c23 => ?_) (fun c23 => ?_)
    · have hF := brT c23 hF
      refine lv_iconst (v := 0) hx hb dX8_isAhead_30 (by decide) ?_
      refine lv_goto (tgt := 60) hx hb dX8_isAhead_31 (by decide) ?_
      cases hF
      exact rd_zret hx hb hr hlocks dX8_isAhead_60 rfl rfl hQ
    · have hF := brF c23 hF
      refine lv_iconst (v := 1) hx hb dX8_isAhead_26 (by decide) ?_
      refine lv_goto (tgt := 60) hx hb dX8_isAhead_27 (by decide) ?_
      cases hF
      exact rd_zret hx hb hr hlocks dX8_isAhead_60 rfl rfl hQ
abbrev rm_X8_sorts : Room := { frames := 2, cells := 0, slots := 0, locals := 45 }
theorem hd_X8_sorts : yX8_sorts.cls = RX8 ∧ yX8_sorts.cls ≠ "java/lang/invoke/MethodHandle" ∧ yX8_sorts.cls ≠ "java/lang/invoke/VarHandle" ∧ (parseMethodDescriptor yX8_sorts.desc).map (fun d => d.parameters.length) = some 1 := by decide +kernel
set_option maxRecDepth 100000 in
set_option maxHeartbeats 4000000 in
theorem c_X8_sorts (l : Launch) (D : va_G) (t : Nat → ClassId) (z : Nat) (x : Nat → Nat) (N : Nat) (a_t : Nat) (a_t_a : Nat) (a_t_moved : Nat) (v_t_fresh : Value) (v_t_aside : Value) (v_t_kept : Value) (v_t_buffer : Value) (v_t_written : Value) (t_keptMany : Int32) (t_thrown : Int32) (t_buffered : Int32) (t_size : Int32) (t_at : Int32) (t_behind : Int32) (t_kind : Int32) (t_number : Int32) (t_wrong : Int32) (t_wrongAt : Int32) (t_errorAt : Int32) (t_unused : Int32) (t_writtenMany : Int32) (t_a_ : (Nat → Int32)) (t_moved_ : (Nat → Int32)) (p1 : Int32) (sz : Nat) (r : Int32) (t_a_' : (Nat → Int32)) (t_moved_' : (Nat → Int32)) (hF : f_X8_sorts N t_a_ t_moved_ p1 = some (r, t_a_', t_moved_')) : WrM l D (TY t) z x yX8_sorts wsX8_sorts rm_X8_sorts [.ref a_t, .int p1] [(a_t, .inr (8, [.ref a_t_a, v_t_fresh, v_t_aside, v_t_kept, .int t_keptMany, .int t_thrown, v_t_buffer, .int t_buffered, .int t_size, .int t_at, .int t_behind, .int t_kind, .int t_number, .int t_wrong, .int t_wrongAt, .int t_errorAt, .ref a_t_moved, .int t_unused, v_t_written, .int t_writtenMany])), (a_t_a, .inl (t 0, 876, .inl t_a_)), (a_t_moved, .inl (t 0, 120, .inl t_moved_))] [(a_t, .inr (8, [.ref a_t_a, v_t_fresh, v_t_aside, v_t_kept, .int t_keptMany, .int t_thrown, v_t_buffer, .int t_buffered, .int t_size, .int t_at, .int t_behind, .int t_kind, .int t_number, .int t_wrong, .int t_wrongAt, .int t_errorAt, .ref a_t_moved, .int t_unused, v_t_written, .int t_writtenMany])), (a_t_a, .inl (t 0, 876, .inl t_a_')), (a_t_moved, .inl (t 0, 120, .inl t_moved_'))] sz (some (.int r)) 0 0 := by
  refine wr_of (cc := cX8_sorts) (maxL := 7) (ret := (some .int)) (by decide) rfl (Nat.le_of_ble_eq_true rfl) ?_
  intro p e s m args below meth c A Q hQ hx hb hr hml hts hown hlocks hin H locs hP hD hS hA hz hC ls hl
  have hown : s.vm.findClass RX8 = some m.cls := hown
  have hl : lv_has ls 7 [(0, .ref a_t), (1, .int p1)] := hl
  have hK := hC.1
  have iw8 : ∀ w ∈ wsX80, w ∈ wsX8_sorts := fun _ h => List.mem_cons_of_mem _ (List.mem_append_right _ h)
  have hf7 := hts (.fieldLink RX8 7 "CrackedColumnModel" "a" "[I") (by decide +kernel)
  have hf29 := hts (.fieldLink RX8 29 "CrackedColumnModel" "moved" "[I") (by decide +kernel)
  unfold f_X8_sorts at hF
  refine lv_aload_n hx hb dX8_sorts_0 rfl (lv_at hl 0 rfl) ?_
  refine lv_iload_n hx hb dX8_sorts_1 rfl (lv_at hl 1 rfl) ?_
  obtain ⟨r2_1, h2_1, hF⟩ := bndE hF
  refine rdV (As := [.int p1]) (rest := []) (C := RX8) ⟨hx, hb, hml, hown, hts⟩ (c_X8_firstPlace l D t z x N a_t a_t_a v_t_fresh v_t_aside v_t_kept v_t_buffer (.ref a_t_moved) v_t_written t_keptMany t_thrown t_buffered t_size t_at t_behind t_kind t_number t_wrong t_wrongAt t_errorAt t_unused t_writtenMany t_a_ p1 H r2_1 h2_1) (cwV 1 hts gX8_sorts_X8_firstPlace rfl rfl rfl hd_X8_firstPlace ⟨Nat.le_of_ble_eq_true rfl, Nat.le_of_ble_eq_true rfl⟩) (hC.at hz hS) (selP (m9 := [true, true, false]) rfl rfl hP) 0 rfl (show vwCl[8]? = some (RX8, TX8, 20) from rfl) rfl rfl hl.1 rfl (Nat.le_of_ble_eq_true rfl) dX8_sorts_2 ⟨Nat.zero_le _, Nat.zero_le _⟩ rfl ?_
  refine lv_istore_n (lv' := [(2, .int r2_1), (0, .ref a_t), (1, .int p1)]) hx hb dX8_sorts_5 rfl hl (by decide) rfl (fun ls hl => ?_)
  refine lv_aload_n hx hb dX8_sorts_6 rfl (lv_at hl 1 rfl) ?_
  refine lv_iload_n hx hb dX8_sorts_7 rfl (lv_at hl 2 rfl) ?_
  refine lv_iconst (v := 1) hx hb dX8_sorts_8 (by decide) ?_
  obtain ⟨r9_3, h9_3, hF⟩ := bndE hF
  refine rdV (As := [.int p1, .int 1]) (rest := []) (C := RX8) ⟨hx, hb, hml, hown, hts⟩ (c_X8_of l D t z x a_t a_t_a v_t_fresh v_t_aside v_t_kept v_t_buffer (.ref a_t_moved) v_t_written t_keptMany t_thrown t_buffered t_size t_at t_behind t_kind t_number t_wrong t_wrongAt t_errorAt t_unused t_writtenMany t_a_ p1 1 H r9_3 h9_3) (cwV 2 hts gX8_sorts_X8_of rfl rfl rfl hd_X8_of ⟨Nat.le_of_ble_eq_true rfl, Nat.le_of_ble_eq_true rfl⟩) (hC.at hz hS) (selP (m9 := [true, true, false]) rfl rfl hP) 0 rfl (show vwCl[8]? = some (RX8, TX8, 20) from rfl) rfl rfl hl.1 rfl (Nat.le_of_ble_eq_true rfl) dX8_sorts_9 ⟨Nat.zero_le _, Nat.zero_le _⟩ rfl ?_
  refine lv_istore_n (lv' := [(3, .int r9_3), (2, .int r2_1), (0, .ref a_t), (1, .int p1)]) hx hb dX8_sorts_12 rfl hl (by decide) rfl (fun ls hl => ?_)
  refine lv_iconst (v := 0) hx hb dX8_sorts_13 (by decide) ?_
  refine lv_istore (lv' := [(4, .int 0), (3, .int r9_3), (2, .int r2_1), (0, .ref a_t), (1, .int p1)]) hx hb dX8_sorts_14 hl (by decide) rfl (fun ls hl => ?_)
  obtain ⟨k48_6, ek48_6, hF⟩ := jnE hF
  have hk48_6 : ∀ (t_moved_48_5 : (Nat → Int32)) (H : Heap) (locs : List Loc) (ls : Array Slot), va_P D vwCl [(a_t, .inr (8, [.ref a_t_a, v_t_fresh, v_t_aside, v_t_kept, .int t_keptMany, .int t_thrown, v_t_buffer, .int t_buffered, .int t_size, .int t_at, .int t_behind, .int t_kind, .int t_number, .int t_wrong, .int t_wrongAt, .int t_errorAt, .ref a_t_moved, .int t_unused, v_t_written, .int t_writtenMany])), (a_t_a, .inl (t 0, 876, .inl t_a_)), (a_t_moved, .inl (t 0, 120, .inl t_moved_48_5))] H → va_D A [(a_t, .inr (8, [.ref a_t_a, v_t_fresh, v_t_aside, v_t_kept, .int t_keptMany, .int t_thrown, v_t_buffer, .int t_buffered, .int t_size, .int t_at, .int t_behind, .int t_kind, .int t_number, .int t_wrong, .int t_wrongAt, .int t_errorAt, .ref a_t_moved, .int t_unused, v_t_written, .int t_writtenMany])), (a_t_a, .inl (t 0, 876, .inl t_a_)), (a_t_moved, .inl (t 0, 120, .inl t_moved_48_5))] → va_S A s.heap H locs → lv_has ls 7 [(0, .ref a_t), (1, .int p1), (2, .int r2_1), (3, .int r9_3)] → k48_6 t_moved_48_5 = some (r, t_a_', t_moved_') → W p l e rm_X8_sorts s m args below meth c H locs 0 0 Q (F0 m 48 ls []) := by
    subst ek48_6
    intro t_moved_48_5 H locs ls hP hD hS hl hF
    refine lv_iconst (v := 1) hx hb dX8_sorts_48 (by decide) ?_
    refine lv_istore (lv' := [(4, .int 1), (0, .ref a_t), (1, .int p1), (2, .int r2_1), (3, .int r9_3)]) hx hb dX8_sorts_49 hl (by decide) rfl (fun ls hl => ?_)
    obtain ⟨k155_8, ek155_8, hF⟩ := jnE hF
    have hk155_8 : ∀ (t_a_155_7 : (Nat → Int32)) (H : Heap) (locs : List Loc) (ls : Array Slot), va_P D vwCl [(a_t, .inr (8, [.ref a_t_a, v_t_fresh, v_t_aside, v_t_kept, .int t_keptMany, .int t_thrown, v_t_buffer, .int t_buffered, .int t_size, .int t_at, .int t_behind, .int t_kind, .int t_number, .int t_wrong, .int t_wrongAt, .int t_errorAt, .ref a_t_moved, .int t_unused, v_t_written, .int t_writtenMany])), (a_t_a, .inl (t 0, 876, .inl t_a_155_7)), (a_t_moved, .inl (t 0, 120, .inl t_moved_48_5))] H → va_D A [(a_t, .inr (8, [.ref a_t_a, v_t_fresh, v_t_aside, v_t_kept, .int t_keptMany, .int t_thrown, v_t_buffer, .int t_buffered, .int t_size, .int t_at, .int t_behind, .int t_kind, .int t_number, .int t_wrong, .int t_wrongAt, .int t_errorAt, .ref a_t_moved, .int t_unused, v_t_written, .int t_writtenMany])), (a_t_a, .inl (t 0, 876, .inl t_a_155_7)), (a_t_moved, .inl (t 0, 120, .inl t_moved_48_5))] → va_S A s.heap H locs → lv_has ls 7 [(0, .ref a_t), (1, .int p1), (2, .int r2_1), (3, .int r9_3)] → k155_8 t_a_155_7 = some (r, t_a_', t_moved_') → W p l e rm_X8_sorts s m args below meth c H locs 0 0 Q (F0 m 155 ls []) := by
      subst ek155_8
      intro t_a_155_7 H locs ls hP hD hS hl hF
      refine lv_aload_n hx hb dX8_sorts_155 rfl (lv_at hl 0 rfl) ?_
      refine lv_iload_n hx hb dX8_sorts_156 rfl (lv_at hl 1 rfl) ?_
      refine lv_iconst (v := 3) hx hb dX8_sorts_157 (by decide) ?_
      refine lv_iconst (v := 1) hx hb dX8_sorts_158 (by decide) ?_
      obtain ⟨t_a_159_9, h159_9, hF⟩ := bndE hF
      refine wrVM (As := [.int p1, .int 3, .int 1]) (rest := []) (C := RX8) (wn := [(a_t, .inr (8, [.ref a_t_a, v_t_fresh, v_t_aside, v_t_kept, .int t_keptMany, .int t_thrown, v_t_buffer, .int t_buffered, .int t_size, .int t_at, .int t_behind, .int t_kind, .int t_number, .int t_wrong, .int t_wrongAt, .int t_errorAt, .ref a_t_moved, .int t_unused, v_t_written, .int t_writtenMany])), (a_t_a, .inl (t 0, 876, .inl t_a_159_9)), (a_t_moved, .inl (t 0, 120, .inl t_moved_48_5))]) ⟨hx, hb, hml, hown, hts⟩ (c_X8_puts l D t z x a_t a_t_a v_t_fresh v_t_aside v_t_kept v_t_buffer (.ref a_t_moved) v_t_written t_keptMany t_thrown t_buffered t_size t_at t_behind t_kind t_number t_wrong t_wrongAt t_errorAt t_unused t_writtenMany t_a_155_7 p1 3 1 H.size t_a_159_9 h159_9) (cwV 3 hts gX8_sorts_X8_puts rfl rfl rfl hd_X8_puts ⟨Nat.le_of_ble_eq_true rfl, Nat.le_of_ble_eq_true rfl⟩) (hC.at hz hS) hP hD hS hA hz [true, true, false] rfl rfl rfl rfl 0 rfl (show vwCl[8]? = some (RX8, TX8, 20) from rfl) rfl rfl hl.1 rfl (Nat.le_of_ble_eq_true rfl) dX8_sorts_159 ⟨Nat.zero_le _, Nat.zero_le _⟩ rfl (fun H locs hP hD hS => ?_)
      refine lv_iconst (v := 0) hx hb dX8_sorts_162 (by decide) ?_
      refine lv_istore (lv' := [(4, .int 0), (0, .ref a_t), (1, .int p1), (2, .int r2_1), (3, .int r9_3)]) hx hb dX8_sorts_163 hl (by decide) rfl (fun ls hl => ?_)
      refine lv_iconst (v := 0) hx hb dX8_sorts_165 (by decide) ?_
      refine lv_istore (lv' := [(5, .int 0), (4, .int 0), (0, .ref a_t), (1, .int p1), (2, .int r2_1), (3, .int r9_3)]) hx hb dX8_sorts_166 hl (by decide) rfl (fun ls hl => ?_)
      obtain ⟨k213_12, ek213_12, hF⟩ := jnE hF
      have hk213_12 : ∀ (x4_213_11 : Int32) (H : Heap) (locs : List Loc) (ls : Array Slot), va_P D vwCl [(a_t, .inr (8, [.ref a_t_a, v_t_fresh, v_t_aside, v_t_kept, .int t_keptMany, .int t_thrown, v_t_buffer, .int t_buffered, .int t_size, .int t_at, .int t_behind, .int t_kind, .int t_number, .int t_wrong, .int t_wrongAt, .int t_errorAt, .ref a_t_moved, .int t_unused, v_t_written, .int t_writtenMany])), (a_t_a, .inl (t 0, 876, .inl t_a_159_9)), (a_t_moved, .inl (t 0, 120, .inl t_moved_48_5))] H → va_D A [(a_t, .inr (8, [.ref a_t_a, v_t_fresh, v_t_aside, v_t_kept, .int t_keptMany, .int t_thrown, v_t_buffer, .int t_buffered, .int t_size, .int t_at, .int t_behind, .int t_kind, .int t_number, .int t_wrong, .int t_wrongAt, .int t_errorAt, .ref a_t_moved, .int t_unused, v_t_written, .int t_writtenMany])), (a_t_a, .inl (t 0, 876, .inl t_a_159_9)), (a_t_moved, .inl (t 0, 120, .inl t_moved_48_5))] → va_S A s.heap H locs → lv_has ls 7 [(4, .int x4_213_11)] → k213_12 x4_213_11 = some (r, t_a_', t_moved_') → W p l e rm_X8_sorts s m args below meth c H locs 0 0 Q (F0 m 213 ls []) := by
        subst ek213_12
        intro x4_213_11 H locs ls hP hD hS hl hF
        refine lv_iload hx hb dX8_sorts_213 (lv_at hl 0 rfl) ?_
        cases hF
        exact we_iret hx hb hr hlocks dX8_sorts_215 rfl hQ hP hD hS
      have hlp168 : ∀ n168 : Nat, ∀ (x4_168_13 : Int32) (x5_168_14 : Int32) (H : Heap) (locs : List Loc) (ls : Array Slot), va_P D vwCl [(a_t, .inr (8, [.ref a_t_a, v_t_fresh, v_t_aside, v_t_kept, .int t_keptMany, .int t_thrown, v_t_buffer, .int t_buffered, .int t_size, .int t_at, .int t_behind, .int t_kind, .int t_number, .int t_wrong, .int t_wrongAt, .int t_errorAt, .ref a_t_moved, .int t_unused, v_t_written, .int t_writtenMany])), (a_t_a, .inl (t 0, 876, .inl t_a_159_9)), (a_t_moved, .inl (t 0, 120, .inl t_moved_48_5))] H → va_D A [(a_t, .inr (8, [.ref a_t_a, v_t_fresh, v_t_aside, v_t_kept, .int t_keptMany, .int t_thrown, v_t_buffer, .int t_buffered, .int t_size, .int t_at, .int t_behind, .int t_kind, .int t_number, .int t_wrong, .int t_wrongAt, .int t_errorAt, .ref a_t_moved, .int t_unused, v_t_written, .int t_writtenMany])), (a_t_a, .inl (t 0, 876, .inl t_a_159_9)), (a_t_moved, .inl (t 0, 120, .inl t_moved_48_5))] → va_S A s.heap H locs → lv_has ls 7 [(0, .ref a_t), (2, .int r2_1), (3, .int r9_3), (4, .int x4_168_13), (5, .int x5_168_14)] → f_X8_sorts_168 r2_1 r9_3 t_moved_48_5 t_a_159_9 k213_12 n168 x4_168_13 x5_168_14 = some (r, t_a_', t_moved_') → W p l e rm_X8_sorts s m args below meth c H locs 0 0 Q (F0 m 168 ls []) := by
        intro n168
        induction n168 with
        | zero =>
          intro x4_168_13 x5_168_14 H locs ls hP hD hS hl hF
          cases (show none = some (r, t_a_', t_moved_') from hF)
        | succ n168 ih168 =>
          intro x4_168_13 x5_168_14 H locs ls hP hD hS hl hF
          rw [f_X8_sorts_168] at hF
          refine lv_iload hx hb dX8_sorts_168 (lv_at hl 4 rfl) ?_
          refine lv_iload_n hx hb dX8_sorts_170 rfl (lv_at hl 2 rfl) ?_
          refine lv_icmp_ge (tgt := 213) hx hb dX8_sorts_171 (by decide) (fun c171 => ?_) (fun c171 => ?_)
          · have hF := brT c171 hF
            exact hk213_12 x4_168_13 H locs ls hP hD hS (lv_sub hl [3] rfl) hF
          · have hF := brF c171 hF
            refine lv_iload hx hb dX8_sorts_174 (lv_at hl 3 rfl) ?_
            refine lv_aload_n hx hb dX8_sorts_176 rfl (lv_at hl 0 rfl) ?_
            refine va_get (D := D) (ci := 8) (v := .ref a_t_a) (C := RX8) (T := TX8) (N := 20) hx hb hts iw8 hown hK hP 0 rfl rfl 0 (by decide) hf7 (fun _ h9 => h9) rfl dX8_sorts_177 ?_
            refine lv_sipush (v := 380) hx hb dX8_sorts_180 (by decide) ?_
            refine lv_iload_n hx hb dX8_sorts_183 rfl (lv_at hl 1 rfl) ?_
            refine lv_iadd hx hb dX8_sorts_184 ?_
            refine lv_iload hx hb dX8_sorts_185 (lv_at hl 4 rfl) ?_
            refine lv_iadd hx hb dX8_sorts_187 ?_
            obtain ⟨g188_14, hF⟩ := gd hF
            refine my_iald (v := t_a_159_9 ((380 + r2_1) + x5_168_14).toNatClampNeg) hx hb hK hP 1 0 rfl rfl g188_14 rfl dX8_sorts_188 ?_
            refine lv_aload_n hx hb dX8_sorts_189 rfl (lv_at hl 0 rfl) ?_
            refine va_get (D := D) (ci := 8) (v := .ref a_t_moved) (C := RX8) (T := TX8) (N := 20) hx hb hts iw8 hown hK hP 0 rfl rfl 16 (by decide) hf29 (fun _ h9 => h9) rfl dX8_sorts_190 ?_
            refine lv_iload hx hb dX8_sorts_193 (lv_at hl 4 rfl) ?_
            obtain ⟨g195_16, hF⟩ := gd hF
            refine my_iald (v := t_moved_48_5 x5_168_14.toNatClampNeg) hx hb hK hP 2 0 rfl rfl g195_16 rfl dX8_sorts_195 ?_
            refine lv_icmp_eq (tgt := 203) hx hb dX8_sorts_196 (by decide) (fun c196 => ?_) (fun c196 => ?_)
            · have hF := brT c196 hF
              refine lv_iconst (v := 0) hx hb dX8_sorts_203 (by decide) ?_
              refine lv_iadd hx hb dX8_sorts_204 ?_
              refine lv_topi (fun y205_17 ey205_17 => ?_)
              have hF := ltE ey205_17 hF
              refine lv_istore (lv' := [(4, .int y205_17), (0, .ref a_t), (2, .int r2_1), (3, .int r9_3), (5, .int x5_168_14)]) hx hb dX8_sorts_205 hl (by decide) rfl (fun ls hl => ?_)
              obtain ⟨y207_18, ey207_18⟩ : ∃ y : Int32, y = x5_168_14 + 1 := ⟨_, rfl⟩
              have hF := ltE ey207_18 hF
              refine lv_iinc (v := y207_18) (lv' := [(5, .int y207_18), (4, .int y205_17), (0, .ref a_t), (2, .int r2_1), (3, .int r9_3)]) hx hb dX8_sorts_207 hl (k := 4) rfl (by rw [ey207_18]; rfl) (by decide) rfl (fun ls hl => ?_)
              refine lv_goto (tgt := 168) hx hb dX8_sorts_210 (by decide) ?_
              exact ih168 y205_17 y207_18 H locs ls hP hD hS (lv_sub hl [2, 3, 4, 1, 0] rfl) hF
            · have hF := brF c196 hF
              refine lv_iconst (v := 1) hx hb dX8_sorts_199 (by decide) ?_
              refine lv_goto (tgt := 204) hx hb dX8_sorts_200 (by decide) ?_
              refine lv_iadd hx hb dX8_sorts_204 ?_
              refine lv_topi (fun y205_19 ey205_19 => ?_)
              have hF := ltE ey205_19 hF
              refine lv_istore (lv' := [(4, .int y205_19), (0, .ref a_t), (2, .int r2_1), (3, .int r9_3), (5, .int x5_168_14)]) hx hb dX8_sorts_205 hl (by decide) rfl (fun ls hl => ?_)
              obtain ⟨y207_20, ey207_20⟩ : ∃ y : Int32, y = x5_168_14 + 1 := ⟨_, rfl⟩
              have hF := ltE ey207_20 hF
              refine lv_iinc (v := y207_20) (lv' := [(5, .int y207_20), (4, .int y205_19), (0, .ref a_t), (2, .int r2_1), (3, .int r9_3)]) hx hb dX8_sorts_207 hl (k := 4) rfl (by rw [ey207_20]; rfl) (by decide) rfl (fun ls hl => ?_)
              refine lv_goto (tgt := 168) hx hb dX8_sorts_210 (by decide) ?_
              exact ih168 y205_19 y207_20 H locs ls hP hD hS (lv_sub hl [2, 3, 4, 1, 0] rfl) hF
      exact hlp168 N 0 0 H locs ls hP hD hS (lv_sub hl [2, 4, 5, 1, 0] rfl) hF
    have hlp51 : ∀ n51 : Nat, ∀ (x4_51_21 : Int32) (t_a_51_22 : (Nat → Int32)) (H : Heap) (locs : List Loc) (ls : Array Slot), va_P D vwCl [(a_t, .inr (8, [.ref a_t_a, v_t_fresh, v_t_aside, v_t_kept, .int t_keptMany, .int t_thrown, v_t_buffer, .int t_buffered, .int t_size, .int t_at, .int t_behind, .int t_kind, .int t_number, .int t_wrong, .int t_wrongAt, .int t_errorAt, .ref a_t_moved, .int t_unused, v_t_written, .int t_writtenMany])), (a_t_a, .inl (t 0, 876, .inl t_a_51_22)), (a_t_moved, .inl (t 0, 120, .inl t_moved_48_5))] H → va_D A [(a_t, .inr (8, [.ref a_t_a, v_t_fresh, v_t_aside, v_t_kept, .int t_keptMany, .int t_thrown, v_t_buffer, .int t_buffered, .int t_size, .int t_at, .int t_behind, .int t_kind, .int t_number, .int t_wrong, .int t_wrongAt, .int t_errorAt, .ref a_t_moved, .int t_unused, v_t_written, .int t_writtenMany])), (a_t_a, .inl (t 0, 876, .inl t_a_51_22)), (a_t_moved, .inl (t 0, 120, .inl t_moved_48_5))] → va_S A s.heap H locs → lv_has ls 7 [(0, .ref a_t), (1, .int p1), (2, .int r2_1), (3, .int r9_3), (4, .int x4_51_21)] → f_X8_sorts_51 N r2_1 r9_3 k155_8 n51 x4_51_21 t_a_51_22 = some (r, t_a_', t_moved_') → W p l e rm_X8_sorts s m args below meth c H locs 0 0 Q (F0 m 51 ls []) := by
      intro n51
      induction n51 with
      | zero =>
        intro x4_51_21 t_a_51_22 H locs ls hP hD hS hl hF
        cases (show none = some (r, t_a_', t_moved_') from hF)
      | succ n51 ih51 =>
        intro x4_51_21 t_a_51_22 H locs ls hP hD hS hl hF
        rw [f_X8_sorts_51] at hF
        refine lv_iload hx hb dX8_sorts_51 (lv_at hl 4 rfl) ?_
        refine lv_iload_n hx hb dX8_sorts_53 rfl (lv_at hl 3 rfl) ?_
        refine lv_icmp_ge (tgt := 155) hx hb dX8_sorts_54 (by decide) (fun c54 => ?_) (fun c54 => ?_)
        · have hF := brT c54 hF
          exact hk155_8 t_a_51_22 H locs ls hP hD hS (lv_sub hl [0, 1, 2, 3] rfl) hF
        · have hF := brF c54 hF
          refine lv_aload_n hx hb dX8_sorts_57 rfl (lv_at hl 0 rfl) ?_
          refine va_get (D := D) (ci := 8) (v := .ref a_t_a) (C := RX8) (T := TX8) (N := 20) hx hb hts iw8 hown hK hP 0 rfl rfl 0 (by decide) hf7 (fun _ h9 => h9) rfl dX8_sorts_58 ?_
          refine lv_sipush (v := 380) hx hb dX8_sorts_61 (by decide) ?_
          refine lv_iload_n hx hb dX8_sorts_64 rfl (lv_at hl 2 rfl) ?_
          refine lv_iadd hx hb dX8_sorts_65 ?_
          refine lv_iload hx hb dX8_sorts_66 (lv_at hl 4 rfl) ?_
          refine lv_iadd hx hb dX8_sorts_68 ?_
          obtain ⟨g69_22, hF⟩ := gd hF
          refine my_iald (v := t_a_51_22 ((380 + r2_1) + x4_51_21).toNatClampNeg) hx hb hK hP 1 0 rfl rfl g69_22 rfl dX8_sorts_69 ?_
          refine lv_topi (fun y70_24 ey70_24 => ?_)
          have hF := ltE ey70_24 hF
          refine lv_istore (lv' := [(5, .int y70_24), (0, .ref a_t), (1, .int p1), (2, .int r2_1), (3, .int r9_3), (4, .int x4_51_21)]) hx hb dX8_sorts_70 hl (by decide) rfl (fun ls hl => ?_)
          refine lv_iload_n hx hb dX8_sorts_72 rfl (lv_at hl 3 rfl) ?_
          refine lv_iload hx hb dX8_sorts_73 (lv_at hl 5 rfl) ?_
          refine lv_iadd hx hb dX8_sorts_75 ?_
          refine lv_topi (fun y76_25 ey76_25 => ?_)
          have hF := ltE ey76_25 hF
          refine lv_istore (lv' := [(6, .int y76_25), (5, .int y70_24), (0, .ref a_t), (1, .int p1), (2, .int r2_1), (3, .int r9_3), (4, .int x4_51_21)]) hx hb dX8_sorts_76 hl (by decide) rfl (fun ls hl => ?_)
          obtain ⟨k136_28, ek136_28, hF⟩ := jnE hF
          have hk136_28 : ∀ (x6_136_26 : Int32) (t_a_136_27 : (Nat → Int32)) (H : Heap) (locs : List Loc) (ls : Array Slot), va_P D vwCl [(a_t, .inr (8, [.ref a_t_a, v_t_fresh, v_t_aside, v_t_kept, .int t_keptMany, .int t_thrown, v_t_buffer, .int t_buffered, .int t_size, .int t_at, .int t_behind, .int t_kind, .int t_number, .int t_wrong, .int t_wrongAt, .int t_errorAt, .ref a_t_moved, .int t_unused, v_t_written, .int t_writtenMany])), (a_t_a, .inl (t 0, 876, .inl t_a_136_27)), (a_t_moved, .inl (t 0, 120, .inl t_moved_48_5))] H → va_D A [(a_t, .inr (8, [.ref a_t_a, v_t_fresh, v_t_aside, v_t_kept, .int t_keptMany, .int t_thrown, v_t_buffer, .int t_buffered, .int t_size, .int t_at, .int t_behind, .int t_kind, .int t_number, .int t_wrong, .int t_wrongAt, .int t_errorAt, .ref a_t_moved, .int t_unused, v_t_written, .int t_writtenMany])), (a_t_a, .inl (t 0, 876, .inl t_a_136_27)), (a_t_moved, .inl (t 0, 120, .inl t_moved_48_5))] → va_S A s.heap H locs → lv_has ls 7 [(0, .ref a_t), (1, .int p1), (2, .int r2_1), (3, .int r9_3), (4, .int x4_51_21), (5, .int y70_24), (6, .int x6_136_26)] → k136_28 x6_136_26 t_a_136_27 = some (r, t_a_', t_moved_') → W p l e rm_X8_sorts s m args below meth c H locs 0 0 Q (F0 m 136 ls []) := by
            subst ek136_28
            intro x6_136_26 t_a_136_27 H locs ls hP hD hS hl hF
            refine lv_aload_n hx hb dX8_sorts_136 rfl (lv_at hl 0 rfl) ?_
            refine va_get (D := D) (ci := 8) (v := .ref a_t_a) (C := RX8) (T := TX8) (N := 20) hx hb hts iw8 hown hK hP 0 rfl rfl 0 (by decide) hf7 (fun _ h9 => h9) rfl dX8_sorts_137 ?_
            refine lv_sipush (v := 380) hx hb dX8_sorts_140 (by decide) ?_
            refine lv_iload hx hb dX8_sorts_143 (lv_at hl 6 rfl) ?_
            refine lv_iadd hx hb dX8_sorts_145 ?_
            refine lv_iload hx hb dX8_sorts_146 (lv_at hl 5 rfl) ?_
            obtain ⟨g148_28, hF⟩ := gd hF
            obtain ⟨t_a_148_30, et_a_148_30⟩ : ∃ y : Nat → Int32, y = upd t_a_136_27 (380 + x6_136_26).toNatClampNeg y70_24 := ⟨_, rfl⟩
            have hF := ltE et_a_148_30 hF
            refine my_iast (g := t_a_148_30) (wn := [(a_t, .inr (8, [.ref a_t_a, v_t_fresh, v_t_aside, v_t_kept, .int t_keptMany, .int t_thrown, v_t_buffer, .int t_buffered, .int t_size, .int t_at, .int t_behind, .int t_kind, .int t_number, .int t_wrong, .int t_wrongAt, .int t_errorAt, .ref a_t_moved, .int t_unused, v_t_written, .int t_writtenMany])), (a_t_a, .inl (t 0, 876, .inl t_a_148_30)), (a_t_moved, .inl (t 0, 120, .inl t_moved_48_5))]) hx hb hK hP hD hS 1 0 rfl rfl g148_28 et_a_148_30 rfl dX8_sorts_148 (fun H locs hP hD hS => ?_)
            obtain ⟨y149_31, ey149_31⟩ : ∃ y : Int32, y = x4_51_21 + 1 := ⟨_, rfl⟩
            have hF := ltE ey149_31 hF
            refine lv_iinc (v := y149_31) (lv' := [(4, .int y149_31), (0, .ref a_t), (1, .int p1), (2, .int r2_1), (3, .int r9_3), (5, .int y70_24), (6, .int x6_136_26)]) hx hb dX8_sorts_149 hl (k := 4) rfl (by rw [ey149_31]; rfl) (by decide) rfl (fun ls hl => ?_)
            refine lv_goto (tgt := 51) hx hb dX8_sorts_152 (by decide) ?_
            exact ih51 y149_31 t_a_148_30 H locs ls hP hD hS (lv_sub hl [1, 2, 3, 4, 0] rfl) hF
          have hlp78 : ∀ n78 : Nat, ∀ (x6_78_32 : Int32) (t_a_78_33 : (Nat → Int32)) (H : Heap) (locs : List Loc) (ls : Array Slot), va_P D vwCl [(a_t, .inr (8, [.ref a_t_a, v_t_fresh, v_t_aside, v_t_kept, .int t_keptMany, .int t_thrown, v_t_buffer, .int t_buffered, .int t_size, .int t_at, .int t_behind, .int t_kind, .int t_number, .int t_wrong, .int t_wrongAt, .int t_errorAt, .ref a_t_moved, .int t_unused, v_t_written, .int t_writtenMany])), (a_t_a, .inl (t 0, 876, .inl t_a_78_33)), (a_t_moved, .inl (t 0, 120, .inl t_moved_48_5))] H → va_D A [(a_t, .inr (8, [.ref a_t_a, v_t_fresh, v_t_aside, v_t_kept, .int t_keptMany, .int t_thrown, v_t_buffer, .int t_buffered, .int t_size, .int t_at, .int t_behind, .int t_kind, .int t_number, .int t_wrong, .int t_wrongAt, .int t_errorAt, .ref a_t_moved, .int t_unused, v_t_written, .int t_writtenMany])), (a_t_a, .inl (t 0, 876, .inl t_a_78_33)), (a_t_moved, .inl (t 0, 120, .inl t_moved_48_5))] → va_S A s.heap H locs → lv_has ls 7 [(0, .ref a_t), (1, .int p1), (2, .int r2_1), (3, .int r9_3), (4, .int x4_51_21), (5, .int y70_24), (6, .int x6_78_32)] → f_X8_sorts_78 r2_1 y70_24 k136_28 n78 x6_78_32 t_a_78_33 = some (r, t_a_', t_moved_') → W p l e rm_X8_sorts s m args below meth c H locs 0 0 Q (F0 m 78 ls []) := by
            intro n78
            induction n78 with
            | zero =>
              intro x6_78_32 t_a_78_33 H locs ls hP hD hS hl hF
              cases (show none = some (r, t_a_', t_moved_') from hF)
            | succ n78 ih78 =>
              intro x6_78_32 t_a_78_33 H locs ls hP hD hS hl hF
              rw [f_X8_sorts_78] at hF
              refine lv_iload hx hb dX8_sorts_78 (lv_at hl 6 rfl) ?_
              refine lv_iload_n hx hb dX8_sorts_80 rfl (lv_at hl 2 rfl) ?_
              refine lv_icmp_le (tgt := 136) hx hb dX8_sorts_81 (by decide) (fun c81 => ?_) (fun c81 => ?_)
              · have hF := brT c81 hF
                exact hk136_28 x6_78_32 t_a_78_33 H locs ls hP hD hS hl hF
              · have hF := brF c81 hF
                refine lv_aload_n hx hb dX8_sorts_84 rfl (lv_at hl 0 rfl) ?_
                refine lv_iload hx hb dX8_sorts_85 (lv_at hl 5 rfl) ?_
                refine lv_aload_n hx hb dX8_sorts_87 rfl (lv_at hl 0 rfl) ?_
                refine va_get (D := D) (ci := 8) (v := .ref a_t_a) (C := RX8) (T := TX8) (N := 20) hx hb hts iw8 hown hK hP 0 rfl rfl 0 (by decide) hf7 (fun _ h9 => h9) rfl dX8_sorts_88 ?_
                refine lv_sipush (v := 380) hx hb dX8_sorts_91 (by decide) ?_
                refine lv_iload hx hb dX8_sorts_94 (lv_at hl 6 rfl) ?_
                refine lv_iadd hx hb dX8_sorts_96 ?_
                refine lv_iconst (v := 1) hx hb dX8_sorts_97 (by decide) ?_
                refine lv_isub hx hb dX8_sorts_98 ?_
                obtain ⟨g99_33, hF⟩ := gd hF
                refine my_iald (v := t_a_78_33 ((380 + x6_78_32) - 1).toNatClampNeg) hx hb hK hP 1 0 rfl rfl g99_33 rfl dX8_sorts_99 ?_
                obtain ⟨r100_35, h100_35, hF⟩ := bndE hF
                refine rdV (As := [.int y70_24, .int (t_a_78_33 ((380 + x6_78_32) - 1).toNatClampNeg)]) (rest := []) (C := RX8) ⟨hx, hb, hml, hown, hts⟩ (c_X8_isAhead l D t z x a_t a_t_a v_t_fresh v_t_aside v_t_kept v_t_buffer (.ref a_t_moved) v_t_written t_keptMany t_thrown t_buffered t_size t_at t_behind t_kind t_number t_wrong t_wrongAt t_errorAt t_unused t_writtenMany t_a_78_33 y70_24 (t_a_78_33 ((380 + x6_78_32) - 1).toNatClampNeg) H r100_35 h100_35) (cwV 2 hts gX8_sorts_X8_isAhead rfl rfl rfl hd_X8_isAhead ⟨Nat.le_of_ble_eq_true rfl, Nat.le_of_ble_eq_true rfl⟩) (hC.at hz hS) (selP (m9 := [true, true, false]) rfl rfl hP) 0 rfl (show vwCl[8]? = some (RX8, TX8, 20) from rfl) rfl rfl hl.1 rfl (Nat.le_of_ble_eq_true rfl) dX8_sorts_100 ⟨Nat.zero_le _, Nat.zero_le _⟩ rfl ?_
                refine lv_if_eq (tgt := 136) hx hb dX8_sorts_103 (by decide) (fun c103 => ?_) (fun c103 => ?_)
                · have hF := brT c103 hF
                  exact hk136_28 x6_78_32 t_a_78_33 H locs ls hP hD hS hl hF
                · have hF := brF c103 hF
                  refine lv_aload_n hx hb dX8_sorts_106 rfl (lv_at hl 0 rfl) ?_
                  refine va_get (D := D) (ci := 8) (v := .ref a_t_a) (C := RX8) (T := TX8) (N := 20) hx hb hts iw8 hown hK hP 0 rfl rfl 0 (by decide) hf7 (fun _ h9 => h9) rfl dX8_sorts_107 ?_
                  refine lv_sipush (v := 380) hx hb dX8_sorts_110 (by decide) ?_
                  refine lv_iload hx hb dX8_sorts_113 (lv_at hl 6 rfl) ?_
                  refine lv_iadd hx hb dX8_sorts_115 ?_
                  refine lv_aload_n hx hb dX8_sorts_116 rfl (lv_at hl 0 rfl) ?_
                  refine va_get (D := D) (ci := 8) (v := .ref a_t_a) (C := RX8) (T := TX8) (N := 20) hx hb hts iw8 hown hK hP 0 rfl rfl 0 (by decide) hf7 (fun _ h9 => h9) rfl dX8_sorts_117 ?_
                  refine lv_sipush (v := 380) hx hb dX8_sorts_120 (by decide) ?_
                  refine lv_iload hx hb dX8_sorts_123 (lv_at hl 6 rfl) ?_
                  refine lv_iadd hx hb dX8_sorts_125 ?_
                  refine lv_iconst (v := 1) hx hb dX8_sorts_126 (by decide) ?_
                  refine lv_isub hx hb dX8_sorts_127 ?_
                  refine my_iald (v := t_a_78_33 ((380 + x6_78_32) - 1).toNatClampNeg) hx hb hK hP 1 0 rfl rfl g99_33 rfl dX8_sorts_128 ?_
                  obtain ⟨g129_37, hF⟩ := gd hF
                  obtain ⟨t_a_129_38, et_a_129_38⟩ : ∃ y : Nat → Int32, y = upd t_a_78_33 (380 + x6_78_32).toNatClampNeg (t_a_78_33 ((380 + x6_78_32) - 1).toNatClampNeg) := ⟨_, rfl⟩
                  have hF := ltE et_a_129_38 hF
                  refine my_iast (g := t_a_129_38) (wn := [(a_t, .inr (8, [.ref a_t_a, v_t_fresh, v_t_aside, v_t_kept, .int t_keptMany, .int t_thrown, v_t_buffer, .int t_buffered, .int t_size, .int t_at, .int t_behind, .int t_kind, .int t_number, .int t_wrong, .int t_wrongAt, .int t_errorAt, .ref a_t_moved, .int t_unused, v_t_written, .int t_writtenMany])), (a_t_a, .inl (t 0, 876, .inl t_a_129_38)), (a_t_moved, .inl (t 0, 120, .inl t_moved_48_5))]) hx hb hK hP hD hS 1 0 rfl rfl g129_37 et_a_129_38 rfl dX8_sorts_129 (fun H locs hP hD hS => ?_)
                  obtain ⟨y130_39, ey130_39⟩ : ∃ y : Int32, y = x6_78_32 + (-1) := ⟨_, rfl⟩
                  have hF := ltE ey130_39 hF
                  refine lv_iinc (v := y130_39) (lv' := [(6, .int y130_39), (0, .ref a_t), (1, .int p1), (2, .int r2_1), (3, .int r9_3), (4, .int x4_51_21), (5, .int y70_24)]) hx hb dX8_sorts_130 hl (k := 6) rfl (by rw [ey130_39]; rfl) (by decide) rfl (fun ls hl => ?_)
                  refine lv_goto (tgt := 78) hx hb dX8_sorts_133 (by decide) ?_
                  exact ih78 y130_39 t_a_129_38 H locs ls hP hD hS (lv_sub hl [1, 2, 3, 4, 5, 6, 0] rfl) hF
          exact hlp78 N y76_25 t_a_51_22 H locs ls hP hD hS (lv_sub hl [2, 3, 4, 5, 6, 1, 0] rfl) hF
    exact hlp51 N 1 t_a_ H locs ls hP hD hS (lv_sub hl [1, 2, 3, 4, 0] rfl) hF
  have hlp16 : ∀ n16 : Nat, ∀ (x4_16_40 : Int32) (t_moved_16_41 : (Nat → Int32)) (H : Heap) (locs : List Loc) (ls : Array Slot), va_P D vwCl [(a_t, .inr (8, [.ref a_t_a, v_t_fresh, v_t_aside, v_t_kept, .int t_keptMany, .int t_thrown, v_t_buffer, .int t_buffered, .int t_size, .int t_at, .int t_behind, .int t_kind, .int t_number, .int t_wrong, .int t_wrongAt, .int t_errorAt, .ref a_t_moved, .int t_unused, v_t_written, .int t_writtenMany])), (a_t_a, .inl (t 0, 876, .inl t_a_)), (a_t_moved, .inl (t 0, 120, .inl t_moved_16_41))] H → va_D A [(a_t, .inr (8, [.ref a_t_a, v_t_fresh, v_t_aside, v_t_kept, .int t_keptMany, .int t_thrown, v_t_buffer, .int t_buffered, .int t_size, .int t_at, .int t_behind, .int t_kind, .int t_number, .int t_wrong, .int t_wrongAt, .int t_errorAt, .ref a_t_moved, .int t_unused, v_t_written, .int t_writtenMany])), (a_t_a, .inl (t 0, 876, .inl t_a_)), (a_t_moved, .inl (t 0, 120, .inl t_moved_16_41))] → va_S A s.heap H locs → lv_has ls 7 [(0, .ref a_t), (1, .int p1), (2, .int r2_1), (3, .int r9_3), (4, .int x4_16_40)] → f_X8_sorts_16 t_a_ r2_1 r9_3 k48_6 n16 x4_16_40 t_moved_16_41 = some (r, t_a_', t_moved_') → W p l e rm_X8_sorts s m args below meth c H locs 0 0 Q (F0 m 16 ls []) := by
    intro n16
    induction n16 with
    | zero =>
      intro x4_16_40 t_moved_16_41 H locs ls hP hD hS hl hF
      cases (show none = some (r, t_a_', t_moved_') from hF)
    | succ n16 ih16 =>
      intro x4_16_40 t_moved_16_41 H locs ls hP hD hS hl hF
      rw [f_X8_sorts_16] at hF
      refine lv_iload hx hb dX8_sorts_16 (lv_at hl 4 rfl) ?_
      refine lv_iload_n hx hb dX8_sorts_18 rfl (lv_at hl 3 rfl) ?_
      refine lv_icmp_ge (tgt := 48) hx hb dX8_sorts_19 (by decide) (fun c19 => ?_) (fun c19 => ?_)
      · have hF := brT c19 hF
        exact hk48_6 t_moved_16_41 H locs ls hP hD hS (lv_sub hl [0, 1, 2, 3] rfl) hF
      · have hF := brF c19 hF
        refine lv_aload_n hx hb dX8_sorts_22 rfl (lv_at hl 0 rfl) ?_
        refine va_get (D := D) (ci := 8) (v := .ref a_t_moved) (C := RX8) (T := TX8) (N := 20) hx hb hts iw8 hown hK hP 0 rfl rfl 16 (by decide) hf29 (fun _ h9 => h9) rfl dX8_sorts_23 ?_
        refine lv_iload hx hb dX8_sorts_26 (lv_at hl 4 rfl) ?_
        refine lv_aload_n hx hb dX8_sorts_28 rfl (lv_at hl 0 rfl) ?_
        refine va_get (D := D) (ci := 8) (v := .ref a_t_a) (C := RX8) (T := TX8) (N := 20) hx hb hts iw8 hown hK hP 0 rfl rfl 0 (by decide) hf7 (fun _ h9 => h9) rfl dX8_sorts_29 ?_
        refine lv_sipush (v := 380) hx hb dX8_sorts_32 (by decide) ?_
        refine lv_iload_n hx hb dX8_sorts_35 rfl (lv_at hl 2 rfl) ?_
        refine lv_iadd hx hb dX8_sorts_36 ?_
        refine lv_iload hx hb dX8_sorts_37 (lv_at hl 4 rfl) ?_
        refine lv_iadd hx hb dX8_sorts_39 ?_
        obtain ⟨g40_41, hF⟩ := gd hF
        refine my_iald (v := t_a_ ((380 + r2_1) + x4_16_40).toNatClampNeg) hx hb hK hP 1 0 rfl rfl g40_41 rfl dX8_sorts_40 ?_
        obtain ⟨g41_43, hF⟩ := gd hF
        obtain ⟨t_moved_41_44, et_moved_41_44⟩ : ∃ y : Nat → Int32, y = upd t_moved_16_41 x4_16_40.toNatClampNeg (t_a_ ((380 + r2_1) + x4_16_40).toNatClampNeg) := ⟨_, rfl⟩
        have hF := ltE et_moved_41_44 hF
        refine my_iast (g := t_moved_41_44) (wn := [(a_t, .inr (8, [.ref a_t_a, v_t_fresh, v_t_aside, v_t_kept, .int t_keptMany, .int t_thrown, v_t_buffer, .int t_buffered, .int t_size, .int t_at, .int t_behind, .int t_kind, .int t_number, .int t_wrong, .int t_wrongAt, .int t_errorAt, .ref a_t_moved, .int t_unused, v_t_written, .int t_writtenMany])), (a_t_a, .inl (t 0, 876, .inl t_a_)), (a_t_moved, .inl (t 0, 120, .inl t_moved_41_44))]) hx hb hK hP hD hS 2 0 rfl rfl g41_43 et_moved_41_44 rfl dX8_sorts_41 (fun H locs hP hD hS => ?_)
        obtain ⟨y42_45, ey42_45⟩ : ∃ y : Int32, y = x4_16_40 + 1 := ⟨_, rfl⟩
        have hF := ltE ey42_45 hF
        refine lv_iinc (v := y42_45) (lv' := [(4, .int y42_45), (0, .ref a_t), (1, .int p1), (2, .int r2_1), (3, .int r9_3)]) hx hb dX8_sorts_42 hl (k := 4) rfl (by rw [ey42_45]; rfl) (by decide) rfl (fun ls hl => ?_)
        refine lv_goto (tgt := 16) hx hb dX8_sorts_45 (by decide) ?_
        exact ih16 y42_45 t_moved_41_44 H locs ls hP hD hS (lv_sub hl [1, 2, 3, 4, 0] rfl) hF
  exact hlp16 N 0 t_moved_ H locs ls hP hD hS (lv_sub hl [3, 4, 2, 1, 0] rfl) hF
abbrev rm_X8_joins : Room := { frames := 1, cells := 0, slots := 0, locals := 23 }
theorem hd_X8_joins : yX8_joins.cls = RX8 ∧ yX8_joins.cls ≠ "java/lang/invoke/MethodHandle" ∧ yX8_joins.cls ≠ "java/lang/invoke/VarHandle" ∧ (parseMethodDescriptor yX8_joins.desc).map (fun d => d.parameters.length) = some 1 := by decide +kernel
set_option maxRecDepth 100000 in
set_option maxHeartbeats 4000000 in
theorem c_X8_joins (l : Launch) (D : va_G) (t : Nat → ClassId) (z : Nat) (x : Nat → Nat) (N : Nat) (a_t : Nat) (a_t_a : Nat) (v_t_fresh : Value) (v_t_aside : Value) (v_t_kept : Value) (v_t_buffer : Value) (v_t_moved : Value) (v_t_written : Value) (t_keptMany : Int32) (t_thrown : Int32) (t_buffered : Int32) (t_size : Int32) (t_at : Int32) (t_behind : Int32) (t_kind : Int32) (t_number : Int32) (t_wrong : Int32) (t_wrongAt : Int32) (t_errorAt : Int32) (t_unused : Int32) (t_writtenMany : Int32) (t_a_ : (Nat → Int32)) (p1 : Int32) (sz : Nat) (t_a_' : (Nat → Int32)) (hF : f_X8_joins N t_a_ p1 = some (t_a_')) : WrM l D (TY t) z x yX8_joins wsX8_joins rm_X8_joins [.ref a_t, .int p1] [(a_t, .inr (8, [.ref a_t_a, v_t_fresh, v_t_aside, v_t_kept, .int t_keptMany, .int t_thrown, v_t_buffer, .int t_buffered, .int t_size, .int t_at, .int t_behind, .int t_kind, .int t_number, .int t_wrong, .int t_wrongAt, .int t_errorAt, v_t_moved, .int t_unused, v_t_written, .int t_writtenMany])), (a_t_a, .inl (t 0, 876, .inl t_a_))] [(a_t, .inr (8, [.ref a_t_a, v_t_fresh, v_t_aside, v_t_kept, .int t_keptMany, .int t_thrown, v_t_buffer, .int t_buffered, .int t_size, .int t_at, .int t_behind, .int t_kind, .int t_number, .int t_wrong, .int t_wrongAt, .int t_errorAt, v_t_moved, .int t_unused, v_t_written, .int t_writtenMany])), (a_t_a, .inl (t 0, 876, .inl t_a_'))] sz none 0 0 := by
  refine wr_of (cc := cX8_joins) (maxL := 3) (ret := none) (by decide) rfl (Nat.le_of_ble_eq_true rfl) ?_
  intro p e s m args below meth c A Q hQ hx hb hr hml hts hown hlocks hin H locs hP hD hS hA hz hC ls hl
  have hown : s.vm.findClass RX8 = some m.cls := hown
  have hl : lv_has ls 3 [(0, .ref a_t), (1, .int p1)] := hl
  have hK := hC.1
  have iw8 : ∀ w ∈ wsX80, w ∈ wsX8_joins := fun _ h => List.mem_cons_of_mem _ (List.mem_append_right _ h)
  have hf7 := hts (.fieldLink RX8 7 "CrackedColumnModel" "a" "[I") (by decide +kernel)
  unfold f_X8_joins at hF
  refine lv_aload_n hx hb dX8_joins_0 rfl (lv_at hl 0 rfl) ?_
  refine lv_iload_n hx hb dX8_joins_1 rfl (lv_at hl 1 rfl) ?_
  refine lv_iconst (v := 1) hx hb dX8_joins_2 (by decide) ?_
  refine lv_aload_n hx hb dX8_joins_3 rfl (lv_at hl 0 rfl) ?_
  refine lv_iload_n hx hb dX8_joins_4 rfl (lv_at hl 1 rfl) ?_
  refine lv_iconst (v := 1) hx hb dX8_joins_5 (by decide) ?_
  obtain ⟨r6_1, h6_1, hF⟩ := bndE hF
  refine rdV (As := [.int p1, .int 1]) (rest := [.int 1, .int p1, .ref a_t]) (C := RX8) ⟨hx, hb, hml, hown, hts⟩ (c_X8_of l D t z x a_t a_t_a v_t_fresh v_t_aside v_t_kept v_t_buffer v_t_moved v_t_written t_keptMany t_thrown t_buffered t_size t_at t_behind t_kind t_number t_wrong t_wrongAt t_errorAt t_unused t_writtenMany t_a_ p1 1 H r6_1 h6_1) (cwV 2 hts gX8_joins_X8_of rfl rfl rfl hd_X8_of ⟨Nat.le_of_ble_eq_true rfl, Nat.le_of_ble_eq_true rfl⟩) (hC.at hz hS) (selP (m9 := [true, true]) rfl rfl hP) 0 rfl (show vwCl[8]? = some (RX8, TX8, 20) from rfl) rfl rfl hl.1 rfl (Nat.le_of_ble_eq_true rfl) dX8_joins_6 ⟨Nat.zero_le _, Nat.zero_le _⟩ rfl ?_
  refine lv_aload_n hx hb dX8_joins_9 rfl (lv_at hl 0 rfl) ?_
  refine lv_iload_n hx hb dX8_joins_10 rfl (lv_at hl 1 rfl) ?_
  refine lv_iconst (v := 1) hx hb dX8_joins_11 (by decide) ?_
  refine lv_iadd hx hb dX8_joins_12 ?_
  refine lv_iconst (v := 1) hx hb dX8_joins_13 (by decide) ?_
  obtain ⟨r14_3, h14_3, hF⟩ := bndE hF
  refine rdV (As := [.int (p1 + 1), .int 1]) (rest := [.int r6_1, .int 1, .int p1, .ref a_t]) (C := RX8) ⟨hx, hb, hml, hown, hts⟩ (c_X8_of l D t z x a_t a_t_a v_t_fresh v_t_aside v_t_kept v_t_buffer v_t_moved v_t_written t_keptMany t_thrown t_buffered t_size t_at t_behind t_kind t_number t_wrong t_wrongAt t_errorAt t_unused t_writtenMany t_a_ (p1 + 1) 1 H r14_3 h14_3) (cwV 2 hts gX8_joins_X8_of rfl rfl rfl hd_X8_of ⟨Nat.le_of_ble_eq_true rfl, Nat.le_of_ble_eq_true rfl⟩) (hC.at hz hS) (selP (m9 := [true, true]) rfl rfl hP) 0 rfl (show vwCl[8]? = some (RX8, TX8, 20) from rfl) rfl rfl hl.1 rfl (Nat.le_of_ble_eq_true rfl) dX8_joins_14 ⟨Nat.zero_le _, Nat.zero_le _⟩ rfl ?_
  refine lv_iadd hx hb dX8_joins_17 ?_
  obtain ⟨t_a_18_5, h18_5, hF⟩ := bndE hF
  refine wrVM (As := [.int p1, .int 1, .int (r6_1 + r14_3)]) (rest := []) (C := RX8) (wn := [(a_t, .inr (8, [.ref a_t_a, v_t_fresh, v_t_aside, v_t_kept, .int t_keptMany, .int t_thrown, v_t_buffer, .int t_buffered, .int t_size, .int t_at, .int t_behind, .int t_kind, .int t_number, .int t_wrong, .int t_wrongAt, .int t_errorAt, v_t_moved, .int t_unused, v_t_written, .int t_writtenMany])), (a_t_a, .inl (t 0, 876, .inl t_a_18_5))]) ⟨hx, hb, hml, hown, hts⟩ (c_X8_puts l D t z x a_t a_t_a v_t_fresh v_t_aside v_t_kept v_t_buffer v_t_moved v_t_written t_keptMany t_thrown t_buffered t_size t_at t_behind t_kind t_number t_wrong t_wrongAt t_errorAt t_unused t_writtenMany t_a_ p1 1 (r6_1 + r14_3) H.size t_a_18_5 h18_5) (cwV 3 hts gX8_joins_X8_puts rfl rfl rfl hd_X8_puts ⟨Nat.le_of_ble_eq_true rfl, Nat.le_of_ble_eq_true rfl⟩) (hC.at hz hS) hP hD hS hA hz [true, true] rfl rfl rfl rfl 0 rfl (show vwCl[8]? = some (RX8, TX8, 20) from rfl) rfl rfl hl.1 rfl (Nat.le_of_ble_eq_true rfl) dX8_joins_18 ⟨Nat.zero_le _, Nat.zero_le _⟩ rfl (fun H locs hP hD hS => ?_)
  refine lv_aload_n hx hb dX8_joins_21 rfl (lv_at hl 0 rfl) ?_
  refine lv_iload_n hx hb dX8_joins_22 rfl (lv_at hl 1 rfl) ?_
  refine lv_iconst (v := 2) hx hb dX8_joins_23 (by decide) ?_
  refine lv_aload_n hx hb dX8_joins_24 rfl (lv_at hl 0 rfl) ?_
  refine lv_iload_n hx hb dX8_joins_25 rfl (lv_at hl 1 rfl) ?_
  refine lv_iconst (v := 2) hx hb dX8_joins_26 (by decide) ?_
  obtain ⟨r27_7, h27_7, hF⟩ := bndE hF
  refine rdV (As := [.int p1, .int 2]) (rest := [.int 2, .int p1, .ref a_t]) (C := RX8) ⟨hx, hb, hml, hown, hts⟩ (c_X8_of l D t z x a_t a_t_a v_t_fresh v_t_aside v_t_kept v_t_buffer v_t_moved v_t_written t_keptMany t_thrown t_buffered t_size t_at t_behind t_kind t_number t_wrong t_wrongAt t_errorAt t_unused t_writtenMany t_a_18_5 p1 2 H r27_7 h27_7) (cwV 2 hts gX8_joins_X8_of rfl rfl rfl hd_X8_of ⟨Nat.le_of_ble_eq_true rfl, Nat.le_of_ble_eq_true rfl⟩) (hC.at hz hS) (selP (m9 := [true, true]) rfl rfl hP) 0 rfl (show vwCl[8]? = some (RX8, TX8, 20) from rfl) rfl rfl hl.1 rfl (Nat.le_of_ble_eq_true rfl) dX8_joins_27 ⟨Nat.zero_le _, Nat.zero_le _⟩ rfl ?_
  refine lv_aload_n hx hb dX8_joins_30 rfl (lv_at hl 0 rfl) ?_
  refine lv_iload_n hx hb dX8_joins_31 rfl (lv_at hl 1 rfl) ?_
  refine lv_iconst (v := 1) hx hb dX8_joins_32 (by decide) ?_
  refine lv_iadd hx hb dX8_joins_33 ?_
  refine lv_iconst (v := 2) hx hb dX8_joins_34 (by decide) ?_
  obtain ⟨r35_9, h35_9, hF⟩ := bndE hF
  refine rdV (As := [.int (p1 + 1), .int 2]) (rest := [.int r27_7, .int 2, .int p1, .ref a_t]) (C := RX8) ⟨hx, hb, hml, hown, hts⟩ (c_X8_of l D t z x a_t a_t_a v_t_fresh v_t_aside v_t_kept v_t_buffer v_t_moved v_t_written t_keptMany t_thrown t_buffered t_size t_at t_behind t_kind t_number t_wrong t_wrongAt t_errorAt t_unused t_writtenMany t_a_18_5 (p1 + 1) 2 H r35_9 h35_9) (cwV 2 hts gX8_joins_X8_of rfl rfl rfl hd_X8_of ⟨Nat.le_of_ble_eq_true rfl, Nat.le_of_ble_eq_true rfl⟩) (hC.at hz hS) (selP (m9 := [true, true]) rfl rfl hP) 0 rfl (show vwCl[8]? = some (RX8, TX8, 20) from rfl) rfl rfl hl.1 rfl (Nat.le_of_ble_eq_true rfl) dX8_joins_35 ⟨Nat.zero_le _, Nat.zero_le _⟩ rfl ?_
  refine lv_iadd hx hb dX8_joins_38 ?_
  obtain ⟨t_a_39_11, h39_11, hF⟩ := bndE hF
  refine wrVM (As := [.int p1, .int 2, .int (r27_7 + r35_9)]) (rest := []) (C := RX8) (wn := [(a_t, .inr (8, [.ref a_t_a, v_t_fresh, v_t_aside, v_t_kept, .int t_keptMany, .int t_thrown, v_t_buffer, .int t_buffered, .int t_size, .int t_at, .int t_behind, .int t_kind, .int t_number, .int t_wrong, .int t_wrongAt, .int t_errorAt, v_t_moved, .int t_unused, v_t_written, .int t_writtenMany])), (a_t_a, .inl (t 0, 876, .inl t_a_39_11))]) ⟨hx, hb, hml, hown, hts⟩ (c_X8_puts l D t z x a_t a_t_a v_t_fresh v_t_aside v_t_kept v_t_buffer v_t_moved v_t_written t_keptMany t_thrown t_buffered t_size t_at t_behind t_kind t_number t_wrong t_wrongAt t_errorAt t_unused t_writtenMany t_a_18_5 p1 2 (r27_7 + r35_9) H.size t_a_39_11 h39_11) (cwV 3 hts gX8_joins_X8_puts rfl rfl rfl hd_X8_puts ⟨Nat.le_of_ble_eq_true rfl, Nat.le_of_ble_eq_true rfl⟩) (hC.at hz hS) hP hD hS hA hz [true, true] rfl rfl rfl rfl 0 rfl (show vwCl[8]? = some (RX8, TX8, 20) from rfl) rfl rfl hl.1 rfl (Nat.le_of_ble_eq_true rfl) dX8_joins_39 ⟨Nat.zero_le _, Nat.zero_le _⟩ rfl (fun H locs hP hD hS => ?_)
  refine lv_aload_n hx hb dX8_joins_42 rfl (lv_at hl 0 rfl) ?_
  refine lv_iload_n hx hb dX8_joins_43 rfl (lv_at hl 1 rfl) ?_
  refine lv_iconst (v := 3) hx hb dX8_joins_44 (by decide) ?_
  refine lv_aload_n hx hb dX8_joins_45 rfl (lv_at hl 0 rfl) ?_
  refine lv_iload_n hx hb dX8_joins_46 rfl (lv_at hl 1 rfl) ?_
  refine lv_iconst (v := 3) hx hb dX8_joins_47 (by decide) ?_
  obtain ⟨r48_13, h48_13, hF⟩ := bndE hF
  refine rdV (As := [.int p1, .int 3]) (rest := [.int 3, .int p1, .ref a_t]) (C := RX8) ⟨hx, hb, hml, hown, hts⟩ (c_X8_of l D t z x a_t a_t_a v_t_fresh v_t_aside v_t_kept v_t_buffer v_t_moved v_t_written t_keptMany t_thrown t_buffered t_size t_at t_behind t_kind t_number t_wrong t_wrongAt t_errorAt t_unused t_writtenMany t_a_39_11 p1 3 H r48_13 h48_13) (cwV 2 hts gX8_joins_X8_of rfl rfl rfl hd_X8_of ⟨Nat.le_of_ble_eq_true rfl, Nat.le_of_ble_eq_true rfl⟩) (hC.at hz hS) (selP (m9 := [true, true]) rfl rfl hP) 0 rfl (show vwCl[8]? = some (RX8, TX8, 20) from rfl) rfl rfl hl.1 rfl (Nat.le_of_ble_eq_true rfl) dX8_joins_48 ⟨Nat.zero_le _, Nat.zero_le _⟩ rfl ?_
  refine lv_aload_n hx hb dX8_joins_51 rfl (lv_at hl 0 rfl) ?_
  refine lv_iload_n hx hb dX8_joins_52 rfl (lv_at hl 1 rfl) ?_
  refine lv_iconst (v := 1) hx hb dX8_joins_53 (by decide) ?_
  refine lv_iadd hx hb dX8_joins_54 ?_
  refine lv_iconst (v := 3) hx hb dX8_joins_55 (by decide) ?_
  obtain ⟨r56_15, h56_15, hF⟩ := bndE hF
  refine rdV (As := [.int (p1 + 1), .int 3]) (rest := [.int r48_13, .int 3, .int p1, .ref a_t]) (C := RX8) ⟨hx, hb, hml, hown, hts⟩ (c_X8_of l D t z x a_t a_t_a v_t_fresh v_t_aside v_t_kept v_t_buffer v_t_moved v_t_written t_keptMany t_thrown t_buffered t_size t_at t_behind t_kind t_number t_wrong t_wrongAt t_errorAt t_unused t_writtenMany t_a_39_11 (p1 + 1) 3 H r56_15 h56_15) (cwV 2 hts gX8_joins_X8_of rfl rfl rfl hd_X8_of ⟨Nat.le_of_ble_eq_true rfl, Nat.le_of_ble_eq_true rfl⟩) (hC.at hz hS) (selP (m9 := [true, true]) rfl rfl hP) 0 rfl (show vwCl[8]? = some (RX8, TX8, 20) from rfl) rfl rfl hl.1 rfl (Nat.le_of_ble_eq_true rfl) dX8_joins_56 ⟨Nat.zero_le _, Nat.zero_le _⟩ rfl ?_
  refine lv_imul hx hb dX8_joins_59 ?_
  obtain ⟨t_a_60_17, h60_17, hF⟩ := bndE hF
  refine wrVM (As := [.int p1, .int 3, .int (r48_13 * r56_15)]) (rest := []) (C := RX8) (wn := [(a_t, .inr (8, [.ref a_t_a, v_t_fresh, v_t_aside, v_t_kept, .int t_keptMany, .int t_thrown, v_t_buffer, .int t_buffered, .int t_size, .int t_at, .int t_behind, .int t_kind, .int t_number, .int t_wrong, .int t_wrongAt, .int t_errorAt, v_t_moved, .int t_unused, v_t_written, .int t_writtenMany])), (a_t_a, .inl (t 0, 876, .inl t_a_60_17))]) ⟨hx, hb, hml, hown, hts⟩ (c_X8_puts l D t z x a_t a_t_a v_t_fresh v_t_aside v_t_kept v_t_buffer v_t_moved v_t_written t_keptMany t_thrown t_buffered t_size t_at t_behind t_kind t_number t_wrong t_wrongAt t_errorAt t_unused t_writtenMany t_a_39_11 p1 3 (r48_13 * r56_15) H.size t_a_60_17 h60_17) (cwV 3 hts gX8_joins_X8_puts rfl rfl rfl hd_X8_puts ⟨Nat.le_of_ble_eq_true rfl, Nat.le_of_ble_eq_true rfl⟩) (hC.at hz hS) hP hD hS hA hz [true, true] rfl rfl rfl rfl 0 rfl (show vwCl[8]? = some (RX8, TX8, 20) from rfl) rfl rfl hl.1 rfl (Nat.le_of_ble_eq_true rfl) dX8_joins_60 ⟨Nat.zero_le _, Nat.zero_le _⟩ rfl (fun H locs hP hD hS => ?_)
  refine lv_aload_n hx hb dX8_joins_63 rfl (lv_at hl 0 rfl) ?_
  refine va_get (D := D) (ci := 8) (v := .ref a_t_a) (C := RX8) (T := TX8) (N := 20) hx hb hts iw8 hown hK hP 0 rfl rfl 0 (by decide) hf7 (fun _ h9 => h9) rfl dX8_joins_64 ?_
  refine lv_iconst (v := 3) hx hb dX8_joins_67 (by decide) ?_
  refine lv_dup2_11 hx hb dX8_joins_68 rfl rfl ?_
  refine my_iald (v := t_a_60_17 3) hx hb hK hP 1 0 rfl rfl (vp_lit (by decide +kernel)) rfl dX8_joins_69 ?_
  refine lv_iconst (v := 1) hx hb dX8_joins_70 (by decide) ?_
  refine lv_isub hx hb dX8_joins_71 ?_
  obtain ⟨t_a_72_19, et_a_72_19⟩ : ∃ y : Nat → Int32, y = upd t_a_60_17 3 ((t_a_60_17 3) - 1) := ⟨_, rfl⟩
  have hF := ltE et_a_72_19 hF
  refine my_iast (g := t_a_72_19) (wn := [(a_t, .inr (8, [.ref a_t_a, v_t_fresh, v_t_aside, v_t_kept, .int t_keptMany, .int t_thrown, v_t_buffer, .int t_buffered, .int t_size, .int t_at, .int t_behind, .int t_kind, .int t_number, .int t_wrong, .int t_wrongAt, .int t_errorAt, v_t_moved, .int t_unused, v_t_written, .int t_writtenMany])), (a_t_a, .inl (t 0, 876, .inl t_a_72_19))]) hx hb hK hP hD hS 1 0 rfl rfl (vp_lit (by decide +kernel)) et_a_72_19 rfl dX8_joins_72 (fun H locs hP hD hS => ?_)
  refine lv_sipush (v := 540) hx hb dX8_joins_73 (by decide) ?_
  refine lv_iconst (v := 4) hx hb dX8_joins_76 (by decide) ?_
  refine lv_iload_n hx hb dX8_joins_77 rfl (lv_at hl 1 rfl) ?_
  refine lv_iconst (v := 1) hx hb dX8_joins_78 (by decide) ?_
  refine lv_iadd hx hb dX8_joins_79 ?_
  refine lv_imul hx hb dX8_joins_80 ?_
  refine lv_iadd hx hb dX8_joins_81 ?_
  refine lv_topi (fun y82_20 ey82_20 => ?_)
  have hF := ltE ey82_20 hF
  refine lv_istore_n (lv' := [(2, .int y82_20), (0, .ref a_t), (1, .int p1)]) hx hb dX8_joins_82 rfl hl (by decide) rfl (fun ls hl => ?_)
  obtain ⟨k119_22, ek119_22, hF⟩ := jnE hF
  have hk119_22 : ∀ (t_a_119_21 : (Nat → Int32)) (H : Heap) (locs : List Loc) (ls : Array Slot), va_P D vwCl [(a_t, .inr (8, [.ref a_t_a, v_t_fresh, v_t_aside, v_t_kept, .int t_keptMany, .int t_thrown, v_t_buffer, .int t_buffered, .int t_size, .int t_at, .int t_behind, .int t_kind, .int t_number, .int t_wrong, .int t_wrongAt, .int t_errorAt, v_t_moved, .int t_unused, v_t_written, .int t_writtenMany])), (a_t_a, .inl (t 0, 876, .inl t_a_119_21))] H → va_D A [(a_t, .inr (8, [.ref a_t_a, v_t_fresh, v_t_aside, v_t_kept, .int t_keptMany, .int t_thrown, v_t_buffer, .int t_buffered, .int t_size, .int t_at, .int t_behind, .int t_kind, .int t_number, .int t_wrong, .int t_wrongAt, .int t_errorAt, v_t_moved, .int t_unused, v_t_written, .int t_writtenMany])), (a_t_a, .inl (t 0, 876, .inl t_a_119_21))] → va_S A s.heap H locs → lv_has ls 3 [] → k119_22 t_a_119_21 = some (t_a_') → W p l e rm_X8_joins s m args below meth c H locs 0 0 Q (F0 m 119 ls []) := by
    subst ek119_22
    intro t_a_119_21 H locs ls hP hD hS hl hF
    cases hF
    exact we_vret hx hb hr hlocks dX8_joins_119 rfl hQ hP hD hS
  have hlp83 : ∀ n83 : Nat, ∀ (x2_83_23 : Int32) (t_a_83_24 : (Nat → Int32)) (H : Heap) (locs : List Loc) (ls : Array Slot), va_P D vwCl [(a_t, .inr (8, [.ref a_t_a, v_t_fresh, v_t_aside, v_t_kept, .int t_keptMany, .int t_thrown, v_t_buffer, .int t_buffered, .int t_size, .int t_at, .int t_behind, .int t_kind, .int t_number, .int t_wrong, .int t_wrongAt, .int t_errorAt, v_t_moved, .int t_unused, v_t_written, .int t_writtenMany])), (a_t_a, .inl (t 0, 876, .inl t_a_83_24))] H → va_D A [(a_t, .inr (8, [.ref a_t_a, v_t_fresh, v_t_aside, v_t_kept, .int t_keptMany, .int t_thrown, v_t_buffer, .int t_buffered, .int t_size, .int t_at, .int t_behind, .int t_kind, .int t_number, .int t_wrong, .int t_wrongAt, .int t_errorAt, v_t_moved, .int t_unused, v_t_written, .int t_writtenMany])), (a_t_a, .inl (t 0, 876, .inl t_a_83_24))] → va_S A s.heap H locs → lv_has ls 3 [(0, .ref a_t), (2, .int x2_83_23)] → f_X8_joins_83 k119_22 n83 x2_83_23 t_a_83_24 = some (t_a_') → W p l e rm_X8_joins s m args below meth c H locs 0 0 Q (F0 m 83 ls []) := by
    intro n83
    induction n83 with
    | zero =>
      intro x2_83_23 t_a_83_24 H locs ls hP hD hS hl hF
      cases (show none = some (t_a_') from hF)
    | succ n83 ih83 =>
      intro x2_83_23 t_a_83_24 H locs ls hP hD hS hl hF
      rw [f_X8_joins_83] at hF
      refine lv_iload_n hx hb dX8_joins_83 rfl (lv_at hl 1 rfl) ?_
      refine lv_sipush (v := 540) hx hb dX8_joins_84 (by decide) ?_
      refine lv_iconst (v := 4) hx hb dX8_joins_87 (by decide) ?_
      refine lv_aload_n hx hb dX8_joins_88 rfl (lv_at hl 0 rfl) ?_
      refine va_get (D := D) (ci := 8) (v := .ref a_t_a) (C := RX8) (T := TX8) (N := 20) hx hb hts iw8 hown hK hP 0 rfl rfl 0 (by decide) hf7 (fun _ h9 => h9) rfl dX8_joins_89 ?_
      refine lv_iconst (v := 3) hx hb dX8_joins_92 (by decide) ?_
      refine my_iald (v := t_a_83_24 3) hx hb hK hP 1 0 rfl rfl (vp_lit (by decide +kernel)) rfl dX8_joins_93 ?_
      refine lv_imul hx hb dX8_joins_94 ?_
      refine lv_iadd hx hb dX8_joins_95 ?_
      refine lv_icmp_ge (tgt := 119) hx hb dX8_joins_96 (by decide) (fun c96 => ?_) (fun c96 => ?_)
      · have hF := brT c96 hF
        exact hk119_22 t_a_83_24 H locs ls hP hD hS (lv_sub hl [] rfl) hF
      · have hF := brF c96 hF
        refine lv_aload_n hx hb dX8_joins_99 rfl (lv_at hl 0 rfl) ?_
        refine va_get (D := D) (ci := 8) (v := .ref a_t_a) (C := RX8) (T := TX8) (N := 20) hx hb hts iw8 hown hK hP 0 rfl rfl 0 (by decide) hf7 (fun _ h9 => h9) rfl dX8_joins_100 ?_
        refine lv_iload_n hx hb dX8_joins_103 rfl (lv_at hl 1 rfl) ?_
        refine lv_aload_n hx hb dX8_joins_104 rfl (lv_at hl 0 rfl) ?_
        refine va_get (D := D) (ci := 8) (v := .ref a_t_a) (C := RX8) (T := TX8) (N := 20) hx hb hts iw8 hown hK hP 0 rfl rfl 0 (by decide) hf7 (fun _ h9 => h9) rfl dX8_joins_105 ?_
        refine lv_iload_n hx hb dX8_joins_108 rfl (lv_at hl 1 rfl) ?_
        refine lv_iconst (v := 4) hx hb dX8_joins_109 (by decide) ?_
        refine lv_iadd hx hb dX8_joins_110 ?_
        obtain ⟨g111_24, hF⟩ := gd hF
        refine my_iald (v := t_a_83_24 (x2_83_23 + 4).toNatClampNeg) hx hb hK hP 1 0 rfl rfl g111_24 rfl dX8_joins_111 ?_
        obtain ⟨g112_26, hF⟩ := gd hF
        obtain ⟨t_a_112_27, et_a_112_27⟩ : ∃ y : Nat → Int32, y = upd t_a_83_24 x2_83_23.toNatClampNeg (t_a_83_24 (x2_83_23 + 4).toNatClampNeg) := ⟨_, rfl⟩
        have hF := ltE et_a_112_27 hF
        refine my_iast (g := t_a_112_27) (wn := [(a_t, .inr (8, [.ref a_t_a, v_t_fresh, v_t_aside, v_t_kept, .int t_keptMany, .int t_thrown, v_t_buffer, .int t_buffered, .int t_size, .int t_at, .int t_behind, .int t_kind, .int t_number, .int t_wrong, .int t_wrongAt, .int t_errorAt, v_t_moved, .int t_unused, v_t_written, .int t_writtenMany])), (a_t_a, .inl (t 0, 876, .inl t_a_112_27))]) hx hb hK hP hD hS 1 0 rfl rfl g112_26 et_a_112_27 rfl dX8_joins_112 (fun H locs hP hD hS => ?_)
        obtain ⟨y113_28, ey113_28⟩ : ∃ y : Int32, y = x2_83_23 + 1 := ⟨_, rfl⟩
        have hF := ltE ey113_28 hF
        refine lv_iinc (v := y113_28) (lv' := [(2, .int y113_28), (0, .ref a_t)]) hx hb dX8_joins_113 hl (k := 1) rfl (by rw [ey113_28]; rfl) (by decide) rfl (fun ls hl => ?_)
        refine lv_goto (tgt := 83) hx hb dX8_joins_116 (by decide) ?_
        exact ih83 y113_28 t_a_112_27 H locs ls hP hD hS (lv_sub hl [1, 0] rfl) hF
  exact hlp83 N y82_20 t_a_72_19 H locs ls hP hD hS (lv_sub hl [1, 0] rfl) hF
abbrev rm_X8_coldest : Room := { frames := 1, cells := 0, slots := 0, locals := 22 }
theorem hd_X8_coldest : yX8_coldest.cls = RX8 ∧ yX8_coldest.cls ≠ "java/lang/invoke/MethodHandle" ∧ yX8_coldest.cls ≠ "java/lang/invoke/VarHandle" ∧ (parseMethodDescriptor yX8_coldest.desc).map (fun d => d.parameters.length) = some 0 := by decide +kernel
set_option maxRecDepth 100000 in
set_option maxHeartbeats 4000000 in
theorem c_X8_coldest (l : Launch) (D : va_G) (t : Nat → ClassId) (z : Nat) (x : Nat → Nat) (N : Nat) (a_t : Nat) (a_t_a : Nat) (v_t_fresh : Value) (v_t_aside : Value) (v_t_kept : Value) (v_t_buffer : Value) (v_t_moved : Value) (v_t_written : Value) (t_keptMany : Int32) (t_thrown : Int32) (t_buffered : Int32) (t_size : Int32) (t_at : Int32) (t_behind : Int32) (t_kind : Int32) (t_number : Int32) (t_wrong : Int32) (t_wrongAt : Int32) (t_errorAt : Int32) (t_unused : Int32) (t_writtenMany : Int32) (t_a_ : (Nat → Int32)) (H : Heap) (r : Int32) (hF : f_X8_coldest N t_a_ = some (r)) : RdM l D (TY t) z x yX8_coldest wsX8_coldest rm_X8_coldest [.ref a_t] [(a_t, .inr (8, [.ref a_t_a, v_t_fresh, v_t_aside, v_t_kept, .int t_keptMany, .int t_thrown, v_t_buffer, .int t_buffered, .int t_size, .int t_at, .int t_behind, .int t_kind, .int t_number, .int t_wrong, .int t_wrongAt, .int t_errorAt, v_t_moved, .int t_unused, v_t_written, .int t_writtenMany])), (a_t_a, .inl (t 0, 876, .inl t_a_))] H (some (.int r)) := by
  refine rd_of (cc := cX8_coldest) (maxL := 3) (ret := (some .int)) (by decide) rfl (Nat.le_of_ble_eq_true rfl) ?_
  intro p e s m args below meth c Q hQ hx hb hr hml hts hown hlocks hH hP hC ls hl
  have hown : s.vm.findClass RX8 = some m.cls := hown
  have hl : lv_has ls 3 [(0, .ref a_t)] := hl
  have hK := hC.1
  have iw8 : ∀ w ∈ wsX80, w ∈ wsX8_coldest := fun _ h => List.mem_cons_of_mem _ (List.mem_append_right _ h)
  have hf7 := hts (.fieldLink RX8 7 "CrackedColumnModel" "a" "[I") (by decide +kernel)
  unfold f_X8_coldest at hF
  refine lv_iconst (v := 0) hx hb dX8_coldest_0 (by decide) ?_
  refine lv_istore_n (lv' := [(1, .int 0), (0, .ref a_t)]) hx hb dX8_coldest_1 rfl hl (by decide) rfl (fun ls hl => ?_)
  refine lv_iconst (v := 1) hx hb dX8_coldest_2 (by decide) ?_
  refine lv_istore_n (lv' := [(2, .int 1), (1, .int 0), (0, .ref a_t)]) hx hb dX8_coldest_3 rfl hl (by decide) rfl (fun ls hl => ?_)
  obtain ⟨k61_2, ek61_2, hF⟩ := jnE hF
  have hk61_2 : ∀ (x1_61_1 : Int32) (ls : Array Slot), lv_has ls 3 [(1, .int x1_61_1)] → k61_2 x1_61_1 = some (r) → W p l e rm_X8_coldest s m args below meth c H [] 0 0 Q (F0 m 61 ls []) := by
    subst ek61_2
    intro x1_61_1 ls hl hF
    refine lv_iload_n hx hb dX8_coldest_61 rfl (lv_at hl 0 rfl) ?_
    cases hF
    exact rd_iret hx hb hr hlocks dX8_coldest_62 rfl hQ
  have hlp4 : ∀ n4 : Nat, ∀ (x1_4_3 : Int32) (x2_4_4 : Int32) (ls : Array Slot), lv_has ls 3 [(0, .ref a_t), (1, .int x1_4_3), (2, .int x2_4_4)] → f_X8_coldest_4 t_a_ k61_2 n4 x1_4_3 x2_4_4 = some (r) → W p l e rm_X8_coldest s m args below meth c H [] 0 0 Q (F0 m 4 ls []) := by
    intro n4
    induction n4 with
    | zero =>
      intro x1_4_3 x2_4_4 ls hl hF
      cases (show none = some (r) from hF)
    | succ n4 ih4 =>
      intro x1_4_3 x2_4_4 ls hl hF
      rw [f_X8_coldest_4] at hF
      refine lv_iload_n hx hb dX8_coldest_4 rfl (lv_at hl 2 rfl) ?_
      refine lv_aload_n hx hb dX8_coldest_5 rfl (lv_at hl 0 rfl) ?_
      refine va_get (D := D) (ci := 8) (v := .ref a_t_a) (C := RX8) (T := TX8) (N := 20) hx hb hts iw8 hown hK hP 0 rfl rfl 0 (by decide) hf7 (fun _ h9 => h9) rfl dX8_coldest_6 ?_
      refine lv_iconst (v := 3) hx hb dX8_coldest_9 (by decide) ?_
      refine my_iald (v := t_a_ 3) hx hb hK hP 1 0 rfl rfl (vp_lit (by decide +kernel)) rfl dX8_coldest_10 ?_
      refine lv_iconst (v := 1) hx hb dX8_coldest_11 (by decide) ?_
      refine lv_isub hx hb dX8_coldest_12 ?_
      refine lv_icmp_ge (tgt := 61) hx hb dX8_coldest_13 (by decide) (fun c13 => ?_) (fun c13 => ?_)
      · have hF := brT c13 hF
        exact hk61_2 x1_4_3 ls (lv_sub hl [1] rfl) hF
      · have hF := brF c13 hF
        refine lv_aload_n hx hb dX8_coldest_16 rfl (lv_at hl 0 rfl) ?_
        refine lv_iload_n hx hb dX8_coldest_17 rfl (lv_at hl 2 rfl) ?_
        refine lv_iconst (v := 2) hx hb dX8_coldest_18 (by decide) ?_
        obtain ⟨r19_5, h19_5, hF⟩ := bndE hF
        refine rdV (As := [.int x2_4_4, .int 2]) (rest := []) (C := RX8) ⟨hx, hb, hml, hown, hts⟩ (c_X8_of l D t z x a_t a_t_a v_t_fresh v_t_aside v_t_kept v_t_buffer v_t_moved v_t_written t_keptMany t_thrown t_buffered t_size t_at t_behind t_kind t_number t_wrong t_wrongAt t_errorAt t_unused t_writtenMany t_a_ x2_4_4 2 H r19_5 h19_5) (cwV 2 hts gX8_coldest_X8_of rfl rfl rfl hd_X8_of ⟨Nat.le_of_ble_eq_true rfl, Nat.le_of_ble_eq_true rfl⟩) hC (selP (m9 := [true, true]) rfl rfl hP) 0 rfl (show vwCl[8]? = some (RX8, TX8, 20) from rfl) rfl rfl hl.1 rfl (Nat.le_of_ble_eq_true rfl) dX8_coldest_19 ⟨Nat.zero_le _, Nat.zero_le _⟩ rfl ?_
        refine lv_aload_n hx hb dX8_coldest_22 rfl (lv_at hl 0 rfl) ?_
        refine lv_iload_n hx hb dX8_coldest_23 rfl (lv_at hl 2 rfl) ?_
        refine lv_iconst (v := 1) hx hb dX8_coldest_24 (by decide) ?_
        refine lv_iadd hx hb dX8_coldest_25 ?_
        refine lv_iconst (v := 2) hx hb dX8_coldest_26 (by decide) ?_
        obtain ⟨r27_7, h27_7, hF⟩ := bndE hF
        refine rdV (As := [.int (x2_4_4 + 1), .int 2]) (rest := [.int r19_5]) (C := RX8) ⟨hx, hb, hml, hown, hts⟩ (c_X8_of l D t z x a_t a_t_a v_t_fresh v_t_aside v_t_kept v_t_buffer v_t_moved v_t_written t_keptMany t_thrown t_buffered t_size t_at t_behind t_kind t_number t_wrong t_wrongAt t_errorAt t_unused t_writtenMany t_a_ (x2_4_4 + 1) 2 H r27_7 h27_7) (cwV 2 hts gX8_coldest_X8_of rfl rfl rfl hd_X8_of ⟨Nat.le_of_ble_eq_true rfl, Nat.le_of_ble_eq_true rfl⟩) hC (selP (m9 := [true, true]) rfl rfl hP) 0 rfl (show vwCl[8]? = some (RX8, TX8, 20) from rfl) rfl rfl hl.1 rfl (Nat.le_of_ble_eq_true rfl) dX8_coldest_27 ⟨Nat.zero_le _, Nat.zero_le _⟩ rfl ?_
        refine lv_iadd hx hb dX8_coldest_30 ?_
        refine lv_aload_n hx hb dX8_coldest_31 rfl (lv_at hl 0 rfl) ?_
        refine lv_iload_n hx hb dX8_coldest_32 rfl (lv_at hl 1 rfl) ?_
        refine lv_iconst (v := 2) hx hb dX8_coldest_33 (by decide) ?_
        obtain ⟨r34_9, h34_9, hF⟩ := bndE hF
        refine rdV (As := [.int x1_4_3, .int 2]) (rest := [.int (r19_5 + r27_7)]) (C := RX8) ⟨hx, hb, hml, hown, hts⟩ (c_X8_of l D t z x a_t a_t_a v_t_fresh v_t_aside v_t_kept v_t_buffer v_t_moved v_t_written t_keptMany t_thrown t_buffered t_size t_at t_behind t_kind t_number t_wrong t_wrongAt t_errorAt t_unused t_writtenMany t_a_ x1_4_3 2 H r34_9 h34_9) (cwV 2 hts gX8_coldest_X8_of rfl rfl rfl hd_X8_of ⟨Nat.le_of_ble_eq_true rfl, Nat.le_of_ble_eq_true rfl⟩) hC (selP (m9 := [true, true]) rfl rfl hP) 0 rfl (show vwCl[8]? = some (RX8, TX8, 20) from rfl) rfl rfl hl.1 rfl (Nat.le_of_ble_eq_true rfl) dX8_coldest_34 ⟨Nat.zero_le _, Nat.zero_le _⟩ rfl ?_
        refine lv_aload_n hx hb dX8_coldest_37 rfl (lv_at hl 0 rfl) ?_
        refine lv_iload_n hx hb dX8_coldest_38 rfl (lv_at hl 1 rfl) ?_
        refine lv_iconst (v := 1) hx hb dX8_coldest_39 (by decide) ?_
        refine lv_iadd hx hb dX8_coldest_40 ?_
        refine lv_iconst (v := 2) hx hb dX8_coldest_41 (by decide) ?_
        obtain ⟨r42_11, h42_11, hF⟩ := bndE hF
        refine rdV (As := [.int (x1_4_3 + 1), .int 2]) (rest := [.int r34_9, .int (r19_5 + r27_7)]) (C := RX8) ⟨hx, hb, hml, hown, hts⟩ (c_X8_of l D t z x a_t a_t_a v_t_fresh v_t_aside v_t_kept v_t_buffer v_t_moved v_t_written t_keptMany t_thrown t_buffered t_size t_at t_behind t_kind t_number t_wrong t_wrongAt t_errorAt t_unused t_writtenMany t_a_ (x1_4_3 + 1) 2 H r42_11 h42_11) (cwV 2 hts gX8_coldest_X8_of rfl rfl rfl hd_X8_of ⟨Nat.le_of_ble_eq_true rfl, Nat.le_of_ble_eq_true rfl⟩) hC (selP (m9 := [true, true]) rfl rfl hP) 0 rfl (show vwCl[8]? = some (RX8, TX8, 20) from rfl) rfl rfl hl.1 rfl (Nat.le_of_ble_eq_true rfl) dX8_coldest_42 ⟨Nat.zero_le _, Nat.zero_le _⟩ rfl ?_
        refine lv_iadd hx hb dX8_coldest_45 ?_
        refine lv_icmp_ge (tgt := 53) hx hb dX8_coldest_46 (by decide) (fun c46 => ?_) (fun c46 => ?_)
        · have hF := brT c46 hF
          refine lv_iload_n hx hb dX8_coldest_53 rfl (lv_at hl 1 rfl) ?_
          refine lv_istore_n (lv' := [(1, .int x1_4_3), (0, .ref a_t), (2, .int x2_4_4)]) hx hb dX8_coldest_54 rfl hl (by decide) rfl (fun ls hl => ?_)
          obtain ⟨y55_13, ey55_13⟩ : ∃ y : Int32, y = x2_4_4 + 1 := ⟨_, rfl⟩
          have hF := ltE ey55_13 hF
          refine lv_iinc (v := y55_13) (lv' := [(2, .int y55_13), (1, .int x1_4_3), (0, .ref a_t)]) hx hb dX8_coldest_55 hl (k := 2) rfl (by rw [ey55_13]; rfl) (by decide) rfl (fun ls hl => ?_)
          refine lv_goto (tgt := 4) hx hb dX8_coldest_58 (by decide) ?_
          exact ih4 x1_4_3 y55_13 ls (lv_sub hl [2, 1, 0] rfl) hF
        · have hF := brF c46 hF
          refine lv_iload_n hx hb dX8_coldest_49 rfl (lv_at hl 2 rfl) ?_
          refine lv_goto (tgt := 54) hx hb dX8_coldest_50 (by decide) ?_
          refine lv_istore_n (lv' := [(1, .int x2_4_4), (0, .ref a_t), (2, .int x2_4_4)]) hx hb dX8_coldest_54 rfl hl (by decide) rfl (fun ls hl => ?_)
          obtain ⟨y55_14, ey55_14⟩ : ∃ y : Int32, y = x2_4_4 + 1 := ⟨_, rfl⟩
          have hF := ltE ey55_14 hF
          refine lv_iinc (v := y55_14) (lv' := [(2, .int y55_14), (1, .int x2_4_4), (0, .ref a_t)]) hx hb dX8_coldest_55 hl (k := 2) rfl (by rw [ey55_14]; rfl) (by decide) rfl (fun ls hl => ?_)
          refine lv_goto (tgt := 4) hx hb dX8_coldest_58 (by decide) ?_
          exact ih4 x2_4_4 y55_14 ls (lv_sub hl [2, 1, 0] rfl) hF
  exact hlp4 N 0 1 ls (lv_sub hl [2, 1, 0] rfl) hF
abbrev rm_X8_placeOf : Room := { frames := 0, cells := 0, slots := 0, locals := 0 }
theorem hd_X8_placeOf : yX8_placeOf.cls = RX8 ∧ yX8_placeOf.cls ≠ "java/lang/invoke/MethodHandle" ∧ yX8_placeOf.cls ≠ "java/lang/invoke/VarHandle" ∧ (parseMethodDescriptor yX8_placeOf.desc).map (fun d => d.parameters.length) = some 1 := by decide +kernel
set_option maxRecDepth 100000 in
set_option maxHeartbeats 4000000 in
theorem c_X8_placeOf (l : Launch) (D : va_G) (t : Nat → ClassId) (z : Nat) (x : Nat → Nat) (N : Nat) (a_t : Nat) (a_t_a : Nat) (v_t_fresh : Value) (v_t_aside : Value) (v_t_kept : Value) (v_t_buffer : Value) (v_t_moved : Value) (v_t_written : Value) (t_keptMany : Int32) (t_thrown : Int32) (t_buffered : Int32) (t_size : Int32) (t_at : Int32) (t_behind : Int32) (t_kind : Int32) (t_number : Int32) (t_wrong : Int32) (t_wrongAt : Int32) (t_errorAt : Int32) (t_unused : Int32) (t_writtenMany : Int32) (t_a_ : (Nat → Int32)) (p1 : Int32) (H : Heap) (r : Int32) (hF : f_X8_placeOf N t_a_ p1 = some (r)) : RdM l D (TY t) z x yX8_placeOf wsX8_placeOf rm_X8_placeOf [.ref a_t, .int p1] [(a_t, .inr (8, [.ref a_t_a, v_t_fresh, v_t_aside, v_t_kept, .int t_keptMany, .int t_thrown, v_t_buffer, .int t_buffered, .int t_size, .int t_at, .int t_behind, .int t_kind, .int t_number, .int t_wrong, .int t_wrongAt, .int t_errorAt, v_t_moved, .int t_unused, v_t_written, .int t_writtenMany])), (a_t_a, .inl (t 0, 876, .inl t_a_))] H (some (.int r)) := by
  refine rd_of (cc := cX8_placeOf) (maxL := 3) (ret := (some .int)) (by decide) rfl (Nat.le_of_ble_eq_true rfl) ?_
  intro p e s m args below meth c Q hQ hx hb hr hml hts hown hlocks hH hP hC ls hl
  have hown : s.vm.findClass RX8 = some m.cls := hown
  have hl : lv_has ls 3 [(0, .ref a_t), (1, .int p1)] := hl
  have hK := hC.1
  have iw8 : ∀ w ∈ wsX80, w ∈ wsX8_placeOf := fun _ h => List.mem_cons_of_mem _ (List.mem_append_right _ h)
  have hf7 := hts (.fieldLink RX8 7 "CrackedColumnModel" "a" "[I") (by decide +kernel)
  unfold f_X8_placeOf at hF
  refine lv_iconst (v := 0) hx hb dX8_placeOf_0 (by decide) ?_
  refine lv_istore_n (lv' := [(2, .int 0), (0, .ref a_t), (1, .int p1)]) hx hb dX8_placeOf_1 rfl hl (by decide) rfl (fun ls hl => ?_)
  obtain ⟨k34_1, ek34_1, hF⟩ := jnE hF
  have hk34_1 : ∀ (ls : Array Slot), lv_has ls 3 [] → k34_1 = some (r) → W p l e rm_X8_placeOf s m args below meth c H [] 0 0 Q (F0 m 34 ls []) := by
    subst ek34_1
    intro ls hl hF
    refine lv_iconst (v := (-1)) hx hb dX8_placeOf_34 (by decide) ?_
    cases hF
    exact rd_iret hx hb hr hlocks dX8_placeOf_35 rfl hQ
  obtain ⟨k26_3, ek26_3, hF⟩ := jnE hF
  have hk26_3 : ∀ (x2_26_2 : Int32) (ls : Array Slot), lv_has ls 3 [(2, .int x2_26_2)] → k26_3 x2_26_2 = some (r) → W p l e rm_X8_placeOf s m args below meth c H [] 0 0 Q (F0 m 26 ls []) := by
    subst ek26_3
    intro x2_26_2 ls hl hF
    refine lv_iload_n hx hb dX8_placeOf_26 rfl (lv_at hl 0 rfl) ?_
    cases hF
    exact rd_iret hx hb hr hlocks dX8_placeOf_27 rfl hQ
  have hlp2 : ∀ n2 : Nat, ∀ (x2_2_4 : Int32) (ls : Array Slot), lv_has ls 3 [(0, .ref a_t), (1, .int p1), (2, .int x2_2_4)] → f_X8_placeOf_2 t_a_ p1 k34_1 k26_3 n2 x2_2_4 = some (r) → W p l e rm_X8_placeOf s m args below meth c H [] 0 0 Q (F0 m 2 ls []) := by
    intro n2
    induction n2 with
    | zero =>
      intro x2_2_4 ls hl hF
      cases (show none = some (r) from hF)
    | succ n2 ih2 =>
      intro x2_2_4 ls hl hF
      rw [f_X8_placeOf_2] at hF
      refine lv_iload_n hx hb dX8_placeOf_2 rfl (lv_at hl 2 rfl) ?_
      refine lv_aload_n hx hb dX8_placeOf_3 rfl (lv_at hl 0 rfl) ?_
      refine va_get (D := D) (ci := 8) (v := .ref a_t_a) (C := RX8) (T := TX8) (N := 20) hx hb hts iw8 hown hK hP 0 rfl rfl 0 (by decide) hf7 (fun _ h9 => h9) rfl dX8_placeOf_4 ?_
      refine lv_iconst (v := 1) hx hb dX8_placeOf_7 (by decide) ?_
      refine my_iald (v := t_a_ 1) hx hb hK hP 1 0 rfl rfl (vp_lit (by decide +kernel)) rfl dX8_placeOf_8 ?_
      refine lv_icmp_ge (tgt := 34) hx hb dX8_placeOf_9 (by decide) (fun c9 => ?_) (fun c9 => ?_)
      · have hF := brT c9 hF
        exact hk34_1 ls (lv_sub hl [] rfl) hF
      · have hF := brF c9 hF
        refine lv_aload_n hx hb dX8_placeOf_12 rfl (lv_at hl 0 rfl) ?_
        refine va_get (D := D) (ci := 8) (v := .ref a_t_a) (C := RX8) (T := TX8) (N := 20) hx hb hts iw8 hown hK hP 0 rfl rfl 0 (by decide) hf7 (fun _ h9 => h9) rfl dX8_placeOf_13 ?_
        refine lv_sipush (v := 380) hx hb dX8_placeOf_16 (by decide) ?_
        refine lv_iload_n hx hb dX8_placeOf_19 rfl (lv_at hl 2 rfl) ?_
        refine lv_iadd hx hb dX8_placeOf_20 ?_
        obtain ⟨g21_4, hF⟩ := gd hF
        refine my_iald (v := t_a_ (380 + x2_2_4).toNatClampNeg) hx hb hK hP 1 0 rfl rfl g21_4 rfl dX8_placeOf_21 ?_
        refine lv_iload_n hx hb dX8_placeOf_22 rfl (lv_at hl 1 rfl) ?_
        refine lv_icmp_ne (tgt := 28) hx hb dX8_placeOf_23 (by decide) (fun c23 => ?_) (fun c23 => ?_)
        · have hF := brF c23 hF
          obtain ⟨y28_6, ey28_6⟩ : ∃ y : Int32, y = x2_2_4 + 1 := ⟨_, rfl⟩
          have hF := ltE ey28_6 hF
          refine lv_iinc (v := y28_6) (lv' := [(2, .int y28_6), (0, .ref a_t), (1, .int p1)]) hx hb dX8_placeOf_28 hl (k := 2) rfl (by rw [ey28_6]; rfl) (by decide) rfl (fun ls hl => ?_)
          refine lv_goto (tgt := 2) hx hb dX8_placeOf_31 (by decide) ?_
          exact ih2 y28_6 ls (lv_sub hl [1, 2, 0] rfl) hF
        · have hF := brT c23 hF
          exact hk26_3 x2_2_4 ls (lv_sub hl [2] rfl) hF
  exact hlp2 N 0 ls (lv_sub hl [1, 2, 0] rfl) hF
abbrev rm_X8_comes : Room := { frames := 2, cells := 0, slots := 0, locals := 45 }
theorem hd_X8_comes : yX8_comes.cls = RX8 ∧ yX8_comes.cls ≠ "java/lang/invoke/MethodHandle" ∧ yX8_comes.cls ≠ "java/lang/invoke/VarHandle" ∧ (parseMethodDescriptor yX8_comes.desc).map (fun d => d.parameters.length) = some 2 := by decide +kernel
set_option maxRecDepth 100000 in
set_option maxHeartbeats 4000000 in
theorem c_X8_comes (l : Launch) (D : va_G) (t : Nat → ClassId) (z : Nat) (x : Nat → Nat) (N : Nat) (a_t : Nat) (a_t_a : Nat) (v_t_fresh : Value) (v_t_aside : Value) (v_t_kept : Value) (v_t_buffer : Value) (v_t_moved : Value) (v_t_written : Value) (t_keptMany : Int32) (t_thrown : Int32) (t_buffered : Int32) (t_size : Int32) (t_at : Int32) (t_behind : Int32) (t_kind : Int32) (t_number : Int32) (t_wrong : Int32) (t_wrongAt : Int32) (t_errorAt : Int32) (t_unused : Int32) (t_writtenMany : Int32) (t_a_ : (Nat → Int32)) (p1 : Int32) (p2 : Int32) (sz : Nat) (t_a_' : (Nat → Int32)) (hF : f_X8_comes N t_a_ p1 p2 = some (t_a_')) : WrM l D (TY t) z x yX8_comes wsX8_comes rm_X8_comes [.ref a_t, .int p1, .int p2] [(a_t, .inr (8, [.ref a_t_a, v_t_fresh, v_t_aside, v_t_kept, .int t_keptMany, .int t_thrown, v_t_buffer, .int t_buffered, .int t_size, .int t_at, .int t_behind, .int t_kind, .int t_number, .int t_wrong, .int t_wrongAt, .int t_errorAt, v_t_moved, .int t_unused, v_t_written, .int t_writtenMany])), (a_t_a, .inl (t 0, 876, .inl t_a_))] [(a_t, .inr (8, [.ref a_t_a, v_t_fresh, v_t_aside, v_t_kept, .int t_keptMany, .int t_thrown, v_t_buffer, .int t_buffered, .int t_size, .int t_at, .int t_behind, .int t_kind, .int t_number, .int t_wrong, .int t_wrongAt, .int t_errorAt, v_t_moved, .int t_unused, v_t_written, .int t_writtenMany])), (a_t_a, .inl (t 0, 876, .inl t_a_'))] sz none 0 0 := by
  refine wr_of (cc := cX8_comes) (maxL := 5) (ret := none) (by decide) rfl (Nat.le_of_ble_eq_true rfl) ?_
  intro p e s m args below meth c A Q hQ hx hb hr hml hts hown hlocks hin H locs hP hD hS hA hz hC ls hl
  have hown : s.vm.findClass RX8 = some m.cls := hown
  have hl : lv_has ls 5 [(0, .ref a_t), (1, .int p1), (2, .int p2)] := hl
  have hK := hC.1
  have iw8 : ∀ w ∈ wsX80, w ∈ wsX8_comes := fun _ h => List.mem_cons_of_mem _ (List.mem_append_right _ h)
  have hf7 := hts (.fieldLink RX8 7 "CrackedColumnModel" "a" "[I") (by decide +kernel)
  unfold f_X8_comes at hF
  refine lv_aload_n hx hb dX8_comes_0 rfl (lv_at hl 0 rfl) ?_
  refine lv_iload_n hx hb dX8_comes_1 rfl (lv_at hl 2 rfl) ?_
  obtain ⟨r2_1, h2_1, hF⟩ := bndE hF
  refine rdV (As := [.int p2]) (rest := []) (C := RX8) ⟨hx, hb, hml, hown, hts⟩ (c_X8_firstPlace l D t z x N a_t a_t_a v_t_fresh v_t_aside v_t_kept v_t_buffer v_t_moved v_t_written t_keptMany t_thrown t_buffered t_size t_at t_behind t_kind t_number t_wrong t_wrongAt t_errorAt t_unused t_writtenMany t_a_ p2 H r2_1 h2_1) (cwV 1 hts gX8_comes_X8_firstPlace rfl rfl rfl hd_X8_firstPlace ⟨Nat.le_of_ble_eq_true rfl, Nat.le_of_ble_eq_true rfl⟩) (hC.at hz hS) (selP (m9 := [true, true]) rfl rfl hP) 0 rfl (show vwCl[8]? = some (RX8, TX8, 20) from rfl) rfl rfl hl.1 rfl (Nat.le_of_ble_eq_true rfl) dX8_comes_2 ⟨Nat.zero_le _, Nat.zero_le _⟩ rfl ?_
  refine lv_aload_n hx hb dX8_comes_5 rfl (lv_at hl 0 rfl) ?_
  refine lv_iload_n hx hb dX8_comes_6 rfl (lv_at hl 2 rfl) ?_
  refine lv_iconst (v := 1) hx hb dX8_comes_7 (by decide) ?_
  obtain ⟨r8_3, h8_3, hF⟩ := bndE hF
  refine rdV (As := [.int p2, .int 1]) (rest := [.int r2_1]) (C := RX8) ⟨hx, hb, hml, hown, hts⟩ (c_X8_of l D t z x a_t a_t_a v_t_fresh v_t_aside v_t_kept v_t_buffer v_t_moved v_t_written t_keptMany t_thrown t_buffered t_size t_at t_behind t_kind t_number t_wrong t_wrongAt t_errorAt t_unused t_writtenMany t_a_ p2 1 H r8_3 h8_3) (cwV 2 hts gX8_comes_X8_of rfl rfl rfl hd_X8_of ⟨Nat.le_of_ble_eq_true rfl, Nat.le_of_ble_eq_true rfl⟩) (hC.at hz hS) (selP (m9 := [true, true]) rfl rfl hP) 0 rfl (show vwCl[8]? = some (RX8, TX8, 20) from rfl) rfl rfl hl.1 rfl (Nat.le_of_ble_eq_true rfl) dX8_comes_8 ⟨Nat.zero_le _, Nat.zero_le _⟩ rfl ?_
  refine lv_iadd hx hb dX8_comes_11 ?_
  refine lv_topi (fun y12_5 ey12_5 => ?_)
  have hF := ltE ey12_5 hF
  refine lv_istore_n (lv' := [(3, .int y12_5), (0, .ref a_t), (1, .int p1), (2, .int p2)]) hx hb dX8_comes_12 rfl hl (by decide) rfl (fun ls hl => ?_)
  obtain ⟨k58_7, ek58_7, hF⟩ := jnE hF
  have hk58_7 : ∀ (x3_58_6 : Int32) (H : Heap) (locs : List Loc) (ls : Array Slot), va_P D vwCl [(a_t, .inr (8, [.ref a_t_a, v_t_fresh, v_t_aside, v_t_kept, .int t_keptMany, .int t_thrown, v_t_buffer, .int t_buffered, .int t_size, .int t_at, .int t_behind, .int t_kind, .int t_number, .int t_wrong, .int t_wrongAt, .int t_errorAt, v_t_moved, .int t_unused, v_t_written, .int t_writtenMany])), (a_t_a, .inl (t 0, 876, .inl t_a_))] H → va_D A [(a_t, .inr (8, [.ref a_t_a, v_t_fresh, v_t_aside, v_t_kept, .int t_keptMany, .int t_thrown, v_t_buffer, .int t_buffered, .int t_size, .int t_at, .int t_behind, .int t_kind, .int t_number, .int t_wrong, .int t_wrongAt, .int t_errorAt, v_t_moved, .int t_unused, v_t_written, .int t_writtenMany])), (a_t_a, .inl (t 0, 876, .inl t_a_))] → va_S A s.heap H locs → lv_has ls 5 [(0, .ref a_t), (1, .int p1), (2, .int p2), (3, .int x3_58_6)] → k58_7 x3_58_6 = some (t_a_') → W p l e rm_X8_comes s m args below meth c H locs 0 0 Q (F0 m 58 ls []) := by
    subst ek58_7
    intro x3_58_6 H locs ls hP hD hS hl hF
    refine lv_aload_n hx hb dX8_comes_58 rfl (lv_at hl 0 rfl) ?_
    refine va_get (D := D) (ci := 8) (v := .ref a_t_a) (C := RX8) (T := TX8) (N := 20) hx hb hts iw8 hown hK hP 0 rfl rfl 0 (by decide) hf7 (fun _ h9 => h9) rfl dX8_comes_59 ?_
    refine lv_iconst (v := 1) hx hb dX8_comes_62 (by decide) ?_
    refine my_iald (v := t_a_ 1) hx hb hK hP 1 0 rfl rfl (vp_lit (by decide +kernel)) rfl dX8_comes_63 ?_
    refine lv_topi (fun y64_8 ey64_8 => ?_)
    have hF := ltE ey64_8 hF
    refine lv_istore (lv' := [(4, .int y64_8), (0, .ref a_t), (1, .int p1), (2, .int p2), (3, .int x3_58_6)]) hx hb dX8_comes_64 hl (by decide) rfl (fun ls hl => ?_)
    obtain ⟨k102_10, ek102_10, hF⟩ := jnE hF
    have hk102_10 : ∀ (t_a_102_9 : (Nat → Int32)) (H : Heap) (locs : List Loc) (ls : Array Slot), va_P D vwCl [(a_t, .inr (8, [.ref a_t_a, v_t_fresh, v_t_aside, v_t_kept, .int t_keptMany, .int t_thrown, v_t_buffer, .int t_buffered, .int t_size, .int t_at, .int t_behind, .int t_kind, .int t_number, .int t_wrong, .int t_wrongAt, .int t_errorAt, v_t_moved, .int t_unused, v_t_written, .int t_writtenMany])), (a_t_a, .inl (t 0, 876, .inl t_a_102_9))] H → va_D A [(a_t, .inr (8, [.ref a_t_a, v_t_fresh, v_t_aside, v_t_kept, .int t_keptMany, .int t_thrown, v_t_buffer, .int t_buffered, .int t_size, .int t_at, .int t_behind, .int t_kind, .int t_number, .int t_wrong, .int t_wrongAt, .int t_errorAt, v_t_moved, .int t_unused, v_t_written, .int t_writtenMany])), (a_t_a, .inl (t 0, 876, .inl t_a_102_9))] → va_S A s.heap H locs → lv_has ls 5 [(0, .ref a_t), (1, .int p1), (2, .int p2), (3, .int x3_58_6)] → k102_10 t_a_102_9 = some (t_a_') → W p l e rm_X8_comes s m args below meth c H locs 0 0 Q (F0 m 102 ls []) := by
      subst ek102_10
      intro t_a_102_9 H locs ls hP hD hS hl hF
      refine lv_aload_n hx hb dX8_comes_102 rfl (lv_at hl 0 rfl) ?_
      refine va_get (D := D) (ci := 8) (v := .ref a_t_a) (C := RX8) (T := TX8) (N := 20) hx hb hts iw8 hown hK hP 0 rfl rfl 0 (by decide) hf7 (fun _ h9 => h9) rfl dX8_comes_103 ?_
      refine lv_sipush (v := 380) hx hb dX8_comes_106 (by decide) ?_
      refine lv_iload_n hx hb dX8_comes_109 rfl (lv_at hl 3 rfl) ?_
      refine lv_iadd hx hb dX8_comes_110 ?_
      refine lv_iload_n hx hb dX8_comes_111 rfl (lv_at hl 1 rfl) ?_
      obtain ⟨g112_10, hF⟩ := gd hF
      obtain ⟨t_a_112_12, et_a_112_12⟩ : ∃ y : Nat → Int32, y = upd t_a_102_9 (380 + x3_58_6).toNatClampNeg p1 := ⟨_, rfl⟩
      have hF := ltE et_a_112_12 hF
      refine my_iast (g := t_a_112_12) (wn := [(a_t, .inr (8, [.ref a_t_a, v_t_fresh, v_t_aside, v_t_kept, .int t_keptMany, .int t_thrown, v_t_buffer, .int t_buffered, .int t_size, .int t_at, .int t_behind, .int t_kind, .int t_number, .int t_wrong, .int t_wrongAt, .int t_errorAt, v_t_moved, .int t_unused, v_t_written, .int t_writtenMany])), (a_t_a, .inl (t 0, 876, .inl t_a_112_12))]) hx hb hK hP hD hS 1 0 rfl rfl g112_10 et_a_112_12 rfl dX8_comes_112 (fun H locs hP hD hS => ?_)
      refine lv_aload_n hx hb dX8_comes_113 rfl (lv_at hl 0 rfl) ?_
      refine va_get (D := D) (ci := 8) (v := .ref a_t_a) (C := RX8) (T := TX8) (N := 20) hx hb hts iw8 hown hK hP 0 rfl rfl 0 (by decide) hf7 (fun _ h9 => h9) rfl dX8_comes_114 ?_
      refine lv_iconst (v := 1) hx hb dX8_comes_117 (by decide) ?_
      refine lv_dup2_11 hx hb dX8_comes_118 rfl rfl ?_
      refine my_iald (v := t_a_112_12 1) hx hb hK hP 1 0 rfl rfl (vp_lit (by decide +kernel)) rfl dX8_comes_119 ?_
      refine lv_iconst (v := 1) hx hb dX8_comes_120 (by decide) ?_
      refine lv_iadd hx hb dX8_comes_121 ?_
      obtain ⟨t_a_122_13, et_a_122_13⟩ : ∃ y : Nat → Int32, y = upd t_a_112_12 1 ((t_a_112_12 1) + 1) := ⟨_, rfl⟩
      have hF := ltE et_a_122_13 hF
      refine my_iast (g := t_a_122_13) (wn := [(a_t, .inr (8, [.ref a_t_a, v_t_fresh, v_t_aside, v_t_kept, .int t_keptMany, .int t_thrown, v_t_buffer, .int t_buffered, .int t_size, .int t_at, .int t_behind, .int t_kind, .int t_number, .int t_wrong, .int t_wrongAt, .int t_errorAt, v_t_moved, .int t_unused, v_t_written, .int t_writtenMany])), (a_t_a, .inl (t 0, 876, .inl t_a_122_13))]) hx hb hK hP hD hS 1 0 rfl rfl (vp_lit (by decide +kernel)) et_a_122_13 rfl dX8_comes_122 (fun H locs hP hD hS => ?_)
      refine lv_aload_n hx hb dX8_comes_123 rfl (lv_at hl 0 rfl) ?_
      refine lv_iload_n hx hb dX8_comes_124 rfl (lv_at hl 2 rfl) ?_
      refine lv_iconst (v := 1) hx hb dX8_comes_125 (by decide) ?_
      refine lv_aload_n hx hb dX8_comes_126 rfl (lv_at hl 0 rfl) ?_
      refine lv_iload_n hx hb dX8_comes_127 rfl (lv_at hl 2 rfl) ?_
      refine lv_iconst (v := 1) hx hb dX8_comes_128 (by decide) ?_
      obtain ⟨r129_14, h129_14, hF⟩ := bndE hF
      refine rdV (As := [.int p2, .int 1]) (rest := [.int 1, .int p2, .ref a_t]) (C := RX8) ⟨hx, hb, hml, hown, hts⟩ (c_X8_of l D t z x a_t a_t_a v_t_fresh v_t_aside v_t_kept v_t_buffer v_t_moved v_t_written t_keptMany t_thrown t_buffered t_size t_at t_behind t_kind t_number t_wrong t_wrongAt t_errorAt t_unused t_writtenMany t_a_122_13 p2 1 H r129_14 h129_14) (cwV 2 hts gX8_comes_X8_of rfl rfl rfl hd_X8_of ⟨Nat.le_of_ble_eq_true rfl, Nat.le_of_ble_eq_true rfl⟩) (hC.at hz hS) (selP (m9 := [true, true]) rfl rfl hP) 0 rfl (show vwCl[8]? = some (RX8, TX8, 20) from rfl) rfl rfl hl.1 rfl (Nat.le_of_ble_eq_true rfl) dX8_comes_129 ⟨Nat.zero_le _, Nat.zero_le _⟩ rfl ?_
      refine lv_iconst (v := 1) hx hb dX8_comes_132 (by decide) ?_
      refine lv_iadd hx hb dX8_comes_133 ?_
      obtain ⟨t_a_134_16, h134_16, hF⟩ := bndE hF
      refine wrVM (As := [.int p2, .int 1, .int (r129_14 + 1)]) (rest := []) (C := RX8) (wn := [(a_t, .inr (8, [.ref a_t_a, v_t_fresh, v_t_aside, v_t_kept, .int t_keptMany, .int t_thrown, v_t_buffer, .int t_buffered, .int t_size, .int t_at, .int t_behind, .int t_kind, .int t_number, .int t_wrong, .int t_wrongAt, .int t_errorAt, v_t_moved, .int t_unused, v_t_written, .int t_writtenMany])), (a_t_a, .inl (t 0, 876, .inl t_a_134_16))]) ⟨hx, hb, hml, hown, hts⟩ (c_X8_puts l D t z x a_t a_t_a v_t_fresh v_t_aside v_t_kept v_t_buffer v_t_moved v_t_written t_keptMany t_thrown t_buffered t_size t_at t_behind t_kind t_number t_wrong t_wrongAt t_errorAt t_unused t_writtenMany t_a_122_13 p2 1 (r129_14 + 1) H.size t_a_134_16 h134_16) (cwV 3 hts gX8_comes_X8_puts rfl rfl rfl hd_X8_puts ⟨Nat.le_of_ble_eq_true rfl, Nat.le_of_ble_eq_true rfl⟩) (hC.at hz hS) hP hD hS hA hz [true, true] rfl rfl rfl rfl 0 rfl (show vwCl[8]? = some (RX8, TX8, 20) from rfl) rfl rfl hl.1 rfl (Nat.le_of_ble_eq_true rfl) dX8_comes_134 ⟨Nat.zero_le _, Nat.zero_le _⟩ rfl (fun H locs hP hD hS => ?_)
      refine lv_aload_n hx hb dX8_comes_137 rfl (lv_at hl 0 rfl) ?_
      refine va_get (D := D) (ci := 8) (v := .ref a_t_a) (C := RX8) (T := TX8) (N := 20) hx hb hts iw8 hown hK hP 0 rfl rfl 0 (by decide) hf7 (fun _ h9 => h9) rfl dX8_comes_138 ?_
      refine lv_sipush (v := 260) hx hb dX8_comes_141 (by decide) ?_
      refine lv_iload_n hx hb dX8_comes_144 rfl (lv_at hl 1 rfl) ?_
      refine lv_iadd hx hb dX8_comes_145 ?_
      refine lv_iconst (v := 0) hx hb dX8_comes_146 (by decide) ?_
      obtain ⟨g147_18, hF⟩ := gd hF
      obtain ⟨t_a_147_19, et_a_147_19⟩ : ∃ y : Nat → Int32, y = upd t_a_134_16 (260 + p1).toNatClampNeg 0 := ⟨_, rfl⟩
      have hF := ltE et_a_147_19 hF
      refine my_iast (g := t_a_147_19) (wn := [(a_t, .inr (8, [.ref a_t_a, v_t_fresh, v_t_aside, v_t_kept, .int t_keptMany, .int t_thrown, v_t_buffer, .int t_buffered, .int t_size, .int t_at, .int t_behind, .int t_kind, .int t_number, .int t_wrong, .int t_wrongAt, .int t_errorAt, v_t_moved, .int t_unused, v_t_written, .int t_writtenMany])), (a_t_a, .inl (t 0, 876, .inl t_a_147_19))]) hx hb hK hP hD hS 1 0 rfl rfl g147_18 et_a_147_19 rfl dX8_comes_147 (fun H locs hP hD hS => ?_)
      cases hF
      exact we_vret hx hb hr hlocks dX8_comes_148 rfl hQ hP hD hS
    have hlp66 : ∀ n66 : Nat, ∀ (x4_66_20 : Int32) (t_a_66_21 : (Nat → Int32)) (H : Heap) (locs : List Loc) (ls : Array Slot), va_P D vwCl [(a_t, .inr (8, [.ref a_t_a, v_t_fresh, v_t_aside, v_t_kept, .int t_keptMany, .int t_thrown, v_t_buffer, .int t_buffered, .int t_size, .int t_at, .int t_behind, .int t_kind, .int t_number, .int t_wrong, .int t_wrongAt, .int t_errorAt, v_t_moved, .int t_unused, v_t_written, .int t_writtenMany])), (a_t_a, .inl (t 0, 876, .inl t_a_66_21))] H → va_D A [(a_t, .inr (8, [.ref a_t_a, v_t_fresh, v_t_aside, v_t_kept, .int t_keptMany, .int t_thrown, v_t_buffer, .int t_buffered, .int t_size, .int t_at, .int t_behind, .int t_kind, .int t_number, .int t_wrong, .int t_wrongAt, .int t_errorAt, v_t_moved, .int t_unused, v_t_written, .int t_writtenMany])), (a_t_a, .inl (t 0, 876, .inl t_a_66_21))] → va_S A s.heap H locs → lv_has ls 5 [(0, .ref a_t), (1, .int p1), (2, .int p2), (3, .int x3_58_6), (4, .int x4_66_20)] → f_X8_comes_66 x3_58_6 k102_10 n66 x4_66_20 t_a_66_21 = some (t_a_') → W p l e rm_X8_comes s m args below meth c H locs 0 0 Q (F0 m 66 ls []) := by
      intro n66
      induction n66 with
      | zero =>
        intro x4_66_20 t_a_66_21 H locs ls hP hD hS hl hF
        cases (show none = some (t_a_') from hF)
      | succ n66 ih66 =>
        intro x4_66_20 t_a_66_21 H locs ls hP hD hS hl hF
        rw [f_X8_comes_66] at hF
        refine lv_iload hx hb dX8_comes_66 (lv_at hl 4 rfl) ?_
        refine lv_iload_n hx hb dX8_comes_68 rfl (lv_at hl 3 rfl) ?_
        refine lv_icmp_le (tgt := 102) hx hb dX8_comes_69 (by decide) (fun c69 => ?_) (fun c69 => ?_)
        · have hF := brT c69 hF
          exact hk102_10 t_a_66_21 H locs ls hP hD hS (lv_sub hl [0, 1, 2, 3] rfl) hF
        · have hF := brF c69 hF
          refine lv_aload_n hx hb dX8_comes_72 rfl (lv_at hl 0 rfl) ?_
          refine va_get (D := D) (ci := 8) (v := .ref a_t_a) (C := RX8) (T := TX8) (N := 20) hx hb hts iw8 hown hK hP 0 rfl rfl 0 (by decide) hf7 (fun _ h9 => h9) rfl dX8_comes_73 ?_
          refine lv_sipush (v := 380) hx hb dX8_comes_76 (by decide) ?_
          refine lv_iload hx hb dX8_comes_79 (lv_at hl 4 rfl) ?_
          refine lv_iadd hx hb dX8_comes_81 ?_
          refine lv_aload_n hx hb dX8_comes_82 rfl (lv_at hl 0 rfl) ?_
          refine va_get (D := D) (ci := 8) (v := .ref a_t_a) (C := RX8) (T := TX8) (N := 20) hx hb hts iw8 hown hK hP 0 rfl rfl 0 (by decide) hf7 (fun _ h9 => h9) rfl dX8_comes_83 ?_
          refine lv_sipush (v := 380) hx hb dX8_comes_86 (by decide) ?_
          refine lv_iload hx hb dX8_comes_89 (lv_at hl 4 rfl) ?_
          refine lv_iadd hx hb dX8_comes_91 ?_
          refine lv_iconst (v := 1) hx hb dX8_comes_92 (by decide) ?_
          refine lv_isub hx hb dX8_comes_93 ?_
          obtain ⟨g94_21, hF⟩ := gd hF
          refine my_iald (v := t_a_66_21 ((380 + x4_66_20) - 1).toNatClampNeg) hx hb hK hP 1 0 rfl rfl g94_21 rfl dX8_comes_94 ?_
          obtain ⟨g95_23, hF⟩ := gd hF
          obtain ⟨t_a_95_24, et_a_95_24⟩ : ∃ y : Nat → Int32, y = upd t_a_66_21 (380 + x4_66_20).toNatClampNeg (t_a_66_21 ((380 + x4_66_20) - 1).toNatClampNeg) := ⟨_, rfl⟩
          have hF := ltE et_a_95_24 hF
          refine my_iast (g := t_a_95_24) (wn := [(a_t, .inr (8, [.ref a_t_a, v_t_fresh, v_t_aside, v_t_kept, .int t_keptMany, .int t_thrown, v_t_buffer, .int t_buffered, .int t_size, .int t_at, .int t_behind, .int t_kind, .int t_number, .int t_wrong, .int t_wrongAt, .int t_errorAt, v_t_moved, .int t_unused, v_t_written, .int t_writtenMany])), (a_t_a, .inl (t 0, 876, .inl t_a_95_24))]) hx hb hK hP hD hS 1 0 rfl rfl g95_23 et_a_95_24 rfl dX8_comes_95 (fun H locs hP hD hS => ?_)
          obtain ⟨y96_25, ey96_25⟩ : ∃ y : Int32, y = x4_66_20 + (-1) := ⟨_, rfl⟩
          have hF := ltE ey96_25 hF
          refine lv_iinc (v := y96_25) (lv' := [(4, .int y96_25), (0, .ref a_t), (1, .int p1), (2, .int p2), (3, .int x3_58_6)]) hx hb dX8_comes_96 hl (k := 4) rfl (by rw [ey96_25]; rfl) (by decide) rfl (fun ls hl => ?_)
          refine lv_goto (tgt := 66) hx hb dX8_comes_99 (by decide) ?_
          exact ih66 y96_25 t_a_95_24 H locs ls hP hD hS (lv_sub hl [1, 2, 3, 4, 0] rfl) hF
    exact hlp66 N y64_8 t_a_ H locs ls hP hD hS (lv_sub hl [1, 2, 3, 4, 0] rfl) hF
  have hlp13 : ∀ n13 : Nat, ∀ (x3_13_26 : Int32) (H : Heap) (locs : List Loc) (ls : Array Slot), va_P D vwCl [(a_t, .inr (8, [.ref a_t_a, v_t_fresh, v_t_aside, v_t_kept, .int t_keptMany, .int t_thrown, v_t_buffer, .int t_buffered, .int t_size, .int t_at, .int t_behind, .int t_kind, .int t_number, .int t_wrong, .int t_wrongAt, .int t_errorAt, v_t_moved, .int t_unused, v_t_written, .int t_writtenMany])), (a_t_a, .inl (t 0, 876, .inl t_a_))] H → va_D A [(a_t, .inr (8, [.ref a_t_a, v_t_fresh, v_t_aside, v_t_kept, .int t_keptMany, .int t_thrown, v_t_buffer, .int t_buffered, .int t_size, .int t_at, .int t_behind, .int t_kind, .int t_number, .int t_wrong, .int t_wrongAt, .int t_errorAt, v_t_moved, .int t_unused, v_t_written, .int t_writtenMany])), (a_t_a, .inl (t 0, 876, .inl t_a_))] → va_S A s.heap H locs → lv_has ls 5 [(0, .ref a_t), (1, .int p1), (2, .int p2), (3, .int x3_13_26)] → f_X8_comes_13 N t_a_ p1 p2 k58_7 n13 x3_13_26 = some (t_a_') → W p l e rm_X8_comes s m args below meth c H locs 0 0 Q (F0 m 13 ls []) := by
    intro n13
    induction n13 with
    | zero =>
      intro x3_13_26 H locs ls hP hD hS hl hF
      cases (show none = some (t_a_') from hF)
    | succ n13 ih13 =>
      intro x3_13_26 H locs ls hP hD hS hl hF
      rw [f_X8_comes_13] at hF
      refine lv_aload_n hx hb dX8_comes_13 rfl (lv_at hl 0 rfl) ?_
      refine lv_iload_n hx hb dX8_comes_14 rfl (lv_at hl 2 rfl) ?_
      refine lv_iconst (v := 3) hx hb dX8_comes_15 (by decide) ?_
      obtain ⟨r16_27, h16_27, hF⟩ := bndE hF
      refine rdV (As := [.int p2, .int 3]) (rest := []) (C := RX8) ⟨hx, hb, hml, hown, hts⟩ (c_X8_of l D t z x a_t a_t_a v_t_fresh v_t_aside v_t_kept v_t_buffer v_t_moved v_t_written t_keptMany t_thrown t_buffered t_size t_at t_behind t_kind t_number t_wrong t_wrongAt t_errorAt t_unused t_writtenMany t_a_ p2 3 H r16_27 h16_27) (cwV 2 hts gX8_comes_X8_of rfl rfl rfl hd_X8_of ⟨Nat.le_of_ble_eq_true rfl, Nat.le_of_ble_eq_true rfl⟩) (hC.at hz hS) (selP (m9 := [true, true]) rfl rfl hP) 0 rfl (show vwCl[8]? = some (RX8, TX8, 20) from rfl) rfl rfl hl.1 rfl (Nat.le_of_ble_eq_true rfl) dX8_comes_16 ⟨Nat.zero_le _, Nat.zero_le _⟩ rfl ?_
      refine lv_iconst (v := 1) hx hb dX8_comes_19 (by decide) ?_
      refine lv_icmp_ne (tgt := 58) hx hb dX8_comes_20 (by decide) (fun c20 => ?_) (fun c20 => ?_)
      · have hF := brF c20 hF
        exact hk58_7 x3_13_26 H locs ls hP hD hS hl hF
      · have hF := brT c20 hF
        refine lv_iload_n hx hb dX8_comes_23 rfl (lv_at hl 3 rfl) ?_
        refine lv_aload_n hx hb dX8_comes_24 rfl (lv_at hl 0 rfl) ?_
        refine lv_iload_n hx hb dX8_comes_25 rfl (lv_at hl 2 rfl) ?_
        obtain ⟨r26_29, h26_29, hF⟩ := bndE hF
        refine rdV (As := [.int p2]) (rest := [.int x3_13_26]) (C := RX8) ⟨hx, hb, hml, hown, hts⟩ (c_X8_firstPlace l D t z x N a_t a_t_a v_t_fresh v_t_aside v_t_kept v_t_buffer v_t_moved v_t_written t_keptMany t_thrown t_buffered t_size t_at t_behind t_kind t_number t_wrong t_wrongAt t_errorAt t_unused t_writtenMany t_a_ p2 H r26_29 h26_29) (cwV 1 hts gX8_comes_X8_firstPlace rfl rfl rfl hd_X8_firstPlace ⟨Nat.le_of_ble_eq_true rfl, Nat.le_of_ble_eq_true rfl⟩) (hC.at hz hS) (selP (m9 := [true, true]) rfl rfl hP) 0 rfl (show vwCl[8]? = some (RX8, TX8, 20) from rfl) rfl rfl hl.1 rfl (Nat.le_of_ble_eq_true rfl) dX8_comes_26 ⟨Nat.zero_le _, Nat.zero_le _⟩ rfl ?_
        refine lv_icmp_le (tgt := 58) hx hb dX8_comes_29 (by decide) (fun c29 => ?_) (fun c29 => ?_)
        · have hF := brT c29 hF
          exact hk58_7 x3_13_26 H locs ls hP hD hS hl hF
        · have hF := brF c29 hF
          refine lv_aload_n hx hb dX8_comes_32 rfl (lv_at hl 0 rfl) ?_
          refine lv_iload_n hx hb dX8_comes_33 rfl (lv_at hl 1 rfl) ?_
          refine lv_aload_n hx hb dX8_comes_34 rfl (lv_at hl 0 rfl) ?_
          refine va_get (D := D) (ci := 8) (v := .ref a_t_a) (C := RX8) (T := TX8) (N := 20) hx hb hts iw8 hown hK hP 0 rfl rfl 0 (by decide) hf7 (fun _ h9 => h9) rfl dX8_comes_35 ?_
          refine lv_sipush (v := 380) hx hb dX8_comes_38 (by decide) ?_
          refine lv_iload_n hx hb dX8_comes_41 rfl (lv_at hl 3 rfl) ?_
          refine lv_iadd hx hb dX8_comes_42 ?_
          refine lv_iconst (v := 1) hx hb dX8_comes_43 (by decide) ?_
          refine lv_isub hx hb dX8_comes_44 ?_
          obtain ⟨g45_30, hF⟩ := gd hF
          refine my_iald (v := t_a_ ((380 + x3_13_26) - 1).toNatClampNeg) hx hb hK hP 1 0 rfl rfl g45_30 rfl dX8_comes_45 ?_
          obtain ⟨r46_32, h46_32, hF⟩ := bndE hF
          refine rdV (As := [.int p1, .int (t_a_ ((380 + x3_13_26) - 1).toNatClampNeg)]) (rest := []) (C := RX8) ⟨hx, hb, hml, hown, hts⟩ (c_X8_isAhead l D t z x a_t a_t_a v_t_fresh v_t_aside v_t_kept v_t_buffer v_t_moved v_t_written t_keptMany t_thrown t_buffered t_size t_at t_behind t_kind t_number t_wrong t_wrongAt t_errorAt t_unused t_writtenMany t_a_ p1 (t_a_ ((380 + x3_13_26) - 1).toNatClampNeg) H r46_32 h46_32) (cwV 2 hts gX8_comes_X8_isAhead rfl rfl rfl hd_X8_isAhead ⟨Nat.le_of_ble_eq_true rfl, Nat.le_of_ble_eq_true rfl⟩) (hC.at hz hS) (selP (m9 := [true, true]) rfl rfl hP) 0 rfl (show vwCl[8]? = some (RX8, TX8, 20) from rfl) rfl rfl hl.1 rfl (Nat.le_of_ble_eq_true rfl) dX8_comes_46 ⟨Nat.zero_le _, Nat.zero_le _⟩ rfl ?_
          refine lv_if_eq (tgt := 58) hx hb dX8_comes_49 (by decide) (fun c49 => ?_) (fun c49 => ?_)
          · have hF := brT c49 hF
            exact hk58_7 x3_13_26 H locs ls hP hD hS hl hF
          · have hF := brF c49 hF
            obtain ⟨y52_34, ey52_34⟩ : ∃ y : Int32, y = x3_13_26 + (-1) := ⟨_, rfl⟩
            have hF := ltE ey52_34 hF
            refine lv_iinc (v := y52_34) (lv' := [(3, .int y52_34), (0, .ref a_t), (1, .int p1), (2, .int p2)]) hx hb dX8_comes_52 hl (k := 3) rfl (by rw [ey52_34]; rfl) (by decide) rfl (fun ls hl => ?_)
            refine lv_goto (tgt := 13) hx hb dX8_comes_55 (by decide) ?_
            exact ih13 y52_34 H locs ls hP hD hS (lv_sub hl [1, 2, 3, 0] rfl) hF
  exact hlp13 N y12_5 H locs ls hP hD hS (lv_sub hl [1, 2, 3, 0] rfl) hF
abbrev rm_X8_leaves : Room := { frames := 1, cells := 0, slots := 0, locals := 23 }
theorem hd_X8_leaves : yX8_leaves.cls = RX8 ∧ yX8_leaves.cls ≠ "java/lang/invoke/MethodHandle" ∧ yX8_leaves.cls ≠ "java/lang/invoke/VarHandle" ∧ (parseMethodDescriptor yX8_leaves.desc).map (fun d => d.parameters.length) = some 2 := by decide +kernel
set_option maxRecDepth 100000 in
set_option maxHeartbeats 4000000 in
theorem c_X8_leaves (l : Launch) (D : va_G) (t : Nat → ClassId) (z : Nat) (x : Nat → Nat) (N : Nat) (a_t : Nat) (a_t_a : Nat) (v_t_fresh : Value) (v_t_aside : Value) (v_t_kept : Value) (v_t_buffer : Value) (v_t_moved : Value) (v_t_written : Value) (t_keptMany : Int32) (t_thrown : Int32) (t_buffered : Int32) (t_size : Int32) (t_at : Int32) (t_behind : Int32) (t_kind : Int32) (t_number : Int32) (t_wrong : Int32) (t_wrongAt : Int32) (t_errorAt : Int32) (t_unused : Int32) (t_writtenMany : Int32) (t_a_ : (Nat → Int32)) (p1 : Int32) (p2 : Int32) (sz : Nat) (t_a_' : (Nat → Int32)) (hF : f_X8_leaves N t_a_ p1 p2 = some (t_a_')) : WrM l D (TY t) z x yX8_leaves wsX8_leaves rm_X8_leaves [.ref a_t, .int p1, .int p2] [(a_t, .inr (8, [.ref a_t_a, v_t_fresh, v_t_aside, v_t_kept, .int t_keptMany, .int t_thrown, v_t_buffer, .int t_buffered, .int t_size, .int t_at, .int t_behind, .int t_kind, .int t_number, .int t_wrong, .int t_wrongAt, .int t_errorAt, v_t_moved, .int t_unused, v_t_written, .int t_writtenMany])), (a_t_a, .inl (t 0, 876, .inl t_a_))] [(a_t, .inr (8, [.ref a_t_a, v_t_fresh, v_t_aside, v_t_kept, .int t_keptMany, .int t_thrown, v_t_buffer, .int t_buffered, .int t_size, .int t_at, .int t_behind, .int t_kind, .int t_number, .int t_wrong, .int t_wrongAt, .int t_errorAt, v_t_moved, .int t_unused, v_t_written, .int t_writtenMany])), (a_t_a, .inl (t 0, 876, .inl t_a_'))] sz none 0 0 := by
  refine wr_of (cc := cX8_leaves) (maxL := 5) (ret := none) (by decide) rfl (Nat.le_of_ble_eq_true rfl) ?_
  intro p e s m args below meth c A Q hQ hx hb hr hml hts hown hlocks hin H locs hP hD hS hA hz hC ls hl
  have hown : s.vm.findClass RX8 = some m.cls := hown
  have hl : lv_has ls 5 [(0, .ref a_t), (1, .int p1), (2, .int p2)] := hl
  have hK := hC.1
  have iw8 : ∀ w ∈ wsX80, w ∈ wsX8_leaves := fun _ h => List.mem_cons_of_mem _ (List.mem_append_right _ h)
  have hf7 := hts (.fieldLink RX8 7 "CrackedColumnModel" "a" "[I") (by decide +kernel)
  unfold f_X8_leaves at hF
  refine lv_aload_n hx hb dX8_leaves_0 rfl (lv_at hl 0 rfl) ?_
  refine lv_iload_n hx hb dX8_leaves_1 rfl (lv_at hl 1 rfl) ?_
  obtain ⟨r2_1, h2_1, hF⟩ := bndE hF
  refine rdV (As := [.int p1]) (rest := []) (C := RX8) ⟨hx, hb, hml, hown, hts⟩ (c_X8_placeOf l D t z x N a_t a_t_a v_t_fresh v_t_aside v_t_kept v_t_buffer v_t_moved v_t_written t_keptMany t_thrown t_buffered t_size t_at t_behind t_kind t_number t_wrong t_wrongAt t_errorAt t_unused t_writtenMany t_a_ p1 H r2_1 h2_1) (cwV 1 hts gX8_leaves_X8_placeOf rfl rfl rfl hd_X8_placeOf ⟨Nat.le_of_ble_eq_true rfl, Nat.le_of_ble_eq_true rfl⟩) (hC.at hz hS) (selP (m9 := [true, true]) rfl rfl hP) 0 rfl (show vwCl[8]? = some (RX8, TX8, 20) from rfl) rfl rfl hl.1 rfl (Nat.le_of_ble_eq_true rfl) dX8_leaves_2 ⟨Nat.zero_le _, Nat.zero_le _⟩ rfl ?_
  refine lv_istore_n (lv' := [(3, .int r2_1), (0, .ref a_t), (1, .int p1), (2, .int p2)]) hx hb dX8_leaves_5 rfl hl (by decide) rfl (fun ls hl => ?_)
  refine lv_aload_n hx hb dX8_leaves_6 rfl (lv_at hl 1 rfl) ?_
  refine va_get (D := D) (ci := 8) (v := .ref a_t_a) (C := RX8) (T := TX8) (N := 20) hx hb hts iw8 hown hK hP 0 rfl rfl 0 (by decide) hf7 (fun _ h9 => h9) rfl dX8_leaves_7 ?_
  refine lv_iconst (v := 1) hx hb dX8_leaves_10 (by decide) ?_
  refine lv_dup2_11 hx hb dX8_leaves_11 rfl rfl ?_
  refine my_iald (v := t_a_ 1) hx hb hK hP 1 0 rfl rfl (vp_lit (by decide +kernel)) rfl dX8_leaves_12 ?_
  refine lv_iconst (v := 1) hx hb dX8_leaves_13 (by decide) ?_
  refine lv_isub hx hb dX8_leaves_14 ?_
  obtain ⟨t_a_15_3, et_a_15_3⟩ : ∃ y : Nat → Int32, y = upd t_a_ 1 ((t_a_ 1) - 1) := ⟨_, rfl⟩
  have hF := ltE et_a_15_3 hF
  refine my_iast (g := t_a_15_3) (wn := [(a_t, .inr (8, [.ref a_t_a, v_t_fresh, v_t_aside, v_t_kept, .int t_keptMany, .int t_thrown, v_t_buffer, .int t_buffered, .int t_size, .int t_at, .int t_behind, .int t_kind, .int t_number, .int t_wrong, .int t_wrongAt, .int t_errorAt, v_t_moved, .int t_unused, v_t_written, .int t_writtenMany])), (a_t_a, .inl (t 0, 876, .inl t_a_15_3))]) hx hb hK hP hD hS 1 0 rfl rfl (vp_lit (by decide +kernel)) et_a_15_3 rfl dX8_leaves_15 (fun H locs hP hD hS => ?_)
  refine lv_iload_n hx hb dX8_leaves_16 rfl (lv_at hl 0 rfl) ?_
  refine lv_istore (lv' := [(4, .int r2_1), (3, .int r2_1), (0, .ref a_t), (1, .int p1), (2, .int p2)]) hx hb dX8_leaves_17 hl (by decide) rfl (fun ls hl => ?_)
  obtain ⟨k60_5, ek60_5, hF⟩ := jnE hF
  have hk60_5 : ∀ (t_a_60_4 : (Nat → Int32)) (H : Heap) (locs : List Loc) (ls : Array Slot), va_P D vwCl [(a_t, .inr (8, [.ref a_t_a, v_t_fresh, v_t_aside, v_t_kept, .int t_keptMany, .int t_thrown, v_t_buffer, .int t_buffered, .int t_size, .int t_at, .int t_behind, .int t_kind, .int t_number, .int t_wrong, .int t_wrongAt, .int t_errorAt, v_t_moved, .int t_unused, v_t_written, .int t_writtenMany])), (a_t_a, .inl (t 0, 876, .inl t_a_60_4))] H → va_D A [(a_t, .inr (8, [.ref a_t_a, v_t_fresh, v_t_aside, v_t_kept, .int t_keptMany, .int t_thrown, v_t_buffer, .int t_buffered, .int t_size, .int t_at, .int t_behind, .int t_kind, .int t_number, .int t_wrong, .int t_wrongAt, .int t_errorAt, v_t_moved, .int t_unused, v_t_written, .int t_writtenMany])), (a_t_a, .inl (t 0, 876, .inl t_a_60_4))] → va_S A s.heap H locs → lv_has ls 5 [(0, .ref a_t), (1, .int p1), (2, .int p2)] → k60_5 t_a_60_4 = some (t_a_') → W p l e rm_X8_leaves s m args below meth c H locs 0 0 Q (F0 m 60 ls []) := by
    subst ek60_5
    intro t_a_60_4 H locs ls hP hD hS hl hF
    refine lv_aload_n hx hb dX8_leaves_60 rfl (lv_at hl 0 rfl) ?_
    refine lv_iload_n hx hb dX8_leaves_61 rfl (lv_at hl 2 rfl) ?_
    refine lv_iconst (v := 1) hx hb dX8_leaves_62 (by decide) ?_
    refine lv_aload_n hx hb dX8_leaves_63 rfl (lv_at hl 0 rfl) ?_
    refine lv_iload_n hx hb dX8_leaves_64 rfl (lv_at hl 2 rfl) ?_
    refine lv_iconst (v := 1) hx hb dX8_leaves_65 (by decide) ?_
    obtain ⟨r66_6, h66_6, hF⟩ := bndE hF
    refine rdV (As := [.int p2, .int 1]) (rest := [.int 1, .int p2, .ref a_t]) (C := RX8) ⟨hx, hb, hml, hown, hts⟩ (c_X8_of l D t z x a_t a_t_a v_t_fresh v_t_aside v_t_kept v_t_buffer v_t_moved v_t_written t_keptMany t_thrown t_buffered t_size t_at t_behind t_kind t_number t_wrong t_wrongAt t_errorAt t_unused t_writtenMany t_a_60_4 p2 1 H r66_6 h66_6) (cwV 2 hts gX8_leaves_X8_of rfl rfl rfl hd_X8_of ⟨Nat.le_of_ble_eq_true rfl, Nat.le_of_ble_eq_true rfl⟩) (hC.at hz hS) (selP (m9 := [true, true]) rfl rfl hP) 0 rfl (show vwCl[8]? = some (RX8, TX8, 20) from rfl) rfl rfl hl.1 rfl (Nat.le_of_ble_eq_true rfl) dX8_leaves_66 ⟨Nat.zero_le _, Nat.zero_le _⟩ rfl ?_
    refine lv_iconst (v := 1) hx hb dX8_leaves_69 (by decide) ?_
    refine lv_isub hx hb dX8_leaves_70 ?_
    obtain ⟨t_a_71_8, h71_8, hF⟩ := bndE hF
    refine wrVM (As := [.int p2, .int 1, .int (r66_6 - 1)]) (rest := []) (C := RX8) (wn := [(a_t, .inr (8, [.ref a_t_a, v_t_fresh, v_t_aside, v_t_kept, .int t_keptMany, .int t_thrown, v_t_buffer, .int t_buffered, .int t_size, .int t_at, .int t_behind, .int t_kind, .int t_number, .int t_wrong, .int t_wrongAt, .int t_errorAt, v_t_moved, .int t_unused, v_t_written, .int t_writtenMany])), (a_t_a, .inl (t 0, 876, .inl t_a_71_8))]) ⟨hx, hb, hml, hown, hts⟩ (c_X8_puts l D t z x a_t a_t_a v_t_fresh v_t_aside v_t_kept v_t_buffer v_t_moved v_t_written t_keptMany t_thrown t_buffered t_size t_at t_behind t_kind t_number t_wrong t_wrongAt t_errorAt t_unused t_writtenMany t_a_60_4 p2 1 (r66_6 - 1) H.size t_a_71_8 h71_8) (cwV 3 hts gX8_leaves_X8_puts rfl rfl rfl hd_X8_puts ⟨Nat.le_of_ble_eq_true rfl, Nat.le_of_ble_eq_true rfl⟩) (hC.at hz hS) hP hD hS hA hz [true, true] rfl rfl rfl rfl 0 rfl (show vwCl[8]? = some (RX8, TX8, 20) from rfl) rfl rfl hl.1 rfl (Nat.le_of_ble_eq_true rfl) dX8_leaves_71 ⟨Nat.zero_le _, Nat.zero_le _⟩ rfl (fun H locs hP hD hS => ?_)
    refine lv_aload_n hx hb dX8_leaves_74 rfl (lv_at hl 0 rfl) ?_
    refine va_get (D := D) (ci := 8) (v := .ref a_t_a) (C := RX8) (T := TX8) (N := 20) hx hb hts iw8 hown hK hP 0 rfl rfl 0 (by decide) hf7 (fun _ h9 => h9) rfl dX8_leaves_75 ?_
    refine lv_sipush (v := 260) hx hb dX8_leaves_78 (by decide) ?_
    refine lv_iload_n hx hb dX8_leaves_81 rfl (lv_at hl 1 rfl) ?_
    refine lv_iadd hx hb dX8_leaves_82 ?_
    refine lv_iconst (v := 3) hx hb dX8_leaves_83 (by decide) ?_
    obtain ⟨g84_9, hF⟩ := gd hF
    obtain ⟨t_a_84_11, et_a_84_11⟩ : ∃ y : Nat → Int32, y = upd t_a_71_8 (260 + p1).toNatClampNeg 3 := ⟨_, rfl⟩
    have hF := ltE et_a_84_11 hF
    refine my_iast (g := t_a_84_11) (wn := [(a_t, .inr (8, [.ref a_t_a, v_t_fresh, v_t_aside, v_t_kept, .int t_keptMany, .int t_thrown, v_t_buffer, .int t_buffered, .int t_size, .int t_at, .int t_behind, .int t_kind, .int t_number, .int t_wrong, .int t_wrongAt, .int t_errorAt, v_t_moved, .int t_unused, v_t_written, .int t_writtenMany])), (a_t_a, .inl (t 0, 876, .inl t_a_84_11))]) hx hb hK hP hD hS 1 0 rfl rfl g84_9 et_a_84_11 rfl dX8_leaves_84 (fun H locs hP hD hS => ?_)
    cases hF
    exact we_vret hx hb hr hlocks dX8_leaves_85 rfl hQ hP hD hS
  have hlp19 : ∀ n19 : Nat, ∀ (x4_19_12 : Int32) (t_a_19_13 : (Nat → Int32)) (H : Heap) (locs : List Loc) (ls : Array Slot), va_P D vwCl [(a_t, .inr (8, [.ref a_t_a, v_t_fresh, v_t_aside, v_t_kept, .int t_keptMany, .int t_thrown, v_t_buffer, .int t_buffered, .int t_size, .int t_at, .int t_behind, .int t_kind, .int t_number, .int t_wrong, .int t_wrongAt, .int t_errorAt, v_t_moved, .int t_unused, v_t_written, .int t_writtenMany])), (a_t_a, .inl (t 0, 876, .inl t_a_19_13))] H → va_D A [(a_t, .inr (8, [.ref a_t_a, v_t_fresh, v_t_aside, v_t_kept, .int t_keptMany, .int t_thrown, v_t_buffer, .int t_buffered, .int t_size, .int t_at, .int t_behind, .int t_kind, .int t_number, .int t_wrong, .int t_wrongAt, .int t_errorAt, v_t_moved, .int t_unused, v_t_written, .int t_writtenMany])), (a_t_a, .inl (t 0, 876, .inl t_a_19_13))] → va_S A s.heap H locs → lv_has ls 5 [(0, .ref a_t), (1, .int p1), (2, .int p2), (4, .int x4_19_12)] → f_X8_leaves_19 k60_5 n19 x4_19_12 t_a_19_13 = some (t_a_') → W p l e rm_X8_leaves s m args below meth c H locs 0 0 Q (F0 m 19 ls []) := by
    intro n19
    induction n19 with
    | zero =>
      intro x4_19_12 t_a_19_13 H locs ls hP hD hS hl hF
      cases (show none = some (t_a_') from hF)
    | succ n19 ih19 =>
      intro x4_19_12 t_a_19_13 H locs ls hP hD hS hl hF
      rw [f_X8_leaves_19] at hF
      refine lv_iload hx hb dX8_leaves_19 (lv_at hl 3 rfl) ?_
      refine lv_aload_n hx hb dX8_leaves_21 rfl (lv_at hl 0 rfl) ?_
      refine va_get (D := D) (ci := 8) (v := .ref a_t_a) (C := RX8) (T := TX8) (N := 20) hx hb hts iw8 hown hK hP 0 rfl rfl 0 (by decide) hf7 (fun _ h9 => h9) rfl dX8_leaves_22 ?_
      refine lv_iconst (v := 1) hx hb dX8_leaves_25 (by decide) ?_
      refine my_iald (v := t_a_19_13 1) hx hb hK hP 1 0 rfl rfl (vp_lit (by decide +kernel)) rfl dX8_leaves_26 ?_
      refine lv_icmp_ge (tgt := 60) hx hb dX8_leaves_27 (by decide) (fun c27 => ?_) (fun c27 => ?_)
      · have hF := brT c27 hF
        exact hk60_5 t_a_19_13 H locs ls hP hD hS (lv_sub hl [0, 1, 2] rfl) hF
      · have hF := brF c27 hF
        refine lv_aload_n hx hb dX8_leaves_30 rfl (lv_at hl 0 rfl) ?_
        refine va_get (D := D) (ci := 8) (v := .ref a_t_a) (C := RX8) (T := TX8) (N := 20) hx hb hts iw8 hown hK hP 0 rfl rfl 0 (by decide) hf7 (fun _ h9 => h9) rfl dX8_leaves_31 ?_
        refine lv_sipush (v := 380) hx hb dX8_leaves_34 (by decide) ?_
        refine lv_iload hx hb dX8_leaves_37 (lv_at hl 3 rfl) ?_
        refine lv_iadd hx hb dX8_leaves_39 ?_
        refine lv_aload_n hx hb dX8_leaves_40 rfl (lv_at hl 0 rfl) ?_
        refine va_get (D := D) (ci := 8) (v := .ref a_t_a) (C := RX8) (T := TX8) (N := 20) hx hb hts iw8 hown hK hP 0 rfl rfl 0 (by decide) hf7 (fun _ h9 => h9) rfl dX8_leaves_41 ?_
        refine lv_sipush (v := 380) hx hb dX8_leaves_44 (by decide) ?_
        refine lv_iload hx hb dX8_leaves_47 (lv_at hl 3 rfl) ?_
        refine lv_iadd hx hb dX8_leaves_49 ?_
        refine lv_iconst (v := 1) hx hb dX8_leaves_50 (by decide) ?_
        refine lv_iadd hx hb dX8_leaves_51 ?_
        obtain ⟨g52_13, hF⟩ := gd hF
        refine my_iald (v := t_a_19_13 ((380 + x4_19_12) + 1).toNatClampNeg) hx hb hK hP 1 0 rfl rfl g52_13 rfl dX8_leaves_52 ?_
        obtain ⟨g53_15, hF⟩ := gd hF
        obtain ⟨t_a_53_16, et_a_53_16⟩ : ∃ y : Nat → Int32, y = upd t_a_19_13 (380 + x4_19_12).toNatClampNeg (t_a_19_13 ((380 + x4_19_12) + 1).toNatClampNeg) := ⟨_, rfl⟩
        have hF := ltE et_a_53_16 hF
        refine my_iast (g := t_a_53_16) (wn := [(a_t, .inr (8, [.ref a_t_a, v_t_fresh, v_t_aside, v_t_kept, .int t_keptMany, .int t_thrown, v_t_buffer, .int t_buffered, .int t_size, .int t_at, .int t_behind, .int t_kind, .int t_number, .int t_wrong, .int t_wrongAt, .int t_errorAt, v_t_moved, .int t_unused, v_t_written, .int t_writtenMany])), (a_t_a, .inl (t 0, 876, .inl t_a_53_16))]) hx hb hK hP hD hS 1 0 rfl rfl g53_15 et_a_53_16 rfl dX8_leaves_53 (fun H locs hP hD hS => ?_)
        obtain ⟨y54_17, ey54_17⟩ : ∃ y : Int32, y = x4_19_12 + 1 := ⟨_, rfl⟩
        have hF := ltE ey54_17 hF
        refine lv_iinc (v := y54_17) (lv' := [(4, .int y54_17), (0, .ref a_t), (1, .int p1), (2, .int p2)]) hx hb dX8_leaves_54 hl (k := 3) rfl (by rw [ey54_17]; rfl) (by decide) rfl (fun ls hl => ?_)
        refine lv_goto (tgt := 19) hx hb dX8_leaves_57 (by decide) ?_
        exact ih19 y54_17 t_a_53_16 H locs ls hP hD hS (lv_sub hl [1, 2, 3, 0] rfl) hF
  exact hlp19 N r2_1 t_a_15_3 H locs ls hP hD hS (lv_sub hl [2, 3, 4, 0] rfl) hF
abbrev rm_X8_unwaits : Room := { frames := 0, cells := 0, slots := 0, locals := 0 }
theorem hd_X8_unwaits : yX8_unwaits.cls = RX8 ∧ yX8_unwaits.cls ≠ "java/lang/invoke/MethodHandle" ∧ yX8_unwaits.cls ≠ "java/lang/invoke/VarHandle" ∧ (parseMethodDescriptor yX8_unwaits.desc).map (fun d => d.parameters.length) = some 1 := by decide +kernel
set_option maxRecDepth 100000 in
set_option maxHeartbeats 4000000 in
theorem c_X8_unwaits (l : Launch) (D : va_G) (t : Nat → ClassId) (z : Nat) (x : Nat → Nat) (N : Nat) (a_t : Nat) (a_t_a : Nat) (v_t_fresh : Value) (v_t_aside : Value) (v_t_kept : Value) (v_t_buffer : Value) (v_t_moved : Value) (v_t_written : Value) (t_keptMany : Int32) (t_thrown : Int32) (t_buffered : Int32) (t_size : Int32) (t_at : Int32) (t_behind : Int32) (t_kind : Int32) (t_number : Int32) (t_wrong : Int32) (t_wrongAt : Int32) (t_errorAt : Int32) (t_unused : Int32) (t_writtenMany : Int32) (t_a_ : (Nat → Int32)) (p1 : Int32) (sz : Nat) (t_a_' : (Nat → Int32)) (hF : f_X8_unwaits N t_a_ p1 = some (t_a_')) : WrM l D (TY t) z x yX8_unwaits wsX8_unwaits rm_X8_unwaits [.ref a_t, .int p1] [(a_t, .inr (8, [.ref a_t_a, v_t_fresh, v_t_aside, v_t_kept, .int t_keptMany, .int t_thrown, v_t_buffer, .int t_buffered, .int t_size, .int t_at, .int t_behind, .int t_kind, .int t_number, .int t_wrong, .int t_wrongAt, .int t_errorAt, v_t_moved, .int t_unused, v_t_written, .int t_writtenMany])), (a_t_a, .inl (t 0, 876, .inl t_a_))] [(a_t, .inr (8, [.ref a_t_a, v_t_fresh, v_t_aside, v_t_kept, .int t_keptMany, .int t_thrown, v_t_buffer, .int t_buffered, .int t_size, .int t_at, .int t_behind, .int t_kind, .int t_number, .int t_wrong, .int t_wrongAt, .int t_errorAt, v_t_moved, .int t_unused, v_t_written, .int t_writtenMany])), (a_t_a, .inl (t 0, 876, .inl t_a_'))] sz none 0 0 := by
  refine wr_of (cc := cX8_unwaits) (maxL := 3) (ret := none) (by decide) rfl (Nat.le_of_ble_eq_true rfl) ?_
  intro p e s m args below meth c A Q hQ hx hb hr hml hts hown hlocks hin H locs hP hD hS hA hz hC ls hl
  have hown : s.vm.findClass RX8 = some m.cls := hown
  have hl : lv_has ls 3 [(0, .ref a_t), (1, .int p1)] := hl
  have hK := hC.1
  have iw8 : ∀ w ∈ wsX80, w ∈ wsX8_unwaits := fun _ h => List.mem_cons_of_mem _ (List.mem_append_right _ h)
  have hf7 := hts (.fieldLink RX8 7 "CrackedColumnModel" "a" "[I") (by decide +kernel)
  unfold f_X8_unwaits at hF
  refine lv_aload_n hx hb dX8_unwaits_0 rfl (lv_at hl 0 rfl) ?_
  refine va_get (D := D) (ci := 8) (v := .ref a_t_a) (C := RX8) (T := TX8) (N := 20) hx hb hts iw8 hown hK hP 0 rfl rfl 0 (by decide) hf7 (fun _ h9 => h9) rfl dX8_unwaits_1 ?_
  refine lv_iconst (v := 2) hx hb dX8_unwaits_4 (by decide) ?_
  refine lv_dup2_11 hx hb dX8_unwaits_5 rfl rfl ?_
  refine my_iald (v := t_a_ 2) hx hb hK hP 1 0 rfl rfl (vp_lit (by decide +kernel)) rfl dX8_unwaits_6 ?_
  refine lv_iconst (v := 1) hx hb dX8_unwaits_7 (by decide) ?_
  refine lv_isub hx hb dX8_unwaits_8 ?_
  obtain ⟨t_a_9_1, et_a_9_1⟩ : ∃ y : Nat → Int32, y = upd t_a_ 2 ((t_a_ 2) - 1) := ⟨_, rfl⟩
  have hF := ltE et_a_9_1 hF
  refine my_iast (g := t_a_9_1) (wn := [(a_t, .inr (8, [.ref a_t_a, v_t_fresh, v_t_aside, v_t_kept, .int t_keptMany, .int t_thrown, v_t_buffer, .int t_buffered, .int t_size, .int t_at, .int t_behind, .int t_kind, .int t_number, .int t_wrong, .int t_wrongAt, .int t_errorAt, v_t_moved, .int t_unused, v_t_written, .int t_writtenMany])), (a_t_a, .inl (t 0, 876, .inl t_a_9_1))]) hx hb hK hP hD hS 1 0 rfl rfl (vp_lit (by decide +kernel)) et_a_9_1 rfl dX8_unwaits_9 (fun H locs hP hD hS => ?_)
  refine lv_iload_n hx hb dX8_unwaits_10 rfl (lv_at hl 1 rfl) ?_
  refine lv_istore_n (lv' := [(2, .int p1), (0, .ref a_t), (1, .int p1)]) hx hb dX8_unwaits_11 rfl hl (by decide) rfl (fun ls hl => ?_)
  obtain ⟨k50_3, ek50_3, hF⟩ := jnE hF
  have hk50_3 : ∀ (t_a_50_2 : (Nat → Int32)) (H : Heap) (locs : List Loc) (ls : Array Slot), va_P D vwCl [(a_t, .inr (8, [.ref a_t_a, v_t_fresh, v_t_aside, v_t_kept, .int t_keptMany, .int t_thrown, v_t_buffer, .int t_buffered, .int t_size, .int t_at, .int t_behind, .int t_kind, .int t_number, .int t_wrong, .int t_wrongAt, .int t_errorAt, v_t_moved, .int t_unused, v_t_written, .int t_writtenMany])), (a_t_a, .inl (t 0, 876, .inl t_a_50_2))] H → va_D A [(a_t, .inr (8, [.ref a_t_a, v_t_fresh, v_t_aside, v_t_kept, .int t_keptMany, .int t_thrown, v_t_buffer, .int t_buffered, .int t_size, .int t_at, .int t_behind, .int t_kind, .int t_number, .int t_wrong, .int t_wrongAt, .int t_errorAt, v_t_moved, .int t_unused, v_t_written, .int t_writtenMany])), (a_t_a, .inl (t 0, 876, .inl t_a_50_2))] → va_S A s.heap H locs → lv_has ls 3 [] → k50_3 t_a_50_2 = some (t_a_') → W p l e rm_X8_unwaits s m args below meth c H locs 0 0 Q (F0 m 50 ls []) := by
    subst ek50_3
    intro t_a_50_2 H locs ls hP hD hS hl hF
    cases hF
    exact we_vret hx hb hr hlocks dX8_unwaits_50 rfl hQ hP hD hS
  have hlp12 : ∀ n12 : Nat, ∀ (x2_12_4 : Int32) (t_a_12_5 : (Nat → Int32)) (H : Heap) (locs : List Loc) (ls : Array Slot), va_P D vwCl [(a_t, .inr (8, [.ref a_t_a, v_t_fresh, v_t_aside, v_t_kept, .int t_keptMany, .int t_thrown, v_t_buffer, .int t_buffered, .int t_size, .int t_at, .int t_behind, .int t_kind, .int t_number, .int t_wrong, .int t_wrongAt, .int t_errorAt, v_t_moved, .int t_unused, v_t_written, .int t_writtenMany])), (a_t_a, .inl (t 0, 876, .inl t_a_12_5))] H → va_D A [(a_t, .inr (8, [.ref a_t_a, v_t_fresh, v_t_aside, v_t_kept, .int t_keptMany, .int t_thrown, v_t_buffer, .int t_buffered, .int t_size, .int t_at, .int t_behind, .int t_kind, .int t_number, .int t_wrong, .int t_wrongAt, .int t_errorAt, v_t_moved, .int t_unused, v_t_written, .int t_writtenMany])), (a_t_a, .inl (t 0, 876, .inl t_a_12_5))] → va_S A s.heap H locs → lv_has ls 3 [(0, .ref a_t), (2, .int x2_12_4)] → f_X8_unwaits_12 k50_3 n12 x2_12_4 t_a_12_5 = some (t_a_') → W p l e rm_X8_unwaits s m args below meth c H locs 0 0 Q (F0 m 12 ls []) := by
    intro n12
    induction n12 with
    | zero =>
      intro x2_12_4 t_a_12_5 H locs ls hP hD hS hl hF
      cases (show none = some (t_a_') from hF)
    | succ n12 ih12 =>
      intro x2_12_4 t_a_12_5 H locs ls hP hD hS hl hF
      rw [f_X8_unwaits_12] at hF
      refine lv_iload_n hx hb dX8_unwaits_12 rfl (lv_at hl 1 rfl) ?_
      refine lv_aload_n hx hb dX8_unwaits_13 rfl (lv_at hl 0 rfl) ?_
      refine va_get (D := D) (ci := 8) (v := .ref a_t_a) (C := RX8) (T := TX8) (N := 20) hx hb hts iw8 hown hK hP 0 rfl rfl 0 (by decide) hf7 (fun _ h9 => h9) rfl dX8_unwaits_14 ?_
      refine lv_iconst (v := 2) hx hb dX8_unwaits_17 (by decide) ?_
      refine my_iald (v := t_a_12_5 2) hx hb hK hP 1 0 rfl rfl (vp_lit (by decide +kernel)) rfl dX8_unwaits_18 ?_
      refine lv_icmp_ge (tgt := 50) hx hb dX8_unwaits_19 (by decide) (fun c19 => ?_) (fun c19 => ?_)
      · have hF := brT c19 hF
        exact hk50_3 t_a_12_5 H locs ls hP hD hS (lv_sub hl [] rfl) hF
      · have hF := brF c19 hF
        refine lv_aload_n hx hb dX8_unwaits_22 rfl (lv_at hl 0 rfl) ?_
        refine va_get (D := D) (ci := 8) (v := .ref a_t_a) (C := RX8) (T := TX8) (N := 20) hx hb hts iw8 hown hK hP 0 rfl rfl 0 (by decide) hf7 (fun _ h9 => h9) rfl dX8_unwaits_23 ?_
        refine lv_sipush (v := 500) hx hb dX8_unwaits_26 (by decide) ?_
        refine lv_iload_n hx hb dX8_unwaits_29 rfl (lv_at hl 1 rfl) ?_
        refine lv_iadd hx hb dX8_unwaits_30 ?_
        refine lv_aload_n hx hb dX8_unwaits_31 rfl (lv_at hl 0 rfl) ?_
        refine va_get (D := D) (ci := 8) (v := .ref a_t_a) (C := RX8) (T := TX8) (N := 20) hx hb hts iw8 hown hK hP 0 rfl rfl 0 (by decide) hf7 (fun _ h9 => h9) rfl dX8_unwaits_32 ?_
        refine lv_sipush (v := 500) hx hb dX8_unwaits_35 (by decide) ?_
        refine lv_iload_n hx hb dX8_unwaits_38 rfl (lv_at hl 1 rfl) ?_
        refine lv_iadd hx hb dX8_unwaits_39 ?_
        refine lv_iconst (v := 1) hx hb dX8_unwaits_40 (by decide) ?_
        refine lv_iadd hx hb dX8_unwaits_41 ?_
        obtain ⟨g42_5, hF⟩ := gd hF
        refine my_iald (v := t_a_12_5 ((500 + x2_12_4) + 1).toNatClampNeg) hx hb hK hP 1 0 rfl rfl g42_5 rfl dX8_unwaits_42 ?_
        obtain ⟨g43_7, hF⟩ := gd hF
        obtain ⟨t_a_43_8, et_a_43_8⟩ : ∃ y : Nat → Int32, y = upd t_a_12_5 (500 + x2_12_4).toNatClampNeg (t_a_12_5 ((500 + x2_12_4) + 1).toNatClampNeg) := ⟨_, rfl⟩
        have hF := ltE et_a_43_8 hF
        refine my_iast (g := t_a_43_8) (wn := [(a_t, .inr (8, [.ref a_t_a, v_t_fresh, v_t_aside, v_t_kept, .int t_keptMany, .int t_thrown, v_t_buffer, .int t_buffered, .int t_size, .int t_at, .int t_behind, .int t_kind, .int t_number, .int t_wrong, .int t_wrongAt, .int t_errorAt, v_t_moved, .int t_unused, v_t_written, .int t_writtenMany])), (a_t_a, .inl (t 0, 876, .inl t_a_43_8))]) hx hb hK hP hD hS 1 0 rfl rfl g43_7 et_a_43_8 rfl dX8_unwaits_43 (fun H locs hP hD hS => ?_)
        obtain ⟨y44_9, ey44_9⟩ : ∃ y : Int32, y = x2_12_4 + 1 := ⟨_, rfl⟩
        have hF := ltE ey44_9 hF
        refine lv_iinc (v := y44_9) (lv' := [(2, .int y44_9), (0, .ref a_t)]) hx hb dX8_unwaits_44 hl (k := 1) rfl (by rw [ey44_9]; rfl) (by decide) rfl (fun ls hl => ?_)
        refine lv_goto (tgt := 12) hx hb dX8_unwaits_47 (by decide) ?_
        exact ih12 y44_9 t_a_43_8 H locs ls hP hD hS (lv_sub hl [1, 0] rfl) hF
  exact hlp12 N p1 t_a_9_1 H locs ls hP hD hS (lv_sub hl [1, 0] rfl) hF
abbrev rm_X8_merges : Room := { frames := 3, cells := 0, slots := 0, locals := 69 }
theorem hd_X8_merges : yX8_merges.cls = RX8 ∧ yX8_merges.cls ≠ "java/lang/invoke/MethodHandle" ∧ yX8_merges.cls ≠ "java/lang/invoke/VarHandle" ∧ (parseMethodDescriptor yX8_merges.desc).map (fun d => d.parameters.length) = some 1 := by decide +kernel
set_option maxRecDepth 100000 in
set_option maxHeartbeats 4000000 in
theorem c_X8_merges (l : Launch) (D : va_G) (t : Nat → ClassId) (z : Nat) (x : Nat → Nat) (N : Nat) (a_t : Nat) (a_t_a : Nat) (v_t_fresh : Value) (v_t_aside : Value) (v_t_kept : Value) (v_t_buffer : Value) (v_t_moved : Value) (v_t_written : Value) (t_keptMany : Int32) (t_thrown : Int32) (t_buffered : Int32) (t_size : Int32) (t_at : Int32) (t_behind : Int32) (t_kind : Int32) (t_number : Int32) (t_wrong : Int32) (t_wrongAt : Int32) (t_errorAt : Int32) (t_unused : Int32) (t_writtenMany : Int32) (t_a_ : (Nat → Int32)) (p1 : Int32) (sz : Nat) (r : Int32) (t_a_' : (Nat → Int32)) (hF : f_X8_merges N t_a_ p1 = some (r, t_a_')) : WrM l D (TY t) z x yX8_merges wsX8_merges rm_X8_merges [.ref a_t, .int p1] [(a_t, .inr (8, [.ref a_t_a, v_t_fresh, v_t_aside, v_t_kept, .int t_keptMany, .int t_thrown, v_t_buffer, .int t_buffered, .int t_size, .int t_at, .int t_behind, .int t_kind, .int t_number, .int t_wrong, .int t_wrongAt, .int t_errorAt, v_t_moved, .int t_unused, v_t_written, .int t_writtenMany])), (a_t_a, .inl (t 0, 876, .inl t_a_))] [(a_t, .inr (8, [.ref a_t_a, v_t_fresh, v_t_aside, v_t_kept, .int t_keptMany, .int t_thrown, v_t_buffer, .int t_buffered, .int t_size, .int t_at, .int t_behind, .int t_kind, .int t_number, .int t_wrong, .int t_wrongAt, .int t_errorAt, v_t_moved, .int t_unused, v_t_written, .int t_writtenMany])), (a_t_a, .inl (t 0, 876, .inl t_a_'))] sz (some (.int r)) 0 0 := by
  refine wr_of (cc := cX8_merges) (maxL := 4) (ret := (some .int)) (by decide) rfl (Nat.le_of_ble_eq_true rfl) ?_
  intro p e s m args below meth c A Q hQ hx hb hr hml hts hown hlocks hin H locs hP hD hS hA hz hC ls hl
  have hown : s.vm.findClass RX8 = some m.cls := hown
  have hl : lv_has ls 4 [(0, .ref a_t), (1, .int p1)] := hl
  have hK := hC.1
  have iw8 : ∀ w ∈ wsX80, w ∈ wsX8_merges := fun _ h => List.mem_cons_of_mem _ (List.mem_append_right _ h)
  have hf7 := hts (.fieldLink RX8 7 "CrackedColumnModel" "a" "[I") (by decide +kernel)
  unfold f_X8_merges at hF
  refine lv_aload_n hx hb dX8_merges_0 rfl (lv_at hl 0 rfl) ?_
  refine va_get (D := D) (ci := 8) (v := .ref a_t_a) (C := RX8) (T := TX8) (N := 20) hx hb hts iw8 hown hK hP 0 rfl rfl 0 (by decide) hf7 (fun _ h9 => h9) rfl dX8_merges_1 ?_
  refine lv_sipush (v := 500) hx hb dX8_merges_4 (by decide) ?_
  refine lv_iload_n hx hb dX8_merges_7 rfl (lv_at hl 1 rfl) ?_
  refine lv_iadd hx hb dX8_merges_8 ?_
  obtain ⟨g9_0, hF⟩ := gd hF
  refine my_iald (v := t_a_ (500 + p1).toNatClampNeg) hx hb hK hP 1 0 rfl rfl g9_0 rfl dX8_merges_9 ?_
  refine lv_topi (fun y10_2 ey10_2 => ?_)
  have hF := ltE ey10_2 hF
  refine lv_istore_n (lv' := [(2, .int y10_2), (0, .ref a_t), (1, .int p1)]) hx hb dX8_merges_10 rfl hl (by decide) rfl (fun ls hl => ?_)
  refine lv_aload_n hx hb dX8_merges_11 rfl (lv_at hl 1 rfl) ?_
  refine lv_aload_n hx hb dX8_merges_12 rfl (lv_at hl 1 rfl) ?_
  refine va_get (D := D) (ci := 8) (v := .ref a_t_a) (C := RX8) (T := TX8) (N := 20) hx hb hts iw8 hown hK hP 0 rfl rfl 0 (by decide) hf7 (fun _ h9 => h9) rfl dX8_merges_13 ?_
  refine lv_bipush (v := 20) hx hb dX8_merges_16 (by decide) ?_
  refine lv_iload_n hx hb dX8_merges_18 rfl (lv_at hl 0 rfl) ?_
  refine lv_iadd hx hb dX8_merges_19 ?_
  obtain ⟨g20_3, hF⟩ := gd hF
  refine my_iald (v := t_a_ (20 + y10_2).toNatClampNeg) hx hb hK hP 1 0 rfl rfl g20_3 rfl dX8_merges_20 ?_
  obtain ⟨r21_4, h21_4, hF⟩ := bndE hF
  refine rdV (As := [.int (t_a_ (20 + y10_2).toNatClampNeg)]) (rest := []) (C := RX8) ⟨hx, hb, hml, hown, hts⟩ (c_X8_lastPiece l D t z x N a_t a_t_a v_t_fresh v_t_aside v_t_kept v_t_buffer v_t_moved v_t_written t_keptMany t_thrown t_buffered t_size t_at t_behind t_kind t_number t_wrong t_wrongAt t_errorAt t_unused t_writtenMany t_a_ (t_a_ (20 + y10_2).toNatClampNeg) H r21_4 h21_4) (cwV 1 hts gX8_merges_X8_lastPiece rfl rfl rfl hd_X8_lastPiece ⟨Nat.le_of_ble_eq_true rfl, Nat.le_of_ble_eq_true rfl⟩) (hC.at hz hS) (selP (m9 := [true, true]) rfl rfl hP) 0 rfl (show vwCl[8]? = some (RX8, TX8, 20) from rfl) rfl rfl hl.1 rfl (Nat.le_of_ble_eq_true rfl) dX8_merges_21 ⟨Nat.zero_le _, Nat.zero_le _⟩ rfl ?_
  refine lv_istore_n (lv' := [(3, .int r21_4), (2, .int y10_2), (0, .ref a_t), (1, .int p1)]) hx hb dX8_merges_24 rfl hl (by decide) rfl (fun ls hl => ?_)
  refine lv_aload_n hx hb dX8_merges_25 rfl (lv_at hl 2 rfl) ?_
  refine lv_iload_n hx hb dX8_merges_26 rfl (lv_at hl 3 rfl) ?_
  obtain ⟨t_a_27_6, h27_6, hF⟩ := bndE hF
  refine wrVM (As := [.int p1]) (rest := []) (C := RX8) (wn := [(a_t, .inr (8, [.ref a_t_a, v_t_fresh, v_t_aside, v_t_kept, .int t_keptMany, .int t_thrown, v_t_buffer, .int t_buffered, .int t_size, .int t_at, .int t_behind, .int t_kind, .int t_number, .int t_wrong, .int t_wrongAt, .int t_errorAt, v_t_moved, .int t_unused, v_t_written, .int t_writtenMany])), (a_t_a, .inl (t 0, 876, .inl t_a_27_6))]) ⟨hx, hb, hml, hown, hts⟩ (c_X8_unwaits l D t z x N a_t a_t_a v_t_fresh v_t_aside v_t_kept v_t_buffer v_t_moved v_t_written t_keptMany t_thrown t_buffered t_size t_at t_behind t_kind t_number t_wrong t_wrongAt t_errorAt t_unused t_writtenMany t_a_ p1 H.size t_a_27_6 h27_6) (cwV 1 hts gX8_merges_X8_unwaits rfl rfl rfl hd_X8_unwaits ⟨Nat.le_of_ble_eq_true rfl, Nat.le_of_ble_eq_true rfl⟩) (hC.at hz hS) hP hD hS hA hz [true, true] rfl rfl rfl rfl 0 rfl (show vwCl[8]? = some (RX8, TX8, 20) from rfl) rfl rfl hl.1 rfl (Nat.le_of_ble_eq_true rfl) dX8_merges_27 ⟨Nat.zero_le _, Nat.zero_le _⟩ rfl (fun H locs hP hD hS => ?_)
  refine lv_aload_n hx hb dX8_merges_30 rfl (lv_at hl 2 rfl) ?_
  refine va_get (D := D) (ci := 8) (v := .ref a_t_a) (C := RX8) (T := TX8) (N := 20) hx hb hts iw8 hown hK hP 0 rfl rfl 0 (by decide) hf7 (fun _ h9 => h9) rfl dX8_merges_31 ?_
  refine lv_sipush (v := 260) hx hb dX8_merges_34 (by decide) ?_
  refine lv_iload_n hx hb dX8_merges_37 rfl (lv_at hl 1 rfl) ?_
  refine lv_iadd hx hb dX8_merges_38 ?_
  obtain ⟨g39_9, hF⟩ := gd hF
  refine my_iald (v := t_a_27_6 (260 + y10_2).toNatClampNeg) hx hb hK hP 1 0 rfl rfl g39_9 rfl dX8_merges_39 ?_
  refine lv_iconst (v := 1) hx hb dX8_merges_40 (by decide) ?_
  obtain ⟨k59_10, ek59_10, hF⟩ := jnE hF
  have hk59_10 : ∀ (t_a_59_9 : (Nat → Int32)) (H : Heap) (locs : List Loc) (ls : Array Slot), va_P D vwCl [(a_t, .inr (8, [.ref a_t_a, v_t_fresh, v_t_aside, v_t_kept, .int t_keptMany, .int t_thrown, v_t_buffer, .int t_buffered, .int t_size, .int t_at, .int t_behind, .int t_kind, .int t_number, .int t_wrong, .int t_wrongAt, .int t_errorAt, v_t_moved, .int t_unused, v_t_written, .int t_writtenMany])), (a_t_a, .inl (t 0, 876, .inl t_a_59_9))] H → va_D A [(a_t, .inr (8, [.ref a_t_a, v_t_fresh, v_t_aside, v_t_kept, .int t_keptMany, .int t_thrown, v_t_buffer, .int t_buffered, .int t_size, .int t_at, .int t_behind, .int t_kind, .int t_number, .int t_wrong, .int t_wrongAt, .int t_errorAt, v_t_moved, .int t_unused, v_t_written, .int t_writtenMany])), (a_t_a, .inl (t 0, 876, .inl t_a_59_9))] → va_S A s.heap H locs → lv_has ls 4 [(0, .ref a_t), (3, .int r21_4)] → k59_10 t_a_59_9 = some (r, t_a_') → W p l e rm_X8_merges s m args below meth c H locs 0 0 Q (F0 m 59 ls []) := by
    subst ek59_10
    intro t_a_59_9 H locs ls hP hD hS hl hF
    refine lv_aload_n hx hb dX8_merges_59 rfl (lv_at hl 0 rfl) ?_
    refine va_get (D := D) (ci := 8) (v := .ref a_t_a) (C := RX8) (T := TX8) (N := 20) hx hb hts iw8 hown hK hP 0 rfl rfl 0 (by decide) hf7 (fun _ h9 => h9) rfl dX8_merges_60 ?_
    refine lv_iconst (v := 3) hx hb dX8_merges_63 (by decide) ?_
    refine my_iald (v := t_a_59_9 3) hx hb hK hP 1 0 rfl rfl (vp_lit (by decide +kernel)) rfl dX8_merges_64 ?_
    refine lv_iload_n hx hb dX8_merges_65 rfl (lv_at hl 1 rfl) ?_
    refine lv_isub hx hb dX8_merges_66 ?_
    cases hF
    exact we_iret hx hb hr hlocks dX8_merges_67 rfl hQ hP hD hS
  refine lv_icmp_ne (tgt := 53) hx hb dX8_merges_41 (by decide) (fun c41 => ?_) (fun c41 => ?_)
  · have hF := brF c41 hF
    refine lv_aload_n hx hb dX8_merges_53 rfl (lv_at hl 2 rfl) ?_
    refine lv_iload_n hx hb dX8_merges_54 rfl (lv_at hl 1 rfl) ?_
    refine lv_iload_n hx hb dX8_merges_55 rfl (lv_at hl 0 rfl) ?_
    obtain ⟨t_a_56_11, h56_11, hF⟩ := bndE hF
    refine wrVM (As := [.int y10_2, .int r21_4]) (rest := []) (C := RX8) (wn := [(a_t, .inr (8, [.ref a_t_a, v_t_fresh, v_t_aside, v_t_kept, .int t_keptMany, .int t_thrown, v_t_buffer, .int t_buffered, .int t_size, .int t_at, .int t_behind, .int t_kind, .int t_number, .int t_wrong, .int t_wrongAt, .int t_errorAt, v_t_moved, .int t_unused, v_t_written, .int t_writtenMany])), (a_t_a, .inl (t 0, 876, .inl t_a_56_11))]) ⟨hx, hb, hml, hown, hts⟩ (c_X8_leaves l D t z x N a_t a_t_a v_t_fresh v_t_aside v_t_kept v_t_buffer v_t_moved v_t_written t_keptMany t_thrown t_buffered t_size t_at t_behind t_kind t_number t_wrong t_wrongAt t_errorAt t_unused t_writtenMany t_a_27_6 y10_2 r21_4 H.size t_a_56_11 h56_11) (cwV 2 hts gX8_merges_X8_leaves rfl rfl rfl hd_X8_leaves ⟨Nat.le_of_ble_eq_true rfl, Nat.le_of_ble_eq_true rfl⟩) (hC.at hz hS) hP hD hS hA hz [true, true] rfl rfl rfl rfl 0 rfl (show vwCl[8]? = some (RX8, TX8, 20) from rfl) rfl rfl hl.1 rfl (Nat.le_of_ble_eq_true rfl) dX8_merges_56 ⟨Nat.zero_le _, Nat.zero_le _⟩ rfl (fun H locs hP hD hS => ?_)
    exact hk59_10 t_a_56_11 H locs ls hP hD hS (lv_sub hl [2, 0] rfl) hF
  · have hF := brT c41 hF
    refine lv_aload_n hx hb dX8_merges_44 rfl (lv_at hl 2 rfl) ?_
    refine lv_iload_n hx hb dX8_merges_45 rfl (lv_at hl 1 rfl) ?_
    refine lv_iload_n hx hb dX8_merges_46 rfl (lv_at hl 0 rfl) ?_
    obtain ⟨t_a_47_13, h47_13, hF⟩ := bndE hF
    refine wrVM (As := [.int y10_2, .int r21_4]) (rest := []) (C := RX8) (wn := [(a_t, .inr (8, [.ref a_t_a, v_t_fresh, v_t_aside, v_t_kept, .int t_keptMany, .int t_thrown, v_t_buffer, .int t_buffered, .int t_size, .int t_at, .int t_behind, .int t_kind, .int t_number, .int t_wrong, .int t_wrongAt, .int t_errorAt, v_t_moved, .int t_unused, v_t_written, .int t_writtenMany])), (a_t_a, .inl (t 0, 876, .inl t_a_47_13))]) ⟨hx, hb, hml, hown, hts⟩ (c_X8_comes l D t z x N a_t a_t_a v_t_fresh v_t_aside v_t_kept v_t_buffer v_t_moved v_t_written t_keptMany t_thrown t_buffered t_size t_at t_behind t_kind t_number t_wrong t_wrongAt t_errorAt t_unused t_writtenMany t_a_27_6 y10_2 r21_4 H.size t_a_47_13 h47_13) (cwV 2 hts gX8_merges_X8_comes rfl rfl rfl hd_X8_comes ⟨Nat.le_of_ble_eq_true rfl, Nat.le_of_ble_eq_true rfl⟩) (hC.at hz hS) hP hD hS hA hz [true, true] rfl rfl rfl rfl 0 rfl (show vwCl[8]? = some (RX8, TX8, 20) from rfl) rfl rfl hl.1 rfl (Nat.le_of_ble_eq_true rfl) dX8_merges_47 ⟨Nat.zero_le _, Nat.zero_le _⟩ rfl (fun H locs hP hD hS => ?_)
    refine lv_goto (tgt := 59) hx hb dX8_merges_50 (by decide) ?_
    exact hk59_10 t_a_47_13 H locs ls hP hD hS (lv_sub hl [2, 0] rfl) hF
abbrev rm_X8_forces : Room := { frames := 4, cells := 0, slots := 0, locals := 92 }
theorem hd_X8_forces : yX8_forces.cls = RX8 ∧ yX8_forces.cls ≠ "java/lang/invoke/MethodHandle" ∧ yX8_forces.cls ≠ "java/lang/invoke/VarHandle" ∧ (parseMethodDescriptor yX8_forces.desc).map (fun d => d.parameters.length) = some 0 := by decide +kernel
set_option maxRecDepth 100000 in
set_option maxHeartbeats 4000000 in
theorem c_X8_forces (l : Launch) (D : va_G) (t : Nat → ClassId) (z : Nat) (x : Nat → Nat) (N : Nat) (a_t : Nat) (a_t_a : Nat) (v_t_fresh : Value) (v_t_aside : Value) (v_t_kept : Value) (v_t_buffer : Value) (v_t_moved : Value) (v_t_written : Value) (t_keptMany : Int32) (t_thrown : Int32) (t_buffered : Int32) (t_size : Int32) (t_at : Int32) (t_behind : Int32) (t_kind : Int32) (t_number : Int32) (t_wrong : Int32) (t_wrongAt : Int32) (t_errorAt : Int32) (t_unused : Int32) (t_writtenMany : Int32) (t_a_ : (Nat → Int32)) (sz : Nat) (t_a_' : (Nat → Int32)) (hF : f_X8_forces N t_a_ = some (t_a_')) : WrM l D (TY t) z x yX8_forces wsX8_forces rm_X8_forces [.ref a_t] [(a_t, .inr (8, [.ref a_t_a, v_t_fresh, v_t_aside, v_t_kept, .int t_keptMany, .int t_thrown, v_t_buffer, .int t_buffered, .int t_size, .int t_at, .int t_behind, .int t_kind, .int t_number, .int t_wrong, .int t_wrongAt, .int t_errorAt, v_t_moved, .int t_unused, v_t_written, .int t_writtenMany])), (a_t_a, .inl (t 0, 876, .inl t_a_))] [(a_t, .inr (8, [.ref a_t_a, v_t_fresh, v_t_aside, v_t_kept, .int t_keptMany, .int t_thrown, v_t_buffer, .int t_buffered, .int t_size, .int t_at, .int t_behind, .int t_kind, .int t_number, .int t_wrong, .int t_wrongAt, .int t_errorAt, v_t_moved, .int t_unused, v_t_written, .int t_writtenMany])), (a_t_a, .inl (t 0, 876, .inl t_a_'))] sz none 0 0 := by
  refine wr_of (cc := cX8_forces) (maxL := 1) (ret := none) (by decide) rfl (Nat.le_of_ble_eq_true rfl) ?_
  intro p e s m args below meth c A Q hQ hx hb hr hml hts hown hlocks hin H locs hP hD hS hA hz hC ls hl
  have hown : s.vm.findClass RX8 = some m.cls := hown
  have hl : lv_has ls 1 [(0, .ref a_t)] := hl
  have hK := hC.1
  have iw8 : ∀ w ∈ wsX80, w ∈ wsX8_forces := fun _ h => List.mem_cons_of_mem _ (List.mem_append_right _ h)
  have hf7 := hts (.fieldLink RX8 7 "CrackedColumnModel" "a" "[I") (by decide +kernel)
  unfold f_X8_forces at hF
  obtain ⟨k34_2, ek34_2, hF⟩ := jnE hF
  have hk34_2 : ∀ (t_a_34_1 : (Nat → Int32)) (H : Heap) (locs : List Loc) (ls : Array Slot), va_P D vwCl [(a_t, .inr (8, [.ref a_t_a, v_t_fresh, v_t_aside, v_t_kept, .int t_keptMany, .int t_thrown, v_t_buffer, .int t_buffered, .int t_size, .int t_at, .int t_behind, .int t_kind, .int t_number, .int t_wrong, .int t_wrongAt, .int t_errorAt, v_t_moved, .int t_unused, v_t_written, .int t_writtenMany])), (a_t_a, .inl (t 0, 876, .inl t_a_34_1))] H → va_D A [(a_t, .inr (8, [.ref a_t_a, v_t_fresh, v_t_aside, v_t_kept, .int t_keptMany, .int t_thrown, v_t_buffer, .int t_buffered, .int t_size, .int t_at, .int t_behind, .int t_kind, .int t_number, .int t_wrong, .int t_wrongAt, .int t_errorAt, v_t_moved, .int t_unused, v_t_written, .int t_writtenMany])), (a_t_a, .inl (t 0, 876, .inl t_a_34_1))] → va_S A s.heap H locs → lv_has ls 1 [] → k34_2 t_a_34_1 = some (t_a_') → W p l e rm_X8_forces s m args below meth c H locs 0 0 Q (F0 m 34 ls []) := by
    subst ek34_2
    intro t_a_34_1 H locs ls hP hD hS hl hF
    cases hF
    exact we_vret hx hb hr hlocks dX8_forces_34 rfl hQ hP hD hS
  have hlp0 : ∀ n0 : Nat, ∀ (t_a_0_3 : (Nat → Int32)) (H : Heap) (locs : List Loc) (ls : Array Slot), va_P D vwCl [(a_t, .inr (8, [.ref a_t_a, v_t_fresh, v_t_aside, v_t_kept, .int t_keptMany, .int t_thrown, v_t_buffer, .int t_buffered, .int t_size, .int t_at, .int t_behind, .int t_kind, .int t_number, .int t_wrong, .int t_wrongAt, .int t_errorAt, v_t_moved, .int t_unused, v_t_written, .int t_writtenMany])), (a_t_a, .inl (t 0, 876, .inl t_a_0_3))] H → va_D A [(a_t, .inr (8, [.ref a_t_a, v_t_fresh, v_t_aside, v_t_kept, .int t_keptMany, .int t_thrown, v_t_buffer, .int t_buffered, .int t_size, .int t_at, .int t_behind, .int t_kind, .int t_number, .int t_wrong, .int t_wrongAt, .int t_errorAt, v_t_moved, .int t_unused, v_t_written, .int t_writtenMany])), (a_t_a, .inl (t 0, 876, .inl t_a_0_3))] → va_S A s.heap H locs → lv_has ls 1 [(0, .ref a_t)] → f_X8_forces_0 N k34_2 n0 t_a_0_3 = some (t_a_') → W p l e rm_X8_forces s m args below meth c H locs 0 0 Q (F0 m 0 ls []) := by
    intro n0
    induction n0 with
    | zero =>
      intro t_a_0_3 H locs ls hP hD hS hl hF
      cases (show none = some (t_a_') from hF)
    | succ n0 ih0 =>
      intro t_a_0_3 H locs ls hP hD hS hl hF
      rw [f_X8_forces_0] at hF
      refine lv_aload_n hx hb dX8_forces_0 rfl (lv_at hl 0 rfl) ?_
      refine va_get (D := D) (ci := 8) (v := .ref a_t_a) (C := RX8) (T := TX8) (N := 20) hx hb hts iw8 hown hK hP 0 rfl rfl 0 (by decide) hf7 (fun _ h9 => h9) rfl dX8_forces_1 ?_
      refine lv_iconst (v := 2) hx hb dX8_forces_4 (by decide) ?_
      refine my_iald (v := t_a_0_3 2) hx hb hK hP 1 0 rfl rfl (vp_lit (by decide +kernel)) rfl dX8_forces_5 ?_
      refine lv_aload_n hx hb dX8_forces_6 rfl (lv_at hl 0 rfl) ?_
      refine va_get (D := D) (ci := 8) (v := .ref a_t_a) (C := RX8) (T := TX8) (N := 20) hx hb hts iw8 hown hK hP 0 rfl rfl 0 (by decide) hf7 (fun _ h9 => h9) rfl dX8_forces_7 ?_
      refine lv_bipush (v := 7) hx hb dX8_forces_10 (by decide) ?_
      refine my_iald (v := t_a_0_3 7) hx hb hK hP 1 0 rfl rfl (vp_lit (by decide +kernel)) rfl dX8_forces_12 ?_
      refine lv_icmp_le (tgt := 34) hx hb dX8_forces_13 (by decide) (fun c13 => ?_) (fun c13 => ?_)
      · have hF := brT c13 hF
        exact hk34_2 t_a_0_3 H locs ls hP hD hS (lv_sub hl [] rfl) hF
      · have hF := brF c13 hF
        refine lv_aload_n hx hb dX8_forces_16 rfl (lv_at hl 0 rfl) ?_
        refine va_get (D := D) (ci := 8) (v := .ref a_t_a) (C := RX8) (T := TX8) (N := 20) hx hb hts iw8 hown hK hP 0 rfl rfl 0 (by decide) hf7 (fun _ h9 => h9) rfl dX8_forces_17 ?_
        refine lv_bipush (v := 8) hx hb dX8_forces_20 (by decide) ?_
        refine lv_dup2_11 hx hb dX8_forces_22 rfl rfl ?_
        refine my_iald (v := t_a_0_3 8) hx hb hK hP 1 0 rfl rfl (vp_lit (by decide +kernel)) rfl dX8_forces_23 ?_
        refine lv_aload_n hx hb dX8_forces_24 rfl (lv_at hl 0 rfl) ?_
        refine lv_iconst (v := 0) hx hb dX8_forces_25 (by decide) ?_
        obtain ⟨r26_4, t_a_26_5, h26_5, hF⟩ := bnd2E hF
        refine wrVM (As := [.int 0]) (rest := [.int (t_a_0_3 8), .int 8, .ref a_t_a]) (C := RX8) (wn := [(a_t, .inr (8, [.ref a_t_a, v_t_fresh, v_t_aside, v_t_kept, .int t_keptMany, .int t_thrown, v_t_buffer, .int t_buffered, .int t_size, .int t_at, .int t_behind, .int t_kind, .int t_number, .int t_wrong, .int t_wrongAt, .int t_errorAt, v_t_moved, .int t_unused, v_t_written, .int t_writtenMany])), (a_t_a, .inl (t 0, 876, .inl t_a_26_5))]) ⟨hx, hb, hml, hown, hts⟩ (c_X8_merges l D t z x N a_t a_t_a v_t_fresh v_t_aside v_t_kept v_t_buffer v_t_moved v_t_written t_keptMany t_thrown t_buffered t_size t_at t_behind t_kind t_number t_wrong t_wrongAt t_errorAt t_unused t_writtenMany t_a_0_3 0 H.size r26_4 t_a_26_5 h26_5) (cwV 1 hts gX8_forces_X8_merges rfl rfl rfl hd_X8_merges ⟨Nat.le_of_ble_eq_true rfl, Nat.le_of_ble_eq_true rfl⟩) (hC.at hz hS) hP hD hS hA hz [true, true] rfl rfl rfl rfl 0 rfl (show vwCl[8]? = some (RX8, TX8, 20) from rfl) rfl rfl hl.1 rfl (Nat.le_of_ble_eq_true rfl) dX8_forces_26 ⟨Nat.zero_le _, Nat.zero_le _⟩ rfl (fun H locs hP hD hS => ?_)
        refine lv_iadd hx hb dX8_forces_29 ?_
        obtain ⟨t_a_30_7, et_a_30_7⟩ : ∃ y : Nat → Int32, y = upd t_a_26_5 8 ((t_a_0_3 8) + r26_4) := ⟨_, rfl⟩
        have hF := ltE et_a_30_7 hF
        refine my_iast (g := t_a_30_7) (wn := [(a_t, .inr (8, [.ref a_t_a, v_t_fresh, v_t_aside, v_t_kept, .int t_keptMany, .int t_thrown, v_t_buffer, .int t_buffered, .int t_size, .int t_at, .int t_behind, .int t_kind, .int t_number, .int t_wrong, .int t_wrongAt, .int t_errorAt, v_t_moved, .int t_unused, v_t_written, .int t_writtenMany])), (a_t_a, .inl (t 0, 876, .inl t_a_30_7))]) hx hb hK hP hD hS 1 0 rfl rfl (vp_lit (by decide +kernel)) et_a_30_7 rfl dX8_forces_30 (fun H locs hP hD hS => ?_)
        refine lv_goto (tgt := 0) hx hb dX8_forces_31 (by decide) ?_
        exact ih0 t_a_30_7 H locs ls hP hD hS hl hF
  exact hlp0 N t_a_ H locs ls hP hD hS hl hF
abbrev rm_X8_waits : Room := { frames := 0, cells := 0, slots := 0, locals := 0 }
theorem hd_X8_waits : yX8_waits.cls = RX8 ∧ yX8_waits.cls ≠ "java/lang/invoke/MethodHandle" ∧ yX8_waits.cls ≠ "java/lang/invoke/VarHandle" ∧ (parseMethodDescriptor yX8_waits.desc).map (fun d => d.parameters.length) = some 1 := by decide +kernel
set_option maxRecDepth 100000 in
set_option maxHeartbeats 4000000 in
theorem c_X8_waits (l : Launch) (D : va_G) (t : Nat → ClassId) (z : Nat) (x : Nat → Nat) (a_t : Nat) (a_t_a : Nat) (v_t_fresh : Value) (v_t_aside : Value) (v_t_kept : Value) (v_t_buffer : Value) (v_t_moved : Value) (v_t_written : Value) (t_keptMany : Int32) (t_thrown : Int32) (t_buffered : Int32) (t_size : Int32) (t_at : Int32) (t_behind : Int32) (t_kind : Int32) (t_number : Int32) (t_wrong : Int32) (t_wrongAt : Int32) (t_errorAt : Int32) (t_unused : Int32) (t_writtenMany : Int32) (t_a_ : (Nat → Int32)) (p1 : Int32) (sz : Nat) (t_a_' : (Nat → Int32)) (hF : f_X8_waits t_a_ p1 = some (t_a_')) : WrM l D (TY t) z x yX8_waits wsX8_waits rm_X8_waits [.ref a_t, .int p1] [(a_t, .inr (8, [.ref a_t_a, v_t_fresh, v_t_aside, v_t_kept, .int t_keptMany, .int t_thrown, v_t_buffer, .int t_buffered, .int t_size, .int t_at, .int t_behind, .int t_kind, .int t_number, .int t_wrong, .int t_wrongAt, .int t_errorAt, v_t_moved, .int t_unused, v_t_written, .int t_writtenMany])), (a_t_a, .inl (t 0, 876, .inl t_a_))] [(a_t, .inr (8, [.ref a_t_a, v_t_fresh, v_t_aside, v_t_kept, .int t_keptMany, .int t_thrown, v_t_buffer, .int t_buffered, .int t_size, .int t_at, .int t_behind, .int t_kind, .int t_number, .int t_wrong, .int t_wrongAt, .int t_errorAt, v_t_moved, .int t_unused, v_t_written, .int t_writtenMany])), (a_t_a, .inl (t 0, 876, .inl t_a_'))] sz none 0 0 := by
  refine wr_of (cc := cX8_waits) (maxL := 2) (ret := none) (by decide) rfl (Nat.le_of_ble_eq_true rfl) ?_
  intro p e s m args below meth c A Q hQ hx hb hr hml hts hown hlocks hin H locs hP hD hS hA hz hC ls hl
  have hown : s.vm.findClass RX8 = some m.cls := hown
  have hl : lv_has ls 2 [(0, .ref a_t), (1, .int p1)] := hl
  have hK := hC.1
  have iw8 : ∀ w ∈ wsX80, w ∈ wsX8_waits := fun _ h => List.mem_cons_of_mem _ (List.mem_append_right _ h)
  have hf7 := hts (.fieldLink RX8 7 "CrackedColumnModel" "a" "[I") (by decide +kernel)
  unfold f_X8_waits at hF
  refine lv_aload_n hx hb dX8_waits_0 rfl (lv_at hl 0 rfl) ?_
  refine va_get (D := D) (ci := 8) (v := .ref a_t_a) (C := RX8) (T := TX8) (N := 20) hx hb hts iw8 hown hK hP 0 rfl rfl 0 (by decide) hf7 (fun _ h9 => h9) rfl dX8_waits_1 ?_
  refine lv_sipush (v := 500) hx hb dX8_waits_4 (by decide) ?_
  refine lv_aload_n hx hb dX8_waits_7 rfl (lv_at hl 0 rfl) ?_
  refine va_get (D := D) (ci := 8) (v := .ref a_t_a) (C := RX8) (T := TX8) (N := 20) hx hb hts iw8 hown hK hP 0 rfl rfl 0 (by decide) hf7 (fun _ h9 => h9) rfl dX8_waits_8 ?_
  refine lv_iconst (v := 2) hx hb dX8_waits_11 (by decide) ?_
  refine my_iald (v := t_a_ 2) hx hb hK hP 1 0 rfl rfl (vp_lit (by decide +kernel)) rfl dX8_waits_12 ?_
  refine lv_iadd hx hb dX8_waits_13 ?_
  refine lv_iload_n hx hb dX8_waits_14 rfl (lv_at hl 1 rfl) ?_
  obtain ⟨g15_0, hF⟩ := gd hF
  obtain ⟨t_a_15_2, et_a_15_2⟩ : ∃ y : Nat → Int32, y = upd t_a_ (500 + (t_a_ 2)).toNatClampNeg p1 := ⟨_, rfl⟩
  have hF := ltE et_a_15_2 hF
  refine my_iast (g := t_a_15_2) (wn := [(a_t, .inr (8, [.ref a_t_a, v_t_fresh, v_t_aside, v_t_kept, .int t_keptMany, .int t_thrown, v_t_buffer, .int t_buffered, .int t_size, .int t_at, .int t_behind, .int t_kind, .int t_number, .int t_wrong, .int t_wrongAt, .int t_errorAt, v_t_moved, .int t_unused, v_t_written, .int t_writtenMany])), (a_t_a, .inl (t 0, 876, .inl t_a_15_2))]) hx hb hK hP hD hS 1 0 rfl rfl g15_0 et_a_15_2 rfl dX8_waits_15 (fun H locs hP hD hS => ?_)
  refine lv_aload_n hx hb dX8_waits_16 rfl (lv_at hl 0 rfl) ?_
  refine va_get (D := D) (ci := 8) (v := .ref a_t_a) (C := RX8) (T := TX8) (N := 20) hx hb hts iw8 hown hK hP 0 rfl rfl 0 (by decide) hf7 (fun _ h9 => h9) rfl dX8_waits_17 ?_
  refine lv_iconst (v := 2) hx hb dX8_waits_20 (by decide) ?_
  refine lv_dup2_11 hx hb dX8_waits_21 rfl rfl ?_
  refine my_iald (v := t_a_15_2 2) hx hb hK hP 1 0 rfl rfl (vp_lit (by decide +kernel)) rfl dX8_waits_22 ?_
  refine lv_iconst (v := 1) hx hb dX8_waits_23 (by decide) ?_
  refine lv_iadd hx hb dX8_waits_24 ?_
  obtain ⟨t_a_25_3, et_a_25_3⟩ : ∃ y : Nat → Int32, y = upd t_a_15_2 2 ((t_a_15_2 2) + 1) := ⟨_, rfl⟩
  have hF := ltE et_a_25_3 hF
  refine my_iast (g := t_a_25_3) (wn := [(a_t, .inr (8, [.ref a_t_a, v_t_fresh, v_t_aside, v_t_kept, .int t_keptMany, .int t_thrown, v_t_buffer, .int t_buffered, .int t_size, .int t_at, .int t_behind, .int t_kind, .int t_number, .int t_wrong, .int t_wrongAt, .int t_errorAt, v_t_moved, .int t_unused, v_t_written, .int t_writtenMany])), (a_t_a, .inl (t 0, 876, .inl t_a_25_3))]) hx hb hK hP hD hS 1 0 rfl rfl (vp_lit (by decide +kernel)) et_a_25_3 rfl dX8_waits_25 (fun H locs hP hD hS => ?_)
  cases hF
  exact we_vret hx hb hr hlocks dX8_waits_26 rfl hQ hP hD hS
abbrev rm_X8_mergeAll : Room := { frames := 4, cells := 0, slots := 0, locals := 92 }
theorem hd_X8_mergeAll : yX8_mergeAll.cls = RX8 ∧ yX8_mergeAll.cls ≠ "java/lang/invoke/MethodHandle" ∧ yX8_mergeAll.cls ≠ "java/lang/invoke/VarHandle" ∧ (parseMethodDescriptor yX8_mergeAll.desc).map (fun d => d.parameters.length) = some 0 := by decide +kernel
set_option maxRecDepth 100000 in
set_option maxHeartbeats 4000000 in
theorem c_X8_mergeAll (l : Launch) (D : va_G) (t : Nat → ClassId) (z : Nat) (x : Nat → Nat) (N : Nat) (a_t : Nat) (a_t_a : Nat) (a_t_kept : Nat) (v_t_fresh : Value) (v_t_aside : Value) (v_t_buffer : Value) (v_t_moved : Value) (v_t_written : Value) (t_keptMany : Int32) (t_thrown : Int32) (t_buffered : Int32) (t_size : Int32) (t_at : Int32) (t_behind : Int32) (t_kind : Int32) (t_number : Int32) (t_wrong : Int32) (t_wrongAt : Int32) (t_errorAt : Int32) (t_unused : Int32) (t_writtenMany : Int32) (t_a_ : (Nat → Int32)) (t_kept_ : (Nat → Int32)) (sz : Nat) (r : Int32) (t_keptMany' : Int32) (t_thrown' : Int32) (t_a_' : (Nat → Int32)) (t_kept_' : (Nat → Int32)) (hF : f_X8_mergeAll N t_keptMany t_a_ t_kept_ = some (r, t_keptMany', t_thrown', t_a_', t_kept_')) : WrM l D (TY t) z x yX8_mergeAll wsX8_mergeAll rm_X8_mergeAll [.ref a_t] [(a_t, .inr (8, [.ref a_t_a, v_t_fresh, v_t_aside, .ref a_t_kept, .int t_keptMany, .int t_thrown, v_t_buffer, .int t_buffered, .int t_size, .int t_at, .int t_behind, .int t_kind, .int t_number, .int t_wrong, .int t_wrongAt, .int t_errorAt, v_t_moved, .int t_unused, v_t_written, .int t_writtenMany])), (a_t_a, .inl (t 0, 876, .inl t_a_)), (a_t_kept, .inl (t 0, 7008, .inl t_kept_))] [(a_t, .inr (8, [.ref a_t_a, v_t_fresh, v_t_aside, .ref a_t_kept, .int t_keptMany', .int t_thrown', v_t_buffer, .int t_buffered, .int t_size, .int t_at, .int t_behind, .int t_kind, .int t_number, .int t_wrong, .int t_wrongAt, .int t_errorAt, v_t_moved, .int t_unused, v_t_written, .int t_writtenMany])), (a_t_a, .inl (t 0, 876, .inl t_a_')), (a_t_kept, .inl (t 0, 7008, .inl t_kept_'))] sz (some (.int r)) 0 0 := by
  obtain ⟨T9, hT⟩ : ∃ T9, T9 = (r, t_keptMany', t_thrown', t_a_', t_kept_') := ⟨_, rfl⟩
  rw [← hT] at hF
  obtain rfl : r = T9.1 := by rw [hT]
  obtain rfl : t_keptMany' = T9.2.1 := by rw [hT]
  obtain rfl : t_thrown' = T9.2.2.1 := by rw [hT]
  obtain rfl : t_a_' = T9.2.2.2.1 := by rw [hT]
  obtain rfl : t_kept_' = T9.2.2.2.2 := by rw [hT]
  clear hT
  refine wr_of (cc := cX8_mergeAll) (maxL := 2) (ret := (some .int)) (by decide) rfl (Nat.le_of_ble_eq_true rfl) ?_
  intro p e s m args below meth c A Q hQ hx hb hr hml hts hown hlocks hin H locs hP hD hS hA hz hC ls hl
  have hown : s.vm.findClass RX8 = some m.cls := hown
  have hl : lv_has ls 2 [(0, .ref a_t)] := hl
  have hK := hC.1
  have iw8 : ∀ w ∈ wsX80, w ∈ wsX8_mergeAll := fun _ h => List.mem_cons_of_mem _ (List.mem_append_right _ h)
  have hf7 := hts (.fieldLink RX8 7 "CrackedColumnModel" "a" "[I") (by decide +kernel)
  have hf45 := hts (.fieldLink RX8 45 "CrackedColumnModel" "thrown" "I") (by decide +kernel)
  unfold f_X8_mergeAll at hF
  refine lv_aload_n hx hb dX8_mergeAll_0 rfl (lv_at hl 0 rfl) ?_
  refine lv_iconst (v := 0) hx hb dX8_mergeAll_1 (by decide) ?_
  refine my_put (ty := .int) (v := .int 0) (ci := 8) (C := RX8) (T := TX8) (N := 20) (wn := [(a_t, .inr (8, [.ref a_t_a, v_t_fresh, v_t_aside, .ref a_t_kept, .int t_keptMany, .int 0, v_t_buffer, .int t_buffered, .int t_size, .int t_at, .int t_behind, .int t_kind, .int t_number, .int t_wrong, .int t_wrongAt, .int t_errorAt, v_t_moved, .int t_unused, v_t_written, .int t_writtenMany])), (a_t_a, .inl (t 0, 876, .inl t_a_)), (a_t_kept, .inl (t 0, 7008, .inl t_kept_))]) hx hb hts iw8 tyX8 tyX8_ok nmX8 hown hK hP hD hS 0 rfl rfl 5 (by decide) hf45 (fun _ h9 => h9) rfl (by decide +kernel) rfl rfl (Nat.le_of_ble_eq_true rfl) rfl dX8_mergeAll_2 (fun H locs hP hD hS => ?_)
  refine lv_aload_n hx hb dX8_mergeAll_5 rfl (lv_at hl 0 rfl) ?_
  obtain ⟨t_keptMany_6_1, t_kept_6_2, h6_2, hF⟩ := bnd2E hF
  refine wrVM (As := []) (rest := []) (C := RX8) (wn := [(a_t, .inr (8, [.ref a_t_a, v_t_fresh, v_t_aside, .ref a_t_kept, .int t_keptMany_6_1, .int 0, v_t_buffer, .int t_buffered, .int t_size, .int t_at, .int t_behind, .int t_kind, .int t_number, .int t_wrong, .int t_wrongAt, .int t_errorAt, v_t_moved, .int t_unused, v_t_written, .int t_writtenMany])), (a_t_a, .inl (t 0, 876, .inl t_a_)), (a_t_kept, .inl (t 0, 7008, .inl t_kept_6_2))]) ⟨hx, hb, hml, hown, hts⟩ (c_X8_keeps l D t z x N a_t a_t_a a_t_kept v_t_fresh v_t_aside v_t_buffer v_t_moved v_t_written t_keptMany 0 t_buffered t_size t_at t_behind t_kind t_number t_wrong t_wrongAt t_errorAt t_unused t_writtenMany t_a_ t_kept_ H.size t_keptMany_6_1 t_kept_6_2 h6_2) (cwV 0 hts gX8_mergeAll_X8_keeps rfl rfl rfl hd_X8_keeps ⟨Nat.le_of_ble_eq_true rfl, Nat.le_of_ble_eq_true rfl⟩) (hC.at hz hS) hP hD hS hA hz [true, true, true] rfl rfl rfl rfl 0 rfl (show vwCl[8]? = some (RX8, TX8, 20) from rfl) rfl rfl hl.1 rfl (Nat.le_of_ble_eq_true rfl) dX8_mergeAll_6 ⟨Nat.zero_le _, Nat.zero_le _⟩ rfl (fun H locs hP hD hS => ?_)
  refine lv_iconst (v := 0) hx hb dX8_mergeAll_9 (by decide) ?_
  refine lv_istore_n (lv' := [(1, .int 0), (0, .ref a_t)]) hx hb dX8_mergeAll_10 rfl hl (by decide) rfl (fun ls hl => ?_)
  obtain ⟨k31_6, ek31_6, hF⟩ := jnE hF
  have hk31_6 : ∀ (x1_31_4 : Int32) (t_a_31_5 : (Nat → Int32)) (H : Heap) (locs : List Loc) (ls : Array Slot), va_P D vwCl [(a_t, .inr (8, [.ref a_t_a, v_t_fresh, v_t_aside, .ref a_t_kept, .int t_keptMany_6_1, .int 0, v_t_buffer, .int t_buffered, .int t_size, .int t_at, .int t_behind, .int t_kind, .int t_number, .int t_wrong, .int t_wrongAt, .int t_errorAt, v_t_moved, .int t_unused, v_t_written, .int t_writtenMany])), (a_t_a, .inl (t 0, 876, .inl t_a_31_5)), (a_t_kept, .inl (t 0, 7008, .inl t_kept_6_2))] H → va_D A [(a_t, .inr (8, [.ref a_t_a, v_t_fresh, v_t_aside, .ref a_t_kept, .int t_keptMany_6_1, .int 0, v_t_buffer, .int t_buffered, .int t_size, .int t_at, .int t_behind, .int t_kind, .int t_number, .int t_wrong, .int t_wrongAt, .int t_errorAt, v_t_moved, .int t_unused, v_t_written, .int t_writtenMany])), (a_t_a, .inl (t 0, 876, .inl t_a_31_5)), (a_t_kept, .inl (t 0, 7008, .inl t_kept_6_2))] → va_S A s.heap H locs → lv_has ls 2 [(0, .ref a_t), (1, .int x1_31_4)] → k31_6 x1_31_4 t_a_31_5 = some T9 → W p l e rm_X8_mergeAll s m args below meth c H locs 0 0 Q (F0 m 31 ls []) := by
    subst ek31_6
    intro x1_31_4 t_a_31_5 H locs ls hP hD hS hl hF
    refine lv_aload_n hx hb dX8_mergeAll_31 rfl (lv_at hl 0 rfl) ?_
    refine va_get (D := D) (ci := 8) (v := .ref a_t_a) (C := RX8) (T := TX8) (N := 20) hx hb hts iw8 hown hK hP 0 rfl rfl 0 (by decide) hf7 (fun _ h9 => h9) rfl dX8_mergeAll_32 ?_
    refine lv_bipush (v := 8) hx hb dX8_mergeAll_35 (by decide) ?_
    refine lv_dup2_11 hx hb dX8_mergeAll_37 rfl rfl ?_
    refine my_iald (v := t_a_31_5 8) hx hb hK hP 1 0 rfl rfl (vp_lit (by decide +kernel)) rfl dX8_mergeAll_38 ?_
    refine lv_iload_n hx hb dX8_mergeAll_39 rfl (lv_at hl 1 rfl) ?_
    refine lv_iadd hx hb dX8_mergeAll_40 ?_
    obtain ⟨t_a_41_7, et_a_41_7⟩ : ∃ y : Nat → Int32, y = upd t_a_31_5 8 ((t_a_31_5 8) + x1_31_4) := ⟨_, rfl⟩
    have hF := ltE et_a_41_7 hF
    refine my_iast (g := t_a_41_7) (wn := [(a_t, .inr (8, [.ref a_t_a, v_t_fresh, v_t_aside, .ref a_t_kept, .int t_keptMany_6_1, .int 0, v_t_buffer, .int t_buffered, .int t_size, .int t_at, .int t_behind, .int t_kind, .int t_number, .int t_wrong, .int t_wrongAt, .int t_errorAt, v_t_moved, .int t_unused, v_t_written, .int t_writtenMany])), (a_t_a, .inl (t 0, 876, .inl t_a_41_7)), (a_t_kept, .inl (t 0, 7008, .inl t_kept_6_2))]) hx hb hK hP hD hS 1 0 rfl rfl (vp_lit (by decide +kernel)) et_a_41_7 rfl dX8_mergeAll_41 (fun H locs hP hD hS => ?_)
    refine lv_iload_n hx hb dX8_mergeAll_42 rfl (lv_at hl 1 rfl) ?_
    cases hF
    exact we_iret hx hb hr hlocks dX8_mergeAll_43 rfl hQ hP hD hS
  have hlp11 : ∀ n11 : Nat, ∀ (x1_11_8 : Int32) (t_a_11_9 : (Nat → Int32)) (H : Heap) (locs : List Loc) (ls : Array Slot), va_P D vwCl [(a_t, .inr (8, [.ref a_t_a, v_t_fresh, v_t_aside, .ref a_t_kept, .int t_keptMany_6_1, .int 0, v_t_buffer, .int t_buffered, .int t_size, .int t_at, .int t_behind, .int t_kind, .int t_number, .int t_wrong, .int t_wrongAt, .int t_errorAt, v_t_moved, .int t_unused, v_t_written, .int t_writtenMany])), (a_t_a, .inl (t 0, 876, .inl t_a_11_9)), (a_t_kept, .inl (t 0, 7008, .inl t_kept_6_2))] H → va_D A [(a_t, .inr (8, [.ref a_t_a, v_t_fresh, v_t_aside, .ref a_t_kept, .int t_keptMany_6_1, .int 0, v_t_buffer, .int t_buffered, .int t_size, .int t_at, .int t_behind, .int t_kind, .int t_number, .int t_wrong, .int t_wrongAt, .int t_errorAt, v_t_moved, .int t_unused, v_t_written, .int t_writtenMany])), (a_t_a, .inl (t 0, 876, .inl t_a_11_9)), (a_t_kept, .inl (t 0, 7008, .inl t_kept_6_2))] → va_S A s.heap H locs → lv_has ls 2 [(0, .ref a_t), (1, .int x1_11_8)] → f_X8_mergeAll_11 N k31_6 n11 x1_11_8 t_a_11_9 = some T9 → W p l e rm_X8_mergeAll s m args below meth c H locs 0 0 Q (F0 m 11 ls []) := by
    intro n11
    induction n11 with
    | zero =>
      intro x1_11_8 t_a_11_9 H locs ls hP hD hS hl hF
      cases (show none = some T9 from hF)
    | succ n11 ih11 =>
      intro x1_11_8 t_a_11_9 H locs ls hP hD hS hl hF
      rw [f_X8_mergeAll_11] at hF
      refine lv_aload_n hx hb dX8_mergeAll_11 rfl (lv_at hl 0 rfl) ?_
      refine va_get (D := D) (ci := 8) (v := .ref a_t_a) (C := RX8) (T := TX8) (N := 20) hx hb hts iw8 hown hK hP 0 rfl rfl 0 (by decide) hf7 (fun _ h9 => h9) rfl dX8_mergeAll_12 ?_
      refine lv_iconst (v := 2) hx hb dX8_mergeAll_15 (by decide) ?_
      refine my_iald (v := t_a_11_9 2) hx hb hK hP 1 0 rfl rfl (vp_lit (by decide +kernel)) rfl dX8_mergeAll_16 ?_
      refine lv_if_le (tgt := 31) hx hb dX8_mergeAll_17 (by decide) (fun c17 => ?_) (fun c17 => ?_)
      · have hF := brT c17 hF
        exact hk31_6 x1_11_8 t_a_11_9 H locs ls hP hD hS hl hF
      · have hF := brF c17 hF
        refine lv_iload_n hx hb dX8_mergeAll_20 rfl (lv_at hl 1 rfl) ?_
        refine lv_aload_n hx hb dX8_mergeAll_21 rfl (lv_at hl 0 rfl) ?_
        refine lv_iconst (v := 0) hx hb dX8_mergeAll_22 (by decide) ?_
        obtain ⟨r23_10, t_a_23_11, h23_11, hF⟩ := bnd2E hF
        refine wrVM (As := [.int 0]) (rest := [.int x1_11_8]) (C := RX8) (wn := [(a_t, .inr (8, [.ref a_t_a, v_t_fresh, v_t_aside, .ref a_t_kept, .int t_keptMany_6_1, .int 0, v_t_buffer, .int t_buffered, .int t_size, .int t_at, .int t_behind, .int t_kind, .int t_number, .int t_wrong, .int t_wrongAt, .int t_errorAt, v_t_moved, .int t_unused, v_t_written, .int t_writtenMany])), (a_t_a, .inl (t 0, 876, .inl t_a_23_11)), (a_t_kept, .inl (t 0, 7008, .inl t_kept_6_2))]) ⟨hx, hb, hml, hown, hts⟩ (c_X8_merges l D t z x N a_t a_t_a v_t_fresh v_t_aside (.ref a_t_kept) v_t_buffer v_t_moved v_t_written t_keptMany_6_1 0 t_buffered t_size t_at t_behind t_kind t_number t_wrong t_wrongAt t_errorAt t_unused t_writtenMany t_a_11_9 0 H.size r23_10 t_a_23_11 h23_11) (cwV 1 hts gX8_mergeAll_X8_merges rfl rfl rfl hd_X8_merges ⟨Nat.le_of_ble_eq_true rfl, Nat.le_of_ble_eq_true rfl⟩) (hC.at hz hS) hP hD hS hA hz [true, true, false] rfl rfl rfl rfl 0 rfl (show vwCl[8]? = some (RX8, TX8, 20) from rfl) rfl rfl hl.1 rfl (Nat.le_of_ble_eq_true rfl) dX8_mergeAll_23 ⟨Nat.zero_le _, Nat.zero_le _⟩ rfl (fun H locs hP hD hS => ?_)
        refine lv_iadd hx hb dX8_mergeAll_26 ?_
        refine lv_topi (fun y27_13 ey27_13 => ?_)
        have hF := ltE ey27_13 hF
        refine lv_istore_n (lv' := [(1, .int y27_13), (0, .ref a_t)]) hx hb dX8_mergeAll_27 rfl hl (by decide) rfl (fun ls hl => ?_)
        refine lv_goto (tgt := 11) hx hb dX8_mergeAll_28 (by decide) ?_
        exact ih11 y27_13 t_a_23_11 H locs ls hP hD hS (lv_sub hl [1, 0] rfl) hF
  exact hlp11 N 0 t_a_ H locs ls hP hD hS (lv_sub hl [1, 0] rfl) hF
abbrev rm_X8_insert : Room := { frames := 5, cells := 0, slots := 0, locals := 112 }
theorem hd_X8_insert : yX8_insert.cls = RX8 ∧ yX8_insert.cls ≠ "java/lang/invoke/MethodHandle" ∧ yX8_insert.cls ≠ "java/lang/invoke/VarHandle" ∧ (parseMethodDescriptor yX8_insert.desc).map (fun d => d.parameters.length) = some 2 := by decide +kernel
set_option maxRecDepth 100000 in
set_option maxHeartbeats 4000000 in
theorem c_X8_insert (l : Launch) (D : va_G) (t : Nat → ClassId) (z : Nat) (x : Nat → Nat) (N : Nat) (a_t : Nat) (a_t_a : Nat) (a_t_kept : Nat) (v_t_fresh : Value) (v_t_aside : Value) (v_t_buffer : Value) (v_t_moved : Value) (v_t_written : Value) (t_keptMany : Int32) (t_thrown : Int32) (t_buffered : Int32) (t_size : Int32) (t_at : Int32) (t_behind : Int32) (t_kind : Int32) (t_number : Int32) (t_wrong : Int32) (t_wrongAt : Int32) (t_errorAt : Int32) (t_unused : Int32) (t_writtenMany : Int32) (t_a_ : (Nat → Int32)) (t_kept_ : (Nat → Int32)) (p1 : Int32) (p2 : Int32) (sz : Nat) (r : Int32) (t_keptMany' : Int32) (t_thrown' : Int32) (t_a_' : (Nat → Int32)) (t_kept_' : (Nat → Int32)) (hF : f_X8_insert N t_keptMany t_a_ t_kept_ p1 p2 = some (r, t_keptMany', t_thrown', t_a_', t_kept_')) : WrM l D (TY t) z x yX8_insert wsX8_insert rm_X8_insert [.ref a_t, .int p1, .int p2] [(a_t, .inr (8, [.ref a_t_a, v_t_fresh, v_t_aside, .ref a_t_kept, .int t_keptMany, .int t_thrown, v_t_buffer, .int t_buffered, .int t_size, .int t_at, .int t_behind, .int t_kind, .int t_number, .int t_wrong, .int t_wrongAt, .int t_errorAt, v_t_moved, .int t_unused, v_t_written, .int t_writtenMany])), (a_t_a, .inl (t 0, 876, .inl t_a_)), (a_t_kept, .inl (t 0, 7008, .inl t_kept_))] [(a_t, .inr (8, [.ref a_t_a, v_t_fresh, v_t_aside, .ref a_t_kept, .int t_keptMany', .int t_thrown', v_t_buffer, .int t_buffered, .int t_size, .int t_at, .int t_behind, .int t_kind, .int t_number, .int t_wrong, .int t_wrongAt, .int t_errorAt, v_t_moved, .int t_unused, v_t_written, .int t_writtenMany])), (a_t_a, .inl (t 0, 876, .inl t_a_')), (a_t_kept, .inl (t 0, 7008, .inl t_kept_'))] sz (some (.int r)) 0 0 := by
  obtain ⟨T9, hT⟩ : ∃ T9, T9 = (r, t_keptMany', t_thrown', t_a_', t_kept_') := ⟨_, rfl⟩
  rw [← hT] at hF
  obtain rfl : r = T9.1 := by rw [hT]
  obtain rfl : t_keptMany' = T9.2.1 := by rw [hT]
  obtain rfl : t_thrown' = T9.2.2.1 := by rw [hT]
  obtain rfl : t_a_' = T9.2.2.2.1 := by rw [hT]
  obtain rfl : t_kept_' = T9.2.2.2.2 := by rw [hT]
  clear hT
  refine wr_of (cc := cX8_insert) (maxL := 4) (ret := (some .int)) (by decide) rfl (Nat.le_of_ble_eq_true rfl) ?_
  intro p e s m args below meth c A Q hQ hx hb hr hml hts hown hlocks hin H locs hP hD hS hA hz hC ls hl
  have hown : s.vm.findClass RX8 = some m.cls := hown
  have hl : lv_has ls 4 [(0, .ref a_t), (1, .int p1), (2, .int p2)] := hl
  have hK := hC.1
  have iw8 : ∀ w ∈ wsX80, w ∈ wsX8_insert := fun _ h => List.mem_cons_of_mem _ (List.mem_append_right _ h)
  have hf7 := hts (.fieldLink RX8 7 "CrackedColumnModel" "a" "[I") (by decide +kernel)
  have hf45 := hts (.fieldLink RX8 45 "CrackedColumnModel" "thrown" "I") (by decide +kernel)
  unfold f_X8_insert at hF
  refine lv_aload_n hx hb dX8_insert_0 rfl (lv_at hl 0 rfl) ?_
  refine lv_iload_n hx hb dX8_insert_1 rfl (lv_at hl 1 rfl) ?_
  refine lv_iconst (v := 0) hx hb dX8_insert_2 (by decide) ?_
  refine lv_sipush (v := 9999) hx hb dX8_insert_3 (by decide) ?_
  obtain ⟨r6_1, h6_1, hF⟩ := bndE hF
  refine rdS (As := [.int p1, .int 0, .int 9999]) (rest := [.ref a_t]) ⟨hx, hb, hml, hown, hts⟩ (c_X8_isIn l D t z x p1 0 9999 H r6_1 h6_1) (va_cwS 3 hts gX8_insert_X8_isIn rfl rfl rfl hd_X8_isIn.2 ⟨Nat.le_of_ble_eq_true rfl, Nat.le_of_ble_eq_true rfl⟩) (hC.at hz hS) (selP (m9 := [false, false, false]) rfl rfl hP) rfl hl.1 rfl (Nat.le_of_ble_eq_true rfl) dX8_insert_6 ⟨Nat.zero_le _, Nat.zero_le _⟩ rfl ?_
  obtain ⟨k43_4, ek43_4, hF⟩ := jnE hF
  have hk43_4 : ∀ (s0_43_3 : Int32) (H : Heap) (locs : List Loc) (ls : Array Slot), va_P D vwCl [(a_t, .inr (8, [.ref a_t_a, v_t_fresh, v_t_aside, .ref a_t_kept, .int t_keptMany, .int t_thrown, v_t_buffer, .int t_buffered, .int t_size, .int t_at, .int t_behind, .int t_kind, .int t_number, .int t_wrong, .int t_wrongAt, .int t_errorAt, v_t_moved, .int t_unused, v_t_written, .int t_writtenMany])), (a_t_a, .inl (t 0, 876, .inl t_a_)), (a_t_kept, .inl (t 0, 7008, .inl t_kept_))] H → va_D A [(a_t, .inr (8, [.ref a_t_a, v_t_fresh, v_t_aside, .ref a_t_kept, .int t_keptMany, .int t_thrown, v_t_buffer, .int t_buffered, .int t_size, .int t_at, .int t_behind, .int t_kind, .int t_number, .int t_wrong, .int t_wrongAt, .int t_errorAt, v_t_moved, .int t_unused, v_t_written, .int t_writtenMany])), (a_t_a, .inl (t 0, 876, .inl t_a_)), (a_t_kept, .inl (t 0, 7008, .inl t_kept_))] → va_S A s.heap H locs → lv_has ls 4 [(0, .ref a_t), (1, .int p1), (2, .int p2)] → k43_4 s0_43_3 = some T9 → W p l e rm_X8_insert s m args below meth c H locs 0 0 Q (F0 m 43 ls [.int s0_43_3, .ref a_t]) := by
    subst ek43_4
    intro s0_43_3 H locs ls hP hD hS hl hF
    refine my_put (ty := .int) (v := .int s0_43_3) (ci := 8) (C := RX8) (T := TX8) (N := 20) (wn := [(a_t, .inr (8, [.ref a_t_a, v_t_fresh, v_t_aside, .ref a_t_kept, .int t_keptMany, .int s0_43_3, v_t_buffer, .int t_buffered, .int t_size, .int t_at, .int t_behind, .int t_kind, .int t_number, .int t_wrong, .int t_wrongAt, .int t_errorAt, v_t_moved, .int t_unused, v_t_written, .int t_writtenMany])), (a_t_a, .inl (t 0, 876, .inl t_a_)), (a_t_kept, .inl (t 0, 7008, .inl t_kept_))]) hx hb hts iw8 tyX8 tyX8_ok nmX8 hown hK hP hD hS 0 rfl rfl 5 (by decide) hf45 (fun _ h9 => h9) rfl (by decide +kernel) rfl rfl (Nat.le_of_ble_eq_true rfl) rfl dX8_insert_43 (fun H locs hP hD hS => ?_)
    refine lv_aload_n hx hb dX8_insert_46 rfl (lv_at hl 0 rfl) ?_
    refine va_get (D := D) (ci := 8) (v := .int s0_43_3) (C := RX8) (T := TX8) (N := 20) hx hb hts iw8 hown hK hP 0 rfl rfl 5 (by decide) hf45 (fun _ h9 => h9) rfl dX8_insert_47 ?_
    refine lv_if_le (tgt := 55) hx hb dX8_insert_50 (by decide) (fun c50 => ?_) (fun c50 => ?_)
    · have hF := brT c50 hF
      refine lv_aload_n hx hb dX8_insert_55 rfl (lv_at hl 0 rfl) ?_
      obtain ⟨t_keptMany_56_5, t_kept_56_6, h56_6, hF⟩ := bnd2E hF
      refine wrVM (As := []) (rest := []) (C := RX8) (wn := [(a_t, .inr (8, [.ref a_t_a, v_t_fresh, v_t_aside, .ref a_t_kept, .int t_keptMany_56_5, .int s0_43_3, v_t_buffer, .int t_buffered, .int t_size, .int t_at, .int t_behind, .int t_kind, .int t_number, .int t_wrong, .int t_wrongAt, .int t_errorAt, v_t_moved, .int t_unused, v_t_written, .int t_writtenMany])), (a_t_a, .inl (t 0, 876, .inl t_a_)), (a_t_kept, .inl (t 0, 7008, .inl t_kept_56_6))]) ⟨hx, hb, hml, hown, hts⟩ (c_X8_keeps l D t z x N a_t a_t_a a_t_kept v_t_fresh v_t_aside v_t_buffer v_t_moved v_t_written t_keptMany s0_43_3 t_buffered t_size t_at t_behind t_kind t_number t_wrong t_wrongAt t_errorAt t_unused t_writtenMany t_a_ t_kept_ H.size t_keptMany_56_5 t_kept_56_6 h56_6) (cwV 0 hts gX8_insert_X8_keeps rfl rfl rfl hd_X8_keeps ⟨Nat.le_of_ble_eq_true rfl, Nat.le_of_ble_eq_true rfl⟩) (hC.at hz hS) hP hD hS hA hz [true, true, true] rfl rfl rfl rfl 0 rfl (show vwCl[8]? = some (RX8, TX8, 20) from rfl) rfl rfl hl.1 rfl (Nat.le_of_ble_eq_true rfl) dX8_insert_56 ⟨Nat.zero_le _, Nat.zero_le _⟩ rfl (fun H locs hP hD hS => ?_)
      refine lv_aload_n hx hb dX8_insert_59 rfl (lv_at hl 0 rfl) ?_
      refine va_get (D := D) (ci := 8) (v := .ref a_t_a) (C := RX8) (T := TX8) (N := 20) hx hb hts iw8 hown hK hP 0 rfl rfl 0 (by decide) hf7 (fun _ h9 => h9) rfl dX8_insert_60 ?_
      refine lv_iconst (v := 0) hx hb dX8_insert_63 (by decide) ?_
      refine my_iald (v := t_a_ 0) hx hb hK hP 1 0 rfl rfl (vp_lit (by decide +kernel)) rfl dX8_insert_64 ?_
      refine lv_topi (fun y65_8 ey65_8 => ?_)
      have hF := ltE ey65_8 hF
      refine lv_istore_n (lv' := [(3, .int y65_8), (0, .ref a_t), (1, .int p1), (2, .int p2)]) hx hb dX8_insert_65 rfl hl (by decide) rfl (fun ls hl => ?_)
      refine lv_aload_n hx hb dX8_insert_66 rfl (lv_at hl 1 rfl) ?_
      refine va_get (D := D) (ci := 8) (v := .ref a_t_a) (C := RX8) (T := TX8) (N := 20) hx hb hts iw8 hown hK hP 0 rfl rfl 0 (by decide) hf7 (fun _ h9 => h9) rfl dX8_insert_67 ?_
      refine lv_bipush (v := 20) hx hb dX8_insert_70 (by decide) ?_
      refine lv_iload_n hx hb dX8_insert_72 rfl (lv_at hl 0 rfl) ?_
      refine lv_iadd hx hb dX8_insert_73 ?_
      refine lv_iload_n hx hb dX8_insert_74 rfl (lv_at hl 2 rfl) ?_
      obtain ⟨g75_8, hF⟩ := gd hF
      obtain ⟨t_a_75_10, et_a_75_10⟩ : ∃ y : Nat → Int32, y = upd t_a_ (20 + y65_8).toNatClampNeg p1 := ⟨_, rfl⟩
      have hF := ltE et_a_75_10 hF
      refine my_iast (g := t_a_75_10) (wn := [(a_t, .inr (8, [.ref a_t_a, v_t_fresh, v_t_aside, .ref a_t_kept, .int t_keptMany_56_5, .int s0_43_3, v_t_buffer, .int t_buffered, .int t_size, .int t_at, .int t_behind, .int t_kind, .int t_number, .int t_wrong, .int t_wrongAt, .int t_errorAt, v_t_moved, .int t_unused, v_t_written, .int t_writtenMany])), (a_t_a, .inl (t 0, 876, .inl t_a_75_10)), (a_t_kept, .inl (t 0, 7008, .inl t_kept_56_6))]) hx hb hK hP hD hS 1 0 rfl rfl g75_8 et_a_75_10 rfl dX8_insert_75 (fun H locs hP hD hS => ?_)
      refine lv_aload_n hx hb dX8_insert_76 rfl (lv_at hl 1 rfl) ?_
      refine va_get (D := D) (ci := 8) (v := .ref a_t_a) (C := RX8) (T := TX8) (N := 20) hx hb hts iw8 hown hK hP 0 rfl rfl 0 (by decide) hf7 (fun _ h9 => h9) rfl dX8_insert_77 ?_
      refine lv_sipush (v := 140) hx hb dX8_insert_80 (by decide) ?_
      refine lv_iload_n hx hb dX8_insert_83 rfl (lv_at hl 0 rfl) ?_
      refine lv_iadd hx hb dX8_insert_84 ?_
      refine lv_iload_n hx hb dX8_insert_85 rfl (lv_at hl 3 rfl) ?_
      obtain ⟨g86_11, hF⟩ := gd hF
      obtain ⟨t_a_86_12, et_a_86_12⟩ : ∃ y : Nat → Int32, y = upd t_a_75_10 (140 + y65_8).toNatClampNeg p2 := ⟨_, rfl⟩
      have hF := ltE et_a_86_12 hF
      refine my_iast (g := t_a_86_12) (wn := [(a_t, .inr (8, [.ref a_t_a, v_t_fresh, v_t_aside, .ref a_t_kept, .int t_keptMany_56_5, .int s0_43_3, v_t_buffer, .int t_buffered, .int t_size, .int t_at, .int t_behind, .int t_kind, .int t_number, .int t_wrong, .int t_wrongAt, .int t_errorAt, v_t_moved, .int t_unused, v_t_written, .int t_writtenMany])), (a_t_a, .inl (t 0, 876, .inl t_a_86_12)), (a_t_kept, .inl (t 0, 7008, .inl t_kept_56_6))]) hx hb hK hP hD hS 1 0 rfl rfl g86_11 et_a_86_12 rfl dX8_insert_86 (fun H locs hP hD hS => ?_)
      refine lv_aload_n hx hb dX8_insert_87 rfl (lv_at hl 1 rfl) ?_
      refine va_get (D := D) (ci := 8) (v := .ref a_t_a) (C := RX8) (T := TX8) (N := 20) hx hb hts iw8 hown hK hP 0 rfl rfl 0 (by decide) hf7 (fun _ h9 => h9) rfl dX8_insert_88 ?_
      refine lv_sipush (v := 260) hx hb dX8_insert_91 (by decide) ?_
      refine lv_iload_n hx hb dX8_insert_94 rfl (lv_at hl 0 rfl) ?_
      refine lv_iadd hx hb dX8_insert_95 ?_
      refine lv_iconst (v := 1) hx hb dX8_insert_96 (by decide) ?_
      obtain ⟨g97_14, hF⟩ := gd hF
      obtain ⟨t_a_97_14, et_a_97_14⟩ : ∃ y : Nat → Int32, y = upd t_a_86_12 (260 + y65_8).toNatClampNeg 1 := ⟨_, rfl⟩
      have hF := ltE et_a_97_14 hF
      refine my_iast (g := t_a_97_14) (wn := [(a_t, .inr (8, [.ref a_t_a, v_t_fresh, v_t_aside, .ref a_t_kept, .int t_keptMany_56_5, .int s0_43_3, v_t_buffer, .int t_buffered, .int t_size, .int t_at, .int t_behind, .int t_kind, .int t_number, .int t_wrong, .int t_wrongAt, .int t_errorAt, v_t_moved, .int t_unused, v_t_written, .int t_writtenMany])), (a_t_a, .inl (t 0, 876, .inl t_a_97_14)), (a_t_kept, .inl (t 0, 7008, .inl t_kept_56_6))]) hx hb hK hP hD hS 1 0 rfl rfl g97_14 et_a_97_14 rfl dX8_insert_97 (fun H locs hP hD hS => ?_)
      refine lv_aload_n hx hb dX8_insert_98 rfl (lv_at hl 1 rfl) ?_
      refine va_get (D := D) (ci := 8) (v := .ref a_t_a) (C := RX8) (T := TX8) (N := 20) hx hb hts iw8 hown hK hP 0 rfl rfl 0 (by decide) hf7 (fun _ h9 => h9) rfl dX8_insert_99 ?_
      refine lv_iconst (v := 0) hx hb dX8_insert_102 (by decide) ?_
      refine lv_dup2_11 hx hb dX8_insert_103 rfl rfl ?_
      refine my_iald (v := t_a_97_14 0) hx hb hK hP 1 0 rfl rfl (vp_lit (by decide +kernel)) rfl dX8_insert_104 ?_
      refine lv_iconst (v := 1) hx hb dX8_insert_105 (by decide) ?_
      refine lv_iadd hx hb dX8_insert_106 ?_
      obtain ⟨t_a_107_15, et_a_107_15⟩ : ∃ y : Nat → Int32, y = upd t_a_97_14 0 ((t_a_97_14 0) + 1) := ⟨_, rfl⟩
      have hF := ltE et_a_107_15 hF
      refine my_iast (g := t_a_107_15) (wn := [(a_t, .inr (8, [.ref a_t_a, v_t_fresh, v_t_aside, .ref a_t_kept, .int t_keptMany_56_5, .int s0_43_3, v_t_buffer, .int t_buffered, .int t_size, .int t_at, .int t_behind, .int t_kind, .int t_number, .int t_wrong, .int t_wrongAt, .int t_errorAt, v_t_moved, .int t_unused, v_t_written, .int t_writtenMany])), (a_t_a, .inl (t 0, 876, .inl t_a_107_15)), (a_t_kept, .inl (t 0, 7008, .inl t_kept_56_6))]) hx hb hK hP hD hS 1 0 rfl rfl (vp_lit (by decide +kernel)) et_a_107_15 rfl dX8_insert_107 (fun H locs hP hD hS => ?_)
      refine lv_aload_n hx hb dX8_insert_108 rfl (lv_at hl 1 rfl) ?_
      refine lv_iload_n hx hb dX8_insert_109 rfl (lv_at hl 0 rfl) ?_
      obtain ⟨t_a_110_16, h110_16, hF⟩ := bndE hF
      refine wrVM (As := [.int y65_8]) (rest := []) (C := RX8) (wn := [(a_t, .inr (8, [.ref a_t_a, v_t_fresh, v_t_aside, .ref a_t_kept, .int t_keptMany_56_5, .int s0_43_3, v_t_buffer, .int t_buffered, .int t_size, .int t_at, .int t_behind, .int t_kind, .int t_number, .int t_wrong, .int t_wrongAt, .int t_errorAt, v_t_moved, .int t_unused, v_t_written, .int t_writtenMany])), (a_t_a, .inl (t 0, 876, .inl t_a_110_16)), (a_t_kept, .inl (t 0, 7008, .inl t_kept_56_6))]) ⟨hx, hb, hml, hown, hts⟩ (c_X8_waits l D t z x a_t a_t_a v_t_fresh v_t_aside (.ref a_t_kept) v_t_buffer v_t_moved v_t_written t_keptMany_56_5 s0_43_3 t_buffered t_size t_at t_behind t_kind t_number t_wrong t_wrongAt t_errorAt t_unused t_writtenMany t_a_107_15 y65_8 H.size t_a_110_16 h110_16) (cwV 1 hts gX8_insert_X8_waits rfl rfl rfl hd_X8_waits ⟨Nat.le_of_ble_eq_true rfl, Nat.le_of_ble_eq_true rfl⟩) (hC.at hz hS) hP hD hS hA hz [true, true, false] rfl rfl rfl rfl 0 rfl (show vwCl[8]? = some (RX8, TX8, 20) from rfl) rfl rfl hl.1 rfl (Nat.le_of_ble_eq_true rfl) dX8_insert_110 ⟨Nat.zero_le _, Nat.zero_le _⟩ rfl (fun H locs hP hD hS => ?_)
      refine lv_aload_n hx hb dX8_insert_113 rfl (lv_at hl 1 rfl) ?_
      obtain ⟨t_a_114_18, h114_18, hF⟩ := bndE hF
      refine wrVM (As := []) (rest := []) (C := RX8) (wn := [(a_t, .inr (8, [.ref a_t_a, v_t_fresh, v_t_aside, .ref a_t_kept, .int t_keptMany_56_5, .int s0_43_3, v_t_buffer, .int t_buffered, .int t_size, .int t_at, .int t_behind, .int t_kind, .int t_number, .int t_wrong, .int t_wrongAt, .int t_errorAt, v_t_moved, .int t_unused, v_t_written, .int t_writtenMany])), (a_t_a, .inl (t 0, 876, .inl t_a_114_18)), (a_t_kept, .inl (t 0, 7008, .inl t_kept_56_6))]) ⟨hx, hb, hml, hown, hts⟩ (c_X8_forces l D t z x N a_t a_t_a v_t_fresh v_t_aside (.ref a_t_kept) v_t_buffer v_t_moved v_t_written t_keptMany_56_5 s0_43_3 t_buffered t_size t_at t_behind t_kind t_number t_wrong t_wrongAt t_errorAt t_unused t_writtenMany t_a_110_16 H.size t_a_114_18 h114_18) (cwV 0 hts gX8_insert_X8_forces rfl rfl rfl hd_X8_forces ⟨Nat.le_of_ble_eq_true rfl, Nat.le_of_ble_eq_true rfl⟩) (hC.at hz hS) hP hD hS hA hz [true, true, false] rfl rfl rfl rfl 0 rfl (show vwCl[8]? = some (RX8, TX8, 20) from rfl) rfl rfl hl.1 rfl (Nat.le_of_ble_eq_true rfl) dX8_insert_114 ⟨Nat.zero_le _, Nat.zero_le _⟩ rfl (fun H locs hP hD hS => ?_)
      refine lv_iload_n hx hb dX8_insert_117 rfl (lv_at hl 0 rfl) ?_
      cases hF
      exact we_iret hx hb hr hlocks dX8_insert_118 rfl hQ hP hD hS
    · have hF := brF c50 hF
      refine lv_iconst (v := 0) hx hb dX8_insert_53 (by decide) ?_
      cases hF
      exact we_iret hx hb hr hlocks dX8_insert_54 rfl hQ hP hD hS
  refine lv_if_eq (tgt := 23) hx hb dX8_insert_9 (by decide) (fun c9 => ?_) (fun c9 => ?_)
  · have hF := brT c9 hF
    refine lv_iconst (v := 1) hx hb dX8_insert_23 (by decide) ?_
    refine lv_goto (tgt := 43) hx hb dX8_insert_24 (by decide) ?_
    exact hk43_4 1 H locs ls hP hD hS hl hF
  · have hF := brF c9 hF
    refine lv_iload_n hx hb dX8_insert_12 rfl (lv_at hl 2 rfl) ?_
    refine lv_bipush (v := (-99)) hx hb dX8_insert_13 (by decide) ?_
    refine lv_bipush (v := 99) hx hb dX8_insert_15 (by decide) ?_
    obtain ⟨r17_20, h17_20, hF⟩ := bndE hF
    refine rdS (As := [.int p2, .int (-99), .int 99]) (rest := [.ref a_t]) ⟨hx, hb, hml, hown, hts⟩ (c_X8_isIn l D t z x p2 (-99) 99 H r17_20 h17_20) (va_cwS 3 hts gX8_insert_X8_isIn rfl rfl rfl hd_X8_isIn.2 ⟨Nat.le_of_ble_eq_true rfl, Nat.le_of_ble_eq_true rfl⟩) (hC.at hz hS) (selP (m9 := [false, false, false]) rfl rfl hP) rfl hl.1 rfl (Nat.le_of_ble_eq_true rfl) dX8_insert_17 ⟨Nat.zero_le _, Nat.zero_le _⟩ rfl ?_
    refine lv_if_ne (tgt := 27) hx hb dX8_insert_20 (by decide) (fun c20 => ?_) (fun c20 => ?_)
    · have hF := brF c20 hF
      refine lv_aload_n hx hb dX8_insert_27 rfl (lv_at hl 0 rfl) ?_
      refine va_get (D := D) (ci := 8) (v := .ref a_t_a) (C := RX8) (T := TX8) (N := 20) hx hb hts iw8 hown hK hP 0 rfl rfl 0 (by decide) hf7 (fun _ h9 => h9) rfl dX8_insert_28 ?_
      refine lv_iconst (v := 0) hx hb dX8_insert_31 (by decide) ?_
      refine my_iald (v := t_a_ 0) hx hb hK hP 1 0 rfl rfl (vp_lit (by decide +kernel)) rfl dX8_insert_32 ?_
      refine lv_bipush (v := 120) hx hb dX8_insert_33 (by decide) ?_
      refine lv_icmp_ne (tgt := 42) hx hb dX8_insert_35 (by decide) (fun c35 => ?_) (fun c35 => ?_)
      · have hF := brF c35 hF
        refine lv_iconst (v := 0) hx hb dX8_insert_42 (by decide) ?_
        exact hk43_4 0 H locs ls hP hD hS hl hF
      · have hF := brT c35 hF
        refine lv_iconst (v := 2) hx hb dX8_insert_38 (by decide) ?_
        refine lv_goto (tgt := 43) hx hb dX8_insert_39 (by decide) ?_
        exact hk43_4 2 H locs ls hP hD hS hl hF
    · have hF := brT c20 hF
      refine lv_iconst (v := 1) hx hb dX8_insert_23 (by decide) ?_
      refine lv_goto (tgt := 43) hx hb dX8_insert_24 (by decide) ?_
      exact hk43_4 1 H locs ls hP hD hS hl hF
abbrev rm_X8_isRow : Room := { frames := 1, cells := 0, slots := 0, locals := 22 }
theorem hd_X8_isRow : yX8_isRow.cls = RX8 ∧ yX8_isRow.cls ≠ "java/lang/invoke/MethodHandle" ∧ yX8_isRow.cls ≠ "java/lang/invoke/VarHandle" ∧ (parseMethodDescriptor yX8_isRow.desc).map (fun d => d.parameters.length) = some 1 := by decide +kernel
set_option maxRecDepth 100000 in
set_option maxHeartbeats 4000000 in
theorem c_X8_isRow (l : Launch) (D : va_G) (t : Nat → ClassId) (z : Nat) (x : Nat → Nat) (a_t : Nat) (a_t_a : Nat) (v_t_fresh : Value) (v_t_aside : Value) (v_t_kept : Value) (v_t_buffer : Value) (v_t_moved : Value) (v_t_written : Value) (t_keptMany : Int32) (t_thrown : Int32) (t_buffered : Int32) (t_size : Int32) (t_at : Int32) (t_behind : Int32) (t_kind : Int32) (t_number : Int32) (t_wrong : Int32) (t_wrongAt : Int32) (t_errorAt : Int32) (t_unused : Int32) (t_writtenMany : Int32) (t_a_ : (Nat → Int32)) (p1 : Int32) (H : Heap) (r : Int32) (hF : f_X8_isRow t_a_ p1 = some (r)) : RdM l D (TY t) z x yX8_isRow wsX8_isRow rm_X8_isRow [.ref a_t, .int p1] [(a_t, .inr (8, [.ref a_t_a, v_t_fresh, v_t_aside, v_t_kept, .int t_keptMany, .int t_thrown, v_t_buffer, .int t_buffered, .int t_size, .int t_at, .int t_behind, .int t_kind, .int t_number, .int t_wrong, .int t_wrongAt, .int t_errorAt, v_t_moved, .int t_unused, v_t_written, .int t_writtenMany])), (a_t_a, .inl (t 0, 876, .inl t_a_))] H (some (.int r)) := by
  refine rd_of (cc := cX8_isRow) (maxL := 2) (ret := (some .boolean)) (by decide) rfl (Nat.le_of_ble_eq_true rfl) ?_
  intro p e s m args below meth c Q hQ hx hb hr hml hts hown hlocks hH hP hC ls hl
  have hown : s.vm.findClass RX8 = some m.cls := hown
  have hl : lv_has ls 2 [(0, .ref a_t), (1, .int p1)] := hl
  have hK := hC.1
  have iw8 : ∀ w ∈ wsX80, w ∈ wsX8_isRow := fun _ h => List.mem_cons_of_mem _ (List.mem_append_right _ h)
  have hf7 := hts (.fieldLink RX8 7 "CrackedColumnModel" "a" "[I") (by decide +kernel)
  unfold f_X8_isRow at hF
  refine lv_iload_n hx hb dX8_isRow_0 rfl (lv_at hl 1 rfl) ?_
  refine lv_iconst (v := 0) hx hb dX8_isRow_1 (by decide) ?_
  refine lv_aload_n hx hb dX8_isRow_2 rfl (lv_at hl 0 rfl) ?_
  refine va_get (D := D) (ci := 8) (v := .ref a_t_a) (C := RX8) (T := TX8) (N := 20) hx hb hts iw8 hown hK hP 0 rfl rfl 0 (by decide) hf7 (fun _ h9 => h9) rfl dX8_isRow_3 ?_
  refine lv_iconst (v := 0) hx hb dX8_isRow_6 (by decide) ?_
  refine my_iald (v := t_a_ 0) hx hb hK hP 1 0 rfl rfl (vp_lit (by decide +kernel)) rfl dX8_isRow_7 ?_
  refine lv_iconst (v := 1) hx hb dX8_isRow_8 (by decide) ?_
  refine lv_isub hx hb dX8_isRow_9 ?_
  obtain ⟨r10_1, h10_1, hF⟩ := bndE hF
  refine rdS (As := [.int p1, .int 0, .int ((t_a_ 0) - 1)]) (rest := []) ⟨hx, hb, hml, hown, hts⟩ (c_X8_isIn l D t z x p1 0 ((t_a_ 0) - 1) H r10_1 h10_1) (va_cwS 3 hts gX8_isRow_X8_isIn rfl rfl rfl hd_X8_isIn.2 ⟨Nat.le_of_ble_eq_true rfl, Nat.le_of_ble_eq_true rfl⟩) hC (selP (m9 := [false, false]) rfl rfl hP) rfl hl.1 rfl (Nat.le_of_ble_eq_true rfl) dX8_isRow_10 ⟨Nat.zero_le _, Nat.zero_le _⟩ rfl ?_
  obtain ⟨g13_2, hF⟩ := gp hF
  cases hF
  exact rd_zret hx hb hr hlocks dX8_isRow_13 (boolN g13_2) rfl hQ
