abbrev rm_X1_init900 : Room := { frames := 1, cells := 1, slots := 900, locals := 24 }
theorem hd_X1_init900 : yX1_init.cls = RX1 ∧ yX1_init.cls ≠ "java/lang/invoke/MethodHandle" ∧ yX1_init.cls ≠ "java/lang/invoke/VarHandle" ∧ (parseMethodDescriptor yX1_init.desc).map (fun d => d.parameters.length) = some 1 := by decide +kernel
set_option maxRecDepth 100000 in
set_option maxHeartbeats 4000000 in
theorem c_X1_init900 (l : Launch) (D : va_G) (t : Nat → ClassId) (z : Nat) (x : Nat → Nat) (a_t : Nat) (sz : Nat) (t_length' : Int32) (t_bytes_' : (Nat → Int32)) (hF : f_X1_init900 = some (t_length', t_bytes_')) : CrM l D (TY t) z x yX1_init wsX1_init rm_X1_init900 [.ref a_t, .int 900] [(a_t, .inr (1, [.null, .int 0]))] (fun (q : Nat → Nat) => [(a_t, .inr (1, [.ref (q 0), .int t_length'])), ((q 0), .inl (t 1, 900, .inl t_bytes_'))]) sz 1 900 := by
  refine cr_of (cc := cX1_init) (maxL := 2) (ret := none) (by decide) rfl (Nat.le_of_ble_eq_true rfl) ?_
  intro p e s m args below meth c A Q hQ hx hb hr hml hts hown hlocks hin H locs hP hD hS hA hz hC ls hl
  have hown : s.vm.findClass RX1 = some m.cls := hown
  have hl : lv_has ls 2 [(0, .ref a_t), (1, .int 900)] := hl
  have hK := hC.1
  have iw1 : ∀ w ∈ wsX10, w ∈ wsX1_init := fun _ h => List.mem_cons_of_mem _ (List.mem_append_right _ h)
  have hf7 := hts (.fieldLink RX1 7 "CrackedColumn$Bytes" "length" "I") (by decide +kernel)
  have hf19 := hts (.fieldLink RX1 19 "CrackedColumn$Bytes" "bytes" "[B") (by decide +kernel)
  have hm_max13 := hts (.methodLink RX1 13 Lib.Math.max.name) (by decide +kernel)
  have hm_max_s := hts (.static Lib.Math.max.name) (by decide +kernel)
  have hm_max_c := hts (.code Lib.Math.max.name Lib.Math.max.code 2 (some .int)) (by decide +kernel)
  have hm_init := hts (.initialized "java/lang/Math") (by decide +kernel)
  unfold f_X1_init900 at hF
  refine lv_aload_n hx hb dX1_init_0 rfl (lv_at hl 0 rfl) ?_
  refine W.objInit hx hb hown (hts (.methodLink RX1 1 objectInit) (by decide +kernel)) (hts (.instanceMethod objectInit) (by decide +kernel)) (hts (.code objectInit ⟨#[0xb1]⟩ 1 none) (by decide +kernel)) rfl (hl.1.trans hml.symm) rfl dX1_init_1 (Nat.le_of_ble_eq_true rfl) (Nat.le_of_ble_eq_true rfl) ?_
  refine lv_aload_n hx hb dX1_init_4 rfl (lv_at hl 0 rfl) ?_
  refine lv_iconst (v := 0) hx hb dX1_init_5 (by decide) ?_
  refine my_put (ty := .int) (v := .int 0) (ci := 1) (C := RX1) (T := TX1) (N := 2) (wn := [(a_t, .inr (1, [.null, .int 0]))]) hx hb hts iw1 tyX1 tyX1_ok nmX1 hown hK hP hD hS 0 rfl rfl 1 (by decide) hf7 (fun _ h9 => h9) rfl (by decide +kernel) rfl rfl (Nat.le_of_ble_eq_true rfl) rfl dX1_init_6 (fun H locs hP hD hS => ?_)
  refine lv_aload_n hx hb dX1_init_9 rfl (lv_at hl 0 rfl) ?_
  refine lv_iload_n hx hb dX1_init_10 rfl (lv_at hl 1 rfl) ?_
  refine lv_iconst (v := 0) hx hb dX1_init_11 (by decide) ?_
  refine va_mmax hx hb (hml.trans hl.1.symm) hown hm_max13 hm_max_s hm_init hm_max_c (Nat.le_of_ble_eq_true rfl) (Nat.le_of_ble_eq_true rfl) (Nat.le_of_ble_eq_true rfl) (Nat.le_of_ble_eq_true rfl) dX1_init_12 ?_
  rw [show (if (900 : Int32) < 0 then 0 else 900) = (900 : Int32) from rfl]
  refine my_newa (atype := .byte) (ty := .byte) (t0 := 1) (wn := (fun a_t_bytes => [(a_t, .inr (1, [.null, .int 0])), (a_t_bytes, .inl (t 1, 900, .inl zf))])) (N' := 900) hx hb (hts (.arrayClass .byte) (by decide +kernel)) rfl hK rfl hP hD hS hA (fun _ => rfl) (by decide) (by decide +kernel) (Nat.le_of_ble_eq_true rfl) (Nat.le_of_ble_eq_true rfl) (Nat.le_of_ble_eq_true rfl) (fun a => rfl) dX1_init_15 (fun a_t_bytes H hP hD hS => ?_)
  refine my_putF (ty := tyX1 0) (v := .ref a_t_bytes) (ci := 1) (C := RX1) (T := TX1) (N := 2) (wn := [(a_t, .inr (1, [.ref a_t_bytes, .int 0])), (a_t_bytes, .inl (t 1, 900, .inl zf))]) hx hb hts iw1 tyX1 tyX1_ok nmX1 hown hK hP hD hS 0 rfl rfl 0 (by decide) hf19 (fun _ h9 => h9) (by decide +kernel) hin rfl (by decide +kernel) rfl rfl (Nat.le_of_ble_eq_true rfl) rfl dX1_init_17 (fun H locs hP hD hS => ?_)
  cases hF
  exact W.widen (k := 1) (n := 900) (Nat.le_of_ble_eq_true rfl) (Nat.le_of_ble_eq_true rfl) (cr_vret hx hb hr hlocks dX1_init_20 hQ hP hD hS (fun i => [a_t_bytes].getD i 0) [0, 1] rfl (by decide +kernel))
abbrev rm_X1_init1302 : Room := { frames := 1, cells := 1, slots := 1302, locals := 24 }
theorem hd_X1_init1302 : yX1_init.cls = RX1 ∧ yX1_init.cls ≠ "java/lang/invoke/MethodHandle" ∧ yX1_init.cls ≠ "java/lang/invoke/VarHandle" ∧ (parseMethodDescriptor yX1_init.desc).map (fun d => d.parameters.length) = some 1 := by decide +kernel
set_option maxRecDepth 100000 in
set_option maxHeartbeats 4000000 in
theorem c_X1_init1302 (l : Launch) (D : va_G) (t : Nat → ClassId) (z : Nat) (x : Nat → Nat) (a_t : Nat) (sz : Nat) (t_length' : Int32) (t_bytes_' : (Nat → Int32)) (hF : f_X1_init1302 = some (t_length', t_bytes_')) : CrM l D (TY t) z x yX1_init wsX1_init rm_X1_init1302 [.ref a_t, .int 1302] [(a_t, .inr (1, [.null, .int 0]))] (fun (q : Nat → Nat) => [(a_t, .inr (1, [.ref (q 0), .int t_length'])), ((q 0), .inl (t 1, 1302, .inl t_bytes_'))]) sz 1 1302 := by
  refine cr_of (cc := cX1_init) (maxL := 2) (ret := none) (by decide) rfl (Nat.le_of_ble_eq_true rfl) ?_
  intro p e s m args below meth c A Q hQ hx hb hr hml hts hown hlocks hin H locs hP hD hS hA hz hC ls hl
  have hown : s.vm.findClass RX1 = some m.cls := hown
  have hl : lv_has ls 2 [(0, .ref a_t), (1, .int 1302)] := hl
  have hK := hC.1
  have iw1 : ∀ w ∈ wsX10, w ∈ wsX1_init := fun _ h => List.mem_cons_of_mem _ (List.mem_append_right _ h)
  have hf7 := hts (.fieldLink RX1 7 "CrackedColumn$Bytes" "length" "I") (by decide +kernel)
  have hf19 := hts (.fieldLink RX1 19 "CrackedColumn$Bytes" "bytes" "[B") (by decide +kernel)
  have hm_max13 := hts (.methodLink RX1 13 Lib.Math.max.name) (by decide +kernel)
  have hm_max_s := hts (.static Lib.Math.max.name) (by decide +kernel)
  have hm_max_c := hts (.code Lib.Math.max.name Lib.Math.max.code 2 (some .int)) (by decide +kernel)
  have hm_init := hts (.initialized "java/lang/Math") (by decide +kernel)
  unfold f_X1_init1302 at hF
  refine lv_aload_n hx hb dX1_init_0 rfl (lv_at hl 0 rfl) ?_
  refine W.objInit hx hb hown (hts (.methodLink RX1 1 objectInit) (by decide +kernel)) (hts (.instanceMethod objectInit) (by decide +kernel)) (hts (.code objectInit ⟨#[0xb1]⟩ 1 none) (by decide +kernel)) rfl (hl.1.trans hml.symm) rfl dX1_init_1 (Nat.le_of_ble_eq_true rfl) (Nat.le_of_ble_eq_true rfl) ?_
  refine lv_aload_n hx hb dX1_init_4 rfl (lv_at hl 0 rfl) ?_
  refine lv_iconst (v := 0) hx hb dX1_init_5 (by decide) ?_
  refine my_put (ty := .int) (v := .int 0) (ci := 1) (C := RX1) (T := TX1) (N := 2) (wn := [(a_t, .inr (1, [.null, .int 0]))]) hx hb hts iw1 tyX1 tyX1_ok nmX1 hown hK hP hD hS 0 rfl rfl 1 (by decide) hf7 (fun _ h9 => h9) rfl (by decide +kernel) rfl rfl (Nat.le_of_ble_eq_true rfl) rfl dX1_init_6 (fun H locs hP hD hS => ?_)
  refine lv_aload_n hx hb dX1_init_9 rfl (lv_at hl 0 rfl) ?_
  refine lv_iload_n hx hb dX1_init_10 rfl (lv_at hl 1 rfl) ?_
  refine lv_iconst (v := 0) hx hb dX1_init_11 (by decide) ?_
  refine va_mmax hx hb (hml.trans hl.1.symm) hown hm_max13 hm_max_s hm_init hm_max_c (Nat.le_of_ble_eq_true rfl) (Nat.le_of_ble_eq_true rfl) (Nat.le_of_ble_eq_true rfl) (Nat.le_of_ble_eq_true rfl) dX1_init_12 ?_
  rw [show (if (1302 : Int32) < 0 then 0 else 1302) = (1302 : Int32) from rfl]
  refine my_newa (atype := .byte) (ty := .byte) (t0 := 1) (wn := (fun a_t_bytes => [(a_t, .inr (1, [.null, .int 0])), (a_t_bytes, .inl (t 1, 1302, .inl zf))])) (N' := 1302) hx hb (hts (.arrayClass .byte) (by decide +kernel)) rfl hK rfl hP hD hS hA (fun _ => rfl) (by decide) (by decide +kernel) (Nat.le_of_ble_eq_true rfl) (Nat.le_of_ble_eq_true rfl) (Nat.le_of_ble_eq_true rfl) (fun a => rfl) dX1_init_15 (fun a_t_bytes H hP hD hS => ?_)
  refine my_putF (ty := tyX1 0) (v := .ref a_t_bytes) (ci := 1) (C := RX1) (T := TX1) (N := 2) (wn := [(a_t, .inr (1, [.ref a_t_bytes, .int 0])), (a_t_bytes, .inl (t 1, 1302, .inl zf))]) hx hb hts iw1 tyX1 tyX1_ok nmX1 hown hK hP hD hS 0 rfl rfl 0 (by decide) hf19 (fun _ h9 => h9) (by decide +kernel) hin rfl (by decide +kernel) rfl rfl (Nat.le_of_ble_eq_true rfl) rfl dX1_init_17 (fun H locs hP hD hS => ?_)
  cases hF
  exact W.widen (k := 1) (n := 1302) (Nat.le_of_ble_eq_true rfl) (Nat.le_of_ble_eq_true rfl) (cr_vret hx hb hr hlocks dX1_init_20 hQ hP hD hS (fun i => [a_t_bytes].getD i 0) [0, 1] rfl (by decide +kernel))
abbrev rm_X0_init : Room := { frames := 1, cells := 1, slots := 9, locals := 24 }
theorem hd_X0_init : yX0_init.cls = RX0 ∧ yX0_init.cls ≠ "java/lang/invoke/MethodHandle" ∧ yX0_init.cls ≠ "java/lang/invoke/VarHandle" ∧ (parseMethodDescriptor yX0_init.desc).map (fun d => d.parameters.length) = some 0 := by decide +kernel
set_option maxRecDepth 100000 in
set_option maxHeartbeats 4000000 in
theorem c_X0_init (l : Launch) (D : va_G) (t : Nat → ClassId) (z : Nat) (x : Nat → Nat) (a_t : Nat) (sz : Nat) (t_given' : Int32) (t_numbers_' : (Nat → Int32)) (hF : f_X0_init = some (t_given', t_numbers_')) : CrM l D (TY t) z x yX0_init wsX0_init rm_X0_init [.ref a_t] [(a_t, .inr (0, [.null, .int 0]))] (fun (q : Nat → Nat) => [(a_t, .inr (0, [.ref (q 0), .int t_given'])), ((q 0), .inl (t 0, 9, .inl t_numbers_'))]) sz 1 9 := by
  refine cr_of (cc := cX0_init) (maxL := 1) (ret := none) (by decide) rfl (Nat.le_of_ble_eq_true rfl) ?_
  intro p e s m args below meth c A Q hQ hx hb hr hml hts hown hlocks hin H locs hP hD hS hA hz hC ls hl
  have hown : s.vm.findClass RX0 = some m.cls := hown
  have hl : lv_has ls 1 [(0, .ref a_t)] := hl
  have hK := hC.1
  have iw0 : ∀ w ∈ wsX00, w ∈ wsX0_init := fun _ h => List.mem_cons_of_mem _ (List.mem_append_right _ h)
  have hf9 := hts (.fieldLink RX0 9 "CrackedColumn$Answer" "numbers" "[I") (by decide +kernel)
  have hf15 := hts (.fieldLink RX0 15 "CrackedColumn$Answer" "given" "Z") (by decide +kernel)
  unfold f_X0_init at hF
  refine lv_aload_n hx hb dX0_init_0 rfl (lv_at hl 0 rfl) ?_
  refine W.objInit hx hb hown (hts (.methodLink RX0 3 objectInit) (by decide +kernel)) (hts (.instanceMethod objectInit) (by decide +kernel)) (hts (.code objectInit ⟨#[0xb1]⟩ 1 none) (by decide +kernel)) rfl (hl.1.trans hml.symm) rfl dX0_init_1 (Nat.le_of_ble_eq_true rfl) (Nat.le_of_ble_eq_true rfl) ?_
  refine lv_aload_n hx hb dX0_init_4 rfl (lv_at hl 0 rfl) ?_
  refine lv_bipush (v := 9) hx hb dX0_init_5 (by decide) ?_
  refine my_newa (atype := .int) (ty := .int) (t0 := 0) (wn := (fun a_t_numbers => [(a_t, .inr (0, [.null, .int 0])), (a_t_numbers, .inl (t 0, 9, .inl zf))])) (N' := 9) hx hb (hts (.arrayClass .int) (by decide +kernel)) rfl hK rfl hP hD hS hA (fun _ => rfl) (by decide) (by decide +kernel) (Nat.le_of_ble_eq_true rfl) (Nat.le_of_ble_eq_true rfl) (Nat.le_of_ble_eq_true rfl) (fun a => rfl) dX0_init_7 (fun a_t_numbers H hP hD hS => ?_)
  refine my_putF (ty := tyX0 0) (v := .ref a_t_numbers) (ci := 0) (C := RX0) (T := TX0) (N := 2) (wn := [(a_t, .inr (0, [.ref a_t_numbers, .int 0])), (a_t_numbers, .inl (t 0, 9, .inl zf))]) hx hb hts iw0 tyX0 tyX0_ok nmX0 hown hK hP hD hS 0 rfl rfl 0 (by decide) hf9 (fun _ h9 => h9) (by decide +kernel) hin rfl (by decide +kernel) rfl rfl (Nat.le_of_ble_eq_true rfl) rfl dX0_init_9 (fun H locs hP hD hS => ?_)
  refine lv_aload_n hx hb dX0_init_12 rfl (lv_at hl 0 rfl) ?_
  refine lv_iconst (v := 0) hx hb dX0_init_13 (by decide) ?_
  refine my_put (ty := .boolean) (v := .int 0) (ci := 0) (C := RX0) (T := TX0) (N := 2) (wn := [(a_t, .inr (0, [.ref a_t_numbers, .int 0])), (a_t_numbers, .inl (t 0, 9, .inl zf))]) hx hb hts iw0 tyX0 tyX0_ok nmX0 hown hK hP hD hS 0 rfl rfl 1 (by decide) hf15 (fun _ h9 => h9) rfl (by decide +kernel) rfl rfl (Nat.le_of_ble_eq_true rfl) rfl dX0_init_14 (fun H locs hP hD hS => ?_)
  cases hF
  exact W.widen (k := 1) (n := 9) (Nat.le_of_ble_eq_true rfl) (Nat.le_of_ble_eq_true rfl) (cr_vret hx hb hr hlocks dX0_init_17 hQ hP hD hS (fun i => [a_t_numbers].getD i 0) [0, 1] rfl (by decide +kernel))
abbrev rm_X0_clear : Room := { frames := 0, cells := 0, slots := 0, locals := 0 }
theorem hd_X0_clear : yX0_clear.cls = RX0 ∧ yX0_clear.cls ≠ "java/lang/invoke/MethodHandle" ∧ yX0_clear.cls ≠ "java/lang/invoke/VarHandle" ∧ (parseMethodDescriptor yX0_clear.desc).map (fun d => d.parameters.length) = some 0 := by decide +kernel
set_option maxRecDepth 100000 in
set_option maxHeartbeats 4000000 in
theorem c_X0_clear (l : Launch) (D : va_G) (t : Nat → ClassId) (z : Nat) (x : Nat → Nat) (N : Nat) (a_t : Nat) (a_t_numbers : Nat) (t_given : Int32) (t_numbers_ : (Nat → Int32)) (sz : Nat) (t_numbers_' : (Nat → Int32)) (hF : f_X0_clear N t_numbers_ = some (t_numbers_')) : WrM l D (TY t) z x yX0_clear wsX0_clear rm_X0_clear [.ref a_t] [(a_t, .inr (0, [.ref a_t_numbers, .int t_given])), (a_t_numbers, .inl (t 0, 9, .inl t_numbers_))] [(a_t, .inr (0, [.ref a_t_numbers, .int t_given])), (a_t_numbers, .inl (t 0, 9, .inl t_numbers_'))] sz none 0 0 := by
  refine wr_of (cc := cX0_clear) (maxL := 2) (ret := none) (by decide) rfl (Nat.le_of_ble_eq_true rfl) ?_
  intro p e s m args below meth c A Q hQ hx hb hr hml hts hown hlocks hin H locs hP hD hS hA hz hC ls hl
  have hown : s.vm.findClass RX0 = some m.cls := hown
  have hl : lv_has ls 2 [(0, .ref a_t)] := hl
  have hK := hC.1
  have iw0 : ∀ w ∈ wsX00, w ∈ wsX0_clear := fun _ h => List.mem_cons_of_mem _ (List.mem_append_right _ h)
  have hf9 := hts (.fieldLink RX0 9 "CrackedColumn$Answer" "numbers" "[I") (by decide +kernel)
  unfold f_X0_clear at hF
  refine lv_iconst (v := 0) hx hb dX0_clear_0 (by decide) ?_
  refine lv_istore_n (lv' := [(1, .int 0), (0, .ref a_t)]) hx hb dX0_clear_1 rfl hl (by decide) rfl (fun ls hl => ?_)
  obtain ⟨k21_2, ek21_2, hF⟩ := jnE hF
  have hk21_2 : ∀ (t_numbers_21_1 : (Nat → Int32)) (H : Heap) (locs : List Loc) (ls : Array Slot), va_P D vwCl [(a_t, .inr (0, [.ref a_t_numbers, .int t_given])), (a_t_numbers, .inl (t 0, 9, .inl t_numbers_21_1))] H → va_D A [(a_t, .inr (0, [.ref a_t_numbers, .int t_given])), (a_t_numbers, .inl (t 0, 9, .inl t_numbers_21_1))] → va_S A s.heap H locs → lv_has ls 2 [(0, .ref a_t)] → k21_2 t_numbers_21_1 = some (t_numbers_') → W p l e rm_X0_clear s m args below meth c H locs 0 0 Q (F0 m 21 ls []) := by
    subst ek21_2
    intro t_numbers_21_1 H locs ls hP hD hS hl hF
    refine lv_aload_n hx hb dX0_clear_21 rfl (lv_at hl 0 rfl) ?_
    refine va_get (D := D) (ci := 0) (v := .ref a_t_numbers) (C := RX0) (T := TX0) (N := 2) hx hb hts iw0 hown hK hP 0 rfl rfl 0 (by decide) hf9 (fun _ h9 => h9) rfl dX0_clear_22 ?_
    refine lv_iconst (v := 2) hx hb dX0_clear_25 (by decide) ?_
    refine lv_iconst (v := (-1)) hx hb dX0_clear_26 (by decide) ?_
    obtain ⟨t_numbers_27_3, et_numbers_27_3⟩ : ∃ y : Nat → Int32, y = upd t_numbers_21_1 2 (-1) := ⟨_, rfl⟩
    have hF := ltE et_numbers_27_3 hF
    refine my_iast (g := t_numbers_27_3) (wn := [(a_t, .inr (0, [.ref a_t_numbers, .int t_given])), (a_t_numbers, .inl (t 0, 9, .inl t_numbers_27_3))]) hx hb hK hP hD hS 1 0 rfl rfl (vp_lit (by decide +kernel)) et_numbers_27_3 rfl dX0_clear_27 (fun H locs hP hD hS => ?_)
    refine lv_aload_n hx hb dX0_clear_28 rfl (lv_at hl 0 rfl) ?_
    refine va_get (D := D) (ci := 0) (v := .ref a_t_numbers) (C := RX0) (T := TX0) (N := 2) hx hb hts iw0 hown hK hP 0 rfl rfl 0 (by decide) hf9 (fun _ h9 => h9) rfl dX0_clear_29 ?_
    refine lv_iconst (v := 3) hx hb dX0_clear_32 (by decide) ?_
    refine lv_iconst (v := (-1)) hx hb dX0_clear_33 (by decide) ?_
    obtain ⟨t_numbers_34_4, et_numbers_34_4⟩ : ∃ y : Nat → Int32, y = upd t_numbers_27_3 3 (-1) := ⟨_, rfl⟩
    have hF := ltE et_numbers_34_4 hF
    refine my_iast (g := t_numbers_34_4) (wn := [(a_t, .inr (0, [.ref a_t_numbers, .int t_given])), (a_t_numbers, .inl (t 0, 9, .inl t_numbers_34_4))]) hx hb hK hP hD hS 1 0 rfl rfl (vp_lit (by decide +kernel)) et_numbers_34_4 rfl dX0_clear_34 (fun H locs hP hD hS => ?_)
    cases hF
    exact we_vret hx hb hr hlocks dX0_clear_35 rfl hQ hP hD hS
  have hlp2 : ∀ n2 : Nat, ∀ (x1_2_5 : Int32) (t_numbers_2_6 : (Nat → Int32)) (H : Heap) (locs : List Loc) (ls : Array Slot), va_P D vwCl [(a_t, .inr (0, [.ref a_t_numbers, .int t_given])), (a_t_numbers, .inl (t 0, 9, .inl t_numbers_2_6))] H → va_D A [(a_t, .inr (0, [.ref a_t_numbers, .int t_given])), (a_t_numbers, .inl (t 0, 9, .inl t_numbers_2_6))] → va_S A s.heap H locs → lv_has ls 2 [(0, .ref a_t), (1, .int x1_2_5)] → f_X0_clear_2 k21_2 n2 x1_2_5 t_numbers_2_6 = some (t_numbers_') → W p l e rm_X0_clear s m args below meth c H locs 0 0 Q (F0 m 2 ls []) := by
    intro n2
    induction n2 with
    | zero =>
      intro x1_2_5 t_numbers_2_6 H locs ls hP hD hS hl hF
      cases (show none = some (t_numbers_') from hF)
    | succ n2 ih2 =>
      intro x1_2_5 t_numbers_2_6 H locs ls hP hD hS hl hF
      rw [f_X0_clear_2] at hF
      refine lv_iload_n hx hb dX0_clear_2 rfl (lv_at hl 1 rfl) ?_
      refine lv_bipush (v := 9) hx hb dX0_clear_3 (by decide) ?_
      refine lv_icmp_ge (tgt := 21) hx hb dX0_clear_5 (by decide) (fun c5 => ?_) (fun c5 => ?_)
      · have hF := brT c5 hF
        exact hk21_2 t_numbers_2_6 H locs ls hP hD hS (lv_sub hl [0] rfl) hF
      · have hF := brF c5 hF
        refine lv_aload_n hx hb dX0_clear_8 rfl (lv_at hl 0 rfl) ?_
        refine va_get (D := D) (ci := 0) (v := .ref a_t_numbers) (C := RX0) (T := TX0) (N := 2) hx hb hts iw0 hown hK hP 0 rfl rfl 0 (by decide) hf9 (fun _ h9 => h9) rfl dX0_clear_9 ?_
        refine lv_iload_n hx hb dX0_clear_12 rfl (lv_at hl 1 rfl) ?_
        refine lv_iconst (v := 0) hx hb dX0_clear_13 (by decide) ?_
        obtain ⟨g14_6, hF⟩ := gd hF
        obtain ⟨t_numbers_14_8, et_numbers_14_8⟩ : ∃ y : Nat → Int32, y = upd t_numbers_2_6 x1_2_5.toNatClampNeg 0 := ⟨_, rfl⟩
        have hF := ltE et_numbers_14_8 hF
        refine my_iast (g := t_numbers_14_8) (wn := [(a_t, .inr (0, [.ref a_t_numbers, .int t_given])), (a_t_numbers, .inl (t 0, 9, .inl t_numbers_14_8))]) hx hb hK hP hD hS 1 0 rfl rfl g14_6 et_numbers_14_8 rfl dX0_clear_14 (fun H locs hP hD hS => ?_)
        obtain ⟨y15_9, ey15_9⟩ : ∃ y : Int32, y = x1_2_5 + 1 := ⟨_, rfl⟩
        have hF := ltE ey15_9 hF
        refine lv_iinc (v := y15_9) (lv' := [(1, .int y15_9), (0, .ref a_t)]) hx hb dX0_clear_15 hl (k := 1) rfl (by rw [ey15_9]; rfl) (by decide) rfl (fun ls hl => ?_)
        refine lv_goto (tgt := 2) hx hb dX0_clear_18 (by decide) ?_
        exact ih2 y15_9 t_numbers_14_8 H locs ls hP hD hS (lv_sub hl [1, 0] rfl) hF
  exact hlp2 N 0 t_numbers_ H locs ls hP hD hS (lv_sub hl [1, 0] rfl) hF
abbrev rm_X0_take : Room := { frames := 1, cells := 0, slots := 0, locals := 21 }
theorem hd_X0_take : yX0_take.cls = RX0 ∧ yX0_take.cls ≠ "java/lang/invoke/MethodHandle" ∧ yX0_take.cls ≠ "java/lang/invoke/VarHandle" ∧ (parseMethodDescriptor yX0_take.desc).map (fun d => d.parameters.length) = some 2 := by decide +kernel
set_option maxRecDepth 100000 in
set_option maxHeartbeats 4000000 in
theorem c_X0_take (l : Launch) (D : va_G) (t : Nat → ClassId) (z : Nat) (x : Nat → Nat) (a_t : Nat) (a_t_numbers : Nat) (t_given : Int32) (t_numbers_ : (Nat → Int32)) (p1 : Int32) (p2 : Int32) (sz : Nat) (t_numbers_' : (Nat → Int32)) (hF : f_X0_take t_numbers_ p1 p2 = some (t_numbers_')) : WrM l D (TY t) z x yX0_take wsX0_take rm_X0_take [.ref a_t, .int p1, .int p2] [(a_t, .inr (0, [.ref a_t_numbers, .int t_given])), (a_t_numbers, .inl (t 0, 9, .inl t_numbers_))] [(a_t, .inr (0, [.ref a_t_numbers, .int t_given])), (a_t_numbers, .inl (t 0, 9, .inl t_numbers_'))] sz none 0 0 := by
  refine wr_of (cc := cX0_take) (maxL := 4) (ret := none) (by decide) rfl (Nat.le_of_ble_eq_true rfl) ?_
  intro p e s m args below meth c A Q hQ hx hb hr hml hts hown hlocks hin H locs hP hD hS hA hz hC ls hl
  have hown : s.vm.findClass RX0 = some m.cls := hown
  have hl : lv_has ls 4 [(0, .ref a_t), (1, .int p1), (2, .int p2)] := hl
  have hK := hC.1
  have iw0 : ∀ w ∈ wsX00, w ∈ wsX0_take := fun _ h => List.mem_cons_of_mem _ (List.mem_append_right _ h)
  have hf9 := hts (.fieldLink RX0 9 "CrackedColumn$Answer" "numbers" "[I") (by decide +kernel)
  have hm_max29 := hts (.methodLink RX0 29 Lib.Math.max.name) (by decide +kernel)
  have hm_min23 := hts (.methodLink RX0 23 Lib.Math.min.name) (by decide +kernel)
  have hm_max_s := hts (.static Lib.Math.max.name) (by decide +kernel)
  have hm_max_c := hts (.code Lib.Math.max.name Lib.Math.max.code 2 (some .int)) (by decide +kernel)
  have hm_min_s := hts (.static Lib.Math.min.name) (by decide +kernel)
  have hm_min_c := hts (.code Lib.Math.min.name Lib.Math.min.code 2 (some .int)) (by decide +kernel)
  have hm_init := hts (.initialized "java/lang/Math") (by decide +kernel)
  unfold f_X0_take at hF
  refine lv_aload_n hx hb dX0_take_0 rfl (lv_at hl 0 rfl) ?_
  refine va_get (D := D) (ci := 0) (v := .ref a_t_numbers) (C := RX0) (T := TX0) (N := 2) hx hb hts iw0 hown hK hP 0 rfl rfl 0 (by decide) hf9 (fun _ h9 => h9) rfl dX0_take_1 ?_
  refine lv_iconst (v := 0) hx hb dX0_take_4 (by decide) ?_
  refine my_iald (v := t_numbers_ 0) hx hb hK hP 1 0 rfl rfl (vp_lit (by decide +kernel)) rfl dX0_take_5 ?_
  obtain ⟨k14_2, ek14_2, hF⟩ := jnE hF
  have hk14_2 : ∀ (s0_14_1 : Int32) (H : Heap) (locs : List Loc) (ls : Array Slot), va_P D vwCl [(a_t, .inr (0, [.ref a_t_numbers, .int t_given])), (a_t_numbers, .inl (t 0, 9, .inl t_numbers_))] H → va_D A [(a_t, .inr (0, [.ref a_t_numbers, .int t_given])), (a_t_numbers, .inl (t 0, 9, .inl t_numbers_))] → va_S A s.heap H locs → lv_has ls 4 [(0, .ref a_t), (1, .int p1), (2, .int p2)] → k14_2 s0_14_1 = some (t_numbers_') → W p l e rm_X0_take s m args below meth c H locs 0 0 Q (F0 m 14 ls [.int s0_14_1]) := by
    subst ek14_2
    intro s0_14_1 H locs ls hP hD hS hl hF
    refine lv_istore_n (lv' := [(3, .int s0_14_1), (0, .ref a_t), (1, .int p1), (2, .int p2)]) hx hb dX0_take_14 rfl hl (by decide) rfl (fun ls hl => ?_)
    refine lv_aload_n hx hb dX0_take_15 rfl (lv_at hl 1 rfl) ?_
    refine va_get (D := D) (ci := 0) (v := .ref a_t_numbers) (C := RX0) (T := TX0) (N := 2) hx hb hts iw0 hown hK hP 0 rfl rfl 0 (by decide) hf9 (fun _ h9 => h9) rfl dX0_take_16 ?_
    refine lv_iconst (v := 0) hx hb dX0_take_19 (by decide) ?_
    refine lv_dup2_11 hx hb dX0_take_20 rfl rfl ?_
    refine my_iald (v := t_numbers_ 0) hx hb hK hP 1 0 rfl rfl (vp_lit (by decide +kernel)) rfl dX0_take_21 ?_
    refine lv_iconst (v := 1) hx hb dX0_take_22 (by decide) ?_
    refine lv_iadd hx hb dX0_take_23 ?_
    obtain ⟨t_numbers_24_3, et_numbers_24_3⟩ : ∃ y : Nat → Int32, y = upd t_numbers_ 0 ((t_numbers_ 0) + 1) := ⟨_, rfl⟩
    have hF := ltE et_numbers_24_3 hF
    refine my_iast (g := t_numbers_24_3) (wn := [(a_t, .inr (0, [.ref a_t_numbers, .int t_given])), (a_t_numbers, .inl (t 0, 9, .inl t_numbers_24_3))]) hx hb hK hP hD hS 1 0 rfl rfl (vp_lit (by decide +kernel)) et_numbers_24_3 rfl dX0_take_24 (fun H locs hP hD hS => ?_)
    refine lv_aload_n hx hb dX0_take_25 rfl (lv_at hl 1 rfl) ?_
    refine va_get (D := D) (ci := 0) (v := .ref a_t_numbers) (C := RX0) (T := TX0) (N := 2) hx hb hts iw0 hown hK hP 0 rfl rfl 0 (by decide) hf9 (fun _ h9 => h9) rfl dX0_take_26 ?_
    refine lv_iconst (v := 1) hx hb dX0_take_29 (by decide) ?_
    refine lv_dup2_11 hx hb dX0_take_30 rfl rfl ?_
    refine my_iald (v := t_numbers_24_3 1) hx hb hK hP 1 0 rfl rfl (vp_lit (by decide +kernel)) rfl dX0_take_31 ?_
    refine lv_iload_n hx hb dX0_take_32 rfl (lv_at hl 3 rfl) ?_
    refine lv_iadd hx hb dX0_take_33 ?_
    obtain ⟨t_numbers_34_4, et_numbers_34_4⟩ : ∃ y : Nat → Int32, y = upd t_numbers_24_3 1 ((t_numbers_24_3 1) + p2) := ⟨_, rfl⟩
    have hF := ltE et_numbers_34_4 hF
    refine my_iast (g := t_numbers_34_4) (wn := [(a_t, .inr (0, [.ref a_t_numbers, .int t_given])), (a_t_numbers, .inl (t 0, 9, .inl t_numbers_34_4))]) hx hb hK hP hD hS 1 0 rfl rfl (vp_lit (by decide +kernel)) et_numbers_34_4 rfl dX0_take_34 (fun H locs hP hD hS => ?_)
    refine lv_aload_n hx hb dX0_take_35 rfl (lv_at hl 1 rfl) ?_
    refine va_get (D := D) (ci := 0) (v := .ref a_t_numbers) (C := RX0) (T := TX0) (N := 2) hx hb hts iw0 hown hK hP 0 rfl rfl 0 (by decide) hf9 (fun _ h9 => h9) rfl dX0_take_36 ?_
    refine lv_iconst (v := 2) hx hb dX0_take_39 (by decide) ?_
    refine lv_iload_n hx hb dX0_take_40 rfl (lv_at hl 0 rfl) ?_
    obtain ⟨k58_6, ek58_6, hF⟩ := jnE hF
    have hk58_6 : ∀ (s0_58_5 : Int32) (H : Heap) (locs : List Loc) (ls : Array Slot), va_P D vwCl [(a_t, .inr (0, [.ref a_t_numbers, .int t_given])), (a_t_numbers, .inl (t 0, 9, .inl t_numbers_34_4))] H → va_D A [(a_t, .inr (0, [.ref a_t_numbers, .int t_given])), (a_t_numbers, .inl (t 0, 9, .inl t_numbers_34_4))] → va_S A s.heap H locs → lv_has ls 4 [(0, .ref a_t), (1, .int p1)] → k58_6 s0_58_5 = some (t_numbers_') → W p l e rm_X0_take s m args below meth c H locs 0 0 Q (F0 m 58 ls [.int s0_58_5, .int 2, .ref a_t_numbers]) := by
      subst ek58_6
      intro s0_58_5 H locs ls hP hD hS hl hF
      obtain ⟨t_numbers_58_7, et_numbers_58_7⟩ : ∃ y : Nat → Int32, y = upd t_numbers_34_4 2 s0_58_5 := ⟨_, rfl⟩
      have hF := ltE et_numbers_58_7 hF
      refine my_iast (g := t_numbers_58_7) (wn := [(a_t, .inr (0, [.ref a_t_numbers, .int t_given])), (a_t_numbers, .inl (t 0, 9, .inl t_numbers_58_7))]) hx hb hK hP hD hS 1 0 rfl rfl (vp_lit (by decide +kernel)) et_numbers_58_7 rfl dX0_take_58 (fun H locs hP hD hS => ?_)
      refine lv_aload_n hx hb dX0_take_59 rfl (lv_at hl 0 rfl) ?_
      refine va_get (D := D) (ci := 0) (v := .ref a_t_numbers) (C := RX0) (T := TX0) (N := 2) hx hb hts iw0 hown hK hP 0 rfl rfl 0 (by decide) hf9 (fun _ h9 => h9) rfl dX0_take_60 ?_
      refine lv_iconst (v := 3) hx hb dX0_take_63 (by decide) ?_
      refine lv_aload_n hx hb dX0_take_64 rfl (lv_at hl 0 rfl) ?_
      refine va_get (D := D) (ci := 0) (v := .ref a_t_numbers) (C := RX0) (T := TX0) (N := 2) hx hb hts iw0 hown hK hP 0 rfl rfl 0 (by decide) hf9 (fun _ h9 => h9) rfl dX0_take_65 ?_
      refine lv_iconst (v := 3) hx hb dX0_take_68 (by decide) ?_
      refine my_iald (v := t_numbers_58_7 3) hx hb hK hP 1 0 rfl rfl (vp_lit (by decide +kernel)) rfl dX0_take_69 ?_
      refine lv_iload_n hx hb dX0_take_70 rfl (lv_at hl 1 rfl) ?_
      refine va_mmax hx hb (hml.trans hl.1.symm) hown hm_max29 hm_max_s hm_init hm_max_c (Nat.le_of_ble_eq_true rfl) (Nat.le_of_ble_eq_true rfl) (Nat.zero_le _) (Nat.zero_le _) dX0_take_71 ?_
      refine lv_topi (fun y71_8 ey71_8 => ?_)
      have hF := ltE ey71_8 hF
      obtain ⟨t_numbers_74_9, et_numbers_74_9⟩ : ∃ y : Nat → Int32, y = upd t_numbers_58_7 3 y71_8 := ⟨_, rfl⟩
      have hF := ltE et_numbers_74_9 hF
      refine my_iast (g := t_numbers_74_9) (wn := [(a_t, .inr (0, [.ref a_t_numbers, .int t_given])), (a_t_numbers, .inl (t 0, 9, .inl t_numbers_74_9))]) hx hb hK hP hD hS 1 0 rfl rfl (vp_lit (by decide +kernel)) et_numbers_74_9 rfl dX0_take_74 (fun H locs hP hD hS => ?_)
      cases hF
      exact we_vret hx hb hr hlocks dX0_take_75 rfl hQ hP hD hS
    refine lv_if_eq (tgt := 48) hx hb dX0_take_41 (by decide) (fun c41 => ?_) (fun c41 => ?_)
    · have hF := brT c41 hF
      refine lv_aload_n hx hb dX0_take_48 rfl (lv_at hl 1 rfl) ?_
      refine va_get (D := D) (ci := 0) (v := .ref a_t_numbers) (C := RX0) (T := TX0) (N := 2) hx hb hts iw0 hown hK hP 0 rfl rfl 0 (by decide) hf9 (fun _ h9 => h9) rfl dX0_take_49 ?_
      refine lv_iconst (v := 2) hx hb dX0_take_52 (by decide) ?_
      refine my_iald (v := t_numbers_34_4 2) hx hb hK hP 1 0 rfl rfl (vp_lit (by decide +kernel)) rfl dX0_take_53 ?_
      refine lv_iload_n hx hb dX0_take_54 rfl (lv_at hl 2 rfl) ?_
      refine va_mmin hx hb (hml.trans hl.1.symm) hown hm_min23 hm_min_s hm_init hm_min_c (Nat.le_of_ble_eq_true rfl) (Nat.le_of_ble_eq_true rfl) (Nat.zero_le _) (Nat.zero_le _) dX0_take_55 ?_
      refine lv_topi (fun y55_10 ey55_10 => ?_)
      have hF := ltE ey55_10 hF
      exact hk58_6 y55_10 H locs ls hP hD hS (lv_sub hl [1, 2] rfl) hF
    · have hF := brF c41 hF
      refine lv_iload_n hx hb dX0_take_44 rfl (lv_at hl 2 rfl) ?_
      refine lv_goto (tgt := 58) hx hb dX0_take_45 (by decide) ?_
      exact hk58_6 p1 H locs ls hP hD hS (lv_sub hl [1, 2] rfl) hF
  refine lv_if_ne (tgt := 13) hx hb dX0_take_6 (by decide) (fun c6 => ?_) (fun c6 => ?_)
  · have hF := brF c6 hF
    refine lv_iconst (v := 0) hx hb dX0_take_13 (by decide) ?_
    exact hk14_2 0 H locs ls hP hD hS hl hF
  · have hF := brT c6 hF
    refine lv_iconst (v := 1) hx hb dX0_take_9 (by decide) ?_
    refine lv_goto (tgt := 14) hx hb dX0_take_10 (by decide) ?_
    exact hk14_2 1 H locs ls hP hD hS hl hF
abbrev rm_X0_numberAt : Room := { frames := 0, cells := 0, slots := 0, locals := 0 }
theorem hd_X0_numberAt : yX0_numberAt.cls = RX0 ∧ yX0_numberAt.cls ≠ "java/lang/invoke/MethodHandle" ∧ yX0_numberAt.cls ≠ "java/lang/invoke/VarHandle" ∧ (parseMethodDescriptor yX0_numberAt.desc).map (fun d => d.parameters.length) = some 1 := by decide +kernel
set_option maxRecDepth 100000 in
set_option maxHeartbeats 4000000 in
theorem c_X0_numberAt (l : Launch) (D : va_G) (t : Nat → ClassId) (z : Nat) (x : Nat → Nat) (a_t : Nat) (a_t_numbers : Nat) (t_given : Int32) (t_numbers_ : (Nat → Int32)) (p1 : Int32) (H : Heap) (r : Int32) (hF : f_X0_numberAt t_numbers_ p1 = some (r)) : RdM l D (TY t) z x yX0_numberAt wsX0_numberAt rm_X0_numberAt [.ref a_t, .int p1] [(a_t, .inr (0, [.ref a_t_numbers, .int t_given])), (a_t_numbers, .inl (t 0, 9, .inl t_numbers_))] H (some (.int r)) := by
  refine rd_of (cc := cX0_numberAt) (maxL := 2) (ret := (some .int)) (by decide) rfl (Nat.le_of_ble_eq_true rfl) ?_
  intro p e s m args below meth c Q hQ hx hb hr hml hts hown hlocks hH hP hC ls hl
  have hown : s.vm.findClass RX0 = some m.cls := hown
  have hl : lv_has ls 2 [(0, .ref a_t), (1, .int p1)] := hl
  have hK := hC.1
  have iw0 : ∀ w ∈ wsX00, w ∈ wsX0_numberAt := fun _ h => List.mem_cons_of_mem _ (List.mem_append_right _ h)
  have hf9 := hts (.fieldLink RX0 9 "CrackedColumn$Answer" "numbers" "[I") (by decide +kernel)
  unfold f_X0_numberAt at hF
  refine lv_iload_n hx hb dX0_numberAt_0 rfl (lv_at hl 1 rfl) ?_
  refine lv_if_lt (tgt := 19) hx hb dX0_numberAt_1 (by decide) (fun c1 => ?_) (fun c1 => ?_)
  · have hF := brT c1 hF
    refine lv_iconst (v := (-1)) hx hb dX0_numberAt_19 (by decide) ?_
    cases hF
    exact rd_iret hx hb hr hlocks dX0_numberAt_20 rfl hQ
  · have hF := brF c1 hF
    refine lv_iload_n hx hb dX0_numberAt_4 rfl (lv_at hl 1 rfl) ?_
    refine lv_bipush (v := 9) hx hb dX0_numberAt_5 (by decide) ?_
    refine lv_icmp_ge (tgt := 19) hx hb dX0_numberAt_7 (by decide) (fun c7 => ?_) (fun c7 => ?_)
    · have hF := brT c7 hF
      refine lv_iconst (v := (-1)) hx hb dX0_numberAt_19 (by decide) ?_
      cases hF
      exact rd_iret hx hb hr hlocks dX0_numberAt_20 rfl hQ
    · have hF := brF c7 hF
      refine lv_aload_n hx hb dX0_numberAt_10 rfl (lv_at hl 0 rfl) ?_
      refine va_get (D := D) (ci := 0) (v := .ref a_t_numbers) (C := RX0) (T := TX0) (N := 2) hx hb hts iw0 hown hK hP 0 rfl rfl 0 (by decide) hf9 (fun _ h9 => h9) rfl dX0_numberAt_11 ?_
      refine lv_iload_n hx hb dX0_numberAt_14 rfl (lv_at hl 1 rfl) ?_
      obtain ⟨g15_0, hF⟩ := gd hF
      refine my_iald (v := t_numbers_ p1.toNatClampNeg) hx hb hK hP 1 0 rfl rfl g15_0 rfl dX0_numberAt_15 ?_
      refine lv_goto (tgt := 20) hx hb dX0_numberAt_16 (by decide) ?_
      cases hF
      exact rd_iret hx hb hr hlocks dX0_numberAt_20 rfl hQ
abbrev rm_X0_putNumber : Room := { frames := 0, cells := 0, slots := 0, locals := 0 }
theorem hd_X0_putNumber : yX0_putNumber.cls = RX0 ∧ yX0_putNumber.cls ≠ "java/lang/invoke/MethodHandle" ∧ yX0_putNumber.cls ≠ "java/lang/invoke/VarHandle" ∧ (parseMethodDescriptor yX0_putNumber.desc).map (fun d => d.parameters.length) = some 2 := by decide +kernel
set_option maxRecDepth 100000 in
set_option maxHeartbeats 4000000 in
theorem c_X0_putNumber (l : Launch) (D : va_G) (t : Nat → ClassId) (z : Nat) (x : Nat → Nat) (a_t : Nat) (a_t_numbers : Nat) (t_given : Int32) (t_numbers_ : (Nat → Int32)) (p1 : Int32) (p2 : Int32) (sz : Nat) (t_numbers_' : (Nat → Int32)) (hF : f_X0_putNumber t_numbers_ p1 p2 = some (t_numbers_')) : WrM l D (TY t) z x yX0_putNumber wsX0_putNumber rm_X0_putNumber [.ref a_t, .int p1, .int p2] [(a_t, .inr (0, [.ref a_t_numbers, .int t_given])), (a_t_numbers, .inl (t 0, 9, .inl t_numbers_))] [(a_t, .inr (0, [.ref a_t_numbers, .int t_given])), (a_t_numbers, .inl (t 0, 9, .inl t_numbers_'))] sz none 0 0 := by
  refine wr_of (cc := cX0_putNumber) (maxL := 3) (ret := none) (by decide) rfl (Nat.le_of_ble_eq_true rfl) ?_
  intro p e s m args below meth c A Q hQ hx hb hr hml hts hown hlocks hin H locs hP hD hS hA hz hC ls hl
  have hown : s.vm.findClass RX0 = some m.cls := hown
  have hl : lv_has ls 3 [(0, .ref a_t), (1, .int p1), (2, .int p2)] := hl
  have hK := hC.1
  have iw0 : ∀ w ∈ wsX00, w ∈ wsX0_putNumber := fun _ h => List.mem_cons_of_mem _ (List.mem_append_right _ h)
  have hf9 := hts (.fieldLink RX0 9 "CrackedColumn$Answer" "numbers" "[I") (by decide +kernel)
  unfold f_X0_putNumber at hF
  refine lv_iload_n hx hb dX0_putNumber_0 rfl (lv_at hl 1 rfl) ?_
  refine lv_if_lt (tgt := 17) hx hb dX0_putNumber_1 (by decide) (fun c1 => ?_) (fun c1 => ?_)
  · have hF := brT c1 hF
    cases hF
    exact we_vret hx hb hr hlocks dX0_putNumber_17 rfl hQ hP hD hS
  · have hF := brF c1 hF
    refine lv_iload_n hx hb dX0_putNumber_4 rfl (lv_at hl 1 rfl) ?_
    refine lv_bipush (v := 9) hx hb dX0_putNumber_5 (by decide) ?_
    refine lv_icmp_ge (tgt := 17) hx hb dX0_putNumber_7 (by decide) (fun c7 => ?_) (fun c7 => ?_)
    · have hF := brT c7 hF
      cases hF
      exact we_vret hx hb hr hlocks dX0_putNumber_17 rfl hQ hP hD hS
    · have hF := brF c7 hF
      refine lv_aload_n hx hb dX0_putNumber_10 rfl (lv_at hl 0 rfl) ?_
      refine va_get (D := D) (ci := 0) (v := .ref a_t_numbers) (C := RX0) (T := TX0) (N := 2) hx hb hts iw0 hown hK hP 0 rfl rfl 0 (by decide) hf9 (fun _ h9 => h9) rfl dX0_putNumber_11 ?_
      refine lv_iload_n hx hb dX0_putNumber_14 rfl (lv_at hl 1 rfl) ?_
      refine lv_iload_n hx hb dX0_putNumber_15 rfl (lv_at hl 2 rfl) ?_
      obtain ⟨g16_0, hF⟩ := gd hF
      obtain ⟨t_numbers_16_2, et_numbers_16_2⟩ : ∃ y : Nat → Int32, y = upd t_numbers_ p1.toNatClampNeg p2 := ⟨_, rfl⟩
      have hF := ltE et_numbers_16_2 hF
      refine my_iast (g := t_numbers_16_2) (wn := [(a_t, .inr (0, [.ref a_t_numbers, .int t_given])), (a_t_numbers, .inl (t 0, 9, .inl t_numbers_16_2))]) hx hb hK hP hD hS 1 0 rfl rfl g16_0 et_numbers_16_2 rfl dX0_putNumber_16 (fun H locs hP hD hS => ?_)
      cases hF
      exact we_vret hx hb hr hlocks dX0_putNumber_17 rfl hQ hP hD hS
abbrev rm_X1_put : Room := { frames := 0, cells := 0, slots := 0, locals := 0 }
theorem hd_X1_put : yX1_put.cls = RX1 ∧ yX1_put.cls ≠ "java/lang/invoke/MethodHandle" ∧ yX1_put.cls ≠ "java/lang/invoke/VarHandle" ∧ (parseMethodDescriptor yX1_put.desc).map (fun d => d.parameters.length) = some 1 := by decide +kernel
set_option maxRecDepth 100000 in
set_option maxHeartbeats 4000000 in
theorem c_X1_put (l : Launch) (D : va_G) (t : Nat → ClassId) (z : Nat) (x : Nat → Nat) (a_t : Nat) (a_t_bytes : Nat) (n_t_bytes : Nat) (t_length : Int32) (t_bytes_ : (Nat → Int32)) (p1 : Int32) (sz : Nat) (t_length' : Int32) (t_bytes_' : (Nat → Int32)) (hF : f_X1_put t_length t_bytes_ n_t_bytes p1 = some (t_length', t_bytes_')) : WrM l D (TY t) z x yX1_put wsX1_put rm_X1_put [.ref a_t, .int p1] [(a_t, .inr (1, [.ref a_t_bytes, .int t_length])), (a_t_bytes, .inl (t 1, n_t_bytes, .inl t_bytes_))] [(a_t, .inr (1, [.ref a_t_bytes, .int t_length'])), (a_t_bytes, .inl (t 1, n_t_bytes, .inl t_bytes_'))] sz none 0 0 := by
  refine wr_of (cc := cX1_put) (maxL := 2) (ret := none) (by decide) rfl (Nat.le_of_ble_eq_true rfl) ?_
  intro p e s m args below meth c A Q hQ hx hb hr hml hts hown hlocks hin H locs hP hD hS hA hz hC ls hl
  have hown : s.vm.findClass RX1 = some m.cls := hown
  have hl : lv_has ls 2 [(0, .ref a_t), (1, .int p1)] := hl
  have hK := hC.1
  have iw1 : ∀ w ∈ wsX10, w ∈ wsX1_put := fun _ h => List.mem_cons_of_mem _ (List.mem_append_right _ h)
  have hf7 := hts (.fieldLink RX1 7 "CrackedColumn$Bytes" "length" "I") (by decide +kernel)
  have hf19 := hts (.fieldLink RX1 19 "CrackedColumn$Bytes" "bytes" "[B") (by decide +kernel)
  unfold f_X1_put at hF
  refine lv_aload_n hx hb dX1_put_0 rfl (lv_at hl 0 rfl) ?_
  refine va_get (D := D) (ci := 1) (v := .int t_length) (C := RX1) (T := TX1) (N := 2) hx hb hts iw1 hown hK hP 0 rfl rfl 1 (by decide) hf7 (fun _ h9 => h9) rfl dX1_put_1 ?_
  refine lv_if_lt (tgt := 40) hx hb dX1_put_4 (by decide) (fun c4 => ?_) (fun c4 => ?_)
  · have hF := brT c4 hF
    cases hF
    exact we_vret hx hb hr hlocks dX1_put_40 rfl hQ hP hD hS
  · have hF := brF c4 hF
    refine lv_aload_n hx hb dX1_put_7 rfl (lv_at hl 0 rfl) ?_
    refine va_get (D := D) (ci := 1) (v := .int t_length) (C := RX1) (T := TX1) (N := 2) hx hb hts iw1 hown hK hP 0 rfl rfl 1 (by decide) hf7 (fun _ h9 => h9) rfl dX1_put_8 ?_
    refine lv_aload_n hx hb dX1_put_11 rfl (lv_at hl 0 rfl) ?_
    refine va_get (D := D) (ci := 1) (v := .ref a_t_bytes) (C := RX1) (T := TX1) (N := 2) hx hb hts iw1 hown hK hP 0 rfl rfl 0 (by decide) hf19 (fun _ h9 => h9) rfl dX1_put_12 ?_
    refine va_alen (v := (Int32.ofNat n_t_bytes)) hx hb hK hP 1 1 rfl rfl rfl dX1_put_15 ?_
    refine lv_icmp_ge (tgt := 40) hx hb dX1_put_16 (by decide) (fun c16 => ?_) (fun c16 => ?_)
    · have hF := brT c16 hF
      cases hF
      exact we_vret hx hb hr hlocks dX1_put_40 rfl hQ hP hD hS
    · have hF := brF c16 hF
      refine lv_aload_n hx hb dX1_put_19 rfl (lv_at hl 0 rfl) ?_
      refine va_get (D := D) (ci := 1) (v := .ref a_t_bytes) (C := RX1) (T := TX1) (N := 2) hx hb hts iw1 hown hK hP 0 rfl rfl 0 (by decide) hf19 (fun _ h9 => h9) rfl dX1_put_20 ?_
      refine lv_aload_n hx hb dX1_put_23 rfl (lv_at hl 0 rfl) ?_
      refine va_get (D := D) (ci := 1) (v := .int t_length) (C := RX1) (T := TX1) (N := 2) hx hb hts iw1 hown hK hP 0 rfl rfl 1 (by decide) hf7 (fun _ h9 => h9) rfl dX1_put_24 ?_
      refine lv_iload_n hx hb dX1_put_27 rfl (lv_at hl 1 rfl) ?_
      refine lv_i2b (v := p1.toInt8.toInt32) hx hb dX1_put_28 rfl ?_
      obtain ⟨g29_0, hF⟩ := gd hF
      obtain ⟨t_bytes_29_2, et_bytes_29_2⟩ : ∃ y : Nat → Int32, y = upd t_bytes_ t_length.toNatClampNeg (vp_nar .byte p1.toInt8.toInt32) := ⟨_, rfl⟩
      have hF := ltE et_bytes_29_2 hF
      refine my_bast (g := t_bytes_29_2) (wn := [(a_t, .inr (1, [.ref a_t_bytes, .int t_length])), (a_t_bytes, .inl (t 1, n_t_bytes, .inl t_bytes_29_2))]) hx hb hK hP hD hS 1 1 rfl rfl g29_0 et_bytes_29_2 rfl dX1_put_29 (fun H locs hP hD hS => ?_)
      refine lv_aload_n hx hb dX1_put_30 rfl (lv_at hl 0 rfl) ?_
      refine lv_dup hx hb dX1_put_31 rfl ?_
      refine va_get (D := D) (ci := 1) (v := .int t_length) (C := RX1) (T := TX1) (N := 2) hx hb hts iw1 hown hK hP 0 rfl rfl 1 (by decide) hf7 (fun _ h9 => h9) rfl dX1_put_32 ?_
      refine lv_iconst (v := 1) hx hb dX1_put_35 (by decide) ?_
      refine lv_iadd hx hb dX1_put_36 ?_
      refine lv_topi (fun y37_3 ey37_3 => ?_)
      have hF := ltE ey37_3 hF
      refine my_put (ty := .int) (v := .int y37_3) (ci := 1) (C := RX1) (T := TX1) (N := 2) (wn := [(a_t, .inr (1, [.ref a_t_bytes, .int y37_3])), (a_t_bytes, .inl (t 1, n_t_bytes, .inl t_bytes_29_2))]) hx hb hts iw1 tyX1 tyX1_ok nmX1 hown hK hP hD hS 0 rfl rfl 1 (by decide) hf7 (fun _ h9 => h9) rfl (by decide +kernel) rfl rfl (Nat.le_of_ble_eq_true rfl) rfl dX1_put_37 (fun H locs hP hD hS => ?_)
      cases hF
      exact we_vret hx hb hr hlocks dX1_put_40 rfl hQ hP hD hS
abbrev rm_X1_putFour : Room := { frames := 1, cells := 0, slots := 0, locals := 21 }
theorem hd_X1_putFour : yX1_putFour.cls = RX1 ∧ yX1_putFour.cls ≠ "java/lang/invoke/MethodHandle" ∧ yX1_putFour.cls ≠ "java/lang/invoke/VarHandle" ∧ (parseMethodDescriptor yX1_putFour.desc).map (fun d => d.parameters.length) = some 1 := by decide +kernel
set_option maxRecDepth 100000 in
set_option maxHeartbeats 4000000 in
theorem c_X1_putFour (l : Launch) (D : va_G) (t : Nat → ClassId) (z : Nat) (x : Nat → Nat) (N : Nat) (a_t : Nat) (a_t_bytes : Nat) (n_t_bytes : Nat) (t_length : Int32) (t_bytes_ : (Nat → Int32)) (p1 : Int32) (sz : Nat) (t_length' : Int32) (t_bytes_' : (Nat → Int32)) (hF : f_X1_putFour N t_length t_bytes_ n_t_bytes p1 = some (t_length', t_bytes_')) : WrM l D (TY t) z x yX1_putFour wsX1_putFour rm_X1_putFour [.ref a_t, .int p1] [(a_t, .inr (1, [.ref a_t_bytes, .int t_length])), (a_t_bytes, .inl (t 1, n_t_bytes, .inl t_bytes_))] [(a_t, .inr (1, [.ref a_t_bytes, .int t_length'])), (a_t_bytes, .inl (t 1, n_t_bytes, .inl t_bytes_'))] sz none 0 0 := by
  refine wr_of (cc := cX1_putFour) (maxL := 3) (ret := none) (by decide) rfl (Nat.le_of_ble_eq_true rfl) ?_
  intro p e s m args below meth c A Q hQ hx hb hr hml hts hown hlocks hin H locs hP hD hS hA hz hC ls hl
  have hown : s.vm.findClass RX1 = some m.cls := hown
  have hl : lv_has ls 3 [(0, .ref a_t), (1, .int p1)] := hl
  have hK := hC.1
  unfold f_X1_putFour at hF
  refine lv_bipush (v := 24) hx hb dX1_putFour_0 (by decide) ?_
  refine lv_istore_n (lv' := [(2, .int 24), (0, .ref a_t), (1, .int p1)]) hx hb dX1_putFour_2 rfl hl (by decide) rfl (fun ls hl => ?_)
  obtain ⟨k20_3, ek20_3, hF⟩ := jnE hF
  have hk20_3 : ∀ (t_length_20_1 : Int32) (t_bytes_20_2 : (Nat → Int32)) (H : Heap) (locs : List Loc) (ls : Array Slot), va_P D vwCl [(a_t, .inr (1, [.ref a_t_bytes, .int t_length_20_1])), (a_t_bytes, .inl (t 1, n_t_bytes, .inl t_bytes_20_2))] H → va_D A [(a_t, .inr (1, [.ref a_t_bytes, .int t_length_20_1])), (a_t_bytes, .inl (t 1, n_t_bytes, .inl t_bytes_20_2))] → va_S A s.heap H locs → lv_has ls 3 [] → k20_3 t_length_20_1 t_bytes_20_2 = some (t_length', t_bytes_') → W p l e rm_X1_putFour s m args below meth c H locs 0 0 Q (F0 m 20 ls []) := by
    subst ek20_3
    intro t_length_20_1 t_bytes_20_2 H locs ls hP hD hS hl hF
    cases hF
    exact we_vret hx hb hr hlocks dX1_putFour_20 rfl hQ hP hD hS
  have hlp3 : ∀ n3 : Nat, ∀ (x2_3_4 : Int32) (t_length_3_5 : Int32) (t_bytes_3_6 : (Nat → Int32)) (H : Heap) (locs : List Loc) (ls : Array Slot), va_P D vwCl [(a_t, .inr (1, [.ref a_t_bytes, .int t_length_3_5])), (a_t_bytes, .inl (t 1, n_t_bytes, .inl t_bytes_3_6))] H → va_D A [(a_t, .inr (1, [.ref a_t_bytes, .int t_length_3_5])), (a_t_bytes, .inl (t 1, n_t_bytes, .inl t_bytes_3_6))] → va_S A s.heap H locs → lv_has ls 3 [(0, .ref a_t), (1, .int p1), (2, .int x2_3_4)] → f_X1_putFour_3 n_t_bytes p1 k20_3 n3 x2_3_4 t_length_3_5 t_bytes_3_6 = some (t_length', t_bytes_') → W p l e rm_X1_putFour s m args below meth c H locs 0 0 Q (F0 m 3 ls []) := by
    intro n3
    induction n3 with
    | zero =>
      intro x2_3_4 t_length_3_5 t_bytes_3_6 H locs ls hP hD hS hl hF
      cases (show none = some (t_length', t_bytes_') from hF)
    | succ n3 ih3 =>
      intro x2_3_4 t_length_3_5 t_bytes_3_6 H locs ls hP hD hS hl hF
      rw [f_X1_putFour_3] at hF
      refine lv_iload_n hx hb dX1_putFour_3 rfl (lv_at hl 2 rfl) ?_
      refine lv_if_lt (tgt := 20) hx hb dX1_putFour_4 (by decide) (fun c4 => ?_) (fun c4 => ?_)
      · have hF := brT c4 hF
        exact hk20_3 t_length_3_5 t_bytes_3_6 H locs ls hP hD hS (lv_sub hl [] rfl) hF
      · have hF := brF c4 hF
        refine lv_aload_n hx hb dX1_putFour_7 rfl (lv_at hl 0 rfl) ?_
        refine lv_iload_n hx hb dX1_putFour_8 rfl (lv_at hl 1 rfl) ?_
        refine lv_iload_n hx hb dX1_putFour_9 rfl (lv_at hl 2 rfl) ?_
        refine lv_ishr hx hb dX1_putFour_10 ?_
        obtain ⟨t_length_11_7, t_bytes_11_8, h11_8, hF⟩ := bnd2E hF
        refine wrVM (As := [.int (p1 >>> (x2_3_4 &&& 31))]) (rest := []) (C := RX1) (wn := [(a_t, .inr (1, [.ref a_t_bytes, .int t_length_11_7])), (a_t_bytes, .inl (t 1, n_t_bytes, .inl t_bytes_11_8))]) ⟨hx, hb, hml, hown, hts⟩ (c_X1_put l D t z x a_t a_t_bytes n_t_bytes t_length_3_5 t_bytes_3_6 (p1 >>> (x2_3_4 &&& 31)) H.size t_length_11_7 t_bytes_11_8 h11_8) (cwV 1 hts gX1_putFour_X1_put rfl rfl rfl hd_X1_put ⟨Nat.le_of_ble_eq_true rfl, Nat.le_of_ble_eq_true rfl⟩) (hC.at hz hS) hP hD hS hA hz [true, true] rfl rfl rfl rfl 0 rfl (show vwCl[1]? = some (RX1, TX1, 2) from rfl) rfl rfl hl.1 rfl (Nat.le_of_ble_eq_true rfl) dX1_putFour_11 ⟨Nat.zero_le _, Nat.zero_le _⟩ rfl (fun H locs hP hD hS => ?_)
        obtain ⟨y14_10, ey14_10⟩ : ∃ y : Int32, y = x2_3_4 + (-8) := ⟨_, rfl⟩
        have hF := ltE ey14_10 hF
        refine lv_iinc (v := y14_10) (lv' := [(2, .int y14_10), (0, .ref a_t), (1, .int p1)]) hx hb dX1_putFour_14 hl (k := 2) rfl (by rw [ey14_10]; rfl) (by decide) rfl (fun ls hl => ?_)
        refine lv_goto (tgt := 3) hx hb dX1_putFour_17 (by decide) ?_
        exact ih3 y14_10 t_length_11_7 t_bytes_11_8 H locs ls hP hD hS (lv_sub hl [1, 2, 0] rfl) hF
  exact hlp3 N 24 t_length t_bytes_ H locs ls hP hD hS (lv_sub hl [1, 2, 0] rfl) hF
abbrev rm_X1_putNumber : Room := { frames := 1, cells := 0, slots := 0, locals := 21 }
theorem hd_X1_putNumber : yX1_putNumber.cls = RX1 ∧ yX1_putNumber.cls ≠ "java/lang/invoke/MethodHandle" ∧ yX1_putNumber.cls ≠ "java/lang/invoke/VarHandle" ∧ (parseMethodDescriptor yX1_putNumber.desc).map (fun d => d.parameters.length) = some 1 := by decide +kernel
set_option maxRecDepth 100000 in
set_option maxHeartbeats 4000000 in
theorem c_X1_putNumber (l : Launch) (D : va_G) (t : Nat → ClassId) (z : Nat) (x : Nat → Nat) (N : Nat) (a_t : Nat) (a_t_bytes : Nat) (n_t_bytes : Nat) (t_length : Int32) (t_bytes_ : (Nat → Int32)) (p1 : Int32) (sz : Nat) (t_length' : Int32) (t_bytes_' : (Nat → Int32)) (hF : f_X1_putNumber N t_length t_bytes_ n_t_bytes p1 = some (t_length', t_bytes_')) : WrM l D (TY t) z x yX1_putNumber wsX1_putNumber rm_X1_putNumber [.ref a_t, .int p1] [(a_t, .inr (1, [.ref a_t_bytes, .int t_length])), (a_t_bytes, .inl (t 1, n_t_bytes, .inl t_bytes_))] [(a_t, .inr (1, [.ref a_t_bytes, .int t_length'])), (a_t_bytes, .inl (t 1, n_t_bytes, .inl t_bytes_'))] sz none 0 0 := by
  refine wr_of (cc := cX1_putNumber) (maxL := 4) (ret := none) (by decide) rfl (Nat.le_of_ble_eq_true rfl) ?_
  intro p e s m args below meth c A Q hQ hx hb hr hml hts hown hlocks hin H locs hP hD hS hA hz hC ls hl
  have hown : s.vm.findClass RX1 = some m.cls := hown
  have hl : lv_has ls 4 [(0, .ref a_t), (1, .int p1)] := hl
  have hK := hC.1
  unfold f_X1_putNumber at hF
  refine lv_iconst (v := 1) hx hb dX1_putNumber_0 (by decide) ?_
  refine lv_istore_n (lv' := [(2, .int 1), (0, .ref a_t), (1, .int p1)]) hx hb dX1_putNumber_1 rfl hl (by decide) rfl (fun ls hl => ?_)
  refine lv_iconst (v := 1) hx hb dX1_putNumber_2 (by decide) ?_
  refine lv_istore_n (lv' := [(3, .int 1), (2, .int 1), (0, .ref a_t), (1, .int p1)]) hx hb dX1_putNumber_3 rfl hl (by decide) rfl (fun ls hl => ?_)
  obtain ⟨k29_2, ek29_2, hF⟩ := jnE hF
  have hk29_2 : ∀ (x2_29_1 : Int32) (H : Heap) (locs : List Loc) (ls : Array Slot), va_P D vwCl [(a_t, .inr (1, [.ref a_t_bytes, .int t_length])), (a_t_bytes, .inl (t 1, n_t_bytes, .inl t_bytes_))] H → va_D A [(a_t, .inr (1, [.ref a_t_bytes, .int t_length])), (a_t_bytes, .inl (t 1, n_t_bytes, .inl t_bytes_))] → va_S A s.heap H locs → lv_has ls 4 [(0, .ref a_t), (1, .int p1), (2, .int x2_29_1)] → k29_2 x2_29_1 = some (t_length', t_bytes_') → W p l e rm_X1_putNumber s m args below meth c H locs 0 0 Q (F0 m 29 ls []) := by
    subst ek29_2
    intro x2_29_1 H locs ls hP hD hS hl hF
    obtain ⟨k54_5, ek54_5, hF⟩ := jnE hF
    have hk54_5 : ∀ (t_length_54_3 : Int32) (t_bytes_54_4 : (Nat → Int32)) (H : Heap) (locs : List Loc) (ls : Array Slot), va_P D vwCl [(a_t, .inr (1, [.ref a_t_bytes, .int t_length_54_3])), (a_t_bytes, .inl (t 1, n_t_bytes, .inl t_bytes_54_4))] H → va_D A [(a_t, .inr (1, [.ref a_t_bytes, .int t_length_54_3])), (a_t_bytes, .inl (t 1, n_t_bytes, .inl t_bytes_54_4))] → va_S A s.heap H locs → lv_has ls 4 [] → k54_5 t_length_54_3 t_bytes_54_4 = some (t_length', t_bytes_') → W p l e rm_X1_putNumber s m args below meth c H locs 0 0 Q (F0 m 54 ls []) := by
      subst ek54_5
      intro t_length_54_3 t_bytes_54_4 H locs ls hP hD hS hl hF
      cases hF
      exact we_vret hx hb hr hlocks dX1_putNumber_54 rfl hQ hP hD hS
    have hlp29 : ∀ n29 : Nat, ∀ (x2_29_6 : Int32) (t_length_29_7 : Int32) (t_bytes_29_8 : (Nat → Int32)) (H : Heap) (locs : List Loc) (ls : Array Slot), va_P D vwCl [(a_t, .inr (1, [.ref a_t_bytes, .int t_length_29_7])), (a_t_bytes, .inl (t 1, n_t_bytes, .inl t_bytes_29_8))] H → va_D A [(a_t, .inr (1, [.ref a_t_bytes, .int t_length_29_7])), (a_t_bytes, .inl (t 1, n_t_bytes, .inl t_bytes_29_8))] → va_S A s.heap H locs → lv_has ls 4 [(0, .ref a_t), (1, .int p1), (2, .int x2_29_6)] → f_X1_putNumber_29 n_t_bytes p1 k54_5 n29 x2_29_6 t_length_29_7 t_bytes_29_8 = some (t_length', t_bytes_') → W p l e rm_X1_putNumber s m args below meth c H locs 0 0 Q (F0 m 29 ls []) := by
      intro n29
      induction n29 with
      | zero =>
        intro x2_29_6 t_length_29_7 t_bytes_29_8 H locs ls hP hD hS hl hF
        cases (show none = some (t_length', t_bytes_') from hF)
      | succ n29 ih29 =>
        intro x2_29_6 t_length_29_7 t_bytes_29_8 H locs ls hP hD hS hl hF
        rw [f_X1_putNumber_29] at hF
        refine lv_iload_n hx hb dX1_putNumber_29 rfl (lv_at hl 2 rfl) ?_
        refine lv_if_le (tgt := 54) hx hb dX1_putNumber_30 (by decide) (fun c30 => ?_) (fun c30 => ?_)
        · have hF := brT c30 hF
          exact hk54_5 t_length_29_7 t_bytes_29_8 H locs ls hP hD hS (lv_sub hl [] rfl) hF
        · have hF := brF c30 hF
          refine lv_aload_n hx hb dX1_putNumber_33 rfl (lv_at hl 0 rfl) ?_
          refine lv_bipush (v := 48) hx hb dX1_putNumber_34 (by decide) ?_
          refine lv_iload_n hx hb dX1_putNumber_36 rfl (lv_at hl 1 rfl) ?_
          refine lv_iload_n hx hb dX1_putNumber_37 rfl (lv_at hl 2 rfl) ?_
          obtain ⟨g38_8, hF⟩ := gd hF
          refine lv_idiv hx hb dX1_putNumber_38 g38_8 ?_
          refine lv_bipush (v := 10) hx hb dX1_putNumber_39 (by decide) ?_
          refine lv_irem hx hb dX1_putNumber_41 (by decide) ?_
          refine lv_iadd hx hb dX1_putNumber_42 ?_
          obtain ⟨t_length_43_10, t_bytes_43_11, h43_11, hF⟩ := bnd2E hF
          refine wrVM (As := [.int (48 + ((p1 / x2_29_6) - (p1 / x2_29_6) / 10 * 10))]) (rest := []) (C := RX1) (wn := [(a_t, .inr (1, [.ref a_t_bytes, .int t_length_43_10])), (a_t_bytes, .inl (t 1, n_t_bytes, .inl t_bytes_43_11))]) ⟨hx, hb, hml, hown, hts⟩ (c_X1_put l D t z x a_t a_t_bytes n_t_bytes t_length_29_7 t_bytes_29_8 (48 + ((p1 / x2_29_6) - (p1 / x2_29_6) / 10 * 10)) H.size t_length_43_10 t_bytes_43_11 h43_11) (cwV 1 hts gX1_putNumber_X1_put rfl rfl rfl hd_X1_put ⟨Nat.le_of_ble_eq_true rfl, Nat.le_of_ble_eq_true rfl⟩) (hC.at hz hS) hP hD hS hA hz [true, true] rfl rfl rfl rfl 0 rfl (show vwCl[1]? = some (RX1, TX1, 2) from rfl) rfl rfl hl.1 rfl (Nat.le_of_ble_eq_true rfl) dX1_putNumber_43 ⟨Nat.zero_le _, Nat.zero_le _⟩ rfl (fun H locs hP hD hS => ?_)
          refine lv_iload_n hx hb dX1_putNumber_46 rfl (lv_at hl 2 rfl) ?_
          refine lv_bipush (v := 10) hx hb dX1_putNumber_47 (by decide) ?_
          refine lv_idiv hx hb dX1_putNumber_49 (by decide) ?_
          refine lv_topi (fun y50_13 ey50_13 => ?_)
          have hF := ltE ey50_13 hF
          refine lv_istore_n (lv' := [(2, .int y50_13), (0, .ref a_t), (1, .int p1)]) hx hb dX1_putNumber_50 rfl hl (by decide) rfl (fun ls hl => ?_)
          refine lv_goto (tgt := 29) hx hb dX1_putNumber_51 (by decide) ?_
          exact ih29 y50_13 t_length_43_10 t_bytes_43_11 H locs ls hP hD hS (lv_sub hl [1, 2, 0] rfl) hF
    exact hlp29 N x2_29_1 t_length t_bytes_ H locs ls hP hD hS hl hF
  have hlp4 : ∀ n4 : Nat, ∀ (x2_4_14 : Int32) (x3_4_15 : Int32) (H : Heap) (locs : List Loc) (ls : Array Slot), va_P D vwCl [(a_t, .inr (1, [.ref a_t_bytes, .int t_length])), (a_t_bytes, .inl (t 1, n_t_bytes, .inl t_bytes_))] H → va_D A [(a_t, .inr (1, [.ref a_t_bytes, .int t_length])), (a_t_bytes, .inl (t 1, n_t_bytes, .inl t_bytes_))] → va_S A s.heap H locs → lv_has ls 4 [(0, .ref a_t), (1, .int p1), (2, .int x2_4_14), (3, .int x3_4_15)] → f_X1_putNumber_4 p1 k29_2 n4 x2_4_14 x3_4_15 = some (t_length', t_bytes_') → W p l e rm_X1_putNumber s m args below meth c H locs 0 0 Q (F0 m 4 ls []) := by
    intro n4
    induction n4 with
    | zero =>
      intro x2_4_14 x3_4_15 H locs ls hP hD hS hl hF
      cases (show none = some (t_length', t_bytes_') from hF)
    | succ n4 ih4 =>
      intro x2_4_14 x3_4_15 H locs ls hP hD hS hl hF
      rw [f_X1_putNumber_4] at hF
      refine lv_iload_n hx hb dX1_putNumber_4 rfl (lv_at hl 3 rfl) ?_
      refine lv_bipush (v := 10) hx hb dX1_putNumber_5 (by decide) ?_
      refine lv_icmp_ge (tgt := 29) hx hb dX1_putNumber_7 (by decide) (fun c7 => ?_) (fun c7 => ?_)
      · have hF := brT c7 hF
        exact hk29_2 x2_4_14 H locs ls hP hD hS (lv_sub hl [0, 1, 2] rfl) hF
      · have hF := brF c7 hF
        refine lv_iload_n hx hb dX1_putNumber_10 rfl (lv_at hl 1 rfl) ?_
        refine lv_iload_n hx hb dX1_putNumber_11 rfl (lv_at hl 2 rfl) ?_
        obtain ⟨g12_15, hF⟩ := gd hF
        refine lv_idiv hx hb dX1_putNumber_12 g12_15 ?_
        refine lv_bipush (v := 10) hx hb dX1_putNumber_13 (by decide) ?_
        refine lv_icmp_lt (tgt := 29) hx hb dX1_putNumber_15 (by decide) (fun c15 => ?_) (fun c15 => ?_)
        · have hF := brT c15 hF
          exact hk29_2 x2_4_14 H locs ls hP hD hS (lv_sub hl [0, 1, 2] rfl) hF
        · have hF := brF c15 hF
          refine lv_iload_n hx hb dX1_putNumber_18 rfl (lv_at hl 2 rfl) ?_
          refine lv_bipush (v := 10) hx hb dX1_putNumber_19 (by decide) ?_
          refine lv_imul hx hb dX1_putNumber_21 ?_
          refine lv_topi (fun y22_17 ey22_17 => ?_)
          have hF := ltE ey22_17 hF
          refine lv_istore_n (lv' := [(2, .int y22_17), (0, .ref a_t), (1, .int p1), (3, .int x3_4_15)]) hx hb dX1_putNumber_22 rfl hl (by decide) rfl (fun ls hl => ?_)
          obtain ⟨y23_18, ey23_18⟩ : ∃ y : Int32, y = x3_4_15 + 1 := ⟨_, rfl⟩
          have hF := ltE ey23_18 hF
          refine lv_iinc (v := y23_18) (lv' := [(3, .int y23_18), (2, .int y22_17), (0, .ref a_t), (1, .int p1)]) hx hb dX1_putNumber_23 hl (k := 3) rfl (by rw [ey23_18]; rfl) (by decide) rfl (fun ls hl => ?_)
          refine lv_goto (tgt := 4) hx hb dX1_putNumber_26 (by decide) ?_
          exact ih4 y22_17 y23_18 H locs ls hP hD hS (lv_sub hl [2, 3, 1, 0] rfl) hF
  exact hlp4 N 1 1 H locs ls hP hD hS (lv_sub hl [2, 3, 1, 0] rfl) hF
abbrev rm_X1_byteAt : Room := { frames := 0, cells := 0, slots := 0, locals := 0 }
theorem hd_X1_byteAt : yX1_byteAt.cls = RX1 ∧ yX1_byteAt.cls ≠ "java/lang/invoke/MethodHandle" ∧ yX1_byteAt.cls ≠ "java/lang/invoke/VarHandle" ∧ (parseMethodDescriptor yX1_byteAt.desc).map (fun d => d.parameters.length) = some 1 := by decide +kernel
set_option maxRecDepth 100000 in
set_option maxHeartbeats 4000000 in
theorem c_X1_byteAt (l : Launch) (D : va_G) (t : Nat → ClassId) (z : Nat) (x : Nat → Nat) (a_t : Nat) (a_t_bytes : Nat) (n_t_bytes : Nat) (t_length : Int32) (t_bytes_ : (Nat → Int32)) (p1 : Int32) (H : Heap) (r : Int32) (hF : f_X1_byteAt t_length t_bytes_ n_t_bytes p1 = some (r)) : RdM l D (TY t) z x yX1_byteAt wsX1_byteAt rm_X1_byteAt [.ref a_t, .int p1] [(a_t, .inr (1, [.ref a_t_bytes, .int t_length])), (a_t_bytes, .inl (t 1, n_t_bytes, .inl t_bytes_))] H (some (.int r)) := by
  refine rd_of (cc := cX1_byteAt) (maxL := 2) (ret := (some .int)) (by decide) rfl (Nat.le_of_ble_eq_true rfl) ?_
  intro p e s m args below meth c Q hQ hx hb hr hml hts hown hlocks hH hP hC ls hl
  have hown : s.vm.findClass RX1 = some m.cls := hown
  have hl : lv_has ls 2 [(0, .ref a_t), (1, .int p1)] := hl
  have hK := hC.1
  have iw1 : ∀ w ∈ wsX10, w ∈ wsX1_byteAt := fun _ h => List.mem_cons_of_mem _ (List.mem_append_right _ h)
  have hf7 := hts (.fieldLink RX1 7 "CrackedColumn$Bytes" "length" "I") (by decide +kernel)
  have hf19 := hts (.fieldLink RX1 19 "CrackedColumn$Bytes" "bytes" "[B") (by decide +kernel)
  unfold f_X1_byteAt at hF
  refine lv_iload_n hx hb dX1_byteAt_0 rfl (lv_at hl 1 rfl) ?_
  refine lv_if_lt (tgt := 30) hx hb dX1_byteAt_1 (by decide) (fun c1 => ?_) (fun c1 => ?_)
  · have hF := brT c1 hF
    refine lv_iconst (v := 0) hx hb dX1_byteAt_30 (by decide) ?_
    cases hF
    exact rd_iret hx hb hr hlocks dX1_byteAt_31 rfl hQ
  · have hF := brF c1 hF
    refine lv_iload_n hx hb dX1_byteAt_4 rfl (lv_at hl 1 rfl) ?_
    refine lv_aload_n hx hb dX1_byteAt_5 rfl (lv_at hl 0 rfl) ?_
    refine va_get (D := D) (ci := 1) (v := .int t_length) (C := RX1) (T := TX1) (N := 2) hx hb hts iw1 hown hK hP 0 rfl rfl 1 (by decide) hf7 (fun _ h9 => h9) rfl dX1_byteAt_6 ?_
    refine lv_icmp_ge (tgt := 30) hx hb dX1_byteAt_9 (by decide) (fun c9 => ?_) (fun c9 => ?_)
    · have hF := brT c9 hF
      refine lv_iconst (v := 0) hx hb dX1_byteAt_30 (by decide) ?_
      cases hF
      exact rd_iret hx hb hr hlocks dX1_byteAt_31 rfl hQ
    · have hF := brF c9 hF
      refine lv_iload_n hx hb dX1_byteAt_12 rfl (lv_at hl 1 rfl) ?_
      refine lv_aload_n hx hb dX1_byteAt_13 rfl (lv_at hl 0 rfl) ?_
      refine va_get (D := D) (ci := 1) (v := .ref a_t_bytes) (C := RX1) (T := TX1) (N := 2) hx hb hts iw1 hown hK hP 0 rfl rfl 0 (by decide) hf19 (fun _ h9 => h9) rfl dX1_byteAt_14 ?_
      refine va_alen (v := (Int32.ofNat n_t_bytes)) hx hb hK hP 1 1 rfl rfl rfl dX1_byteAt_17 ?_
      refine lv_icmp_ge (tgt := 30) hx hb dX1_byteAt_18 (by decide) (fun c18 => ?_) (fun c18 => ?_)
      · have hF := brT c18 hF
        refine lv_iconst (v := 0) hx hb dX1_byteAt_30 (by decide) ?_
        cases hF
        exact rd_iret hx hb hr hlocks dX1_byteAt_31 rfl hQ
      · have hF := brF c18 hF
        refine lv_aload_n hx hb dX1_byteAt_21 rfl (lv_at hl 0 rfl) ?_
        refine va_get (D := D) (ci := 1) (v := .ref a_t_bytes) (C := RX1) (T := TX1) (N := 2) hx hb hts iw1 hown hK hP 0 rfl rfl 0 (by decide) hf19 (fun _ h9 => h9) rfl dX1_byteAt_22 ?_
        refine lv_iload_n hx hb dX1_byteAt_25 rfl (lv_at hl 1 rfl) ?_
        obtain ⟨g26_0, hF⟩ := gd hF
        refine my_bald (v := t_bytes_ p1.toNatClampNeg) hx hb hK hP 1 1 rfl rfl g26_0 rfl dX1_byteAt_26 ?_
        refine lv_goto (tgt := 31) hx hb dX1_byteAt_27 (by decide) ?_
        cases hF
        exact rd_iret hx hb hr hlocks dX1_byteAt_31 rfl hQ
abbrev rm_X4_init : Room := { frames := 1, cells := 1, slots := 80, locals := 24 }
theorem hd_X4_init : yX4_init.cls = RX4 ∧ yX4_init.cls ≠ "java/lang/invoke/MethodHandle" ∧ yX4_init.cls ≠ "java/lang/invoke/VarHandle" ∧ (parseMethodDescriptor yX4_init.desc).map (fun d => d.parameters.length) = some 0 := by decide +kernel
set_option maxRecDepth 100000 in
set_option maxHeartbeats 4000000 in
theorem c_X4_init (l : Launch) (D : va_G) (t : Nat → ClassId) (z : Nat) (x : Nat → Nat) (a_t : Nat) (sz : Nat) (t_count' : Int32) (t_numbers_' : (Nat → Int32)) (hF : f_X4_init = some (t_count', t_numbers_')) : CrM l D (TY t) z x yX4_init wsX4_init rm_X4_init [.ref a_t] [(a_t, .inr (4, [.null, .int 0]))] (fun (q : Nat → Nat) => [(a_t, .inr (4, [.ref (q 0), .int t_count'])), ((q 0), .inl (t 0, 80, .inl t_numbers_'))]) sz 1 80 := by
  refine cr_of (cc := cX4_init) (maxL := 1) (ret := none) (by decide) rfl (Nat.le_of_ble_eq_true rfl) ?_
  intro p e s m args below meth c A Q hQ hx hb hr hml hts hown hlocks hin H locs hP hD hS hA hz hC ls hl
  have hown : s.vm.findClass RX4 = some m.cls := hown
  have hl : lv_has ls 1 [(0, .ref a_t)] := hl
  have hK := hC.1
  have iw4 : ∀ w ∈ wsX40, w ∈ wsX4_init := fun _ h => List.mem_cons_of_mem _ (List.mem_append_right _ h)
  have hf9 := hts (.fieldLink RX4 9 "CrackedColumn$Kept" "numbers" "[I") (by decide +kernel)
  have hf15 := hts (.fieldLink RX4 15 "CrackedColumn$Kept" "count" "I") (by decide +kernel)
  unfold f_X4_init at hF
  refine lv_aload_n hx hb dX4_init_0 rfl (lv_at hl 0 rfl) ?_
  refine W.objInit hx hb hown (hts (.methodLink RX4 3 objectInit) (by decide +kernel)) (hts (.instanceMethod objectInit) (by decide +kernel)) (hts (.code objectInit ⟨#[0xb1]⟩ 1 none) (by decide +kernel)) rfl (hl.1.trans hml.symm) rfl dX4_init_1 (Nat.le_of_ble_eq_true rfl) (Nat.le_of_ble_eq_true rfl) ?_
  refine lv_aload_n hx hb dX4_init_4 rfl (lv_at hl 0 rfl) ?_
  refine lv_bipush (v := 80) hx hb dX4_init_5 (by decide) ?_
  refine my_newa (atype := .int) (ty := .int) (t0 := 0) (wn := (fun a_t_numbers => [(a_t, .inr (4, [.null, .int 0])), (a_t_numbers, .inl (t 0, 80, .inl zf))])) (N' := 80) hx hb (hts (.arrayClass .int) (by decide +kernel)) rfl hK rfl hP hD hS hA (fun _ => rfl) (by decide) (by decide +kernel) (Nat.le_of_ble_eq_true rfl) (Nat.le_of_ble_eq_true rfl) (Nat.le_of_ble_eq_true rfl) (fun a => rfl) dX4_init_7 (fun a_t_numbers H hP hD hS => ?_)
  refine my_putF (ty := tyX4 0) (v := .ref a_t_numbers) (ci := 4) (C := RX4) (T := TX4) (N := 2) (wn := [(a_t, .inr (4, [.ref a_t_numbers, .int 0])), (a_t_numbers, .inl (t 0, 80, .inl zf))]) hx hb hts iw4 tyX4 tyX4_ok nmX4 hown hK hP hD hS 0 rfl rfl 0 (by decide) hf9 (fun _ h9 => h9) (by decide +kernel) hin rfl (by decide +kernel) rfl rfl (Nat.le_of_ble_eq_true rfl) rfl dX4_init_9 (fun H locs hP hD hS => ?_)
  refine lv_aload_n hx hb dX4_init_12 rfl (lv_at hl 0 rfl) ?_
  refine lv_iconst (v := 0) hx hb dX4_init_13 (by decide) ?_
  refine my_put (ty := .int) (v := .int 0) (ci := 4) (C := RX4) (T := TX4) (N := 2) (wn := [(a_t, .inr (4, [.ref a_t_numbers, .int 0])), (a_t_numbers, .inl (t 0, 80, .inl zf))]) hx hb hts iw4 tyX4 tyX4_ok nmX4 hown hK hP hD hS 0 rfl rfl 1 (by decide) hf15 (fun _ h9 => h9) rfl (by decide +kernel) rfl rfl (Nat.le_of_ble_eq_true rfl) rfl dX4_init_14 (fun H locs hP hD hS => ?_)
  cases hF
  exact W.widen (k := 1) (n := 80) (Nat.le_of_ble_eq_true rfl) (Nat.le_of_ble_eq_true rfl) (cr_vret hx hb hr hlocks dX4_init_17 hQ hP hD hS (fun i => [a_t_numbers].getD i 0) [0, 1] rfl (by decide +kernel))
abbrev rm_X4_add : Room := { frames := 1, cells := 0, slots := 0, locals := 40 }
theorem hd_X4_add : yX4_add.cls = RX4 ∧ yX4_add.cls ≠ "java/lang/invoke/MethodHandle" ∧ yX4_add.cls ≠ "java/lang/invoke/VarHandle" ∧ (parseMethodDescriptor yX4_add.desc).map (fun d => d.parameters.length) = some 4 := by decide +kernel
set_option maxRecDepth 100000 in
set_option maxHeartbeats 4000000 in
theorem c_X4_add (l : Launch) (D : va_G) (t : Nat → ClassId) (z : Nat) (x : Nat → Nat) (a_t : Nat) (a_t_numbers : Nat) (t_count : Int32) (t_numbers_ : (Nat → Int32)) (p1 : Int32) (p2 : Int32) (p3 : Int32) (p4 : Int32) (sz : Nat) (t_count' : Int32) (t_numbers_' : (Nat → Int32)) (hF : f_X4_add t_count t_numbers_ p1 p2 p3 p4 = some (t_count', t_numbers_')) : WrM l D (TY t) z x yX4_add wsX4_add rm_X4_add [.ref a_t, .int p1, .int p2, .int p3, .int p4] [(a_t, .inr (4, [.ref a_t_numbers, .int t_count])), (a_t_numbers, .inl (t 0, 80, .inl t_numbers_))] [(a_t, .inr (4, [.ref a_t_numbers, .int t_count'])), (a_t_numbers, .inl (t 0, 80, .inl t_numbers_'))] sz none 0 0 := by
  refine wr_of (cc := cX4_add) (maxL := 5) (ret := none) (by decide) rfl (Nat.le_of_ble_eq_true rfl) ?_
  intro p e s m args below meth c A Q hQ hx hb hr hml hts hown hlocks hin H locs hP hD hS hA hz hC ls hl
  have hown : s.vm.findClass RX4 = some m.cls := hown
  have hl : lv_has ls 5 [(0, .ref a_t), (1, .int p1), (2, .int p2), (3, .int p3), (4, .int p4)] := hl
  have hK := hC.1
  have iw4 : ∀ w ∈ wsX40, w ∈ wsX4_add := fun _ h => List.mem_cons_of_mem _ (List.mem_append_right _ h)
  have hf9 := hts (.fieldLink RX4 9 "CrackedColumn$Kept" "numbers" "[I") (by decide +kernel)
  have hf15 := hts (.fieldLink RX4 15 "CrackedColumn$Kept" "count" "I") (by decide +kernel)
  have hm_min29 := hts (.methodLink RX4 29 Lib.Math.min.name) (by decide +kernel)
  have hm_min_s := hts (.static Lib.Math.min.name) (by decide +kernel)
  have hm_min_c := hts (.code Lib.Math.min.name Lib.Math.min.code 2 (some .int)) (by decide +kernel)
  have hm_init := hts (.initialized "java/lang/Math") (by decide +kernel)
  have hac := hts (.methodLink RX4 23 arraycopyName) (by decide +kernel)
  have hac_n := hts (.native arraycopyName) (by decide +kernel)
  have hac_s := hts (.static arraycopyName) (by decide +kernel)
  have hac_i := hts (.initialized "java/lang/System") (by decide +kernel)
  unfold f_X4_add at hF
  refine lv_aload_n hx hb dX4_add_0 rfl (lv_at hl 0 rfl) ?_
  refine va_get (D := D) (ci := 4) (v := .ref a_t_numbers) (C := RX4) (T := TX4) (N := 2) hx hb hts iw4 hown hK hP 0 rfl rfl 0 (by decide) hf9 (fun _ h9 => h9) rfl dX4_add_1 ?_
  refine lv_iconst (v := 0) hx hb dX4_add_4 (by decide) ?_
  refine lv_aload_n hx hb dX4_add_5 rfl (lv_at hl 0 rfl) ?_
  refine va_get (D := D) (ci := 4) (v := .ref a_t_numbers) (C := RX4) (T := TX4) (N := 2) hx hb hts iw4 hown hK hP 0 rfl rfl 0 (by decide) hf9 (fun _ h9 => h9) rfl dX4_add_6 ?_
  refine lv_iconst (v := 4) hx hb dX4_add_9 (by decide) ?_
  refine lv_aload_n hx hb dX4_add_10 rfl (lv_at hl 0 rfl) ?_
  refine va_get (D := D) (ci := 4) (v := .ref a_t_numbers) (C := RX4) (T := TX4) (N := 2) hx hb hts iw4 hown hK hP 0 rfl rfl 0 (by decide) hf9 (fun _ h9 => h9) rfl dX4_add_11 ?_
  refine va_alen (v := 80) hx hb hK hP 1 0 rfl rfl rfl dX4_add_14 ?_
  refine lv_iconst (v := 4) hx hb dX4_add_15 (by decide) ?_
  refine lv_isub hx hb dX4_add_16 ?_
  obtain ⟨g17_0, hF⟩ := gd hF
  obtain ⟨g17_2, hF⟩ := gd hF
  obtain ⟨g17_4, hF⟩ := gd hF
  obtain ⟨t_numbers_17_4, et_numbers_17_4⟩ : ∃ y : Nat → Int32, y = va_cpy t_numbers_ t_numbers_ 0 4 ((80 : Int32) - 4).toNatClampNeg := ⟨_, rfl⟩
  have hF := ltE et_numbers_17_4 hF
  refine my_copyi (sp := 0) (dp := 4) (n := ((80 : Int32) - 4)) (g' := t_numbers_17_4) (wn := [(a_t, .inr (4, [.ref a_t_numbers, .int t_count])), (a_t_numbers, .inl (t 0, 80, .inl t_numbers_17_4))]) hx hb (hml.trans hl.1.symm) hown hac hac_n hac_s hac_i hK hP hD hS 1 1 0 0 rfl rfl rfl rfl rfl (by decide) (by decide) g17_0 (Nat.not_lt.mp g17_2) (Nat.not_lt.mp g17_4) (fun _ _ => rfl) (Nat.le_of_ble_eq_true rfl) (Nat.le_of_ble_eq_true rfl) et_numbers_17_4 rfl dX4_add_17 (fun H locs hP hD hS => ?_)
  refine lv_aload_n hx hb dX4_add_20 rfl (lv_at hl 0 rfl) ?_
  refine va_get (D := D) (ci := 4) (v := .ref a_t_numbers) (C := RX4) (T := TX4) (N := 2) hx hb hts iw4 hown hK hP 0 rfl rfl 0 (by decide) hf9 (fun _ h9 => h9) rfl dX4_add_21 ?_
  refine lv_iconst (v := 0) hx hb dX4_add_24 (by decide) ?_
  refine lv_iload_n hx hb dX4_add_25 rfl (lv_at hl 1 rfl) ?_
  obtain ⟨t_numbers_26_5, et_numbers_26_5⟩ : ∃ y : Nat → Int32, y = upd t_numbers_17_4 0 p1 := ⟨_, rfl⟩
  have hF := ltE et_numbers_26_5 hF
  refine my_iast (g := t_numbers_26_5) (wn := [(a_t, .inr (4, [.ref a_t_numbers, .int t_count])), (a_t_numbers, .inl (t 0, 80, .inl t_numbers_26_5))]) hx hb hK hP hD hS 1 0 rfl rfl (vp_lit (by decide +kernel)) et_numbers_26_5 rfl dX4_add_26 (fun H locs hP hD hS => ?_)
  refine lv_aload_n hx hb dX4_add_27 rfl (lv_at hl 0 rfl) ?_
  refine va_get (D := D) (ci := 4) (v := .ref a_t_numbers) (C := RX4) (T := TX4) (N := 2) hx hb hts iw4 hown hK hP 0 rfl rfl 0 (by decide) hf9 (fun _ h9 => h9) rfl dX4_add_28 ?_
  refine lv_iconst (v := 1) hx hb dX4_add_31 (by decide) ?_
  refine lv_iload_n hx hb dX4_add_32 rfl (lv_at hl 2 rfl) ?_
  obtain ⟨t_numbers_33_6, et_numbers_33_6⟩ : ∃ y : Nat → Int32, y = upd t_numbers_26_5 1 p2 := ⟨_, rfl⟩
  have hF := ltE et_numbers_33_6 hF
  refine my_iast (g := t_numbers_33_6) (wn := [(a_t, .inr (4, [.ref a_t_numbers, .int t_count])), (a_t_numbers, .inl (t 0, 80, .inl t_numbers_33_6))]) hx hb hK hP hD hS 1 0 rfl rfl (vp_lit (by decide +kernel)) et_numbers_33_6 rfl dX4_add_33 (fun H locs hP hD hS => ?_)
  refine lv_aload_n hx hb dX4_add_34 rfl (lv_at hl 0 rfl) ?_
  refine va_get (D := D) (ci := 4) (v := .ref a_t_numbers) (C := RX4) (T := TX4) (N := 2) hx hb hts iw4 hown hK hP 0 rfl rfl 0 (by decide) hf9 (fun _ h9 => h9) rfl dX4_add_35 ?_
  refine lv_iconst (v := 2) hx hb dX4_add_38 (by decide) ?_
  refine lv_iload_n hx hb dX4_add_39 rfl (lv_at hl 3 rfl) ?_
  obtain ⟨t_numbers_40_7, et_numbers_40_7⟩ : ∃ y : Nat → Int32, y = upd t_numbers_33_6 2 p3 := ⟨_, rfl⟩
  have hF := ltE et_numbers_40_7 hF
  refine my_iast (g := t_numbers_40_7) (wn := [(a_t, .inr (4, [.ref a_t_numbers, .int t_count])), (a_t_numbers, .inl (t 0, 80, .inl t_numbers_40_7))]) hx hb hK hP hD hS 1 0 rfl rfl (vp_lit (by decide +kernel)) et_numbers_40_7 rfl dX4_add_40 (fun H locs hP hD hS => ?_)
  refine lv_aload_n hx hb dX4_add_41 rfl (lv_at hl 0 rfl) ?_
  refine va_get (D := D) (ci := 4) (v := .ref a_t_numbers) (C := RX4) (T := TX4) (N := 2) hx hb hts iw4 hown hK hP 0 rfl rfl 0 (by decide) hf9 (fun _ h9 => h9) rfl dX4_add_42 ?_
  refine lv_iconst (v := 3) hx hb dX4_add_45 (by decide) ?_
  refine lv_iload hx hb dX4_add_46 (lv_at hl 4 rfl) ?_
  obtain ⟨t_numbers_48_8, et_numbers_48_8⟩ : ∃ y : Nat → Int32, y = upd t_numbers_40_7 3 p4 := ⟨_, rfl⟩
  have hF := ltE et_numbers_48_8 hF
  refine my_iast (g := t_numbers_48_8) (wn := [(a_t, .inr (4, [.ref a_t_numbers, .int t_count])), (a_t_numbers, .inl (t 0, 80, .inl t_numbers_48_8))]) hx hb hK hP hD hS 1 0 rfl rfl (vp_lit (by decide +kernel)) et_numbers_48_8 rfl dX4_add_48 (fun H locs hP hD hS => ?_)
  refine lv_aload_n hx hb dX4_add_49 rfl (lv_at hl 0 rfl) ?_
  refine lv_aload_n hx hb dX4_add_50 rfl (lv_at hl 0 rfl) ?_
  refine va_get (D := D) (ci := 4) (v := .int t_count) (C := RX4) (T := TX4) (N := 2) hx hb hts iw4 hown hK hP 0 rfl rfl 1 (by decide) hf15 (fun _ h9 => h9) rfl dX4_add_51 ?_
  refine lv_iconst (v := 1) hx hb dX4_add_54 (by decide) ?_
  refine lv_iadd hx hb dX4_add_55 ?_
  refine lv_bipush (v := 20) hx hb dX4_add_56 (by decide) ?_
  refine va_mmin hx hb (hml.trans hl.1.symm) hown hm_min29 hm_min_s hm_init hm_min_c (Nat.le_of_ble_eq_true rfl) (Nat.le_of_ble_eq_true rfl) (Nat.zero_le _) (Nat.zero_le _) dX4_add_58 ?_
  refine lv_topi (fun y58_9 ey58_9 => ?_)
  have hF := ltE ey58_9 hF
  refine my_put (ty := .int) (v := .int y58_9) (ci := 4) (C := RX4) (T := TX4) (N := 2) (wn := [(a_t, .inr (4, [.ref a_t_numbers, .int y58_9])), (a_t_numbers, .inl (t 0, 80, .inl t_numbers_48_8))]) hx hb hts iw4 tyX4 tyX4_ok nmX4 hown hK hP hD hS 0 rfl rfl 1 (by decide) hf15 (fun _ h9 => h9) rfl (by decide +kernel) rfl rfl (Nat.le_of_ble_eq_true rfl) rfl dX4_add_61 (fun H locs hP hD hS => ?_)
  cases hF
  exact we_vret hx hb hr hlocks dX4_add_64 rfl hQ hP hD hS
abbrev rm_X4_numberAt : Room := { frames := 0, cells := 0, slots := 0, locals := 0 }
theorem hd_X4_numberAt : yX4_numberAt.cls = RX4 ∧ yX4_numberAt.cls ≠ "java/lang/invoke/MethodHandle" ∧ yX4_numberAt.cls ≠ "java/lang/invoke/VarHandle" ∧ (parseMethodDescriptor yX4_numberAt.desc).map (fun d => d.parameters.length) = some 2 := by decide +kernel
set_option maxRecDepth 100000 in
set_option maxHeartbeats 4000000 in
theorem c_X4_numberAt (l : Launch) (D : va_G) (t : Nat → ClassId) (z : Nat) (x : Nat → Nat) (a_t : Nat) (a_t_numbers : Nat) (t_count : Int32) (t_numbers_ : (Nat → Int32)) (p1 : Int32) (p2 : Int32) (H : Heap) (r : Int32) (hF : f_X4_numberAt t_numbers_ p1 p2 = some (r)) : RdM l D (TY t) z x yX4_numberAt wsX4_numberAt rm_X4_numberAt [.ref a_t, .int p1, .int p2] [(a_t, .inr (4, [.ref a_t_numbers, .int t_count])), (a_t_numbers, .inl (t 0, 80, .inl t_numbers_))] H (some (.int r)) := by
  refine rd_of (cc := cX4_numberAt) (maxL := 4) (ret := (some .int)) (by decide) rfl (Nat.le_of_ble_eq_true rfl) ?_
  intro p e s m args below meth c Q hQ hx hb hr hml hts hown hlocks hH hP hC ls hl
  have hown : s.vm.findClass RX4 = some m.cls := hown
  have hl : lv_has ls 4 [(0, .ref a_t), (1, .int p1), (2, .int p2)] := hl
  have hK := hC.1
  have iw4 : ∀ w ∈ wsX40, w ∈ wsX4_numberAt := fun _ h => List.mem_cons_of_mem _ (List.mem_append_right _ h)
  have hf9 := hts (.fieldLink RX4 9 "CrackedColumn$Kept" "numbers" "[I") (by decide +kernel)
  unfold f_X4_numberAt at hF
  refine lv_iload_n hx hb dX4_numberAt_0 rfl (lv_at hl 1 rfl) ?_
  obtain ⟨k24_2, ek24_2, hF⟩ := jnE hF
  have hk24_2 : ∀ (s0_24_1 : Int32) (ls : Array Slot), lv_has ls 4 [(0, .ref a_t), (1, .int p1), (2, .int p2)] → k24_2 s0_24_1 = some (r) → W p l e rm_X4_numberAt s m args below meth c H [] 0 0 Q (F0 m 24 ls [.int s0_24_1]) := by
    subst ek24_2
    intro s0_24_1 ls hl hF
    refine lv_istore_n (lv' := [(3, .int s0_24_1), (0, .ref a_t), (1, .int p1), (2, .int p2)]) hx hb dX4_numberAt_24 rfl hl (by decide) rfl (fun ls hl => ?_)
    refine lv_iload_n hx hb dX4_numberAt_25 rfl (lv_at hl 0 rfl) ?_
    refine lv_if_eq (tgt := 42) hx hb dX4_numberAt_26 (by decide) (fun c26 => ?_) (fun c26 => ?_)
    · have hF := brT c26 hF
      refine lv_iconst (v := 0) hx hb dX4_numberAt_42 (by decide) ?_
      cases hF
      exact rd_iret hx hb hr hlocks dX4_numberAt_43 rfl hQ
    · have hF := brF c26 hF
      refine lv_aload_n hx hb dX4_numberAt_29 rfl (lv_at hl 1 rfl) ?_
      refine va_get (D := D) (ci := 4) (v := .ref a_t_numbers) (C := RX4) (T := TX4) (N := 2) hx hb hts iw4 hown hK hP 0 rfl rfl 0 (by decide) hf9 (fun _ h9 => h9) rfl dX4_numberAt_30 ?_
      refine lv_iload_n hx hb dX4_numberAt_33 rfl (lv_at hl 2 rfl) ?_
      refine lv_iconst (v := 4) hx hb dX4_numberAt_34 (by decide) ?_
      refine lv_imul hx hb dX4_numberAt_35 ?_
      refine lv_iload_n hx hb dX4_numberAt_36 rfl (lv_at hl 3 rfl) ?_
      refine lv_iadd hx hb dX4_numberAt_37 ?_
      obtain ⟨g38_2, hF⟩ := gd hF
      refine my_iald (v := t_numbers_ ((p1 * 4) + p2).toNatClampNeg) hx hb hK hP 1 0 rfl rfl g38_2 rfl dX4_numberAt_38 ?_
      refine lv_goto (tgt := 43) hx hb dX4_numberAt_39 (by decide) ?_
      cases hF
      exact rd_iret hx hb hr hlocks dX4_numberAt_43 rfl hQ
  refine lv_if_lt (tgt := 23) hx hb dX4_numberAt_1 (by decide) (fun c1 => ?_) (fun c1 => ?_)
  · have hF := brT c1 hF
    refine lv_iconst (v := 0) hx hb dX4_numberAt_23 (by decide) ?_
    exact hk24_2 0 ls hl hF
  · have hF := brF c1 hF
    refine lv_iload_n hx hb dX4_numberAt_4 rfl (lv_at hl 1 rfl) ?_
    refine lv_bipush (v := 20) hx hb dX4_numberAt_5 (by decide) ?_
    refine lv_icmp_ge (tgt := 23) hx hb dX4_numberAt_7 (by decide) (fun c7 => ?_) (fun c7 => ?_)
    · have hF := brT c7 hF
      refine lv_iconst (v := 0) hx hb dX4_numberAt_23 (by decide) ?_
      exact hk24_2 0 ls hl hF
    · have hF := brF c7 hF
      refine lv_iload_n hx hb dX4_numberAt_10 rfl (lv_at hl 2 rfl) ?_
      refine lv_if_lt (tgt := 23) hx hb dX4_numberAt_11 (by decide) (fun c11 => ?_) (fun c11 => ?_)
      · have hF := brT c11 hF
        refine lv_iconst (v := 0) hx hb dX4_numberAt_23 (by decide) ?_
        exact hk24_2 0 ls hl hF
      · have hF := brF c11 hF
        refine lv_iload_n hx hb dX4_numberAt_14 rfl (lv_at hl 2 rfl) ?_
        refine lv_iconst (v := 4) hx hb dX4_numberAt_15 (by decide) ?_
        refine lv_icmp_ge (tgt := 23) hx hb dX4_numberAt_16 (by decide) (fun c16 => ?_) (fun c16 => ?_)
        · have hF := brT c16 hF
          refine lv_iconst (v := 0) hx hb dX4_numberAt_23 (by decide) ?_
          exact hk24_2 0 ls hl hF
        · have hF := brF c16 hF
          refine lv_iconst (v := 1) hx hb dX4_numberAt_19 (by decide) ?_
          refine lv_goto (tgt := 24) hx hb dX4_numberAt_20 (by decide) ?_
          exact hk24_2 1 ls hl hF
abbrev rm_X4_nearestTo : Room := { frames := 1, cells := 0, slots := 0, locals := 23 }
theorem hd_X4_nearestTo : yX4_nearestTo.cls = RX4 ∧ yX4_nearestTo.cls ≠ "java/lang/invoke/MethodHandle" ∧ yX4_nearestTo.cls ≠ "java/lang/invoke/VarHandle" ∧ (parseMethodDescriptor yX4_nearestTo.desc).map (fun d => d.parameters.length) = some 2 := by decide +kernel
set_option maxRecDepth 100000 in
set_option maxHeartbeats 4000000 in
theorem c_X4_nearestTo (l : Launch) (D : va_G) (t : Nat → ClassId) (z : Nat) (x : Nat → Nat) (N : Nat) (a_t : Nat) (a_t_numbers : Nat) (t_count : Int32) (t_numbers_ : (Nat → Int32)) (p1 : Int32) (p2 : Int32) (H : Heap) (r : Int32) (hF : f_X4_nearestTo N t_count t_numbers_ p1 p2 = some (r)) : RdM l D (TY t) z x yX4_nearestTo wsX4_nearestTo rm_X4_nearestTo [.ref a_t, .int p1, .int p2] [(a_t, .inr (4, [.ref a_t_numbers, .int t_count])), (a_t_numbers, .inl (t 0, 80, .inl t_numbers_))] H (some (.int r)) := by
  refine rd_of (cc := cX4_nearestTo) (maxL := 7) (ret := (some .int)) (by decide) rfl (Nat.le_of_ble_eq_true rfl) ?_
  intro p e s m args below meth c Q hQ hx hb hr hml hts hown hlocks hH hP hC ls hl
  have hown : s.vm.findClass RX4 = some m.cls := hown
  have hl : lv_has ls 7 [(0, .ref a_t), (1, .int p1), (2, .int p2)] := hl
  have hK := hC.1
  have iw4 : ∀ w ∈ wsX40, w ∈ wsX4_nearestTo := fun _ h => List.mem_cons_of_mem _ (List.mem_append_right _ h)
  have hf15 := hts (.fieldLink RX4 15 "CrackedColumn$Kept" "count" "I") (by decide +kernel)
  have hm_max38 := hts (.methodLink RX4 38 Lib.Math.max.name) (by decide +kernel)
  have hm_min29 := hts (.methodLink RX4 29 Lib.Math.min.name) (by decide +kernel)
  have hm_max_s := hts (.static Lib.Math.max.name) (by decide +kernel)
  have hm_max_c := hts (.code Lib.Math.max.name Lib.Math.max.code 2 (some .int)) (by decide +kernel)
  have hm_min_s := hts (.static Lib.Math.min.name) (by decide +kernel)
  have hm_min_c := hts (.code Lib.Math.min.name Lib.Math.min.code 2 (some .int)) (by decide +kernel)
  have hm_init := hts (.initialized "java/lang/Math") (by decide +kernel)
  unfold f_X4_nearestTo at hF
  refine lv_iconst (v := (-1)) hx hb dX4_nearestTo_0 (by decide) ?_
  refine lv_istore_n (lv' := [(3, .int (-1)), (0, .ref a_t), (1, .int p1), (2, .int p2)]) hx hb dX4_nearestTo_1 rfl hl (by decide) rfl (fun ls hl => ?_)
  refine lv_iconst (v := 0) hx hb dX4_nearestTo_2 (by decide) ?_
  refine lv_istore (lv' := [(4, .int 0), (3, .int (-1)), (0, .ref a_t), (1, .int p1), (2, .int p2)]) hx hb dX4_nearestTo_3 hl (by decide) rfl (fun ls hl => ?_)
  refine lv_iconst (v := 0) hx hb dX4_nearestTo_5 (by decide) ?_
  refine lv_istore (lv' := [(5, .int 0), (4, .int 0), (3, .int (-1)), (0, .ref a_t), (1, .int p1), (2, .int p2)]) hx hb dX4_nearestTo_6 hl (by decide) rfl (fun ls hl => ?_)
  obtain ⟨k62_2, ek62_2, hF⟩ := jnE hF
  have hk62_2 : ∀ (x3_62_1 : Int32) (ls : Array Slot), lv_has ls 7 [(3, .int x3_62_1)] → k62_2 x3_62_1 = some (r) → W p l e rm_X4_nearestTo s m args below meth c H [] 0 0 Q (F0 m 62 ls []) := by
    subst ek62_2
    intro x3_62_1 ls hl hF
    refine lv_iload_n hx hb dX4_nearestTo_62 rfl (lv_at hl 0 rfl) ?_
    cases hF
    exact rd_iret hx hb hr hlocks dX4_nearestTo_63 rfl hQ
  have hlp8 : ∀ n8 : Nat, ∀ (x3_8_3 : Int32) (x4_8_4 : Int32) (x5_8_5 : Int32) (ls : Array Slot), lv_has ls 7 [(0, .ref a_t), (1, .int p1), (2, .int p2), (3, .int x3_8_3), (4, .int x4_8_4), (5, .int x5_8_5)] → f_X4_nearestTo_8 t_count t_numbers_ p1 p2 k62_2 n8 x3_8_3 x4_8_4 x5_8_5 = some (r) → W p l e rm_X4_nearestTo s m args below meth c H [] 0 0 Q (F0 m 8 ls []) := by
    intro n8
    induction n8 with
    | zero =>
      intro x3_8_3 x4_8_4 x5_8_5 ls hl hF
      cases (show none = some (r) from hF)
    | succ n8 ih8 =>
      intro x3_8_3 x4_8_4 x5_8_5 ls hl hF
      rw [f_X4_nearestTo_8] at hF
      refine lv_iload hx hb dX4_nearestTo_8 (lv_at hl 5 rfl) ?_
      refine lv_aload_n hx hb dX4_nearestTo_10 rfl (lv_at hl 0 rfl) ?_
      refine va_get (D := D) (ci := 4) (v := .int t_count) (C := RX4) (T := TX4) (N := 2) hx hb hts iw4 hown hK hP 0 rfl rfl 1 (by decide) hf15 (fun _ h9 => h9) rfl dX4_nearestTo_11 ?_
      refine lv_icmp_ge (tgt := 62) hx hb dX4_nearestTo_14 (by decide) (fun c14 => ?_) (fun c14 => ?_)
      · have hF := brT c14 hF
        exact hk62_2 x3_8_3 ls (lv_sub hl [3] rfl) hF
      · have hF := brF c14 hF
        refine lv_iload_n hx hb dX4_nearestTo_17 rfl (lv_at hl 2 rfl) ?_
        refine lv_aload_n hx hb dX4_nearestTo_18 rfl (lv_at hl 0 rfl) ?_
        refine lv_iload hx hb dX4_nearestTo_19 (lv_at hl 5 rfl) ?_
        refine lv_iconst (v := 1) hx hb dX4_nearestTo_21 (by decide) ?_
        obtain ⟨r22_6, h22_6, hF⟩ := bndE hF
        refine rdV (As := [.int x5_8_5, .int 1]) (rest := [.int p2]) (C := RX4) ⟨hx, hb, hml, hown, hts⟩ (c_X4_numberAt l D t z x a_t a_t_numbers t_count t_numbers_ x5_8_5 1 H r22_6 h22_6) (cwV 2 hts gX4_nearestTo_X4_numberAt rfl rfl rfl hd_X4_numberAt ⟨Nat.le_of_ble_eq_true rfl, Nat.le_of_ble_eq_true rfl⟩) hC (selP (m9 := [true, true]) rfl rfl hP) 0 rfl (show vwCl[4]? = some (RX4, TX4, 2) from rfl) rfl rfl hl.1 rfl (Nat.le_of_ble_eq_true rfl) dX4_nearestTo_22 ⟨Nat.zero_le _, Nat.zero_le _⟩ rfl ?_
        refine va_mmin hx hb (hml.trans hl.1.symm) hown hm_min29 hm_min_s hm_init hm_min_c (Nat.le_of_ble_eq_true rfl) (Nat.le_of_ble_eq_true rfl) (Nat.zero_le _) (Nat.zero_le _) dX4_nearestTo_25 ?_
        refine lv_topi (fun y25_8 ey25_8 => ?_)
        have hF := ltE ey25_8 hF
        refine lv_iload_n hx hb dX4_nearestTo_28 rfl (lv_at hl 1 rfl) ?_
        refine lv_aload_n hx hb dX4_nearestTo_29 rfl (lv_at hl 0 rfl) ?_
        refine lv_iload hx hb dX4_nearestTo_30 (lv_at hl 5 rfl) ?_
        refine lv_iconst (v := 0) hx hb dX4_nearestTo_32 (by decide) ?_
        obtain ⟨r33_9, h33_9, hF⟩ := bndE hF
        refine rdV (As := [.int x5_8_5, .int 0]) (rest := [.int p1, .int y25_8]) (C := RX4) ⟨hx, hb, hml, hown, hts⟩ (c_X4_numberAt l D t z x a_t a_t_numbers t_count t_numbers_ x5_8_5 0 H r33_9 h33_9) (cwV 2 hts gX4_nearestTo_X4_numberAt rfl rfl rfl hd_X4_numberAt ⟨Nat.le_of_ble_eq_true rfl, Nat.le_of_ble_eq_true rfl⟩) hC (selP (m9 := [true, true]) rfl rfl hP) 0 rfl (show vwCl[4]? = some (RX4, TX4, 2) from rfl) rfl rfl hl.1 rfl (Nat.le_of_ble_eq_true rfl) dX4_nearestTo_33 ⟨Nat.zero_le _, Nat.zero_le _⟩ rfl ?_
        refine va_mmax hx hb (hml.trans hl.1.symm) hown hm_max38 hm_max_s hm_init hm_max_c (Nat.le_of_ble_eq_true rfl) (Nat.le_of_ble_eq_true rfl) (Nat.zero_le _) (Nat.zero_le _) dX4_nearestTo_36 ?_
        refine lv_topi (fun y36_11 ey36_11 => ?_)
        have hF := ltE ey36_11 hF
        refine lv_isub hx hb dX4_nearestTo_39 ?_
        refine lv_topi (fun y40_12 ey40_12 => ?_)
        have hF := ltE ey40_12 hF
        refine lv_istore (lv' := [(6, .int y40_12), (0, .ref a_t), (1, .int p1), (2, .int p2), (3, .int x3_8_3), (4, .int x4_8_4), (5, .int x5_8_5)]) hx hb dX4_nearestTo_40 hl (by decide) rfl (fun ls hl => ?_)
        refine lv_iload hx hb dX4_nearestTo_42 (lv_at hl 0 rfl) ?_
        refine lv_iload hx hb dX4_nearestTo_44 (lv_at hl 5 rfl) ?_
        refine lv_icmp_le (tgt := 56) hx hb dX4_nearestTo_46 (by decide) (fun c46 => ?_) (fun c46 => ?_)
        · have hF := brT c46 hF
          obtain ⟨y56_13, ey56_13⟩ : ∃ y : Int32, y = x5_8_5 + 1 := ⟨_, rfl⟩
          have hF := ltE ey56_13 hF
          refine lv_iinc (v := y56_13) (lv' := [(5, .int y56_13), (6, .int y40_12), (0, .ref a_t), (1, .int p1), (2, .int p2), (3, .int x3_8_3), (4, .int x4_8_4)]) hx hb dX4_nearestTo_56 hl (k := 6) rfl (by rw [ey56_13]; rfl) (by decide) rfl (fun ls hl => ?_)
          refine lv_goto (tgt := 8) hx hb dX4_nearestTo_59 (by decide) ?_
          exact ih8 x3_8_3 x4_8_4 y56_13 ls (lv_sub hl [2, 3, 4, 5, 6, 0] rfl) hF
        · have hF := brF c46 hF
          refine lv_iload hx hb dX4_nearestTo_49 (lv_at hl 6 rfl) ?_
          refine lv_istore_n (lv' := [(3, .int x5_8_5), (6, .int y40_12), (0, .ref a_t), (1, .int p1), (2, .int p2), (4, .int x4_8_4), (5, .int x5_8_5)]) hx hb dX4_nearestTo_51 rfl hl (by decide) rfl (fun ls hl => ?_)
          refine lv_iload hx hb dX4_nearestTo_52 (lv_at hl 1 rfl) ?_
          refine lv_istore (lv' := [(4, .int y40_12), (3, .int x5_8_5), (6, .int y40_12), (0, .ref a_t), (1, .int p1), (2, .int p2), (5, .int x5_8_5)]) hx hb dX4_nearestTo_54 hl (by decide) rfl (fun ls hl => ?_)
          obtain ⟨y56_14, ey56_14⟩ : ∃ y : Int32, y = x5_8_5 + 1 := ⟨_, rfl⟩
          have hF := ltE ey56_14 hF
          refine lv_iinc (v := y56_14) (lv' := [(5, .int y56_14), (4, .int y40_12), (3, .int x5_8_5), (6, .int y40_12), (0, .ref a_t), (1, .int p1), (2, .int p2)]) hx hb dX4_nearestTo_56 hl (k := 6) rfl (by rw [ey56_14]; rfl) (by decide) rfl (fun ls hl => ?_)
          refine lv_goto (tgt := 8) hx hb dX4_nearestTo_59 (by decide) ?_
          exact ih8 x5_8_5 y40_12 y56_14 ls (lv_sub hl [4, 5, 6, 2, 1, 0] rfl) hF
  exact hlp8 N (-1) 0 0 ls (lv_sub hl [3, 4, 5, 2, 1, 0] rfl) hF
abbrev rm_X6_init : Room := { frames := 1, cells := 3, slots := 360, locals := 24 }
theorem hd_X6_init : yX6_init.cls = RX6 ∧ yX6_init.cls ≠ "java/lang/invoke/MethodHandle" ∧ yX6_init.cls ≠ "java/lang/invoke/VarHandle" ∧ (parseMethodDescriptor yX6_init.desc).map (fun d => d.parameters.length) = some 0 := by decide +kernel
set_option maxRecDepth 100000 in
set_option maxHeartbeats 4000000 in
theorem c_X6_init (l : Launch) (D : va_G) (t : Nat → ClassId) (z : Nat) (x : Nat → Nat) (a_t : Nat) (sz : Nat) (t_count' : Int32) (t_keys_' : (Nat → Int32)) (t_values_' : (Nat → Int32)) (t_states_' : (Nat → Int32)) (hF : f_X6_init = some (t_count', t_keys_', t_values_', t_states_')) : CrM l D (TY t) z x yX6_init wsX6_init rm_X6_init [.ref a_t] [(a_t, .inr (6, [.null, .null, .null, .int 0]))] (fun (q : Nat → Nat) => [(a_t, .inr (6, [.ref (q 0), .ref (q 1), .ref (q 2), .int t_count'])), ((q 0), .inl (t 0, 120, .inl t_keys_')), ((q 1), .inl (t 0, 120, .inl t_values_')), ((q 2), .inl (t 0, 120, .inl t_states_'))]) sz 3 360 := by
  obtain ⟨T9, hT⟩ : ∃ T9, T9 = (t_count', t_keys_', t_values_', t_states_') := ⟨_, rfl⟩
  rw [← hT] at hF
  obtain rfl : t_count' = T9.1 := by rw [hT]
  obtain rfl : t_keys_' = T9.2.1 := by rw [hT]
  obtain rfl : t_values_' = T9.2.2.1 := by rw [hT]
  obtain rfl : t_states_' = T9.2.2.2 := by rw [hT]
  clear hT
  refine cr_of (cc := cX6_init) (maxL := 1) (ret := none) (by decide) rfl (Nat.le_of_ble_eq_true rfl) ?_
  intro p e s m args below meth c A Q hQ hx hb hr hml hts hown hlocks hin H locs hP hD hS hA hz hC ls hl
  have hown : s.vm.findClass RX6 = some m.cls := hown
  have hl : lv_has ls 1 [(0, .ref a_t)] := hl
  have hK := hC.1
  have iw6 : ∀ w ∈ wsX60, w ∈ wsX6_init := fun _ h => List.mem_cons_of_mem _ (List.mem_append_right _ h)
  have hf9 := hts (.fieldLink RX6 9 "CrackedColumn$Rows" "keys" "[I") (by decide +kernel)
  have hf15 := hts (.fieldLink RX6 15 "CrackedColumn$Rows" "values" "[I") (by decide +kernel)
  have hf18 := hts (.fieldLink RX6 18 "CrackedColumn$Rows" "states" "[I") (by decide +kernel)
  have hf21 := hts (.fieldLink RX6 21 "CrackedColumn$Rows" "count" "I") (by decide +kernel)
  unfold f_X6_init at hF
  refine lv_aload_n hx hb dX6_init_0 rfl (lv_at hl 0 rfl) ?_
  refine W.objInit hx hb hown (hts (.methodLink RX6 3 objectInit) (by decide +kernel)) (hts (.instanceMethod objectInit) (by decide +kernel)) (hts (.code objectInit ⟨#[0xb1]⟩ 1 none) (by decide +kernel)) rfl (hl.1.trans hml.symm) rfl dX6_init_1 (Nat.le_of_ble_eq_true rfl) (Nat.le_of_ble_eq_true rfl) ?_
  refine lv_aload_n hx hb dX6_init_4 rfl (lv_at hl 0 rfl) ?_
  refine lv_bipush (v := 120) hx hb dX6_init_5 (by decide) ?_
  refine my_newa (atype := .int) (ty := .int) (t0 := 0) (wn := (fun a_t_keys => [(a_t, .inr (6, [.null, .null, .null, .int 0])), (a_t_keys, .inl (t 0, 120, .inl zf))])) (N' := 120) hx hb (hts (.arrayClass .int) (by decide +kernel)) rfl hK rfl hP hD hS hA (fun _ => rfl) (by decide) (by decide +kernel) (Nat.le_of_ble_eq_true rfl) (Nat.le_of_ble_eq_true rfl) (Nat.le_of_ble_eq_true rfl) (fun a => rfl) dX6_init_7 (fun a_t_keys H hP hD hS => ?_)
  refine my_putF (ty := tyX6 0) (v := .ref a_t_keys) (ci := 6) (C := RX6) (T := TX6) (N := 4) (wn := [(a_t, .inr (6, [.ref a_t_keys, .null, .null, .int 0])), (a_t_keys, .inl (t 0, 120, .inl zf))]) hx hb hts iw6 tyX6 tyX6_ok nmX6 hown hK hP hD hS 0 rfl rfl 0 (by decide) hf9 (fun _ h9 => h9) (by decide +kernel) hin rfl (by decide +kernel) rfl rfl (Nat.le_of_ble_eq_true rfl) rfl dX6_init_9 (fun H locs hP hD hS => ?_)
  refine lv_aload_n hx hb dX6_init_12 rfl (lv_at hl 0 rfl) ?_
  refine lv_bipush (v := 120) hx hb dX6_init_13 (by decide) ?_
  refine my_newa (atype := .int) (ty := .int) (t0 := 0) (wn := (fun a_t_values => [(a_t, .inr (6, [.ref a_t_keys, .null, .null, .int 0])), (a_t_keys, .inl (t 0, 120, .inl zf)), (a_t_values, .inl (t 0, 120, .inl zf))])) (N' := 120) hx hb (hts (.arrayClass .int) (by decide +kernel)) rfl hK rfl hP hD hS hA (fun _ => rfl) (by decide) (by decide +kernel) (Nat.le_of_ble_eq_true rfl) (Nat.le_of_ble_eq_true rfl) (Nat.le_of_ble_eq_true rfl) (fun a => rfl) dX6_init_15 (fun a_t_values H hP hD hS => ?_)
  refine my_putF (ty := tyX6 1) (v := .ref a_t_values) (ci := 6) (C := RX6) (T := TX6) (N := 4) (wn := [(a_t, .inr (6, [.ref a_t_keys, .ref a_t_values, .null, .int 0])), (a_t_keys, .inl (t 0, 120, .inl zf)), (a_t_values, .inl (t 0, 120, .inl zf))]) hx hb hts iw6 tyX6 tyX6_ok nmX6 hown hK hP hD hS 0 rfl rfl 1 (by decide) hf15 (fun _ h9 => h9) (by decide +kernel) hin rfl (by decide +kernel) rfl rfl (Nat.le_of_ble_eq_true rfl) rfl dX6_init_17 (fun H locs hP hD hS => ?_)
  refine lv_aload_n hx hb dX6_init_20 rfl (lv_at hl 0 rfl) ?_
  refine lv_bipush (v := 120) hx hb dX6_init_21 (by decide) ?_
  refine my_newa (atype := .int) (ty := .int) (t0 := 0) (wn := (fun a_t_states => [(a_t, .inr (6, [.ref a_t_keys, .ref a_t_values, .null, .int 0])), (a_t_keys, .inl (t 0, 120, .inl zf)), (a_t_values, .inl (t 0, 120, .inl zf)), (a_t_states, .inl (t 0, 120, .inl zf))])) (N' := 120) hx hb (hts (.arrayClass .int) (by decide +kernel)) rfl hK rfl hP hD hS hA (fun _ => rfl) (by decide) (by decide +kernel) (Nat.le_of_ble_eq_true rfl) (Nat.le_of_ble_eq_true rfl) (Nat.le_of_ble_eq_true rfl) (fun a => rfl) dX6_init_23 (fun a_t_states H hP hD hS => ?_)
  refine my_putF (ty := tyX6 2) (v := .ref a_t_states) (ci := 6) (C := RX6) (T := TX6) (N := 4) (wn := [(a_t, .inr (6, [.ref a_t_keys, .ref a_t_values, .ref a_t_states, .int 0])), (a_t_keys, .inl (t 0, 120, .inl zf)), (a_t_values, .inl (t 0, 120, .inl zf)), (a_t_states, .inl (t 0, 120, .inl zf))]) hx hb hts iw6 tyX6 tyX6_ok nmX6 hown hK hP hD hS 0 rfl rfl 2 (by decide) hf18 (fun _ h9 => h9) (by decide +kernel) hin rfl (by decide +kernel) rfl rfl (Nat.le_of_ble_eq_true rfl) rfl dX6_init_25 (fun H locs hP hD hS => ?_)
  refine lv_aload_n hx hb dX6_init_28 rfl (lv_at hl 0 rfl) ?_
  refine lv_iconst (v := 0) hx hb dX6_init_29 (by decide) ?_
  refine my_put (ty := .int) (v := .int 0) (ci := 6) (C := RX6) (T := TX6) (N := 4) (wn := [(a_t, .inr (6, [.ref a_t_keys, .ref a_t_values, .ref a_t_states, .int 0])), (a_t_keys, .inl (t 0, 120, .inl zf)), (a_t_values, .inl (t 0, 120, .inl zf)), (a_t_states, .inl (t 0, 120, .inl zf))]) hx hb hts iw6 tyX6 tyX6_ok nmX6 hown hK hP hD hS 0 rfl rfl 3 (by decide) hf21 (fun _ h9 => h9) rfl (by decide +kernel) rfl rfl (Nat.le_of_ble_eq_true rfl) rfl dX6_init_30 (fun H locs hP hD hS => ?_)
  cases hF
  exact W.widen (k := 3) (n := 360) (Nat.le_of_ble_eq_true rfl) (Nat.le_of_ble_eq_true rfl) (cr_vret hx hb hr hlocks dX6_init_33 hQ hP hD hS (fun i => [a_t_keys, a_t_values, a_t_states].getD i 0) [0, 1, 2, 3] rfl (by decide +kernel))
abbrev rm_X6_add : Room := { frames := 0, cells := 0, slots := 0, locals := 0 }
theorem hd_X6_add : yX6_add.cls = RX6 ∧ yX6_add.cls ≠ "java/lang/invoke/MethodHandle" ∧ yX6_add.cls ≠ "java/lang/invoke/VarHandle" ∧ (parseMethodDescriptor yX6_add.desc).map (fun d => d.parameters.length) = some 3 := by decide +kernel
set_option maxRecDepth 100000 in
set_option maxHeartbeats 4000000 in
theorem c_X6_add (l : Launch) (D : va_G) (t : Nat → ClassId) (z : Nat) (x : Nat → Nat) (a_t : Nat) (a_t_keys : Nat) (a_t_states : Nat) (a_t_values : Nat) (t_count : Int32) (t_keys_ : (Nat → Int32)) (t_states_ : (Nat → Int32)) (t_values_ : (Nat → Int32)) (p1 : Int32) (p2 : Int32) (p3 : Int32) (sz : Nat) (r : Int32) (t_count' : Int32) (t_keys_' : (Nat → Int32)) (t_states_' : (Nat → Int32)) (t_values_' : (Nat → Int32)) (hF : f_X6_add t_count t_keys_ t_states_ t_values_ p1 p2 p3 = some (r, t_count', t_keys_', t_states_', t_values_')) : WrM l D (TY t) z x yX6_add wsX6_add rm_X6_add [.ref a_t, .int p1, .int p2, .int p3] [(a_t, .inr (6, [.ref a_t_keys, .ref a_t_values, .ref a_t_states, .int t_count])), (a_t_keys, .inl (t 0, 120, .inl t_keys_)), (a_t_states, .inl (t 0, 120, .inl t_states_)), (a_t_values, .inl (t 0, 120, .inl t_values_))] [(a_t, .inr (6, [.ref a_t_keys, .ref a_t_values, .ref a_t_states, .int t_count'])), (a_t_keys, .inl (t 0, 120, .inl t_keys_')), (a_t_states, .inl (t 0, 120, .inl t_states_')), (a_t_values, .inl (t 0, 120, .inl t_values_'))] sz (some (.int r)) 0 0 := by
  obtain ⟨T9, hT⟩ : ∃ T9, T9 = (r, t_count', t_keys_', t_states_', t_values_') := ⟨_, rfl⟩
  rw [← hT] at hF
  obtain rfl : r = T9.1 := by rw [hT]
  obtain rfl : t_count' = T9.2.1 := by rw [hT]
  obtain rfl : t_keys_' = T9.2.2.1 := by rw [hT]
  obtain rfl : t_states_' = T9.2.2.2.1 := by rw [hT]
  obtain rfl : t_values_' = T9.2.2.2.2 := by rw [hT]
  clear hT
  refine wr_of (cc := cX6_add) (maxL := 5) (ret := (some .int)) (by decide) rfl (Nat.le_of_ble_eq_true rfl) ?_
  intro p e s m args below meth c A Q hQ hx hb hr hml hts hown hlocks hin H locs hP hD hS hA hz hC ls hl
  have hown : s.vm.findClass RX6 = some m.cls := hown
  have hl : lv_has ls 5 [(0, .ref a_t), (1, .int p1), (2, .int p2), (3, .int p3)] := hl
  have hK := hC.1
  have iw6 : ∀ w ∈ wsX60, w ∈ wsX6_add := fun _ h => List.mem_cons_of_mem _ (List.mem_append_right _ h)
  have hf9 := hts (.fieldLink RX6 9 "CrackedColumn$Rows" "keys" "[I") (by decide +kernel)
  have hf15 := hts (.fieldLink RX6 15 "CrackedColumn$Rows" "values" "[I") (by decide +kernel)
  have hf18 := hts (.fieldLink RX6 18 "CrackedColumn$Rows" "states" "[I") (by decide +kernel)
  have hf21 := hts (.fieldLink RX6 21 "CrackedColumn$Rows" "count" "I") (by decide +kernel)
  unfold f_X6_add at hF
  refine lv_aload_n hx hb dX6_add_0 rfl (lv_at hl 0 rfl) ?_
  refine va_get (D := D) (ci := 6) (v := .int t_count) (C := RX6) (T := TX6) (N := 4) hx hb hts iw6 hown hK hP 0 rfl rfl 3 (by decide) hf21 (fun _ h9 => h9) rfl dX6_add_1 ?_
  refine lv_istore (lv' := [(4, .int t_count), (0, .ref a_t), (1, .int p1), (2, .int p2), (3, .int p3)]) hx hb dX6_add_4 hl (by decide) rfl (fun ls hl => ?_)
  refine lv_iload hx hb dX6_add_6 (lv_at hl 0 rfl) ?_
  refine lv_if_lt (tgt := 18) hx hb dX6_add_8 (by decide) (fun c8 => ?_) (fun c8 => ?_)
  · have hF := brT c8 hF
    refine lv_iconst (v := (-1)) hx hb dX6_add_18 (by decide) ?_
    cases hF
    exact we_iret hx hb hr hlocks dX6_add_19 rfl hQ hP hD hS
  · have hF := brF c8 hF
    refine lv_iload hx hb dX6_add_11 (lv_at hl 0 rfl) ?_
    refine lv_bipush (v := 120) hx hb dX6_add_13 (by decide) ?_
    refine lv_icmp_lt (tgt := 20) hx hb dX6_add_15 (by decide) (fun c15 => ?_) (fun c15 => ?_)
    · have hF := brT c15 hF
      refine lv_aload_n hx hb dX6_add_20 rfl (lv_at hl 1 rfl) ?_
      refine va_get (D := D) (ci := 6) (v := .ref a_t_keys) (C := RX6) (T := TX6) (N := 4) hx hb hts iw6 hown hK hP 0 rfl rfl 0 (by decide) hf9 (fun _ h9 => h9) rfl dX6_add_21 ?_
      refine lv_iload hx hb dX6_add_24 (lv_at hl 0 rfl) ?_
      refine lv_iload_n hx hb dX6_add_26 rfl (lv_at hl 2 rfl) ?_
      obtain ⟨g27_0, hF⟩ := gd hF
      obtain ⟨t_keys_27_2, et_keys_27_2⟩ : ∃ y : Nat → Int32, y = upd t_keys_ t_count.toNatClampNeg p1 := ⟨_, rfl⟩
      have hF := ltE et_keys_27_2 hF
      refine my_iast (g := t_keys_27_2) (wn := [(a_t, .inr (6, [.ref a_t_keys, .ref a_t_values, .ref a_t_states, .int t_count])), (a_t_keys, .inl (t 0, 120, .inl t_keys_27_2)), (a_t_states, .inl (t 0, 120, .inl t_states_)), (a_t_values, .inl (t 0, 120, .inl t_values_))]) hx hb hK hP hD hS 1 0 rfl rfl g27_0 et_keys_27_2 rfl dX6_add_27 (fun H locs hP hD hS => ?_)
      refine lv_aload_n hx hb dX6_add_28 rfl (lv_at hl 1 rfl) ?_
      refine va_get (D := D) (ci := 6) (v := .ref a_t_values) (C := RX6) (T := TX6) (N := 4) hx hb hts iw6 hown hK hP 0 rfl rfl 1 (by decide) hf15 (fun _ h9 => h9) rfl dX6_add_29 ?_
      refine lv_iload hx hb dX6_add_32 (lv_at hl 0 rfl) ?_
      refine lv_iload_n hx hb dX6_add_34 rfl (lv_at hl 3 rfl) ?_
      obtain ⟨t_values_35_3, et_values_35_3⟩ : ∃ y : Nat → Int32, y = upd t_values_ t_count.toNatClampNeg p2 := ⟨_, rfl⟩
      have hF := ltE et_values_35_3 hF
      refine my_iast (g := t_values_35_3) (wn := [(a_t, .inr (6, [.ref a_t_keys, .ref a_t_values, .ref a_t_states, .int t_count])), (a_t_keys, .inl (t 0, 120, .inl t_keys_27_2)), (a_t_states, .inl (t 0, 120, .inl t_states_)), (a_t_values, .inl (t 0, 120, .inl t_values_35_3))]) hx hb hK hP hD hS 3 0 rfl rfl g27_0 et_values_35_3 rfl dX6_add_35 (fun H locs hP hD hS => ?_)
      refine lv_aload_n hx hb dX6_add_36 rfl (lv_at hl 1 rfl) ?_
      refine va_get (D := D) (ci := 6) (v := .ref a_t_states) (C := RX6) (T := TX6) (N := 4) hx hb hts iw6 hown hK hP 0 rfl rfl 2 (by decide) hf18 (fun _ h9 => h9) rfl dX6_add_37 ?_
      refine lv_iload hx hb dX6_add_40 (lv_at hl 0 rfl) ?_
      refine lv_iload_n hx hb dX6_add_42 rfl (lv_at hl 4 rfl) ?_
      obtain ⟨t_states_43_4, et_states_43_4⟩ : ∃ y : Nat → Int32, y = upd t_states_ t_count.toNatClampNeg p3 := ⟨_, rfl⟩
      have hF := ltE et_states_43_4 hF
      refine my_iast (g := t_states_43_4) (wn := [(a_t, .inr (6, [.ref a_t_keys, .ref a_t_values, .ref a_t_states, .int t_count])), (a_t_keys, .inl (t 0, 120, .inl t_keys_27_2)), (a_t_states, .inl (t 0, 120, .inl t_states_43_4)), (a_t_values, .inl (t 0, 120, .inl t_values_35_3))]) hx hb hK hP hD hS 2 0 rfl rfl g27_0 et_states_43_4 rfl dX6_add_43 (fun H locs hP hD hS => ?_)
      refine lv_aload_n hx hb dX6_add_44 rfl (lv_at hl 1 rfl) ?_
      refine lv_dup hx hb dX6_add_45 rfl ?_
      refine va_get (D := D) (ci := 6) (v := .int t_count) (C := RX6) (T := TX6) (N := 4) hx hb hts iw6 hown hK hP 0 rfl rfl 3 (by decide) hf21 (fun _ h9 => h9) rfl dX6_add_46 ?_
      refine lv_iconst (v := 1) hx hb dX6_add_49 (by decide) ?_
      refine lv_iadd hx hb dX6_add_50 ?_
      refine lv_topi (fun y51_5 ey51_5 => ?_)
      have hF := ltE ey51_5 hF
      refine my_put (ty := .int) (v := .int y51_5) (ci := 6) (C := RX6) (T := TX6) (N := 4) (wn := [(a_t, .inr (6, [.ref a_t_keys, .ref a_t_values, .ref a_t_states, .int y51_5])), (a_t_keys, .inl (t 0, 120, .inl t_keys_27_2)), (a_t_states, .inl (t 0, 120, .inl t_states_43_4)), (a_t_values, .inl (t 0, 120, .inl t_values_35_3))]) hx hb hts iw6 tyX6 tyX6_ok nmX6 hown hK hP hD hS 0 rfl rfl 3 (by decide) hf21 (fun _ h9 => h9) rfl (by decide +kernel) rfl rfl (Nat.le_of_ble_eq_true rfl) rfl dX6_add_51 (fun H locs hP hD hS => ?_)
      refine lv_iload hx hb dX6_add_54 (lv_at hl 0 rfl) ?_
      cases hF
      exact we_iret hx hb hr hlocks dX6_add_56 rfl hQ hP hD hS
    · have hF := brF c15 hF
      refine lv_iconst (v := (-1)) hx hb dX6_add_18 (by decide) ?_
      cases hF
      exact we_iret hx hb hr hlocks dX6_add_19 rfl hQ hP hD hS
abbrev rm_X6_keyOf : Room := { frames := 0, cells := 0, slots := 0, locals := 0 }
theorem hd_X6_keyOf : yX6_keyOf.cls = RX6 ∧ yX6_keyOf.cls ≠ "java/lang/invoke/MethodHandle" ∧ yX6_keyOf.cls ≠ "java/lang/invoke/VarHandle" ∧ (parseMethodDescriptor yX6_keyOf.desc).map (fun d => d.parameters.length) = some 1 := by decide +kernel
set_option maxRecDepth 100000 in
set_option maxHeartbeats 4000000 in
theorem c_X6_keyOf (l : Launch) (D : va_G) (t : Nat → ClassId) (z : Nat) (x : Nat → Nat) (a_t : Nat) (a_t_keys : Nat) (v_t_values : Value) (v_t_states : Value) (t_count : Int32) (t_keys_ : (Nat → Int32)) (p1 : Int32) (H : Heap) (r : Int32) (hF : f_X6_keyOf t_keys_ p1 = some (r)) : RdM l D (TY t) z x yX6_keyOf wsX6_keyOf rm_X6_keyOf [.ref a_t, .int p1] [(a_t, .inr (6, [.ref a_t_keys, v_t_values, v_t_states, .int t_count])), (a_t_keys, .inl (t 0, 120, .inl t_keys_))] H (some (.int r)) := by
  refine rd_of (cc := cX6_keyOf) (maxL := 2) (ret := (some .int)) (by decide) rfl (Nat.le_of_ble_eq_true rfl) ?_
  intro p e s m args below meth c Q hQ hx hb hr hml hts hown hlocks hH hP hC ls hl
  have hown : s.vm.findClass RX6 = some m.cls := hown
  have hl : lv_has ls 2 [(0, .ref a_t), (1, .int p1)] := hl
  have hK := hC.1
  have iw6 : ∀ w ∈ wsX60, w ∈ wsX6_keyOf := fun _ h => List.mem_cons_of_mem _ (List.mem_append_right _ h)
  have hf9 := hts (.fieldLink RX6 9 "CrackedColumn$Rows" "keys" "[I") (by decide +kernel)
  unfold f_X6_keyOf at hF
  refine lv_iload_n hx hb dX6_keyOf_0 rfl (lv_at hl 1 rfl) ?_
  refine lv_if_lt (tgt := 19) hx hb dX6_keyOf_1 (by decide) (fun c1 => ?_) (fun c1 => ?_)
  · have hF := brT c1 hF
    refine lv_iconst (v := 0) hx hb dX6_keyOf_19 (by decide) ?_
    cases hF
    exact rd_iret hx hb hr hlocks dX6_keyOf_20 rfl hQ
  · have hF := brF c1 hF
    refine lv_iload_n hx hb dX6_keyOf_4 rfl (lv_at hl 1 rfl) ?_
    refine lv_bipush (v := 120) hx hb dX6_keyOf_5 (by decide) ?_
    refine lv_icmp_ge (tgt := 19) hx hb dX6_keyOf_7 (by decide) (fun c7 => ?_) (fun c7 => ?_)
    · have hF := brT c7 hF
      refine lv_iconst (v := 0) hx hb dX6_keyOf_19 (by decide) ?_
      cases hF
      exact rd_iret hx hb hr hlocks dX6_keyOf_20 rfl hQ
    · have hF := brF c7 hF
      refine lv_aload_n hx hb dX6_keyOf_10 rfl (lv_at hl 0 rfl) ?_
      refine va_get (D := D) (ci := 6) (v := .ref a_t_keys) (C := RX6) (T := TX6) (N := 4) hx hb hts iw6 hown hK hP 0 rfl rfl 0 (by decide) hf9 (fun _ h9 => h9) rfl dX6_keyOf_11 ?_
      refine lv_iload_n hx hb dX6_keyOf_14 rfl (lv_at hl 1 rfl) ?_
      obtain ⟨g15_0, hF⟩ := gd hF
      refine my_iald (v := t_keys_ p1.toNatClampNeg) hx hb hK hP 1 0 rfl rfl g15_0 rfl dX6_keyOf_15 ?_
      refine lv_goto (tgt := 20) hx hb dX6_keyOf_16 (by decide) ?_
      cases hF
      exact rd_iret hx hb hr hlocks dX6_keyOf_20 rfl hQ
abbrev rm_X6_valueOf : Room := { frames := 0, cells := 0, slots := 0, locals := 0 }
theorem hd_X6_valueOf : yX6_valueOf.cls = RX6 ∧ yX6_valueOf.cls ≠ "java/lang/invoke/MethodHandle" ∧ yX6_valueOf.cls ≠ "java/lang/invoke/VarHandle" ∧ (parseMethodDescriptor yX6_valueOf.desc).map (fun d => d.parameters.length) = some 1 := by decide +kernel
set_option maxRecDepth 100000 in
set_option maxHeartbeats 4000000 in
theorem c_X6_valueOf (l : Launch) (D : va_G) (t : Nat → ClassId) (z : Nat) (x : Nat → Nat) (a_t : Nat) (a_t_values : Nat) (v_t_keys : Value) (v_t_states : Value) (t_count : Int32) (t_values_ : (Nat → Int32)) (p1 : Int32) (H : Heap) (r : Int32) (hF : f_X6_valueOf t_values_ p1 = some (r)) : RdM l D (TY t) z x yX6_valueOf wsX6_valueOf rm_X6_valueOf [.ref a_t, .int p1] [(a_t, .inr (6, [v_t_keys, .ref a_t_values, v_t_states, .int t_count])), (a_t_values, .inl (t 0, 120, .inl t_values_))] H (some (.int r)) := by
  refine rd_of (cc := cX6_valueOf) (maxL := 2) (ret := (some .int)) (by decide) rfl (Nat.le_of_ble_eq_true rfl) ?_
  intro p e s m args below meth c Q hQ hx hb hr hml hts hown hlocks hH hP hC ls hl
  have hown : s.vm.findClass RX6 = some m.cls := hown
  have hl : lv_has ls 2 [(0, .ref a_t), (1, .int p1)] := hl
  have hK := hC.1
  have iw6 : ∀ w ∈ wsX60, w ∈ wsX6_valueOf := fun _ h => List.mem_cons_of_mem _ (List.mem_append_right _ h)
  have hf15 := hts (.fieldLink RX6 15 "CrackedColumn$Rows" "values" "[I") (by decide +kernel)
  unfold f_X6_valueOf at hF
  refine lv_iload_n hx hb dX6_valueOf_0 rfl (lv_at hl 1 rfl) ?_
  refine lv_if_lt (tgt := 19) hx hb dX6_valueOf_1 (by decide) (fun c1 => ?_) (fun c1 => ?_)
  · have hF := brT c1 hF
    refine lv_iconst (v := 0) hx hb dX6_valueOf_19 (by decide) ?_
    cases hF
    exact rd_iret hx hb hr hlocks dX6_valueOf_20 rfl hQ
  · have hF := brF c1 hF
    refine lv_iload_n hx hb dX6_valueOf_4 rfl (lv_at hl 1 rfl) ?_
    refine lv_bipush (v := 120) hx hb dX6_valueOf_5 (by decide) ?_
    refine lv_icmp_ge (tgt := 19) hx hb dX6_valueOf_7 (by decide) (fun c7 => ?_) (fun c7 => ?_)
    · have hF := brT c7 hF
      refine lv_iconst (v := 0) hx hb dX6_valueOf_19 (by decide) ?_
      cases hF
      exact rd_iret hx hb hr hlocks dX6_valueOf_20 rfl hQ
    · have hF := brF c7 hF
      refine lv_aload_n hx hb dX6_valueOf_10 rfl (lv_at hl 0 rfl) ?_
      refine va_get (D := D) (ci := 6) (v := .ref a_t_values) (C := RX6) (T := TX6) (N := 4) hx hb hts iw6 hown hK hP 0 rfl rfl 1 (by decide) hf15 (fun _ h9 => h9) rfl dX6_valueOf_11 ?_
      refine lv_iload_n hx hb dX6_valueOf_14 rfl (lv_at hl 1 rfl) ?_
      obtain ⟨g15_0, hF⟩ := gd hF
      refine my_iald (v := t_values_ p1.toNatClampNeg) hx hb hK hP 1 0 rfl rfl g15_0 rfl dX6_valueOf_15 ?_
      refine lv_goto (tgt := 20) hx hb dX6_valueOf_16 (by decide) ?_
      cases hF
      exact rd_iret hx hb hr hlocks dX6_valueOf_20 rfl hQ
abbrev rm_X6_stateOf : Room := { frames := 0, cells := 0, slots := 0, locals := 0 }
theorem hd_X6_stateOf : yX6_stateOf.cls = RX6 ∧ yX6_stateOf.cls ≠ "java/lang/invoke/MethodHandle" ∧ yX6_stateOf.cls ≠ "java/lang/invoke/VarHandle" ∧ (parseMethodDescriptor yX6_stateOf.desc).map (fun d => d.parameters.length) = some 1 := by decide +kernel
set_option maxRecDepth 100000 in
set_option maxHeartbeats 4000000 in
theorem c_X6_stateOf (l : Launch) (D : va_G) (t : Nat → ClassId) (z : Nat) (x : Nat → Nat) (a_t : Nat) (a_t_states : Nat) (v_t_keys : Value) (v_t_values : Value) (t_count : Int32) (t_states_ : (Nat → Int32)) (p1 : Int32) (H : Heap) (r : Int32) (hF : f_X6_stateOf t_states_ p1 = some (r)) : RdM l D (TY t) z x yX6_stateOf wsX6_stateOf rm_X6_stateOf [.ref a_t, .int p1] [(a_t, .inr (6, [v_t_keys, v_t_values, .ref a_t_states, .int t_count])), (a_t_states, .inl (t 0, 120, .inl t_states_))] H (some (.int r)) := by
  refine rd_of (cc := cX6_stateOf) (maxL := 2) (ret := (some .int)) (by decide) rfl (Nat.le_of_ble_eq_true rfl) ?_
  intro p e s m args below meth c Q hQ hx hb hr hml hts hown hlocks hH hP hC ls hl
  have hown : s.vm.findClass RX6 = some m.cls := hown
  have hl : lv_has ls 2 [(0, .ref a_t), (1, .int p1)] := hl
  have hK := hC.1
  have iw6 : ∀ w ∈ wsX60, w ∈ wsX6_stateOf := fun _ h => List.mem_cons_of_mem _ (List.mem_append_right _ h)
  have hf18 := hts (.fieldLink RX6 18 "CrackedColumn$Rows" "states" "[I") (by decide +kernel)
  unfold f_X6_stateOf at hF
  refine lv_iload_n hx hb dX6_stateOf_0 rfl (lv_at hl 1 rfl) ?_
  refine lv_if_lt (tgt := 19) hx hb dX6_stateOf_1 (by decide) (fun c1 => ?_) (fun c1 => ?_)
  · have hF := brT c1 hF
    refine lv_iconst (v := 3) hx hb dX6_stateOf_19 (by decide) ?_
    cases hF
    exact rd_iret hx hb hr hlocks dX6_stateOf_20 rfl hQ
  · have hF := brF c1 hF
    refine lv_iload_n hx hb dX6_stateOf_4 rfl (lv_at hl 1 rfl) ?_
    refine lv_bipush (v := 120) hx hb dX6_stateOf_5 (by decide) ?_
    refine lv_icmp_ge (tgt := 19) hx hb dX6_stateOf_7 (by decide) (fun c7 => ?_) (fun c7 => ?_)
    · have hF := brT c7 hF
      refine lv_iconst (v := 3) hx hb dX6_stateOf_19 (by decide) ?_
      cases hF
      exact rd_iret hx hb hr hlocks dX6_stateOf_20 rfl hQ
    · have hF := brF c7 hF
      refine lv_aload_n hx hb dX6_stateOf_10 rfl (lv_at hl 0 rfl) ?_
      refine va_get (D := D) (ci := 6) (v := .ref a_t_states) (C := RX6) (T := TX6) (N := 4) hx hb hts iw6 hown hK hP 0 rfl rfl 2 (by decide) hf18 (fun _ h9 => h9) rfl dX6_stateOf_11 ?_
      refine lv_iload_n hx hb dX6_stateOf_14 rfl (lv_at hl 1 rfl) ?_
      obtain ⟨g15_0, hF⟩ := gd hF
      refine my_iald (v := t_states_ p1.toNatClampNeg) hx hb hK hP 1 0 rfl rfl g15_0 rfl dX6_stateOf_15 ?_
      refine lv_goto (tgt := 20) hx hb dX6_stateOf_16 (by decide) ?_
      cases hF
      exact rd_iret hx hb hr hlocks dX6_stateOf_20 rfl hQ
abbrev rm_X6_putState : Room := { frames := 0, cells := 0, slots := 0, locals := 0 }
theorem hd_X6_putState : yX6_putState.cls = RX6 ∧ yX6_putState.cls ≠ "java/lang/invoke/MethodHandle" ∧ yX6_putState.cls ≠ "java/lang/invoke/VarHandle" ∧ (parseMethodDescriptor yX6_putState.desc).map (fun d => d.parameters.length) = some 2 := by decide +kernel
set_option maxRecDepth 100000 in
set_option maxHeartbeats 4000000 in
theorem c_X6_putState (l : Launch) (D : va_G) (t : Nat → ClassId) (z : Nat) (x : Nat → Nat) (a_t : Nat) (a_t_states : Nat) (v_t_keys : Value) (v_t_values : Value) (t_count : Int32) (t_states_ : (Nat → Int32)) (p1 : Int32) (p2 : Int32) (sz : Nat) (t_states_' : (Nat → Int32)) (hF : f_X6_putState t_states_ p1 p2 = some (t_states_')) : WrM l D (TY t) z x yX6_putState wsX6_putState rm_X6_putState [.ref a_t, .int p1, .int p2] [(a_t, .inr (6, [v_t_keys, v_t_values, .ref a_t_states, .int t_count])), (a_t_states, .inl (t 0, 120, .inl t_states_))] [(a_t, .inr (6, [v_t_keys, v_t_values, .ref a_t_states, .int t_count])), (a_t_states, .inl (t 0, 120, .inl t_states_'))] sz none 0 0 := by
  refine wr_of (cc := cX6_putState) (maxL := 3) (ret := none) (by decide) rfl (Nat.le_of_ble_eq_true rfl) ?_
  intro p e s m args below meth c A Q hQ hx hb hr hml hts hown hlocks hin H locs hP hD hS hA hz hC ls hl
  have hown : s.vm.findClass RX6 = some m.cls := hown
  have hl : lv_has ls 3 [(0, .ref a_t), (1, .int p1), (2, .int p2)] := hl
  have hK := hC.1
  have iw6 : ∀ w ∈ wsX60, w ∈ wsX6_putState := fun _ h => List.mem_cons_of_mem _ (List.mem_append_right _ h)
  have hf18 := hts (.fieldLink RX6 18 "CrackedColumn$Rows" "states" "[I") (by decide +kernel)
  unfold f_X6_putState at hF
  refine lv_iload_n hx hb dX6_putState_0 rfl (lv_at hl 1 rfl) ?_
  refine lv_if_lt (tgt := 17) hx hb dX6_putState_1 (by decide) (fun c1 => ?_) (fun c1 => ?_)
  · have hF := brT c1 hF
    cases hF
    exact we_vret hx hb hr hlocks dX6_putState_17 rfl hQ hP hD hS
  · have hF := brF c1 hF
    refine lv_iload_n hx hb dX6_putState_4 rfl (lv_at hl 1 rfl) ?_
    refine lv_bipush (v := 120) hx hb dX6_putState_5 (by decide) ?_
    refine lv_icmp_ge (tgt := 17) hx hb dX6_putState_7 (by decide) (fun c7 => ?_) (fun c7 => ?_)
    · have hF := brT c7 hF
      cases hF
      exact we_vret hx hb hr hlocks dX6_putState_17 rfl hQ hP hD hS
    · have hF := brF c7 hF
      refine lv_aload_n hx hb dX6_putState_10 rfl (lv_at hl 0 rfl) ?_
      refine va_get (D := D) (ci := 6) (v := .ref a_t_states) (C := RX6) (T := TX6) (N := 4) hx hb hts iw6 hown hK hP 0 rfl rfl 2 (by decide) hf18 (fun _ h9 => h9) rfl dX6_putState_11 ?_
      refine lv_iload_n hx hb dX6_putState_14 rfl (lv_at hl 1 rfl) ?_
      refine lv_iload_n hx hb dX6_putState_15 rfl (lv_at hl 2 rfl) ?_
      obtain ⟨g16_0, hF⟩ := gd hF
      obtain ⟨t_states_16_2, et_states_16_2⟩ : ∃ y : Nat → Int32, y = upd t_states_ p1.toNatClampNeg p2 := ⟨_, rfl⟩
      have hF := ltE et_states_16_2 hF
      refine my_iast (g := t_states_16_2) (wn := [(a_t, .inr (6, [v_t_keys, v_t_values, .ref a_t_states, .int t_count])), (a_t_states, .inl (t 0, 120, .inl t_states_16_2))]) hx hb hK hP hD hS 1 0 rfl rfl g16_0 et_states_16_2 rfl dX6_putState_16 (fun H locs hP hD hS => ?_)
      cases hF
      exact we_vret hx hb hr hlocks dX6_putState_17 rfl hQ hP hD hS
abbrev rm_X6_lives : Room := { frames := 1, cells := 0, slots := 0, locals := 21 }
theorem hd_X6_lives : yX6_lives.cls = RX6 ∧ yX6_lives.cls ≠ "java/lang/invoke/MethodHandle" ∧ yX6_lives.cls ≠ "java/lang/invoke/VarHandle" ∧ (parseMethodDescriptor yX6_lives.desc).map (fun d => d.parameters.length) = some 1 := by decide +kernel
set_option maxRecDepth 100000 in
set_option maxHeartbeats 4000000 in
theorem c_X6_lives (l : Launch) (D : va_G) (t : Nat → ClassId) (z : Nat) (x : Nat → Nat) (a_t : Nat) (a_t_states : Nat) (v_t_keys : Value) (v_t_values : Value) (t_count : Int32) (t_states_ : (Nat → Int32)) (p1 : Int32) (H : Heap) (r : Int32) (hF : f_X6_lives t_states_ p1 = some (r)) : RdM l D (TY t) z x yX6_lives wsX6_lives rm_X6_lives [.ref a_t, .int p1] [(a_t, .inr (6, [v_t_keys, v_t_values, .ref a_t_states, .int t_count])), (a_t_states, .inl (t 0, 120, .inl t_states_))] H (some (.int r)) := by
  refine rd_of (cc := cX6_lives) (maxL := 3) (ret := (some .boolean)) (by decide) rfl (Nat.le_of_ble_eq_true rfl) ?_
  intro p e s m args below meth c Q hQ hx hb hr hml hts hown hlocks hH hP hC ls hl
  have hown : s.vm.findClass RX6 = some m.cls := hown
  have hl : lv_has ls 3 [(0, .ref a_t), (1, .int p1)] := hl
  have hK := hC.1
  unfold f_X6_lives at hF
  refine lv_aload_n hx hb dX6_lives_0 rfl (lv_at hl 0 rfl) ?_
  refine lv_iload_n hx hb dX6_lives_1 rfl (lv_at hl 1 rfl) ?_
  obtain ⟨r2_1, h2_1, hF⟩ := bndE hF
  refine rdV (As := [.int p1]) (rest := []) (C := RX6) ⟨hx, hb, hml, hown, hts⟩ (c_X6_stateOf l D t z x a_t a_t_states v_t_keys v_t_values t_count t_states_ p1 H r2_1 h2_1) (cwV 1 hts gX6_lives_X6_stateOf rfl rfl rfl hd_X6_stateOf ⟨Nat.le_of_ble_eq_true rfl, Nat.le_of_ble_eq_true rfl⟩) hC (selP (m9 := [true, true]) rfl rfl hP) 0 rfl (show vwCl[6]? = some (RX6, TX6, 4) from rfl) rfl rfl hl.1 rfl (Nat.le_of_ble_eq_true rfl) dX6_lives_2 ⟨Nat.zero_le _, Nat.zero_le _⟩ rfl ?_
  refine lv_istore_n (lv' := [(2, .int r2_1), (0, .ref a_t), (1, .int p1)]) hx hb dX6_lives_5 rfl hl (by decide) rfl (fun ls hl => ?_)
  refine lv_iload_n hx hb dX6_lives_6 rfl (lv_at hl 0 rfl) ?_
  refine lv_if_eq (tgt := 15) hx hb dX6_lives_7 (by decide) (fun c7 => ?_) (fun c7 => ?_)
  · have hF := brT c7 hF
    refine lv_iconst (v := 1) hx hb dX6_lives_15 (by decide) ?_
    refine lv_goto (tgt := 20) hx hb dX6_lives_16 (by decide) ?_
    cases hF
    exact rd_zret hx hb hr hlocks dX6_lives_20 rfl rfl hQ
  · have hF := brF c7 hF
    refine lv_iload_n hx hb dX6_lives_10 rfl (lv_at hl 0 rfl) ?_
    refine lv_iconst (v := 1) hx hb dX6_lives_11 (by decide) ?_
    refine lv_icmp_ne (tgt := 19) hx hb dX6_lives_12 (by decide) (fun c12 => ?_) (fun c12 => ?_)
    · have hF := brF c12 hF
      refine lv_iconst (v := 0) hx hb dX6_lives_19 (by decide) ?_
      cases hF
      exact rd_zret hx hb hr hlocks dX6_lives_20 rfl rfl hQ
    · have hF := brT c12 hF
      refine lv_iconst (v := 1) hx hb dX6_lives_15 (by decide) ?_
      refine lv_goto (tgt := 20) hx hb dX6_lives_16 (by decide) ?_
      cases hF
      exact rd_zret hx hb hr hlocks dX6_lives_20 rfl rfl hQ
abbrev rm_X6_isIn : Room := { frames := 1, cells := 0, slots := 0, locals := 21 }
theorem hd_X6_isIn : yX6_isIn.cls = RX6 ∧ yX6_isIn.cls ≠ "java/lang/invoke/MethodHandle" ∧ yX6_isIn.cls ≠ "java/lang/invoke/VarHandle" ∧ (parseMethodDescriptor yX6_isIn.desc).map (fun d => d.parameters.length) = some 3 := by decide +kernel
set_option maxRecDepth 100000 in
set_option maxHeartbeats 4000000 in
theorem c_X6_isIn (l : Launch) (D : va_G) (t : Nat → ClassId) (z : Nat) (x : Nat → Nat) (a_t : Nat) (a_t_keys : Nat) (v_t_values : Value) (v_t_states : Value) (t_count : Int32) (t_keys_ : (Nat → Int32)) (p1 : Int32) (p2 : Int32) (p3 : Int32) (H : Heap) (r : Int32) (hF : f_X6_isIn t_keys_ p1 p2 p3 = some (r)) : RdM l D (TY t) z x yX6_isIn wsX6_isIn rm_X6_isIn [.ref a_t, .int p1, .int p2, .int p3] [(a_t, .inr (6, [.ref a_t_keys, v_t_values, v_t_states, .int t_count])), (a_t_keys, .inl (t 0, 120, .inl t_keys_))] H (some (.int r)) := by
  refine rd_of (cc := cX6_isIn) (maxL := 5) (ret := (some .boolean)) (by decide) rfl (Nat.le_of_ble_eq_true rfl) ?_
  intro p e s m args below meth c Q hQ hx hb hr hml hts hown hlocks hH hP hC ls hl
  have hown : s.vm.findClass RX6 = some m.cls := hown
  have hl : lv_has ls 5 [(0, .ref a_t), (1, .int p1), (2, .int p2), (3, .int p3)] := hl
  have hK := hC.1
  unfold f_X6_isIn at hF
  refine lv_aload_n hx hb dX6_isIn_0 rfl (lv_at hl 0 rfl) ?_
  refine lv_iload_n hx hb dX6_isIn_1 rfl (lv_at hl 1 rfl) ?_
  obtain ⟨r2_1, h2_1, hF⟩ := bndE hF
  refine rdV (As := [.int p1]) (rest := []) (C := RX6) ⟨hx, hb, hml, hown, hts⟩ (c_X6_keyOf l D t z x a_t a_t_keys v_t_values v_t_states t_count t_keys_ p1 H r2_1 h2_1) (cwV 1 hts gX6_isIn_X6_keyOf rfl rfl rfl hd_X6_keyOf ⟨Nat.le_of_ble_eq_true rfl, Nat.le_of_ble_eq_true rfl⟩) hC (selP (m9 := [true, true]) rfl rfl hP) 0 rfl (show vwCl[6]? = some (RX6, TX6, 4) from rfl) rfl rfl hl.1 rfl (Nat.le_of_ble_eq_true rfl) dX6_isIn_2 ⟨Nat.zero_le _, Nat.zero_le _⟩ rfl ?_
  refine lv_istore (lv' := [(4, .int r2_1), (0, .ref a_t), (1, .int p1), (2, .int p2), (3, .int p3)]) hx hb dX6_isIn_5 hl (by decide) rfl (fun ls hl => ?_)
  refine lv_iload hx hb dX6_isIn_7 (lv_at hl 0 rfl) ?_
  refine lv_iload_n hx hb dX6_isIn_9 rfl (lv_at hl 3 rfl) ?_
  refine lv_icmp_lt (tgt := 23) hx hb dX6_isIn_10 (by decide) (fun c10 => ?_) (fun c10 => ?_)
  · have hF := brT c10 hF
    refine lv_iconst (v := 0) hx hb dX6_isIn_23 (by decide) ?_
    cases hF
    exact rd_zret hx hb hr hlocks dX6_isIn_24 rfl rfl hQ
  · have hF := brF c10 hF
    refine lv_iload hx hb dX6_isIn_13 (lv_at hl 0 rfl) ?_
    refine lv_iload_n hx hb dX6_isIn_15 rfl (lv_at hl 4 rfl) ?_
    refine lv_icmp_ge (tgt := 23) hx hb dX6_isIn_16 (by decide) (fun c16 => ?_) (fun c16 => ?_)
    · have hF := brT c16 hF
      refine lv_iconst (v := 0) hx hb dX6_isIn_23 (by decide) ?_
      cases hF
      exact rd_zret hx hb hr hlocks dX6_isIn_24 rfl rfl hQ
    · have hF := brF c16 hF
      refine lv_iconst (v := 1) hx hb dX6_isIn_19 (by decide) ?_
      refine lv_goto (tgt := 24) hx hb dX6_isIn_20 (by decide) ?_
      cases hF
      exact rd_zret hx hb hr hlocks dX6_isIn_24 rfl rfl hQ
abbrev rm_X6_isAhead : Room := { frames := 1, cells := 0, slots := 0, locals := 21 }
theorem hd_X6_isAhead : yX6_isAhead.cls = RX6 ∧ yX6_isAhead.cls ≠ "java/lang/invoke/MethodHandle" ∧ yX6_isAhead.cls ≠ "java/lang/invoke/VarHandle" ∧ (parseMethodDescriptor yX6_isAhead.desc).map (fun d => d.parameters.length) = some 2 := by decide +kernel
set_option maxRecDepth 100000 in
set_option maxHeartbeats 4000000 in
theorem c_X6_isAhead (l : Launch) (D : va_G) (t : Nat → ClassId) (z : Nat) (x : Nat → Nat) (a_t : Nat) (a_t_keys : Nat) (v_t_values : Value) (v_t_states : Value) (t_count : Int32) (t_keys_ : (Nat → Int32)) (p1 : Int32) (p2 : Int32) (H : Heap) (r : Int32) (hF : f_X6_isAhead t_keys_ p1 p2 = some (r)) : RdM l D (TY t) z x yX6_isAhead wsX6_isAhead rm_X6_isAhead [.ref a_t, .int p1, .int p2] [(a_t, .inr (6, [.ref a_t_keys, v_t_values, v_t_states, .int t_count])), (a_t_keys, .inl (t 0, 120, .inl t_keys_))] H (some (.int r)) := by
  refine rd_of (cc := cX6_isAhead) (maxL := 5) (ret := (some .boolean)) (by decide) rfl (Nat.le_of_ble_eq_true rfl) ?_
  intro p e s m args below meth c Q hQ hx hb hr hml hts hown hlocks hH hP hC ls hl
  have hown : s.vm.findClass RX6 = some m.cls := hown
  have hl : lv_has ls 5 [(0, .ref a_t), (1, .int p1), (2, .int p2)] := hl
  have hK := hC.1
  unfold f_X6_isAhead at hF
  refine lv_aload_n hx hb dX6_isAhead_0 rfl (lv_at hl 0 rfl) ?_
  refine lv_iload_n hx hb dX6_isAhead_1 rfl (lv_at hl 1 rfl) ?_
  obtain ⟨r2_1, h2_1, hF⟩ := bndE hF
  refine rdV (As := [.int p1]) (rest := []) (C := RX6) ⟨hx, hb, hml, hown, hts⟩ (c_X6_keyOf l D t z x a_t a_t_keys v_t_values v_t_states t_count t_keys_ p1 H r2_1 h2_1) (cwV 1 hts gX6_isAhead_X6_keyOf rfl rfl rfl hd_X6_keyOf ⟨Nat.le_of_ble_eq_true rfl, Nat.le_of_ble_eq_true rfl⟩) hC (selP (m9 := [true, true]) rfl rfl hP) 0 rfl (show vwCl[6]? = some (RX6, TX6, 4) from rfl) rfl rfl hl.1 rfl (Nat.le_of_ble_eq_true rfl) dX6_isAhead_2 ⟨Nat.zero_le _, Nat.zero_le _⟩ rfl ?_
  refine lv_istore_n (lv' := [(3, .int r2_1), (0, .ref a_t), (1, .int p1), (2, .int p2)]) hx hb dX6_isAhead_5 rfl hl (by decide) rfl (fun ls hl => ?_)
  refine lv_aload_n hx hb dX6_isAhead_6 rfl (lv_at hl 1 rfl) ?_
  refine lv_iload_n hx hb dX6_isAhead_7 rfl (lv_at hl 3 rfl) ?_
  obtain ⟨r8_3, h8_3, hF⟩ := bndE hF
  refine rdV (As := [.int p2]) (rest := []) (C := RX6) ⟨hx, hb, hml, hown, hts⟩ (c_X6_keyOf l D t z x a_t a_t_keys v_t_values v_t_states t_count t_keys_ p2 H r8_3 h8_3) (cwV 1 hts gX6_isAhead_X6_keyOf rfl rfl rfl hd_X6_keyOf ⟨Nat.le_of_ble_eq_true rfl, Nat.le_of_ble_eq_true rfl⟩) hC (selP (m9 := [true, true]) rfl rfl hP) 0 rfl (show vwCl[6]? = some (RX6, TX6, 4) from rfl) rfl rfl hl.1 rfl (Nat.le_of_ble_eq_true rfl) dX6_isAhead_8 ⟨Nat.zero_le _, Nat.zero_le _⟩ rfl ?_
  refine lv_istore (lv' := [(4, .int r8_3), (3, .int r2_1), (0, .ref a_t), (1, .int p1), (2, .int p2)]) hx hb dX6_isAhead_11 hl (by decide) rfl (fun ls hl => ?_)
  refine lv_iload_n hx hb dX6_isAhead_13 rfl (lv_at hl 1 rfl) ?_
  refine lv_iload hx hb dX6_isAhead_14 (lv_at hl 0 rfl) ?_
  refine lv_icmp_lt (tgt := 30) hx hb dX6_isAhead_16 (by decide) (fun c16 => ?_) (fun c16 => ?_)
  · have hF := brT c16 hF
    refine lv_iconst (v := 1) hx hb dX6_isAhead_30 (by decide) ?_
    refine lv_goto (tgt := 35) hx hb dX6_isAhead_31 (by decide) ?_
    cases hF
    exact rd_zret hx hb hr hlocks dX6_isAhead_35 rfl rfl hQ
  · have hF := brF c16 hF
    refine lv_iload_n hx hb dX6_isAhead_19 rfl (lv_at hl 1 rfl) ?_
    refine lv_iload hx hb dX6_isAhead_20 (lv_at hl 0 rfl) ?_
    refine lv_icmp_ne (tgt := 34) hx hb dX6_isAhead_22 (by decide) (fun c22 => ?_) (fun c22 => ?_)
    · have hF := brF c22 hF
      refine lv_iconst (v := 0) hx hb dX6_isAhead_34 (by decide) ?_
      cases hF
      exact rd_zret hx hb hr hlocks dX6_isAhead_35 rfl rfl hQ
    · have hF := brT c22 hF
      refine lv_iload_n hx hb dX6_isAhead_25 rfl (lv_at hl 3 rfl) ?_
      refine lv_iload_n hx hb dX6_isAhead_26 rfl (lv_at hl 4 rfl) ?_
      refine lv_icmp_ge (tgt := 34) hx hb dX6_isAhead_27 (by decide) (fun c27 => ?_) (fun c27 => ?_)
      · have hF := brT c27 hF
        refine lv_iconst (v := 0) hx hb dX6_isAhead_34 (by decide) ?_
        cases hF
        exact rd_zret hx hb hr hlocks dX6_isAhead_35 rfl rfl hQ
      · have hF := brF c27 hF
        refine lv_iconst (v := 1) hx hb dX6_isAhead_30 (by decide) ?_
        refine lv_goto (tgt := 35) hx hb dX6_isAhead_31 (by decide) ?_
        cases hF
        exact rd_zret hx hb hr hlocks dX6_isAhead_35 rfl rfl hQ
abbrev rm_X6_livingCount : Room := { frames := 2, cells := 0, slots := 0, locals := 43 }
theorem hd_X6_livingCount : yX6_livingCount.cls = RX6 ∧ yX6_livingCount.cls ≠ "java/lang/invoke/MethodHandle" ∧ yX6_livingCount.cls ≠ "java/lang/invoke/VarHandle" ∧ (parseMethodDescriptor yX6_livingCount.desc).map (fun d => d.parameters.length) = some 0 := by decide +kernel
set_option maxRecDepth 100000 in
set_option maxHeartbeats 4000000 in
theorem c_X6_livingCount (l : Launch) (D : va_G) (t : Nat → ClassId) (z : Nat) (x : Nat → Nat) (N : Nat) (a_t : Nat) (a_t_states : Nat) (v_t_keys : Value) (v_t_values : Value) (t_count : Int32) (t_states_ : (Nat → Int32)) (H : Heap) (r : Int32) (hF : f_X6_livingCount N t_count t_states_ = some (r)) : RdM l D (TY t) z x yX6_livingCount wsX6_livingCount rm_X6_livingCount [.ref a_t] [(a_t, .inr (6, [v_t_keys, v_t_values, .ref a_t_states, .int t_count])), (a_t_states, .inl (t 0, 120, .inl t_states_))] H (some (.int r)) := by
  refine rd_of (cc := cX6_livingCount) (maxL := 3) (ret := (some .int)) (by decide) rfl (Nat.le_of_ble_eq_true rfl) ?_
  intro p e s m args below meth c Q hQ hx hb hr hml hts hown hlocks hH hP hC ls hl
  have hown : s.vm.findClass RX6 = some m.cls := hown
  have hl : lv_has ls 3 [(0, .ref a_t)] := hl
  have hK := hC.1
  have iw6 : ∀ w ∈ wsX60, w ∈ wsX6_livingCount := fun _ h => List.mem_cons_of_mem _ (List.mem_append_right _ h)
  have hf21 := hts (.fieldLink RX6 21 "CrackedColumn$Rows" "count" "I") (by decide +kernel)
  unfold f_X6_livingCount at hF
  refine lv_iconst (v := 0) hx hb dX6_livingCount_0 (by decide) ?_
  refine lv_istore_n (lv' := [(1, .int 0), (0, .ref a_t)]) hx hb dX6_livingCount_1 rfl hl (by decide) rfl (fun ls hl => ?_)
  refine lv_iconst (v := 0) hx hb dX6_livingCount_2 (by decide) ?_
  refine lv_istore_n (lv' := [(2, .int 0), (1, .int 0), (0, .ref a_t)]) hx hb dX6_livingCount_3 rfl hl (by decide) rfl (fun ls hl => ?_)
  obtain ⟨k34_2, ek34_2, hF⟩ := jnE hF
  have hk34_2 : ∀ (x1_34_1 : Int32) (ls : Array Slot), lv_has ls 3 [(1, .int x1_34_1)] → k34_2 x1_34_1 = some (r) → W p l e rm_X6_livingCount s m args below meth c H [] 0 0 Q (F0 m 34 ls []) := by
    subst ek34_2
    intro x1_34_1 ls hl hF
    refine lv_iload_n hx hb dX6_livingCount_34 rfl (lv_at hl 0 rfl) ?_
    cases hF
    exact rd_iret hx hb hr hlocks dX6_livingCount_35 rfl hQ
  have hlp4 : ∀ n4 : Nat, ∀ (x1_4_3 : Int32) (x2_4_4 : Int32) (ls : Array Slot), lv_has ls 3 [(0, .ref a_t), (1, .int x1_4_3), (2, .int x2_4_4)] → f_X6_livingCount_4 t_count t_states_ k34_2 n4 x1_4_3 x2_4_4 = some (r) → W p l e rm_X6_livingCount s m args below meth c H [] 0 0 Q (F0 m 4 ls []) := by
    intro n4
    induction n4 with
    | zero =>
      intro x1_4_3 x2_4_4 ls hl hF
      cases (show none = some (r) from hF)
    | succ n4 ih4 =>
      intro x1_4_3 x2_4_4 ls hl hF
      rw [f_X6_livingCount_4] at hF
      refine lv_iload_n hx hb dX6_livingCount_4 rfl (lv_at hl 2 rfl) ?_
      refine lv_aload_n hx hb dX6_livingCount_5 rfl (lv_at hl 0 rfl) ?_
      refine va_get (D := D) (ci := 6) (v := .int t_count) (C := RX6) (T := TX6) (N := 4) hx hb hts iw6 hown hK hP 0 rfl rfl 3 (by decide) hf21 (fun _ h9 => h9) rfl dX6_livingCount_6 ?_
      refine lv_icmp_ge (tgt := 34) hx hb dX6_livingCount_9 (by decide) (fun c9 => ?_) (fun c9 => ?_)
      · have hF := brT c9 hF
        exact hk34_2 x1_4_3 ls (lv_sub hl [1] rfl) hF
      · have hF := brF c9 hF
        refine lv_iload_n hx hb dX6_livingCount_12 rfl (lv_at hl 1 rfl) ?_
        refine lv_aload_n hx hb dX6_livingCount_13 rfl (lv_at hl 0 rfl) ?_
        refine lv_iload_n hx hb dX6_livingCount_14 rfl (lv_at hl 2 rfl) ?_
        obtain ⟨r15_5, h15_5, hF⟩ := bndE hF
        refine rdV (As := [.int x2_4_4]) (rest := [.int x1_4_3]) (C := RX6) ⟨hx, hb, hml, hown, hts⟩ (c_X6_lives l D t z x a_t a_t_states v_t_keys v_t_values t_count t_states_ x2_4_4 H r15_5 h15_5) (cwV 1 hts gX6_livingCount_X6_lives rfl rfl rfl hd_X6_lives ⟨Nat.le_of_ble_eq_true rfl, Nat.le_of_ble_eq_true rfl⟩) hC (selP (m9 := [true, true]) rfl rfl hP) 0 rfl (show vwCl[6]? = some (RX6, TX6, 4) from rfl) rfl rfl hl.1 rfl (Nat.le_of_ble_eq_true rfl) dX6_livingCount_15 ⟨Nat.zero_le _, Nat.zero_le _⟩ rfl ?_
        refine lv_if_eq (tgt := 25) hx hb dX6_livingCount_18 (by decide) (fun c18 => ?_) (fun c18 => ?_)
        · have hF := brT c18 hF
          refine lv_iconst (v := 0) hx hb dX6_livingCount_25 (by decide) ?_
          refine lv_iadd hx hb dX6_livingCount_26 ?_
          refine lv_topi (fun y27_7 ey27_7 => ?_)
          have hF := ltE ey27_7 hF
          refine lv_istore_n (lv' := [(1, .int y27_7), (0, .ref a_t), (2, .int x2_4_4)]) hx hb dX6_livingCount_27 rfl hl (by decide) rfl (fun ls hl => ?_)
          obtain ⟨y28_8, ey28_8⟩ : ∃ y : Int32, y = x2_4_4 + 1 := ⟨_, rfl⟩
          have hF := ltE ey28_8 hF
          refine lv_iinc (v := y28_8) (lv' := [(2, .int y28_8), (1, .int y27_7), (0, .ref a_t)]) hx hb dX6_livingCount_28 hl (k := 2) rfl (by rw [ey28_8]; rfl) (by decide) rfl (fun ls hl => ?_)
          refine lv_goto (tgt := 4) hx hb dX6_livingCount_31 (by decide) ?_
          exact ih4 y27_7 y28_8 ls (lv_sub hl [2, 1, 0] rfl) hF
        · have hF := brF c18 hF
          refine lv_iconst (v := 1) hx hb dX6_livingCount_21 (by decide) ?_
          refine lv_goto (tgt := 26) hx hb dX6_livingCount_22 (by decide) ?_
          refine lv_iadd hx hb dX6_livingCount_26 ?_
          refine lv_topi (fun y27_9 ey27_9 => ?_)
          have hF := ltE ey27_9 hF
          refine lv_istore_n (lv' := [(1, .int y27_9), (0, .ref a_t), (2, .int x2_4_4)]) hx hb dX6_livingCount_27 rfl hl (by decide) rfl (fun ls hl => ?_)
          obtain ⟨y28_10, ey28_10⟩ : ∃ y : Int32, y = x2_4_4 + 1 := ⟨_, rfl⟩
          have hF := ltE ey28_10 hF
          refine lv_iinc (v := y28_10) (lv' := [(2, .int y28_10), (1, .int y27_9), (0, .ref a_t)]) hx hb dX6_livingCount_28 hl (k := 2) rfl (by rw [ey28_10]; rfl) (by decide) rfl (fun ls hl => ?_)
          refine lv_goto (tgt := 4) hx hb dX6_livingCount_31 (by decide) ?_
          exact ih4 y27_9 y28_10 ls (lv_sub hl [2, 1, 0] rfl) hF
  exact hlp4 N 0 0 ls (lv_sub hl [2, 1, 0] rfl) hF
abbrev rm_X6_livingAhead : Room := { frames := 2, cells := 0, slots := 0, locals := 45 }
theorem hd_X6_livingAhead : yX6_livingAhead.cls = RX6 ∧ yX6_livingAhead.cls ≠ "java/lang/invoke/MethodHandle" ∧ yX6_livingAhead.cls ≠ "java/lang/invoke/VarHandle" ∧ (parseMethodDescriptor yX6_livingAhead.desc).map (fun d => d.parameters.length) = some 1 := by decide +kernel
set_option maxRecDepth 100000 in
set_option maxHeartbeats 4000000 in
theorem c_X6_livingAhead (l : Launch) (D : va_G) (t : Nat → ClassId) (z : Nat) (x : Nat → Nat) (N : Nat) (a_t : Nat) (a_t_keys : Nat) (a_t_states : Nat) (v_t_values : Value) (t_count : Int32) (t_keys_ : (Nat → Int32)) (t_states_ : (Nat → Int32)) (p1 : Int32) (H : Heap) (r : Int32) (hF : f_X6_livingAhead N t_count t_keys_ t_states_ p1 = some (r)) : RdM l D (TY t) z x yX6_livingAhead wsX6_livingAhead rm_X6_livingAhead [.ref a_t, .int p1] [(a_t, .inr (6, [.ref a_t_keys, v_t_values, .ref a_t_states, .int t_count])), (a_t_keys, .inl (t 0, 120, .inl t_keys_)), (a_t_states, .inl (t 0, 120, .inl t_states_))] H (some (.int r)) := by
  refine rd_of (cc := cX6_livingAhead) (maxL := 4) (ret := (some .int)) (by decide) rfl (Nat.le_of_ble_eq_true rfl) ?_
  intro p e s m args below meth c Q hQ hx hb hr hml hts hown hlocks hH hP hC ls hl
  have hown : s.vm.findClass RX6 = some m.cls := hown
  have hl : lv_has ls 4 [(0, .ref a_t), (1, .int p1)] := hl
  have hK := hC.1
  have iw6 : ∀ w ∈ wsX60, w ∈ wsX6_livingAhead := fun _ h => List.mem_cons_of_mem _ (List.mem_append_right _ h)
  have hf21 := hts (.fieldLink RX6 21 "CrackedColumn$Rows" "count" "I") (by decide +kernel)
  unfold f_X6_livingAhead at hF
  refine lv_iconst (v := 0) hx hb dX6_livingAhead_0 (by decide) ?_
  refine lv_istore_n (lv' := [(2, .int 0), (0, .ref a_t), (1, .int p1)]) hx hb dX6_livingAhead_1 rfl hl (by decide) rfl (fun ls hl => ?_)
  refine lv_iconst (v := 0) hx hb dX6_livingAhead_2 (by decide) ?_
  refine lv_istore_n (lv' := [(3, .int 0), (2, .int 0), (0, .ref a_t), (1, .int p1)]) hx hb dX6_livingAhead_3 rfl hl (by decide) rfl (fun ls hl => ?_)
  obtain ⟨k43_2, ek43_2, hF⟩ := jnE hF
  have hk43_2 : ∀ (x2_43_1 : Int32) (ls : Array Slot), lv_has ls 4 [(2, .int x2_43_1)] → k43_2 x2_43_1 = some (r) → W p l e rm_X6_livingAhead s m args below meth c H [] 0 0 Q (F0 m 43 ls []) := by
    subst ek43_2
    intro x2_43_1 ls hl hF
    refine lv_iload_n hx hb dX6_livingAhead_43 rfl (lv_at hl 0 rfl) ?_
    cases hF
    exact rd_iret hx hb hr hlocks dX6_livingAhead_44 rfl hQ
  have hlp4 : ∀ n4 : Nat, ∀ (x2_4_3 : Int32) (x3_4_4 : Int32) (ls : Array Slot), lv_has ls 4 [(0, .ref a_t), (1, .int p1), (2, .int x2_4_3), (3, .int x3_4_4)] → f_X6_livingAhead_4 t_count t_keys_ t_states_ p1 k43_2 n4 x2_4_3 x3_4_4 = some (r) → W p l e rm_X6_livingAhead s m args below meth c H [] 0 0 Q (F0 m 4 ls []) := by
    intro n4
    induction n4 with
    | zero =>
      intro x2_4_3 x3_4_4 ls hl hF
      cases (show none = some (r) from hF)
    | succ n4 ih4 =>
      intro x2_4_3 x3_4_4 ls hl hF
      rw [f_X6_livingAhead_4] at hF
      refine lv_iload_n hx hb dX6_livingAhead_4 rfl (lv_at hl 3 rfl) ?_
      refine lv_aload_n hx hb dX6_livingAhead_5 rfl (lv_at hl 0 rfl) ?_
      refine va_get (D := D) (ci := 6) (v := .int t_count) (C := RX6) (T := TX6) (N := 4) hx hb hts iw6 hown hK hP 0 rfl rfl 3 (by decide) hf21 (fun _ h9 => h9) rfl dX6_livingAhead_6 ?_
      refine lv_icmp_ge (tgt := 43) hx hb dX6_livingAhead_9 (by decide) (fun c9 => ?_) (fun c9 => ?_)
      · have hF := brT c9 hF
        exact hk43_2 x2_4_3 ls (lv_sub hl [2] rfl) hF
      · have hF := brF c9 hF
        refine lv_iload_n hx hb dX6_livingAhead_12 rfl (lv_at hl 2 rfl) ?_
        refine lv_aload_n hx hb dX6_livingAhead_13 rfl (lv_at hl 0 rfl) ?_
        refine lv_iload_n hx hb dX6_livingAhead_14 rfl (lv_at hl 3 rfl) ?_
        obtain ⟨r15_5, h15_5, hF⟩ := bndE hF
        refine rdV (As := [.int x3_4_4]) (rest := [.int x2_4_3]) (C := RX6) ⟨hx, hb, hml, hown, hts⟩ (c_X6_lives l D t z x a_t a_t_states (.ref a_t_keys) v_t_values t_count t_states_ x3_4_4 H r15_5 h15_5) (cwV 1 hts gX6_livingAhead_X6_lives rfl rfl rfl hd_X6_lives ⟨Nat.le_of_ble_eq_true rfl, Nat.le_of_ble_eq_true rfl⟩) hC (selP (m9 := [true, false, true]) rfl rfl hP) 0 rfl (show vwCl[6]? = some (RX6, TX6, 4) from rfl) rfl rfl hl.1 rfl (Nat.le_of_ble_eq_true rfl) dX6_livingAhead_15 ⟨Nat.zero_le _, Nat.zero_le _⟩ rfl ?_
        refine lv_if_eq (tgt := 34) hx hb dX6_livingAhead_18 (by decide) (fun c18 => ?_) (fun c18 => ?_)
        · have hF := brT c18 hF
          refine lv_iconst (v := 0) hx hb dX6_livingAhead_34 (by decide) ?_
          refine lv_iadd hx hb dX6_livingAhead_35 ?_
          refine lv_topi (fun y36_7 ey36_7 => ?_)
          have hF := ltE ey36_7 hF
          refine lv_istore_n (lv' := [(2, .int y36_7), (0, .ref a_t), (1, .int p1), (3, .int x3_4_4)]) hx hb dX6_livingAhead_36 rfl hl (by decide) rfl (fun ls hl => ?_)
          obtain ⟨y37_8, ey37_8⟩ : ∃ y : Int32, y = x3_4_4 + 1 := ⟨_, rfl⟩
          have hF := ltE ey37_8 hF
          refine lv_iinc (v := y37_8) (lv' := [(3, .int y37_8), (2, .int y36_7), (0, .ref a_t), (1, .int p1)]) hx hb dX6_livingAhead_37 hl (k := 3) rfl (by rw [ey37_8]; rfl) (by decide) rfl (fun ls hl => ?_)
          refine lv_goto (tgt := 4) hx hb dX6_livingAhead_40 (by decide) ?_
          exact ih4 y36_7 y37_8 ls (lv_sub hl [2, 3, 1, 0] rfl) hF
        · have hF := brF c18 hF
          refine lv_aload_n hx hb dX6_livingAhead_21 rfl (lv_at hl 0 rfl) ?_
          refine lv_iload_n hx hb dX6_livingAhead_22 rfl (lv_at hl 3 rfl) ?_
          refine lv_iload_n hx hb dX6_livingAhead_23 rfl (lv_at hl 1 rfl) ?_
          obtain ⟨r24_9, h24_9, hF⟩ := bndE hF
          refine rdV (As := [.int x3_4_4, .int p1]) (rest := [.int x2_4_3]) (C := RX6) ⟨hx, hb, hml, hown, hts⟩ (c_X6_isAhead l D t z x a_t a_t_keys v_t_values (.ref a_t_states) t_count t_keys_ x3_4_4 p1 H r24_9 h24_9) (cwV 2 hts gX6_livingAhead_X6_isAhead rfl rfl rfl hd_X6_isAhead ⟨Nat.le_of_ble_eq_true rfl, Nat.le_of_ble_eq_true rfl⟩) hC (selP (m9 := [true, true, false]) rfl rfl hP) 0 rfl (show vwCl[6]? = some (RX6, TX6, 4) from rfl) rfl rfl hl.1 rfl (Nat.le_of_ble_eq_true rfl) dX6_livingAhead_24 ⟨Nat.zero_le _, Nat.zero_le _⟩ rfl ?_
          refine lv_if_eq (tgt := 34) hx hb dX6_livingAhead_27 (by decide) (fun c27 => ?_) (fun c27 => ?_)
          · have hF := brT c27 hF
            refine lv_iconst (v := 0) hx hb dX6_livingAhead_34 (by decide) ?_
            refine lv_iadd hx hb dX6_livingAhead_35 ?_
            refine lv_topi (fun y36_11 ey36_11 => ?_)
            have hF := ltE ey36_11 hF
            refine lv_istore_n (lv' := [(2, .int y36_11), (0, .ref a_t), (1, .int p1), (3, .int x3_4_4)]) hx hb dX6_livingAhead_36 rfl hl (by decide) rfl (fun ls hl => ?_)
            obtain ⟨y37_12, ey37_12⟩ : ∃ y : Int32, y = x3_4_4 + 1 := ⟨_, rfl⟩
            have hF := ltE ey37_12 hF
            refine lv_iinc (v := y37_12) (lv' := [(3, .int y37_12), (2, .int y36_11), (0, .ref a_t), (1, .int p1)]) hx hb dX6_livingAhead_37 hl (k := 3) rfl (by rw [ey37_12]; rfl) (by decide) rfl (fun ls hl => ?_)
            refine lv_goto (tgt := 4) hx hb dX6_livingAhead_40 (by decide) ?_
            exact ih4 y36_11 y37_12 ls (lv_sub hl [2, 3, 1, 0] rfl) hF
          · have hF := brF c27 hF
            refine lv_iconst (v := 1) hx hb dX6_livingAhead_30 (by decide) ?_
            refine lv_goto (tgt := 35) hx hb dX6_livingAhead_31 (by decide) ?_
            refine lv_iadd hx hb dX6_livingAhead_35 ?_
            refine lv_topi (fun y36_13 ey36_13 => ?_)
            have hF := ltE ey36_13 hF
            refine lv_istore_n (lv' := [(2, .int y36_13), (0, .ref a_t), (1, .int p1), (3, .int x3_4_4)]) hx hb dX6_livingAhead_36 rfl hl (by decide) rfl (fun ls hl => ?_)
            obtain ⟨y37_14, ey37_14⟩ : ∃ y : Int32, y = x3_4_4 + 1 := ⟨_, rfl⟩
            have hF := ltE ey37_14 hF
            refine lv_iinc (v := y37_14) (lv' := [(3, .int y37_14), (2, .int y36_13), (0, .ref a_t), (1, .int p1)]) hx hb dX6_livingAhead_37 hl (k := 3) rfl (by rw [ey37_14]; rfl) (by decide) rfl (fun ls hl => ?_)
            refine lv_goto (tgt := 4) hx hb dX6_livingAhead_40 (by decide) ?_
            exact ih4 y36_13 y37_14 ls (lv_sub hl [2, 3, 1, 0] rfl) hF
  exact hlp4 N 0 0 ls (lv_sub hl [2, 3, 1, 0] rfl) hF
abbrev rm_X6_tallyLiving : Room := { frames := 2, cells := 0, slots := 0, locals := 45 }
theorem hd_X6_tallyLiving : yX6_tallyLiving.cls = RX6 ∧ yX6_tallyLiving.cls ≠ "java/lang/invoke/MethodHandle" ∧ yX6_tallyLiving.cls ≠ "java/lang/invoke/VarHandle" ∧ (parseMethodDescriptor yX6_tallyLiving.desc).map (fun d => d.parameters.length) = some 3 := by decide +kernel
set_option maxRecDepth 100000 in
set_option maxHeartbeats 4000000 in
theorem c_X6_tallyLiving (l : Launch) (D : va_G) (t : Nat → ClassId) (z : Nat) (x : Nat → Nat) (N : Nat) (a_p3 : Nat) (a_p3_numbers : Nat) (a_t : Nat) (a_t_keys : Nat) (a_t_states : Nat) (a_t_values : Nat) (p3_given : Int32) (p3_numbers_ : (Nat → Int32)) (t_count : Int32) (t_keys_ : (Nat → Int32)) (t_states_ : (Nat → Int32)) (t_values_ : (Nat → Int32)) (p1 : Int32) (p2 : Int32) (sz : Nat) (p3_numbers_' : (Nat → Int32)) (hF : f_X6_tallyLiving N p3_numbers_ t_count t_keys_ t_states_ t_values_ p1 p2 = some (p3_numbers_')) : WrM l D (TY t) z x yX6_tallyLiving wsX6_tallyLiving rm_X6_tallyLiving [.ref a_t, .int p1, .int p2, .ref a_p3] [(a_p3, .inr (0, [.ref a_p3_numbers, .int p3_given])), (a_p3_numbers, .inl (t 0, 9, .inl p3_numbers_)), (a_t, .inr (6, [.ref a_t_keys, .ref a_t_values, .ref a_t_states, .int t_count])), (a_t_keys, .inl (t 0, 120, .inl t_keys_)), (a_t_states, .inl (t 0, 120, .inl t_states_)), (a_t_values, .inl (t 0, 120, .inl t_values_))] [(a_p3, .inr (0, [.ref a_p3_numbers, .int p3_given])), (a_p3_numbers, .inl (t 0, 9, .inl p3_numbers_')), (a_t, .inr (6, [.ref a_t_keys, .ref a_t_values, .ref a_t_states, .int t_count])), (a_t_keys, .inl (t 0, 120, .inl t_keys_)), (a_t_states, .inl (t 0, 120, .inl t_states_)), (a_t_values, .inl (t 0, 120, .inl t_values_))] sz none 0 0 := by
  refine wr_of (cc := cX6_tallyLiving) (maxL := 5) (ret := none) (by decide) rfl (Nat.le_of_ble_eq_true rfl) ?_
  intro p e s m args below meth c A Q hQ hx hb hr hml hts hown hlocks hin H locs hP hD hS hA hz hC ls hl
  have hown : s.vm.findClass RX6 = some m.cls := hown
  have hl : lv_has ls 5 [(0, .ref a_t), (1, .int p1), (2, .int p2), (3, .ref a_p3)] := hl
  have hK := hC.1
  have iw6 : ∀ w ∈ wsX60, w ∈ wsX6_tallyLiving := fun _ h => List.mem_cons_of_mem _ (List.mem_append_left _ (List.mem_append_right _ h))
  have hf21 := hts (.fieldLink RX6 21 "CrackedColumn$Rows" "count" "I") (by decide +kernel)
  unfold f_X6_tallyLiving at hF
  refine lv_aload_n hx hb dX6_tallyLiving_0 rfl (lv_at hl 3 rfl) ?_
  obtain ⟨p3_numbers_1_1, h1_1, hF⟩ := bndE hF
  refine wrVM (As := []) (rest := []) (C := RX0) (wn := [(a_p3, .inr (0, [.ref a_p3_numbers, .int p3_given])), (a_p3_numbers, .inl (t 0, 9, .inl p3_numbers_1_1)), (a_t, .inr (6, [.ref a_t_keys, .ref a_t_values, .ref a_t_states, .int t_count])), (a_t_keys, .inl (t 0, 120, .inl t_keys_)), (a_t_states, .inl (t 0, 120, .inl t_states_)), (a_t_values, .inl (t 0, 120, .inl t_values_))]) ⟨hx, hb, hml, hown, hts⟩ (c_X0_clear l D t z x N a_p3 a_p3_numbers p3_given p3_numbers_ H.size p3_numbers_1_1 h1_1) (cwV 0 hts gX6_tallyLiving_X0_clear rfl rfl rfl hd_X0_clear ⟨Nat.le_of_ble_eq_true rfl, Nat.le_of_ble_eq_true rfl⟩) (hC.at hz hS) hP hD hS hA hz [true, true, false, false, false, false] rfl rfl rfl rfl 0 rfl (show vwCl[0]? = some (RX0, TX0, 2) from rfl) rfl rfl hl.1 rfl (Nat.le_of_ble_eq_true rfl) dX6_tallyLiving_1 ⟨Nat.zero_le _, Nat.zero_le _⟩ rfl (fun H locs hP hD hS => ?_)
  refine lv_iconst (v := 0) hx hb dX6_tallyLiving_4 (by decide) ?_
  refine lv_istore (lv' := [(4, .int 0), (0, .ref a_t), (1, .int p1), (2, .int p2), (3, .ref a_p3)]) hx hb dX6_tallyLiving_5 hl (by decide) rfl (fun ls hl => ?_)
  obtain ⟨k58_4, ek58_4, hF⟩ := jnE hF
  have hk58_4 : ∀ (p3_numbers_58_3 : (Nat → Int32)) (H : Heap) (locs : List Loc) (ls : Array Slot), va_P D vwCl [(a_p3, .inr (0, [.ref a_p3_numbers, .int p3_given])), (a_p3_numbers, .inl (t 0, 9, .inl p3_numbers_58_3)), (a_t, .inr (6, [.ref a_t_keys, .ref a_t_values, .ref a_t_states, .int t_count])), (a_t_keys, .inl (t 0, 120, .inl t_keys_)), (a_t_states, .inl (t 0, 120, .inl t_states_)), (a_t_values, .inl (t 0, 120, .inl t_values_))] H → va_D A [(a_p3, .inr (0, [.ref a_p3_numbers, .int p3_given])), (a_p3_numbers, .inl (t 0, 9, .inl p3_numbers_58_3)), (a_t, .inr (6, [.ref a_t_keys, .ref a_t_values, .ref a_t_states, .int t_count])), (a_t_keys, .inl (t 0, 120, .inl t_keys_)), (a_t_states, .inl (t 0, 120, .inl t_states_)), (a_t_values, .inl (t 0, 120, .inl t_values_))] → va_S A s.heap H locs → lv_has ls 5 [] → k58_4 p3_numbers_58_3 = some (p3_numbers_') → W p l e rm_X6_tallyLiving s m args below meth c H locs 0 0 Q (F0 m 58 ls []) := by
    subst ek58_4
    intro p3_numbers_58_3 H locs ls hP hD hS hl hF
    cases hF
    exact we_vret hx hb hr hlocks dX6_tallyLiving_58 rfl hQ hP hD hS
  have hlp7 : ∀ n7 : Nat, ∀ (x4_7_5 : Int32) (p3_numbers_7_6 : (Nat → Int32)) (H : Heap) (locs : List Loc) (ls : Array Slot), va_P D vwCl [(a_p3, .inr (0, [.ref a_p3_numbers, .int p3_given])), (a_p3_numbers, .inl (t 0, 9, .inl p3_numbers_7_6)), (a_t, .inr (6, [.ref a_t_keys, .ref a_t_values, .ref a_t_states, .int t_count])), (a_t_keys, .inl (t 0, 120, .inl t_keys_)), (a_t_states, .inl (t 0, 120, .inl t_states_)), (a_t_values, .inl (t 0, 120, .inl t_values_))] H → va_D A [(a_p3, .inr (0, [.ref a_p3_numbers, .int p3_given])), (a_p3_numbers, .inl (t 0, 9, .inl p3_numbers_7_6)), (a_t, .inr (6, [.ref a_t_keys, .ref a_t_values, .ref a_t_states, .int t_count])), (a_t_keys, .inl (t 0, 120, .inl t_keys_)), (a_t_states, .inl (t 0, 120, .inl t_states_)), (a_t_values, .inl (t 0, 120, .inl t_values_))] → va_S A s.heap H locs → lv_has ls 5 [(0, .ref a_t), (1, .int p1), (2, .int p2), (3, .ref a_p3), (4, .int x4_7_5)] → f_X6_tallyLiving_7 t_count t_keys_ t_states_ t_values_ p1 p2 k58_4 n7 x4_7_5 p3_numbers_7_6 = some (p3_numbers_') → W p l e rm_X6_tallyLiving s m args below meth c H locs 0 0 Q (F0 m 7 ls []) := by
    intro n7
    induction n7 with
    | zero =>
      intro x4_7_5 p3_numbers_7_6 H locs ls hP hD hS hl hF
      cases (show none = some (p3_numbers_') from hF)
    | succ n7 ih7 =>
      intro x4_7_5 p3_numbers_7_6 H locs ls hP hD hS hl hF
      rw [f_X6_tallyLiving_7] at hF
      refine lv_iload hx hb dX6_tallyLiving_7 (lv_at hl 4 rfl) ?_
      refine lv_aload_n hx hb dX6_tallyLiving_9 rfl (lv_at hl 0 rfl) ?_
      refine va_get (D := D) (ci := 6) (v := .int t_count) (C := RX6) (T := TX6) (N := 4) hx hb hts iw6 hown hK hP 2 rfl rfl 3 (by decide) hf21 (fun _ h9 => h9) rfl dX6_tallyLiving_10 ?_
      refine lv_icmp_ge (tgt := 58) hx hb dX6_tallyLiving_13 (by decide) (fun c13 => ?_) (fun c13 => ?_)
      · have hF := brT c13 hF
        exact hk58_4 p3_numbers_7_6 H locs ls hP hD hS (lv_sub hl [] rfl) hF
      · have hF := brF c13 hF
        refine lv_aload_n hx hb dX6_tallyLiving_16 rfl (lv_at hl 0 rfl) ?_
        refine lv_iload hx hb dX6_tallyLiving_17 (lv_at hl 4 rfl) ?_
        obtain ⟨r19_7, h19_7, hF⟩ := bndE hF
        refine rdV (As := [.int x4_7_5]) (rest := []) (C := RX6) ⟨hx, hb, hml, hown, hts⟩ (c_X6_lives l D t z x a_t a_t_states (.ref a_t_keys) (.ref a_t_values) t_count t_states_ x4_7_5 H r19_7 h19_7) (cwV 1 hts gX6_tallyLiving_X6_lives rfl rfl rfl hd_X6_lives ⟨Nat.le_of_ble_eq_true rfl, Nat.le_of_ble_eq_true rfl⟩) (hC.at hz hS) (selP (m9 := [false, false, true, false, true, false]) rfl rfl hP) 0 rfl (show vwCl[6]? = some (RX6, TX6, 4) from rfl) rfl rfl hl.1 rfl (Nat.le_of_ble_eq_true rfl) dX6_tallyLiving_19 ⟨Nat.zero_le _, Nat.zero_le _⟩ rfl ?_
        refine lv_if_eq (tgt := 52) hx hb dX6_tallyLiving_22 (by decide) (fun c22 => ?_) (fun c22 => ?_)
        · have hF := brT c22 hF
          obtain ⟨y52_9, ey52_9⟩ : ∃ y : Int32, y = x4_7_5 + 1 := ⟨_, rfl⟩
          have hF := ltE ey52_9 hF
          refine lv_iinc (v := y52_9) (lv' := [(4, .int y52_9), (0, .ref a_t), (1, .int p1), (2, .int p2), (3, .ref a_p3)]) hx hb dX6_tallyLiving_52 hl (k := 4) rfl (by rw [ey52_9]; rfl) (by decide) rfl (fun ls hl => ?_)
          refine lv_goto (tgt := 7) hx hb dX6_tallyLiving_55 (by decide) ?_
          exact ih7 y52_9 p3_numbers_7_6 H locs ls hP hD hS (lv_sub hl [1, 2, 3, 4, 0] rfl) hF
        · have hF := brF c22 hF
          refine lv_aload_n hx hb dX6_tallyLiving_25 rfl (lv_at hl 0 rfl) ?_
          refine lv_iload hx hb dX6_tallyLiving_26 (lv_at hl 4 rfl) ?_
          refine lv_iload_n hx hb dX6_tallyLiving_28 rfl (lv_at hl 1 rfl) ?_
          refine lv_iload_n hx hb dX6_tallyLiving_29 rfl (lv_at hl 2 rfl) ?_
          obtain ⟨r30_10, h30_10, hF⟩ := bndE hF
          refine rdV (As := [.int x4_7_5, .int p1, .int p2]) (rest := []) (C := RX6) ⟨hx, hb, hml, hown, hts⟩ (c_X6_isIn l D t z x a_t a_t_keys (.ref a_t_values) (.ref a_t_states) t_count t_keys_ x4_7_5 p1 p2 H r30_10 h30_10) (cwV 3 hts gX6_tallyLiving_X6_isIn rfl rfl rfl hd_X6_isIn ⟨Nat.le_of_ble_eq_true rfl, Nat.le_of_ble_eq_true rfl⟩) (hC.at hz hS) (selP (m9 := [false, false, true, true, false, false]) rfl rfl hP) 0 rfl (show vwCl[6]? = some (RX6, TX6, 4) from rfl) rfl rfl hl.1 rfl (Nat.le_of_ble_eq_true rfl) dX6_tallyLiving_30 ⟨Nat.zero_le _, Nat.zero_le _⟩ rfl ?_
          refine lv_if_eq (tgt := 52) hx hb dX6_tallyLiving_33 (by decide) (fun c33 => ?_) (fun c33 => ?_)
          · have hF := brT c33 hF
            obtain ⟨y52_12, ey52_12⟩ : ∃ y : Int32, y = x4_7_5 + 1 := ⟨_, rfl⟩
            have hF := ltE ey52_12 hF
            refine lv_iinc (v := y52_12) (lv' := [(4, .int y52_12), (0, .ref a_t), (1, .int p1), (2, .int p2), (3, .ref a_p3)]) hx hb dX6_tallyLiving_52 hl (k := 4) rfl (by rw [ey52_12]; rfl) (by decide) rfl (fun ls hl => ?_)
            refine lv_goto (tgt := 7) hx hb dX6_tallyLiving_55 (by decide) ?_
            exact ih7 y52_12 p3_numbers_7_6 H locs ls hP hD hS (lv_sub hl [1, 2, 3, 4, 0] rfl) hF
          · have hF := brF c33 hF
            refine lv_aload_n hx hb dX6_tallyLiving_36 rfl (lv_at hl 3 rfl) ?_
            refine lv_aload_n hx hb dX6_tallyLiving_37 rfl (lv_at hl 0 rfl) ?_
            refine lv_iload hx hb dX6_tallyLiving_38 (lv_at hl 4 rfl) ?_
            obtain ⟨r40_13, h40_13, hF⟩ := bndE hF
            refine rdV (As := [.int x4_7_5]) (rest := [.ref a_p3]) (C := RX6) ⟨hx, hb, hml, hown, hts⟩ (c_X6_keyOf l D t z x a_t a_t_keys (.ref a_t_values) (.ref a_t_states) t_count t_keys_ x4_7_5 H r40_13 h40_13) (cwV 1 hts gX6_tallyLiving_X6_keyOf rfl rfl rfl hd_X6_keyOf ⟨Nat.le_of_ble_eq_true rfl, Nat.le_of_ble_eq_true rfl⟩) (hC.at hz hS) (selP (m9 := [false, false, true, true, false, false]) rfl rfl hP) 0 rfl (show vwCl[6]? = some (RX6, TX6, 4) from rfl) rfl rfl hl.1 rfl (Nat.le_of_ble_eq_true rfl) dX6_tallyLiving_40 ⟨Nat.zero_le _, Nat.zero_le _⟩ rfl ?_
            refine lv_aload_n hx hb dX6_tallyLiving_43 rfl (lv_at hl 0 rfl) ?_
            refine lv_iload hx hb dX6_tallyLiving_44 (lv_at hl 4 rfl) ?_
            obtain ⟨r46_15, h46_15, hF⟩ := bndE hF
            refine rdV (As := [.int x4_7_5]) (rest := [.int r40_13, .ref a_p3]) (C := RX6) ⟨hx, hb, hml, hown, hts⟩ (c_X6_valueOf l D t z x a_t a_t_values (.ref a_t_keys) (.ref a_t_states) t_count t_values_ x4_7_5 H r46_15 h46_15) (cwV 1 hts gX6_tallyLiving_X6_valueOf rfl rfl rfl hd_X6_valueOf ⟨Nat.le_of_ble_eq_true rfl, Nat.le_of_ble_eq_true rfl⟩) (hC.at hz hS) (selP (m9 := [false, false, true, false, false, true]) rfl rfl hP) 0 rfl (show vwCl[6]? = some (RX6, TX6, 4) from rfl) rfl rfl hl.1 rfl (Nat.le_of_ble_eq_true rfl) dX6_tallyLiving_46 ⟨Nat.zero_le _, Nat.zero_le _⟩ rfl ?_
            obtain ⟨p3_numbers_49_17, h49_17, hF⟩ := bndE hF
            refine wrVM (As := [.int r40_13, .int r46_15]) (rest := []) (C := RX0) (wn := [(a_p3, .inr (0, [.ref a_p3_numbers, .int p3_given])), (a_p3_numbers, .inl (t 0, 9, .inl p3_numbers_49_17)), (a_t, .inr (6, [.ref a_t_keys, .ref a_t_values, .ref a_t_states, .int t_count])), (a_t_keys, .inl (t 0, 120, .inl t_keys_)), (a_t_states, .inl (t 0, 120, .inl t_states_)), (a_t_values, .inl (t 0, 120, .inl t_values_))]) ⟨hx, hb, hml, hown, hts⟩ (c_X0_take l D t z x a_p3 a_p3_numbers p3_given p3_numbers_7_6 r40_13 r46_15 H.size p3_numbers_49_17 h49_17) (cwV 2 hts gX6_tallyLiving_X0_take rfl rfl rfl hd_X0_take ⟨Nat.le_of_ble_eq_true rfl, Nat.le_of_ble_eq_true rfl⟩) (hC.at hz hS) hP hD hS hA hz [true, true, false, false, false, false] rfl rfl rfl rfl 0 rfl (show vwCl[0]? = some (RX0, TX0, 2) from rfl) rfl rfl hl.1 rfl (Nat.le_of_ble_eq_true rfl) dX6_tallyLiving_49 ⟨Nat.zero_le _, Nat.zero_le _⟩ rfl (fun H locs hP hD hS => ?_)
            obtain ⟨y52_19, ey52_19⟩ : ∃ y : Int32, y = x4_7_5 + 1 := ⟨_, rfl⟩
            have hF := ltE ey52_19 hF
            refine lv_iinc (v := y52_19) (lv' := [(4, .int y52_19), (0, .ref a_t), (1, .int p1), (2, .int p2), (3, .ref a_p3)]) hx hb dX6_tallyLiving_52 hl (k := 4) rfl (by rw [ey52_19]; rfl) (by decide) rfl (fun ls hl => ?_)
            refine lv_goto (tgt := 7) hx hb dX6_tallyLiving_55 (by decide) ?_
            exact ih7 y52_19 p3_numbers_49_17 H locs ls hP hD hS (lv_sub hl [1, 2, 3, 4, 0] rfl) hF
  exact hlp7 N 0 p3_numbers_1_1 H locs ls hP hD hS (lv_sub hl [1, 2, 3, 4, 0] rfl) hF
abbrev rm_X0_become : Room := { frames := 2, cells := 0, slots := 0, locals := 61 }
theorem hd_X0_become : yX0_become.cls = RX0 ∧ yX0_become.cls ≠ "java/lang/invoke/MethodHandle" ∧ yX0_become.cls ≠ "java/lang/invoke/VarHandle" ∧ (parseMethodDescriptor yX0_become.desc).map (fun d => d.parameters.length) = some 1 := by decide +kernel
set_option maxRecDepth 100000 in
set_option maxHeartbeats 4000000 in
theorem c_X0_become (l : Launch) (D : va_G) (t : Nat → ClassId) (z : Nat) (x : Nat → Nat) (a_p1 : Nat) (a_p1_numbers : Nat) (a_t : Nat) (a_t_numbers : Nat) (p1_given : Int32) (p1_numbers_ : (Nat → Int32)) (t_given : Int32) (t_numbers_ : (Nat → Int32)) (sz : Nat) (t_given' : Int32) (t_numbers_' : (Nat → Int32)) (hF : f_X0_become p1_given p1_numbers_ t_numbers_ = some (t_given', t_numbers_')) : WrM l D (TY t) z x yX0_become wsX0_become rm_X0_become [.ref a_t, .ref a_p1] [(a_p1, .inr (0, [.ref a_p1_numbers, .int p1_given])), (a_p1_numbers, .inl (t 0, 9, .inl p1_numbers_)), (a_t, .inr (0, [.ref a_t_numbers, .int t_given])), (a_t_numbers, .inl (t 0, 9, .inl t_numbers_))] [(a_p1, .inr (0, [.ref a_p1_numbers, .int p1_given])), (a_p1_numbers, .inl (t 0, 9, .inl p1_numbers_)), (a_t, .inr (0, [.ref a_t_numbers, .int t_given'])), (a_t_numbers, .inl (t 0, 9, .inl t_numbers_'))] sz none 0 0 := by
  refine wr_of (cc := cX0_become) (maxL := 2) (ret := none) (by decide) rfl (Nat.le_of_ble_eq_true rfl) ?_
  intro p e s m args below meth c A Q hQ hx hb hr hml hts hown hlocks hin H locs hP hD hS hA hz hC ls hl
  have hown : s.vm.findClass RX0 = some m.cls := hown
  have hl : lv_has ls 2 [(0, .ref a_t), (1, .ref a_p1)] := hl
  have hK := hC.1
  have iw0 : ∀ w ∈ wsX00, w ∈ wsX0_become := fun _ h => List.mem_cons_of_mem _ (List.mem_append_right _ h)
  have hf9 := hts (.fieldLink RX0 9 "CrackedColumn$Answer" "numbers" "[I") (by decide +kernel)
  have hf15 := hts (.fieldLink RX0 15 "CrackedColumn$Answer" "given" "Z") (by decide +kernel)
  have hini_X7 := hts (.initialized RX7) (by decide +kernel)
  unfold f_X0_become at hF
  refine lv_aload_n hx hb dX0_become_0 rfl (lv_at hl 1 rfl) ?_
  refine va_get (D := D) (ci := 0) (v := .ref a_p1_numbers) (C := RX0) (T := TX0) (N := 2) hx hb hts iw0 hown hK hP 0 rfl rfl 0 (by decide) hf9 (fun _ h9 => h9) rfl dX0_become_1 ?_
  refine lv_aload_n hx hb dX0_become_4 rfl (lv_at hl 0 rfl) ?_
  refine va_get (D := D) (ci := 0) (v := .ref a_t_numbers) (C := RX0) (T := TX0) (N := 2) hx hb hts iw0 hown hK hP 2 rfl rfl 0 (by decide) hf9 (fun _ h9 => h9) rfl dX0_become_5 ?_
  obtain ⟨t_numbers_8_1, h8_1, hF⟩ := bndE hF
  refine wrSNM (As := [.ref a_p1_numbers, .ref a_t_numbers]) (rest := []) (wn := [(a_p1, .inr (0, [.ref a_p1_numbers, .int p1_given])), (a_p1_numbers, .inl (t 0, 9, .inl p1_numbers_)), (a_t, .inr (0, [.ref a_t_numbers, .int t_given])), (a_t_numbers, .inl (t 0, 9, .inl t_numbers_8_1))]) ⟨hx, hb, hml, hown, hts⟩ (c_X7_copyAll l D t z x a_p1_numbers a_t_numbers 9 9 p1_numbers_ t_numbers_ H.size t_numbers_8_1 h8_1) ⟨va_cnB 2 hts gX0_become_X7_copyAll_n19 rfl rfl rfl (nw_0 hC.2.1) hini_X7 hd_X7_copyAll.2 ⟨Nat.le_of_ble_eq_true rfl, Nat.le_of_ble_eq_true rfl⟩, hts (.static yX7_copyAll) (by decide +kernel), trivial⟩ (hC.at hz hS) hP hD hS hA hz [false, true, false, true] rfl rfl rfl rfl rfl hl.1 rfl (Nat.le_of_ble_eq_true rfl) dX0_become_8 ⟨Nat.zero_le _, Nat.zero_le _⟩ rfl (fun H locs hP hD hS => ?_)
  refine lv_aload_n hx hb dX0_become_11 rfl (lv_at hl 0 rfl) ?_
  refine lv_aload_n hx hb dX0_become_12 rfl (lv_at hl 1 rfl) ?_
  refine va_get (D := D) (ci := 0) (v := .int p1_given) (C := RX0) (T := TX0) (N := 2) hx hb hts iw0 hown hK hP 0 rfl rfl 1 (by decide) hf15 (fun _ h9 => h9) rfl dX0_become_13 ?_
  obtain ⟨g16_2, hF⟩ := gp hF
  refine my_put (ty := .boolean) (v := .int p1_given) (ci := 0) (C := RX0) (T := TX0) (N := 2) (wn := [(a_p1, .inr (0, [.ref a_p1_numbers, .int p1_given])), (a_p1_numbers, .inl (t 0, 9, .inl p1_numbers_)), (a_t, .inr (0, [.ref a_t_numbers, .int p1_given])), (a_t_numbers, .inl (t 0, 9, .inl t_numbers_8_1))]) hx hb hts iw0 tyX0 tyX0_ok nmX0 hown hK hP hD hS 2 rfl rfl 1 (by decide) hf15 (fun _ h9 => h9) rfl (by decide +kernel) (boolN g16_2) (boolF g16_2) (Nat.le_of_ble_eq_true rfl) rfl dX0_become_16 (fun H locs hP hD hS => ?_)
  cases hF
  exact we_vret hx hb hr hlocks dX0_become_19 rfl hQ hP hD hS
abbrev rm_X4_become : Room := { frames := 2, cells := 0, slots := 0, locals := 61 }
theorem hd_X4_become : yX4_become.cls = RX4 ∧ yX4_become.cls ≠ "java/lang/invoke/MethodHandle" ∧ yX4_become.cls ≠ "java/lang/invoke/VarHandle" ∧ (parseMethodDescriptor yX4_become.desc).map (fun d => d.parameters.length) = some 1 := by decide +kernel
set_option maxRecDepth 100000 in
set_option maxHeartbeats 4000000 in
theorem c_X4_become (l : Launch) (D : va_G) (t : Nat → ClassId) (z : Nat) (x : Nat → Nat) (a_p1 : Nat) (a_p1_numbers : Nat) (a_t : Nat) (a_t_numbers : Nat) (p1_count : Int32) (p1_numbers_ : (Nat → Int32)) (t_count : Int32) (t_numbers_ : (Nat → Int32)) (sz : Nat) (t_count' : Int32) (t_numbers_' : (Nat → Int32)) (hF : f_X4_become p1_count p1_numbers_ t_numbers_ = some (t_count', t_numbers_')) : WrM l D (TY t) z x yX4_become wsX4_become rm_X4_become [.ref a_t, .ref a_p1] [(a_p1, .inr (4, [.ref a_p1_numbers, .int p1_count])), (a_p1_numbers, .inl (t 0, 80, .inl p1_numbers_)), (a_t, .inr (4, [.ref a_t_numbers, .int t_count])), (a_t_numbers, .inl (t 0, 80, .inl t_numbers_))] [(a_p1, .inr (4, [.ref a_p1_numbers, .int p1_count])), (a_p1_numbers, .inl (t 0, 80, .inl p1_numbers_)), (a_t, .inr (4, [.ref a_t_numbers, .int t_count'])), (a_t_numbers, .inl (t 0, 80, .inl t_numbers_'))] sz none 0 0 := by
  refine wr_of (cc := cX4_become) (maxL := 2) (ret := none) (by decide) rfl (Nat.le_of_ble_eq_true rfl) ?_
  intro p e s m args below meth c A Q hQ hx hb hr hml hts hown hlocks hin H locs hP hD hS hA hz hC ls hl
  have hown : s.vm.findClass RX4 = some m.cls := hown
  have hl : lv_has ls 2 [(0, .ref a_t), (1, .ref a_p1)] := hl
  have hK := hC.1
  have iw4 : ∀ w ∈ wsX40, w ∈ wsX4_become := fun _ h => List.mem_cons_of_mem _ (List.mem_append_right _ h)
  have hf9 := hts (.fieldLink RX4 9 "CrackedColumn$Kept" "numbers" "[I") (by decide +kernel)
  have hf15 := hts (.fieldLink RX4 15 "CrackedColumn$Kept" "count" "I") (by decide +kernel)
  have hini_X7 := hts (.initialized RX7) (by decide +kernel)
  unfold f_X4_become at hF
  refine lv_aload_n hx hb dX4_become_0 rfl (lv_at hl 1 rfl) ?_
  refine va_get (D := D) (ci := 4) (v := .ref a_p1_numbers) (C := RX4) (T := TX4) (N := 2) hx hb hts iw4 hown hK hP 0 rfl rfl 0 (by decide) hf9 (fun _ h9 => h9) rfl dX4_become_1 ?_
  refine lv_aload_n hx hb dX4_become_4 rfl (lv_at hl 0 rfl) ?_
  refine va_get (D := D) (ci := 4) (v := .ref a_t_numbers) (C := RX4) (T := TX4) (N := 2) hx hb hts iw4 hown hK hP 2 rfl rfl 0 (by decide) hf9 (fun _ h9 => h9) rfl dX4_become_5 ?_
  obtain ⟨t_numbers_8_1, h8_1, hF⟩ := bndE hF
  refine wrSNM (As := [.ref a_p1_numbers, .ref a_t_numbers]) (rest := []) (wn := [(a_p1, .inr (4, [.ref a_p1_numbers, .int p1_count])), (a_p1_numbers, .inl (t 0, 80, .inl p1_numbers_)), (a_t, .inr (4, [.ref a_t_numbers, .int t_count])), (a_t_numbers, .inl (t 0, 80, .inl t_numbers_8_1))]) ⟨hx, hb, hml, hown, hts⟩ (c_X7_copyAll l D t z x a_p1_numbers a_t_numbers 80 80 p1_numbers_ t_numbers_ H.size t_numbers_8_1 h8_1) ⟨va_cnB 2 hts gX4_become_X7_copyAll_n19 rfl rfl rfl (nw_10 hC.2.1) hini_X7 hd_X7_copyAll.2 ⟨Nat.le_of_ble_eq_true rfl, Nat.le_of_ble_eq_true rfl⟩, hts (.static yX7_copyAll) (by decide +kernel), trivial⟩ (hC.at hz hS) hP hD hS hA hz [false, true, false, true] rfl rfl rfl rfl rfl hl.1 rfl (Nat.le_of_ble_eq_true rfl) dX4_become_8 ⟨Nat.zero_le _, Nat.zero_le _⟩ rfl (fun H locs hP hD hS => ?_)
  refine lv_aload_n hx hb dX4_become_11 rfl (lv_at hl 0 rfl) ?_
  refine lv_aload_n hx hb dX4_become_12 rfl (lv_at hl 1 rfl) ?_
  refine va_get (D := D) (ci := 4) (v := .int p1_count) (C := RX4) (T := TX4) (N := 2) hx hb hts iw4 hown hK hP 0 rfl rfl 1 (by decide) hf15 (fun _ h9 => h9) rfl dX4_become_13 ?_
  refine my_put (ty := .int) (v := .int p1_count) (ci := 4) (C := RX4) (T := TX4) (N := 2) (wn := [(a_p1, .inr (4, [.ref a_p1_numbers, .int p1_count])), (a_p1_numbers, .inl (t 0, 80, .inl p1_numbers_)), (a_t, .inr (4, [.ref a_t_numbers, .int p1_count])), (a_t_numbers, .inl (t 0, 80, .inl t_numbers_8_1))]) hx hb hts iw4 tyX4 tyX4_ok nmX4 hown hK hP hD hS 2 rfl rfl 1 (by decide) hf15 (fun _ h9 => h9) rfl (by decide +kernel) rfl rfl (Nat.le_of_ble_eq_true rfl) rfl dX4_become_16 (fun H locs hP hD hS => ?_)
  cases hF
  exact we_vret hx hb hr hlocks dX4_become_19 rfl hQ hP hD hS
abbrev rm_X6_become : Room := { frames := 2, cells := 0, slots := 0, locals := 61 }
theorem hd_X6_become : yX6_become.cls = RX6 ∧ yX6_become.cls ≠ "java/lang/invoke/MethodHandle" ∧ yX6_become.cls ≠ "java/lang/invoke/VarHandle" ∧ (parseMethodDescriptor yX6_become.desc).map (fun d => d.parameters.length) = some 1 := by decide +kernel
set_option maxRecDepth 100000 in
set_option maxHeartbeats 4000000 in
theorem c_X6_become (l : Launch) (D : va_G) (t : Nat → ClassId) (z : Nat) (x : Nat → Nat) (a_p1 : Nat) (a_p1_keys : Nat) (a_p1_states : Nat) (a_p1_values : Nat) (a_t : Nat) (a_t_keys : Nat) (a_t_states : Nat) (a_t_values : Nat) (p1_count : Int32) (p1_keys_ : (Nat → Int32)) (p1_states_ : (Nat → Int32)) (p1_values_ : (Nat → Int32)) (t_count : Int32) (t_keys_ : (Nat → Int32)) (t_states_ : (Nat → Int32)) (t_values_ : (Nat → Int32)) (sz : Nat) (t_count' : Int32) (t_keys_' : (Nat → Int32)) (t_states_' : (Nat → Int32)) (t_values_' : (Nat → Int32)) (hF : f_X6_become p1_count p1_keys_ p1_states_ p1_values_ t_keys_ t_states_ t_values_ = some (t_count', t_keys_', t_states_', t_values_')) : WrM l D (TY t) z x yX6_become wsX6_become rm_X6_become [.ref a_t, .ref a_p1] [(a_p1, .inr (6, [.ref a_p1_keys, .ref a_p1_values, .ref a_p1_states, .int p1_count])), (a_p1_keys, .inl (t 0, 120, .inl p1_keys_)), (a_p1_states, .inl (t 0, 120, .inl p1_states_)), (a_p1_values, .inl (t 0, 120, .inl p1_values_)), (a_t, .inr (6, [.ref a_t_keys, .ref a_t_values, .ref a_t_states, .int t_count])), (a_t_keys, .inl (t 0, 120, .inl t_keys_)), (a_t_states, .inl (t 0, 120, .inl t_states_)), (a_t_values, .inl (t 0, 120, .inl t_values_))] [(a_p1, .inr (6, [.ref a_p1_keys, .ref a_p1_values, .ref a_p1_states, .int p1_count])), (a_p1_keys, .inl (t 0, 120, .inl p1_keys_)), (a_p1_states, .inl (t 0, 120, .inl p1_states_)), (a_p1_values, .inl (t 0, 120, .inl p1_values_)), (a_t, .inr (6, [.ref a_t_keys, .ref a_t_values, .ref a_t_states, .int t_count'])), (a_t_keys, .inl (t 0, 120, .inl t_keys_')), (a_t_states, .inl (t 0, 120, .inl t_states_')), (a_t_values, .inl (t 0, 120, .inl t_values_'))] sz none 0 0 := by
  obtain ⟨T9, hT⟩ : ∃ T9, T9 = (t_count', t_keys_', t_states_', t_values_') := ⟨_, rfl⟩
  rw [← hT] at hF
  obtain rfl : t_count' = T9.1 := by rw [hT]
  obtain rfl : t_keys_' = T9.2.1 := by rw [hT]
  obtain rfl : t_states_' = T9.2.2.1 := by rw [hT]
  obtain rfl : t_values_' = T9.2.2.2 := by rw [hT]
  clear hT
  refine wr_of (cc := cX6_become) (maxL := 2) (ret := none) (by decide) rfl (Nat.le_of_ble_eq_true rfl) ?_
  intro p e s m args below meth c A Q hQ hx hb hr hml hts hown hlocks hin H locs hP hD hS hA hz hC ls hl
  have hown : s.vm.findClass RX6 = some m.cls := hown
  have hl : lv_has ls 2 [(0, .ref a_t), (1, .ref a_p1)] := hl
  have hK := hC.1
  have iw6 : ∀ w ∈ wsX60, w ∈ wsX6_become := fun _ h => List.mem_cons_of_mem _ (List.mem_append_right _ h)
  have hf9 := hts (.fieldLink RX6 9 "CrackedColumn$Rows" "keys" "[I") (by decide +kernel)
  have hf15 := hts (.fieldLink RX6 15 "CrackedColumn$Rows" "values" "[I") (by decide +kernel)
  have hf18 := hts (.fieldLink RX6 18 "CrackedColumn$Rows" "states" "[I") (by decide +kernel)
  have hf21 := hts (.fieldLink RX6 21 "CrackedColumn$Rows" "count" "I") (by decide +kernel)
  have hini_X7 := hts (.initialized RX7) (by decide +kernel)
  unfold f_X6_become at hF
  refine lv_aload_n hx hb dX6_become_0 rfl (lv_at hl 1 rfl) ?_
  refine va_get (D := D) (ci := 6) (v := .ref a_p1_keys) (C := RX6) (T := TX6) (N := 4) hx hb hts iw6 hown hK hP 0 rfl rfl 0 (by decide) hf9 (fun _ h9 => h9) rfl dX6_become_1 ?_
  refine lv_aload_n hx hb dX6_become_4 rfl (lv_at hl 0 rfl) ?_
  refine va_get (D := D) (ci := 6) (v := .ref a_t_keys) (C := RX6) (T := TX6) (N := 4) hx hb hts iw6 hown hK hP 4 rfl rfl 0 (by decide) hf9 (fun _ h9 => h9) rfl dX6_become_5 ?_
  obtain ⟨t_keys_8_1, h8_1, hF⟩ := bndE hF
  refine wrSNM (As := [.ref a_p1_keys, .ref a_t_keys]) (rest := []) (wn := [(a_p1, .inr (6, [.ref a_p1_keys, .ref a_p1_values, .ref a_p1_states, .int p1_count])), (a_p1_keys, .inl (t 0, 120, .inl p1_keys_)), (a_p1_states, .inl (t 0, 120, .inl p1_states_)), (a_p1_values, .inl (t 0, 120, .inl p1_values_)), (a_t, .inr (6, [.ref a_t_keys, .ref a_t_values, .ref a_t_states, .int t_count])), (a_t_keys, .inl (t 0, 120, .inl t_keys_8_1)), (a_t_states, .inl (t 0, 120, .inl t_states_)), (a_t_values, .inl (t 0, 120, .inl t_values_))]) ⟨hx, hb, hml, hown, hts⟩ (c_X7_copyAll l D t z x a_p1_keys a_t_keys 120 120 p1_keys_ t_keys_ H.size t_keys_8_1 h8_1) ⟨va_cnB 2 hts gX6_become_X7_copyAll_n25 rfl rfl rfl (nw_13 hC.2.1) hini_X7 hd_X7_copyAll.2 ⟨Nat.le_of_ble_eq_true rfl, Nat.le_of_ble_eq_true rfl⟩, hts (.static yX7_copyAll) (by decide +kernel), trivial⟩ (hC.at hz hS) hP hD hS hA hz [false, true, false, false, false, true, false, false] rfl rfl rfl rfl rfl hl.1 rfl (Nat.le_of_ble_eq_true rfl) dX6_become_8 ⟨Nat.zero_le _, Nat.zero_le _⟩ rfl (fun H locs hP hD hS => ?_)
  refine lv_aload_n hx hb dX6_become_11 rfl (lv_at hl 1 rfl) ?_
  refine va_get (D := D) (ci := 6) (v := .ref a_p1_values) (C := RX6) (T := TX6) (N := 4) hx hb hts iw6 hown hK hP 0 rfl rfl 1 (by decide) hf15 (fun _ h9 => h9) rfl dX6_become_12 ?_
  refine lv_aload_n hx hb dX6_become_15 rfl (lv_at hl 0 rfl) ?_
  refine va_get (D := D) (ci := 6) (v := .ref a_t_values) (C := RX6) (T := TX6) (N := 4) hx hb hts iw6 hown hK hP 4 rfl rfl 1 (by decide) hf15 (fun _ h9 => h9) rfl dX6_become_16 ?_
  obtain ⟨t_values_19_3, h19_3, hF⟩ := bndE hF
  refine wrSNM (As := [.ref a_p1_values, .ref a_t_values]) (rest := []) (wn := [(a_p1, .inr (6, [.ref a_p1_keys, .ref a_p1_values, .ref a_p1_states, .int p1_count])), (a_p1_keys, .inl (t 0, 120, .inl p1_keys_)), (a_p1_states, .inl (t 0, 120, .inl p1_states_)), (a_p1_values, .inl (t 0, 120, .inl p1_values_)), (a_t, .inr (6, [.ref a_t_keys, .ref a_t_values, .ref a_t_states, .int t_count])), (a_t_keys, .inl (t 0, 120, .inl t_keys_8_1)), (a_t_states, .inl (t 0, 120, .inl t_states_)), (a_t_values, .inl (t 0, 120, .inl t_values_19_3))]) ⟨hx, hb, hml, hown, hts⟩ (c_X7_copyAll l D t z x a_p1_values a_t_values 120 120 p1_values_ t_values_ H.size t_values_19_3 h19_3) ⟨va_cnB 2 hts gX6_become_X7_copyAll_n25 rfl rfl rfl (nw_13 hC.2.1) hini_X7 hd_X7_copyAll.2 ⟨Nat.le_of_ble_eq_true rfl, Nat.le_of_ble_eq_true rfl⟩, hts (.static yX7_copyAll) (by decide +kernel), trivial⟩ (hC.at hz hS) hP hD hS hA hz [false, false, false, true, false, false, false, true] rfl rfl rfl rfl rfl hl.1 rfl (Nat.le_of_ble_eq_true rfl) dX6_become_19 ⟨Nat.zero_le _, Nat.zero_le _⟩ rfl (fun H locs hP hD hS => ?_)
  refine lv_aload_n hx hb dX6_become_22 rfl (lv_at hl 1 rfl) ?_
  refine va_get (D := D) (ci := 6) (v := .ref a_p1_states) (C := RX6) (T := TX6) (N := 4) hx hb hts iw6 hown hK hP 0 rfl rfl 2 (by decide) hf18 (fun _ h9 => h9) rfl dX6_become_23 ?_
  refine lv_aload_n hx hb dX6_become_26 rfl (lv_at hl 0 rfl) ?_
  refine va_get (D := D) (ci := 6) (v := .ref a_t_states) (C := RX6) (T := TX6) (N := 4) hx hb hts iw6 hown hK hP 4 rfl rfl 2 (by decide) hf18 (fun _ h9 => h9) rfl dX6_become_27 ?_
  obtain ⟨t_states_30_5, h30_5, hF⟩ := bndE hF
  refine wrSNM (As := [.ref a_p1_states, .ref a_t_states]) (rest := []) (wn := [(a_p1, .inr (6, [.ref a_p1_keys, .ref a_p1_values, .ref a_p1_states, .int p1_count])), (a_p1_keys, .inl (t 0, 120, .inl p1_keys_)), (a_p1_states, .inl (t 0, 120, .inl p1_states_)), (a_p1_values, .inl (t 0, 120, .inl p1_values_)), (a_t, .inr (6, [.ref a_t_keys, .ref a_t_values, .ref a_t_states, .int t_count])), (a_t_keys, .inl (t 0, 120, .inl t_keys_8_1)), (a_t_states, .inl (t 0, 120, .inl t_states_30_5)), (a_t_values, .inl (t 0, 120, .inl t_values_19_3))]) ⟨hx, hb, hml, hown, hts⟩ (c_X7_copyAll l D t z x a_p1_states a_t_states 120 120 p1_states_ t_states_ H.size t_states_30_5 h30_5) ⟨va_cnB 2 hts gX6_become_X7_copyAll_n25 rfl rfl rfl (nw_13 hC.2.1) hini_X7 hd_X7_copyAll.2 ⟨Nat.le_of_ble_eq_true rfl, Nat.le_of_ble_eq_true rfl⟩, hts (.static yX7_copyAll) (by decide +kernel), trivial⟩ (hC.at hz hS) hP hD hS hA hz [false, false, true, false, false, false, true, false] rfl rfl rfl rfl rfl hl.1 rfl (Nat.le_of_ble_eq_true rfl) dX6_become_30 ⟨Nat.zero_le _, Nat.zero_le _⟩ rfl (fun H locs hP hD hS => ?_)
  refine lv_aload_n hx hb dX6_become_33 rfl (lv_at hl 0 rfl) ?_
  refine lv_aload_n hx hb dX6_become_34 rfl (lv_at hl 1 rfl) ?_
  refine va_get (D := D) (ci := 6) (v := .int p1_count) (C := RX6) (T := TX6) (N := 4) hx hb hts iw6 hown hK hP 0 rfl rfl 3 (by decide) hf21 (fun _ h9 => h9) rfl dX6_become_35 ?_
  refine my_put (ty := .int) (v := .int p1_count) (ci := 6) (C := RX6) (T := TX6) (N := 4) (wn := [(a_p1, .inr (6, [.ref a_p1_keys, .ref a_p1_values, .ref a_p1_states, .int p1_count])), (a_p1_keys, .inl (t 0, 120, .inl p1_keys_)), (a_p1_states, .inl (t 0, 120, .inl p1_states_)), (a_p1_values, .inl (t 0, 120, .inl p1_values_)), (a_t, .inr (6, [.ref a_t_keys, .ref a_t_values, .ref a_t_states, .int p1_count])), (a_t_keys, .inl (t 0, 120, .inl t_keys_8_1)), (a_t_states, .inl (t 0, 120, .inl t_states_30_5)), (a_t_values, .inl (t 0, 120, .inl t_values_19_3))]) hx hb hts iw6 tyX6 tyX6_ok nmX6 hown hK hP hD hS 4 rfl rfl 3 (by decide) hf21 (fun _ h9 => h9) rfl (by decide +kernel) rfl rfl (Nat.le_of_ble_eq_true rfl) rfl dX6_become_38 (fun H locs hP hD hS => ?_)
  cases hF
  exact we_vret hx hb hr hlocks dX6_become_41 rfl hQ hP hD hS
abbrev rm_X6_livingAt : Room := { frames := 3, cells := 0, slots := 0, locals := 68 }
theorem hd_X6_livingAt : yX6_livingAt.cls = RX6 ∧ yX6_livingAt.cls ≠ "java/lang/invoke/MethodHandle" ∧ yX6_livingAt.cls ≠ "java/lang/invoke/VarHandle" ∧ (parseMethodDescriptor yX6_livingAt.desc).map (fun d => d.parameters.length) = some 1 := by decide +kernel
set_option maxRecDepth 100000 in
set_option maxHeartbeats 4000000 in
theorem c_X6_livingAt (l : Launch) (D : va_G) (t : Nat → ClassId) (z : Nat) (x : Nat → Nat) (N : Nat) (a_t : Nat) (a_t_keys : Nat) (a_t_states : Nat) (v_t_values : Value) (t_count : Int32) (t_keys_ : (Nat → Int32)) (t_states_ : (Nat → Int32)) (p1 : Int32) (H : Heap) (r : Int32) (hF : f_X6_livingAt N t_count t_keys_ t_states_ p1 = some (r)) : RdM l D (TY t) z x yX6_livingAt wsX6_livingAt rm_X6_livingAt [.ref a_t, .int p1] [(a_t, .inr (6, [.ref a_t_keys, v_t_values, .ref a_t_states, .int t_count])), (a_t_keys, .inl (t 0, 120, .inl t_keys_)), (a_t_states, .inl (t 0, 120, .inl t_states_))] H (some (.int r)) := by
  refine rd_of (cc := cX6_livingAt) (maxL := 3) (ret := (some .int)) (by decide) rfl (Nat.le_of_ble_eq_true rfl) ?_
  intro p e s m args below meth c Q hQ hx hb hr hml hts hown hlocks hH hP hC ls hl
  have hown : s.vm.findClass RX6 = some m.cls := hown
  have hl : lv_has ls 3 [(0, .ref a_t), (1, .int p1)] := hl
  have hK := hC.1
  have iw6 : ∀ w ∈ wsX60, w ∈ wsX6_livingAt := fun _ h => List.mem_cons_of_mem _ (List.mem_append_right _ h)
  have hf21 := hts (.fieldLink RX6 21 "CrackedColumn$Rows" "count" "I") (by decide +kernel)
  unfold f_X6_livingAt at hF
  refine lv_iconst (v := 0) hx hb dX6_livingAt_0 (by decide) ?_
  refine lv_istore_n (lv' := [(2, .int 0), (0, .ref a_t), (1, .int p1)]) hx hb dX6_livingAt_1 rfl hl (by decide) rfl (fun ls hl => ?_)
  obtain ⟨k35_1, ek35_1, hF⟩ := jnE hF
  have hk35_1 : ∀ (ls : Array Slot), lv_has ls 3 [] → k35_1 = some (r) → W p l e rm_X6_livingAt s m args below meth c H [] 0 0 Q (F0 m 35 ls []) := by
    subst ek35_1
    intro ls hl hF
    refine lv_iconst (v := (-1)) hx hb dX6_livingAt_35 (by decide) ?_
    cases hF
    exact rd_iret hx hb hr hlocks dX6_livingAt_36 rfl hQ
  obtain ⟨k27_3, ek27_3, hF⟩ := jnE hF
  have hk27_3 : ∀ (x2_27_2 : Int32) (ls : Array Slot), lv_has ls 3 [(2, .int x2_27_2)] → k27_3 x2_27_2 = some (r) → W p l e rm_X6_livingAt s m args below meth c H [] 0 0 Q (F0 m 27 ls []) := by
    subst ek27_3
    intro x2_27_2 ls hl hF
    refine lv_iload_n hx hb dX6_livingAt_27 rfl (lv_at hl 0 rfl) ?_
    cases hF
    exact rd_iret hx hb hr hlocks dX6_livingAt_28 rfl hQ
  have hlp2 : ∀ n2 : Nat, ∀ (x2_2_4 : Int32) (ls : Array Slot), lv_has ls 3 [(0, .ref a_t), (1, .int p1), (2, .int x2_2_4)] → f_X6_livingAt_2 N t_count t_keys_ t_states_ p1 k35_1 k27_3 n2 x2_2_4 = some (r) → W p l e rm_X6_livingAt s m args below meth c H [] 0 0 Q (F0 m 2 ls []) := by
    intro n2
    induction n2 with
    | zero =>
      intro x2_2_4 ls hl hF
      cases (show none = some (r) from hF)
    | succ n2 ih2 =>
      intro x2_2_4 ls hl hF
      rw [f_X6_livingAt_2] at hF
      refine lv_iload_n hx hb dX6_livingAt_2 rfl (lv_at hl 2 rfl) ?_
      refine lv_aload_n hx hb dX6_livingAt_3 rfl (lv_at hl 0 rfl) ?_
      refine va_get (D := D) (ci := 6) (v := .int t_count) (C := RX6) (T := TX6) (N := 4) hx hb hts iw6 hown hK hP 0 rfl rfl 3 (by decide) hf21 (fun _ h9 => h9) rfl dX6_livingAt_4 ?_
      refine lv_icmp_ge (tgt := 35) hx hb dX6_livingAt_7 (by decide) (fun c7 => ?_) (fun c7 => ?_)
      · have hF := brT c7 hF
        exact hk35_1 ls (lv_sub hl [] rfl) hF
      · have hF := brF c7 hF
        refine lv_aload_n hx hb dX6_livingAt_10 rfl (lv_at hl 0 rfl) ?_
        refine lv_iload_n hx hb dX6_livingAt_11 rfl (lv_at hl 2 rfl) ?_
        obtain ⟨r12_5, h12_5, hF⟩ := bndE hF
        refine rdV (As := [.int x2_2_4]) (rest := []) (C := RX6) ⟨hx, hb, hml, hown, hts⟩ (c_X6_lives l D t z x a_t a_t_states (.ref a_t_keys) v_t_values t_count t_states_ x2_2_4 H r12_5 h12_5) (cwV 1 hts gX6_livingAt_X6_lives rfl rfl rfl hd_X6_lives ⟨Nat.le_of_ble_eq_true rfl, Nat.le_of_ble_eq_true rfl⟩) hC (selP (m9 := [true, false, true]) rfl rfl hP) 0 rfl (show vwCl[6]? = some (RX6, TX6, 4) from rfl) rfl rfl hl.1 rfl (Nat.le_of_ble_eq_true rfl) dX6_livingAt_12 ⟨Nat.zero_le _, Nat.zero_le _⟩ rfl ?_
        refine lv_if_eq (tgt := 29) hx hb dX6_livingAt_15 (by decide) (fun c15 => ?_) (fun c15 => ?_)
        · have hF := brT c15 hF
          obtain ⟨y29_7, ey29_7⟩ : ∃ y : Int32, y = x2_2_4 + 1 := ⟨_, rfl⟩
          have hF := ltE ey29_7 hF
          refine lv_iinc (v := y29_7) (lv' := [(2, .int y29_7), (0, .ref a_t), (1, .int p1)]) hx hb dX6_livingAt_29 hl (k := 2) rfl (by rw [ey29_7]; rfl) (by decide) rfl (fun ls hl => ?_)
          refine lv_goto (tgt := 2) hx hb dX6_livingAt_32 (by decide) ?_
          exact ih2 y29_7 ls (lv_sub hl [1, 2, 0] rfl) hF
        · have hF := brF c15 hF
          refine lv_aload_n hx hb dX6_livingAt_18 rfl (lv_at hl 0 rfl) ?_
          refine lv_iload_n hx hb dX6_livingAt_19 rfl (lv_at hl 2 rfl) ?_
          obtain ⟨r20_8, h20_8, hF⟩ := bndE hF
          refine rdV (As := [.int x2_2_4]) (rest := []) (C := RX6) ⟨hx, hb, hml, hown, hts⟩ (c_X6_livingAhead l D t z x N a_t a_t_keys a_t_states v_t_values t_count t_keys_ t_states_ x2_2_4 H r20_8 h20_8) (cwV 1 hts gX6_livingAt_X6_livingAhead rfl rfl rfl hd_X6_livingAhead ⟨Nat.le_of_ble_eq_true rfl, Nat.le_of_ble_eq_true rfl⟩) hC (selP (m9 := [true, true, true]) rfl rfl hP) 0 rfl (show vwCl[6]? = some (RX6, TX6, 4) from rfl) rfl rfl hl.1 rfl (Nat.le_of_ble_eq_true rfl) dX6_livingAt_20 ⟨Nat.zero_le _, Nat.zero_le _⟩ rfl ?_
          refine lv_iload_n hx hb dX6_livingAt_23 rfl (lv_at hl 1 rfl) ?_
          refine lv_icmp_ne (tgt := 29) hx hb dX6_livingAt_24 (by decide) (fun c24 => ?_) (fun c24 => ?_)
          · have hF := brF c24 hF
            obtain ⟨y29_10, ey29_10⟩ : ∃ y : Int32, y = x2_2_4 + 1 := ⟨_, rfl⟩
            have hF := ltE ey29_10 hF
            refine lv_iinc (v := y29_10) (lv' := [(2, .int y29_10), (0, .ref a_t), (1, .int p1)]) hx hb dX6_livingAt_29 hl (k := 2) rfl (by rw [ey29_10]; rfl) (by decide) rfl (fun ls hl => ?_)
            refine lv_goto (tgt := 2) hx hb dX6_livingAt_32 (by decide) ?_
            exact ih2 y29_10 ls (lv_sub hl [1, 2, 0] rfl) hF
          · have hF := brT c24 hF
            exact hk27_3 x2_2_4 ls (lv_sub hl [2] rfl) hF
  exact hlp2 N 0 ls (lv_sub hl [1, 2, 0] rfl) hF
