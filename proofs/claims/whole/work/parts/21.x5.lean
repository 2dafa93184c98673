abbrev rm_X5_init : Room := { frames := 1, cells := 0, slots := 0, locals := 24 }
theorem hd_X5_init : yX5_init.cls = RX5 ∧ yX5_init.cls ≠ "java/lang/invoke/MethodHandle" ∧ yX5_init.cls ≠ "java/lang/invoke/VarHandle" ∧ (parseMethodDescriptor yX5_init.desc).map (fun d => d.parameters.length) = some 1 := by decide +kernel
set_option maxRecDepth 100000 in
set_option maxHeartbeats 4000000 in
theorem c_X5_init (l : Launch) (D : va_G) (t : Nat → ClassId) (z : Nat) (x : Nat → Nat) (a_t : Nat) (a_p1 : Nat) (sz : Nat) (t_length' : Int32) (t_at' : Int32) (t_error' : Int32) (t_errorAt' : Int32) (hF : f_X5_init = some (t_length', t_at', t_error', t_errorAt')) : CrM l D (TY t) z x yX5_init wsX5_init rm_X5_init [.ref a_t, .ref a_p1] [(a_t, .inr (5, [.null, .int 0, .int 0, .int 0, .int 0]))] (fun (q : Nat → Nat) => [(a_t, .inr (5, [.ref a_p1, .int t_length', .int t_at', .int t_error', .int t_errorAt']))]) sz 0 0 := by
  obtain ⟨T9, hT⟩ : ∃ T9, T9 = (t_length', t_at', t_error', t_errorAt') := ⟨_, rfl⟩
  rw [← hT] at hF
  obtain rfl : t_length' = T9.1 := by rw [hT]
  obtain rfl : t_at' = T9.2.1 := by rw [hT]
  obtain rfl : t_error' = T9.2.2.1 := by rw [hT]
  obtain rfl : t_errorAt' = T9.2.2.2 := by rw [hT]
  clear hT
  refine cr_of (cc := cX5_init) (maxL := 2) (ret := none) (by decide) rfl (Nat.le_of_ble_eq_true rfl) ?_
  intro p e s m args below meth c A Q hQ hx hb hr hml hts hown hlocks hin H locs hP hD hS hA hz hC ls hl
  have hown : s.vm.findClass RX5 = some m.cls := hown
  have hl : lv_has ls 2 [(0, .ref a_t), (1, .ref a_p1)] := hl
  have hK := hC.1
  have iw5 : ∀ w ∈ wsX50, w ∈ wsX5_init := fun _ h => List.mem_cons_of_mem _ (List.mem_append_right _ h)
  have hf9 := hts (.fieldLink RX5 9 "CrackedColumn$Reader" "length" "I") (by decide +kernel)
  have hf15 := hts (.fieldLink RX5 15 "CrackedColumn$Reader" "at" "I") (by decide +kernel)
  have hf18 := hts (.fieldLink RX5 18 "CrackedColumn$Reader" "error" "I") (by decide +kernel)
  have hf21 := hts (.fieldLink RX5 21 "CrackedColumn$Reader" "errorAt" "I") (by decide +kernel)
  have hf24 := hts (.fieldLink RX5 24 "CrackedColumn$Reader" "text" "LCrackedColumn$Bytes;") (by decide +kernel)
  unfold f_X5_init at hF
  refine lv_aload_n hx hb dX5_init_0 rfl (lv_at hl 0 rfl) ?_
  refine W.objInit hx hb hown (hts (.methodLink RX5 3 objectInit) (by decide +kernel)) (hts (.instanceMethod objectInit) (by decide +kernel)) (hts (.code objectInit ⟨#[0xb1]⟩ 1 none) (by decide +kernel)) rfl (hl.1.trans hml.symm) rfl dX5_init_1 (Nat.le_of_ble_eq_true rfl) (Nat.le_of_ble_eq_true rfl) ?_
  refine lv_aload_n hx hb dX5_init_4 rfl (lv_at hl 0 rfl) ?_
  refine lv_iconst (v := 0) hx hb dX5_init_5 (by decide) ?_
  refine my_put (ty := .int) (v := .int 0) (ci := 5) (C := RX5) (T := TX5) (N := 5) (wn := [(a_t, .inr (5, [.null, .int 0, .int 0, .int 0, .int 0]))]) hx hb hts iw5 tyX5 tyX5_ok nmX5 hown hK hP hD hS 0 rfl rfl 1 (by decide) hf9 (fun _ h9 => h9) rfl (by decide +kernel) rfl rfl (Nat.le_of_ble_eq_true rfl) rfl dX5_init_6 (fun H locs hP hD hS => ?_)
  refine lv_aload_n hx hb dX5_init_9 rfl (lv_at hl 0 rfl) ?_
  refine lv_iconst (v := 0) hx hb dX5_init_10 (by decide) ?_
  refine my_put (ty := .int) (v := .int 0) (ci := 5) (C := RX5) (T := TX5) (N := 5) (wn := [(a_t, .inr (5, [.null, .int 0, .int 0, .int 0, .int 0]))]) hx hb hts iw5 tyX5 tyX5_ok nmX5 hown hK hP hD hS 0 rfl rfl 2 (by decide) hf15 (fun _ h9 => h9) rfl (by decide +kernel) rfl rfl (Nat.le_of_ble_eq_true rfl) rfl dX5_init_11 (fun H locs hP hD hS => ?_)
  refine lv_aload_n hx hb dX5_init_14 rfl (lv_at hl 0 rfl) ?_
  refine lv_iconst (v := 0) hx hb dX5_init_15 (by decide) ?_
  refine my_put (ty := .int) (v := .int 0) (ci := 5) (C := RX5) (T := TX5) (N := 5) (wn := [(a_t, .inr (5, [.null, .int 0, .int 0, .int 0, .int 0]))]) hx hb hts iw5 tyX5 tyX5_ok nmX5 hown hK hP hD hS 0 rfl rfl 3 (by decide) hf18 (fun _ h9 => h9) rfl (by decide +kernel) rfl rfl (Nat.le_of_ble_eq_true rfl) rfl dX5_init_16 (fun H locs hP hD hS => ?_)
  refine lv_aload_n hx hb dX5_init_19 rfl (lv_at hl 0 rfl) ?_
  refine lv_iconst (v := (-1)) hx hb dX5_init_20 (by decide) ?_
  refine my_put (ty := .int) (v := .int (-1)) (ci := 5) (C := RX5) (T := TX5) (N := 5) (wn := [(a_t, .inr (5, [.null, .int 0, .int 0, .int 0, .int (-1)]))]) hx hb hts iw5 tyX5 tyX5_ok nmX5 hown hK hP hD hS 0 rfl rfl 4 (by decide) hf21 (fun _ h9 => h9) rfl (by decide +kernel) rfl rfl (Nat.le_of_ble_eq_true rfl) rfl dX5_init_21 (fun H locs hP hD hS => ?_)
  refine lv_aload_n hx hb dX5_init_24 rfl (lv_at hl 0 rfl) ?_
  refine lv_aload_n hx hb dX5_init_25 rfl (lv_at hl 1 rfl) ?_
  refine my_putF (ty := tyX5 0) (v := .ref a_p1) (ci := 5) (C := RX5) (T := TX5) (N := 5) (wn := [(a_t, .inr (5, [.ref a_p1, .int 0, .int 0, .int 0, .int (-1)]))]) hx hb hts iw5 tyX5 tyX5_ok nmX5 hown hK hP hD hS 0 rfl rfl 0 (by decide) hf24 (fun _ h9 => h9) (by decide +kernel) hin rfl (by decide +kernel) rfl rfl (Nat.le_of_ble_eq_true rfl) rfl dX5_init_26 (fun H locs hP hD hS => ?_)
  cases hF
  exact W.widen (k := 0) (n := 0) (Nat.le_of_ble_eq_true rfl) (Nat.le_of_ble_eq_true rfl) (cr_vret hx hb hr hlocks dX5_init_29 hQ hP hD hS (fun i => [].getD i 0) [0] rfl (by decide +kernel))
abbrev rm_X5_skipWord : Room := { frames := 1, cells := 0, slots := 0, locals := 21 }
theorem hd_X5_skipWord : yX5_skipWord.cls = RX5 ∧ yX5_skipWord.cls ≠ "java/lang/invoke/MethodHandle" ∧ yX5_skipWord.cls ≠ "java/lang/invoke/VarHandle" ∧ (parseMethodDescriptor yX5_skipWord.desc).map (fun d => d.parameters.length) = some 0 := by decide +kernel
set_option maxRecDepth 100000 in
set_option maxHeartbeats 4000000 in
theorem c_X5_skipWord (l : Launch) (D : va_G) (t : Nat → ClassId) (z : Nat) (x : Nat → Nat) (N : Nat) (a_t_text : Nat) (a_t_text_bytes : Nat) (a_t : Nat) (n_t_text_bytes : Nat) (t_text_length : Int32) (t_text_bytes_ : (Nat → Int32)) (t_length : Int32) (t_at : Int32) (t_error : Int32) (t_errorAt : Int32) (sz : Nat) (t_at' : Int32) (hF : f_X5_skipWord N t_text_length t_text_bytes_ t_length t_at n_t_text_bytes = some (t_at')) : WrM l D (TY t) z x yX5_skipWord wsX5_skipWord rm_X5_skipWord [.ref a_t] [(a_t_text, .inr (1, [.ref a_t_text_bytes, .int t_text_length])), (a_t_text_bytes, .inl (t 1, n_t_text_bytes, .inl t_text_bytes_)), (a_t, .inr (5, [.ref a_t_text, .int t_length, .int t_at, .int t_error, .int t_errorAt]))] [(a_t_text, .inr (1, [.ref a_t_text_bytes, .int t_text_length])), (a_t_text_bytes, .inl (t 1, n_t_text_bytes, .inl t_text_bytes_)), (a_t, .inr (5, [.ref a_t_text, .int t_length, .int t_at', .int t_error, .int t_errorAt]))] sz none 0 0 := by
  refine wr_of (cc := cX5_skipWord) (maxL := 1) (ret := none) (by decide) rfl (Nat.le_of_ble_eq_true rfl) ?_
  intro p e s m args below meth c A Q hQ hx hb hr hml hts hown hlocks hin H locs hP hD hS hA hz hC ls hl
  have hown : s.vm.findClass RX5 = some m.cls := hown
  have hl : lv_has ls 1 [(0, .ref a_t)] := hl
  have hK := hC.1
  have iw5 : ∀ w ∈ wsX50, w ∈ wsX5_skipWord := fun _ h => List.mem_cons_of_mem _ (List.mem_append_left _ (List.mem_append_right _ h))
  have hf9 := hts (.fieldLink RX5 9 "CrackedColumn$Reader" "length" "I") (by decide +kernel)
  have hf15 := hts (.fieldLink RX5 15 "CrackedColumn$Reader" "at" "I") (by decide +kernel)
  have hf24 := hts (.fieldLink RX5 24 "CrackedColumn$Reader" "text" "LCrackedColumn$Bytes;") (by decide +kernel)
  unfold f_X5_skipWord at hF
  obtain ⟨k56_2, ek56_2, hF⟩ := jnE hF
  have hk56_2 : ∀ (t_at_56_1 : Int32) (H : Heap) (locs : List Loc) (ls : Array Slot), va_P D vwCl [(a_t_text, .inr (1, [.ref a_t_text_bytes, .int t_text_length])), (a_t_text_bytes, .inl (t 1, n_t_text_bytes, .inl t_text_bytes_)), (a_t, .inr (5, [.ref a_t_text, .int t_length, .int t_at_56_1, .int t_error, .int t_errorAt]))] H → va_D A [(a_t_text, .inr (1, [.ref a_t_text_bytes, .int t_text_length])), (a_t_text_bytes, .inl (t 1, n_t_text_bytes, .inl t_text_bytes_)), (a_t, .inr (5, [.ref a_t_text, .int t_length, .int t_at_56_1, .int t_error, .int t_errorAt]))] → va_S A s.heap H locs → lv_has ls 1 [] → k56_2 t_at_56_1 = some (t_at') → W p l e rm_X5_skipWord s m args below meth c H locs 0 0 Q (F0 m 56 ls []) := by
    subst ek56_2
    intro t_at_56_1 H locs ls hP hD hS hl hF
    cases hF
    exact we_vret hx hb hr hlocks dX5_skipWord_56 rfl hQ hP hD hS
  have hlp0 : ∀ n0 : Nat, ∀ (t_at_0_3 : Int32) (H : Heap) (locs : List Loc) (ls : Array Slot), va_P D vwCl [(a_t_text, .inr (1, [.ref a_t_text_bytes, .int t_text_length])), (a_t_text_bytes, .inl (t 1, n_t_text_bytes, .inl t_text_bytes_)), (a_t, .inr (5, [.ref a_t_text, .int t_length, .int t_at_0_3, .int t_error, .int t_errorAt]))] H → va_D A [(a_t_text, .inr (1, [.ref a_t_text_bytes, .int t_text_length])), (a_t_text_bytes, .inl (t 1, n_t_text_bytes, .inl t_text_bytes_)), (a_t, .inr (5, [.ref a_t_text, .int t_length, .int t_at_0_3, .int t_error, .int t_errorAt]))] → va_S A s.heap H locs → lv_has ls 1 [(0, .ref a_t)] → f_X5_skipWord_0 t_text_length t_text_bytes_ t_length n_t_text_bytes k56_2 n0 t_at_0_3 = some (t_at') → W p l e rm_X5_skipWord s m args below meth c H locs 0 0 Q (F0 m 0 ls []) := by
    intro n0
    induction n0 with
    | zero =>
      intro t_at_0_3 H locs ls hP hD hS hl hF
      cases (show none = some (t_at') from hF)
    | succ n0 ih0 =>
      intro t_at_0_3 H locs ls hP hD hS hl hF
      rw [f_X5_skipWord_0] at hF
      refine lv_aload_n hx hb dX5_skipWord_0 rfl (lv_at hl 0 rfl) ?_
      refine va_get (D := D) (ci := 5) (v := .int t_at_0_3) (C := RX5) (T := TX5) (N := 5) hx hb hts iw5 hown hK hP 2 rfl rfl 2 (by decide) hf15 (fun _ h9 => h9) rfl dX5_skipWord_1 ?_
      refine lv_aload_n hx hb dX5_skipWord_4 rfl (lv_at hl 0 rfl) ?_
      refine va_get (D := D) (ci := 5) (v := .int t_length) (C := RX5) (T := TX5) (N := 5) hx hb hts iw5 hown hK hP 2 rfl rfl 1 (by decide) hf9 (fun _ h9 => h9) rfl dX5_skipWord_5 ?_
      refine lv_icmp_ge (tgt := 56) hx hb dX5_skipWord_8 (by decide) (fun c8 => ?_) (fun c8 => ?_)
      · have hF := brT c8 hF
        exact hk56_2 t_at_0_3 H locs ls hP hD hS (lv_sub hl [] rfl) hF
      · have hF := brF c8 hF
        refine lv_aload_n hx hb dX5_skipWord_11 rfl (lv_at hl 0 rfl) ?_
        refine va_get (D := D) (ci := 5) (v := .ref a_t_text) (C := RX5) (T := TX5) (N := 5) hx hb hts iw5 hown hK hP 2 rfl rfl 0 (by decide) hf24 (fun _ h9 => h9) rfl dX5_skipWord_12 ?_
        refine lv_aload_n hx hb dX5_skipWord_15 rfl (lv_at hl 0 rfl) ?_
        refine va_get (D := D) (ci := 5) (v := .int t_at_0_3) (C := RX5) (T := TX5) (N := 5) hx hb hts iw5 hown hK hP 2 rfl rfl 2 (by decide) hf15 (fun _ h9 => h9) rfl dX5_skipWord_16 ?_
        obtain ⟨r19_4, h19_4, hF⟩ := bndE hF
        refine rdV (As := [.int t_at_0_3]) (rest := []) (C := RX1) ⟨hx, hb, hml, hown, hts⟩ (c_X1_byteAt l D t z x a_t_text a_t_text_bytes n_t_text_bytes t_text_length t_text_bytes_ t_at_0_3 H r19_4 h19_4) (cwV 1 hts gX5_skipWord_X1_byteAt rfl rfl rfl hd_X1_byteAt ⟨Nat.le_of_ble_eq_true rfl, Nat.le_of_ble_eq_true rfl⟩) (hC.at hz hS) (selP (m9 := [true, true, false]) rfl rfl hP) 0 rfl (show vwCl[1]? = some (RX1, TX1, 2) from rfl) rfl rfl hl.1 rfl (Nat.le_of_ble_eq_true rfl) dX5_skipWord_19 ⟨Nat.zero_le _, Nat.zero_le _⟩ rfl ?_
        refine lv_bipush (v := 97) hx hb dX5_skipWord_22 (by decide) ?_
        refine lv_icmp_lt (tgt := 56) hx hb dX5_skipWord_24 (by decide) (fun c24 => ?_) (fun c24 => ?_)
        · have hF := brT c24 hF
          exact hk56_2 t_at_0_3 H locs ls hP hD hS (lv_sub hl [] rfl) hF
        · have hF := brF c24 hF
          refine lv_aload_n hx hb dX5_skipWord_27 rfl (lv_at hl 0 rfl) ?_
          refine va_get (D := D) (ci := 5) (v := .ref a_t_text) (C := RX5) (T := TX5) (N := 5) hx hb hts iw5 hown hK hP 2 rfl rfl 0 (by decide) hf24 (fun _ h9 => h9) rfl dX5_skipWord_28 ?_
          refine lv_aload_n hx hb dX5_skipWord_31 rfl (lv_at hl 0 rfl) ?_
          refine va_get (D := D) (ci := 5) (v := .int t_at_0_3) (C := RX5) (T := TX5) (N := 5) hx hb hts iw5 hown hK hP 2 rfl rfl 2 (by decide) hf15 (fun _ h9 => h9) rfl dX5_skipWord_32 ?_
          obtain ⟨r35_6, h35_6, hF⟩ := bndE hF
          refine rdV (As := [.int t_at_0_3]) (rest := []) (C := RX1) ⟨hx, hb, hml, hown, hts⟩ (c_X1_byteAt l D t z x a_t_text a_t_text_bytes n_t_text_bytes t_text_length t_text_bytes_ t_at_0_3 H r35_6 h35_6) (cwV 1 hts gX5_skipWord_X1_byteAt rfl rfl rfl hd_X1_byteAt ⟨Nat.le_of_ble_eq_true rfl, Nat.le_of_ble_eq_true rfl⟩) (hC.at hz hS) (selP (m9 := [true, true, false]) rfl rfl hP) 0 rfl (show vwCl[1]? = some (RX1, TX1, 2) from rfl) rfl rfl hl.1 rfl (Nat.le_of_ble_eq_true rfl) dX5_skipWord_35 ⟨Nat.zero_le _, Nat.zero_le _⟩ rfl ?_
          refine lv_bipush (v := 122) hx hb dX5_skipWord_38 (by decide) ?_
          refine lv_icmp_gt (tgt := 56) hx hb dX5_skipWord_40 (by decide) (fun c40 => ?_) (fun c40 => ?_)
          · have hF := brT c40 hF
            exact hk56_2 t_at_0_3 H locs ls hP hD hS (lv_sub hl [] rfl) hF
          · have hF := brF c40 hF
            refine lv_aload_n hx hb dX5_skipWord_43 rfl (lv_at hl 0 rfl) ?_
            refine lv_dup hx hb dX5_skipWord_44 rfl ?_
            refine va_get (D := D) (ci := 5) (v := .int t_at_0_3) (C := RX5) (T := TX5) (N := 5) hx hb hts iw5 hown hK hP 2 rfl rfl 2 (by decide) hf15 (fun _ h9 => h9) rfl dX5_skipWord_45 ?_
            refine lv_iconst (v := 1) hx hb dX5_skipWord_48 (by decide) ?_
            refine lv_iadd hx hb dX5_skipWord_49 ?_
            refine lv_topi (fun y50_8 ey50_8 => ?_)
            have hF := ltE ey50_8 hF
            refine my_put (ty := .int) (v := .int y50_8) (ci := 5) (C := RX5) (T := TX5) (N := 5) (wn := [(a_t_text, .inr (1, [.ref a_t_text_bytes, .int t_text_length])), (a_t_text_bytes, .inl (t 1, n_t_text_bytes, .inl t_text_bytes_)), (a_t, .inr (5, [.ref a_t_text, .int t_length, .int y50_8, .int t_error, .int t_errorAt]))]) hx hb hts iw5 tyX5 tyX5_ok nmX5 hown hK hP hD hS 2 rfl rfl 2 (by decide) hf15 (fun _ h9 => h9) rfl (by decide +kernel) rfl rfl (Nat.le_of_ble_eq_true rfl) rfl dX5_skipWord_50 (fun H locs hP hD hS => ?_)
            refine lv_goto (tgt := 0) hx hb dX5_skipWord_53 (by decide) ?_
            exact ih0 y50_8 H locs ls hP hD hS hl hF
  exact hlp0 N t_at H locs ls hP hD hS hl hF
abbrev rm_X5_skipSpaces : Room := { frames := 1, cells := 0, slots := 0, locals := 21 }
theorem hd_X5_skipSpaces : yX5_skipSpaces.cls = RX5 ∧ yX5_skipSpaces.cls ≠ "java/lang/invoke/MethodHandle" ∧ yX5_skipSpaces.cls ≠ "java/lang/invoke/VarHandle" ∧ (parseMethodDescriptor yX5_skipSpaces.desc).map (fun d => d.parameters.length) = some 0 := by decide +kernel
set_option maxRecDepth 100000 in
set_option maxHeartbeats 4000000 in
theorem c_X5_skipSpaces (l : Launch) (D : va_G) (t : Nat → ClassId) (z : Nat) (x : Nat → Nat) (N : Nat) (a_t_text : Nat) (a_t_text_bytes : Nat) (a_t : Nat) (n_t_text_bytes : Nat) (t_text_length : Int32) (t_text_bytes_ : (Nat → Int32)) (t_length : Int32) (t_at : Int32) (t_error : Int32) (t_errorAt : Int32) (sz : Nat) (t_at' : Int32) (hF : f_X5_skipSpaces N t_text_length t_text_bytes_ t_length t_at n_t_text_bytes = some (t_at')) : WrM l D (TY t) z x yX5_skipSpaces wsX5_skipSpaces rm_X5_skipSpaces [.ref a_t] [(a_t_text, .inr (1, [.ref a_t_text_bytes, .int t_text_length])), (a_t_text_bytes, .inl (t 1, n_t_text_bytes, .inl t_text_bytes_)), (a_t, .inr (5, [.ref a_t_text, .int t_length, .int t_at, .int t_error, .int t_errorAt]))] [(a_t_text, .inr (1, [.ref a_t_text_bytes, .int t_text_length])), (a_t_text_bytes, .inl (t 1, n_t_text_bytes, .inl t_text_bytes_)), (a_t, .inr (5, [.ref a_t_text, .int t_length, .int t_at', .int t_error, .int t_errorAt]))] sz none 0 0 := by
  refine wr_of (cc := cX5_skipSpaces) (maxL := 1) (ret := none) (by decide) rfl (Nat.le_of_ble_eq_true rfl) ?_
  intro p e s m args below meth c A Q hQ hx hb hr hml hts hown hlocks hin H locs hP hD hS hA hz hC ls hl
  have hown : s.vm.findClass RX5 = some m.cls := hown
  have hl : lv_has ls 1 [(0, .ref a_t)] := hl
  have hK := hC.1
  have iw5 : ∀ w ∈ wsX50, w ∈ wsX5_skipSpaces := fun _ h => List.mem_cons_of_mem _ (List.mem_append_left _ (List.mem_append_right _ h))
  have hf9 := hts (.fieldLink RX5 9 "CrackedColumn$Reader" "length" "I") (by decide +kernel)
  have hf15 := hts (.fieldLink RX5 15 "CrackedColumn$Reader" "at" "I") (by decide +kernel)
  have hf24 := hts (.fieldLink RX5 24 "CrackedColumn$Reader" "text" "LCrackedColumn$Bytes;") (by decide +kernel)
  unfold f_X5_skipSpaces at hF
  obtain ⟨k40_2, ek40_2, hF⟩ := jnE hF
  have hk40_2 : ∀ (t_at_40_1 : Int32) (H : Heap) (locs : List Loc) (ls : Array Slot), va_P D vwCl [(a_t_text, .inr (1, [.ref a_t_text_bytes, .int t_text_length])), (a_t_text_bytes, .inl (t 1, n_t_text_bytes, .inl t_text_bytes_)), (a_t, .inr (5, [.ref a_t_text, .int t_length, .int t_at_40_1, .int t_error, .int t_errorAt]))] H → va_D A [(a_t_text, .inr (1, [.ref a_t_text_bytes, .int t_text_length])), (a_t_text_bytes, .inl (t 1, n_t_text_bytes, .inl t_text_bytes_)), (a_t, .inr (5, [.ref a_t_text, .int t_length, .int t_at_40_1, .int t_error, .int t_errorAt]))] → va_S A s.heap H locs → lv_has ls 1 [] → k40_2 t_at_40_1 = some (t_at') → W p l e rm_X5_skipSpaces s m args below meth c H locs 0 0 Q (F0 m 40 ls []) := by
    subst ek40_2
    intro t_at_40_1 H locs ls hP hD hS hl hF
    cases hF
    exact we_vret hx hb hr hlocks dX5_skipSpaces_40 rfl hQ hP hD hS
  have hlp0 : ∀ n0 : Nat, ∀ (t_at_0_3 : Int32) (H : Heap) (locs : List Loc) (ls : Array Slot), va_P D vwCl [(a_t_text, .inr (1, [.ref a_t_text_bytes, .int t_text_length])), (a_t_text_bytes, .inl (t 1, n_t_text_bytes, .inl t_text_bytes_)), (a_t, .inr (5, [.ref a_t_text, .int t_length, .int t_at_0_3, .int t_error, .int t_errorAt]))] H → va_D A [(a_t_text, .inr (1, [.ref a_t_text_bytes, .int t_text_length])), (a_t_text_bytes, .inl (t 1, n_t_text_bytes, .inl t_text_bytes_)), (a_t, .inr (5, [.ref a_t_text, .int t_length, .int t_at_0_3, .int t_error, .int t_errorAt]))] → va_S A s.heap H locs → lv_has ls 1 [(0, .ref a_t)] → f_X5_skipSpaces_0 t_text_length t_text_bytes_ t_length n_t_text_bytes k40_2 n0 t_at_0_3 = some (t_at') → W p l e rm_X5_skipSpaces s m args below meth c H locs 0 0 Q (F0 m 0 ls []) := by
    intro n0
    induction n0 with
    | zero =>
      intro t_at_0_3 H locs ls hP hD hS hl hF
      cases (show none = some (t_at') from hF)
    | succ n0 ih0 =>
      intro t_at_0_3 H locs ls hP hD hS hl hF
      rw [f_X5_skipSpaces_0] at hF
      refine lv_aload_n hx hb dX5_skipSpaces_0 rfl (lv_at hl 0 rfl) ?_
      refine va_get (D := D) (ci := 5) (v := .int t_at_0_3) (C := RX5) (T := TX5) (N := 5) hx hb hts iw5 hown hK hP 2 rfl rfl 2 (by decide) hf15 (fun _ h9 => h9) rfl dX5_skipSpaces_1 ?_
      refine lv_aload_n hx hb dX5_skipSpaces_4 rfl (lv_at hl 0 rfl) ?_
      refine va_get (D := D) (ci := 5) (v := .int t_length) (C := RX5) (T := TX5) (N := 5) hx hb hts iw5 hown hK hP 2 rfl rfl 1 (by decide) hf9 (fun _ h9 => h9) rfl dX5_skipSpaces_5 ?_
      refine lv_icmp_ge (tgt := 40) hx hb dX5_skipSpaces_8 (by decide) (fun c8 => ?_) (fun c8 => ?_)
      · have hF := brT c8 hF
        exact hk40_2 t_at_0_3 H locs ls hP hD hS (lv_sub hl [] rfl) hF
      · have hF := brF c8 hF
        refine lv_aload_n hx hb dX5_skipSpaces_11 rfl (lv_at hl 0 rfl) ?_
        refine va_get (D := D) (ci := 5) (v := .ref a_t_text) (C := RX5) (T := TX5) (N := 5) hx hb hts iw5 hown hK hP 2 rfl rfl 0 (by decide) hf24 (fun _ h9 => h9) rfl dX5_skipSpaces_12 ?_
        refine lv_aload_n hx hb dX5_skipSpaces_15 rfl (lv_at hl 0 rfl) ?_
        refine va_get (D := D) (ci := 5) (v := .int t_at_0_3) (C := RX5) (T := TX5) (N := 5) hx hb hts iw5 hown hK hP 2 rfl rfl 2 (by decide) hf15 (fun _ h9 => h9) rfl dX5_skipSpaces_16 ?_
        obtain ⟨r19_4, h19_4, hF⟩ := bndE hF
        refine rdV (As := [.int t_at_0_3]) (rest := []) (C := RX1) ⟨hx, hb, hml, hown, hts⟩ (c_X1_byteAt l D t z x a_t_text a_t_text_bytes n_t_text_bytes t_text_length t_text_bytes_ t_at_0_3 H r19_4 h19_4) (cwV 1 hts gX5_skipSpaces_X1_byteAt rfl rfl rfl hd_X1_byteAt ⟨Nat.le_of_ble_eq_true rfl, Nat.le_of_ble_eq_true rfl⟩) (hC.at hz hS) (selP (m9 := [true, true, false]) rfl rfl hP) 0 rfl (show vwCl[1]? = some (RX1, TX1, 2) from rfl) rfl rfl hl.1 rfl (Nat.le_of_ble_eq_true rfl) dX5_skipSpaces_19 ⟨Nat.zero_le _, Nat.zero_le _⟩ rfl ?_
        refine lv_bipush (v := 32) hx hb dX5_skipSpaces_22 (by decide) ?_
        refine lv_icmp_ne (tgt := 40) hx hb dX5_skipSpaces_24 (by decide) (fun c24 => ?_) (fun c24 => ?_)
        · have hF := brF c24 hF
          exact hk40_2 t_at_0_3 H locs ls hP hD hS (lv_sub hl [] rfl) hF
        · have hF := brT c24 hF
          refine lv_aload_n hx hb dX5_skipSpaces_27 rfl (lv_at hl 0 rfl) ?_
          refine lv_dup hx hb dX5_skipSpaces_28 rfl ?_
          refine va_get (D := D) (ci := 5) (v := .int t_at_0_3) (C := RX5) (T := TX5) (N := 5) hx hb hts iw5 hown hK hP 2 rfl rfl 2 (by decide) hf15 (fun _ h9 => h9) rfl dX5_skipSpaces_29 ?_
          refine lv_iconst (v := 1) hx hb dX5_skipSpaces_32 (by decide) ?_
          refine lv_iadd hx hb dX5_skipSpaces_33 ?_
          refine lv_topi (fun y34_6 ey34_6 => ?_)
          have hF := ltE ey34_6 hF
          refine my_put (ty := .int) (v := .int y34_6) (ci := 5) (C := RX5) (T := TX5) (N := 5) (wn := [(a_t_text, .inr (1, [.ref a_t_text_bytes, .int t_text_length])), (a_t_text_bytes, .inl (t 1, n_t_text_bytes, .inl t_text_bytes_)), (a_t, .inr (5, [.ref a_t_text, .int t_length, .int y34_6, .int t_error, .int t_errorAt]))]) hx hb hts iw5 tyX5 tyX5_ok nmX5 hown hK hP hD hS 2 rfl rfl 2 (by decide) hf15 (fun _ h9 => h9) rfl (by decide +kernel) rfl rfl (Nat.le_of_ble_eq_true rfl) rfl dX5_skipSpaces_34 (fun H locs hP hD hS => ?_)
          refine lv_goto (tgt := 0) hx hb dX5_skipSpaces_37 (by decide) ?_
          exact ih0 y34_6 H locs ls hP hD hS hl hF
  exact hlp0 N t_at H locs ls hP hD hS hl hF
abbrev rm_X5_isWord : Room := { frames := 4, cells := 0, slots := 0, locals := 85 }
theorem hd_X5_isWord : yX5_isWord.cls = RX5 ∧ yX5_isWord.cls ≠ "java/lang/invoke/MethodHandle" ∧ yX5_isWord.cls ≠ "java/lang/invoke/VarHandle" ∧ (parseMethodDescriptor yX5_isWord.desc).map (fun d => d.parameters.length) = some 2 := by decide +kernel
set_option maxRecDepth 100000 in
set_option maxHeartbeats 4000000 in
theorem c_X5_isWord (l : Launch) (D : va_G) (t : Nat → ClassId) (z : Nat) (x : Nat → Nat) (N : Nat) (a_t_text : Nat) (a_t_text_bytes : Nat) (a_t : Nat) (n_t_text_bytes : Nat) (t_text_length : Int32) (t_text_bytes_ : (Nat → Int32)) (t_length : Int32) (t_at : Int32) (t_error : Int32) (t_errorAt : Int32) (p1 : Int32) (w2 : Nat) (H : Heap) (r : Int32) (hF : f_X5_isWord N t_text_length t_text_bytes_ t_at n_t_text_bytes p1 w2 = some (r)) : RdM l D (TY t) z x yX5_isWord wsX5_isWord rm_X5_isWord [.ref a_t, .int p1, .ref (x (10 + w2))] [(a_t_text, .inr (1, [.ref a_t_text_bytes, .int t_text_length])), (a_t_text_bytes, .inl (t 1, n_t_text_bytes, .inl t_text_bytes_)), (a_t, .inr (5, [.ref a_t_text, .int t_length, .int t_at, .int t_error, .int t_errorAt]))] H (some (.int r)) := by
  refine rd_of (cc := cX5_isWord) (maxL := 4) (ret := (some .boolean)) (by decide) rfl (Nat.le_of_ble_eq_true rfl) ?_
  intro p e s m args below meth c Q hQ hx hb hr hml hts hown hlocks hH hP hC ls hl
  have hown : s.vm.findClass RX5 = some m.cls := hown
  have hl : lv_has ls 4 [(0, .ref a_t), (1, .int p1), (2, .ref (x (10 + w2)))] := hl
  have hK := hC.1
  have iw5 : ∀ w ∈ wsX50, w ∈ wsX5_isWord := fun _ h => List.mem_cons_of_mem _ (List.mem_append_left _ (List.mem_append_right _ h))
  have hf15 := hts (.fieldLink RX5 15 "CrackedColumn$Reader" "at" "I") (by decide +kernel)
  have hf24 := hts (.fieldLink RX5 24 "CrackedColumn$Reader" "text" "LCrackedColumn$Bytes;") (by decide +kernel)
  have hSr : va_S (fun q => z ≤ q) s.heap H [] := by rw [hH]; exact va_S.rf
  have hCs : CXT D (TY t) z x s s.heap := by rw [hH]; exact hC
  unfold f_X5_isWord at hF
  refine lv_aload_n hx hb dX5_isWord_0 rfl (lv_at hl 0 rfl) ?_
  refine va_get (D := D) (ci := 5) (v := .int t_at) (C := RX5) (T := TX5) (N := 5) hx hb hts iw5 hown hK hP 2 rfl rfl 2 (by decide) hf15 (fun _ h9 => h9) rfl dX5_isWord_1 ?_
  refine lv_iload_n hx hb dX5_isWord_4 rfl (lv_at hl 1 rfl) ?_
  refine lv_isub hx hb dX5_isWord_5 ?_
  refine lv_aload_n hx hb dX5_isWord_6 rfl (lv_at hl 2 rfl) ?_
  obtain ⟨g7_0, hF⟩ := gd hF
  refine rdVx (As := []) (rest := [.int (t_at - p1)]) (C := RJ0) (W0 := []) ⟨hx, hb, hml, hown, hts⟩ (c_J0_length l D t z x w2 (Nat.lt_of_not_le g7_0) H) (cwV 0 hts gX5_isWord_J0_length_8abf5 rfl rfl rfl hd_J0_length_8abf5 ⟨Nat.le_of_ble_eq_true rfl, Nat.le_of_ble_eq_true rfl⟩) hC (fun k q h => by cases h) (vk_recv (adK := fun i => x (10 + i)) hCs.2.2.2.2.1.1 (Nat.lt_of_not_le g7_0) hSr) rfl hl.1 rfl (Nat.le_of_ble_eq_true rfl) dX5_isWord_7 ⟨Nat.zero_le _, Nat.zero_le _⟩ rfl ?_
  refine lv_icmp_eq (tgt := 15) hx hb dX5_isWord_10 (by decide) (fun c10 => ?_) (fun c10 => ?_)
  · have hF := brT c10 hF
    refine lv_iconst (v := 0) hx hb dX5_isWord_15 (by decide) ?_
    refine lv_istore_n (lv' := [(3, .int 0), (0, .ref a_t), (1, .int p1), (2, .ref (x (10 + w2)))]) hx hb dX5_isWord_16 rfl hl (by decide) rfl (fun ls hl => ?_)
    obtain ⟨k51_2, ek51_2, hF⟩ := jnE hF
    have hk51_2 : ∀ (ls : Array Slot), lv_has ls 4 [] → k51_2 = some (r) → W p l e rm_X5_isWord s m args below meth c H [] 0 0 Q (F0 m 51 ls []) := by
      subst ek51_2
      intro ls hl hF
      refine lv_iconst (v := 1) hx hb dX5_isWord_51 (by decide) ?_
      cases hF
      exact rd_zret hx hb hr hlocks dX5_isWord_52 rfl rfl hQ
    obtain ⟨k43_3, ek43_3, hF⟩ := jnE hF
    have hk43_3 : ∀ (ls : Array Slot), lv_has ls 4 [] → k43_3 = some (r) → W p l e rm_X5_isWord s m args below meth c H [] 0 0 Q (F0 m 43 ls []) := by
      subst ek43_3
      intro ls hl hF
      refine lv_iconst (v := 0) hx hb dX5_isWord_43 (by decide) ?_
      cases hF
      exact rd_zret hx hb hr hlocks dX5_isWord_44 rfl rfl hQ
    have hlp17 : ∀ n17 : Nat, ∀ (x3_17_4 : Int32) (ls : Array Slot), lv_has ls 4 [(0, .ref a_t), (1, .int p1), (2, .ref (x (10 + w2))), (3, .int x3_17_4)] → f_X5_isWord_17 t_text_length t_text_bytes_ n_t_text_bytes p1 w2 k51_2 k43_3 n17 x3_17_4 = some (r) → W p l e rm_X5_isWord s m args below meth c H [] 0 0 Q (F0 m 17 ls []) := by
      intro n17
      induction n17 with
      | zero =>
        intro x3_17_4 ls hl hF
        cases (show none = some (r) from hF)
      | succ n17 ih17 =>
        intro x3_17_4 ls hl hF
        rw [f_X5_isWord_17] at hF
        refine lv_iload_n hx hb dX5_isWord_17 rfl (lv_at hl 3 rfl) ?_
        refine lv_aload_n hx hb dX5_isWord_18 rfl (lv_at hl 2 rfl) ?_
        obtain ⟨g19_4, hF⟩ := gd hF
        refine rdVx (As := []) (rest := [.int x3_17_4]) (C := RJ0) (W0 := []) ⟨hx, hb, hml, hown, hts⟩ (c_J0_length l D t z x w2 (Nat.lt_of_not_le g19_4) H) (cwV 0 hts gX5_isWord_J0_length_8abf5 rfl rfl rfl hd_J0_length_8abf5 ⟨Nat.le_of_ble_eq_true rfl, Nat.le_of_ble_eq_true rfl⟩) hC (fun k q h => by cases h) (vk_recv (adK := fun i => x (10 + i)) hCs.2.2.2.2.1.1 (Nat.lt_of_not_le g19_4) hSr) rfl hl.1 rfl (Nat.le_of_ble_eq_true rfl) dX5_isWord_19 ⟨Nat.zero_le _, Nat.zero_le _⟩ rfl ?_
        refine lv_icmp_ge (tgt := 51) hx hb dX5_isWord_22 (by decide) (fun c22 => ?_) (fun c22 => ?_)
        · have hF := brT c22 hF
          exact hk51_2 ls (lv_sub hl [] rfl) hF
        · have hF := brF c22 hF
          refine lv_aload_n hx hb dX5_isWord_25 rfl (lv_at hl 0 rfl) ?_
          refine va_get (D := D) (ci := 5) (v := .ref a_t_text) (C := RX5) (T := TX5) (N := 5) hx hb hts iw5 hown hK hP 2 rfl rfl 0 (by decide) hf24 (fun _ h9 => h9) rfl dX5_isWord_26 ?_
          refine lv_iload_n hx hb dX5_isWord_29 rfl (lv_at hl 1 rfl) ?_
          refine lv_iload_n hx hb dX5_isWord_30 rfl (lv_at hl 3 rfl) ?_
          refine lv_iadd hx hb dX5_isWord_31 ?_
          obtain ⟨r32_6, h32_6, hF⟩ := bndE hF
          refine rdV (As := [.int (p1 + x3_17_4)]) (rest := []) (C := RX1) ⟨hx, hb, hml, hown, hts⟩ (c_X1_byteAt l D t z x a_t_text a_t_text_bytes n_t_text_bytes t_text_length t_text_bytes_ (p1 + x3_17_4) H r32_6 h32_6) (cwV 1 hts gX5_isWord_X1_byteAt rfl rfl rfl hd_X1_byteAt ⟨Nat.le_of_ble_eq_true rfl, Nat.le_of_ble_eq_true rfl⟩) hC (selP (m9 := [true, true, false]) rfl rfl hP) 0 rfl (show vwCl[1]? = some (RX1, TX1, 2) from rfl) rfl rfl hl.1 rfl (Nat.le_of_ble_eq_true rfl) dX5_isWord_32 ⟨Nat.zero_le _, Nat.zero_le _⟩ rfl ?_
          refine lv_aload_n hx hb dX5_isWord_35 rfl (lv_at hl 2 rfl) ?_
          refine lv_iload_n hx hb dX5_isWord_36 rfl (lv_at hl 3 rfl) ?_
          obtain ⟨g37_8, hF⟩ := gd hF
          refine rdVx (As := [.int x3_17_4]) (rest := [.int r32_6]) (C := RJ0) (W0 := []) ⟨hx, hb, hml, hown, hts⟩ (c_J0_charAt l D t z x w2 (Nat.lt_of_not_le g19_4) x3_17_4 g37_8 H) (cwV 1 hts gX5_isWord_J0_charAt_5068e rfl rfl rfl hd_J0_charAt_5068e ⟨Nat.le_of_ble_eq_true rfl, Nat.le_of_ble_eq_true rfl⟩) hC (fun k q h => by cases h) (vk_recv (adK := fun i => x (10 + i)) hCs.2.2.2.2.1.1 (Nat.lt_of_not_le g19_4) hSr) rfl hl.1 rfl (Nat.le_of_ble_eq_true rfl) dX5_isWord_37 ⟨Nat.zero_le _, Nat.zero_le _⟩ rfl ?_
          refine lv_icmp_eq (tgt := 45) hx hb dX5_isWord_40 (by decide) (fun c40 => ?_) (fun c40 => ?_)
          · have hF := brT c40 hF
            obtain ⟨y45_9, ey45_9⟩ : ∃ y : Int32, y = x3_17_4 + 1 := ⟨_, rfl⟩
            have hF := ltE ey45_9 hF
            refine lv_iinc (v := y45_9) (lv' := [(3, .int y45_9), (0, .ref a_t), (1, .int p1), (2, .ref (x (10 + w2)))]) hx hb dX5_isWord_45 hl (k := 3) rfl (by rw [ey45_9]; rfl) (by decide) rfl (fun ls hl => ?_)
            refine lv_goto (tgt := 17) hx hb dX5_isWord_48 (by decide) ?_
            exact ih17 y45_9 ls (lv_sub hl [1, 2, 3, 0] rfl) hF
          · have hF := brF c40 hF
            exact hk43_3 ls (lv_sub hl [] rfl) hF
    exact hlp17 N 0 ls (lv_sub hl [1, 2, 3, 0] rfl) hF
  · have hF := brF c10 hF
    refine lv_iconst (v := 0) hx hb dX5_isWord_13 (by decide) ?_
    cases hF
    exact rd_zret hx hb hr hlocks dX5_isWord_14 rfl rfl hQ
abbrev rm_X5_isDigit : Room := { frames := 0, cells := 0, slots := 0, locals := 0 }
theorem hd_X5_isDigit : yX5_isDigit.cls = RX5 ∧ yX5_isDigit.cls ≠ "java/lang/invoke/MethodHandle" ∧ yX5_isDigit.cls ≠ "java/lang/invoke/VarHandle" ∧ (parseMethodDescriptor yX5_isDigit.desc).map (fun d => d.parameters.length) = some 1 := by decide +kernel
set_option maxRecDepth 100000 in
set_option maxHeartbeats 4000000 in
theorem c_X5_isDigit (l : Launch) (D : va_G) (t : Nat → ClassId) (z : Nat) (x : Nat → Nat) (p0 : Int32) (H : Heap) (r : Int32) (hF : f_X5_isDigit p0 = some (r)) : RdM l D (TY t) z x yX5_isDigit wsX5_isDigit rm_X5_isDigit [.int p0] [] H (some (.int r)) := by
  refine rd_of (cc := cX5_isDigit) (maxL := 1) (ret := (some .boolean)) (by decide) rfl (Nat.le_of_ble_eq_true rfl) ?_
  intro p e s m args below meth c Q hQ hx hb hr hml hts hown hlocks hH hP hC ls hl
  have hown : s.vm.findClass RX5 = some m.cls := hown
  have hl : lv_has ls 1 [(0, .int p0)] := hl
  have hK := hC.1
  unfold f_X5_isDigit at hF
  refine lv_iload_n hx hb dX5_isDigit_0 rfl (lv_at hl 0 rfl) ?_
  refine lv_bipush (v := 48) hx hb dX5_isDigit_1 (by decide) ?_
  refine lv_icmp_lt (tgt := 16) hx hb dX5_isDigit_3 (by decide) (fun c3 => ?_) (fun c3 => ?_)
  · have hF := brT c3 hF
    refine lv_iconst (v := 0) hx hb dX5_isDigit_16 (by decide) ?_
    cases hF
    exact rd_zret hx hb hr hlocks dX5_isDigit_17 rfl rfl hQ
  · have hF := brF c3 hF
    refine lv_iload_n hx hb dX5_isDigit_6 rfl (lv_at hl 0 rfl) ?_
    refine lv_bipush (v := 57) hx hb dX5_isDigit_7 (by decide) ?_
    refine lv_icmp_gt (tgt := 16) hx hb dX5_isDigit_9 (by decide) (fun c9 => ?_) (fun c9 => ?_)
    · have hF := brT c9 hF
      refine lv_iconst (v := 0) hx hb dX5_isDigit_16 (by decide) ?_
      cases hF
      exact rd_zret hx hb hr hlocks dX5_isDigit_17 rfl rfl hQ
    · have hF := brF c9 hF
      refine lv_iconst (v := 1) hx hb dX5_isDigit_12 (by decide) ?_
      refine lv_goto (tgt := 17) hx hb dX5_isDigit_13 (by decide) ?_
      cases hF
      exact rd_zret hx hb hr hlocks dX5_isDigit_17 rfl rfl hQ
abbrev rm_X5_fail : Room := { frames := 0, cells := 0, slots := 0, locals := 0 }
theorem hd_X5_fail : yX5_fail.cls = RX5 ∧ yX5_fail.cls ≠ "java/lang/invoke/MethodHandle" ∧ yX5_fail.cls ≠ "java/lang/invoke/VarHandle" ∧ (parseMethodDescriptor yX5_fail.desc).map (fun d => d.parameters.length) = some 2 := by decide +kernel
set_option maxRecDepth 100000 in
set_option maxHeartbeats 4000000 in
theorem c_X5_fail (l : Launch) (D : va_G) (t : Nat → ClassId) (z : Nat) (x : Nat → Nat) (a_t : Nat) (v_t_text : Value) (t_length : Int32) (t_at : Int32) (t_error : Int32) (t_errorAt : Int32) (p1 : Int32) (p2 : Int32) (sz : Nat) (t_error' : Int32) (t_errorAt' : Int32) (hF : f_X5_fail t_error t_errorAt p1 p2 = some (t_error', t_errorAt')) : WrM l D (TY t) z x yX5_fail wsX5_fail rm_X5_fail [.ref a_t, .int p1, .int p2] [(a_t, .inr (5, [v_t_text, .int t_length, .int t_at, .int t_error, .int t_errorAt]))] [(a_t, .inr (5, [v_t_text, .int t_length, .int t_at, .int t_error', .int t_errorAt']))] sz none 0 0 := by
  refine wr_of (cc := cX5_fail) (maxL := 3) (ret := none) (by decide) rfl (Nat.le_of_ble_eq_true rfl) ?_
  intro p e s m args below meth c A Q hQ hx hb hr hml hts hown hlocks hin H locs hP hD hS hA hz hC ls hl
  have hown : s.vm.findClass RX5 = some m.cls := hown
  have hl : lv_has ls 3 [(0, .ref a_t), (1, .int p1), (2, .int p2)] := hl
  have hK := hC.1
  have iw5 : ∀ w ∈ wsX50, w ∈ wsX5_fail := fun _ h => List.mem_cons_of_mem _ (List.mem_append_right _ h)
  have hf18 := hts (.fieldLink RX5 18 "CrackedColumn$Reader" "error" "I") (by decide +kernel)
  have hf21 := hts (.fieldLink RX5 21 "CrackedColumn$Reader" "errorAt" "I") (by decide +kernel)
  unfold f_X5_fail at hF
  refine lv_aload_n hx hb dX5_fail_0 rfl (lv_at hl 0 rfl) ?_
  refine va_get (D := D) (ci := 5) (v := .int t_error) (C := RX5) (T := TX5) (N := 5) hx hb hts iw5 hown hK hP 0 rfl rfl 3 (by decide) hf18 (fun _ h9 => h9) rfl dX5_fail_1 ?_
  refine lv_if_ne (tgt := 17) hx hb dX5_fail_4 (by decide) (fun c4 => ?_) (fun c4 => ?_)
  · have hF := brF c4 hF
    cases hF
    exact we_vret hx hb hr hlocks dX5_fail_17 rfl hQ hP hD hS
  · have hF := brT c4 hF
    refine lv_aload_n hx hb dX5_fail_7 rfl (lv_at hl 0 rfl) ?_
    refine lv_iload_n hx hb dX5_fail_8 rfl (lv_at hl 1 rfl) ?_
    refine my_put (ty := .int) (v := .int p1) (ci := 5) (C := RX5) (T := TX5) (N := 5) (wn := [(a_t, .inr (5, [v_t_text, .int t_length, .int t_at, .int p1, .int t_errorAt]))]) hx hb hts iw5 tyX5 tyX5_ok nmX5 hown hK hP hD hS 0 rfl rfl 3 (by decide) hf18 (fun _ h9 => h9) rfl (by decide +kernel) rfl rfl (Nat.le_of_ble_eq_true rfl) rfl dX5_fail_9 (fun H locs hP hD hS => ?_)
    refine lv_aload_n hx hb dX5_fail_12 rfl (lv_at hl 0 rfl) ?_
    refine lv_iload_n hx hb dX5_fail_13 rfl (lv_at hl 2 rfl) ?_
    refine my_put (ty := .int) (v := .int p2) (ci := 5) (C := RX5) (T := TX5) (N := 5) (wn := [(a_t, .inr (5, [v_t_text, .int t_length, .int t_at, .int p1, .int p2]))]) hx hb hts iw5 tyX5 tyX5_ok nmX5 hown hK hP hD hS 0 rfl rfl 4 (by decide) hf21 (fun _ h9 => h9) rfl (by decide +kernel) rfl rfl (Nat.le_of_ble_eq_true rfl) rfl dX5_fail_14 (fun H locs hP hD hS => ?_)
    cases hF
    exact we_vret hx hb hr hlocks dX5_fail_17 rfl hQ hP hD hS
abbrev rm_X5_settingAt : Room := { frames := 5, cells := 0, slots := 0, locals := 108 }
theorem hd_X5_settingAt : yX5_settingAt.cls = RX5 ∧ yX5_settingAt.cls ≠ "java/lang/invoke/MethodHandle" ∧ yX5_settingAt.cls ≠ "java/lang/invoke/VarHandle" ∧ (parseMethodDescriptor yX5_settingAt.desc).map (fun d => d.parameters.length) = some 1 := by decide +kernel
set_option maxRecDepth 100000 in
set_option maxHeartbeats 4000000 in
theorem c_X5_settingAt (l : Launch) (D : va_G) (t : Nat → ClassId) (z : Nat) (x : Nat → Nat) (N : Nat) (a_t_text : Nat) (a_t_text_bytes : Nat) (a_t : Nat) (n_t_text_bytes : Nat) (t_text_length : Int32) (t_text_bytes_ : (Nat → Int32)) (t_length : Int32) (t_at : Int32) (t_error : Int32) (t_errorAt : Int32) (p1 : Int32) (H : Heap) (r : Int32) (hF : f_X5_settingAt N t_text_length t_text_bytes_ t_at n_t_text_bytes p1 = some (r)) : RdM l D (TY t) z x yX5_settingAt wsX5_settingAt rm_X5_settingAt [.ref a_t, .int p1] [(a_t_text, .inr (1, [.ref a_t_text_bytes, .int t_text_length])), (a_t_text_bytes, .inl (t 1, n_t_text_bytes, .inl t_text_bytes_)), (a_t, .inr (5, [.ref a_t_text, .int t_length, .int t_at, .int t_error, .int t_errorAt]))] H (some (.int r)) := by
  refine rd_of (cc := cX5_settingAt) (maxL := 2) (ret := (some .int)) (by decide) rfl (Nat.le_of_ble_eq_true rfl) ?_
  intro p e s m args below meth c Q hQ hx hb hr hml hts hown hlocks hH hP hC ls hl
  have hown : s.vm.findClass RX5 = some m.cls := hown
  have hl : lv_has ls 2 [(0, .ref a_t), (1, .int p1)] := hl
  have hK := hC.1
  unfold f_X5_settingAt at hF
  refine lv_aload_n hx hb dX5_settingAt_0 rfl (lv_at hl 0 rfl) ?_
  refine lv_iload_n hx hb dX5_settingAt_1 rfl (lv_at hl 1 rfl) ?_
  refine va_ldcS hx hb hown (show vk_R RX5 104 "hot" (x (10 + 1)) s from st_1 hC.2.2) dX5_settingAt_2 ?_
  obtain ⟨r4_1, h4_1, hF⟩ := bndE hF
  refine rdV (As := [.int p1, .ref (x (10 + 1))]) (rest := []) (C := RX5) ⟨hx, hb, hml, hown, hts⟩ (c_X5_isWord l D t z x N a_t_text a_t_text_bytes a_t n_t_text_bytes t_text_length t_text_bytes_ t_length t_at t_error t_errorAt p1 1 H r4_1 h4_1) (cwV 2 hts gX5_settingAt_X5_isWord rfl rfl rfl hd_X5_isWord ⟨Nat.le_of_ble_eq_true rfl, Nat.le_of_ble_eq_true rfl⟩) hC (selP (m9 := [true, true, true]) rfl rfl hP) 2 rfl (show vwCl[5]? = some (RX5, TX5, 5) from rfl) rfl rfl hl.1 rfl (Nat.le_of_ble_eq_true rfl) dX5_settingAt_4 ⟨Nat.zero_le _, Nat.zero_le _⟩ rfl ?_
  refine lv_if_eq (tgt := 12) hx hb dX5_settingAt_7 (by decide) (fun c7 => ?_) (fun c7 => ?_)
  · have hF := brT c7 hF
    refine lv_aload_n hx hb dX5_settingAt_12 rfl (lv_at hl 0 rfl) ?_
    refine lv_iload_n hx hb dX5_settingAt_13 rfl (lv_at hl 1 rfl) ?_
    refine va_ldcS hx hb hown (show vk_R RX5 106 "size" (x (10 + 2)) s from st_2 hC.2.2) dX5_settingAt_14 ?_
    obtain ⟨r16_3, h16_3, hF⟩ := bndE hF
    refine rdV (As := [.int p1, .ref (x (10 + 2))]) (rest := []) (C := RX5) ⟨hx, hb, hml, hown, hts⟩ (c_X5_isWord l D t z x N a_t_text a_t_text_bytes a_t n_t_text_bytes t_text_length t_text_bytes_ t_length t_at t_error t_errorAt p1 2 H r16_3 h16_3) (cwV 2 hts gX5_settingAt_X5_isWord rfl rfl rfl hd_X5_isWord ⟨Nat.le_of_ble_eq_true rfl, Nat.le_of_ble_eq_true rfl⟩) hC (selP (m9 := [true, true, true]) rfl rfl hP) 2 rfl (show vwCl[5]? = some (RX5, TX5, 5) from rfl) rfl rfl hl.1 rfl (Nat.le_of_ble_eq_true rfl) dX5_settingAt_16 ⟨Nat.zero_le _, Nat.zero_le _⟩ rfl ?_
    refine lv_if_eq (tgt := 24) hx hb dX5_settingAt_19 (by decide) (fun c19 => ?_) (fun c19 => ?_)
    · have hF := brT c19 hF
      refine lv_aload_n hx hb dX5_settingAt_24 rfl (lv_at hl 0 rfl) ?_
      refine lv_iload_n hx hb dX5_settingAt_25 rfl (lv_at hl 1 rfl) ?_
      refine va_ldcS hx hb hown (show vk_R RX5 108 "pieces" (x (10 + 3)) s from st_3 hC.2.2) dX5_settingAt_26 ?_
      obtain ⟨r28_5, h28_5, hF⟩ := bndE hF
      refine rdV (As := [.int p1, .ref (x (10 + 3))]) (rest := []) (C := RX5) ⟨hx, hb, hml, hown, hts⟩ (c_X5_isWord l D t z x N a_t_text a_t_text_bytes a_t n_t_text_bytes t_text_length t_text_bytes_ t_length t_at t_error t_errorAt p1 3 H r28_5 h28_5) (cwV 2 hts gX5_settingAt_X5_isWord rfl rfl rfl hd_X5_isWord ⟨Nat.le_of_ble_eq_true rfl, Nat.le_of_ble_eq_true rfl⟩) hC (selP (m9 := [true, true, true]) rfl rfl hP) 2 rfl (show vwCl[5]? = some (RX5, TX5, 5) from rfl) rfl rfl hl.1 rfl (Nat.le_of_ble_eq_true rfl) dX5_settingAt_28 ⟨Nat.zero_le _, Nat.zero_le _⟩ rfl ?_
      refine lv_if_eq (tgt := 36) hx hb dX5_settingAt_31 (by decide) (fun c31 => ?_) (fun c31 => ?_)
      · have hF := brT c31 hF
        refine lv_aload_n hx hb dX5_settingAt_36 rfl (lv_at hl 0 rfl) ?_
        refine lv_iload_n hx hb dX5_settingAt_37 rfl (lv_at hl 1 rfl) ?_
        refine va_ldcS hx hb hown (show vk_R RX5 110 "pending" (x (10 + 4)) s from st_4 hC.2.2) dX5_settingAt_38 ?_
        obtain ⟨r40_7, h40_7, hF⟩ := bndE hF
        refine rdV (As := [.int p1, .ref (x (10 + 4))]) (rest := []) (C := RX5) ⟨hx, hb, hml, hown, hts⟩ (c_X5_isWord l D t z x N a_t_text a_t_text_bytes a_t n_t_text_bytes t_text_length t_text_bytes_ t_length t_at t_error t_errorAt p1 4 H r40_7 h40_7) (cwV 2 hts gX5_settingAt_X5_isWord rfl rfl rfl hd_X5_isWord ⟨Nat.le_of_ble_eq_true rfl, Nat.le_of_ble_eq_true rfl⟩) hC (selP (m9 := [true, true, true]) rfl rfl hP) 2 rfl (show vwCl[5]? = some (RX5, TX5, 5) from rfl) rfl rfl hl.1 rfl (Nat.le_of_ble_eq_true rfl) dX5_settingAt_40 ⟨Nat.zero_le _, Nat.zero_le _⟩ rfl ?_
        refine lv_if_eq (tgt := 50) hx hb dX5_settingAt_43 (by decide) (fun c43 => ?_) (fun c43 => ?_)
        · have hF := brT c43 hF
          refine lv_iconst (v := (-1)) hx hb dX5_settingAt_50 (by decide) ?_
          cases hF
          exact rd_iret hx hb hr hlocks dX5_settingAt_51 rfl hQ
        · have hF := brF c43 hF
          refine lv_iconst (v := 3) hx hb dX5_settingAt_46 (by decide) ?_
          refine lv_goto (tgt := 51) hx hb dX5_settingAt_47 (by decide) ?_
          cases hF
          exact rd_iret hx hb hr hlocks dX5_settingAt_51 rfl hQ
      · have hF := brF c31 hF
        refine lv_iconst (v := 2) hx hb dX5_settingAt_34 (by decide) ?_
        cases hF
        exact rd_iret hx hb hr hlocks dX5_settingAt_35 rfl hQ
    · have hF := brF c19 hF
      refine lv_iconst (v := 1) hx hb dX5_settingAt_22 (by decide) ?_
      cases hF
      exact rd_iret hx hb hr hlocks dX5_settingAt_23 rfl hQ
  · have hF := brF c7 hF
    refine lv_iconst (v := 0) hx hb dX5_settingAt_10 (by decide) ?_
    cases hF
    exact rd_iret hx hb hr hlocks dX5_settingAt_11 rfl hQ
abbrev rm_X5_takeSign : Room := { frames := 2, cells := 0, slots := 0, locals := 41 }
theorem hd_X5_takeSign : yX5_takeSign.cls = RX5 ∧ yX5_takeSign.cls ≠ "java/lang/invoke/MethodHandle" ∧ yX5_takeSign.cls ≠ "java/lang/invoke/VarHandle" ∧ (parseMethodDescriptor yX5_takeSign.desc).map (fun d => d.parameters.length) = some 2 := by decide +kernel
set_option maxRecDepth 100000 in
set_option maxHeartbeats 4000000 in
theorem c_X5_takeSign (l : Launch) (D : va_G) (t : Nat → ClassId) (z : Nat) (x : Nat → Nat) (N : Nat) (a_t_text : Nat) (a_t_text_bytes : Nat) (a_t : Nat) (n_t_text_bytes : Nat) (t_text_length : Int32) (t_text_bytes_ : (Nat → Int32)) (t_length : Int32) (t_at : Int32) (t_error : Int32) (t_errorAt : Int32) (p1 : Int32) (p2 : Int32) (sz : Nat) (r : Int32) (t_at' : Int32) (t_error' : Int32) (t_errorAt' : Int32) (hF : f_X5_takeSign N t_text_length t_text_bytes_ t_length t_at t_error t_errorAt n_t_text_bytes p1 p2 = some (r, t_at', t_error', t_errorAt')) : WrM l D (TY t) z x yX5_takeSign wsX5_takeSign rm_X5_takeSign [.ref a_t, .int p1, .int p2] [(a_t_text, .inr (1, [.ref a_t_text_bytes, .int t_text_length])), (a_t_text_bytes, .inl (t 1, n_t_text_bytes, .inl t_text_bytes_)), (a_t, .inr (5, [.ref a_t_text, .int t_length, .int t_at, .int t_error, .int t_errorAt]))] [(a_t_text, .inr (1, [.ref a_t_text_bytes, .int t_text_length])), (a_t_text_bytes, .inl (t 1, n_t_text_bytes, .inl t_text_bytes_)), (a_t, .inr (5, [.ref a_t_text, .int t_length, .int t_at', .int t_error', .int t_errorAt']))] sz (some (.int r)) 0 0 := by
  obtain ⟨T9, hT⟩ : ∃ T9, T9 = (r, t_at', t_error', t_errorAt') := ⟨_, rfl⟩
  rw [← hT] at hF
  obtain rfl : r = T9.1 := by rw [hT]
  obtain rfl : t_at' = T9.2.1 := by rw [hT]
  obtain rfl : t_error' = T9.2.2.1 := by rw [hT]
  obtain rfl : t_errorAt' = T9.2.2.2 := by rw [hT]
  clear hT
  refine wr_of (cc := cX5_takeSign) (maxL := 3) (ret := (some .boolean)) (by decide) rfl (Nat.le_of_ble_eq_true rfl) ?_
  intro p e s m args below meth c A Q hQ hx hb hr hml hts hown hlocks hin H locs hP hD hS hA hz hC ls hl
  have hown : s.vm.findClass RX5 = some m.cls := hown
  have hl : lv_has ls 3 [(0, .ref a_t), (1, .int p1), (2, .int p2)] := hl
  have hK := hC.1
  have iw5 : ∀ w ∈ wsX50, w ∈ wsX5_takeSign := fun _ h => List.mem_cons_of_mem _ (List.mem_append_left _ (List.mem_append_right _ h))
  have hf9 := hts (.fieldLink RX5 9 "CrackedColumn$Reader" "length" "I") (by decide +kernel)
  have hf15 := hts (.fieldLink RX5 15 "CrackedColumn$Reader" "at" "I") (by decide +kernel)
  have hf24 := hts (.fieldLink RX5 24 "CrackedColumn$Reader" "text" "LCrackedColumn$Bytes;") (by decide +kernel)
  unfold f_X5_takeSign at hF
  refine lv_aload_n hx hb dX5_takeSign_0 rfl (lv_at hl 0 rfl) ?_
  obtain ⟨t_at_1_1, h1_1, hF⟩ := bndE hF
  refine wrVM (As := []) (rest := []) (C := RX5) (wn := [(a_t_text, .inr (1, [.ref a_t_text_bytes, .int t_text_length])), (a_t_text_bytes, .inl (t 1, n_t_text_bytes, .inl t_text_bytes_)), (a_t, .inr (5, [.ref a_t_text, .int t_length, .int t_at_1_1, .int t_error, .int t_errorAt]))]) ⟨hx, hb, hml, hown, hts⟩ (c_X5_skipSpaces l D t z x N a_t_text a_t_text_bytes a_t n_t_text_bytes t_text_length t_text_bytes_ t_length t_at t_error t_errorAt H.size t_at_1_1 h1_1) (cwV 0 hts gX5_takeSign_X5_skipSpaces rfl rfl rfl hd_X5_skipSpaces ⟨Nat.le_of_ble_eq_true rfl, Nat.le_of_ble_eq_true rfl⟩) (hC.at hz hS) hP hD hS hA hz [true, true, true] rfl rfl rfl rfl 2 rfl (show vwCl[5]? = some (RX5, TX5, 5) from rfl) rfl rfl hl.1 rfl (Nat.le_of_ble_eq_true rfl) dX5_takeSign_1 ⟨Nat.zero_le _, Nat.zero_le _⟩ rfl (fun H locs hP hD hS => ?_)
  refine lv_aload_n hx hb dX5_takeSign_4 rfl (lv_at hl 0 rfl) ?_
  refine va_get (D := D) (ci := 5) (v := .int t_at_1_1) (C := RX5) (T := TX5) (N := 5) hx hb hts iw5 hown hK hP 2 rfl rfl 2 (by decide) hf15 (fun _ h9 => h9) rfl dX5_takeSign_5 ?_
  refine lv_aload_n hx hb dX5_takeSign_8 rfl (lv_at hl 0 rfl) ?_
  refine va_get (D := D) (ci := 5) (v := .int t_length) (C := RX5) (T := TX5) (N := 5) hx hb hts iw5 hown hK hP 2 rfl rfl 1 (by decide) hf9 (fun _ h9 => h9) rfl dX5_takeSign_9 ?_
  obtain ⟨k42_3, ek42_3, hF⟩ := jnE hF
  have hk42_3 : ∀ (H : Heap) (locs : List Loc) (ls : Array Slot), va_P D vwCl [(a_t_text, .inr (1, [.ref a_t_text_bytes, .int t_text_length])), (a_t_text_bytes, .inl (t 1, n_t_text_bytes, .inl t_text_bytes_)), (a_t, .inr (5, [.ref a_t_text, .int t_length, .int t_at_1_1, .int t_error, .int t_errorAt]))] H → va_D A [(a_t_text, .inr (1, [.ref a_t_text_bytes, .int t_text_length])), (a_t_text_bytes, .inl (t 1, n_t_text_bytes, .inl t_text_bytes_)), (a_t, .inr (5, [.ref a_t_text, .int t_length, .int t_at_1_1, .int t_error, .int t_errorAt]))] → va_S A s.heap H locs → lv_has ls 3 [(0, .ref a_t), (2, .int p2)] → k42_3 = some T9 → W p l e rm_X5_takeSign s m args below meth c H locs 0 0 Q (F0 m 42 ls []) := by
    subst ek42_3
    intro H locs ls hP hD hS hl hF
    refine lv_iload_n hx hb dX5_takeSign_42 rfl (lv_at hl 1 rfl) ?_
    refine lv_if_eq (tgt := 56) hx hb dX5_takeSign_43 (by decide) (fun c43 => ?_) (fun c43 => ?_)
    · have hF := brT c43 hF
      refine lv_iconst (v := 0) hx hb dX5_takeSign_56 (by decide) ?_
      cases hF
      exact we_zret hx hb hr hlocks dX5_takeSign_57 rfl rfl hQ hP hD hS
    · have hF := brF c43 hF
      refine lv_aload_n hx hb dX5_takeSign_46 rfl (lv_at hl 0 rfl) ?_
      refine lv_bipush (v := (-2)) hx hb dX5_takeSign_47 (by decide) ?_
      refine lv_aload_n hx hb dX5_takeSign_49 rfl (lv_at hl 0 rfl) ?_
      refine va_get (D := D) (ci := 5) (v := .int t_at_1_1) (C := RX5) (T := TX5) (N := 5) hx hb hts iw5 hown hK hP 2 rfl rfl 2 (by decide) hf15 (fun _ h9 => h9) rfl dX5_takeSign_50 ?_
      obtain ⟨t_error_53_4, t_errorAt_53_5, h53_5, hF⟩ := bnd2E hF
      refine wrVM (As := [.int (-2), .int t_at_1_1]) (rest := []) (C := RX5) (wn := [(a_t_text, .inr (1, [.ref a_t_text_bytes, .int t_text_length])), (a_t_text_bytes, .inl (t 1, n_t_text_bytes, .inl t_text_bytes_)), (a_t, .inr (5, [.ref a_t_text, .int t_length, .int t_at_1_1, .int t_error_53_4, .int t_errorAt_53_5]))]) ⟨hx, hb, hml, hown, hts⟩ (c_X5_fail l D t z x a_t (.ref a_t_text) t_length t_at_1_1 t_error t_errorAt (-2) t_at_1_1 H.size t_error_53_4 t_errorAt_53_5 h53_5) (cwV 2 hts gX5_takeSign_X5_fail rfl rfl rfl hd_X5_fail ⟨Nat.le_of_ble_eq_true rfl, Nat.le_of_ble_eq_true rfl⟩) (hC.at hz hS) hP hD hS hA hz [false, false, true] rfl rfl rfl rfl 0 rfl (show vwCl[5]? = some (RX5, TX5, 5) from rfl) rfl rfl hl.1 rfl (Nat.le_of_ble_eq_true rfl) dX5_takeSign_53 ⟨Nat.zero_le _, Nat.zero_le _⟩ rfl (fun H locs hP hD hS => ?_)
      refine lv_iconst (v := 0) hx hb dX5_takeSign_56 (by decide) ?_
      cases hF
      exact we_zret hx hb hr hlocks dX5_takeSign_57 rfl rfl hQ hP hD hS
  refine lv_icmp_ge (tgt := 42) hx hb dX5_takeSign_12 (by decide) (fun c12 => ?_) (fun c12 => ?_)
  · have hF := brT c12 hF
    exact hk42_3 H locs ls hP hD hS (lv_sub hl [0, 2] rfl) hF
  · have hF := brF c12 hF
    refine lv_aload_n hx hb dX5_takeSign_15 rfl (lv_at hl 0 rfl) ?_
    refine va_get (D := D) (ci := 5) (v := .ref a_t_text) (C := RX5) (T := TX5) (N := 5) hx hb hts iw5 hown hK hP 2 rfl rfl 0 (by decide) hf24 (fun _ h9 => h9) rfl dX5_takeSign_16 ?_
    refine lv_aload_n hx hb dX5_takeSign_19 rfl (lv_at hl 0 rfl) ?_
    refine va_get (D := D) (ci := 5) (v := .int t_at_1_1) (C := RX5) (T := TX5) (N := 5) hx hb hts iw5 hown hK hP 2 rfl rfl 2 (by decide) hf15 (fun _ h9 => h9) rfl dX5_takeSign_20 ?_
    obtain ⟨r23_7, h23_7, hF⟩ := bndE hF
    refine rdV (As := [.int t_at_1_1]) (rest := []) (C := RX1) ⟨hx, hb, hml, hown, hts⟩ (c_X1_byteAt l D t z x a_t_text a_t_text_bytes n_t_text_bytes t_text_length t_text_bytes_ t_at_1_1 H r23_7 h23_7) (cwV 1 hts gX5_takeSign_X1_byteAt rfl rfl rfl hd_X1_byteAt ⟨Nat.le_of_ble_eq_true rfl, Nat.le_of_ble_eq_true rfl⟩) (hC.at hz hS) (selP (m9 := [true, true, false]) rfl rfl hP) 0 rfl (show vwCl[1]? = some (RX1, TX1, 2) from rfl) rfl rfl hl.1 rfl (Nat.le_of_ble_eq_true rfl) dX5_takeSign_23 ⟨Nat.zero_le _, Nat.zero_le _⟩ rfl ?_
    refine lv_iload_n hx hb dX5_takeSign_26 rfl (lv_at hl 1 rfl) ?_
    refine lv_icmp_ne (tgt := 42) hx hb dX5_takeSign_27 (by decide) (fun c27 => ?_) (fun c27 => ?_)
    · have hF := brF c27 hF
      exact hk42_3 H locs ls hP hD hS (lv_sub hl [0, 2] rfl) hF
    · have hF := brT c27 hF
      refine lv_aload_n hx hb dX5_takeSign_30 rfl (lv_at hl 0 rfl) ?_
      refine lv_dup hx hb dX5_takeSign_31 rfl ?_
      refine va_get (D := D) (ci := 5) (v := .int t_at_1_1) (C := RX5) (T := TX5) (N := 5) hx hb hts iw5 hown hK hP 2 rfl rfl 2 (by decide) hf15 (fun _ h9 => h9) rfl dX5_takeSign_32 ?_
      refine lv_iconst (v := 1) hx hb dX5_takeSign_35 (by decide) ?_
      refine lv_iadd hx hb dX5_takeSign_36 ?_
      refine lv_topi (fun y37_9 ey37_9 => ?_)
      have hF := ltE ey37_9 hF
      refine my_put (ty := .int) (v := .int y37_9) (ci := 5) (C := RX5) (T := TX5) (N := 5) (wn := [(a_t_text, .inr (1, [.ref a_t_text_bytes, .int t_text_length])), (a_t_text_bytes, .inl (t 1, n_t_text_bytes, .inl t_text_bytes_)), (a_t, .inr (5, [.ref a_t_text, .int t_length, .int y37_9, .int t_error, .int t_errorAt]))]) hx hb hts iw5 tyX5 tyX5_ok nmX5 hown hK hP hD hS 2 rfl rfl 2 (by decide) hf15 (fun _ h9 => h9) rfl (by decide +kernel) rfl rfl (Nat.le_of_ble_eq_true rfl) rfl dX5_takeSign_37 (fun H locs hP hD hS => ?_)
      refine lv_iconst (v := 1) hx hb dX5_takeSign_40 (by decide) ?_
      cases hF
      exact we_zret hx hb hr hlocks dX5_takeSign_41 rfl rfl hQ hP hD hS
abbrev rm_X5_takeNumber : Room := { frames := 2, cells := 0, slots := 0, locals := 41 }
theorem hd_X5_takeNumber : yX5_takeNumber.cls = RX5 ∧ yX5_takeNumber.cls ≠ "java/lang/invoke/MethodHandle" ∧ yX5_takeNumber.cls ≠ "java/lang/invoke/VarHandle" ∧ (parseMethodDescriptor yX5_takeNumber.desc).map (fun d => d.parameters.length) = some 2 := by decide +kernel
set_option maxRecDepth 100000 in
set_option maxHeartbeats 4000000 in
theorem c_X5_takeNumber (l : Launch) (D : va_G) (t : Nat → ClassId) (z : Nat) (x : Nat → Nat) (N : Nat) (a_t_text : Nat) (a_t_text_bytes : Nat) (a_t : Nat) (n_t_text_bytes : Nat) (t_text_length : Int32) (t_text_bytes_ : (Nat → Int32)) (t_length : Int32) (t_at : Int32) (t_error : Int32) (t_errorAt : Int32) (p1 : Int32) (p2 : Int32) (sz : Nat) (r : Int32) (t_at' : Int32) (t_error' : Int32) (t_errorAt' : Int32) (hF : f_X5_takeNumber N t_text_length t_text_bytes_ t_length t_at t_error t_errorAt n_t_text_bytes p1 p2 = some (r, t_at', t_error', t_errorAt')) : WrM l D (TY t) z x yX5_takeNumber wsX5_takeNumber rm_X5_takeNumber [.ref a_t, .int p1, .int p2] [(a_t_text, .inr (1, [.ref a_t_text_bytes, .int t_text_length])), (a_t_text_bytes, .inl (t 1, n_t_text_bytes, .inl t_text_bytes_)), (a_t, .inr (5, [.ref a_t_text, .int t_length, .int t_at, .int t_error, .int t_errorAt]))] [(a_t_text, .inr (1, [.ref a_t_text_bytes, .int t_text_length])), (a_t_text_bytes, .inl (t 1, n_t_text_bytes, .inl t_text_bytes_)), (a_t, .inr (5, [.ref a_t_text, .int t_length, .int t_at', .int t_error', .int t_errorAt']))] sz (some (.int r)) 0 0 := by
  obtain ⟨T9, hT⟩ : ∃ T9, T9 = (r, t_at', t_error', t_errorAt') := ⟨_, rfl⟩
  rw [← hT] at hF
  obtain rfl : r = T9.1 := by rw [hT]
  obtain rfl : t_at' = T9.2.1 := by rw [hT]
  obtain rfl : t_error' = T9.2.2.1 := by rw [hT]
  obtain rfl : t_errorAt' = T9.2.2.2 := by rw [hT]
  clear hT
  refine wr_of (cc := cX5_takeNumber) (maxL := 5) (ret := (some .int)) (by decide) rfl (Nat.le_of_ble_eq_true rfl) ?_
  intro p e s m args below meth c A Q hQ hx hb hr hml hts hown hlocks hin H locs hP hD hS hA hz hC ls hl
  have hown : s.vm.findClass RX5 = some m.cls := hown
  have hl : lv_has ls 5 [(0, .ref a_t), (1, .int p1), (2, .int p2)] := hl
  have hK := hC.1
  have iw5 : ∀ w ∈ wsX50, w ∈ wsX5_takeNumber := fun _ h => List.mem_cons_of_mem _ (List.mem_append_left _ (List.mem_append_right _ h))
  have hf9 := hts (.fieldLink RX5 9 "CrackedColumn$Reader" "length" "I") (by decide +kernel)
  have hf15 := hts (.fieldLink RX5 15 "CrackedColumn$Reader" "at" "I") (by decide +kernel)
  have hf24 := hts (.fieldLink RX5 24 "CrackedColumn$Reader" "text" "LCrackedColumn$Bytes;") (by decide +kernel)
  have hm_min131 := hts (.methodLink RX5 131 Lib.Math.min.name) (by decide +kernel)
  have hm_min_s := hts (.static Lib.Math.min.name) (by decide +kernel)
  have hm_min_c := hts (.code Lib.Math.min.name Lib.Math.min.code 2 (some .int)) (by decide +kernel)
  have hm_init := hts (.initialized "java/lang/Math") (by decide +kernel)
  unfold f_X5_takeNumber at hF
  refine lv_aload_n hx hb dX5_takeNumber_0 rfl (lv_at hl 0 rfl) ?_
  obtain ⟨t_at_1_1, h1_1, hF⟩ := bndE hF
  refine wrVM (As := []) (rest := []) (C := RX5) (wn := [(a_t_text, .inr (1, [.ref a_t_text_bytes, .int t_text_length])), (a_t_text_bytes, .inl (t 1, n_t_text_bytes, .inl t_text_bytes_)), (a_t, .inr (5, [.ref a_t_text, .int t_length, .int t_at_1_1, .int t_error, .int t_errorAt]))]) ⟨hx, hb, hml, hown, hts⟩ (c_X5_skipSpaces l D t z x N a_t_text a_t_text_bytes a_t n_t_text_bytes t_text_length t_text_bytes_ t_length t_at t_error t_errorAt H.size t_at_1_1 h1_1) (cwV 0 hts gX5_takeNumber_X5_skipSpaces rfl rfl rfl hd_X5_skipSpaces ⟨Nat.le_of_ble_eq_true rfl, Nat.le_of_ble_eq_true rfl⟩) (hC.at hz hS) hP hD hS hA hz [true, true, true] rfl rfl rfl rfl 2 rfl (show vwCl[5]? = some (RX5, TX5, 5) from rfl) rfl rfl hl.1 rfl (Nat.le_of_ble_eq_true rfl) dX5_takeNumber_1 ⟨Nat.zero_le _, Nat.zero_le _⟩ rfl (fun H locs hP hD hS => ?_)
  refine lv_aload_n hx hb dX5_takeNumber_4 rfl (lv_at hl 0 rfl) ?_
  refine va_get (D := D) (ci := 5) (v := .int t_at_1_1) (C := RX5) (T := TX5) (N := 5) hx hb hts iw5 hown hK hP 2 rfl rfl 2 (by decide) hf15 (fun _ h9 => h9) rfl dX5_takeNumber_5 ?_
  refine lv_istore_n (lv' := [(3, .int t_at_1_1), (0, .ref a_t), (1, .int p1), (2, .int p2)]) hx hb dX5_takeNumber_8 rfl hl (by decide) rfl (fun ls hl => ?_)
  refine lv_iconst (v := 0) hx hb dX5_takeNumber_9 (by decide) ?_
  refine lv_istore (lv' := [(4, .int 0), (3, .int t_at_1_1), (0, .ref a_t), (1, .int p1), (2, .int p2)]) hx hb dX5_takeNumber_10 hl (by decide) rfl (fun ls hl => ?_)
  obtain ⟨k80_5, ek80_5, hF⟩ := jnE hF
  have hk80_5 : ∀ (x4_80_3 : Int32) (t_at_80_4 : Int32) (H : Heap) (locs : List Loc) (ls : Array Slot), va_P D vwCl [(a_t_text, .inr (1, [.ref a_t_text_bytes, .int t_text_length])), (a_t_text_bytes, .inl (t 1, n_t_text_bytes, .inl t_text_bytes_)), (a_t, .inr (5, [.ref a_t_text, .int t_length, .int t_at_80_4, .int t_error, .int t_errorAt]))] H → va_D A [(a_t_text, .inr (1, [.ref a_t_text_bytes, .int t_text_length])), (a_t_text_bytes, .inl (t 1, n_t_text_bytes, .inl t_text_bytes_)), (a_t, .inr (5, [.ref a_t_text, .int t_length, .int t_at_80_4, .int t_error, .int t_errorAt]))] → va_S A s.heap H locs → lv_has ls 5 [(0, .ref a_t), (1, .int p1), (2, .int p2), (3, .int t_at_1_1), (4, .int x4_80_3)] → k80_5 x4_80_3 t_at_80_4 = some T9 → W p l e rm_X5_takeNumber s m args below meth c H locs 0 0 Q (F0 m 80 ls []) := by
    subst ek80_5
    intro x4_80_3 t_at_80_4 H locs ls hP hD hS hl hF
    refine lv_aload_n hx hb dX5_takeNumber_80 rfl (lv_at hl 0 rfl) ?_
    refine va_get (D := D) (ci := 5) (v := .int t_at_80_4) (C := RX5) (T := TX5) (N := 5) hx hb hts iw5 hown hK hP 2 rfl rfl 2 (by decide) hf15 (fun _ h9 => h9) rfl dX5_takeNumber_81 ?_
    refine lv_iload_n hx hb dX5_takeNumber_84 rfl (lv_at hl 3 rfl) ?_
    refine lv_icmp_ne (tgt := 98) hx hb dX5_takeNumber_85 (by decide) (fun c85 => ?_) (fun c85 => ?_)
    · have hF := brF c85 hF
      refine lv_iload hx hb dX5_takeNumber_98 (lv_at hl 4 rfl) ?_
      refine lv_iload_n hx hb dX5_takeNumber_100 rfl (lv_at hl 1 rfl) ?_
      refine lv_icmp_lt (tgt := 110) hx hb dX5_takeNumber_101 (by decide) (fun c101 => ?_) (fun c101 => ?_)
      · have hF := brT c101 hF
        refine lv_aload_n hx hb dX5_takeNumber_110 rfl (lv_at hl 0 rfl) ?_
        refine lv_bipush (v := (-3)) hx hb dX5_takeNumber_111 (by decide) ?_
        refine lv_iload_n hx hb dX5_takeNumber_113 rfl (lv_at hl 3 rfl) ?_
        obtain ⟨t_error_114_6, t_errorAt_114_7, h114_7, hF⟩ := bnd2E hF
        refine wrVM (As := [.int (-3), .int t_at_1_1]) (rest := []) (C := RX5) (wn := [(a_t_text, .inr (1, [.ref a_t_text_bytes, .int t_text_length])), (a_t_text_bytes, .inl (t 1, n_t_text_bytes, .inl t_text_bytes_)), (a_t, .inr (5, [.ref a_t_text, .int t_length, .int t_at_80_4, .int t_error_114_6, .int t_errorAt_114_7]))]) ⟨hx, hb, hml, hown, hts⟩ (c_X5_fail l D t z x a_t (.ref a_t_text) t_length t_at_80_4 t_error t_errorAt (-3) t_at_1_1 H.size t_error_114_6 t_errorAt_114_7 h114_7) (cwV 2 hts gX5_takeNumber_X5_fail rfl rfl rfl hd_X5_fail ⟨Nat.le_of_ble_eq_true rfl, Nat.le_of_ble_eq_true rfl⟩) (hC.at hz hS) hP hD hS hA hz [false, false, true] rfl rfl rfl rfl 0 rfl (show vwCl[5]? = some (RX5, TX5, 5) from rfl) rfl rfl hl.1 rfl (Nat.le_of_ble_eq_true rfl) dX5_takeNumber_114 ⟨Nat.zero_le _, Nat.zero_le _⟩ rfl (fun H locs hP hD hS => ?_)
        refine lv_iload hx hb dX5_takeNumber_117 (lv_at hl 4 rfl) ?_
        cases hF
        exact we_iret hx hb hr hlocks dX5_takeNumber_119 rfl hQ hP hD hS
      · have hF := brF c101 hF
        refine lv_iload hx hb dX5_takeNumber_104 (lv_at hl 4 rfl) ?_
        refine lv_iload_n hx hb dX5_takeNumber_106 rfl (lv_at hl 2 rfl) ?_
        refine lv_icmp_le (tgt := 117) hx hb dX5_takeNumber_107 (by decide) (fun c107 => ?_) (fun c107 => ?_)
        · have hF := brT c107 hF
          refine lv_iload hx hb dX5_takeNumber_117 (lv_at hl 4 rfl) ?_
          cases hF
          exact we_iret hx hb hr hlocks dX5_takeNumber_119 rfl hQ hP hD hS
        · have hF := brF c107 hF
          refine lv_aload_n hx hb dX5_takeNumber_110 rfl (lv_at hl 0 rfl) ?_
          refine lv_bipush (v := (-3)) hx hb dX5_takeNumber_111 (by decide) ?_
          refine lv_iload_n hx hb dX5_takeNumber_113 rfl (lv_at hl 3 rfl) ?_
          obtain ⟨t_error_114_9, t_errorAt_114_10, h114_10, hF⟩ := bnd2E hF
          refine wrVM (As := [.int (-3), .int t_at_1_1]) (rest := []) (C := RX5) (wn := [(a_t_text, .inr (1, [.ref a_t_text_bytes, .int t_text_length])), (a_t_text_bytes, .inl (t 1, n_t_text_bytes, .inl t_text_bytes_)), (a_t, .inr (5, [.ref a_t_text, .int t_length, .int t_at_80_4, .int t_error_114_9, .int t_errorAt_114_10]))]) ⟨hx, hb, hml, hown, hts⟩ (c_X5_fail l D t z x a_t (.ref a_t_text) t_length t_at_80_4 t_error t_errorAt (-3) t_at_1_1 H.size t_error_114_9 t_errorAt_114_10 h114_10) (cwV 2 hts gX5_takeNumber_X5_fail rfl rfl rfl hd_X5_fail ⟨Nat.le_of_ble_eq_true rfl, Nat.le_of_ble_eq_true rfl⟩) (hC.at hz hS) hP hD hS hA hz [false, false, true] rfl rfl rfl rfl 0 rfl (show vwCl[5]? = some (RX5, TX5, 5) from rfl) rfl rfl hl.1 rfl (Nat.le_of_ble_eq_true rfl) dX5_takeNumber_114 ⟨Nat.zero_le _, Nat.zero_le _⟩ rfl (fun H locs hP hD hS => ?_)
          refine lv_iload hx hb dX5_takeNumber_117 (lv_at hl 4 rfl) ?_
          cases hF
          exact we_iret hx hb hr hlocks dX5_takeNumber_119 rfl hQ hP hD hS
    · have hF := brT c85 hF
      refine lv_aload_n hx hb dX5_takeNumber_88 rfl (lv_at hl 0 rfl) ?_
      refine lv_bipush (v := (-2)) hx hb dX5_takeNumber_89 (by decide) ?_
      refine lv_iload_n hx hb dX5_takeNumber_91 rfl (lv_at hl 3 rfl) ?_
      obtain ⟨t_error_92_12, t_errorAt_92_13, h92_13, hF⟩ := bnd2E hF
      refine wrVM (As := [.int (-2), .int t_at_1_1]) (rest := []) (C := RX5) (wn := [(a_t_text, .inr (1, [.ref a_t_text_bytes, .int t_text_length])), (a_t_text_bytes, .inl (t 1, n_t_text_bytes, .inl t_text_bytes_)), (a_t, .inr (5, [.ref a_t_text, .int t_length, .int t_at_80_4, .int t_error_92_12, .int t_errorAt_92_13]))]) ⟨hx, hb, hml, hown, hts⟩ (c_X5_fail l D t z x a_t (.ref a_t_text) t_length t_at_80_4 t_error t_errorAt (-2) t_at_1_1 H.size t_error_92_12 t_errorAt_92_13 h92_13) (cwV 2 hts gX5_takeNumber_X5_fail rfl rfl rfl hd_X5_fail ⟨Nat.le_of_ble_eq_true rfl, Nat.le_of_ble_eq_true rfl⟩) (hC.at hz hS) hP hD hS hA hz [false, false, true] rfl rfl rfl rfl 0 rfl (show vwCl[5]? = some (RX5, TX5, 5) from rfl) rfl rfl hl.1 rfl (Nat.le_of_ble_eq_true rfl) dX5_takeNumber_92 ⟨Nat.zero_le _, Nat.zero_le _⟩ rfl (fun H locs hP hD hS => ?_)
      refine lv_goto (tgt := 117) hx hb dX5_takeNumber_95 (by decide) ?_
      refine lv_iload hx hb dX5_takeNumber_117 (lv_at hl 4 rfl) ?_
      cases hF
      exact we_iret hx hb hr hlocks dX5_takeNumber_119 rfl hQ hP hD hS
  have hlp12 : ∀ n12 : Nat, ∀ (x4_12_15 : Int32) (t_at_12_16 : Int32) (H : Heap) (locs : List Loc) (ls : Array Slot), va_P D vwCl [(a_t_text, .inr (1, [.ref a_t_text_bytes, .int t_text_length])), (a_t_text_bytes, .inl (t 1, n_t_text_bytes, .inl t_text_bytes_)), (a_t, .inr (5, [.ref a_t_text, .int t_length, .int t_at_12_16, .int t_error, .int t_errorAt]))] H → va_D A [(a_t_text, .inr (1, [.ref a_t_text_bytes, .int t_text_length])), (a_t_text_bytes, .inl (t 1, n_t_text_bytes, .inl t_text_bytes_)), (a_t, .inr (5, [.ref a_t_text, .int t_length, .int t_at_12_16, .int t_error, .int t_errorAt]))] → va_S A s.heap H locs → lv_has ls 5 [(0, .ref a_t), (1, .int p1), (2, .int p2), (3, .int t_at_1_1), (4, .int x4_12_15)] → f_X5_takeNumber_12 t_text_length t_text_bytes_ t_length n_t_text_bytes k80_5 n12 x4_12_15 t_at_12_16 = some T9 → W p l e rm_X5_takeNumber s m args below meth c H locs 0 0 Q (F0 m 12 ls []) := by
    intro n12
    induction n12 with
    | zero =>
      intro x4_12_15 t_at_12_16 H locs ls hP hD hS hl hF
      cases (show none = some T9 from hF)
    | succ n12 ih12 =>
      intro x4_12_15 t_at_12_16 H locs ls hP hD hS hl hF
      rw [f_X5_takeNumber_12] at hF
      refine lv_aload_n hx hb dX5_takeNumber_12 rfl (lv_at hl 0 rfl) ?_
      refine va_get (D := D) (ci := 5) (v := .int t_at_12_16) (C := RX5) (T := TX5) (N := 5) hx hb hts iw5 hown hK hP 2 rfl rfl 2 (by decide) hf15 (fun _ h9 => h9) rfl dX5_takeNumber_13 ?_
      refine lv_aload_n hx hb dX5_takeNumber_16 rfl (lv_at hl 0 rfl) ?_
      refine va_get (D := D) (ci := 5) (v := .int t_length) (C := RX5) (T := TX5) (N := 5) hx hb hts iw5 hown hK hP 2 rfl rfl 1 (by decide) hf9 (fun _ h9 => h9) rfl dX5_takeNumber_17 ?_
      refine lv_icmp_ge (tgt := 80) hx hb dX5_takeNumber_20 (by decide) (fun c20 => ?_) (fun c20 => ?_)
      · have hF := brT c20 hF
        exact hk80_5 x4_12_15 t_at_12_16 H locs ls hP hD hS hl hF
      · have hF := brF c20 hF
        refine lv_aload_n hx hb dX5_takeNumber_23 rfl (lv_at hl 0 rfl) ?_
        refine va_get (D := D) (ci := 5) (v := .ref a_t_text) (C := RX5) (T := TX5) (N := 5) hx hb hts iw5 hown hK hP 2 rfl rfl 0 (by decide) hf24 (fun _ h9 => h9) rfl dX5_takeNumber_24 ?_
        refine lv_aload_n hx hb dX5_takeNumber_27 rfl (lv_at hl 0 rfl) ?_
        refine va_get (D := D) (ci := 5) (v := .int t_at_12_16) (C := RX5) (T := TX5) (N := 5) hx hb hts iw5 hown hK hP 2 rfl rfl 2 (by decide) hf15 (fun _ h9 => h9) rfl dX5_takeNumber_28 ?_
        obtain ⟨r31_17, h31_17, hF⟩ := bndE hF
        refine rdV (As := [.int t_at_12_16]) (rest := []) (C := RX1) ⟨hx, hb, hml, hown, hts⟩ (c_X1_byteAt l D t z x a_t_text a_t_text_bytes n_t_text_bytes t_text_length t_text_bytes_ t_at_12_16 H r31_17 h31_17) (cwV 1 hts gX5_takeNumber_X1_byteAt rfl rfl rfl hd_X1_byteAt ⟨Nat.le_of_ble_eq_true rfl, Nat.le_of_ble_eq_true rfl⟩) (hC.at hz hS) (selP (m9 := [true, true, false]) rfl rfl hP) 0 rfl (show vwCl[1]? = some (RX1, TX1, 2) from rfl) rfl rfl hl.1 rfl (Nat.le_of_ble_eq_true rfl) dX5_takeNumber_31 ⟨Nat.zero_le _, Nat.zero_le _⟩ rfl ?_
        obtain ⟨r34_19, h34_19, hF⟩ := bndE hF
        refine rdS (As := [.int r31_17]) (rest := []) ⟨hx, hb, hml, hown, hts⟩ (c_X5_isDigit l D t z x r31_17 H r34_19 h34_19) (va_cwS 1 hts gX5_takeNumber_X5_isDigit rfl rfl rfl hd_X5_isDigit.2 ⟨Nat.le_of_ble_eq_true rfl, Nat.le_of_ble_eq_true rfl⟩) (hC.at hz hS) (selP (m9 := [false, false, false]) rfl rfl hP) rfl hl.1 rfl (Nat.le_of_ble_eq_true rfl) dX5_takeNumber_34 ⟨Nat.zero_le _, Nat.zero_le _⟩ rfl ?_
        refine lv_if_eq (tgt := 80) hx hb dX5_takeNumber_37 (by decide) (fun c37 => ?_) (fun c37 => ?_)
        · have hF := brT c37 hF
          exact hk80_5 x4_12_15 t_at_12_16 H locs ls hP hD hS hl hF
        · have hF := brF c37 hF
          refine lv_iload hx hb dX5_takeNumber_40 (lv_at hl 4 rfl) ?_
          refine lv_bipush (v := 10) hx hb dX5_takeNumber_42 (by decide) ?_
          refine lv_imul hx hb dX5_takeNumber_44 ?_
          refine lv_aload_n hx hb dX5_takeNumber_45 rfl (lv_at hl 0 rfl) ?_
          refine va_get (D := D) (ci := 5) (v := .ref a_t_text) (C := RX5) (T := TX5) (N := 5) hx hb hts iw5 hown hK hP 2 rfl rfl 0 (by decide) hf24 (fun _ h9 => h9) rfl dX5_takeNumber_46 ?_
          refine lv_aload_n hx hb dX5_takeNumber_49 rfl (lv_at hl 0 rfl) ?_
          refine va_get (D := D) (ci := 5) (v := .int t_at_12_16) (C := RX5) (T := TX5) (N := 5) hx hb hts iw5 hown hK hP 2 rfl rfl 2 (by decide) hf15 (fun _ h9 => h9) rfl dX5_takeNumber_50 ?_
          obtain ⟨r53_21, h53_21, hF⟩ := bndE hF
          refine rdV (As := [.int t_at_12_16]) (rest := [.int (x4_12_15 * 10)]) (C := RX1) ⟨hx, hb, hml, hown, hts⟩ (c_X1_byteAt l D t z x a_t_text a_t_text_bytes n_t_text_bytes t_text_length t_text_bytes_ t_at_12_16 H r53_21 h53_21) (cwV 1 hts gX5_takeNumber_X1_byteAt rfl rfl rfl hd_X1_byteAt ⟨Nat.le_of_ble_eq_true rfl, Nat.le_of_ble_eq_true rfl⟩) (hC.at hz hS) (selP (m9 := [true, true, false]) rfl rfl hP) 0 rfl (show vwCl[1]? = some (RX1, TX1, 2) from rfl) rfl rfl hl.1 rfl (Nat.le_of_ble_eq_true rfl) dX5_takeNumber_53 ⟨Nat.zero_le _, Nat.zero_le _⟩ rfl ?_
          refine lv_iadd hx hb dX5_takeNumber_56 ?_
          refine lv_bipush (v := 48) hx hb dX5_takeNumber_57 (by decide) ?_
          refine lv_isub hx hb dX5_takeNumber_59 ?_
          refine lv_ldc (v := 1000000) hx hb hown (hts (.constant RX5 130 1000000) (by decide +kernel)) dX5_takeNumber_60 ?_
          refine va_mmin hx hb (hml.trans hl.1.symm) hown hm_min131 hm_min_s hm_init hm_min_c (Nat.le_of_ble_eq_true rfl) (Nat.le_of_ble_eq_true rfl) (Nat.zero_le _) (Nat.zero_le _) dX5_takeNumber_62 ?_
          refine lv_topi (fun y62_23 ey62_23 => ?_)
          have hF := ltE ey62_23 hF
          refine lv_istore (lv' := [(4, .int y62_23), (0, .ref a_t), (1, .int p1), (2, .int p2), (3, .int t_at_1_1)]) hx hb dX5_takeNumber_65 hl (by decide) rfl (fun ls hl => ?_)
          refine lv_aload_n hx hb dX5_takeNumber_67 rfl (lv_at hl 1 rfl) ?_
          refine lv_dup hx hb dX5_takeNumber_68 rfl ?_
          refine va_get (D := D) (ci := 5) (v := .int t_at_12_16) (C := RX5) (T := TX5) (N := 5) hx hb hts iw5 hown hK hP 2 rfl rfl 2 (by decide) hf15 (fun _ h9 => h9) rfl dX5_takeNumber_69 ?_
          refine lv_iconst (v := 1) hx hb dX5_takeNumber_72 (by decide) ?_
          refine lv_iadd hx hb dX5_takeNumber_73 ?_
          refine lv_topi (fun y74_24 ey74_24 => ?_)
          have hF := ltE ey74_24 hF
          refine my_put (ty := .int) (v := .int y74_24) (ci := 5) (C := RX5) (T := TX5) (N := 5) (wn := [(a_t_text, .inr (1, [.ref a_t_text_bytes, .int t_text_length])), (a_t_text_bytes, .inl (t 1, n_t_text_bytes, .inl t_text_bytes_)), (a_t, .inr (5, [.ref a_t_text, .int t_length, .int y74_24, .int t_error, .int t_errorAt]))]) hx hb hts iw5 tyX5 tyX5_ok nmX5 hown hK hP hD hS 2 rfl rfl 2 (by decide) hf15 (fun _ h9 => h9) rfl (by decide +kernel) rfl rfl (Nat.le_of_ble_eq_true rfl) rfl dX5_takeNumber_74 (fun H locs hP hD hS => ?_)
          refine lv_goto (tgt := 12) hx hb dX5_takeNumber_77 (by decide) ?_
          exact ih12 y62_23 y74_24 H locs ls hP hD hS (lv_sub hl [1, 2, 3, 4, 0] rfl) hF
  exact hlp12 N 0 t_at_1_1 H locs ls hP hD hS (lv_sub hl [2, 3, 4, 1, 0] rfl) hF
abbrev rm_X5_readRow : Room := { frames := 3, cells := 0, slots := 0, locals := 69 }
theorem hd_X5_readRow : yX5_readRow.cls = RX5 ∧ yX5_readRow.cls ≠ "java/lang/invoke/MethodHandle" ∧ yX5_readRow.cls ≠ "java/lang/invoke/VarHandle" ∧ (parseMethodDescriptor yX5_readRow.desc).map (fun d => d.parameters.length) = some 2 := by decide +kernel
set_option maxRecDepth 100000 in
set_option maxHeartbeats 4000000 in
theorem c_X5_readRow (l : Launch) (D : va_G) (t : Nat → ClassId) (z : Nat) (x : Nat → Nat) (N : Nat) (a_t_text : Nat) (a_t_text_bytes : Nat) (a_t : Nat) (a_p2 : Nat) (a_p2_index : Nat) (a_p2_index_bounds : Nat) (a_p2_index_entries : Nat) (a_p2_index_sorted : Nat) (a_p2_index_starts : Nat) (a_p2_rows : Nat) (a_p2_rows_keys : Nat) (a_p2_rows_states : Nat) (a_p2_rows_values : Nat) (n_t_text_bytes : Nat) (v_p2_answer : Value) (v_p2_kept : Value) (v_p2_settings : Value) (v_p2_pendingRows : Value) (v_p2_index_heats : Value) (t_text_length : Int32) (t_text_bytes_ : (Nat → Int32)) (t_length : Int32) (t_at : Int32) (t_error : Int32) (t_errorAt : Int32) (p2_pendingCount : Int32) (p2_totalCost : Int32) (p2_index_size : Int32) (p2_index_pieces : Int32) (p2_index_bounds_ : (Nat → Int32)) (p2_index_entries_ : (Nat → Int32)) (p2_index_sorted_ : (Nat → Int32)) (p2_index_starts_ : (Nat → Int32)) (p2_rows_count : Int32) (p2_rows_keys_ : (Nat → Int32)) (p2_rows_states_ : (Nat → Int32)) (p2_rows_values_ : (Nat → Int32)) (p1 : Int32) (sz : Nat) (t_at' : Int32) (t_error' : Int32) (t_errorAt' : Int32) (p2_index_size' : Int32) (p2_index_entries_' : (Nat → Int32)) (p2_index_starts_' : (Nat → Int32)) (p2_rows_count' : Int32) (p2_rows_keys_' : (Nat → Int32)) (p2_rows_states_' : (Nat → Int32)) (p2_rows_values_' : (Nat → Int32)) (hF : f_X5_readRow N t_text_length t_text_bytes_ t_length t_at t_error t_errorAt p2_index_size p2_index_pieces p2_index_bounds_ p2_index_entries_ p2_index_sorted_ p2_index_starts_ p2_rows_count p2_rows_keys_ p2_rows_states_ p2_rows_values_ n_t_text_bytes p1 = some (t_at', t_error', t_errorAt', p2_index_size', p2_index_entries_', p2_index_starts_', p2_rows_count', p2_rows_keys_', p2_rows_states_', p2_rows_values_')) : WrM l D (TY t) z x yX5_readRow wsX5_readRow rm_X5_readRow [.ref a_t, .int p1, .ref a_p2] [(a_t_text, .inr (1, [.ref a_t_text_bytes, .int t_text_length])), (a_t_text_bytes, .inl (t 1, n_t_text_bytes, .inl t_text_bytes_)), (a_t, .inr (5, [.ref a_t_text, .int t_length, .int t_at, .int t_error, .int t_errorAt])), (a_p2, .inr (2, [.ref a_p2_rows, .ref a_p2_index, v_p2_answer, v_p2_kept, v_p2_settings, v_p2_pendingRows, .int p2_pendingCount, .int p2_totalCost])), (a_p2_index, .inr (3, [.ref a_p2_rows, .ref a_p2_index_entries, .ref a_p2_index_bounds, .ref a_p2_index_starts, v_p2_index_heats, .ref a_p2_index_sorted, .int p2_index_size, .int p2_index_pieces])), (a_p2_index_bounds, .inl (t 0, 62, .inl p2_index_bounds_)), (a_p2_index_entries, .inl (t 0, 120, .inl p2_index_entries_)), (a_p2_index_sorted, .inl (t 0, 62, .inl p2_index_sorted_)), (a_p2_index_starts, .inl (t 0, 62, .inl p2_index_starts_)), (a_p2_rows, .inr (6, [.ref a_p2_rows_keys, .ref a_p2_rows_values, .ref a_p2_rows_states, .int p2_rows_count])), (a_p2_rows_keys, .inl (t 0, 120, .inl p2_rows_keys_)), (a_p2_rows_states, .inl (t 0, 120, .inl p2_rows_states_)), (a_p2_rows_values, .inl (t 0, 120, .inl p2_rows_values_))] [(a_t_text, .inr (1, [.ref a_t_text_bytes, .int t_text_length])), (a_t_text_bytes, .inl (t 1, n_t_text_bytes, .inl t_text_bytes_)), (a_t, .inr (5, [.ref a_t_text, .int t_length, .int t_at', .int t_error', .int t_errorAt'])), (a_p2, .inr (2, [.ref a_p2_rows, .ref a_p2_index, v_p2_answer, v_p2_kept, v_p2_settings, v_p2_pendingRows, .int p2_pendingCount, .int p2_totalCost])), (a_p2_index, .inr (3, [.ref a_p2_rows, .ref a_p2_index_entries, .ref a_p2_index_bounds, .ref a_p2_index_starts, v_p2_index_heats, .ref a_p2_index_sorted, .int p2_index_size', .int p2_index_pieces])), (a_p2_index_bounds, .inl (t 0, 62, .inl p2_index_bounds_)), (a_p2_index_entries, .inl (t 0, 120, .inl p2_index_entries_')), (a_p2_index_sorted, .inl (t 0, 62, .inl p2_index_sorted_)), (a_p2_index_starts, .inl (t 0, 62, .inl p2_index_starts_')), (a_p2_rows, .inr (6, [.ref a_p2_rows_keys, .ref a_p2_rows_values, .ref a_p2_rows_states, .int p2_rows_count'])), (a_p2_rows_keys, .inl (t 0, 120, .inl p2_rows_keys_')), (a_p2_rows_states, .inl (t 0, 120, .inl p2_rows_states_')), (a_p2_rows_values, .inl (t 0, 120, .inl p2_rows_values_'))] sz none 0 0 := by
  obtain ⟨T9, hT⟩ : ∃ T9, T9 = (t_at', t_error', t_errorAt', p2_index_size', p2_index_entries_', p2_index_starts_', p2_rows_count', p2_rows_keys_', p2_rows_states_', p2_rows_values_') := ⟨_, rfl⟩
  rw [← hT] at hF
  obtain rfl : t_at' = T9.1 := by rw [hT]
  obtain rfl : t_error' = T9.2.1 := by rw [hT]
  obtain rfl : t_errorAt' = T9.2.2.1 := by rw [hT]
  obtain rfl : p2_index_size' = T9.2.2.2.1 := by rw [hT]
  obtain rfl : p2_index_entries_' = T9.2.2.2.2.1 := by rw [hT]
  obtain rfl : p2_index_starts_' = T9.2.2.2.2.2.1 := by rw [hT]
  obtain rfl : p2_rows_count' = T9.2.2.2.2.2.2.1 := by rw [hT]
  obtain rfl : p2_rows_keys_' = T9.2.2.2.2.2.2.2.1 := by rw [hT]
  obtain rfl : p2_rows_states_' = T9.2.2.2.2.2.2.2.2.1 := by rw [hT]
  obtain rfl : p2_rows_values_' = T9.2.2.2.2.2.2.2.2.2 := by rw [hT]
  clear hT
  refine wr_of (cc := cX5_readRow) (maxL := 6) (ret := none) (by decide) rfl (Nat.le_of_ble_eq_true rfl) ?_
  intro p e s m args below meth c A Q hQ hx hb hr hml hts hown hlocks hin H locs hP hD hS hA hz hC ls hl
  have hown : s.vm.findClass RX5 = some m.cls := hown
  have hl : lv_has ls 6 [(0, .ref a_t), (1, .int p1), (2, .ref a_p2)] := hl
  have hK := hC.1
  have iw2 : ∀ w ∈ wsX20, w ∈ wsX5_readRow := fun _ h => List.mem_cons_of_mem _ (List.mem_append_left _ (List.mem_append_left _ (List.mem_append_left _ (List.mem_append_left _ (List.mem_append_right _ h)))))
  have iw5 : ∀ w ∈ wsX50, w ∈ wsX5_readRow := fun _ h => List.mem_cons_of_mem _ (List.mem_append_left _ (List.mem_append_left _ (List.mem_append_right _ h)))
  have iw6 : ∀ w ∈ wsX60, w ∈ wsX5_readRow := fun _ h => List.mem_cons_of_mem _ (List.mem_append_left _ (List.mem_append_left _ (List.mem_append_left _ (List.mem_append_right _ h))))
  have hf18 := hts (.fieldLink RX5 18 "CrackedColumn$Reader" "error" "I") (by decide +kernel)
  have hf40 := hts (.fieldLink RX5 40 "CrackedColumn$Column" "rows" "LCrackedColumn$Rows;") (by decide +kernel)
  have hf44 := hts (.fieldLink RX5 44 "CrackedColumn$Rows" "count" "I") (by decide +kernel)
  have hf77 := hts (.fieldLink RX5 77 "CrackedColumn$Column" "index" "LCrackedColumn$Index;") (by decide +kernel)
  unfold f_X5_readRow at hF
  refine lv_aload_n hx hb dX5_readRow_0 rfl (lv_at hl 2 rfl) ?_
  refine va_get (D := D) (ci := 2) (v := .ref a_p2_rows) (C := RX2) (T := TX2) (N := 8) hx hb hts iw2 hown hK hP 3 rfl rfl 0 (by decide) hf40 (fun _ h9 => h9) rfl dX5_readRow_1 ?_
  refine va_get (D := D) (ci := 6) (v := .int p2_rows_count) (C := RX6) (T := TX6) (N := 4) hx hb hts iw6 hown hK hP 9 rfl rfl 3 (by decide) hf44 (fun _ h9 => h9) rfl dX5_readRow_4 ?_
  refine lv_bipush (v := 120) hx hb dX5_readRow_7 (by decide) ?_
  refine lv_icmp_lt (tgt := 20) hx hb dX5_readRow_9 (by decide) (fun c9 => ?_) (fun c9 => ?_)
  · have hF := brT c9 hF
    refine lv_aload_n hx hb dX5_readRow_20 rfl (lv_at hl 0 rfl) ?_
    refine lv_iconst (v := 0) hx hb dX5_readRow_21 (by decide) ?_
    refine lv_sipush (v := 9999) hx hb dX5_readRow_22 (by decide) ?_
    obtain ⟨r25_1, t_at_25_2, t_error_25_3, t_errorAt_25_4, h25_4, hF⟩ := bnd4E hF
    refine wrVM (As := [.int 0, .int 9999]) (rest := []) (C := RX5) (wn := [(a_t_text, .inr (1, [.ref a_t_text_bytes, .int t_text_length])), (a_t_text_bytes, .inl (t 1, n_t_text_bytes, .inl t_text_bytes_)), (a_t, .inr (5, [.ref a_t_text, .int t_length, .int t_at_25_2, .int t_error_25_3, .int t_errorAt_25_4])), (a_p2, .inr (2, [.ref a_p2_rows, .ref a_p2_index, v_p2_answer, v_p2_kept, v_p2_settings, v_p2_pendingRows, .int p2_pendingCount, .int p2_totalCost])), (a_p2_index, .inr (3, [.ref a_p2_rows, .ref a_p2_index_entries, .ref a_p2_index_bounds, .ref a_p2_index_starts, v_p2_index_heats, .ref a_p2_index_sorted, .int p2_index_size, .int p2_index_pieces])), (a_p2_index_bounds, .inl (t 0, 62, .inl p2_index_bounds_)), (a_p2_index_entries, .inl (t 0, 120, .inl p2_index_entries_)), (a_p2_index_sorted, .inl (t 0, 62, .inl p2_index_sorted_)), (a_p2_index_starts, .inl (t 0, 62, .inl p2_index_starts_)), (a_p2_rows, .inr (6, [.ref a_p2_rows_keys, .ref a_p2_rows_values, .ref a_p2_rows_states, .int p2_rows_count])), (a_p2_rows_keys, .inl (t 0, 120, .inl p2_rows_keys_)), (a_p2_rows_states, .inl (t 0, 120, .inl p2_rows_states_)), (a_p2_rows_values, .inl (t 0, 120, .inl p2_rows_values_))]) ⟨hx, hb, hml, hown, hts⟩ (c_X5_takeNumber l D t z x N a_t_text a_t_text_bytes a_t n_t_text_bytes t_text_length t_text_bytes_ t_length t_at t_error t_errorAt 0 9999 H.size r25_1 t_at_25_2 t_error_25_3 t_errorAt_25_4 h25_4) (cwV 2 hts gX5_readRow_X5_takeNumber rfl rfl rfl hd_X5_takeNumber ⟨Nat.le_of_ble_eq_true rfl, Nat.le_of_ble_eq_true rfl⟩) (hC.at hz hS) hP hD hS hA hz [true, true, true, false, false, false, false, false, false, false, false, false, false] rfl rfl rfl rfl 2 rfl (show vwCl[5]? = some (RX5, TX5, 5) from rfl) rfl rfl hl.1 rfl (Nat.le_of_ble_eq_true rfl) dX5_readRow_25 ⟨Nat.zero_le _, Nat.zero_le _⟩ rfl (fun H locs hP hD hS => ?_)
    refine lv_istore_n (lv' := [(3, .int r25_1), (0, .ref a_t), (1, .int p1), (2, .ref a_p2)]) hx hb dX5_readRow_28 rfl hl (by decide) rfl (fun ls hl => ?_)
    refine lv_aload_n hx hb dX5_readRow_29 rfl (lv_at hl 1 rfl) ?_
    refine lv_bipush (v := 45) hx hb dX5_readRow_30 (by decide) ?_
    refine lv_iconst (v := 0) hx hb dX5_readRow_32 (by decide) ?_
    obtain ⟨r33_6, t_at_33_7, t_error_33_8, t_errorAt_33_9, h33_9, hF⟩ := bnd4E hF
    refine wrVM (As := [.int 45, .int 0]) (rest := []) (C := RX5) (wn := [(a_t_text, .inr (1, [.ref a_t_text_bytes, .int t_text_length])), (a_t_text_bytes, .inl (t 1, n_t_text_bytes, .inl t_text_bytes_)), (a_t, .inr (5, [.ref a_t_text, .int t_length, .int t_at_33_7, .int t_error_33_8, .int t_errorAt_33_9])), (a_p2, .inr (2, [.ref a_p2_rows, .ref a_p2_index, v_p2_answer, v_p2_kept, v_p2_settings, v_p2_pendingRows, .int p2_pendingCount, .int p2_totalCost])), (a_p2_index, .inr (3, [.ref a_p2_rows, .ref a_p2_index_entries, .ref a_p2_index_bounds, .ref a_p2_index_starts, v_p2_index_heats, .ref a_p2_index_sorted, .int p2_index_size, .int p2_index_pieces])), (a_p2_index_bounds, .inl (t 0, 62, .inl p2_index_bounds_)), (a_p2_index_entries, .inl (t 0, 120, .inl p2_index_entries_)), (a_p2_index_sorted, .inl (t 0, 62, .inl p2_index_sorted_)), (a_p2_index_starts, .inl (t 0, 62, .inl p2_index_starts_)), (a_p2_rows, .inr (6, [.ref a_p2_rows_keys, .ref a_p2_rows_values, .ref a_p2_rows_states, .int p2_rows_count])), (a_p2_rows_keys, .inl (t 0, 120, .inl p2_rows_keys_)), (a_p2_rows_states, .inl (t 0, 120, .inl p2_rows_states_)), (a_p2_rows_values, .inl (t 0, 120, .inl p2_rows_values_))]) ⟨hx, hb, hml, hown, hts⟩ (c_X5_takeSign l D t z x N a_t_text a_t_text_bytes a_t n_t_text_bytes t_text_length t_text_bytes_ t_length t_at_25_2 t_error_25_3 t_errorAt_25_4 45 0 H.size r33_6 t_at_33_7 t_error_33_8 t_errorAt_33_9 h33_9) (cwV 2 hts gX5_readRow_X5_takeSign rfl rfl rfl hd_X5_takeSign ⟨Nat.le_of_ble_eq_true rfl, Nat.le_of_ble_eq_true rfl⟩) (hC.at hz hS) hP hD hS hA hz [true, true, true, false, false, false, false, false, false, false, false, false, false] rfl rfl rfl rfl 2 rfl (show vwCl[5]? = some (RX5, TX5, 5) from rfl) rfl rfl hl.1 rfl (Nat.le_of_ble_eq_true rfl) dX5_readRow_33 ⟨Nat.zero_le _, Nat.zero_le _⟩ rfl (fun H locs hP hD hS => ?_)
    refine lv_istore (lv' := [(4, .int r33_6), (3, .int r25_1), (0, .ref a_t), (1, .int p1), (2, .ref a_p2)]) hx hb dX5_readRow_36 hl (by decide) rfl (fun ls hl => ?_)
    refine lv_aload_n hx hb dX5_readRow_38 rfl (lv_at hl 2 rfl) ?_
    refine lv_iconst (v := 0) hx hb dX5_readRow_39 (by decide) ?_
    refine lv_bipush (v := 99) hx hb dX5_readRow_40 (by decide) ?_
    obtain ⟨r42_11, t_at_42_12, t_error_42_13, t_errorAt_42_14, h42_14, hF⟩ := bnd4E hF
    refine wrVM (As := [.int 0, .int 99]) (rest := []) (C := RX5) (wn := [(a_t_text, .inr (1, [.ref a_t_text_bytes, .int t_text_length])), (a_t_text_bytes, .inl (t 1, n_t_text_bytes, .inl t_text_bytes_)), (a_t, .inr (5, [.ref a_t_text, .int t_length, .int t_at_42_12, .int t_error_42_13, .int t_errorAt_42_14])), (a_p2, .inr (2, [.ref a_p2_rows, .ref a_p2_index, v_p2_answer, v_p2_kept, v_p2_settings, v_p2_pendingRows, .int p2_pendingCount, .int p2_totalCost])), (a_p2_index, .inr (3, [.ref a_p2_rows, .ref a_p2_index_entries, .ref a_p2_index_bounds, .ref a_p2_index_starts, v_p2_index_heats, .ref a_p2_index_sorted, .int p2_index_size, .int p2_index_pieces])), (a_p2_index_bounds, .inl (t 0, 62, .inl p2_index_bounds_)), (a_p2_index_entries, .inl (t 0, 120, .inl p2_index_entries_)), (a_p2_index_sorted, .inl (t 0, 62, .inl p2_index_sorted_)), (a_p2_index_starts, .inl (t 0, 62, .inl p2_index_starts_)), (a_p2_rows, .inr (6, [.ref a_p2_rows_keys, .ref a_p2_rows_values, .ref a_p2_rows_states, .int p2_rows_count])), (a_p2_rows_keys, .inl (t 0, 120, .inl p2_rows_keys_)), (a_p2_rows_states, .inl (t 0, 120, .inl p2_rows_states_)), (a_p2_rows_values, .inl (t 0, 120, .inl p2_rows_values_))]) ⟨hx, hb, hml, hown, hts⟩ (c_X5_takeNumber l D t z x N a_t_text a_t_text_bytes a_t n_t_text_bytes t_text_length t_text_bytes_ t_length t_at_33_7 t_error_33_8 t_errorAt_33_9 0 99 H.size r42_11 t_at_42_12 t_error_42_13 t_errorAt_42_14 h42_14) (cwV 2 hts gX5_readRow_X5_takeNumber rfl rfl rfl hd_X5_takeNumber ⟨Nat.le_of_ble_eq_true rfl, Nat.le_of_ble_eq_true rfl⟩) (hC.at hz hS) hP hD hS hA hz [true, true, true, false, false, false, false, false, false, false, false, false, false] rfl rfl rfl rfl 2 rfl (show vwCl[5]? = some (RX5, TX5, 5) from rfl) rfl rfl hl.1 rfl (Nat.le_of_ble_eq_true rfl) dX5_readRow_42 ⟨Nat.zero_le _, Nat.zero_le _⟩ rfl (fun H locs hP hD hS => ?_)
    refine lv_istore (lv' := [(5, .int r42_11), (4, .int r33_6), (3, .int r25_1), (0, .ref a_t), (1, .int p1), (2, .ref a_p2)]) hx hb dX5_readRow_45 hl (by decide) rfl (fun ls hl => ?_)
    refine lv_aload_n hx hb dX5_readRow_47 rfl (lv_at hl 3 rfl) ?_
    refine va_get (D := D) (ci := 5) (v := .int t_error_42_13) (C := RX5) (T := TX5) (N := 5) hx hb hts iw5 hown hK hP 2 rfl rfl 3 (by decide) hf18 (fun _ h9 => h9) rfl dX5_readRow_48 ?_
    refine lv_if_ne (tgt := 83) hx hb dX5_readRow_51 (by decide) (fun c51 => ?_) (fun c51 => ?_)
    · have hF := brF c51 hF
      cases hF
      exact we_vret hx hb hr hlocks dX5_readRow_83 rfl hQ hP hD hS
    · have hF := brT c51 hF
      refine lv_aload_n hx hb dX5_readRow_54 rfl (lv_at hl 5 rfl) ?_
      refine va_get (D := D) (ci := 2) (v := .ref a_p2_index) (C := RX2) (T := TX2) (N := 8) hx hb hts iw2 hown hK hP 3 rfl rfl 1 (by decide) hf77 (fun _ h9 => h9) rfl dX5_readRow_55 ?_
      refine lv_aload_n hx hb dX5_readRow_58 rfl (lv_at hl 5 rfl) ?_
      refine va_get (D := D) (ci := 2) (v := .ref a_p2_rows) (C := RX2) (T := TX2) (N := 8) hx hb hts iw2 hown hK hP 3 rfl rfl 0 (by decide) hf40 (fun _ h9 => h9) rfl dX5_readRow_59 ?_
      refine lv_iload_n hx hb dX5_readRow_62 rfl (lv_at hl 2 rfl) ?_
      refine lv_iload hx hb dX5_readRow_63 (lv_at hl 1 rfl) ?_
      refine lv_if_eq (tgt := 74) hx hb dX5_readRow_65 (by decide) (fun c65 => ?_) (fun c65 => ?_)
      · have hF := brT c65 hF
        refine lv_iload hx hb dX5_readRow_74 (lv_at hl 0 rfl) ?_
        refine lv_iconst (v := 0) hx hb dX5_readRow_76 (by decide) ?_
        obtain ⟨r77_16, p2_rows_count_77_17, p2_rows_keys_77_18, p2_rows_states_77_19, p2_rows_values_77_20, h77_20, hF⟩ := bnd5E hF
        refine wrVM (As := [.int r25_1, .int r42_11, .int 0]) (rest := [.ref a_p2_index]) (C := RX6) (wn := [(a_t_text, .inr (1, [.ref a_t_text_bytes, .int t_text_length])), (a_t_text_bytes, .inl (t 1, n_t_text_bytes, .inl t_text_bytes_)), (a_t, .inr (5, [.ref a_t_text, .int t_length, .int t_at_42_12, .int t_error_42_13, .int t_errorAt_42_14])), (a_p2, .inr (2, [.ref a_p2_rows, .ref a_p2_index, v_p2_answer, v_p2_kept, v_p2_settings, v_p2_pendingRows, .int p2_pendingCount, .int p2_totalCost])), (a_p2_index, .inr (3, [.ref a_p2_rows, .ref a_p2_index_entries, .ref a_p2_index_bounds, .ref a_p2_index_starts, v_p2_index_heats, .ref a_p2_index_sorted, .int p2_index_size, .int p2_index_pieces])), (a_p2_index_bounds, .inl (t 0, 62, .inl p2_index_bounds_)), (a_p2_index_entries, .inl (t 0, 120, .inl p2_index_entries_)), (a_p2_index_sorted, .inl (t 0, 62, .inl p2_index_sorted_)), (a_p2_index_starts, .inl (t 0, 62, .inl p2_index_starts_)), (a_p2_rows, .inr (6, [.ref a_p2_rows_keys, .ref a_p2_rows_values, .ref a_p2_rows_states, .int p2_rows_count_77_17])), (a_p2_rows_keys, .inl (t 0, 120, .inl p2_rows_keys_77_18)), (a_p2_rows_states, .inl (t 0, 120, .inl p2_rows_states_77_19)), (a_p2_rows_values, .inl (t 0, 120, .inl p2_rows_values_77_20))]) ⟨hx, hb, hml, hown, hts⟩ (c_X6_add l D t z x a_p2_rows a_p2_rows_keys a_p2_rows_states a_p2_rows_values p2_rows_count p2_rows_keys_ p2_rows_states_ p2_rows_values_ r25_1 r42_11 0 H.size r77_16 p2_rows_count_77_17 p2_rows_keys_77_18 p2_rows_states_77_19 p2_rows_values_77_20 h77_20) (cwV 3 hts gX5_readRow_X6_add rfl rfl rfl hd_X6_add ⟨Nat.le_of_ble_eq_true rfl, Nat.le_of_ble_eq_true rfl⟩) (hC.at hz hS) hP hD hS hA hz [false, false, false, false, false, false, false, false, false, true, true, true, true] rfl rfl rfl rfl 0 rfl (show vwCl[6]? = some (RX6, TX6, 4) from rfl) rfl rfl hl.1 rfl (Nat.le_of_ble_eq_true rfl) dX5_readRow_77 ⟨Nat.zero_le _, Nat.zero_le _⟩ rfl (fun H locs hP hD hS => ?_)
        obtain ⟨p2_index_size_80_22, p2_index_entries_80_23, p2_index_starts_80_24, h80_24, hF⟩ := bnd3E hF
        refine wrVM (As := [.int r77_16]) (rest := []) (C := RX3) (wn := [(a_t_text, .inr (1, [.ref a_t_text_bytes, .int t_text_length])), (a_t_text_bytes, .inl (t 1, n_t_text_bytes, .inl t_text_bytes_)), (a_t, .inr (5, [.ref a_t_text, .int t_length, .int t_at_42_12, .int t_error_42_13, .int t_errorAt_42_14])), (a_p2, .inr (2, [.ref a_p2_rows, .ref a_p2_index, v_p2_answer, v_p2_kept, v_p2_settings, v_p2_pendingRows, .int p2_pendingCount, .int p2_totalCost])), (a_p2_index, .inr (3, [.ref a_p2_rows, .ref a_p2_index_entries, .ref a_p2_index_bounds, .ref a_p2_index_starts, v_p2_index_heats, .ref a_p2_index_sorted, .int p2_index_size_80_22, .int p2_index_pieces])), (a_p2_index_bounds, .inl (t 0, 62, .inl p2_index_bounds_)), (a_p2_index_entries, .inl (t 0, 120, .inl p2_index_entries_80_23)), (a_p2_index_sorted, .inl (t 0, 62, .inl p2_index_sorted_)), (a_p2_index_starts, .inl (t 0, 62, .inl p2_index_starts_80_24)), (a_p2_rows, .inr (6, [.ref a_p2_rows_keys, .ref a_p2_rows_values, .ref a_p2_rows_states, .int p2_rows_count_77_17])), (a_p2_rows_keys, .inl (t 0, 120, .inl p2_rows_keys_77_18)), (a_p2_rows_states, .inl (t 0, 120, .inl p2_rows_states_77_19)), (a_p2_rows_values, .inl (t 0, 120, .inl p2_rows_values_77_20))]) ⟨hx, hb, hml, hown, hts⟩ (c_X3_putIn l D t z x N a_p2_index a_p2_index_bounds a_p2_index_entries a_p2_index_sorted a_p2_index_starts a_p2_rows a_p2_rows_keys v_p2_index_heats (.ref a_p2_rows_values) (.ref a_p2_rows_states) p2_index_size p2_index_pieces p2_index_bounds_ p2_index_entries_ p2_index_sorted_ p2_index_starts_ p2_rows_count_77_17 p2_rows_keys_77_18 r77_16 H.size p2_index_size_80_22 p2_index_entries_80_23 p2_index_starts_80_24 h80_24) (cwV 1 hts gX5_readRow_X3_putIn rfl rfl rfl hd_X3_putIn ⟨Nat.le_of_ble_eq_true rfl, Nat.le_of_ble_eq_true rfl⟩) (hC.at hz hS) hP hD hS hA hz [false, false, false, false, true, true, true, true, true, true, true, false, false] rfl rfl rfl rfl 0 rfl (show vwCl[3]? = some (RX3, TX3, 8) from rfl) rfl rfl hl.1 rfl (Nat.le_of_ble_eq_true rfl) dX5_readRow_80 ⟨Nat.zero_le _, Nat.zero_le _⟩ rfl (fun H locs hP hD hS => ?_)
        cases hF
        exact we_vret hx hb hr hlocks dX5_readRow_83 rfl hQ hP hD hS
      · have hF := brF c65 hF
        refine lv_iload hx hb dX5_readRow_68 (lv_at hl 0 rfl) ?_
        refine lv_ineg hx hb dX5_readRow_70 ?_
        refine lv_goto (tgt := 76) hx hb dX5_readRow_71 (by decide) ?_
        refine lv_iconst (v := 0) hx hb dX5_readRow_76 (by decide) ?_
        obtain ⟨r77_26, p2_rows_count_77_27, p2_rows_keys_77_28, p2_rows_states_77_29, p2_rows_values_77_30, h77_30, hF⟩ := bnd5E hF
        refine wrVM (As := [.int r25_1, .int (-r42_11), .int 0]) (rest := [.ref a_p2_index]) (C := RX6) (wn := [(a_t_text, .inr (1, [.ref a_t_text_bytes, .int t_text_length])), (a_t_text_bytes, .inl (t 1, n_t_text_bytes, .inl t_text_bytes_)), (a_t, .inr (5, [.ref a_t_text, .int t_length, .int t_at_42_12, .int t_error_42_13, .int t_errorAt_42_14])), (a_p2, .inr (2, [.ref a_p2_rows, .ref a_p2_index, v_p2_answer, v_p2_kept, v_p2_settings, v_p2_pendingRows, .int p2_pendingCount, .int p2_totalCost])), (a_p2_index, .inr (3, [.ref a_p2_rows, .ref a_p2_index_entries, .ref a_p2_index_bounds, .ref a_p2_index_starts, v_p2_index_heats, .ref a_p2_index_sorted, .int p2_index_size, .int p2_index_pieces])), (a_p2_index_bounds, .inl (t 0, 62, .inl p2_index_bounds_)), (a_p2_index_entries, .inl (t 0, 120, .inl p2_index_entries_)), (a_p2_index_sorted, .inl (t 0, 62, .inl p2_index_sorted_)), (a_p2_index_starts, .inl (t 0, 62, .inl p2_index_starts_)), (a_p2_rows, .inr (6, [.ref a_p2_rows_keys, .ref a_p2_rows_values, .ref a_p2_rows_states, .int p2_rows_count_77_27])), (a_p2_rows_keys, .inl (t 0, 120, .inl p2_rows_keys_77_28)), (a_p2_rows_states, .inl (t 0, 120, .inl p2_rows_states_77_29)), (a_p2_rows_values, .inl (t 0, 120, .inl p2_rows_values_77_30))]) ⟨hx, hb, hml, hown, hts⟩ (c_X6_add l D t z x a_p2_rows a_p2_rows_keys a_p2_rows_states a_p2_rows_values p2_rows_count p2_rows_keys_ p2_rows_states_ p2_rows_values_ r25_1 (-r42_11) 0 H.size r77_26 p2_rows_count_77_27 p2_rows_keys_77_28 p2_rows_states_77_29 p2_rows_values_77_30 h77_30) (cwV 3 hts gX5_readRow_X6_add rfl rfl rfl hd_X6_add ⟨Nat.le_of_ble_eq_true rfl, Nat.le_of_ble_eq_true rfl⟩) (hC.at hz hS) hP hD hS hA hz [false, false, false, false, false, false, false, false, false, true, true, true, true] rfl rfl rfl rfl 0 rfl (show vwCl[6]? = some (RX6, TX6, 4) from rfl) rfl rfl hl.1 rfl (Nat.le_of_ble_eq_true rfl) dX5_readRow_77 ⟨Nat.zero_le _, Nat.zero_le _⟩ rfl (fun H locs hP hD hS => ?_)
        obtain ⟨p2_index_size_80_32, p2_index_entries_80_33, p2_index_starts_80_34, h80_34, hF⟩ := bnd3E hF
        refine wrVM (As := [.int r77_26]) (rest := []) (C := RX3) (wn := [(a_t_text, .inr (1, [.ref a_t_text_bytes, .int t_text_length])), (a_t_text_bytes, .inl (t 1, n_t_text_bytes, .inl t_text_bytes_)), (a_t, .inr (5, [.ref a_t_text, .int t_length, .int t_at_42_12, .int t_error_42_13, .int t_errorAt_42_14])), (a_p2, .inr (2, [.ref a_p2_rows, .ref a_p2_index, v_p2_answer, v_p2_kept, v_p2_settings, v_p2_pendingRows, .int p2_pendingCount, .int p2_totalCost])), (a_p2_index, .inr (3, [.ref a_p2_rows, .ref a_p2_index_entries, .ref a_p2_index_bounds, .ref a_p2_index_starts, v_p2_index_heats, .ref a_p2_index_sorted, .int p2_index_size_80_32, .int p2_index_pieces])), (a_p2_index_bounds, .inl (t 0, 62, .inl p2_index_bounds_)), (a_p2_index_entries, .inl (t 0, 120, .inl p2_index_entries_80_33)), (a_p2_index_sorted, .inl (t 0, 62, .inl p2_index_sorted_)), (a_p2_index_starts, .inl (t 0, 62, .inl p2_index_starts_80_34)), (a_p2_rows, .inr (6, [.ref a_p2_rows_keys, .ref a_p2_rows_values, .ref a_p2_rows_states, .int p2_rows_count_77_27])), (a_p2_rows_keys, .inl (t 0, 120, .inl p2_rows_keys_77_28)), (a_p2_rows_states, .inl (t 0, 120, .inl p2_rows_states_77_29)), (a_p2_rows_values, .inl (t 0, 120, .inl p2_rows_values_77_30))]) ⟨hx, hb, hml, hown, hts⟩ (c_X3_putIn l D t z x N a_p2_index a_p2_index_bounds a_p2_index_entries a_p2_index_sorted a_p2_index_starts a_p2_rows a_p2_rows_keys v_p2_index_heats (.ref a_p2_rows_values) (.ref a_p2_rows_states) p2_index_size p2_index_pieces p2_index_bounds_ p2_index_entries_ p2_index_sorted_ p2_index_starts_ p2_rows_count_77_27 p2_rows_keys_77_28 r77_26 H.size p2_index_size_80_32 p2_index_entries_80_33 p2_index_starts_80_34 h80_34) (cwV 1 hts gX5_readRow_X3_putIn rfl rfl rfl hd_X3_putIn ⟨Nat.le_of_ble_eq_true rfl, Nat.le_of_ble_eq_true rfl⟩) (hC.at hz hS) hP hD hS hA hz [false, false, false, false, true, true, true, true, true, true, true, false, false] rfl rfl rfl rfl 0 rfl (show vwCl[3]? = some (RX3, TX3, 8) from rfl) rfl rfl hl.1 rfl (Nat.le_of_ble_eq_true rfl) dX5_readRow_80 ⟨Nat.zero_le _, Nat.zero_le _⟩ rfl (fun H locs hP hD hS => ?_)
        cases hF
        exact we_vret hx hb hr hlocks dX5_readRow_83 rfl hQ hP hD hS
  · have hF := brF c9 hF
    refine lv_aload_n hx hb dX5_readRow_12 rfl (lv_at hl 0 rfl) ?_
    refine lv_bipush (v := (-4)) hx hb dX5_readRow_13 (by decide) ?_
    refine lv_iload_n hx hb dX5_readRow_15 rfl (lv_at hl 1 rfl) ?_
    obtain ⟨t_error_16_36, t_errorAt_16_37, h16_37, hF⟩ := bnd2E hF
    refine wrVM (As := [.int (-4), .int p1]) (rest := []) (C := RX5) (wn := [(a_t_text, .inr (1, [.ref a_t_text_bytes, .int t_text_length])), (a_t_text_bytes, .inl (t 1, n_t_text_bytes, .inl t_text_bytes_)), (a_t, .inr (5, [.ref a_t_text, .int t_length, .int t_at, .int t_error_16_36, .int t_errorAt_16_37])), (a_p2, .inr (2, [.ref a_p2_rows, .ref a_p2_index, v_p2_answer, v_p2_kept, v_p2_settings, v_p2_pendingRows, .int p2_pendingCount, .int p2_totalCost])), (a_p2_index, .inr (3, [.ref a_p2_rows, .ref a_p2_index_entries, .ref a_p2_index_bounds, .ref a_p2_index_starts, v_p2_index_heats, .ref a_p2_index_sorted, .int p2_index_size, .int p2_index_pieces])), (a_p2_index_bounds, .inl (t 0, 62, .inl p2_index_bounds_)), (a_p2_index_entries, .inl (t 0, 120, .inl p2_index_entries_)), (a_p2_index_sorted, .inl (t 0, 62, .inl p2_index_sorted_)), (a_p2_index_starts, .inl (t 0, 62, .inl p2_index_starts_)), (a_p2_rows, .inr (6, [.ref a_p2_rows_keys, .ref a_p2_rows_values, .ref a_p2_rows_states, .int p2_rows_count])), (a_p2_rows_keys, .inl (t 0, 120, .inl p2_rows_keys_)), (a_p2_rows_states, .inl (t 0, 120, .inl p2_rows_states_)), (a_p2_rows_values, .inl (t 0, 120, .inl p2_rows_values_))]) ⟨hx, hb, hml, hown, hts⟩ (c_X5_fail l D t z x a_t (.ref a_t_text) t_length t_at t_error t_errorAt (-4) p1 H.size t_error_16_36 t_errorAt_16_37 h16_37) (cwV 2 hts gX5_readRow_X5_fail rfl rfl rfl hd_X5_fail ⟨Nat.le_of_ble_eq_true rfl, Nat.le_of_ble_eq_true rfl⟩) (hC.at hz hS) hP hD hS hA hz [false, false, true, false, false, false, false, false, false, false, false, false, false] rfl rfl rfl rfl 0 rfl (show vwCl[5]? = some (RX5, TX5, 5) from rfl) rfl rfl hl.1 rfl (Nat.le_of_ble_eq_true rfl) dX5_readRow_16 ⟨Nat.zero_le _, Nat.zero_le _⟩ rfl (fun H locs hP hD hS => ?_)
    cases hF
    exact we_vret hx hb hr hlocks dX5_readRow_19 rfl hQ hP hD hS
abbrev rm_X5_readSetting : Room := { frames := 6, cells := 0, slots := 0, locals := 129 }
theorem hd_X5_readSetting : yX5_readSetting.cls = RX5 ∧ yX5_readSetting.cls ≠ "java/lang/invoke/MethodHandle" ∧ yX5_readSetting.cls ≠ "java/lang/invoke/VarHandle" ∧ (parseMethodDescriptor yX5_readSetting.desc).map (fun d => d.parameters.length) = some 2 := by decide +kernel
set_option maxRecDepth 100000 in
set_option maxHeartbeats 4000000 in
theorem c_X5_readSetting (l : Launch) (D : va_G) (t : Nat → ClassId) (z : Nat) (x : Nat → Nat) (N : Nat) (a_t_text : Nat) (a_t_text_bytes : Nat) (a_t : Nat) (a_p2 : Nat) (a_p2_settings : Nat) (n_t_text_bytes : Nat) (v_p2_rows : Value) (v_p2_index : Value) (v_p2_answer : Value) (v_p2_kept : Value) (v_p2_pendingRows : Value) (t_text_length : Int32) (t_text_bytes_ : (Nat → Int32)) (t_length : Int32) (t_at : Int32) (t_error : Int32) (t_errorAt : Int32) (p2_pendingCount : Int32) (p2_totalCost : Int32) (p2_settings_ : (Nat → Int32)) (p1 : Int32) (sz : Nat) (t_at' : Int32) (t_error' : Int32) (t_errorAt' : Int32) (p2_settings_' : (Nat → Int32)) (hF : f_X5_readSetting N t_text_length t_text_bytes_ t_length t_at t_error t_errorAt p2_settings_ n_t_text_bytes p1 = some (t_at', t_error', t_errorAt', p2_settings_')) : WrM l D (TY t) z x yX5_readSetting wsX5_readSetting rm_X5_readSetting [.ref a_t, .int p1, .ref a_p2] [(a_t_text, .inr (1, [.ref a_t_text_bytes, .int t_text_length])), (a_t_text_bytes, .inl (t 1, n_t_text_bytes, .inl t_text_bytes_)), (a_t, .inr (5, [.ref a_t_text, .int t_length, .int t_at, .int t_error, .int t_errorAt])), (a_p2, .inr (2, [v_p2_rows, v_p2_index, v_p2_answer, v_p2_kept, .ref a_p2_settings, v_p2_pendingRows, .int p2_pendingCount, .int p2_totalCost])), (a_p2_settings, .inl (t 0, 4, .inl p2_settings_))] [(a_t_text, .inr (1, [.ref a_t_text_bytes, .int t_text_length])), (a_t_text_bytes, .inl (t 1, n_t_text_bytes, .inl t_text_bytes_)), (a_t, .inr (5, [.ref a_t_text, .int t_length, .int t_at', .int t_error', .int t_errorAt'])), (a_p2, .inr (2, [v_p2_rows, v_p2_index, v_p2_answer, v_p2_kept, .ref a_p2_settings, v_p2_pendingRows, .int p2_pendingCount, .int p2_totalCost])), (a_p2_settings, .inl (t 0, 4, .inl p2_settings_'))] sz none 0 0 := by
  obtain ⟨T9, hT⟩ : ∃ T9, T9 = (t_at', t_error', t_errorAt', p2_settings_') := ⟨_, rfl⟩
  rw [← hT] at hF
  obtain rfl : t_at' = T9.1 := by rw [hT]
  obtain rfl : t_error' = T9.2.1 := by rw [hT]
  obtain rfl : t_errorAt' = T9.2.2.1 := by rw [hT]
  obtain rfl : p2_settings_' = T9.2.2.2 := by rw [hT]
  clear hT
  refine wr_of (cc := cX5_readSetting) (maxL := 5) (ret := none) (by decide) rfl (Nat.le_of_ble_eq_true rfl) ?_
  intro p e s m args below meth c A Q hQ hx hb hr hml hts hown hlocks hin H locs hP hD hS hA hz hC ls hl
  have hown : s.vm.findClass RX5 = some m.cls := hown
  have hl : lv_has ls 5 [(0, .ref a_t), (1, .int p1), (2, .ref a_p2)] := hl
  have hK := hC.1
  have iw5 : ∀ w ∈ wsX50, w ∈ wsX5_readSetting := fun _ h => List.mem_cons_of_mem _ (List.mem_append_left _ (List.mem_append_left _ (List.mem_append_right _ h)))
  have hf18 := hts (.fieldLink RX5 18 "CrackedColumn$Reader" "error" "I") (by decide +kernel)
  have hini_X7 := hts (.initialized RX7) (by decide +kernel)
  unfold f_X5_readSetting at hF
  refine lv_aload_n hx hb dX5_readSetting_0 rfl (lv_at hl 0 rfl) ?_
  refine lv_iload_n hx hb dX5_readSetting_1 rfl (lv_at hl 1 rfl) ?_
  obtain ⟨r2_1, h2_1, hF⟩ := bndE hF
  refine rdV (As := [.int p1]) (rest := []) (C := RX5) ⟨hx, hb, hml, hown, hts⟩ (c_X5_settingAt l D t z x N a_t_text a_t_text_bytes a_t n_t_text_bytes t_text_length t_text_bytes_ t_length t_at t_error t_errorAt p1 H r2_1 h2_1) (cwV 1 hts gX5_readSetting_X5_settingAt rfl rfl rfl hd_X5_settingAt ⟨Nat.le_of_ble_eq_true rfl, Nat.le_of_ble_eq_true rfl⟩) (hC.at hz hS) (selP (m9 := [true, true, true, false, false]) rfl rfl hP) 2 rfl (show vwCl[5]? = some (RX5, TX5, 5) from rfl) rfl rfl hl.1 rfl (Nat.le_of_ble_eq_true rfl) dX5_readSetting_2 ⟨Nat.zero_le _, Nat.zero_le _⟩ rfl ?_
  refine lv_istore_n (lv' := [(3, .int r2_1), (0, .ref a_t), (1, .int p1), (2, .ref a_p2)]) hx hb dX5_readSetting_5 rfl hl (by decide) rfl (fun ls hl => ?_)
  refine lv_iload_n hx hb dX5_readSetting_6 rfl (lv_at hl 0 rfl) ?_
  refine lv_iconst (v := (-1)) hx hb dX5_readSetting_7 (by decide) ?_
  refine lv_icmp_ne (tgt := 19) hx hb dX5_readSetting_8 (by decide) (fun c8 => ?_) (fun c8 => ?_)
  · have hF := brF c8 hF
    refine lv_aload_n hx hb dX5_readSetting_19 rfl (lv_at hl 1 rfl) ?_
    refine lv_iload_n hx hb dX5_readSetting_20 rfl (lv_at hl 0 rfl) ?_
    obtain ⟨r21_3, h21_3, hF⟩ := bndE hF
    refine rdSN (As := [.int r2_1]) (rest := [.ref a_t]) ⟨hx, hb, hml, hown, hts⟩ (c_X7_leastSetting l D t z x r2_1 H r21_3 h21_3) ⟨va_cnB 1 hts gX5_readSetting_X7_leastSetting_n95 rfl rfl rfl (nw_11 hC.2.1) hini_X7 hd_X7_leastSetting.2 ⟨Nat.le_of_ble_eq_true rfl, Nat.le_of_ble_eq_true rfl⟩, hts (.static yX7_leastSetting) (by decide +kernel), trivial⟩ (hC.at hz hS) (selP (m9 := [false, false, false, false, false]) rfl rfl hP) rfl hl.1 rfl (Nat.le_of_ble_eq_true rfl) dX5_readSetting_21 ⟨Nat.zero_le _, Nat.zero_le _⟩ rfl ?_
    refine lv_iload_n hx hb dX5_readSetting_24 rfl (lv_at hl 0 rfl) ?_
    obtain ⟨r25_5, h25_5, hF⟩ := bndE hF
    refine rdSN (As := [.int r2_1]) (rest := [.int r21_3, .ref a_t]) ⟨hx, hb, hml, hown, hts⟩ (c_X7_mostSetting l D t z x r2_1 H r25_5 h25_5) ⟨va_cnB 1 hts gX5_readSetting_X7_mostSetting_n98 rfl rfl rfl (nw_12 hC.2.1) hini_X7 hd_X7_mostSetting.2 ⟨Nat.le_of_ble_eq_true rfl, Nat.le_of_ble_eq_true rfl⟩, hts (.static yX7_mostSetting) (by decide +kernel), trivial⟩ (hC.at hz hS) (selP (m9 := [false, false, false, false, false]) rfl rfl hP) rfl hl.1 rfl (Nat.le_of_ble_eq_true rfl) dX5_readSetting_25 ⟨Nat.zero_le _, Nat.zero_le _⟩ rfl ?_
    obtain ⟨r28_7, t_at_28_8, t_error_28_9, t_errorAt_28_10, h28_10, hF⟩ := bnd4E hF
    refine wrVM (As := [.int r21_3, .int r25_5]) (rest := []) (C := RX5) (wn := [(a_t_text, .inr (1, [.ref a_t_text_bytes, .int t_text_length])), (a_t_text_bytes, .inl (t 1, n_t_text_bytes, .inl t_text_bytes_)), (a_t, .inr (5, [.ref a_t_text, .int t_length, .int t_at_28_8, .int t_error_28_9, .int t_errorAt_28_10])), (a_p2, .inr (2, [v_p2_rows, v_p2_index, v_p2_answer, v_p2_kept, .ref a_p2_settings, v_p2_pendingRows, .int p2_pendingCount, .int p2_totalCost])), (a_p2_settings, .inl (t 0, 4, .inl p2_settings_))]) ⟨hx, hb, hml, hown, hts⟩ (c_X5_takeNumber l D t z x N a_t_text a_t_text_bytes a_t n_t_text_bytes t_text_length t_text_bytes_ t_length t_at t_error t_errorAt r21_3 r25_5 H.size r28_7 t_at_28_8 t_error_28_9 t_errorAt_28_10 h28_10) (cwV 2 hts gX5_readSetting_X5_takeNumber rfl rfl rfl hd_X5_takeNumber ⟨Nat.le_of_ble_eq_true rfl, Nat.le_of_ble_eq_true rfl⟩) (hC.at hz hS) hP hD hS hA hz [true, true, true, false, false] rfl rfl rfl rfl 2 rfl (show vwCl[5]? = some (RX5, TX5, 5) from rfl) rfl rfl hl.1 rfl (Nat.le_of_ble_eq_true rfl) dX5_readSetting_28 ⟨Nat.zero_le _, Nat.zero_le _⟩ rfl (fun H locs hP hD hS => ?_)
    refine lv_istore (lv' := [(4, .int r28_7), (3, .int r2_1), (0, .ref a_t), (1, .int p1), (2, .ref a_p2)]) hx hb dX5_readSetting_31 hl (by decide) rfl (fun ls hl => ?_)
    refine lv_aload_n hx hb dX5_readSetting_33 rfl (lv_at hl 2 rfl) ?_
    refine va_get (D := D) (ci := 5) (v := .int t_error_28_9) (C := RX5) (T := TX5) (N := 5) hx hb hts iw5 hown hK hP 2 rfl rfl 3 (by decide) hf18 (fun _ h9 => h9) rfl dX5_readSetting_34 ?_
    refine lv_if_ne (tgt := 47) hx hb dX5_readSetting_37 (by decide) (fun c37 => ?_) (fun c37 => ?_)
    · have hF := brF c37 hF
      cases hF
      exact we_vret hx hb hr hlocks dX5_readSetting_47 rfl hQ hP hD hS
    · have hF := brT c37 hF
      refine lv_aload_n hx hb dX5_readSetting_40 rfl (lv_at hl 4 rfl) ?_
      refine lv_iload_n hx hb dX5_readSetting_41 rfl (lv_at hl 1 rfl) ?_
      refine lv_iload hx hb dX5_readSetting_42 (lv_at hl 0 rfl) ?_
      obtain ⟨p2_settings_44_12, h44_12, hF⟩ := bndE hF
      refine wrVM (As := [.int r2_1, .int r28_7]) (rest := []) (C := RX2) (wn := [(a_t_text, .inr (1, [.ref a_t_text_bytes, .int t_text_length])), (a_t_text_bytes, .inl (t 1, n_t_text_bytes, .inl t_text_bytes_)), (a_t, .inr (5, [.ref a_t_text, .int t_length, .int t_at_28_8, .int t_error_28_9, .int t_errorAt_28_10])), (a_p2, .inr (2, [v_p2_rows, v_p2_index, v_p2_answer, v_p2_kept, .ref a_p2_settings, v_p2_pendingRows, .int p2_pendingCount, .int p2_totalCost])), (a_p2_settings, .inl (t 0, 4, .inl p2_settings_44_12))]) ⟨hx, hb, hml, hown, hts⟩ (c_X2_putSetting l D t z x a_p2 a_p2_settings v_p2_rows v_p2_index v_p2_answer v_p2_kept v_p2_pendingRows p2_pendingCount p2_totalCost p2_settings_ r2_1 r28_7 H.size p2_settings_44_12 h44_12) (cwV 2 hts gX5_readSetting_X2_putSetting rfl rfl rfl hd_X2_putSetting ⟨Nat.le_of_ble_eq_true rfl, Nat.le_of_ble_eq_true rfl⟩) (hC.at hz hS) hP hD hS hA hz [false, false, false, true, true] rfl rfl rfl rfl 0 rfl (show vwCl[2]? = some (RX2, TX2, 8) from rfl) rfl rfl hl.1 rfl (Nat.le_of_ble_eq_true rfl) dX5_readSetting_44 ⟨Nat.zero_le _, Nat.zero_le _⟩ rfl (fun H locs hP hD hS => ?_)
      cases hF
      exact we_vret hx hb hr hlocks dX5_readSetting_47 rfl hQ hP hD hS
  · have hF := brT c8 hF
    refine lv_aload_n hx hb dX5_readSetting_11 rfl (lv_at hl 1 rfl) ?_
    refine lv_bipush (v := (-2)) hx hb dX5_readSetting_12 (by decide) ?_
    refine lv_iload_n hx hb dX5_readSetting_14 rfl (lv_at hl 2 rfl) ?_
    obtain ⟨t_error_15_14, t_errorAt_15_15, h15_15, hF⟩ := bnd2E hF
    refine wrVM (As := [.int (-2), .int p1]) (rest := []) (C := RX5) (wn := [(a_t_text, .inr (1, [.ref a_t_text_bytes, .int t_text_length])), (a_t_text_bytes, .inl (t 1, n_t_text_bytes, .inl t_text_bytes_)), (a_t, .inr (5, [.ref a_t_text, .int t_length, .int t_at, .int t_error_15_14, .int t_errorAt_15_15])), (a_p2, .inr (2, [v_p2_rows, v_p2_index, v_p2_answer, v_p2_kept, .ref a_p2_settings, v_p2_pendingRows, .int p2_pendingCount, .int p2_totalCost])), (a_p2_settings, .inl (t 0, 4, .inl p2_settings_))]) ⟨hx, hb, hml, hown, hts⟩ (c_X5_fail l D t z x a_t (.ref a_t_text) t_length t_at t_error t_errorAt (-2) p1 H.size t_error_15_14 t_errorAt_15_15 h15_15) (cwV 2 hts gX5_readSetting_X5_fail rfl rfl rfl hd_X5_fail ⟨Nat.le_of_ble_eq_true rfl, Nat.le_of_ble_eq_true rfl⟩) (hC.at hz hS) hP hD hS hA hz [false, false, true, false, false] rfl rfl rfl rfl 0 rfl (show vwCl[5]? = some (RX5, TX5, 5) from rfl) rfl rfl hl.1 rfl (Nat.le_of_ble_eq_true rfl) dX5_readSetting_15 ⟨Nat.zero_le _, Nat.zero_le _⟩ rfl (fun H locs hP hD hS => ?_)
    cases hF
    exact we_vret hx hb hr hlocks dX5_readSetting_18 rfl hQ hP hD hS
abbrev rm_X5_readStatement : Room := { frames := 7, cells := 0, slots := 0, locals := 153 }
theorem hd_X5_readStatement : yX5_readStatement.cls = RX5 ∧ yX5_readStatement.cls ≠ "java/lang/invoke/MethodHandle" ∧ yX5_readStatement.cls ≠ "java/lang/invoke/VarHandle" ∧ (parseMethodDescriptor yX5_readStatement.desc).map (fun d => d.parameters.length) = some 1 := by decide +kernel
set_option maxRecDepth 100000 in
set_option maxHeartbeats 4000000 in
theorem c_X5_readStatement (l : Launch) (D : va_G) (t : Nat → ClassId) (z : Nat) (x : Nat → Nat) (N : Nat) (a_t_text : Nat) (a_t_text_bytes : Nat) (a_t : Nat) (a_p1 : Nat) (a_p1_index : Nat) (a_p1_index_bounds : Nat) (a_p1_index_entries : Nat) (a_p1_index_sorted : Nat) (a_p1_index_starts : Nat) (a_p1_settings : Nat) (a_p1_rows : Nat) (a_p1_rows_keys : Nat) (a_p1_rows_states : Nat) (a_p1_rows_values : Nat) (n_t_text_bytes : Nat) (v_p1_answer : Value) (v_p1_kept : Value) (v_p1_pendingRows : Value) (v_p1_index_heats : Value) (t_text_length : Int32) (t_text_bytes_ : (Nat → Int32)) (t_length : Int32) (t_at : Int32) (t_error : Int32) (t_errorAt : Int32) (p1_pendingCount : Int32) (p1_totalCost : Int32) (p1_index_size : Int32) (p1_index_pieces : Int32) (p1_index_bounds_ : (Nat → Int32)) (p1_index_entries_ : (Nat → Int32)) (p1_index_sorted_ : (Nat → Int32)) (p1_index_starts_ : (Nat → Int32)) (p1_settings_ : (Nat → Int32)) (p1_rows_count : Int32) (p1_rows_keys_ : (Nat → Int32)) (p1_rows_states_ : (Nat → Int32)) (p1_rows_values_ : (Nat → Int32)) (sz : Nat) (t_at' : Int32) (t_error' : Int32) (t_errorAt' : Int32) (p1_index_size' : Int32) (p1_index_entries_' : (Nat → Int32)) (p1_index_starts_' : (Nat → Int32)) (p1_settings_' : (Nat → Int32)) (p1_rows_count' : Int32) (p1_rows_keys_' : (Nat → Int32)) (p1_rows_states_' : (Nat → Int32)) (p1_rows_values_' : (Nat → Int32)) (hF : f_X5_readStatement N t_text_length t_text_bytes_ t_length t_at t_error t_errorAt p1_index_size p1_index_pieces p1_index_bounds_ p1_index_entries_ p1_index_sorted_ p1_index_starts_ p1_settings_ p1_rows_count p1_rows_keys_ p1_rows_states_ p1_rows_values_ n_t_text_bytes = some (t_at', t_error', t_errorAt', p1_index_size', p1_index_entries_', p1_index_starts_', p1_settings_', p1_rows_count', p1_rows_keys_', p1_rows_states_', p1_rows_values_')) : WrM l D (TY t) z x yX5_readStatement wsX5_readStatement rm_X5_readStatement [.ref a_t, .ref a_p1] [(a_t_text, .inr (1, [.ref a_t_text_bytes, .int t_text_length])), (a_t_text_bytes, .inl (t 1, n_t_text_bytes, .inl t_text_bytes_)), (a_t, .inr (5, [.ref a_t_text, .int t_length, .int t_at, .int t_error, .int t_errorAt])), (a_p1, .inr (2, [.ref a_p1_rows, .ref a_p1_index, v_p1_answer, v_p1_kept, .ref a_p1_settings, v_p1_pendingRows, .int p1_pendingCount, .int p1_totalCost])), (a_p1_index, .inr (3, [.ref a_p1_rows, .ref a_p1_index_entries, .ref a_p1_index_bounds, .ref a_p1_index_starts, v_p1_index_heats, .ref a_p1_index_sorted, .int p1_index_size, .int p1_index_pieces])), (a_p1_index_bounds, .inl (t 0, 62, .inl p1_index_bounds_)), (a_p1_index_entries, .inl (t 0, 120, .inl p1_index_entries_)), (a_p1_index_sorted, .inl (t 0, 62, .inl p1_index_sorted_)), (a_p1_index_starts, .inl (t 0, 62, .inl p1_index_starts_)), (a_p1_settings, .inl (t 0, 4, .inl p1_settings_)), (a_p1_rows, .inr (6, [.ref a_p1_rows_keys, .ref a_p1_rows_values, .ref a_p1_rows_states, .int p1_rows_count])), (a_p1_rows_keys, .inl (t 0, 120, .inl p1_rows_keys_)), (a_p1_rows_states, .inl (t 0, 120, .inl p1_rows_states_)), (a_p1_rows_values, .inl (t 0, 120, .inl p1_rows_values_))] [(a_t_text, .inr (1, [.ref a_t_text_bytes, .int t_text_length])), (a_t_text_bytes, .inl (t 1, n_t_text_bytes, .inl t_text_bytes_)), (a_t, .inr (5, [.ref a_t_text, .int t_length, .int t_at', .int t_error', .int t_errorAt'])), (a_p1, .inr (2, [.ref a_p1_rows, .ref a_p1_index, v_p1_answer, v_p1_kept, .ref a_p1_settings, v_p1_pendingRows, .int p1_pendingCount, .int p1_totalCost])), (a_p1_index, .inr (3, [.ref a_p1_rows, .ref a_p1_index_entries, .ref a_p1_index_bounds, .ref a_p1_index_starts, v_p1_index_heats, .ref a_p1_index_sorted, .int p1_index_size', .int p1_index_pieces])), (a_p1_index_bounds, .inl (t 0, 62, .inl p1_index_bounds_)), (a_p1_index_entries, .inl (t 0, 120, .inl p1_index_entries_')), (a_p1_index_sorted, .inl (t 0, 62, .inl p1_index_sorted_)), (a_p1_index_starts, .inl (t 0, 62, .inl p1_index_starts_')), (a_p1_settings, .inl (t 0, 4, .inl p1_settings_')), (a_p1_rows, .inr (6, [.ref a_p1_rows_keys, .ref a_p1_rows_values, .ref a_p1_rows_states, .int p1_rows_count'])), (a_p1_rows_keys, .inl (t 0, 120, .inl p1_rows_keys_')), (a_p1_rows_states, .inl (t 0, 120, .inl p1_rows_states_')), (a_p1_rows_values, .inl (t 0, 120, .inl p1_rows_values_'))] sz none 0 0 := by
  obtain ⟨T9, hT⟩ : ∃ T9, T9 = (t_at', t_error', t_errorAt', p1_index_size', p1_index_entries_', p1_index_starts_', p1_settings_', p1_rows_count', p1_rows_keys_', p1_rows_states_', p1_rows_values_') := ⟨_, rfl⟩
  rw [← hT] at hF
  obtain rfl : t_at' = T9.1 := by rw [hT]
  obtain rfl : t_error' = T9.2.1 := by rw [hT]
  obtain rfl : t_errorAt' = T9.2.2.1 := by rw [hT]
  obtain rfl : p1_index_size' = T9.2.2.2.1 := by rw [hT]
  obtain rfl : p1_index_entries_' = T9.2.2.2.2.1 := by rw [hT]
  obtain rfl : p1_index_starts_' = T9.2.2.2.2.2.1 := by rw [hT]
  obtain rfl : p1_settings_' = T9.2.2.2.2.2.2.1 := by rw [hT]
  obtain rfl : p1_rows_count' = T9.2.2.2.2.2.2.2.1 := by rw [hT]
  obtain rfl : p1_rows_keys_' = T9.2.2.2.2.2.2.2.2.1 := by rw [hT]
  obtain rfl : p1_rows_states_' = T9.2.2.2.2.2.2.2.2.2.1 := by rw [hT]
  obtain rfl : p1_rows_values_' = T9.2.2.2.2.2.2.2.2.2.2 := by rw [hT]
  clear hT
  refine wr_of (cc := cX5_readStatement) (maxL := 3) (ret := none) (by decide) rfl (Nat.le_of_ble_eq_true rfl) ?_
  intro p e s m args below meth c A Q hQ hx hb hr hml hts hown hlocks hin H locs hP hD hS hA hz hC ls hl
  have hown : s.vm.findClass RX5 = some m.cls := hown
  have hl : lv_has ls 3 [(0, .ref a_t), (1, .ref a_p1)] := hl
  have hK := hC.1
  have iw5 : ∀ w ∈ wsX50, w ∈ wsX5_readStatement := fun _ h => List.mem_cons_of_mem _ (List.mem_append_left _ (List.mem_append_left _ (List.mem_append_left _ (List.mem_append_left _ (List.mem_append_right _ h)))))
  have hf15 := hts (.fieldLink RX5 15 "CrackedColumn$Reader" "at" "I") (by decide +kernel)
  unfold f_X5_readStatement at hF
  refine lv_aload_n hx hb dX5_readStatement_0 rfl (lv_at hl 0 rfl) ?_
  refine va_get (D := D) (ci := 5) (v := .int t_at) (C := RX5) (T := TX5) (N := 5) hx hb hts iw5 hown hK hP 2 rfl rfl 2 (by decide) hf15 (fun _ h9 => h9) rfl dX5_readStatement_1 ?_
  refine lv_istore_n (lv' := [(2, .int t_at), (0, .ref a_t), (1, .ref a_p1)]) hx hb dX5_readStatement_4 rfl hl (by decide) rfl (fun ls hl => ?_)
  refine lv_aload_n hx hb dX5_readStatement_5 rfl (lv_at hl 1 rfl) ?_
  obtain ⟨t_at_6_1, h6_1, hF⟩ := bndE hF
  refine wrVM (As := []) (rest := []) (C := RX5) (wn := [(a_t_text, .inr (1, [.ref a_t_text_bytes, .int t_text_length])), (a_t_text_bytes, .inl (t 1, n_t_text_bytes, .inl t_text_bytes_)), (a_t, .inr (5, [.ref a_t_text, .int t_length, .int t_at_6_1, .int t_error, .int t_errorAt])), (a_p1, .inr (2, [.ref a_p1_rows, .ref a_p1_index, v_p1_answer, v_p1_kept, .ref a_p1_settings, v_p1_pendingRows, .int p1_pendingCount, .int p1_totalCost])), (a_p1_index, .inr (3, [.ref a_p1_rows, .ref a_p1_index_entries, .ref a_p1_index_bounds, .ref a_p1_index_starts, v_p1_index_heats, .ref a_p1_index_sorted, .int p1_index_size, .int p1_index_pieces])), (a_p1_index_bounds, .inl (t 0, 62, .inl p1_index_bounds_)), (a_p1_index_entries, .inl (t 0, 120, .inl p1_index_entries_)), (a_p1_index_sorted, .inl (t 0, 62, .inl p1_index_sorted_)), (a_p1_index_starts, .inl (t 0, 62, .inl p1_index_starts_)), (a_p1_settings, .inl (t 0, 4, .inl p1_settings_)), (a_p1_rows, .inr (6, [.ref a_p1_rows_keys, .ref a_p1_rows_values, .ref a_p1_rows_states, .int p1_rows_count])), (a_p1_rows_keys, .inl (t 0, 120, .inl p1_rows_keys_)), (a_p1_rows_states, .inl (t 0, 120, .inl p1_rows_states_)), (a_p1_rows_values, .inl (t 0, 120, .inl p1_rows_values_))]) ⟨hx, hb, hml, hown, hts⟩ (c_X5_skipWord l D t z x N a_t_text a_t_text_bytes a_t n_t_text_bytes t_text_length t_text_bytes_ t_length t_at t_error t_errorAt H.size t_at_6_1 h6_1) (cwV 0 hts gX5_readStatement_X5_skipWord rfl rfl rfl hd_X5_skipWord ⟨Nat.le_of_ble_eq_true rfl, Nat.le_of_ble_eq_true rfl⟩) (hC.at hz hS) hP hD hS hA hz [true, true, true, false, false, false, false, false, false, false, false, false, false, false] rfl rfl rfl rfl 2 rfl (show vwCl[5]? = some (RX5, TX5, 5) from rfl) rfl rfl hl.1 rfl (Nat.le_of_ble_eq_true rfl) dX5_readStatement_6 ⟨Nat.zero_le _, Nat.zero_le _⟩ rfl (fun H locs hP hD hS => ?_)
  refine lv_aload_n hx hb dX5_readStatement_9 rfl (lv_at hl 1 rfl) ?_
  refine lv_iload_n hx hb dX5_readStatement_10 rfl (lv_at hl 0 rfl) ?_
  refine va_ldcS hx hb hown (show vk_R RX5 52 "row" (x (10 + 0)) s from st_0 hC.2.2) dX5_readStatement_11 ?_
  obtain ⟨r13_3, h13_3, hF⟩ := bndE hF
  refine rdV (As := [.int t_at, .ref (x (10 + 0))]) (rest := []) (C := RX5) ⟨hx, hb, hml, hown, hts⟩ (c_X5_isWord l D t z x N a_t_text a_t_text_bytes a_t n_t_text_bytes t_text_length t_text_bytes_ t_length t_at_6_1 t_error t_errorAt t_at 0 H r13_3 h13_3) (cwV 2 hts gX5_readStatement_X5_isWord rfl rfl rfl hd_X5_isWord ⟨Nat.le_of_ble_eq_true rfl, Nat.le_of_ble_eq_true rfl⟩) (hC.at hz hS) (selP (m9 := [true, true, true, false, false, false, false, false, false, false, false, false, false, false]) rfl rfl hP) 2 rfl (show vwCl[5]? = some (RX5, TX5, 5) from rfl) rfl rfl hl.1 rfl (Nat.le_of_ble_eq_true rfl) dX5_readStatement_13 ⟨Nat.zero_le _, Nat.zero_le _⟩ rfl ?_
  refine lv_if_eq (tgt := 28) hx hb dX5_readStatement_16 (by decide) (fun c16 => ?_) (fun c16 => ?_)
  · have hF := brT c16 hF
    refine lv_aload_n hx hb dX5_readStatement_28 rfl (lv_at hl 1 rfl) ?_
    refine lv_iload_n hx hb dX5_readStatement_29 rfl (lv_at hl 0 rfl) ?_
    refine lv_aload_n hx hb dX5_readStatement_30 rfl (lv_at hl 2 rfl) ?_
    obtain ⟨t_at_31_5, t_error_31_6, t_errorAt_31_7, p1_settings_31_8, h31_8, hF⟩ := bnd4E hF
    refine wrVM (As := [.int t_at, .ref a_p1]) (rest := []) (C := RX5) (wn := [(a_t_text, .inr (1, [.ref a_t_text_bytes, .int t_text_length])), (a_t_text_bytes, .inl (t 1, n_t_text_bytes, .inl t_text_bytes_)), (a_t, .inr (5, [.ref a_t_text, .int t_length, .int t_at_31_5, .int t_error_31_6, .int t_errorAt_31_7])), (a_p1, .inr (2, [.ref a_p1_rows, .ref a_p1_index, v_p1_answer, v_p1_kept, .ref a_p1_settings, v_p1_pendingRows, .int p1_pendingCount, .int p1_totalCost])), (a_p1_index, .inr (3, [.ref a_p1_rows, .ref a_p1_index_entries, .ref a_p1_index_bounds, .ref a_p1_index_starts, v_p1_index_heats, .ref a_p1_index_sorted, .int p1_index_size, .int p1_index_pieces])), (a_p1_index_bounds, .inl (t 0, 62, .inl p1_index_bounds_)), (a_p1_index_entries, .inl (t 0, 120, .inl p1_index_entries_)), (a_p1_index_sorted, .inl (t 0, 62, .inl p1_index_sorted_)), (a_p1_index_starts, .inl (t 0, 62, .inl p1_index_starts_)), (a_p1_settings, .inl (t 0, 4, .inl p1_settings_31_8)), (a_p1_rows, .inr (6, [.ref a_p1_rows_keys, .ref a_p1_rows_values, .ref a_p1_rows_states, .int p1_rows_count])), (a_p1_rows_keys, .inl (t 0, 120, .inl p1_rows_keys_)), (a_p1_rows_states, .inl (t 0, 120, .inl p1_rows_states_)), (a_p1_rows_values, .inl (t 0, 120, .inl p1_rows_values_))]) ⟨hx, hb, hml, hown, hts⟩ (c_X5_readSetting l D t z x N a_t_text a_t_text_bytes a_t a_p1 a_p1_settings n_t_text_bytes (.ref a_p1_rows) (.ref a_p1_index) v_p1_answer v_p1_kept v_p1_pendingRows t_text_length t_text_bytes_ t_length t_at_6_1 t_error t_errorAt p1_pendingCount p1_totalCost p1_settings_ t_at H.size t_at_31_5 t_error_31_6 t_errorAt_31_7 p1_settings_31_8 h31_8) (cwV 2 hts gX5_readStatement_X5_readSetting rfl rfl rfl hd_X5_readSetting ⟨Nat.le_of_ble_eq_true rfl, Nat.le_of_ble_eq_true rfl⟩) (hC.at hz hS) hP hD hS hA hz [true, true, true, true, false, false, false, false, false, true, false, false, false, false] rfl rfl rfl rfl 2 rfl (show vwCl[5]? = some (RX5, TX5, 5) from rfl) rfl rfl hl.1 rfl (Nat.le_of_ble_eq_true rfl) dX5_readStatement_31 ⟨Nat.zero_le _, Nat.zero_le _⟩ rfl (fun H locs hP hD hS => ?_)
    refine lv_aload_n hx hb dX5_readStatement_34 rfl (lv_at hl 1 rfl) ?_
    refine lv_bipush (v := 59) hx hb dX5_readStatement_35 (by decide) ?_
    refine lv_iconst (v := 1) hx hb dX5_readStatement_37 (by decide) ?_
    obtain ⟨r38_10, t_at_38_11, t_error_38_12, t_errorAt_38_13, h38_13, hF⟩ := bnd4E hF
    refine wrVM (As := [.int 59, .int 1]) (rest := []) (C := RX5) (wn := [(a_t_text, .inr (1, [.ref a_t_text_bytes, .int t_text_length])), (a_t_text_bytes, .inl (t 1, n_t_text_bytes, .inl t_text_bytes_)), (a_t, .inr (5, [.ref a_t_text, .int t_length, .int t_at_38_11, .int t_error_38_12, .int t_errorAt_38_13])), (a_p1, .inr (2, [.ref a_p1_rows, .ref a_p1_index, v_p1_answer, v_p1_kept, .ref a_p1_settings, v_p1_pendingRows, .int p1_pendingCount, .int p1_totalCost])), (a_p1_index, .inr (3, [.ref a_p1_rows, .ref a_p1_index_entries, .ref a_p1_index_bounds, .ref a_p1_index_starts, v_p1_index_heats, .ref a_p1_index_sorted, .int p1_index_size, .int p1_index_pieces])), (a_p1_index_bounds, .inl (t 0, 62, .inl p1_index_bounds_)), (a_p1_index_entries, .inl (t 0, 120, .inl p1_index_entries_)), (a_p1_index_sorted, .inl (t 0, 62, .inl p1_index_sorted_)), (a_p1_index_starts, .inl (t 0, 62, .inl p1_index_starts_)), (a_p1_settings, .inl (t 0, 4, .inl p1_settings_31_8)), (a_p1_rows, .inr (6, [.ref a_p1_rows_keys, .ref a_p1_rows_values, .ref a_p1_rows_states, .int p1_rows_count])), (a_p1_rows_keys, .inl (t 0, 120, .inl p1_rows_keys_)), (a_p1_rows_states, .inl (t 0, 120, .inl p1_rows_states_)), (a_p1_rows_values, .inl (t 0, 120, .inl p1_rows_values_))]) ⟨hx, hb, hml, hown, hts⟩ (c_X5_takeSign l D t z x N a_t_text a_t_text_bytes a_t n_t_text_bytes t_text_length t_text_bytes_ t_length t_at_31_5 t_error_31_6 t_errorAt_31_7 59 1 H.size r38_10 t_at_38_11 t_error_38_12 t_errorAt_38_13 h38_13) (cwV 2 hts gX5_readStatement_X5_takeSign rfl rfl rfl hd_X5_takeSign ⟨Nat.le_of_ble_eq_true rfl, Nat.le_of_ble_eq_true rfl⟩) (hC.at hz hS) hP hD hS hA hz [true, true, true, false, false, false, false, false, false, false, false, false, false, false] rfl rfl rfl rfl 2 rfl (show vwCl[5]? = some (RX5, TX5, 5) from rfl) rfl rfl hl.1 rfl (Nat.le_of_ble_eq_true rfl) dX5_readStatement_38 ⟨Nat.zero_le _, Nat.zero_le _⟩ rfl (fun H locs hP hD hS => ?_)
    refine lv_pop hx hb dX5_readStatement_41 rfl ?_
    cases hF
    exact we_vret hx hb hr hlocks dX5_readStatement_42 rfl hQ hP hD hS
  · have hF := brF c16 hF
    refine lv_aload_n hx hb dX5_readStatement_19 rfl (lv_at hl 1 rfl) ?_
    refine lv_iload_n hx hb dX5_readStatement_20 rfl (lv_at hl 0 rfl) ?_
    refine lv_aload_n hx hb dX5_readStatement_21 rfl (lv_at hl 2 rfl) ?_
    obtain ⟨t_at_22_15, t_error_22_16, t_errorAt_22_17, p1_index_size_22_18, p1_index_entries_22_19, p1_index_starts_22_20, p1_rows_count_22_21, p1_rows_keys_22_22, p1_rows_states_22_23, p1_rows_values_22_24, h22_24, hF⟩ := bnd10E hF
    refine wrVM (As := [.int t_at, .ref a_p1]) (rest := []) (C := RX5) (wn := [(a_t_text, .inr (1, [.ref a_t_text_bytes, .int t_text_length])), (a_t_text_bytes, .inl (t 1, n_t_text_bytes, .inl t_text_bytes_)), (a_t, .inr (5, [.ref a_t_text, .int t_length, .int t_at_22_15, .int t_error_22_16, .int t_errorAt_22_17])), (a_p1, .inr (2, [.ref a_p1_rows, .ref a_p1_index, v_p1_answer, v_p1_kept, .ref a_p1_settings, v_p1_pendingRows, .int p1_pendingCount, .int p1_totalCost])), (a_p1_index, .inr (3, [.ref a_p1_rows, .ref a_p1_index_entries, .ref a_p1_index_bounds, .ref a_p1_index_starts, v_p1_index_heats, .ref a_p1_index_sorted, .int p1_index_size_22_18, .int p1_index_pieces])), (a_p1_index_bounds, .inl (t 0, 62, .inl p1_index_bounds_)), (a_p1_index_entries, .inl (t 0, 120, .inl p1_index_entries_22_19)), (a_p1_index_sorted, .inl (t 0, 62, .inl p1_index_sorted_)), (a_p1_index_starts, .inl (t 0, 62, .inl p1_index_starts_22_20)), (a_p1_settings, .inl (t 0, 4, .inl p1_settings_)), (a_p1_rows, .inr (6, [.ref a_p1_rows_keys, .ref a_p1_rows_values, .ref a_p1_rows_states, .int p1_rows_count_22_21])), (a_p1_rows_keys, .inl (t 0, 120, .inl p1_rows_keys_22_22)), (a_p1_rows_states, .inl (t 0, 120, .inl p1_rows_states_22_23)), (a_p1_rows_values, .inl (t 0, 120, .inl p1_rows_values_22_24))]) ⟨hx, hb, hml, hown, hts⟩ (c_X5_readRow l D t z x N a_t_text a_t_text_bytes a_t a_p1 a_p1_index a_p1_index_bounds a_p1_index_entries a_p1_index_sorted a_p1_index_starts a_p1_rows a_p1_rows_keys a_p1_rows_states a_p1_rows_values n_t_text_bytes v_p1_answer v_p1_kept (.ref a_p1_settings) v_p1_pendingRows v_p1_index_heats t_text_length t_text_bytes_ t_length t_at_6_1 t_error t_errorAt p1_pendingCount p1_totalCost p1_index_size p1_index_pieces p1_index_bounds_ p1_index_entries_ p1_index_sorted_ p1_index_starts_ p1_rows_count p1_rows_keys_ p1_rows_states_ p1_rows_values_ t_at H.size t_at_22_15 t_error_22_16 t_errorAt_22_17 p1_index_size_22_18 p1_index_entries_22_19 p1_index_starts_22_20 p1_rows_count_22_21 p1_rows_keys_22_22 p1_rows_states_22_23 p1_rows_values_22_24 h22_24) (cwV 2 hts gX5_readStatement_X5_readRow rfl rfl rfl hd_X5_readRow ⟨Nat.le_of_ble_eq_true rfl, Nat.le_of_ble_eq_true rfl⟩) (hC.at hz hS) hP hD hS hA hz [true, true, true, true, true, true, true, true, true, false, true, true, true, true] rfl rfl rfl rfl 2 rfl (show vwCl[5]? = some (RX5, TX5, 5) from rfl) rfl rfl hl.1 rfl (Nat.le_of_ble_eq_true rfl) dX5_readStatement_22 ⟨Nat.zero_le _, Nat.zero_le _⟩ rfl (fun H locs hP hD hS => ?_)
    refine lv_goto (tgt := 34) hx hb dX5_readStatement_25 (by decide) ?_
    refine lv_aload_n hx hb dX5_readStatement_34 rfl (lv_at hl 1 rfl) ?_
    refine lv_bipush (v := 59) hx hb dX5_readStatement_35 (by decide) ?_
    refine lv_iconst (v := 1) hx hb dX5_readStatement_37 (by decide) ?_
    obtain ⟨r38_26, t_at_38_27, t_error_38_28, t_errorAt_38_29, h38_29, hF⟩ := bnd4E hF
    refine wrVM (As := [.int 59, .int 1]) (rest := []) (C := RX5) (wn := [(a_t_text, .inr (1, [.ref a_t_text_bytes, .int t_text_length])), (a_t_text_bytes, .inl (t 1, n_t_text_bytes, .inl t_text_bytes_)), (a_t, .inr (5, [.ref a_t_text, .int t_length, .int t_at_38_27, .int t_error_38_28, .int t_errorAt_38_29])), (a_p1, .inr (2, [.ref a_p1_rows, .ref a_p1_index, v_p1_answer, v_p1_kept, .ref a_p1_settings, v_p1_pendingRows, .int p1_pendingCount, .int p1_totalCost])), (a_p1_index, .inr (3, [.ref a_p1_rows, .ref a_p1_index_entries, .ref a_p1_index_bounds, .ref a_p1_index_starts, v_p1_index_heats, .ref a_p1_index_sorted, .int p1_index_size_22_18, .int p1_index_pieces])), (a_p1_index_bounds, .inl (t 0, 62, .inl p1_index_bounds_)), (a_p1_index_entries, .inl (t 0, 120, .inl p1_index_entries_22_19)), (a_p1_index_sorted, .inl (t 0, 62, .inl p1_index_sorted_)), (a_p1_index_starts, .inl (t 0, 62, .inl p1_index_starts_22_20)), (a_p1_settings, .inl (t 0, 4, .inl p1_settings_)), (a_p1_rows, .inr (6, [.ref a_p1_rows_keys, .ref a_p1_rows_values, .ref a_p1_rows_states, .int p1_rows_count_22_21])), (a_p1_rows_keys, .inl (t 0, 120, .inl p1_rows_keys_22_22)), (a_p1_rows_states, .inl (t 0, 120, .inl p1_rows_states_22_23)), (a_p1_rows_values, .inl (t 0, 120, .inl p1_rows_values_22_24))]) ⟨hx, hb, hml, hown, hts⟩ (c_X5_takeSign l D t z x N a_t_text a_t_text_bytes a_t n_t_text_bytes t_text_length t_text_bytes_ t_length t_at_22_15 t_error_22_16 t_errorAt_22_17 59 1 H.size r38_26 t_at_38_27 t_error_38_28 t_errorAt_38_29 h38_29) (cwV 2 hts gX5_readStatement_X5_takeSign rfl rfl rfl hd_X5_takeSign ⟨Nat.le_of_ble_eq_true rfl, Nat.le_of_ble_eq_true rfl⟩) (hC.at hz hS) hP hD hS hA hz [true, true, true, false, false, false, false, false, false, false, false, false, false, false] rfl rfl rfl rfl 2 rfl (show vwCl[5]? = some (RX5, TX5, 5) from rfl) rfl rfl hl.1 rfl (Nat.le_of_ble_eq_true rfl) dX5_readStatement_38 ⟨Nat.zero_le _, Nat.zero_le _⟩ rfl (fun H locs hP hD hS => ?_)
    refine lv_pop hx hb dX5_readStatement_41 rfl ?_
    cases hF
    exact we_vret hx hb hr hlocks dX5_readStatement_42 rfl hQ hP hD hS
abbrev rm_X5_readColumn : Room := { frames := 8, cells := 0, slots := 0, locals := 175 }
theorem hd_X5_readColumn : yX5_readColumn.cls = RX5 ∧ yX5_readColumn.cls ≠ "java/lang/invoke/MethodHandle" ∧ yX5_readColumn.cls ≠ "java/lang/invoke/VarHandle" ∧ (parseMethodDescriptor yX5_readColumn.desc).map (fun d => d.parameters.length) = some 2 := by decide +kernel
set_option maxRecDepth 100000 in
set_option maxHeartbeats 4000000 in
theorem c_X5_readColumn (l : Launch) (D : va_G) (t : Nat → ClassId) (z : Nat) (x : Nat → Nat) (N : Nat) (a_t_text : Nat) (a_t_text_bytes : Nat) (a_t : Nat) (a_p2 : Nat) (a_p2_answer : Nat) (a_p2_answer_numbers : Nat) (a_p2_index : Nat) (a_p2_index_bounds : Nat) (a_p2_index_entries : Nat) (a_p2_index_heats : Nat) (a_p2_index_sorted : Nat) (a_p2_index_starts : Nat) (a_p2_kept : Nat) (a_p2_settings : Nat) (a_p2_rows : Nat) (a_p2_rows_keys : Nat) (a_p2_rows_states : Nat) (a_p2_rows_values : Nat) (n_t_text_bytes : Nat) (v_p2_pendingRows : Value) (v_p2_kept_numbers : Value) (t_text_length : Int32) (t_text_bytes_ : (Nat → Int32)) (t_length : Int32) (t_at : Int32) (t_error : Int32) (t_errorAt : Int32) (p2_pendingCount : Int32) (p2_totalCost : Int32) (p2_answer_given : Int32) (p2_answer_numbers_ : (Nat → Int32)) (p2_index_size : Int32) (p2_index_pieces : Int32) (p2_index_bounds_ : (Nat → Int32)) (p2_index_entries_ : (Nat → Int32)) (p2_index_heats_ : (Nat → Int32)) (p2_index_sorted_ : (Nat → Int32)) (p2_index_starts_ : (Nat → Int32)) (p2_kept_count : Int32) (p2_settings_ : (Nat → Int32)) (p2_rows_count : Int32) (p2_rows_keys_ : (Nat → Int32)) (p2_rows_states_ : (Nat → Int32)) (p2_rows_values_ : (Nat → Int32)) (p1 : Int32) (sz : Nat) (r : Int32) (t_length' : Int32) (t_at' : Int32) (t_error' : Int32) (t_errorAt' : Int32) (p2_pendingCount' : Int32) (p2_totalCost' : Int32) (p2_answer_given' : Int32) (p2_answer_numbers_' : (Nat → Int32)) (p2_index_size' : Int32) (p2_index_pieces' : Int32) (p2_index_bounds_' : (Nat → Int32)) (p2_index_entries_' : (Nat → Int32)) (p2_index_heats_' : (Nat → Int32)) (p2_index_sorted_' : (Nat → Int32)) (p2_index_starts_' : (Nat → Int32)) (p2_kept_count' : Int32) (p2_settings_' : (Nat → Int32)) (p2_rows_count' : Int32) (p2_rows_keys_' : (Nat → Int32)) (p2_rows_states_' : (Nat → Int32)) (p2_rows_values_' : (Nat → Int32)) (hF : f_X5_readColumn N t_text_length t_text_bytes_ p2_answer_numbers_ p2_index_bounds_ p2_index_entries_ p2_index_heats_ p2_index_sorted_ p2_index_starts_ p2_settings_ p2_rows_keys_ p2_rows_states_ p2_rows_values_ n_t_text_bytes p1 = some (r, t_length', t_at', t_error', t_errorAt', p2_pendingCount', p2_totalCost', p2_answer_given', p2_answer_numbers_', p2_index_size', p2_index_pieces', p2_index_bounds_', p2_index_entries_', p2_index_heats_', p2_index_sorted_', p2_index_starts_', p2_kept_count', p2_settings_', p2_rows_count', p2_rows_keys_', p2_rows_states_', p2_rows_values_')) : WrM l D (TY t) z x yX5_readColumn wsX5_readColumn rm_X5_readColumn [.ref a_t, .int p1, .ref a_p2] [(a_t_text, .inr (1, [.ref a_t_text_bytes, .int t_text_length])), (a_t_text_bytes, .inl (t 1, n_t_text_bytes, .inl t_text_bytes_)), (a_t, .inr (5, [.ref a_t_text, .int t_length, .int t_at, .int t_error, .int t_errorAt])), (a_p2, .inr (2, [.ref a_p2_rows, .ref a_p2_index, .ref a_p2_answer, .ref a_p2_kept, .ref a_p2_settings, v_p2_pendingRows, .int p2_pendingCount, .int p2_totalCost])), (a_p2_answer, .inr (0, [.ref a_p2_answer_numbers, .int p2_answer_given])), (a_p2_answer_numbers, .inl (t 0, 9, .inl p2_answer_numbers_)), (a_p2_index, .inr (3, [.ref a_p2_rows, .ref a_p2_index_entries, .ref a_p2_index_bounds, .ref a_p2_index_starts, .ref a_p2_index_heats, .ref a_p2_index_sorted, .int p2_index_size, .int p2_index_pieces])), (a_p2_index_bounds, .inl (t 0, 62, .inl p2_index_bounds_)), (a_p2_index_entries, .inl (t 0, 120, .inl p2_index_entries_)), (a_p2_index_heats, .inl (t 0, 62, .inl p2_index_heats_)), (a_p2_index_sorted, .inl (t 0, 62, .inl p2_index_sorted_)), (a_p2_index_starts, .inl (t 0, 62, .inl p2_index_starts_)), (a_p2_kept, .inr (4, [v_p2_kept_numbers, .int p2_kept_count])), (a_p2_settings, .inl (t 0, 4, .inl p2_settings_)), (a_p2_rows, .inr (6, [.ref a_p2_rows_keys, .ref a_p2_rows_values, .ref a_p2_rows_states, .int p2_rows_count])), (a_p2_rows_keys, .inl (t 0, 120, .inl p2_rows_keys_)), (a_p2_rows_states, .inl (t 0, 120, .inl p2_rows_states_)), (a_p2_rows_values, .inl (t 0, 120, .inl p2_rows_values_))] [(a_t_text, .inr (1, [.ref a_t_text_bytes, .int t_text_length])), (a_t_text_bytes, .inl (t 1, n_t_text_bytes, .inl t_text_bytes_)), (a_t, .inr (5, [.ref a_t_text, .int t_length', .int t_at', .int t_error', .int t_errorAt'])), (a_p2, .inr (2, [.ref a_p2_rows, .ref a_p2_index, .ref a_p2_answer, .ref a_p2_kept, .ref a_p2_settings, v_p2_pendingRows, .int p2_pendingCount', .int p2_totalCost'])), (a_p2_answer, .inr (0, [.ref a_p2_answer_numbers, .int p2_answer_given'])), (a_p2_answer_numbers, .inl (t 0, 9, .inl p2_answer_numbers_')), (a_p2_index, .inr (3, [.ref a_p2_rows, .ref a_p2_index_entries, .ref a_p2_index_bounds, .ref a_p2_index_starts, .ref a_p2_index_heats, .ref a_p2_index_sorted, .int p2_index_size', .int p2_index_pieces'])), (a_p2_index_bounds, .inl (t 0, 62, .inl p2_index_bounds_')), (a_p2_index_entries, .inl (t 0, 120, .inl p2_index_entries_')), (a_p2_index_heats, .inl (t 0, 62, .inl p2_index_heats_')), (a_p2_index_sorted, .inl (t 0, 62, .inl p2_index_sorted_')), (a_p2_index_starts, .inl (t 0, 62, .inl p2_index_starts_')), (a_p2_kept, .inr (4, [v_p2_kept_numbers, .int p2_kept_count'])), (a_p2_settings, .inl (t 0, 4, .inl p2_settings_')), (a_p2_rows, .inr (6, [.ref a_p2_rows_keys, .ref a_p2_rows_values, .ref a_p2_rows_states, .int p2_rows_count'])), (a_p2_rows_keys, .inl (t 0, 120, .inl p2_rows_keys_')), (a_p2_rows_states, .inl (t 0, 120, .inl p2_rows_states_')), (a_p2_rows_values, .inl (t 0, 120, .inl p2_rows_values_'))] sz (some (.int r)) 0 0 := by
  obtain ⟨T9, hT⟩ : ∃ T9, T9 = (r, t_length', t_at', t_error', t_errorAt', p2_pendingCount', p2_totalCost', p2_answer_given', p2_answer_numbers_', p2_index_size', p2_index_pieces', p2_index_bounds_', p2_index_entries_', p2_index_heats_', p2_index_sorted_', p2_index_starts_', p2_kept_count', p2_settings_', p2_rows_count', p2_rows_keys_', p2_rows_states_', p2_rows_values_') := ⟨_, rfl⟩
  rw [← hT] at hF
  obtain rfl : r = T9.1 := by rw [hT]
  obtain rfl : t_length' = T9.2.1 := by rw [hT]
  obtain rfl : t_at' = T9.2.2.1 := by rw [hT]
  obtain rfl : t_error' = T9.2.2.2.1 := by rw [hT]
  obtain rfl : t_errorAt' = T9.2.2.2.2.1 := by rw [hT]
  obtain rfl : p2_pendingCount' = T9.2.2.2.2.2.1 := by rw [hT]
  obtain rfl : p2_totalCost' = T9.2.2.2.2.2.2.1 := by rw [hT]
  obtain rfl : p2_answer_given' = T9.2.2.2.2.2.2.2.1 := by rw [hT]
  obtain rfl : p2_answer_numbers_' = T9.2.2.2.2.2.2.2.2.1 := by rw [hT]
  obtain rfl : p2_index_size' = T9.2.2.2.2.2.2.2.2.2.1 := by rw [hT]
  obtain rfl : p2_index_pieces' = T9.2.2.2.2.2.2.2.2.2.2.1 := by rw [hT]
  obtain rfl : p2_index_bounds_' = T9.2.2.2.2.2.2.2.2.2.2.2.1 := by rw [hT]
  obtain rfl : p2_index_entries_' = T9.2.2.2.2.2.2.2.2.2.2.2.2.1 := by rw [hT]
  obtain rfl : p2_index_heats_' = T9.2.2.2.2.2.2.2.2.2.2.2.2.2.1 := by rw [hT]
  obtain rfl : p2_index_sorted_' = T9.2.2.2.2.2.2.2.2.2.2.2.2.2.2.1 := by rw [hT]
  obtain rfl : p2_index_starts_' = T9.2.2.2.2.2.2.2.2.2.2.2.2.2.2.2.1 := by rw [hT]
  obtain rfl : p2_kept_count' = T9.2.2.2.2.2.2.2.2.2.2.2.2.2.2.2.2.1 := by rw [hT]
  obtain rfl : p2_settings_' = T9.2.2.2.2.2.2.2.2.2.2.2.2.2.2.2.2.2.1 := by rw [hT]
  obtain rfl : p2_rows_count' = T9.2.2.2.2.2.2.2.2.2.2.2.2.2.2.2.2.2.2.1 := by rw [hT]
  obtain rfl : p2_rows_keys_' = T9.2.2.2.2.2.2.2.2.2.2.2.2.2.2.2.2.2.2.2.1 := by rw [hT]
  obtain rfl : p2_rows_states_' = T9.2.2.2.2.2.2.2.2.2.2.2.2.2.2.2.2.2.2.2.2.1 := by rw [hT]
  obtain rfl : p2_rows_values_' = T9.2.2.2.2.2.2.2.2.2.2.2.2.2.2.2.2.2.2.2.2.2 := by rw [hT]
  clear hT
  refine wr_of (cc := cX5_readColumn) (maxL := 4) (ret := (some .int)) (by decide) rfl (Nat.le_of_ble_eq_true rfl) ?_
  intro p e s m args below meth c A Q hQ hx hb hr hml hts hown hlocks hin H locs hP hD hS hA hz hC ls hl
  have hown : s.vm.findClass RX5 = some m.cls := hown
  have hl : lv_has ls 4 [(0, .ref a_t), (1, .int p1), (2, .ref a_p2)] := hl
  have hK := hC.1
  have iw2 : ∀ w ∈ wsX20, w ∈ wsX5_readColumn := fun _ h => List.mem_cons_of_mem _ (List.mem_append_left _ (List.mem_append_left _ (List.mem_append_left _ (List.mem_append_left _ (List.mem_append_left _ (List.mem_append_right _ h))))))
  have iw5 : ∀ w ∈ wsX50, w ∈ wsX5_readColumn := fun _ h => List.mem_cons_of_mem _ (List.mem_append_left _ (List.mem_append_left _ (List.mem_append_left _ (List.mem_append_left _ (List.mem_append_left _ (List.mem_append_left _ (List.mem_append_right _ h)))))))
  have iw6 : ∀ w ∈ wsX60, w ∈ wsX5_readColumn := fun _ h => List.mem_cons_of_mem _ (List.mem_append_left _ (List.mem_append_left _ (List.mem_append_left _ (List.mem_append_left _ (List.mem_append_right _ h)))))
  have hf9 := hts (.fieldLink RX5 9 "CrackedColumn$Reader" "length" "I") (by decide +kernel)
  have hf15 := hts (.fieldLink RX5 15 "CrackedColumn$Reader" "at" "I") (by decide +kernel)
  have hf18 := hts (.fieldLink RX5 18 "CrackedColumn$Reader" "error" "I") (by decide +kernel)
  have hf21 := hts (.fieldLink RX5 21 "CrackedColumn$Reader" "errorAt" "I") (by decide +kernel)
  have hf40 := hts (.fieldLink RX5 40 "CrackedColumn$Column" "rows" "LCrackedColumn$Rows;") (by decide +kernel)
  have hf44 := hts (.fieldLink RX5 44 "CrackedColumn$Rows" "count" "I") (by decide +kernel)
  unfold f_X5_readColumn at hF
  refine lv_aload_n hx hb dX5_readColumn_0 rfl (lv_at hl 0 rfl) ?_
  refine lv_iload_n hx hb dX5_readColumn_1 rfl (lv_at hl 1 rfl) ?_
  refine my_put (ty := .int) (v := .int p1) (ci := 5) (C := RX5) (T := TX5) (N := 5) (wn := [(a_t_text, .inr (1, [.ref a_t_text_bytes, .int t_text_length])), (a_t_text_bytes, .inl (t 1, n_t_text_bytes, .inl t_text_bytes_)), (a_t, .inr (5, [.ref a_t_text, .int p1, .int t_at, .int t_error, .int t_errorAt])), (a_p2, .inr (2, [.ref a_p2_rows, .ref a_p2_index, .ref a_p2_answer, .ref a_p2_kept, .ref a_p2_settings, v_p2_pendingRows, .int p2_pendingCount, .int p2_totalCost])), (a_p2_answer, .inr (0, [.ref a_p2_answer_numbers, .int p2_answer_given])), (a_p2_answer_numbers, .inl (t 0, 9, .inl p2_answer_numbers_)), (a_p2_index, .inr (3, [.ref a_p2_rows, .ref a_p2_index_entries, .ref a_p2_index_bounds, .ref a_p2_index_starts, .ref a_p2_index_heats, .ref a_p2_index_sorted, .int p2_index_size, .int p2_index_pieces])), (a_p2_index_bounds, .inl (t 0, 62, .inl p2_index_bounds_)), (a_p2_index_entries, .inl (t 0, 120, .inl p2_index_entries_)), (a_p2_index_heats, .inl (t 0, 62, .inl p2_index_heats_)), (a_p2_index_sorted, .inl (t 0, 62, .inl p2_index_sorted_)), (a_p2_index_starts, .inl (t 0, 62, .inl p2_index_starts_)), (a_p2_kept, .inr (4, [v_p2_kept_numbers, .int p2_kept_count])), (a_p2_settings, .inl (t 0, 4, .inl p2_settings_)), (a_p2_rows, .inr (6, [.ref a_p2_rows_keys, .ref a_p2_rows_values, .ref a_p2_rows_states, .int p2_rows_count])), (a_p2_rows_keys, .inl (t 0, 120, .inl p2_rows_keys_)), (a_p2_rows_states, .inl (t 0, 120, .inl p2_rows_states_)), (a_p2_rows_values, .inl (t 0, 120, .inl p2_rows_values_))]) hx hb hts iw5 tyX5 tyX5_ok nmX5 hown hK hP hD hS 2 rfl rfl 1 (by decide) hf9 (fun _ h9 => h9) rfl (by decide +kernel) rfl rfl (Nat.le_of_ble_eq_true rfl) rfl dX5_readColumn_2 (fun H locs hP hD hS => ?_)
  refine lv_aload_n hx hb dX5_readColumn_5 rfl (lv_at hl 0 rfl) ?_
  refine lv_iconst (v := 0) hx hb dX5_readColumn_6 (by decide) ?_
  refine my_put (ty := .int) (v := .int 0) (ci := 5) (C := RX5) (T := TX5) (N := 5) (wn := [(a_t_text, .inr (1, [.ref a_t_text_bytes, .int t_text_length])), (a_t_text_bytes, .inl (t 1, n_t_text_bytes, .inl t_text_bytes_)), (a_t, .inr (5, [.ref a_t_text, .int p1, .int 0, .int t_error, .int t_errorAt])), (a_p2, .inr (2, [.ref a_p2_rows, .ref a_p2_index, .ref a_p2_answer, .ref a_p2_kept, .ref a_p2_settings, v_p2_pendingRows, .int p2_pendingCount, .int p2_totalCost])), (a_p2_answer, .inr (0, [.ref a_p2_answer_numbers, .int p2_answer_given])), (a_p2_answer_numbers, .inl (t 0, 9, .inl p2_answer_numbers_)), (a_p2_index, .inr (3, [.ref a_p2_rows, .ref a_p2_index_entries, .ref a_p2_index_bounds, .ref a_p2_index_starts, .ref a_p2_index_heats, .ref a_p2_index_sorted, .int p2_index_size, .int p2_index_pieces])), (a_p2_index_bounds, .inl (t 0, 62, .inl p2_index_bounds_)), (a_p2_index_entries, .inl (t 0, 120, .inl p2_index_entries_)), (a_p2_index_heats, .inl (t 0, 62, .inl p2_index_heats_)), (a_p2_index_sorted, .inl (t 0, 62, .inl p2_index_sorted_)), (a_p2_index_starts, .inl (t 0, 62, .inl p2_index_starts_)), (a_p2_kept, .inr (4, [v_p2_kept_numbers, .int p2_kept_count])), (a_p2_settings, .inl (t 0, 4, .inl p2_settings_)), (a_p2_rows, .inr (6, [.ref a_p2_rows_keys, .ref a_p2_rows_values, .ref a_p2_rows_states, .int p2_rows_count])), (a_p2_rows_keys, .inl (t 0, 120, .inl p2_rows_keys_)), (a_p2_rows_states, .inl (t 0, 120, .inl p2_rows_states_)), (a_p2_rows_values, .inl (t 0, 120, .inl p2_rows_values_))]) hx hb hts iw5 tyX5 tyX5_ok nmX5 hown hK hP hD hS 2 rfl rfl 2 (by decide) hf15 (fun _ h9 => h9) rfl (by decide +kernel) rfl rfl (Nat.le_of_ble_eq_true rfl) rfl dX5_readColumn_7 (fun H locs hP hD hS => ?_)
  refine lv_aload_n hx hb dX5_readColumn_10 rfl (lv_at hl 0 rfl) ?_
  refine lv_iconst (v := 0) hx hb dX5_readColumn_11 (by decide) ?_
  refine my_put (ty := .int) (v := .int 0) (ci := 5) (C := RX5) (T := TX5) (N := 5) (wn := [(a_t_text, .inr (1, [.ref a_t_text_bytes, .int t_text_length])), (a_t_text_bytes, .inl (t 1, n_t_text_bytes, .inl t_text_bytes_)), (a_t, .inr (5, [.ref a_t_text, .int p1, .int 0, .int 0, .int t_errorAt])), (a_p2, .inr (2, [.ref a_p2_rows, .ref a_p2_index, .ref a_p2_answer, .ref a_p2_kept, .ref a_p2_settings, v_p2_pendingRows, .int p2_pendingCount, .int p2_totalCost])), (a_p2_answer, .inr (0, [.ref a_p2_answer_numbers, .int p2_answer_given])), (a_p2_answer_numbers, .inl (t 0, 9, .inl p2_answer_numbers_)), (a_p2_index, .inr (3, [.ref a_p2_rows, .ref a_p2_index_entries, .ref a_p2_index_bounds, .ref a_p2_index_starts, .ref a_p2_index_heats, .ref a_p2_index_sorted, .int p2_index_size, .int p2_index_pieces])), (a_p2_index_bounds, .inl (t 0, 62, .inl p2_index_bounds_)), (a_p2_index_entries, .inl (t 0, 120, .inl p2_index_entries_)), (a_p2_index_heats, .inl (t 0, 62, .inl p2_index_heats_)), (a_p2_index_sorted, .inl (t 0, 62, .inl p2_index_sorted_)), (a_p2_index_starts, .inl (t 0, 62, .inl p2_index_starts_)), (a_p2_kept, .inr (4, [v_p2_kept_numbers, .int p2_kept_count])), (a_p2_settings, .inl (t 0, 4, .inl p2_settings_)), (a_p2_rows, .inr (6, [.ref a_p2_rows_keys, .ref a_p2_rows_values, .ref a_p2_rows_states, .int p2_rows_count])), (a_p2_rows_keys, .inl (t 0, 120, .inl p2_rows_keys_)), (a_p2_rows_states, .inl (t 0, 120, .inl p2_rows_states_)), (a_p2_rows_values, .inl (t 0, 120, .inl p2_rows_values_))]) hx hb hts iw5 tyX5 tyX5_ok nmX5 hown hK hP hD hS 2 rfl rfl 3 (by decide) hf18 (fun _ h9 => h9) rfl (by decide +kernel) rfl rfl (Nat.le_of_ble_eq_true rfl) rfl dX5_readColumn_12 (fun H locs hP hD hS => ?_)
  refine lv_aload_n hx hb dX5_readColumn_15 rfl (lv_at hl 0 rfl) ?_
  refine lv_iconst (v := (-1)) hx hb dX5_readColumn_16 (by decide) ?_
  refine my_put (ty := .int) (v := .int (-1)) (ci := 5) (C := RX5) (T := TX5) (N := 5) (wn := [(a_t_text, .inr (1, [.ref a_t_text_bytes, .int t_text_length])), (a_t_text_bytes, .inl (t 1, n_t_text_bytes, .inl t_text_bytes_)), (a_t, .inr (5, [.ref a_t_text, .int p1, .int 0, .int 0, .int (-1)])), (a_p2, .inr (2, [.ref a_p2_rows, .ref a_p2_index, .ref a_p2_answer, .ref a_p2_kept, .ref a_p2_settings, v_p2_pendingRows, .int p2_pendingCount, .int p2_totalCost])), (a_p2_answer, .inr (0, [.ref a_p2_answer_numbers, .int p2_answer_given])), (a_p2_answer_numbers, .inl (t 0, 9, .inl p2_answer_numbers_)), (a_p2_index, .inr (3, [.ref a_p2_rows, .ref a_p2_index_entries, .ref a_p2_index_bounds, .ref a_p2_index_starts, .ref a_p2_index_heats, .ref a_p2_index_sorted, .int p2_index_size, .int p2_index_pieces])), (a_p2_index_bounds, .inl (t 0, 62, .inl p2_index_bounds_)), (a_p2_index_entries, .inl (t 0, 120, .inl p2_index_entries_)), (a_p2_index_heats, .inl (t 0, 62, .inl p2_index_heats_)), (a_p2_index_sorted, .inl (t 0, 62, .inl p2_index_sorted_)), (a_p2_index_starts, .inl (t 0, 62, .inl p2_index_starts_)), (a_p2_kept, .inr (4, [v_p2_kept_numbers, .int p2_kept_count])), (a_p2_settings, .inl (t 0, 4, .inl p2_settings_)), (a_p2_rows, .inr (6, [.ref a_p2_rows_keys, .ref a_p2_rows_values, .ref a_p2_rows_states, .int p2_rows_count])), (a_p2_rows_keys, .inl (t 0, 120, .inl p2_rows_keys_)), (a_p2_rows_states, .inl (t 0, 120, .inl p2_rows_states_)), (a_p2_rows_values, .inl (t 0, 120, .inl p2_rows_values_))]) hx hb hts iw5 tyX5 tyX5_ok nmX5 hown hK hP hD hS 2 rfl rfl 4 (by decide) hf21 (fun _ h9 => h9) rfl (by decide +kernel) rfl rfl (Nat.le_of_ble_eq_true rfl) rfl dX5_readColumn_17 (fun H locs hP hD hS => ?_)
  refine lv_aload_n hx hb dX5_readColumn_20 rfl (lv_at hl 2 rfl) ?_
  obtain ⟨p2_pendingCount_21_1, p2_totalCost_21_2, p2_answer_given_21_3, p2_answer_numbers_21_4, p2_index_size_21_5, p2_index_pieces_21_6, p2_index_bounds_21_7, p2_index_heats_21_8, p2_index_sorted_21_9, p2_index_starts_21_10, p2_kept_count_21_11, p2_settings_21_12, p2_rows_count_21_13, h21_13, hF⟩ := bnd13E hF
  refine wrVM (As := []) (rest := []) (C := RX2) (wn := [(a_t_text, .inr (1, [.ref a_t_text_bytes, .int t_text_length])), (a_t_text_bytes, .inl (t 1, n_t_text_bytes, .inl t_text_bytes_)), (a_t, .inr (5, [.ref a_t_text, .int p1, .int 0, .int 0, .int (-1)])), (a_p2, .inr (2, [.ref a_p2_rows, .ref a_p2_index, .ref a_p2_answer, .ref a_p2_kept, .ref a_p2_settings, v_p2_pendingRows, .int p2_pendingCount_21_1, .int p2_totalCost_21_2])), (a_p2_answer, .inr (0, [.ref a_p2_answer_numbers, .int p2_answer_given_21_3])), (a_p2_answer_numbers, .inl (t 0, 9, .inl p2_answer_numbers_21_4)), (a_p2_index, .inr (3, [.ref a_p2_rows, .ref a_p2_index_entries, .ref a_p2_index_bounds, .ref a_p2_index_starts, .ref a_p2_index_heats, .ref a_p2_index_sorted, .int p2_index_size_21_5, .int p2_index_pieces_21_6])), (a_p2_index_bounds, .inl (t 0, 62, .inl p2_index_bounds_21_7)), (a_p2_index_entries, .inl (t 0, 120, .inl p2_index_entries_)), (a_p2_index_heats, .inl (t 0, 62, .inl p2_index_heats_21_8)), (a_p2_index_sorted, .inl (t 0, 62, .inl p2_index_sorted_21_9)), (a_p2_index_starts, .inl (t 0, 62, .inl p2_index_starts_21_10)), (a_p2_kept, .inr (4, [v_p2_kept_numbers, .int p2_kept_count_21_11])), (a_p2_settings, .inl (t 0, 4, .inl p2_settings_21_12)), (a_p2_rows, .inr (6, [.ref a_p2_rows_keys, .ref a_p2_rows_values, .ref a_p2_rows_states, .int p2_rows_count_21_13])), (a_p2_rows_keys, .inl (t 0, 120, .inl p2_rows_keys_)), (a_p2_rows_states, .inl (t 0, 120, .inl p2_rows_states_)), (a_p2_rows_values, .inl (t 0, 120, .inl p2_rows_values_))]) ⟨hx, hb, hml, hown, hts⟩ (c_X2_clear l D t z x N a_p2 a_p2_answer a_p2_answer_numbers a_p2_index a_p2_index_bounds a_p2_index_heats a_p2_index_sorted a_p2_index_starts a_p2_kept a_p2_settings a_p2_rows v_p2_pendingRows (.ref a_p2_index_entries) v_p2_kept_numbers (.ref a_p2_rows_keys) (.ref a_p2_rows_values) (.ref a_p2_rows_states) p2_pendingCount p2_totalCost p2_answer_given p2_answer_numbers_ p2_index_size p2_index_pieces p2_index_bounds_ p2_index_heats_ p2_index_sorted_ p2_index_starts_ p2_kept_count p2_settings_ p2_rows_count H.size p2_pendingCount_21_1 p2_totalCost_21_2 p2_answer_given_21_3 p2_answer_numbers_21_4 p2_index_size_21_5 p2_index_pieces_21_6 p2_index_bounds_21_7 p2_index_heats_21_8 p2_index_sorted_21_9 p2_index_starts_21_10 p2_kept_count_21_11 p2_settings_21_12 p2_rows_count_21_13 h21_13) (cwV 0 hts gX5_readColumn_X2_clear rfl rfl rfl hd_X2_clear ⟨Nat.le_of_ble_eq_true rfl, Nat.le_of_ble_eq_true rfl⟩) (hC.at hz hS) hP hD hS hA hz [false, false, false, true, true, true, true, true, false, true, true, true, true, true, true, false, false, false] rfl rfl rfl rfl 0 rfl (show vwCl[2]? = some (RX2, TX2, 8) from rfl) rfl rfl hl.1 rfl (Nat.le_of_ble_eq_true rfl) dX5_readColumn_21 ⟨Nat.zero_le _, Nat.zero_le _⟩ rfl (fun H locs hP hD hS => ?_)
  refine lv_aload_n hx hb dX5_readColumn_24 rfl (lv_at hl 0 rfl) ?_
  obtain ⟨t_at_25_15, h25_15, hF⟩ := bndE hF
  refine wrVM (As := []) (rest := []) (C := RX5) (wn := [(a_t_text, .inr (1, [.ref a_t_text_bytes, .int t_text_length])), (a_t_text_bytes, .inl (t 1, n_t_text_bytes, .inl t_text_bytes_)), (a_t, .inr (5, [.ref a_t_text, .int p1, .int t_at_25_15, .int 0, .int (-1)])), (a_p2, .inr (2, [.ref a_p2_rows, .ref a_p2_index, .ref a_p2_answer, .ref a_p2_kept, .ref a_p2_settings, v_p2_pendingRows, .int p2_pendingCount_21_1, .int p2_totalCost_21_2])), (a_p2_answer, .inr (0, [.ref a_p2_answer_numbers, .int p2_answer_given_21_3])), (a_p2_answer_numbers, .inl (t 0, 9, .inl p2_answer_numbers_21_4)), (a_p2_index, .inr (3, [.ref a_p2_rows, .ref a_p2_index_entries, .ref a_p2_index_bounds, .ref a_p2_index_starts, .ref a_p2_index_heats, .ref a_p2_index_sorted, .int p2_index_size_21_5, .int p2_index_pieces_21_6])), (a_p2_index_bounds, .inl (t 0, 62, .inl p2_index_bounds_21_7)), (a_p2_index_entries, .inl (t 0, 120, .inl p2_index_entries_)), (a_p2_index_heats, .inl (t 0, 62, .inl p2_index_heats_21_8)), (a_p2_index_sorted, .inl (t 0, 62, .inl p2_index_sorted_21_9)), (a_p2_index_starts, .inl (t 0, 62, .inl p2_index_starts_21_10)), (a_p2_kept, .inr (4, [v_p2_kept_numbers, .int p2_kept_count_21_11])), (a_p2_settings, .inl (t 0, 4, .inl p2_settings_21_12)), (a_p2_rows, .inr (6, [.ref a_p2_rows_keys, .ref a_p2_rows_values, .ref a_p2_rows_states, .int p2_rows_count_21_13])), (a_p2_rows_keys, .inl (t 0, 120, .inl p2_rows_keys_)), (a_p2_rows_states, .inl (t 0, 120, .inl p2_rows_states_)), (a_p2_rows_values, .inl (t 0, 120, .inl p2_rows_values_))]) ⟨hx, hb, hml, hown, hts⟩ (c_X5_skipSpaces l D t z x N a_t_text a_t_text_bytes a_t n_t_text_bytes t_text_length t_text_bytes_ p1 0 0 (-1) H.size t_at_25_15 h25_15) (cwV 0 hts gX5_readColumn_X5_skipSpaces rfl rfl rfl hd_X5_skipSpaces ⟨Nat.le_of_ble_eq_true rfl, Nat.le_of_ble_eq_true rfl⟩) (hC.at hz hS) hP hD hS hA hz [true, true, true, false, false, false, false, false, false, false, false, false, false, false, false, false, false, false] rfl rfl rfl rfl 2 rfl (show vwCl[5]? = some (RX5, TX5, 5) from rfl) rfl rfl hl.1 rfl (Nat.le_of_ble_eq_true rfl) dX5_readColumn_25 ⟨Nat.zero_le _, Nat.zero_le _⟩ rfl (fun H locs hP hD hS => ?_)
  refine lv_aload_n hx hb dX5_readColumn_28 rfl (lv_at hl 0 rfl) ?_
  refine va_get (D := D) (ci := 5) (v := .int p1) (C := RX5) (T := TX5) (N := 5) hx hb hts iw5 hown hK hP 2 rfl rfl 1 (by decide) hf9 (fun _ h9 => h9) rfl dX5_readColumn_29 ?_
  refine lv_istore_n (lv' := [(3, .int p1), (0, .ref a_t), (1, .int p1), (2, .ref a_p2)]) hx hb dX5_readColumn_32 rfl hl (by decide) rfl (fun ls hl => ?_)
  obtain ⟨k70_28, ek70_28, hF⟩ := jnE hF
  have hk70_28 : ∀ (t_at_70_17 : Int32) (t_error_70_18 : Int32) (t_errorAt_70_19 : Int32) (p2_index_size_70_20 : Int32) (p2_index_entries_70_21 : (Nat → Int32)) (p2_index_starts_70_22 : (Nat → Int32)) (p2_settings_70_23 : (Nat → Int32)) (p2_rows_count_70_24 : Int32) (p2_rows_keys_70_25 : (Nat → Int32)) (p2_rows_states_70_26 : (Nat → Int32)) (p2_rows_values_70_27 : (Nat → Int32)) (H : Heap) (locs : List Loc) (ls : Array Slot), va_P D vwCl [(a_t_text, .inr (1, [.ref a_t_text_bytes, .int t_text_length])), (a_t_text_bytes, .inl (t 1, n_t_text_bytes, .inl t_text_bytes_)), (a_t, .inr (5, [.ref a_t_text, .int p1, .int t_at_70_17, .int t_error_70_18, .int t_errorAt_70_19])), (a_p2, .inr (2, [.ref a_p2_rows, .ref a_p2_index, .ref a_p2_answer, .ref a_p2_kept, .ref a_p2_settings, v_p2_pendingRows, .int p2_pendingCount_21_1, .int p2_totalCost_21_2])), (a_p2_answer, .inr (0, [.ref a_p2_answer_numbers, .int p2_answer_given_21_3])), (a_p2_answer_numbers, .inl (t 0, 9, .inl p2_answer_numbers_21_4)), (a_p2_index, .inr (3, [.ref a_p2_rows, .ref a_p2_index_entries, .ref a_p2_index_bounds, .ref a_p2_index_starts, .ref a_p2_index_heats, .ref a_p2_index_sorted, .int p2_index_size_70_20, .int p2_index_pieces_21_6])), (a_p2_index_bounds, .inl (t 0, 62, .inl p2_index_bounds_21_7)), (a_p2_index_entries, .inl (t 0, 120, .inl p2_index_entries_70_21)), (a_p2_index_heats, .inl (t 0, 62, .inl p2_index_heats_21_8)), (a_p2_index_sorted, .inl (t 0, 62, .inl p2_index_sorted_21_9)), (a_p2_index_starts, .inl (t 0, 62, .inl p2_index_starts_70_22)), (a_p2_kept, .inr (4, [v_p2_kept_numbers, .int p2_kept_count_21_11])), (a_p2_settings, .inl (t 0, 4, .inl p2_settings_70_23)), (a_p2_rows, .inr (6, [.ref a_p2_rows_keys, .ref a_p2_rows_values, .ref a_p2_rows_states, .int p2_rows_count_70_24])), (a_p2_rows_keys, .inl (t 0, 120, .inl p2_rows_keys_70_25)), (a_p2_rows_states, .inl (t 0, 120, .inl p2_rows_states_70_26)), (a_p2_rows_values, .inl (t 0, 120, .inl p2_rows_values_70_27))] H → va_D A [(a_t_text, .inr (1, [.ref a_t_text_bytes, .int t_text_length])), (a_t_text_bytes, .inl (t 1, n_t_text_bytes, .inl t_text_bytes_)), (a_t, .inr (5, [.ref a_t_text, .int p1, .int t_at_70_17, .int t_error_70_18, .int t_errorAt_70_19])), (a_p2, .inr (2, [.ref a_p2_rows, .ref a_p2_index, .ref a_p2_answer, .ref a_p2_kept, .ref a_p2_settings, v_p2_pendingRows, .int p2_pendingCount_21_1, .int p2_totalCost_21_2])), (a_p2_answer, .inr (0, [.ref a_p2_answer_numbers, .int p2_answer_given_21_3])), (a_p2_answer_numbers, .inl (t 0, 9, .inl p2_answer_numbers_21_4)), (a_p2_index, .inr (3, [.ref a_p2_rows, .ref a_p2_index_entries, .ref a_p2_index_bounds, .ref a_p2_index_starts, .ref a_p2_index_heats, .ref a_p2_index_sorted, .int p2_index_size_70_20, .int p2_index_pieces_21_6])), (a_p2_index_bounds, .inl (t 0, 62, .inl p2_index_bounds_21_7)), (a_p2_index_entries, .inl (t 0, 120, .inl p2_index_entries_70_21)), (a_p2_index_heats, .inl (t 0, 62, .inl p2_index_heats_21_8)), (a_p2_index_sorted, .inl (t 0, 62, .inl p2_index_sorted_21_9)), (a_p2_index_starts, .inl (t 0, 62, .inl p2_index_starts_70_22)), (a_p2_kept, .inr (4, [v_p2_kept_numbers, .int p2_kept_count_21_11])), (a_p2_settings, .inl (t 0, 4, .inl p2_settings_70_23)), (a_p2_rows, .inr (6, [.ref a_p2_rows_keys, .ref a_p2_rows_values, .ref a_p2_rows_states, .int p2_rows_count_70_24])), (a_p2_rows_keys, .inl (t 0, 120, .inl p2_rows_keys_70_25)), (a_p2_rows_states, .inl (t 0, 120, .inl p2_rows_states_70_26)), (a_p2_rows_values, .inl (t 0, 120, .inl p2_rows_values_70_27))] → va_S A s.heap H locs → lv_has ls 4 [(0, .ref a_t), (2, .ref a_p2)] → k70_28 t_at_70_17 t_error_70_18 t_errorAt_70_19 p2_index_size_70_20 p2_index_entries_70_21 p2_index_starts_70_22 p2_settings_70_23 p2_rows_count_70_24 p2_rows_keys_70_25 p2_rows_states_70_26 p2_rows_values_70_27 = some T9 → W p l e rm_X5_readColumn s m args below meth c H locs 0 0 Q (F0 m 70 ls []) := by
    subst ek70_28
    intro t_at_70_17 t_error_70_18 t_errorAt_70_19 p2_index_size_70_20 p2_index_entries_70_21 p2_index_starts_70_22 p2_settings_70_23 p2_rows_count_70_24 p2_rows_keys_70_25 p2_rows_states_70_26 p2_rows_values_70_27 H locs ls hP hD hS hl hF
    refine lv_aload_n hx hb dX5_readColumn_70 rfl (lv_at hl 0 rfl) ?_
    refine va_get (D := D) (ci := 5) (v := .int t_error_70_18) (C := RX5) (T := TX5) (N := 5) hx hb hts iw5 hown hK hP 2 rfl rfl 3 (by decide) hf18 (fun _ h9 => h9) rfl dX5_readColumn_71 ?_
    refine lv_if_ne (tgt := 87) hx hb dX5_readColumn_74 (by decide) (fun c74 => ?_) (fun c74 => ?_)
    · have hF := brF c74 hF
      refine lv_aload_n hx hb dX5_readColumn_87 rfl (lv_at hl 0 rfl) ?_
      refine va_get (D := D) (ci := 5) (v := .int t_error_70_18) (C := RX5) (T := TX5) (N := 5) hx hb hts iw5 hown hK hP 2 rfl rfl 3 (by decide) hf18 (fun _ h9 => h9) rfl dX5_readColumn_88 ?_
      cases hF
      exact we_iret hx hb hr hlocks dX5_readColumn_91 rfl hQ hP hD hS
    · have hF := brT c74 hF
      refine lv_aload_n hx hb dX5_readColumn_77 rfl (lv_at hl 1 rfl) ?_
      refine va_get (D := D) (ci := 2) (v := .ref a_p2_rows) (C := RX2) (T := TX2) (N := 8) hx hb hts iw2 hown hK hP 3 rfl rfl 0 (by decide) hf40 (fun _ h9 => h9) rfl dX5_readColumn_78 ?_
      refine va_get (D := D) (ci := 6) (v := .int p2_rows_count_70_24) (C := RX6) (T := TX6) (N := 4) hx hb hts iw6 hown hK hP 14 rfl rfl 3 (by decide) hf44 (fun _ h9 => h9) rfl dX5_readColumn_81 ?_
      refine lv_goto (tgt := 91) hx hb dX5_readColumn_84 (by decide) ?_
      cases hF
      exact we_iret hx hb hr hlocks dX5_readColumn_91 rfl hQ hP hD hS
  have hlp33 : ∀ n33 : Nat, ∀ (x3_33_29 : Int32) (t_at_33_30 : Int32) (t_error_33_31 : Int32) (t_errorAt_33_32 : Int32) (p2_index_size_33_33 : Int32) (p2_index_entries_33_34 : (Nat → Int32)) (p2_index_starts_33_35 : (Nat → Int32)) (p2_settings_33_36 : (Nat → Int32)) (p2_rows_count_33_37 : Int32) (p2_rows_keys_33_38 : (Nat → Int32)) (p2_rows_states_33_39 : (Nat → Int32)) (p2_rows_values_33_40 : (Nat → Int32)) (H : Heap) (locs : List Loc) (ls : Array Slot), va_P D vwCl [(a_t_text, .inr (1, [.ref a_t_text_bytes, .int t_text_length])), (a_t_text_bytes, .inl (t 1, n_t_text_bytes, .inl t_text_bytes_)), (a_t, .inr (5, [.ref a_t_text, .int p1, .int t_at_33_30, .int t_error_33_31, .int t_errorAt_33_32])), (a_p2, .inr (2, [.ref a_p2_rows, .ref a_p2_index, .ref a_p2_answer, .ref a_p2_kept, .ref a_p2_settings, v_p2_pendingRows, .int p2_pendingCount_21_1, .int p2_totalCost_21_2])), (a_p2_answer, .inr (0, [.ref a_p2_answer_numbers, .int p2_answer_given_21_3])), (a_p2_answer_numbers, .inl (t 0, 9, .inl p2_answer_numbers_21_4)), (a_p2_index, .inr (3, [.ref a_p2_rows, .ref a_p2_index_entries, .ref a_p2_index_bounds, .ref a_p2_index_starts, .ref a_p2_index_heats, .ref a_p2_index_sorted, .int p2_index_size_33_33, .int p2_index_pieces_21_6])), (a_p2_index_bounds, .inl (t 0, 62, .inl p2_index_bounds_21_7)), (a_p2_index_entries, .inl (t 0, 120, .inl p2_index_entries_33_34)), (a_p2_index_heats, .inl (t 0, 62, .inl p2_index_heats_21_8)), (a_p2_index_sorted, .inl (t 0, 62, .inl p2_index_sorted_21_9)), (a_p2_index_starts, .inl (t 0, 62, .inl p2_index_starts_33_35)), (a_p2_kept, .inr (4, [v_p2_kept_numbers, .int p2_kept_count_21_11])), (a_p2_settings, .inl (t 0, 4, .inl p2_settings_33_36)), (a_p2_rows, .inr (6, [.ref a_p2_rows_keys, .ref a_p2_rows_values, .ref a_p2_rows_states, .int p2_rows_count_33_37])), (a_p2_rows_keys, .inl (t 0, 120, .inl p2_rows_keys_33_38)), (a_p2_rows_states, .inl (t 0, 120, .inl p2_rows_states_33_39)), (a_p2_rows_values, .inl (t 0, 120, .inl p2_rows_values_33_40))] H → va_D A [(a_t_text, .inr (1, [.ref a_t_text_bytes, .int t_text_length])), (a_t_text_bytes, .inl (t 1, n_t_text_bytes, .inl t_text_bytes_)), (a_t, .inr (5, [.ref a_t_text, .int p1, .int t_at_33_30, .int t_error_33_31, .int t_errorAt_33_32])), (a_p2, .inr (2, [.ref a_p2_rows, .ref a_p2_index, .ref a_p2_answer, .ref a_p2_kept, .ref a_p2_settings, v_p2_pendingRows, .int p2_pendingCount_21_1, .int p2_totalCost_21_2])), (a_p2_answer, .inr (0, [.ref a_p2_answer_numbers, .int p2_answer_given_21_3])), (a_p2_answer_numbers, .inl (t 0, 9, .inl p2_answer_numbers_21_4)), (a_p2_index, .inr (3, [.ref a_p2_rows, .ref a_p2_index_entries, .ref a_p2_index_bounds, .ref a_p2_index_starts, .ref a_p2_index_heats, .ref a_p2_index_sorted, .int p2_index_size_33_33, .int p2_index_pieces_21_6])), (a_p2_index_bounds, .inl (t 0, 62, .inl p2_index_bounds_21_7)), (a_p2_index_entries, .inl (t 0, 120, .inl p2_index_entries_33_34)), (a_p2_index_heats, .inl (t 0, 62, .inl p2_index_heats_21_8)), (a_p2_index_sorted, .inl (t 0, 62, .inl p2_index_sorted_21_9)), (a_p2_index_starts, .inl (t 0, 62, .inl p2_index_starts_33_35)), (a_p2_kept, .inr (4, [v_p2_kept_numbers, .int p2_kept_count_21_11])), (a_p2_settings, .inl (t 0, 4, .inl p2_settings_33_36)), (a_p2_rows, .inr (6, [.ref a_p2_rows_keys, .ref a_p2_rows_values, .ref a_p2_rows_states, .int p2_rows_count_33_37])), (a_p2_rows_keys, .inl (t 0, 120, .inl p2_rows_keys_33_38)), (a_p2_rows_states, .inl (t 0, 120, .inl p2_rows_states_33_39)), (a_p2_rows_values, .inl (t 0, 120, .inl p2_rows_values_33_40))] → va_S A s.heap H locs → lv_has ls 4 [(0, .ref a_t), (2, .ref a_p2), (3, .int x3_33_29)] → f_X5_readColumn_33 N t_text_length t_text_bytes_ n_t_text_bytes p1 p2_index_pieces_21_6 p2_index_bounds_21_7 p2_index_sorted_21_9 k70_28 n33 x3_33_29 t_at_33_30 t_error_33_31 t_errorAt_33_32 p2_index_size_33_33 p2_index_entries_33_34 p2_index_starts_33_35 p2_settings_33_36 p2_rows_count_33_37 p2_rows_keys_33_38 p2_rows_states_33_39 p2_rows_values_33_40 = some T9 → W p l e rm_X5_readColumn s m args below meth c H locs 0 0 Q (F0 m 33 ls []) := by
    intro n33
    induction n33 with
    | zero =>
      intro x3_33_29 t_at_33_30 t_error_33_31 t_errorAt_33_32 p2_index_size_33_33 p2_index_entries_33_34 p2_index_starts_33_35 p2_settings_33_36 p2_rows_count_33_37 p2_rows_keys_33_38 p2_rows_states_33_39 p2_rows_values_33_40 H locs ls hP hD hS hl hF
      cases (show none = some T9 from hF)
    | succ n33 ih33 =>
      intro x3_33_29 t_at_33_30 t_error_33_31 t_errorAt_33_32 p2_index_size_33_33 p2_index_entries_33_34 p2_index_starts_33_35 p2_settings_33_36 p2_rows_count_33_37 p2_rows_keys_33_38 p2_rows_states_33_39 p2_rows_values_33_40 H locs ls hP hD hS hl hF
      rw [f_X5_readColumn_33] at hF
      refine lv_iload_n hx hb dX5_readColumn_33 rfl (lv_at hl 2 rfl) ?_
      refine lv_if_le (tgt := 70) hx hb dX5_readColumn_34 (by decide) (fun c34 => ?_) (fun c34 => ?_)
      · have hF := brT c34 hF
        exact hk70_28 t_at_33_30 t_error_33_31 t_errorAt_33_32 p2_index_size_33_33 p2_index_entries_33_34 p2_index_starts_33_35 p2_settings_33_36 p2_rows_count_33_37 p2_rows_keys_33_38 p2_rows_states_33_39 p2_rows_values_33_40 H locs ls hP hD hS (lv_sub hl [0, 1] rfl) hF
      · have hF := brF c34 hF
        refine lv_aload_n hx hb dX5_readColumn_37 rfl (lv_at hl 0 rfl) ?_
        refine va_get (D := D) (ci := 5) (v := .int t_at_33_30) (C := RX5) (T := TX5) (N := 5) hx hb hts iw5 hown hK hP 2 rfl rfl 2 (by decide) hf15 (fun _ h9 => h9) rfl dX5_readColumn_38 ?_
        refine lv_aload_n hx hb dX5_readColumn_41 rfl (lv_at hl 0 rfl) ?_
        refine va_get (D := D) (ci := 5) (v := .int p1) (C := RX5) (T := TX5) (N := 5) hx hb hts iw5 hown hK hP 2 rfl rfl 1 (by decide) hf9 (fun _ h9 => h9) rfl dX5_readColumn_42 ?_
        refine lv_icmp_ge (tgt := 70) hx hb dX5_readColumn_45 (by decide) (fun c45 => ?_) (fun c45 => ?_)
        · have hF := brT c45 hF
          exact hk70_28 t_at_33_30 t_error_33_31 t_errorAt_33_32 p2_index_size_33_33 p2_index_entries_33_34 p2_index_starts_33_35 p2_settings_33_36 p2_rows_count_33_37 p2_rows_keys_33_38 p2_rows_states_33_39 p2_rows_values_33_40 H locs ls hP hD hS (lv_sub hl [0, 1] rfl) hF
        · have hF := brF c45 hF
          refine lv_aload_n hx hb dX5_readColumn_48 rfl (lv_at hl 0 rfl) ?_
          refine va_get (D := D) (ci := 5) (v := .int t_error_33_31) (C := RX5) (T := TX5) (N := 5) hx hb hts iw5 hown hK hP 2 rfl rfl 3 (by decide) hf18 (fun _ h9 => h9) rfl dX5_readColumn_49 ?_
          refine lv_if_ne (tgt := 70) hx hb dX5_readColumn_52 (by decide) (fun c52 => ?_) (fun c52 => ?_)
          · have hF := brF c52 hF
            exact hk70_28 t_at_33_30 t_error_33_31 t_errorAt_33_32 p2_index_size_33_33 p2_index_entries_33_34 p2_index_starts_33_35 p2_settings_33_36 p2_rows_count_33_37 p2_rows_keys_33_38 p2_rows_states_33_39 p2_rows_values_33_40 H locs ls hP hD hS (lv_sub hl [0, 1] rfl) hF
          · have hF := brT c52 hF
            refine lv_aload_n hx hb dX5_readColumn_55 rfl (lv_at hl 0 rfl) ?_
            refine lv_aload_n hx hb dX5_readColumn_56 rfl (lv_at hl 1 rfl) ?_
            obtain ⟨t_at_57_41, t_error_57_42, t_errorAt_57_43, p2_index_size_57_44, p2_index_entries_57_45, p2_index_starts_57_46, p2_settings_57_47, p2_rows_count_57_48, p2_rows_keys_57_49, p2_rows_states_57_50, p2_rows_values_57_51, h57_51, hF⟩ := bnd11E hF
            refine wrVM (As := [.ref a_p2]) (rest := []) (C := RX5) (wn := [(a_t_text, .inr (1, [.ref a_t_text_bytes, .int t_text_length])), (a_t_text_bytes, .inl (t 1, n_t_text_bytes, .inl t_text_bytes_)), (a_t, .inr (5, [.ref a_t_text, .int p1, .int t_at_57_41, .int t_error_57_42, .int t_errorAt_57_43])), (a_p2, .inr (2, [.ref a_p2_rows, .ref a_p2_index, .ref a_p2_answer, .ref a_p2_kept, .ref a_p2_settings, v_p2_pendingRows, .int p2_pendingCount_21_1, .int p2_totalCost_21_2])), (a_p2_answer, .inr (0, [.ref a_p2_answer_numbers, .int p2_answer_given_21_3])), (a_p2_answer_numbers, .inl (t 0, 9, .inl p2_answer_numbers_21_4)), (a_p2_index, .inr (3, [.ref a_p2_rows, .ref a_p2_index_entries, .ref a_p2_index_bounds, .ref a_p2_index_starts, .ref a_p2_index_heats, .ref a_p2_index_sorted, .int p2_index_size_57_44, .int p2_index_pieces_21_6])), (a_p2_index_bounds, .inl (t 0, 62, .inl p2_index_bounds_21_7)), (a_p2_index_entries, .inl (t 0, 120, .inl p2_index_entries_57_45)), (a_p2_index_heats, .inl (t 0, 62, .inl p2_index_heats_21_8)), (a_p2_index_sorted, .inl (t 0, 62, .inl p2_index_sorted_21_9)), (a_p2_index_starts, .inl (t 0, 62, .inl p2_index_starts_57_46)), (a_p2_kept, .inr (4, [v_p2_kept_numbers, .int p2_kept_count_21_11])), (a_p2_settings, .inl (t 0, 4, .inl p2_settings_57_47)), (a_p2_rows, .inr (6, [.ref a_p2_rows_keys, .ref a_p2_rows_values, .ref a_p2_rows_states, .int p2_rows_count_57_48])), (a_p2_rows_keys, .inl (t 0, 120, .inl p2_rows_keys_57_49)), (a_p2_rows_states, .inl (t 0, 120, .inl p2_rows_states_57_50)), (a_p2_rows_values, .inl (t 0, 120, .inl p2_rows_values_57_51))]) ⟨hx, hb, hml, hown, hts⟩ (c_X5_readStatement l D t z x N a_t_text a_t_text_bytes a_t a_p2 a_p2_index a_p2_index_bounds a_p2_index_entries a_p2_index_sorted a_p2_index_starts a_p2_settings a_p2_rows a_p2_rows_keys a_p2_rows_states a_p2_rows_values n_t_text_bytes (.ref a_p2_answer) (.ref a_p2_kept) v_p2_pendingRows (.ref a_p2_index_heats) t_text_length t_text_bytes_ p1 t_at_33_30 t_error_33_31 t_errorAt_33_32 p2_pendingCount_21_1 p2_totalCost_21_2 p2_index_size_33_33 p2_index_pieces_21_6 p2_index_bounds_21_7 p2_index_entries_33_34 p2_index_sorted_21_9 p2_index_starts_33_35 p2_settings_33_36 p2_rows_count_33_37 p2_rows_keys_33_38 p2_rows_states_33_39 p2_rows_values_33_40 H.size t_at_57_41 t_error_57_42 t_errorAt_57_43 p2_index_size_57_44 p2_index_entries_57_45 p2_index_starts_57_46 p2_settings_57_47 p2_rows_count_57_48 p2_rows_keys_57_49 p2_rows_states_57_50 p2_rows_values_57_51 h57_51) (cwV 1 hts gX5_readColumn_X5_readStatement rfl rfl rfl hd_X5_readStatement ⟨Nat.le_of_ble_eq_true rfl, Nat.le_of_ble_eq_true rfl⟩) (hC.at hz hS) hP hD hS hA hz [true, true, true, true, false, false, true, true, true, false, true, true, false, true, true, true, true, true] rfl rfl rfl rfl 2 rfl (show vwCl[5]? = some (RX5, TX5, 5) from rfl) rfl rfl hl.1 rfl (Nat.le_of_ble_eq_true rfl) dX5_readColumn_57 ⟨Nat.zero_le _, Nat.zero_le _⟩ rfl (fun H locs hP hD hS => ?_)
            refine lv_aload_n hx hb dX5_readColumn_60 rfl (lv_at hl 0 rfl) ?_
            obtain ⟨t_at_61_53, h61_53, hF⟩ := bndE hF
            refine wrVM (As := []) (rest := []) (C := RX5) (wn := [(a_t_text, .inr (1, [.ref a_t_text_bytes, .int t_text_length])), (a_t_text_bytes, .inl (t 1, n_t_text_bytes, .inl t_text_bytes_)), (a_t, .inr (5, [.ref a_t_text, .int p1, .int t_at_61_53, .int t_error_57_42, .int t_errorAt_57_43])), (a_p2, .inr (2, [.ref a_p2_rows, .ref a_p2_index, .ref a_p2_answer, .ref a_p2_kept, .ref a_p2_settings, v_p2_pendingRows, .int p2_pendingCount_21_1, .int p2_totalCost_21_2])), (a_p2_answer, .inr (0, [.ref a_p2_answer_numbers, .int p2_answer_given_21_3])), (a_p2_answer_numbers, .inl (t 0, 9, .inl p2_answer_numbers_21_4)), (a_p2_index, .inr (3, [.ref a_p2_rows, .ref a_p2_index_entries, .ref a_p2_index_bounds, .ref a_p2_index_starts, .ref a_p2_index_heats, .ref a_p2_index_sorted, .int p2_index_size_57_44, .int p2_index_pieces_21_6])), (a_p2_index_bounds, .inl (t 0, 62, .inl p2_index_bounds_21_7)), (a_p2_index_entries, .inl (t 0, 120, .inl p2_index_entries_57_45)), (a_p2_index_heats, .inl (t 0, 62, .inl p2_index_heats_21_8)), (a_p2_index_sorted, .inl (t 0, 62, .inl p2_index_sorted_21_9)), (a_p2_index_starts, .inl (t 0, 62, .inl p2_index_starts_57_46)), (a_p2_kept, .inr (4, [v_p2_kept_numbers, .int p2_kept_count_21_11])), (a_p2_settings, .inl (t 0, 4, .inl p2_settings_57_47)), (a_p2_rows, .inr (6, [.ref a_p2_rows_keys, .ref a_p2_rows_values, .ref a_p2_rows_states, .int p2_rows_count_57_48])), (a_p2_rows_keys, .inl (t 0, 120, .inl p2_rows_keys_57_49)), (a_p2_rows_states, .inl (t 0, 120, .inl p2_rows_states_57_50)), (a_p2_rows_values, .inl (t 0, 120, .inl p2_rows_values_57_51))]) ⟨hx, hb, hml, hown, hts⟩ (c_X5_skipSpaces l D t z x N a_t_text a_t_text_bytes a_t n_t_text_bytes t_text_length t_text_bytes_ p1 t_at_57_41 t_error_57_42 t_errorAt_57_43 H.size t_at_61_53 h61_53) (cwV 0 hts gX5_readColumn_X5_skipSpaces rfl rfl rfl hd_X5_skipSpaces ⟨Nat.le_of_ble_eq_true rfl, Nat.le_of_ble_eq_true rfl⟩) (hC.at hz hS) hP hD hS hA hz [true, true, true, false, false, false, false, false, false, false, false, false, false, false, false, false, false, false] rfl rfl rfl rfl 2 rfl (show vwCl[5]? = some (RX5, TX5, 5) from rfl) rfl rfl hl.1 rfl (Nat.le_of_ble_eq_true rfl) dX5_readColumn_61 ⟨Nat.zero_le _, Nat.zero_le _⟩ rfl (fun H locs hP hD hS => ?_)
            obtain ⟨y64_55, ey64_55⟩ : ∃ y : Int32, y = x3_33_29 + (-1) := ⟨_, rfl⟩
            have hF := ltE ey64_55 hF
            refine lv_iinc (v := y64_55) (lv' := [(3, .int y64_55), (0, .ref a_t), (2, .ref a_p2)]) hx hb dX5_readColumn_64 hl (k := 2) rfl (by rw [ey64_55]; rfl) (by decide) rfl (fun ls hl => ?_)
            refine lv_goto (tgt := 33) hx hb dX5_readColumn_67 (by decide) ?_
            exact ih33 y64_55 t_at_61_53 t_error_57_42 t_errorAt_57_43 p2_index_size_57_44 p2_index_entries_57_45 p2_index_starts_57_46 p2_settings_57_47 p2_rows_count_57_48 p2_rows_keys_57_49 p2_rows_states_57_50 p2_rows_values_57_51 H locs ls hP hD hS (lv_sub hl [1, 2, 0] rfl) hF
  exact hlp33 N p1 t_at_25_15 0 (-1) p2_index_size_21_5 p2_index_entries_ p2_index_starts_21_10 p2_settings_21_12 p2_rows_count_21_13 p2_rows_keys_ p2_rows_states_ p2_rows_values_ H locs ls hP hD hS (lv_sub hl [1, 3, 0] rfl) hF
