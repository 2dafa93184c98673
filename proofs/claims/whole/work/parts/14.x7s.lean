abbrev rm_X7_powerFor : Room := { frames := 0, cells := 0, slots := 0, locals := 0 }
theorem hd_X7_powerFor : yX7_powerFor.cls = RX7 ∧ yX7_powerFor.cls ≠ "java/lang/invoke/MethodHandle" ∧ yX7_powerFor.cls ≠ "java/lang/invoke/VarHandle" ∧ (parseMethodDescriptor yX7_powerFor.desc).map (fun d => d.parameters.length) = some 1 := by decide +kernel
set_option maxRecDepth 100000 in
set_option maxHeartbeats 4000000 in
theorem c_X7_powerFor (l : Launch) (D : va_G) (t : Nat → ClassId) (z : Nat) (x : Nat → Nat) (N : Nat) (p0 : Int32) (H : Heap) (r : Int32) (hF : f_X7_powerFor N p0 = some (r)) : RdM l D (TY t) z x yX7_powerFor wsX7_powerFor rm_X7_powerFor [.int p0] [] H (some (.int r)) := by
  refine rd_of (cc := cX7_powerFor) (maxL := 2) (ret := (some .int)) (by decide) rfl (Nat.le_of_ble_eq_true rfl) ?_
  intro p e s m args below meth c Q hQ hx hb hr hml hts hown hlocks hH hP hC ls hl
  have hown : s.vm.findClass RX7 = some m.cls := hown
  have hl : lv_has ls 2 [(0, .int p0)] := hl
  have hK := hC.1
  unfold f_X7_powerFor at hF
  refine lv_iconst (v := 0) hx hb dX7_powerFor_0 (by decide) ?_
  refine lv_istore_n (lv' := [(1, .int 0), (0, .int p0)]) hx hb dX7_powerFor_1 rfl hl (by decide) rfl (fun ls hl => ?_)
  obtain ⟨k21_2, ek21_2, hF⟩ := jnE hF
  have hk21_2 : ∀ (x1_21_1 : Int32) (ls : Array Slot), lv_has ls 2 [(1, .int x1_21_1)] → k21_2 x1_21_1 = some (r) → W p l e rm_X7_powerFor s m args below meth c H [] 0 0 Q (F0 m 21 ls []) := by
    subst ek21_2
    intro x1_21_1 ls hl hF
    refine lv_iload_n hx hb dX7_powerFor_21 rfl (lv_at hl 0 rfl) ?_
    cases hF
    exact rd_iret hx hb hr hlocks dX7_powerFor_22 rfl hQ
  have hlp2 : ∀ n2 : Nat, ∀ (x1_2_3 : Int32) (ls : Array Slot), lv_has ls 2 [(0, .int p0), (1, .int x1_2_3)] → f_X7_powerFor_2 p0 k21_2 n2 x1_2_3 = some (r) → W p l e rm_X7_powerFor s m args below meth c H [] 0 0 Q (F0 m 2 ls []) := by
    intro n2
    induction n2 with
    | zero =>
      intro x1_2_3 ls hl hF
      cases (show none = some (r) from hF)
    | succ n2 ih2 =>
      intro x1_2_3 ls hl hF
      rw [f_X7_powerFor_2] at hF
      refine lv_iload_n hx hb dX7_powerFor_2 rfl (lv_at hl 1 rfl) ?_
      refine lv_bipush (v := 30) hx hb dX7_powerFor_3 (by decide) ?_
      refine lv_icmp_ge (tgt := 21) hx hb dX7_powerFor_5 (by decide) (fun c5 => ?_) (fun c5 => ?_)
      · have hF := brT c5 hF
        exact hk21_2 x1_2_3 ls (lv_sub hl [1] rfl) hF
      · have hF := brF c5 hF
        refine lv_iconst (v := 1) hx hb dX7_powerFor_8 (by decide) ?_
        refine lv_iload_n hx hb dX7_powerFor_9 rfl (lv_at hl 1 rfl) ?_
        refine lv_ishl hx hb dX7_powerFor_10 ?_
        refine lv_iload_n hx hb dX7_powerFor_11 rfl (lv_at hl 0 rfl) ?_
        refine lv_icmp_ge (tgt := 21) hx hb dX7_powerFor_12 (by decide) (fun c12 => ?_) (fun c12 => ?_)
        · have hF := brT c12 hF
          exact hk21_2 x1_2_3 ls (lv_sub hl [1] rfl) hF
        · have hF := brF c12 hF
          obtain ⟨y15_4, ey15_4⟩ : ∃ y : Int32, y = x1_2_3 + 1 := ⟨_, rfl⟩
          have hF := ltE ey15_4 hF
          refine lv_iinc (v := y15_4) (lv' := [(1, .int y15_4), (0, .int p0)]) hx hb dX7_powerFor_15 hl (k := 1) rfl (by rw [ey15_4]; rfl) (by decide) rfl (fun ls hl => ?_)
          refine lv_goto (tgt := 2) hx hb dX7_powerFor_18 (by decide) ?_
          exact ih2 y15_4 ls (lv_sub hl [1, 0] rfl) hF
  exact hlp2 N 0 ls (lv_sub hl [1, 0] rfl) hF
abbrev rm_X7_copyAll : Room := { frames := 1, cells := 0, slots := 0, locals := 40 }
theorem hd_X7_copyAll : yX7_copyAll.cls = RX7 ∧ yX7_copyAll.cls ≠ "java/lang/invoke/MethodHandle" ∧ yX7_copyAll.cls ≠ "java/lang/invoke/VarHandle" ∧ (parseMethodDescriptor yX7_copyAll.desc).map (fun d => d.parameters.length) = some 2 := by decide +kernel
set_option maxRecDepth 100000 in
set_option maxHeartbeats 4000000 in
theorem c_X7_copyAll (l : Launch) (D : va_G) (t : Nat → ClassId) (z : Nat) (x : Nat → Nat) (a_p0 : Nat) (a_p1 : Nat) (n_p0 : Nat) (n_p1 : Nat) (p0_ : (Nat → Int32)) (p1_ : (Nat → Int32)) (sz : Nat) (p1_' : (Nat → Int32)) (hF : f_X7_copyAll p0_ p1_ n_p0 n_p1 = some (p1_')) : WrM l D (TY t) z x yX7_copyAll wsX7_copyAll rm_X7_copyAll [.ref a_p0, .ref a_p1] [(a_p0, .inl (t 0, n_p0, .inl p0_)), (a_p1, .inl (t 0, n_p1, .inl p1_))] [(a_p0, .inl (t 0, n_p0, .inl p0_)), (a_p1, .inl (t 0, n_p1, .inl p1_'))] sz none 0 0 := by
  refine wr_of (cc := cX7_copyAll) (maxL := 2) (ret := none) (by decide) rfl (Nat.le_of_ble_eq_true rfl) ?_
  intro p e s m args below meth c A Q hQ hx hb hr hml hts hown hlocks hin H locs hP hD hS hA hz hC ls hl
  have hown : s.vm.findClass RX7 = some m.cls := hown
  have hl : lv_has ls 2 [(0, .ref a_p0), (1, .ref a_p1)] := hl
  have hK := hC.1
  have hm_min283 := hts (.methodLink RX7 283 Lib.Math.min.name) (by decide +kernel)
  have hm_min_s := hts (.static Lib.Math.min.name) (by decide +kernel)
  have hm_min_c := hts (.code Lib.Math.min.name Lib.Math.min.code 2 (some .int)) (by decide +kernel)
  have hm_init := hts (.initialized "java/lang/Math") (by decide +kernel)
  have hac := hts (.methodLink RX7 288 arraycopyName) (by decide +kernel)
  have hac_n := hts (.native arraycopyName) (by decide +kernel)
  have hac_s := hts (.static arraycopyName) (by decide +kernel)
  have hac_i := hts (.initialized "java/lang/System") (by decide +kernel)
  unfold f_X7_copyAll at hF
  refine lv_aload_n hx hb dX7_copyAll_0 rfl (lv_at hl 0 rfl) ?_
  refine lv_iconst (v := 0) hx hb dX7_copyAll_1 (by decide) ?_
  refine lv_aload_n hx hb dX7_copyAll_2 rfl (lv_at hl 1 rfl) ?_
  refine lv_iconst (v := 0) hx hb dX7_copyAll_3 (by decide) ?_
  refine lv_aload_n hx hb dX7_copyAll_4 rfl (lv_at hl 0 rfl) ?_
  refine va_alen (v := (Int32.ofNat n_p0)) hx hb hK hP 0 0 rfl rfl rfl dX7_copyAll_5 ?_
  refine lv_aload_n hx hb dX7_copyAll_6 rfl (lv_at hl 1 rfl) ?_
  refine va_alen (v := (Int32.ofNat n_p1)) hx hb hK hP 1 0 rfl rfl rfl dX7_copyAll_7 ?_
  refine va_mmin hx hb (hml.trans hl.1.symm) hown hm_min283 hm_min_s hm_init hm_min_c (Nat.le_of_ble_eq_true rfl) (Nat.le_of_ble_eq_true rfl) (Nat.zero_le _) (Nat.zero_le _) dX7_copyAll_8 ?_
  refine lv_topi (fun y8_1 ey8_1 => ?_)
  have hF := ltE ey8_1 hF
  obtain ⟨g11_1, hF⟩ := gd hF
  obtain ⟨g11_3, hF⟩ := gd hF
  obtain ⟨g11_5, hF⟩ := gd hF
  obtain ⟨p1_11_5, ep1_11_5⟩ : ∃ y : Nat → Int32, y = va_cpy p0_ p1_ 0 0 y8_1.toNatClampNeg := ⟨_, rfl⟩
  have hF := ltE ep1_11_5 hF
  refine my_copyi (sp := 0) (dp := 0) (n := y8_1) (g' := p1_11_5) (wn := [(a_p0, .inl (t 0, n_p0, .inl p0_)), (a_p1, .inl (t 0, n_p1, .inl p1_11_5))]) hx hb (hml.trans hl.1.symm) hown hac hac_n hac_s hac_i hK hP hD hS 0 1 0 0 rfl rfl rfl rfl rfl (by decide) (by decide) g11_1 (Nat.not_lt.mp g11_3) (Nat.not_lt.mp g11_5) (fun _ _ => rfl) (Nat.le_of_ble_eq_true rfl) (Nat.le_of_ble_eq_true rfl) ep1_11_5 rfl dX7_copyAll_11 (fun H locs hP hD hS => ?_)
  cases hF
  exact we_vret hx hb hr hlocks dX7_copyAll_14 rfl hQ hP hD hS
abbrev rm_X7_isSetting : Room := { frames := 0, cells := 0, slots := 0, locals := 0 }
theorem hd_X7_isSetting : yX7_isSetting.cls = RX7 ∧ yX7_isSetting.cls ≠ "java/lang/invoke/MethodHandle" ∧ yX7_isSetting.cls ≠ "java/lang/invoke/VarHandle" ∧ (parseMethodDescriptor yX7_isSetting.desc).map (fun d => d.parameters.length) = some 1 := by decide +kernel
set_option maxRecDepth 100000 in
set_option maxHeartbeats 4000000 in
theorem c_X7_isSetting (l : Launch) (D : va_G) (t : Nat → ClassId) (z : Nat) (x : Nat → Nat) (p0 : Int32) (H : Heap) (r : Int32) (hF : f_X7_isSetting p0 = some (r)) : RdM l D (TY t) z x yX7_isSetting wsX7_isSetting rm_X7_isSetting [.int p0] [] H (some (.int r)) := by
  refine rd_of (cc := cX7_isSetting) (maxL := 1) (ret := (some .boolean)) (by decide) rfl (Nat.le_of_ble_eq_true rfl) ?_
  intro p e s m args below meth c Q hQ hx hb hr hml hts hown hlocks hH hP hC ls hl
  have hown : s.vm.findClass RX7 = some m.cls := hown
  have hl : lv_has ls 1 [(0, .int p0)] := hl
  have hK := hC.1
  unfold f_X7_isSetting at hF
  refine lv_iload_n hx hb dX7_isSetting_0 rfl (lv_at hl 0 rfl) ?_
  refine lv_if_lt (tgt := 13) hx hb dX7_isSetting_1 (by decide) (fun c1 => ?_) (fun c1 => ?_)
  · have hF := brT c1 hF
    refine lv_iconst (v := 0) hx hb dX7_isSetting_13 (by decide) ?_
    cases hF
    exact rd_zret hx hb hr hlocks dX7_isSetting_14 rfl rfl hQ
  · have hF := brF c1 hF
    refine lv_iload_n hx hb dX7_isSetting_4 rfl (lv_at hl 0 rfl) ?_
    refine lv_iconst (v := 4) hx hb dX7_isSetting_5 (by decide) ?_
    refine lv_icmp_ge (tgt := 13) hx hb dX7_isSetting_6 (by decide) (fun c6 => ?_) (fun c6 => ?_)
    · have hF := brT c6 hF
      refine lv_iconst (v := 0) hx hb dX7_isSetting_13 (by decide) ?_
      cases hF
      exact rd_zret hx hb hr hlocks dX7_isSetting_14 rfl rfl hQ
    · have hF := brF c6 hF
      refine lv_iconst (v := 1) hx hb dX7_isSetting_9 (by decide) ?_
      refine lv_goto (tgt := 14) hx hb dX7_isSetting_10 (by decide) ?_
      cases hF
      exact rd_zret hx hb hr hlocks dX7_isSetting_14 rfl rfl hQ
abbrev rm_X7_firstSetting : Room := { frames := 1, cells := 0, slots := 0, locals := 20 }
theorem hd_X7_firstSetting : yX7_firstSetting.cls = RX7 ∧ yX7_firstSetting.cls ≠ "java/lang/invoke/MethodHandle" ∧ yX7_firstSetting.cls ≠ "java/lang/invoke/VarHandle" ∧ (parseMethodDescriptor yX7_firstSetting.desc).map (fun d => d.parameters.length) = some 1 := by decide +kernel
set_option maxRecDepth 100000 in
set_option maxHeartbeats 4000000 in
theorem c_X7_firstSetting (l : Launch) (D : va_G) (t : Nat → ClassId) (z : Nat) (x : Nat → Nat) (p0 : Int32) (H : Heap) (r : Int32) (hF : f_X7_firstSetting p0 = some (r)) : RdM l D (TY t) z x yX7_firstSetting wsX7_firstSetting rm_X7_firstSetting [.int p0] [] H (some (.int r)) := by
  refine rd_of (cc := cX7_firstSetting) (maxL := 1) (ret := (some .int)) (by decide) rfl (Nat.le_of_ble_eq_true rfl) ?_
  intro p e s m args below meth c Q hQ hx hb hr hml hts hown hlocks hH hP hC ls hl
  have hown : s.vm.findClass RX7 = some m.cls := hown
  have hl : lv_has ls 1 [(0, .int p0)] := hl
  have hK := hC.1
  have hSr : va_S (fun q => z ≤ q) s.heap H [] := by rw [hH]; exact va_S.rf
  have hCs : CXT D (TY t) z x s s.heap := by rw [hH]; exact hC
  have hZ0 := hCs.2.2.2.1.1.1
  have hZt0 := hCs.2.2.2.1.1.2
  have hZl0 := hts (.fieldLink RX7 273 "CrackedColumn" "FIRST_SETTING" "[I") (by decide +kernel)
  unfold f_X7_firstSetting at hF
  refine lv_iload_n hx hb dX7_firstSetting_0 rfl (lv_at hl 0 rfl) ?_
  obtain ⟨r1_1, h1_1, hF⟩ := bndE hF
  refine rdS (As := [.int p0]) (rest := []) ⟨hx, hb, hml, hown, hts⟩ (c_X7_isSetting l D t z x p0 H r1_1 h1_1) (va_cwS 1 hts gX7_firstSetting_X7_isSetting rfl rfl rfl hd_X7_isSetting.2 ⟨Nat.le_of_ble_eq_true rfl, Nat.le_of_ble_eq_true rfl⟩) hC (selP (m9 := []) rfl rfl hP) rfl hl.1 rfl (Nat.le_of_ble_eq_true rfl) dX7_firstSetting_1 ⟨Nat.zero_le _, Nat.zero_le _⟩ rfl ?_
  refine lv_if_eq (tgt := 15) hx hb dX7_firstSetting_4 (by decide) (fun c4 => ?_) (fun c4 => ?_)
  · have hF := brT c4 hF
    refine lv_iconst (v := 0) hx hb dX7_firstSetting_15 (by decide) ?_
    cases hF
    exact rd_iret hx hb hr hlocks dX7_firstSetting_16 rfl hQ
  · have hF := brF c4 hF
    refine va_gets (A := fun q => z ≤ q) hx hb hZ0 hSr hown hZl0 (fun _ h9 => h9) dX7_firstSetting_7 ?_
    refine lv_iload_n hx hb dX7_firstSetting_10 rfl (lv_at hl 0 rfl) ?_
    obtain ⟨g11_2, hF⟩ := gd hF
    refine va_ti (A := fun q => z ≤ q) (v := .int (setF.getD p0.toNatClampNeg 0)) hx hb hZt0 hSr g11_2 rfl dX7_firstSetting_11 ?_
    refine lv_goto (tgt := 16) hx hb dX7_firstSetting_12 (by decide) ?_
    cases hF
    exact rd_iret hx hb hr hlocks dX7_firstSetting_16 rfl hQ
abbrev rm_X7_leastSetting : Room := { frames := 1, cells := 0, slots := 0, locals := 20 }
theorem hd_X7_leastSetting : yX7_leastSetting.cls = RX7 ∧ yX7_leastSetting.cls ≠ "java/lang/invoke/MethodHandle" ∧ yX7_leastSetting.cls ≠ "java/lang/invoke/VarHandle" ∧ (parseMethodDescriptor yX7_leastSetting.desc).map (fun d => d.parameters.length) = some 1 := by decide +kernel
set_option maxRecDepth 100000 in
set_option maxHeartbeats 4000000 in
theorem c_X7_leastSetting (l : Launch) (D : va_G) (t : Nat → ClassId) (z : Nat) (x : Nat → Nat) (p0 : Int32) (H : Heap) (r : Int32) (hF : f_X7_leastSetting p0 = some (r)) : RdM l D (TY t) z x yX7_leastSetting wsX7_leastSetting rm_X7_leastSetting [.int p0] [] H (some (.int r)) := by
  refine rd_of (cc := cX7_leastSetting) (maxL := 1) (ret := (some .int)) (by decide) rfl (Nat.le_of_ble_eq_true rfl) ?_
  intro p e s m args below meth c Q hQ hx hb hr hml hts hown hlocks hH hP hC ls hl
  have hown : s.vm.findClass RX7 = some m.cls := hown
  have hl : lv_has ls 1 [(0, .int p0)] := hl
  have hK := hC.1
  have hSr : va_S (fun q => z ≤ q) s.heap H [] := by rw [hH]; exact va_S.rf
  have hCs : CXT D (TY t) z x s s.heap := by rw [hH]; exact hC
  have hZ1 := hCs.2.2.2.1.2.1.1
  have hZt1 := hCs.2.2.2.1.2.1.2
  have hZl1 := hts (.fieldLink RX7 277 "CrackedColumn" "LEAST_SETTING" "[I") (by decide +kernel)
  unfold f_X7_leastSetting at hF
  refine lv_iload_n hx hb dX7_leastSetting_0 rfl (lv_at hl 0 rfl) ?_
  obtain ⟨r1_1, h1_1, hF⟩ := bndE hF
  refine rdS (As := [.int p0]) (rest := []) ⟨hx, hb, hml, hown, hts⟩ (c_X7_isSetting l D t z x p0 H r1_1 h1_1) (va_cwS 1 hts gX7_leastSetting_X7_isSetting rfl rfl rfl hd_X7_isSetting.2 ⟨Nat.le_of_ble_eq_true rfl, Nat.le_of_ble_eq_true rfl⟩) hC (selP (m9 := []) rfl rfl hP) rfl hl.1 rfl (Nat.le_of_ble_eq_true rfl) dX7_leastSetting_1 ⟨Nat.zero_le _, Nat.zero_le _⟩ rfl ?_
  refine lv_if_eq (tgt := 15) hx hb dX7_leastSetting_4 (by decide) (fun c4 => ?_) (fun c4 => ?_)
  · have hF := brT c4 hF
    refine lv_iconst (v := 0) hx hb dX7_leastSetting_15 (by decide) ?_
    cases hF
    exact rd_iret hx hb hr hlocks dX7_leastSetting_16 rfl hQ
  · have hF := brF c4 hF
    refine va_gets (A := fun q => z ≤ q) hx hb hZ1 hSr hown hZl1 (fun _ h9 => h9) dX7_leastSetting_7 ?_
    refine lv_iload_n hx hb dX7_leastSetting_10 rfl (lv_at hl 0 rfl) ?_
    obtain ⟨g11_2, hF⟩ := gd hF
    refine va_ti (A := fun q => z ≤ q) (v := .int (setL.getD p0.toNatClampNeg 0)) hx hb hZt1 hSr g11_2 rfl dX7_leastSetting_11 ?_
    refine lv_goto (tgt := 16) hx hb dX7_leastSetting_12 (by decide) ?_
    cases hF
    exact rd_iret hx hb hr hlocks dX7_leastSetting_16 rfl hQ
abbrev rm_X7_mostSetting : Room := { frames := 1, cells := 0, slots := 0, locals := 20 }
theorem hd_X7_mostSetting : yX7_mostSetting.cls = RX7 ∧ yX7_mostSetting.cls ≠ "java/lang/invoke/MethodHandle" ∧ yX7_mostSetting.cls ≠ "java/lang/invoke/VarHandle" ∧ (parseMethodDescriptor yX7_mostSetting.desc).map (fun d => d.parameters.length) = some 1 := by decide +kernel
set_option maxRecDepth 100000 in
set_option maxHeartbeats 4000000 in
theorem c_X7_mostSetting (l : Launch) (D : va_G) (t : Nat → ClassId) (z : Nat) (x : Nat → Nat) (p0 : Int32) (H : Heap) (r : Int32) (hF : f_X7_mostSetting p0 = some (r)) : RdM l D (TY t) z x yX7_mostSetting wsX7_mostSetting rm_X7_mostSetting [.int p0] [] H (some (.int r)) := by
  refine rd_of (cc := cX7_mostSetting) (maxL := 1) (ret := (some .int)) (by decide) rfl (Nat.le_of_ble_eq_true rfl) ?_
  intro p e s m args below meth c Q hQ hx hb hr hml hts hown hlocks hH hP hC ls hl
  have hown : s.vm.findClass RX7 = some m.cls := hown
  have hl : lv_has ls 1 [(0, .int p0)] := hl
  have hK := hC.1
  have hSr : va_S (fun q => z ≤ q) s.heap H [] := by rw [hH]; exact va_S.rf
  have hCs : CXT D (TY t) z x s s.heap := by rw [hH]; exact hC
  have hZ2 := hCs.2.2.2.1.2.2.1
  have hZt2 := hCs.2.2.2.1.2.2.2
  have hZl2 := hts (.fieldLink RX7 280 "CrackedColumn" "MOST_SETTING" "[I") (by decide +kernel)
  unfold f_X7_mostSetting at hF
  refine lv_iload_n hx hb dX7_mostSetting_0 rfl (lv_at hl 0 rfl) ?_
  obtain ⟨r1_1, h1_1, hF⟩ := bndE hF
  refine rdS (As := [.int p0]) (rest := []) ⟨hx, hb, hml, hown, hts⟩ (c_X7_isSetting l D t z x p0 H r1_1 h1_1) (va_cwS 1 hts gX7_mostSetting_X7_isSetting rfl rfl rfl hd_X7_isSetting.2 ⟨Nat.le_of_ble_eq_true rfl, Nat.le_of_ble_eq_true rfl⟩) hC (selP (m9 := []) rfl rfl hP) rfl hl.1 rfl (Nat.le_of_ble_eq_true rfl) dX7_mostSetting_1 ⟨Nat.zero_le _, Nat.zero_le _⟩ rfl ?_
  refine lv_if_eq (tgt := 15) hx hb dX7_mostSetting_4 (by decide) (fun c4 => ?_) (fun c4 => ?_)
  · have hF := brT c4 hF
    refine lv_iconst (v := 0) hx hb dX7_mostSetting_15 (by decide) ?_
    cases hF
    exact rd_iret hx hb hr hlocks dX7_mostSetting_16 rfl hQ
  · have hF := brF c4 hF
    refine va_gets (A := fun q => z ≤ q) hx hb hZ2 hSr hown hZl2 (fun _ h9 => h9) dX7_mostSetting_7 ?_
    refine lv_iload_n hx hb dX7_mostSetting_10 rfl (lv_at hl 0 rfl) ?_
    obtain ⟨g11_2, hF⟩ := gd hF
    refine va_ti (A := fun q => z ≤ q) (v := .int (setM.getD p0.toNatClampNeg 0)) hx hb hZt2 hSr g11_2 rfl dX7_mostSetting_11 ?_
    refine lv_goto (tgt := 16) hx hb dX7_mostSetting_12 (by decide) ?_
    cases hF
    exact rd_iret hx hb hr hlocks dX7_mostSetting_16 rfl hQ
abbrev rm_X7_checkIndex : Room := { frames := 0, cells := 0, slots := 0, locals := 0 }
theorem hd_X7_checkIndex : yX7_checkIndex.cls = RX7 ∧ yX7_checkIndex.cls ≠ "java/lang/invoke/MethodHandle" ∧ yX7_checkIndex.cls ≠ "java/lang/invoke/VarHandle" ∧ (parseMethodDescriptor yX7_checkIndex.desc).map (fun d => d.parameters.length) = some 2 := by decide +kernel
set_option maxRecDepth 100000 in
set_option maxHeartbeats 4000000 in
theorem c_X7_checkIndex (l : Launch) (D : va_G) (t : Nat → ClassId) (z : Nat) (x : Nat → Nat) (p0 : Int32) (p1 : Int32) (H : Heap) (r0 : Unit) (hF : f_X7_checkIndex p0 p1 = some (Sum.inr r0)) : RdM l D (TY t) z x yX7_checkIndex wsX7_checkIndex rm_X7_checkIndex [.int p0, .int p1] [] H none := by
  refine rd_of (cc := cX7_checkIndex) (maxL := 2) (ret := none) (by decide) rfl (Nat.le_of_ble_eq_true rfl) ?_
  intro p e s m args below meth c Q hQ hx hb hr hml hts hown hlocks hH hP hC ls hl
  have hown : s.vm.findClass RX7 = some m.cls := hown
  have hl : lv_has ls 2 [(0, .int p0), (1, .int p1)] := hl
  have hK := hC.1
  unfold f_X7_checkIndex at hF
  refine lv_iload_n hx hb dX7_checkIndex_0 rfl (lv_at hl 0 rfl) ?_
  refine lv_if_lt (tgt := 9) hx hb dX7_checkIndex_1 (by decide) (fun c1 => ?_) (fun c1 => ?_)
  · have hF := brT c1 hF
    cases hF
  · have hF := brF c1 hF
    refine lv_iload_n hx hb dX7_checkIndex_4 rfl (lv_at hl 0 rfl) ?_
    refine lv_iload_n hx hb dX7_checkIndex_5 rfl (lv_at hl 1 rfl) ?_
    refine lv_icmp_lt (tgt := 17) hx hb dX7_checkIndex_6 (by decide) (fun c6 => ?_) (fun c6 => ?_)
    · have hF := brT c6 hF
      have hF := inRE hF
      cases hF
      exact rd_vret hx hb hr hlocks dX7_checkIndex_17 rfl hQ
    · have hF := brF c6 hF
      cases hF
abbrev rmT_X7_checkIndex : Room := { frames := 6, cells := 1, slots := 6, locals := 90 }
set_option maxRecDepth 100000 in
set_option maxHeartbeats 4000000 in
theorem ct_X7_checkIndex (l : Launch) (hfl : l.stackTraces = false) (D : va_G) (t : Nat → ClassId) (z : Nat) (x : Nat → Nat) (p0 : Int32) (p1 : Int32) (H : Heap) (E : String) (hF : f_X7_checkIndex p0 p1 = some (Sum.inl E)) : ThM l D (TY t) z x yX7_checkIndex wsX7_checkIndex rmT_X7_checkIndex [.int p0, .int p1] [] H E := by
  refine th_of (cc := cX7_checkIndex) (maxL := 2) (ret := none) (by decide) rfl (Nat.le_of_ble_eq_true rfl) ?_
  intro p e s m args below meth c Q hQ hx hb hr hml hts hown hlocks hH htab hP hC ls hl
  have hown : s.vm.findClass RX7 = some m.cls := hown
  have hl : lv_has ls 2 [(0, .int p0), (1, .int p1)] := hl
  have hK := hC.1
  have hSr : va_S (fun q => z ≤ q) s.heap H [] := by rw [hH]; exact va_S.rf
  have hCs : CXT D (TY t) z x s s.heap := by rw [hH]; exact hC
  have hk_267 := hts (.classLink RX7 267 "java/lang/IndexOutOfBoundsException") (by decide +kernel)
  have hi_269 := hts (.initialized "java/lang/IndexOutOfBoundsException") (by decide +kernel)
  have hat_269 : ∀ w ∈ vx_at0 RX7 269 "java/lang/IndexOutOfBoundsException" ["java/lang/RuntimeException", "java/lang/Exception"], w.before args s = true := vx_hat (B := [.castable "java/lang/IndexOutOfBoundsException" "java/lang/IndexOutOfBoundsException", .declares (Bundle.init0 "java/lang/RuntimeException"), .declares (Bundle.init0 "java/lang/Exception"), .declares (Bundle.init0 "java/lang/Throwable")]) (fun w h => hts w (List.mem_cons_of_mem _ (List.mem_append_right _ h))) (by decide +kernel) (vx_c (va_Nw.use rfl (hC.2.1.2.1 _ (List.mem_of_getElem? (i := 2) rfl))) (vx_c (va_Nw.use rfl (hC.2.1.2.2 _ (List.mem_of_getElem? (i := 0) rfl))) (vx_c (va_Nw.use rfl (hC.2.1.2.2 _ (List.mem_of_getElem? (i := 1) rfl))) (vx_c (va_Nw.use rfl (hC.2.1.2.2 _ (List.mem_of_getElem? (i := 2) rfl))) vx_n))))
  unfold f_X7_checkIndex at hF
  refine lv_iload_n hx hb dX7_checkIndex_0 rfl (lv_at hl 0 rfl) ?_
  refine lv_if_lt (tgt := 9) hx hb dX7_checkIndex_1 (by decide) (fun c1 => ?_) (fun c1 => ?_)
  · have hF := brT c1 hF
    cases hF
    exact th_throw hx hb hfl hown hk_267 hi_269 hat_269 hSr hCs (hl.1.trans hml.symm) dX7_checkIndex_9 dX7_checkIndex_12 dX7_checkIndex_13 dX7_checkIndex_16 htab (Nat.le_of_ble_eq_true rfl) (Nat.le_of_ble_eq_true rfl) ⟨Nat.le_of_ble_eq_true rfl, Nat.le_of_ble_eq_true rfl⟩ hlocks hQ (by decide +kernel) (by decide +kernel) (by decide +kernel)
  · have hF := brF c1 hF
    refine lv_iload_n hx hb dX7_checkIndex_4 rfl (lv_at hl 0 rfl) ?_
    refine lv_iload_n hx hb dX7_checkIndex_5 rfl (lv_at hl 1 rfl) ?_
    refine lv_icmp_lt (tgt := 17) hx hb dX7_checkIndex_6 (by decide) (fun c6 => ?_) (fun c6 => ?_)
    · have hF := brT c6 hF
      exact (inRN hF).elim
    · have hF := brF c6 hF
      cases hF
      exact th_throw hx hb hfl hown hk_267 hi_269 hat_269 hSr hCs (hl.1.trans hml.symm) dX7_checkIndex_9 dX7_checkIndex_12 dX7_checkIndex_13 dX7_checkIndex_16 htab (Nat.le_of_ble_eq_true rfl) (Nat.le_of_ble_eq_true rfl) ⟨Nat.le_of_ble_eq_true rfl, Nat.le_of_ble_eq_true rfl⟩ hlocks hQ (by decide +kernel) (by decide +kernel) (by decide +kernel)
abbrev rm_X7_checkRange : Room := { frames := 0, cells := 0, slots := 0, locals := 0 }
theorem hd_X7_checkRange : yX7_checkRange.cls = RX7 ∧ yX7_checkRange.cls ≠ "java/lang/invoke/MethodHandle" ∧ yX7_checkRange.cls ≠ "java/lang/invoke/VarHandle" ∧ (parseMethodDescriptor yX7_checkRange.desc).map (fun d => d.parameters.length) = some 3 := by decide +kernel
set_option maxRecDepth 100000 in
set_option maxHeartbeats 4000000 in
theorem c_X7_checkRange (l : Launch) (D : va_G) (t : Nat → ClassId) (z : Nat) (x : Nat → Nat) (p0 : Int32) (p1 : Int32) (p2 : Int32) (H : Heap) (r0 : Unit) (hF : f_X7_checkRange p0 p1 p2 = some (Sum.inr r0)) : RdM l D (TY t) z x yX7_checkRange wsX7_checkRange rm_X7_checkRange [.int p0, .int p1, .int p2] [] H none := by
  refine rd_of (cc := cX7_checkRange) (maxL := 3) (ret := none) (by decide) rfl (Nat.le_of_ble_eq_true rfl) ?_
  intro p e s m args below meth c Q hQ hx hb hr hml hts hown hlocks hH hP hC ls hl
  have hown : s.vm.findClass RX7 = some m.cls := hown
  have hl : lv_has ls 3 [(0, .int p0), (1, .int p1), (2, .int p2)] := hl
  have hK := hC.1
  unfold f_X7_checkRange at hF
  refine lv_iload_n hx hb dX7_checkRange_0 rfl (lv_at hl 0 rfl) ?_
  refine lv_iload_n hx hb dX7_checkRange_1 rfl (lv_at hl 1 rfl) ?_
  refine lv_icmp_lt (tgt := 10) hx hb dX7_checkRange_2 (by decide) (fun c2 => ?_) (fun c2 => ?_)
  · have hF := brT c2 hF
    cases hF
  · have hF := brF c2 hF
    refine lv_iload_n hx hb dX7_checkRange_5 rfl (lv_at hl 0 rfl) ?_
    refine lv_iload_n hx hb dX7_checkRange_6 rfl (lv_at hl 2 rfl) ?_
    refine lv_icmp_le (tgt := 18) hx hb dX7_checkRange_7 (by decide) (fun c7 => ?_) (fun c7 => ?_)
    · have hF := brT c7 hF
      have hF := inRE hF
      cases hF
      exact rd_vret hx hb hr hlocks dX7_checkRange_18 rfl hQ
    · have hF := brF c7 hF
      cases hF
abbrev rmT_X7_checkRange : Room := { frames := 6, cells := 1, slots := 6, locals := 90 }
set_option maxRecDepth 100000 in
set_option maxHeartbeats 4000000 in
theorem ct_X7_checkRange (l : Launch) (hfl : l.stackTraces = false) (D : va_G) (t : Nat → ClassId) (z : Nat) (x : Nat → Nat) (p0 : Int32) (p1 : Int32) (p2 : Int32) (H : Heap) (E : String) (hF : f_X7_checkRange p0 p1 p2 = some (Sum.inl E)) : ThM l D (TY t) z x yX7_checkRange wsX7_checkRange rmT_X7_checkRange [.int p0, .int p1, .int p2] [] H E := by
  refine th_of (cc := cX7_checkRange) (maxL := 3) (ret := none) (by decide) rfl (Nat.le_of_ble_eq_true rfl) ?_
  intro p e s m args below meth c Q hQ hx hb hr hml hts hown hlocks hH htab hP hC ls hl
  have hown : s.vm.findClass RX7 = some m.cls := hown
  have hl : lv_has ls 3 [(0, .int p0), (1, .int p1), (2, .int p2)] := hl
  have hK := hC.1
  have hSr : va_S (fun q => z ≤ q) s.heap H [] := by rw [hH]; exact va_S.rf
  have hCs : CXT D (TY t) z x s s.heap := by rw [hH]; exact hC
  have hk_128 := hts (.classLink RX7 128 "java/lang/IllegalArgumentException") (by decide +kernel)
  have hi_130 := hts (.initialized "java/lang/IllegalArgumentException") (by decide +kernel)
  have hat_130 : ∀ w ∈ vx_at0 RX7 130 "java/lang/IllegalArgumentException" ["java/lang/RuntimeException", "java/lang/Exception"], w.before args s = true := vx_hat (B := [.castable "java/lang/IllegalArgumentException" "java/lang/IllegalArgumentException", .declares (Bundle.init0 "java/lang/RuntimeException"), .declares (Bundle.init0 "java/lang/Exception"), .declares (Bundle.init0 "java/lang/Throwable")]) (fun w h => hts w (List.mem_cons_of_mem _ (List.mem_append_right _ h))) (by decide +kernel) (vx_c (va_Nw.use rfl (hC.2.1.2.1 _ (List.mem_of_getElem? (i := 1) rfl))) (vx_c (va_Nw.use rfl (hC.2.1.2.2 _ (List.mem_of_getElem? (i := 0) rfl))) (vx_c (va_Nw.use rfl (hC.2.1.2.2 _ (List.mem_of_getElem? (i := 1) rfl))) (vx_c (va_Nw.use rfl (hC.2.1.2.2 _ (List.mem_of_getElem? (i := 2) rfl))) vx_n))))
  unfold f_X7_checkRange at hF
  refine lv_iload_n hx hb dX7_checkRange_0 rfl (lv_at hl 0 rfl) ?_
  refine lv_iload_n hx hb dX7_checkRange_1 rfl (lv_at hl 1 rfl) ?_
  refine lv_icmp_lt (tgt := 10) hx hb dX7_checkRange_2 (by decide) (fun c2 => ?_) (fun c2 => ?_)
  · have hF := brT c2 hF
    cases hF
    exact th_throw hx hb hfl hown hk_128 hi_130 hat_130 hSr hCs (hl.1.trans hml.symm) dX7_checkRange_10 dX7_checkRange_13 dX7_checkRange_14 dX7_checkRange_17 htab (Nat.le_of_ble_eq_true rfl) (Nat.le_of_ble_eq_true rfl) ⟨Nat.le_of_ble_eq_true rfl, Nat.le_of_ble_eq_true rfl⟩ hlocks hQ (by decide +kernel) (by decide +kernel) (by decide +kernel)
  · have hF := brF c2 hF
    refine lv_iload_n hx hb dX7_checkRange_5 rfl (lv_at hl 0 rfl) ?_
    refine lv_iload_n hx hb dX7_checkRange_6 rfl (lv_at hl 2 rfl) ?_
    refine lv_icmp_le (tgt := 18) hx hb dX7_checkRange_7 (by decide) (fun c7 => ?_) (fun c7 => ?_)
    · have hF := brT c7 hF
      exact (inRN hF).elim
    · have hF := brF c7 hF
      cases hF
      exact th_throw hx hb hfl hown hk_128 hi_130 hat_130 hSr hCs (hl.1.trans hml.symm) dX7_checkRange_10 dX7_checkRange_13 dX7_checkRange_14 dX7_checkRange_17 htab (Nat.le_of_ble_eq_true rfl) (Nat.le_of_ble_eq_true rfl) ⟨Nat.le_of_ble_eq_true rfl, Nat.le_of_ble_eq_true rfl⟩ hlocks hQ (by decide +kernel) (by decide +kernel) (by decide +kernel)
abbrev rm_X7_checkSpan : Room := { frames := 1, cells := 0, slots := 0, locals := 22 }
theorem hd_X7_checkSpan : yX7_checkSpan.cls = RX7 ∧ yX7_checkSpan.cls ≠ "java/lang/invoke/MethodHandle" ∧ yX7_checkSpan.cls ≠ "java/lang/invoke/VarHandle" ∧ (parseMethodDescriptor yX7_checkSpan.desc).map (fun d => d.parameters.length) = some 2 := by decide +kernel
set_option maxRecDepth 100000 in
set_option maxHeartbeats 4000000 in
theorem c_X7_checkSpan (l : Launch) (D : va_G) (t : Nat → ClassId) (z : Nat) (x : Nat → Nat) (p0 : Int32) (p1 : Int32) (H : Heap) (r0 : Unit) (hF : f_X7_checkSpan p0 p1 = some (Sum.inr r0)) : RdM l D (TY t) z x yX7_checkSpan wsX7_checkSpan rm_X7_checkSpan [.int p0, .int p1] [] H none := by
  refine rd_of (cc := cX7_checkSpan) (maxL := 2) (ret := none) (by decide) rfl (Nat.le_of_ble_eq_true rfl) ?_
  intro p e s m args below meth c Q hQ hx hb hr hml hts hown hlocks hH hP hC ls hl
  have hown : s.vm.findClass RX7 = some m.cls := hown
  have hl : lv_has ls 2 [(0, .int p0), (1, .int p1)] := hl
  have hK := hC.1
  unfold f_X7_checkSpan at hF
  refine lv_iload_n hx hb dX7_checkSpan_0 rfl (lv_at hl 0 rfl) ?_
  refine lv_iconst (v := 0) hx hb dX7_checkSpan_1 (by decide) ?_
  refine lv_sipush (v := 9999) hx hb dX7_checkSpan_2 (by decide) ?_
  obtain ⟨_, h5_0, hF⟩ := bndxR hF
  refine rdS (As := [.int p0, .int 0, .int 9999]) (rest := []) ⟨hx, hb, hml, hown, hts⟩ (c_X7_checkRange l D t z x p0 0 9999 H _ h5_0) (va_cwS 3 hts gX7_checkSpan_X7_checkRange rfl rfl rfl hd_X7_checkRange.2 ⟨Nat.le_of_ble_eq_true rfl, Nat.le_of_ble_eq_true rfl⟩) hC (selP (m9 := []) rfl rfl hP) rfl hl.1 rfl (Nat.le_of_ble_eq_true rfl) dX7_checkSpan_5 ⟨Nat.zero_le _, Nat.zero_le _⟩ rfl ?_
  refine lv_iload_n hx hb dX7_checkSpan_8 rfl (lv_at hl 1 rfl) ?_
  refine lv_iload_n hx hb dX7_checkSpan_9 rfl (lv_at hl 0 rfl) ?_
  refine lv_iconst (v := 1) hx hb dX7_checkSpan_10 (by decide) ?_
  refine lv_iadd hx hb dX7_checkSpan_11 ?_
  refine lv_sipush (v := 10000) hx hb dX7_checkSpan_12 (by decide) ?_
  obtain ⟨_, h15_1, hF⟩ := bndxR hF
  refine rdS (As := [.int p1, .int (p0 + 1), .int 10000]) (rest := []) ⟨hx, hb, hml, hown, hts⟩ (c_X7_checkRange l D t z x p1 (p0 + 1) 10000 H _ h15_1) (va_cwS 3 hts gX7_checkSpan_X7_checkRange rfl rfl rfl hd_X7_checkRange.2 ⟨Nat.le_of_ble_eq_true rfl, Nat.le_of_ble_eq_true rfl⟩) hC (selP (m9 := []) rfl rfl hP) rfl hl.1 rfl (Nat.le_of_ble_eq_true rfl) dX7_checkSpan_15 ⟨Nat.zero_le _, Nat.zero_le _⟩ rfl ?_
  have hF := inRE hF
  cases hF
  exact rd_vret hx hb hr hlocks dX7_checkSpan_18 rfl hQ
abbrev rmT_X7_checkSpan : Room := { frames := 7, cells := 1, slots := 6, locals := 112 }
set_option maxRecDepth 100000 in
set_option maxHeartbeats 4000000 in
theorem ct_X7_checkSpan (l : Launch) (hfl : l.stackTraces = false) (D : va_G) (t : Nat → ClassId) (z : Nat) (x : Nat → Nat) (p0 : Int32) (p1 : Int32) (H : Heap) (E : String) (hF : f_X7_checkSpan p0 p1 = some (Sum.inl E)) : ThM l D (TY t) z x yX7_checkSpan wsX7_checkSpan rmT_X7_checkSpan [.int p0, .int p1] [] H E := by
  refine th_of (cc := cX7_checkSpan) (maxL := 2) (ret := none) (by decide) rfl (Nat.le_of_ble_eq_true rfl) ?_
  intro p e s m args below meth c Q hQ hx hb hr hml hts hown hlocks hH htab hP hC ls hl
  have hown : s.vm.findClass RX7 = some m.cls := hown
  have hl : lv_has ls 2 [(0, .int p0), (1, .int p1)] := hl
  have hK := hC.1
  have hSr : va_S (fun q => z ≤ q) s.heap H [] := by rw [hH]; exact va_S.rf
  have hCs : CXT D (TY t) z x s s.heap := by rw [hH]; exact hC
  unfold f_X7_checkSpan at hF
  refine lv_iload_n hx hb dX7_checkSpan_0 rfl (lv_at hl 0 rfl) ?_
  refine lv_iconst (v := 0) hx hb dX7_checkSpan_1 (by decide) ?_
  refine lv_sipush (v := 9999) hx hb dX7_checkSpan_2 (by decide) ?_
  rcases bndxT hF with h5_0 | ⟨_, h5_0, hF⟩
  · exact th_callS (As := [.int p0, .int 0, .int 9999]) (rest := []) ⟨hx, hb, hml, hown, hts⟩ (ct_X7_checkRange l hfl D t z x p0 0 9999 H _ h5_0) (va_cwS 3 hts gX7_checkSpan_X7_checkRange rfl rfl rfl hd_X7_checkRange.2 ⟨Nat.le_of_ble_eq_true rfl, Nat.le_of_ble_eq_true rfl⟩) hC (subP (is := []) rfl hP) rfl hl.1 rfl (Nat.le_of_ble_eq_true rfl) dX7_checkSpan_5 ⟨Nat.le_of_ble_eq_true rfl, Nat.le_of_ble_eq_true rfl⟩ htab hlocks hQ
  refine rdS (As := [.int p0, .int 0, .int 9999]) (rest := []) ⟨hx, hb, hml, hown, hts⟩ (c_X7_checkRange l D t z x p0 0 9999 H _ h5_0) (va_cwS 3 hts gX7_checkSpan_X7_checkRange rfl rfl rfl hd_X7_checkRange.2 ⟨Nat.le_of_ble_eq_true rfl, Nat.le_of_ble_eq_true rfl⟩) hC (selP (m9 := []) rfl rfl hP) rfl hl.1 rfl (Nat.le_of_ble_eq_true rfl) dX7_checkSpan_5 ⟨Nat.zero_le _, Nat.zero_le _⟩ rfl ?_
  refine lv_iload_n hx hb dX7_checkSpan_8 rfl (lv_at hl 1 rfl) ?_
  refine lv_iload_n hx hb dX7_checkSpan_9 rfl (lv_at hl 0 rfl) ?_
  refine lv_iconst (v := 1) hx hb dX7_checkSpan_10 (by decide) ?_
  refine lv_iadd hx hb dX7_checkSpan_11 ?_
  refine lv_sipush (v := 10000) hx hb dX7_checkSpan_12 (by decide) ?_
  rcases bndxT hF with h15_1 | ⟨_, h15_1, hF⟩
  · exact th_callS (As := [.int p1, .int (p0 + 1), .int 10000]) (rest := []) ⟨hx, hb, hml, hown, hts⟩ (ct_X7_checkRange l hfl D t z x p1 (p0 + 1) 10000 H _ h15_1) (va_cwS 3 hts gX7_checkSpan_X7_checkRange rfl rfl rfl hd_X7_checkRange.2 ⟨Nat.le_of_ble_eq_true rfl, Nat.le_of_ble_eq_true rfl⟩) hC (subP (is := []) rfl hP) rfl hl.1 rfl (Nat.le_of_ble_eq_true rfl) dX7_checkSpan_15 ⟨Nat.le_of_ble_eq_true rfl, Nat.le_of_ble_eq_true rfl⟩ htab hlocks hQ
  refine rdS (As := [.int p1, .int (p0 + 1), .int 10000]) (rest := []) ⟨hx, hb, hml, hown, hts⟩ (c_X7_checkRange l D t z x p1 (p0 + 1) 10000 H _ h15_1) (va_cwS 3 hts gX7_checkSpan_X7_checkRange rfl rfl rfl hd_X7_checkRange.2 ⟨Nat.le_of_ble_eq_true rfl, Nat.le_of_ble_eq_true rfl⟩) hC (selP (m9 := []) rfl rfl hP) rfl hl.1 rfl (Nat.le_of_ble_eq_true rfl) dX7_checkSpan_15 ⟨Nat.zero_le _, Nat.zero_le _⟩ rfl ?_
  exact (inRN hF).elim
