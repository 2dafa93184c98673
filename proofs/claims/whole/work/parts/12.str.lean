/-! ===== the JDK's own String methods over the class files' text constants ===== -/
def chS (i j : Nat) : Int32 := (bytS.getD i []).getD j 0
theorem chS_ok : ∀ i, i < 5 → ∀ j, j < 8 → (((chS i j &&& 255).toUInt32 % 65536).toInt32 = chS i j ∧ narrow .char (.int (chS i j)) = .int (chS i j)) := by decide +kernel
abbrev rm_J0_coder : Room := { frames := 0, cells := 0, slots := 0, locals := 0 }
abbrev rm_J0_length : Room := { frames := 1, cells := 0, slots := 0, locals := 20 }
abbrev rm_J0_isLatin1 : Room := { frames := 0, cells := 0, slots := 0, locals := 0 }
abbrev rm_J3_checkIndex : Room := { frames := 0, cells := 0, slots := 0, locals := 0 }
abbrev rm_J0_checkIndex : Room := { frames := 1, cells := 0, slots := 0, locals := 22 }
abbrev rm_J1_charAt : Room := { frames := 2, cells := 0, slots := 0, locals := 43 }
abbrev rm_J0_charAt : Room := { frames := 3, cells := 0, slots := 0, locals := 64 }
theorem hd_J0_coder_7d493 : yJ0_coder_7d493.cls = RJ0 ∧ yJ0_coder_7d493.cls ≠ "java/lang/invoke/MethodHandle" ∧ yJ0_coder_7d493.cls ≠ "java/lang/invoke/VarHandle" ∧ (parseMethodDescriptor yJ0_coder_7d493.desc).map (fun d => d.parameters.length) = some 0 := by decide +kernel
theorem hd_J0_length_8abf5 : yJ0_length_8abf5.cls = RJ0 ∧ yJ0_length_8abf5.cls ≠ "java/lang/invoke/MethodHandle" ∧ yJ0_length_8abf5.cls ≠ "java/lang/invoke/VarHandle" ∧ (parseMethodDescriptor yJ0_length_8abf5.desc).map (fun d => d.parameters.length) = some 0 := by decide +kernel
theorem hd_J0_isLatin1_aae02 : yJ0_isLatin1_aae02.cls = RJ0 ∧ yJ0_isLatin1_aae02.cls ≠ "java/lang/invoke/MethodHandle" ∧ yJ0_isLatin1_aae02.cls ≠ "java/lang/invoke/VarHandle" ∧ (parseMethodDescriptor yJ0_isLatin1_aae02.desc).map (fun d => d.parameters.length) = some 0 := by decide +kernel
theorem hd_J3_checkIndex_8e157 : yJ3_checkIndex_8e157.cls = RJ3 ∧ yJ3_checkIndex_8e157.cls ≠ "java/lang/invoke/MethodHandle" ∧ yJ3_checkIndex_8e157.cls ≠ "java/lang/invoke/VarHandle" ∧ (parseMethodDescriptor yJ3_checkIndex_8e157.desc).map (fun d => d.parameters.length) = some 3 := by decide +kernel
theorem hd_J0_checkIndex_df160 : yJ0_checkIndex_df160.cls = RJ0 ∧ yJ0_checkIndex_df160.cls ≠ "java/lang/invoke/MethodHandle" ∧ yJ0_checkIndex_df160.cls ≠ "java/lang/invoke/VarHandle" ∧ (parseMethodDescriptor yJ0_checkIndex_df160.desc).map (fun d => d.parameters.length) = some 2 := by decide +kernel
theorem hd_J1_charAt_3b067 : yJ1_charAt_3b067.cls = RJ1 ∧ yJ1_charAt_3b067.cls ≠ "java/lang/invoke/MethodHandle" ∧ yJ1_charAt_3b067.cls ≠ "java/lang/invoke/VarHandle" ∧ (parseMethodDescriptor yJ1_charAt_3b067.desc).map (fun d => d.parameters.length) = some 2 := by decide +kernel
theorem hd_J0_charAt_5068e : yJ0_charAt_5068e.cls = RJ0 ∧ yJ0_charAt_5068e.cls ≠ "java/lang/invoke/MethodHandle" ∧ yJ0_charAt_5068e.cls ≠ "java/lang/invoke/VarHandle" ∧ (parseMethodDescriptor yJ0_charAt_5068e.desc).map (fun d => d.parameters.length) = some 1 := by decide +kernel
set_option maxRecDepth 100000 in
set_option maxHeartbeats 4000000 in
theorem c_J0_coder (l : Launch) (D : va_G) (t : Nat → ClassId) (z : Nat) (x : Nat → Nat) (i : Nat) (hi : i < 5) (H : Heap) : RdM l D (TY t) z x yJ0_coder_7d493 wsJ0_coder_7d493 rm_J0_coder [.ref (x (10 + i))] [] H (some (.int 0)) := by
  refine rd_of (cc := cJ0_coder_7d493) (maxL := 1) (ret := some .byte) (by decide) rfl (Nat.le_of_ble_eq_true rfl) ?_
  intro p e s m args below meth c Q hQ hx hb hr hml hts hown hlocks hH hP hC ls hl
  have hown : s.vm.findClass RJ0 = some m.cls := hown
  have hl : lv_has ls 1 [(0, .ref (x (10 + i)))] := hl
  have hSr : va_S (fun q => z ≤ q) s.heap H [] := by rw [hH]; exact va_S.rf
  have hCs : CXT D (TY t) z x s s.heap := by rw [hH]; exact hC
  refine va_gets (A := fun q => z ≤ q) hx hb hCs.2.2.2.2.1.2.1 hSr hown (hts (.fieldLink RJ0 38 "java/lang/String" "COMPACT_STRINGS" "Z") (by decide +kernel)) (fun _ h => h) dJ0_coder_7d493_0 ?_
  refine lv_if_eq (tgt := 13) hx hb dJ0_coder_7d493_3 (by decide) (fun c3 => absurd c3 (by decide)) (fun c3 => ?_)
  refine lv_aload_n hx hb dJ0_coder_7d493_6 rfl (lv_at hl 0 rfl) ?_
  refine vk_getf (A := fun q => z ≤ q) hx hb (hCs.2.2.2.2.1.1.1 i hi).2.1 hSr hown (hts (.fieldLink RJ0 15 "java/lang/String" "coder" "B") (by decide +kernel)) (fun _ h => h) dJ0_coder_7d493_7 ?_
  refine lv_goto (tgt := 14) hx hb dJ0_coder_7d493_10 (by decide) ?_
  exact rd_tret hx hb hr hlocks dJ0_coder_7d493_14 rfl rfl hQ
set_option maxRecDepth 100000 in
set_option maxHeartbeats 4000000 in
theorem c_J0_isLatin1 (l : Launch) (D : va_G) (t : Nat → ClassId) (z : Nat) (x : Nat → Nat) (i : Nat) (hi : i < 5) (H : Heap) : RdM l D (TY t) z x yJ0_isLatin1_aae02 wsJ0_isLatin1_aae02 rm_J0_isLatin1 [.ref (x (10 + i))] [] H (some (.int 1)) := by
  refine rd_of (cc := cJ0_isLatin1_aae02) (maxL := 1) (ret := some .boolean) (by decide) rfl (Nat.le_of_ble_eq_true rfl) ?_
  intro p e s m args below meth c Q hQ hx hb hr hml hts hown hlocks hH hP hC ls hl
  have hown : s.vm.findClass RJ0 = some m.cls := hown
  have hl : lv_has ls 1 [(0, .ref (x (10 + i)))] := hl
  have hSr : va_S (fun q => z ≤ q) s.heap H [] := by rw [hH]; exact va_S.rf
  have hCs : CXT D (TY t) z x s s.heap := by rw [hH]; exact hC
  refine va_gets (A := fun q => z ≤ q) hx hb hCs.2.2.2.2.1.2.1 hSr hown (hts (.fieldLink RJ0 38 "java/lang/String" "COMPACT_STRINGS" "Z") (by decide +kernel)) (fun _ h => h) dJ0_isLatin1_aae02_0 ?_
  refine lv_if_eq (tgt := 17) hx hb dJ0_isLatin1_aae02_3 (by decide) (fun c3 => absurd c3 (by decide)) (fun c3 => ?_)
  refine lv_aload_n hx hb dJ0_isLatin1_aae02_6 rfl (lv_at hl 0 rfl) ?_
  refine vk_getf (A := fun q => z ≤ q) hx hb (hCs.2.2.2.2.1.1.1 i hi).2.1 hSr hown (hts (.fieldLink RJ0 15 "java/lang/String" "coder" "B") (by decide +kernel)) (fun _ h => h) dJ0_isLatin1_aae02_7 ?_
  refine lv_if_ne (tgt := 17) hx hb dJ0_isLatin1_aae02_10 (by decide) (fun c10 => absurd rfl c10) (fun c10 => ?_)
  refine lv_iconst (v := 1) hx hb dJ0_isLatin1_aae02_13 (by decide) ?_
  refine lv_goto (tgt := 18) hx hb dJ0_isLatin1_aae02_14 (by decide) ?_
  exact rd_tret hx hb hr hlocks dJ0_isLatin1_aae02_18 rfl rfl hQ
set_option maxRecDepth 100000 in
set_option maxHeartbeats 4000000 in
theorem c_J0_length (l : Launch) (D : va_G) (t : Nat → ClassId) (z : Nat) (x : Nat → Nat) (i : Nat) (hi : i < 5) (H : Heap) : RdM l D (TY t) z x yJ0_length_8abf5 wsJ0_length_8abf5 rm_J0_length [.ref (x (10 + i))] [] H (some (.int (nI (lenS.getD i 0)))) := by
  refine rd_of (cc := cJ0_length_8abf5) (maxL := 1) (ret := some .int) (by decide) rfl (Nat.le_of_ble_eq_true rfl) ?_
  intro p e s m args below meth c Q hQ hx hb hr hml hts hown hlocks hH hP hC ls hl
  have hown : s.vm.findClass RJ0 = some m.cls := hown
  have hl : lv_has ls 1 [(0, .ref (x (10 + i)))] := hl
  have hSr : va_S (fun q => z ≤ q) s.heap H [] := by rw [hH]; exact va_S.rf
  have hCs : CXT D (TY t) z x s s.heap := by rw [hH]; exact hC
  refine lv_aload_n hx hb dJ0_length_8abf5_0 rfl (lv_at hl 0 rfl) ?_
  refine vk_getf (A := fun q => z ≤ q) hx hb (hCs.2.2.2.2.1.1.1 i hi).2.2.1 hSr hown (hts (.fieldLink RJ0 9 "java/lang/String" "value" "[B") (by decide +kernel)) (fun _ h => h) dJ0_length_8abf5_1 ?_
  refine va_tlen (A := fun q => z ≤ q) (v := nI (lenS.getD i 0)) hx hb (hCs.2.2.2.2.1.1.1 i hi).2.2.2 hSr rfl dJ0_length_8abf5_4 ?_
  refine lv_aload_n hx hb dJ0_length_8abf5_5 rfl (lv_at hl 0 rfl) ?_
  refine rdVx (As := []) (rest := [.int (nI (lenS.getD i 0))]) (C := RJ0) ⟨hx, hb, hml, hown, hts⟩ (c_J0_coder l D t z x i hi H) (cwV 0 hts gJ0_length_8abf5_J0_coder_7d493 rfl rfl rfl hd_J0_coder_7d493 ⟨Nat.le_of_ble_eq_true rfl, Nat.le_of_ble_eq_true rfl⟩) hC hP (vk_recv (adK := fun i => x (10 + i)) hCs.2.2.2.2.1.1 hi hSr) rfl hl.1 rfl (Nat.le_of_ble_eq_true rfl) dJ0_length_8abf5_6 ⟨Nat.zero_le _, Nat.zero_le _⟩ rfl ?_
  refine lv_ishr hx hb dJ0_length_8abf5_9 ?_
  rw [sb_shr0]
  exact rd_iret hx hb hr hlocks dJ0_length_8abf5_10 rfl hQ
set_option maxRecDepth 100000 in
set_option maxHeartbeats 4000000 in
theorem c_J3_checkIndex (l : Launch) (D : va_G) (t : Nat → ClassId) (z : Nat) (x : Nat → Nat) (j n : Int32) (v : Value) (hv : v = .null ∨ ∃ q : Nat, v = .ref q) (h0 : ¬ j < 0) (h1 : j < n) (H : Heap) : RdM l D (TY t) z x yJ3_checkIndex_8e157 wsJ3_checkIndex_8e157 rm_J3_checkIndex [.int j, .int n, v] [] H (some (.int j)) := by
  rcases hv with rfl | ⟨q, rfl⟩
  · refine rd_of (cc := cJ3_checkIndex_8e157) (maxL := 3) (ret := some .int) (by decide) rfl (Nat.le_of_ble_eq_true rfl) ?_
    intro p e s m args below meth c Q hQ hx hb hr hml hts hown hlocks hH hP hC ls hl
    have hown : s.vm.findClass RJ3 = some m.cls := hown
    have hl : lv_has ls 3 [(0, .int j), (1, .int n), (2, .null)] := hl
    have hSr : va_S (fun q => z ≤ q) s.heap H [] := by rw [hH]; exact va_S.rf
    have hCs : CXT D (TY t) z x s s.heap := by rw [hH]; exact hC
    refine lv_iload_n hx hb dJ3_checkIndex_8e157_0 rfl (lv_at hl 0 rfl) ?_
    refine lv_if_lt (tgt := 9) hx hb dJ3_checkIndex_8e157_1 (by decide) (fun c1 => absurd c1 h0) (fun c1 => ?_)
    refine lv_iload_n hx hb dJ3_checkIndex_8e157_4 rfl (lv_at hl 0 rfl) ?_
    refine lv_iload_n hx hb dJ3_checkIndex_8e157_5 rfl (lv_at hl 1 rfl) ?_
    refine lv_icmp_lt (tgt := 16) hx hb dJ3_checkIndex_8e157_6 (by decide) (fun c6 => ?_) (fun c6 => absurd h1 c6)
    refine lv_iload_n hx hb dJ3_checkIndex_8e157_16 rfl (lv_at hl 0 rfl) ?_
    exact rd_iret hx hb hr hlocks dJ3_checkIndex_8e157_17 rfl hQ
  · refine rd_of (cc := cJ3_checkIndex_8e157) (maxL := 3) (ret := some .int) (by decide) rfl (Nat.le_of_ble_eq_true rfl) ?_
    intro p e s m args below meth c Q hQ hx hb hr hml hts hown hlocks hH hP hC ls hl
    have hown : s.vm.findClass RJ3 = some m.cls := hown
    have hl : lv_has ls 3 [(0, .int j), (1, .int n), (2, .ref q)] := hl
    have hSr : va_S (fun q => z ≤ q) s.heap H [] := by rw [hH]; exact va_S.rf
    have hCs : CXT D (TY t) z x s s.heap := by rw [hH]; exact hC
    refine lv_iload_n hx hb dJ3_checkIndex_8e157_0 rfl (lv_at hl 0 rfl) ?_
    refine lv_if_lt (tgt := 9) hx hb dJ3_checkIndex_8e157_1 (by decide) (fun c1 => absurd c1 h0) (fun c1 => ?_)
    refine lv_iload_n hx hb dJ3_checkIndex_8e157_4 rfl (lv_at hl 0 rfl) ?_
    refine lv_iload_n hx hb dJ3_checkIndex_8e157_5 rfl (lv_at hl 1 rfl) ?_
    refine lv_icmp_lt (tgt := 16) hx hb dJ3_checkIndex_8e157_6 (by decide) (fun c6 => ?_) (fun c6 => absurd h1 c6)
    refine lv_iload_n hx hb dJ3_checkIndex_8e157_16 rfl (lv_at hl 0 rfl) ?_
    exact rd_iret hx hb hr hlocks dJ3_checkIndex_8e157_17 rfl hQ
set_option maxRecDepth 100000 in
set_option maxHeartbeats 4000000 in
theorem c_J0_checkIndex (l : Launch) (D : va_G) (t : Nat → ClassId) (z : Nat) (x : Nat → Nat) (j n : Int32) (h0 : ¬ j < 0) (h1 : j < n) (H : Heap) : RdM l D (TY t) z x yJ0_checkIndex_df160 wsJ0_checkIndex_df160 rm_J0_checkIndex [.int j, .int n] [] H none := by
  refine rd_of (cc := cJ0_checkIndex_df160) (maxL := 2) (ret := none) (by decide) rfl (Nat.le_of_ble_eq_true rfl) ?_
  intro p e s m args below meth c Q hQ hx hb hr hml hts hown hlocks hH hP hC ls hl
  have hown : s.vm.findClass RJ0 = some m.cls := hown
  have hl : lv_has ls 2 [(0, .int j), (1, .int n)] := hl
  have hSr : va_S (fun q => z ≤ q) s.heap H [] := by rw [hH]; exact va_S.rf
  have hCs : CXT D (TY t) z x s s.heap := by rw [hH]; exact hC
  refine lv_iload_n hx hb dJ0_checkIndex_df160_0 rfl (lv_at hl 0 rfl) ?_
  refine lv_iload_n hx hb dJ0_checkIndex_df160_1 rfl (lv_at hl 1 rfl) ?_
  have hf := hts (.fieldLink RJ0 1053 "jdk/internal/util/Preconditions" "SIOOBE_FORMATTER" "Ljava/util/function/BiFunction;") (by decide +kernel)
  have key : ∀ v : Value, (v = .null ∨ ∃ q : Nat, v = .ref q) → W p l e rm_J0_checkIndex s m args below meth c H [] 0 0 Q (F0 m 5 ls [v, .int n, .int j]) := by
    intro v hv
    refine rdS (As := [.int j, .int n, v]) (rest := []) ⟨hx, hb, hml, hown, hts⟩ (c_J3_checkIndex l D t z x j n v hv h0 h1 H) (va_cwS 3 hts gJ0_checkIndex_df160_J3_checkIndex_8e157 rfl rfl rfl hd_J3_checkIndex_8e157.2 ⟨Nat.le_of_ble_eq_true rfl, Nat.le_of_ble_eq_true rfl⟩) hC hP rfl hl.1 rfl (Nat.le_of_ble_eq_true rfl) dJ0_checkIndex_df160_5 ⟨Nat.zero_le _, Nat.zero_le _⟩ rfl ?_
    refine lv_pop hx hb dJ0_checkIndex_df160_8 rfl ?_
    exact rd_vret hx hb hr hlocks dJ0_checkIndex_df160_9 rfl hQ
  rcases hCs.2.2.2.2.1.2.2 with h | ⟨q, h⟩
  · exact va_gets (A := fun q => z ≤ q) hx hb h hSr hown hf (fun _ h => h) dJ0_checkIndex_df160_2 (key _ (Or.inl rfl))
  · exact va_gets (A := fun q => z ≤ q) hx hb h hSr hown hf (fun _ h => h) dJ0_checkIndex_df160_2 (key _ (Or.inr ⟨q, rfl⟩))
set_option maxRecDepth 100000 in
set_option maxHeartbeats 4000000 in
theorem c_J1_charAt (l : Launch) (D : va_G) (t : Nat → ClassId) (z : Nat) (x : Nat → Nat) (i : Nat) (hi : i < 5) (j : Int32) (hj : vp_in j (lenS.getD i 0)) (H : Heap) : RdM l D (TY t) z x yJ1_charAt_3b067 wsJ1_charAt_3b067 rm_J1_charAt [.ref (x (20 + i)), .int j] [] H (some (.int (chS i j.toNatClampNeg))) := by
  have h8 : j.toNatClampNeg < 8 := Nat.lt_of_lt_of_le (Nat.lt_of_not_le (fun h => hj (Or.inr h))) ((show ∀ i, i < 5 → lenS.getD i 0 ≤ 8 by decide) i hi)
  have hc8 := chS_ok i hi _ h8
  have hlt : j < nI (lenS.getD i 0) := by
    obtain ⟨k, hk, rfl⟩ := vp_in_of hj (Nat.lt_of_le_of_lt ((show ∀ i, i < 5 → lenS.getD i 0 ≤ 8 by decide) i hi) (by decide))
    exact nI_lt hk (Nat.lt_of_le_of_lt ((show ∀ i, i < 5 → lenS.getD i 0 ≤ 8 by decide) i hi) (by decide))
  refine rd_of (cc := cJ1_charAt_3b067) (maxL := 2) (ret := some .char) (by decide) rfl (Nat.le_of_ble_eq_true rfl) ?_
  intro p e s m args below meth c Q hQ hx hb hr hml hts hown hlocks hH hP hC ls hl
  have hown : s.vm.findClass RJ1 = some m.cls := hown
  have hl : lv_has ls 2 [(0, .ref (x (20 + i))), (1, .int j)] := hl
  have hSr : va_S (fun q => z ≤ q) s.heap H [] := by rw [hH]; exact va_S.rf
  have hCs : CXT D (TY t) z x s s.heap := by rw [hH]; exact hC
  refine lv_iload_n hx hb dJ1_charAt_3b067_0 rfl (lv_at hl 1 rfl) ?_
  refine lv_aload_n hx hb dJ1_charAt_3b067_1 rfl (lv_at hl 0 rfl) ?_
  refine va_tlen (A := fun q => z ≤ q) (v := nI (lenS.getD i 0)) hx hb (hCs.2.2.2.2.1.1.1 i hi).2.2.2 hSr rfl dJ1_charAt_3b067_2 ?_
  refine rdS (As := [.int j, .int (nI (lenS.getD i 0))]) (rest := []) ⟨hx, hb, hml, hown, hts⟩ (c_J0_checkIndex l D t z x j (nI (lenS.getD i 0)) (fun h => hj (Or.inl h)) hlt H) (va_cwS 2 hts gJ1_charAt_3b067_J0_checkIndex_df160 rfl rfl rfl hd_J0_checkIndex_df160.2 ⟨Nat.le_of_ble_eq_true rfl, Nat.le_of_ble_eq_true rfl⟩) hC hP rfl hl.1 rfl (Nat.le_of_ble_eq_true rfl) dJ1_charAt_3b067_3 ⟨Nat.zero_le _, Nat.zero_le _⟩ rfl ?_
  refine lv_aload_n hx hb dJ1_charAt_3b067_6 rfl (lv_at hl 0 rfl) ?_
  refine lv_iload_n hx hb dJ1_charAt_3b067_7 rfl (lv_at hl 1 rfl) ?_
  refine va_tb (A := fun q => z ≤ q) (v := .int (chS i j.toNatClampNeg)) hx hb (hCs.2.2.2.2.1.1.1 i hi).2.2.2 hSr hj rfl dJ1_charAt_3b067_8 ?_
  refine lv_sipush (v := 255) hx hb dJ1_charAt_3b067_9 (by decide) ?_
  refine lv_iand hx hb dJ1_charAt_3b067_12 ?_
  refine lv_i2c hx hb dJ1_charAt_3b067_13 hc8.1 ?_
  exact rd_tret hx hb hr hlocks dJ1_charAt_3b067_14 hc8.2 rfl hQ
set_option maxRecDepth 100000 in
set_option maxHeartbeats 4000000 in
theorem c_J0_charAt (l : Launch) (D : va_G) (t : Nat → ClassId) (z : Nat) (x : Nat → Nat) (i : Nat) (hi : i < 5) (j : Int32) (hj : vp_in j (lenS.getD i 0)) (H : Heap) : RdM l D (TY t) z x yJ0_charAt_5068e wsJ0_charAt_5068e rm_J0_charAt [.ref (x (10 + i)), .int j] [] H (some (.int (chS i j.toNatClampNeg))) := by
  have h8 : j.toNatClampNeg < 8 := Nat.lt_of_lt_of_le (Nat.lt_of_not_le (fun h => hj (Or.inr h))) ((show ∀ i, i < 5 → lenS.getD i 0 ≤ 8 by decide) i hi)
  have hc8 := chS_ok i hi _ h8
  refine rd_of (cc := cJ0_charAt_5068e) (maxL := 2) (ret := some .char) (by decide) rfl (Nat.le_of_ble_eq_true rfl) ?_
  intro p e s m args below meth c Q hQ hx hb hr hml hts hown hlocks hH hP hC ls hl
  have hown : s.vm.findClass RJ0 = some m.cls := hown
  have hl : lv_has ls 2 [(0, .ref (x (10 + i))), (1, .int j)] := hl
  have hSr : va_S (fun q => z ≤ q) s.heap H [] := by rw [hH]; exact va_S.rf
  have hCs : CXT D (TY t) z x s s.heap := by rw [hH]; exact hC
  refine lv_aload_n hx hb dJ0_charAt_5068e_0 rfl (lv_at hl 0 rfl) ?_
  refine rdVx (As := []) (rest := []) (C := RJ0) ⟨hx, hb, hml, hown, hts⟩ (c_J0_isLatin1 l D t z x i hi H) (cwV 0 hts gJ0_charAt_5068e_J0_isLatin1_aae02 rfl rfl rfl hd_J0_isLatin1_aae02 ⟨Nat.le_of_ble_eq_true rfl, Nat.le_of_ble_eq_true rfl⟩) hC hP (vk_recv (adK := fun i => x (10 + i)) hCs.2.2.2.2.1.1 hi hSr) rfl hl.1 rfl (Nat.le_of_ble_eq_true rfl) dJ0_charAt_5068e_1 ⟨Nat.zero_le _, Nat.zero_le _⟩ rfl ?_
  refine lv_if_eq (tgt := 16) hx hb dJ0_charAt_5068e_4 (by decide) (fun c4 => absurd c4 (by decide)) (fun c4 => ?_)
  refine lv_aload_n hx hb dJ0_charAt_5068e_7 rfl (lv_at hl 0 rfl) ?_
  refine vk_getf (A := fun q => z ≤ q) hx hb (hCs.2.2.2.2.1.1.1 i hi).2.2.1 hSr hown (hts (.fieldLink RJ0 9 "java/lang/String" "value" "[B") (by decide +kernel)) (fun _ h => h) dJ0_charAt_5068e_8 ?_
  refine lv_iload_n hx hb dJ0_charAt_5068e_11 rfl (lv_at hl 1 rfl) ?_
  refine rdS (As := [.ref (x (20 + i)), .int j]) (rest := []) ⟨hx, hb, hml, hown, hts⟩ (c_J1_charAt l D t z x i hi j hj H) (va_cwS 2 hts gJ0_charAt_5068e_J1_charAt_3b067 rfl rfl rfl hd_J1_charAt_3b067.2 ⟨Nat.le_of_ble_eq_true rfl, Nat.le_of_ble_eq_true rfl⟩) hC hP rfl hl.1 rfl (Nat.le_of_ble_eq_true rfl) dJ0_charAt_5068e_12 ⟨Nat.zero_le _, Nat.zero_le _⟩ rfl ?_
  exact rd_tret hx hb hr hlocks dJ0_charAt_5068e_15 hc8.2 rfl hQ
