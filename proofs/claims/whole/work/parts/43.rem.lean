def f_bec (dst src : CS) : Option CS := f_X2_become src.1 src.2.1 src.2.2.1 src.2.2.2.1 src.2.2.2.2.1 src.2.2.2.2.2.1 src.2.2.2.2.2.2.1 src.2.2.2.2.2.2.2.1 src.2.2.2.2.2.2.2.2.1 src.2.2.2.2.2.2.2.2.2.1 src.2.2.2.2.2.2.2.2.2.2.1 src.2.2.2.2.2.2.2.2.2.2.2.1 src.2.2.2.2.2.2.2.2.2.2.2.2.1 src.2.2.2.2.2.2.2.2.2.2.2.2.2.1 src.2.2.2.2.2.2.2.2.2.2.2.2.2.2.1 src.2.2.2.2.2.2.2.2.2.2.2.2.2.2.2.1 src.2.2.2.2.2.2.2.2.2.2.2.2.2.2.2.2.1 src.2.2.2.2.2.2.2.2.2.2.2.2.2.2.2.2.2.1 src.2.2.2.2.2.2.2.2.2.2.2.2.2.2.2.2.2.2 dst.2.2.2.1 dst.2.2.2.2.2.2.1 dst.2.2.2.2.2.2.2.1 dst.2.2.2.2.2.2.2.2.1 dst.2.2.2.2.2.2.2.2.2.1 dst.2.2.2.2.2.2.2.2.2.2.1 dst.2.2.2.2.2.2.2.2.2.2.2.2.1 dst.2.2.2.2.2.2.2.2.2.2.2.2.2.1 dst.2.2.2.2.2.2.2.2.2.2.2.2.2.2.1 dst.2.2.2.2.2.2.2.2.2.2.2.2.2.2.2.2.1 dst.2.2.2.2.2.2.2.2.2.2.2.2.2.2.2.2.2.1 dst.2.2.2.2.2.2.2.2.2.2.2.2.2.2.2.2.2.2
set_option maxRecDepth 100000 in
set_option maxHeartbeats 4000000 in
theorem c_bec (l : Launch) (D : va_G) (t : Nat → ClassId) (z : Nat) (x : Nat → Nat) (da sa : Nat → Nat) (dst src r : CS) (sz : Nat) (hF : f_bec dst src = some r) : WrM l D (TY t) z x yX2_become wsX2_become rm_X2_become [.ref (da 0), .ref (sa 0)] (colW t sa src ++ colW t da dst) (colW t sa src ++ colW t da r) sz none 0 0 := c_X2_become l D t z x (sa 0) (sa 1) (sa 2) (sa 3) (sa 4) (sa 5) (sa 6) (sa 7) (sa 8) (sa 9) (sa 10) (sa 11) (sa 12) (sa 13) (sa 14) (sa 15) (sa 16) (da 0) (da 1) (da 2) (da 3) (da 4) (da 5) (da 6) (da 7) (da 8) (da 9) (da 10) (da 11) (da 12) (da 13) (da 14) (da 15) (da 16) src.1 src.2.1 src.2.2.1 src.2.2.2.1 src.2.2.2.2.1 src.2.2.2.2.2.1 src.2.2.2.2.2.2.1 src.2.2.2.2.2.2.2.1 src.2.2.2.2.2.2.2.2.1 src.2.2.2.2.2.2.2.2.2.1 src.2.2.2.2.2.2.2.2.2.2.1 src.2.2.2.2.2.2.2.2.2.2.2.1 src.2.2.2.2.2.2.2.2.2.2.2.2.1 src.2.2.2.2.2.2.2.2.2.2.2.2.2.1 src.2.2.2.2.2.2.2.2.2.2.2.2.2.2.1 src.2.2.2.2.2.2.2.2.2.2.2.2.2.2.2.1 src.2.2.2.2.2.2.2.2.2.2.2.2.2.2.2.2.1 src.2.2.2.2.2.2.2.2.2.2.2.2.2.2.2.2.2.1 src.2.2.2.2.2.2.2.2.2.2.2.2.2.2.2.2.2.2 dst.1 dst.2.1 dst.2.2.1 dst.2.2.2.1 dst.2.2.2.2.1 dst.2.2.2.2.2.1 dst.2.2.2.2.2.2.1 dst.2.2.2.2.2.2.2.1 dst.2.2.2.2.2.2.2.2.1 dst.2.2.2.2.2.2.2.2.2.1 dst.2.2.2.2.2.2.2.2.2.2.1 dst.2.2.2.2.2.2.2.2.2.2.2.1 dst.2.2.2.2.2.2.2.2.2.2.2.2.1 dst.2.2.2.2.2.2.2.2.2.2.2.2.2.1 dst.2.2.2.2.2.2.2.2.2.2.2.2.2.2.1 dst.2.2.2.2.2.2.2.2.2.2.2.2.2.2.2.1 dst.2.2.2.2.2.2.2.2.2.2.2.2.2.2.2.2.1 dst.2.2.2.2.2.2.2.2.2.2.2.2.2.2.2.2.2.1 dst.2.2.2.2.2.2.2.2.2.2.2.2.2.2.2.2.2.2 sz r.1 r.2.1 r.2.2.1 r.2.2.2.1 r.2.2.2.2.1 r.2.2.2.2.2.1 r.2.2.2.2.2.2.1 r.2.2.2.2.2.2.2.1 r.2.2.2.2.2.2.2.2.1 r.2.2.2.2.2.2.2.2.2.1 r.2.2.2.2.2.2.2.2.2.2.1 r.2.2.2.2.2.2.2.2.2.2.2.1 r.2.2.2.2.2.2.2.2.2.2.2.2.1 r.2.2.2.2.2.2.2.2.2.2.2.2.2.1 r.2.2.2.2.2.2.2.2.2.2.2.2.2.2.1 r.2.2.2.2.2.2.2.2.2.2.2.2.2.2.2.1 r.2.2.2.2.2.2.2.2.2.2.2.2.2.2.2.2.1 r.2.2.2.2.2.2.2.2.2.2.2.2.2.2.2.2.2.1 r.2.2.2.2.2.2.2.2.2.2.2.2.2.2.2.2.2.2 hF
abbrev rm_X7_forgetOldest : Room := { frames := 0, cells := 0, slots := 0, locals := 0 }
theorem hd_X7_forgetOldest : yX7_forgetOldest.cls = RX7 ∧ yX7_forgetOldest.cls ≠ "java/lang/invoke/MethodHandle" ∧ yX7_forgetOldest.cls ≠ "java/lang/invoke/VarHandle" ∧ (parseMethodDescriptor yX7_forgetOldest.desc).map (fun d => d.parameters.length) = some 0 := by decide +kernel
set_option maxRecDepth 100000 in
set_option maxHeartbeats 4000000 in
theorem c_X7_forgetOldest (l : Launch) (D : va_G) (t : Nat → ClassId) (z : Nat) (x : Nat → Nat) (a_t : Nat) (v0 v1 v2 v3 v4 : Value) (as : Nat) (vc : Value) (sc ea : Int32) (adr : Nat → Nat → Nat) (sav : Nat → CS) (sz : Nat) : WrM l D (TY t) z x yX7_forgetOldest wsX7_forgetOldest rm_X7_forgetOldest [.ref a_t] (mnC a_t v0 v1 v2 v3 v4 as vc sc ea :: SVT t as adr sav) (mnC a_t v0 v1 v2 v3 v4 as vc 7 ea :: SVT t as (rotA adr) (rotA sav)) sz none 0 0 := by
  refine wr_of (cc := cX7_forgetOldest) (maxL := 3) (ret := none) (by decide) rfl (Nat.le_of_ble_eq_true rfl) ?_
  intro p e s m args below meth c A Q hQ hx hb hr hml hts hown hlocks hin H locs hP hD hS hA hz hC ls hl
  have hown : s.vm.findClass RX7 = some m.cls := hown
  have hK := hC.1

  have hl : lv_has ls 3 [(0, .ref a_t)] := hl
  have iw7 : ∀ w ∈ wsX70, w ∈ wsX7_forgetOldest := fun _ h => List.mem_cons_of_mem _ (List.mem_append_right _ h)
  have hf44 := hts (.fieldLink RX7 44 "CrackedColumn" "saved" "[LCrackedColumn$Column;") (by decide +kernel)
  have hf51 := hts (.fieldLink RX7 51 "CrackedColumn" "savedCount" "I") (by decide +kernel)
  refine lv_aload_n hx hb dX7_forgetOldest_0 rfl (lv_at hl 0 rfl) ?_
  refine va_get (D := D) (ci := 7) (v := .ref as) (C := RX7) (T := TX7) (N := 9) hx hb hts iw7 hown hK hP 0 rfl rfl 5 (by decide) hf44 (fun _ h9 => h9) rfl dX7_forgetOldest_1 ?_
  refine lv_iconst (v := 0) hx hb dX7_forgetOldest_4 (by decide) ?_
  refine my_aldq (v := adr 0 0) hx hb hK hP 1 2 rfl rfl (vp_lit (by decide +kernel)) rfl dX7_forgetOldest_5 ?_
  refine lv_astore_n (lv' := [(1, .ref (adr 0 0)), (0, .ref a_t)]) hx hb dX7_forgetOldest_6 rfl hl (by decide) rfl (fun ls hl => ?_)
  refine lv_iconst (v := 1) hx hb dX7_forgetOldest_7 (by decide) ?_
  refine lv_istore_n (lv' := [(2, .int 1), (1, .ref (adr 0 0)), (0, .ref a_t)]) hx hb dX7_forgetOldest_8 rfl hl (by decide) rfl (fun ls hl => ?_)
  have hlp : ∀ (r k : Nat) (H : Heap) (locs : List Loc) (ls : Array Slot), r + k = 8 → 1 ≤ k → va_P D vwCl (mnC a_t v0 v1 v2 v3 v4 as vc sc ea :: (as, .inl (t 2, 8, .inr (.inr (.inr (.inr (fK adr k)))))) :: svF t adr sav) H → va_D A (mnC a_t v0 v1 v2 v3 v4 as vc sc ea :: (as, .inl (t 2, 8, .inr (.inr (.inr (.inr (fK adr k)))))) :: svF t adr sav) → va_S A s.heap H locs → lv_has ls 3 [(2, .int (nI k)), (1, .ref (adr 0 0)), (0, .ref a_t)] → W p l e rm_X7_forgetOldest s m args below meth c H locs 0 0 Q (F0 m 9 ls []) := by
    intro r
    induction r with
    | zero =>
      intro k H locs ls hk h1 hP hD hS hl
      obtain rfl : k = 8 := by omega
      refine lv_iload_n hx hb dX7_forgetOldest_9 rfl (lv_at hl 0 rfl) ?_
      refine lv_bipush (v := 8) hx hb dX7_forgetOldest_10 (by decide) ?_
      refine lv_icmp_ge (tgt := 35) hx hb dX7_forgetOldest_12 (by decide) (fun c9 => ?_) (fun c9 => absurd (by decide) c9)
      refine lv_aload_n hx hb dX7_forgetOldest_35 rfl (lv_at hl 2 rfl) ?_
      refine va_get (D := D) (ci := 7) (v := .ref as) (C := RX7) (T := TX7) (N := 9) hx hb hts iw7 hown hK hP 0 rfl rfl 5 (by decide) hf44 (fun _ h9 => h9) rfl dX7_forgetOldest_36 ?_
      refine lv_bipush (v := 7) hx hb dX7_forgetOldest_39 (by decide) ?_
      refine lv_aload_n hx hb dX7_forgetOldest_41 rfl (lv_at hl 1 rfl) ?_
      refine my_astq (ci := 2) (r := (RX2, TX2, 8)) (g := svA (rotA adr)) (wn := mnC a_t v0 v1 v2 v3 v4 as vc sc ea :: (as, .inl (t 2, 8, .inr (.inr (.inr (.inr (svA (rotA adr))))))) :: svF t adr sav) hx hb hK hP hD hS 1 2 2 rfl rfl rfl rfl (vp_lit (by decide +kernel)) fK_8 rfl dX7_forgetOldest_42 (fun H locs hP hD hS => ?_)
      refine lv_aload_n hx hb dX7_forgetOldest_43 rfl (lv_at hl 2 rfl) ?_
      refine lv_bipush (v := 7) hx hb dX7_forgetOldest_44 (by decide) ?_
      refine my_put (ty := .int) (v := .int 7) (ci := 7) (C := RX7) (T := TX7) (N := 9) (wn := mnC a_t v0 v1 v2 v3 v4 as vc 7 ea :: (as, .inl (t 2, 8, .inr (.inr (.inr (.inr (svA (rotA adr))))))) :: svF t adr sav) hx hb hts iw7 tyX7 tyX7_ok nmX7 hown hK hP hD hS 0 rfl rfl 7 (by decide) hf51 (fun _ h9 => h9) rfl (by decide +kernel) rfl rfl (Nat.le_of_ble_eq_true rfl) rfl dX7_forgetOldest_46 (fun H locs hP hD hS => ?_)
      exact wr_vretP hx hb hr hlocks dX7_forgetOldest_49 rfl hQ hP hD hS ((svF_rot.cons _).cons _)
    | succ r ih =>
      intro k H locs ls hk h1 hP hD hS hl
      refine lv_iload_n hx hb dX7_forgetOldest_9 rfl (lv_at hl 0 rfl) ?_
      refine lv_bipush (v := 8) hx hb dX7_forgetOldest_10 (by decide) ?_
      refine lv_icmp_ge (tgt := 35) hx hb dX7_forgetOldest_12 (by decide) (fun c9 => absurd c9 (nI_ge (b := 8) (by omega) (by decide))) (fun c9 => ?_)
      refine lv_aload_n hx hb dX7_forgetOldest_15 rfl (lv_at hl 2 rfl) ?_
      refine va_get (D := D) (ci := 7) (v := .ref as) (C := RX7) (T := TX7) (N := 9) hx hb hts iw7 hown hK hP 0 rfl rfl 5 (by decide) hf44 (fun _ h9 => h9) rfl dX7_forgetOldest_16 ?_
      refine lv_iload_n hx hb dX7_forgetOldest_19 rfl (lv_at hl 0 rfl) ?_
      refine lv_iconst (v := 1) hx hb dX7_forgetOldest_20 (by decide) ?_
      refine lv_isub hx hb dX7_forgetOldest_21 ?_
      rw [show nI k - 1 = nI (k - 1) by rw [show k = (k - 1) + 1 by omega]; exact nI_pred _]
      refine lv_aload_n hx hb dX7_forgetOldest_22 rfl (lv_at hl 2 rfl) ?_
      refine va_get (D := D) (ci := 7) (v := .ref as) (C := RX7) (T := TX7) (N := 9) hx hb hts iw7 hown hK hP 0 rfl rfl 5 (by decide) hf44 (fun _ h9 => h9) rfl dX7_forgetOldest_23 ?_
      refine lv_iload_n hx hb dX7_forgetOldest_26 rfl (lv_at hl 0 rfl) ?_
      refine my_aldq (v := adr k 0) hx hb hK hP 1 2 rfl rfl (vp_in_nI (by omega) (by decide)) (by rw [nI_clamp (by omega)]; simp only [fK]; rw [if_pos (by omega), if_neg (by omega)]) dX7_forgetOldest_27 ?_
      obtain ⟨q, vs, hq⟩ := svF_obj (t := t) (adr := adr) (sav := sav) (k := k) (by omega)
      refine my_astq (ci := 2) (r := (RX2, TX2, 8)) (g := fK adr (k + 1)) (wn := mnC a_t v0 v1 v2 v3 v4 as vc sc ea :: (as, .inl (t 2, 8, .inr (.inr (.inr (.inr (fK adr (k + 1))))))) :: svF t adr sav) hx hb hK hP hD hS 1 2 (q + 2) rfl rfl hq rfl (vp_in_nI (by omega) (by decide)) (by rw [nI_clamp (by omega)]; exact fK_s h1 (by omega)) rfl dX7_forgetOldest_28 (fun H locs hP hD hS => ?_)
      refine lv_iinc (v := nI (k + 1)) (lv' := [(2, .int (nI (k + 1))), (1, .ref (adr 0 0)), (0, .ref a_t)]) hx hb dX7_forgetOldest_29 hl (k := 0) rfl (nI_succ k).symm (by decide) rfl (fun ls hl => ?_)
      refine lv_goto (tgt := 9) hx hb dX7_forgetOldest_32 (by decide) ?_
      exact ih (k + 1) H locs ls (by omega) (by omega) hP hD hS hl
  exact hlp 7 1 H locs ls rfl (Nat.le_refl _) (by rw [← fK_1]; exact hP) (by rw [← fK_1]; exact hD) hS hl
def remA {α : Type} (sc : Int32) (f : Nat → α) : Nat → α := if sc < 8 then f else rotA f
def remC (sc : Int32) : Int32 := if sc < 8 then sc else 7
def f_X7_remember (sc : Int32) (adr : Nat → Nat → Nat) (sav : Nat → CS) (cur : CS) : Option (Int32 × (Nat → Nat → Nat) × (Nat → CS)) :=
  if oob (remC sc) 8 then none else bnd (f_bec (remA sc sav (remC sc).toNatClampNeg) cur) (fun r => some (remC sc + 1, remA sc adr, fun j => if j = (remC sc).toNatClampNeg then r else remA sc sav j))
abbrev rm_X7_remember : Room := { frames := 4, cells := 0, slots := 0, locals := 104 }
theorem hd_X7_remember : yX7_remember.cls = RX7 ∧ yX7_remember.cls ≠ "java/lang/invoke/MethodHandle" ∧ yX7_remember.cls ≠ "java/lang/invoke/VarHandle" ∧ (parseMethodDescriptor yX7_remember.desc).map (fun d => d.parameters.length) = some 0 := by decide +kernel
set_option maxRecDepth 100000 in
set_option maxHeartbeats 4000000 in
theorem c_X7_remember (l : Launch) (D : va_G) (t : Nat → ClassId) (z : Nat) (x : Nat → Nat) (a_t : Nat) (v0 v1 v2 v3 v4 : Value) (as : Nat) (sc ea : Int32) (adr : Nat → Nat → Nat) (sav : Nat → CS) (ca : Nat → Nat) (cur : CS) (sz : Nat) (sc' : Int32) (adr' : Nat → Nat → Nat) (sav' : Nat → CS) (hF : f_X7_remember sc adr sav cur = some (sc', adr', sav')) : WrM l D (TY t) z x yX7_remember wsX7_remember rm_X7_remember [.ref a_t] (mnC a_t v0 v1 v2 v3 v4 as (.ref (ca 0)) sc ea :: (colW t ca cur ++ SVT t as adr sav)) (mnC a_t v0 v1 v2 v3 v4 as (.ref (ca 0)) sc' ea :: (colW t ca cur ++ SVT t as adr' sav')) sz none 0 0 := by
  refine wr_of (cc := cX7_remember) (maxL := 1) (ret := none) (by decide) rfl (Nat.le_of_ble_eq_true rfl) ?_
  intro p e s m args below meth c A Q hQ hx hb hr hml hts hown hlocks hin H locs hP hD hS hA hz hC ls hl
  have hown : s.vm.findClass RX7 = some m.cls := hown
  have hK := hC.1

  have hl : lv_has ls 1 [(0, .ref a_t)] := hl
  have iw7 : ∀ w ∈ wsX70, w ∈ wsX7_remember := fun _ h => List.mem_cons_of_mem _ (List.mem_append_left _ (List.mem_append_left _ (List.mem_append_left _ (List.mem_append_left _ (List.mem_append_left _ (List.mem_append_right _ h))))))
  have hf44 := hts (.fieldLink RX7 44 "CrackedColumn" "saved" "[LCrackedColumn$Column;") (by decide +kernel)
  have hf51 := hts (.fieldLink RX7 51 "CrackedColumn" "savedCount" "I") (by decide +kernel)
  have hf48 := hts (.fieldLink RX7 48 "CrackedColumn" "column" "LCrackedColumn$Column;") (by decide +kernel)
  have key : ∀ (sc2 : Int32) (adr2 : Nat → Nat → Nat) (sav2 : Nat → CS) (H : Heap) (locs : List Loc), ¬ oob sc2 8 → (bnd (f_bec (sav2 sc2.toNatClampNeg) cur) (fun r => some (sc2 + 1, adr2, fun j => if j = sc2.toNatClampNeg then r else sav2 j)) = some (sc', adr', sav')) → va_P D vwCl (mnC a_t v0 v1 v2 v3 v4 as (.ref (ca 0)) sc2 ea :: (colW t ca cur ++ SVT t as (adr2) (sav2))) H → va_D A (mnC a_t v0 v1 v2 v3 v4 as (.ref (ca 0)) sc2 ea :: (colW t ca cur ++ SVT t as (adr2) (sav2))) → va_S A s.heap H locs → W p l e rm_X7_remember s m args below meth c H locs 0 0 Q (F0 m 13 ls []) := by
    intro sc2 adr2 sav2 H locs hin2 hF hP hD hS
    obtain ⟨r, hbec, hF⟩ := bndE hF
    have hk : sc2.toNatClampNeg < 8 := Nat.lt_of_not_le (fun h => hin2 (Or.inr h))
    have e1 : sc2 + 1 = sc' := congrArg Prod.fst (Option.some.inj hF)
    have e2 : (fun j => if j = sc2.toNatClampNeg then r else sav2 j) = sav' := congrArg (fun q => q.2.2) (Option.some.inj hF)
    have e3 : adr2 = adr' := congrArg (fun q => q.2.1) (Option.some.inj hF)
    have hk3 : sav' sc2.toNatClampNeg = r := by rw [← e2]; exact if_pos rfl
    have hne : ∀ i, i ≠ sc2.toNatClampNeg → sav2 i = sav' i := fun i hi => by rw [← e2]; exact (if_neg hi).symm
    subst e1
    refine lv_aload_n hx hb dX7_remember_13 rfl (lv_at hl 0 rfl) ?_
    refine va_get (D := D) (ci := 7) (v := .ref as) (C := RX7) (T := TX7) (N := 9) hx hb hts iw7 hown hK hP 0 rfl rfl 5 (by decide) hf44 (fun _ h9 => h9) rfl dX7_remember_14 ?_
    refine lv_aload_n hx hb dX7_remember_17 rfl (lv_at hl 0 rfl) ?_
    refine va_get (D := D) (ci := 7) (v := .int sc2) (C := RX7) (T := TX7) (N := 9) hx hb hts iw7 hown hK hP 0 rfl rfl 7 (by decide) hf51 (fun _ h9 => h9) rfl dX7_remember_18 ?_
    have hP' : va_P D vwCl ((as, .inl (t 2, 8, .inr (.inr (.inr (.inr (svA adr2)))))) :: (mnC a_t v0 v1 v2 v3 v4 as (.ref (ca 0)) sc2 ea :: (colW t ca cur ++ svF t adr2 sav2))) H := pP (List.Perm.trans ((List.perm_middle).cons _) (List.Perm.swap _ _ _)) hP
    refine my_aldq (v := adr2 sc2.toNatClampNeg 0) hx hb hK hP' 0 2 rfl rfl hin2 (if_pos hk) dX7_remember_21 ?_
    refine lv_aload_n hx hb dX7_remember_22 rfl (lv_at hl 0 rfl) ?_
    refine va_get (D := D) (ci := 7) (v := .ref (ca 0)) (C := RX7) (T := TX7) (N := 9) hx hb hts iw7 hown hK hP 0 rfl rfl 6 (by decide) hf48 (fun _ h9 => h9) rfl dX7_remember_23 ?_
    refine wrVF (As := [.ref (ca 0)]) (rest := []) (C := RX2) (rs := mnC a_t v0 v1 v2 v3 v4 as (.ref (ca 0)) sc2 ea :: (as, .inl (t 2, 8, .inr (.inr (.inr (.inr (svA adr2)))))) :: ((List.range 8).erase sc2.toNatClampNeg).flatMap (fun i => colW t (adr2 i) (sav2 i))) (wn := mnC a_t v0 v1 v2 v3 v4 as (.ref (ca 0)) sc2 ea :: (colW t ca cur ++ SVT t as (adr2) (sav'))) ⟨hx, hb, hml, hown, hts⟩ (c_bec l D t z x (adr2 sc2.toNatClampNeg) ca (sav2 sc2.toNatClampNeg) cur r H.size hbec) (cwV 1 hts gX7_remember_X2_become rfl rfl rfl hd_X2_become ⟨Nat.le_of_ble_eq_true rfl, Nat.le_of_ble_eq_true rfl⟩) (hC.at hz hS) hP hD hS hA hz ?_ ?_ 17 rfl (show vwCl[2]? = some (RX2, TX2, 8) from rfl) rfl rfl hl.1 rfl (Nat.le_of_ble_eq_true rfl) dX7_remember_26 ⟨Nat.zero_le _, Nat.zero_le _⟩ rfl (fun H locs hP hD hS => ?_)
    · have h : (svF t adr2 sav2).Perm (colW t (adr2 sc2.toNatClampNeg) (sav2 sc2.toNatClampNeg) ++ ((List.range 8).erase sc2.toNatClampNeg).flatMap (fun i => colW t (adr2 i) (sav2 i))) := flat_split (F := fun i => colW t (adr2 i) (sav2 i)) hk
      refine List.Perm.trans (List.Perm.cons _ (List.Perm.append_left _ (List.Perm.cons _ h))) ?_
      generalize colW t (adr2 sc2.toNatClampNeg) (sav2 sc2.toNatClampNeg) = X
      generalize colW t ca cur = Y
      refine List.Perm.trans (List.Perm.cons _ (List.Perm.append_left _ (List.perm_middle.symm))) ?_
      rw [← List.append_assoc]
      exact (List.perm_middle).symm
    · have h : (svF t adr2 sav').Perm (colW t (adr2 sc2.toNatClampNeg) (sav' sc2.toNatClampNeg) ++ ((List.range 8).erase sc2.toNatClampNeg).flatMap (fun i => colW t (adr2 i) (sav' i))) := flat_split (F := fun i => colW t (adr2 i) (sav' i)) hk
      rw [hk3] at h
      rw [flat_erase (F := fun i => colW t (adr2 i) (sav2 i)) (G := fun i => colW t (adr2 i) (sav' i)) hk (fun i hi => by rw [hne i hi])]
      refine List.Perm.symm (List.Perm.trans (List.Perm.cons _ (List.Perm.append_left _ (List.Perm.cons _ h))) ?_)
      generalize colW t (adr2 sc2.toNatClampNeg) r = X
      generalize colW t ca cur = Y
      refine List.Perm.trans (List.Perm.cons _ (List.Perm.append_left _ (List.perm_middle.symm))) ?_
      rw [← List.append_assoc]
      exact (List.perm_middle).symm
    refine lv_aload_n hx hb dX7_remember_29 rfl (lv_at hl 0 rfl) ?_
    refine lv_dup hx hb dX7_remember_30 rfl ?_
    refine va_get (D := D) (ci := 7) (v := .int sc2) (C := RX7) (T := TX7) (N := 9) hx hb hts iw7 hown hK hP 0 rfl rfl 7 (by decide) hf51 (fun _ h9 => h9) rfl dX7_remember_31 ?_
    refine lv_iconst (v := 1) hx hb dX7_remember_34 (by decide) ?_
    refine lv_iadd hx hb dX7_remember_35 ?_
    refine my_put (ty := .int) (v := .int (sc2 + 1)) (ci := 7) (C := RX7) (T := TX7) (N := 9) (wn := mnC a_t v0 v1 v2 v3 v4 as (.ref (ca 0)) (sc2 + 1) ea :: (colW t ca cur ++ SVT t as (adr2) (sav'))) hx hb hts iw7 tyX7 tyX7_ok nmX7 hown hK hP hD hS 0 rfl rfl 7 (by decide) hf51 (fun _ h9 => h9) rfl (by decide +kernel) rfl rfl (Nat.le_of_ble_eq_true rfl) rfl dX7_remember_36 (fun H locs hP hD hS => ?_)
    subst e3
    exact wr_vretP hx hb hr hlocks dX7_remember_39 rfl hQ hP hD hS (List.Perm.refl _)
  unfold f_X7_remember at hF
  obtain ⟨hin8, hF⟩ := gd hF
  refine lv_aload_n hx hb dX7_remember_0 rfl (lv_at hl 0 rfl) ?_
  refine va_get (D := D) (ci := 7) (v := .int sc) (C := RX7) (T := TX7) (N := 9) hx hb hts iw7 hown hK hP 0 rfl rfl 7 (by decide) hf51 (fun _ h9 => h9) rfl dX7_remember_1 ?_
  refine lv_bipush (v := 8) hx hb dX7_remember_4 (by decide) ?_
  refine lv_icmp_lt (tgt := 13) hx hb dX7_remember_6 (by decide) (fun c6 => ?_) (fun c6 => ?_)
  · have e1 : remC sc = sc := if_pos c6
    have e2 : remA sc sav = sav := if_pos c6
    have e3 : remA sc adr = adr := if_pos c6
    rw [e1, e2, e3] at hF
    rw [e1] at hin8
    exact key sc adr sav H locs hin8 hF hP hD hS
  · have e1 : remC sc = 7 := if_neg c6
    have e2 : remA sc sav = rotA sav := if_neg c6
    have e3 : remA sc adr = rotA adr := if_neg c6
    rw [e1, e2, e3] at hF
    rw [e1] at hin8
    refine lv_aload_n hx hb dX7_remember_9 rfl (lv_at hl 0 rfl) ?_
    refine wrVF (As := []) (rest := []) (C := RX7) (rs := colW t ca cur) (wn := mnC a_t v0 v1 v2 v3 v4 as (.ref (ca 0)) 7 ea :: (colW t ca cur ++ SVT t as (rotA adr) (rotA sav))) ⟨hx, hb, hml, hown, hts⟩ (c_X7_forgetOldest l D t z x a_t v0 v1 v2 v3 v4 as (.ref (ca 0)) sc ea adr sav H.size) (cwV 0 hts gX7_remember_X7_forgetOldest rfl rfl rfl hd_X7_forgetOldest ⟨Nat.le_of_ble_eq_true rfl, Nat.le_of_ble_eq_true rfl⟩) (hC.at hz hS) hP hD hS hA hz (List.Perm.cons _ List.perm_append_comm) (List.Perm.cons _ List.perm_append_comm) 0 rfl (show vwCl[7]? = some (RX7, TX7, 9) from rfl) rfl rfl hl.1 rfl (Nat.le_of_ble_eq_true rfl) dX7_remember_10 ⟨Nat.zero_le _, Nat.zero_le _⟩ rfl (fun H locs hP hD hS => ?_)
    exact key 7 (rotA adr) (rotA sav) H locs hin8 hF hP hD hS
def updN {α : Type} (f : Nat → α) (k : Nat) (v : α) : Nat → α := fun j => if j = k then v else f j
def f_X7_undo (sc : Int32) (adr : Nat → Nat → Nat) (sav : Nat → CS) (ca : Nat → Nat) (cur : CS) : Option (String ⊕ (Int32 × Int32 × (Nat → Nat → Nat) × (Nat → CS) × (Nat → Nat) × CS)) :=
  if sc ≤ 0 then some (.inl "java/lang/IllegalStateException") else if sc ≤ 8 then (if oob (sc - 1) 8 then none else some (.inr (sc - 1, sc - 1, updN adr (sc - 1).toNatClampNeg ca, updN sav (sc - 1).toNatClampNeg cur, adr (sc - 1).toNatClampNeg, sav (sc - 1).toNatClampNeg))) else some (.inl "java/lang/IllegalStateException")
abbrev rm_X7_undo : Room := { frames := 0, cells := 0, slots := 0, locals := 0 }
theorem hd_X7_undo : yX7_undo.cls = RX7 ∧ yX7_undo.cls ≠ "java/lang/invoke/MethodHandle" ∧ yX7_undo.cls ≠ "java/lang/invoke/VarHandle" ∧ (parseMethodDescriptor yX7_undo.desc).map (fun d => d.parameters.length) = some 0 := by decide +kernel
set_option maxRecDepth 100000 in
set_option maxHeartbeats 4000000 in
theorem c_X7_undo (l : Launch) (D : va_G) (t : Nat → ClassId) (z : Nat) (x : Nat → Nat) (a_t : Nat) (v0 v1 v2 v3 v4 : Value) (as : Nat) (sc ea : Int32) (adr : Nat → Nat → Nat) (sav : Nat → CS) (ca : Nat → Nat) (cur : CS) (sz : Nat) (r sc' : Int32) (adr' : Nat → Nat → Nat) (sav' : Nat → CS) (ca' : Nat → Nat) (cur' : CS) (hF : f_X7_undo sc adr sav ca cur = some (.inr (r, sc', adr', sav', ca', cur'))) : WrM l D (TY t) z x yX7_undo wsX7_undo rm_X7_undo [.ref a_t] (mnC a_t v0 v1 v2 v3 v4 as (.ref (ca 0)) sc ea :: (colW t ca cur ++ SVT t as adr sav)) (mnC a_t v0 v1 v2 v3 v4 as (.ref (ca' 0)) sc' ea :: (colW t ca' cur' ++ SVT t as adr' sav')) sz (some (.int r)) 0 0 := by
  refine wr_of (cc := cX7_undo) (maxL := 2) (ret := (some .int)) (by decide) rfl (Nat.le_of_ble_eq_true rfl) ?_
  intro p e s m args below meth c A Q hQ hx hb hr hml hts hown hlocks hin H locs hP hD hS hA hz hC ls hl
  have hown : s.vm.findClass RX7 = some m.cls := hown
  have hK := hC.1

  have hl : lv_has ls 2 [(0, .ref a_t)] := hl
  have iw7 : ∀ w ∈ wsX70, w ∈ wsX7_undo := fun _ h => List.mem_cons_of_mem _ (List.mem_append_left _ (List.mem_append_right _ h))
  have hf44 := hts (.fieldLink RX7 44 "CrackedColumn" "saved" "[LCrackedColumn$Column;") (by decide +kernel)
  have hf51 := hts (.fieldLink RX7 51 "CrackedColumn" "savedCount" "I") (by decide +kernel)
  have hf48 := hts (.fieldLink RX7 48 "CrackedColumn" "column" "LCrackedColumn$Column;") (by decide +kernel)
  unfold f_X7_undo at hF
  refine lv_aload_n hx hb dX7_undo_0 rfl (lv_at hl 0 rfl) ?_
  refine va_get (D := D) (ci := 7) (v := .int sc) (C := RX7) (T := TX7) (N := 9) hx hb hts iw7 hown hK hP 0 rfl rfl 7 (by decide) hf51 (fun _ h9 => h9) rfl dX7_undo_1 ?_
  refine lv_if_le (tgt := 16) hx hb dX7_undo_4 (by decide) (fun c4 => by rw [if_pos c4] at hF; cases hF) (fun c4 => ?_)
  rw [if_neg c4] at hF
  refine lv_aload_n hx hb dX7_undo_7 rfl (lv_at hl 0 rfl) ?_
  refine va_get (D := D) (ci := 7) (v := .int sc) (C := RX7) (T := TX7) (N := 9) hx hb hts iw7 hown hK hP 0 rfl rfl 7 (by decide) hf51 (fun _ h9 => h9) rfl dX7_undo_8 ?_
  refine lv_bipush (v := 8) hx hb dX7_undo_11 (by decide) ?_
  refine lv_icmp_le (tgt := 24) hx hb dX7_undo_13 (by decide) (fun c13 => ?_) (fun c13 => by rw [if_neg c13] at hF; cases hF)
  rw [if_pos c13] at hF
  obtain ⟨hin8, hF⟩ := gd hF
  have hF1 := Sum.inr.inj (Option.some.inj hF)
  have e1 : sc - 1 = r := congrArg Prod.fst hF1
  have e2 : sc - 1 = sc' := congrArg (fun q => q.2.1) hF1
  have e3 : updN adr (sc - 1).toNatClampNeg ca = adr' := congrArg (fun q => q.2.2.1) hF1
  have e4 : updN sav (sc - 1).toNatClampNeg cur = sav' := congrArg (fun q => q.2.2.2.1) hF1
  have e5 : adr (sc - 1).toNatClampNeg = ca' := congrArg (fun q => q.2.2.2.2.1) hF1
  have e6 : sav (sc - 1).toNatClampNeg = cur' := congrArg (fun q => q.2.2.2.2.2) hF1
  subst e1
  clear hF hF1
  obtain ⟨k, hk8, hk⟩ := vp_in_of hin8 (by decide)
  rw [hk] at e2 e3 e4 e5 e6 hin8 hQ
  rw [nI_clamp (by omega)] at e3 e4 e5 e6
  refine lv_aload_n hx hb dX7_undo_24 rfl (lv_at hl 0 rfl) ?_
  refine lv_dup hx hb dX7_undo_25 rfl ?_
  refine va_get (D := D) (ci := 7) (v := .int sc) (C := RX7) (T := TX7) (N := 9) hx hb hts iw7 hown hK hP 0 rfl rfl 7 (by decide) hf51 (fun _ h9 => h9) rfl dX7_undo_26 ?_
  refine lv_iconst (v := 1) hx hb dX7_undo_29 (by decide) ?_
  refine lv_isub hx hb dX7_undo_30 ?_
  rw [hk]
  refine my_put (ty := .int) (v := .int (nI k)) (ci := 7) (C := RX7) (T := TX7) (N := 9) (wn := mnC a_t v0 v1 v2 v3 v4 as (.ref (ca 0)) (nI k) ea :: (colW t ca cur ++ SVT t as (adr) (sav))) hx hb hts iw7 tyX7 tyX7_ok nmX7 hown hK hP hD hS 0 rfl rfl 7 (by decide) hf51 (fun _ h9 => h9) rfl (by decide +kernel) rfl rfl (Nat.le_of_ble_eq_true rfl) rfl dX7_undo_31 (fun H locs hP hD hS => ?_)
  refine lv_aload_n hx hb dX7_undo_34 rfl (lv_at hl 0 rfl) ?_
  refine va_get (D := D) (ci := 7) (v := .ref as) (C := RX7) (T := TX7) (N := 9) hx hb hts iw7 hown hK hP 0 rfl rfl 5 (by decide) hf44 (fun _ h9 => h9) rfl dX7_undo_35 ?_
  refine lv_aload_n hx hb dX7_undo_38 rfl (lv_at hl 0 rfl) ?_
  refine va_get (D := D) (ci := 7) (v := .int (nI k)) (C := RX7) (T := TX7) (N := 9) hx hb hts iw7 hown hK hP 0 rfl rfl 7 (by decide) hf51 (fun _ h9 => h9) rfl dX7_undo_39 ?_
  refine my_aldq (v := adr k 0) hx hb hK hP 18 2 rfl rfl hin8 (by rw [nI_clamp (by omega)]; exact if_pos hk8) dX7_undo_42 ?_
  refine lv_astore_n (lv' := [(1, .ref (adr k 0)), (0, .ref a_t)]) hx hb dX7_undo_43 rfl hl (by decide) rfl (fun ls hl => ?_)
  refine lv_aload_n hx hb dX7_undo_44 rfl (lv_at hl 1 rfl) ?_
  refine va_get (D := D) (ci := 7) (v := .ref as) (C := RX7) (T := TX7) (N := 9) hx hb hts iw7 hown hK hP 0 rfl rfl 5 (by decide) hf44 (fun _ h9 => h9) rfl dX7_undo_45 ?_
  refine lv_aload_n hx hb dX7_undo_48 rfl (lv_at hl 1 rfl) ?_
  refine va_get (D := D) (ci := 7) (v := .int (nI k)) (C := RX7) (T := TX7) (N := 9) hx hb hts iw7 hown hK hP 0 rfl rfl 7 (by decide) hf51 (fun _ h9 => h9) rfl dX7_undo_49 ?_
  refine lv_aload_n hx hb dX7_undo_52 rfl (lv_at hl 1 rfl) ?_
  refine va_get (D := D) (ci := 7) (v := .ref (ca 0)) (C := RX7) (T := TX7) (N := 9) hx hb hts iw7 hown hK hP 0 rfl rfl 6 (by decide) hf48 (fun _ h9 => h9) rfl dX7_undo_53 ?_
  have hup : va_up (svA adr) (nI k).toNatClampNeg (some (ca 0)) = svA adr' := by
    rw [nI_clamp (by omega), ← e3]
    funext j
    simp only [va_up, fS, updN]
    by_cases h : j = k
    · rw [if_pos h, if_pos (by omega), if_pos h]
    · rw [if_neg h, if_neg h]
  refine my_astq (ci := 2) (r := (RX2, TX2, 8)) (g := svA adr') (wn := mnC a_t v0 v1 v2 v3 v4 as (.ref (ca 0)) (nI k) ea :: (colW t ca cur ++ ((as, .inl (t 2, 8, .inr (.inr (.inr (.inr (svA adr')))))) :: svF t adr sav))) hx hb hK hP hD hS 18 2 1 rfl rfl rfl rfl hin8 hup rfl dX7_undo_56 (fun H locs hP hD hS => ?_)
  refine lv_aload_n hx hb dX7_undo_57 rfl (lv_at hl 1 rfl) ?_
  refine lv_aload_n hx hb dX7_undo_58 rfl (lv_at hl 0 rfl) ?_
  refine my_put (ty := tyX7 6) (v := .ref (adr k 0)) (ci := 7) (C := RX7) (T := TX7) (N := 9) (wn := mnC a_t v0 v1 v2 v3 v4 as (.ref (adr k 0)) (nI k) ea :: (colW t ca cur ++ ((as, .inl (t 2, 8, .inr (.inr (.inr (.inr (svA adr')))))) :: svF t adr sav))) hx hb hts iw7 tyX7 tyX7_ok nmX7 hown hK hP hD hS 0 rfl rfl 6 (by decide) hf48 (fun _ h9 => h9) rfl (by decide +kernel) rfl rfl (Nat.le_of_ble_eq_true rfl) rfl dX7_undo_59 (fun H locs hP hD hS => ?_)
  refine lv_aload_n hx hb dX7_undo_62 rfl (lv_at hl 1 rfl) ?_
  refine va_get (D := D) (ci := 7) (v := .int (nI k)) (C := RX7) (T := TX7) (N := 9) hx hb hts iw7 hown hK hP 0 rfl rfl 7 (by decide) hf51 (fun _ h9 => h9) rfl dX7_undo_63 ?_
  refine wr_iretP hx hb hr hlocks dX7_undo_66 rfl hQ hP hD hS ?_
  rw [← e2, ← e5, ← e6]
  have h1 : (svF t adr sav).Perm (colW t (adr k) (sav k) ++ ((List.range 8).erase k).flatMap (fun i => colW t (adr i) (sav i))) := flat_split (F := fun i => colW t (adr i) (sav i)) hk8
  have h2 : (svF t adr' sav').Perm (colW t (adr' k) (sav' k) ++ ((List.range 8).erase k).flatMap (fun i => colW t (adr' i) (sav' i))) := flat_split (F := fun i => colW t (adr' i) (sav' i)) hk8
  have e7 : adr' k = ca := by rw [← e3]; exact if_pos rfl
  have e8 : sav' k = cur := by rw [← e4]; exact if_pos rfl
  have e9 : ∀ i, i ≠ k → adr' i = adr i := fun i hi => by rw [← e3]; exact if_neg hi
  have e10 : ∀ i, i ≠ k → sav' i = sav i := fun i hi => by rw [← e4]; exact if_neg hi
  rw [e7, e8, flat_erase (F := fun i => colW t (adr' i) (sav' i)) (G := fun i => colW t (adr i) (sav i)) hk8 (fun i hi => by rw [e9 i hi, e10 i hi])] at h2
  refine List.Perm.cons _ ?_
  show (colW t ca cur ++ ((as, _) :: svF t adr sav)).Perm (colW t (adr k) (sav k) ++ ((as, _) :: svF t adr' sav'))
  generalize colW t ca cur = X at h2 ⊢
  generalize colW t (adr k) (sav k) = Y at h1 ⊢
  generalize ((List.range 8).erase k).flatMap (fun i => colW t (adr i) (sav i)) = E at h1 h2
  refine List.Perm.trans List.perm_middle (List.Perm.trans (List.Perm.cons _ ?_) List.perm_middle.symm)
  refine List.Perm.trans (List.Perm.append_left _ h1) (List.Perm.trans ?_ (List.Perm.append_left _ h2.symm))
  rw [← List.append_assoc, ← List.append_assoc]
  exact List.Perm.append_right _ List.perm_append_comm
abbrev rmT_X7_undo : Room := { frames := 6, cells := 1, slots := 6, locals := 90 }
set_option maxRecDepth 100000 in
set_option maxHeartbeats 4000000 in
theorem ct_X7_undo (l : Launch) (hfl : l.stackTraces = false) (D : va_G) (t : Nat → ClassId) (z : Nat) (x : Nat → Nat) (a_t : Nat) (v0 v1 v2 v3 v4 : Value) (as : Nat) (sc ea : Int32) (adr : Nat → Nat → Nat) (sav : Nat → CS) (ca : Nat → Nat) (cur : CS) (H : Heap) (E : String) (hF : f_X7_undo sc adr sav ca cur = some (.inl E)) : ThM l D (TY t) z x yX7_undo wsX7_undo rmT_X7_undo [.ref a_t] [mnC a_t v0 v1 v2 v3 v4 as (.ref (ca 0)) sc ea] H E := by
  refine th_of (cc := cX7_undo) (maxL := 2) (ret := (some .int)) (by decide) rfl (Nat.le_of_ble_eq_true rfl) ?_
  intro p e s m args below meth c Q hQ hx hb hr hml hts hown hlocks hH htab hP hC ls hl
  have hown : s.vm.findClass RX7 = some m.cls := hown
  have hl : lv_has ls 2 [(0, .ref a_t)] := hl
  have hK := hC.1
  have hSr : va_S (fun q => z ≤ q) s.heap H [] := by rw [hH]; exact va_S.rf
  have hCs : CXT D (TY t) z x s s.heap := by rw [hH]; exact hC
  have iw7 : ∀ w ∈ wsX70, w ∈ wsX7_undo := fun _ h => List.mem_cons_of_mem _ (List.mem_append_left _ (List.mem_append_right _ h))
  have hf51 := hts (.fieldLink RX7 51 "CrackedColumn" "savedCount" "I") (by decide +kernel)
  unfold f_X7_undo at hF
  have K : E = "java/lang/IllegalStateException" → W p l e rmT_X7_undo s m args below meth c H [] 0 0 Q (F0 m 16 ls []) := by
    intro hE
    subst hE
    have hk_61 := hts (.classLink RX7 61 "java/lang/IllegalStateException") (by decide +kernel)
    have hi_63 := hts (.initialized "java/lang/IllegalStateException") (by decide +kernel)
    have hat_63 : ∀ w ∈ vx_at0 RX7 63 "java/lang/IllegalStateException" ["java/lang/RuntimeException", "java/lang/Exception"], w.before args s = true := vx_hat (B := [.castable "java/lang/IllegalStateException" "java/lang/IllegalStateException", .declares (Bundle.init0 "java/lang/RuntimeException"), .declares (Bundle.init0 "java/lang/Exception"), .declares (Bundle.init0 "java/lang/Throwable")]) (fun w h => hts w (List.mem_cons_of_mem _ (List.mem_append_right _ h))) (by decide +kernel) (vx_c (va_Nw.use rfl (hC.2.1.2.1 _ (List.mem_of_getElem? (i := 0) rfl))) (vx_c (va_Nw.use rfl (hC.2.1.2.2 _ (List.mem_of_getElem? (i := 0) rfl))) (vx_c (va_Nw.use rfl (hC.2.1.2.2 _ (List.mem_of_getElem? (i := 1) rfl))) (vx_c (va_Nw.use rfl (hC.2.1.2.2 _ (List.mem_of_getElem? (i := 2) rfl))) vx_n))))
    exact th_throw hx hb hfl hown hk_61 hi_63 hat_63 hSr hCs (hl.1.trans hml.symm) dX7_undo_16 dX7_undo_19 dX7_undo_20 dX7_undo_23 htab (Nat.le_of_ble_eq_true rfl) (Nat.le_of_ble_eq_true rfl) ⟨Nat.le_of_ble_eq_true rfl, Nat.le_of_ble_eq_true rfl⟩ hlocks hQ (by decide +kernel) (by decide +kernel) (by decide +kernel)
  refine lv_aload_n hx hb dX7_undo_0 rfl (lv_at hl 0 rfl) ?_
  refine va_get (D := D) (ci := 7) (v := .int sc) (C := RX7) (T := TX7) (N := 9) hx hb hts iw7 hown hK hP 0 rfl rfl 7 (by decide) hf51 (fun _ h9 => h9) rfl dX7_undo_1 ?_
  refine lv_if_le (tgt := 16) hx hb dX7_undo_4 (by decide) (fun c4 => by rw [if_pos c4] at hF; exact K (Sum.inl.inj (Option.some.inj hF)).symm) (fun c4 => ?_)
  rw [if_neg c4] at hF
  refine lv_aload_n hx hb dX7_undo_7 rfl (lv_at hl 0 rfl) ?_
  refine va_get (D := D) (ci := 7) (v := .int sc) (C := RX7) (T := TX7) (N := 9) hx hb hts iw7 hown hK hP 0 rfl rfl 7 (by decide) hf51 (fun _ h9 => h9) rfl dX7_undo_8 ?_
  refine lv_bipush (v := 8) hx hb dX7_undo_11 (by decide) ?_
  refine lv_icmp_le (tgt := 24) hx hb dX7_undo_13 (by decide) (fun c13 => ?_) (fun c13 => by rw [if_neg c13] at hF; exact K (Sum.inl.inj (Option.some.inj hF)).symm)
  rw [if_pos c13] at hF
  obtain ⟨hin8, hF⟩ := gd hF
  cases hF
