section STA
variable {p : Program} {e : Env} {s : State} {m : MethodId} {below : List Frame} {meth : Method} {c : Code} {l : Launch} {b L : Nat} {xs : Nat → Int32} {D : va_G} {t : Nat → ClassId} {z : Nat} {x : Nat → Nat} {Q : State → Prop}
/-- the first states of class and reference -/
theorem first_all : ∃ (T : CS) (c0 : CS) (a fr : Nat → Int32), f_X7_init 20000 = some (0, -1, 0, zf, 0, 0, 0, -1, 0, zf, 0, zf, T.1, T.2.1, T.2.2.2.2.2.2.2.2.2.2.2.2.2.2.2.1, T.2.2.2.2.2.2.2.2.2.2.2.2.2.2.2.2.1, T.2.2.2.2.2.2.2.2.2.2.2.2.2.2.2.2.2.2, T.2.2.2.2.2.2.2.2.2.2.2.2.2.2.2.2.2.1, T.2.2.2.2.1, T.2.2.2.2.2.1, T.2.2.2.2.2.2.2.1, T.2.2.2.2.2.2.1, T.2.2.2.2.2.2.2.2.2.2.1, T.2.2.2.2.2.2.2.2.1, T.2.2.2.2.2.2.2.2.2.1, T.2.2.1, T.2.2.2.1, T.2.2.2.2.2.2.2.2.2.2.2.1, T.2.2.2.2.2.2.2.2.2.2.2.2.1, T.2.2.2.2.2.2.2.2.2.2.2.2.2.2.1, T.2.2.2.2.2.2.2.2.2.2.2.2.2.1, T.1, T.2.1, T.2.2.2.2.2.2.2.2.2.2.2.2.2.2.2.1, T.2.2.2.2.2.2.2.2.2.2.2.2.2.2.2.2.1, T.2.2.2.2.2.2.2.2.2.2.2.2.2.2.2.2.2.2, T.2.2.2.2.2.2.2.2.2.2.2.2.2.2.2.2.2.1, T.2.2.2.2.1, T.2.2.2.2.2.1, T.2.2.2.2.2.2.2.1, T.2.2.2.2.2.2.1, T.2.2.2.2.2.2.2.2.2.2.1, T.2.2.2.2.2.2.2.2.1, T.2.2.2.2.2.2.2.2.2.1, T.2.2.1, T.2.2.2.1, T.2.2.2.2.2.2.2.2.2.2.2.1, T.2.2.2.2.2.2.2.2.2.2.2.2.1, T.2.2.2.2.2.2.2.2.2.2.2.2.2.2.1, T.2.2.2.2.2.2.2.2.2.2.2.2.2.1) ∧ f_init0 20000 = some c0 ∧ f_X8_init 20000 = some (0, 0, 0, 0, 0, 0, 0, 0, 0, 0, -1, 0, 0, a, fr, zf, zf, zf, zf, zf) ∧ CR 0 T a := by
  obtain ⟨nu', bo', he', so', st', se', e1, e2⟩ := c_init2 (N := 20000) (by omega)
  obtain ⟨a, fr, e3, e4⟩ := r_init (N := 20000) (by omega)
  refine ⟨(0, 0, 0, nu', 0, 1, bo', zf, he', so', st', 0, zf, zf, se', 0, zf, zf, zf), (0, 0, 0, nu', 0, 1, bo', zf, he', so', st', 0, zf, zf, se', 0, zf, zf, zf), a, fr, ?_, ?_, e3, e2 a e4⟩
  · unfold f_X7_init
    rw [e1]
    rfl
  · unfold f_init0
    rw [e1]
    rfl
set_option maxRecDepth 100000 in
set_option maxHeartbeats 4000000 in
/-- from the entry to the loop -/
theorem start_walk (hfl : l.stackTraces = false) (C0 : LCx p s m c D t s.heap.size x b L xs) (hts0 : ∀ w ∈ lw_tbl, w.before #[Value.ref b] s = true) (hL : L ≤ 3072) (hend : ∀ (H : Heap) (locs : List Loc) (ls : Array Slot) (cells slots : Nat), cells ≤ 601024 → slots ≤ 7293034 → va_S (lA s) s.heap H locs → W p l e room_1 s m #[.ref b] below meth c H locs cells slots Q (F0 m 1860 ls [])) (ls : Array Slot) (hl : lv_has ls 8 [(0, .ref b)]) : W p l e room_1 s m #[.ref b] below meth c s.heap [] 0 0 Q (F0 m 0 ls []) := by
  obtain ⟨⟨hx, hb, hml, hown, hts⟩, hX, hbl, hzz, hC⟩ := id C0
  obtain ⟨T, c0, a0, fr, E1, E2, E3, E4⟩ := first_all
  have hA : ∀ q : Nat, s.heap.size ≤ q → lA s q := fun _ h => h
  have hz : ∀ q : Nat, lA s q → s.heap.size ≤ q := fun _ h => h
  have hK := hC.1
  have hS : va_S (lA s) s.heap s.heap [] := va_S.rf
  have hP : va_P D vwCl [] s.heap := fun k q h => by simp at h
  have hD : va_D (lA s) [] := ⟨fun i j p q h => by simp at h, fun k q h => by simp at h⟩
  refine va_new (ci := 7) (fs := [.null, .null, .null, .null, .null, .null, .null, .int 0, .int 0]) (C := RX7) (T := TX7) (N := 9) hx hb hts0 inX7 tyX7 tyX7_ok hown (hts0 (.classLink RL 8 RX7) (by decide +kernel)) (hts0 (.instantiable RX7 9) (by decide +kernel)) (hts0 (.initialized RX7) (by decide +kernel)) hK hP hD hS hA rfl (fun j hj => by rcases (show j = 0 ∨ j = 1 ∨ j = 2 ∨ j = 3 ∨ j = 4 ∨ j = 5 ∨ j = 6 ∨ j = 7 ∨ j = 8 by omega) with rfl | rfl | rfl | rfl | rfl | rfl | rfl | rfl | rfl <;> rfl) (Nat.le_of_ble_eq_true rfl) (Nat.le_of_ble_eq_true rfl) dL_law_0 (fun a H hP hD hS => ?_)
  refine lv_dup hx hb dL_law_3 rfl ?_
  refine crIF (As := []) (rest := [.ref a]) (rs := []) ⟨hx, hb, hml, hown, hts⟩ (c_X7_init l D t s.heap.size x 20000 a H.size _ _ _ _ _ _ _ _ _ _ _ _ _ _ _ _ _ _ _ _ _ _ _ _ _ _ _ _ _ _ _ _ _ _ _ _ _ _ _ _ _ _ _ _ _ _ _ _ _ _ E1 c0 E2) (cwI 0 hts gL_law_X7_init rfl rfl rfl (hts0 (.initialized RX7) (by decide +kernel)) (hts0 (.methodLink RL 101 yX7_init) (by decide +kernel)) (hts0 (.instanceMethod yX7_init) (by decide +kernel)) rfl hd_X7_init.2 ⟨Nat.le_of_ble_eq_true rfl, Nat.le_of_ble_eq_true rfl⟩) (hC.at hz hS) hP hD hS hA hz (List.Perm.refl _) rfl hl.1 rfl (Nat.le_of_ble_eq_true rfl) dL_law_4 ⟨Nat.le_of_ble_eq_true rfl, Nat.le_of_ble_eq_true rfl⟩ (fun q H locs hP hD hS => ?_)
  rw [List.append_nil] at hP hD
  refine lv_astore_n (lv' := [(1, .ref a), (0, .ref b)]) hx hb dL_law_7 rfl hl (by decide) rfl (fun ls hl => ?_)
  refine va_new (ci := 8) (fs := [.null, .null, .null, .null, .int 0, .int 0, .null, .int 0, .int 0, .int 0, .int 0, .int 0, .int 0, .int 0, .int 0, .int 0, .null, .int 0, .null, .int 0]) (C := RX8) (T := TX8) (N := 20) hx hb hts0 inX8 tyX8 tyX8_ok hown (hts0 (.classLink RL 102 RX8) (by decide +kernel)) (hts0 (.instantiable RX8 20) (by decide +kernel)) (hts0 (.initialized RX8) (by decide +kernel)) hK hP hD hS hA rfl (fun j hj => by rcases (show j = 0 ∨ j = 1 ∨ j = 2 ∨ j = 3 ∨ j = 4 ∨ j = 5 ∨ j = 6 ∨ j = 7 ∨ j = 8 ∨ j = 9 ∨ j = 10 ∨ j = 11 ∨ j = 12 ∨ j = 13 ∨ j = 14 ∨ j = 15 ∨ j = 16 ∨ j = 17 ∨ j = 18 ∨ j = 19 by omega) with rfl | rfl | rfl | rfl | rfl | rfl | rfl | rfl | rfl | rfl | rfl | rfl | rfl | rfl | rfl | rfl | rfl | rfl | rfl | rfl <;> rfl) (Nat.le_of_ble_eq_true rfl) (Nat.le_of_ble_eq_true rfl) dL_law_8 (fun k H hP hD hS => ?_)
  refine lv_dup hx hb dL_law_11 rfl ?_
  refine crIF (As := []) (rest := [.ref k]) ⟨hx, hb, hml, hown, hts⟩ (c_X8_init l D t s.heap.size x 20000 k H.size _ _ _ _ _ _ _ _ _ _ _ _ _ _ _ _ _ _ _ _ E3) (cwI 0 hts gL_law_X8_init rfl rfl rfl (hts0 (.initialized RX8) (by decide +kernel)) (hts0 (.methodLink RL 104 yX8_init) (by decide +kernel)) (hts0 (.instanceMethod yX8_init) (by decide +kernel)) rfl hd_X8_init.2 ⟨Nat.le_of_ble_eq_true rfl, Nat.le_of_ble_eq_true rfl⟩) (hC.at hz hS) hP hD hS hA hz List.perm_append_comm rfl hl.1 rfl (Nat.le_of_ble_eq_true rfl) dL_law_12 ⟨Nat.le_of_ble_eq_true rfl, Nat.le_of_ble_eq_true rfl⟩ (fun r H locs hP hD hS => ?_)
  refine lv_astore_n (lv' := [(2, .ref k), (1, .ref a), (0, .ref b)]) hx hb dL_law_15 rfl hl (by decide) rfl (fun ls hl => ?_)
  refine lv_iconst (v := 1) hx hb dL_law_16 (by decide) ?_
  refine my_newa (atype := .long) (ty := .long) (t0 := 3) (N' := 1) (a0 := (1, .inr (.inl (fun _ => 0)))) hx hb (hts0 (.arrayClass .long) (by decide +kernel)) rfl hK rfl hP hD hS hA (fun _ => rfl) (by decide) (by decide +kernel) (Nat.le_of_ble_eq_true rfl) (Nat.le_of_ble_eq_true rfl) (Nat.le_of_ble_eq_true rfl) (fun _ => rfl) dL_law_17 (fun o H hP hD hS => ?_)
  refine lv_astore_n (lv' := [(3, .ref o), (2, .ref k), (1, .ref a), (0, .ref b)]) hx hb dL_law_19 rfl hl (by decide) rfl (fun ls hl => ?_)
  refine lv_iconst (v := 1) hx hb dL_law_20 (by decide) ?_
  refine my_newa (atype := .double) (ty := .double) (t0 := 4) (N' := 1) (a0 := (1, .inr (.inr (.inr (.inl (fun _ => 0)))))) hx hb (hts0 (.arrayClass .double) (by decide +kernel)) rfl hK rfl hP hD hS hA (fun _ => rfl) (by decide) (by decide +kernel) (Nat.le_of_ble_eq_true rfl) (Nat.le_of_ble_eq_true rfl) (Nat.le_of_ble_eq_true rfl) (fun _ => rfl) dL_law_21 (fun d H hP hD hS => ?_)
  refine lv_astore (lv' := [(4, .ref d), (3, .ref o), (2, .ref k), (1, .ref a), (0, .ref b)]) hx hb dL_law_23 hl (by decide) rfl (fun ls hl => ?_)
  refine lv_iconst (v := 0) hx hb dL_law_25 (by decide) ?_
  refine lv_istore (lv' := [(5, .int 0), (4, .ref d), (3, .ref o), (2, .ref k), (1, .ref a), (0, .ref b)]) hx hb dL_law_26 hl (by decide) rfl (fun ls hl => ?_)
  have hP := pP (pm_all (α := Nat × va_E) _ _ _ _ _ _ _ _ _ _ _ _ _ _ _ _ _ _ _ _ _ _ _ _ _ _ _ _ _ _ _ _ _ _ _ _ _ _ _ _ _ _ _ _ _ _ _ _ _ _ _ _ _) hP
  have hD := pD (pm_all (α := Nat × va_E) _ _ _ _ _ _ _ _ _ _ _ _ _ _ _ _ _ _ _ _ _ _ _ _ _ _ _ _ _ _ _ _ _ _ _ _ _ _ _ _ _ _ _ _ _ _ _ _ _ _ _ _ _) hD
  have hl : lv_has ls 8 [(0, .ref b), (1, .ref a), (2, .ref k), (3, .ref o), (4, .ref d), (5, .int (nI 0))] := lv_sub hl [5, 4, 3, 2, 1, 0] rfl
  exact lp_loop (g := fun j => ([a, q.1 0, q.1 1, q.1 2, q.1 5, q.1 6, q.1 3, q.1 4, q.1 24, a, o, d, k, r 0, r 2, r 4, r 1, r 3, r 5, r 6] : List Nat).getD j 0) (ta := fun j => q.1 (7 + ([0, 11, 12, 5, 7, 6, 9, 10, 8, 13, 14, 16, 15, 1, 2, 4, 3] : List Nat).getD j 0)) hfl C0 hL hend 512 0 0 _ _ (fun j => q.1 (25 + ([0, 11, 12, 5, 7, 6, 9, 10, 8, 13, 14, 16, 15, 1, 2, 4, 3] : List Nat).getD j 0)) T T q.2 (fun _ => c0) 0 (-1) 0 zf 0 0 0 (-1) 0 zf 0 zf 0 0 0 0 0 0 0 0 0 0 (-1) 0 0 a0 fr zf zf zf zf zf (fun _ => 0) (fun _ => 0) H locs ls (Nat.zero_le _) (by omega) (by omega) (by omega) (by omega) hP hD hS hl ⟨E4, ⟨0, by omega, rfl, rfl, fun i hi => absurd hi (by omega)⟩, rfl, ⟨0, by omega, rfl, rfl, fun j hj => absurd hj (by omega)⟩, ⟨0, by omega, rfl, rfl, fun j hj => absurd hj (by omega)⟩⟩
end STA
