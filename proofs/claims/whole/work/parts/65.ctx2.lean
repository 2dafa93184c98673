section CTX2
variable {s : State} {b : Nat}
/-- the text constants of the reader -/
def tmS (i : Nat) : Term := .string "CrackedColumn$Reader" (([52, 104, 106, 108, 110] : List Nat).getD i 0)
theorem nar_h : ∀ i : Fin 5, Cond.exactly (tmS i.1) "java/lang/String" ∈ flatC (Jvm.Cond.and given_1 narrow_1) ∧ Cond.eq (.field (tmS i.1) "java/lang/String" "coder" "B") (.int 0) ∈ flatC (Jvm.Cond.and given_1 narrow_1) ∧ Cond.arrayOf (.field (tmS i.1) "java/lang/String" "value" "[B") .byte ∈ flatC (Jvm.Cond.and given_1 narrow_1) ∧ Cond.eq (.length (.field (tmS i.1) "java/lang/String" "value" "[B")) (.int (Int32.ofNat (lenS.getD i.1 0))) ∈ flatC (Jvm.Cond.and given_1 narrow_1) := by decide +kernel
theorem nar_e : ∀ i : Fin 5, ∀ j : Fin (lenS.getD i.1 0), Cond.eq (.elem (.field (tmS i.1) "java/lang/String" "value" "[B") (.int (Int32.ofNat j.1))) (.int ((bytS.getD i.1 []).getD j.1 0)) ∈ flatC (Jvm.Cond.and given_1 narrow_1) := by decide +kernel
theorem nar_n : ∀ i j : Fin 5, i.1 ≠ j.1 → Cond.not (Cond.eq (tmS i.1) (tmS j.1)) ∈ flatC (Jvm.Cond.and given_1 narrow_1) ∨ Cond.not (Cond.eq (tmS j.1) (tmS i.1)) ∈ flatC (Jvm.Cond.and given_1 narrow_1) := by decide +kernel
theorem nar_m : ∀ i : Fin 5, Cond.eq (tmS i.1) (.string "CrackedColumnModel" (([125, 134, 139, 140, 142] : List Nat).getD i.1 0)) ∈ flatC (Jvm.Cond.and given_1 narrow_1) := by decide +kernel
theorem nar_c : ∀ q ∈ ncL, Cond.not (.castable q.1 q.2) ∈ flatC (Jvm.Cond.and given_1 narrow_1) := by decide +kernel
theorem nar_f : (Cond.arrayOf (.static "CrackedColumn" "FIRST_SETTING" "[I") .int ∈ flatC (Jvm.Cond.and given_1 narrow_1) ∧ Cond.eq (.length (.static "CrackedColumn" "FIRST_SETTING" "[I")) (.int 4) ∈ flatC (Jvm.Cond.and given_1 narrow_1)) ∧ ∀ j : Fin 4, Cond.eq (.elem (.static "CrackedColumn" "FIRST_SETTING" "[I") (.int (Int32.ofNat j.1))) (.int (setF.getD j.1 0)) ∈ flatC (Jvm.Cond.and given_1 narrow_1) := by decide +kernel
theorem nar_l : (Cond.arrayOf (.static "CrackedColumn" "LEAST_SETTING" "[I") .int ∈ flatC (Jvm.Cond.and given_1 narrow_1) ∧ Cond.eq (.length (.static "CrackedColumn" "LEAST_SETTING" "[I")) (.int 4) ∈ flatC (Jvm.Cond.and given_1 narrow_1)) ∧ ∀ j : Fin 4, Cond.eq (.elem (.static "CrackedColumn" "LEAST_SETTING" "[I") (.int (Int32.ofNat j.1))) (.int (setL.getD j.1 0)) ∈ flatC (Jvm.Cond.and given_1 narrow_1) := by decide +kernel
theorem nar_o : (Cond.arrayOf (.static "CrackedColumn" "MOST_SETTING" "[I") .int ∈ flatC (Jvm.Cond.and given_1 narrow_1) ∧ Cond.eq (.length (.static "CrackedColumn" "MOST_SETTING" "[I")) (.int 4) ∈ flatC (Jvm.Cond.and given_1 narrow_1)) ∧ ∀ j : Fin 4, Cond.eq (.elem (.static "CrackedColumn" "MOST_SETTING" "[I") (.int (Int32.ofNat j.1))) (.int (setM.getD j.1 0)) ∈ flatC (Jvm.Cond.and given_1 narrow_1) := by decide +kernel
theorem nar_s : Cond.isRef (.static Bundle.tN "UNASSIGNED_STACK" Bundle.steD) ∈ flatC (Jvm.Cond.and given_1 narrow_1) ∧ Cond.isRef (.static Bundle.tN "SUPPRESSED_SENTINEL" Bundle.listD) ∈ flatC (Jvm.Cond.and given_1 narrow_1) ∧ Cond.eq (.static "java/lang/String" "COMPACT_STRINGS" "Z") (.int 1) ∈ flatC (Jvm.Cond.and given_1 narrow_1) ∧ Cond.isRef (.static "jdk/internal/util/Preconditions" "SIOOBE_FORMATTER" "Ljava/util/function/BiFunction;") ∈ flatC (Jvm.Cond.and given_1 narrow_1) := by decide +kernel
theorem set_T {F : String} {f : List Int32} {A : Nat → Prop} (hs : ∀ w ∈ flatC (Jvm.Cond.and given_1 narrow_1), w.before #[Value.ref b] s = true) (hA : ∀ a : Nat, a < s.heap.size → ¬ A a) (hl : (Cond.laysStatic "CrackedColumn" F "[I").before #[Value.ref b] s = true) (hini : (Cond.initialized "CrackedColumn").before #[Value.ref b] s = true)
    (h : (Cond.arrayOf (.static "CrackedColumn" F "[I") .int ∈ flatC (Jvm.Cond.and given_1 narrow_1) ∧ Cond.eq (.length (.static "CrackedColumn" F "[I")) (.int 4) ∈ flatC (Jvm.Cond.and given_1 narrow_1)) ∧ ∀ j : Fin 4, Cond.eq (.elem (.static "CrackedColumn" F "[I") (.int (Int32.ofNat j.1))) (.int (f.getD j.1 0)) ∈ flatC (Jvm.Cond.and given_1 narrow_1)) :
    ∃ q : Nat, va_Z "CrackedColumn" F "[I" (.ref q) A s s.heap ∧ va_T .int q 4 (fun j => .int (f.getD j 0)) A s s.heap := by
  obtain ⟨q, h1, h2⟩ := va_Tof (args := #[Value.ref b]) (s := s) (tm := .static "CrackedColumn" F "[I") (ty := .int) (N := 4) (f := fun j => .int (f.getD j 0)) (A := A) (by decide) (hs _ h.1.1) (va_eqt (hs _ h.1.2)) (fun j hj => va_eqt (hs _ (h.2 ⟨j, hj⟩))) hA
  exact ⟨q, va_Zref hl hini h1 hA, h2⟩
theorem ctx_S (hts : ∀ w ∈ lw_tbl, w.before #[Value.ref b] s = true) (hgv : (Jvm.Cond.and given_1 narrow_1).before #[Value.ref b] s = true) : ∃ x : Nat → Nat, SC s.heap.size x s s.heap := by
  have hs := flat_of_before _ hgv
  have hA : ∀ a : Nat, a < s.heap.size → ¬ (fun q => s.heap.size ≤ q) a := fun a h => Nat.not_le.mpr h
  have hini : (Cond.initialized "CrackedColumn").before #[Value.ref b] s = true := hts _ (by decide +kernel)
  obtain ⟨q0, z0, e0⟩ := set_T (F := "FIRST_SETTING") (f := setF) hs hA (hts _ (by decide +kernel)) hini nar_f
  obtain ⟨q1, z1, e1⟩ := set_T (F := "LEAST_SETTING") (f := setL) hs hA (hts _ (by decide +kernel)) hini nar_l
  obtain ⟨q2, z2, e2⟩ := set_T (F := "MOST_SETTING") (f := setM) hs hA (hts _ (by decide +kernel)) hini nar_o
  have hlen : ∀ i : Fin 5, lenS.getD i.1 0 < 2 ^ 31 := by decide +kernel
  obtain ⟨adK, adV, hv, hk⟩ := vk_Sof (args := #[Value.ref b]) (s := s) (N := 5) (tm := tmS) (len := lenS) (byt := bytS) (A := fun q => s.heap.size ≤ q) (fun i hi => hlen ⟨i, hi⟩) (fun i hi => hs _ (nar_h ⟨i, hi⟩).1) (fun i hi => hs _ (nar_h ⟨i, hi⟩).2.1) (fun i hi => hs _ (nar_h ⟨i, hi⟩).2.2.1) (fun i hi => hs _ (nar_h ⟨i, hi⟩).2.2.2) (fun i hi j hj => hs _ (nar_e ⟨i, hi⟩ ⟨j, hj⟩)) (fun i j hi hj hij => (nar_n ⟨i, hi⟩ ⟨j, hj⟩ hij).imp (hs _) (hs _)) hA
  obtain ⟨x, x0, x1, x2, xk, xv⟩ : ∃ x : Nat → Nat, x 0 = q0 ∧ x 1 = q1 ∧ x 2 = q2 ∧ (∀ i, i < 5 → x (10 + i) = adK i) ∧ ∀ i, i < 5 → x (20 + i) = adV i := by
    refine ⟨fun k => if k = 0 then q0 else if k = 1 then q1 else if k = 2 then q2 else if k < 20 then adK (k - 10) else adV (k - 20), rfl, rfl, rfl, fun i hi => ?_, fun i hi => ?_⟩
    · show (if 10 + i = 0 then q0 else if 10 + i = 1 then q1 else if 10 + i = 2 then q2 else if 10 + i < 20 then adK (10 + i - 10) else adV (10 + i - 20)) = adK i
      rw [if_neg (by omega), if_neg (by omega), if_neg (by omega), if_pos (by omega), Nat.add_sub_cancel_left]
    · show (if 20 + i = 0 then q0 else if 20 + i = 1 then q1 else if 20 + i = 2 then q2 else if 20 + i < 20 then adK (20 + i - 10) else adV (20 + i - 20)) = adV i
      rw [if_neg (by omega), if_neg (by omega), if_neg (by omega), if_neg (by omega), Nat.add_sub_cancel_left]
  subst x0
  subst x1
  subst x2
  have hR : ∀ i : Fin 5, (tmS i.1).eval #[Value.ref b] s none [] s = some (.ref (x (10 + i.1))) := fun i => by
    rw [xk i.1 i.2]
    exact hk i.1 i.2
  have hM : ∀ i : Fin 5, (Term.string "CrackedColumnModel" (([125, 134, 139, 140, 142] : List Nat).getD i.1 0)).eval #[Value.ref b] s none [] s = some (.ref (x (10 + i.1))) := fun i => va_eqR (hs _ (nar_m i)) (hR i)
  have hst : ∀ q ∈ strL, Cond.stringRef q.1 q.2.1 q.2.2.1 ∈ lw_tbl := by decide +kernel
  have hev : ∀ q ∈ strL, (Term.string q.1 q.2.1).eval #[Value.ref b] s none [] s = some (.ref (x q.2.2.2)) := by
    intro q hq
    simp only [strL, List.mem_cons, List.not_mem_nil, or_false] at hq
    rcases hq with rfl | rfl | rfl | rfl | rfl | rfl | rfl | rfl | rfl | rfl
    · exact hR 0
    · exact hR 1
    · exact hR 2
    · exact hR 3
    · exact hR 4
    · exact hM 0
    · exact hM 1
    · exact hM 2
    · exact hM 3
    · exact hM 4
  refine ⟨x, ⟨vx_Zqof (hts _ (by decide +kernel)) (hts _ (by decide +kernel)) (hs _ nar_s.1) hA, vx_Zqof (hts _ (by decide +kernel)) (hts _ (by decide +kernel)) (hs _ nar_s.2.1) hA, va_AO.of (A := #[Value.ref b]) (hts _ (by decide +kernel)), fun q hq => va_Nc.of (hs _ (nar_c q hq))⟩, ⟨⟨z0, e0⟩, ⟨z1, e1⟩, z2, e2⟩, ⟨⟨fun i hi => ?_, fun i j hi hj e => ?_⟩, va_Zof (hts _ (by decide +kernel)) (hts _ (by decide +kernel)) (va_eqt (hs _ nar_s.2.2.1)) hA, va_Zqof (hts _ (by decide +kernel)) (hts _ (by decide +kernel)) (hs _ nar_s.2.2.2) hA⟩, fun q hq => vk_R.of (hts _ (hst q hq)) (hev q hq)⟩
  · show va_O "java/lang/String" (x (10 + i)) _ _ _ ∧ va_OF "java/lang/String" "coder" "B" (.int 0) (x (10 + i)) _ _ _ ∧ va_OF "java/lang/String" "value" "[B" (.ref (x (20 + i))) (x (10 + i)) _ _ _ ∧ va_T .byte (x (20 + i)) (lenS.getD i 0) (fun j => .int ((bytS.getD i []).getD j 0)) _ _ _
    rw [xk i hi, xv i hi]
    exact hv.1 i hi
  · exact hv.2 i j hi hj (by rw [← xk i hi, ← xk j hj]; exact e)
end CTX2
