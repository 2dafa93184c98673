section CTX0
variable {s : State} {b : Nat}
theorem ctx_K (hts : ∀ w ∈ lw_tbl, w.before #[Value.ref b] s = true) : ∃ (D : va_G) (t : Nat → ClassId), va_K D vwCl (TY t) s := by
  obtain ⟨c0, i0, k0⟩ := u_known (C := RX0) (T := TX0) (N := 2) (n := 2) hts inX0 (hts (.instantiable RX0 2) (by decide +kernel))
  obtain ⟨c1, i1, k1⟩ := u_known (C := RX1) (T := TX1) (N := 2) (n := 2) hts inX1 (hts (.instantiable RX1 2) (by decide +kernel))
  obtain ⟨c2, i2, k2⟩ := u_known (C := RX2) (T := TX2) (N := 8) (n := 8) hts inX2 (hts (.instantiable RX2 8) (by decide +kernel))
  obtain ⟨c3, i3, k3⟩ := u_known (C := RX3) (T := TX3) (N := 8) (n := 8) hts inX3 (hts (.instantiable RX3 8) (by decide +kernel))
  obtain ⟨c4, i4, k4⟩ := u_known (C := RX4) (T := TX4) (N := 2) (n := 2) hts inX4 (hts (.instantiable RX4 2) (by decide +kernel))
  obtain ⟨c5, i5, k5⟩ := u_known (C := RX5) (T := TX5) (N := 5) (n := 5) hts inX5 (hts (.instantiable RX5 5) (by decide +kernel))
  obtain ⟨c6, i6, k6⟩ := u_known (C := RX6) (T := TX6) (N := 4) (n := 4) hts inX6 (hts (.instantiable RX6 4) (by decide +kernel))
  obtain ⟨c7, i7, k7⟩ := u_known (C := RX7) (T := TX7) (N := 9) (n := 9) hts inX7 (hts (.instantiable RX7 9) (by decide +kernel))
  obtain ⟨c8, i8, k8⟩ := u_known (C := RX8) (T := TX8) (N := 20) (n := 20) hts inX8 (hts (.instantiable RX8 20) (by decide +kernel))
  obtain ⟨t0, kt0, cm0, a01, a02, a03⟩ := Cond.arrayClass_spec (type := .int) (hts (.arrayClass .int) (by decide +kernel))
  obtain ⟨t1, kt1, cm1, a11, a12, a13⟩ := Cond.arrayClass_spec (type := .byte) (hts (.arrayClass .byte) (by decide +kernel))
  obtain ⟨cm2, t2, kt2, a21, a22, a23, a24, a25⟩ := Cond.arrayOver_spec (n := RX2) (hts (.arrayOver (.object RX2)) (by decide +kernel))
  obtain ⟨t3, kt3, cm3, a31, a32, a33⟩ := Cond.arrayClass_spec (type := .long) (hts (.arrayClass .long) (by decide +kernel))
  obtain ⟨t4, kt4, cm4, a41, a42, a43⟩ := Cond.arrayClass_spec (type := .double) (hts (.arrayClass .double) (by decide +kernel))
  refine ⟨(fun k => match k with | 0 => c0 | 1 => c1 | 2 => c2 | 3 => c3 | 4 => c4 | 5 => c5 | 6 => c6 | 7 => c7 | _ => c8, fun k => match k with | 0 => i0 | 1 => i1 | 2 => i2 | 3 => i3 | 4 => i4 | 5 => i5 | 6 => i6 | 7 => i7 | _ => i8), fun k => match k with | 0 => t0 | 1 => t1 | 2 => t2 | 3 => t3 | _ => t4, fun k q hq => ?_, fun k q hq => ?_⟩
  · match k, hq with
    | 0, hq => cases hq; exact k0
    | 1, hq => cases hq; exact k1
    | 2, hq => cases hq; exact k2
    | 3, hq => cases hq; exact k3
    | 4, hq => cases hq; exact k4
    | 5, hq => cases hq; exact k5
    | 6, hq => cases hq; exact k6
    | 7, hq => cases hq; exact k7
    | 8, hq => cases hq; exact k8
    | k + 9, hq => cases hq
  · match k, hq with
    | 0, hq => cases hq; exact ⟨fun n z => ⟨fun k h => (by cases h), kt0, a02, cm0, a03⟩, a01⟩
    | 1, hq => cases hq; exact ⟨fun n z => ⟨fun k h => (by cases h), kt1, a12, cm1, a13⟩, a11⟩
    | 2, hq => cases hq; exact ⟨fun n z => ⟨fun k h => (by cases h), kt2, a23, cm2, a24⟩, kt2, cm2, a23, a24, a21, a25⟩
    | 3, hq => cases hq; exact ⟨fun n z => ⟨fun k h => (by cases h), kt3, a32, cm3, a33⟩, a31⟩
    | 4, hq => cases hq; exact ⟨fun n z => ⟨fun k h => (by cases h), kt4, a42, cm4, a43⟩, a41⟩
    | k + 5, hq => cases hq
theorem ctx_N (hts : ∀ w ∈ lw_tbl, w.before #[Value.ref b] s = true) : NW s := by
  have h1 : ∀ q ∈ NWl, Cond.methodLinkNest q.1 q.2.1 q.2.2 "CrackedColumn" ∈ lw_tbl := by decide +kernel
  have h2 : ∀ X ∈ exL, Cond.castable X X ∈ lw_tbl := by decide +kernel
  have h3 : ∀ Y ∈ dcL, Cond.declares (Bundle.init0 Y) ∈ lw_tbl := by decide +kernel
  exact ⟨fun q hq => va_Nw.of rfl (hts _ (h1 q hq)), fun X hX => va_Nw.of rfl (hts _ (h2 X hX)), fun Y hY => va_Nw.of rfl (hts _ (h3 Y hY))⟩
end CTX0
