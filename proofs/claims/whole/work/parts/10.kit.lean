/-! ===== the writer's own rows: contracts of methods that only read ('rd') and of methods that write ('wr') ===== -/
/-- the links between nest mates: caller's class, index, callee -/
def NWl : List (String × Nat × MethodName) := [(RX0, 19, yX7_copyAll), (RX2, 11, yX6_init), (RX2, 29, yX0_init), (RX2, 36, yX4_init), (RX2, 68, yX7_firstSetting), (RX2, 88, yX7_copyAll), (RX2, 92, yX7_isSetting), (RX2, 168, yX7_powerFor), (RX3, 38, yX7_copyAll), (RX3, 99, yX7_powerFor), (RX4, 19, yX7_copyAll), (RX5, 95, yX7_leastSetting), (RX5, 98, yX7_mostSetting), (RX6, 25, yX7_copyAll), (RX7, 32, yX0_init)]
def exL : List String := ["java/lang/IllegalStateException", "java/lang/IllegalArgumentException", "java/lang/IndexOutOfBoundsException", "java/util/NoSuchElementException"]
def dcL : List String := ["java/lang/RuntimeException", "java/lang/Exception", "java/lang/Throwable"]
def NW (U : State) : Prop := (∀ q ∈ NWl, va_Nw (.methodLinkNest q.1 q.2.1 q.2.2 "CrackedColumn") U) ∧ (∀ X ∈ exL, va_Nw (.castable X X) U) ∧ ∀ Y ∈ dcL, va_Nw (.declares (Bundle.init0 Y)) U
theorem nw_0 {U : State} (h : NW U) : va_Nw (.methodLinkNest RX0 19 yX7_copyAll "CrackedColumn") U := h.1 (RX0, 19, yX7_copyAll) (List.mem_of_getElem? (i := 0) rfl)
theorem nw_1 {U : State} (h : NW U) : va_Nw (.methodLinkNest RX2 11 yX6_init "CrackedColumn") U := h.1 (RX2, 11, yX6_init) (List.mem_of_getElem? (i := 1) rfl)
theorem nw_2 {U : State} (h : NW U) : va_Nw (.methodLinkNest RX2 29 yX0_init "CrackedColumn") U := h.1 (RX2, 29, yX0_init) (List.mem_of_getElem? (i := 2) rfl)
theorem nw_3 {U : State} (h : NW U) : va_Nw (.methodLinkNest RX2 36 yX4_init "CrackedColumn") U := h.1 (RX2, 36, yX4_init) (List.mem_of_getElem? (i := 3) rfl)
theorem nw_4 {U : State} (h : NW U) : va_Nw (.methodLinkNest RX2 68 yX7_firstSetting "CrackedColumn") U := h.1 (RX2, 68, yX7_firstSetting) (List.mem_of_getElem? (i := 4) rfl)
theorem nw_5 {U : State} (h : NW U) : va_Nw (.methodLinkNest RX2 88 yX7_copyAll "CrackedColumn") U := h.1 (RX2, 88, yX7_copyAll) (List.mem_of_getElem? (i := 5) rfl)
theorem nw_6 {U : State} (h : NW U) : va_Nw (.methodLinkNest RX2 92 yX7_isSetting "CrackedColumn") U := h.1 (RX2, 92, yX7_isSetting) (List.mem_of_getElem? (i := 6) rfl)
theorem nw_7 {U : State} (h : NW U) : va_Nw (.methodLinkNest RX2 168 yX7_powerFor "CrackedColumn") U := h.1 (RX2, 168, yX7_powerFor) (List.mem_of_getElem? (i := 7) rfl)
theorem nw_8 {U : State} (h : NW U) : va_Nw (.methodLinkNest RX3 38 yX7_copyAll "CrackedColumn") U := h.1 (RX3, 38, yX7_copyAll) (List.mem_of_getElem? (i := 8) rfl)
theorem nw_9 {U : State} (h : NW U) : va_Nw (.methodLinkNest RX3 99 yX7_powerFor "CrackedColumn") U := h.1 (RX3, 99, yX7_powerFor) (List.mem_of_getElem? (i := 9) rfl)
theorem nw_10 {U : State} (h : NW U) : va_Nw (.methodLinkNest RX4 19 yX7_copyAll "CrackedColumn") U := h.1 (RX4, 19, yX7_copyAll) (List.mem_of_getElem? (i := 10) rfl)
theorem nw_11 {U : State} (h : NW U) : va_Nw (.methodLinkNest RX5 95 yX7_leastSetting "CrackedColumn") U := h.1 (RX5, 95, yX7_leastSetting) (List.mem_of_getElem? (i := 11) rfl)
theorem nw_12 {U : State} (h : NW U) : va_Nw (.methodLinkNest RX5 98 yX7_mostSetting "CrackedColumn") U := h.1 (RX5, 98, yX7_mostSetting) (List.mem_of_getElem? (i := 12) rfl)
theorem nw_13 {U : State} (h : NW U) : va_Nw (.methodLinkNest RX6 25 yX7_copyAll "CrackedColumn") U := h.1 (RX6, 25, yX7_copyAll) (List.mem_of_getElem? (i := 13) rfl)
theorem nw_14 {U : State} (h : NW U) : va_Nw (.methodLinkNest RX7 32 yX0_init "CrackedColumn") U := h.1 (RX7, 32, yX0_init) (List.mem_of_getElem? (i := 14) rfl)
/-- a caught class that isn't of the class of an earlier clause -/
def ncL : List (String × String) := [("java/lang/IllegalArgumentException", "java/lang/IndexOutOfBoundsException"), ("java/util/NoSuchElementException", "java/lang/IllegalArgumentException"), ("java/lang/IllegalStateException", "java/lang/IllegalArgumentException"), ("java/lang/IllegalStateException", "java/lang/IndexOutOfBoundsException")]
def lenS : List Nat := [3, 3, 4, 6, 7]
def bytS : List (List Int32) := [[114, 111, 119], [104, 111, 116], [115, 105, 122, 101], [112, 105, 101, 99, 101, 115], [112, 101, 110, 100, 105, 110, 103]]
/-- the references of the class files' own text constants -/
def strL : List (String × Nat × String × Nat) := [("CrackedColumn$Reader", 52, "row", 10), ("CrackedColumn$Reader", 104, "hot", 11), ("CrackedColumn$Reader", 106, "size", 12), ("CrackedColumn$Reader", 108, "pieces", 13), ("CrackedColumn$Reader", 110, "pending", 14), ("CrackedColumnModel", 125, "row", 10), ("CrackedColumnModel", 134, "hot", 11), ("CrackedColumnModel", 139, "size", 12), ("CrackedColumnModel", 140, "pieces", 13), ("CrackedColumnModel", 142, "pending", 14)]
def setF : List Int32 := [3, 16, 12, 8]
def setL : List Int32 := [1, 2, 2, 1]
def setM : List Int32 := [20, 120, 40, 30]
/-- what lies in the heap from the start, below the address z, and is never written: x names its addresses -/
def SC (z : Nat) (x : Nat → Nat) (U : State) (H : Heap) : Prop :=
  (vx_Zq Bundle.tN "UNASSIGNED_STACK" Bundle.steD (fun q => z ≤ q) U H ∧ vx_Zq Bundle.tN "SUPPRESSED_SENTINEL" Bundle.listD (fun q => z ≤ q) U H ∧ va_AO "CrackedColumn$Column" U ∧ ∀ q ∈ ncL, va_Nc q.1 q.2 U) ∧
  ((va_Z "CrackedColumn" "FIRST_SETTING" "[I" (.ref (x 0)) (fun q => z ≤ q) U H ∧ va_T .int (x 0) 4 (fun j => .int (setF.getD j 0)) (fun q => z ≤ q) U H) ∧
   (va_Z "CrackedColumn" "LEAST_SETTING" "[I" (.ref (x 1)) (fun q => z ≤ q) U H ∧ va_T .int (x 1) 4 (fun j => .int (setL.getD j 0)) (fun q => z ≤ q) U H) ∧
   (va_Z "CrackedColumn" "MOST_SETTING" "[I" (.ref (x 2)) (fun q => z ≤ q) U H ∧ va_T .int (x 2) 4 (fun j => .int (setM.getD j 0)) (fun q => z ≤ q) U H)) ∧
  (vk_S 5 lenS bytS (fun i => x (10 + i)) (fun i => x (20 + i)) (fun q => z ≤ q) U H ∧ va_Z "java/lang/String" "COMPACT_STRINGS" "Z" (.int 1) (fun q => z ≤ q) U H ∧ va_Zq "jdk/internal/util/Preconditions" "SIOOBE_FORMATTER" "Ljava/util/function/BiFunction;" (fun q => z ≤ q) U H) ∧
  ∀ q ∈ strL, vk_R q.1 q.2.1 q.2.2.1 (x q.2.2.2) U
theorem st_0 {z : Nat} {x : Nat → Nat} {U : State} {H : Heap} (h : SC z x U H) : vk_R "CrackedColumn$Reader" 52 "row" (x (10 + 0)) U := h.2.2.2 ("CrackedColumn$Reader", 52, "row", 10) (List.mem_of_getElem? (i := 0) rfl)
theorem st_1 {z : Nat} {x : Nat → Nat} {U : State} {H : Heap} (h : SC z x U H) : vk_R "CrackedColumn$Reader" 104 "hot" (x (10 + 1)) U := h.2.2.2 ("CrackedColumn$Reader", 104, "hot", 11) (List.mem_of_getElem? (i := 1) rfl)
theorem st_2 {z : Nat} {x : Nat → Nat} {U : State} {H : Heap} (h : SC z x U H) : vk_R "CrackedColumn$Reader" 106 "size" (x (10 + 2)) U := h.2.2.2 ("CrackedColumn$Reader", 106, "size", 12) (List.mem_of_getElem? (i := 2) rfl)
theorem st_3 {z : Nat} {x : Nat → Nat} {U : State} {H : Heap} (h : SC z x U H) : vk_R "CrackedColumn$Reader" 108 "pieces" (x (10 + 3)) U := h.2.2.2 ("CrackedColumn$Reader", 108, "pieces", 13) (List.mem_of_getElem? (i := 3) rfl)
theorem st_4 {z : Nat} {x : Nat → Nat} {U : State} {H : Heap} (h : SC z x U H) : vk_R "CrackedColumn$Reader" 110 "pending" (x (10 + 4)) U := h.2.2.2 ("CrackedColumn$Reader", 110, "pending", 14) (List.mem_of_getElem? (i := 4) rfl)
theorem st_5 {z : Nat} {x : Nat → Nat} {U : State} {H : Heap} (h : SC z x U H) : vk_R "CrackedColumnModel" 125 "row" (x (10 + 0)) U := h.2.2.2 ("CrackedColumnModel", 125, "row", 10) (List.mem_of_getElem? (i := 5) rfl)
theorem st_6 {z : Nat} {x : Nat → Nat} {U : State} {H : Heap} (h : SC z x U H) : vk_R "CrackedColumnModel" 134 "hot" (x (10 + 1)) U := h.2.2.2 ("CrackedColumnModel", 134, "hot", 11) (List.mem_of_getElem? (i := 6) rfl)
theorem st_7 {z : Nat} {x : Nat → Nat} {U : State} {H : Heap} (h : SC z x U H) : vk_R "CrackedColumnModel" 139 "size" (x (10 + 2)) U := h.2.2.2 ("CrackedColumnModel", 139, "size", 12) (List.mem_of_getElem? (i := 7) rfl)
theorem st_8 {z : Nat} {x : Nat → Nat} {U : State} {H : Heap} (h : SC z x U H) : vk_R "CrackedColumnModel" 140 "pieces" (x (10 + 3)) U := h.2.2.2 ("CrackedColumnModel", 140, "pieces", 13) (List.mem_of_getElem? (i := 8) rfl)
theorem st_9 {z : Nat} {x : Nat → Nat} {U : State} {H : Heap} (h : SC z x U H) : vk_R "CrackedColumnModel" 142 "pending" (x (10 + 4)) U := h.2.2.2 ("CrackedColumnModel", 142, "pending", 14) (List.mem_of_getElem? (i := 9) rfl)
theorem SC.warm {z : Nat} {x : Nat → Nat} {s U : State} {H : Heap} (hW : s.WarmedH U.vm) (h : SC z x s H) : SC z x U H := by
  obtain ⟨⟨a1, a2, a3, a4⟩, ⟨⟨b1, b2⟩, ⟨b3, b4⟩, b5, b6⟩, ⟨c1, c2, c3⟩, d⟩ := h
  have hv := hW.alike
  exact ⟨⟨a1.moved hv, a2.moved hv, a3.moved hv, fun q hq => (a4 q hq).moved hv⟩, ⟨⟨b1.moved hv, b2.moved hv⟩, ⟨b3.moved hv, b4.moved hv⟩, b5.moved hv, b6.moved hv⟩, ⟨c1.moved hv, c2.moved hv, c3.moved hv⟩, fun q hq => (d q hq).warm hW⟩
theorem SC.same {z : Nat} {x : Nat → Nat} {s U : State} {H : Heap} (hv : U.vm = s.vm) (h : SC z x s H) : SC z x U H := by
  obtain ⟨⟨a1, a2, a3, a4⟩, ⟨⟨b1, b2⟩, ⟨b3, b4⟩, b5, b6⟩, ⟨c1, c2, c3⟩, d⟩ := h
  have hA : s.vm.Alike U.vm := by rw [hv]; exact Vm.Alike.refl _
  exact ⟨⟨a1.moved hA, a2.moved hA, a3.moved hA, fun q hq => (a4 q hq).moved hA⟩, ⟨⟨b1.moved hA, b2.moved hA⟩, ⟨b3.moved hA, b4.moved hA⟩, b5.moved hA, b6.moved hA⟩, ⟨c1.moved hA, c2.moved hA, c3.moved hA⟩, fun q hq => vk_R.same hv (d q hq)⟩
theorem SC.kept {z : Nat} {x : Nat → Nat} {s : State} {H H1 : Heap} (hq : ∀ a : Nat, a < H.size → ¬ z ≤ a → H1[a]? = H[a]?) (h : SC z x s H) : SC z x s H1 := by
  obtain ⟨⟨a1, a2, a3, a4⟩, ⟨⟨b1, b2⟩, ⟨b3, b4⟩, b5, b6⟩, ⟨c1, c2, c3⟩, d⟩ := h
  exact ⟨⟨a1.kept hq, a2.kept hq, a3, a4⟩, ⟨⟨b1.kept hq, b2.kept hq⟩, ⟨b3.kept hq, b4.kept hq⟩, b5.kept hq, b6.kept hq⟩, ⟨c1.kept hq, c2.kept hq, c3.kept hq⟩, d⟩
def CXT (D : va_G) (tys : List (ClassId × FieldType)) (z : Nat) (x : Nat → Nat) (U : State) (H : Heap) : Prop := va_K D vwCl tys U ∧ NW U ∧ SC z x U H
theorem NW.warm {s U : State} (hW : s.WarmedH U.vm) (h : NW s) : NW U := ⟨fun q hq => va_Nw.warmM hW (h.1 q hq), fun X hX => va_Nw.warmC hW (h.2.1 X hX), fun X hX => va_Nw.warmD hW (h.2.2 X hX)⟩
theorem CXT.warm {D : va_G} {tys : List (ClassId × FieldType)} {z : Nat} {x : Nat → Nat} {H : Heap} {s U : State} (hW : s.WarmedH U.vm) (h : CXT D tys z x s H) : CXT D tys z x U H := ⟨va_K.moved hW.alike h.1, h.2.1.warm hW, h.2.2.warm hW⟩
theorem CXT.calling {D : va_G} {tys : List (ClassId × FieldType)} {z : Nat} {x : Nat → Nat} {H : Heap} {U : State} {g : JFrame} {mk : MethodId} {a : Array Value} (h : CXT D tys z x U H) : CXT D tys z x (U.calling g mk a) H := ⟨va_K.moved (u := U) (U := U.calling g mk a) (Vm.Alike.refl U.vm) h.1, ⟨fun q hq => va_Nw.same rfl (by rfl) (h.2.1.1 q hq), fun X hX => va_Nw.same rfl (by rfl) (h.2.1.2.1 X hX), fun X hX => va_Nw.same rfl (by rfl) (h.2.1.2.2 X hX)⟩, h.2.2.same rfl⟩
theorem CXT.at {D : va_G} {tys : List (ClassId × FieldType)} {z : Nat} {x : Nat → Nat} {s : State} {H : Heap} {A : Nat → Prop} {locs : List Loc} (h : CXT D tys z x s s.heap) (hz : ∀ q : Nat, A q → z ≤ q) (hS : va_S A s.heap H locs) : CXT D tys z x s H :=
  ⟨h.1, h.2.1, h.2.2.kept (fun a h1 h2 => hS.2.1 a h1 (fun h3 => h2 (hz a h3)))⟩
def zf : Nat → Int32 := fun _ => 0
/-- what F's text is made of -/
def lt {α β : Type} (a : α) (k : α → β) : β := k a
def jn {κ ρ : Type} (g : κ → Option ρ) (k : κ) : Option ρ := g k
def bnd {α ρ : Type} (o : Option α) (k : α → Option ρ) : Option ρ := match o with | some a => k a | none => none
theorem gd {c : Prop} [Decidable c] {ρ : Type} {k : Option ρ} {r : ρ} (h : (if c then none else k) = some r) : ¬ c ∧ k = some r := by
  by_cases hc : c
  · rw [if_pos hc] at h; cases h
  · rw [if_neg hc] at h; exact ⟨hc, h⟩
theorem gp {c : Prop} [Decidable c] {ρ : Type} {k : Option ρ} {r : ρ} (h : (if c then k else none) = some r) : c ∧ k = some r := by
  by_cases hc : c
  · rw [if_pos hc] at h; exact ⟨hc, h⟩
  · rw [if_neg hc] at h; cases h
theorem brT {c : Prop} [Decidable c] {ρ : Type} {a b r : Option ρ} (hc : c) (h : (if c then a else b) = r) : a = r := by rw [if_pos hc] at h; exact h
theorem brF {c : Prop} [Decidable c] {ρ : Type} {a b r : Option ρ} (hc : ¬ c) (h : (if c then a else b) = r) : b = r := by rw [if_neg hc] at h; exact h
theorem ltE {α β : Type} {a y : α} {k : α → β} {r : β} (e : y = a) (h : lt a k = r) : k y = r := by subst e; exact h
theorem jnE {κ ρ : Type} {g : κ → Option ρ} {k : κ} {r : Option ρ} (h : jn g k = r) : ∃ κ' : κ, κ' = k ∧ g κ' = r := ⟨k, rfl, h⟩
theorem bndE {α ρ : Type} {o : Option α} {k : α → Option ρ} {r : ρ} (h : bnd o k = some r) : ∃ a, o = some a ∧ k a = some r := by
  cases o with
  | none => cases h
  | some a => exact ⟨a, rfl, h⟩
def Prd (D : va_G) (tys : List (ClassId × FieldType)) (z : Nat) (x : Nat → Nat) (av : List Value) (W0 : va_W) (Hh : Heap) : Array Value → State → Prop := va_Pc av (fun U => U.heap = Hh ∧ va_P D vwCl W0 Hh ∧ CXT D tys z x U Hh)
def Qrd (oc : Option Value) (Hh : Heap) : Array Value → State → Outcome → State → Prop := fun _ _ o t => o = .returned oc ∧ t.heap = Hh
def Pwr (D : va_G) (tys : List (ClassId × FieldType)) (z : Nat) (x : Nat → Nat) (av : List Value) (W0 : va_W) (sz : Nat) : Array Value → State → Prop := va_Pc av (fun U => U.heap.size = sz ∧ va_P D vwCl W0 U.heap ∧ va_D (fun _ => True) W0 ∧ (∀ q : Nat, va_A W0 sz q → z ≤ q) ∧ CXT D tys z x U U.heap)
def Qwr (D : va_G) (A : Nat → Prop) (W1 : va_W) (oc : Option Value) : Array Value → State → Outcome → State → Prop := fun _ st o t => o = .returned oc ∧ va_P D vwCl W1 t.heap ∧ va_D A W1 ∧ va_F A st t
theorem Prd.blind {D : va_G} {tys : List (ClassId × FieldType)} {z : Nat} {x : Nat → Nat} {av : List Value} {W0 : va_W} {Hh : Heap} : FrameBlind (Prd D tys z x av W0 Hh) := fun a U g mk q => by
  obtain ⟨q0, q1, qP, qC⟩ := q
  exact ⟨q0, q1, qP, qC.calling⟩
theorem Pwr.blind {D : va_G} {tys : List (ClassId × FieldType)} {z : Nat} {x : Nat → Nat} {av : List Value} {W0 : va_W} {sz : Nat} : FrameBlind (Pwr D tys z x av W0 sz) := fun a U g mk q => by
  obtain ⟨q0, q1, qP, qD, qz, qC⟩ := q
  exact ⟨q0, q1, qP, qD, qz, qC.calling⟩
abbrev RdM (l : Launch) (D : va_G) (tys : List (ClassId × FieldType)) (z : Nat) (x : Nat → Nat) (y : MethodName) (ws : List Cond) (rm : Room) (av : List Value) (W0 : va_W) (Hh : Heap) (oc : Option Value) : Prop := Met l y ws rm (Prd D tys z x av W0 Hh) (Qrd oc Hh) 0 0 (fun _ => False)
abbrev WrM (l : Launch) (D : va_G) (tys : List (ClassId × FieldType)) (z : Nat) (x : Nat → Nat) (y : MethodName) (ws : List Cond) (rm : Room) (av : List Value) (W0 W1 : va_W) (sz : Nat) (oc : Option Value) (mc ms : Nat) : Prop := Met l y ws rm (Pwr D tys z x av W0 sz) (Qwr D (va_A W0 sz) W1 oc) mc ms (va_A W0 sz)
section KIT1
variable {p : Program} {l : Launch} {e : Env} {R : Room} {s : State} {m : MethodId} {args : Array Value} {below : List Frame} {meth : Method} {c : Code} {H H0 : Heap} {locs : List Loc} {cells slots : Nat} {Q : State → Prop}
variable {cc bytes : ByteArray} {pc nL maxL index n mc ms : Nat} {ls : Array Slot} {rest st0 st1 : List Value} {Ts ws ws' : List Cond} {own C host : String} {y : MethodName} {ret : Option FieldType} {rm : Room} {D : va_G} {tys : List (ClassId × FieldType)} {av As : List Value} {W0 W1 wa wr wn : va_W} {A : Nat → Prop} {oc : Option Value} {b q0 ci : Nat} {z : Nat} {x : Nat → Nat}
/-- the start of a reader's proof -/
theorem rd_of (hy : plainName y.cls = true) (hw : ws = Cond.code y cc maxL ret :: ws') (hav : (lg_sl av).length ≤ maxL)
    (body : ∀ (p : Program) (e : Env) (s : State) (m : MethodId) (args : Array Value) (below : List Frame) (meth : Method) (c : Code) (Q : State → Prop), Q = MQ below (Qrd oc H) args s 0 0 (fun _ => False) → p.tables.exec = Jvm.exec → c.code = cc → meth.sig.returnType = ret → c.maxLocals = maxL → (∀ w ∈ ws, w.before args s = true) → s.vm.findClass y.cls = some m.cls → meth.locks = false → s.heap = H → va_P D vwCl W0 H → CXT D tys z x s H →
      ∀ ls : Array Slot, lv_has ls maxL (lv_args 0 av) → W p l e rm s m args below meth c H [] 0 0 Q (F0 m 0 ls [])) : RdM l D tys z x y ws rm av W0 H oc := by
  refine Met.ofW (cc := cc) (maxL := maxL) (ret := ret) hy hw ?_
  intro p e s m args below meth c s₁ B hml hv
  obtain ⟨hav', hH, hP, hC⟩ := hv
  have hts := atoms_spec (ws := ws) B.pre
  have hown : s.vm.findClass y.cls = some m.cls := findClass_of_methodNamed B.named
  have hl := lv_entry av (n := maxL) hav
  have K := fun ls hl => body p e s m args below meth c _ rfl B.exec B.bytes B.returns hml hts hown B.notSynchronized hH hP hC ls hl
  subst hav'
  rw [lg_entry_eq]
  generalize (lg_sl av ++ List.replicate (maxL - (lg_sl av).length) Slot.unset).toArray = ls at hl ⊢
  rw [hH]
  exact K ls hl
/-- the start of a writer's proof -/
theorem wr_of {sz : Nat} (hy : plainName y.cls = true) (hw : ws = Cond.code y cc maxL ret :: ws') (hav : (lg_sl av).length ≤ maxL)
    (body : ∀ (p : Program) (e : Env) (s : State) (m : MethodId) (args : Array Value) (below : List Frame) (meth : Method) (c : Code) (A : Nat → Prop) (Q : State → Prop), Q = MQ below (Qwr D A W1 oc) args s mc ms A → p.tables.exec = Jvm.exec → c.code = cc → meth.sig.returnType = ret → c.maxLocals = maxL → (∀ w ∈ ws, w.before args s = true) → s.vm.findClass y.cls = some m.cls → meth.locks = false → meth.name = y.name → ∀ (H : Heap) (locs : List Loc), va_P D vwCl W0 H → va_D A W0 → va_S A s.heap H locs → (∀ q : Nat, s.heap.size ≤ q → A q) → (∀ q : Nat, A q → z ≤ q) → CXT D tys z x s s.heap →
      ∀ ls : Array Slot, lv_has ls maxL (lv_args 0 av) → W p l e rm s m args below meth c H locs 0 0 Q (F0 m 0 ls [])) : WrM l D tys z x y ws rm av W0 W1 sz oc mc ms := by
  refine Met.ofW (cc := cc) (maxL := maxL) (ret := ret) hy hw ?_
  intro p e s m args below meth c s₁ B hml hv
  obtain ⟨hav', hsz, hP, hD0, hz, hC⟩ := hv
  subst hsz
  have hts := atoms_spec (ws := ws) B.pre
  have hown : s.vm.findClass y.cls = some m.cls := findClass_of_methodNamed B.named
  have hin : meth.name = y.name := (name_of_methodNamed B.named B.method).1
  have hl := lv_entry av (n := maxL) hav
  have K := fun ls hl => body p e s m args below meth c (va_A W0 s.heap.size) _ rfl B.exec B.bytes B.returns hml hts hown B.notSynchronized hin s.heap [] hP (hD0.self (sz := s.heap.size)) va_S.rf (fun q h => Or.inr h) hz hC ls hl
  subst hav'
  rw [lg_entry_eq]
  generalize (lg_sl av ++ List.replicate (maxL - (lg_sl av).length) Slot.unset).toArray = ls at hl ⊢
  exact K ls hl
/-- behind a reader's call -/
theorem rd_run {a9 : Array Value} (hr : va_Run p l e R s m args below meth c H locs cells slots 0 0 (F0 m pc ls st0) rest (Qrd oc H a9) (fun _ => False)) (hst : oc.toList ++ rest = st1)
    (kk : W p l e R s m args below meth c H locs cells slots Q (F0 m (pc + 3) ls st1)) : W p l e R s m args below meth c H locs cells slots Q (F0 m pc ls st0) := by
  subst hst
  intro T hT X
  obtain ⟨v, st₀, t, T', L, h0, X', hL, e1, e2, ⟨hv, ht⟩, st⟩ := hr T hT X
  cases hv
  have hL0 : L = [] := by
    cases L with
    | nil => rfl
    | cons q L => exact (hL q List.mem_cons_self).elim
  subst hL0
  rw [List.append_nil] at X'
  obtain ⟨t2, a1, b1⟩ := kk T' (e1.trans ht) X'
  exact ⟨t2, st t2 a1, b1⟩
theorem rdV {bs : List Value} {r : vw_C} (S : CallFix p m c cc nL s args Ts own) (hM : RdM l D tys z x y ws rm (.ref b :: As) W0 H oc) (cw : CallW R s args own C index y bytes maxL ret ws rm 0 0 n) (hC : CXT D tys z x s H) (hP : va_P D vwCl W0 H) (q0 : Nat) (hb0 : W0[q0]? = some (b, .inr (ci, bs))) (hcl : vwCl[ci]? = some r) (hrC : r.1 = C) (hn : As.length = n) (hsz : ls.size = nL) (hst : st0 = As.reverse ++ .ref b :: rest) (hW : (rest.map fun v => v.category).sum ≤ 8) (hdg : decode cc pc = .ok (.invokevirtual index, 3)) (hc : cells ≤ R.cells ∧ slots ≤ R.slots) (hst1 : oc.toList ++ rest = st1)
    (kk : W p l e R s m args below meth c H locs cells slots Q (F0 m (pc + 3) ls st1)) : W p l e R s m args below meth c H locs cells slots Q (F0 m pc ls st0) :=
  rd_run (va_runV (As := As) (rest := rest) S hM cw ⟨Prd.blind, by subst hrC; exact va_recv hC.1 hP hcl hb0, fun U hU hW => ⟨rfl, hU, hP, hC.warm hW⟩⟩ rfl hn hsz hst (lv_room hW) hdg hc) hst1 kk
theorem rdS (S : CallFix p m c cc nL s args Ts own) (hM : RdM l D tys z x y ws rm As W0 H oc) (cw : CallB R s args own index y bytes maxL ret ws rm 0 0 n ∧ (Cond.static y).before args s = true) (hC : CXT D tys z x s H) (hP : va_P D vwCl W0 H) (hn : As.length = n) (hsz : ls.size = nL) (hst : st0 = As.reverse ++ rest) (hW : (rest.map fun v => v.category).sum ≤ 8) (hdg : decode cc pc = .ok (.invokestatic index, 3)) (hc : cells ≤ R.cells ∧ slots ≤ R.slots) (hst1 : oc.toList ++ rest = st1)
    (kk : W p l e R s m args below meth c H locs cells slots Q (F0 m (pc + 3) ls st1)) : W p l e R s m args below meth c H locs cells slots Q (F0 m pc ls st0) :=
  rd_run (va_runS (As := As) (rest := rest) S hM cw ⟨Prd.blind, fun U hU hW => ⟨rfl, hU, hP, hC.warm hW⟩⟩ rfl hn hsz hst (lv_room hW) hdg hc) hst1 kk
theorem rdSN (S : CallFix p m c cc nL s args Ts own) (hM : RdM l D tys z x y ws rm As W0 H oc) (cw : va_CN R s args own index y host bytes maxL ret ws rm 0 0 n ∧ (Cond.static y).before args s = true ∧ True) (hC : CXT D tys z x s H) (hP : va_P D vwCl W0 H) (hn : As.length = n) (hsz : ls.size = nL) (hst : st0 = As.reverse ++ rest) (hW : (rest.map fun v => v.category).sum ≤ 8) (hdg : decode cc pc = .ok (.invokestatic index, 3)) (hc : cells ≤ R.cells ∧ slots ≤ R.slots) (hst1 : oc.toList ++ rest = st1)
    (kk : W p l e R s m args below meth c H locs cells slots Q (F0 m (pc + 3) ls st1)) : W p l e R s m args below meth c H locs cells slots Q (F0 m pc ls st0) :=
  rd_run (va_runSN (As := As) (rest := rest) S hM cw ⟨Prd.blind, fun U hU hW => ⟨rfl, hU, hP, hC.warm hW⟩⟩ rfl hn hsz hst (lv_room hW) hdg hc) hst1 kk
/-- behind a writer's call -/
theorem wr_run {a : Array Value} (hr : va_Run p l e R s m args below meth c H locs cells slots mc ms (F0 m pc ls st0) rest (Qwr D (va_A W0 H.size) W1 oc a) (va_A W0 H.size)) (hP : va_P D vwCl wa H) (hD : va_D A wa) (hS : va_S A H0 H locs) (hA : ∀ q, H0.size ≤ q → A q) (isC isR : List Nat) (hCe : isC.map (fun i => wa[i]?) = W0.map some) (hRe : isR.map (fun i => wa[i]?) = wr.map some) (hnR : va_nd isR = true) (hdis : ∀ i ∈ isR, i ∉ isC) (hwn : wr ++ W1 = wn) (hst : oc.toList ++ rest = st1)
    (kk : ∀ (H1 : Heap) (locs1 : List Loc), va_P D vwCl wn H1 → va_D A wn → va_S A H0 H1 locs1 → W p l e R s m args below meth c H1 locs1 (cells + mc) (slots + ms) Q (F0 m (pc + 3) ls st1)) : W p l e R s m args below meth c H locs cells slots Q (F0 m pc ls st0) := by
  subst hst
  subst hwn
  have hF := va_free hD hS hA isC hCe
  intro T hT X
  obtain ⟨v, st₀, t, T', L, h0, X', hL, e1, e2, ⟨hv, hP1, hD1, hz, hk⟩, st⟩ := hr T hT X
  cases hv
  rw [h0] at hz hk
  rw [← e1] at hz hk hP1
  obtain ⟨hP2, hD2⟩ := va_join (wr := wr) (w1 := W1) hP hD isC isR hCe hRe hnR hdis hk hF hP1 hD1
  obtain ⟨t2, a1, b1⟩ := kk T'.heap (locs ++ L) hP2 hD2
    ⟨Nat.le_trans hS.1 hz, fun q h1 h2 => by rw [hk q (Nat.lt_of_lt_of_le h1 hS.1) (fun z => h2 (hF q z))]; exact hS.2.1 q h1 h2, fun q hq => by
      rcases List.mem_append.mp hq with h | h
      · exact hS.2.2 q h
      · exact hF _ (hL q h)⟩ T' rfl X'
  exact ⟨t2, st t2 a1, b1⟩
theorem subP {is : List Nat} (hs : is.map (fun i => wa[i]?) = W0.map some) (h : va_P D vwCl wa H) : va_P D vwCl W0 H := by
  intro k q hk
  have h1 : (is.map (fun i => wa[i]?))[k]? = some (some q) := by rw [hs, List.getElem?_map, hk]; rfl
  rw [List.getElem?_map] at h1
  cases hi : is[k]? with
  | none => rw [hi] at h1; cases h1
  | some i => rw [hi] at h1; exact h i q (Option.some.inj h1)
theorem wrV {bs : List Value} {r : vw_C} (S : CallFix p m c cc nL s args Ts own) (hM : WrM l D tys z x y ws rm (.ref b :: As) W0 W1 H.size oc mc ms) (cw : CallW R s args own C index y bytes maxL ret ws rm mc ms n) (hC : CXT D tys z x s H) (hP : va_P D vwCl wa H) (hD : va_D A wa) (hS : va_S A H0 H locs) (hA : ∀ q, H0.size ≤ q → A q) (hz : ∀ q : Nat, A q → z ≤ q) (isC isR : List Nat) (hCe : isC.map (fun i => wa[i]?) = W0.map some) (hRe : isR.map (fun i => wa[i]?) = wr.map some) (hnC : va_nd isC = true) (hnR : va_nd isR = true) (hdis : ∀ i ∈ isR, i ∉ isC) (q0 : Nat) (hb0 : W0[q0]? = some (b, .inr (ci, bs))) (hcl : vwCl[ci]? = some r) (hrC : r.1 = C) (hn : As.length = n) (hsz : ls.size = nL) (hst : st0 = As.reverse ++ .ref b :: rest) (hW : (rest.map fun v => v.category).sum ≤ 8) (hdg : decode cc pc = .ok (.invokevirtual index, 3)) (hc : cells + mc ≤ R.cells ∧ slots + ms ≤ R.slots) (hwn : wr ++ W1 = wn) (hst1 : oc.toList ++ rest = st1)
    (kk : ∀ (H1 : Heap) (locs1 : List Loc), va_P D vwCl wn H1 → va_D A wn → va_S A H0 H1 locs1 → W p l e R s m args below meth c H1 locs1 (cells + mc) (slots + ms) Q (F0 m (pc + 3) ls st1)) : W p l e R s m args below meth c H locs cells slots Q (F0 m pc ls st0) := by
  have hPc := subP hCe hP
  have hDc := (hD.sub isC hnC hCe).weaken (B := fun _ => True) (fun _ _ _ _ => trivial)
  exact wr_run (va_runV (As := As) (rest := rest) S hM cw ⟨Pwr.blind, by subst hrC; exact va_recv hC.1 hPc hcl hb0, fun U hU hW => ⟨rfl, by rw [hU], by rw [hU]; exact hPc, hDc, fun q h => hz q (va_free hD hS hA isC hCe q h), by rw [hU]; exact hC.warm hW⟩⟩ rfl hn hsz hst (lv_room hW) hdg hc) hP hD hS hA isC isR hCe hRe hnR hdis hwn hst1 kk
theorem wrS (S : CallFix p m c cc nL s args Ts own) (hM : WrM l D tys z x y ws rm As W0 W1 H.size oc mc ms) (cw : CallB R s args own index y bytes maxL ret ws rm mc ms n ∧ (Cond.static y).before args s = true) (hC : CXT D tys z x s H) (hP : va_P D vwCl wa H) (hD : va_D A wa) (hS : va_S A H0 H locs) (hA : ∀ q, H0.size ≤ q → A q) (hz : ∀ q : Nat, A q → z ≤ q) (isC isR : List Nat) (hCe : isC.map (fun i => wa[i]?) = W0.map some) (hRe : isR.map (fun i => wa[i]?) = wr.map some) (hnC : va_nd isC = true) (hnR : va_nd isR = true) (hdis : ∀ i ∈ isR, i ∉ isC) (hn : As.length = n) (hsz : ls.size = nL) (hst : st0 = As.reverse ++ rest) (hW : (rest.map fun v => v.category).sum ≤ 8) (hdg : decode cc pc = .ok (.invokestatic index, 3)) (hc : cells + mc ≤ R.cells ∧ slots + ms ≤ R.slots) (hwn : wr ++ W1 = wn) (hst1 : oc.toList ++ rest = st1)
    (kk : ∀ (H1 : Heap) (locs1 : List Loc), va_P D vwCl wn H1 → va_D A wn → va_S A H0 H1 locs1 → W p l e R s m args below meth c H1 locs1 (cells + mc) (slots + ms) Q (F0 m (pc + 3) ls st1)) : W p l e R s m args below meth c H locs cells slots Q (F0 m pc ls st0) := by
  have hPc := subP hCe hP
  have hDc := (hD.sub isC hnC hCe).weaken (B := fun _ => True) (fun _ _ _ _ => trivial)
  exact wr_run (va_runS (As := As) (rest := rest) S hM cw ⟨Pwr.blind, fun U hU hW => ⟨rfl, by rw [hU], by rw [hU]; exact hPc, hDc, fun q h => hz q (va_free hD hS hA isC hCe q h), by rw [hU]; exact hC.warm hW⟩⟩ rfl hn hsz hst (lv_room hW) hdg hc) hP hD hS hA isC isR hCe hRe hnR hdis hwn hst1 kk
theorem wrSN (S : CallFix p m c cc nL s args Ts own) (hM : WrM l D tys z x y ws rm As W0 W1 H.size oc mc ms) (cw : va_CN R s args own index y host bytes maxL ret ws rm mc ms n ∧ (Cond.static y).before args s = true ∧ True) (hC : CXT D tys z x s H) (hP : va_P D vwCl wa H) (hD : va_D A wa) (hS : va_S A H0 H locs) (hA : ∀ q, H0.size ≤ q → A q) (hz : ∀ q : Nat, A q → z ≤ q) (isC isR : List Nat) (hCe : isC.map (fun i => wa[i]?) = W0.map some) (hRe : isR.map (fun i => wa[i]?) = wr.map some) (hnC : va_nd isC = true) (hnR : va_nd isR = true) (hdis : ∀ i ∈ isR, i ∉ isC) (hn : As.length = n) (hsz : ls.size = nL) (hst : st0 = As.reverse ++ rest) (hW : (rest.map fun v => v.category).sum ≤ 8) (hdg : decode cc pc = .ok (.invokestatic index, 3)) (hc : cells + mc ≤ R.cells ∧ slots + ms ≤ R.slots) (hwn : wr ++ W1 = wn) (hst1 : oc.toList ++ rest = st1)
    (kk : ∀ (H1 : Heap) (locs1 : List Loc), va_P D vwCl wn H1 → va_D A wn → va_S A H0 H1 locs1 → W p l e R s m args below meth c H1 locs1 (cells + mc) (slots + ms) Q (F0 m (pc + 3) ls st1)) : W p l e R s m args below meth c H locs cells slots Q (F0 m pc ls st0) := by
  have hPc := subP hCe hP
  have hDc := (hD.sub isC hnC hCe).weaken (B := fun _ => True) (fun _ _ _ _ => trivial)
  exact wr_run (va_runSN (As := As) (rest := rest) S hM cw ⟨Pwr.blind, fun U hU hW => ⟨rfl, by rw [hU], by rw [hU]; exact hPc, hDc, fun q h => hz q (va_free hD hS hA isC hCe q h), by rw [hU]; exact hC.warm hW⟩⟩ rfl hn hsz hst (lv_room hW) hdg hc) hP hD hS hA isC isR hCe hRe hnR hdis hwn hst1 kk
/-- a reader's ends -/
theorem rd_iret {v : Int32} {Q : State → Prop} (hx : p.tables.exec = Jvm.exec) (hb : c.code = cc) (hr : meth.sig.returnType = some .int) (hlocks : meth.locks = false) (hdg : decode cc pc = .ok (.ireturn, 1)) (ho : oc = some (.int v)) (hQ : Q = MQ below (Qrd oc H) args s cells slots (fun _ => False)) : W p l e R s m args below meth c H [] cells slots Q (F0 m pc ls [.int v]) := by
  subst ho
  subst hQ
  exact W.iret hx hb hr (fun t ht _ => ⟨rfl, ht⟩) (fun _ h => by cases h) hdg
theorem rd_zret {v : Int32} {Q : State → Prop} (hx : p.tables.exec = Jvm.exec) (hb : c.code = cc) (hr : meth.sig.returnType = some .boolean) (hlocks : meth.locks = false) (hdg : decode cc pc = .ok (.ireturn, 1)) (hn : narrow .boolean (.int v) = .int v) (ho : oc = some (.int v)) (hQ : Q = MQ below (Qrd oc H) args s cells slots (fun _ => False)) : W p l e R s m args below meth c H [] cells slots Q (F0 m pc ls [.int v]) := by
  subst ho
  subst hQ
  exact W.zret hx hb hr hn (fun t ht _ => ⟨rfl, ht⟩) (fun _ h => by cases h) hdg
theorem rd_tret {v : Int32} {ty : FieldType} {Q : State → Prop} (hx : p.tables.exec = Jvm.exec) (hb : c.code = cc) (hr : meth.sig.returnType = some ty) (hlocks : meth.locks = false) (hdg : decode cc pc = .ok (.ireturn, 1)) (hn : narrow ty (.int v) = .int v) (ho : oc = some (.int v)) (hQ : Q = MQ below (Qrd oc H) args s cells slots (fun _ => False)) : W p l e R s m args below meth c H [] cells slots Q (F0 m pc ls [.int v]) := by
  subst ho
  subst hQ
  exact W.zret hx hb hr hn (fun t ht _ => ⟨rfl, ht⟩) (fun _ h => by cases h) hdg
theorem rd_vret {Q : State → Prop} (hx : p.tables.exec = Jvm.exec) (hb : c.code = cc) (hr : meth.sig.returnType = none) (hlocks : meth.locks = false) (hdg : decode cc pc = .ok (.return_, 1)) (ho : oc = none) (hQ : Q = MQ below (Qrd oc H) args s cells slots (fun _ => False)) : W p l e R s m args below meth c H [] cells slots Q (F0 m pc ls []) := by
  subst ho
  subst hQ
  exact W.vret hx hb hr (fun t ht _ => ⟨rfl, ht⟩) (fun _ h => by cases h) hdg
theorem rdVx (S : CallFix p m c cc nL s args Ts own) (hM : RdM l D tys z x y ws rm (.ref b :: As) W0 H oc) (cw : CallW R s args own C index y bytes maxL ret ws rm 0 0 n) (hC : CXT D tys z x s H) (hP : va_P D vwCl W0 H) (hrecv : ∃ cell : Cell, H[b]? = some cell ∧ cell.vm.isStatics = false ∧ s.vm.findClass C = some cell.cls) (hn : As.length = n) (hsz : ls.size = nL) (hst : st0 = As.reverse ++ .ref b :: rest) (hW : (rest.map fun v => v.category).sum ≤ 8) (hdg : decode cc pc = .ok (.invokevirtual index, 3)) (hc : cells ≤ R.cells ∧ slots ≤ R.slots) (hst1 : oc.toList ++ rest = st1)
    (kk : W p l e R s m args below meth c H locs cells slots Q (F0 m (pc + 3) ls st1)) : W p l e R s m args below meth c H locs cells slots Q (F0 m pc ls st0) :=
  rd_run (va_runV (As := As) (rest := rest) S hM cw ⟨Prd.blind, hrecv, fun U hU hW => ⟨rfl, hU, hP, hC.warm hW⟩⟩ rfl hn hsz hst (lv_room hW) hdg hc) hst1 kk
/-- a writer's ends -/
theorem wr_iret {v : Int32} {Q : State → Prop} (hx : p.tables.exec = Jvm.exec) (hb : c.code = cc) (hr : meth.sig.returnType = some .int) (hlocks : meth.locks = false) (hdg : decode cc pc = .ok (.ireturn, 1)) (ho : oc = some (.int v)) (hQ : Q = MQ below (Qwr D A W1 oc) args s cells slots A) (hP : va_P D vwCl wa H) (hD : va_D A wa) (hS : va_S A s.heap H locs) (is : List Nat) (his : is.map (fun i => wa[i]?) = W1.map some) (hnd : va_nd is = true) : W p l e R s m args below meth c H locs cells slots Q (F0 m pc ls [.int v]) := by
  subst ho
  subst hQ
  exact W.iret hx hb hr (fun t ht _ => ⟨rfl, by rw [ht]; exact subP his hP, hD.sub is hnd his, hS.F ht⟩) hS.2.2 hdg
theorem wr_zret {v : Int32} {Q : State → Prop} (hx : p.tables.exec = Jvm.exec) (hb : c.code = cc) (hr : meth.sig.returnType = some .boolean) (hlocks : meth.locks = false) (hdg : decode cc pc = .ok (.ireturn, 1)) (hn : narrow .boolean (.int v) = .int v) (ho : oc = some (.int v)) (hQ : Q = MQ below (Qwr D A W1 oc) args s cells slots A) (hP : va_P D vwCl wa H) (hD : va_D A wa) (hS : va_S A s.heap H locs) (is : List Nat) (his : is.map (fun i => wa[i]?) = W1.map some) (hnd : va_nd is = true) : W p l e R s m args below meth c H locs cells slots Q (F0 m pc ls [.int v]) := by
  subst ho
  subst hQ
  exact W.zret hx hb hr hn (fun t ht _ => ⟨rfl, by rw [ht]; exact subP his hP, hD.sub is hnd his, hS.F ht⟩) hS.2.2 hdg
theorem wr_vret {Q : State → Prop} (hx : p.tables.exec = Jvm.exec) (hb : c.code = cc) (hr : meth.sig.returnType = none) (hlocks : meth.locks = false) (hdg : decode cc pc = .ok (.return_, 1)) (ho : oc = none) (hQ : Q = MQ below (Qwr D A W1 oc) args s cells slots A) (hP : va_P D vwCl wa H) (hD : va_D A wa) (hS : va_S A s.heap H locs) (is : List Nat) (his : is.map (fun i => wa[i]?) = W1.map some) (hnd : va_nd is = true) : W p l e R s m args below meth c H locs cells slots Q (F0 m pc ls []) := by
  subst ho
  subst hQ
  exact W.vret hx hb hr (fun t ht _ => ⟨rfl, by rw [ht]; exact subP his hP, hD.sub is hnd his, hS.F ht⟩) hS.2.2 hdg
/-- rows with what they give named -/
theorem my_iald {f : Nat → Int32} {a nn : Nat} {cA : ClassId} {i v : Int32} (hexec : p.tables.exec = Jvm.exec) (hb : c.code = cc) (hK : va_K D vwCl tys s) (hP : va_P D vwCl wa H) (q0 t0 : Nat) (ha : wa[q0]? = some (a, .inl (cA, nn, .inl f))) (ht : tys[t0]? = some (cA, .int)) (hin : vp_in i nn) (hv : f i.toNatClampNeg = v) (hdg : decode cc pc = .ok (.iaload, 1)) (kk : W p l e R s m args below meth c H locs cells slots Q (F0 m (pc + 1) ls (.int v :: rest))) : W p l e R s m args below meth c H locs cells slots Q (F0 m pc ls (.int i :: .ref a :: rest)) := by
  subst hv; exact va_iald hexec hb hK hP q0 t0 ha ht hin hdg kk
theorem my_bald {f : Nat → Int32} {a nn : Nat} {cA : ClassId} {i v : Int32} (hexec : p.tables.exec = Jvm.exec) (hb : c.code = cc) (hK : va_K D vwCl tys s) (hP : va_P D vwCl wa H) (q0 t0 : Nat) (ha : wa[q0]? = some (a, .inl (cA, nn, .inl f))) (ht : tys[t0]? = some (cA, .byte)) (hin : vp_in i nn) (hv : f i.toNatClampNeg = v) (hdg : decode cc pc = .ok (.baload, 1)) (kk : W p l e R s m args below meth c H locs cells slots Q (F0 m (pc + 1) ls (.int v :: rest))) : W p l e R s m args below meth c H locs cells slots Q (F0 m pc ls (.int i :: .ref a :: rest)) := by
  subst hv; exact va_bald hexec hb hK hP q0 t0 ha ht hin hdg kk
theorem my_iast {f g : Nat → Int32} {a nn : Nat} {cA : ClassId} {i x : Int32} (hexec : p.tables.exec = Jvm.exec) (hb : c.code = cc) (hK : va_K D vwCl tys s) (hP : va_P D vwCl wa H) (hD : va_D A wa) (hS : va_S A H0 H locs) (q0 t0 : Nat) (ha : wa[q0]? = some (a, .inl (cA, nn, .inl f))) (ht : tys[t0]? = some (cA, .int)) (hin : vp_in i nn) (hg : g = upd f i.toNatClampNeg x) (hwn : wa.set q0 (a, .inl (cA, nn, .inl g)) = wn) (hdg : decode cc pc = .ok (.iastore, 1)) (kk : ∀ (H1 : Heap) (locs1 : List Loc), va_P D vwCl wn H1 → va_D A wn → va_S A H0 H1 locs1 → W p l e R s m args below meth c H1 locs1 cells slots Q (F0 m (pc + 1) ls rest)) : W p l e R s m args below meth c H locs cells slots Q (F0 m pc ls (.int x :: .int i :: .ref a :: rest)) := by
  subst hwn; subst hg; exact va_iast hexec hb hK hP hD hS q0 t0 ha ht hin hdg kk
theorem my_bast {f g : Nat → Int32} {a nn : Nat} {cA : ClassId} {i x : Int32} (hexec : p.tables.exec = Jvm.exec) (hb : c.code = cc) (hK : va_K D vwCl tys s) (hP : va_P D vwCl wa H) (hD : va_D A wa) (hS : va_S A H0 H locs) (q0 t0 : Nat) (ha : wa[q0]? = some (a, .inl (cA, nn, .inl f))) (ht : tys[t0]? = some (cA, .byte)) (hin : vp_in i nn) (hg : g = upd f i.toNatClampNeg (vp_nar .byte x)) (hwn : wa.set q0 (a, .inl (cA, nn, .inl g)) = wn) (hdg : decode cc pc = .ok (.bastore, 1)) (kk : ∀ (H1 : Heap) (locs1 : List Loc), va_P D vwCl wn H1 → va_D A wn → va_S A H0 H1 locs1 → W p l e R s m args below meth c H1 locs1 cells slots Q (F0 m (pc + 1) ls rest)) : W p l e R s m args below meth c H locs cells slots Q (F0 m pc ls (.int x :: .int i :: .ref a :: rest)) := by
  subst hwn; subst hg; exact va_bast hexec hb hK hP hD hS q0 t0 ha ht hin hdg kk
theorem my_put {ref : String} {T : u_T} {N a : Nat} (hexec : p.tables.exec = Jvm.exec) (hb : c.code = cc) (hts : ∀ w ∈ Ts, w.before args s = true) (hin : ∀ w ∈ u_ws C T N, w ∈ Ts) (ty0 : Nat → FieldType) (hty : ∀ k, k < N → parseFieldDescriptor (T k).2.2.1 = some (ty0 k)) (hnm : ∀ a, a < N → ∀ b, b < N → a ≠ b → (T a).2.1 ≠ (T b).2.1) (hown : s.vm.findClass own = some m.cls) (hK : va_K D vwCl tys s) (hP : va_P D vwCl wa H) (hD : va_D A wa) (hS0 : va_S A H0 H locs) (q0 : Nat) {fs : List Value} (he : wa[q0]? = some (a, .inr (ci, fs))) (hc : vwCl[ci]? = some (C, T, N)) (k : Nat) (hk : k < N) (hlink : (Cond.fieldLink own index ref (T k).2.1 (T k).2.2.1).before args s = true) (hsame : ∀ x, s.fieldFound? (T k).1 (T k).2.1 (T k).2.2.1 = some x → s.fieldFound? ref (T k).2.1 (T k).2.2.1 = some x) (hfin : (T k).2.2.2 = false) {ty : FieldType} {v : Value} (hd : parseFieldDescriptor (T k).2.2.1 = some ty) (hn : narrow ty v = v) (hfit : fits ty v = true) (hl : k < fs.length) (hwn : wa.set q0 (a, .inr (ci, fs.set k v)) = wn) (hdg : decode cc pc = .ok (.putfield index, 3)) (kk : ∀ (H1 : Heap) (locs1 : List Loc), va_P D vwCl wn H1 → va_D A wn → va_S A H0 H1 locs1 → W p l e R s m args below meth c H1 locs1 cells slots Q (F0 m (pc + 3) ls rest)) : W p l e R s m args below meth c H locs cells slots Q (F0 m pc ls (v :: .ref a :: rest)) := by
  subst hwn; exact va_put hexec hb hts hin ty0 hty hnm hown hK hP hD hS0 q0 he hc k hk hlink hsame hfin hd hn hfit hl hdg kk
theorem my_copyi {f g g' : Nat → Int32} {a a0 n0 n1 : Nat} {c0 c1 : ClassId} {ty : FieldType} {sp dp n : Int32} (hexec : p.tables.exec = Jvm.exec) (hb : c.code = cc) (hml : c.maxLocals = ls.size) (hown : s.vm.findClass own = some m.cls) (hlink : (Cond.methodLink own index arraycopyName).before args s = true) (hnat : (Cond.native arraycopyName).before args s = true) (hstat : (Cond.static arraycopyName).before args s = true) (hini : (Cond.initialized "java/lang/System").before args s = true) (hK : va_K D vwCl tys s) (hP : va_P D vwCl wa H) (hD : va_D A wa) (hS : va_S A H0 H locs) (q0 q1 t0 t1 : Nat) (ha0 : wa[q0]? = some (a0, .inl (c0, n0, .inl f))) (ha1 : wa[q1]? = some (a, .inl (c1, n1, .inl g))) (ht0 : tys[t0]? = some (c0, ty)) (ht1 : tys[t1]? = some (c1, ty)) (hprim : refKind ty = false) (h1 : ¬ sp < 0) (h2 : ¬ dp < 0) (h3 : ¬ n < 0) (h4 : sp.toNatClampNeg + n.toNatClampNeg ≤ n0) (h5 : dp.toNatClampNeg + n.toNatClampNeg ≤ n1) (hfit : ∀ i, i < n.toNatClampNeg → fits ty (.int (f (sp.toNatClampNeg + i))) = true) (hframes : 1 ≤ R.frames) (hlocals : (rest.map fun v => v.category).sum + (nativeFrameWords "java/lang/System" "arraycopy" 5 + 11) ≤ R.locals) (hg : g' = va_cpy f g sp.toNatClampNeg dp.toNatClampNeg n.toNatClampNeg) (hwn : wa.set q1 (a, .inl (c1, n1, .inl g')) = wn) (hdg : decode cc pc = .ok (.invokestatic index, 3)) (kk : ∀ (H1 : Heap) (locs1 : List Loc), va_P D vwCl wn H1 → va_D A wn → va_S A H0 H1 locs1 → W p l e R s m args below meth c H1 locs1 cells slots Q (F0 m (pc + 3) ls rest)) : W p l e R s m args below meth c H locs cells slots Q (F0 m pc ls (.int n :: .int dp :: .ref a :: .int sp :: .ref a0 :: rest)) := by
  subst hwn; subst hg; exact va_copyi hexec hb hml hown hlink hnat hstat hini hK hP hD hS q0 q1 t0 t1 ha0 ha1 ht0 ht1 hprim h1 h2 h3 h4 h5 hfit hframes hlocals hdg kk
end KIT1
theorem boolN {g : Int32} (h : g = 0 ∨ g = 1) : narrow .boolean (.int g) = .int g := by rcases h with rfl | rfl <;> rfl
theorem boolF {g : Int32} (h : g = 0 ∨ g = 1) : fits .boolean (.int g) = true := by rcases h with rfl | rfl <;> rfl
abbrev oob (i : Int32) (n : Nat) : Prop := i < 0 ∨ n ≤ i.toNatClampNeg
theorem vp_lit {i : Int32} {n : Nat} (h : decide (oob i n) = false) : vp_in i n := of_decide_eq_false h
abbrev TY (t : Nat → ClassId) : List (ClassId × FieldType) := [(t 0, .int), (t 1, .byte), (t 2, .object RX2), (t 3, .long), (t 4, .double)]
def bnd2 {A0 A1 ρ : Type} (o : Option (A0 × A1)) (k : A0 → A1 → Option ρ) : Option ρ := match o with | some (a0, a1) => k a0 a1 | none => none
theorem bnd2E {A0 A1 ρ : Type} {o : Option (A0 × A1)} {k : A0 → A1 → Option ρ} {r : ρ} (h : bnd2 o k = some r) : ∃ a0 a1, o = some (a0, a1) ∧ k a0 a1 = some r := by
  cases o with
  | none => cases h
  | some a => exact ⟨a.1, a.2, rfl, h⟩
def bnd3 {A0 A1 A2 ρ : Type} (o : Option (A0 × A1 × A2)) (k : A0 → A1 → A2 → Option ρ) : Option ρ := match o with | some (a0, a1, a2) => k a0 a1 a2 | none => none
theorem bnd3E {A0 A1 A2 ρ : Type} {o : Option (A0 × A1 × A2)} {k : A0 → A1 → A2 → Option ρ} {r : ρ} (h : bnd3 o k = some r) : ∃ a0 a1 a2, o = some (a0, a1, a2) ∧ k a0 a1 a2 = some r := by
  cases o with
  | none => cases h
  | some a => exact ⟨a.1, a.2.1, a.2.2, rfl, h⟩
def bnd4 {A0 A1 A2 A3 ρ : Type} (o : Option (A0 × A1 × A2 × A3)) (k : A0 → A1 → A2 → A3 → Option ρ) : Option ρ := match o with | some (a0, a1, a2, a3) => k a0 a1 a2 a3 | none => none
theorem bnd4E {A0 A1 A2 A3 ρ : Type} {o : Option (A0 × A1 × A2 × A3)} {k : A0 → A1 → A2 → A3 → Option ρ} {r : ρ} (h : bnd4 o k = some r) : ∃ a0 a1 a2 a3, o = some (a0, a1, a2, a3) ∧ k a0 a1 a2 a3 = some r := by
  cases o with
  | none => cases h
  | some a => exact ⟨a.1, a.2.1, a.2.2.1, a.2.2.2, rfl, h⟩
def bnd5 {A0 A1 A2 A3 A4 ρ : Type} (o : Option (A0 × A1 × A2 × A3 × A4)) (k : A0 → A1 → A2 → A3 → A4 → Option ρ) : Option ρ := match o with | some (a0, a1, a2, a3, a4) => k a0 a1 a2 a3 a4 | none => none
theorem bnd5E {A0 A1 A2 A3 A4 ρ : Type} {o : Option (A0 × A1 × A2 × A3 × A4)} {k : A0 → A1 → A2 → A3 → A4 → Option ρ} {r : ρ} (h : bnd5 o k = some r) : ∃ a0 a1 a2 a3 a4, o = some (a0, a1, a2, a3, a4) ∧ k a0 a1 a2 a3 a4 = some r := by
  cases o with
  | none => cases h
  | some a => exact ⟨a.1, a.2.1, a.2.2.1, a.2.2.2.1, a.2.2.2.2, rfl, h⟩
def bnd6 {A0 A1 A2 A3 A4 A5 ρ : Type} (o : Option (A0 × A1 × A2 × A3 × A4 × A5)) (k : A0 → A1 → A2 → A3 → A4 → A5 → Option ρ) : Option ρ := match o with | some (a0, a1, a2, a3, a4, a5) => k a0 a1 a2 a3 a4 a5 | none => none
theorem bnd6E {A0 A1 A2 A3 A4 A5 ρ : Type} {o : Option (A0 × A1 × A2 × A3 × A4 × A5)} {k : A0 → A1 → A2 → A3 → A4 → A5 → Option ρ} {r : ρ} (h : bnd6 o k = some r) : ∃ a0 a1 a2 a3 a4 a5, o = some (a0, a1, a2, a3, a4, a5) ∧ k a0 a1 a2 a3 a4 a5 = some r := by
  cases o with
  | none => cases h
  | some a => exact ⟨a.1, a.2.1, a.2.2.1, a.2.2.2.1, a.2.2.2.2.1, a.2.2.2.2.2, rfl, h⟩
def bnd7 {A0 A1 A2 A3 A4 A5 A6 ρ : Type} (o : Option (A0 × A1 × A2 × A3 × A4 × A5 × A6)) (k : A0 → A1 → A2 → A3 → A4 → A5 → A6 → Option ρ) : Option ρ := match o with | some (a0, a1, a2, a3, a4, a5, a6) => k a0 a1 a2 a3 a4 a5 a6 | none => none
theorem bnd7E {A0 A1 A2 A3 A4 A5 A6 ρ : Type} {o : Option (A0 × A1 × A2 × A3 × A4 × A5 × A6)} {k : A0 → A1 → A2 → A3 → A4 → A5 → A6 → Option ρ} {r : ρ} (h : bnd7 o k = some r) : ∃ a0 a1 a2 a3 a4 a5 a6, o = some (a0, a1, a2, a3, a4, a5, a6) ∧ k a0 a1 a2 a3 a4 a5 a6 = some r := by
  cases o with
  | none => cases h
  | some a => exact ⟨a.1, a.2.1, a.2.2.1, a.2.2.2.1, a.2.2.2.2.1, a.2.2.2.2.2.1, a.2.2.2.2.2.2, rfl, h⟩
def bnd8 {A0 A1 A2 A3 A4 A5 A6 A7 ρ : Type} (o : Option (A0 × A1 × A2 × A3 × A4 × A5 × A6 × A7)) (k : A0 → A1 → A2 → A3 → A4 → A5 → A6 → A7 → Option ρ) : Option ρ := match o with | some (a0, a1, a2, a3, a4, a5, a6, a7) => k a0 a1 a2 a3 a4 a5 a6 a7 | none => none
theorem bnd8E {A0 A1 A2 A3 A4 A5 A6 A7 ρ : Type} {o : Option (A0 × A1 × A2 × A3 × A4 × A5 × A6 × A7)} {k : A0 → A1 → A2 → A3 → A4 → A5 → A6 → A7 → Option ρ} {r : ρ} (h : bnd8 o k = some r) : ∃ a0 a1 a2 a3 a4 a5 a6 a7, o = some (a0, a1, a2, a3, a4, a5, a6, a7) ∧ k a0 a1 a2 a3 a4 a5 a6 a7 = some r := by
  cases o with
  | none => cases h
  | some a => exact ⟨a.1, a.2.1, a.2.2.1, a.2.2.2.1, a.2.2.2.2.1, a.2.2.2.2.2.1, a.2.2.2.2.2.2.1, a.2.2.2.2.2.2.2, rfl, h⟩
def bnd9 {A0 A1 A2 A3 A4 A5 A6 A7 A8 ρ : Type} (o : Option (A0 × A1 × A2 × A3 × A4 × A5 × A6 × A7 × A8)) (k : A0 → A1 → A2 → A3 → A4 → A5 → A6 → A7 → A8 → Option ρ) : Option ρ := match o with | some (a0, a1, a2, a3, a4, a5, a6, a7, a8) => k a0 a1 a2 a3 a4 a5 a6 a7 a8 | none => none
theorem bnd9E {A0 A1 A2 A3 A4 A5 A6 A7 A8 ρ : Type} {o : Option (A0 × A1 × A2 × A3 × A4 × A5 × A6 × A7 × A8)} {k : A0 → A1 → A2 → A3 → A4 → A5 → A6 → A7 → A8 → Option ρ} {r : ρ} (h : bnd9 o k = some r) : ∃ a0 a1 a2 a3 a4 a5 a6 a7 a8, o = some (a0, a1, a2, a3, a4, a5, a6, a7, a8) ∧ k a0 a1 a2 a3 a4 a5 a6 a7 a8 = some r := by
  cases o with
  | none => cases h
  | some a => exact ⟨a.1, a.2.1, a.2.2.1, a.2.2.2.1, a.2.2.2.2.1, a.2.2.2.2.2.1, a.2.2.2.2.2.2.1, a.2.2.2.2.2.2.2.1, a.2.2.2.2.2.2.2.2, rfl, h⟩
def bnd10 {A0 A1 A2 A3 A4 A5 A6 A7 A8 A9 ρ : Type} (o : Option (A0 × A1 × A2 × A3 × A4 × A5 × A6 × A7 × A8 × A9)) (k : A0 → A1 → A2 → A3 → A4 → A5 → A6 → A7 → A8 → A9 → Option ρ) : Option ρ := match o with | some (a0, a1, a2, a3, a4, a5, a6, a7, a8, a9) => k a0 a1 a2 a3 a4 a5 a6 a7 a8 a9 | none => none
theorem bnd10E {A0 A1 A2 A3 A4 A5 A6 A7 A8 A9 ρ : Type} {o : Option (A0 × A1 × A2 × A3 × A4 × A5 × A6 × A7 × A8 × A9)} {k : A0 → A1 → A2 → A3 → A4 → A5 → A6 → A7 → A8 → A9 → Option ρ} {r : ρ} (h : bnd10 o k = some r) : ∃ a0 a1 a2 a3 a4 a5 a6 a7 a8 a9, o = some (a0, a1, a2, a3, a4, a5, a6, a7, a8, a9) ∧ k a0 a1 a2 a3 a4 a5 a6 a7 a8 a9 = some r := by
  cases o with
  | none => cases h
  | some a => exact ⟨a.1, a.2.1, a.2.2.1, a.2.2.2.1, a.2.2.2.2.1, a.2.2.2.2.2.1, a.2.2.2.2.2.2.1, a.2.2.2.2.2.2.2.1, a.2.2.2.2.2.2.2.2.1, a.2.2.2.2.2.2.2.2.2, rfl, h⟩
def bnd11 {A0 A1 A2 A3 A4 A5 A6 A7 A8 A9 A10 ρ : Type} (o : Option (A0 × A1 × A2 × A3 × A4 × A5 × A6 × A7 × A8 × A9 × A10)) (k : A0 → A1 → A2 → A3 → A4 → A5 → A6 → A7 → A8 → A9 → A10 → Option ρ) : Option ρ := match o with | some (a0, a1, a2, a3, a4, a5, a6, a7, a8, a9, a10) => k a0 a1 a2 a3 a4 a5 a6 a7 a8 a9 a10 | none => none
theorem bnd11E {A0 A1 A2 A3 A4 A5 A6 A7 A8 A9 A10 ρ : Type} {o : Option (A0 × A1 × A2 × A3 × A4 × A5 × A6 × A7 × A8 × A9 × A10)} {k : A0 → A1 → A2 → A3 → A4 → A5 → A6 → A7 → A8 → A9 → A10 → Option ρ} {r : ρ} (h : bnd11 o k = some r) : ∃ a0 a1 a2 a3 a4 a5 a6 a7 a8 a9 a10, o = some (a0, a1, a2, a3, a4, a5, a6, a7, a8, a9, a10) ∧ k a0 a1 a2 a3 a4 a5 a6 a7 a8 a9 a10 = some r := by
  cases o with
  | none => cases h
  | some a => exact ⟨a.1, a.2.1, a.2.2.1, a.2.2.2.1, a.2.2.2.2.1, a.2.2.2.2.2.1, a.2.2.2.2.2.2.1, a.2.2.2.2.2.2.2.1, a.2.2.2.2.2.2.2.2.1, a.2.2.2.2.2.2.2.2.2.1, a.2.2.2.2.2.2.2.2.2.2, rfl, h⟩
def bnd12 {A0 A1 A2 A3 A4 A5 A6 A7 A8 A9 A10 A11 ρ : Type} (o : Option (A0 × A1 × A2 × A3 × A4 × A5 × A6 × A7 × A8 × A9 × A10 × A11)) (k : A0 → A1 → A2 → A3 → A4 → A5 → A6 → A7 → A8 → A9 → A10 → A11 → Option ρ) : Option ρ := match o with | some (a0, a1, a2, a3, a4, a5, a6, a7, a8, a9, a10, a11) => k a0 a1 a2 a3 a4 a5 a6 a7 a8 a9 a10 a11 | none => none
theorem bnd12E {A0 A1 A2 A3 A4 A5 A6 A7 A8 A9 A10 A11 ρ : Type} {o : Option (A0 × A1 × A2 × A3 × A4 × A5 × A6 × A7 × A8 × A9 × A10 × A11)} {k : A0 → A1 → A2 → A3 → A4 → A5 → A6 → A7 → A8 → A9 → A10 → A11 → Option ρ} {r : ρ} (h : bnd12 o k = some r) : ∃ a0 a1 a2 a3 a4 a5 a6 a7 a8 a9 a10 a11, o = some (a0, a1, a2, a3, a4, a5, a6, a7, a8, a9, a10, a11) ∧ k a0 a1 a2 a3 a4 a5 a6 a7 a8 a9 a10 a11 = some r := by
  cases o with
  | none => cases h
  | some a => exact ⟨a.1, a.2.1, a.2.2.1, a.2.2.2.1, a.2.2.2.2.1, a.2.2.2.2.2.1, a.2.2.2.2.2.2.1, a.2.2.2.2.2.2.2.1, a.2.2.2.2.2.2.2.2.1, a.2.2.2.2.2.2.2.2.2.1, a.2.2.2.2.2.2.2.2.2.2.1, a.2.2.2.2.2.2.2.2.2.2.2, rfl, h⟩
def bnd13 {A0 A1 A2 A3 A4 A5 A6 A7 A8 A9 A10 A11 A12 ρ : Type} (o : Option (A0 × A1 × A2 × A3 × A4 × A5 × A6 × A7 × A8 × A9 × A10 × A11 × A12)) (k : A0 → A1 → A2 → A3 → A4 → A5 → A6 → A7 → A8 → A9 → A10 → A11 → A12 → Option ρ) : Option ρ := match o with | some (a0, a1, a2, a3, a4, a5, a6, a7, a8, a9, a10, a11, a12) => k a0 a1 a2 a3 a4 a5 a6 a7 a8 a9 a10 a11 a12 | none => none
theorem bnd13E {A0 A1 A2 A3 A4 A5 A6 A7 A8 A9 A10 A11 A12 ρ : Type} {o : Option (A0 × A1 × A2 × A3 × A4 × A5 × A6 × A7 × A8 × A9 × A10 × A11 × A12)} {k : A0 → A1 → A2 → A3 → A4 → A5 → A6 → A7 → A8 → A9 → A10 → A11 → A12 → Option ρ} {r : ρ} (h : bnd13 o k = some r) : ∃ a0 a1 a2 a3 a4 a5 a6 a7 a8 a9 a10 a11 a12, o = some (a0, a1, a2, a3, a4, a5, a6, a7, a8, a9, a10, a11, a12) ∧ k a0 a1 a2 a3 a4 a5 a6 a7 a8 a9 a10 a11 a12 = some r := by
  cases o with
  | none => cases h
  | some a => exact ⟨a.1, a.2.1, a.2.2.1, a.2.2.2.1, a.2.2.2.2.1, a.2.2.2.2.2.1, a.2.2.2.2.2.2.1, a.2.2.2.2.2.2.2.1, a.2.2.2.2.2.2.2.2.1, a.2.2.2.2.2.2.2.2.2.1, a.2.2.2.2.2.2.2.2.2.2.1, a.2.2.2.2.2.2.2.2.2.2.2.1, a.2.2.2.2.2.2.2.2.2.2.2.2, rfl, h⟩
def bnd14 {A0 A1 A2 A3 A4 A5 A6 A7 A8 A9 A10 A11 A12 A13 ρ : Type} (o : Option (A0 × A1 × A2 × A3 × A4 × A5 × A6 × A7 × A8 × A9 × A10 × A11 × A12 × A13)) (k : A0 → A1 → A2 → A3 → A4 → A5 → A6 → A7 → A8 → A9 → A10 → A11 → A12 → A13 → Option ρ) : Option ρ := match o with | some (a0, a1, a2, a3, a4, a5, a6, a7, a8, a9, a10, a11, a12, a13) => k a0 a1 a2 a3 a4 a5 a6 a7 a8 a9 a10 a11 a12 a13 | none => none
theorem bnd14E {A0 A1 A2 A3 A4 A5 A6 A7 A8 A9 A10 A11 A12 A13 ρ : Type} {o : Option (A0 × A1 × A2 × A3 × A4 × A5 × A6 × A7 × A8 × A9 × A10 × A11 × A12 × A13)} {k : A0 → A1 → A2 → A3 → A4 → A5 → A6 → A7 → A8 → A9 → A10 → A11 → A12 → A13 → Option ρ} {r : ρ} (h : bnd14 o k = some r) : ∃ a0 a1 a2 a3 a4 a5 a6 a7 a8 a9 a10 a11 a12 a13, o = some (a0, a1, a2, a3, a4, a5, a6, a7, a8, a9, a10, a11, a12, a13) ∧ k a0 a1 a2 a3 a4 a5 a6 a7 a8 a9 a10 a11 a12 a13 = some r := by
  cases o with
  | none => cases h
  | some a => exact ⟨a.1, a.2.1, a.2.2.1, a.2.2.2.1, a.2.2.2.2.1, a.2.2.2.2.2.1, a.2.2.2.2.2.2.1, a.2.2.2.2.2.2.2.1, a.2.2.2.2.2.2.2.2.1, a.2.2.2.2.2.2.2.2.2.1, a.2.2.2.2.2.2.2.2.2.2.1, a.2.2.2.2.2.2.2.2.2.2.2.1, a.2.2.2.2.2.2.2.2.2.2.2.2.1, a.2.2.2.2.2.2.2.2.2.2.2.2.2, rfl, h⟩
def bnd15 {A0 A1 A2 A3 A4 A5 A6 A7 A8 A9 A10 A11 A12 A13 A14 ρ : Type} (o : Option (A0 × A1 × A2 × A3 × A4 × A5 × A6 × A7 × A8 × A9 × A10 × A11 × A12 × A13 × A14)) (k : A0 → A1 → A2 → A3 → A4 → A5 → A6 → A7 → A8 → A9 → A10 → A11 → A12 → A13 → A14 → Option ρ) : Option ρ := match o with | some (a0, a1, a2, a3, a4, a5, a6, a7, a8, a9, a10, a11, a12, a13, a14) => k a0 a1 a2 a3 a4 a5 a6 a7 a8 a9 a10 a11 a12 a13 a14 | none => none
theorem bnd15E {A0 A1 A2 A3 A4 A5 A6 A7 A8 A9 A10 A11 A12 A13 A14 ρ : Type} {o : Option (A0 × A1 × A2 × A3 × A4 × A5 × A6 × A7 × A8 × A9 × A10 × A11 × A12 × A13 × A14)} {k : A0 → A1 → A2 → A3 → A4 → A5 → A6 → A7 → A8 → A9 → A10 → A11 → A12 → A13 → A14 → Option ρ} {r : ρ} (h : bnd15 o k = some r) : ∃ a0 a1 a2 a3 a4 a5 a6 a7 a8 a9 a10 a11 a12 a13 a14, o = some (a0, a1, a2, a3, a4, a5, a6, a7, a8, a9, a10, a11, a12, a13, a14) ∧ k a0 a1 a2 a3 a4 a5 a6 a7 a8 a9 a10 a11 a12 a13 a14 = some r := by
  cases o with
  | none => cases h
  | some a => exact ⟨a.1, a.2.1, a.2.2.1, a.2.2.2.1, a.2.2.2.2.1, a.2.2.2.2.2.1, a.2.2.2.2.2.2.1, a.2.2.2.2.2.2.2.1, a.2.2.2.2.2.2.2.2.1, a.2.2.2.2.2.2.2.2.2.1, a.2.2.2.2.2.2.2.2.2.2.1, a.2.2.2.2.2.2.2.2.2.2.2.1, a.2.2.2.2.2.2.2.2.2.2.2.2.1, a.2.2.2.2.2.2.2.2.2.2.2.2.2.1, a.2.2.2.2.2.2.2.2.2.2.2.2.2.2, rfl, h⟩
def bnd16 {A0 A1 A2 A3 A4 A5 A6 A7 A8 A9 A10 A11 A12 A13 A14 A15 ρ : Type} (o : Option (A0 × A1 × A2 × A3 × A4 × A5 × A6 × A7 × A8 × A9 × A10 × A11 × A12 × A13 × A14 × A15)) (k : A0 → A1 → A2 → A3 → A4 → A5 → A6 → A7 → A8 → A9 → A10 → A11 → A12 → A13 → A14 → A15 → Option ρ) : Option ρ := match o with | some (a0, a1, a2, a3, a4, a5, a6, a7, a8, a9, a10, a11, a12, a13, a14, a15) => k a0 a1 a2 a3 a4 a5 a6 a7 a8 a9 a10 a11 a12 a13 a14 a15 | none => none
theorem bnd16E {A0 A1 A2 A3 A4 A5 A6 A7 A8 A9 A10 A11 A12 A13 A14 A15 ρ : Type} {o : Option (A0 × A1 × A2 × A3 × A4 × A5 × A6 × A7 × A8 × A9 × A10 × A11 × A12 × A13 × A14 × A15)} {k : A0 → A1 → A2 → A3 → A4 → A5 → A6 → A7 → A8 → A9 → A10 → A11 → A12 → A13 → A14 → A15 → Option ρ} {r : ρ} (h : bnd16 o k = some r) : ∃ a0 a1 a2 a3 a4 a5 a6 a7 a8 a9 a10 a11 a12 a13 a14 a15, o = some (a0, a1, a2, a3, a4, a5, a6, a7, a8, a9, a10, a11, a12, a13, a14, a15) ∧ k a0 a1 a2 a3 a4 a5 a6 a7 a8 a9 a10 a11 a12 a13 a14 a15 = some r := by
  cases o with
  | none => cases h
  | some a => exact ⟨a.1, a.2.1, a.2.2.1, a.2.2.2.1, a.2.2.2.2.1, a.2.2.2.2.2.1, a.2.2.2.2.2.2.1, a.2.2.2.2.2.2.2.1, a.2.2.2.2.2.2.2.2.1, a.2.2.2.2.2.2.2.2.2.1, a.2.2.2.2.2.2.2.2.2.2.1, a.2.2.2.2.2.2.2.2.2.2.2.1, a.2.2.2.2.2.2.2.2.2.2.2.2.1, a.2.2.2.2.2.2.2.2.2.2.2.2.2.1, a.2.2.2.2.2.2.2.2.2.2.2.2.2.2.1, a.2.2.2.2.2.2.2.2.2.2.2.2.2.2.2, rfl, h⟩
def bnd17 {A0 A1 A2 A3 A4 A5 A6 A7 A8 A9 A10 A11 A12 A13 A14 A15 A16 ρ : Type} (o : Option (A0 × A1 × A2 × A3 × A4 × A5 × A6 × A7 × A8 × A9 × A10 × A11 × A12 × A13 × A14 × A15 × A16)) (k : A0 → A1 → A2 → A3 → A4 → A5 → A6 → A7 → A8 → A9 → A10 → A11 → A12 → A13 → A14 → A15 → A16 → Option ρ) : Option ρ := match o with | some (a0, a1, a2, a3, a4, a5, a6, a7, a8, a9, a10, a11, a12, a13, a14, a15, a16) => k a0 a1 a2 a3 a4 a5 a6 a7 a8 a9 a10 a11 a12 a13 a14 a15 a16 | none => none
theorem bnd17E {A0 A1 A2 A3 A4 A5 A6 A7 A8 A9 A10 A11 A12 A13 A14 A15 A16 ρ : Type} {o : Option (A0 × A1 × A2 × A3 × A4 × A5 × A6 × A7 × A8 × A9 × A10 × A11 × A12 × A13 × A14 × A15 × A16)} {k : A0 → A1 → A2 → A3 → A4 → A5 → A6 → A7 → A8 → A9 → A10 → A11 → A12 → A13 → A14 → A15 → A16 → Option ρ} {r : ρ} (h : bnd17 o k = some r) : ∃ a0 a1 a2 a3 a4 a5 a6 a7 a8 a9 a10 a11 a12 a13 a14 a15 a16, o = some (a0, a1, a2, a3, a4, a5, a6, a7, a8, a9, a10, a11, a12, a13, a14, a15, a16) ∧ k a0 a1 a2 a3 a4 a5 a6 a7 a8 a9 a10 a11 a12 a13 a14 a15 a16 = some r := by
  cases o with
  | none => cases h
  | some a => exact ⟨a.1, a.2.1, a.2.2.1, a.2.2.2.1, a.2.2.2.2.1, a.2.2.2.2.2.1, a.2.2.2.2.2.2.1, a.2.2.2.2.2.2.2.1, a.2.2.2.2.2.2.2.2.1, a.2.2.2.2.2.2.2.2.2.1, a.2.2.2.2.2.2.2.2.2.2.1, a.2.2.2.2.2.2.2.2.2.2.2.1, a.2.2.2.2.2.2.2.2.2.2.2.2.1, a.2.2.2.2.2.2.2.2.2.2.2.2.2.1, a.2.2.2.2.2.2.2.2.2.2.2.2.2.2.1, a.2.2.2.2.2.2.2.2.2.2.2.2.2.2.2.1, a.2.2.2.2.2.2.2.2.2.2.2.2.2.2.2.2, rfl, h⟩
def bnd18 {A0 A1 A2 A3 A4 A5 A6 A7 A8 A9 A10 A11 A12 A13 A14 A15 A16 A17 ρ : Type} (o : Option (A0 × A1 × A2 × A3 × A4 × A5 × A6 × A7 × A8 × A9 × A10 × A11 × A12 × A13 × A14 × A15 × A16 × A17)) (k : A0 → A1 → A2 → A3 → A4 → A5 → A6 → A7 → A8 → A9 → A10 → A11 → A12 → A13 → A14 → A15 → A16 → A17 → Option ρ) : Option ρ := match o with | some (a0, a1, a2, a3, a4, a5, a6, a7, a8, a9, a10, a11, a12, a13, a14, a15, a16, a17) => k a0 a1 a2 a3 a4 a5 a6 a7 a8 a9 a10 a11 a12 a13 a14 a15 a16 a17 | none => none
theorem bnd18E {A0 A1 A2 A3 A4 A5 A6 A7 A8 A9 A10 A11 A12 A13 A14 A15 A16 A17 ρ : Type} {o : Option (A0 × A1 × A2 × A3 × A4 × A5 × A6 × A7 × A8 × A9 × A10 × A11 × A12 × A13 × A14 × A15 × A16 × A17)} {k : A0 → A1 → A2 → A3 → A4 → A5 → A6 → A7 → A8 → A9 → A10 → A11 → A12 → A13 → A14 → A15 → A16 → A17 → Option ρ} {r : ρ} (h : bnd18 o k = some r) : ∃ a0 a1 a2 a3 a4 a5 a6 a7 a8 a9 a10 a11 a12 a13 a14 a15 a16 a17, o = some (a0, a1, a2, a3, a4, a5, a6, a7, a8, a9, a10, a11, a12, a13, a14, a15, a16, a17) ∧ k a0 a1 a2 a3 a4 a5 a6 a7 a8 a9 a10 a11 a12 a13 a14 a15 a16 a17 = some r := by
  cases o with
  | none => cases h
  | some a => exact ⟨a.1, a.2.1, a.2.2.1, a.2.2.2.1, a.2.2.2.2.1, a.2.2.2.2.2.1, a.2.2.2.2.2.2.1, a.2.2.2.2.2.2.2.1, a.2.2.2.2.2.2.2.2.1, a.2.2.2.2.2.2.2.2.2.1, a.2.2.2.2.2.2.2.2.2.2.1, a.2.2.2.2.2.2.2.2.2.2.2.1, a.2.2.2.2.2.2.2.2.2.2.2.2.1, a.2.2.2.2.2.2.2.2.2.2.2.2.2.1, a.2.2.2.2.2.2.2.2.2.2.2.2.2.2.1, a.2.2.2.2.2.2.2.2.2.2.2.2.2.2.2.1, a.2.2.2.2.2.2.2.2.2.2.2.2.2.2.2.2.1, a.2.2.2.2.2.2.2.2.2.2.2.2.2.2.2.2.2, rfl, h⟩
def bnd19 {A0 A1 A2 A3 A4 A5 A6 A7 A8 A9 A10 A11 A12 A13 A14 A15 A16 A17 A18 ρ : Type} (o : Option (A0 × A1 × A2 × A3 × A4 × A5 × A6 × A7 × A8 × A9 × A10 × A11 × A12 × A13 × A14 × A15 × A16 × A17 × A18)) (k : A0 → A1 → A2 → A3 → A4 → A5 → A6 → A7 → A8 → A9 → A10 → A11 → A12 → A13 → A14 → A15 → A16 → A17 → A18 → Option ρ) : Option ρ := match o with | some (a0, a1, a2, a3, a4, a5, a6, a7, a8, a9, a10, a11, a12, a13, a14, a15, a16, a17, a18) => k a0 a1 a2 a3 a4 a5 a6 a7 a8 a9 a10 a11 a12 a13 a14 a15 a16 a17 a18 | none => none
theorem bnd19E {A0 A1 A2 A3 A4 A5 A6 A7 A8 A9 A10 A11 A12 A13 A14 A15 A16 A17 A18 ρ : Type} {o : Option (A0 × A1 × A2 × A3 × A4 × A5 × A6 × A7 × A8 × A9 × A10 × A11 × A12 × A13 × A14 × A15 × A16 × A17 × A18)} {k : A0 → A1 → A2 → A3 → A4 → A5 → A6 → A7 → A8 → A9 → A10 → A11 → A12 → A13 → A14 → A15 → A16 → A17 → A18 → Option ρ} {r : ρ} (h : bnd19 o k = some r) : ∃ a0 a1 a2 a3 a4 a5 a6 a7 a8 a9 a10 a11 a12 a13 a14 a15 a16 a17 a18, o = some (a0, a1, a2, a3, a4, a5, a6, a7, a8, a9, a10, a11, a12, a13, a14, a15, a16, a17, a18) ∧ k a0 a1 a2 a3 a4 a5 a6 a7 a8 a9 a10 a11 a12 a13 a14 a15 a16 a17 a18 = some r := by
  cases o with
  | none => cases h
  | some a => exact ⟨a.1, a.2.1, a.2.2.1, a.2.2.2.1, a.2.2.2.2.1, a.2.2.2.2.2.1, a.2.2.2.2.2.2.1, a.2.2.2.2.2.2.2.1, a.2.2.2.2.2.2.2.2.1, a.2.2.2.2.2.2.2.2.2.1, a.2.2.2.2.2.2.2.2.2.2.1, a.2.2.2.2.2.2.2.2.2.2.2.1, a.2.2.2.2.2.2.2.2.2.2.2.2.1, a.2.2.2.2.2.2.2.2.2.2.2.2.2.1, a.2.2.2.2.2.2.2.2.2.2.2.2.2.2.1, a.2.2.2.2.2.2.2.2.2.2.2.2.2.2.2.1, a.2.2.2.2.2.2.2.2.2.2.2.2.2.2.2.2.1, a.2.2.2.2.2.2.2.2.2.2.2.2.2.2.2.2.2.1, a.2.2.2.2.2.2.2.2.2.2.2.2.2.2.2.2.2.2, rfl, h⟩
def bnd20 {A0 A1 A2 A3 A4 A5 A6 A7 A8 A9 A10 A11 A12 A13 A14 A15 A16 A17 A18 A19 ρ : Type} (o : Option (A0 × A1 × A2 × A3 × A4 × A5 × A6 × A7 × A8 × A9 × A10 × A11 × A12 × A13 × A14 × A15 × A16 × A17 × A18 × A19)) (k : A0 → A1 → A2 → A3 → A4 → A5 → A6 → A7 → A8 → A9 → A10 → A11 → A12 → A13 → A14 → A15 → A16 → A17 → A18 → A19 → Option ρ) : Option ρ := match o with | some (a0, a1, a2, a3, a4, a5, a6, a7, a8, a9, a10, a11, a12, a13, a14, a15, a16, a17, a18, a19) => k a0 a1 a2 a3 a4 a5 a6 a7 a8 a9 a10 a11 a12 a13 a14 a15 a16 a17 a18 a19 | none => none
theorem bnd20E {A0 A1 A2 A3 A4 A5 A6 A7 A8 A9 A10 A11 A12 A13 A14 A15 A16 A17 A18 A19 ρ : Type} {o : Option (A0 × A1 × A2 × A3 × A4 × A5 × A6 × A7 × A8 × A9 × A10 × A11 × A12 × A13 × A14 × A15 × A16 × A17 × A18 × A19)} {k : A0 → A1 → A2 → A3 → A4 → A5 → A6 → A7 → A8 → A9 → A10 → A11 → A12 → A13 → A14 → A15 → A16 → A17 → A18 → A19 → Option ρ} {r : ρ} (h : bnd20 o k = some r) : ∃ a0 a1 a2 a3 a4 a5 a6 a7 a8 a9 a10 a11 a12 a13 a14 a15 a16 a17 a18 a19, o = some (a0, a1, a2, a3, a4, a5, a6, a7, a8, a9, a10, a11, a12, a13, a14, a15, a16, a17, a18, a19) ∧ k a0 a1 a2 a3 a4 a5 a6 a7 a8 a9 a10 a11 a12 a13 a14 a15 a16 a17 a18 a19 = some r := by
  cases o with
  | none => cases h
  | some a => exact ⟨a.1, a.2.1, a.2.2.1, a.2.2.2.1, a.2.2.2.2.1, a.2.2.2.2.2.1, a.2.2.2.2.2.2.1, a.2.2.2.2.2.2.2.1, a.2.2.2.2.2.2.2.2.1, a.2.2.2.2.2.2.2.2.2.1, a.2.2.2.2.2.2.2.2.2.2.1, a.2.2.2.2.2.2.2.2.2.2.2.1, a.2.2.2.2.2.2.2.2.2.2.2.2.1, a.2.2.2.2.2.2.2.2.2.2.2.2.2.1, a.2.2.2.2.2.2.2.2.2.2.2.2.2.2.1, a.2.2.2.2.2.2.2.2.2.2.2.2.2.2.2.1, a.2.2.2.2.2.2.2.2.2.2.2.2.2.2.2.2.1, a.2.2.2.2.2.2.2.2.2.2.2.2.2.2.2.2.2.1, a.2.2.2.2.2.2.2.2.2.2.2.2.2.2.2.2.2.2.1, a.2.2.2.2.2.2.2.2.2.2.2.2.2.2.2.2.2.2.2, rfl, h⟩
theorem swOut0_11 {x : Int32} (c0 : ¬ x = 0) (c1 : ¬ x = 1) (c2 : ¬ x = 2) (c3 : ¬ x = 3) (c4 : ¬ x = 4) (c5 : ¬ x = 5) (c6 : ¬ x = 6) (c7 : ¬ x = 7) (c8 : ¬ x = 8) (c9 : ¬ x = 9) (c10 : ¬ x = 10) (c11 : ¬ x = 11) : x.toInt < 0 ∨ 11 < x.toInt := by
  have e : ∀ k : Int32, x.toInt = k.toInt → x = k := fun k h => Int32.toInt_inj.mp h
  have n0 : x.toInt ≠ 0 := fun h => c0 (e 0 (h.trans (by decide)))
  have n1 : x.toInt ≠ 1 := fun h => c1 (e 1 (h.trans (by decide)))
  have n2 : x.toInt ≠ 2 := fun h => c2 (e 2 (h.trans (by decide)))
  have n3 : x.toInt ≠ 3 := fun h => c3 (e 3 (h.trans (by decide)))
  have n4 : x.toInt ≠ 4 := fun h => c4 (e 4 (h.trans (by decide)))
  have n5 : x.toInt ≠ 5 := fun h => c5 (e 5 (h.trans (by decide)))
  have n6 : x.toInt ≠ 6 := fun h => c6 (e 6 (h.trans (by decide)))
  have n7 : x.toInt ≠ 7 := fun h => c7 (e 7 (h.trans (by decide)))
  have n8 : x.toInt ≠ 8 := fun h => c8 (e 8 (h.trans (by decide)))
  have n9 : x.toInt ≠ 9 := fun h => c9 (e 9 (h.trans (by decide)))
  have n10 : x.toInt ≠ 10 := fun h => c10 (e 10 (h.trans (by decide)))
  have n11 : x.toInt ≠ 11 := fun h => c11 (e 11 (h.trans (by decide)))
  omega
theorem swOut0_3 {x : Int32} (c0 : ¬ x = 0) (c1 : ¬ x = 1) (c2 : ¬ x = 2) (c3 : ¬ x = 3) : x.toInt < 0 ∨ 3 < x.toInt := by
  have e : ∀ k : Int32, x.toInt = k.toInt → x = k := fun k h => Int32.toInt_inj.mp h
  have n0 : x.toInt ≠ 0 := fun h => c0 (e 0 (h.trans (by decide)))
  have n1 : x.toInt ≠ 1 := fun h => c1 (e 1 (h.trans (by decide)))
  have n2 : x.toInt ≠ 2 := fun h => c2 (e 2 (h.trans (by decide)))
  have n3 : x.toInt ≠ 3 := fun h => c3 (e 3 (h.trans (by decide)))
  omega
theorem swOut0_5 {x : Int32} (c0 : ¬ x = 0) (c1 : ¬ x = 1) (c2 : ¬ x = 2) (c3 : ¬ x = 3) (c4 : ¬ x = 4) (c5 : ¬ x = 5) : x.toInt < 0 ∨ 5 < x.toInt := by
  have e : ∀ k : Int32, x.toInt = k.toInt → x = k := fun k h => Int32.toInt_inj.mp h
  have n0 : x.toInt ≠ 0 := fun h => c0 (e 0 (h.trans (by decide)))
  have n1 : x.toInt ≠ 1 := fun h => c1 (e 1 (h.trans (by decide)))
  have n2 : x.toInt ≠ 2 := fun h => c2 (e 2 (h.trans (by decide)))
  have n3 : x.toInt ≠ 3 := fun h => c3 (e 3 (h.trans (by decide)))
  have n4 : x.toInt ≠ 4 := fun h => c4 (e 4 (h.trans (by decide)))
  have n5 : x.toInt ≠ 5 := fun h => c5 (e 5 (h.trans (by decide)))
  omega
theorem swOut0_29 {x : Int32} (c0 : ¬ x = 0) (c1 : ¬ x = 1) (c2 : ¬ x = 2) (c3 : ¬ x = 3) (c4 : ¬ x = 4) (c5 : ¬ x = 5) (c6 : ¬ x = 6) (c7 : ¬ x = 7) (c8 : ¬ x = 8) (c9 : ¬ x = 9) (c10 : ¬ x = 10) (c11 : ¬ x = 11) (c12 : ¬ x = 12) (c13 : ¬ x = 13) (c14 : ¬ x = 14) (c15 : ¬ x = 15) (c16 : ¬ x = 16) (c17 : ¬ x = 17) (c18 : ¬ x = 18) (c19 : ¬ x = 19) (c20 : ¬ x = 20) (c21 : ¬ x = 21) (c22 : ¬ x = 22) (c23 : ¬ x = 23) (c24 : ¬ x = 24) (c25 : ¬ x = 25) (c26 : ¬ x = 26) (c27 : ¬ x = 27) (c28 : ¬ x = 28) (c29 : ¬ x = 29) : x.toInt < 0 ∨ 29 < x.toInt := by
  have e : ∀ k : Int32, x.toInt = k.toInt → x = k := fun k h => Int32.toInt_inj.mp h
  have n0 : x.toInt ≠ 0 := fun h => c0 (e 0 (h.trans (by decide)))
  have n1 : x.toInt ≠ 1 := fun h => c1 (e 1 (h.trans (by decide)))
  have n2 : x.toInt ≠ 2 := fun h => c2 (e 2 (h.trans (by decide)))
  have n3 : x.toInt ≠ 3 := fun h => c3 (e 3 (h.trans (by decide)))
  have n4 : x.toInt ≠ 4 := fun h => c4 (e 4 (h.trans (by decide)))
  have n5 : x.toInt ≠ 5 := fun h => c5 (e 5 (h.trans (by decide)))
  have n6 : x.toInt ≠ 6 := fun h => c6 (e 6 (h.trans (by decide)))
  have n7 : x.toInt ≠ 7 := fun h => c7 (e 7 (h.trans (by decide)))
  have n8 : x.toInt ≠ 8 := fun h => c8 (e 8 (h.trans (by decide)))
  have n9 : x.toInt ≠ 9 := fun h => c9 (e 9 (h.trans (by decide)))
  have n10 : x.toInt ≠ 10 := fun h => c10 (e 10 (h.trans (by decide)))
  have n11 : x.toInt ≠ 11 := fun h => c11 (e 11 (h.trans (by decide)))
  have n12 : x.toInt ≠ 12 := fun h => c12 (e 12 (h.trans (by decide)))
  have n13 : x.toInt ≠ 13 := fun h => c13 (e 13 (h.trans (by decide)))
  have n14 : x.toInt ≠ 14 := fun h => c14 (e 14 (h.trans (by decide)))
  have n15 : x.toInt ≠ 15 := fun h => c15 (e 15 (h.trans (by decide)))
  have n16 : x.toInt ≠ 16 := fun h => c16 (e 16 (h.trans (by decide)))
  have n17 : x.toInt ≠ 17 := fun h => c17 (e 17 (h.trans (by decide)))
  have n18 : x.toInt ≠ 18 := fun h => c18 (e 18 (h.trans (by decide)))
  have n19 : x.toInt ≠ 19 := fun h => c19 (e 19 (h.trans (by decide)))
  have n20 : x.toInt ≠ 20 := fun h => c20 (e 20 (h.trans (by decide)))
  have n21 : x.toInt ≠ 21 := fun h => c21 (e 21 (h.trans (by decide)))
  have n22 : x.toInt ≠ 22 := fun h => c22 (e 22 (h.trans (by decide)))
  have n23 : x.toInt ≠ 23 := fun h => c23 (e 23 (h.trans (by decide)))
  have n24 : x.toInt ≠ 24 := fun h => c24 (e 24 (h.trans (by decide)))
  have n25 : x.toInt ≠ 25 := fun h => c25 (e 25 (h.trans (by decide)))
  have n26 : x.toInt ≠ 26 := fun h => c26 (e 26 (h.trans (by decide)))
  have n27 : x.toInt ≠ 27 := fun h => c27 (e 27 (h.trans (by decide)))
  have n28 : x.toInt ≠ 28 := fun h => c28 (e 28 (h.trans (by decide)))
  have n29 : x.toInt ≠ 29 := fun h => c29 (e 29 (h.trans (by decide)))
  omega
