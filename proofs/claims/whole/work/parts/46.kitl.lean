/-! ===== the law's own methods that catch ===== -/
abbrev LwM (l : Launch) (D : va_G) (tys : List (ClassId × FieldType)) (z : Nat) (x : Nat → Nat) (y : MethodName) (ws : List Cond) (rm : Room) (av : List Value) (W0 W1 : va_W) (sz : Nat) (oc : Option Value) (mc ms : Nat) : Prop := vx_Met l y ws rm (Pwr D tys z x av W0 sz) (Qwr D (va_A W0 sz) W1 oc) (fun _ _ _ => False) mc ms (va_A W0 sz)
section KIT8
variable {p : Program} {l : Launch} {e : Env} {R : Room} {s : State} {m : MethodId} {args : Array Value} {below : List Frame} {meth : Method} {c : Code} {H H0 : Heap} {locs : List Loc} {cells slots : Nat} {Q : State → Prop}
variable {cc bytes : ByteArray} {pc nL maxL index n mc ms : Nat} {ls : Array Slot} {rest st0 st1 : List Value} {Ts ws ws' : List Cond} {own C host : String} {y : MethodName} {ret : Option FieldType} {rm : Room} {D : va_G} {tys : List (ClassId × FieldType)} {av As : List Value} {W0 W1 wa wn rs : va_W} {A : Nat → Prop} {oc : Option Value} {b ci : Nat} {z : Nat} {x : Nat → Nat} {E : String} {hh : List (Nat × Nat × Nat × Nat)}
theorem lw_of {sz : Nat} (hy : plainName y.cls = true) (hw : ws = Cond.codeWith y cc maxL ret hh :: ws') (hav : (lg_sl av).length ≤ maxL)
    (body : ∀ (p : Program) (e : Env) (s : State) (m : MethodId) (args : Array Value) (below : List Frame) (meth : Method) (c : Code) (A : Nat → Prop) (Q : State → Prop), Q = MQ below (Qwr D A W1 oc) args s mc ms A → p.tables.exec = Jvm.exec → c.code = cc → meth.sig.returnType = ret → c.maxLocals = maxL → (∀ w ∈ ws, w.before args s = true) → s.vm.findClass y.cls = some m.cls → meth.locks = false → c.exceptionTable.toList = tableOf hh → ∀ (H : Heap) (locs : List Loc), va_P D vwCl W0 H → va_D A W0 → va_S A s.heap H locs → (∀ q : Nat, s.heap.size ≤ q → A q) → (∀ q : Nat, A q → z ≤ q) → CXT D tys z x s s.heap →
      ∀ ls : Array Slot, lv_has ls maxL (lv_args 0 av) → W p l e rm s m args below meth c H locs 0 0 Q (F0 m 0 ls [])) : LwM l D tys z x y ws rm av W0 W1 sz oc mc ms := by
  refine vx_ofWH (cc := cc) (maxL := maxL) (ret := ret) (hh := hh) hy hw ?_
  intro p e s m args below meth c s₁ B hml hv
  obtain ⟨hav', hsz, hP, hD0, hz, hC⟩ := hv
  subst hsz
  have hts := atoms_spec (ws := ws) B.pre
  have hown : s.vm.findClass y.cls = some m.cls := findClass_of_methodNamed B.named
  have htab := vx_table (x := y) B (hts _ (by rw [hw]; exact List.mem_cons_self))
  have hl := lv_entry av (n := maxL) hav
  have K := fun ls hl => body p e s m args below meth c (va_A W0 s.heap.size) _ rfl B.exec B.bytes B.returns hml hts hown B.notSynchronized htab s.heap [] hP (hD0.self (sz := s.heap.size)) va_S.rf (fun q h => Or.inr h) hz hC ls hl
  subst hav'
  rw [lg_entry_eq]
  generalize (lg_sl av ++ List.replicate (maxL - (lg_sl av).length) Slot.unset).toArray = ls at hl ⊢
  exact vx_ret (K ls hl)
theorem lw_ofE {sz : Nat} {Qe : (Nat → Prop) → Array Value → State → Outcome → State → Prop} (hy : plainName y.cls = true) (hw : ws = Cond.codeWith y cc maxL ret hh :: ws') (hav : (lg_sl av).length ≤ maxL)
    (body : ∀ (p : Program) (e : Env) (s : State) (m : MethodId) (args : Array Value) (below : List Frame) (meth : Method) (c : Code) (A : Nat → Prop) (Q : State → Prop), Q = MQ below (Qe A) args s mc ms A → p.tables.exec = Jvm.exec → c.code = cc → meth.sig.returnType = ret → c.maxLocals = maxL → (∀ w ∈ ws, w.before args s = true) → s.vm.findClass y.cls = some m.cls → meth.locks = false → c.exceptionTable.toList = tableOf hh → ∀ (H : Heap) (locs : List Loc), va_P D vwCl W0 H → va_D A W0 → va_S A s.heap H locs → (∀ q : Nat, s.heap.size ≤ q → A q) → (∀ q : Nat, A q → z ≤ q) → CXT D tys z x s s.heap →
      ∀ ls : Array Slot, lv_has ls maxL (lv_args 0 av) → W p l e rm s m args below meth c H locs 0 0 Q (F0 m 0 ls [])) : vx_Met l y ws rm (Pwr D tys z x av W0 sz) (Qe (va_A W0 sz)) (fun _ _ _ => False) mc ms (va_A W0 sz) := by
  refine vx_ofWH (cc := cc) (maxL := maxL) (ret := ret) (hh := hh) hy hw ?_
  intro p e s m args below meth c s₁ B hml hv
  obtain ⟨hav', hsz, hP, hD0, hz, hC⟩ := hv
  subst hsz
  have hts := atoms_spec (ws := ws) B.pre
  have hown : s.vm.findClass y.cls = some m.cls := findClass_of_methodNamed B.named
  have htab := vx_table (x := y) B (hts _ (by rw [hw]; exact List.mem_cons_self))
  have hl := lv_entry av (n := maxL) hav
  have K := fun ls hl => body p e s m args below meth c (va_A W0 s.heap.size) _ rfl B.exec B.bytes B.returns hml hts hown B.notSynchronized htab s.heap [] hP (hD0.self (sz := s.heap.size)) va_S.rf (fun q h => Or.inr h) hz hC ls hl
  subst hav'
  rw [lg_entry_eq]
  generalize (lg_sl av ++ List.replicate (maxL - (lg_sl av).length) Slot.unset).toArray = ls at hl ⊢
  exact vx_ret (K ls hl)
theorem we_iretE {α : Type} {Wf : α → va_W} {v : Int32} (a : α) (hx : p.tables.exec = Jvm.exec) (hb : c.code = cc) (hr : meth.sig.returnType = some .int) (hlocks : meth.locks = false) (hdg : decode cc pc = .ok (.ireturn, 1)) (ho : oc = some (.int v)) (hQ : Q = MQ below (fun ar st o u => ∃ a, Qwr D A (Wf a) oc ar st o u) args s cells slots A) (hP : va_P D vwCl wa H) (hD : va_D A wa) (hS : va_S A s.heap H locs) (hp : wa.Perm (Wf a)) : W p l e R s m args below meth c H locs cells slots Q (F0 m pc ls [.int v]) := by
  subst ho
  subst hQ
  exact W.iret hx hb hr (fun t ht _ => ⟨a, rfl, by rw [ht]; exact pP hp hP, pD hp hD, hS.F ht⟩) hS.2.2 hdg
theorem lw_catchV {bs : List Value} {r : vw_C} {name : String} (S : CallFix p m c cc nL s args Ts own) (hM : ThM l D tys z x y ws rm (.ref b :: As) W0 H E) (cw : CallW R s args own C index y bytes maxL ret ws rm 1 6 n) (hC : CXT D tys z x s H) (hP : va_P D vwCl W0 H) (hS : va_S A s.heap H locs) (q0 : Nat) (hb0 : W0[q0]? = some (b, .inr (ci, bs))) (hcl : vwCl[ci]? = some r) (hrC : r.1 = C) (hn : As.length = n) (hsz : ls.size = nL) (hst : st0 = As.reverse ++ .ref b :: rest) (hW : (rest.map fun v => v.category).sum ≤ 8) (hdg : decode cc pc = .ok (.invokevirtual index, 3)) (hc : 1 ≤ R.cells ∧ 6 ≤ R.slots)
    (pre : List ExceptionTableEntry) (xe : ExceptionTableEntry) (suf : List ExceptionTableEntry) (hsplit : c.exceptionTable.toList = pre ++ xe :: suf) (hpass : ∀ z ∈ pre, covers z pc = false ∨ (z.catchType ≠ 0 ∧ ∃ nm : String, (Cond.classLink own z.catchType nm).before args s = true ∧ va_Nc E nm s)) (hxe : covers xe pc = true) (h0 : xe.catchType ≠ 0) (hlink : (Cond.classLink own xe.catchType name).before args s = true) (hcast : (Cond.castable E name).before args s = true)
    (kk : ∀ (q : Nat) (H1 : Heap), va_S A s.heap H1 locs → (∀ q : Nat, q < H.size → H1[q]? = H[q]?) → W p l e R s m args below meth c H1 locs 1 6 Q (F0 m xe.handlerPc ls [.ref q])) : W p l e R s m args below meth c H locs 0 0 Q (F0 m pc ls st0) := by
  intro T hT X
  rcases vx_runV (As := As) (rest := rest) S hM cw ⟨Prd.blind, by subst hrC; exact va_recv hC.1 hP hcl hb0, fun U hU hW => ⟨rfl, hU, hP, hC.warm hW⟩⟩ rfl hn hsz hst (lv_room hW) hdg ⟨by omega, by omega⟩ T hT X with ⟨v, st₀, t, T', L, h0', X', hL, e1, e2, hq, st⟩ | ⟨q, st₀, t, T', L, E', ce, h0', X', hL, e1, e2, ⟨hE, h1, h2⟩, hce, hcv, hcle, st⟩
  · exact hq.elim
  · have hL0 : L = [] := by
      cases L with
      | nil => rfl
      | cons q L => exact (hL q List.mem_cons_self).elim
    subst hL0
    subst hE
    rw [List.append_nil] at X'
    have hk := kk q T'.heap ⟨by rw [e1]; exact Nat.le_trans hS.1 h1, fun a a1 a2 => by rw [e1, h2 a (Nat.lt_of_lt_of_le a1 hS.1)]; exact hS.2.1 a a1 a2, hS.2.2⟩ (fun a ha => by rw [e1]; exact h2 a ha)
    have K : vx_W p l e R s m args below meth c T'.heap locs 1 6 Q (F0 m pc ls rest) q := vx_catch S.2.2.2.1 pre xe suf hsplit hpass hxe h0 hlink hcast (by rw [e1]; exact hce) hcv hcle hk
    obtain ⟨t2, a1, b1⟩ := K T' rfl X'
    exact ⟨t2, st.trans a1, b1⟩
theorem lw_catchW {bs : List Value} {r : vw_C} {name : String} {α : Type} {Wf : α → va_W} (S : CallFix p m c cc nL s args Ts own) (hM : ThW l D tys z x y ws rm (.ref b :: As) W0 Wf H.size E) (cw : CallW R s args own C index y bytes maxL ret ws rm 1 6 n) (hC : CXT D tys z x s H) (hP : va_P D vwCl wa H) (hD : va_D A wa) (hS : va_S A s.heap H locs) (hA : ∀ q, s.heap.size ≤ q → A q) (hz : ∀ q : Nat, A q → z ≤ q) (hp : wa.Perm (W0 ++ rs)) (q0 : Nat) (hb0 : W0[q0]? = some (b, .inr (ci, bs))) (hcl : vwCl[ci]? = some r) (hrC : r.1 = C) (hn : As.length = n) (hsz : ls.size = nL) (hst : st0 = As.reverse ++ .ref b :: rest) (hW : (rest.map fun v => v.category).sum ≤ 8) (hdg : decode cc pc = .ok (.invokevirtual index, 3)) (hc : 1 ≤ R.cells ∧ 6 ≤ R.slots)
    (pre : List ExceptionTableEntry) (xe : ExceptionTableEntry) (suf : List ExceptionTableEntry) (hsplit : c.exceptionTable.toList = pre ++ xe :: suf) (hpass : ∀ z ∈ pre, covers z pc = false ∨ (z.catchType ≠ 0 ∧ ∃ nm : String, (Cond.classLink own z.catchType nm).before args s = true ∧ va_Nc E nm s)) (hxe : covers xe pc = true) (h0 : xe.catchType ≠ 0) (hlink : (Cond.classLink own xe.catchType name).before args s = true) (hcast : (Cond.castable E name).before args s = true)
    (kk : ∀ (a : α) (q : Nat) (H1 : Heap) (locs1 : List Loc), va_P D vwCl (Wf a ++ rs) H1 → va_D A (Wf a ++ rs) → va_S A s.heap H1 locs1 → W p l e R s m args below meth c H1 locs1 1 6 Q (F0 m xe.handlerPc ls [.ref q])) : W p l e R s m args below meth c H locs 0 0 Q (F0 m pc ls st0) := by
  have hP := pP hp hP
  have hD := pD hp hD
  have hPc := appP hP
  have hDc := (appD hD).weaken (B := fun _ => True) (fun _ _ _ _ => trivial)
  have hF := frF hD hS hA
  intro T hT X
  rcases vx_runV (As := As) (rest := rest) S hM cw ⟨Pwr.blind, by subst hrC; exact va_recv hC.1 hPc hcl hb0, fun U hU hW => ⟨rfl, by rw [hU], by rw [hU]; exact hPc, hDc, fun q h => hz q (frF hD hS hA q h), by rw [hU]; exact hC.warm hW⟩⟩ rfl hn hsz hst (lv_room hW) hdg ⟨by omega, by omega⟩ T hT X with ⟨v, st₀, t, T', L, h0', X', hL, e1, e2, hq, st⟩ | ⟨q, st₀, t, T', L, E', ce, h0', X', hL, e1, e2, ⟨hE, ⟨a, hP1, hD1⟩, hz1, hk⟩, hce, hcv, hcle, st⟩
  · exact hq.elim
  · subst hE
    rw [h0'] at hz1 hk
    rw [← e1] at hz1 hk hP1
    obtain ⟨hP2, hD2⟩ := va_joinF hP hD hk hF hP1 hD1
    have hk2 := kk a q T'.heap (locs ++ L) hP2 hD2 ⟨Nat.le_trans hS.1 hz1, fun q h1 h2 => by rw [hk q (Nat.lt_of_lt_of_le h1 hS.1) (fun z => h2 (hF q z))]; exact hS.2.1 q h1 h2, fun q hq => by
      rcases List.mem_append.mp hq with h | h
      · exact hS.2.2 q h
      · exact hF _ (hL q h)⟩
    have K : vx_W p l e R s m args below meth c T'.heap (locs ++ L) 1 6 Q (F0 m pc ls rest) q := vx_catch S.2.2.2.1 pre xe suf hsplit hpass hxe h0 hlink hcast (by rw [e1]; exact hce) hcv hcle hk2
    obtain ⟨t2, a1, b1⟩ := K T' rfl X'
    exact ⟨t2, st.trans a1, b1⟩
theorem lw_callS {α : Type} {Wf wf : α → va_W} {v : Int32} {Qc : Array Value → State → Outcome → State → Prop} (S : CallFix p m c cc nL s args Ts own) (hM : vx_Met l y ws rm (Pwr D tys z x As W0 H.size) Qc (fun _ _ _ => False) mc ms (va_A W0 H.size)) (hQc : ∀ st o u, Qc As.toArray st o u → ∃ a, Qwr D (va_A W0 H.size) (Wf a) (some (.int v)) As.toArray st o u) (cw : vx_CSW R s args own index y bytes maxL ret hh ws rm mc ms n) (hC : CXT D tys z x s H) (hP : va_P D vwCl wa H) (hD : va_D A wa) (hS : va_S A s.heap H locs) (hA : ∀ q, s.heap.size ≤ q → A q) (hz : ∀ q : Nat, A q → z ≤ q) (hp : wa.Perm (W0 ++ rs)) (hq : ∀ a, (Wf a ++ rs).Perm (wf a)) (hn : As.length = n) (hsz : ls.size = nL) (hst : st0 = As.reverse ++ rest) (hW : (rest.map fun v => v.category).sum ≤ 8) (hdg : decode cc pc = .ok (.invokestatic index, 3)) (hc : cells + mc ≤ R.cells ∧ slots + ms ≤ R.slots)
    (kk : ∀ (a : α) (H1 : Heap) (locs1 : List Loc), va_P D vwCl (wf a) H1 → va_D A (wf a) → va_S A s.heap H1 locs1 → W p l e R s m args below meth c H1 locs1 (cells + mc) (slots + ms) Q (F0 m (pc + 3) ls (.int v :: rest))) : W p l e R s m args below meth c H locs cells slots Q (F0 m pc ls st0) := by
  have hP := pP hp hP
  have hD := pD hp hD
  have hPc := appP hP
  have hDc := (appD hD).weaken (B := fun _ => True) (fun _ _ _ _ => trivial)
  have hF := frF hD hS hA
  intro T hT X
  rcases vx_runSX (As := As) (rest := rest) S hM cw ⟨Pwr.blind, fun U hU hW => ⟨rfl, by rw [hU], by rw [hU]; exact hPc, hDc, fun q h => hz q (frF hD hS hA q h), by rw [hU]; exact hC.warm hW⟩⟩ rfl hn hsz hst (lv_room hW) hdg hc T hT X with ⟨v', st₀, t, T', L, h0', X', hL, e1, e2, hq', st⟩ | ⟨q, st₀, t, T', L, E', ce, h0', X', hL, e1, e2, hf, hce, hcv, hcle, st⟩
  · obtain ⟨a, ho, hP1, hD1, hz1, hk⟩ := hQc _ _ _ hq'
    cases ho
    rw [h0'] at hz1 hk
    rw [← e1] at hz1 hk hP1
    obtain ⟨hP2, hD2⟩ := va_joinF hP hD hk hF hP1 hD1
    have hk2 := kk a T'.heap (locs ++ L) (pP (hq a) hP2) (pD (hq a) hD2) ⟨Nat.le_trans hS.1 hz1, fun q h1 h2 => by rw [hk q (Nat.lt_of_lt_of_le h1 hS.1) (fun z => h2 (hF q z))]; exact hS.2.1 q h1 h2, fun q hq => by
      rcases List.mem_append.mp hq with h | h
      · exact hS.2.2 q h
      · exact hF _ (hL q h)⟩
    obtain ⟨t2, a1, b1⟩ := hk2 T' rfl X'
    exact ⟨t2, st t2 a1, b1⟩
  · exact hf.elim
theorem lw_callST {α : Type} {Wf wf : α → va_W} {we T : va_W} {v : Int32} {Qc : Array Value → State → Outcome → State → Prop} (S : CallFix p m c cc nL s args Ts own) (hM : vx_Met l y ws rm (Pwr D tys z x As W0 H.size) Qc (fun _ _ _ => False) mc ms (va_A W0 H.size)) (hQc : ∀ st o u, Qc As.toArray st o u → ∃ a, Qwr D (va_A W0 H.size) (Wf a) (some (.int v)) As.toArray st o u) (cw : vx_CSW R s args own index y bytes maxL ret hh ws rm mc ms n) (hC : CXT D tys z x s H) (hP : va_P D vwCl (we ++ T) H) (hD : va_D A (we ++ T)) (hS : va_S A s.heap H locs) (hA : ∀ q, s.heap.size ≤ q → A q) (hz : ∀ q : Nat, A q → z ≤ q) (m9 : List Bool) (hl9 : m9.length = we.length) (hsel : sel m9 we = W0) (hl1 : ∀ a, (Wf a).length = W0.length) (hmrg : ∀ a, mrg m9 (Wf a) we = wf a) (hn : As.length = n) (hsz : ls.size = nL) (hst : st0 = As.reverse ++ rest) (hW : (rest.map fun v => v.category).sum ≤ 8) (hdg : decode cc pc = .ok (.invokestatic index, 3)) (hc : cells + mc ≤ R.cells ∧ slots + ms ≤ R.slots)
    (kk : ∀ (a : α) (H1 : Heap) (locs1 : List Loc), va_P D vwCl (wf a ++ T) H1 → va_D A (wf a ++ T) → va_S A s.heap H1 locs1 → W p l e R s m args below meth c H1 locs1 (cells + mc) (slots + ms) Q (F0 m (pc + 3) ls (.int v :: rest))) : W p l e R s m args below meth c H locs cells slots Q (F0 m pc ls st0) := by
  subst hsel
  obtain rfl : (fun a => mrg m9 (Wf a) we) = wf := funext hmrg
  exact lw_callS S hM hQc cw hC hP hD hS hA hz (pm3 m9 hl9) (fun a => pm4 m9 hl9 (hl1 a)) hn hsz hst hW hdg hc kk
theorem lw_callSU {α : Type} {Wf wf : α → va_W} {we T : va_W} {Tf : α → va_W} {v : Int32} {Qc : Array Value → State → Outcome → State → Prop} (S : CallFix p m c cc nL s args Ts own) (hM : vx_Met l y ws rm (Pwr D tys z x As (W0 ++ T) H.size) Qc (fun _ _ _ => False) mc ms (va_A (W0 ++ T) H.size)) (hQc : ∀ st o u, Qc As.toArray st o u → ∃ a, Qwr D (va_A (W0 ++ T) H.size) (Wf a ++ Tf a) (some (.int v)) As.toArray st o u) (cw : vx_CSW R s args own index y bytes maxL ret hh ws rm mc ms n) (hC : CXT D tys z x s H) (hP : va_P D vwCl (we ++ T) H) (hD : va_D A (we ++ T)) (hS : va_S A s.heap H locs) (hA : ∀ q, s.heap.size ≤ q → A q) (hz : ∀ q : Nat, A q → z ≤ q) (m9 : List Bool) (hl9 : m9.length = we.length) (hsel : sel m9 we = W0) (hl1 : ∀ a, (Wf a).length = W0.length) (hmrg : ∀ a, mrg m9 (Wf a) we = wf a) (hn : As.length = n) (hsz : ls.size = nL) (hst : st0 = As.reverse ++ rest) (hW : (rest.map fun v => v.category).sum ≤ 8) (hdg : decode cc pc = .ok (.invokestatic index, 3)) (hc : cells + mc ≤ R.cells ∧ slots + ms ≤ R.slots)
    (kk : ∀ (a : α) (H1 : Heap) (locs1 : List Loc), va_P D vwCl (wf a ++ Tf a) H1 → va_D A (wf a ++ Tf a) → va_S A s.heap H1 locs1 → W p l e R s m args below meth c H1 locs1 (cells + mc) (slots + ms) Q (F0 m (pc + 3) ls (.int v :: rest))) : W p l e R s m args below meth c H locs cells slots Q (F0 m pc ls st0) := by
  subst hsel
  obtain rfl : (fun a => mrg m9 (Wf a) we) = wf := funext hmrg
  exact lw_callS (Wf := fun a => Wf a ++ Tf a) S hM hQc cw hC hP hD hS hA hz (pm1 m9 hl9) (fun a => pm2 m9 hl9 (hl1 a)) hn hsz hst hW hdg hc kk
theorem my_last {f g : Nat → Int64} {a nn : Nat} {cA : ClassId} {i : Int32} {v : Int64} (hexec : p.tables.exec = Jvm.exec) (hb : c.code = cc) (hK : va_K D vwCl tys s) (hP : va_P D vwCl wa H) (hD : va_D A wa) (hS : va_S A H0 H locs) (q0 t0 : Nat) (ha : wa[q0]? = some (a, .inl (cA, nn, .inr (.inl f)))) (ht : tys[t0]? = some (cA, .long)) (hin : vp_in i nn) (hg : vp_updL f i.toNatClampNeg v = g) (hwn : wa.set q0 (a, .inl (cA, nn, .inr (.inl g))) = wn) (hdg : decode cc pc = .ok (.lastore, 1)) (kk : ∀ (H1 : Heap) (locs1 : List Loc), va_P D vwCl wn H1 → va_D A wn → va_S A H0 H1 locs1 → W p l e R s m args below meth c H1 locs1 cells slots Q (F0 m (pc + 1) ls rest)) : W p l e R s m args below meth c H locs cells slots Q (F0 m pc ls (.long v :: .int i :: .ref a :: rest)) := by
  subst hwn; subst hg; exact va_last hexec hb hK hP hD hS q0 t0 ha ht hin hdg kk
theorem my_dast {f g : Nat → UInt64} {a nn : Nat} {cA : ClassId} {i : Int32} {v : UInt64} (hexec : p.tables.exec = Jvm.exec) (hb : c.code = cc) (hK : va_K D vwCl tys s) (hP : va_P D vwCl wa H) (hD : va_D A wa) (hS : va_S A H0 H locs) (q0 t0 : Nat) (ha : wa[q0]? = some (a, .inl (cA, nn, .inr (.inr (.inr (.inl f)))))) (ht : tys[t0]? = some (cA, .double)) (hin : vp_in i nn) (hg : vf_upd f i.toNatClampNeg v = g) (hwn : wa.set q0 (a, .inl (cA, nn, .inr (.inr (.inr (.inl g))))) = wn) (hdg : decode cc pc = .ok (.dastore, 1)) (kk : ∀ (H1 : Heap) (locs1 : List Loc), va_P D vwCl wn H1 → va_D A wn → va_S A H0 H1 locs1 → W p l e R s m args below meth c H1 locs1 cells slots Q (F0 m (pc + 1) ls rest)) : W p l e R s m args below meth c H locs cells slots Q (F0 m pc ls (.double v :: .int i :: .ref a :: rest)) := by
  subst hwn; subst hg; exact va_dast hexec hb hK hP hD hS q0 t0 ha ht hin hdg kk
end KIT8
