/-! ===== constructors: they end in a world with new cells ===== -/
def Qcr {ι : Type} (D : va_G) (A : Nat → Prop) (W1 : ι → va_W) : Array Value → State → Outcome → State → Prop := fun _ st o t => ∃ q : ι, o = .returned none ∧ va_P D vwCl (W1 q) t.heap ∧ va_D A (W1 q) ∧ va_F A st t
abbrev CrM (l : Launch) (D : va_G) (tys : List (ClassId × FieldType)) (z : Nat) (x : Nat → Nat) (y : MethodName) (ws : List Cond) (rm : Room) (av : List Value) (W0 : va_W) {ι : Type} (W1 : ι → va_W) (sz : Nat) (mc ms : Nat) : Prop := Met l y ws rm (Pwr D tys z x av W0 sz) (Qcr D (va_A W0 sz) W1) mc ms (va_A W0 sz)
theorem ra_inj {U : State} {c1 c2 : ClassId} {ty : FieldType} (h1 : va_RA U c1 ty) (h2 : va_RA U c2 ty) : c1 = c2 := by
  cases ty with
  | object C =>
    obtain ⟨k1, p1, -, -, -, e1⟩ := h1
    obtain ⟨k2, p2, -, -, -, e2⟩ := h2
    exact Option.some.inj (e1.symm.trans e2)
  | _ => exact Option.some.inj ((show U.vm.findClass _ = some c1 from h1).symm.trans h2)
section KIT4
variable {p : Program} {l : Launch} {e : Env} {R : Room} {s : State} {m : MethodId} {args : Array Value} {below : List Frame} {meth : Method} {c : Code} {H H0 : Heap} {locs : List Loc} {cells slots : Nat} {Q : State → Prop}
variable {cc bytes : ByteArray} {pc nL maxL index n mc ms : Nat} {ls : Array Slot} {rest st0 st1 : List Value} {Ts ws ws' : List Cond} {own C host : String} {y : MethodName} {ret : Option FieldType} {rm : Room} {D : va_G} {tys : List (ClassId × FieldType)} {av As : List Value} {W0 wa wr : va_W} {A : Nat → Prop} {b ci : Nat} {z : Nat} {x : Nat → Nat}
theorem cr_of {sz : Nat} {ι : Type} {W1 : ι → va_W} (hy : plainName y.cls = true) (hw : ws = Cond.code y cc maxL ret :: ws') (hav : (lg_sl av).length ≤ maxL)
    (body : ∀ (p : Program) (e : Env) (s : State) (m : MethodId) (args : Array Value) (below : List Frame) (meth : Method) (c : Code) (A : Nat → Prop) (Q : State → Prop), Q = MQ below (Qcr D A W1) args s mc ms A → p.tables.exec = Jvm.exec → c.code = cc → meth.sig.returnType = ret → c.maxLocals = maxL → (∀ w ∈ ws, w.before args s = true) → s.vm.findClass y.cls = some m.cls → meth.locks = false → meth.name = y.name → ∀ (H : Heap) (locs : List Loc), va_P D vwCl W0 H → va_D A W0 → va_S A s.heap H locs → (∀ q : Nat, s.heap.size ≤ q → A q) → (∀ q : Nat, A q → z ≤ q) → CXT D tys z x s s.heap →
      ∀ ls : Array Slot, lv_has ls maxL (lv_args 0 av) → W p l e rm s m args below meth c H locs 0 0 Q (F0 m 0 ls [])) : CrM l D tys z x y ws rm av W0 W1 sz mc ms := by
  refine Met.ofW (cc := cc) (maxL := maxL) (ret := ret) hy hw ?_
  intro p e s m args below meth c s₁ B hml hv
  obtain ⟨hav', hsz, hP, hD0, hz, hC⟩ := hv
  subst hsz
  have hts := atoms_spec (ws := ws) B.pre
  have hown : s.vm.findClass y.cls = some m.cls := findClass_of_methodNamed B.named
  have hin : meth.name = y.name := (name_of_methodNamed B.named B.method).1
  have hl := lv_entry av (n := maxL) hav
  have K := fun ls hl => body p e s m args below meth c (va_A W0 s.heap.size) _ rfl B.exec B.bytes B.returns hml hts hown B.notSynchronized hin s.heap [] hP (hD0.self (sz := s.heap.size)) va_S.rf (fun q h => Or.inr h) hz hC ls hl
  subst hav'
  rw [lg_entry_eq]
  generalize (lg_sl av ++ List.replicate (maxL - (lg_sl av).length) Slot.unset).toArray = ls at hl ⊢
  exact K ls hl
theorem cr_vret {ι : Type} {W1 : ι → va_W} (hx : p.tables.exec = Jvm.exec) (hb : c.code = cc) (hr : meth.sig.returnType = none) (hlocks : meth.locks = false) (hdg : decode cc pc = .ok (.return_, 1)) (hQ : Q = MQ below (Qcr D A W1) args s cells slots A) (hP : va_P D vwCl wa H) (hD : va_D A wa) (hS : va_S A s.heap H locs) (q : ι) (is : List Nat) (his : is.map (fun i => wa[i]?) = (W1 q).map some) (hnd : va_nd is = true) : W p l e R s m args below meth c H locs cells slots Q (F0 m pc ls []) := by
  subst hQ
  exact W.vret hx hb hr (fun t ht _ => ⟨q, rfl, by rw [ht]; exact subP his hP, hD.sub is hnd his, hS.F ht⟩) hS.2.2 hdg
theorem cr_run {a : Array Value} {ι : Type} {W1 wn : ι → va_W} (hr : va_Run p l e R s m args below meth c H locs cells slots mc ms (F0 m pc ls st0) rest (Qcr D (va_A W0 H.size) W1 a) (va_A W0 H.size)) (hP : va_P D vwCl wa H) (hD : va_D A wa) (hS : va_S A H0 H locs) (hA : ∀ q, H0.size ≤ q → A q) (isC isR : List Nat) (hCe : isC.map (fun i => wa[i]?) = W0.map some) (hRe : isR.map (fun i => wa[i]?) = wr.map some) (hnR : va_nd isR = true) (hdis : ∀ i ∈ isR, i ∉ isC) (hwn : ∀ q, wr ++ W1 q = wn q)
    (kk : ∀ (q : ι) (H1 : Heap) (locs1 : List Loc), va_P D vwCl (wn q) H1 → va_D A (wn q) → va_S A H0 H1 locs1 → W p l e R s m args below meth c H1 locs1 (cells + mc) (slots + ms) Q (F0 m (pc + 3) ls rest)) : W p l e R s m args below meth c H locs cells slots Q (F0 m pc ls st0) := by
  have hF := va_free hD hS hA isC hCe
  intro T hT X
  obtain ⟨v, st₀, t, T', L, h0, X', hL, e1, e2, ⟨q, hv, hP1, hD1, hz, hk⟩, st⟩ := hr T hT X
  cases hv
  rw [h0] at hz hk
  rw [← e1] at hz hk hP1
  obtain ⟨hP2, hD2⟩ := va_join (wr := wr) (w1 := W1 q) hP hD isC isR hCe hRe hnR hdis hk hF hP1 hD1
  rw [hwn q] at hP2 hD2
  obtain ⟨t2, a1, b1⟩ := kk q T'.heap (locs ++ L) hP2 hD2
    ⟨Nat.le_trans hS.1 hz, fun q h1 h2 => by rw [hk q (Nat.lt_of_lt_of_le h1 hS.1) (fun z => h2 (hF q z))]; exact hS.2.1 q h1 h2, fun q hq => by
      rcases List.mem_append.mp hq with h | h
      · exact hS.2.2 q h
      · exact hF _ (hL q h)⟩ T' rfl X'
  exact ⟨t2, st t2 a1, b1⟩
theorem crI {ι : Type} {W1 wn : ι → va_W} (S : CallFix p m c cc nL s args Ts own) (hM : CrM l D tys z x y ws rm (.ref b :: As) W0 W1 H.size mc ms) (cw : CallB R s args own index y bytes maxL none ws rm mc ms n ∧ y.name = "<init>" ∧ (Cond.instanceMethod y).before args s = true) (hC : CXT D tys z x s H) (hP : va_P D vwCl wa H) (hD : va_D A wa) (hS : va_S A H0 H locs) (hA : ∀ q, H0.size ≤ q → A q) (hz : ∀ q : Nat, A q → z ≤ q) (isC isR : List Nat) (hCe : isC.map (fun i => wa[i]?) = W0.map some) (hRe : isR.map (fun i => wa[i]?) = wr.map some) (hnC : va_nd isC = true) (hnR : va_nd isR = true) (hdis : ∀ i ∈ isR, i ∉ isC) (hn : As.length = n) (hsz : ls.size = nL) (hst : st0 = As.reverse ++ .ref b :: rest) (hW : (rest.map fun v => v.category).sum ≤ 8) (hdg : decode cc pc = .ok (.invokespecial index, 3)) (hc : cells + mc ≤ R.cells ∧ slots + ms ≤ R.slots) (hwn : ∀ q, wr ++ W1 q = wn q)
    (kk : ∀ (q : ι) (H1 : Heap) (locs1 : List Loc), va_P D vwCl (wn q) H1 → va_D A (wn q) → va_S A H0 H1 locs1 → W p l e R s m args below meth c H1 locs1 (cells + mc) (slots + ms) Q (F0 m (pc + 3) ls rest)) : W p l e R s m args below meth c H locs cells slots Q (F0 m pc ls st0) := by
  have hPc := subP hCe hP
  have hDc := (hD.sub isC hnC hCe).weaken (B := fun _ => True) (fun _ _ _ _ => trivial)
  exact cr_run (va_runI (As := As) (rest := rest) S hM cw ⟨Pwr.blind, fun U hU hW => ⟨rfl, by rw [hU], by rw [hU]; exact hPc, hDc, fun q h => hz q (va_free hD hS hA isC hCe q h), by rw [hU]; exact hC.warm hW⟩⟩ rfl hn hsz hst (lv_room hW) hdg hc) hP hD hS hA isC isR hCe hRe hnR hdis hwn kk
theorem crIN {ι : Type} {W1 wn : ι → va_W} (S : CallFix p m c cc nL s args Ts own) (hM : CrM l D tys z x y ws rm (.ref b :: As) W0 W1 H.size mc ms) (cw : va_CN R s args own index y host bytes maxL none ws rm mc ms n ∧ y.name = "<init>" ∧ (Cond.instanceMethod y).before args s = true) (hC : CXT D tys z x s H) (hP : va_P D vwCl wa H) (hD : va_D A wa) (hS : va_S A H0 H locs) (hA : ∀ q, H0.size ≤ q → A q) (hz : ∀ q : Nat, A q → z ≤ q) (isC isR : List Nat) (hCe : isC.map (fun i => wa[i]?) = W0.map some) (hRe : isR.map (fun i => wa[i]?) = wr.map some) (hnC : va_nd isC = true) (hnR : va_nd isR = true) (hdis : ∀ i ∈ isR, i ∉ isC) (hn : As.length = n) (hsz : ls.size = nL) (hst : st0 = As.reverse ++ .ref b :: rest) (hW : (rest.map fun v => v.category).sum ≤ 8) (hdg : decode cc pc = .ok (.invokespecial index, 3)) (hc : cells + mc ≤ R.cells ∧ slots + ms ≤ R.slots) (hwn : ∀ q, wr ++ W1 q = wn q)
    (kk : ∀ (q : ι) (H1 : Heap) (locs1 : List Loc), va_P D vwCl (wn q) H1 → va_D A (wn q) → va_S A H0 H1 locs1 → W p l e R s m args below meth c H1 locs1 (cells + mc) (slots + ms) Q (F0 m (pc + 3) ls rest)) : W p l e R s m args below meth c H locs cells slots Q (F0 m pc ls st0) := by
  have hPc := subP hCe hP
  have hDc := (hD.sub isC hnC hCe).weaken (B := fun _ => True) (fun _ _ _ _ => trivial)
  exact cr_run (va_runIN (As := As) (rest := rest) S hM cw ⟨Pwr.blind, fun U hU hW => ⟨rfl, by rw [hU], by rw [hU]; exact hPc, hDc, fun q h => hz q (va_free hD hS hA isC hCe q h), by rw [hU]; exact hC.warm hW⟩⟩ rfl hn hsz hst (lv_room hW) hdg hc) hP hD hS hA isC isR hCe hRe hnR hdis hwn kk
theorem my_newa {atype : ArrayType} {ty : FieldType} {c0 : ClassId} {t0 : Nat} {n : Int32} {N' : Nat} {a0 : vp_A} {wn : Nat → va_W} (hexec : p.tables.exec = Jvm.exec) (hb : c.code = cc) (harr : (Cond.arrayClass (newarray.typeOf atype)).before args s = true) (hty : newarray.typeOf atype = ty) (hK : va_K D vwCl tys s) (ht : tys[t0]? = some (c0, ty)) (hP : va_P D vwCl wa H) (hD : va_D A wa) (hS : va_S A H0 H locs) (hA : ∀ q, H0.size ≤ q → A q) (ha : ∀ cA : ClassId, vp_cell cA a0 = arrV cA N' (fun _ => defaultValue ty)) (hn : ¬ n < 0) (hN : n.toNatClampNeg = N') (hbytes : N' * componentBytes ty ≤ 536870912) (hcells : cells + 1 ≤ R.cells) (hslots : slots + N' ≤ R.slots) (hwn : ∀ q, wa ++ [(q, .inl (c0, a0))] = wn q) (hdg : decode cc pc = .ok (.newarray atype, 2)) (kk : ∀ (q : Nat) (H1 : Heap), va_P D vwCl (wn q) H1 → va_D A (wn q) → va_S A H0 H1 locs → W p l e R s m args below meth c H1 locs (cells + 1) (slots + N') Q (F0 m (pc + 2) ls (.ref q :: rest))) : W p l e R s m args below meth c H locs cells slots Q (F0 m pc ls (.int n :: rest)) := by
  refine va_newa (atype := atype) hexec hb harr hty hK hP hD hS hA ha hn hN hbytes hcells hslots hdg (fun q cA H1 hK1 hP1 hD1 hS1 => ?_)
  have e : cA = c0 := by
    have h1 := (hK1.2 tys.length (cA, ty) (by rw [List.getElem?_append_right (Nat.le_refl _), Nat.sub_self]; rfl)).2
    exact ra_inj h1 (hK.2 t0 _ ht).2
  subst e
  rw [hwn q] at hP1 hD1
  exact kk q H1 hP1 hD1 hS1
theorem my_newq {c0 : ClassId} {t0 : Nat} {n : Int32} {N' : Nat} {wn : Nat → va_W} (hexec : p.tables.exec = Jvm.exec) (hb : c.code = cc) (hown : s.vm.findClass own = some m.cls) (hclink : (Cond.classLink own index C).before args s = true) (hover : va_AO C s) (hK : va_K D vwCl tys s) (ht : tys[t0]? = some (c0, .object C)) (hP : va_P D vwCl wa H) (hD : va_D A wa) (hS : va_S A H0 H locs) (hA : ∀ q, H0.size ≤ q → A q) (hn : ¬ n < 0) (hN : n.toNatClampNeg = N') (hbytes : N' * 4 ≤ 536870912) (hcells : cells + 1 ≤ R.cells) (hslots : slots + N' ≤ R.slots) (hwn : ∀ q, wa ++ [(q, .inl (c0, N', .inr (.inr (.inr (.inr (fun _ => none))))))] = wn q) (hdg : decode cc pc = .ok (.anewarray index, 3)) (kk : ∀ (q : Nat) (H1 : Heap), va_P D vwCl (wn q) H1 → va_D A (wn q) → va_S A H0 H1 locs → W p l e R s m args below meth c H1 locs (cells + 1) (slots + N') Q (F0 m (pc + 3) ls (.ref q :: rest))) : W p l e R s m args below meth c H locs cells slots Q (F0 m pc ls (.int n :: rest)) := by
  refine va_newq hexec hb hown hclink hover hK hP hD hS hA hn hN hbytes hcells hslots hdg (fun q cA H1 hK1 hP1 hD1 hS1 => ?_)
  have e : cA = c0 := by
    have h1 := (hK1.2 tys.length (cA, .object C) (by rw [List.getElem?_append_right (Nat.le_refl _), Nat.sub_self]; rfl)).2
    exact ra_inj h1 (hK.2 t0 _ ht).2
  subst e
  rw [hwn q] at hP1 hD1
  exact kk q H1 hP1 hD1 hS1
theorem my_putF {ref : String} {T : u_T} {N a : Nat} {wn : va_W} (hexec : p.tables.exec = Jvm.exec) (hb : c.code = cc) (hts : ∀ w ∈ Ts, w.before args s = true) (hin : ∀ w ∈ u_ws C T N, w ∈ Ts) (ty0 : Nat → FieldType) (hty : ∀ k, k < N → parseFieldDescriptor (T k).2.2.1 = some (ty0 k)) (hnm : ∀ a, a < N → ∀ b, b < N → a ≠ b → (T a).2.1 ≠ (T b).2.1) (hown : s.vm.findClass own = some m.cls) (hK : va_K D vwCl tys s) (hP : va_P D vwCl wa H) (hD : va_D A wa) (hS0 : va_S A H0 H locs) (q0 : Nat) {fs : List Value} (he : wa[q0]? = some (a, .inr (ci, fs))) (hc : vwCl[ci]? = some (C, T, N)) (k : Nat) (hk : k < N) (hlink : (Cond.fieldLink own index ref (T k).2.1 (T k).2.2.1).before args s = true) (hsame : ∀ x, s.fieldFound? (T k).1 (T k).2.1 (T k).2.2.1 = some x → s.fieldFound? ref (T k).2.1 (T k).2.2.1 = some x) (hfin : (T k).2.2.2 = true) (hin2 : meth.name = "<init>") (hdecl : (T k).1 = own) {ty : FieldType} {v : Value} (hd : parseFieldDescriptor (T k).2.2.1 = some ty) (hn : narrow ty v = v) (hfit : fits ty v = true) (hl : k < fs.length) (hwn : wa.set q0 (a, .inr (ci, fs.set k v)) = wn) (hdg : decode cc pc = .ok (.putfield index, 3)) (kk : ∀ (H1 : Heap) (locs1 : List Loc), va_P D vwCl wn H1 → va_D A wn → va_S A H0 H1 locs1 → W p l e R s m args below meth c H1 locs1 cells slots Q (F0 m (pc + 3) ls rest)) : W p l e R s m args below meth c H locs cells slots Q (F0 m pc ls (v :: .ref a :: rest)) := by
  subst hwn; exact va_putF hexec hb hts hin ty0 hty hnm hown hK hP hD hS0 q0 he hc k hk hlink hsame hfin hin2 hdecl hd hn hfit hl hdg kk
theorem wr_fret {v : UInt32} {W1 : va_W} {oc : Option Value} (hx : p.tables.exec = Jvm.exec) (hb : c.code = cc) (hr : meth.sig.returnType = some .float) (hlocks : meth.locks = false) (hdg : decode cc pc = .ok (.freturn, 1)) (ho : oc = some (.float v)) (hQ : Q = MQ below (Qwr D A W1 oc) args s cells slots A) (hP : va_P D vwCl wa H) (hD : va_D A wa) (hS : va_S A s.heap H locs) (is : List Nat) (his : is.map (fun i => wa[i]?) = W1.map some) (hnd : va_nd is = true) : W p l e R s m args below meth c H locs cells slots Q (F0 m pc ls [.float v]) := by
  subst ho
  subst hQ
  exact W.fret hx hb hr (fun t ht _ => ⟨rfl, by rw [ht]; exact subP his hP, hD.sub is hnd his, hS.F ht⟩) hS.2.2 hdg hlocks
end KIT4
