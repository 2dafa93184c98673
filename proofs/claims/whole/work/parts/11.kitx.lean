/-! ===== methods that throw: F's text, and contracts of their throws ===== -/
def inR {ρ : Type} (o : Option ρ) : Option (String ⊕ ρ) := match o with | some r => some (.inr r) | none => none
theorem inRE {ρ : Type} {o : Option ρ} {r : ρ} (h : inR o = some (.inr r)) : o = some r := by
  cases o with
  | none => cases h
  | some a => cases h; rfl
theorem inRN {ρ : Type} {o : Option ρ} {E : String} (h : inR o = some (.inl E)) : False := by
  cases o with
  | none => cases h
  | some a => cases h
def bndx {α ρ : Type} (o : Option (String ⊕ α)) (k : α → Option (String ⊕ ρ)) : Option (String ⊕ ρ) := match o with | none => none | some (.inl e) => some (.inl e) | some (.inr a) => k a
theorem bndxR {α ρ : Type} {o : Option (String ⊕ α)} {k : α → Option (String ⊕ ρ)} {r : ρ} (h : bndx o k = some (.inr r)) : ∃ a, o = some (.inr a) ∧ k a = some (.inr r) := by
  cases o with
  | none => cases h
  | some u => cases u with
    | inl e => cases h
    | inr a => exact ⟨a, rfl, h⟩
theorem bndxT {α ρ : Type} {o : Option (String ⊕ α)} {k : α → Option (String ⊕ ρ)} {E : String} (h : bndx o k = some (.inl E)) : o = some (.inl E) ∨ ∃ a, o = some (.inr a) ∧ k a = some (.inl E) := by
  cases o with
  | none => cases h
  | some u => cases u with
    | inl e => cases h; exact Or.inl rfl
    | inr a => exact Or.inr ⟨a, rfl, h⟩
def Xth (E : String) (Hh : Heap) : String → State → State → Prop := fun E' _ t => E' = E ∧ Hh.size ≤ t.heap.size ∧ ∀ q : Nat, q < Hh.size → t.heap[q]? = Hh[q]?
abbrev ThM (l : Launch) (D : va_G) (tys : List (ClassId × FieldType)) (z : Nat) (x : Nat → Nat) (y : MethodName) (ws : List Cond) (rm : Room) (av : List Value) (W0 : va_W) (Hh : Heap) (E : String) : Prop := vx_Met l y ws rm (Prd D tys z x av W0 Hh) (fun _ _ _ _ => False) (Xth E Hh) 1 6 (fun _ => False)
section KIT3
variable {p : Program} {l : Launch} {e : Env} {R : Room} {s : State} {m : MethodId} {args : Array Value} {below : List Frame} {meth : Method} {c : Code} {H H0 : Heap} {locs : List Loc} {cells slots : Nat} {Q : State → Prop}
variable {cc bytes : ByteArray} {pc nL maxL index n : Nat} {ls : Array Slot} {rest st0 st1 : List Value} {Ts ws ws' : List Cond} {own C host : String} {y : MethodName} {ret : Option FieldType} {rm : Room} {D : va_G} {tys : List (ClassId × FieldType)} {av As : List Value} {W0 : va_W} {b ci : Nat} {z : Nat} {x : Nat → Nat} {E : String}
theorem th_of (hy : plainName y.cls = true) (hw : ws = Cond.code y cc maxL ret :: ws') (hav : (lg_sl av).length ≤ maxL)
    (body : ∀ (p : Program) (e : Env) (s : State) (m : MethodId) (args : Array Value) (below : List Frame) (meth : Method) (c : Code) (Q : State → Prop), Q = vx_MQ below (fun _ _ _ _ => False) (Xth E H) args s 1 6 (fun _ => False) → p.tables.exec = Jvm.exec → c.code = cc → meth.sig.returnType = ret → c.maxLocals = maxL → (∀ w ∈ ws, w.before args s = true) → s.vm.findClass y.cls = some m.cls → meth.locks = false → s.heap = H → (∀ k ∈ c.exceptionTable.toList, False) → va_P D vwCl W0 H → CXT D tys z x s H →
      ∀ ls : Array Slot, lv_has ls maxL (lv_args 0 av) → W p l e rm s m args below meth c H [] 0 0 Q (F0 m 0 ls [])) : ThM l D tys z x y ws rm av W0 H E := by
  refine vx_ofW (cc := cc) (maxL := maxL) (ret := ret) hy hw ?_
  intro p e s m args below meth c s₁ B hml htab hv
  obtain ⟨hav', hH, hP, hC⟩ := hv
  have hts := atoms_spec (ws := ws) B.pre
  have hown : s.vm.findClass y.cls = some m.cls := findClass_of_methodNamed B.named
  have hl := lv_entry av (n := maxL) hav
  have K := fun ls hl => body p e s m args below meth c _ rfl B.exec B.bytes B.returns hml hts hown B.notSynchronized hH htab hP hC ls hl
  subst hav'
  rw [lg_entry_eq]
  generalize (lg_sl av ++ List.replicate (maxL - (lg_sl av).length) Slot.unset).toArray = ls at hl ⊢
  rw [hH]
  exact K ls hl
theorem th_throw {cls : String} {names : List String} {ik ic : Nat} (hx : p.tables.exec = Jvm.exec) (hb : c.code = cc) (hfl : l.stackTraces = false) (hown : s.vm.findClass own = some m.cls) (hk : (Cond.classLink own ik cls).before args s = true) (hi : (Cond.initialized cls).before args s = true) (hat : ∀ w ∈ vx_at0 own ic cls names, w.before args s = true) (hSr : va_S (fun q => z ≤ q) s.heap H []) (hCs : CXT D tys z x s s.heap) (hsz : ls.size = c.maxLocals) (d0 : decode cc pc = .ok (.new ik, 3)) (d3 : decode cc (pc + 3) = .ok (.dup, 1)) (d4 : decode cc (pc + 4) = .ok (.invokespecial ic, 3)) (d7 : decode cc (pc + 7) = .ok (.athrow, 1)) (htab : ∀ k ∈ c.exceptionTable.toList, False) (hRf : names.length + 3 < R.frames) (hRl : (rest.map fun v => v.category).sum + (13 * (names.length + 1) + 42) ≤ R.locals) (hRc : 1 ≤ R.cells ∧ 6 ≤ R.slots) (hlocks : meth.locks = false) (hQ : Q = vx_MQ below (fun _ _ _ _ => False) (Xth cls H) args s 1 6 (fun _ => False)) (hcls : Bundle.fit cls = true) (hnames : ∀ n ∈ names, Bundle.fit n = true) (hgood : ∀ w ∈ Cond.classLink own ik cls :: Cond.initialized cls :: vx_at0 own ic cls names, vx_ot w = true) : W p l e R s m args below meth c H [] 0 0 Q (F0 m pc ls rest) := by
  subst hQ
  exact vx_throw0 (A := fun q => z ≤ q) hx hb hfl hown hcls hnames hk hi hat hgood hCs.2.2.1.1 hCs.2.2.1.2.1 hSr hsz d0 d3 d4 d7 (fun k hk => (htab k hk).elim) hRf hRl (by omega) (by omega) hlocks (fun t _ h1 h2 => ⟨rfl, h1, h2⟩) (fun _ h => by cases h) (by omega) (by omega)
theorem th_run {a9 : Array Value} (hr : vx_Run p l e R s m args below meth c H [] 0 0 1 6 (F0 m pc ls st0) rest (fun _ _ _ => False) (Xth E H) (fun _ => False)) (htab : ∀ k ∈ c.exceptionTable.toList, False) (hlocks : meth.locks = false) (hQ : Q = vx_MQ below (fun _ _ _ _ => False) (Xth E H) args s 1 6 (fun _ => False)) : W p l e R s m args below meth c H [] 0 0 Q (F0 m pc ls st0) := by
  subst hQ
  intro T hT X
  rcases hr T hT X with ⟨v, st₀, t, T', L, h0, X', hL, e1, e2, hq, st⟩ | ⟨q, st₀, t, T', L, E', ce, h0, X', hL, e1, e2, ⟨hE, hz, hk⟩, hce, hcv, hcl, st⟩
  · exact hq.elim
  · have hL0 : L = [] := by
      cases L with
      | nil => rfl
      | cons q L => exact (hL q List.mem_cons_self).elim
    subst hL0
    rw [List.append_nil] at X'
    have K : vx_W p l e R s m args below meth c T'.heap [] (0 + 1) (0 + 6) (vx_MQ below (fun _ _ _ _ => False) (Xth E H) args s 1 6 (fun _ => False)) (F0 m pc ls rest) q :=
      vx_out (E := E') (fun k hk => (htab k hk).elim) hlocks (by rw [e1]; exact hce) hcv hcl (fun t' ht' _ => ⟨hE, by rw [ht', e1]; exact hz, fun q hq => by rw [ht', e1]; exact hk q hq⟩) (fun _ h => by cases h) (Nat.le_refl _) (Nat.le_refl _)
    obtain ⟨t2, a1, b1⟩ := K T' rfl X'
    exact ⟨t2, st.trans a1, b1⟩
theorem th_callS (S : CallFix p m c cc nL s args Ts own) (hM : ThM l D tys z x y ws rm As W0 H E) (cw : CallB R s args own index y bytes maxL ret ws rm 1 6 n ∧ (Cond.static y).before args s = true) (hC : CXT D tys z x s H) (hP : va_P D vwCl W0 H) (hn : As.length = n) (hsz : ls.size = nL) (hst : st0 = As.reverse ++ rest) (hW : (rest.map fun v => v.category).sum ≤ 8) (hdg : decode cc pc = .ok (.invokestatic index, 3)) (hc : 1 ≤ R.cells ∧ 6 ≤ R.slots) (htab : ∀ k ∈ c.exceptionTable.toList, False) (hlocks : meth.locks = false) (hQ : Q = vx_MQ below (fun _ _ _ _ => False) (Xth E H) args s 1 6 (fun _ => False)) : W p l e R s m args below meth c H [] 0 0 Q (F0 m pc ls st0) :=
  th_run (a9 := As.toArray) (rest := rest) (vx_runS (As := As) (rest := rest) S hM cw ⟨Prd.blind, fun U hU hW => ⟨rfl, hU, hP, hC.warm hW⟩⟩ rfl hn hsz hst (lv_room hW) hdg ⟨by omega, by omega⟩) htab hlocks hQ
end KIT3
def XthW (D : va_G) (A : Nat → Prop) {α : Type} (Wf : α → va_W) (E : String) : String → State → State → Prop := fun E' st t => E' = E ∧ (∃ a, va_P D vwCl (Wf a) t.heap ∧ va_D A (Wf a)) ∧ va_F A st t
abbrev ThW (l : Launch) (D : va_G) (tys : List (ClassId × FieldType)) (z : Nat) (x : Nat → Nat) (y : MethodName) (ws : List Cond) (rm : Room) (av : List Value) (W0 : va_W) {α : Type} (Wf : α → va_W) (sz : Nat) (E : String) : Prop := vx_Met l y ws rm (Pwr D tys z x av W0 sz) (fun _ _ _ _ => False) (XthW D (va_A W0 sz) Wf E) 1 6 (va_A W0 sz)
section KIT3W
variable {p : Program} {l : Launch} {e : Env} {R : Room} {s : State} {m : MethodId} {args : Array Value} {below : List Frame} {meth : Method} {c : Code} {H H0 : Heap} {locs : List Loc} {cells slots : Nat} {Q : State → Prop}
variable {cc bytes : ByteArray} {pc nL maxL index n : Nat} {ls : Array Slot} {rest st0 st1 : List Value} {Ts ws ws' : List Cond} {own C host : String} {y : MethodName} {ret : Option FieldType} {rm : Room} {D : va_G} {tys : List (ClassId × FieldType)} {av As : List Value} {W0 wa : va_W} {b ci : Nat} {z : Nat} {x : Nat → Nat} {E : String} {A : Nat → Prop} {α : Type} {Wf : α → va_W}
theorem thw_of {sz : Nat} (hy : plainName y.cls = true) (hw : ws = Cond.code y cc maxL ret :: ws') (hav : (lg_sl av).length ≤ maxL)
    (body : ∀ (p : Program) (e : Env) (s : State) (m : MethodId) (args : Array Value) (below : List Frame) (meth : Method) (c : Code) (A : Nat → Prop) (Q : State → Prop), Q = vx_MQ below (fun _ _ _ _ => False) (XthW D A Wf E) args s 1 6 A → p.tables.exec = Jvm.exec → c.code = cc → meth.sig.returnType = ret → c.maxLocals = maxL → (∀ w ∈ ws, w.before args s = true) → s.vm.findClass y.cls = some m.cls → meth.locks = false → (∀ k ∈ c.exceptionTable.toList, False) → ∀ (H : Heap) (locs : List Loc), va_P D vwCl W0 H → va_D A W0 → va_S A s.heap H locs → (∀ q : Nat, s.heap.size ≤ q → A q) → (∀ q : Nat, A q → z ≤ q) → CXT D tys z x s s.heap →
      ∀ ls : Array Slot, lv_has ls maxL (lv_args 0 av) → W p l e rm s m args below meth c H locs 0 0 Q (F0 m 0 ls [])) : ThW l D tys z x y ws rm av W0 Wf sz E := by
  refine vx_ofW (cc := cc) (maxL := maxL) (ret := ret) hy hw ?_
  intro p e s m args below meth c s₁ B hml htab hv
  obtain ⟨hav', hsz, hP, hD0, hz, hC⟩ := hv
  subst hsz
  have hts := atoms_spec (ws := ws) B.pre
  have hown : s.vm.findClass y.cls = some m.cls := findClass_of_methodNamed B.named
  have hl := lv_entry av (n := maxL) hav
  have K := fun ls hl => body p e s m args below meth c (va_A W0 s.heap.size) _ rfl B.exec B.bytes B.returns hml hts hown B.notSynchronized htab s.heap [] hP (hD0.self (sz := s.heap.size)) va_S.rf (fun q h => Or.inr h) hz hC ls hl
  subst hav'
  rw [lg_entry_eq]
  generalize (lg_sl av ++ List.replicate (maxL - (lg_sl av).length) Slot.unset).toArray = ls at hl ⊢
  exact K ls hl
theorem keptA (hP : va_P D vwCl wa H) {H1 : Heap} (h : ∀ q : Nat, q < H.size → H1[q]? = H[q]?) : va_P D vwCl wa H1 := fun k q hk => (hP k q hk).kept (h q.1 (hP k q hk).lt)
theorem thw_throw {cls : String} {names : List String} {ik ic : Nat} (hx : p.tables.exec = Jvm.exec) (hb : c.code = cc) (hfl : l.stackTraces = false) (hown : s.vm.findClass own = some m.cls) (hk : (Cond.classLink own ik cls).before args s = true) (hi : (Cond.initialized cls).before args s = true) (hat : ∀ w ∈ vx_at0 own ic cls names, w.before args s = true) (hP : va_P D vwCl wa H) (hD : va_D A wa) (a : α) (hWf : Wf a = wa) (hS : va_S A s.heap H locs) (hz : ∀ q : Nat, A q → z ≤ q) (hA : ∀ q : Nat, s.heap.size ≤ q → A q) (hC : CXT D tys z x s s.heap) (hsz : ls.size = c.maxLocals) (d0 : decode cc pc = .ok (.new ik, 3)) (d3 : decode cc (pc + 3) = .ok (.dup, 1)) (d4 : decode cc (pc + 4) = .ok (.invokespecial ic, 3)) (d7 : decode cc (pc + 7) = .ok (.athrow, 1)) (htab : ∀ k ∈ c.exceptionTable.toList, False) (hRf : names.length + 3 < R.frames) (hRl : (rest.map fun v => v.category).sum + (13 * (names.length + 1) + 42) ≤ R.locals) (hRc : 1 ≤ R.cells ∧ 6 ≤ R.slots) (hlocks : meth.locks = false) (hQ : Q = vx_MQ below (fun _ _ _ _ => False) (XthW D A Wf cls) args s 1 6 A) (hcls : Bundle.fit cls = true) (hnames : ∀ n ∈ names, Bundle.fit n = true) (hgood : ∀ w ∈ Cond.classLink own ik cls :: Cond.initialized cls :: vx_at0 own ic cls names, vx_ot w = true) : W p l e R s m args below meth c H locs 0 0 Q (F0 m pc ls rest) := by
  subst hQ
  exact vx_throw0 (A := A) hx hb hfl hown hcls hnames hk hi hat hgood (hC.2.2.1.1.narrow hz) (hC.2.2.1.2.1.narrow hz) hS hsz d0 d3 d4 d7 (fun k hk => (htab k hk).elim) hRf hRl (by omega) (by omega) hlocks (fun t _ h1 h2 => ⟨rfl, ⟨a, by rw [hWf]; exact keptA hP h2, by rw [hWf]; exact hD⟩, ⟨Nat.le_trans hS.1 h1, fun q q1 q2 => by rw [h2 q (Nat.lt_of_lt_of_le q1 hS.1)]; exact hS.2.1 q q1 q2⟩⟩) hS.2.2 (by omega) (by omega)
theorem thw_callS {W1 : va_W} (S : CallFix p m c cc nL s args Ts own) (hM : ThM l D tys z x y ws rm As W1 H E) (cw : CallB R s args own index y bytes maxL ret ws rm 1 6 n ∧ (Cond.static y).before args s = true) (hC : CXT D tys z x s H) (hP1 : va_P D vwCl W1 H) (hP : va_P D vwCl wa H) (hD : va_D A wa) (a : α) (hWf : Wf a = wa) (hS : va_S A s.heap H locs) (hn : As.length = n) (hsz : ls.size = nL) (hst : st0 = As.reverse ++ rest) (hW : (rest.map fun v => v.category).sum ≤ 8) (hdg : decode cc pc = .ok (.invokestatic index, 3)) (hc : 1 ≤ R.cells ∧ 6 ≤ R.slots) (htab : ∀ k ∈ c.exceptionTable.toList, False) (hlocks : meth.locks = false) (hQ : Q = vx_MQ below (fun _ _ _ _ => False) (XthW D A Wf E) args s 1 6 A) : W p l e R s m args below meth c H locs 0 0 Q (F0 m pc ls st0) := by
  subst hQ
  intro T hT X
  rcases vx_runS (As := As) (rest := rest) S hM cw ⟨Prd.blind, fun U hU hW => ⟨rfl, hU, hP1, hC.warm hW⟩⟩ rfl hn hsz hst (lv_room hW) hdg ⟨by omega, by omega⟩ T hT X with ⟨v, st₀, t, T', L, h0, X', hL, e1, e2, hq, st⟩ | ⟨q, st₀, t, T', L, E', ce, h0, X', hL, e1, e2, ⟨hE, h1, h2⟩, hce, hcv, hcl, st⟩
  · exact hq.elim
  · have hL0 : L = [] := by
      cases L with
      | nil => rfl
      | cons q L => exact (hL q List.mem_cons_self).elim
    subst hL0
    rw [List.append_nil] at X'
    have K : vx_W p l e R s m args below meth c T'.heap locs (0 + 1) (0 + 6) (vx_MQ below (fun _ _ _ _ => False) (XthW D A Wf E) args s 1 6 A) (F0 m pc ls rest) q :=
      vx_out (E := E') (fun k hk => (htab k hk).elim) hlocks (by rw [e1]; exact hce) hcv hcl (fun t' ht' _ => ⟨hE, ⟨a, by rw [hWf, ht', e1]; exact keptA hP h2, by rw [hWf]; exact hD⟩, ⟨by rw [ht', e1]; exact Nat.le_trans hS.1 h1, fun q q1 q2 => by rw [ht', e1, h2 q (Nat.lt_of_lt_of_le q1 hS.1)]; exact hS.2.1 q q1 q2⟩⟩) hS.2.2 (Nat.le_refl _) (Nat.le_refl _)
    obtain ⟨t2, a1, b1⟩ := K T' rfl X'
    exact ⟨t2, st.trans a1, b1⟩
end KIT3W

