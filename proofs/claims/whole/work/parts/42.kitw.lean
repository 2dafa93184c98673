/-! ===== a column as one list of cells, and the eight columns that are kept for undo ===== -/
abbrev CS : Type := Int32 × Int32 × Int32 × (Nat → Int32) × Int32 × Int32 × (Nat → Int32) × (Nat → Int32) × (Nat → Int32) × (Nat → Int32) × (Nat → Int32) × Int32 × (Nat → Int32) × (Nat → Int32) × Int32 × (Nat → Int32) × (Nat → Int32) × (Nat → Int32) × (Nat → Int32)
def colW (t : Nat → ClassId) (a : Nat → Nat) (c : CS) : va_W := [((a 0), .inr (2, [.ref (a 12), .ref (a 3), .ref (a 1), .ref (a 9), .ref (a 16), .ref (a 11), .int c.1, .int c.2.1])), ((a 1), .inr (0, [.ref (a 2), .int c.2.2.1])), ((a 2), .inl (t 0, 9, .inl c.2.2.2.1)), ((a 3), .inr (3, [.ref (a 12), .ref (a 5), .ref (a 4), .ref (a 8), .ref (a 6), .ref (a 7), .int c.2.2.2.2.1, .int c.2.2.2.2.2.1])), ((a 4), .inl (t 0, 62, .inl c.2.2.2.2.2.2.1)), ((a 5), .inl (t 0, 120, .inl c.2.2.2.2.2.2.2.1)), ((a 6), .inl (t 0, 62, .inl c.2.2.2.2.2.2.2.2.1)), ((a 7), .inl (t 0, 62, .inl c.2.2.2.2.2.2.2.2.2.1)), ((a 8), .inl (t 0, 62, .inl c.2.2.2.2.2.2.2.2.2.2.1)), ((a 9), .inr (4, [.ref (a 10), .int c.2.2.2.2.2.2.2.2.2.2.2.1])), ((a 10), .inl (t 0, 80, .inl c.2.2.2.2.2.2.2.2.2.2.2.2.1)), ((a 11), .inl (t 0, 31, .inl c.2.2.2.2.2.2.2.2.2.2.2.2.2.1)), ((a 12), .inr (6, [.ref (a 13), .ref (a 15), .ref (a 14), .int c.2.2.2.2.2.2.2.2.2.2.2.2.2.2.1])), ((a 13), .inl (t 0, 120, .inl c.2.2.2.2.2.2.2.2.2.2.2.2.2.2.2.1)), ((a 14), .inl (t 0, 120, .inl c.2.2.2.2.2.2.2.2.2.2.2.2.2.2.2.2.1)), ((a 15), .inl (t 0, 120, .inl c.2.2.2.2.2.2.2.2.2.2.2.2.2.2.2.2.2.1)), ((a 16), .inl (t 0, 4, .inl c.2.2.2.2.2.2.2.2.2.2.2.2.2.2.2.2.2.2))]
def svA (adr : Nat → Nat → Nat) : Nat → Option Nat := fun i => some (adr i 0)
def svF (t : Nat → ClassId) (adr : Nat → Nat → Nat) (sav : Nat → CS) : va_W := (List.range 8).flatMap (fun i => colW t (adr i) (sav i))
def SVT (t : Nat → ClassId) (as : Nat) (adr : Nat → Nat → Nat) (sav : Nat → CS) : va_W := (as, .inl (t 2, 8, .inr (.inr (.inr (.inr (svA adr)))))) :: svF t adr sav
/-! ===== worlds up to their order ===== -/
theorem pP {D : va_G} {ws ws' : va_W} {H : Heap} (hp : ws.Perm ws') (h : va_P D vwCl ws H) : va_P D vwCl ws' H := by
  intro k q hk
  obtain ⟨i, hi⟩ := List.getElem?_of_mem (hp.mem_iff.mpr (List.mem_of_getElem? hk))
  exact h i q hi
theorem nodupD {A : Nat → Prop} {ws : va_W} (h : va_D A ws) : (ws.map (fun q => q.1)).Nodup := by
  rw [List.Nodup, List.pairwise_iff_getElem]
  intro i j hi hj hij he
  rw [List.length_map] at hi hj
  rw [List.getElem_map, List.getElem_map] at he
  have := h.1 i j ws[i] ws[j] (List.getElem?_eq_getElem hi) (List.getElem?_eq_getElem hj) he
  omega
theorem dNodup {A : Nat → Prop} {ws : va_W} (hn : (ws.map (fun q => q.1)).Nodup) (hA : ∀ q ∈ ws, A q.1) : va_D A ws := by
  refine ⟨fun i j p q hi hj he => ?_, fun k q hk => hA q (List.mem_of_getElem? hk)⟩
  obtain ⟨hi1, hi2⟩ := List.getElem?_eq_some_iff.mp hi
  obtain ⟨hj1, hj2⟩ := List.getElem?_eq_some_iff.mp hj
  rw [List.Nodup, List.pairwise_iff_getElem] at hn
  rcases Nat.lt_trichotomy i j with h | h | h
  · exact absurd (by rw [List.getElem_map, List.getElem_map, hi2, hj2]; exact he) (hn i j (by rw [List.length_map]; exact hi1) (by rw [List.length_map]; exact hj1) h)
  · exact h
  · exact absurd (by rw [List.getElem_map, List.getElem_map, hi2, hj2]; exact he.symm) (hn j i (by rw [List.length_map]; exact hj1) (by rw [List.length_map]; exact hi1) h)
theorem pD {A : Nat → Prop} {ws ws' : va_W} (hp : ws.Perm ws') (h : va_D A ws) : va_D A ws' :=
  dNodup ((hp.map _).nodup_iff.mp (nodupD h)) (fun q hq => by
    obtain ⟨i, hi⟩ := List.getElem?_of_mem (hp.mem_iff.mpr hq)
    exact h.2 i q hi)
theorem perm_is {we wp : va_W} {n : Nat} (is : List Nat) (h : is.map (fun i => we[i]?) = wp.map some) (hn : we.length = n) (hp : is.Perm (List.range n)) : we.Perm wp := by
  have h1 : (we.map some).Perm (wp.map some) := by
    rw [← h]
    have h2 : we.map some = (List.range n).map (fun i => we[i]?) := by
      apply List.ext_getElem?
      intro i
      rw [List.getElem?_map, List.getElem?_map]
      by_cases hi : i < n
      · rw [List.getElem?_range hi]
        have hi' : i < we.length := by omega
        rw [List.getElem?_eq_getElem hi']
        simp [List.getElem?_eq_getElem hi']
      · rw [List.getElem?_eq_none (by omega), List.getElem?_eq_none (by rw [List.length_range]; omega)]
        rfl
    rw [h2]
    exact (hp.map _).symm
  have h3 := h1.filterMap id
  rw [List.filterMap_map, List.filterMap_map] at h3
  have e : ∀ l : va_W, l.filterMap (id ∘ some) = l := fun l => List.filterMap_some
  rw [e, e] at h3
  exact h3
theorem pt1 {we a r T : va_W} (h : we.Perm (a ++ r)) : (we ++ T).Perm ((a ++ T) ++ r) := by
  refine List.Perm.trans (h.append_right T) ?_
  rw [List.append_assoc, List.append_assoc]
  exact List.Perm.append_left _ List.perm_append_comm
theorem pt2 {a r T : va_W} : ((a ++ T) ++ r).Perm ((a ++ r) ++ T) := by
  rw [List.append_assoc, List.append_assoc]
  exact List.Perm.append_left _ List.perm_append_comm
theorem pt3 {we a r T : va_W} (h : we.Perm (a ++ r)) : (we ++ T).Perm (a ++ (r ++ T)) := by
  rw [← List.append_assoc]
  exact h.append_right T
theorem pt4 {a r T : va_W} : (a ++ (r ++ T)).Perm ((a ++ r) ++ T) := by rw [List.append_assoc]
/-- behind a writer's call, the callee's cells first: the rest isn't looked at -/
theorem va_joinF {A0 : Nat → Prop} {D : va_G} {W0 W1 rs : va_W} {H H1 : Heap} (hP : va_P D vwCl (W0 ++ rs) H) (hD : va_D A0 (W0 ++ rs)) (hk : ∀ q : Nat, q < H.size → ¬ va_A W0 H.size q → H1[q]? = H[q]?) (hF : ∀ q, va_A W0 H.size q → A0 q) (hP1 : va_P D vwCl W1 H1) (hD1 : va_D (va_A W0 H.size) W1) : va_P D vwCl (W1 ++ rs) H1 ∧ va_D A0 (W1 ++ rs) := by
  have hn := nodupD hD
  rw [List.map_append, List.nodup_append] at hn
  have hPr : va_P D vwCl rs H := fun k q hk => hP (W0.length + k) q (by rw [List.getElem?_append_right (Nat.le_add_right _ _), Nat.add_sub_cancel_left]; exact hk)
  have apart : ∀ q ∈ rs, q.1 < H.size ∧ ¬ va_A W0 H.size q.1 := by
    intro q hq
    obtain ⟨k, hk⟩ := List.getElem?_of_mem hq
    have hl := (hPr k q hk).lt
    refine ⟨hl, fun h => ?_⟩
    rcases h with ⟨i, e, h⟩ | h
    · exact hn.2.2 q.1 (List.mem_map.mpr ⟨_, List.mem_of_getElem? h, rfl⟩) q.1 (List.mem_map.mpr ⟨q, hq, rfl⟩) rfl
    · omega
  refine ⟨va_P.app hP1 (fun k q hq => (hPr k q hq).kept (hk q.1 (apart q (List.mem_of_getElem? hq)).1 (apart q (List.mem_of_getElem? hq)).2)), dNodup ?_ ?_⟩
  · rw [List.map_append, List.nodup_append]
    refine ⟨nodupD hD1, hn.2.1, fun a ha b hb hab => ?_⟩
    obtain ⟨q, hq, rfl⟩ := List.mem_map.mp ha
    obtain ⟨r, hr, rfl⟩ := List.mem_map.mp hb
    obtain ⟨i, hi⟩ := List.getElem?_of_mem hq
    exact (apart r hr).2 (by rw [← hab]; exact hD1.2 i q hi)
  · intro q hq
    rcases List.mem_append.mp hq with h | h
    · obtain ⟨i, hi⟩ := List.getElem?_of_mem h
      exact hF _ (hD1.2 i q hi)
    · obtain ⟨i, hi⟩ := List.getElem?_of_mem h
      exact hD.2 (W0.length + i) q (by rw [List.getElem?_append_right (Nat.le_add_right _ _), Nat.add_sub_cancel_left]; exact hi)
section KIT5
variable {p : Program} {l : Launch} {e : Env} {R : Room} {s : State} {m : MethodId} {args : Array Value} {below : List Frame} {meth : Method} {c : Code} {H H0 : Heap} {locs : List Loc} {cells slots : Nat} {Q : State → Prop}
variable {cc bytes : ByteArray} {pc nL maxL index n mc ms : Nat} {ls : Array Slot} {rest st0 st1 : List Value} {Ts ws ws' : List Cond} {own C host : String} {y : MethodName} {ret : Option FieldType} {rm : Room} {D : va_G} {tys : List (ClassId × FieldType)} {av As : List Value} {W0 W1 wa wb wr wn rs : va_W} {A : Nat → Prop} {oc : Option Value} {b ci : Nat} {z : Nat} {x : Nat → Nat}
theorem frF (hD : va_D A (W0 ++ rs)) (hS : va_S A H0 H locs) (hA : ∀ q, H0.size ≤ q → A q) : ∀ q, va_A W0 H.size q → A q := by
  intro q h
  rcases h with ⟨k, e, h⟩ | h
  · exact hD.2 k (q, e) (by rw [List.getElem?_append_left (List.getElem?_eq_some_iff.mp h).1]; exact h)
  · exact hA q (Nat.le_trans hS.1 h)
theorem appP (h : va_P D vwCl (W0 ++ rs) H) : va_P D vwCl W0 H := fun k q hk => h k q (by rw [List.getElem?_append_left (List.getElem?_eq_some_iff.mp hk).1]; exact hk)
theorem appD (h : va_D A (W0 ++ rs)) : va_D A W0 := dNodup (by have := nodupD h; rw [List.map_append, List.nodup_append] at this; exact this.1) (fun q hq => by
  obtain ⟨k, hk⟩ := List.getElem?_of_mem hq
  exact h.2 k q (by rw [List.getElem?_append_left (List.getElem?_eq_some_iff.mp hk).1]; exact hk))
theorem wr_runF {a : Array Value} (hr : va_Run p l e R s m args below meth c H locs cells slots mc ms (F0 m pc ls st0) rest (Qwr D (va_A W0 H.size) W1 oc a) (va_A W0 H.size)) (hP : va_P D vwCl (W0 ++ rs) H) (hD : va_D A (W0 ++ rs)) (hS : va_S A H0 H locs) (hA : ∀ q, H0.size ≤ q → A q) (hst : oc.toList ++ rest = st1)
    (kk : ∀ (H1 : Heap) (locs1 : List Loc), va_P D vwCl (W1 ++ rs) H1 → va_D A (W1 ++ rs) → va_S A H0 H1 locs1 → W p l e R s m args below meth c H1 locs1 (cells + mc) (slots + ms) Q (F0 m (pc + 3) ls st1)) : W p l e R s m args below meth c H locs cells slots Q (F0 m pc ls st0) := by
  subst hst
  have hF := frF hD hS hA
  intro T hT X
  obtain ⟨v, st₀, t, T', L, h0, X', hL, e1, e2, ⟨hv, hP1, hD1, hz, hk⟩, st⟩ := hr T hT X
  cases hv
  rw [h0] at hz hk
  rw [← e1] at hz hk hP1
  obtain ⟨hP2, hD2⟩ := va_joinF hP hD hk hF hP1 hD1
  obtain ⟨t2, a1, b1⟩ := kk T'.heap (locs ++ L) hP2 hD2
    ⟨Nat.le_trans hS.1 hz, fun q h1 h2 => by rw [hk q (Nat.lt_of_lt_of_le h1 hS.1) (fun z => h2 (hF q z))]; exact hS.2.1 q h1 h2, fun q hq => by
      rcases List.mem_append.mp hq with h | h
      · exact hS.2.2 q h
      · exact hF _ (hL q h)⟩ T' rfl X'
  exact ⟨t2, st t2 a1, b1⟩
/-- a writer's call; hp brings the callee's cells to the front, hq the world behind it into its order -/
theorem wrVF {bs : List Value} {r : vw_C} (S : CallFix p m c cc nL s args Ts own) (hM : WrM l D tys z x y ws rm (.ref b :: As) W0 W1 H.size oc mc ms) (cw : CallW R s args own C index y bytes maxL ret ws rm mc ms n) (hC : CXT D tys z x s H) (hP : va_P D vwCl wa H) (hD : va_D A wa) (hS : va_S A H0 H locs) (hA : ∀ q, H0.size ≤ q → A q) (hz : ∀ q : Nat, A q → z ≤ q) (hp : wa.Perm (W0 ++ rs)) (hq : (W1 ++ rs).Perm wn) (q0 : Nat) (hb0 : W0[q0]? = some (b, .inr (ci, bs))) (hcl : vwCl[ci]? = some r) (hrC : r.1 = C) (hn : As.length = n) (hsz : ls.size = nL) (hst : st0 = As.reverse ++ .ref b :: rest) (hW : (rest.map fun v => v.category).sum ≤ 8) (hdg : decode cc pc = .ok (.invokevirtual index, 3)) (hc : cells + mc ≤ R.cells ∧ slots + ms ≤ R.slots) (hst1 : oc.toList ++ rest = st1)
    (kk : ∀ (H1 : Heap) (locs1 : List Loc), va_P D vwCl wn H1 → va_D A wn → va_S A H0 H1 locs1 → W p l e R s m args below meth c H1 locs1 (cells + mc) (slots + ms) Q (F0 m (pc + 3) ls st1)) : W p l e R s m args below meth c H locs cells slots Q (F0 m pc ls st0) := by
  have hP := pP hp hP
  have hD := pD hp hD
  have hPc := appP hP
  have hDc := (appD hD).weaken (B := fun _ => True) (fun _ _ _ _ => trivial)
  exact wr_runF (va_runV (As := As) (rest := rest) S hM cw ⟨Pwr.blind, by subst hrC; exact va_recv hC.1 hPc hcl hb0, fun U hU hW => ⟨rfl, by rw [hU], by rw [hU]; exact hPc, hDc, fun q h => hz q (frF hD hS hA q h), by rw [hU]; exact hC.warm hW⟩⟩ rfl hn hsz hst (lv_room hW) hdg hc) hP hD hS hA hst1 (fun H1 locs1 hP1 hD1 hS1 => kk H1 locs1 (pP hq hP1) (pD hq hD1) hS1)
theorem wr_vretP (hx : p.tables.exec = Jvm.exec) (hb : c.code = cc) (hr : meth.sig.returnType = none) (hlocks : meth.locks = false) (hdg : decode cc pc = .ok (.return_, 1)) (ho : oc = none) (hQ : Q = MQ below (Qwr D A W1 oc) args s cells slots A) (hP : va_P D vwCl wa H) (hD : va_D A wa) (hS : va_S A s.heap H locs) (hp : wa.Perm W1) : W p l e R s m args below meth c H locs cells slots Q (F0 m pc ls []) := by
  subst ho
  subst hQ
  exact W.vret hx hb hr (fun t ht _ => ⟨rfl, by rw [ht]; exact pP hp hP, pD hp hD, hS.F ht⟩) hS.2.2 hdg
theorem wr_iretP {v : Int32} (hx : p.tables.exec = Jvm.exec) (hb : c.code = cc) (hr : meth.sig.returnType = some .int) (hlocks : meth.locks = false) (hdg : decode cc pc = .ok (.ireturn, 1)) (ho : oc = some (.int v)) (hQ : Q = MQ below (Qwr D A W1 oc) args s cells slots A) (hP : va_P D vwCl wa H) (hD : va_D A wa) (hS : va_S A s.heap H locs) (hp : wa.Perm W1) : W p l e R s m args below meth c H locs cells slots Q (F0 m pc ls [.int v]) := by
  subst ho
  subst hQ
  exact W.iret hx hb hr (fun t ht _ => ⟨rfl, by rw [ht]; exact pP hp hP, pD hp hD, hS.F ht⟩) hS.2.2 hdg
theorem my_aldq {f : Nat → Option Nat} {a nn v : Nat} {cA : ClassId} {i : Int32} (hexec : p.tables.exec = Jvm.exec) (hb : c.code = cc) (hK : va_K D vwCl tys s) (hP : va_P D vwCl wa H) (q0 t0 : Nat) (ha : wa[q0]? = some (a, .inl (cA, nn, .inr (.inr (.inr (.inr f)))))) (ht : tys[t0]? = some (cA, .object C)) (hin : vp_in i nn) (hv : f i.toNatClampNeg = some v) (hdg : decode cc pc = .ok (.aaload, 1)) (kk : W p l e R s m args below meth c H locs cells slots Q (F0 m (pc + 1) ls (.ref v :: rest))) : W p l e R s m args below meth c H locs cells slots Q (F0 m pc ls (.int i :: .ref a :: rest)) :=
  va_aldq hexec hb hK hP q0 t0 ha ht hin hdg (by rw [hv]; exact kk)
theorem my_astq {f g : Nat → Option Nat} {a nn v : Nat} {cA : ClassId} {i : Int32} {r : vw_C} {vs : List Value} (hexec : p.tables.exec = Jvm.exec) (hb : c.code = cc) (hK : va_K D vwCl tys s) (hP : va_P D vwCl wa H) (hD : va_D A wa) (hS : va_S A H0 H locs) (q0 t0 qk : Nat) (ha : wa[q0]? = some (a, .inl (cA, nn, .inr (.inr (.inr (.inr f)))))) (ht : tys[t0]? = some (cA, .object r.1)) (hv : wa[qk]? = some (v, .inr (ci, vs))) (hc : vwCl[ci]? = some r) (hin : vp_in i nn) (hg : va_up f i.toNatClampNeg (some v) = g) (hwn : wa.set q0 (a, .inl (cA, nn, .inr (.inr (.inr (.inr g))))) = wn) (hdg : decode cc pc = .ok (.aastore, 1)) (kk : ∀ (H1 : Heap) (locs1 : List Loc), va_P D vwCl wn H1 → va_D A wn → va_S A H0 H1 locs1 → W p l e R s m args below meth c H1 locs1 cells slots Q (F0 m (pc + 1) ls rest)) : W p l e R s m args below meth c H locs cells slots Q (F0 m pc ls (.ref v :: .int i :: .ref a :: rest)) := by
  subst hwn; subst hg; exact va_astq hexec hb hK hP hD hS q0 t0 qk ci ha ht hv hc hin hdg kk
end KIT5
theorem flat_erase {F G : Nat → va_W} {k : Nat} (hk : k < 8) (h : ∀ i, i ≠ k → F i = G i) : ((List.range 8).erase k).flatMap F = ((List.range 8).erase k).flatMap G := by
  have hne : ∀ i ∈ (List.range 8).erase k, i ≠ k := (show ∀ k, k < 8 → ∀ i ∈ (List.range 8).erase k, i ≠ k by decide) k hk
  generalize (List.range 8).erase k = L at hne
  induction L with
  | nil => rfl
  | cons a L ih =>
    rw [List.flatMap_cons, List.flatMap_cons, h a (hne a List.mem_cons_self), ih (fun i hi => hne i (List.mem_cons_of_mem _ hi))]
theorem flat_split {F : Nat → va_W} {k : Nat} (hk : k < 8) : ((List.range 8).flatMap F).Perm (F k ++ ((List.range 8).erase k).flatMap F) := by
  have h := List.Perm.flatMap_right (f := F) (List.perm_cons_erase (List.mem_range.mpr hk))
  rw [List.flatMap_cons] at h
  exact h
def rotA {α : Type} (f : Nat → α) : Nat → α := fun j => if j < 7 then f (j + 1) else if j = 7 then f 0 else f j
theorem svF_rot {t : Nat → ClassId} {adr : Nat → Nat → Nat} {sav : Nat → CS} : (svF t adr sav).Perm (svF t (rotA adr) (rotA sav)) := by
  have h : svF t (rotA adr) (rotA sav) = [1, 2, 3, 4, 5, 6, 7, 0].flatMap (fun i => colW t (adr i) (sav i)) := rfl
  rw [h]
  exact List.Perm.flatMap_right _ (by decide)
abbrev mnC (a_t : Nat) (v0 v1 v2 v3 v4 : Value) (as : Nat) (vc : Value) (sc ea : Int32) : Nat × va_E := (a_t, .inr (7, [v0, v1, v2, v3, v4, .ref as, vc, .int sc, .int ea]))
def fK (adr : Nat → Nat → Nat) (k : Nat) : Nat → Option Nat := fun j => some (adr (if j + 1 < k then j + 1 else j) 0)
theorem fK_1 {adr : Nat → Nat → Nat} : svA adr = fK adr 1 := by funext j; simp [svA, fK]
theorem fK_s {adr : Nat → Nat → Nat} {k : Nat} (h1 : 1 ≤ k) : va_up (fK adr k) (k - 1) (some (adr k 0)) = fK adr (k + 1) := by
  funext j
  simp only [va_up, fK]
  by_cases h : j = k - 1
  · rw [if_pos h, if_pos (by omega), show j + 1 = k by omega]
  · rw [if_neg h]
    by_cases h2 : j + 1 < k
    · rw [if_pos h2, if_pos (by omega)]
    · rw [if_neg h2, if_neg (by omega)]
theorem fK_8 {adr : Nat → Nat → Nat} : va_up (fK adr 8) 7 (some (adr 0 0)) = svA (rotA adr) := by
  funext j
  simp only [va_up, fK, svA, rotA]
  by_cases h : j = 7
  · subst h; simp
  · rw [if_neg h]
    by_cases h2 : j + 1 < 8
    · rw [if_pos h2, if_pos (by omega)]
    · rw [if_neg h2, if_neg (by omega), if_neg h]
theorem svF_obj {t : Nat → ClassId} {adr : Nat → Nat → Nat} {sav : Nat → CS} {k : Nat} (hk : k < 8) : ∃ i vs, (svF t adr sav)[i]? = some (adr k 0, .inr (2, vs)) := by
  have h : ((colW t (adr k) (sav k))[0]?) = some ((adr k 0), (colW t (adr k) (sav k))[0]!.2) := rfl
  have hm : (adr k 0, (colW t (adr k) (sav k))[0]!.2) ∈ svF t adr sav := List.mem_flatMap.mpr ⟨k, List.mem_range.mpr hk, List.mem_of_getElem? h⟩
  obtain ⟨i, hi⟩ := List.getElem?_of_mem hm
  exact ⟨i, _, hi⟩
