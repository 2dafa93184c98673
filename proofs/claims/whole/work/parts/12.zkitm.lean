/-! ===== worlds up to their order ===== -/
theorem pP {D : va_G} {ws ws' : va_W} {H : Heap} (hp : ws.Perm ws') (h : va_P D vwCl ws H) : va_P D vwCl ws' H := by
  intro k q hk
  obtain ⟨i, hi⟩ := List.getElem?_of_mem (hp.mem_iff.mpr (List.mem_of_getElem? hk))
  exact h i q hi
theorem nodupD {A : Nat → Prop} {ws : va_W} (h : va_D A ws) : (ws.map (fun q => q.1)).Nodup := by
  rw [List.Nodup, List.pairwise_iff_getElem]
  intro i j hi hj hij he
  rw [List.length_map] at hi hj
  rw [List.getElem_map, List.getElem_map] at he
  have := h.1 i j ws[i] ws[j] (List.getElem?_eq_getElem hi) (List.getElem?_eq_getElem hj) he
  omega
theorem dNodup {A : Nat → Prop} {ws : va_W} (hn : (ws.map (fun q => q.1)).Nodup) (hA : ∀ q ∈ ws, A q.1) : va_D A ws := by
  refine ⟨fun i j p q hi hj he => ?_, fun k q hk => hA q (List.mem_of_getElem? hk)⟩
  obtain ⟨hi1, hi2⟩ := List.getElem?_eq_some_iff.mp hi
  obtain ⟨hj1, hj2⟩ := List.getElem?_eq_some_iff.mp hj
  rw [List.Nodup, List.pairwise_iff_getElem] at hn
  rcases Nat.lt_trichotomy i j with h | h | h
  · exact absurd (by rw [List.getElem_map, List.getElem_map, hi2, hj2]; exact he) (hn i j (by rw [List.length_map]; exact hi1) (by rw [List.length_map]; exact hj1) h)
  · exact h
  · exact absurd (by rw [List.getElem_map, List.getElem_map, hi2, hj2]; exact he.symm) (hn j i (by rw [List.length_map]; exact hj1) (by rw [List.length_map]; exact hi1) h)
theorem pD {A : Nat → Prop} {ws ws' : va_W} (hp : ws.Perm ws') (h : va_D A ws) : va_D A ws' :=
  dNodup ((hp.map _).nodup_iff.mp (nodupD h)) (fun q hq => by
    obtain ⟨i, hi⟩ := List.getElem?_of_mem (hp.mem_iff.mpr hq)
    exact h.2 i q hi)
theorem perm_is {we wp : va_W} {n : Nat} (is : List Nat) (h : is.map (fun i => we[i]?) = wp.map some) (hn : we.length = n) (hp : is.Perm (List.range n)) : we.Perm wp := by
  have h1 : (we.map some).Perm (wp.map some) := by
    rw [← h]
    have h2 : we.map some = (List.range n).map (fun i => we[i]?) := by
      apply List.ext_getElem?
      intro i
      rw [List.getElem?_map, List.getElem?_map]
      by_cases hi : i < n
      · rw [List.getElem?_range hi]
        have hi' : i < we.length := by omega
        rw [List.getElem?_eq_getElem hi']
        simp [List.getElem?_eq_getElem hi']
      · rw [List.getElem?_eq_none (by omega), List.getElem?_eq_none (by rw [List.length_range]; omega)]
        rfl
    rw [h2]
    exact (hp.map _).symm
  have h3 := h1.filterMap id
  rw [List.filterMap_map, List.filterMap_map] at h3
  have e : ∀ l : va_W, l.filterMap (id ∘ some) = l := fun l => List.filterMap_some
  rw [e, e] at h3
  exact h3
theorem pt1 {we a r T : va_W} (h : we.Perm (a ++ r)) : (we ++ T).Perm ((a ++ T) ++ r) := by
  refine List.Perm.trans (h.append_right T) ?_
  rw [List.append_assoc, List.append_assoc]
  exact List.Perm.append_left _ List.perm_append_comm
theorem pt2 {a r T : va_W} : ((a ++ T) ++ r).Perm ((a ++ r) ++ T) := by
  rw [List.append_assoc, List.append_assoc]
  exact List.Perm.append_left _ List.perm_append_comm
theorem pt3 {we a r T : va_W} (h : we.Perm (a ++ r)) : (we ++ T).Perm (a ++ (r ++ T)) := by
  rw [← List.append_assoc]
  exact h.append_right T
theorem pt4 {a r T : va_W} : (a ++ (r ++ T)).Perm ((a ++ r) ++ T) := by rw [List.append_assoc]
/-- behind a writer's call, the callee's cells first: the rest isn't looked at -/
theorem va_joinF {A0 : Nat → Prop} {D : va_G} {W0 W1 rs : va_W} {H H1 : Heap} (hP : va_P D vwCl (W0 ++ rs) H) (hD : va_D A0 (W0 ++ rs)) (hk : ∀ q : Nat, q < H.size → ¬ va_A W0 H.size q → H1[q]? = H[q]?) (hF : ∀ q, va_A W0 H.size q → A0 q) (hP1 : va_P D vwCl W1 H1) (hD1 : va_D (va_A W0 H.size) W1) : va_P D vwCl (W1 ++ rs) H1 ∧ va_D A0 (W1 ++ rs) := by
  have hn := nodupD hD
  rw [List.map_append, List.nodup_append] at hn
  have hPr : va_P D vwCl rs H := fun k q hk => hP (W0.length + k) q (by rw [List.getElem?_append_right (Nat.le_add_right _ _), Nat.add_sub_cancel_left]; exact hk)
  have apart : ∀ q ∈ rs, q.1 < H.size ∧ ¬ va_A W0 H.size q.1 := by
    intro q hq
    obtain ⟨k, hk⟩ := List.getElem?_of_mem hq
    have hl := (hPr k q hk).lt
    refine ⟨hl, fun h => ?_⟩
    rcases h with ⟨i, e, h⟩ | h
    · exact hn.2.2 q.1 (List.mem_map.mpr ⟨_, List.mem_of_getElem? h, rfl⟩) q.1 (List.mem_map.mpr ⟨q, hq, rfl⟩) rfl
    · omega
  refine ⟨va_P.app hP1 (fun k q hq => (hPr k q hq).kept (hk q.1 (apart q (List.mem_of_getElem? hq)).1 (apart q (List.mem_of_getElem? hq)).2)), dNodup ?_ ?_⟩
  · rw [List.map_append, List.nodup_append]
    refine ⟨nodupD hD1, hn.2.1, fun a ha b hb hab => ?_⟩
    obtain ⟨q, hq, rfl⟩ := List.mem_map.mp ha
    obtain ⟨r, hr, rfl⟩ := List.mem_map.mp hb
    obtain ⟨i, hi⟩ := List.getElem?_of_mem hq
    exact (apart r hr).2 (by rw [← hab]; exact hD1.2 i q hi)
  · intro q hq
    rcases List.mem_append.mp hq with h | h
    · obtain ⟨i, hi⟩ := List.getElem?_of_mem h
      exact hF _ (hD1.2 i q hi)
    · obtain ⟨i, hi⟩ := List.getElem?_of_mem h
      exact hD.2 (W0.length + i) q (by rw [List.getElem?_append_right (Nat.le_add_right _ _), Nat.add_sub_cancel_left]; exact hi)
def sel : List Bool → va_W → va_W
  | [], _ => []
  | _ :: _, [] => []
  | true :: m, a :: ws => a :: sel m ws
  | false :: m, _ :: ws => sel m ws
def nse : List Bool → va_W → va_W
  | [], _ => []
  | _ :: _, [] => []
  | true :: m, _ :: ws => nse m ws
  | false :: m, a :: ws => a :: nse m ws
def mrg : List Bool → va_W → va_W → va_W
  | [], _, _ => []
  | _ :: _, _, [] => []
  | false :: m, W1, a :: ws => a :: mrg m W1 ws
  | true :: m, [], _ :: ws => []
  | true :: m, b :: W1, _ :: ws => b :: mrg m W1 ws
theorem sel_perm : ∀ (m : List Bool) (ws : va_W), m.length = ws.length → ws.Perm (sel m ws ++ nse m ws)
  | [], [], _ => List.Perm.refl _
  | [], _ :: _, h => by cases h
  | _ :: _, [], h => by cases h
  | true :: m, a :: ws, h => (sel_perm m ws (Nat.succ.inj h)).cons a
  | false :: m, a :: ws, h => ((sel_perm m ws (Nat.succ.inj h)).cons a).trans List.perm_middle.symm
theorem mrg_perm : ∀ (m : List Bool) (W1 ws : va_W), m.length = ws.length → W1.length = (sel m ws).length → (W1 ++ nse m ws).Perm (mrg m W1 ws)
  | [], [], _, _, _ => List.Perm.refl _
  | [], _ :: _, _, _, h => by cases h
  | _ :: _, _, [], h, _ => by cases h
  | true :: m, [], a :: ws, h, h1 => by cases h1
  | true :: m, b :: W1, a :: ws, h, h1 => (mrg_perm m W1 ws (Nat.succ.inj h) (Nat.succ.inj h1)).cons b
  | false :: m, W1, a :: ws, h, h1 => List.perm_middle.trans ((mrg_perm m W1 ws (Nat.succ.inj h) h1).cons a)
theorem pm3 {we T : va_W} (m : List Bool) (h : m.length = we.length) : (we ++ T).Perm (sel m we ++ (nse m we ++ T)) := pt3 (sel_perm m we h)
theorem pm4 {we W1 T : va_W} (m : List Bool) (h : m.length = we.length) (h1 : W1.length = (sel m we).length) : (W1 ++ (nse m we ++ T)).Perm (mrg m W1 we ++ T) := by
  rw [← List.append_assoc]
  exact (mrg_perm m W1 we h h1).append_right T
theorem pm1 {we T : va_W} (m : List Bool) (h : m.length = we.length) : (we ++ T).Perm ((sel m we ++ T) ++ nse m we) := pt1 (sel_perm m we h)
theorem pm2 {we W1 T : va_W} (m : List Bool) (h : m.length = we.length) (h1 : W1.length = (sel m we).length) : ((W1 ++ T) ++ nse m we).Perm (mrg m W1 we ++ T) :=
  pt2.trans ((mrg_perm m W1 we h h1).append_right T)
section KITM
variable {p : Program} {l : Launch} {e : Env} {R : Room} {s : State} {m : MethodId} {args : Array Value} {below : List Frame} {meth : Method} {c : Code} {H H0 : Heap} {locs : List Loc} {cells slots : Nat} {Q : State → Prop}
variable {cc bytes : ByteArray} {pc nL maxL index n mc ms : Nat} {ls : Array Slot} {rest st0 st1 : List Value} {Ts ws ws' : List Cond} {own C host : String} {y : MethodName} {ret : Option FieldType} {rm : Room} {D : va_G} {tys : List (ClassId × FieldType)} {av As : List Value} {W0 W1 wa wb wr wn rs : va_W} {A : Nat → Prop} {oc : Option Value} {b ci : Nat} {z : Nat} {x : Nat → Nat}
theorem frF (hD : va_D A (W0 ++ rs)) (hS : va_S A H0 H locs) (hA : ∀ q, H0.size ≤ q → A q) : ∀ q, va_A W0 H.size q → A q := by
  intro q h
  rcases h with ⟨k, e, h⟩ | h
  · exact hD.2 k (q, e) (by rw [List.getElem?_append_left (List.getElem?_eq_some_iff.mp h).1]; exact h)
  · exact hA q (Nat.le_trans hS.1 h)
theorem appP (h : va_P D vwCl (W0 ++ rs) H) : va_P D vwCl W0 H := fun k q hk => h k q (by rw [List.getElem?_append_left (List.getElem?_eq_some_iff.mp hk).1]; exact hk)
theorem appD (h : va_D A (W0 ++ rs)) : va_D A W0 := dNodup (by have := nodupD h; rw [List.map_append, List.nodup_append] at this; exact this.1) (fun q hq => by
  obtain ⟨k, hk⟩ := List.getElem?_of_mem hq
  exact h.2 k q (by rw [List.getElem?_append_left (List.getElem?_eq_some_iff.mp hk).1]; exact hk))
theorem wr_runF {a : Array Value} (hr : va_Run p l e R s m args below meth c H locs cells slots mc ms (F0 m pc ls st0) rest (Qwr D (va_A W0 H.size) W1 oc a) (va_A W0 H.size)) (hP : va_P D vwCl (W0 ++ rs) H) (hD : va_D A (W0 ++ rs)) (hS : va_S A H0 H locs) (hA : ∀ q, H0.size ≤ q → A q) (hst : oc.toList ++ rest = st1)
    (kk : ∀ (H1 : Heap) (locs1 : List Loc), va_P D vwCl (W1 ++ rs) H1 → va_D A (W1 ++ rs) → va_S A H0 H1 locs1 → W p l e R s m args below meth c H1 locs1 (cells + mc) (slots + ms) Q (F0 m (pc + 3) ls st1)) : W p l e R s m args below meth c H locs cells slots Q (F0 m pc ls st0) := by
  subst hst
  have hF := frF hD hS hA
  intro T hT X
  obtain ⟨v, st₀, t, T', L, h0, X', hL, e1, e2, ⟨hv, hP1, hD1, hz, hk⟩, st⟩ := hr T hT X
  cases hv
  rw [h0] at hz hk
  rw [← e1] at hz hk hP1
  obtain ⟨hP2, hD2⟩ := va_joinF hP hD hk hF hP1 hD1
  obtain ⟨t2, a1, b1⟩ := kk T'.heap (locs ++ L) hP2 hD2
    ⟨Nat.le_trans hS.1 hz, fun q h1 h2 => by rw [hk q (Nat.lt_of_lt_of_le h1 hS.1) (fun z => h2 (hF q z))]; exact hS.2.1 q h1 h2, fun q hq => by
      rcases List.mem_append.mp hq with h | h
      · exact hS.2.2 q h
      · exact hF _ (hL q h)⟩ T' rfl X'
  exact ⟨t2, st t2 a1, b1⟩
/-- a writer's call; hp brings the callee's cells to the front, hq the world behind it into its order -/
theorem wrVF {bs : List Value} {r : vw_C} (S : CallFix p m c cc nL s args Ts own) (hM : WrM l D tys z x y ws rm (.ref b :: As) W0 W1 H.size oc mc ms) (cw : CallW R s args own C index y bytes maxL ret ws rm mc ms n) (hC : CXT D tys z x s H) (hP : va_P D vwCl wa H) (hD : va_D A wa) (hS : va_S A H0 H locs) (hA : ∀ q, H0.size ≤ q → A q) (hz : ∀ q : Nat, A q → z ≤ q) (hp : wa.Perm (W0 ++ rs)) (hq : (W1 ++ rs).Perm wn) (q0 : Nat) (hb0 : W0[q0]? = some (b, .inr (ci, bs))) (hcl : vwCl[ci]? = some r) (hrC : r.1 = C) (hn : As.length = n) (hsz : ls.size = nL) (hst : st0 = As.reverse ++ .ref b :: rest) (hW : (rest.map fun v => v.category).sum ≤ 8) (hdg : decode cc pc = .ok (.invokevirtual index, 3)) (hc : cells + mc ≤ R.cells ∧ slots + ms ≤ R.slots) (hst1 : oc.toList ++ rest = st1)
    (kk : ∀ (H1 : Heap) (locs1 : List Loc), va_P D vwCl wn H1 → va_D A wn → va_S A H0 H1 locs1 → W p l e R s m args below meth c H1 locs1 (cells + mc) (slots + ms) Q (F0 m (pc + 3) ls st1)) : W p l e R s m args below meth c H locs cells slots Q (F0 m pc ls st0) := by
  have hP := pP hp hP
  have hD := pD hp hD
  have hPc := appP hP
  have hDc := (appD hD).weaken (B := fun _ => True) (fun _ _ _ _ => trivial)
  exact wr_runF (va_runV (As := As) (rest := rest) S hM cw ⟨Pwr.blind, by subst hrC; exact va_recv hC.1 hPc hcl hb0, fun U hU hW => ⟨rfl, by rw [hU], by rw [hU]; exact hPc, hDc, fun q h => hz q (frF hD hS hA q h), by rw [hU]; exact hC.warm hW⟩⟩ rfl hn hsz hst (lv_room hW) hdg hc) hP hD hS hA hst1 (fun H1 locs1 hP1 hD1 hS1 => kk H1 locs1 (pP hq hP1) (pD hq hD1) hS1)
theorem wr_vretP (hx : p.tables.exec = Jvm.exec) (hb : c.code = cc) (hr : meth.sig.returnType = none) (hlocks : meth.locks = false) (hdg : decode cc pc = .ok (.return_, 1)) (ho : oc = none) (hQ : Q = MQ below (Qwr D A W1 oc) args s cells slots A) (hP : va_P D vwCl wa H) (hD : va_D A wa) (hS : va_S A s.heap H locs) (hp : wa.Perm W1) : W p l e R s m args below meth c H locs cells slots Q (F0 m pc ls []) := by
  subst ho
  subst hQ
  exact W.vret hx hb hr (fun t ht _ => ⟨rfl, by rw [ht]; exact pP hp hP, pD hp hD, hS.F ht⟩) hS.2.2 hdg
theorem wr_iretP {v : Int32} (hx : p.tables.exec = Jvm.exec) (hb : c.code = cc) (hr : meth.sig.returnType = some .int) (hlocks : meth.locks = false) (hdg : decode cc pc = .ok (.ireturn, 1)) (ho : oc = some (.int v)) (hQ : Q = MQ below (Qwr D A W1 oc) args s cells slots A) (hP : va_P D vwCl wa H) (hD : va_D A wa) (hS : va_S A s.heap H locs) (hp : wa.Perm W1) : W p l e R s m args below meth c H locs cells slots Q (F0 m pc ls [.int v]) := by
  subst ho
  subst hQ
  exact W.iret hx hb hr (fun t ht _ => ⟨rfl, by rw [ht]; exact pP hp hP, pD hp hD, hS.F ht⟩) hS.2.2 hdg
theorem selP {m9 : List Bool} (hs : sel m9 wa = W0) (hl : m9.length = wa.length) (h : va_P D vwCl wa H) : va_P D vwCl W0 H := by
  subst hs; exact appP (pP (sel_perm m9 wa hl) h)
/-- a writer's call: m9 marks the callee's cells -/
theorem wrVM {bs : List Value} {r : vw_C} (S : CallFix p m c cc nL s args Ts own) (hM : WrM l D tys z x y ws rm (.ref b :: As) W0 W1 H.size oc mc ms) (cw : CallW R s args own C index y bytes maxL ret ws rm mc ms n) (hC : CXT D tys z x s H) (hP : va_P D vwCl wa H) (hD : va_D A wa) (hS : va_S A H0 H locs) (hA : ∀ q, H0.size ≤ q → A q) (hz : ∀ q : Nat, A q → z ≤ q) (m9 : List Bool) (hl9 : m9.length = wa.length) (hsel : sel m9 wa = W0) (hl1 : W1.length = W0.length) (hmrg : mrg m9 W1 wa = wn) (q0 : Nat) (hb0 : W0[q0]? = some (b, .inr (ci, bs))) (hcl : vwCl[ci]? = some r) (hrC : r.1 = C) (hn : As.length = n) (hsz : ls.size = nL) (hst : st0 = As.reverse ++ .ref b :: rest) (hW : (rest.map fun v => v.category).sum ≤ 8) (hdg : decode cc pc = .ok (.invokevirtual index, 3)) (hc : cells + mc ≤ R.cells ∧ slots + ms ≤ R.slots) (hst1 : oc.toList ++ rest = st1)
    (kk : ∀ (H1 : Heap) (locs1 : List Loc), va_P D vwCl wn H1 → va_D A wn → va_S A H0 H1 locs1 → W p l e R s m args below meth c H1 locs1 (cells + mc) (slots + ms) Q (F0 m (pc + 3) ls st1)) : W p l e R s m args below meth c H locs cells slots Q (F0 m pc ls st0) := by
  subst hsel
  subst hmrg
  exact wrVF S hM cw hC hP hD hS hA hz (sel_perm m9 wa hl9) (mrg_perm m9 W1 wa hl9 hl1) q0 hb0 hcl hrC hn hsz hst hW hdg hc hst1 kk
theorem wrSF (S : CallFix p m c cc nL s args Ts own) (hM : WrM l D tys z x y ws rm As W0 W1 H.size oc mc ms) (cw : CallB R s args own index y bytes maxL ret ws rm mc ms n ∧ (Cond.static y).before args s = true) (hC : CXT D tys z x s H) (hP : va_P D vwCl wa H) (hD : va_D A wa) (hS : va_S A H0 H locs) (hA : ∀ q, H0.size ≤ q → A q) (hz : ∀ q : Nat, A q → z ≤ q) (hp : wa.Perm (W0 ++ rs)) (hq : (W1 ++ rs).Perm wn) (hn : As.length = n) (hsz : ls.size = nL) (hst : st0 = As.reverse ++ rest) (hW : (rest.map fun v => v.category).sum ≤ 8) (hdg : decode cc pc = .ok (.invokestatic index, 3)) (hc : cells + mc ≤ R.cells ∧ slots + ms ≤ R.slots) (hst1 : oc.toList ++ rest = st1)
    (kk : ∀ (H1 : Heap) (locs1 : List Loc), va_P D vwCl wn H1 → va_D A wn → va_S A H0 H1 locs1 → W p l e R s m args below meth c H1 locs1 (cells + mc) (slots + ms) Q (F0 m (pc + 3) ls st1)) : W p l e R s m args below meth c H locs cells slots Q (F0 m pc ls st0) := by
  have hP := pP hp hP
  have hD := pD hp hD
  have hPc := appP hP
  have hDc := (appD hD).weaken (B := fun _ => True) (fun _ _ _ _ => trivial)
  exact wr_runF (va_runS (As := As) (rest := rest) S hM cw ⟨Pwr.blind, fun U hU hW => ⟨rfl, by rw [hU], by rw [hU]; exact hPc, hDc, fun q h => hz q (frF hD hS hA q h), by rw [hU]; exact hC.warm hW⟩⟩ rfl hn hsz hst (lv_room hW) hdg hc) hP hD hS hA hst1 (fun H1 locs1 hP1 hD1 hS1 => kk H1 locs1 (pP hq hP1) (pD hq hD1) hS1)
theorem wrSNF (S : CallFix p m c cc nL s args Ts own) (hM : WrM l D tys z x y ws rm As W0 W1 H.size oc mc ms) (cw : va_CN R s args own index y host bytes maxL ret ws rm mc ms n ∧ (Cond.static y).before args s = true ∧ True) (hC : CXT D tys z x s H) (hP : va_P D vwCl wa H) (hD : va_D A wa) (hS : va_S A H0 H locs) (hA : ∀ q, H0.size ≤ q → A q) (hz : ∀ q : Nat, A q → z ≤ q) (hp : wa.Perm (W0 ++ rs)) (hq : (W1 ++ rs).Perm wn) (hn : As.length = n) (hsz : ls.size = nL) (hst : st0 = As.reverse ++ rest) (hW : (rest.map fun v => v.category).sum ≤ 8) (hdg : decode cc pc = .ok (.invokestatic index, 3)) (hc : cells + mc ≤ R.cells ∧ slots + ms ≤ R.slots) (hst1 : oc.toList ++ rest = st1)
    (kk : ∀ (H1 : Heap) (locs1 : List Loc), va_P D vwCl wn H1 → va_D A wn → va_S A H0 H1 locs1 → W p l e R s m args below meth c H1 locs1 (cells + mc) (slots + ms) Q (F0 m (pc + 3) ls st1)) : W p l e R s m args below meth c H locs cells slots Q (F0 m pc ls st0) := by
  have hP := pP hp hP
  have hD := pD hp hD
  have hPc := appP hP
  have hDc := (appD hD).weaken (B := fun _ => True) (fun _ _ _ _ => trivial)
  exact wr_runF (va_runSN (As := As) (rest := rest) S hM cw ⟨Pwr.blind, fun U hU hW => ⟨rfl, by rw [hU], by rw [hU]; exact hPc, hDc, fun q h => hz q (frF hD hS hA q h), by rw [hU]; exact hC.warm hW⟩⟩ rfl hn hsz hst (lv_room hW) hdg hc) hP hD hS hA hst1 (fun H1 locs1 hP1 hD1 hS1 => kk H1 locs1 (pP hq hP1) (pD hq hD1) hS1)
theorem wrSM (S : CallFix p m c cc nL s args Ts own) (hM : WrM l D tys z x y ws rm As W0 W1 H.size oc mc ms) (cw : CallB R s args own index y bytes maxL ret ws rm mc ms n ∧ (Cond.static y).before args s = true) (hC : CXT D tys z x s H) (hP : va_P D vwCl wa H) (hD : va_D A wa) (hS : va_S A H0 H locs) (hA : ∀ q, H0.size ≤ q → A q) (hz : ∀ q : Nat, A q → z ≤ q) (m9 : List Bool) (hl9 : m9.length = wa.length) (hsel : sel m9 wa = W0) (hl1 : W1.length = W0.length) (hmrg : mrg m9 W1 wa = wn) (hn : As.length = n) (hsz : ls.size = nL) (hst : st0 = As.reverse ++ rest) (hW : (rest.map fun v => v.category).sum ≤ 8) (hdg : decode cc pc = .ok (.invokestatic index, 3)) (hc : cells + mc ≤ R.cells ∧ slots + ms ≤ R.slots) (hst1 : oc.toList ++ rest = st1)
    (kk : ∀ (H1 : Heap) (locs1 : List Loc), va_P D vwCl wn H1 → va_D A wn → va_S A H0 H1 locs1 → W p l e R s m args below meth c H1 locs1 (cells + mc) (slots + ms) Q (F0 m (pc + 3) ls st1)) : W p l e R s m args below meth c H locs cells slots Q (F0 m pc ls st0) := by
  subst hsel
  subst hmrg
  exact wrSF S hM cw hC hP hD hS hA hz (sel_perm m9 wa hl9) (mrg_perm m9 W1 wa hl9 hl1) hn hsz hst hW hdg hc hst1 kk
theorem wrSNM (S : CallFix p m c cc nL s args Ts own) (hM : WrM l D tys z x y ws rm As W0 W1 H.size oc mc ms) (cw : va_CN R s args own index y host bytes maxL ret ws rm mc ms n ∧ (Cond.static y).before args s = true ∧ True) (hC : CXT D tys z x s H) (hP : va_P D vwCl wa H) (hD : va_D A wa) (hS : va_S A H0 H locs) (hA : ∀ q, H0.size ≤ q → A q) (hz : ∀ q : Nat, A q → z ≤ q) (m9 : List Bool) (hl9 : m9.length = wa.length) (hsel : sel m9 wa = W0) (hl1 : W1.length = W0.length) (hmrg : mrg m9 W1 wa = wn) (hn : As.length = n) (hsz : ls.size = nL) (hst : st0 = As.reverse ++ rest) (hW : (rest.map fun v => v.category).sum ≤ 8) (hdg : decode cc pc = .ok (.invokestatic index, 3)) (hc : cells + mc ≤ R.cells ∧ slots + ms ≤ R.slots) (hst1 : oc.toList ++ rest = st1)
    (kk : ∀ (H1 : Heap) (locs1 : List Loc), va_P D vwCl wn H1 → va_D A wn → va_S A H0 H1 locs1 → W p l e R s m args below meth c H1 locs1 (cells + mc) (slots + ms) Q (F0 m (pc + 3) ls st1)) : W p l e R s m args below meth c H locs cells slots Q (F0 m pc ls st0) := by
  subst hsel
  subst hmrg
  exact wrSNF S hM cw hC hP hD hS hA hz (sel_perm m9 wa hl9) (mrg_perm m9 W1 wa hl9 hl1) hn hsz hst hW hdg hc hst1 kk
/-- the ends where the world stands in its order -/
theorem we_iret {v : Int32} (hx : p.tables.exec = Jvm.exec) (hb : c.code = cc) (hr : meth.sig.returnType = some .int) (hlocks : meth.locks = false) (hdg : decode cc pc = .ok (.ireturn, 1)) (ho : oc = some (.int v)) (hQ : Q = MQ below (Qwr D A W1 oc) args s cells slots A) (hP : va_P D vwCl W1 H) (hD : va_D A W1) (hS : va_S A s.heap H locs) : W p l e R s m args below meth c H locs cells slots Q (F0 m pc ls [.int v]) :=
  wr_iretP hx hb hr hlocks hdg ho hQ hP hD hS (List.Perm.refl _)
theorem we_zret {v : Int32} (hx : p.tables.exec = Jvm.exec) (hb : c.code = cc) (hr : meth.sig.returnType = some .boolean) (hlocks : meth.locks = false) (hdg : decode cc pc = .ok (.ireturn, 1)) (hn : narrow .boolean (.int v) = .int v) (ho : oc = some (.int v)) (hQ : Q = MQ below (Qwr D A W1 oc) args s cells slots A) (hP : va_P D vwCl W1 H) (hD : va_D A W1) (hS : va_S A s.heap H locs) : W p l e R s m args below meth c H locs cells slots Q (F0 m pc ls [.int v]) := by
  subst ho
  subst hQ
  exact W.zret hx hb hr hn (fun t ht _ => ⟨rfl, by rw [ht]; exact hP, hD, hS.F ht⟩) hS.2.2 hdg
theorem we_vret (hx : p.tables.exec = Jvm.exec) (hb : c.code = cc) (hr : meth.sig.returnType = none) (hlocks : meth.locks = false) (hdg : decode cc pc = .ok (.return_, 1)) (ho : oc = none) (hQ : Q = MQ below (Qwr D A W1 oc) args s cells slots A) (hP : va_P D vwCl W1 H) (hD : va_D A W1) (hS : va_S A s.heap H locs) : W p l e R s m args below meth c H locs cells slots Q (F0 m pc ls []) :=
  wr_vretP hx hb hr hlocks hdg ho hQ hP hD hS (List.Perm.refl _)
theorem we_fret {v : UInt32} (hx : p.tables.exec = Jvm.exec) (hb : c.code = cc) (hr : meth.sig.returnType = some .float) (hlocks : meth.locks = false) (hdg : decode cc pc = .ok (.freturn, 1)) (ho : oc = some (.float v)) (hQ : Q = MQ below (Qwr D A W1 oc) args s cells slots A) (hP : va_P D vwCl W1 H) (hD : va_D A W1) (hS : va_S A s.heap H locs) : W p l e R s m args below meth c H locs cells slots Q (F0 m pc ls [.float v]) := by
  subst ho
  subst hQ
  exact W.fret hx hb hr (fun t ht _ => ⟨rfl, by rw [ht]; exact hP, hD, hS.F ht⟩) hS.2.2 hdg hlocks
theorem cr_vretP {ι : Type} {W1 : ι → va_W} (hx : p.tables.exec = Jvm.exec) (hb : c.code = cc) (hr : meth.sig.returnType = none) (hlocks : meth.locks = false) (hdg : decode cc pc = .ok (.return_, 1)) (hQ : Q = MQ below (Qcr D A W1) args s cells slots A) (hP : va_P D vwCl wa H) (hD : va_D A wa) (hS : va_S A s.heap H locs) (q : ι) (hp : wa.Perm (W1 q)) : W p l e R s m args below meth c H locs cells slots Q (F0 m pc ls []) := by
  subst hQ
  exact W.vret hx hb hr (fun t ht _ => ⟨q, rfl, by rw [ht]; exact pP hp hP, pD hp hD, hS.F ht⟩) hS.2.2 hdg
theorem crIF {ι : Type} {W1 : ι → va_W} (S : CallFix p m c cc nL s args Ts own) (hM : CrM l D tys z x y ws rm (.ref b :: As) W0 W1 H.size mc ms) (cw : CallB R s args own index y bytes maxL none ws rm mc ms n ∧ y.name = "<init>" ∧ (Cond.instanceMethod y).before args s = true) (hC : CXT D tys z x s H) (hP : va_P D vwCl wa H) (hD : va_D A wa) (hS : va_S A H0 H locs) (hA : ∀ q, H0.size ≤ q → A q) (hz : ∀ q : Nat, A q → z ≤ q) (hp : wa.Perm (W0 ++ rs)) (hn : As.length = n) (hsz : ls.size = nL) (hst : st0 = As.reverse ++ .ref b :: rest) (hW : (rest.map fun v => v.category).sum ≤ 8) (hdg : decode cc pc = .ok (.invokespecial index, 3)) (hc : cells + mc ≤ R.cells ∧ slots + ms ≤ R.slots)
    (kk : ∀ (q : ι) (H1 : Heap) (locs1 : List Loc), va_P D vwCl (W1 q ++ rs) H1 → va_D A (W1 q ++ rs) → va_S A H0 H1 locs1 → W p l e R s m args below meth c H1 locs1 (cells + mc) (slots + ms) Q (F0 m (pc + 3) ls rest)) : W p l e R s m args below meth c H locs cells slots Q (F0 m pc ls st0) := by
  have hP := pP hp hP
  have hD := pD hp hD
  have hPc := appP hP
  have hDc := (appD hD).weaken (B := fun _ => True) (fun _ _ _ _ => trivial)
  have hF := frF hD hS hA
  intro T hT X
  obtain ⟨v, st₀, t, T', L, h0, X', hL, e1, e2, ⟨q, hv, hP1, hD1, hz1, hk⟩, st⟩ := va_runI (As := As) (rest := rest) S hM cw ⟨Pwr.blind, fun U hU hW => ⟨rfl, by rw [hU], by rw [hU]; exact hPc, hDc, fun q h => hz q (frF hD hS hA q h), by rw [hU]; exact hC.warm hW⟩⟩ rfl hn hsz hst (lv_room hW) hdg hc T hT X
  cases hv
  rw [h0] at hz1 hk
  rw [← e1] at hz1 hk hP1
  obtain ⟨hP2, hD2⟩ := va_joinF hP hD hk hF hP1 hD1
  obtain ⟨t2, a1, b1⟩ := kk q T'.heap (locs ++ L) hP2 hD2
    ⟨Nat.le_trans hS.1 hz1, fun q h1 h2 => by rw [hk q (Nat.lt_of_lt_of_le h1 hS.1) (fun z => h2 (hF q z))]; exact hS.2.1 q h1 h2, fun q hq => by
      rcases List.mem_append.mp hq with h | h
      · exact hS.2.2 q h
      · exact hF _ (hL q h)⟩ T' rfl X'
  exact ⟨t2, st t2 a1, b1⟩
end KITM
