/-! ===== a column as one list of cells, and the eight columns that are kept for undo ===== -/
abbrev CS : Type := Int32 × Int32 × Int32 × (Nat → Int32) × Int32 × Int32 × (Nat → Int32) × (Nat → Int32) × (Nat → Int32) × (Nat → Int32) × (Nat → Int32) × Int32 × (Nat → Int32) × (Nat → Int32) × (Nat → Int32) × Int32 × (Nat → Int32) × (Nat → Int32) × (Nat → Int32)
def colW (t : Nat → ClassId) (a : Nat → Nat) (c : CS) : va_W := [((a 0), .inr (2, [.ref (a 13), .ref (a 3), .ref (a 1), .ref (a 9), .ref (a 12), .ref (a 11), .int c.1, .int c.2.1])), ((a 1), .inr (0, [.ref (a 2), .int c.2.2.1])), ((a 2), .inl (t 0, 9, .inl c.2.2.2.1)), ((a 3), .inr (3, [.ref (a 13), .ref (a 5), .ref (a 4), .ref (a 8), .ref (a 6), .ref (a 7), .int c.2.2.2.2.1, .int c.2.2.2.2.2.1])), ((a 4), .inl (t 0, 62, .inl c.2.2.2.2.2.2.1)), ((a 5), .inl (t 0, 120, .inl c.2.2.2.2.2.2.2.1)), ((a 6), .inl (t 0, 62, .inl c.2.2.2.2.2.2.2.2.1)), ((a 7), .inl (t 0, 62, .inl c.2.2.2.2.2.2.2.2.2.1)), ((a 8), .inl (t 0, 62, .inl c.2.2.2.2.2.2.2.2.2.2.1)), ((a 9), .inr (4, [.ref (a 10), .int c.2.2.2.2.2.2.2.2.2.2.2.1])), ((a 10), .inl (t 0, 80, .inl c.2.2.2.2.2.2.2.2.2.2.2.2.1)), ((a 11), .inl (t 0, 31, .inl c.2.2.2.2.2.2.2.2.2.2.2.2.2.1)), ((a 12), .inl (t 0, 4, .inl c.2.2.2.2.2.2.2.2.2.2.2.2.2.2.1)), ((a 13), .inr (6, [.ref (a 14), .ref (a 16), .ref (a 15), .int c.2.2.2.2.2.2.2.2.2.2.2.2.2.2.2.1])), ((a 14), .inl (t 0, 120, .inl c.2.2.2.2.2.2.2.2.2.2.2.2.2.2.2.2.1)), ((a 15), .inl (t 0, 120, .inl c.2.2.2.2.2.2.2.2.2.2.2.2.2.2.2.2.2.1)), ((a 16), .inl (t 0, 120, .inl c.2.2.2.2.2.2.2.2.2.2.2.2.2.2.2.2.2.2))]
def fS (adr : Nat → Nat → Nat) (i : Nat) : Nat → Option Nat := fun j => if j < i then some (adr j 0) else none
abbrev svA (adr : Nat → Nat → Nat) : Nat → Option Nat := fS adr 8
def svF (t : Nat → ClassId) (adr : Nat → Nat → Nat) (sav : Nat → CS) : va_W := (List.range 8).flatMap (fun i => colW t (adr i) (sav i))
def SVT (t : Nat → ClassId) (as : Nat) (adr : Nat → Nat → Nat) (sav : Nat → CS) : va_W := (as, .inl (t 2, 8, .inr (.inr (.inr (.inr (svA adr)))))) :: svF t adr sav
section KIT5
variable {p : Program} {l : Launch} {e : Env} {R : Room} {s : State} {m : MethodId} {args : Array Value} {below : List Frame} {meth : Method} {c : Code} {H H0 : Heap} {locs : List Loc} {cells slots : Nat} {Q : State → Prop}
variable {cc bytes : ByteArray} {pc nL maxL index n mc ms : Nat} {ls : Array Slot} {rest st0 st1 : List Value} {Ts ws ws' : List Cond} {own C host : String} {y : MethodName} {ret : Option FieldType} {rm : Room} {D : va_G} {tys : List (ClassId × FieldType)} {av As : List Value} {W0 W1 wa wb wr wn rs : va_W} {A : Nat → Prop} {oc : Option Value} {b ci : Nat} {z : Nat} {x : Nat → Nat}
theorem my_aldq {f : Nat → Option Nat} {a nn v : Nat} {cA : ClassId} {i : Int32} (hexec : p.tables.exec = Jvm.exec) (hb : c.code = cc) (hK : va_K D vwCl tys s) (hP : va_P D vwCl wa H) (q0 t0 : Nat) (ha : wa[q0]? = some (a, .inl (cA, nn, .inr (.inr (.inr (.inr f)))))) (ht : tys[t0]? = some (cA, .object C)) (hin : vp_in i nn) (hv : f i.toNatClampNeg = some v) (hdg : decode cc pc = .ok (.aaload, 1)) (kk : W p l e R s m args below meth c H locs cells slots Q (F0 m (pc + 1) ls (.ref v :: rest))) : W p l e R s m args below meth c H locs cells slots Q (F0 m pc ls (.int i :: .ref a :: rest)) :=
  va_aldq hexec hb hK hP q0 t0 ha ht hin hdg (by rw [hv]; exact kk)
theorem my_astq {f g : Nat → Option Nat} {a nn v : Nat} {cA : ClassId} {i : Int32} {r : vw_C} {vs : List Value} (hexec : p.tables.exec = Jvm.exec) (hb : c.code = cc) (hK : va_K D vwCl tys s) (hP : va_P D vwCl wa H) (hD : va_D A wa) (hS : va_S A H0 H locs) (q0 t0 qk : Nat) (ha : wa[q0]? = some (a, .inl (cA, nn, .inr (.inr (.inr (.inr f)))))) (ht : tys[t0]? = some (cA, .object r.1)) (hv : wa[qk]? = some (v, .inr (ci, vs))) (hc : vwCl[ci]? = some r) (hin : vp_in i nn) (hg : va_up f i.toNatClampNeg (some v) = g) (hwn : wa.set q0 (a, .inl (cA, nn, .inr (.inr (.inr (.inr g))))) = wn) (hdg : decode cc pc = .ok (.aastore, 1)) (kk : ∀ (H1 : Heap) (locs1 : List Loc), va_P D vwCl wn H1 → va_D A wn → va_S A H0 H1 locs1 → W p l e R s m args below meth c H1 locs1 cells slots Q (F0 m (pc + 1) ls rest)) : W p l e R s m args below meth c H locs cells slots Q (F0 m pc ls (.ref v :: .int i :: .ref a :: rest)) := by
  subst hwn; subst hg; exact va_astq hexec hb hK hP hD hS q0 t0 qk ci ha ht hv hc hin hdg kk
end KIT5
theorem flat_erase {F G : Nat → va_W} {k : Nat} (hk : k < 8) (h : ∀ i, i ≠ k → F i = G i) : ((List.range 8).erase k).flatMap F = ((List.range 8).erase k).flatMap G := by
  have hne : ∀ i ∈ (List.range 8).erase k, i ≠ k := (show ∀ k, k < 8 → ∀ i ∈ (List.range 8).erase k, i ≠ k by decide) k hk
  generalize (List.range 8).erase k = L at hne
  induction L with
  | nil => rfl
  | cons a L ih =>
    rw [List.flatMap_cons, List.flatMap_cons, h a (hne a List.mem_cons_self), ih (fun i hi => hne i (List.mem_cons_of_mem _ hi))]
theorem flat_split {F : Nat → va_W} {k : Nat} (hk : k < 8) : ((List.range 8).flatMap F).Perm (F k ++ ((List.range 8).erase k).flatMap F) := by
  have h := List.Perm.flatMap_right (f := F) (List.perm_cons_erase (List.mem_range.mpr hk))
  rw [List.flatMap_cons] at h
  exact h
def rotA {α : Type} (f : Nat → α) : Nat → α := fun j => if j < 7 then f (j + 1) else if j = 7 then f 0 else f j
theorem svF_rot {t : Nat → ClassId} {adr : Nat → Nat → Nat} {sav : Nat → CS} : (svF t adr sav).Perm (svF t (rotA adr) (rotA sav)) := by
  have h : svF t (rotA adr) (rotA sav) = [1, 2, 3, 4, 5, 6, 7, 0].flatMap (fun i => colW t (adr i) (sav i)) := rfl
  rw [h]
  exact List.Perm.flatMap_right _ (by decide)
abbrev mnC (a_t : Nat) (v0 v1 v2 v3 v4 : Value) (as : Nat) (vc : Value) (sc ea : Int32) : Nat × va_E := (a_t, .inr (7, [v0, v1, v2, v3, v4, .ref as, vc, .int sc, .int ea]))
def fK (adr : Nat → Nat → Nat) (k : Nat) : Nat → Option Nat := fun j => if j < 8 then some (adr (if j + 1 < k then j + 1 else j) 0) else none
theorem fK_1 {adr : Nat → Nat → Nat} : svA adr = fK adr 1 := by
  funext j
  simp only [fS, fK]
  by_cases h : j < 8
  · rw [if_pos h, if_pos h, if_neg (by omega)]
  · rw [if_neg h, if_neg h]
theorem fK_s {adr : Nat → Nat → Nat} {k : Nat} (h1 : 1 ≤ k) (h8 : k < 8) : va_up (fK adr k) (k - 1) (some (adr k 0)) = fK adr (k + 1) := by
  funext j
  simp only [va_up, fK]
  by_cases h : j = k - 1
  · rw [if_pos h, if_pos (by omega), if_pos (by omega), show j + 1 = k by omega]
  · rw [if_neg h]
    by_cases h3 : j < 8
    · rw [if_pos h3, if_pos h3]
      by_cases h2 : j + 1 < k
      · rw [if_pos h2, if_pos (by omega)]
      · rw [if_neg h2, if_neg (by omega)]
    · rw [if_neg h3, if_neg h3]
theorem fK_8 {adr : Nat → Nat → Nat} : va_up (fK adr 8) 7 (some (adr 0 0)) = svA (rotA adr) := by
  funext j
  simp only [va_up, fK, fS, rotA]
  by_cases h : j = 7
  · subst h; simp
  · rw [if_neg h]
    by_cases h2 : j + 1 < 8
    · rw [if_pos h2, if_pos (by omega), if_pos (by omega), if_pos (by omega)]
    · rw [if_neg (by omega), if_neg (by omega)]
theorem svF_obj {t : Nat → ClassId} {adr : Nat → Nat → Nat} {sav : Nat → CS} {k : Nat} (hk : k < 8) : ∃ (i : Nat) (vs : List Value), ((svF t adr sav : va_W)[(i : Nat)]?) = some ((adr k 0, Sum.inr (2, (vs : List Value))) : Nat × va_E) := by
  obtain ⟨vs, hm⟩ : ∃ vs, ((adr k 0, Sum.inr (2, vs)) : Nat × va_E) ∈ svF t adr sav := ⟨_, List.mem_flatMap.mpr ⟨k, List.mem_range.mpr hk, List.mem_of_getElem? (i := 0) rfl⟩⟩
  obtain ⟨i, hi⟩ := List.getElem?_of_mem hm
  exact ⟨i, vs, hi⟩
