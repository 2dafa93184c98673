def qM (K S : Nat → Nat) (P : List Pc) (pe : List Nat) (lo hi : Nat) : (Nat → Nat) × List Pc × List Nat × Nat := mspS K lo hi pe S P
def qP1 (K S : Nat → Nat) (P : List Pc) (pe : List Nat) (lo hi : Nat) : List Pc := (qM K S P pe lo hi).2.1
def qP2 (K S : Nat → Nat) (P : List Pc) (pe : List Nat) (lo hi : Nat) : List Pc := divS K lo (qP1 K S P pe lo hi)
def qP3 (K S : Nat → Nat) (P : List Pc) (pe : List Nat) (lo hi : Nat) : List Pc := divS K hi (qP2 K S P pe lo hi)
def qF (K S : Nat → Nat) (P : List Pc) (pe : List Nat) (lo hi : Nat) : Nat := pcF (qP3 K S P pe lo hi) lo
def qE (K S : Nat → Nat) (P : List Pc) (pe : List Nat) (lo hi : Nat) : Nat := pcF (qP3 K S P pe lo hi) hi
def qP4 (K S : Nat → Nat) (P : List Pc) (pe : List Nat) (lo hi : Nat) : List Pc := warN (qF K S P pe lo hi) (qP3 K S P pe lo hi) (qE K S P pe lo hi - qF K S P pe lo hi)
def qSh (K S W : Nat → Nat) (P : List Pc) (pe : List Nat) (lo hi : Nat) : List Pc × Nat × Nat := shS K W (qP4 K S P pe lo hi) (qF K S P pe lo hi) (qE K S P pe lo hi - qF K S P pe lo hi)
def qD (K S W : Nat → Nat) (P : List Pc) (pe : List Nat) (lo hi : Nat) : Nat := (qSh K S W P pe lo hi).1.length - W 2
def qP6 (K S W : Nat → Nat) (P : List Pc) (pe : List Nat) (lo hi : Nat) : List Pc := drpN (qSh K S W P pe lo hi).1 (qD K S W P pe lo hi)
def qT (K S : Nat → Nat) (V : Nat → Int32) (P : List Pc) (pe : List Nat) (lo hi : Nat) : Ty := talS K V (qP3 K S P pe lo hi) (qF K S P pe lo hi) (qE K S P pe lo hi)
/-- the cost of a query -/
def qC (K S W : Nat → Nat) (V : Nat → Int32) (P : List Pc) (pe : List Nat) (lo hi : Nat) : Nat :=
  (qM K S P pe lo hi).2.2.2 + divC lo (qP1 K S P pe lo hi) + divC hi (qP2 K S P pe lo hi) + (qT K S V P pe lo hi).1 + (qSh K S W P pe lo hi).2.1
theorem pc_asc {K : Nat → Nat} {P : List Pc} (h : OW K P) {i j : Nat} (hij : i < j) (hj : j < P.length) : P[i].1 < P[j].1 :=
  ((List.pairwise_iff_getElem.mp h.2) i j (by omega) hj hij).1
theorem pc_mem {K : Nat → Nat} {P : List Pc} {b : Nat} (h : OW K P) (hb : ∃ X ∈ P, X.1 = b) : ∃ hp : pcF P b < P.length, P[pcF P b].1 = b := by
  obtain ⟨X, hX, hXb⟩ := hb
  obtain ⟨A, B, rfl⟩ := List.append_of_mem hX
  have hm := OW_mid h
  have e : pcF (A ++ X :: B) b = A.length := pcF_app (by omega) (fun Y hY => by have := (hm.2.1 Y hY).1; omega)
  refine ⟨by rw [e]; simp, ?_⟩
  simp only [e]
  simpa using hXb
theorem RG_of {n : Nat} {K : Nat → Nat} {P : List Pc} {lo hi : Nat} (h : PI n K P) (hlt : lo < hi) (h1 : ∃ X ∈ P, X.1 = lo) (h2 : ∃ X ∈ P, X.1 = hi) : RG P lo hi (pcF P lo) (pcF P hi) := by
  have ho := h.2.2.1
  obtain ⟨a1, a2⟩ := pc_mem ho h1
  obtain ⟨b1, b2⟩ := pc_mem ho h2
  have asc := fun i j (hij : i < j) (hj : j < P.length) => pc_asc ho hij hj
  have low : ∀ p (hp : p < P.length), lo ≤ P[p].1 ↔ pcF P lo ≤ p := by
    intro p hp
    constructor
    · intro hx
      apply Decidable.byContradiction; intro hn
      have := asc p (pcF P lo) (by omega) a1
      omega
    · intro hx
      by_cases he : pcF P lo = p
      · subst he; omega
      · have := asc (pcF P lo) p (by omega) hp; omega
  have high : ∀ p (hp : p < P.length), P[p].1 < hi ↔ p < pcF P hi := by
    intro p hp
    constructor
    · intro hx
      apply Decidable.byContradiction; intro hn
      by_cases he : pcF P hi = p
      · subst he; omega
      · have := asc (pcF P hi) p (by omega) hp; omega
    · intro hx
      have := asc p (pcF P hi) hx b1
      omega
  refine ⟨?_, b1, fun p hp => ?_⟩
  · have := (high (pcF P lo) a1).mp (by omega); omega
  · have x1 := low p hp; have x2 := high p hp
    constructor
    · rintro ⟨y1, y2⟩; exact ⟨x1.mp y1, x2.mp (by omega)⟩
    · rintro ⟨y1, y2⟩; exact ⟨x1.mpr y1, by have := x2.mpr y2; omega⟩
/-- what stands of all the pieces on the way of a query -/
theorem q_ok {n : Nat} {K S W : Nat → Nat} {P : List Pc} {pe : List Nat} {lo hi : Nat} (hp : PI n K P) (hs : SI n S P pe) (h60 : P.length ≤ 60) (hh : hsum P + 62 < 1073741824) (hlt : lo < hi) (hhi : hi ≤ 10000) (hW : 1 ≤ W 2) (hW2 : W 2 ≤ 60) :
    (PI n K (qP1 K S P pe lo hi) ∧ (qP1 K S P pe lo hi).length ≤ 60 ∧ SI n (qM K S P pe lo hi).1 (qP1 K S P pe lo hi) (qM K S P pe lo hi).2.2.1) ∧
    (PI n K (qP2 K S P pe lo hi) ∧ (qP2 K S P pe lo hi).length < 62) ∧
    (PI n K (qP3 K S P pe lo hi) ∧ hsum (qP3 K S P pe lo hi) + 62 < 1073741824 ∧ RG (qP3 K S P pe lo hi) lo hi (qF K S P pe lo hi) (qE K S P pe lo hi)) ∧
    (PI n K (qP4 K S P pe lo hi) ∧ RG (qP4 K S P pe lo hi) lo hi (qF K S P pe lo hi) (qE K S P pe lo hi)) ∧
    PI n K (qSh K S W P pe lo hi).1 ∧
    (PI n K (qP6 K S W P pe lo hi) ∧ (qP6 K S W P pe lo hi).length ≤ 60 ∧ hsum (qP6 K S W P pe lo hi) ≤ hsum P + 62 ∧ SI n (qM K S P pe lo hi).1 (qP6 K S W P pe lo hi) (qM K S P pe lo hi).2.2.1) := by
  obtain ⟨a1, a2, a3, a4⟩ := msp_ok (lo := lo) (hi := hi) pe [] S P hp hs
  rw [List.nil_append] at a2
  have p1 : PI n K (qP1 K S P pe lo hi) := a1
  have l1 : (qP1 K S P pe lo hi).length = P.length := a3
  have s1 : hsum (qP1 K S P pe lo hi) = hsum P := a4
  have i1 : SI n (qM K S P pe lo hi).1 (qP1 K S P pe lo hi) (qM K S P pe lo hi).2.2.1 := a2
  obtain ⟨b1, b2, b3, b4, b5, b6, b7⟩ := PI_div (b := lo) p1 (by omega) (by omega)
  have p2 : PI n K (qP2 K S P pe lo hi) := b1
  have l2 : (qP2 K S P pe lo hi).length < 62 := by show (divS K lo (qP1 K S P pe lo hi)).length < 62; omega
  obtain ⟨c1, c2, c3, c4, c5, c6, c7⟩ := PI_div (b := hi) p2 hhi l2
  have p3 : PI n K (qP3 K S P pe lo hi) := c1
  have s3 : hsum (qP3 K S P pe lo hi) ≤ hsum P := by
    show hsum (divS K hi (qP2 K S P pe lo hi)) ≤ _
    have : hsum (qP2 K S P pe lo hi) ≤ hsum (qP1 K S P pe lo hi) := b2
    omega
  have f3 : (flat (qP3 K S P pe lo hi)).Perm (flat (qP1 K S P pe lo hi)) := c3.trans b3
  have g3 : RG (qP3 K S P pe lo hi) lo hi (qF K S P pe lo hi) (qE K S P pe lo hi) := by
    refine RG_of p3 hlt ?_ ?_
    · obtain ⟨A, X, B, hX, hXb⟩ := b6
      obtain ⟨Y, hY, hYb⟩ := c7 X (by show X ∈ divS K lo _; rw [hX]; simp)
      exact ⟨Y, hY, by rw [hYb, hXb]⟩
    · obtain ⟨A, X, B, hX, hXb⟩ := c6
      exact ⟨X, by show X ∈ divS K hi _; rw [hX]; simp, hXb⟩
  have l3 := p3.1.len
  obtain ⟨d1, d2, d3, d4, d5⟩ := warN_ok (f := qF K S P pe lo hi) p3 (qE K S P pe lo hi - qF K S P pe lo hi) (by have := g3.1; have := g3.2.1; omega) (by have := g3.1; have := g3.2.1; omega)
  have p4 : PI n K (qP4 K S P pe lo hi) := d1
  have g4 : RG (qP4 K S P pe lo hi) lo hi (qF K S P pe lo hi) (qE K S P pe lo hi) := g3.of_bd d4
  have f4 : flat (qP4 K S P pe lo hi) = flat (qP3 K S P pe lo hi) := flat_rs_eq d5
  have s4 : hsum (qP4 K S P pe lo hi) ≤ hsum P + 62 := by
    show hsum (warN _ _ _) ≤ _
    have := g3.1; have := g3.2.1; omega
  obtain ⟨e1, e2, e3, e4, e5⟩ := sh_ok (W := W) (f := qF K S P pe lo hi) p4 (qE K S P pe lo hi - qF K S P pe lo hi) (by have := g4.1; have := g4.2.1; omega)
  have p5 : PI n K (qSh K S W P pe lo hi).1 := e1
  have o5 := p5.1.one
  obtain ⟨v1, v2, v3, v4⟩ := drp_ok p5 (qD K S W P pe lo hi) (by unfold qD; omega)
  have p6 : PI n K (qP6 K S W P pe lo hi) := v1
  refine ⟨⟨p1, by omega, i1⟩, ⟨p2, l2⟩, ⟨p3, by omega, g3⟩, ⟨p4, g4⟩, p5, p6, ?_, ?_, ?_⟩
  · show (drpN _ _).length ≤ 60
    have : qD K S W P pe lo hi = (qSh K S W P pe lo hi).1.length - W 2 := rfl
    omega
  · show hsum (drpN _ _) ≤ _
    have : hsum (qSh K S W P pe lo hi).1 = hsum (qP4 K S P pe lo hi) := e2
    omega
  · obtain ⟨j1, j2, j3, j4⟩ := i1
    refine ⟨fun r => ?_, j2, j3, j4⟩
    have : flat (qP6 K S W P pe lo hi) = flat (qSh K S W P pe lo hi).1 := v4
    rw [this, (show (flat (qSh K S W P pe lo hi).1).Perm (flat (qP4 K S P pe lo hi)) from e5).mem_iff, f4, f3.mem_iff]
    exact j1 r
