abbrev fl (P : List Pc) (i : Nat) : Nat := (flat P).getD i 0
theorem fl_eq {P : List Pc} {i : Nat} (h : i < (flat P).length) : fl P i = (flat P)[i] := by simp [fl, h]
def dscG (K : Nat → Nat) (P : List Pc) (s x j : Nat) : Nat := if K (fl P (s + j + 1)) < K (fl P (s + j)) then x + 1 else x
def dscS (K : Nat → Nat) (P : List Pc) (p : Nat) : Nat := pfi (dscG K P (sp P p)) 0 (sp P (p + 1) - sp P p - 1)
def lesG (K : Nat → Nat) (P : List Pc) (s key x j : Nat) : Nat := if K (fl P (s + j)) < key then x + 1 else x
def lesS (K : Nat → Nat) (P : List Pc) (p key : Nat) : Nat := pfi (lesG K P (sp P p) key) 0 (sp P (p + 1) - sp P p)
/-- how uneven -/
def gapS (K : Nat → Nat) (P : List Pc) (p key : Nat) : Nat := (sp P (p + 1) - sp P p - 2 * lesS K P p key) + (2 * lesS K P p key - (sp P (p + 1) - sp P p))
def eveG (K : Nat → Nat) (P : List Pc) (p : Nat) (b : Option Nat × Nat) (j : Nat) : Option Nat × Nat :=
  let key := K (fl P (sp P p + j))
  if (P.map (fun X : Pc => X.1)).getD p 0 < key then (match b.1 with
    | none => (some key, gapS K P p key)
    | some q => if gapS K P p key < b.2 ∨ (gapS K P p key = b.2 ∧ key < q) then (some key, gapS K P p key) else b)
  else b
def eveS (K : Nat → Nat) (P : List Pc) (p : Nat) : Option Nat := (pfi (eveG K P p) (none, 0) (sp P (p + 1) - sp P p)).1
def plaS (P : List Pc) (row : Nat) : Option Nat := fstI (fun i => fl P i == row) 0 (flat P).length
theorem pfi_le {g : Nat → Nat → Nat} {x0 e : Nat} (h : ∀ x i, g x i ≤ x + 1) : pfi g x0 e ≤ x0 + e := by
  induction e with
  | zero => exact Nat.le_refl _
  | succ e ih => simp only [pfi]; have := h (pfi g x0 e) e; omega
section RD
variable {n N : Nat} {sz pc : Int32} {en bo he so st ky : Nat → Int32} {P : List Pc} {K : Nat → Nat} {a : Nat → Int32}
theorem K_lt (hz : SZ n P) (hk : KY n ky K) {i : Nat} (h : i < (flat P).length) : K (fl P i) < 10000 := by
  rw [fl_eq h]; exact (hk _ (hz.rs _ (List.getElem_mem h))).2
theorem c_keyAt' {i : Nat} (h : IX sz pc en bo he so st P) (hz : SZ n P) (hk : KY n ky K) (hi : i < (flat P).length) : f_X3_keyAt sz en ky (iN i) = some (iN (K (fl P i))) := by
  rw [fl_eq hi]; exact c_keyAt h hz hk hi
theorem r_keyAt' {i : Nat} (h : RX a P) (hz : SZ n P) (hk : KY n (fun r => a (20 + r)) K) (hi : i < (flat P).length) : f_X8_keyAt a (iN i) = some (iN (K (fl P i))) := by
  rw [fl_eq hi]; exact r_keyAt h hz hk hi
theorem c_descents {p : Nat} (h : IX sz pc en bo he so st P) (hz : SZ n P) (hk : KY n ky K) (hN : 1000 < N) (hp : p < P.length) : f_X3_descentsOf N sz pc en st ky (iN p) = some (iN (dscS K P p)) := by
  have hl := hz.len; have hf := hz.fl; have h1 := sp_le P (p + 1); have h2 : sp P p ≤ sp P (p + 1) := sp_mono (by omega)
  unfold f_X3_descentsOf
  rw [show iN p + 1 = iN (p + 1) from iN_add _ 1, c_startOf h hz (by omega), c_startOf h hz (by omega), bnd_some, some_lt, bnd_some, some_jn]
  by_cases h0 : sp P (p + 1) = sp P p
  · have e1 : dscS K P p = 0 := by unfold dscS; rw [h0]; simp [pfi]
    rw [e1]
    obtain ⟨M, rfl⟩ : ∃ M, N = M + 1 := ⟨N - 1, by omega⟩
    rw [f_X3_descentsOf_19.eq_2]
    by_cases h3 : sp P p = 0
    · rw [h0, h3, show iN 0 - 1 = -iN 1 from iN_subn (by omega)]; simp (disch := omega) only [Nat.add_zero, iN_lit, iN_lt, iN_le, iN_eq, iN_add, iN_mul, iN_sub, iN_nat, iN_div, iN_mod, iN_pred', n1_lt, n1_le, n1_ne, n1_ne', n1_nle, n1_nlt, n1_eq, oobN, some_lt, some_jn, bnd_some, Bool.false_eq_true, if_true, if_false, ite_true, ite_false, ↓reduceIte, ltT, ltF, leT, leF, eqT, eqF, true_and, and_true, false_and, and_false, true_or, or_true, false_or, or_false, not_true_eq_false, not_false_eq_true, if_pos, if_neg]
    · rw [h0]; simp (disch := omega) only [Nat.add_zero, iN_lit, iN_lt, iN_le, iN_eq, iN_add, iN_mul, iN_sub, iN_nat, iN_div, iN_mod, iN_pred', n1_lt, n1_le, n1_ne, n1_ne', n1_nle, n1_nlt, n1_eq, oobN, some_lt, some_jn, bnd_some, Bool.false_eq_true, if_true, if_false, ite_true, ite_false, ↓reduceIte, ltT, ltF, leT, leF, eqT, eqF, true_and, and_true, false_and, and_false, true_or, or_true, false_or, or_false, not_true_eq_false, not_false_eq_true, if_pos, if_neg]
  · refine (lpC (F := fun n i x => f_X3_descentsOf_19 sz en ky (iN (sp P (p + 1)) - 1) (fun x => some x) n (iN x) (iN (sp P p + i))) (k := fun x => some (iN x)) (g := dscG K P (sp P p)) (x0 := 0) (e := sp P (p + 1) - sp P p - 1) (I := fun _ _ => True) trivial (fun _ _ _ _ => trivial) (fun n i x hi _ => ?_) (fun n x _ => ?_) N (by omega)).1
    · show f_X3_descentsOf_19 sz en ky _ _ (n + 1) (iN x) (iN (sp P p + i)) = _
      rw [f_X3_descentsOf_19.eq_2, show iN (sp P p + i) + 1 = iN (sp P p + i + 1) from iN_add _ 1, c_keyAt' h hz hk (by omega), c_keyAt' h hz hk (by omega)]
      have h3 := K_lt hz hk (show sp P p + i < (flat P).length by omega)
      have h4 := K_lt hz hk (show sp P p + i + 1 < (flat P).length by omega)
      unfold dscG
      generalize K (fl P (sp P p + i + 1)) = u at h4 ⊢
      generalize K (fl P (sp P p + i)) = v at h3 ⊢
      by_cases h5 : u < v
      · simp (disch := omega) only [Nat.add_zero, iN_lit, iN_lt, iN_le, iN_eq, iN_add, iN_mul, iN_sub, iN_nat, iN_div, iN_mod, iN_pred', n1_lt, n1_le, n1_ne, n1_ne', n1_nle, n1_nlt, n1_eq, oobN, some_lt, some_jn, bnd_some, Bool.false_eq_true, if_true, if_false, ite_true, ite_false, ↓reduceIte, ltT, ltF, leT, leF, eqT, eqF, true_and, and_true, false_and, and_false, true_or, or_true, false_or, or_false, not_true_eq_false, not_false_eq_true, if_pos, if_neg]; rfl
      · simp (disch := omega) only [Nat.add_zero, iN_lit, iN_lt, iN_le, iN_eq, iN_add, iN_mul, iN_sub, iN_nat, iN_div, iN_mod, iN_pred', n1_lt, n1_le, n1_ne, n1_ne', n1_nle, n1_nlt, n1_eq, oobN, some_lt, some_jn, bnd_some, Bool.false_eq_true, if_true, if_false, ite_true, ite_false, ↓reduceIte, ltT, ltF, leT, leF, eqT, eqF, true_and, and_true, false_and, and_false, true_or, or_true, false_or, or_false, not_true_eq_false, not_false_eq_true, if_pos, if_neg]; rfl
    · show f_X3_descentsOf_19 sz en ky _ _ (n + 1) (iN x) (iN (sp P p + (sp P (p + 1) - sp P p - 1))) = _
      rw [f_X3_descentsOf_19.eq_2]
      simp (disch := omega) only [Nat.add_zero, iN_lit, iN_lt, iN_le, iN_eq, iN_add, iN_mul, iN_sub, iN_nat, iN_div, iN_mod, iN_pred', n1_lt, n1_le, n1_ne, n1_ne', n1_nle, n1_nlt, n1_eq, oobN, some_lt, some_jn, bnd_some, Bool.false_eq_true, if_true, if_false, ite_true, ite_false, ↓reduceIte, ltT, ltF, leT, leF, eqT, eqF, true_and, and_true, false_and, and_false, true_or, or_true, false_or, or_false, not_true_eq_false, not_false_eq_true, if_pos, if_neg]
theorem r_falls {p : Nat} (h : RX a P) (hz : SZ n P) (hk : KY n (fun r => a (20 + r)) K) (hN : 1000 < N) (hp : p < P.length) : f_X8_falls N a (iN p) = some (iN (dscS K P p)) := by
  have hl := hz.len; have hf := hz.fl; have h1 := sp_le P (p + 1); have h2 : sp P p ≤ sp P (p + 1) := sp_mono (by omega)
  unfold f_X8_falls
  rw [r_firstPlace h hz hN (by omega), bnd_some, some_lt, some_jn, show iN (sp P p) + 1 = iN (sp P p + 1) from iN_add _ 1]
  by_cases h0 : sp P (p + 1) = sp P p
  · have e1 : dscS K P p = 0 := by unfold dscS; rw [h0]; simp [pfi]
    rw [e1]
    obtain ⟨M, hM⟩ : ∃ M, N = M + 1 := ⟨N - 1, by omega⟩
    rw [show f_X8_falls_10 N a (iN p) (fun x2_50_4 => some x2_50_4) N 0 (iN (sp P p + 1)) = f_X8_falls_10 N a (iN p) (fun x2_50_4 => some x2_50_4) (M + 1) 0 (iN (sp P p + 1)) by rw [← hM]]
    rw [f_X8_falls_10.eq_2, show iN p + 1 = iN (p + 1) from iN_add _ 1, r_firstPlace h hz hN (by omega), h0]
    simp (disch := omega) only [Nat.add_zero, iN_lit, iN_lt, iN_le, iN_eq, iN_add, iN_mul, iN_sub, iN_nat, iN_div, iN_mod, iN_pred', n1_lt, n1_le, n1_ne, n1_ne', n1_nle, n1_nlt, n1_eq, oobN, some_lt, some_jn, bnd_some, Bool.false_eq_true, if_true, if_false, ite_true, ite_false, ↓reduceIte, ltT, ltF, leT, leF, eqT, eqF, true_and, and_true, false_and, and_false, true_or, or_true, false_or, or_false, not_true_eq_false, not_false_eq_true, if_pos, if_neg]
  · refine (lpC (F := fun n i x => f_X8_falls_10 N a (iN p) (fun x => some x) n (iN x) (iN (sp P p + i + 1))) (k := fun x => some (iN x)) (g := dscG K P (sp P p)) (x0 := 0) (e := sp P (p + 1) - sp P p - 1) (I := fun _ _ => True) trivial (fun _ _ _ _ => trivial) (fun n i x hi _ => ?_) (fun n x _ => ?_) N (by omega)).1
    · show f_X8_falls_10 N a _ _ (n + 1) (iN x) (iN (sp P p + i + 1)) = _
      rw [f_X8_falls_10.eq_2, show iN p + 1 = iN (p + 1) from iN_add _ 1, r_firstPlace h hz hN (by omega), show iN (sp P p + i + 1) - 1 = iN (sp P p + i) from iN_sub (a := sp P p + i + 1) (b := 1) (by omega), r_keyAt' h hz hk (by omega), r_keyAt' h hz hk (by omega)]
      have h3 := K_lt hz hk (show sp P p + i < (flat P).length by omega)
      have h4 := K_lt hz hk (show sp P p + i + 1 < (flat P).length by omega)
      unfold dscG
      generalize K (fl P (sp P p + i + 1)) = u at h4 ⊢
      generalize K (fl P (sp P p + i)) = v at h3 ⊢
      by_cases h5 : u < v
      · simp (disch := omega) only [Nat.add_zero, iN_lit, iN_lt, iN_le, iN_eq, iN_add, iN_mul, iN_sub, iN_nat, iN_div, iN_mod, iN_pred', n1_lt, n1_le, n1_ne, n1_ne', n1_nle, n1_nlt, n1_eq, oobN, some_lt, some_jn, bnd_some, Bool.false_eq_true, if_true, if_false, ite_true, ite_false, ↓reduceIte, ltT, ltF, leT, leF, eqT, eqF, true_and, and_true, false_and, and_false, true_or, or_true, false_or, or_false, not_true_eq_false, not_false_eq_true, if_pos, if_neg]; rfl
      · simp (disch := omega) only [Nat.add_zero, iN_lit, iN_lt, iN_le, iN_eq, iN_add, iN_mul, iN_sub, iN_nat, iN_div, iN_mod, iN_pred', n1_lt, n1_le, n1_ne, n1_ne', n1_nle, n1_nlt, n1_eq, oobN, some_lt, some_jn, bnd_some, Bool.false_eq_true, if_true, if_false, ite_true, ite_false, ↓reduceIte, ltT, ltF, leT, leF, eqT, eqF, true_and, and_true, false_and, and_false, true_or, or_true, false_or, or_false, not_true_eq_false, not_false_eq_true, if_pos, if_neg]; rfl
    · show f_X8_falls_10 N a _ _ (n + 1) (iN x) (iN (sp P p + (sp P (p + 1) - sp P p - 1) + 1)) = _
      rw [f_X8_falls_10.eq_2, show iN p + 1 = iN (p + 1) from iN_add _ 1, r_firstPlace h hz hN (by omega)]
      simp (disch := omega) only [Nat.add_zero, iN_lit, iN_lt, iN_le, iN_eq, iN_add, iN_mul, iN_sub, iN_nat, iN_div, iN_mod, iN_pred', n1_lt, n1_le, n1_ne, n1_ne', n1_nle, n1_nlt, n1_eq, oobN, some_lt, some_jn, bnd_some, Bool.false_eq_true, if_true, if_false, ite_true, ite_false, ↓reduceIte, ltT, ltF, leT, leF, eqT, eqF, true_and, and_true, false_and, and_false, true_or, or_true, false_or, or_false, not_true_eq_false, not_false_eq_true, if_pos, if_neg]
theorem lesS_le {p key : Nat} : lesS K P p key ≤ sp P (p + 1) - sp P p := by
  have := pfi_le (g := lesG K P (sp P p) key) (x0 := 0) (e := sp P (p + 1) - sp P p) (fun x i => by unfold lesG; split <;> omega)
  unfold lesS; omega
theorem c_gapAt {p key : Nat} (h : IX sz pc en bo he so st P) (hz : SZ n P) (hk : KY n ky K) (hN : 1000 < N) (hp : p < P.length) (hkey : key < 10000) : f_X3_gapAt N sz pc en st ky (iN p) (iN key) = some (iN (gapS K P p key)) := by
  have hl := hz.len; have hf := hz.fl; have h1 := sp_le P (p + 1); have h2 : sp P p ≤ sp P (p + 1) := sp_mono (by omega)
  have loop : ∀ k, f_X3_gapAt_18 sz en ky (iN key) (iN (sp P (p + 1))) k N 0 (iN (sp P p)) = k (iN (lesS K P p key)) := by
    intro k
    refine (lpC (F := fun n i x => f_X3_gapAt_18 sz en ky (iN key) (iN (sp P (p + 1))) k n (iN x) (iN (sp P p + i))) (k := fun x => k (iN x)) (g := lesG K P (sp P p) key) (x0 := 0) (e := sp P (p + 1) - sp P p) (I := fun _ _ => True) trivial (fun _ _ _ _ => trivial) (fun n i x hi _ => ?_) (fun n x _ => ?_) N (by omega)).1
    · show f_X3_gapAt_18 sz en ky _ _ _ (n + 1) (iN x) (iN (sp P p + i)) = _
      rw [f_X3_gapAt_18.eq_2, c_keyAt' h hz hk (by omega)]
      have h3 := K_lt hz hk (show sp P p + i < (flat P).length by omega)
      unfold lesG
      generalize K (fl P (sp P p + i)) = v at h3 ⊢
      by_cases h5 : v < key
      · simp (disch := omega) only [Nat.add_zero, iN_lit, iN_lt, iN_le, iN_eq, iN_add, iN_mul, iN_sub, iN_nat, iN_div, iN_mod, iN_pred', n1_lt, n1_le, n1_ne, n1_ne', n1_nle, n1_nlt, n1_eq, oobN, some_lt, some_jn, bnd_some, Bool.false_eq_true, if_true, if_false, ite_true, ite_false, ↓reduceIte, ltT, ltF, leT, leF, eqT, eqF, true_and, and_true, false_and, and_false, true_or, or_true, false_or, or_false, not_true_eq_false, not_false_eq_true, if_pos, if_neg]; rfl
      · simp (disch := omega) only [Nat.add_zero, iN_lit, iN_lt, iN_le, iN_eq, iN_add, iN_mul, iN_sub, iN_nat, iN_div, iN_mod, iN_pred', n1_lt, n1_le, n1_ne, n1_ne', n1_nle, n1_nlt, n1_eq, oobN, some_lt, some_jn, bnd_some, Bool.false_eq_true, if_true, if_false, ite_true, ite_false, ↓reduceIte, ltT, ltF, leT, leF, eqT, eqF, true_and, and_true, false_and, and_false, true_or, or_true, false_or, or_false, not_true_eq_false, not_false_eq_true, if_pos, if_neg]; rfl
    · show f_X3_gapAt_18 sz en ky _ _ _ (n + 1) (iN x) (iN (sp P p + (sp P (p + 1) - sp P p))) = _
      rw [f_X3_gapAt_18.eq_2]
      simp (disch := omega) only [Nat.add_zero, iN_lit, iN_lt, iN_le, iN_eq, iN_add, iN_mul, iN_sub, iN_nat, iN_div, iN_mod, iN_pred', n1_lt, n1_le, n1_ne, n1_ne', n1_nle, n1_nlt, n1_eq, oobN, some_lt, some_jn, bnd_some, Bool.false_eq_true, if_true, if_false, ite_true, ite_false, ↓reduceIte, ltT, ltF, leT, leF, eqT, eqF, true_and, and_true, false_and, and_false, true_or, or_true, false_or, or_false, not_true_eq_false, not_false_eq_true, if_pos, if_neg]
  unfold f_X3_gapAt
  rw [show iN p + 1 = iN (p + 1) from iN_add _ 1, c_startOf h hz (by omega), c_startOf h hz (by omega), bnd_some, bnd_some, some_jn, loop]
  have h3 : lesS K P p key ≤ sp P (p + 1) - sp P p := lesS_le
  have h4 : P[p].2.2.2.length = sp P (p + 1) - sp P p := by rw [sp_succ hp]; omega
  rw [c_sizeOf h hz hp, h4]
  unfold gapS
  have h5 : sp P (p + 1) - sp P p ≤ 120 := by omega
  generalize sp P (p + 1) - sp P p = m at h3 h5
  generalize lesS K P p key = l at h3
  by_cases h6 : 2 * l ≤ m
  · simp (disch := omega) only [Nat.add_zero, iN_lit, iN_lt, iN_le, iN_eq, iN_add, iN_mul, iN_sub, iN_nat, iN_div, iN_mod, iN_pred', n1_lt, n1_le, n1_ne, n1_ne', n1_nle, n1_nlt, n1_eq, oobN, some_lt, some_jn, bnd_some, Bool.false_eq_true, if_true, if_false, ite_true, ite_false, ↓reduceIte, ltT, ltF, leT, leF, eqT, eqF, true_and, and_true, false_and, and_false, true_or, or_true, false_or, or_false, not_true_eq_false, not_false_eq_true, if_pos, if_neg]
    rw [show 2 * l - m = 0 by omega]; rfl
  · have h7 : iN m - iN (2 * l) = -iN (2 * l - m) := iN_subn (by omega)
    have h8 := neg_nneg (c := 2 * l - m) (by omega) (by omega)
    simp (disch := omega) only [Nat.add_zero, iN_lit, iN_lt, iN_le, iN_eq, iN_add, iN_mul, iN_sub, iN_nat, iN_div, iN_mod, iN_pred', n1_lt, n1_le, n1_ne, n1_ne', n1_nle, n1_nlt, n1_eq, oobN, some_lt, some_jn, bnd_some, Bool.false_eq_true, if_true, if_false, ite_true, ite_false, ↓reduceIte, ltT, ltF, leT, leF, eqT, eqF, true_and, and_true, false_and, and_false, true_or, or_true, false_or, or_false, not_true_eq_false, not_false_eq_true, if_pos, if_neg, h7, h8, zero_sub_neg]
    rw [show m - 2 * l = 0 by omega, Nat.zero_add]
theorem r_unevenAt {p key : Nat} (h : RX a P) (hz : SZ n P) (hk : KY n (fun r => a (20 + r)) K) (hN : 1000 < N) (hp : p < P.length) (hkey : key < 10000) : f_X8_unevenAt N a (iN p) (iN key) = some (iN (gapS K P p key)) := by
  have hl := hz.len; have hf := hz.fl; have h1 := sp_le P (p + 1); have h2 : sp P p ≤ sp P (p + 1) := sp_mono (by omega)
  have loop : ∀ k, f_X8_unevenAt_9 N a (iN p) (iN key) k N 0 (iN (sp P p)) = k (iN (lesS K P p key) - iN (sp P (p + 1) - sp P p - lesS K P p key)) := by
    intro k
    have h0 : ∀ i, pfi (lesG K P (sp P p) key) 0 i ≤ i := fun i => by
      have := pfi_le (g := lesG K P (sp P p) key) (x0 := 0) (e := i) (fun x i => by unfold lesG; split <;> omega)
      omega
    refine (lpC (F := fun n i (x : Nat × Nat) => f_X8_unevenAt_9 N a (iN p) (iN key) k n (iN x.1 - iN x.2) (iN (sp P p + i))) (k := fun x => k (iN x.1 - iN x.2)) (g := fun x i => (lesG K P (sp P p) key x.1 i, i + 1 - lesG K P (sp P p) key x.1 i)) (x0 := (0, 0)) (e := sp P (p + 1) - sp P p) (I := fun i x => x.1 ≤ i ∧ x.2 = i - x.1 ∧ x.1 = pfi (lesG K P (sp P p) key) 0 i) ⟨Nat.le_refl 0, rfl, rfl⟩ (fun i x hi hx => ?_) (fun n i x hi hx => ?_) (fun n x _ => ?_) N (by omega)) |> fun q => q.1.trans ?_
    · refine ⟨?_, rfl, ?_⟩
      · show lesG K P (sp P p) key x.1 i ≤ i + 1
        unfold lesG; split <;> omega
      · show lesG K P (sp P p) key x.1 i = _
        simp only [pfi]; rw [← hx.2.2]
    · show f_X8_unevenAt_9 N a _ _ _ (n + 1) (iN x.1 - iN x.2) (iN (sp P p + i)) = f_X8_unevenAt_9 N a _ _ _ n (iN (lesG K P (sp P p) key x.1 i) - iN (i + 1 - lesG K P (sp P p) key x.1 i)) _
      rw [f_X8_unevenAt_9.eq_2, show iN p + 1 = iN (p + 1) from iN_add _ 1, r_firstPlace h hz hN (by omega), r_keyAt' h hz hk (by omega), hx.2.1]
      have h3 := K_lt hz hk (show sp P p + i < (flat P).length by omega)
      have h9 := hx.1
      unfold lesG
      generalize K (fl P (sp P p + i)) = v at h3 ⊢
      generalize x.1 = y at h9 ⊢
      have e1 : iN y - iN (i - y) + 1 = iN (y + 1) - iN (i + 1 - (y + 1)) := by
        rw [show i + 1 - (y + 1) = i - y by omega, ← iN_add, Int32.sub_eq_add_neg, Int32.sub_eq_add_neg, Int32.add_assoc, Int32.add_assoc, Int32.add_comm (-iN (i - y))]; rfl
      have e2 : iN y - iN (i - y) + (-1) = iN y - iN (i + 1 - y) := by
        rw [show i + 1 - y = (i - y) + 1 by omega, ← iN_add, Int32.sub_eq_add_neg, Int32.sub_eq_add_neg, Int32.neg_add, Int32.add_assoc, Int32.sub_eq_add_neg]
        rfl
      by_cases h5 : v < key
      · rw [if_pos h5, ← e1]; simp (disch := omega) only [Nat.add_zero, iN_lit, iN_lt, iN_le, iN_eq, iN_add, iN_mul, iN_sub, iN_nat, iN_div, iN_mod, iN_pred', n1_lt, n1_le, n1_ne, n1_ne', n1_nle, n1_nlt, n1_eq, oobN, some_lt, some_jn, bnd_some, Bool.false_eq_true, if_true, if_false, ite_true, ite_false, ↓reduceIte, ltT, ltF, leT, leF, eqT, eqF, true_and, and_true, false_and, and_false, true_or, or_true, false_or, or_false, not_true_eq_false, not_false_eq_true, if_pos, if_neg]; rfl
      · rw [if_neg h5, ← e2]; simp (disch := omega) only [Nat.add_zero, iN_lit, iN_lt, iN_le, iN_eq, iN_add, iN_mul, iN_sub, iN_nat, iN_div, iN_mod, iN_pred', n1_lt, n1_le, n1_ne, n1_ne', n1_nle, n1_nlt, n1_eq, oobN, some_lt, some_jn, bnd_some, Bool.false_eq_true, if_true, if_false, ite_true, ite_false, ↓reduceIte, ltT, ltF, leT, leF, eqT, eqF, true_and, and_true, false_and, and_false, true_or, or_true, false_or, or_false, not_true_eq_false, not_false_eq_true, if_pos, if_neg]; rfl
    · show f_X8_unevenAt_9 N a _ _ _ (n + 1) (iN x.1 - iN x.2) (iN (sp P p + (sp P (p + 1) - sp P p))) = _
      rw [f_X8_unevenAt_9.eq_2, show iN p + 1 = iN (p + 1) from iN_add _ 1, r_firstPlace h hz hN (by omega)]
      simp (disch := omega) only [Nat.add_zero, iN_lit, iN_lt, iN_le, iN_eq, iN_add, iN_mul, iN_sub, iN_nat, iN_div, iN_mod, iN_pred', n1_lt, n1_le, n1_ne, n1_ne', n1_nle, n1_nlt, n1_eq, oobN, some_lt, some_jn, bnd_some, Bool.false_eq_true, if_true, if_false, ite_true, ite_false, ↓reduceIte, ltT, ltF, leT, leF, eqT, eqF, true_and, and_true, false_and, and_false, true_or, or_true, false_or, or_false, not_true_eq_false, not_false_eq_true, if_pos, if_neg]
    · have h6 := q.2
      show k _ = k _
      rw [h6.2.1, h6.2.2]; rfl
  unfold f_X8_unevenAt
  rw [r_firstPlace h hz hN (by omega), bnd_some, some_jn, loop]
  have h3 : lesS K P p key ≤ sp P (p + 1) - sp P p := lesS_le
  unfold gapS
  have h5 : sp P (p + 1) - sp P p ≤ 120 := by omega
  generalize sp P (p + 1) - sp P p = m at h3 h5
  generalize lesS K P p key = l at h3
  by_cases h6 : m ≤ 2 * l
  · have h7 : iN l - iN (m - l) = iN (2 * l - m) := by rw [iN_sub (by omega)]; congr 1; omega
    simp (disch := omega) only [Nat.add_zero, iN_lit, iN_lt, iN_le, iN_eq, iN_add, iN_mul, iN_sub, iN_nat, iN_div, iN_mod, iN_pred', n1_lt, n1_le, n1_ne, n1_ne', n1_nle, n1_nlt, n1_eq, oobN, some_lt, some_jn, bnd_some, Bool.false_eq_true, if_true, if_false, ite_true, ite_false, ↓reduceIte, ltT, ltF, leT, leF, eqT, eqF, true_and, and_true, false_and, and_false, true_or, or_true, false_or, or_false, not_true_eq_false, not_false_eq_true, if_pos, if_neg, h7]
    rw [show m - 2 * l = 0 by omega, Nat.zero_add]
  · have h7 : iN l - iN (m - l) = -iN (m - 2 * l) := by rw [iN_subn (by omega)]; congr 2; omega
    have h8 := neg_nneg (c := m - 2 * l) (by omega) (by omega)
    simp (disch := omega) only [Nat.add_zero, iN_lit, iN_lt, iN_le, iN_eq, iN_add, iN_mul, iN_sub, iN_nat, iN_div, iN_mod, iN_pred', n1_lt, n1_le, n1_ne, n1_ne', n1_nle, n1_nlt, n1_eq, oobN, some_lt, some_jn, bnd_some, Bool.false_eq_true, if_true, if_false, ite_true, ite_false, ↓reduceIte, ltT, ltF, leT, leF, eqT, eqF, true_and, and_true, false_and, and_false, true_or, or_true, false_or, or_false, not_true_eq_false, not_false_eq_true, if_pos, if_neg, h7, h8, neg_neg_iN]
    rw [show 2 * l - m = 0 by omega, Nat.add_zero]
end RD
