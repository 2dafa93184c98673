/-- a fold over indices -/
def pfi {β : Type} (g : β → Nat → β) (x : β) : Nat → β
  | 0 => x
  | i + 1 => g (pfi g x i) i
theorem lpC {ρ β : Type} (F : Nat → Nat → β → Option ρ) (k : β → Option ρ) (g : β → Nat → β) (x0 : β) (e : Nat) (I : Nat → β → Prop)
    (h0 : I 0 x0) (hI : ∀ i x, i < e → I i x → I (i + 1) (g x i))
    (hs : ∀ n i x, i < e → I i x → F (n + 1) i x = F n (i + 1) (g x i)) (he : ∀ n x, I e x → F (n + 1) e x = k x) :
    ∀ n, e < n → F n 0 x0 = k (pfi g x0 e) ∧ I e (pfi g x0 e) := by
  have hII : ∀ i, i ≤ e → I i (pfi g x0 i) := by
    intro i
    induction i with
    | zero => intro _; exact h0
    | succ i ih => intro h; exact hI i _ (by omega) (ih (by omega))
  have h : ∀ n i, i ≤ e → e - i < n → F n i (pfi g x0 i) = k (pfi g x0 e) := by
    intro n
    induction n with
    | zero => intro i h1 h2; omega
    | succ n ih =>
      intro i h1 h2
      by_cases h3 : i = e
      · rw [h3]; exact he n _ (hII e (Nat.le_refl e))
      · rw [hs n i _ (by omega) (hII i h1)]; exact ih (i + 1) (by omega) (by omega)
  intro n hn
  exact ⟨h n 0 (Nat.zero_le e) (by omega), hII e (Nat.le_refl e)⟩
theorem pfi_ext {β : Type} {g g' : β → Nat → β} {x : β} {e : Nat} (h : ∀ i x, i < e → g x i = g' x i) : pfi g x e = pfi g' x e := by
  induction e with
  | zero => rfl
  | succ e ih => simp only [pfi]; rw [ih (fun i x hi => h i x (by omega)), h e _ (by omega)]
/-- the ref's pieces as they lie -/
def enc : List Pc → List Nat
  | [] => []
  | X :: P => X.1 :: X.2.2.2.length :: X.2.1 :: X.2.2.1 :: enc P
theorem enc_append (A B : List Pc) : enc (A ++ B) = enc A ++ enc B := by
  induction A with
  | nil => rfl
  | cons a A ih => simp [enc, ih]
theorem enc_length (A : List Pc) : (enc A).length = 4 * A.length := by
  induction A with
  | nil => rfl
  | cons a A ih => simp [enc, ih]; omega
/-- the index of the reference holds these pieces -/
abbrev RX (a : Nat → Int32) (P : List Pc) : Prop :=
  a 3 = iN P.length ∧ a 1 = iN (flat P).length ∧ At a 380 (flat P) ∧ At a 540 (enc P)
theorem RX.hp {a : Nat → Int32} {P : List Pc} (h : RX a P) : a 3 = iN P.length := h.1
theorem RX.hs {a : Nat → Int32} {P : List Pc} (h : RX a P) : a 1 = iN (flat P).length := h.2.1
theorem RX.en {a : Nat → Int32} {P : List Pc} (h : RX a P) : At a 380 (flat P) := h.2.2.1
theorem RX.pc {a : Nat → Int32} {P : List Pc} (h : RX a P) : At a 540 (enc P) := h.2.2.2
theorem RX.at {a : Nat → Int32} {P : List Pc} (h : At a 540 (enc P)) {p : Nat} (hp : p < P.length) :
    a (540 + 4 * p) = iN P[p].1 ∧ a (540 + 4 * p + 1) = iN P[p].2.2.2.length ∧ a (540 + 4 * p + 2) = iN P[p].2.1 ∧ a (540 + 4 * p + 3) = iN P[p].2.2.1 := by
  obtain ⟨A, X, B, rfl, rfl⟩ := split_at hp
  rw [enc_append, At.append, enc_length] at h
  have h1 := h.2
  simp only [enc, At.cons] at h1
  simp only [List.getElem_append_right (Nat.le_refl _), Nat.sub_self, List.getElem_cons_zero]
  exact ⟨h1.1, h1.2.1, h1.2.2.1, h1.2.2.2.1⟩
section RR
variable {n N : Nat} {a : Nat → Int32} {P : List Pc} {K : Nat → Nat}
theorem r_of {p w : Nat} (hp : p ≤ 62) (hw : w < 4) : f_X8_of a (iN p) (iN w) = some (a (540 + 4 * p + w)) := by
  unfold f_X8_of; simp (disch := omega) only [Nat.add_zero, iN_lit, iN_lt, iN_le, iN_eq, iN_add, iN_mul, iN_sub, iN_nat, iN_div, iN_mod, iN_pred', n1_lt, n1_le, n1_ne, n1_ne', n1_nle, n1_nlt, n1_eq, oobN, some_lt, some_jn, bnd_some, Bool.false_eq_true, if_true, if_false, ite_true, ite_false, ↓reduceIte, ltT, ltF, leT, leF, eqT, eqF, true_and, and_true, false_and, and_false, true_or, or_true, false_or, or_false, not_true_eq_false, not_false_eq_true, if_pos, if_neg]
theorem r_bd {p : Nat} (h : RX a P) (hz : SZ n P) (hp : p < P.length) : f_X8_of a (iN p) 0 = some (iN P[p].1) := by
  have := hz.len
  rw [iN_lit, r_of (by omega) (by omega)]; simp only [Nat.add_zero]; rw [(RX.at h.pc hp).1]
theorem r_mn {p : Nat} (h : RX a P) (hz : SZ n P) (hp : p < P.length) : f_X8_of a (iN p) 1 = some (iN P[p].2.2.2.length) := by
  have := hz.len
  rw [iN_lit, r_of (by omega) (by omega), (RX.at h.pc hp).2.1]
theorem r_ht {p : Nat} (h : RX a P) (hz : SZ n P) (hp : p < P.length) : f_X8_of a (iN p) 2 = some (iN P[p].2.1) := by
  have := hz.len
  rw [iN_lit, r_of (by omega) (by omega), (RX.at h.pc hp).2.2.1]
theorem r_so {p : Nat} (h : RX a P) (hz : SZ n P) (hp : p < P.length) : f_X8_of a (iN p) 3 = some (iN P[p].2.2.1) := by
  have := hz.len
  rw [iN_lit, r_of (by omega) (by omega), (RX.at h.pc hp).2.2.2]
theorem r_firstPlace {p : Nat} (h : RX a P) (hz : SZ n P) (hN : 1000 < N) (hp : p ≤ P.length) : f_X8_firstPlace N a (iN p) = some (iN (sp P p)) := by
  have hl := hz.len
  unfold f_X8_firstPlace
  have := (lpC (F := fun n i x => f_X8_firstPlace_4 a (iN p) (fun x => some x) n (iN x) (iN i)) (k := fun x => some (iN x)) (g := fun x i => sp P (i + 1)) (x0 := 0) (e := p) (I := fun i x => x = sp P i)
    (by rw [sp_zero]) (fun i x hi hx => rfl)
    (by
      intro n i x hi hx
      show f_X8_firstPlace_4 a (iN p) _ (n + 1) (iN x) (iN i) = _
      rw [f_X8_firstPlace_4.eq_2]
      simp (disch := omega) only [Nat.add_zero, iN_lit, iN_lt, iN_le, iN_eq, iN_add, iN_mul, iN_sub, iN_nat, iN_div, iN_mod, iN_pred', n1_lt, n1_le, n1_ne, n1_ne', n1_nle, n1_nlt, n1_eq, oobN, some_lt, some_jn, bnd_some, Bool.false_eq_true, if_true, if_false, ite_true, ite_false, ↓reduceIte, ltT, ltF, leT, leF, eqT, eqF, true_and, and_true, false_and, and_false, true_or, or_true, false_or, or_false, not_true_eq_false, not_false_eq_true, if_pos, if_neg]
      rw [← iN_lit, r_mn h hz (by omega), sp_succ (by omega), hx]
      simp (disch := omega) only [Nat.add_zero, iN_lit, iN_lt, iN_le, iN_eq, iN_add, iN_mul, iN_sub, iN_nat, iN_div, iN_mod, iN_pred', n1_lt, n1_le, n1_ne, n1_ne', n1_nle, n1_nlt, n1_eq, oobN, some_lt, some_jn, bnd_some, Bool.false_eq_true, if_true, if_false, ite_true, ite_false, ↓reduceIte, ltT, ltF, leT, leF, eqT, eqF, true_and, and_true, false_and, and_false, true_or, or_true, false_or, or_false, not_true_eq_false, not_false_eq_true, if_pos, if_neg])
    (by
      intro n x hx
      show f_X8_firstPlace_4 a (iN p) _ (n + 1) (iN x) (iN p) = _
      rw [f_X8_firstPlace_4.eq_2]
      simp (disch := omega) only [Nat.add_zero, iN_lit, iN_lt, iN_le, iN_eq, iN_add, iN_mul, iN_sub, iN_nat, iN_div, iN_mod, iN_pred', n1_lt, n1_le, n1_ne, n1_ne', n1_nle, n1_nlt, n1_eq, oobN, some_lt, some_jn, bnd_some, Bool.false_eq_true, if_true, if_false, ite_true, ite_false, ↓reduceIte, ltT, ltF, leT, leF, eqT, eqF, true_and, and_true, false_and, and_false, true_or, or_true, false_or, or_false, not_true_eq_false, not_false_eq_true, if_pos, if_neg]) N (by omega))
  rw [some_jn]
  refine this.1.trans ?_
  rw [this.2]
theorem r_keyAt {i : Nat} (h : RX a P) (hz : SZ n P) (hk : KY n (fun r => a (20 + r)) K) (hi : i < (flat P).length) : f_X8_keyAt a (iN i) = some (iN (K (flat P)[i])) := by
  have h1 := h.en.get hi
  have h2 := hz.rs _ (List.getElem_mem hi)
  have h3 := (hk _ h2).1
  have h4 := hz.fl; have h5 := hz.nn
  unfold f_X8_keyAt
  simp (disch := omega) only [Nat.add_zero, iN_lit, iN_lt, iN_le, iN_eq, iN_add, iN_mul, iN_sub, iN_nat, iN_div, iN_mod, iN_pred', n1_lt, n1_le, n1_ne, n1_ne', n1_nle, n1_nlt, n1_eq, oobN, some_lt, some_jn, bnd_some, Bool.false_eq_true, if_true, if_false, ite_true, ite_false, ↓reduceIte, ltT, ltF, leT, leF, eqT, eqF, true_and, and_true, false_and, and_false, true_or, or_true, false_or, or_false, not_true_eq_false, not_false_eq_true, if_pos, if_neg, h1, h3]
theorem r_isAhead {r q : Nat} (hk : KY n (fun r => a (20 + r)) K) (hn : n ≤ 120) (hr : r < n) (hq : q < n) : f_X8_isAhead a (iN r) (iN q) = some (if ahd K r q then 1 else 0) := by
  have h1 := hk r hr; have h2 := hk q hq
  have h3 := h1.1; have h4 := h2.1
  unfold f_X8_isAhead
  simp only [ahd, decide_eq_true_eq]
  by_cases h5 : K r < K q
  · simp (disch := omega) only [Nat.add_zero, iN_lit, iN_lt, iN_le, iN_eq, iN_add, iN_mul, iN_sub, iN_nat, iN_div, iN_mod, iN_pred', n1_lt, n1_le, n1_ne, n1_ne', n1_nle, n1_nlt, n1_eq, oobN, some_lt, some_jn, bnd_some, Bool.false_eq_true, if_true, if_false, ite_true, ite_false, ↓reduceIte, ltT, ltF, leT, leF, eqT, eqF, true_and, and_true, false_and, and_false, true_or, or_true, false_or, or_false, not_true_eq_false, not_false_eq_true, if_pos, if_neg, h3, h4]
  · by_cases h6 : K r = K q
    · by_cases h7 : r < q
      · simp (disch := omega) only [Nat.add_zero, iN_lit, iN_lt, iN_le, iN_eq, iN_add, iN_mul, iN_sub, iN_nat, iN_div, iN_mod, iN_pred', n1_lt, n1_le, n1_ne, n1_ne', n1_nle, n1_nlt, n1_eq, oobN, some_lt, some_jn, bnd_some, Bool.false_eq_true, if_true, if_false, ite_true, ite_false, ↓reduceIte, ltT, ltF, leT, leF, eqT, eqF, true_and, and_true, false_and, and_false, true_or, or_true, false_or, or_false, not_true_eq_false, not_false_eq_true, if_pos, if_neg, h3, h4]
      · simp (disch := omega) only [Nat.add_zero, iN_lit, iN_lt, iN_le, iN_eq, iN_add, iN_mul, iN_sub, iN_nat, iN_div, iN_mod, iN_pred', n1_lt, n1_le, n1_ne, n1_ne', n1_nle, n1_nlt, n1_eq, oobN, some_lt, some_jn, bnd_some, Bool.false_eq_true, if_true, if_false, ite_true, ite_false, ↓reduceIte, ltT, ltF, leT, leF, eqT, eqF, true_and, and_true, false_and, and_false, true_or, or_true, false_or, or_false, not_true_eq_false, not_false_eq_true, if_pos, if_neg, h3, h4]
    · simp (disch := omega) only [Nat.add_zero, iN_lit, iN_lt, iN_le, iN_eq, iN_add, iN_mul, iN_sub, iN_nat, iN_div, iN_mod, iN_pred', n1_lt, n1_le, n1_ne, n1_ne', n1_nle, n1_nlt, n1_eq, oobN, some_lt, some_jn, bnd_some, Bool.false_eq_true, if_true, if_false, ite_true, ite_false, ↓reduceIte, ltT, ltF, leT, leF, eqT, eqF, true_and, and_true, false_and, and_false, true_or, or_true, false_or, or_false, not_true_eq_false, not_false_eq_true, if_pos, if_neg, h3, h4]
theorem r_lastPiece {key : Nat} (h : RX a P) (hz : SZ n P) (hN : 1000 < N) (hk : key < 2147483648) (h0 : ∀ X, P[0]? = some X → X.1 ≤ key) :
    f_X8_lastPiece N a (iN key) = some (iN (lle (P.map (fun X : Pc => X.1)) key P.length)) := by
  have hl := hz.len; have h1 := hz.one
  unfold f_X8_lastPiece
  have key1 : ∀ n i, i < P.length → i < n → f_X8_lastPiece_9 a (iN key) (fun x => some x) n (iN i) = some (iN (lle (P.map (fun X : Pc => X.1)) key (i + 1))) := by
    intro n
    induction n with
    | zero => intro i h1 h2; omega
    | succ n ih =>
      intro i hi hn
      unfold f_X8_lastPiece_9
      have h2 := hz.bd _ (List.getElem_mem hi)
      rw [r_bd h hz hi]
      simp only [lle, getD_get (show i < (P.map (fun X : Pc => X.1)).length by simpa using hi), List.getElem_map]
      by_cases h3 : P[i].1 ≤ key
      · simp (disch := omega) only [Nat.add_zero, iN_lit, iN_lt, iN_le, iN_eq, iN_add, iN_mul, iN_sub, iN_nat, iN_div, iN_mod, iN_pred', n1_lt, n1_le, n1_ne, n1_ne', n1_nle, n1_nlt, n1_eq, oobN, some_lt, some_jn, bnd_some, Bool.false_eq_true, if_true, if_false, ite_true, ite_false, ↓reduceIte, ltT, ltF, leT, leF, eqT, eqF, true_and, and_true, false_and, and_false, true_or, or_true, false_or, or_false, not_true_eq_false, not_false_eq_true, if_pos, if_neg]
      · have h4 : 0 < i := by
          rcases Nat.eq_zero_or_pos i with h4 | h4
          · subst h4; exact absurd (h0 _ (List.getElem?_eq_getElem hi)) h3
          · exact h4
        simp (disch := omega) only [Nat.add_zero, iN_lit, iN_lt, iN_le, iN_eq, iN_add, iN_mul, iN_sub, iN_nat, iN_div, iN_mod, iN_pred', n1_lt, n1_le, n1_ne, n1_ne', n1_nle, n1_nlt, n1_eq, oobN, some_lt, some_jn, bnd_some, Bool.false_eq_true, if_true, if_false, ite_true, ite_false, ↓reduceIte, ltT, ltF, leT, leF, eqT, eqF, true_and, and_true, false_and, and_false, true_or, or_true, false_or, or_false, not_true_eq_false, not_false_eq_true, if_pos, if_neg]
        have := ih (i - 1) (by omega) (by omega)
        rw [show i - 1 + 1 = i by omega] at this
        exact this
  rw [h.hp]
  simp (disch := omega) only [Nat.add_zero, iN_lit, iN_lt, iN_le, iN_eq, iN_add, iN_mul, iN_sub, iN_nat, iN_div, iN_mod, iN_pred', n1_lt, n1_le, n1_ne, n1_ne', n1_nle, n1_nlt, n1_eq, oobN, some_lt, some_jn, bnd_some, Bool.false_eq_true, if_true, if_false, ite_true, ite_false, ↓reduceIte, ltT, ltF, leT, leF, eqT, eqF, true_and, and_true, false_and, and_false, true_or, or_true, false_or, or_false, not_true_eq_false, not_false_eq_true, if_pos, if_neg]
  rw [key1 N (P.length - 1) (by omega) (by omega), show P.length - 1 + 1 = P.length by omega]
end RR
