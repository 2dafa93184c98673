theorem gap_le {K : Nat → Nat} {P : List Pc} {p key : Nat} : gapS K P p key ≤ 2 * (sp P (p + 1) - sp P p) := by
  have := lesS_le (K := K) (P := P) (p := p) (key := key)
  unfold gapS; omega
/-- where evenCrack would crack -/
def evnS (K : Nat → Nat) (P : List Pc) : Option Nat := match larS P with | none => none | some p => eveS K P p
theorem oN_none : (oN none = -1) = True := eq_true rfl
section RD
variable {n N : Nat} {sz pc : Int32} {en bo he so st ky : Nat → Int32} {P : List Pc} {K : Nat → Nat} {a : Nat → Int32}
theorem eve_inv {p : Nat} (hz : SZ n P) (hK : ∀ i, i < (flat P).length → K (fl P i) < 10000) (hp : p < P.length) : ∀ i (x : Option Nat × Nat), i < sp P (p + 1) - sp P p → ((∀ q, x.1 = some q → q < 10000) ∧ x.2 ≤ 240) → ((∀ q, (eveG K P p x i).1 = some q → q < 10000) ∧ (eveG K P p x i).2 ≤ 240) := by
  intro i x hi hx
  have hf := hz.fl; have h1 := sp_le P (p + 1)
  have h3 := hK (sp P p + i) (by omega)
  have h4 := gap_le (K := K) (P := P) (p := p) (key := K (fl P (sp P p + i)))
  unfold eveG
  simp only []
  split
  · split
    · exact ⟨fun q hq => by cases hq; exact h3, by simp only []; omega⟩
    · split
      · exact ⟨fun q hq => by cases hq; exact h3, by simp only []; omega⟩
      · exact hx
  · exact hx
theorem c_evenKeyOf {p : Nat} (h : IX sz pc en bo he so st P) (hz : SZ n P) (hk : KY n ky K) (hN : 1000 < N) (hp : p < P.length) : f_X3_evenKeyOf N sz pc bo en st ky (iN p) = some (oN (eveS K P p)) := by
  have hl := hz.len; have hf := hz.fl; have h1 := sp_le P (p + 1); have h2 : sp P p ≤ sp P (p + 1) := sp_mono (by omega)
  have hK : ∀ i, i < (flat P).length → K (fl P i) < 10000 := fun i hi => K_lt hz hk hi
  have loop : ∀ k, f_X3_evenKeyOf_20 N sz pc bo en st ky (iN p) (iN (sp P (p + 1))) k N (-1) 0 (iN (sp P p)) = k (oN (eveS K P p)) := by
    intro k
    refine (lpC (F := fun n i (x : Option Nat × Nat) => f_X3_evenKeyOf_20 N sz pc bo en st ky (iN p) (iN (sp P (p + 1))) k n (oN x.1) (iN x.2) (iN (sp P p + i))) (k := fun x => k (oN x.1)) (g := eveG K P p) (x0 := (none, 0)) (e := sp P (p + 1) - sp P p) (I := fun _ x => (∀ q, x.1 = some q → q < 10000) ∧ x.2 ≤ 240) ⟨by simp, by simp⟩ (eve_inv hz hK hp) (fun n i x hi hx => ?_) (fun n x _ => ?_) N (by omega)).1
    · show f_X3_evenKeyOf_20 N sz pc bo en st ky _ _ _ (n + 1) (oN x.1) (iN x.2) (iN (sp P p + i)) = f_X3_evenKeyOf_20 N sz pc bo en st ky _ _ _ n (oN (eveG K P p x i).1) (iN (eveG K P p x i).2) _
      have h3 := hK (sp P p + i) (by omega)
      have h4 := gap_le (K := K) (P := P) (p := p) (key := K (fl P (sp P p + i)))
      rw [f_X3_evenKeyOf_20.eq_2, c_keyAt' h hz hk (by omega), c_boundOf h hz hp]
      have h5 := hz.bd _ (List.getElem_mem hp)
      have h6 : (P.map (fun X : Pc => X.1)).getD p 0 = P[p].1 := by simp [hp]
      have h7 := c_gapAt h hz hk hN hp h3
      dsimp only [eveG]
      rw [h6]
      generalize K (fl P (sp P p + i)) = key at h3 h4 h7 ⊢
      generalize gapS K P p key = g at h4 h7 ⊢
      obtain ⟨b, g2⟩ := x
      obtain ⟨hx1, hx2⟩ := hx
      dsimp only at hx1 hx2 ⊢
      by_cases h8 : P[p].1 < key
      · rw [if_pos h8]
        cases b with
        | none =>
          simp only [oN]
          simp (disch := omega) only [Nat.add_zero, iN_lit, iN_lt, iN_le, iN_eq, iN_add, iN_mul, iN_sub, iN_nat, iN_div, iN_mod, iN_pred', n1_lt, n1_le, n1_ne, n1_ne', n1_nle, n1_nlt, n1_eq, oobN, some_lt, some_jn, bnd_some, Bool.false_eq_true, if_true, if_false, ite_true, ite_false, ↓reduceIte, ltT, ltF, leT, leF, eqT, eqF, true_and, and_true, false_and, and_false, true_or, or_true, false_or, or_false, not_true_eq_false, not_false_eq_true, if_pos, if_neg, h7]
          rfl
        | some q =>
          have hq := hx1 q rfl
          simp only [oN]
          by_cases h9 : g < g2
          · rw [if_pos (show g < g2 ∨ g = g2 ∧ key < q from Or.inl h9)]; simp (disch := omega) only [Nat.add_zero, iN_lit, iN_lt, iN_le, iN_eq, iN_add, iN_mul, iN_sub, iN_nat, iN_div, iN_mod, iN_pred', n1_lt, n1_le, n1_ne, n1_ne', n1_nle, n1_nlt, n1_eq, oobN, some_lt, some_jn, bnd_some, Bool.false_eq_true, if_true, if_false, ite_true, ite_false, ↓reduceIte, ltT, ltF, leT, leF, eqT, eqF, true_and, and_true, false_and, and_false, true_or, or_true, false_or, or_false, not_true_eq_false, not_false_eq_true, if_pos, if_neg, h7]; rfl
          · by_cases h10 : g = g2
            · by_cases h11 : key < q
              · rw [if_pos (show g < g2 ∨ g = g2 ∧ key < q from Or.inr ⟨h10, h11⟩)]; simp (disch := omega) only [Nat.add_zero, iN_lit, iN_lt, iN_le, iN_eq, iN_add, iN_mul, iN_sub, iN_nat, iN_div, iN_mod, iN_pred', n1_lt, n1_le, n1_ne, n1_ne', n1_nle, n1_nlt, n1_eq, oobN, some_lt, some_jn, bnd_some, Bool.false_eq_true, if_true, if_false, ite_true, ite_false, ↓reduceIte, ltT, ltF, leT, leF, eqT, eqF, true_and, and_true, false_and, and_false, true_or, or_true, false_or, or_false, not_true_eq_false, not_false_eq_true, if_pos, if_neg, h7]; rfl
              · rw [if_neg (show ¬ (g < g2 ∨ g = g2 ∧ key < q) by omega)]; simp (disch := omega) only [Nat.add_zero, iN_lit, iN_lt, iN_le, iN_eq, iN_add, iN_mul, iN_sub, iN_nat, iN_div, iN_mod, iN_pred', n1_lt, n1_le, n1_ne, n1_ne', n1_nle, n1_nlt, n1_eq, oobN, some_lt, some_jn, bnd_some, Bool.false_eq_true, if_true, if_false, ite_true, ite_false, ↓reduceIte, ltT, ltF, leT, leF, eqT, eqF, true_and, and_true, false_and, and_false, true_or, or_true, false_or, or_false, not_true_eq_false, not_false_eq_true, if_pos, if_neg, h7]; rfl
            · rw [if_neg (show ¬ (g < g2 ∨ g = g2 ∧ key < q) by omega)]; simp (disch := omega) only [Nat.add_zero, iN_lit, iN_lt, iN_le, iN_eq, iN_add, iN_mul, iN_sub, iN_nat, iN_div, iN_mod, iN_pred', n1_lt, n1_le, n1_ne, n1_ne', n1_nle, n1_nlt, n1_eq, oobN, some_lt, some_jn, bnd_some, Bool.false_eq_true, if_true, if_false, ite_true, ite_false, ↓reduceIte, ltT, ltF, leT, leF, eqT, eqF, true_and, and_true, false_and, and_false, true_or, or_true, false_or, or_false, not_true_eq_false, not_false_eq_true, if_pos, if_neg, h7]; rfl
      · rw [if_neg h8]
        simp (disch := omega) only [Nat.add_zero, iN_lit, iN_lt, iN_le, iN_eq, iN_add, iN_mul, iN_sub, iN_nat, iN_div, iN_mod, iN_pred', n1_lt, n1_le, n1_ne, n1_ne', n1_nle, n1_nlt, n1_eq, oobN, some_lt, some_jn, bnd_some, Bool.false_eq_true, if_true, if_false, ite_true, ite_false, ↓reduceIte, ltT, ltF, leT, leF, eqT, eqF, true_and, and_true, false_and, and_false, true_or, or_true, false_or, or_false, not_true_eq_false, not_false_eq_true, if_pos, if_neg]
        rfl
    · show f_X3_evenKeyOf_20 N sz pc bo en st ky _ _ _ (n + 1) (oN x.1) (iN x.2) (iN (sp P p + (sp P (p + 1) - sp P p))) = _
      rw [f_X3_evenKeyOf_20.eq_2]
      simp (disch := omega) only [Nat.add_zero, iN_lit, iN_lt, iN_le, iN_eq, iN_add, iN_mul, iN_sub, iN_nat, iN_div, iN_mod, iN_pred', n1_lt, n1_le, n1_ne, n1_ne', n1_nle, n1_nlt, n1_eq, oobN, some_lt, some_jn, bnd_some, Bool.false_eq_true, if_true, if_false, ite_true, ite_false, ↓reduceIte, ltT, ltF, leT, leF, eqT, eqF, true_and, and_true, false_and, and_false, true_or, or_true, false_or, or_false, not_true_eq_false, not_false_eq_true, if_pos, if_neg]
  unfold f_X3_evenKeyOf
  rw [show iN p + 1 = iN (p + 1) from iN_add _ 1, c_startOf h hz (by omega), c_startOf h hz (by omega), bnd_some, bnd_some, some_jn, loop]
theorem r_evenCrack (h : RX a P) (hz : SZ n P) (hk : KY n (fun r => a (20 + r)) K) (hN : 1000 < N) : f_X8_evenCrack N a = some (match evnS K P with | none => (0, 1) | some key => (iN key, 0)) := by
  have hl := hz.len; have hf := hz.fl
  have hK : ∀ i, i < (flat P).length → K (fl P i) < 10000 := fun i hi => K_lt hz hk hi
  have hlar : ∀ q, larS P = some q → q < P.length := by
    have : ∀ e, e ≤ P.length → ∀ q, pfi (larG P) none e = some q → q < P.length := by
      intro e
      induction e with
      | zero => intro _ q hq; simp [pfi] at hq
      | succ e ih =>
        intro he q hq
        have ih := ih (by omega)
        simp only [pfi] at hq
        unfold larG at hq
        split at hq
        · split at hq
          · cases hq; exact he
          · split at hq
            · cases hq; exact he
            · rename_i h1 _; cases hq; exact ih _ h1
        · exact ih _ hq
    exact this P.length (Nat.le_refl _)
  unfold f_X8_evenCrack
  rw [r_largest h hz hN, bnd_some]
  unfold evnS
  cases hL : larS P with
  | none =>
    obtain ⟨M, hM⟩ : ∃ M, N = M + 1 := ⟨N - 1, by omega⟩
    subst hM
    simp only [some_jn, oN_none, if_true, f_X8_evenCrack_25]
    rfl
  | some p =>
    have hp := hlar p hL
    have h1 := sp_le P (p + 1); have h2 : sp P p ≤ sp P (p + 1) := sp_mono (by omega)
    have loop : ∀ k, f_X8_evenCrack_25 N a (iN p) k N (-iN 1) (iN 0) (iN (sp P p)) = k (oN (eveS K P p)) := by
      intro k
      refine (lpC (F := fun n i (x : Option Nat × Nat) => f_X8_evenCrack_25 N a (iN p) k n (oN x.1) (iN x.2) (iN (sp P p + i))) (k := fun x => k (oN x.1)) (g := eveG K P p) (x0 := (none, 0)) (e := sp P (p + 1) - sp P p) (I := fun _ x => (∀ q, x.1 = some q → q < 10000) ∧ x.2 ≤ 240) ⟨by simp, by simp⟩ (eve_inv hz hK hp) (fun n i x hi hx => ?_) (fun n x _ => ?_) N (by omega)).1
      · show f_X8_evenCrack_25 N a _ _ (n + 1) (oN x.1) (iN x.2) (iN (sp P p + i)) = f_X8_evenCrack_25 N a _ _ n (oN (eveG K P p x i).1) (iN (eveG K P p x i).2) _
        have h3 := hK (sp P p + i) (by omega)
        have h4 := gap_le (K := K) (P := P) (p := p) (key := K (fl P (sp P p + i)))
        rw [f_X8_evenCrack_25.eq_2, if_neg (m1_ne (show p < 2147483648 by omega)), show iN p + 1 = iN (p + 1) from iN_add _ 1, r_firstPlace h hz hN (by omega), r_keyAt' h hz hk (by omega), r_bd h hz hp]
        have h5 := hz.bd _ (List.getElem_mem hp)
        have h6 : (P.map (fun X : Pc => X.1)).getD p 0 = P[p].1 := by simp [hp]
        have h7 := r_unevenAt h hz hk hN hp h3
        dsimp only [eveG]
        rw [h6]
        generalize K (fl P (sp P p + i)) = key at h3 h4 h7 ⊢
        generalize gapS K P p key = g at h4 h7 ⊢
        obtain ⟨b, g2⟩ := x
        obtain ⟨hx1, hx2⟩ := hx
        dsimp only at hx1 hx2 ⊢
        by_cases h8 : P[p].1 < key
        · rw [if_pos h8]
          cases b with
          | none =>
            simp only [bnd_some, some_jn, h7, oN_none, if_true]
            simp (disch := omega) only [Nat.add_zero, iN_lit, iN_lt, iN_le, iN_eq, iN_add, iN_mul, iN_sub, iN_nat, iN_div, iN_mod, iN_pred', n1_lt, n1_le, n1_ne, n1_ne', n1_nle, n1_nlt, n1_eq, oobN, some_lt, some_jn, bnd_some, Bool.false_eq_true, if_true, if_false, ite_true, ite_false, ↓reduceIte, ltT, ltF, leT, leF, eqT, eqF, true_and, and_true, false_and, and_false, true_or, or_true, false_or, or_false, not_true_eq_false, not_false_eq_true, if_pos, if_neg]
            rfl
          | some q =>
            have hq := hx1 q rfl
            simp only [oN]
            by_cases h9 : g < g2
            · rw [if_pos (show g < g2 ∨ g = g2 ∧ key < q from Or.inl h9)]; simp (disch := omega) only [Nat.add_zero, iN_lit, iN_lt, iN_le, iN_eq, iN_add, iN_mul, iN_sub, iN_nat, iN_div, iN_mod, iN_pred', n1_lt, n1_le, n1_ne, n1_ne', n1_nle, n1_nlt, n1_eq, oobN, some_lt, some_jn, bnd_some, Bool.false_eq_true, if_true, if_false, ite_true, ite_false, ↓reduceIte, ltT, ltF, leT, leF, eqT, eqF, true_and, and_true, false_and, and_false, true_or, or_true, false_or, or_false, not_true_eq_false, not_false_eq_true, if_pos, if_neg, h7]; rfl
            · by_cases h10 : g = g2
              · by_cases h11 : key < q
                · rw [if_pos (show g < g2 ∨ g = g2 ∧ key < q from Or.inr ⟨h10, h11⟩)]; simp (disch := omega) only [Nat.add_zero, iN_lit, iN_lt, iN_le, iN_eq, iN_add, iN_mul, iN_sub, iN_nat, iN_div, iN_mod, iN_pred', n1_lt, n1_le, n1_ne, n1_ne', n1_nle, n1_nlt, n1_eq, oobN, some_lt, some_jn, bnd_some, Bool.false_eq_true, if_true, if_false, ite_true, ite_false, ↓reduceIte, ltT, ltF, leT, leF, eqT, eqF, true_and, and_true, false_and, and_false, true_or, or_true, false_or, or_false, not_true_eq_false, not_false_eq_true, if_pos, if_neg, h7]; rfl
                · rw [if_neg (show ¬ (g < g2 ∨ g = g2 ∧ key < q) by omega)]; simp (disch := omega) only [Nat.add_zero, iN_lit, iN_lt, iN_le, iN_eq, iN_add, iN_mul, iN_sub, iN_nat, iN_div, iN_mod, iN_pred', n1_lt, n1_le, n1_ne, n1_ne', n1_nle, n1_nlt, n1_eq, oobN, some_lt, some_jn, bnd_some, Bool.false_eq_true, if_true, if_false, ite_true, ite_false, ↓reduceIte, ltT, ltF, leT, leF, eqT, eqF, true_and, and_true, false_and, and_false, true_or, or_true, false_or, or_false, not_true_eq_false, not_false_eq_true, if_pos, if_neg, h7]; rfl
              · rw [if_neg (show ¬ (g < g2 ∨ g = g2 ∧ key < q) by omega)]; simp (disch := omega) only [Nat.add_zero, iN_lit, iN_lt, iN_le, iN_eq, iN_add, iN_mul, iN_sub, iN_nat, iN_div, iN_mod, iN_pred', n1_lt, n1_le, n1_ne, n1_ne', n1_nle, n1_nlt, n1_eq, oobN, some_lt, some_jn, bnd_some, Bool.false_eq_true, if_true, if_false, ite_true, ite_false, ↓reduceIte, ltT, ltF, leT, leF, eqT, eqF, true_and, and_true, false_and, and_false, true_or, or_true, false_or, or_false, not_true_eq_false, not_false_eq_true, if_pos, if_neg, h7]; rfl
        · rw [if_neg h8]
          cases b with
          | none =>
            simp only [bnd_some, some_jn, h7, oN_none, if_true]
            simp (disch := omega) only [Nat.add_zero, iN_lit, iN_lt, iN_le, iN_eq, iN_add, iN_mul, iN_sub, iN_nat, iN_div, iN_mod, iN_pred', n1_lt, n1_le, n1_ne, n1_ne', n1_nle, n1_nlt, n1_eq, oobN, some_lt, some_jn, bnd_some, Bool.false_eq_true, if_true, if_false, ite_true, ite_false, ↓reduceIte, ltT, ltF, leT, leF, eqT, eqF, true_and, and_true, false_and, and_false, true_or, or_true, false_or, or_false, not_true_eq_false, not_false_eq_true, if_pos, if_neg]
            rfl
          | some q =>
            have hq := hx1 q rfl
            simp only [oN]
            by_cases h9 : g < g2
            · simp (disch := omega) only [Nat.add_zero, iN_lit, iN_lt, iN_le, iN_eq, iN_add, iN_mul, iN_sub, iN_nat, iN_div, iN_mod, iN_pred', n1_lt, n1_le, n1_ne, n1_ne', n1_nle, n1_nlt, n1_eq, oobN, some_lt, some_jn, bnd_some, Bool.false_eq_true, if_true, if_false, ite_true, ite_false, ↓reduceIte, ltT, ltF, leT, leF, eqT, eqF, true_and, and_true, false_and, and_false, true_or, or_true, false_or, or_false, not_true_eq_false, not_false_eq_true, if_pos, if_neg, h7]; rfl
            · by_cases h10 : g = g2
              · by_cases h11 : key < q
                · simp (disch := omega) only [Nat.add_zero, iN_lit, iN_lt, iN_le, iN_eq, iN_add, iN_mul, iN_sub, iN_nat, iN_div, iN_mod, iN_pred', n1_lt, n1_le, n1_ne, n1_ne', n1_nle, n1_nlt, n1_eq, oobN, some_lt, some_jn, bnd_some, Bool.false_eq_true, if_true, if_false, ite_true, ite_false, ↓reduceIte, ltT, ltF, leT, leF, eqT, eqF, true_and, and_true, false_and, and_false, true_or, or_true, false_or, or_false, not_true_eq_false, not_false_eq_true, if_pos, if_neg, h7]; rfl
                · simp (disch := omega) only [Nat.add_zero, iN_lit, iN_lt, iN_le, iN_eq, iN_add, iN_mul, iN_sub, iN_nat, iN_div, iN_mod, iN_pred', n1_lt, n1_le, n1_ne, n1_ne', n1_nle, n1_nlt, n1_eq, oobN, some_lt, some_jn, bnd_some, Bool.false_eq_true, if_true, if_false, ite_true, ite_false, ↓reduceIte, ltT, ltF, leT, leF, eqT, eqF, true_and, and_true, false_and, and_false, true_or, or_true, false_or, or_false, not_true_eq_false, not_false_eq_true, if_pos, if_neg, h7]; rfl
              · simp (disch := omega) only [Nat.add_zero, iN_lit, iN_lt, iN_le, iN_eq, iN_add, iN_mul, iN_sub, iN_nat, iN_div, iN_mod, iN_pred', n1_lt, n1_le, n1_ne, n1_ne', n1_nle, n1_nlt, n1_eq, oobN, some_lt, some_jn, bnd_some, Bool.false_eq_true, if_true, if_false, ite_true, ite_false, ↓reduceIte, ltT, ltF, leT, leF, eqT, eqF, true_and, and_true, false_and, and_false, true_or, or_true, false_or, or_false, not_true_eq_false, not_false_eq_true, if_pos, if_neg, h7]; rfl
      · show f_X8_evenCrack_25 N a _ _ (n + 1) (oN x.1) (iN x.2) (iN (sp P p + (sp P (p + 1) - sp P p))) = _
        rw [f_X8_evenCrack_25.eq_2, if_neg (m1_ne (show p < 2147483648 by omega)), show iN p + 1 = iN (p + 1) from iN_add _ 1, r_firstPlace h hz hN (by omega)]
        simp (disch := omega) only [Nat.add_zero, iN_lit, iN_lt, iN_le, iN_eq, iN_add, iN_mul, iN_sub, iN_nat, iN_div, iN_mod, iN_pred', n1_lt, n1_le, n1_ne, n1_ne', n1_nle, n1_nlt, n1_eq, oobN, some_lt, some_jn, bnd_some, Bool.false_eq_true, if_true, if_false, ite_true, ite_false, ↓reduceIte, ltT, ltF, leT, leF, eqT, eqF, true_and, and_true, false_and, and_false, true_or, or_true, false_or, or_false, not_true_eq_false, not_false_eq_true, if_pos, if_neg]
    simp only [oN]
    have h8 := r_firstPlace h hz hN (show p ≤ P.length by omega)
    simp (disch := omega) only [Nat.add_zero, iN_lit, iN_lt, iN_le, iN_eq, iN_add, iN_mul, iN_sub, iN_nat, iN_div, iN_mod, iN_pred', n1_lt, n1_le, n1_ne, n1_ne', n1_nle, n1_nlt, n1_eq, oobN, some_lt, some_jn, bnd_some, Bool.false_eq_true, if_true, if_false, ite_true, ite_false, ↓reduceIte, ltT, ltF, leT, leF, eqT, eqF, true_and, and_true, false_and, and_false, true_or, or_true, false_or, or_false, not_true_eq_false, not_false_eq_true, if_pos, if_neg, h8, loop]
    cases hE : eveS K P p with
    | none =>
      simp only [oN]
      simp (disch := omega) only [Nat.add_zero, iN_lit, iN_lt, iN_le, iN_eq, iN_add, iN_mul, iN_sub, iN_nat, iN_div, iN_mod, iN_pred', n1_lt, n1_le, n1_ne, n1_ne', n1_nle, n1_nlt, n1_eq, oobN, some_lt, some_jn, bnd_some, Bool.false_eq_true, if_true, if_false, ite_true, ite_false, ↓reduceIte, ltT, ltF, leT, leF, eqT, eqF, true_and, and_true, false_and, and_false, true_or, or_true, false_or, or_false, not_true_eq_false, not_false_eq_true, if_pos, if_neg]
    | some key =>
      have hlt : key < 10000 := by
        have h9 : ∀ e, e ≤ sp P (p + 1) - sp P p → (∀ q, (pfi (eveG K P p) (none, 0) e).1 = some q → q < 10000) ∧ (pfi (eveG K P p) (none, 0) e).2 ≤ 240 := by
          intro e
          induction e with
          | zero => intro _; exact ⟨by simp [pfi], by simp [pfi]⟩
          | succ e ih => intro he; exact eve_inv hz hK hp e _ (by omega) (ih (by omega))
        exact (h9 _ (Nat.le_refl _)).1 key hE
      simp only [oN]
      simp (disch := omega) only [Nat.add_zero, iN_lit, iN_lt, iN_le, iN_eq, iN_add, iN_mul, iN_sub, iN_nat, iN_div, iN_mod, iN_pred', n1_lt, n1_le, n1_ne, n1_ne', n1_nle, n1_nlt, n1_eq, oobN, some_lt, some_jn, bnd_some, Bool.false_eq_true, if_true, if_false, ite_true, ite_false, ↓reduceIte, ltT, ltF, leT, leF, eqT, eqF, true_and, and_true, false_and, and_false, true_or, or_true, false_or, or_false, not_true_eq_false, not_false_eq_true, if_pos, if_neg]
theorem c_placeOf {row : Nat} (h : IX sz pc en bo he so st P) (hz : SZ n P) (hN : 1000 < N) (hr : row < 2147483648) : f_X3_placeOf N sz en (iN row) = some (oN (plaS P row)) := by
  have hf := hz.fl; have hs := h.hs; have hn := hz.nn
  unfold f_X3_placeOf
  rw [some_jn, some_jn]
  refine (lpF (F := fun n i => f_X3_placeOf_2 sz en (iN row) (some (-1)) (fun x => some x) n (iN i)) (p := fun i => fl P i == row) (kf := fun i => some (iN i)) (kn := some (-1)) (e := (flat P).length) (fun m i hi => ?_) (fun m => ?_) N 0 (by omega) (by omega)).trans ?_
  · rw [f_X3_placeOf_2.eq_2, c_rowAt h hz hi, ← fl_eq hi, hs]
    have h1 : fl P i < n := by rw [fl_eq hi]; exact hz.rs _ (List.getElem_mem hi)
    by_cases h2 : fl P i = row
    · have hb : (fl P i == row) = true := by simpa using h2
      rw [hb]; simp (disch := omega) only [Nat.add_zero, iN_lit, iN_lt, iN_le, iN_eq, iN_add, iN_mul, iN_sub, iN_nat, iN_div, iN_mod, iN_pred', n1_lt, n1_le, n1_ne, n1_ne', n1_nle, n1_nlt, n1_eq, oobN, some_lt, some_jn, bnd_some, Bool.false_eq_true, if_true, if_false, ite_true, ite_false, ↓reduceIte, ltT, ltF, leT, leF, eqT, eqF, true_and, and_true, false_and, and_false, true_or, or_true, false_or, or_false, not_true_eq_false, not_false_eq_true, if_pos, if_neg]
    · have hb : (fl P i == row) = false := by simpa using h2
      rw [hb]; simp (disch := omega) only [Nat.add_zero, iN_lit, iN_lt, iN_le, iN_eq, iN_add, iN_mul, iN_sub, iN_nat, iN_div, iN_mod, iN_pred', n1_lt, n1_le, n1_ne, n1_ne', n1_nle, n1_nlt, n1_eq, oobN, some_lt, some_jn, bnd_some, Bool.false_eq_true, if_true, if_false, ite_true, ite_false, ↓reduceIte, ltT, ltF, leT, leF, eqT, eqF, true_and, and_true, false_and, and_false, true_or, or_true, false_or, or_false, not_true_eq_false, not_false_eq_true, if_pos, if_neg]
  · rw [f_X3_placeOf_2.eq_2, hs]; simp (disch := omega) only [Nat.add_zero, iN_lit, iN_lt, iN_le, iN_eq, iN_add, iN_mul, iN_sub, iN_nat, iN_div, iN_mod, iN_pred', n1_lt, n1_le, n1_ne, n1_ne', n1_nle, n1_nlt, n1_eq, oobN, some_lt, some_jn, bnd_some, Bool.false_eq_true, if_true, if_false, ite_true, ite_false, ↓reduceIte, ltT, ltF, leT, leF, eqT, eqF, true_and, and_true, false_and, and_false, true_or, or_true, false_or, or_false, not_true_eq_false, not_false_eq_true, if_pos, if_neg]
  · unfold plaS; rw [Nat.sub_zero]; cases fstI (fun i => fl P i == row) 0 (flat P).length <;> rfl
theorem r_placeOf {row : Nat} (h : RX a P) (hz : SZ n P) (hN : 1000 < N) (hr : row < 2147483648) : f_X8_placeOf N a (iN row) = some (oN (plaS P row)) := by
  have hf := hz.fl; have hs := h.hs; have hn := hz.nn
  unfold f_X8_placeOf
  rw [some_jn, some_jn]
  refine (lpF (F := fun n i => f_X8_placeOf_2 a (iN row) (some (-1)) (fun x => some x) n (iN i)) (p := fun i => fl P i == row) (kf := fun i => some (iN i)) (kn := some (-1)) (e := (flat P).length) (fun m i hi => ?_) (fun m => ?_) N 0 (by omega) (by omega)).trans ?_
  · have h3 := h.en.get hi
    rw [← fl_eq hi] at h3
    rw [f_X8_placeOf_2.eq_2, hs]
    have h1 : fl P i < n := by rw [fl_eq hi]; exact hz.rs _ (List.getElem_mem hi)
    by_cases h2 : fl P i = row
    · have hb : (fl P i == row) = true := by simpa using h2
      rw [hb]; simp (disch := omega) only [Nat.add_zero, iN_lit, iN_lt, iN_le, iN_eq, iN_add, iN_mul, iN_sub, iN_nat, iN_div, iN_mod, iN_pred', n1_lt, n1_le, n1_ne, n1_ne', n1_nle, n1_nlt, n1_eq, oobN, some_lt, some_jn, bnd_some, Bool.false_eq_true, if_true, if_false, ite_true, ite_false, ↓reduceIte, ltT, ltF, leT, leF, eqT, eqF, true_and, and_true, false_and, and_false, true_or, or_true, false_or, or_false, not_true_eq_false, not_false_eq_true, if_pos, if_neg, h3]
    · have hb : (fl P i == row) = false := by simpa using h2
      rw [hb]; simp (disch := omega) only [Nat.add_zero, iN_lit, iN_lt, iN_le, iN_eq, iN_add, iN_mul, iN_sub, iN_nat, iN_div, iN_mod, iN_pred', n1_lt, n1_le, n1_ne, n1_ne', n1_nle, n1_nlt, n1_eq, oobN, some_lt, some_jn, bnd_some, Bool.false_eq_true, if_true, if_false, ite_true, ite_false, ↓reduceIte, ltT, ltF, leT, leF, eqT, eqF, true_and, and_true, false_and, and_false, true_or, or_true, false_or, or_false, not_true_eq_false, not_false_eq_true, if_pos, if_neg, h3]
  · rw [f_X8_placeOf_2.eq_2, hs]; simp (disch := omega) only [Nat.add_zero, iN_lit, iN_lt, iN_le, iN_eq, iN_add, iN_mul, iN_sub, iN_nat, iN_div, iN_mod, iN_pred', n1_lt, n1_le, n1_ne, n1_ne', n1_nle, n1_nlt, n1_eq, oobN, some_lt, some_jn, bnd_some, Bool.false_eq_true, if_true, if_false, ite_true, ite_false, ↓reduceIte, ltT, ltF, leT, leF, eqT, eqF, true_and, and_true, false_and, and_false, true_or, or_true, false_or, or_false, not_true_eq_false, not_false_eq_true, if_pos, if_neg]
  · unfold plaS; rw [Nat.sub_zero]; cases fstI (fun i => fl P i == row) 0 (flat P).length <;> rfl
end RD
