theorem idx_pen {j : Nat} (h : idxR j) : ¬ penR j := by unfold idxR at h; unfold penR; omega
theorem RX.frame {n : Nat} {a a' : Nat → Int32} {P : List Pc} (h : RX a P) (hz : SZ n P) (hf : ∀ j, idxR j → a' j = a j) : RX a' P := by
  obtain ⟨h1, h2, h3, h4⟩ := h
  have hl := hz.len; have hfl := hz.fl
  refine ⟨by rw [hf 3 (by unfold idxR; omega), h1], by rw [hf 1 (by unfold idxR; omega), h2], h3.congr (fun j hj1 hj2 => hf j (by unfold idxR; omega)), h4.congr (fun j hj1 hj2 => hf j ?_)⟩
  rw [enc_length] at hj2
  unfold idxR; omega
theorem RP.frame {a a' : Nat → Int32} {pe : List Nat} (h : RP a pe) (hl : pe.length ≤ 40) (hf : ∀ j, penR j → a' j = a j) : RP a' pe := by
  obtain ⟨h1, h2⟩ := h
  exact ⟨by rw [hf 2 (by unfold penR; omega), h1], h2.congr (fun j hj1 hj2 => hf j (by unfold penR; omega))⟩
/-- a pending row is merged -/
def mrgP (K S : Nat → Nat) (row : Nat) (P : List Pc) : List Pc := if S row = 1 then putS K row P else takS K row P
def mrgT (S : Nat → Nat) (row : Nat) : Nat → Nat := fun j => if j = row then (if S row = 1 then 0 else 3) else S j
def mrgC (K : Nat → Nat) (row : Nat) (P : List Pc) : Nat := P.length - pcF P (K row)
/-- which rows stand in the index, which are pending -/
abbrev SI (n : Nat) (S : Nat → Nat) (P : List Pc) (pe : List Nat) : Prop :=
  (∀ r, r ∈ flat P ↔ r < n ∧ (S r = 0 ∨ S r = 2)) ∧ pe.Nodup ∧ (∀ r, r ∈ pe ↔ r < n ∧ (S r = 1 ∨ S r = 2)) ∧ (∀ r, r < n → S r ≤ 3)
theorem mrg_ok {n : Nat} {K S : Nat → Nat} {P : List Pc} {L1 L2 : List Nat} {row : Nat} (h : PI n K P) (hs : SI n S P (L1 ++ row :: L2)) :
    PI n K (mrgP K S row P) ∧ SI n (mrgT S row) (mrgP K S row P) (L1 ++ L2) ∧ (mrgP K S row P).length = P.length ∧ hsum (mrgP K S row P) = hsum P := by
  obtain ⟨s1, s2, s3, s4⟩ := hs
  have hr := (s3 row).mp (by simp)
  have hnd := s2
  rw [List.nodup_append, List.nodup_cons] at hnd
  have n1 : row ∉ L1 := fun hx => hnd.2.2 row hx row (by simp) rfl
  have n2 : row ∉ L2 := hnd.2.1.1
  have hpe : (L1 ++ L2).Nodup := by
    rw [List.nodup_append]
    exact ⟨hnd.1, hnd.2.1.2, fun a ha b hb => hnd.2.2 a ha b (by simp [hb])⟩
  have hmem : ∀ r, r ∈ L1 ++ L2 ↔ r ∈ L1 ++ row :: L2 ∧ r ≠ row := by
    intro r
    simp only [List.mem_append, List.mem_cons]
    constructor
    · rintro (hx | hx)
      · exact ⟨Or.inl hx, fun e => n1 (e ▸ hx)⟩
      · exact ⟨Or.inr (Or.inr hx), fun e => n2 (e ▸ hx)⟩
    · rintro ⟨hx | hx | hx, hne⟩
      · exact Or.inl hx
      · exact absurd hx hne
      · exact Or.inr hx
  have hpe3 : ∀ v, v ≠ 1 → v ≠ 2 → ∀ r, r ∈ L1 ++ L2 ↔ r < n ∧ ((if r = row then v else S r) = 1 ∨ (if r = row then v else S r) = 2) := by
    intro v h1 h2 r
    rw [hmem, s3]
    by_cases hx : r = row
    · subst hx; rw [if_pos rfl]; constructor
      · rintro ⟨_, hx⟩; exact absurd rfl hx
      · rintro ⟨_, hx | hx⟩
        · exact absurd hx h1
        · exact absurd hx h2
    · rw [if_neg hx]; exact ⟨fun q => q.1, fun q => ⟨q, hx⟩⟩
  unfold mrgP mrgT
  by_cases hS : S row = 1
  · rw [if_pos hS]
    have hn : row ∉ flat P := fun hx => by have := ((s1 row).mp hx).2; omega
    obtain ⟨p1, p2, p3, p4⟩ := PI_put h hr.1 hn
    refine ⟨p1, ⟨fun r => ?_, hpe, fun r => ?_, fun r hrn => ?_⟩, p2, p3⟩
    · rw [p4.mem_iff, List.mem_cons, s1]
      dsimp only
      by_cases hx : r = row
      · subst hx; simp [hr.1, hS]
      · simp [hx]
    · dsimp only; simp only [if_pos hS]; exact hpe3 0 (by omega) (by omega) r
    · dsimp only; split
      · omega
      · exact s4 r hrn
  · rw [if_neg hS]
    have hin : row ∈ flat P := (s1 row).mpr ⟨hr.1, by have := hr.2; omega⟩
    obtain ⟨p1, p2, p3, p4⟩ := PI_tak h hin
    have hnn : row ∉ flat (takS K row P) := (List.nodup_cons.mp (p4.nodup_iff.mp h.2.2.2)).1
    refine ⟨p1, ⟨fun r => ?_, hpe, fun r => ?_, fun r hrn => ?_⟩, p2, p3⟩
    · dsimp only
      have q := p4.mem_iff (a := r)
      rw [List.mem_cons, s1] at q
      by_cases hx : r = row
      · subst hx
        rw [if_pos rfl, if_neg hS]
        exact ⟨fun hx => absurd hx hnn, fun hx => by omega⟩
      · rw [if_neg hx]
        constructor
        · intro hx2; exact q.mpr (Or.inr hx2)
        · intro hx2
          rcases q.mp hx2 with hx3 | hx3
          · exact absurd hx3 hx
          · exact hx3
    · dsimp only; simp only [if_neg hS]; exact hpe3 3 (by omega) (by omega) r
    · dsimp only; split
      · omega
      · exact s4 r hrn
section MR
variable {n N : Nat} {sz pc : Int32} {en bo he so st ky ss pr : Nat → Int32} {P : List Pc} {K S : Nat → Nat} {a : Nat → Int32}
theorem c_putState {row v : Nat} (hs : ST n ss S) (hn : n ≤ 120) (hr : row < n) (hv : v ≤ 3) : ∃ ss', f_X6_putState ss (iN row) (iN v) = some ss' ∧ ST n ss' (fun j => if j = row then v else S j) := by
  refine ⟨upd ss row (iN v), ?_, fun r hrn => ?_⟩
  · unfold f_X6_putState; simp (disch := omega) only [Nat.add_zero, iN_lit, iN_lt, iN_le, iN_eq, iN_add, iN_mul, iN_sub, iN_nat, iN_div, iN_mod, iN_pred', n1_lt, n1_le, n1_ne, n1_ne', n1_nle, n1_nlt, n1_eq, oobN, some_lt, some_jn, bnd_some, Bool.false_eq_true, if_true, if_false, ite_true, ite_false, ↓reduceIte, ltT, ltF, leT, leF, eqT, eqF, true_and, and_true, false_and, and_false, true_or, or_true, false_or, or_false, not_true_eq_false, not_false_eq_true, if_pos, if_neg]
  · dsimp only
    by_cases h : r = row
    · subst h; rw [upd_self, if_pos rfl]; exact ⟨rfl, hv⟩
    · rw [upd_ne h, if_neg h]; exact hs r hrn
theorem c_mergeRow {L1 L2 : List Nat} {row : Nat} (h : IX sz pc en bo he so st P) (hp : PI n K P) (hsi : SI n S P (L1 ++ row :: L2)) (hk : KY n ky K) (hs : ST n ss S) (hN : 1000 < N) :
    ∃ sz' en' st' ss', f_X2_mergeRow N sz pc bo en so st ky ss (iN row) = some (iN (mrgC K row P), sz', en', st', ss') ∧ IX sz' pc en' bo he so st' (mrgP K S row P) ∧ ST n ss' (mrgT S row) := by
  have hz := hp.1
  have hn := hz.nn
  have hr := (hsi.2.2.1 row).mp (by simp)
  have hKr := (hk row hr.1).2
  have hlt : pcF P (K row) < P.length := pcF_lt hz.one
  have hl := hz.len
  have e1 := c_keyOf hk hn hr.1
  have e2 := c_pieceFor' (key := K row) h hz (by omega) hN
  have e3 := c_stateOf hs hn hr.1
  have e0 := h.hp
  unfold f_X2_mergeRow mrgC mrgP mrgT
  rw [e1, bnd_some, e2, bnd_some, e3, some_lt, bnd_some]
  by_cases hS : S row = 1
  · have hnin : row ∉ flat P := fun hx => by have := ((hsi.1 row).mp hx).2; omega
    have hf : (flat P).length < 120 := by
      have h1 := nodup_le n (row :: flat P) (List.nodup_cons.mpr ⟨hnin, hp.2.2.2⟩) (fun r hx => by
        rcases List.mem_cons.mp hx with rfl | hx
        · exact hr.1
        · exact hz.rs r hx)
      simp at h1; omega
    obtain ⟨sz', en', st', q1, q2⟩ := c_putIn h hz hk hN hr.1 hf
    obtain ⟨ss', q3, q4⟩ := c_putState (v := 0) hs hn hr.1 (by omega)
    refine ⟨sz', en', st', ss', ?_, by rw [if_pos hS]; exact q2, by simp only [if_pos hS]; exact q4⟩
    rw [hS, q1]
    simp only [show (iN 1 = 1) = True from eq_true rfl, if_true, bnd3]
    rw [show (0 : Int32) = iN 0 from rfl, q3, bnd_some, e0, iN_sub (by omega)]
  · have hin : row ∈ flat P := (hsi.1 row).mpr ⟨hr.1, by have := hr.2; omega⟩
    obtain ⟨sz', en', st', q1, q2⟩ := c_takeOut h hz hk hN hr.1 hp.2.2.2 (OW_in hp.2.2.1 hin)
    obtain ⟨ss', q3, q4⟩ := c_putState (v := 3) hs hn hr.1 (by omega)
    have h2 : S row = 2 := by have := hr.2; omega
    refine ⟨sz', en', st', ss', ?_, by rw [if_neg hS]; exact q2, by simp only [if_neg hS]; exact q4⟩
    rw [h2, q1]
    simp only [show (iN 2 = 1) = False from eq_false (by decide), if_false, bnd3]
    rw [show (3 : Int32) = iN 3 from rfl, q3, bnd_some, e0, iN_sub (by omega)]
/-- what a merge leaves alone -/
def mrgR (j : Nat) : Prop := idxR j ∨ penR j ∨ (260 ≤ j ∧ j < 380)
theorem r_merges {L1 L2 : List Nat} {row : Nat} (h : RX a P) (hp : PI n K P) (hsi : SI n S P (L1 ++ row :: L2)) (hpe : RP a (L1 ++ row :: L2)) (hl31 : (L1 ++ row :: L2).length ≤ 31) (hk : KY n (fun r => a (20 + r)) K) (hs : ST n (fun r => a (260 + r)) S) (hN : 1000 < N) :
    ∃ a', f_X8_merges N a (iN L1.length) = some (iN (mrgC K row P), a') ∧ RX a' (mrgP K S row P) ∧ RP a' (L1 ++ L2) ∧ ST n (fun r => a' (260 + r)) (mrgT S row) ∧ ∀ j, ¬ mrgR j → a' j = a j := by
  have hz := hp.1
  have hn := hz.nn
  have hr := (hsi.2.2.1 row).mp (by simp)
  have hKr := hk row hr.1
  have hlt : pcF P (K row) < P.length := pcF_lt hz.one
  have hl := hz.len
  have hl2 : L1.length + (L2.length + 1) ≤ 31 := by simpa using hl31
  have e1 : a (500 + L1.length) = iN row := hpe.2.row
  have e2 : a (20 + row) = iN (K row) := hKr.1
  have hKlt := hKr.2
  have e3 : f_X8_lastPiece N a (iN (K row)) = some (iN (pcF P (K row))) := r_lastPiece h hz hN (by omega) (HD0_le hp.2.1)
  obtain ⟨a1, u1, u2, u3⟩ := r_unwaits hpe hl31 hN
  have h1 : RX a1 P := RX.frame h hz (fun j hj => u3 j (idx_pen hj))
  have hk1 : KY n (fun r => a1 (20 + r)) K := fun r hrn => by
    refine ⟨?_, (hk r hrn).2⟩
    show a1 (20 + r) = _
    rw [u3 _ (by unfold penR; omega)]; exact (hk r hrn).1
  have hs1 : ST n (fun r => a1 (260 + r)) S := fun r hrn => by
    refine ⟨?_, (hs r hrn).2⟩
    show a1 (260 + r) = _
    rw [u3 _ (by unfold penR; omega)]; exact (hs r hrn).1
  have e4 : a1 (260 + row) = iN (S row) := (hs1 row hr.1).1
  have hlen2 : (L1 ++ L2).length ≤ 40 := by simp; omega
  unfold f_X8_merges mrgC mrgP mrgT
  by_cases hS : S row = 1
  · have hnin : row ∉ flat P := fun hx => by have := ((hsi.1 row).mp hx).2; omega
    have hf : (flat P).length < 120 := by
      have h1 := nodup_le n (row :: flat P) (List.nodup_cons.mpr ⟨hnin, hp.2.2.2⟩) (fun r hx => by
        rcases List.mem_cons.mp hx with rfl | hx
        · exact hr.1
        · exact hz.rs r hx)
      simp at h1; omega
    obtain ⟨a2, q1, q2, q3, q4⟩ := r_comes h1 hz hk1 hN hr.1 hf
    have hpl := (PI_put hp hr.1 hnin).2.1
    have e5 := q2.hp
    rw [hpl] at e5
    rw [hS] at e4
    refine ⟨a2, ?_, by rw [if_pos hS]; exact q2, RP.frame u2 hlen2 (fun j hj => q4 j (fun hi => idx_pen hi hj) (by unfold penR at hj; omega)), fun r hrn => ?_, fun j hj => ?_⟩
    · simp (disch := omega) only [Nat.add_zero, iN_lit, iN_lt, iN_le, iN_eq, iN_add, iN_mul, iN_sub, iN_nat, iN_div, iN_mod, iN_pred', n1_lt, n1_le, n1_ne, n1_ne', n1_nle, n1_nlt, n1_eq, oobN, some_lt, some_jn, bnd_some, Bool.false_eq_true, if_true, if_false, ite_true, ite_false, ↓reduceIte, ltT, ltF, leT, leF, eqT, eqF, true_and, and_true, false_and, and_false, true_or, or_true, false_or, or_false, not_true_eq_false, not_false_eq_true, if_pos, if_neg, e1, e2, e3, u1, e4, q1, e5]
    · dsimp only
      by_cases hx : r = row
      · subst hx; rw [if_pos rfl, if_pos hS]; exact ⟨q3, by omega⟩
      · rw [if_neg hx, q4 _ (by unfold idxR; omega) (by omega)]; exact hs1 r hrn
    · unfold mrgR at hj
      rw [q4 j (fun hi => hj (Or.inl hi)) (by omega), u3 j (fun hi => hj (Or.inr (Or.inl hi)))]
  · have hin : row ∈ flat P := (hsi.1 row).mpr ⟨hr.1, by have := hr.2; omega⟩
    obtain ⟨a2, q1, q2, q3, q4⟩ := r_leaves h1 hz hk1 hN hr.1 hp.2.2.2 (OW_in hp.2.2.1 hin)
    have hpl := (PI_tak hp hin).2.1
    have e5 := q2.hp
    rw [hpl] at e5
    have h2 : S row = 2 := by have := hr.2; omega
    rw [h2] at e4
    refine ⟨a2, ?_, by rw [if_neg hS]; exact q2, RP.frame u2 hlen2 (fun j hj => q4 j (fun hi => idx_pen hi hj) (by unfold penR at hj; omega)), fun r hrn => ?_, fun j hj => ?_⟩
    · simp (disch := omega) only [Nat.add_zero, iN_lit, iN_lt, iN_le, iN_eq, iN_add, iN_mul, iN_sub, iN_nat, iN_div, iN_mod, iN_pred', n1_lt, n1_le, n1_ne, n1_ne', n1_nle, n1_nlt, n1_eq, oobN, some_lt, some_jn, bnd_some, Bool.false_eq_true, if_true, if_false, ite_true, ite_false, ↓reduceIte, ltT, ltF, leT, leF, eqT, eqF, true_and, and_true, false_and, and_false, true_or, or_true, false_or, or_false, not_true_eq_false, not_false_eq_true, if_pos, if_neg, e1, e2, e3, u1, e4, q1, e5]
    · dsimp only
      by_cases hx : r = row
      · subst hx; rw [if_pos rfl, if_neg hS]; exact ⟨q3, by omega⟩
      · rw [if_neg hx, q4 _ (by unfold idxR; omega) (by omega)]; exact hs1 r hrn
    · unfold mrgR at hj
      rw [q4 j (fun hi => hj (Or.inl hi)) (by omega), u3 j (fun hi => hj (Or.inr (Or.inl hi)))]
end MR
