/-- the settings are in their ranges -/
abbrev WOK (W : Nat → Nat) : Prop := (1 ≤ W 0 ∧ W 0 ≤ 20) ∧ (2 ≤ W 1 ∧ W 1 ≤ 120) ∧ (2 ≤ W 2 ∧ W 2 ≤ 40) ∧ (1 ≤ W 3 ∧ W 3 ≤ 30)
/-- a column: what is abstract of it -/
abbrev CSp (H n : Nat) (K S : Nat → Nat) (P : List Pc) (pe : List Nat) (W : Nat → Nat) (k : Nat) : Prop :=
  PI n K P ∧ SI n S P pe ∧ P.length ≤ 60 ∧ hsum P ≤ H ∧ pe.length ≤ W 3 ∧ WOK W ∧ k ≤ 20
abbrev CCl (pd sz pc : Int32) (bo en he so st : Nat → Int32) (kc : Int32) (pr se : Nat → Int32) (rc : Int32) (ky ss vs : Nat → Int32) (n : Nat) (K S : Nat → Nat) (V : Nat → Int32) (P : List Pc) (pe : List Nat) (W : Nat → Nat) (k : Nat) : Prop :=
  pd = iN pe.length ∧ IX sz pc en bo he so st P ∧ kc = iN k ∧ At pr 0 pe ∧ SE se W ∧ rc = iN n ∧ KY n ky K ∧ ST n ss S ∧ VA n vs V
abbrev CRf (a : Nat → Int32) (n : Nat) (K S : Nat → Nat) (V : Nat → Int32) (P : List Pc) (pe : List Nat) (W : Nat → Nat) (k : Nat) : Prop :=
  RX a P ∧ a 0 = iN n ∧ RP a pe ∧ KY n (fun r => a (20 + r)) K ∧ ST n (fun r => a (260 + r)) S ∧ VA n (fun r => a (140 + r)) V ∧ SE (fun w => a (4 + w)) W ∧ a 19 = iN k
abbrev CBo (tc gv : Int32) (nu kn a : Nat → Int32) (k : Nat) : Prop :=
  tc = a 8 ∧ gv = a 9 ∧ (gv = 0 ∨ gv = 1) ∧ (gv = 1 → ∀ j, j < 9 → nu j = a (10 + j)) ∧ (∀ j, j < 4 * k → kn j = a (796 + j)) ∧ (∀ i, i < k → ∃ l h, l < h ∧ h ≤ 10000 ∧ a (796 + 4 * i) = iN l ∧ a (796 + 4 * i + 1) = iN h)
def CRx (H : Nat) (pd tc gv : Int32) (nu : Nat → Int32) (sz pc : Int32) (bo en he so st : Nat → Int32) (kc : Int32) (kn pr se : Nat → Int32) (rc : Int32) (ky ss vs : Nat → Int32) (a : Nat → Int32) : Prop :=
  ∃ (n : Nat) (K S : Nat → Nat) (V : Nat → Int32) (P : List Pc) (pe : List Nat) (W : Nat → Nat) (k : Nat), CSp H n K S P pe W k ∧ CCl pd sz pc bo en he so st kc pr se rc ky ss vs n K S V P pe W k ∧ CRf a n K S V P pe W k ∧ CBo tc gv nu kn a k
/-- the column of the class and the row of the reference hold the same -/
def CR (H : Nat) (c : CS) (a : Nat → Int32) : Prop :=
  CRx H c.1 c.2.1 c.2.2.1 c.2.2.2.1 c.2.2.2.2.1 c.2.2.2.2.2.1 c.2.2.2.2.2.2.1 c.2.2.2.2.2.2.2.1 c.2.2.2.2.2.2.2.2.1 c.2.2.2.2.2.2.2.2.2.1 c.2.2.2.2.2.2.2.2.2.2.1 c.2.2.2.2.2.2.2.2.2.2.2.1 c.2.2.2.2.2.2.2.2.2.2.2.2.1 c.2.2.2.2.2.2.2.2.2.2.2.2.2.1 c.2.2.2.2.2.2.2.2.2.2.2.2.2.2.1 c.2.2.2.2.2.2.2.2.2.2.2.2.2.2.2.1 c.2.2.2.2.2.2.2.2.2.2.2.2.2.2.2.2.1 c.2.2.2.2.2.2.2.2.2.2.2.2.2.2.2.2.2.1 c.2.2.2.2.2.2.2.2.2.2.2.2.2.2.2.2.2.2 a
section CR
variable {H : Nat} {pd tc gv sz pc kc rc : Int32} {nu bo en he so st kn pr se ky ss vs a : Nat → Int32}
theorem CRx.mono {H' : Nat} (h : CRx H pd tc gv nu sz pc bo en he so st kc kn pr se rc ky ss vs a) (hH : H ≤ H') : CRx H' pd tc gv nu sz pc bo en he so st kc kn pr se rc ky ss vs a := by
  obtain ⟨n, K, S, V, P, pe, W, k, ⟨h1, h2, h3, h4, h5⟩, q⟩ := h
  exact ⟨n, K, S, V, P, pe, W, k, ⟨h1, h2, h3, by omega, h5⟩, q⟩
theorem CRx.class_congr {nu' bo' en' he' so' st' kn' pr' se' ky' ss' vs' : Nat → Int32} (h : CRx H pd tc gv nu sz pc bo en he so st kc kn pr se rc ky ss vs a)
    (e1 : ∀ j, j < 9 → nu' j = nu j) (e2 : ∀ j, j < 62 → bo' j = bo j) (e3 : ∀ j, j < 120 → en' j = en j) (e4 : ∀ j, j < 62 → he' j = he j) (e5 : ∀ j, j < 62 → so' j = so j) (e6 : ∀ j, j < 62 → st' j = st j) (e7 : ∀ j, j < 80 → kn' j = kn j) (e8 : ∀ j, j < 31 → pr' j = pr j) (e9 : ∀ j, j < 4 → se' j = se j) (e10 : ∀ j, j < 120 → ky' j = ky j) (e11 : ∀ j, j < 120 → ss' j = ss j) (e12 : ∀ j, j < 120 → vs' j = vs j) :
    CRx H pd tc gv nu' sz pc bo' en' he' so' st' kc kn' pr' se' rc ky' ss' vs' a := by
  obtain ⟨n, K, S, V, P, pe, W, k, hs, ⟨c1, c2, c3, c4, c5, c6, c7, c8, c9⟩, hr, ⟨b1, b2, b3, b4, b5, b6⟩⟩ := h
  have hz := hs.1.1
  have hn := hz.nn; have hl := hz.len; have hfl := hz.fl
  have hW := hs.2.2.2.2.2.1; have hpe := hs.2.2.2.2.1; have hk := hs.2.2.2.2.2.2
  obtain ⟨i1, i2, i3, i4, i5, i6, i7⟩ := c2
  refine ⟨n, K, S, V, P, pe, W, k, hs, ⟨c1, ⟨i1, i2, i3.congr (fun j h1 h2 => e3 j (by omega)), i4.congr (fun j h1 h2 => e2 j (by simp at h2; omega)), i5.congr (fun j h1 h2 => e4 j (by simp at h2; omega)), i6.congr (fun j h1 h2 => e5 j (by simp at h2; omega)), i7.congr (fun j h1 h2 => e6 j (by rw [sts_length] at h2; omega))⟩, c3, c4.congr (fun j h1 h2 => e8 j (by omega)), fun w hw => ?_, c6, fun r hr => ?_, fun r hr => ?_, fun r hr => ?_⟩, hr, ⟨b1, b2, b3, fun hg j hj => ?_, fun j hj => ?_, b6⟩⟩
  · rw [e9 w hw]; exact c5 w hw
  · rw [e10 r (by omega)]; exact c7 r hr
  · rw [e11 r (by omega)]; exact c8 r hr
  · rw [e12 r (by omega)]; exact c9 r hr
  · rw [e1 j hj]; exact b4 hg j hj
  · rw [e7 j (by omega)]; exact b5 j hj
theorem CRx.ref_congr {a' : Nat → Int32} (h : CRx H pd tc gv nu sz pc bo en he so st kc kn pr se rc ky ss vs a) (e : ∀ j, j < 876 → a' j = a j) : CRx H pd tc gv nu sz pc bo en he so st kc kn pr se rc ky ss vs a' := by
  obtain ⟨n, K, S, V, P, pe, W, k, hs, hc, ⟨r1, r2, r3, r4, r5, r6, r7, r8⟩, ⟨b1, b2, b3, b4, b5, b6⟩⟩ := h
  have hz := hs.1.1
  have hn := hz.nn
  have hW := hs.2.2.2.2.2.1; have hpe := hs.2.2.2.2.1; have hk := hs.2.2.2.2.2.2
  refine ⟨n, K, S, V, P, pe, W, k, hs, hc, ⟨RX.frame r1 hz (fun j hj => e j (by unfold idxR at hj; omega)), by rw [e 0 (by omega), r2], RP.frame r3 (by omega) (fun j hj => e j (by unfold penR at hj; omega)), fun r hr => ?_, fun r hr => ?_, fun r hr => ?_, fun w hw => ?_, by rw [e 19 (by omega), r8]⟩, ⟨by rw [e 8 (by omega), b1], by rw [e 9 (by omega), b2], b3, fun hg j hj => by rw [e _ (by omega), b4 hg j hj], fun j hj => by rw [e _ (by omega), b5 j hj], fun i hi => ?_⟩⟩
  · refine ⟨?_, (r4 r hr).2⟩
    show a' (20 + r) = _
    rw [e _ (by omega)]; exact (r4 r hr).1
  · refine ⟨?_, (r5 r hr).2⟩
    show a' (260 + r) = _
    rw [e _ (by omega)]; exact (r5 r hr).1
  · show a' (140 + r) = _
    rw [e _ (by omega)]; exact r6 r hr
  · refine ⟨?_, (r7 w hw).2⟩
    show a' (4 + w) = _
    rw [e _ (by omega)]; exact (r7 w hw).1
  · obtain ⟨l, h, q1, q2, q3, q4⟩ := b6 i hi
    exact ⟨l, h, q1, q2, by rw [e _ (by omega), q3], by rw [e _ (by omega), q4]⟩
end CR
theorem CR.mono {H H' : Nat} {c : CS} {a : Nat → Int32} (h : CR H c a) (hH : H ≤ H') : CR H' c a := CRx.mono h hH
theorem CR.ref {H : Nat} {c : CS} {a a' : Nat → Int32} (h : CR H c a) (e : ∀ j, j < 876 → a' j = a j) : CR H c a' := CRx.ref_congr h e
theorem c_copyAll {p q : Nat → Int32} {m : Nat} (hm : m ≤ 7008) : f_X7_copyAll p q m m = some (va_cpy p q 0 0 m) := by
  show lt (if iN m < iN m then iN m else iN m) (fun y8_1 => if y8_1 < 0 then none else if m < 0 + y8_1.toNatClampNeg then none else if m < 0 + y8_1.toNatClampNeg then none else lt (va_cpy p q 0 0 y8_1.toNatClampNeg) (fun p1_11_5 => some (p1_11_5))) = _
  simp (disch := omega) only [Nat.add_zero, iN_lit, iN_lt, iN_le, iN_eq, iN_add, iN_mul, iN_sub, iN_nat, iN_div, iN_mod, iN_pred', n1_lt, n1_le, n1_ne, n1_ne', n1_nle, n1_nlt, n1_eq, oobN, some_lt, some_jn, bnd_some, Bool.false_eq_true, if_true, if_false, ite_true, ite_false, ↓reduceIte, ltT, ltF, leT, leF, eqT, eqF, true_and, and_true, false_and, and_false, true_or, or_true, false_or, or_false, not_true_eq_false, not_false_eq_true, if_pos, if_neg, Nat.zero_add]
theorem cpy_lt {p q : Nat → Int32} {m j : Nat} (h : j < m) : va_cpy p q 0 0 m j = p j := by
  unfold va_cpy; rw [if_pos (by omega)]; congr 1; omega
theorem bnd2_some {A0 A1 ρ : Type} (a0 : A0) (a1 : A1) (k : A0 → A1 → Option ρ) : bnd2 (some (a0, a1)) k = k a0 a1 := rfl
theorem bnd4_some {A0 A1 A2 A3 ρ : Type} (a0 : A0) (a1 : A1) (a2 : A2) (a3 : A3) (k : A0 → A1 → A2 → A3 → Option ρ) : bnd4 (some (a0, a1, a2, a3)) k = k a0 a1 a2 a3 := rfl
theorem bnd7_some {A0 A1 A2 A3 A4 A5 A6 ρ : Type} (a0 : A0) (a1 : A1) (a2 : A2) (a3 : A3) (a4 : A4) (a5 : A5) (a6 : A6) (k : A0 → A1 → A2 → A3 → A4 → A5 → A6 → Option ρ) : bnd7 (some (a0, a1, a2, a3, a4, a5, a6)) k = k a0 a1 a2 a3 a4 a5 a6 := rfl
theorem c_bec6 {rc : Int32} {ky ss vs ky' ss' vs' : Nat → Int32} : f_X6_become rc ky ss vs ky' ss' vs' = some (rc, va_cpy ky ky' 0 0 120, va_cpy ss ss' 0 0 120, va_cpy vs vs' 0 0 120) := by
  unfold f_X6_become
  rw [c_copyAll (by omega), bnd_some, c_copyAll (by omega), bnd_some, c_copyAll (by omega), bnd_some]
theorem c_bec3 {sz pc : Int32} {bo en he so st bo' en' he' so' st' : Nat → Int32} : f_X3_become sz pc bo en he so st bo' en' he' so' st' = some (sz, pc, va_cpy bo bo' 0 0 62, va_cpy en en' 0 0 120, va_cpy he he' 0 0 62, va_cpy so so' 0 0 62, va_cpy st st' 0 0 62) := by
  unfold f_X3_become
  rw [c_copyAll (by omega), bnd_some, c_copyAll (by omega), bnd_some, c_copyAll (by omega), bnd_some, c_copyAll (by omega), bnd_some, c_copyAll (by omega), bnd_some]
theorem c_bec00 {gv : Int32} {nu nu' : Nat → Int32} (hg : gv = 0 ∨ gv = 1) : f_X0_become gv nu nu' = some (gv, va_cpy nu nu' 0 0 9) := by
  unfold f_X0_become
  rw [c_copyAll (by omega), bnd_some, if_pos hg]
theorem c_bec4 {kc : Int32} {kn kn' : Nat → Int32} : f_X4_become kc kn kn' = some (kc, va_cpy kn kn' 0 0 80) := by
  unfold f_X4_become
  rw [c_copyAll (by omega), bnd_some]
theorem c_become19 {pd tc gv sz pc kc rc : Int32} {nu bo en he so st kn pr se ky ss vs nu' bo' en' he' so' st' kn' pr' se' ky' ss' vs' : Nat → Int32} (hg : gv = 0 ∨ gv = 1) :
    f_X2_become pd tc gv nu sz pc bo en he so st kc kn pr se rc ky ss vs nu' bo' en' he' so' st' kn' pr' se' ky' ss' vs' = some (pd, tc, gv, va_cpy nu nu' 0 0 9, sz, pc, va_cpy bo bo' 0 0 62, va_cpy en en' 0 0 120, va_cpy he he' 0 0 62, va_cpy so so' 0 0 62, va_cpy st st' 0 0 62, kc, va_cpy kn kn' 0 0 80, va_cpy pr pr' 0 0 31, va_cpy se se' 0 0 4, rc, va_cpy ky ky' 0 0 120, va_cpy ss ss' 0 0 120, va_cpy vs vs' 0 0 120) := by
  unfold f_X2_become
  rw [c_bec6, bnd4_some, c_bec3, bnd7_some, c_bec00 hg, bnd2_some, c_bec4, bnd2_some, c_copyAll (by omega), bnd_some, c_copyAll (by omega), bnd_some]
/-- a column becomes another -/
theorem c_bec0 {H : Nat} {dst src : CS} {a : Nat → Int32} (h : CR H src a) : ∃ r, f_bec dst src = some r ∧ CR H r a := by
  obtain ⟨pd, tc, gv, nu, sz, pc, bo, en, he, so, st, kc, kn, pr, se, rc, ky, ss, vs⟩ := src
  replace h : CRx H pd tc gv nu sz pc bo en he so st kc kn pr se rc ky ss vs a := h
  have hg : gv = 0 ∨ gv = 1 := by
    obtain ⟨n, K, S, V, P, pe, W, k, hs, hc, hr, hb⟩ := h
    exact hb.2.2.1
  refine ⟨_, c_become19 hg, ?_⟩
  exact CRx.class_congr h (fun j hj => cpy_lt hj) (fun j hj => cpy_lt hj) (fun j hj => cpy_lt hj) (fun j hj => cpy_lt hj) (fun j hj => cpy_lt hj) (fun j hj => cpy_lt hj) (fun j hj => cpy_lt hj) (fun j hj => cpy_lt hj) (fun j hj => cpy_lt hj) (fun j hj => cpy_lt hj) (fun j hj => cpy_lt hj) (fun j hj => cpy_lt hj)
/-- the saved columns -/
def SV (H sc : Nat) (sav : Nat → CS) (kept : Nat → Int32) : Prop := ∀ i, i < sc → CR H (sav i) (fun j => kept (876 * i + j))
theorem SV.mono {H H' sc : Nat} {sav : Nat → CS} {kept : Nat → Int32} (h : SV H sc sav kept) (hH : H ≤ H') : SV H' sc sav kept := fun i hi => (h i hi).mono hH
theorem r_keeps {N sc : Nat} {a kept : Nat → Int32} (hsc : sc ≤ 8) (hN : 10000 < N) :
    ∃ kept', f_X8_keeps N (iN sc) a kept = some (iN (min sc 7 + 1), kept') ∧ (∀ j, j < 876 → kept' (876 * min sc 7 + j) = a j) ∧ ∀ i j, i < min sc 7 → j < 876 → kept' (876 * i + j) = if sc = 8 then kept (876 * (i + 1) + j) else kept (876 * i + j) := by
  -- the row behind the others
  have put : ∀ (s : Nat) (kept : Nat → Int32) (k : (Nat → Int32) → Option (Int32 × (Nat → Int32))), s ≤ 7 → f_X8_keeps_52 a (iN s) k N 0 kept = k (setR kept a (876 * s) 876) := by
    intro s kept k hs
    have : ∀ m i, i ≤ 876 → 876 - i < m → f_X8_keeps_52 a (iN s) k m (iN i) (setR kept a (876 * s) i) = k (setR kept a (876 * s) 876) := by
      intro m
      induction m with
      | zero => intro i h1 h2; omega
      | succ m ih =>
        intro i h1 h2
        rw [f_X8_keeps_52.eq_2]
        by_cases h3 : i = 876
        · subst h3; simp (disch := omega) only [Nat.add_zero, iN_lit, iN_lt, iN_le, iN_eq, iN_add, iN_mul, iN_sub, iN_nat, iN_div, iN_mod, iN_pred', n1_lt, n1_le, n1_ne, n1_ne', n1_nle, n1_nlt, n1_eq, oobN, some_lt, some_jn, bnd_some, Bool.false_eq_true, if_true, if_false, ite_true, ite_false, ↓reduceIte, ltT, ltF, leT, leF, eqT, eqF, true_and, and_true, false_and, and_false, true_or, or_true, false_or, or_false, not_true_eq_false, not_false_eq_true, if_pos, if_neg]
        · have h4 := ih (i + 1) (by omega) (by omega)
          have h5 := setR_step (f := kept) (g := a) (o := 876 * s) (i := i)
          simp (disch := omega) only [Nat.add_zero, iN_lit, iN_lt, iN_le, iN_eq, iN_add, iN_mul, iN_sub, iN_nat, iN_div, iN_mod, iN_pred', n1_lt, n1_le, n1_ne, n1_ne', n1_nle, n1_nlt, n1_eq, oobN, some_lt, some_jn, bnd_some, Bool.false_eq_true, if_true, if_false, ite_true, ite_false, ↓reduceIte, ltT, ltF, leT, leF, eqT, eqF, true_and, and_true, false_and, and_false, true_or, or_true, false_or, or_false, not_true_eq_false, not_false_eq_true, if_pos, if_neg, h5]
          exact h4
    have h6 := this N 0 (by omega) (by omega)
    rw [setR_zero] at h6
    exact h6
  unfold f_X8_keeps
  rw [some_jn]
  by_cases h8 : sc = 8
  · subst h8
    have e1 : (iN 8 = 8) = True := eq_true rfl
    have mv : ∀ k : (Nat → Int32) → Option (Int32 × (Nat → Int32)), f_X8_keeps_11 k N 0 kept = k (fun j => if j < 6132 then kept (j + 876) else kept j) := by
      intro k
      have : ∀ m i, i ≤ 6132 → 6132 - i < m → f_X8_keeps_11 k m (iN i) (fun j => if j < i then kept (j + 876) else kept j) = k (fun j => if j < 6132 then kept (j + 876) else kept j) := by
        intro m
        induction m with
        | zero => intro i h1 h2; omega
        | succ m ih =>
          intro i h1 h2
          rw [f_X8_keeps_11.eq_2]
          by_cases h3 : i = 6132
          · subst h3; simp (disch := omega) only [Nat.add_zero, iN_lit, iN_lt, iN_le, iN_eq, iN_add, iN_mul, iN_sub, iN_nat, iN_div, iN_mod, iN_pred', n1_lt, n1_le, n1_ne, n1_ne', n1_nle, n1_nlt, n1_eq, oobN, some_lt, some_jn, bnd_some, Bool.false_eq_true, if_true, if_false, ite_true, ite_false, ↓reduceIte, ltT, ltF, leT, leF, eqT, eqF, true_and, and_true, false_and, and_false, true_or, or_true, false_or, or_false, not_true_eq_false, not_false_eq_true, if_pos, if_neg]
          · have h4 := ih (i + 1) (by omega) (by omega)
            have h5 : upd (fun j => if j < i then kept (j + 876) else kept j) i (kept (i + 876)) = (fun j => if j < i + 1 then kept (j + 876) else kept j) := by
              funext j
              unfold upd
              by_cases h6 : j = i
              · subst h6; rw [if_pos rfl, if_pos (by omega)]
              · rw [if_neg h6]
                by_cases h7 : j < i
                · show (if j < i then kept (j + 876) else kept j) = _
                  rw [if_pos h7, if_pos (by omega)]
                · show (if j < i then kept (j + 876) else kept j) = _
                  rw [if_neg h7, if_neg (by omega)]
            have h8 : ¬ i + 876 < i := by omega
            rw [← h5] at h4
            simp (disch := omega) only [Nat.add_zero, iN_lit, iN_lt, iN_le, iN_eq, iN_add, iN_mul, iN_sub, iN_nat, iN_div, iN_mod, iN_pred', n1_lt, n1_le, n1_ne, n1_ne', n1_nle, n1_nlt, n1_eq, oobN, some_lt, some_jn, bnd_some, Bool.false_eq_true, if_true, if_false, ite_true, ite_false, ↓reduceIte, ltT, ltF, leT, leF, eqT, eqF, true_and, and_true, false_and, and_false, true_or, or_true, false_or, or_false, not_true_eq_false, not_false_eq_true, if_pos, if_neg, h8]
            exact h4
      have h6 := this N 0 (by omega) (by omega)
      rw [show (fun j => if j < 0 then kept (j + 876) else kept j) = kept by funext j; rw [if_neg (by omega)]] at h6
      exact h6
    simp only [e1, if_true]
    rw [some_jn, mv, some_lt, show iN 8 - 1 = iN 7 from rfl, some_jn, put 7 _ _ (by omega), some_lt]
    refine ⟨_, rfl, fun j hj => ?_, fun i j hi hj => ?_⟩
    · unfold setR; rw [if_pos (by omega), show 876 * min 8 7 + j - 876 * 7 = j by omega]
    · unfold setR; rw [if_neg (by omega)]
      show (if 876 * i + j < 6132 then kept (876 * i + j + 876) else kept (876 * i + j)) = _
      rw [if_pos (by omega), show 876 * i + j + 876 = 876 * (i + 1) + j by omega]
  · have e1 : (iN sc = 8) = False := eq_false (by show ¬ iN sc = iN 8; rw [iN_eq (by omega) (by omega)]; exact h8)
    simp only [e1, if_false]
    rw [some_jn, put sc _ _ (by omega), some_lt, show iN sc + 1 = iN (sc + 1) from iN_add _ 1]
    have hm : min sc 7 = sc := by omega
    rw [hm]
    refine ⟨_, rfl, fun j hj => ?_, fun i j hi hj => ?_⟩
    · unfold setR; rw [if_pos (by omega)]; congr 1; omega
    · unfold setR
      have : 876 * (i + 1) ≤ 876 * sc := Nat.mul_le_mul_left _ hi
      rw [if_neg (by omega), if_neg h8]
/-- a change is remembered on both sides -/
theorem both_keep {H N sc : Nat} {a kept : Nat → Int32} {adr : Nat → Nat → Nat} {sav : Nat → CS} {cur : CS} (hc : CR H cur a) (hs : SV H sc sav kept) (hsc : sc ≤ 8) (hN : 10000 < N) :
    ∃ adr' sav' kept', f_X7_remember (iN sc) adr sav cur = some (iN (min sc 7 + 1), adr', sav') ∧ f_X8_keeps N (iN sc) a kept = some (iN (min sc 7 + 1), kept') ∧ SV H (min sc 7 + 1) sav' kept' := by
  obtain ⟨kept', k1, k2, k3⟩ := r_keeps (a := a) (kept := kept) hsc hN
  have hrem : remC (iN sc) = iN (min sc 7) := by
    unfold remC
    by_cases h : sc < 8
    · have e : (iN sc < 8) = True := eq_true (by show iN sc < iN 8; rw [iN_lt (by omega) (by omega)]; exact h)
      simp only [e, if_true]; congr 1; omega
    · have e : (iN sc < 8) = False := eq_false (by show ¬ iN sc < iN 8; rw [iN_lt (by omega) (by omega)]; exact h)
      simp only [e, if_false]; rw [show min sc 7 = 7 by omega]; rfl
  obtain ⟨r, r1, r2⟩ := c_bec0 (dst := remA (iN sc) sav (min sc 7)) hc
  refine ⟨remA (iN sc) adr, fun j => if j = min sc 7 then r else remA (iN sc) sav j, kept', ?_, k1, fun i hi => ?_⟩
  · unfold f_X7_remember
    rw [hrem]
    have e1 := iN_nat (a := min sc 7) (by omega)
    have e2 : (oob (iN (min sc 7)) 8) = False := eq_false (by rw [oobN (by omega)]; omega)
    simp only [e2, if_false, e1, r1, bnd_some]
    rw [show iN (min sc 7) + 1 = iN (min sc 7 + 1) from iN_add _ 1]
  · by_cases h : i = min sc 7
    · subst h
      simp only [if_true]
      exact r2.ref (fun j hj => k2 j hj)
    · simp only [if_neg h]
      unfold remA
      by_cases h8 : sc < 8
      · have e : (iN sc < 8) = True := eq_true (by show iN sc < iN 8; rw [iN_lt (by omega) (by omega)]; exact h8)
        simp only [e, if_true]
        refine (hs i (by omega)).ref (fun j hj => ?_)
        show kept' (876 * i + j) = kept (876 * i + j)
        rw [k3 i j (by omega) hj, if_neg (by omega)]
      · have e : (iN sc < 8) = False := eq_false (by show ¬ iN sc < iN 8; rw [iN_lt (by omega) (by omega)]; exact h8)
        simp only [e, if_false]
        unfold rotA
        rw [if_pos (by omega)]
        refine (hs (i + 1) (by omega)).ref (fun j hj => ?_)
        show kept' (876 * i + j) = kept (876 * (i + 1) + j)
        rw [k3 i j (by omega) hj, if_pos (by omega)]
