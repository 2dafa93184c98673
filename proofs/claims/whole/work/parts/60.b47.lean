section WRD
variable {N L len : Nat} {bb mf : Nat → Int32} {T : Nat → Nat}
theorem ch_n : ∀ w : Fin 5, ∀ j : Fin 8, (chS w.1 j.1).toInt.toNat < 128 ∧ chS w.1 j.1 = iN (chS w.1 j.1).toInt.toNat := by decide +kernel
theorem ln_n : ∀ w : Fin 5, 3 ≤ lenS.getD w.1 0 ∧ lenS.getD w.1 0 ≤ 7 ∧ nI (lenS.getD w.1 0) = iN (lenS.getD w.1 0) := by decide +kernel
theorem w_loop {s w ln : Nat} (h : TX len bb mf T) (hw : w < 5) (hln : lenS.getD w 0 = ln) (hs : s + ln ≤ len) (k2 k3 : Option Int32) (l2 l3 : Option Int32) :
    ∀ m j, j ≤ ln → ln - j < m → (f_X5_isWord_17 (iN len) bb 900 (iN s) w k2 k3 m (iN j) = k2 ∧ f_X8_isWord_34 (iN s) mf w l2 l3 m (iN j) = l2) ∨ (f_X5_isWord_17 (iN len) bb 900 (iN s) w k2 k3 m (iN j) = k3 ∧ f_X8_isWord_34 (iN s) mf w l2 l3 m (iN j) = l3) := by
  have hlen := h.1
  obtain ⟨n1, n2, n3⟩ := ln_n ⟨w, hw⟩
  replace n1 : 3 ≤ lenS.getD w 0 := n1
  replace n2 : lenS.getD w 0 ≤ 7 := n2
  replace n3 : nI (lenS.getD w 0) = iN (lenS.getD w 0) := n3
  rw [hln] at n1 n2 n3
  intro m
  induction m with
  | zero => intro j h1 h2; omega
  | succ m ih =>
    intro j h1 h2
    rw [f_X5_isWord_17.eq_2, f_X8_isWord_34.eq_2, if_neg (show ¬ 5 ≤ w by omega), if_neg (show ¬ 5 ≤ w by omega), hln, n3]
    by_cases hj : j = ln
    · subst hj
      left
      exact ⟨if_pos (Int32.le_refl _), if_pos (Int32.le_refl _)⟩
    · have e1 : ¬ iN ln ≤ iN j := by rw [iN_le (by omega) (by omega)]; omega
      obtain ⟨t1, t2, t3⟩ := h.2 (s + j) (by omega)
      obtain ⟨d1, d2⟩ := ch_n ⟨w, hw⟩ ⟨j, by omega⟩
      replace d1 : (chS w j).toInt.toNat < 128 := d1
      replace d2 : chS w j = iN (chS w j).toInt.toNat := d2
      generalize (chS w j).toInt.toNat = c at *
      have ej : (iN j).toNatClampNeg = j := iN_nat (by omega)
      have es : (iN (s + j)).toNatClampNeg = s + j := iN_nat (by omega)
      have o1 : ¬ oob (iN j) ln := by rw [oobN (by omega)]; omega
      have o2 : ¬ oob (iN (s + j)) 900 := by rw [oobN (by omega)]; omega
      rw [if_neg e1, if_neg e1, iN_add s j, c_byteAt h (by omega), bnd_some, if_neg o1, if_neg o2, if_neg o1, ej, es, d2]
      by_cases hc : T (s + j) = c
      · rw [if_pos ((x_eq t3 t1 d1).mpr hc), if_pos (show mf (s + j) = iN c by rw [t2, hc]), some_lt, some_lt, show iN j + 1 = iN (j + 1) from iN_add j 1]
        exact ih (j + 1) (by omega) (by omega)
      · right
        rw [if_neg (fun q => hc ((x_eq t3 t1 d1).mp q)), if_neg (show ¬ mf (s + j) = iN c from fun q => hc (by rw [t2, iN_eq (by omega) (by omega)] at q; exact q))]
        exact ⟨rfl, rfl⟩
/-- a word, on both sides -/
theorem w_both {s e w : Nat} (h : TX len bb mf T) (hw : w < 5) (hse : s ≤ e) (he : e ≤ len) (hN : 1000 < N) :
    ∃ r : Nat, (r = 0 ∨ r = 1) ∧ f_X5_isWord N (iN len) bb (iN e) 900 (iN s) w = some (iN r) ∧ f_X8_isWord N (iN s) (iN e) 0 0 mf w = some (iN r) ∧ (e = s → r = 0) := by
  have hlen := h.1
  obtain ⟨n1, n2, n3⟩ := ln_n ⟨w, hw⟩
  replace n1 : 3 ≤ lenS.getD w 0 := n1
  replace n2 : lenS.getD w 0 ≤ 7 := n2
  replace n3 : nI (lenS.getD w 0) = iN (lenS.getD w 0) := n3
  obtain ⟨ln, hln⟩ : ∃ ln, lenS.getD w 0 = ln := ⟨_, rfl⟩
  rw [hln] at n1 n2 n3
  unfold f_X5_isWord f_X8_isWord
  rw [if_neg (show ¬ 5 ≤ w by omega), if_pos (show (0 : Int32) = 0 from rfl), if_pos (show (0 : Int32) = 0 from rfl), if_neg (show ¬ 5 ≤ w by omega), hln, n3, iN_sub hse]
  by_cases hl : e - s = ln
  · have q : iN (e - s) = iN ln := by rw [hl]
    rw [if_pos q, if_pos q, some_jn, some_jn, some_jn, some_jn]
    rcases w_loop h hw hln (s := s) (by omega) (some 1) (some 0) (some 1) (some 0) N 0 (by omega) (by omega) with ⟨a1, a2⟩ | ⟨a1, a2⟩
    · exact ⟨1, Or.inr rfl, a1, a2, fun q => by omega⟩
    · exact ⟨0, Or.inl rfl, a1, a2, fun q => rfl⟩
  · have q : ¬ iN (e - s) = iN ln := by rw [iN_eq (by omega) (by omega)]; exact hl
    rw [if_neg q, if_neg q]
    exact ⟨0, Or.inl rfl, rfl, rfl, fun _ => rfl⟩
end WRD
