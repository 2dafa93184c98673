section SO
variable {K : Nat → Nat}
theorem ahd_irrefl {a : Nat} : ahd K a a = false := by simp [ahd]
theorem ahd_trans {a b c : Nat} (h1 : ahd K a b = true) (h2 : ahd K b c = true) : ahd K a c = true := by
  simp only [ahd, decide_eq_true_eq] at *; omega
theorem ahd_total {a b : Nat} (h : ahd K a b = false) (hne : a ≠ b) : ahd K b a = true := by
  simp only [ahd, decide_eq_false_iff_not, decide_eq_true_eq] at *; omega
theorem insK_hi {row : Nat} {l : List Nat} {k0 : Nat} : ∀ j, insK K row l k0 ≤ j → j < k0 → ahd K row (l.getD j 0) = true := by
  induction k0 with
  | zero => intro j h1 h2; omega
  | succ k ih =>
    intro j h1 h2
    unfold insK at h1
    by_cases h : ahd K row (l.getD k 0) = true
    · rw [if_pos h] at h1
      by_cases hj : j = k
      · rw [hj]; exact h
      · exact ih j h1 (by omega)
    · rw [if_neg h] at h1; omega
theorem insK_lo {row : Nat} {l : List Nat} {k0 : Nat} (h0 : 0 < insK K row l k0) : ahd K row (l.getD (insK K row l k0 - 1) 0) = false := by
  induction k0 with
  | zero => simp [insK] at h0
  | succ k ih =>
    by_cases h : ahd K row (l.getD k 0) = true
    · have e : insK K row l (k + 1) = insK K row l k := by simp only [insK]; rw [if_pos h]
      rw [e] at h0 ⊢; exact ih h0
    · have e : insK K row l (k + 1) = k + 1 := by simp only [insK]; rw [if_neg h]
      rw [e, Nat.add_sub_cancel]; simpa using h
theorem insL_perm (row : Nat) (l : List Nat) : (insL K row l).Perm (row :: l) := by
  have h : (row :: (l.take (insK K row l l.length) ++ l.drop (insK K row l l.length))) = row :: l := by rw [List.take_append_drop]
  unfold insL
  exact h ▸ List.perm_middle
theorem isort_perm (l : List Nat) : (isort K l).Perm l := by
  have : ∀ (l acc : List Nat), (l.foldl (fun acc r => insL K r acc) acc).Perm (l ++ acc) := by
    intro l
    induction l with
    | nil => intro acc; exact List.Perm.refl _
    | cons x l ih =>
      intro acc
      rw [List.foldl_cons]
      refine (ih _).trans ?_
      refine ((insL_perm x acc).append_left l).trans ?_
      exact List.perm_middle
  have h := this l []
  rw [List.append_nil] at h
  exact h
theorem insL_sorted {row : Nat} {l : List Nat} (hs : l.Pairwise (fun a b => ahd K a b = true)) (hn : row ∉ l) : (insL K row l).Pairwise (fun a b => ahd K a b = true) := by
  have hle := insK_le K row l l.length
  have hh := insK_hi (K := K) (row := row) (l := l) (k0 := l.length)
  have hl := insK_lo (K := K) (row := row) (l := l) (k0 := l.length)
  unfold insL
  generalize insK K row l l.length = k at *
  have h1 : ∀ x ∈ l.drop k, ahd K row x = true := by
    intro x hx
    obtain ⟨i, hi, he⟩ := List.mem_iff_getElem.mp hx
    rw [List.length_drop] at hi
    rw [List.getElem_drop] at he
    have := hh (k + i) (by omega) (by omega)
    rw [getD_get (by omega), he] at this
    exact this
  have h2 : ∀ x ∈ l.take k, ahd K x row = true := by
    intro x hx
    by_cases hk : k = 0
    · rw [hk, List.take_zero] at hx; cases hx
    · have e := hl (by omega)
      rw [getD_get (by omega)] at e
      have hne : l[k - 1]'(by omega) ≠ row := fun h => hn (h ▸ List.getElem_mem _)
      have e2 := ahd_total e (Ne.symm hne)
      obtain ⟨i, hi, he⟩ := List.mem_iff_getElem.mp hx
      rw [List.length_take] at hi
      rw [List.getElem_take] at he
      by_cases hik : i = k - 1
      · subst hik; rw [← he]; exact e2
      · have := (List.pairwise_iff_getElem.mp hs) i (k - 1) (by omega) (by omega) (by omega)
        rw [he] at this
        exact ahd_trans this e2
  rw [List.pairwise_append]
  refine ⟨hs.sublist (List.take_sublist _ _), ?_, ?_⟩
  · rw [List.pairwise_cons]
    exact ⟨h1, hs.sublist (List.drop_sublist _ _)⟩
  · intro a ha b hb
    rcases List.mem_cons.mp hb with rfl | hb
    · exact h2 a ha
    · exact ahd_trans (h2 a ha) (h1 b hb)
theorem isort_sorted {l : List Nat} (hn : l.Nodup) : (isort K l).Pairwise (fun a b => ahd K a b = true) := by
  have : ∀ (l acc : List Nat), acc.Pairwise (fun a b => ahd K a b = true) → (l ++ acc).Nodup → (l.foldl (fun acc r => insL K r acc) acc).Pairwise (fun a b => ahd K a b = true) := by
    intro l
    induction l with
    | nil => intro acc h _; exact h
    | cons x l ih =>
      intro acc h hnd
      rw [List.foldl_cons]
      rw [List.cons_append, List.nodup_cons] at hnd
      refine ih _ (insL_sorted h (fun hx => hnd.1 (List.mem_append.mpr (Or.inr hx)))) ?_
      refine (List.Perm.nodup_iff ((insL_perm x acc).append_left l)).mpr ?_
      refine (List.Perm.nodup_iff List.perm_middle).mpr ?_
      exact List.nodup_cons.mpr hnd
  exact this l [] List.Pairwise.nil (by rw [List.append_nil]; exact hn)
theorem rkS_count {l : List Nat} {row : Nat} : rkS K l row = l.countP (fun r => ahd K r row) := by
  have : ∀ e, e ≤ l.length → pfi (rkG K l row) 0 e = (l.take e).countP (fun r => ahd K r row) := by
    intro e
    induction e with
    | zero => intro _; simp [pfi]
    | succ e ih =>
      intro he
      simp only [pfi]
      rw [ih (by omega), ← List.take_append_getElem (show e < l.length by omega), List.countP_append]
      unfold rkG
      rw [getD_get (show e < l.length by omega)]
      by_cases h : ahd K l[e] row = true
      · rw [if_pos h]; simp [h]
      · rw [if_neg h]; simp [h]
  have h := this l.length (Nat.le_refl _)
  rw [List.take_length] at h
  exact h
theorem rk_sorted {s : List Nat} (hs : s.Pairwise (fun a b => ahd K a b = true)) {j : Nat} (hj : j < s.length) : s.countP (fun r => ahd K r s[j]) = j := by
  have h1 : s = s.take j ++ s.drop j := (List.take_append_drop j s).symm
  have h2 : (s.take j).countP (fun r => ahd K r s[j]) = j := by
    have : (s.take j).countP (fun r => ahd K r s[j]) = (s.take j).length := by
      rw [List.countP_eq_length]
      intro x hx
      obtain ⟨i, hi, he⟩ := List.mem_iff_getElem.mp hx
      rw [List.length_take] at hi
      rw [List.getElem_take] at he
      have := (List.pairwise_iff_getElem.mp hs) i j (by omega) hj (by omega)
      rw [he] at this; exact this
    rw [this, List.length_take]; omega
  have h3 : (s.drop j).countP (fun r => ahd K r s[j]) = 0 := by
    rw [List.countP_eq_zero]
    intro x hx
    obtain ⟨i, hi, he⟩ := List.mem_iff_getElem.mp hx
    rw [List.length_drop] at hi
    rw [List.getElem_drop] at he
    by_cases hi0 : i = 0
    · subst hi0
      simp only [Nat.add_zero] at he
      rw [← he, ahd_irrefl]; simp
    · have := (List.pairwise_iff_getElem.mp hs) j (j + i) hj (by omega) (by omega)
      rw [he] at this
      intro h
      have h4 := ahd_trans this h
      rw [ahd_irrefl] at h4; cases h4
  have h4 : s.countP (fun r => ahd K r s[j]) = (s.take j).countP (fun r => ahd K r s[j]) + (s.drop j).countP (fun r => ahd K r s[j]) := by
    rw [← List.countP_append, List.take_append_drop]
  omega
/-- the two ways to count the rows that have another place -/
theorem chg_mis {l : List Nat} (hn : l.Nodup) : chgS K l = misS K l := by
  have hp := isort_perm (K := K) l
  have hs := isort_sorted (K := K) hn
  have hlen := isort_len K l
  have hrk : ∀ x, rkS K l x = (isort K l).countP (fun r => ahd K r x) := fun x => by
    rw [rkS_count, hp.countP_eq]
  unfold chgS misS
  refine pfi_ext (fun j x hj => ?_)
  unfold chgG misG
  rw [getD_get hj, getD_get (show j < (isort K l).length by omega), hrk]
  have hm : l[j] ∈ isort K l := mem_isort.mpr (List.getElem_mem hj)
  obtain ⟨i, hi, he⟩ := List.mem_iff_getElem.mp hm
  have e1 := rk_sorted hs hi
  rw [he] at e1
  by_cases h : (isort K l)[j]'(by omega) = l[j]
  · have e2 := rk_sorted hs (show j < (isort K l).length by omega)
    rw [h] at e2
    rw [if_pos h, if_pos e2]
  · rw [if_neg h, if_neg]
    intro h2
    rw [h2] at e1
    subst e1
    exact h he
end SO
