theorem nodup_le : ∀ (n : Nat) (l : List Nat), l.Nodup → (∀ r ∈ l, r < n) → l.length ≤ n := by
  intro n
  induction n with
  | zero =>
    intro l _ h
    cases l with
    | nil => simp
    | cons a l => exact absurd (h a (by simp)) (by omega)
  | succ n ih =>
    intro l hn h
    by_cases hm : n ∈ l
    · have h1 := ih (l.erase n) (hn.erase n) (fun r hr => by
        have h2 := (List.Nodup.mem_erase_iff hn).mp hr
        have h3 := h r h2.2
        omega)
      rw [List.length_erase_of_mem hm] at h1
      omega
    · have h1 := ih l hn (fun r hr => by
        have h2 := h r hr
        have : r ≠ n := fun e => hm (e ▸ hr)
        omega)
      omega
theorem lle_eq {L : List Nat} {key : Nat} : ∀ m i, i < m → L.getD i 0 ≤ key → (∀ j, i < j → j < m → key < L.getD j 0) → lle L key m = i := by
  intro m
  induction m with
  | zero => intro i h; omega
  | succ m ih =>
    intro i h1 h2 h3
    unfold lle
    by_cases h4 : i = m
    · subst h4; rw [if_pos h2]
    · have := h3 m (by omega) (by omega)
      rw [if_neg (by omega)]
      exact ih i (by omega) h2 (fun j hj1 hj2 => h3 j hj1 (by omega))
theorem lle_spec {L : List Nat} {key : Nat} : ∀ m, 0 < m → L.getD 0 0 ≤ key → L.getD (lle L key m) 0 ≤ key ∧ ∀ j, lle L key m < j → j < m → key < L.getD j 0 := by
  intro m
  induction m with
  | zero => intro h; omega
  | succ m ih =>
    intro _ h0
    unfold lle
    by_cases h1 : L.getD m 0 ≤ key
    · rw [if_pos h1]; exact ⟨h1, fun j h2 h3 => by omega⟩
    · rw [if_neg h1]
      have hm : 0 < m := by
        rcases Nat.eq_zero_or_pos m with h2 | h2
        · subst h2; exact absurd h0 h1
        · exact h2
      obtain ⟨h2, h3⟩ := ih hm h0
      refine ⟨h2, fun j h4 h5 => ?_⟩
      by_cases h6 : j = m
      · subst h6; omega
      · exact h3 j h4 (by omega)
/-- rows stand in their pieces, bounds rise -/
def OW (K : Nat → Nat) (P : List Pc) : Prop := (∀ X ∈ P, ∀ r ∈ X.2.2.2, X.1 ≤ K r) ∧ P.Pairwise (fun X Y => X.1 < Y.1 ∧ ∀ r ∈ X.2.2.2, K r < Y.1)
def HD0 (P : List Pc) : Prop := ∀ X, P[0]? = some X → X.1 = 0
abbrev PI (n : Nat) (K : Nat → Nat) (P : List Pc) : Prop := SZ n P ∧ HD0 P ∧ OW K P ∧ (flat P).Nodup
section PI
variable {n : Nat} {K : Nat → Nat} {P : List Pc}
theorem bdL_app {A : List Pc} {X : Pc} {B : List Pc} : (((A ++ X :: B).map (fun X : Pc => X.1)).getD A.length 0) = X.1 := by simp
theorem pcF_app {A : List Pc} {X : Pc} {B : List Pc} {key : Nat} (h1 : X.1 ≤ key) (h2 : ∀ Y ∈ B, key < Y.1) : pcF (A ++ X :: B) key = A.length := by
  unfold pcF
  refine lle_eq _ _ (by simp) (by rw [bdL_app]; exact h1) (fun j hj1 hj2 => ?_)
  simp only [List.length_append, List.length_cons] at hj2
  have e : ((A ++ X :: B).map (fun X : Pc => X.1)).getD j 0 = (B[j - A.length - 1]'(by omega)).1 := by
    rw [getD_get (by simp; omega), List.getElem_map, List.getElem_append_right (by omega), List.getElem_cons]
    rw [dif_neg (by omega)]
  rw [e]
  exact h2 _ (List.getElem_mem _)
theorem pcF_split {key : Nat} (h0 : HD0 P) (h1 : 1 ≤ P.length) : ∃ A X B, P = A ++ X :: B ∧ A.length = pcF P key ∧ X.1 ≤ key ∧ ∀ Y ∈ B, key < Y.1 := by
  have hp := pcF_lt (key := key) h1
  have h2 : (P.map (fun X : Pc => X.1)).getD 0 0 = 0 := by
    cases P with
    | nil => simp at h1
    | cons X P => simpa using h0 X rfl
  have hs := lle_spec (L := P.map (fun X : Pc => X.1)) (key := key) P.length (by omega) (by omega)
  obtain ⟨A, X, B, hP, hA⟩ := split_at hp
  refine ⟨A, X, B, hP, hA, ?_, fun Y hY => ?_⟩
  · have := hs.1
    rw [show lle (P.map (fun X : Pc => X.1)) key P.length = A.length from hA.symm] at this
    rw [hP, bdL_app] at this
    exact this
  · obtain ⟨i, hi, he⟩ := List.mem_iff_getElem.mp hY
    have := hs.2 (A.length + 1 + i) (by rw [show lle (P.map (fun X : Pc => X.1)) key P.length = A.length from hA.symm]; omega) (by rw [hP]; simp; omega)
    have e : (P.map (fun X : Pc => X.1)).getD (A.length + 1 + i) 0 = Y.1 := by
      rw [hP, getD_get (by simp; omega), List.getElem_map, List.getElem_append_right (by omega), List.getElem_cons]
      rw [dif_neg (by omega)]
      rw [← he]; congr 2; omega
    rw [e] at this; exact this
theorem HD0_le {b : Nat} (h0 : HD0 P) : ∀ X, P[0]? = some X → X.1 ≤ b := fun X hX => by rw [h0 X hX]; omega
theorem OW_mid {A : List Pc} {X : Pc} {B : List Pc} (h : OW K (A ++ X :: B)) : (∀ r ∈ X.2.2.2, X.1 ≤ K r) ∧ (∀ Y ∈ B, X.1 < Y.1 ∧ ∀ r ∈ X.2.2.2, K r < Y.1) ∧ (∀ Z ∈ A, Z.1 < X.1 ∧ ∀ r ∈ Z.2.2.2, K r < X.1) := by
  obtain ⟨h1, h2⟩ := h
  rw [List.pairwise_append, List.pairwise_cons] at h2
  exact ⟨h1 X (by simp), h2.2.1.1, fun Z hZ => h2.2.2 Z hZ X (by simp)⟩
/-- a row that is in the index stands in the piece of its key -/
theorem OW_in {row : Nat} (h : OW K P) (hr : row ∈ flat P) : ∃ X, P[pcF P (K row)]? = some X ∧ row ∈ X.2.2.2 := by
  obtain ⟨X, hX, hrX⟩ := mem_flat.mp hr
  obtain ⟨A, B, rfl⟩ := List.append_of_mem hX
  obtain ⟨h1, h2, h3⟩ := OW_mid h
  refine ⟨X, ?_, hrX⟩
  rw [pcF_app (h1 row hrX) (fun Y hY => (h2 Y hY).2 row hrX)]
  simp
theorem OW_set {A : List Pc} {X X' : Pc} {B : List Pc} (h : OW K (A ++ X :: B)) (hb : X'.1 = X.1) (hr : ∀ r ∈ X'.2.2.2, X.1 ≤ K r ∧ ∀ Y ∈ B, K r < Y.1) : OW K (A ++ X' :: B) := by
  obtain ⟨h1, h2⟩ := h
  rw [List.pairwise_append, List.pairwise_cons] at h2
  refine ⟨fun Z hZ => ?_, ?_⟩
  · rcases List.mem_append.mp hZ with hZ | hZ
    · exact h1 Z (List.mem_append.mpr (Or.inl hZ))
    · rcases List.mem_cons.mp hZ with rfl | hZ
      · intro r hrr; rw [hb]; exact (hr r hrr).1
      · exact h1 Z (List.mem_append.mpr (Or.inr (List.mem_cons_of_mem _ hZ)))
  · rw [List.pairwise_append, List.pairwise_cons]
    refine ⟨h2.1, ⟨fun Y hY => ⟨by rw [hb]; exact (h2.2.1.1 Y hY).1, fun r hrr => (hr r hrr).2 Y hY⟩, h2.2.1.2⟩, fun Z hZ Y hY => ?_⟩
    rcases List.mem_cons.mp hY with rfl | hY
    · rw [hb]; exact h2.2.2 Z hZ X (by simp)
    · exact h2.2.2 Z hZ Y (List.mem_cons_of_mem _ hY)
theorem HD0_set {A : List Pc} {X X' : Pc} {B : List Pc} (h : HD0 (A ++ X :: B)) (hb : X'.1 = X.1) (B' : List Pc) : HD0 (A ++ X' :: B') := by
  intro Y hY
  cases A with
  | nil =>
    simp at hY
    rw [← hY, hb]; exact h X (by simp)
  | cons Z A => exact h Y (by simpa using hY)
theorem PI_set {A : List Pc} {X X' : Pc} {B : List Pc} (h : PI n K (A ++ X :: B)) (hb : X'.1 = X.1) (hs : X'.2.2.1 ≤ 1) (hh : hsum A + X'.2.1 + hsum B < 1073741824) (hr : ∀ r ∈ X'.2.2.2, r < n ∧ X.1 ≤ K r ∧ ∀ Y ∈ B, K r < Y.1) (hnd : (flat (A ++ X' :: B)).Nodup) : PI n K (A ++ X' :: B) := by
  obtain ⟨hz, h0, ho, _⟩ := h
  have hrs : ∀ r ∈ flat (A ++ X' :: B), r < n := by
    intro r hrr
    rw [flat_append, flat, List.mem_append, List.mem_append] at hrr
    rcases hrr with hrr | hrr | hrr
    · exact hz.rs r (by rw [flat_append]; exact List.mem_append.mpr (Or.inl hrr))
    · exact (hr r hrr).1
    · exact hz.rs r (by rw [flat_append, flat]; exact List.mem_append.mpr (Or.inr (List.mem_append.mpr (Or.inr hrr))))
  refine ⟨⟨hz.nn, ?_, ?_, ?_, ?_, ?_, ?_, hrs⟩, HD0_set h0 hb B, OW_set ho hb (fun r hrr => (hr r hrr).2), hnd⟩
  · simp only [List.length_append, List.length_cons]; omega
  · have := hz.len; simp only [List.length_append, List.length_cons] at this ⊢; exact this
  · have := nodup_le n _ hnd hrs; have := hz.nn; omega
  · intro p hp
    rcases List.mem_append.mp hp with hp | hp
    · exact hz.bd p (List.mem_append.mpr (Or.inl hp))
    · rcases List.mem_cons.mp hp with rfl | hp
      · rw [hb]; exact hz.bd X (by simp)
      · exact hz.bd p (List.mem_append.mpr (Or.inr (List.mem_cons_of_mem _ hp)))
  · intro p hp
    rcases List.mem_append.mp hp with hp | hp
    · exact hz.so p (List.mem_append.mpr (Or.inl hp))
    · rcases List.mem_cons.mp hp with rfl | hp
      · exact hs
      · exact hz.so p (List.mem_append.mpr (Or.inr (List.mem_cons_of_mem _ hp)))
  · rw [hsum_append]; simp only [hsum]; omega
theorem putPc_mem {row r : Nat} {X : Pc} : r ∈ (putPc K row X).2.2.2 ↔ r = row ∨ r ∈ X.2.2.2 := by
  show r ∈ (if X.2.2.1 = 1 then insL K row X.2.2.2 else X.2.2.2 ++ [row]) ↔ _
  split
  · exact mem_insL
  · rw [List.mem_append, List.mem_singleton]; exact Or.comm
theorem putPc_perm {row : Nat} {X : Pc} : ((putPc K row X).2.2.2).Perm (row :: X.2.2.2) := by
  show (if X.2.2.1 = 1 then insL K row X.2.2.2 else X.2.2.2 ++ [row]).Perm _
  split
  · exact insL_perm row X.2.2.2
  · exact List.perm_append_comm
theorem flat_mid_perm {A : List Pc} {X X' : Pc} {B : List Pc} {row : Nat} (h : (X'.2.2.2).Perm (row :: X.2.2.2)) : (flat (A ++ X' :: B)).Perm (row :: flat (A ++ X :: B)) := by
  rw [flat_append, flat_append, flat, flat]
  refine ((h.append_right (flat B)).append_left (flat A)).trans ?_
  exact List.perm_middle
/-- a row comes in -/
theorem PI_put {row : Nat} (h : PI n K P) (hr : row < n) (hn : row ∉ flat P) : PI n K (putS K row P) ∧ (putS K row P).length = P.length ∧ hsum (putS K row P) = hsum P ∧ (flat (putS K row P)).Perm (row :: flat P) := by
  obtain ⟨hz, h0, ho, hnd⟩ := h
  obtain ⟨A, X, B, rfl, hA, hX, hB⟩ := pcF_split (key := K row) h0 hz.one
  unfold putS
  rw [← hA, mdp_app]
  show PI n K (A ++ putPc K row X :: B) ∧ (A ++ putPc K row X :: B).length = _ ∧ hsum (A ++ putPc K row X :: B) = _ ∧ (flat (A ++ putPc K row X :: B)).Perm _
  have hperm := flat_mid_perm (A := A) (B := B) (putPc_perm (K := K) (row := row) (X := X))
  have hm := OW_mid ho
  refine ⟨PI_set (X := X) ⟨hz, h0, ho, hnd⟩ rfl (hz.so X (by simp)) ?_ (fun r hrr => ?_) ?_, by simp, ?_, hperm⟩
  · have := hz.ht; rw [hsum_append] at this; simp only [hsum] at this
    show hsum A + X.2.1 + hsum B < _
    omega
  · rcases putPc_mem.mp hrr with rfl | hrr
    · exact ⟨hr, hX, hB⟩
    · exact ⟨hz.rs r (by rw [flat_append, flat]; simp [hrr]), hm.1 r hrr, fun Y hY => (hm.2.1 Y hY).2 r hrr⟩
  · exact hperm.nodup_iff.mpr (List.nodup_cons.mpr ⟨hn, hnd⟩)
  · rw [hsum_append, hsum_append]; rfl
/-- a row goes out -/
theorem PI_tak {row : Nat} (h : PI n K P) (hr : row ∈ flat P) : PI n K (takS K row P) ∧ (takS K row P).length = P.length ∧ hsum (takS K row P) = hsum P ∧ (flat P).Perm (row :: flat (takS K row P)) := by
  obtain ⟨hz, h0, ho, hnd⟩ := h
  obtain ⟨X', hX', hrX⟩ := OW_in ho hr
  obtain ⟨A, X, B, rfl, hA⟩ := split_at (show pcF P (K row) < P.length from pcF_lt hz.one)
  have hXX : X' = X := by rw [← hA] at hX'; simpa using hX'.symm
  subst hXX
  unfold takS
  rw [← hA, mdp_app]
  show PI n K (A ++ ((X'.1, X'.2.1, X'.2.2.1, X'.2.2.2.erase row) : Pc) :: B) ∧ (A ++ ((X'.1, X'.2.1, X'.2.2.1, X'.2.2.2.erase row) : Pc) :: B).length = _ ∧ hsum (A ++ ((X'.1, X'.2.1, X'.2.2.1, X'.2.2.2.erase row) : Pc) :: B) = _ ∧ (flat (A ++ X' :: B)).Perm (row :: flat (A ++ ((X'.1, X'.2.1, X'.2.2.1, X'.2.2.2.erase row) : Pc) :: B))
  have hm := OW_mid ho
  have hperm : (flat (A ++ X' :: B)).Perm (row :: flat (A ++ ((X'.1, X'.2.1, X'.2.2.1, X'.2.2.2.erase row) : Pc) :: B)) := flat_mid_perm (List.perm_cons_erase hrX)
  refine ⟨PI_set (X := X') ⟨hz, h0, ho, hnd⟩ rfl (hz.so X' (by simp)) ?_ (fun r hrr => ?_) ?_, by simp, ?_, hperm⟩
  · have := hz.ht; rw [hsum_append] at this; simp only [hsum] at this
    show hsum A + X'.2.1 + hsum B < _
    omega
  · have hrr := List.mem_of_mem_erase hrr
    exact ⟨hz.rs r (by rw [flat_append, flat]; simp [hrr]), hm.1 r hrr, fun Y hY => (hm.2.1 Y hY).2 r hrr⟩
  · exact (List.nodup_cons.mp (hperm.nodup_iff.mp hnd)).2
  · rw [hsum_append, hsum_append]; rfl
end PI
