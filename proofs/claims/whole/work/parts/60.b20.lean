section PI
variable {n : Nat} {K : Nat → Nat} {P : List Pc}
theorem lohi_perm {b : Nat} (l : List Nat) : (lo K b l ++ hi K b l).Perm l := by
  unfold lo hi
  exact List.filter_append_perm _ l
theorem mem_lo {b r : Nat} {l : List Nat} : r ∈ lo K b l ↔ r ∈ l ∧ K r < b := by unfold lo; simp
theorem mem_hi {b r : Nat} {l : List Nat} : r ∈ hi K b l ↔ r ∈ l ∧ b ≤ K r := by unfold hi; simp
/-- a crack -/
theorem PI_div {b : Nat} (h : PI n K P) (hb : b ≤ 10000) (hl : P.length < 62) : PI n K (divS K b P) ∧ hsum (divS K b P) ≤ hsum P ∧ (flat (divS K b P)).Perm (flat P) ∧ (divS K b P).length ≤ P.length + 1 ∧ P.length ≤ (divS K b P).length ∧ (∃ A X B, divS K b P = A ++ X :: B ∧ X.1 = b) ∧ (∀ X ∈ P, ∃ Y ∈ divS K b P, Y.1 = X.1) := by
  obtain ⟨hz, h0, ho, hnd⟩ := h
  obtain ⟨A, X, B, hP, hA, hX, hB⟩ := pcF_split (key := b) h0 hz.one
  have hbd : bdL P (pcF P b) = X.1 := by unfold bdL; rw [← hA, hP, bdL_app]
  unfold divS
  rw [hbd]
  by_cases he : X.1 = b
  · rw [if_pos he]
    exact ⟨⟨hz, h0, ho, hnd⟩, Nat.le_refl _, List.Perm.refl _, by omega, Nat.le_refl _, ⟨A, X, B, hP, he⟩, fun Z hZ => ⟨Z, hZ, rfl⟩⟩
  · rw [if_neg he, ← hA]
    subst hP
    rw [mdp_app]
    have hm := OW_mid ho
    obtain ⟨ho1, ho2⟩ := ho
    rw [List.pairwise_append, List.pairwise_cons] at ho2
    show PI n K (A ++ ((X.1, X.2.1 / 2, X.2.2.1, lo K b X.2.2.2) : Pc) :: ((b, X.2.1 / 2, X.2.2.1, hi K b X.2.2.2) : Pc) :: B) ∧ hsum (A ++ ((X.1, X.2.1 / 2, X.2.2.1, lo K b X.2.2.2) : Pc) :: ((b, X.2.1 / 2, X.2.2.1, hi K b X.2.2.2) : Pc) :: B) ≤ _ ∧ (flat (A ++ ((X.1, X.2.1 / 2, X.2.2.1, lo K b X.2.2.2) : Pc) :: ((b, X.2.1 / 2, X.2.2.1, hi K b X.2.2.2) : Pc) :: B)).Perm _ ∧ (A ++ ((X.1, X.2.1 / 2, X.2.2.1, lo K b X.2.2.2) : Pc) :: ((b, X.2.1 / 2, X.2.2.1, hi K b X.2.2.2) : Pc) :: B).length ≤ _ ∧ _ ≤ (A ++ ((X.1, X.2.1 / 2, X.2.2.1, lo K b X.2.2.2) : Pc) :: ((b, X.2.1 / 2, X.2.2.1, hi K b X.2.2.2) : Pc) :: B).length ∧ (∃ A' X' B', A ++ ((X.1, X.2.1 / 2, X.2.2.1, lo K b X.2.2.2) : Pc) :: ((b, X.2.1 / 2, X.2.2.1, hi K b X.2.2.2) : Pc) :: B = A' ++ X' :: B' ∧ X'.1 = b) ∧ _
    have hperm : (flat (A ++ ((X.1, X.2.1 / 2, X.2.2.1, lo K b X.2.2.2) : Pc) :: ((b, X.2.1 / 2, X.2.2.1, hi K b X.2.2.2) : Pc) :: B)).Perm (flat (A ++ X :: B)) := by
      simp only [flat_append, flat]
      rw [← List.append_assoc (lo K b _)]
      exact ((lohi_perm _).append_right _).append_left _
    have hh : hsum (A ++ ((X.1, X.2.1 / 2, X.2.2.1, lo K b X.2.2.2) : Pc) :: ((b, X.2.1 / 2, X.2.2.1, hi K b X.2.2.2) : Pc) :: B) ≤ hsum (A ++ X :: B) := by
      simp only [hsum_append, hsum]; omega
    refine ⟨⟨⟨hz.nn, ?_, ?_, ?_, ?_, ?_, ?_, ?_⟩, ?_, ⟨?_, ?_⟩, hperm.nodup_iff.mpr hnd⟩, hh, hperm, ?_, ?_, ⟨A ++ [((X.1, X.2.1 / 2, X.2.2.1, lo K b X.2.2.2) : Pc)], ((b, X.2.1 / 2, X.2.2.1, hi K b X.2.2.2) : Pc), B, by simp, rfl⟩, ?_⟩
    · simp only [List.length_append, List.length_cons]; omega
    · simp only [List.length_append, List.length_cons] at hl ⊢; omega
    · rw [hperm.length_eq]; exact hz.fl
    · intro p hp
      simp only [List.mem_append, List.mem_cons] at hp
      rcases hp with hp | rfl | rfl | hp
      · exact hz.bd p (by simp [hp])
      · exact hz.bd X (by simp)
      · exact hb
      · exact hz.bd p (by simp [hp])
    · intro p hp
      simp only [List.mem_append, List.mem_cons] at hp
      rcases hp with hp | rfl | rfl | hp
      · exact hz.so p (by simp [hp])
      · exact hz.so X (by simp)
      · exact hz.so X (by simp)
      · exact hz.so p (by simp [hp])
    · exact Nat.lt_of_le_of_lt hh hz.ht
    · intro r hr; exact hz.rs r (hperm.mem_iff.mp hr)
    · exact HD0_set (X := X) (X' := ((X.1, X.2.1 / 2, X.2.2.1, lo K b X.2.2.2) : Pc)) (B := B) h0 rfl _
    · intro Z hZ r hr
      simp only [List.mem_append, List.mem_cons] at hZ
      rcases hZ with hZ | rfl | rfl | hZ
      · exact ho1 Z (by simp [hZ]) r hr
      · exact hm.1 r (mem_lo.mp hr).1
      · exact (mem_hi.mp hr).2
      · exact ho1 Z (by simp [hZ]) r hr
    · rw [List.pairwise_append, List.pairwise_cons, List.pairwise_cons]
      refine ⟨ho2.1, ⟨?_, ?_, ho2.2.1.2⟩, ?_⟩
      · intro Y hY
        rcases List.mem_cons.mp hY with rfl | hY
        · refine ⟨?_, fun r hr => (mem_lo.mp hr).2⟩
          show X.1 < b
          omega
        · exact ⟨(hm.2.1 Y hY).1, fun r hr => (hm.2.1 Y hY).2 r (mem_lo.mp hr).1⟩
      · intro Y hY
        exact ⟨hB Y hY, fun r hr => (hm.2.1 Y hY).2 r (mem_hi.mp hr).1⟩
      · intro Z hZ Y hY
        have hz1 := hm.2.2 Z hZ
        rcases List.mem_cons.mp hY with rfl | hY
        · exact hz1
        · rcases List.mem_cons.mp hY with rfl | hY
          · refine ⟨?_, fun r hr => ?_⟩
            · show Z.1 < b
              have := hz1.1; omega
            · show K r < b
              have := hz1.2 r hr; omega
          · exact ho2.2.2 Z hZ Y (List.mem_cons_of_mem _ hY)
    · simp only [List.length_append, List.length_cons]; omega
    · simp only [List.length_append, List.length_cons]; omega
    · intro Z hZ
      simp only [List.mem_append, List.mem_cons] at hZ
      rcases hZ with hZ | rfl | hZ
      · exact ⟨Z, by simp [hZ], rfl⟩
      · exact ⟨((Z.1, Z.2.1 / 2, Z.2.2.1, lo K b Z.2.2.2) : Pc), by simp [divPc], rfl⟩
      · exact ⟨Z, by simp [hZ], rfl⟩
/-- a piece is sorted -/
theorem PI_srt {p : Nat} (h : PI n K P) (hp : p < P.length) : PI n K (srtS K p P) ∧ hsum (srtS K p P) = hsum P ∧ (flat (srtS K p P)).Perm (flat P) ∧ (srtS K p P).length = P.length ∧ (srtS K p P).map (fun X : Pc => X.1) = P.map (fun X : Pc => X.1) := by
  obtain ⟨A, X, B, rfl, rfl⟩ := split_at hp
  unfold srtS
  rw [mdp_app]
  show PI n K (A ++ ((X.1, X.2.1, 1, isort K X.2.2.2) : Pc) :: B) ∧ hsum (A ++ ((X.1, X.2.1, 1, isort K X.2.2.2) : Pc) :: B) = _ ∧ (flat (A ++ ((X.1, X.2.1, 1, isort K X.2.2.2) : Pc) :: B)).Perm _ ∧ (A ++ ((X.1, X.2.1, 1, isort K X.2.2.2) : Pc) :: B).length = _ ∧ (A ++ ((X.1, X.2.1, 1, isort K X.2.2.2) : Pc) :: B).map (fun X : Pc => X.1) = _
  have hperm : (flat (A ++ ((X.1, X.2.1, 1, isort K X.2.2.2) : Pc) :: B)).Perm (flat (A ++ X :: B)) := by
    simp only [flat_append, flat]
    exact ((isort_perm _).append_right _).append_left _
  have hm := OW_mid h.2.2.1
  refine ⟨PI_set h rfl (by show 1 ≤ 1; omega) ?_ (fun r hr => ?_) (hperm.nodup_iff.mpr h.2.2.2), ?_, hperm, by simp, by simp⟩
  · have := h.1.ht; rw [hsum_append] at this; simp only [hsum] at this
    show hsum A + X.2.1 + hsum B < _
    omega
  · have hr := mem_isort.mp hr
    exact ⟨h.1.rs r (by rw [flat_append, flat]; simp [hr]), hm.1 r hr, fun Y hY => (hm.2.1 Y hY).2 r hr⟩
  · rw [hsum_append, hsum_append]; rfl
/-- a piece is warmed -/
theorem PI_war {p : Nat} (h : PI n K P) (hp : p < P.length) (hh : hsum P + 1 < 1073741824) : PI n K (warS p P) ∧ hsum (warS p P) = hsum P + 1 ∧ flat (warS p P) = flat P ∧ (warS p P).length = P.length ∧ (warS p P).map (fun X : Pc => X.1) = P.map (fun X : Pc => X.1) := by
  obtain ⟨A, X, B, rfl, rfl⟩ := split_at hp
  unfold warS
  rw [mdp_app]
  show PI n K (A ++ ((X.1, X.2.1 + 1, X.2.2.1, X.2.2.2) : Pc) :: B) ∧ hsum (A ++ ((X.1, X.2.1 + 1, X.2.2.1, X.2.2.2) : Pc) :: B) = _ ∧ flat (A ++ ((X.1, X.2.1 + 1, X.2.2.1, X.2.2.2) : Pc) :: B) = _ ∧ (A ++ ((X.1, X.2.1 + 1, X.2.2.1, X.2.2.2) : Pc) :: B).length = _ ∧ (A ++ ((X.1, X.2.1 + 1, X.2.2.1, X.2.2.2) : Pc) :: B).map (fun X : Pc => X.1) = _
  have hf : flat (A ++ ((X.1, X.2.1 + 1, X.2.2.1, X.2.2.2) : Pc) :: B) = flat (A ++ X :: B) := by simp only [flat_append, flat]
  have hm := OW_mid h.2.2.1
  rw [hsum_append] at hh; simp only [hsum] at hh
  refine ⟨PI_set h rfl (h.1.so X (by simp)) ?_ (fun r hr => ?_) (by rw [hf]; exact h.2.2.2), ?_, hf, by simp, by simp⟩
  · show hsum A + (X.2.1 + 1) + hsum B < _
    omega
  · exact ⟨h.1.rs r (by rw [flat_append, flat]; exact List.mem_append.mpr (Or.inr (List.mem_append.mpr (Or.inl hr)))), hm.1 r hr, fun Y hY => (hm.2.1 Y hY).2 r hr⟩
  · rw [hsum_append, hsum_append]
    show hsum A + ((X.2.1 + 1) + hsum B) = hsum A + (X.2.1 + hsum B) + 1
    omega
/-- two pieces become one -/
theorem PI_jn {p : Nat} (h : PI n K P) (hp : p + 1 < P.length) : PI n K (jnS p P) ∧ hsum (jnS p P) = hsum P ∧ flat (jnS p P) = flat P ∧ (jnS p P).length + 1 = P.length := by
  obtain ⟨A, X, B', rfl, rfl⟩ := split_at (show p < P.length by omega)
  obtain ⟨Y, B, rfl⟩ : ∃ Y B, B' = Y :: B := by
    cases B' with
    | nil => simp at hp
    | cons Y B => exact ⟨Y, B, rfl⟩
  rw [jnS_app]
  obtain ⟨hz, h0, ho, hnd⟩ := h
  have hf : flat (A ++ jnP X Y :: B) = flat (A ++ X :: Y :: B) := by simp [flat_append, flat, jnP]
  have hh : hsum (A ++ jnP X Y :: B) = hsum (A ++ X :: Y :: B) := by
    simp only [hsum_append, hsum]
    show hsum A + (X.2.1 + Y.2.1 + hsum B) = _
    omega
  have hm := OW_mid ho
  obtain ⟨ho1, ho2⟩ := ho
  rw [List.pairwise_append, List.pairwise_cons, List.pairwise_cons] at ho2
  refine ⟨⟨⟨hz.nn, ?_, ?_, by rw [hf]; exact hz.fl, ?_, ?_, by rw [hh]; exact hz.ht, by rw [hf]; exact hz.rs⟩, HD0_set (X := X) (X' := jnP X Y) (B := Y :: B) h0 rfl _, ⟨?_, ?_⟩, by rw [hf]; exact hnd⟩, hh, hf, by simp; omega⟩
  · simp only [List.length_append, List.length_cons]; omega
  · have := hz.len; simp only [List.length_append, List.length_cons] at this ⊢; omega
  · intro p hp
    simp only [List.mem_append, List.mem_cons] at hp
    rcases hp with hp | rfl | hp
    · exact hz.bd p (by simp [hp])
    · exact hz.bd X (by simp)
    · exact hz.bd p (by simp [hp])
  · intro p hp
    simp only [List.mem_append, List.mem_cons] at hp
    rcases hp with hp | rfl | hp
    · exact hz.so p (by simp [hp])
    · show X.2.2.1 * Y.2.2.1 ≤ 1
      have h1 := hz.so X (by simp); have h2 := hz.so Y (by simp)
      exact Nat.mul_le_mul h1 h2
    · exact hz.so p (by simp [hp])
  · intro Z hZ r hr
    simp only [List.mem_append, List.mem_cons] at hZ
    rcases hZ with hZ | rfl | hZ
    · exact ho1 Z (by simp [hZ]) r hr
    · show X.1 ≤ K r
      rcases List.mem_append.mp (show r ∈ X.2.2.2 ++ Y.2.2.2 from hr) with hr | hr
      · exact hm.1 r hr
      · have h1 := ho1 Y (by simp) r hr
        have h2 := (hm.2.1 Y (by simp)).1
        omega
    · exact ho1 Z (by simp [hZ]) r hr
  · rw [List.pairwise_append, List.pairwise_cons]
    refine ⟨ho2.1, ⟨fun Z hZ => ⟨(hm.2.1 Z (by simp [hZ])).1, fun r hr => ?_⟩, ho2.2.1.2.2⟩, fun Z hZ W hW => ?_⟩
    · rcases List.mem_append.mp (show r ∈ X.2.2.2 ++ Y.2.2.2 from hr) with hr | hr
      · exact (hm.2.1 Z (by simp [hZ])).2 r hr
      · exact (ho2.2.1.2.1 Z hZ).2 r hr
    · rcases List.mem_cons.mp hW with rfl | hW
      · exact hm.2.2 Z hZ
      · exact ho2.2.2 Z hZ W (by simp [hW])
end PI
