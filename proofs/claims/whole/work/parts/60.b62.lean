section MEA
variable {H N : Nat} {pd tc gv sz pc kc rc : Int32} {nu bo en he so st kn pr se ky ss vs a tl : Nat → Int32}
theorem m_mean (h : CRx H pd tc gv nu sz pc bo en he so st kc kn pr se rc ky ss vs a) (hN : 1000 < N) (x y : Int32) :
    (∃ r tl', f_X7_mean N rc ky ss vs tl x y = some (Sum.inr (r, tl')) ∧ f_X8_mean N a x y = some (r, 0) ∧ r &&& 0x7fffffff ≤ 0x7f800000) ∨ (∃ r, f_X7_mean N rc ky ss vs tl x y = some (Sum.inl "java/lang/IllegalArgumentException") ∧ f_X8_mean N a x y = some (r, 1)) ∨ (∃ r, f_X7_mean N rc ky ss vs tl x y = some (Sum.inl "java/util/NoSuchElementException") ∧ f_X8_mean N a x y = some (r, 2)) := by
  obtain ⟨n, K, S, V, P, pe, W, k, ⟨s1, s2, s3, s4, s5, s6, s7⟩, ⟨c1, c2, c3, c4, c5, c6, c7, c8, c9⟩, ⟨r1, r2, r3, r4, r5, r6, r7, r8⟩, ⟨b1, b2, b3, b4, b5, b6⟩⟩ := h
  have hn := s1.1.nn
  have e10 : ((1 : Int32) = 0) = False := eq_false (by decide)
  have e01 : ((1 : Int32) ≤ 0) = False := eq_false (by decide)
  have e02 : ((2 : Int32) ≤ 0) = False := eq_false (by decide)
  have e00 : ((0 : Int32) ≤ 0) = True := eq_true (by decide)
  unfold f_X7_mean f_X8_mean
  rcases span_cases x y with ⟨lo, hi, h1, h2, rfl, rfl, h3, h4⟩ | ⟨h3, h4⟩
  · obtain ⟨f', u1, u2⟩ := c_tallyLiving (f := tl) c7 c8 c9 hn hN (show lo ≤ 10000 by omega) h2
    have u3 : f_X8_scans N a (iN lo) (iN hi) 0 = some (iN (scnS n K S V lo hi).1) := r_scans (w := 0) r2 r4 r5 r6 hn hN (show lo ≤ 10000 by omega) h2 (by omega) (by omega)
    have u4 : f_X8_scans N a (iN lo) (iN hi) 1 = some (scnS n K S V lo hi).2.1 := r_scans (w := 1) r2 r4 r5 r6 hn hN (show lo ≤ 10000 by omega) h2 (by omega) (by omega)
    have hI := scn_I (S := S) (V := V) (lo := lo) (hi := hi) (fun r hr => (c7 r hr).2)
    have hf := (hI n (Nat.le_refl _)).2.2.2
    replace hf : (scnS n K S V lo hi).1 ≤ n := hf
    obtain ⟨t1, t2, t3, t4⟩ := u2
    replace t1 : f' 0 = iN (scnS n K S V lo hi).1 := t1
    replace t2 : f' 1 = (scnS n K S V lo hi).2.1 := t2
    have v0 : f_X0_numberAt f' 0 = some (iN (scnS n K S V lo hi).1) := by rw [← t1]; rfl
    have v1 : f_X0_numberAt f' 1 = some (scnS n K S V lo hi).2.1 := by rw [← t2]; rfl
    generalize (scnS n K S V lo hi).1 = F at *
    generalize (scnS n K S V lo hi).2.1 = G at *
    by_cases hF : F = 0
    · right; right
      have eF : (iN F = (0 : Int32)) = True := eq_true (by rw [hF]; rfl)
      refine ⟨FP.fconst0, ?_, ?_⟩
      · rw [h3, c6]
        simp only [bndx, u1, bnd_some, v0, eF, if_true]
      · rw [h4]
        simp only [bnd_some, e10, if_false, u3, eF, if_true, some_jn, e02]
    · left
      have eF : (iN F = (0 : Int32)) = False := eq_false (by show ¬ _ = iN 0; rw [iN_eq (by omega) (by omega)]; exact hF)
      have hd := ff_div (m := F) G hF (by omega)
      refine ⟨FP.fdiv (FP.i2f G) (FP.i2f (iN F)), f', ?_, ?_, hd⟩
      · rw [h3, c6]
        simp only [bndx, u1, bnd_some, v0, v1, eF, if_false]
        rw [if_pos hd]
        rfl
      · rw [h4]
        simp only [bnd_some, e10, if_false, u3, u4, eF, some_jn, e00, if_true]
        rw [if_pos hd]
  · right; left
    refine ⟨FP.fconst0, ?_, ?_⟩
    · rw [h3]; rfl
    · rw [h4]
      simp only [bnd_some, if_true, some_jn, e01, if_false]
end MEA
