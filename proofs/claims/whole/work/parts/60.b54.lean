section SMT
variable {N L len n : Nat} {bb mf ky ss vs en st bo he so se b : Nat → Int32} {T K W : Nat → Nat} {sz ea at' be ki nu wa : Int32} {V : Nat → Int32}
/-- which setting the word names, in the class -/
theorem c_settingAt {p e r1 r2 r3 r4 : Nat} (h1 : f_X5_isWord N (iN len) bb (iN e) 900 (iN p) 1 = some (iN r1)) (h2 : f_X5_isWord N (iN len) bb (iN e) 900 (iN p) 2 = some (iN r2)) (h3 : f_X5_isWord N (iN len) bb (iN e) 900 (iN p) 3 = some (iN r3)) (h4 : f_X5_isWord N (iN len) bb (iN e) 900 (iN p) 4 = some (iN r4)) (b1 : r1 = 0 ∨ r1 = 1) (b2 : r2 = 0 ∨ r2 = 1) (b3 : r3 = 0 ∨ r3 = 1) (b4 : r4 = 0 ∨ r4 = 1) :
    f_X5_settingAt N (iN len) bb (iN e) 900 (iN p) = some (if r1 = 1 then iN 0 else if r2 = 1 then iN 1 else if r3 = 1 then iN 2 else if r4 = 1 then iN 3 else -1) := by
  unfold f_X5_settingAt
  have z0 : (iN 0 = (0 : Int32)) = True := eq_true rfl
  have z1 : (iN 1 = (0 : Int32)) = False := eq_false (by decide)
  rw [h1, h2, h3, h4]
  rcases b1 with rfl | rfl
  · rcases b2 with rfl | rfl
    · rcases b3 with rfl | rfl
      · rcases b4 with rfl | rfl
        · simp only [bnd_some, z0, if_true]; rfl
        · simp only [bnd_some, z0, z1, if_true, if_false]; rfl
      · simp only [bnd_some, z0, z1, if_true, if_false]; rfl
    · simp only [bnd_some, z0, z1, if_true, if_false]; rfl
  · simp only [bnd_some, z1, if_false]; rfl
end SMT
