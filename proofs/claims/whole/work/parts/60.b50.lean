section MST
variable {N L len : Nat} {bb mf se b : Nat → Int32} {T : Nat → Nat} {er ea at' be ki nu w wa : Int32}
/-- a sign that must stand -/
theorem p_must {i c : Nat} (h : TX len bb mf T) (hL : L ≤ len) (hN : 1000 < N) (hc : c < 128) (h1 : ¬ (97 ≤ c ∧ c ≤ 122)) (h2 : ¬ (48 ≤ c ∧ c ≤ 57)) (hp : PS T L i er ea at' be ki nu w wa) :
    ∃ s j er' ea' s' a' be' ki' nu' wa', f_X5_takeSign N (iN len) bb (iN L) (iN i) er ea 900 (iN c) (iN 1) = some (iN s, iN j, er', ea') ∧ f_X8_isSign (iN L) at' ki w mf (iN c) = some (iN s') ∧ f_X8_must N (iN L) at' be ki nu w wa mf (iN s') = some (a', be', ki', nu', er', wa') ∧ PS T L j er' ea' a' be' ki' nu' er' wa' ∧ (er' = 0 → er = 0 ∧ runE (qS T) L i < j ∧ ea' = ea) := by
  have e1 := c_takeSign (er := er) (ea := ea) (o := 1) h hL hN hp.1 hc (by omega)
  have e2 := r_isSign h hL hc h1 h2 hp
  obtain ⟨hi', rfl, hx⟩ := hp
  have hpL := (runE_ge (qS T) L _ i rfl).2 hi'
  have e10 : ((1 : Int32) = 0) = False := eq_false (by decide)
  have e20 : ((-2 : Int32) = 0) = False := eq_false (by decide)
  generalize runE (qS T) L i = p at *
  by_cases hs : p < L ∧ T p = c
  · rw [if_pos hs] at e1
    rcases hx with ⟨rfl, rfl, rfl, rfl, hnu⟩ | ⟨⟨hne, hng⟩, rfl⟩
    · rw [if_pos ⟨rfl, hs⟩] at e2
      obtain ⟨hk1, hk2⟩ := tk_sign (T := T) hs.1 (by rw [hs.2]; exact h1) (by rw [hs.2]; exact h2)
      obtain ⟨a', be', ki', nu', n1, n2⟩ := PS_next (ea := ea) (wa := wa) (n0 := nu) (j := p + 1) h hL hN (by omega)
      refine ⟨1, p + 1, 0, ea, 1, a', be', ki', nu', wa, e1, e2, ?_, n2, fun _ => ⟨rfl, by omega, rfl⟩⟩
      unfold f_X8_must
      rw [hk2]
      simp only [show ((iN 1 : Int32) = 0) = False from eq_false (by decide), if_false, if_true, n1, bnd4]
    · have e0 : (er = 0) = False := eq_false hne
      rw [if_neg (fun q => hne q.1)] at e2
      refine ⟨1, p + 1, er, ea, 0, at', be, ki, nu, ea, e1, e2, ?_, ⟨by omega, rfl, Or.inr ⟨⟨hne, hng⟩, rfl⟩⟩, fun q => absurd q hne⟩
      unfold f_X8_must f_X8_fails
      simp only [show ((iN 0 : Int32) = 0) = True from eq_true rfl, if_true, e0, if_false, bnd2]
  · rw [if_neg hs, if_neg (show ¬ (1 : Nat) = 0 by omega)] at e1
    rw [if_neg (fun q => hs q.2)] at e2
    rcases hx with ⟨rfl, rfl, rfl, rfl, hnu⟩ | ⟨⟨hne, hng⟩, rfl⟩
    · refine ⟨0, p, -2, iN p, 0, iN p, iN (tkE T L p), iN (tkK T L p), nu, iN p, ?_, e2, ?_, ⟨hpL, rfl, Or.inr ⟨by decide, rfl⟩⟩, fun q => absurd q (by decide)⟩
      · rw [e1]; unfold failP; rw [if_pos rfl]; rfl
      · unfold f_X8_must f_X8_fails
        simp only [show ((iN 0 : Int32) = 0) = True from eq_true rfl, if_true, e20, if_false, bnd2]
    · have e0 : (er = 0) = False := eq_false hne
      refine ⟨0, p, er, ea, 0, at', be, ki, nu, ea, ?_, e2, ?_, ⟨hpL, rfl, Or.inr ⟨⟨hne, hng⟩, rfl⟩⟩, fun q => absurd q hne⟩
      · rw [e1]; unfold failP; rw [if_neg hne]; rfl
      · unfold f_X8_must f_X8_fails
        simp only [show ((iN 0 : Int32) = 0) = True from eq_true rfl, if_true, e0, if_false, bnd2]
/-- the token goes by -/
theorem p_go {i : Nat} (h : TX len bb mf T) (hL : L ≤ len) (hN : 1000 < N) (hp : PS T L i 0 ea at' be ki nu 0 wa) :
    ∃ a' be' ki' nu', f_X8_must N (iN L) at' be ki nu 0 wa mf 1 = some (a', be', ki', nu', 0, wa) ∧ PS T L (tkE T L (runE (qS T) L i)) 0 ea a' be' ki' nu' 0 wa := by
  obtain ⟨hi', _, hx⟩ := hp
  have hpL := (runE_ge (qS T) L _ i rfl).2 hi'
  rcases hx with ⟨_, rfl, rfl, rfl, hnu⟩ | ⟨⟨hne, _⟩, _⟩
  · obtain ⟨a', be', ki', nu', n1, n2⟩ := PS_next (ea := ea) (wa := wa) (n0 := nu) (j := tkE T L (runE (qS T) L i)) h hL hN (tkE_le hpL).2
    refine ⟨a', be', ki', nu', ?_, n2⟩
    unfold f_X8_must
    simp only [show ((1 : Int32) = 0) = False from eq_false (by decide), if_false, if_true, n1, bnd4]
  · exact absurd rfl hne
/-- a setting read, the word behind us on the side of the class -/
theorem p_setting {i q : Nat} {W : Nat → Nat} (h : TX len bb mf T) (hL : L ≤ len) (hN : 1000 < N) (hq : q < 4) (hp : PS T L i 0 ea at' be ki nu 0 wa) (hse : ∀ u, u < 4 → se u = iN (W u)) (hb : ∀ u, u < 4 → b (4 + u) = iN (W u)) (hW : WOK W) :
    ∃ j er' ea' se' a' be' ki' nu' wa' b' W', bnd4 (f_X5_takeNumber N (iN len) bb (iN L) (iN (tkE T L (runE (qS T) L i))) 0 ea 900 (iN (setLo q)) (iN (setHi q))) (fun (r28_7 t_at_28_8 t_error_28_9 t_errorAt_28_10 : Int32) => (if t_error_28_9 = 0 then bnd (f_X2_putSetting se (iN q) r28_7) (fun p2_settings_44_12 => some (t_at_28_8, t_error_28_9, t_errorAt_28_10, p2_settings_44_12)) else some (t_at_28_8, t_error_28_9, t_errorAt_28_10, se))) = some (iN j, er', ea', se') ∧
      f_X8_readsSetting N (iN L) at' be ki nu 0 wa mf b (iN q) = some (a', be', ki', nu', er', wa', b') ∧ PS T L j er' ea' a' be' ki' nu' er' wa' ∧ (∀ u, u < 4 → se' u = iN (W' u)) ∧ (∀ u, u < 4 → b' (4 + u) = iN (W' u)) ∧ WOK W' ∧ (∀ u, ¬ (4 ≤ u ∧ u < 8) → b' u = b u) ∧ tkE T L (runE (qS T) L i) ≤ j ∧ (er' = 0 → ea' = ea) := by
  obtain ⟨g1, g2, g3, g4⟩ := c_setRange (w := q) (by omega)
  obtain ⟨a1, be1, ki1, nu1, m1, m2⟩ := p_go h hL hN hp
  have hr : setLo q ≤ 10000 ∧ setHi q ≤ 10000 := by
    rcases (show q = 0 ∨ q = 1 ∨ q = 2 ∨ q = 3 by omega) with rfl | rfl | rfl | rfl <;> decide
  obtain ⟨c, j, er', ea', r, a', be', ki', nu', wa', t1, t2, t3, t4⟩ := p_takes h hL hN hr.1 hr.2 m2
  have hgo := go_number h hL hN m2.1 hr.1 hr.2 t3.1 t1
  by_cases he : er' = 0
  · subst he
    obtain ⟨_, rfl, t5, t6, t7⟩ := t4 rfl
    have o1 : oob ((4 : Int32) + iN q) 876 = False := eq_false (by rw [show (4 : Int32) + iN q = iN (4 + q) from iN_add 4 q, oobN (by omega)]; omega)
    have o2 : ((4 : Int32) + iN q).toNatClampNeg = 4 + q := by rw [show (4 : Int32) + iN q = iN (4 + q) from iN_add 4 q, iN_nat (by omega)]
    refine ⟨j, 0, ea', upd se q (iN c), a', be', ki', nu', wa', upd b (4 + q) (iN c), fun u => if u = q then c else W u, ?_, ?_, t3, fun u hu => ?_, fun u hu => ?_, ?_, fun u hu => upd_ne (by omega), hgo, fun _ => t7⟩
    · rw [t1]
      simp only [bnd4, if_true, c_putSetting hq, bnd_some]
    · unfold f_X8_readsSetting
      rw [m1]
      simp only [bnd6, g3, g4, bnd_some, t2, bnd7, if_true, o1, o2, if_false, some_lt]
    · show _ = iN (if u = q then c else W u)
      by_cases e : u = q
      · subst e; rw [upd_self, if_pos rfl]
      · rw [upd_ne e, if_neg e]; exact hse u hu
    · show _ = iN (if u = q then c else W u)
      by_cases e : u = q
      · subst e; rw [upd_self, if_pos rfl]
      · rw [upd_ne (by omega), if_neg e]; exact hb u hu
    · obtain ⟨w0, w1, w2, w3⟩ := hW
      rcases (show q = 0 ∨ q = 1 ∨ q = 2 ∨ q = 3 by omega) with rfl | rfl | rfl | rfl
      · exact ⟨⟨t5, t6⟩, w1, w2, w3⟩
      · exact ⟨w0, ⟨t5, t6⟩, w2, w3⟩
      · exact ⟨w0, w1, ⟨t5, t6⟩, w3⟩
      · exact ⟨w0, w1, w2, ⟨t5, t6⟩⟩
  · have e0 : (er' = 0) = False := eq_false he
    refine ⟨j, er', ea', se, a', be', ki', nu', wa', b, W, ?_, ?_, t3, hse, hb, hW, fun u _ => rfl, hgo, fun e => absurd e he⟩
    · rw [t1]
      simp only [bnd4, e0, if_false]
    · unfold f_X8_readsSetting
      rw [m1]
      simp only [bnd6, g3, g4, bnd_some, t2, bnd7, e0, if_false]
end MST
