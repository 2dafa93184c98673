section RDS
variable {N L len n : Nat} {bb mf ky ss vs en st bo he so b : Nat → Int32} {T K : Nat → Nat} {sz ea at' be ki nu wa : Int32} {V : Nat → Int32}
/-- a row read, the word behind us on the side of the class -/
theorem p_row {i : Nat} (h : TX len bb mf T) (hL : L ≤ len) (hN : 1000 < N) (hp : PS T L i 0 ea at' be ki nu 0 wa) (hT : TR n K V sz en bo he so st ky ss vs b) :
    ∃ j er' ea' n' K' V' sz' en' st' ky' ss' vs' a' be' ki' nu' wa' b', f_X5_readRow N (iN len) bb (iN L) (iN (tkE T L (runE (qS T) L i))) 0 ea sz 1 bo en so st (iN n) ky ss vs 900 (iN (runE (qS T) L i)) = some (iN j, er', ea', sz', en', st', iN n', ky', ss', vs') ∧
      f_X8_readsRow N (iN L) at' be ki nu 0 wa mf b = some (a', be', ki', nu', er', wa', b') ∧ PS T L j er' ea' a' be' ki' nu' er' wa' ∧ TR n' K' V' sz' en' bo he so st' ky' ss' vs' b' ∧ (∀ u, 1 ≤ u → (u < 20 ∨ 260 ≤ u) → b' u = b u) ∧ tkE T L (runE (qS T) L i) ≤ j ∧ (er' = 0 → ea' = ea) := by
  have hn := hT.1
  have hb0 : b 0 = iN n := hT.2.2.2.2.2.1
  by_cases hf : n < 120
  · have e120 : iN n < (120 : Int32) := by show _ < iN 120; rw [iN_lt (by omega) (by omega)]; exact hf
    have n120 : ¬ (iN n = (120 : Int32)) := by show ¬ _ = iN 120; rw [iN_eq (by omega) (by omega)]; omega
    obtain ⟨a1, be1, ki1, nu1, m1, m2⟩ := p_go h hL hN hp
    obtain ⟨c1, j1, er1, ea1, r1, a2, be2, ki2, nu2, wa1, t1, t2, t3, t4⟩ := p_takes (lo := 0) (hi := 9999) h hL hN (by omega) (by omega) m2
    obtain ⟨s, j2, hs1, y1, s', y2, y3, y4, y5⟩ := p_may (c := 45) h hL hN (by omega) (by omega) (by omega) t3
    obtain ⟨a3, be3, ki3, nu3, hm, ps3⟩ : ∃ a3 be3 ki3 nu3, (∀ R : Int32 → Int32 → Int32 → Int32 → Option (Int32 × Int32 × Int32 × Int32 × Int32 × Int32 × (Nat → Int32)), jn (fun (k48_26 : Int32 → Int32 → Int32 → Int32 → Option (Int32 × Int32 × Int32 × Int32 × Int32 × Int32 × (Nat → Int32))) => (if iN s' = 0 then k48_26 a2 be2 ki2 nu2 else bnd4 (f_X8_next N (iN L) be2 nu2 mf) (fun x1 x2 x3 x4 => k48_26 x1 x2 x3 x4))) R = R a3 be3 ki3 nu3) ∧ PS T L j2 er1 ea1 a3 be3 ki3 nu3 er1 wa1 := by
      rcases y5 with ⟨rfl, y6⟩ | ⟨rfl, a3, be3, ki3, nu3, y6, y7⟩
      · exact ⟨a2, be2, ki2, nu2, fun R => by rw [some_jn, if_pos (show iN 0 = (0 : Int32) from rfl)], y6⟩
      · exact ⟨a3, be3, ki3, nu3, fun R => by rw [some_jn, if_neg (show ¬ iN 1 = (0 : Int32) by decide), y6]; rfl, y7⟩
    obtain ⟨c2, j3, er3, ea3, r3, a4, be4, ki4, nu4, wa4, z1, z2, z3, z4⟩ := p_takes (lo := 0) (hi := 99) h hL hN (by omega) (by omega) ps3
    have t1' : f_X5_takeNumber N (iN len) bb (iN L) (iN (tkE T L (runE (qS T) L i))) 0 ea 900 0 9999 = some (iN c1, iN j1, er1, ea1) := t1
    have t2' : f_X8_takes N (iN L) a1 be1 ki1 nu1 0 wa mf 0 9999 = some (r1, a2, be2, ki2, nu2, er1, wa1) := t2
    have y1' : f_X5_takeSign N (iN len) bb (iN L) (iN j1) er1 ea1 900 45 0 = some (iN s, iN j2, er1, ea1) := y1
    have y2' : f_X8_isSign (iN L) a2 ki2 er1 mf 45 = some (iN s') := y2
    have z1' : f_X5_takeNumber N (iN len) bb (iN L) (iN j2) er1 ea1 900 0 99 = some (iN c2, iN j3, er3, ea3) := z1
    have z2' : f_X8_takes N (iN L) a3 be3 ki3 nu3 er1 wa1 mf 0 99 = some (r3, a4, be4, ki4, nu4, er3, wa4) := z2
    have hgo : tkE T L (runE (qS T) L i) ≤ j3 := by
      have k1 := go_number h hL hN m2.1 (by omega) (by omega) t3.1 t1
      have k2 := go_sign h hL hN t3.1 (by omega) (by omega) ps3.1 y1
      have k3 := go_number h hL hN ps3.1 (by omega) (by omega) z3.1 z1
      omega
    by_cases he : er3 = 0
    · subst he
      obtain ⟨w1, rfl, _, w4, w6⟩ := z4 rfl
      subst w1
      obtain ⟨_, rfl, _, w5, w7⟩ := t4 rfl
      have hss := y3 rfl
      subst hss
      obtain ⟨sz', en', st', q1, q2, q3⟩ := TR_add (key := c1) (v := if iN s' = (0 : Int32) then iN c2 else -iN c2) hT hf (by omega) hN
      refine ⟨j3, 0, ea3, n + 1, _, _, sz', en', st', _, _, _, a4, be4, ki4, nu4, wa4, _, ?_, ?_, z3, q3, fun u hu1 hu2 => ?_, hgo, fun _ => w6.trans w7⟩
      · unfold f_X5_readRow
        rw [if_pos e120, t1']
        simp only [bnd4, y1', z1', if_true]
        by_cases hs0 : iN s' = (0 : Int32)
        · rw [if_pos hs0] at q1
          simp only [hs0, if_true] at q1 ⊢
          rw [q1]
          simp only [bnd5, q2, bnd3]
        · have hs0' : (iN s' = (0 : Int32)) = False := eq_false hs0
          simp only [hs0', if_false] at q1 ⊢
          rw [q1]
          simp only [bnd5, q2, bnd3]
      · have o1 : oob ((20 : Int32) + iN n) 876 = False := eq_false (by rw [show (20 : Int32) + iN n = iN (20 + n) from iN_add 20 n, oobN (by omega)]; omega)
        have o2 : ((20 : Int32) + iN n).toNatClampNeg = 20 + n := by rw [show (20 : Int32) + iN n = iN (20 + n) from iN_add 20 n, iN_nat (by omega)]
        have o3 : oob ((140 : Int32) + iN n) 876 = False := eq_false (by rw [show (140 : Int32) + iN n = iN (140 + n) from iN_add 140 n, oobN (by omega)]; omega)
        have o4 : ((140 : Int32) + iN n).toNatClampNeg = 140 + n := by rw [show (140 : Int32) + iN n = iN (140 + n) from iN_add 140 n, iN_nat (by omega)]
        have n120' : (iN n = (120 : Int32)) = False := eq_false n120
        unfold f_X8_readsRow
        rw [hb0]
        simp only [some_lt, some_jn, n120', if_false, m1, bnd6, t2', bnd7, y2', bnd_some]
        refine (hm _).trans ?_
        simp only [z2', bnd7, if_true, o1, o2, o3, o4, if_false, some_lt]
        have hx : ∀ v : Int32, upd (upd b (20 + n) (iN c1)) (140 + n) v 0 + 1 = iN (n + 1) := fun v => by
          rw [upd_ne (by omega), upd_ne (by omega), hb0]; exact iN_add n 1
        by_cases hs0 : iN s' = (0 : Int32)
        · simp only [hs0, if_true, hx]
        · have hs0' : (iN s' = (0 : Int32)) = False := eq_false hs0
          simp only [hs0', if_false, hx]
      · rw [upd_ne (by omega), upd_ne (by omega), upd_ne (by omega)]
    · have e0 : (er3 = 0) = False := eq_false he
      refine ⟨j3, er3, ea3, n, K, V, sz, en, st, ky, ss, vs, a4, be4, ki4, nu4, wa4, b, ?_, ?_, z3, hT, fun u _ _ => rfl, hgo, fun e => absurd e he⟩
      · unfold f_X5_readRow
        rw [if_pos e120, t1']
        simp only [bnd4, y1', z1', e0, if_false]
      · have n120' : (iN n = (120 : Int32)) = False := eq_false n120
        unfold f_X8_readsRow
        rw [hb0]
        simp only [some_lt, some_jn, n120', if_false, m1, bnd6, t2', bnd7, y2', bnd_some]
        refine (hm _).trans ?_
        simp only [z2', bnd7, e0, if_false]
  · have e : n = 120 := by omega
    subst e
    obtain ⟨hi', _, hx⟩ := hp
    have hpL := (runE_ge (qS T) L _ i rfl).2 hi'
    rcases hx with ⟨_, rfl, rfl, rfl, hnu⟩ | ⟨⟨hne, _⟩, _⟩
    · have e4 : ((-4 : Int32) = 0) = False := eq_false (by decide)
      have e10 : ((1 : Int32) = 0) = False := eq_false (by decide)
      have x1 : (iN 120 < (120 : Int32)) = False := eq_false (by decide)
      have x2 : (iN 120 = (120 : Int32)) = True := eq_true rfl
      refine ⟨tkE T L (runE (qS T) L i), -4, iN (runE (qS T) L i), 120, K, V, sz, en, st, ky, ss, vs, iN (runE (qS T) L i), iN (tkE T L (runE (qS T) L i)), iN (tkK T L (runE (qS T) L i)), nu, iN (runE (qS T) L i), b, ?_, ?_, ⟨(tkE_le hpL).2, rfl, Or.inr ⟨by decide, rfl⟩⟩, hT, fun u _ _ => rfl, Nat.le_refl _, fun e => absurd e (by decide)⟩
      · unfold f_X5_readRow f_X5_fail
        simp only [x1, if_false, if_true, bnd2]
      · unfold f_X8_readsRow f_X8_must f_X8_takes f_X8_isSign f_X8_fails
        rw [hb0]
        simp only [some_lt, some_jn, x2, if_true, bnd2, e10, e4, if_false, bnd6, bnd7, bnd_some]
    · exact absurd rfl hne
end RDS
