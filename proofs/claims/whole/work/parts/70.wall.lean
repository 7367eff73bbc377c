theorem sd_n {x : Int32} (h : ¬ r_B_within x 0 59 = 0) : ¬ r_M_isSide x = 0 := iM_n h
theorem sd_p {x : Int32} (h : r_B_within x 0 59 = 0) : r_M_isSide x = 0 := iM_p h
theorem tp_n {x : Int32} (h : ¬ r_B_within x 0 3 = 0) : ¬ r_M_isTape x = 0 := iM_n h
theorem tp_p {x : Int32} (h : r_B_within x 0 3 = 0) : r_M_isTape x = 0 := iM_p h
theorem nar_b {x : Int32} (h : b01 x = true) : vp_nar .boolean x = x := by
  unfold b01 at h
  simp only [Bool.or_eq_true, decide_eq_true_eq] at h
  rcases h with e | e <;> subst e <;> rfl
theorem st_wall {nL : Nat} {S : Sto} (h : Iv nL S) (x1 x2 x3 x4 x5 : Int32) (hx : b01 x1 = true) : ∃ (r : Int32) (S1 : Sto) (S2 : Sto), r_B_wall x1 x2 x3 x4 x5 S = some (r, S1) ∧ r_M_wall x1 x2 x3 x4 x5 S1 = some (r, S2) ∧ Iv nL S2 := by
  obtain ⟨h1, ⟨n, b0, b1, b2, b3⟩, h3, h4, h5, h6, h7, h8, h9, h10, h11, h12, h13, h14⟩ := id h
  have n0 : ¬ (1 : Int32) = 0 := by decide
  by_cases c1 : r_B_within x2 0 59 = 0
  · exact ⟨-1, S, sw S 104 0 0, by simp only [r_B_wall, jn, if_pos c1, if_pos], by simp only [r_M_wall, ltS, if_pos (sd_p c1)], h.t0⟩
  by_cases c2 : r_B_within x3 0 59 = 0
  · exact ⟨-1, S, sw S 104 0 0, by simp only [r_B_wall, jn, if_neg c1, if_pos c2, if_pos], by simp only [r_M_wall, ltS, if_neg (sd_n c1), if_pos (sd_p c2)], h.t0⟩
  have w2 := win_n c2
  rw [z_0, show (59 : Int32).toInt = 59 by decide] at w2
  by_cases c3 : r_B_within x4 x3 59 = 0
  · refine ⟨-1, S, sw S 104 0 0, by simp only [r_B_wall, jn, if_neg c1, if_neg c2, if_pos c3, if_pos], ?_, h.t0⟩
    by_cases c4 : r_B_within x4 0 59 = 0
    · simp only [r_M_wall, ltS, if_neg (sd_n c1), if_neg (sd_n c2), if_pos (sd_p c4)]
    · have c5 : x4 < x3 := by
        rw [q_lt]
        have := win_n c4
        have v := win_0.mp c3
        omega
      simp only [r_M_wall, ltS, if_neg (sd_n c1), if_neg (sd_n c2), if_neg (sd_n c4), if_pos c5]
  have w3 := win_n c3
  rw [show (59 : Int32).toInt = 59 by decide] at w3
  have c4 : ¬ r_B_within x4 0 59 = 0 := by
    rw [win_0, z_0, show (59 : Int32).toInt = 59 by decide]
    omega
  have c5 : ¬ x4 < x3 := by rw [q_lt]; omega
  by_cases c6 : r_B_within x5 0 100 = 0
  · exact ⟨-1, S, sw S 104 0 0, by simp only [r_B_wall, jn, if_neg c1, if_neg c2, if_neg c3, if_neg n0, if_pos c6], by simp only [r_M_wall, ltS, if_neg (sd_n c1), if_neg (sd_n c2), if_neg (sd_n c4), if_neg c5, if_pos (iM_p c6)], h.t0⟩
  by_cases c9 : n < 10
  rotate_left
  · have en : n = 10 := by omega
    subst en
    exact ⟨-1, S, sw S 104 0 0, by simp only [r_B_wall, jn, if_neg c1, if_neg c2, if_neg c3, if_neg n0, if_neg c6, b1]; rfl, by simp (disch := omega) only [r_M_wall, ltS, if_neg (sd_n c1), if_neg (sd_n c2), if_neg (sd_n c4), if_neg c5, if_neg (iM_n c6), rd_ne, b2]; rfl, h.t0⟩
  have i1 : inr (nI n) 10 = true := inr_nI c9 (by decide)
  have g1 : nI n < 10 := (lt_lit (m := 10) (by omega) (by omega)).mpr c9
  have g2 : ¬ nI n = 10 := fun q => by have := (eq_lit (m := 10) (by omega) (by omega)).mp q; omega
  have tn : (nI n).toNatClampNeg = n := q_tnI (by omega)
  have hb : btw x1 0 1 := by
    have q := hx
    unfold b01 at q
    simp only [Bool.or_eq_true, decide_eq_true_eq] at q
    rcases q with e | e <;> subst e <;> exact ⟨by decide, by decide⟩
  refine ⟨nI n, sw (sw (sw (sw (sw (sw S (3 + 1 * n) 0 x1) (3 + 1 * n) 1 x2) (3 + 1 * n) 2 x3) (3 + 1 * n) 3 x4) (3 + 1 * n) 4 x5) 1 4 (nI (n + 1)), sw (sw (sw (sw (sw (sw (sw (sw (sw (sw (sw (sw (sw S (3 + 1 * n) 0 x1) (3 + 1 * n) 1 x2) (3 + 1 * n) 2 x3) (3 + 1 * n) 3 x4) (3 + 1 * n) 4 x5) 1 4 (nI (n + 1))) 104 0 0) 105 n x1) 106 n x2) 107 n x3) 108 n x4) 109 n x5) 104 5 (nI (n + 1)), ?_, ?_, ?_⟩
  · simp (disch := omega) only [r_B_wall, r_Wl_build, jn, ltS, ltN, if_neg c1, if_neg c2, if_neg c3, if_neg c6, if_neg n0, b1, if_pos g1, chk_t hx, chk_t i1, rd_ne, tn, nI_1, sw_same, nI_pred, Option.bind_some]
  · simp (disch := omega) only [r_M_wall, ltS, nar_b hx, if_neg (sd_n c1), if_neg (sd_n c2), if_neg (sd_n c4), if_neg c5, if_neg (iM_n c6), rd_ne, b2, if_neg g2, chk_t i1, tn, nI_1, sw_same, nI_pred]
  · have ag : ∀ u : Nat → Nat → Bool, u ((3 + 1 * n)) 0 = false → u ((3 + 1 * n)) 1 = false → u ((3 + 1 * n)) 2 = false → u ((3 + 1 * n)) 3 = false → u ((3 + 1 * n)) 4 = false → u 1 4 = false → u 104 0 = false → u 105 n = false → u 106 n = false → u 107 n = false → u 108 n = false → u 109 n = false → u 104 5 = false → Ag u S (sw (sw (sw (sw (sw (sw (sw (sw (sw (sw (sw (sw (sw S (3 + 1 * n) 0 x1) (3 + 1 * n) 1 x2) (3 + 1 * n) 2 x3) (3 + 1 * n) 3 x4) (3 + 1 * n) 4 x5) 1 4 (nI (n + 1))) 104 0 0) 105 n x1) 106 n x2) 107 n x3) 108 n x4) 109 n x5) 104 5 (nI (n + 1))) := fun u e0 e1 e2 e3 e4 e5 e6 e7 e8 e9 e10 e11 e12 => (((((((((((((Ag.rf.sw e0).sw e1).sw e2).sw e3).sw e4).sw e5).sw e6).sw e7).sw e8).sw e9).sw e10).sw e11).sw e12)
    have uw_Air : ∀ k, uAir (3 + 1 * n) k = false := fun k => by simp [uAir] <;> omega
    have uw_Spo : ∀ k, uSpo (3 + 1 * n) k = false := fun k => by simp [uSpo] <;> omega
    have uw_Sho : ∀ k, uSho (3 + 1 * n) k = false := fun k => by simp [uSho] <;> omega
    have uw_Byt : ∀ k, uByt (3 + 1 * n) k = false := fun k => by simp [uByt] <;> omega
    have uw_Fau : ∀ k, uFau (3 + 1 * n) k = false := fun k => by simp [uFau] <;> omega
    have uw_Hea : ∀ k, uHea (3 + 1 * n) k = false := fun k => by simp [uHea] <;> omega
    have uw_Ear : ∀ k, uEar (3 + 1 * n) k = false := fun k => by simp [uEar] <;> omega
    have uw_Cli : ∀ k, uCli (3 + 1 * n) k = false := fun k => by simp [uCli] <;> omega
    have uw_Voi : ∀ k, uVoi (3 + 1 * n) k = false := fun k => by simp [uVoi] <;> omega
    have uw_Noi : ∀ k, uNoi (3 + 1 * n) k = false := fun k => by simp [uNoi] <;> omega
    have uw_Bal : ∀ k, uBal (3 + 1 * n) k = false := fun k => by simp [uBal] <;> omega
    have uw_Wor : ∀ k, uWor (3 + 1 * n) k = false := fun k => by simp [uWor] <;> omega
    have uw_Law : ∀ k, uLaw (3 + 1 * n) k = false := fun k => by simp [uLaw] <;> omega
    refine ⟨h1.keep (ag _ (uw_Air _) (uw_Air _) (uw_Air _) (uw_Air _) (uw_Air _) rfl rfl rfl rfl rfl rfl rfl rfl), ⟨n + 1, by omega, ?_, ?_, fun i hi => ?_⟩, h3.keep (ag _ (uw_Spo _) (uw_Spo _) (uw_Spo _) (uw_Spo _) (uw_Spo _) rfl rfl rfl rfl rfl rfl rfl rfl), h4.keep (ag _ (uw_Sho _) (uw_Sho _) (uw_Sho _) (uw_Sho _) (uw_Sho _) rfl rfl rfl rfl rfl rfl rfl rfl), h5.keep (ag _ (uw_Byt _) (uw_Byt _) (uw_Byt _) (uw_Byt _) (uw_Byt _) rfl rfl rfl rfl rfl rfl rfl rfl), h6.keep (ag _ (uw_Fau _) (uw_Fau _) (uw_Fau _) (uw_Fau _) (uw_Fau _) rfl rfl rfl rfl rfl rfl rfl rfl), h7.keep (ag _ (uw_Hea _) (uw_Hea _) (uw_Hea _) (uw_Hea _) (uw_Hea _) rfl rfl rfl rfl rfl rfl rfl rfl), h8.keep (ag _ (uw_Ear _) (uw_Ear _) (uw_Ear _) (uw_Ear _) (uw_Ear _) rfl rfl rfl rfl rfl rfl rfl rfl), h9.keep (ag _ (uw_Cli _) (uw_Cli _) (uw_Cli _) (uw_Cli _) (uw_Cli _) rfl rfl rfl rfl rfl rfl rfl rfl), h10.keep (ag _ (uw_Voi _) (uw_Voi _) (uw_Voi _) (uw_Voi _) (uw_Voi _) rfl rfl rfl rfl rfl rfl rfl rfl), h11.keep (ag _ (uw_Noi _) (uw_Noi _) (uw_Noi _) (uw_Noi _) (uw_Noi _) rfl rfl rfl rfl rfl rfl rfl rfl), h12.keep (ag _ (uw_Bal _) (uw_Bal _) (uw_Bal _) (uw_Bal _) (uw_Bal _) rfl rfl rfl rfl rfl rfl rfl rfl), h13.keep (ag _ (uw_Wor _) (uw_Wor _) (uw_Wor _) (uw_Wor _) (uw_Wor _) rfl rfl rfl rfl rfl rfl rfl rfl), h14.keep (ag _ (uw_Law _) (uw_Law _) (uw_Law _) (uw_Law _) (uw_Law _) rfl rfl rfl rfl rfl rfl rfl rfl)⟩
    · simp (disch := omega) only [rd_ne, sw_same]
    · simp (disch := omega) only [rd_ne, sw_same]
    · by_cases e : i = n
      · subst e
        have ee : 3 + i = 3 + 1 * i := by omega
        rw [ee]
        simp (disch := omega) only [rd_ne, sw_same]
        exact ⟨trivial, trivial, trivial, trivial, trivial, hb, win_b c1 (by decide) (by decide), w2, win_b c4 (by decide) (by decide), win_b c6 (by decide) (by decide)⟩
      · simp (disch := omega) only [rd_ne]
        exact b3 i (by omega)
