theorem st_set {nL : Nat} {S : Sto} (h : Iv nL S) (x1 x2 : Int32) : ∃ (r : Int32) (S1 : Sto) (S2 : Sto), r_B_set x1 x2 S = some (r, S1) ∧ r_M_set x1 x2 S1 = some (r, S2) ∧ Iv nL S2 := by
  obtain ⟨⟨a1, a2, a3, a4, a5, a6, a7, a8⟩, h2, h3, h4, h5, h6, h7, h8, h9, h10, h11, h12, h13, h14⟩ := id h
  have n01 : ¬ (0 : Int32) = 1 := by decide
  by_cases k0 : x1 = 0
  · subst k0
    by_cases c : r_B_within x2 1 9 = 0
    · exact ⟨0, S, sw S 104 0 0, by simp [r_B_set, jn, c], by simp [r_M_set, jn, ltS, iM_p c], h.t0⟩
    · refine ⟨1, sw S 1 0 x2, sw (sw (sw S 1 0 x2) 104 0 0) 104 1 x2, by simp [r_B_set, jn, ltS, c], ?_, ?_⟩
      · simp [r_M_set, jn, ltS, iM_n c, iM_n (show ¬ r_B_within 0 0 3 = 0 by decide)]
      · have ag : ∀ u : Nat → Nat → Bool, u 1 0 = false → u 104 0 = false → u 104 1 = false → Ag u S (sw (sw (sw S 1 0 x2) 104 0 0) 104 1 x2) := fun u e0 e1 e2 => (((Ag.rf.sw e0).sw e1).sw e2)
        refine ⟨⟨?_, ?_, ?_, ?_, ?_, ?_, ?_, ?_⟩, h2.keep (ag _ rfl rfl rfl), h3.keep (ag _ rfl rfl rfl), h4.keep (ag _ rfl rfl rfl), h5.keep (ag _ rfl rfl rfl), h6.keep (ag _ rfl rfl rfl), h7.keep (ag _ rfl rfl rfl), h8.keep (ag _ rfl rfl rfl), h9.keep (ag _ rfl rfl rfl), h10.keep (ag _ rfl rfl rfl), h11.keep (ag _ rfl rfl rfl), h12.keep (ag _ rfl rfl rfl), h13.keep (ag _ rfl rfl rfl), h14.keep (ag _ rfl rfl rfl)⟩
        all_goals (simp (disch := omega) only [rd_ne, sw_same])
        all_goals first | assumption | exact win_b c (by decide) (by decide)
  by_cases k1 : x1 = 1
  · subst k1
    by_cases c : r_B_within x2 (-9) 9 = 0
    · exact ⟨0, S, sw S 104 0 0, by simp [r_B_set, jn, c], by simp [r_M_set, jn, ltS, iM_p c], h.t0⟩
    · refine ⟨1, sw S 1 1 x2, sw (sw (sw S 1 1 x2) 104 0 0) 104 2 x2, by simp [r_B_set, jn, ltS, c], ?_, ?_⟩
      · simp [r_M_set, jn, ltS, iM_n c, iM_n (show ¬ r_B_within 1 0 3 = 0 by decide)]
      · have ag : ∀ u : Nat → Nat → Bool, u 1 1 = false → u 104 0 = false → u 104 2 = false → Ag u S (sw (sw (sw S 1 1 x2) 104 0 0) 104 2 x2) := fun u e0 e1 e2 => (((Ag.rf.sw e0).sw e1).sw e2)
        refine ⟨⟨?_, ?_, ?_, ?_, ?_, ?_, ?_, ?_⟩, h2.keep (ag _ rfl rfl rfl), h3.keep (ag _ rfl rfl rfl), h4.keep (ag _ rfl rfl rfl), h5.keep (ag _ rfl rfl rfl), h6.keep (ag _ rfl rfl rfl), h7.keep (ag _ rfl rfl rfl), h8.keep (ag _ rfl rfl rfl), h9.keep (ag _ rfl rfl rfl), h10.keep (ag _ rfl rfl rfl), h11.keep (ag _ rfl rfl rfl), h12.keep (ag _ rfl rfl rfl), h13.keep (ag _ rfl rfl rfl), h14.keep (ag _ rfl rfl rfl)⟩
        all_goals (simp (disch := omega) only [rd_ne, sw_same])
        all_goals first | assumption | exact win_b c (by decide) (by decide)
  by_cases k2 : x1 = 2
  · subst k2
    by_cases c : r_B_within x2 (-9) 9 = 0
    · exact ⟨0, S, sw S 104 0 0, by simp [r_B_set, jn, c], by simp [r_M_set, jn, ltS, iM_p c], h.t0⟩
    · refine ⟨1, sw S 1 2 x2, sw (sw (sw S 1 2 x2) 104 0 0) 104 3 x2, by simp [r_B_set, jn, ltS, c], ?_, ?_⟩
      · simp [r_M_set, jn, ltS, iM_n c, iM_n (show ¬ r_B_within 2 0 3 = 0 by decide)]
      · have ag : ∀ u : Nat → Nat → Bool, u 1 2 = false → u 104 0 = false → u 104 3 = false → Ag u S (sw (sw (sw S 1 2 x2) 104 0 0) 104 3 x2) := fun u e0 e1 e2 => (((Ag.rf.sw e0).sw e1).sw e2)
        refine ⟨⟨?_, ?_, ?_, ?_, ?_, ?_, ?_, ?_⟩, h2.keep (ag _ rfl rfl rfl), h3.keep (ag _ rfl rfl rfl), h4.keep (ag _ rfl rfl rfl), h5.keep (ag _ rfl rfl rfl), h6.keep (ag _ rfl rfl rfl), h7.keep (ag _ rfl rfl rfl), h8.keep (ag _ rfl rfl rfl), h9.keep (ag _ rfl rfl rfl), h10.keep (ag _ rfl rfl rfl), h11.keep (ag _ rfl rfl rfl), h12.keep (ag _ rfl rfl rfl), h13.keep (ag _ rfl rfl rfl), h14.keep (ag _ rfl rfl rfl)⟩
        all_goals (simp (disch := omega) only [rd_ne, sw_same])
        all_goals first | assumption | exact win_b c (by decide) (by decide)
  by_cases k3 : x1 = 3
  · subst k3
    by_cases c : r_B_within x2 0 99 = 0
    · exact ⟨0, S, sw S 104 0 0, by simp [r_B_set, jn, c], by simp [r_M_set, jn, ltS, iM_p c], h.t0⟩
    · refine ⟨1, sw S 0 11 x2, sw (sw (sw S 0 11 x2) 104 0 0) 104 4 x2, by simp [r_B_set, jn, ltS, c], ?_, ?_⟩
      · simp [r_M_set, jn, ltS, iM_n c, iM_n (show ¬ r_B_within 3 0 3 = 0 by decide)]
      · have ag : ∀ u : Nat → Nat → Bool, u 0 11 = false → u 104 0 = false → u 104 4 = false → Ag u S (sw (sw (sw S 0 11 x2) 104 0 0) 104 4 x2) := fun u e0 e1 e2 => (((Ag.rf.sw e0).sw e1).sw e2)
        refine ⟨⟨?_, ?_, ?_, ?_, ?_, ?_, ?_, ?_⟩, h2.keep (ag _ rfl rfl rfl), h3.keep (ag _ rfl rfl rfl), h4.keep (ag _ rfl rfl rfl), h5.keep (ag _ rfl rfl rfl), h6.keep (ag _ rfl rfl rfl), h7.keep (ag _ rfl rfl rfl), h8.keep (ag _ rfl rfl rfl), h9.keep (ag _ rfl rfl rfl), h10.keep (ag _ rfl rfl rfl), h11.keep (ag _ rfl rfl rfl), h12.keep (ag _ rfl rfl rfl), h13.keep (ag _ rfl rfl rfl), h14.keep (ag _ rfl rfl rfl)⟩
        all_goals (simp (disch := omega) only [rd_ne, sw_same])
        all_goals first | assumption | exact win_b c (by decide) (by decide)
  refine ⟨0, S, sw S 104 0 0, by simp [r_B_set, jn, k0, k1, k2, k3], ?_, h.t0⟩
  have c : r_M_isIn x1 0 3 = 0 := by
    rw [iM_0, z_0, show (3 : Int32).toInt = 3 by decide]
    rw [q_eq] at k0 k1 k2 k3
    rw [z_0] at k0
    rw [show (1 : Int32).toInt = 1 by decide] at k1
    rw [show (2 : Int32).toInt = 2 by decide] at k2
    rw [show (3 : Int32).toInt = 3 by decide] at k3
    omega
  simp [r_M_set, jn, ltS, k0, k3, c]
theorem st_spot {nL : Nat} {S : Sto} (h : Iv nL S) (x1 x2 : Int32) : ∃ (r : Int32) (S1 : Sto) (S2 : Sto), r_B_spot x1 x2 S = some (r, S1) ∧ r_M_spot x1 x2 S1 = some (r, S2) ∧ Iv nL S2 := by
  obtain ⟨h1, h2, h3, h4, h5, h6, h7, h8, h9, h10, h11, h12, h13, h14⟩ := id h
  by_cases c1 : r_B_within x1 0 9 = 0
  · exact ⟨0, S, sw S 104 0 0, by simp only [r_B_spot, if_pos c1], by simp only [r_M_spot, ltS, if_pos (iM_p c1)], h.t0⟩
  by_cases c2 : r_B_isCell x2 = 0
  · exact ⟨0, S, sw S 104 0 0, by simp only [r_B_spot, if_neg c1, if_pos c2], by simp only [r_M_spot, ltS, if_neg (iM_n c1), if_pos (cMp c2)], h.t0⟩
  have w := win_n c1
  rw [z_0, show (9 : Int32).toInt = 9 by decide] at w
  obtain ⟨n, e, en⟩ := q_nI w.1
  subst e
  have hn : n < 10 := by omega
  have i1 : inr (nI n) 10 = true := inr_nI hn (by decide)
  have tn : (nI n).toNatClampNeg = n := q_tnI (by omega)
  refine ⟨1, sw S 17 n x2, sw (sw (sw S 17 n x2) 104 0 0) 110 n x2, ?_, ?_, ?_⟩
  · simp only [r_B_spot, ltS, if_neg c1, if_neg c2, chk_t i1, tn]
  · simp only [r_M_spot, ltS, if_neg (iM_n c1), if_neg (cMn c2), chk_t i1, tn]
  · have ag : ∀ u : Nat → Nat → Bool, u 17 n = false → u 104 0 = false → u 110 n = false → Ag u S (sw (sw (sw S 17 n x2) 104 0 0) 110 n x2) := fun u e0 e1 e2 => (((Ag.rf.sw e0).sw e1).sw e2)
    refine ⟨h1.keep (ag _ rfl rfl rfl), h2.keep (ag _ rfl rfl rfl), fun i hi => ?_, h4.keep (ag _ rfl rfl rfl), h5.keep (ag _ rfl rfl rfl), h6.keep (ag _ rfl rfl rfl), h7.keep (ag _ rfl rfl rfl), h8.keep (ag _ rfl rfl rfl), h9.keep (ag _ rfl rfl rfl), h10.keep (ag _ rfl rfl rfl), h11.keep (ag _ rfl rfl rfl), h12.keep (ag _ rfl rfl rfl), h13.keep (ag _ rfl rfl rfl), h14.keep (ag _ rfl rfl rfl)⟩
    by_cases e : i = n
    · subst e
      simp (disch := omega) only [rd_ne, sw_same]
      exact ⟨trivial, Or.inr (cell_n c2)⟩
    · simp (disch := omega) only [rd_ne]
      exact h3 i hi
theorem st_ball {nL : Nat} {S : Sto} (h : Iv nL S) (x1 x2 : Int32) : ∃ (r : Int32) (S1 : Sto) (S2 : Sto), r_B_ball x1 x2 S = some (r, S1) ∧ r_M_ball x1 x2 S1 = some (r, S2) ∧ Iv nL S2 := by
  obtain ⟨h1, h2, h3, h4, h5, h6, h7, h8, h9, h10, h11, ⟨g1, g2⟩, h13, h14⟩ := id h
  by_cases k : x1 = -1
  · subst k
    refine ⟨1, sw (sw S 0 14 (-1)) 0 15 x2, sw (sw (sw (sw S 0 14 (-1)) 0 15 x2) 104 0 0) 104 70 (-1), by simp [r_B_ball, r_B_isBall, ltS], by simp [r_M_ball, jn, ltS], ?_⟩
    have ag : ∀ u : Nat → Nat → Bool, u 0 14 = false → u 0 15 = false → u 104 0 = false → u 104 70 = false → Ag u S (sw (sw (sw (sw S 0 14 (-1)) 0 15 x2) 104 0 0) 104 70 (-1)) := fun u e0 e1 e2 e3 => ((((Ag.rf.sw e0).sw e1).sw e2).sw e3)
    refine ⟨h1.keep (ag _ rfl rfl rfl rfl), h2.keep (ag _ rfl rfl rfl rfl), h3.keep (ag _ rfl rfl rfl rfl), h4.keep (ag _ rfl rfl rfl rfl), h5.keep (ag _ rfl rfl rfl rfl), h6.keep (ag _ rfl rfl rfl rfl), h7.keep (ag _ rfl rfl rfl rfl), h8.keep (ag _ rfl rfl rfl rfl), h9.keep (ag _ rfl rfl rfl rfl), h10.keep (ag _ rfl rfl rfl rfl), h11.keep (ag _ rfl rfl rfl rfl), ⟨?_, Or.inl ?_⟩, h13.keep (ag _ rfl rfl rfl rfl), h14.keep (ag _ rfl rfl rfl rfl)⟩
    all_goals (simp (disch := omega) only [rd_ne, sw_same])
  by_cases c1 : r_B_isCell x1 = 0
  · exact ⟨0, S, sw S 104 0 0, by simp [r_B_ball, r_B_isBall, k, c1], by simp [r_M_ball, jn, ltS, k, cMp c1], h.t0⟩
  by_cases c2 : r_B_within x2 1 99 = 0
  · exact ⟨0, S, sw S 104 0 0, by simp [r_B_ball, r_B_isBall, k, c1, c2], by simp [r_M_ball, jn, ltS, k, cMn c1, iM_p c2], h.t0⟩
  refine ⟨1, sw (sw S 0 14 x1) 0 15 x2, sw (sw (sw (sw (sw S 0 14 x1) 0 15 x2) 104 0 0) 104 70 x1) 104 71 x2, by simp [r_B_ball, r_B_isBall, k, c1, c2, ltS], by simp [r_M_ball, jn, ltS, k, cMn c1, iM_n c2], ?_⟩
  have ag : ∀ u : Nat → Nat → Bool, u 0 14 = false → u 0 15 = false → u 104 0 = false → u 104 70 = false → u 104 71 = false → Ag u S (sw (sw (sw (sw (sw S 0 14 x1) 0 15 x2) 104 0 0) 104 70 x1) 104 71 x2) := fun u e0 e1 e2 e3 e4 => (((((Ag.rf.sw e0).sw e1).sw e2).sw e3).sw e4)
  refine ⟨h1.keep (ag _ rfl rfl rfl rfl rfl), h2.keep (ag _ rfl rfl rfl rfl rfl), h3.keep (ag _ rfl rfl rfl rfl rfl), h4.keep (ag _ rfl rfl rfl rfl rfl), h5.keep (ag _ rfl rfl rfl rfl rfl), h6.keep (ag _ rfl rfl rfl rfl rfl), h7.keep (ag _ rfl rfl rfl rfl rfl), h8.keep (ag _ rfl rfl rfl rfl rfl), h9.keep (ag _ rfl rfl rfl rfl rfl), h10.keep (ag _ rfl rfl rfl rfl rfl), h11.keep (ag _ rfl rfl rfl rfl rfl), ⟨?_, Or.inr ⟨?_, ?_, ?_⟩⟩, h13.keep (ag _ rfl rfl rfl rfl rfl), h14.keep (ag _ rfl rfl rfl rfl rfl)⟩
  all_goals (simp (disch := omega) only [rd_ne, sw_same])
  · exact cell_n c1
  · exact win_b c2 (by decide) (by decide)
theorem st_noise {nL : Nat} {S : Sto} (h : Iv nL S) (x1 x2 x3 x4 : Int32) : ∃ (r : Int32) (S1 : Sto) (S2 : Sto), r_B_noise x1 x2 x3 x4 S = some (r, S1) ∧ r_M_noise x1 x2 x3 x4 S1 = some (r, S2) ∧ Iv nL S2 := by
  obtain ⟨h1, h2, h3, h4, h5, h6, h7, h8, h9, h10, ⟨n, b0, b1, b2, b3⟩, h12, h13, h14⟩ := id h
  by_cases c0 : r_B_within x1 0 9999 = 0
  · exact ⟨-1, S, sw S 104 0 0, by simp only [r_B_noise, if_pos c0], by simp only [r_M_noise, ltS, if_pos (iM_p c0)], h.t0⟩
  by_cases c1 : r_B_within x2 0 999 = 0
  · exact ⟨-1, S, sw S 104 0 0, by simp only [r_B_noise, if_neg c0, if_pos c1], by simp only [r_M_noise, ltS, if_neg (iM_n c0), if_pos (iM_p c1)], h.t0⟩
  by_cases c2 : r_B_within x3 0 199999 = 0
  · exact ⟨-1, S, sw S 104 0 0, by simp only [r_B_noise, if_neg c0, if_neg c1, if_pos c2], by simp only [r_M_noise, ltS, if_neg (iM_n c0), if_neg (iM_n c1), if_pos (iM_p c2)], h.t0⟩
  by_cases c3 : r_B_within x4 1 3 = 0
  · exact ⟨-1, S, sw S 104 0 0, by simp only [r_B_noise, if_neg c0, if_neg c1, if_neg c2, if_pos c3], by simp only [r_M_noise, ltS, if_neg (iM_n c0), if_neg (iM_n c1), if_neg (iM_n c2), if_pos (iM_p c3)], h.t0⟩
  by_cases c9 : n < 20
  · have i1 : inr (nI n) 20 = true := inr_nI c9 (by decide)
    have g1 : nI n < 20 := (lt_lit (m := 20) (by omega) (by omega)).mpr c9
    have g2 : ¬ nI n = 20 := fun q => by have := (eq_lit (m := 20) (by omega) (by omega)).mp q; omega
    have tn : (nI n).toNatClampNeg = n := q_tnI (by omega)
    refine ⟨nI n, sw (sw (sw (sw (sw S 94 n x1) 95 n x2) 96 n x3) 97 n x4) 90 5 (nI (n + 1)), sw (sw (sw (sw (sw (sw (sw (sw (sw (sw (sw S 94 n x1) 95 n x2) 96 n x3) 97 n x4) 90 5 (nI (n + 1))) 104 0 0) 140 n x1) 141 n x2) 142 n x3) 143 n x4) 104 65 (nI (n + 1)), ?_, ?_, ?_⟩
    · simp (disch := omega) only [r_B_noise, r_Ns_add, ltS, if_neg c0, if_neg c1, if_neg c2, if_neg c3, b1, if_pos g1, chk_t i1, rd_ne, tn, nI_1, sw_same, nI_pred, Option.bind_some]
    · simp (disch := omega) only [r_M_noise, ltS, if_neg (iM_n c0), if_neg (iM_n c1), if_neg (iM_n c2), if_neg (iM_n c3), rd_ne, b2, if_neg g2, chk_t i1, tn, nI_1, sw_same, nI_pred]
    · have ag : ∀ u : Nat → Nat → Bool, u 94 n = false → u 95 n = false → u 96 n = false → u 97 n = false → u 90 5 = false → u 104 0 = false → u 140 n = false → u 141 n = false → u 142 n = false → u 143 n = false → u 104 65 = false → Ag u S (sw (sw (sw (sw (sw (sw (sw (sw (sw (sw (sw S 94 n x1) 95 n x2) 96 n x3) 97 n x4) 90 5 (nI (n + 1))) 104 0 0) 140 n x1) 141 n x2) 142 n x3) 143 n x4) 104 65 (nI (n + 1))) := fun u e0 e1 e2 e3 e4 e5 e6 e7 e8 e9 e10 => (((((((((((Ag.rf.sw e0).sw e1).sw e2).sw e3).sw e4).sw e5).sw e6).sw e7).sw e8).sw e9).sw e10)
      refine ⟨h1.keep (ag _ rfl rfl rfl rfl rfl rfl rfl rfl rfl rfl rfl), h2.keep (ag _ rfl rfl rfl rfl rfl rfl rfl rfl rfl rfl rfl), h3.keep (ag _ rfl rfl rfl rfl rfl rfl rfl rfl rfl rfl rfl), h4.keep (ag _ rfl rfl rfl rfl rfl rfl rfl rfl rfl rfl rfl), h5.keep (ag _ rfl rfl rfl rfl rfl rfl rfl rfl rfl rfl rfl), h6.keep (ag _ rfl rfl rfl rfl rfl rfl rfl rfl rfl rfl rfl), h7.keep (ag _ rfl rfl rfl rfl rfl rfl rfl rfl rfl rfl rfl), h8.keep (ag _ rfl rfl rfl rfl rfl rfl rfl rfl rfl rfl rfl), h9.keep (ag _ rfl rfl rfl rfl rfl rfl rfl rfl rfl rfl rfl), h10.keep (ag _ rfl rfl rfl rfl rfl rfl rfl rfl rfl rfl rfl), ⟨n + 1, by omega, ?_, ?_, fun i hi => ?_⟩, h12.keep (ag _ rfl rfl rfl rfl rfl rfl rfl rfl rfl rfl rfl), h13.keep (ag _ rfl rfl rfl rfl rfl rfl rfl rfl rfl rfl rfl), h14.keep (ag _ rfl rfl rfl rfl rfl rfl rfl rfl rfl rfl rfl)⟩
      · simp (disch := omega) only [rd_ne, sw_same]
      · simp (disch := omega) only [rd_ne, sw_same]
      · by_cases e : i = n
        · subst e
          simp (disch := omega) only [rd_ne, sw_same]
          exact ⟨trivial, trivial, trivial, trivial, win_b c0 (by decide) (by decide), win_b c1 (by decide) (by decide), win_b c2 (by decide) (by decide), win_b c3 (by decide) (by decide)⟩
        · simp (disch := omega) only [rd_ne]
          exact b3 i (by omega)
  · have en : n = 20 := by omega
    subst en
    exact ⟨-1, S, sw S 104 0 0, by simp only [r_B_noise, r_Ns_add, if_neg c0, if_neg c1, if_neg c2, if_neg c3, b1]; rfl, by simp (disch := omega) only [r_M_noise, ltS, if_neg (iM_n c0), if_neg (iM_n c1), if_neg (iM_n c2), if_neg (iM_n c3), rd_ne, b2]; rfl, h.t0⟩
