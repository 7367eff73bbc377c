theorem st_ear {nL : Nat} {S : Sto} (h : Iv nL S) (x1 : Int32) : ∃ (r : Int32) (S1 : Sto) (S2 : Sto), r_B_ear x1 S = some (r, S1) ∧ r_M_ear x1 S1 = some (r, S2) ∧ Iv nL S2 := by
  obtain ⟨h1, h2, h3, h4, h5, h6, h7, ⟨n, b0, b1, b2, b3, b4⟩, h9, h10, h11, h12, h13, h14⟩ := id h
  by_cases c1 : r_B_isCell x1 = 0
  · exact ⟨-1, S, sw S 104 0 0, by simp only [r_B_ear, if_pos c1], by simp only [r_M_ear, ltS, if_pos (cMp c1)], h.t0⟩
  by_cases c9 : n < 8
  rotate_left
  · have en : n = 8 := by omega
    subst en
    exact ⟨-1, S, sw S 104 0 0, by simp only [r_B_ear, if_neg c1, b1]; rfl, by simp (disch := omega) only [r_M_ear, ltS, if_neg (cMn c1), rd_ne, b2]; rfl, h.t0⟩
  have i1 : inr (nI n) 8 = true := inr_nI c9 (by decide)
  have g1 : nI n < 8 := (lt_lit (m := 8) (by omega) (by omega)).mpr c9
  have g1' : nI n < nI 8 := g1
  have g2 : ¬ nI n = 8 := fun q => by have := (eq_lit (m := 8) (by omega) (by omega)).mp q; omega
  have tn : (nI n).toNatClampNeg = n := q_tnI (by omega)
  refine ⟨nI n, sw (sw (sw (sw (sw S 52 n x1) 54 n 0) 55 n (-1)) 56 n (-1)) 53 3 (nI (n + 1)), sw (sw (sw (sw (sw (sw (sw (sw S 52 n x1) 54 n 0) 55 n (-1)) 56 n (-1)) 53 3 (nI (n + 1))) 104 0 0) 132 n x1) 104 54 (nI (n + 1)), ?_, ?_, ?_⟩
  · simp (disch := omega) only [r_B_ear, r_Sp_add, ltS, if_neg c1, b1, if_pos g1, if_pos g1', chk_t i1, rd_ne, tn, nI_1, sw_same, nI_pred, Option.bind_some]
  · simp (disch := omega) only [r_M_ear, ltS, if_neg (cMn c1), rd_ne, b2, if_neg g2, chk_t i1, tn, nI_1, sw_same, nI_pred]
  · have ag : ∀ u : Nat → Nat → Bool, u 52 n = false → u 54 n = false → u 55 n = false → u 56 n = false → u 53 3 = false → u 104 0 = false → u 132 n = false → u 104 54 = false → Ag u S (sw (sw (sw (sw (sw (sw (sw (sw S 52 n x1) 54 n 0) 55 n (-1)) 56 n (-1)) 53 3 (nI (n + 1))) 104 0 0) 132 n x1) 104 54 (nI (n + 1))) := fun u e0 e1 e2 e3 e4 e5 e6 e7 => ((((((((Ag.rf.sw e0).sw e1).sw e2).sw e3).sw e4).sw e5).sw e6).sw e7)
    refine ⟨h1.keep (ag _ rfl rfl rfl rfl rfl rfl rfl rfl), h2.keep (ag _ rfl rfl rfl rfl rfl rfl rfl rfl), h3.keep (ag _ rfl rfl rfl rfl rfl rfl rfl rfl), h4.keep (ag _ rfl rfl rfl rfl rfl rfl rfl rfl), h5.keep (ag _ rfl rfl rfl rfl rfl rfl rfl rfl), h6.keep (ag _ rfl rfl rfl rfl rfl rfl rfl rfl), h7.keep (ag _ rfl rfl rfl rfl rfl rfl rfl rfl), ⟨n + 1, by omega, ?_, ?_, fun i hi => ?_, fun i hi hi2 => ?_⟩, h9.keep (ag _ rfl rfl rfl rfl rfl rfl rfl rfl), h10.keep (ag _ rfl rfl rfl rfl rfl rfl rfl rfl), h11.keep (ag _ rfl rfl rfl rfl rfl rfl rfl rfl), h12.keep (ag _ rfl rfl rfl rfl rfl rfl rfl rfl), h13.keep (ag _ rfl rfl rfl rfl rfl rfl rfl rfl), h14.keep (ag _ rfl rfl rfl rfl rfl rfl rfl rfl)⟩
    · simp (disch := omega) only [rd_ne, sw_same]
    · simp (disch := omega) only [rd_ne, sw_same]
    · by_cases e : i = n
      · subst e
        simp (disch := omega) only [rd_ne, sw_same]
        exact ⟨trivial, cell_n c1, b4 i (by omega) c9, Or.inl trivial⟩
      · simp (disch := omega) only [rd_ne]
        exact b3 i (by omega)
    · simp (disch := omega) only [rd_ne]
      exact b4 i (by omega) hi2
theorem st_got {nL : Nat} {S : Sto} (h : Iv nL S) (x1 x2 x3 : Int32) : ∃ (r : Int32) (S1 : Sto) (S2 : Sto), r_B_got x1 x2 x3 S = some (r, S1) ∧ r_M_got x1 x2 x3 S1 = some (r, S2) ∧ Iv nL S2 := by
  obtain ⟨h1, h2, h3, h4, h5, h6, h7, ⟨n, b0, b1, b2, b3, b4⟩, h9, h10, h11, h12, h13, h14⟩ := id h
  by_cases c1 : r_B_within x1 0 (nI n - 1) = 0
  · exact ⟨0, S, sw S 104 0 0, by simp only [r_B_got, b1, if_pos c1], by simp (disch := omega) only [r_M_got, ltS, rd_ne, b2, if_pos (iM_p c1)], h.t0⟩
  have w := win_n c1
  have e1 : (1 : Int32).toInt = 1 := by decide
  have hn1 : (nI n).toInt = n := q_n (by omega)
  rw [z_0, q_sub (by omega) (by omega), hn1, e1] at w
  obtain ⟨m, e, em⟩ := q_nI w.1
  have hm : m < n := by omega
  subst e
  have i1 : inr (nI m) 8 = true := inr_nI (by omega) (by decide)
  have tn : (nI m).toNatClampNeg = m := q_tnI (by omega)
  have key : (x2 = -1 ∨ (0 ≤ x2.toInt ∧ x2.toInt ≤ x3.toInt ∧ x3.toInt ≤ 199999)) → Iv nL (sw (sw (sw (sw (sw S 55 m x2) 56 m x3) 104 0 0) 133 m x2) 134 m x3) := by
    intro hq
    have ag : ∀ u : Nat → Nat → Bool, u 55 m = false → u 56 m = false → u 104 0 = false → u 133 m = false → u 134 m = false → Ag u S (sw (sw (sw (sw (sw S 55 m x2) 56 m x3) 104 0 0) 133 m x2) 134 m x3) := fun u e0 e1 e2 e3 e4 => (((((Ag.rf.sw e0).sw e1).sw e2).sw e3).sw e4)
    refine ⟨h1.keep (ag _ rfl rfl rfl rfl rfl), h2.keep (ag _ rfl rfl rfl rfl rfl), h3.keep (ag _ rfl rfl rfl rfl rfl), h4.keep (ag _ rfl rfl rfl rfl rfl), h5.keep (ag _ rfl rfl rfl rfl rfl), h6.keep (ag _ rfl rfl rfl rfl rfl), h7.keep (ag _ rfl rfl rfl rfl rfl), ⟨n, b0, ?_, ?_, fun i hi => ?_, fun i hi hi2 => ?_⟩, h9.keep (ag _ rfl rfl rfl rfl rfl), h10.keep (ag _ rfl rfl rfl rfl rfl), h11.keep (ag _ rfl rfl rfl rfl rfl), h12.keep (ag _ rfl rfl rfl rfl rfl), h13.keep (ag _ rfl rfl rfl rfl rfl), h14.keep (ag _ rfl rfl rfl rfl rfl)⟩
    · simp (disch := omega) only [rd_ne, b1]
    · simp (disch := omega) only [rd_ne, b2]
    · by_cases e : i = m
      · subst e
        simp (disch := omega) only [rd_ne, sw_same]
        obtain ⟨d1, d2, d3, d4⟩ := b3 i (by omega)
        refine ⟨d1, d2, trivial, ?_⟩
        rcases hq with q | q
        · exact Or.inl q
        · exact Or.inr ⟨trivial, q⟩
      · simp (disch := omega) only [rd_ne]
        exact b3 i (by omega)
    · simp (disch := omega) only [rd_ne]
      exact b4 i (by omega) hi2
  by_cases k : x2 = -1
  · refine ⟨1, sw (sw S 55 m x2) 56 m x3, sw (sw (sw (sw (sw S 55 m x2) 56 m x3) 104 0 0) 133 m x2) 134 m x3, ?_, ?_, key (Or.inl k)⟩
    · simp (disch := omega) only [r_B_got, jn, b1, if_neg c1, ltS, if_pos k, chk_t i1, tn]
    · simp (disch := omega) only [r_M_got, jn, ltS, rd_ne, b2, if_neg (iM_n c1), if_pos k, chk_t i1, tn]
  by_cases c2 : r_B_within x2 0 199999 = 0
  · exact ⟨0, S, sw S 104 0 0, by simp only [r_B_got, jn, b1, if_neg c1, if_neg k, if_pos c2], by simp (disch := omega) only [r_M_got, jn, ltS, rd_ne, b2, if_neg (iM_n c1), if_neg k, if_pos (iM_p c2)], h.t0⟩
  by_cases c3 : r_B_within x3 x2 199999 = 0
  · exact ⟨0, S, sw S 104 0 0, by simp only [r_B_got, jn, b1, if_neg c1, if_neg k, if_neg c2, if_pos c3], by simp (disch := omega) only [r_M_got, jn, ltS, rd_ne, b2, if_neg (iM_n c1), if_neg k, if_neg (iM_n c2), if_pos (iM_p c3)], h.t0⟩
  have v1 := win_n c2
  have v2 := win_n c3
  rw [z_0] at v1
  rw [show (199999 : Int32).toInt = 199999 by decide] at v2
  refine ⟨1, sw (sw S 55 m x2) 56 m x3, sw (sw (sw (sw (sw S 55 m x2) 56 m x3) 104 0 0) 133 m x2) 134 m x3, ?_, ?_, key (Or.inr ⟨v1.1, v2⟩)⟩
  · simp (disch := omega) only [r_B_got, jn, b1, if_neg c1, ltS, if_neg k, if_neg c2, if_neg c3, chk_t i1, tn]
  · simp (disch := omega) only [r_M_got, jn, ltS, rd_ne, b2, if_neg (iM_n c1), if_neg k, if_neg (iM_n c2), if_neg (iM_n c3), chk_t i1, tn]
theorem shl_n : ∀ n, n < 11 → ((1 : Int32) <<< (nI n &&& 31) - 1).toInt = 2 ^ n - 1 := by decide
theorem st_story {nL : Nat} {S : Sto} (h : Iv nL S) (x1 x2 : Int32) : ∃ (r : Int32) (S1 : Sto) (S2 : Sto), r_B_story x1 x2 S = some (r, S1) ∧ r_M_story x1 x2 S1 = some (r, S2) ∧ Iv nL S2 := by
  obtain ⟨h1, h2, h3, ⟨n, b0, b1, b2, b3, b4⟩, h5, h6, h7, h8, h9, h10, h11, h12, h13, h14⟩ := id h
  by_cases c1 : r_B_within x1 0 5 = 0
  · exact ⟨0, S, sw S 104 0 0, by simp only [r_B_story, if_pos c1], by simp only [r_M_story, ltS, if_pos (iM_p c1)], h.t0⟩
  by_cases c2 : r_B_within x2 0 ((1 <<< (nI n &&& 31)) - 1) = 0
  · exact ⟨0, S, sw S 104 0 0, by simp only [r_B_story, b1, if_neg c1, if_pos c2], by simp (disch := omega) only [r_M_story, ltS, rd_ne, b2, if_neg (iM_n c1), if_pos (iM_p c2)], h.t0⟩
  have w := win_n c1
  rw [z_0, show (5 : Int32).toInt = 5 by decide] at w
  obtain ⟨m, e, em⟩ := q_nI w.1
  subst e
  have i1 : inr (nI m) 6 = true := inr_nI (by omega) (by decide)
  have tn : (nI m).toNatClampNeg = m := q_tnI (by omega)
  refine ⟨1, sw S 51 m x2, sw (sw (sw S 51 m x2) 104 0 0) 131 m x2, ?_, ?_, ?_⟩
  · simp (disch := omega) only [r_B_story, b1, if_neg c1, if_neg c2, ltS, chk_t i1, tn]
  · simp (disch := omega) only [r_M_story, ltS, rd_ne, b2, if_neg (iM_n c1), if_neg (iM_n c2), chk_t i1, tn]
  · have ag : ∀ u : Nat → Nat → Bool, u 51 m = false → u 104 0 = false → u 131 m = false → Ag u S (sw (sw (sw S 51 m x2) 104 0 0) 131 m x2) := fun u e0 e1 e2 => (((Ag.rf.sw e0).sw e1).sw e2)
    refine ⟨h1.keep (ag _ rfl rfl rfl), h2.keep (ag _ rfl rfl rfl), h3.keep (ag _ rfl rfl rfl), ⟨n, b0, ?_, ?_, fun i hi => ?_, fun j hj => ?_⟩, h5.keep (ag _ rfl rfl rfl), h6.keep (ag _ rfl rfl rfl), h7.keep (ag _ rfl rfl rfl), h8.keep (ag _ rfl rfl rfl), h9.keep (ag _ rfl rfl rfl), h10.keep (ag _ rfl rfl rfl), h11.keep (ag _ rfl rfl rfl), h12.keep (ag _ rfl rfl rfl), h13.keep (ag _ rfl rfl rfl), h14.keep (ag _ rfl rfl rfl)⟩
    · simp (disch := omega) only [rd_ne, b1]
    · simp (disch := omega) only [rd_ne, b2]
    · simp (disch := omega) only [rd_ne]
      exact b3 i hi
    · by_cases e : j = m
      · subst e
        simp (disch := omega) only [rd_ne, sw_same]
        exact ⟨trivial, win_b c2 (by decide) (shl_n n (by omega))⟩
      · simp (disch := omega) only [rd_ne]
        exact b4 j hj
