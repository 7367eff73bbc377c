theorem st_voice {nL : Nat} {S : Sto} (h : Iv nL S) (x1 x2 x3 x4 : Int32) : ∃ (r : Int32) (S1 : Sto) (S2 : Sto), r_B_voice x1 x2 x3 x4 S = some (r, S1) ∧ r_M_voice x1 x2 x3 x4 S1 = some (r, S2) ∧ Iv nL S2 := by
  obtain ⟨h1, h2, h3, h4, h5, h6, h7, h8, h9, h10, h11, h12, h13, h14⟩ := id h
  by_cases c1 : r_B_within x1 0 3 = 0
  · exact ⟨-1, S, sw S 104 0 0, by simp only [r_B_voice, if_pos c1], by simp only [r_M_voice, ltS, if_pos (tp_p c1)], h.t0⟩
  by_cases c2 : r_B_within x2 0 199999 = 0
  · exact ⟨-1, S, sw S 104 0 0, by simp only [r_B_voice, if_neg c1, if_pos c2], by simp only [r_M_voice, ltS, if_neg (tp_n c1), if_pos (iM_p c2)], h.t0⟩
  by_cases c3 : r_B_within x3 0 9999999 = 0
  · exact ⟨-1, S, sw S 104 0 0, by simp only [r_B_voice, if_neg c1, if_neg c2, if_pos c3], by simp only [r_M_voice, ltS, if_neg (tp_n c1), if_neg (iM_n c2), if_pos (iM_p c3)], h.t0⟩
  by_cases c4 : r_B_within x4 x3 9999999 = 0
  · exact ⟨-1, S, sw S 104 0 0, by simp only [r_B_voice, if_neg c1, if_neg c2, if_neg c3, if_pos c4], by simp only [r_M_voice, ltS, if_neg (tp_n c1), if_neg (iM_n c2), if_neg (iM_n c3), if_pos (iM_p c4)], h.t0⟩
  have w := win_n c1
  rw [z_0, show (3 : Int32).toInt = 3 by decide] at w
  have w3 := win_n c3
  rw [z_0] at w3
  have w4 := win_n c4
  rw [show (9999999 : Int32).toInt = 9999999 by decide] at w4
  obtain ⟨m, e, em⟩ := q_nI w.1
  subst e
  have hm : m < 4 := by omega
  have m4 : m = 0 ∨ m = 1 ∨ m = 2 ∨ m = 3 := by omega
  have i1 : inr (nI m) 4 = true := inr_nI (by omega) (by decide)
  have tm : (nI m).toNatClampNeg = m := q_tnI (by omega)
  obtain ⟨n, b0, b1, b2, b3⟩ := h10 m hm
  have tn : (nI n).toNatClampNeg = n := q_tnI (by omega)
  have hx2 : btw x2 0 199999 := win_b c2 (by decide) (by decide)
  by_cases c9 : n < 10
  rotate_left
  · have en : n = 10 := by omega
    subst en
    have g1 : ¬ nI 10 < nI 10 := by decide
    have g2 : nI 10 = 10 := rfl
    exact ⟨-1, S, sw S 104 0 0, by simp only [r_B_voice, r_Sp_add, ltN, if_neg c1, if_neg c2, if_neg c3, if_neg c4, chk_t i1, tm, b1, if_neg g1, Option.bind_some], by simp (disch := omega) only [r_M_voice, ltS, if_neg (tp_n c1), if_neg (iM_n c2), if_neg (iM_n c3), if_neg (iM_n c4), chk_t i1, tm, rd_ne, b2, if_pos g2], h.t0⟩
  have i2 : inr (nI n) 10 = true := inr_nI c9 (by decide)
  have g1 : nI n < nI 10 := (lt_lit (m := 10) (by omega) (by omega)).mpr c9
  have g2 : ¬ nI n = 10 := fun q => by have := (eq_lit (m := 10) (by omega) (by omega)).mp q; omega
  have l1 := nI_10 m hm n c9
  have i3 : inr (nI (10 * m + n)) 40 = true := inr_nI (by omega) (by decide)
  have t3 : (nI (10 * m + n)).toNatClampNeg = 10 * m + n := q_tnI (by omega)
  refine ⟨nI n, sw (sw (sw (sw S (58 + 8 * m + 2 + 1) n x2) (58 + 8 * m + 2 + 2) n x3) (58 + 8 * m + 2 + 3) n x4) (58 + 8 * m + 2) 3 (nI (n + 1)), sw (sw (sw (sw (sw (sw (sw (sw S (58 + 8 * m + 2 + 1) n x2) (58 + 8 * m + 2 + 2) n x3) (58 + 8 * m + 2 + 3) n x4) (58 + 8 * m + 2) 3 (nI (n + 1))) 104 0 0) 138 (10 * m + n) (x3 - x2)) 139 (10 * m + n) (x4 - x2)) 137 m (nI (n + 1)), ?_, ?_, ?_⟩
  · simp (disch := omega) only [r_B_voice, r_Sp_add, ltN, ltS, if_neg c1, if_neg c2, if_neg c3, if_neg c4, chk_t i1, tm, b1, if_pos g1, chk_t i2, tn, rd_ne, sw_same, nI_1, nI_pred, Option.bind_some]
  · simp (disch := omega) only [r_M_voice, ltS, if_neg (tp_n c1), if_neg (iM_n c2), if_neg (iM_n c3), if_neg (iM_n c4), chk_t i1, tm, rd_ne, b2, if_neg g2, l1, chk_t i3, t3, sw_same, nI_1, nI_pred]
  · have ag : ∀ u : Nat → Nat → Bool, u ((58 + 8 * m + 2 + 1)) n = false → u ((58 + 8 * m + 2 + 2)) n = false → u ((58 + 8 * m + 2 + 3)) n = false → u ((58 + 8 * m + 2)) 3 = false → u 104 0 = false → u 138 ((10 * m + n)) = false → u 139 ((10 * m + n)) = false → u 137 m = false → Ag u S (sw (sw (sw (sw (sw (sw (sw (sw S (58 + 8 * m + 2 + 1) n x2) (58 + 8 * m + 2 + 2) n x3) (58 + 8 * m + 2 + 3) n x4) (58 + 8 * m + 2) 3 (nI (n + 1))) 104 0 0) 138 (10 * m + n) (x3 - x2)) 139 (10 * m + n) (x4 - x2)) 137 m (nI (n + 1))) := fun u e0 e1 e2 e3 e4 e5 e6 e7 => ((((((((Ag.rf.sw e0).sw e1).sw e2).sw e3).sw e4).sw e5).sw e6).sw e7)
    refine ⟨h1.keep (ag _ (by rcases m4 with e | e | e | e <;> subst e <;> rfl) (by rcases m4 with e | e | e | e <;> subst e <;> rfl) (by rcases m4 with e | e | e | e <;> subst e <;> rfl) (by rcases m4 with e | e | e | e <;> subst e <;> rfl) rfl rfl rfl rfl), h2.keep (ag _ (by rcases m4 with e | e | e | e <;> subst e <;> rfl) (by rcases m4 with e | e | e | e <;> subst e <;> rfl) (by rcases m4 with e | e | e | e <;> subst e <;> rfl) (by rcases m4 with e | e | e | e <;> subst e <;> rfl) rfl rfl rfl rfl), h3.keep (ag _ (by rcases m4 with e | e | e | e <;> subst e <;> rfl) (by rcases m4 with e | e | e | e <;> subst e <;> rfl) (by rcases m4 with e | e | e | e <;> subst e <;> rfl) (by rcases m4 with e | e | e | e <;> subst e <;> rfl) rfl rfl rfl rfl), h4.keep (ag _ (by rcases m4 with e | e | e | e <;> subst e <;> rfl) (by rcases m4 with e | e | e | e <;> subst e <;> rfl) (by rcases m4 with e | e | e | e <;> subst e <;> rfl) (by rcases m4 with e | e | e | e <;> subst e <;> rfl) rfl rfl rfl rfl), h5.keep (ag _ (by rcases m4 with e | e | e | e <;> subst e <;> rfl) (by rcases m4 with e | e | e | e <;> subst e <;> rfl) (by rcases m4 with e | e | e | e <;> subst e <;> rfl) (by rcases m4 with e | e | e | e <;> subst e <;> rfl) rfl rfl rfl rfl), h6.keep (ag _ (by rcases m4 with e | e | e | e <;> subst e <;> rfl) (by rcases m4 with e | e | e | e <;> subst e <;> rfl) (by rcases m4 with e | e | e | e <;> subst e <;> rfl) (by rcases m4 with e | e | e | e <;> subst e <;> rfl) rfl rfl rfl rfl), h7.keep (ag _ (by rcases m4 with e | e | e | e <;> subst e <;> rfl) (by rcases m4 with e | e | e | e <;> subst e <;> rfl) (by rcases m4 with e | e | e | e <;> subst e <;> rfl) (by rcases m4 with e | e | e | e <;> subst e <;> rfl) rfl rfl rfl rfl), h8.keep (ag _ (by rcases m4 with e | e | e | e <;> subst e <;> rfl) (by rcases m4 with e | e | e | e <;> subst e <;> rfl) (by rcases m4 with e | e | e | e <;> subst e <;> rfl) (by rcases m4 with e | e | e | e <;> subst e <;> rfl) rfl rfl rfl rfl), h9.keep (ag _ (by rcases m4 with e | e | e | e <;> subst e <;> rfl) (by rcases m4 with e | e | e | e <;> subst e <;> rfl) (by rcases m4 with e | e | e | e <;> subst e <;> rfl) (by rcases m4 with e | e | e | e <;> subst e <;> rfl) rfl rfl rfl rfl), fun t ht => ?_, h11.keep (ag _ (by rcases m4 with e | e | e | e <;> subst e <;> rfl) (by rcases m4 with e | e | e | e <;> subst e <;> rfl) (by rcases m4 with e | e | e | e <;> subst e <;> rfl) (by rcases m4 with e | e | e | e <;> subst e <;> rfl) rfl rfl rfl rfl), h12.keep (ag _ (by rcases m4 with e | e | e | e <;> subst e <;> rfl) (by rcases m4 with e | e | e | e <;> subst e <;> rfl) (by rcases m4 with e | e | e | e <;> subst e <;> rfl) (by rcases m4 with e | e | e | e <;> subst e <;> rfl) rfl rfl rfl rfl), h13.keep (ag _ (by rcases m4 with e | e | e | e <;> subst e <;> rfl) (by rcases m4 with e | e | e | e <;> subst e <;> rfl) (by rcases m4 with e | e | e | e <;> subst e <;> rfl) (by rcases m4 with e | e | e | e <;> subst e <;> rfl) rfl rfl rfl rfl), h14.keep (ag _ (by rcases m4 with e | e | e | e <;> subst e <;> rfl) (by rcases m4 with e | e | e | e <;> subst e <;> rfl) (by rcases m4 with e | e | e | e <;> subst e <;> rfl) (by rcases m4 with e | e | e | e <;> subst e <;> rfl) rfl rfl rfl rfl)⟩
    by_cases e : t = m
    · subst e
      refine ⟨n + 1, by omega, ?_, ?_, fun i hi => ?_⟩
      · simp (disch := omega) only [rd_ne, sw_same]
      · simp (disch := omega) only [rd_ne, sw_same]
      · by_cases e : i = n
        · subst e
          simp (disch := omega) only [rd_ne, sw_same]
          exact ⟨trivial, trivial, hx2, w3.1, w4.1, w4.2⟩
        · simp (disch := omega) only [rd_ne]
          exact b3 i (by omega)
    · obtain ⟨n', d0, d1, d2, d3⟩ := h10 t ht
      refine ⟨n', d0, ?_, ?_, fun i hi => ?_⟩
      · simp (disch := omega) only [rd_ne, d1]
      · simp (disch := omega) only [rd_ne, d2]
      · simp (disch := omega) only [rd_ne]
        exact d3 i hi
