theorem st_shot {nL : Nat} {S : Sto} (h : Iv nL S) (x1 x2 x3 x4 : Int32) : ∃ (r : Int32) (S1 : Sto) (S2 : Sto), r_B_shot x1 x2 x3 x4 S = some (r, S1) ∧ r_M_shot x1 x2 x3 x4 S1 = some (r, S2) ∧ Iv nL S2 := by
  obtain ⟨h1, h2, h3, ⟨n, b0, b1, b2, b3, b4⟩, h5, h6, h7, h8, h9, h10, h11, h12, h13, h14⟩ := id h
  by_cases c1 : r_B_isCell x1 = 0
  · exact ⟨-1, S, sw S 104 0 0, by simp only [r_B_shot, if_pos c1], by simp only [r_M_shot, ltS, if_pos (cMp c1)], h.t0⟩
  by_cases c2 : r_B_within x2 0 99999 = 0
  · exact ⟨-1, S, sw S 104 0 0, by simp only [r_B_shot, if_neg c1, if_pos c2], by simp only [r_M_shot, ltS, if_neg (cMn c1), if_pos (iM_p c2)], h.t0⟩
  by_cases c9 : n < 10
  rotate_left
  · have en : n = 10 := by omega
    subst en
    exact ⟨-1, S, sw S 104 0 0, by simp only [r_B_shot, if_neg c1, if_neg c2, b1]; rfl, by simp (disch := omega) only [r_M_shot, ltS, if_neg (cMn c1), if_neg (iM_n c2), rd_ne, b2]; rfl, h.t0⟩
  have i1 : inr (nI n) 10 = true := inr_nI c9 (by decide)
  have g1 : nI n < 10 := (lt_lit (m := 10) (by omega) (by omega)).mpr c9
  have g2 : ¬ nI n = 10 := fun q => by have := (eq_lit (m := 10) (by omega) (by omega)).mp q; omega
  have tn : (nI n).toNatClampNeg = n := q_tnI (by omega)
  have hc := cell_n c1
  have hne : ¬ (-1 : Int32) = x1 := by
    intro q
    have := hc.1
    rw [← q] at this
    revert this
    decide
  have hM : ∀ Z : Sto, Z 104 12 = nI n → x3 = -1 ∨ (¬ r_B_isCell x3 = 0 ∧ ¬ x3 = x1 ∧ ¬ r_B_within x4 1 99 = 0) → r_M_shot x1 x2 x3 x4 Z = some (nI n, sw (sw (sw (sw (sw (sw Z 104 0 0) 111 n x1) 112 n x2) 113 n x3) 114 n x4) 104 12 (nI (n + 1))) := by
    intro Z hZ hq
    by_cases k : x3 = -1
    · simp (disch := omega) only [r_M_shot, ltS, jn, if_neg (cMn c1), if_neg (iM_n c2), rd_ne, hZ, if_neg g2, if_pos k, chk_t i1, tn, nI_1, sw_same, nI_pred]
    · obtain ⟨d1, d2, d3⟩ := hq.resolve_left k
      simp (disch := omega) only [r_M_shot, ltS, jn, if_neg (cMn c1), if_neg (iM_n c2), rd_ne, hZ, if_neg g2, if_neg k, if_neg (cMn d1), if_neg d2, if_neg (iM_n d3), chk_t i1, tn, nI_1, sw_same, nI_pred]
  by_cases hq : x3 = -1 ∨ (¬ r_B_isCell x3 = 0 ∧ ¬ x3 = x1 ∧ ¬ r_B_within x4 1 99 = 0)
  · have e1 : ¬ x3 = x1 := by
      rcases hq with q | q
      · rw [q]; exact hne
      · exact q.2.1
    have e2 : ¬ r_B_isBall x3 x4 = 0 := by
      rcases hq with q | q
      · simp [r_B_isBall, q]
      · by_cases k : x3 = -1
        · simp [r_B_isBall, k]
        · simp [r_B_isBall, k, q.1, q.2.2]
    refine ⟨nI n, sw (sw (sw (sw (sw S (19 + 1 * n) 0 x1) (19 + 1 * n) 1 x2) (19 + 1 * n) 2 x3) (19 + 1 * n) 3 x4) 0 4 (nI (n + 1)), sw (sw (sw (sw (sw (sw (sw (sw (sw (sw (sw S (19 + 1 * n) 0 x1) (19 + 1 * n) 1 x2) (19 + 1 * n) 2 x3) (19 + 1 * n) 3 x4) 0 4 (nI (n + 1))) 104 0 0) 111 n x1) 112 n x2) 113 n x3) 114 n x4) 104 12 (nI (n + 1)), ?_, hM _ ?_ hq, ?_⟩
    · simp (disch := omega) only [r_B_shot, r_Sh_fire, ltS, ltN, if_neg c1, if_neg c2, b1, if_pos g1, if_neg e1, if_neg e2, chk_t i1, rd_ne, tn, nI_1, sw_same, nI_pred, Option.bind_some]
    · simp (disch := omega) only [rd_ne, b2]
    · have ag : ∀ u : Nat → Nat → Bool, u ((19 + 1 * n)) 0 = false → u ((19 + 1 * n)) 1 = false → u ((19 + 1 * n)) 2 = false → u ((19 + 1 * n)) 3 = false → u 0 4 = false → u 104 0 = false → u 111 n = false → u 112 n = false → u 113 n = false → u 114 n = false → u 104 12 = false → Ag u S (sw (sw (sw (sw (sw (sw (sw (sw (sw (sw (sw S (19 + 1 * n) 0 x1) (19 + 1 * n) 1 x2) (19 + 1 * n) 2 x3) (19 + 1 * n) 3 x4) 0 4 (nI (n + 1))) 104 0 0) 111 n x1) 112 n x2) 113 n x3) 114 n x4) 104 12 (nI (n + 1))) := fun u e0 e1 e2 e3 e4 e5 e6 e7 e8 e9 e10 => (((((((((((Ag.rf.sw e0).sw e1).sw e2).sw e3).sw e4).sw e5).sw e6).sw e7).sw e8).sw e9).sw e10)
      have uw_Air : ∀ k, uAir (19 + 1 * n) k = false := fun k => by simp [uAir] <;> omega
      have uw_Wal : ∀ k, uWal (19 + 1 * n) k = false := fun k => by simp [uWal] <;> omega
      have uw_Spo : ∀ k, uSpo (19 + 1 * n) k = false := fun k => by simp [uSpo] <;> omega
      have uw_Byt : ∀ k, uByt (19 + 1 * n) k = false := fun k => by simp [uByt] <;> omega
      have uw_Fau : ∀ k, uFau (19 + 1 * n) k = false := fun k => by simp [uFau] <;> omega
      have uw_Hea : ∀ k, uHea (19 + 1 * n) k = false := fun k => by simp [uHea] <;> omega
      have uw_Ear : ∀ k, uEar (19 + 1 * n) k = false := fun k => by simp [uEar] <;> omega
      have uw_Cli : ∀ k, uCli (19 + 1 * n) k = false := fun k => by simp [uCli] <;> omega
      have uw_Voi : ∀ k, uVoi (19 + 1 * n) k = false := fun k => by simp [uVoi] <;> omega
      have uw_Noi : ∀ k, uNoi (19 + 1 * n) k = false := fun k => by simp [uNoi] <;> omega
      have uw_Bal : ∀ k, uBal (19 + 1 * n) k = false := fun k => by simp [uBal] <;> omega
      have uw_Wor : ∀ k, uWor (19 + 1 * n) k = false := fun k => by simp [uWor] <;> omega
      have uw_Law : ∀ k, uLaw (19 + 1 * n) k = false := fun k => by simp [uLaw] <;> omega
      refine ⟨h1.keep (ag _ (uw_Air _) (uw_Air _) (uw_Air _) (uw_Air _) rfl rfl rfl rfl rfl rfl rfl), h2.keep (ag _ (uw_Wal _) (uw_Wal _) (uw_Wal _) (uw_Wal _) rfl rfl rfl rfl rfl rfl rfl), h3.keep (ag _ (uw_Spo _) (uw_Spo _) (uw_Spo _) (uw_Spo _) rfl rfl rfl rfl rfl rfl rfl), ⟨n + 1, by omega, ?_, ?_, fun i hi => ?_, fun j hj => ?_⟩, h5.keep (ag _ (uw_Byt _) (uw_Byt _) (uw_Byt _) (uw_Byt _) rfl rfl rfl rfl rfl rfl rfl), h6.keep (ag _ (uw_Fau _) (uw_Fau _) (uw_Fau _) (uw_Fau _) rfl rfl rfl rfl rfl rfl rfl), h7.keep (ag _ (uw_Hea _) (uw_Hea _) (uw_Hea _) (uw_Hea _) rfl rfl rfl rfl rfl rfl rfl), h8.keep (ag _ (uw_Ear _) (uw_Ear _) (uw_Ear _) (uw_Ear _) rfl rfl rfl rfl rfl rfl rfl), h9.keep (ag _ (uw_Cli _) (uw_Cli _) (uw_Cli _) (uw_Cli _) rfl rfl rfl rfl rfl rfl rfl), h10.keep (ag _ (uw_Voi _) (uw_Voi _) (uw_Voi _) (uw_Voi _) rfl rfl rfl rfl rfl rfl rfl), h11.keep (ag _ (uw_Noi _) (uw_Noi _) (uw_Noi _) (uw_Noi _) rfl rfl rfl rfl rfl rfl rfl), h12.keep (ag _ (uw_Bal _) (uw_Bal _) (uw_Bal _) (uw_Bal _) rfl rfl rfl rfl rfl rfl rfl), h13.keep (ag _ (uw_Wor _) (uw_Wor _) (uw_Wor _) (uw_Wor _) rfl rfl rfl rfl rfl rfl rfl), h14.keep (ag _ (uw_Law _) (uw_Law _) (uw_Law _) (uw_Law _) rfl rfl rfl rfl rfl rfl rfl)⟩
      · simp (disch := omega) only [rd_ne, sw_same]
      · simp (disch := omega) only [rd_ne, sw_same]
      · by_cases e : i = n
        · subst e
          have ee : 19 + i = 19 + 1 * i := by omega
          rw [ee]
          simp (disch := omega) only [rd_ne, sw_same]
          refine ⟨trivial, trivial, trivial, trivial, hc, win_b c2 (by decide) (by decide), ?_⟩
          rcases hq with q | q
          · exact Or.inl q
          · exact Or.inr ⟨cell_n q.1, q.2.1, win_b q.2.2 (by decide) (by decide)⟩
        · simp (disch := omega) only [rd_ne]
          exact b3 i (by omega)
      · simp (disch := omega) only [rd_ne]
        obtain ⟨g3, g4, g5⟩ := b4 j hj
        refine ⟨g3, g4, ?_⟩
        have : (2 : Int) ^ (n + 1) = 2 * 2 ^ n := by rw [Int.pow_succ]; omega
        have p0 : (0 : Int) < 2 ^ n := Int.pow_pos (by decide)
        omega
  · refine ⟨-1, S, sw S 104 0 0, ?_, ?_, h.t0⟩
    · by_cases k : x3 = x1
      · simp only [r_B_shot, if_neg c1, if_neg c2, b1, if_pos g1, if_pos k]
      · have k3 : ¬ x3 = -1 := fun q => hq (Or.inl q)
        have e2 : r_B_isBall x3 x4 = 0 := by
          by_cases d1 : r_B_isCell x3 = 0
          · simp [r_B_isBall, k3, d1]
          · by_cases d2 : r_B_within x4 1 99 = 0
            · simp [r_B_isBall, k3, d1, d2]
            · exact absurd (Or.inr ⟨d1, k, d2⟩) hq
        simp only [r_B_shot, if_neg c1, if_neg c2, b1, if_pos g1, if_neg k, if_pos e2]
    · have k3 : ¬ x3 = -1 := fun q => hq (Or.inl q)
      by_cases d1 : r_B_isCell x3 = 0
      · simp (disch := omega) only [r_M_shot, ltS, jn, if_neg (cMn c1), if_neg (iM_n c2), rd_ne, b2, if_neg g2, if_neg k3, if_pos (cMp d1)]
      · by_cases k : x3 = x1
        · simp (disch := omega) only [r_M_shot, ltS, jn, if_neg (cMn c1), if_neg (iM_n c2), rd_ne, b2, if_neg g2, if_neg k3, if_neg (cMn d1), if_pos k]
        · by_cases d2 : r_B_within x4 1 99 = 0
          · simp (disch := omega) only [r_M_shot, ltS, jn, if_neg (cMn c1), if_neg (iM_n c2), rd_ne, b2, if_neg g2, if_neg k3, if_neg (cMn d1), if_neg k, if_pos (iM_p d2)]
          · exact absurd (Or.inr ⟨d1, k, d2⟩) hq
