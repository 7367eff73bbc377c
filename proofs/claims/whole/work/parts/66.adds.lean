/-! the calls that add one of a kind -/
theorem rd_ne {S : Sto} {a k b j : Nat} {x : Int32} (h : ¬ (b = a ∧ j = k)) : sw S a k x b j = S b j := by
  by_cases e : b = a
  · subst e
    rw [sw_k (fun q => h ⟨rfl, q⟩)]
  · rw [sw_n e]
theorem lt_lit {n m : Nat} (hn : n < 2147483648) (hm : m < 2147483648) : (nI n < nI m) ↔ n < m := nI_ltI hn hm
theorem eq_lit {n m : Nat} (hn : n < 2147483648) (hm : m < 2147483648) : (nI n = nI m) ↔ n = m := nI_eq hn hm
theorem win_b {x lo hi : Int32} {a b : Int} (h : ¬ r_B_within x lo hi = 0) (e1 : lo.toInt = a) (e2 : hi.toInt = b) : btw x a b := by
  have := win_n h
  rw [e1, e2] at this
  exact this
theorem iM_n {x lo hi : Int32} (h : ¬ r_B_within x lo hi = 0) : ¬ r_M_isIn x lo hi = 0 := by rw [iM_B]; exact h
theorem iM_p {x lo hi : Int32} (h : r_B_within x lo hi = 0) : r_M_isIn x lo hi = 0 := by rw [iM_B]; exact h
theorem cMn {x : Int32} (h : ¬ r_B_isCell x = 0) : ¬ r_M_isCell x = 0 := h
theorem cMp {x : Int32} (h : r_B_isCell x = 0) : r_M_isCell x = 0 := h
theorem st_hearer {nL : Nat} {S : Sto} (h : Iv nL S) (x1 x2 : Int32) : ∃ (r : Int32) (S1 : Sto) (S2 : Sto), r_B_hearer x1 x2 S = some (r, S1) ∧ r_M_hearer x1 x2 S1 = some (r, S2) ∧ Iv nL S2 := by
  obtain ⟨h1, h2, h3, h4, h5, h6, ⟨n, b0, b1, b2, b3⟩, h8, h9, h10, h11, h12, h13, h14⟩ := id h
  by_cases c1 : r_B_isCell x1 = 0
  · exact ⟨-1, S, sw S 104 0 0, by simp only [r_B_hearer, if_pos c1], by simp only [r_M_hearer, ltS, if_pos (cMp c1)], h.t0⟩
  by_cases c2 : r_B_within x2 (-1) 7 = 0
  · exact ⟨-1, S, sw S 104 0 0, by simp only [r_B_hearer, if_neg c1, if_pos c2], by simp only [r_M_hearer, ltS, if_neg (cMn c1), if_pos (iM_p c2)], h.t0⟩
  by_cases c3 : n < 20
  · have i1 : inr (nI n) 20 = true := inr_nI c3 (by decide)
    have g1 : nI n < 20 := (lt_lit (m := 20) (by omega) (by omega)).mpr c3
    have g2 : ¬ nI n = 20 := fun q => by have := (eq_lit (m := 20) (by omega) (by omega)).mp q; omega
    have tn : (nI n).toNatClampNeg = n := q_tnI (by omega)
    refine ⟨nI n, sw (sw (sw S 47 n x1) 48 n x2) 33 4 (nI (n + 1)), sw (sw (sw (sw (sw (sw (sw S 47 n x1) 48 n x2) 33 4 (nI (n + 1))) 104 0 0) 129 n x1) 130 n x2) 104 50 (nI (n + 1)), ?_, ?_, ?_⟩
    · simp (disch := omega) only [r_B_hearer, ltS, if_neg c1, if_neg c2, b1, if_pos g1, chk_t i1, rd_ne, tn, nI_1, sw_same, nI_pred]
    · simp (disch := omega) only [r_M_hearer, ltS, if_neg (cMn c1), if_neg (iM_n c2), rd_ne, b2, if_neg g2, chk_t i1, tn, nI_1, sw_same, nI_pred]
    · have ag : ∀ u : Nat → Nat → Bool, u 47 n = false → u 48 n = false → u 33 4 = false → u 104 0 = false → u 129 n = false → u 130 n = false → u 104 50 = false → Ag u S (sw (sw (sw (sw (sw (sw (sw S 47 n x1) 48 n x2) 33 4 (nI (n + 1))) 104 0 0) 129 n x1) 130 n x2) 104 50 (nI (n + 1))) := fun u e1 e2 e3 e4 e5 e6 e7 => ((((((Ag.rf.sw e1).sw e2).sw e3).sw e4).sw e5).sw e6).sw e7
      refine ⟨h1.keep (ag _ rfl rfl rfl rfl rfl rfl rfl), h2.keep (ag _ rfl rfl rfl rfl rfl rfl rfl), h3.keep (ag _ rfl rfl rfl rfl rfl rfl rfl), h4.keep (ag _ rfl rfl rfl rfl rfl rfl rfl), h5.keep (ag _ rfl rfl rfl rfl rfl rfl rfl), h6.keep (ag _ rfl rfl rfl rfl rfl rfl rfl), ⟨n + 1, by omega, ?_, ?_, fun i hi => ?_⟩, h8.keep (ag _ rfl rfl rfl rfl rfl rfl rfl), h9.keep (ag _ rfl rfl rfl rfl rfl rfl rfl), h10.keep (ag _ rfl rfl rfl rfl rfl rfl rfl), h11.keep (ag _ rfl rfl rfl rfl rfl rfl rfl), h12.keep (ag _ rfl rfl rfl rfl rfl rfl rfl), h13.keep (ag _ rfl rfl rfl rfl rfl rfl rfl), h14.keep (ag _ rfl rfl rfl rfl rfl rfl rfl)⟩
      · simp (disch := omega) only [rd_ne, sw_same]
      · simp (disch := omega) only [rd_ne, sw_same]
      · by_cases e : i = n
        · subst e
          simp (disch := omega) only [rd_ne, sw_same]
          exact ⟨trivial, trivial, cell_n c1, win_b c2 (by decide) (by decide)⟩
        · simp (disch := omega) only [rd_ne]
          exact b3 i (by omega)
  · have en : n = 20 := by omega
    subst en
    exact ⟨-1, S, sw S 104 0 0, by simp only [r_B_hearer, if_neg c1, if_neg c2, b1]; rfl, by simp (disch := omega) only [r_M_hearer, ltS, if_neg (cMn c1), if_neg (iM_n c2), rd_ne, b2]; rfl, h.t0⟩
