/-! the calls that only set something or tell something -/
theorem Iv.t0 {nL : Nat} {S : Sto} (h : Iv nL S) : Iv nL (sw S 104 0 0) := h.keep (Ag.rf.sw rfl)
theorem rd_0 {S : Sto} {a k : Nat} {x y : Int32} {b j : Nat} (h : a ≠ b ∨ k ≠ j) : sw S a k x b j = S b j := by
  by_cases e : b = a
  · subst e
    rw [sw_k (fun q => (h.elim (fun z => z rfl) (fun z => z q.symm)))]
  · rw [sw_n e]
theorem st_comes {nL : Nat} {S : Sto} (h : Iv nL S) (x1 x2 x3 : Int32) : ∃ (r : Int32) (S2 : Sto), r_B_comes x1 x2 x3 S = some r ∧ r_M_comes x1 x2 x3 S = some (r, S2) ∧ Iv nL S2 := by
  have hv := h.t0
  obtain ⟨a1, a2, a3, a4, -⟩ := hv.1
  simp only [r_B_comes, r_M_comes, ltS]
  by_cases c1 : isC x1
  · by_cases c2 : isC x2
    · rw [if_neg (fun q => cell_0.mp q c1), if_neg (fun q => cM_0.mp q c1), if_neg (fun q => cell_0.mp q c2), if_neg (fun q => cM_0.mp q c2)]
      by_cases k0 : x3 = 0
      · rw [if_pos k0, if_pos k0, trv_B, trv_M c1 c2, a1, a2, a3]
        exact ⟨_, _, rfl, rfl, hv⟩
      · rw [if_neg k0, if_neg k0]
        by_cases k1 : x3 = 1
        · obtain ⟨f1, f2⟩ := far_nn x1 x2
          rw [if_pos k1, if_pos k1, far_B, (far_M c1 c2).1]
          simp only [Option.bind_some]
          rw [lou_B f1 (by omega), lou_M f1 (by omega)]
          exact ⟨_, _, rfl, rfl, hv⟩
        · rw [if_neg k1, if_neg k1]
          by_cases k2 : x3 = 2
          · rw [if_pos k2, if_pos k2, (sec_same x1 x2).1, (sec_same x1 x2).2]
            exact ⟨_, _, rfl, rfl, hv⟩
          · rw [if_neg k2, if_neg k2]
            exact ⟨_, _, rfl, rfl, hv⟩
    · rw [if_neg (fun q => cell_0.mp q c1), if_neg (fun q => cM_0.mp q c1), if_pos (cell_0.mpr c2), if_pos (cM_0.mpr c2)]
      exact ⟨_, _, rfl, rfl, hv⟩
  · rw [if_pos (cell_0.mpr c1), if_pos (cM_0.mpr c1)]
    exact ⟨_, _, rfl, rfl, hv⟩
theorem st_fault {nL : Nat} {S : Sto} (h : Iv nL S) (x1 : Int32) : ∃ (r : Int32) (S2 : Sto), r_B_fault x1 S = r ∧ r_M_fault x1 S = some (r, S2) ∧ Iv nL S2 := by
  have hv := h.t0
  obtain ⟨-, -, -, -, -, ⟨f1, f2⟩, -⟩ := hv
  simp only [r_B_fault, r_M_fault, ltS]
  rw [f1, f2]
  by_cases k0 : x1 = 0
  · rw [if_pos k0, if_pos k0]; exact ⟨_, _, rfl, rfl, h.t0⟩
  · rw [if_neg k0, if_neg k0]
    by_cases k1 : x1 = 1
    · rw [if_pos k1, if_pos k1]; exact ⟨_, _, rfl, rfl, h.t0⟩
    · rw [if_neg k1, if_neg k1]; exact ⟨_, _, rfl, rfl, h.t0⟩
theorem st_end {nL : Nat} {S : Sto} (h : Iv nL S) (x1 : Int32) : ∃ (r : Int32) (S1 : Sto) (S2 : Sto), r_B_end x1 S = some (r, S1) ∧ r_M_end x1 S1 = some (r, S2) ∧ Iv nL S2 := by
  obtain ⟨h1, h2, h3, h4, ⟨n, b0, b1, b2, b3⟩, h6, h7, h8, h9, h10, h11, h12, h13, h14⟩ := id h
  simp only [r_B_end]
  by_cases c : r_B_within x1 0 (S 29 1) = 0
  · rw [if_pos c]
    refine ⟨0, S, sw S 104 0 0, rfl, ?_, h.t0⟩
    simp only [r_M_end, ltS]
    rw [if_pos]
    rw [iM_B]
    show r_B_within x1 0 (S 104 27) = 0
    rw [b2, ← b1]; exact c
  · rw [if_neg c]
    have c2 := win_n c
    rw [z_0, b1, q_n (by omega)] at c2
    obtain ⟨m, hm, hm2⟩ := q_nI c2.1
    refine ⟨1, sw S 29 1 x1, sw (sw (sw S 29 1 x1) 104 0 0) 104 27 x1, rfl, ?_, ?_⟩
    · simp only [r_M_end, ltS]
      rw [if_neg]
      rw [iM_B]
      show ¬ r_B_within x1 0 (S 104 27) = 0
      rw [b2, ← b1]; exact c
    · have ag : ∀ u : Nat → Nat → Bool, u 29 1 = false → u 104 0 = false → u 104 27 = false → Ag u S (sw (sw (sw S 29 1 x1) 104 0 0) 104 27 x1) := fun u e1 e2 e3 => ((Ag.rf.sw e1).sw e2).sw e3
      refine ⟨h1.keep (ag _ rfl rfl rfl), h2.keep (ag _ rfl rfl rfl), h3.keep (ag _ rfl rfl rfl), h4.keep (ag _ rfl rfl rfl), ⟨m, by omega, ?_, ?_, fun i hi => ?_⟩, h6.keep (ag _ rfl rfl rfl), h7.keep (ag _ rfl rfl rfl), h8.keep (ag _ rfl rfl rfl), h9.keep (ag _ rfl rfl rfl), h10.keep (ag _ rfl rfl rfl), h11.keep (ag _ rfl rfl rfl), h12.keep (ag _ rfl rfl rfl), h13.keep (ag _ rfl rfl rfl), h14.keep (ag _ rfl rfl rfl)⟩
      · exact hm
      · exact hm
      · exact b3 i (by omega)
