theorem nI_20 : ∀ m, m < 4 → ∀ n, n < 20 → 20 * nI m + nI n = nI (20 * m + n) := by
  intro m hm n hn
  have e1 : (20 : Int32).toInt = 20 := by decide
  have e2 : (nI m).toInt = m := q_n (by omega)
  have e3 : (nI n).toInt = n := q_n (by omega)
  have e4 : (20 * nI m).toInt = 20 * m := by rw [q_mul (by rw [e1]; omega) (by rw [e1]; omega), e1, e2]
  refine q_of ?_
  rw [q_add (by omega) (by omega)]
  omega
theorem nI_10 : ∀ m, m < 4 → ∀ n, n < 10 → 10 * nI m + nI n = nI (10 * m + n) := by
  intro m hm n hn
  have e1 : (10 : Int32).toInt = 10 := by decide
  have e2 : (nI m).toInt = m := q_n (by omega)
  have e3 : (nI n).toInt = n := q_n (by omega)
  have e4 : (10 * nI m).toInt = 10 * m := by rw [q_mul (by rw [e1]; omega) (by rw [e1]; omega), e1, e2]
  refine q_of ?_
  rw [q_add (by omega) (by omega)]
  omega
theorem nI_m1 {n : Nat} (h : n + 1 < 2147483648) : nI (n + 1) - 1 = nI n := by
  have e1 : (1 : Int32).toInt = 1 := by decide
  have e2 : (nI (n + 1)).toInt = ((n + 1 : Nat) : Int) := q_n h
  refine q_of ?_
  rw [q_sub (by omega) (by omega)]
  omega
theorem st_click {nL : Nat} {S : Sto} (h : Iv nL S) (x1 x2 : Int32) : ∃ (r : Int32) (S1 : Sto) (S2 : Sto), r_B_click x1 x2 S = some (r, S1) ∧ r_M_click x1 x2 S1 = some (r, S2) ∧ Iv nL S2 := by
  obtain ⟨h1, h2, h3, h4, h5, h6, h7, h8, h9, h10, h11, h12, h13, h14⟩ := id h
  have n0 : ¬ (1 : Int32) = 0 := by decide
  by_cases c1 : r_B_within x1 0 3 = 0
  · exact ⟨-1, S, sw S 104 0 0, by simp only [r_B_click, if_pos c1], by simp only [r_M_click, ltS, if_pos (tp_p c1)], h.t0⟩
  by_cases c2 : r_B_within x2 0 199999 = 0
  · exact ⟨-1, S, sw S 104 0 0, by simp only [r_B_click, if_neg c1, if_pos c2], by simp only [r_M_click, ltS, if_neg (tp_n c1), if_pos (iM_p c2)], h.t0⟩
  have w := win_n c1
  rw [z_0, show (3 : Int32).toInt = 3 by decide] at w
  obtain ⟨m, e, em⟩ := q_nI w.1
  subst e
  have hm : m < 4 := by omega
  have m4 : m = 0 ∨ m = 1 ∨ m = 2 ∨ m = 3 := by omega
  have i1 : inr (nI m) 4 = true := inr_nI (by omega) (by decide)
  have tm : (nI m).toNatClampNeg = m := q_tnI (by omega)
  obtain ⟨n, b0, b1, b2, b3, b4⟩ := h9 m hm
  have tn : (nI n).toNatClampNeg = n := q_tnI (by omega)
  have hx2 : btw x2 0 199999 := win_b c2 (by decide) (by decide)
  have key : n < 20 → (∀ i, i < n → (S (58 + 8 * m + 1) i).toInt < x2.toInt) → Iv nL (sw (sw (sw (sw (sw S (58 + 8 * m + 1) n x2) (58 + 8 * m) 3 (nI (n + 1))) 104 0 0) 136 (20 * m + n) x2) 135 m (nI (n + 1))) := by
    intro hn hs
    have ag : ∀ u : Nat → Nat → Bool, u ((58 + 8 * m + 1)) n = false → u ((58 + 8 * m)) 3 = false → u 104 0 = false → u 136 ((20 * m + n)) = false → u 135 m = false → Ag u S (sw (sw (sw (sw (sw S (58 + 8 * m + 1) n x2) (58 + 8 * m) 3 (nI (n + 1))) 104 0 0) 136 (20 * m + n) x2) 135 m (nI (n + 1))) := fun u e0 e1 e2 e3 e4 => (((((Ag.rf.sw e0).sw e1).sw e2).sw e3).sw e4)
    refine ⟨h1.keep (ag _ (by rcases m4 with e | e | e | e <;> subst e <;> rfl) (by rcases m4 with e | e | e | e <;> subst e <;> rfl) rfl rfl rfl), h2.keep (ag _ (by rcases m4 with e | e | e | e <;> subst e <;> rfl) (by rcases m4 with e | e | e | e <;> subst e <;> rfl) rfl rfl rfl), h3.keep (ag _ (by rcases m4 with e | e | e | e <;> subst e <;> rfl) (by rcases m4 with e | e | e | e <;> subst e <;> rfl) rfl rfl rfl), h4.keep (ag _ (by rcases m4 with e | e | e | e <;> subst e <;> rfl) (by rcases m4 with e | e | e | e <;> subst e <;> rfl) rfl rfl rfl), h5.keep (ag _ (by rcases m4 with e | e | e | e <;> subst e <;> rfl) (by rcases m4 with e | e | e | e <;> subst e <;> rfl) rfl rfl rfl), h6.keep (ag _ (by rcases m4 with e | e | e | e <;> subst e <;> rfl) (by rcases m4 with e | e | e | e <;> subst e <;> rfl) rfl rfl rfl), h7.keep (ag _ (by rcases m4 with e | e | e | e <;> subst e <;> rfl) (by rcases m4 with e | e | e | e <;> subst e <;> rfl) rfl rfl rfl), h8.keep (ag _ (by rcases m4 with e | e | e | e <;> subst e <;> rfl) (by rcases m4 with e | e | e | e <;> subst e <;> rfl) rfl rfl rfl), fun t ht => ?_, h10.keep (ag _ (by rcases m4 with e | e | e | e <;> subst e <;> rfl) (by rcases m4 with e | e | e | e <;> subst e <;> rfl) rfl rfl rfl), h11.keep (ag _ (by rcases m4 with e | e | e | e <;> subst e <;> rfl) (by rcases m4 with e | e | e | e <;> subst e <;> rfl) rfl rfl rfl), h12.keep (ag _ (by rcases m4 with e | e | e | e <;> subst e <;> rfl) (by rcases m4 with e | e | e | e <;> subst e <;> rfl) rfl rfl rfl), h13.keep (ag _ (by rcases m4 with e | e | e | e <;> subst e <;> rfl) (by rcases m4 with e | e | e | e <;> subst e <;> rfl) rfl rfl rfl), h14.keep (ag _ (by rcases m4 with e | e | e | e <;> subst e <;> rfl) (by rcases m4 with e | e | e | e <;> subst e <;> rfl) rfl rfl rfl)⟩
    by_cases e : t = m
    · subst e
      refine ⟨n + 1, by omega, ?_, ?_, fun i hi => ?_, fun i j hi hj => ?_⟩
      · simp (disch := omega) only [rd_ne, sw_same]
      · simp (disch := omega) only [rd_ne, sw_same]
      · by_cases e : i = n
        · subst e
          simp (disch := omega) only [rd_ne, sw_same]
          exact ⟨trivial, hx2⟩
        · simp (disch := omega) only [rd_ne]
          exact b3 i (by omega)
      · by_cases e : j = n
        · subst e
          simp (disch := omega) only [rd_ne, sw_same]
          exact hs i hi
        · simp (disch := omega) only [rd_ne]
          exact b4 i j hi (by omega)
    · obtain ⟨n', d0, d1, d2, d3, d4⟩ := h9 t ht
      refine ⟨n', d0, ?_, ?_, fun i hi => ?_, fun i j hi hj => ?_⟩
      · simp (disch := omega) only [rd_ne, d1]
      · simp (disch := omega) only [rd_ne, d2]
      · simp (disch := omega) only [rd_ne]
        exact d3 i hi
      · simp (disch := omega) only [rd_ne]
        exact d4 i j hi hj
  rcases Nat.eq_zero_or_pos n with en | en
  · subst en
    have g1 : nI 0 < 20 := by decide
    have g2 : nI 0 = 0 := rfl
    have g3 : ¬ nI 0 = 20 := by decide
    have g4 : nI 0 ≤ 0 := by decide
    have l1 := nI_20 m hm 0 (by omega)
    have i2 : inr (nI (20 * m + 0)) 80 = true := inr_nI (by omega) (by decide)
    have i3 : inr (nI 0) 20 = true := inr_nI (by omega) (by decide)
    have t2 : (nI (20 * m + 0)).toNatClampNeg = 20 * m + 0 := q_tnI (by omega)
    have z1 : nI 0 + 1 = nI (0 + 1) := by decide
    refine ⟨nI (0 + 1), sw (sw S (58 + 8 * m + 1) 0 x2) (58 + 8 * m) 3 (nI (0 + 1)), sw (sw (sw (sw (sw S (58 + 8 * m + 1) 0 x2) (58 + 8 * m) 3 (nI (0 + 1))) 104 0 0) 136 (20 * m + 0) x2) 135 m (nI (0 + 1)), ?_, ?_, key (by omega) (fun i hi => by omega)⟩
    · simp (disch := omega) only [r_B_click, r_Tp_addClick, jn, ltN, ltS, if_neg c1, if_neg c2, chk_t i1, tm, b1, if_pos g2, if_neg n0, if_pos g1, chk_t i3, tn, rd_ne, sw_same, z1, Option.bind_some]
    · simp (disch := omega) only [r_M_click, jn, ltS, if_neg (tp_n c1), if_neg (iM_n c2), chk_t i1, tm, rd_ne, b2, if_neg g3, if_pos g4, l1, chk_t i2, t2, sw_same, z1]
  obtain ⟨p, ep⟩ : ∃ p, n = p + 1 := ⟨n - 1, by omega⟩
  subst ep
  have s1 : nI (p + 1) - 1 = nI p := nI_m1 (by omega)
  have tp : (nI p).toNatClampNeg = p := q_tnI (by omega)
  have i3 : inr (nI p) 20 = true := inr_nI (by omega) (by decide)
  have g2 : ¬ nI (p + 1) = 0 := fun q => by have := (eq_lit (m := 0) (by omega) (by omega)).mp q; omega
  by_cases c9 : p + 1 < 20
  rotate_left
  · have en : p = 19 := by omega
    subst en
    have g1 : ¬ nI (19 + 1) < 20 := by decide
    have g3 : nI (19 + 1) = 20 := rfl
    refine ⟨-1, S, sw S 104 0 0, ?_, ?_, h.t0⟩
    · by_cases c : x2 ≤ S (58 + 8 * m + 1) 19
      · simp (disch := omega) only [r_B_click, r_Tp_addClick, jn, ltN, ltS, if_neg c1, if_neg c2, chk_t i1, tm, b1, if_neg g2, s1, chk_t i3, tp, if_pos c, ite_true, Option.bind_some]
      · simp (disch := omega) only [r_B_click, r_Tp_addClick, jn, ltN, ltS, if_neg c1, if_neg c2, chk_t i1, tm, b1, if_neg g2, s1, chk_t i3, tp, if_neg c, if_neg n0, if_neg g1, Option.bind_some]
    · simp (disch := omega) only [r_M_click, jn, ltS, if_neg (tp_n c1), if_neg (iM_n c2), chk_t i1, tm, rd_ne, b2, if_pos g3]
  have g1 : nI (p + 1) < 20 := (lt_lit (m := 20) (by omega) (by omega)).mpr c9
  have g3 : ¬ nI (p + 1) = 20 := fun q => by have := (eq_lit (m := 20) (by omega) (by omega)).mp q; omega
  have g4 : ¬ nI (p + 1) ≤ 0 := by
    rw [q_le, z_0, q_n (by omega)]
    omega
  have l1 := nI_20 m hm (p + 1) (by omega)
  have l2 : nI (20 * m + (p + 1)) - 1 = nI (20 * m + p) := nI_m1 (n := 20 * m + p) (by omega)
  have i2 : inr (nI (20 * m + (p + 1))) 80 = true := inr_nI (by omega) (by decide)
  have i4 : inr (nI (20 * m + p)) 80 = true := inr_nI (by omega) (by decide)
  have i5 : inr (nI (p + 1)) 20 = true := inr_nI (by omega) (by decide)
  have t2 : (nI (20 * m + (p + 1))).toNatClampNeg = 20 * m + (p + 1) := q_tnI (by omega)
  have t4 : (nI (20 * m + p)).toNatClampNeg = 20 * m + p := q_tnI (by omega)
  have f1 := (b3 p (by omega)).1
  by_cases c : x2 ≤ S (58 + 8 * m + 1) p
  · have c' : ¬ S (58 + 8 * m + 1) p < x2 := by rw [q_lt]; rw [q_le] at c; omega
    refine ⟨-1, S, sw S 104 0 0, ?_, ?_, h.t0⟩
    · simp (disch := omega) only [r_B_click, r_Tp_addClick, jn, ltN, ltS, if_neg c1, if_neg c2, chk_t i1, tm, b1, if_neg g2, s1, chk_t i3, tp, if_pos c, ite_true, Option.bind_some]
    · simp (disch := omega) only [r_M_click, jn, ltS, if_neg (tp_n c1), if_neg (iM_n c2), chk_t i1, tm, rd_ne, b2, if_neg g3, if_neg g4, l1, l2, chk_t i4, t4, f1, if_neg c']
  · have c' : S (58 + 8 * m + 1) p < x2 := by rw [q_lt]; rw [q_le] at c; omega
    refine ⟨nI (p + 1 + 1), sw (sw S (58 + 8 * m + 1) (p + 1) x2) (58 + 8 * m) 3 (nI (p + 1 + 1)), sw (sw (sw (sw (sw S (58 + 8 * m + 1) (p + 1) x2) (58 + 8 * m) 3 (nI (p + 1 + 1))) 104 0 0) 136 (20 * m + (p + 1)) x2) 135 m (nI (p + 1 + 1)), ?_, ?_, key (by omega) (fun i hi => ?_)⟩
    · simp (disch := omega) only [r_B_click, r_Tp_addClick, jn, ltN, ltS, if_neg c1, if_neg c2, chk_t i1, tm, b1, if_neg g2, s1, chk_t i3, tp, if_neg c, if_neg n0, if_pos g1, chk_t i5, tn, rd_ne, sw_same, nI_1, Option.bind_some]
    · simp (disch := omega) only [r_M_click, jn, ltS, if_neg (tp_n c1), if_neg (iM_n c2), chk_t i1, tm, rd_ne, b2, if_neg g3, if_neg g4, l1, l2, chk_t i4, t4, f1, if_pos c', chk_t i2, t2, sw_same, nI_1]
    · rw [q_lt] at c'
      by_cases e : i = p
      · subst e; exact c'
      · have := b4 i p (by omega) (by omega)
        omega
