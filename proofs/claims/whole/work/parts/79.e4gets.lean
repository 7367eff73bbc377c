/-! slots that only serve a while -/
def Sc (a k : Nat) : Prop :=
  (13 ≤ a ∧ a ≤ 16) ∨ a = 49 ∨ a = 50 ∨ (a = 33 ∧ 7 ≤ k) ∨ ((a = 35 ∨ a = 38 ∨ a = 41 ∨ a = 44 ∨ a = 91) ∧ k = 2) ∨ (a = 37 ∨ a = 40 ∨ a = 43 ∨ a = 46 ∨ a = 93) ∨ a = 54 ∨
  ((a = 58 ∨ a = 66 ∨ a = 74 ∨ a = 82) ∧ 7 ≤ k) ∨ (a = 64 ∨ a = 65 ∨ a = 72 ∨ a = 73 ∨ a = 80 ∨ a = 81 ∨ a = 88 ∨ a = 89) ∨ (98 ≤ a ∧ a ≤ 103) ∨
  (115 ≤ a ∧ a ≤ 117) ∨ (126 ≤ a ∧ a ≤ 128) ∨ a = 144 ∨ a = 145 ∨ (a = 104 ∧ (k = 0 ∨ (17 ≤ k ∧ k ≤ 22) ∨ (60 ≤ k ∧ k ≤ 61)))
theorem uc_sc {a k : Nat} (h : uc a k = true) : ¬ Sc a k := by
  simp only [uc, uAir, uWal, uSpo, uSho, uByt, uFau, uHea, uEar, uCli, uVoi, uNoi, uBal, uWor, uLaw, Bool.or_eq_true, Bool.and_eq_true, beq_iff_eq, decide_eq_true_eq] at h
  unfold Sc
  intro q
  rcases q with q | q | q | q | q | q | q | q | q | q | q | q | q | q | q <;> omega
theorem Iv.scr {nL : Nat} {S S' : Sto} (h : Iv nL S) (f : ∀ a k, ¬ Sc a k → S' a k = S a k) : Iv nL S' := h.keep (fun a k hu => f a k (uc_sc hu))
theorem Iv.wv {nL : Nat} {S : Sto} (h : Iv nL S) : ∃ n, wInv S n ∧ cM S n S := by
  obtain ⟨⟨a1, a2, a3, a4, a5, a6, a7, a8⟩, ⟨n, b0, b1, b2, b3⟩, -⟩ := h
  refine ⟨n, ⟨b0, b1, fun j hj => ?_, a5, a6, a7⟩, a1, a2, a3, b2, fun j hj => ?_⟩
  · obtain ⟨g1, g2, g3, g4, g5, g6, g7, g8, g9, g10⟩ := b3 j hj
    rw [Nat.one_mul]
    exact ⟨g7, g8, g9, g10⟩
  · obtain ⟨g1, g2, g3, g4, g5, g6, g7, g8, g9, g10⟩ := b3 j hj
    rw [Nat.one_mul]
    exact ⟨g1, g2, g3, g4, g5⟩
theorem nI_p {m : Nat} (hm : m ≤ 1000000) : (nI m - 1).toInt = (m : Int) - 1 := by
  have e : (nI m).toInt = m := q_n (by omega)
  have e1 : (1 : Int32).toInt = 1 := by decide
  rw [q_sub (by omega) (by omega), e, e1]
theorem win_m {x : Int32} {m : Nat} (hm : m ≤ 1000000) : r_B_within x 0 (nI m - 1) = 0 ↔ ¬ (0 ≤ x.toInt ∧ x.toInt < m) := by
  rw [win_0, z_0, nI_p hm]
  constructor <;> intro h <;> omega
theorem isShot_0 {x : Int32} {m : Nat} {T : Sto} (hm : m ≤ 10) (t : T 104 12 = nI m) : r_M_isShot x T = 0 ↔ ¬ (0 ≤ x.toInt ∧ x.toInt < m) := by
  have e : (nI m).toInt = m := q_n (by omega)
  unfold r_M_isShot
  rw [t]
  by_cases c1 : x < 0
  · rw [if_pos c1]
    rw [q_lt, z_0] at c1
    exact ⟨fun _ => by omega, fun _ => rfl⟩
  · rw [if_neg c1]
    rw [q_lt, z_0] at c1
    by_cases c2 : nI m ≤ x
    · rw [if_pos c2]
      rw [q_le, e] at c2
      exact ⟨fun _ => by omega, fun _ => rfl⟩
    · rw [if_neg c2]
      rw [q_le, e] at c2
      exact ⟨fun q => absurd q (by decide), fun q => by omega⟩
theorem sub_j {x y : Int32} {c : Nat} (hc : c ≤ 1000) (hy : y = nI c) (h1 : (c : Int) ≤ x.toInt) (h2 : x.toInt ≤ c + 9) : ∃ j, j < 10 ∧ x - y = nI j ∧ x.toInt = c + j := by
  have e : (nI c).toInt = c := q_n (by omega)
  subst hy
  refine ⟨(x.toInt - c).toNat, by omega, ?_, by omega⟩
  rw [q_eq, q_sub (by omega) (by omega), e, q_n (by omega)]
  omega
theorem add_n {c n : Nat} (hc : c ≤ 1000) (hn : n ≤ 1000) : (nI c + nI n).toInt = c + n := by
  have e : (nI c).toInt = c := q_n (by omega)
  have e2 : (nI n).toInt = n := q_n (by omega)
  rw [q_add (by omega) (by omega), e, e2]
theorem st_gets {nL : Nat} {S : Sto} (h : Iv nL S) (x1 x2 x3 : Int32) : ∃ (r : Int32) (S1 : Sto) (S2 : Sto), r_B_gets x1 x2 x3 S = some (r, S1) ∧ r_M_gets x1 x2 x3 S1 = some (r, S2) ∧ Iv nL S2 := by
  obtain ⟨n, hw, hm⟩ := h.wv
  have hn := hw.1
  obtain ⟨m, m0, m1, m2, m3, -⟩ := h.2.2.2.1
  by_cases c1 : r_B_within x1 0 (S 0 4 - 1) = 0
  · have q : r_M_isShot x1 (sw S 104 0 0) = 0 := (isShot_0 m0 (by rw [rd_ne (by omega)]; exact m2)).mpr (by rw [m1, win_m (by omega)] at c1; exact c1)
    exact ⟨-1, S, sw S 104 0 0, by simp only [r_B_gets, if_pos c1], by simp only [r_M_gets, ltS, if_pos q], h.t0⟩
  have c1' : 0 ≤ x1.toInt ∧ x1.toInt < m := Classical.not_not.mp (fun q => c1 (by rw [m1, win_m (by omega)]; exact q))
  have cs : ∀ T : Sto, T 104 12 = nI m → ¬ r_M_isShot x1 T = 0 := fun T t q => (isShot_0 m0 t).mp q c1'
  by_cases c2 : r_B_isCell x2 = 0
  · have q := cs (sw S 104 0 0) (by rw [rd_ne (by omega)]; exact m2)
    exact ⟨-1, S, sw S 104 0 0, by simp only [r_B_gets, if_neg c1, if_pos c2], by simp only [r_M_gets, ltS, if_neg q, if_pos (cMp c2)], h.t0⟩
  obtain ⟨i, rfl, hi⟩ := q_nI c1'.1
  have him : i < m := by omega
  have i1 : inr (nI i) 10 = true := inr_nI (by omega) (by decide)
  have tn : (nI i).toNatClampNeg = i := q_tnI (by omega)
  obtain ⟨g1, g2, g3, g4, g5, g6, g7⟩ := m3 i him
  have e : 19 + 1 * i = 19 + i := by omega
  have hC := cell_n c2
  have ht : btw (S (19 + i) 1) 0 1000000000 := ⟨g6.1, by have := g6.2; omega⟩
  obtain ⟨S1, p1, p2, p3⟩ := listen_B (a1 := 19 + i) (S := S) (x := x2) hw g5 hC ht g7 (by omega) (fun _ _ _ => rfl) rfl rfl rfl rfl
  obtain ⟨T', r1, r2, r3⟩ := hears_M (T := sw S1 104 0 0) hw g5 hC ht g7 (hm.go (fun a k q => by rw [rd_ne (by omega), p2 a k (by omega)]))
  have hS : r_M_hearsShot (nI i) x2 (sw S1 104 0 0) = some T' := by
    simp (disch := omega) only [r_M_hearsShot, chk_t i1, tn, rd_ne, p2, g1, g2, g3, g4, r1, Option.bind_some]
  have q := cs (sw S1 104 0 0) (by rw [rd_ne (by omega), p2 _ _ (by omega)]; exact m2)
  have iv : Iv nL T' := h.scr (fun a k z => by unfold Sc at z; rw [r2 a k (by omega) (by omega), rd_ne (by omega), p2 a k (by omega)])
  have t5 : T' 104 5 = nI n := by rw [r2 _ _ (by omega) (by omega), rd_ne (by omega), p2 _ _ (by omega)]; exact hm.2.2.2.1
  obtain ⟨y1, y2, y3, y4, y5, y6, y7, y8⟩ := p3
  obtain ⟨w1, w2, w3, w4, w5, w6, w7⟩ := r3
  have ckn := ck_nn (x := x2) hw g5 hC ht g7
  suffices hk : ∃ r, r_B_gets (nI i) x2 x3 S = some (r, S1) ∧ r_M_gets (nI i) x2 x3 S1 = some (r, T') by
    obtain ⟨r, hk1, hk2⟩ := hk
    exact ⟨r, S1, T', hk1, hk2, iv⟩
  simp only [r_B_gets, if_neg c1, if_neg c2, chk_t i1, ltN, tn, e, p1, Option.bind_some, r_M_gets, ltS, if_neg q, if_neg (cMn c2), hS]
  by_cases k0 : x3 = 0
  · simp only [if_pos k0, y2, w1]
    exact ⟨_, rfl, rfl⟩
  by_cases k1 : x3 = 1
  · simp only [if_neg k0, if_pos k1, y3, w3]
    exact ⟨_, rfl, rfl⟩
  by_cases k2 : x3 = 2
  · simp only [if_neg k0, if_neg k1, if_pos k2, y4, w4]
    exact ⟨_, rfl, rfl⟩
  by_cases k3 : x3 = 3
  · simp only [if_neg k0, if_neg k1, if_neg k2, if_pos k3, y5, w3, w5, ckn]
    by_cases kb : S (19 + i) 2 = -1
    · simp only [if_pos kb]
      exact ⟨_, rfl, rfl⟩
    · simp only [if_neg kb]
      exact ⟨_, rfl, rfl⟩
  by_cases k4 : x3 = 4
  · simp only [if_neg k0, if_neg k1, if_neg k2, if_neg k3, if_pos k4, y6, w6]
    exact ⟨_, rfl, rfl⟩
  simp only [if_neg k0, if_neg k1, if_neg k2, if_neg k3, if_neg k4, t5]
  have a10 : (9 + nI n : Int32).toInt = 9 + n := add_n (c := 9) (by omega) (by omega)
  have a30 : (29 + nI n : Int32).toInt = 29 + n := add_n (c := 29) (by omega) (by omega)
  have a50 : (49 + nI n : Int32).toInt = 49 + n := add_n (c := 49) (by omega) (by omega)
  have l10 : (10 : Int32).toInt = 10 := by decide
  have l19 : (19 : Int32).toInt = 19 := by decide
  have l30 : (30 : Int32).toInt = 30 := by decide
  have l39 : (39 : Int32).toInt = 39 := by decide
  have l50 : (50 : Int32).toInt = 50 := by decide
  have l59 : (59 : Int32).toInt = 59 := by decide
  have b10 : r_B_within x3 10 19 = 0 ↔ ¬ (10 ≤ x3.toInt ∧ x3.toInt ≤ 19) := by rw [win_0, l10, l19]
  have b30 : r_B_within x3 30 39 = 0 ↔ ¬ (30 ≤ x3.toInt ∧ x3.toInt ≤ 39) := by rw [win_0, l30, l39]
  have b50 : r_B_within x3 50 59 = 0 ↔ ¬ (50 ≤ x3.toInt ∧ x3.toInt ≤ 59) := by rw [win_0, l50, l59]
  have d10 : r_M_isIn x3 10 (9 + nI n) = 0 ↔ ¬ (10 ≤ x3.toInt ∧ x3.toInt ≤ 9 + n) := by rw [iM_0, l10, a10]
  have d30 : r_M_isIn x3 30 (29 + nI n) = 0 ↔ ¬ (30 ≤ x3.toInt ∧ x3.toInt ≤ 29 + n) := by rw [iM_0, l30, a30]
  have d50 : r_M_isIn x3 50 (49 + nI n) = 0 ↔ ¬ (50 ≤ x3.toInt ∧ x3.toInt ≤ 49 + n) := by rw [iM_0, l50, a50]
  by_cases v10 : 10 ≤ x3.toInt ∧ x3.toInt ≤ 19
  · obtain ⟨j, j0, j1, j2⟩ := sub_j (c := 10) (y := 10) (by omega) rfl v10.1 (by omega)
    have ij : inr (nI j) 10 = true := inr_nI j0 (by decide)
    have tj : (nI j).toNatClampNeg = j := q_tnI (by omega)
    simp only [r_B_getsBack, if_neg (fun z => b10.mp z v10), j1, chk_t ij, tj, (y8 j j0).2.1, Option.bind_some]
    by_cases jn : j < n
    · rw [if_neg (fun z => d10.mp z (by omega)), (w7 j jn).2.1]
      exact ⟨_, rfl, rfl⟩
    · rw [if_pos (d10.mpr (by omega)), if_pos (d30.mpr (by omega)), if_pos (d50.mpr (by omega))]
      refine ⟨_, rfl, ?_⟩
      unfold wT
      rw [if_pos (wK_hi (by omega))]
  by_cases v30 : 30 ≤ x3.toInt ∧ x3.toInt ≤ 39
  · obtain ⟨j, j0, j1, j2⟩ := sub_j (c := 30) (y := 30) (by omega) rfl v30.1 (by omega)
    have ij : inr (nI j) 10 = true := inr_nI j0 (by decide)
    have tj : (nI j).toNatClampNeg = j := q_tnI (by omega)
    simp only [r_B_getsBack, if_pos (b10.mpr v10), if_neg (fun z => b30.mp z v30), j1, chk_t ij, tj, (y8 j j0).2.2, Option.bind_some]
    by_cases jn : j < n
    · rw [if_pos (d10.mpr (by omega)), if_neg (fun z => d30.mp z (by omega)), (w7 j jn).2.2]
      exact ⟨_, rfl, rfl⟩
    · rw [if_pos (d10.mpr (by omega)), if_pos (d30.mpr (by omega)), if_pos (d50.mpr (by omega))]
      refine ⟨_, rfl, ?_⟩
      unfold wQ
      rw [if_pos (wK_hi (by omega))]
  by_cases v50 : 50 ≤ x3.toInt ∧ x3.toInt ≤ 59
  · obtain ⟨j, j0, j1, j2⟩ := sub_j (c := 50) (y := 50) (by omega) rfl v50.1 (by omega)
    have ij : inr (nI j) 10 = true := inr_nI j0 (by decide)
    have tj : (nI j).toNatClampNeg = j := q_tnI (by omega)
    simp only [r_B_getsBack, if_pos (b10.mpr v10), if_pos (b30.mpr v30), if_neg (fun z => b50.mp z v50), j1, chk_t ij, tj, (y8 j j0).1, Option.bind_some]
    by_cases jn : j < n
    · rw [if_pos (d10.mpr (by omega)), if_pos (d30.mpr (by omega)), if_neg (fun z => d50.mp z (by omega)), (w7 j jn).1]
      exact ⟨_, rfl, rfl⟩
    · rw [if_pos (d10.mpr (by omega)), if_pos (d30.mpr (by omega)), if_pos (d50.mpr (by omega))]
      refine ⟨_, rfl, ?_⟩
      rw [wK_hi (by omega)]
  simp only [r_B_getsBack, if_pos (b10.mpr v10), if_pos (b30.mpr v30), if_pos (b50.mpr v50), Option.bind_some]
  rw [if_pos (d10.mpr (by omega)), if_pos (d30.mpr (by omega)), if_pos (d50.mpr (by omega))]
  exact ⟨_, rfl, rfl⟩
