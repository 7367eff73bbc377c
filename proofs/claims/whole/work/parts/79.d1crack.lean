theorem abs_i {a : Int32} (h : -2147483648 < a.toInt) : 0 ≤ (r_Ma_abs a).toInt ∧ a.toInt ≤ (r_Ma_abs a).toInt ∧ -a.toInt ≤ (r_Ma_abs a).toInt ∧ ((r_Ma_abs a).toInt = a.toInt ∨ (r_Ma_abs a).toInt = -a.toInt) := by
  unfold r_Ma_abs
  split
  · rename_i c
    rw [q_le, z_0] at c
    omega
  · rename_i c
    rw [q_le, z_0] at c
    rw [q_neg h]
    omega
theorem size_abs (a : Int32) : r_M_size a = r_Ma_abs a := by unfold r_M_size r_Ma_abs; rfl
theorem max_i (p q : Int32) : (r_Ma_max p q).toInt = max p.toInt q.toInt := by
  unfold r_Ma_max
  split
  · rename_i c; rw [q_lt] at c; omega
  · rename_i c; rw [q_lt] at c; omega
theorem max_le {p q : Int32} (c : p ≤ q) : r_Ma_max p q = q := by
  unfold r_Ma_max
  split
  · rfl
  · rename_i g
    rw [q_lt] at g
    rw [q_le] at c
    rw [q_eq]
    omega
theorem max_nl {p q : Int32} (c : ¬ p ≤ q) : r_Ma_max p q = p := by
  unfold r_Ma_max
  split
  · rename_i g
    rw [q_lt] at g
    rw [q_le] at c
    omega
  · rfl
theorem ckT_nn {s wx wy c0 t0 v x c : Int32} (h1 : btw s 1 9) (h2 : btw wx (-9) 9) (h3 : btw wy (-9) 9) (hx : isC x) (hc : isC c) (h4 : btw t0 0 1000000000) (h5 : btw v 1 99) : 0 ≤ (ckT s wx wy c0 t0 v x c).toInt := by
  have a1 := trv_nn h1 h2 h3 hc hx
  have a2 := far_nn c0 c
  obtain ⟨b1, b2⟩ := h4
  obtain ⟨b3, b4⟩ := h5
  have m1 := mbd (a := v.toInt) (b := (far c0 c).toInt) (A := 99) (B := 256) (by omega) (by omega) (by omega) (by omega)
  have m0 : 0 ≤ v.toInt * (far c0 c).toInt := Int.mul_nonneg (by omega) a2.1
  have e1 : (v * far c0 c).toInt = v.toInt * (far c0 c).toInt := q_mul (by omega) (by omega)
  have e2 : (v * far c0 c / 10).toInt = v.toInt * (far c0 c).toInt / 10 := by
    rw [q_divN (by omega) (by decide), e1, show (10 : Int32).toInt = 10 by decide]
  have e3 : (t0 + v * far c0 c / 10).toInt = t0.toInt + v.toInt * (far c0 c).toInt / 10 := by
    rw [q_add (by omega) (by omega), e2]
  unfold ckT
  rw [q_add (by omega) (by omega), e3]
  omega
theorem crack_one {a1 : Nat} {x c0 t0 b v s wx wy : Int32} {S T : Sto} (hx : isC x) (hc0 : isC c0) (hb : isC b) (hne : b ≠ c0) (h1 : btw s 1 9) (h2 : btw wx (-9) 9) (h3 : btw wy (-9) 9) (h4 : btw t0 0 1000000000) (h5 : btw v 1 99) (ha : a1 ≠ 13)
    (hS : S a1 0 = c0 ∧ S a1 1 = t0 ∧ S a1 3 = v ∧ S 1 0 = s ∧ S 1 1 = wx ∧ S 1 2 = wy) (hS2 : S a1 2 = b) (hT : T 104 1 = s ∧ T 104 2 = wx ∧ T 104 3 = wy) :
    ∃ S' T', r_Hd_listenCrack a1 x S = some S' ∧ r_M_findsCrack c0 t0 b v x T = some T' ∧ (∀ a j, ¬ (a = 13 ∧ (j = 3 ∨ j = 4 ∨ j = 5)) → S' a j = S a j) ∧ (∀ a j, ¬ (a = 104 ∧ (j = 19 ∨ j = 20 ∨ j = 21)) → T' a j = T a j) ∧ T' 104 19 = S' 13 3 ∧ T' 104 20 = S' 13 4 ∧ T' 104 21 = S' 13 5 ∧ 0 ≤ (S' 13 3).toInt := by
  obtain ⟨d1, d2⟩ := co_d hc0 hb
  obtain ⟨r1, r2⟩ := isC_co hc0
  have hbm : ¬ b = -1 := by
    intro q
    have := hb.1
    rw [q] at this
    revert this
    decide
  have hne' : ¬ b.toInt = c0.toInt := fun q => hne (q_eq.mpr q)
  have cb := hb
  have cc := hc0
  obtain ⟨cb1, cb2⟩ := cb
  obtain ⟨cc1, cc2⟩ := cc
  generalize edx : (b - b / 60 * 60) - (c0 - c0 / 60 * 60) = dx at d1
  generalize edy : b / 60 - c0 / 60 = dy at d2
  generalize ecol : c0 - c0 / 60 * 60 = col at r2 edx
  generalize erow : c0 / 60 = row at r1 edy
  have ecol' : c0 - row * 60 = col := by rw [← erow]; exact ecol
  have a1' := abs_i (a := dx) (by omega)
  have a2' := abs_i (a := dy) (by omega)
  have em := max_i (r_Ma_abs dx) (r_Ma_abs dy)
  generalize emm : r_Ma_max (r_Ma_abs dx) (r_Ma_abs dy) = m at em
  have hm : 0 < m.toInt := by omega
  have hm2 : m.toInt ≤ 59 := by omega
  have m0 : ¬ m = 0 := by rw [q_eq, z_0]; omega
  have hg : ∀ k : Int32, 0 ≤ k.toInt → k.toInt ≤ m.toInt → isC (ckC row col dx dy m k) := fun k k0 k1 =>
    step_cell (by unfold btw; omega) (by unfold btw; omega) (by omega) (by omega) (by omega) (by omega) hm hm2 (by omega) (by omega) (by omega) (by omega) k0 k1
  have ht : ∀ c, isC c → 0 ≤ (ckT s wx wy c0 t0 v x c).toInt := fun c hc => ckT_nn h1 h2 h3 hx hc h4 h5
  obtain ⟨S', T', e, q1, q2, q3, q4, q5, q6, q7, q8⟩ := crack_L (a1 := a1) hg ht hx hc0 hm hm2 ha (m.toInt.toNat + 1) fu 0 S (sw (sw (sw T 104 19 (-1)) 104 20 (-1)) 104 21 0) (by omega) (by have : fu = 5000 := rfl; omega) hS (by simp (disch := omega) only [rd_ne]; exact hT) (Or.inl ⟨rfl, by simp (disch := omega) only [rd_ne, sw_same]⟩)
  have z : nI 0 = 0 := rfl
  rw [z] at q1 q2
  have fB := far_B (S' 13 4) x
  have fM := (far_M q7 hx).1
  have fn := far_nn (S' 13 4) x
  have lB := lou_B (d := far (S' 13 4) x) fn.1 (by omega)
  have lM := lou_M (d := far (S' 13 4) x) fn.1 (by omega)
  refine ⟨sw S' 13 5 (2 * lou (far (S' 13 4) x)), sw T' 104 21 (2 * lou (far (S' 13 4) x)), ?_, ?_, fun a j h => ?_, fun a j h => ?_, ?_, ?_, ?_, ?_⟩
  · simp only [r_Hd_listenCrack, lt, ltS, hS.1, hS2, r_B_column, r_B_row, erow, ecol', edx, edy, emm, if_neg m0, q1, Option.bind_some, fB, lB]
  · by_cases cm : r_Ma_abs dx ≤ r_Ma_abs dy
    · rw [max_le cm] at emm
      subst emm
      simp only [r_M_findsCrack, lt, ltS, jn, if_neg hbm, erow, ecol', edx, edy, size_abs, if_pos cm, q2, Option.bind_some, q6, fM, lM]
    · rw [max_nl cm] at emm
      subst emm
      simp only [r_M_findsCrack, lt, ltS, jn, if_neg hbm, erow, ecol', edx, edy, size_abs, if_neg cm, q2, Option.bind_some, q6, fM, lM]
  · rw [rd_ne (by omega), q3 a j (by omega)]
  · rw [rd_ne (by omega), q4 a j (by omega), rd_ne (by omega), rd_ne (by omega), rd_ne (by omega)]
  · rw [rd_ne (by omega), rd_ne (by omega)]; exact q5
  · rw [rd_ne (by omega), rd_ne (by omega)]; exact q6
  · rw [sw_same, sw_same]
  · rw [rd_ne (by omega)]; exact q8
