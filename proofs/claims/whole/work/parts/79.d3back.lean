/-- a crossing that is there is a cell -/
theorem bkK_c {w lo hi r1 r2 p1 p2 : Int32} (b1 : btw r1 (-59) 59) (b2 : btw r2 (-59) 59) (q1 : btw p1 0 59) (q2 : btw p2 0 59) (hw : btw w 0 59) (hl : btw lo 0 59) (hh : btw hi 0 59) (c1 : 0 < r1 * r2) (c3 : p1 * r_Ma_abs r2 + p2 * r_Ma_abs r1 ≤ hi * r_Ma_abs (r1 + r2)) :
    isC (60 * w + (p1 * r_Ma_abs r2 + p2 * r_Ma_abs r1) / r_Ma_abs (r1 + r2)) ∧ isC (60 * ((p1 * r_Ma_abs r2 + p2 * r_Ma_abs r1) / r_Ma_abs (r1 + r2)) + w) := by
  have n0 := (abs_nz b1 b2 c1).2
  rw [q_eq, z_0] at n0
  obtain ⟨b1, b1'⟩ := b1
  obtain ⟨b2, b2'⟩ := b2
  obtain ⟨q1, q1'⟩ := q1
  obtain ⟨q2, q2'⟩ := q2
  obtain ⟨w1, w2⟩ := hw
  obtain ⟨hh1, hh2⟩ := hh
  have e : (r1 + r2).toInt = r1.toInt + r2.toInt := q_add (by omega) (by omega)
  have a := abs_i (a := r1 + r2) (by omega)
  have a1 := abs_i (a := r1) (by omega)
  have a2 := abs_i (a := r2) (by omega)
  generalize r_Ma_abs (r1 + r2) = v5 at *
  generalize r_Ma_abs r1 = u1 at *
  generalize r_Ma_abs r2 = u2 at *
  have m1 := mbd (a := p1.toInt) (b := u2.toInt) (A := 59) (B := 59) (by omega) (by omega) (by omega) (by omega)
  have m2 := mbd (a := p2.toInt) (b := u1.toInt) (A := 59) (B := 59) (by omega) (by omega) (by omega) (by omega)
  have m3 := mbd (a := hi.toInt) (b := v5.toInt) (A := 59) (B := 118) (by omega) (by omega) (by omega) (by omega)
  have k1 : 0 ≤ p1.toInt * u2.toInt := Int.mul_nonneg (by omega) (by omega)
  have k2 : 0 ≤ p2.toInt * u1.toInt := Int.mul_nonneg (by omega) (by omega)
  have e1 : (p1 * u2).toInt = p1.toInt * u2.toInt := q_mul (by omega) (by omega)
  have e2 : (p2 * u1).toInt = p2.toInt * u1.toInt := q_mul (by omega) (by omega)
  have e3 : (hi * v5).toInt = hi.toInt * v5.toInt := q_mul (by omega) (by omega)
  have e4 : (p1 * u2 + p2 * u1).toInt = p1.toInt * u2.toInt + p2.toInt * u1.toInt := by rw [q_add (by omega) (by omega), e1, e2]
  rw [q_le, e3] at c3
  generalize p1 * u2 + p2 * u1 = v6 at *
  have e5 : (v6 / v5).toInt = v6.toInt / v5.toInt := q_divN (by omega) (by omega)
  have g1 : 0 ≤ v6.toInt / v5.toInt := Int.ediv_nonneg (by omega) (by omega)
  have g2 : v6.toInt / v5.toInt ≤ hi.toInt := by
    calc v6.toInt / v5.toInt ≤ hi.toInt * v5.toInt / v5.toInt := Int.ediv_le_ediv (by omega) c3
      _ = hi.toInt := Int.mul_ediv_cancel _ (by omega)
  generalize v6 / v5 = v7 at *
  have e60 : (60 : Int32).toInt = 60 := by decide
  have f1 : (60 * w).toInt = 60 * w.toInt := by rw [q_mul (by rw [e60]; omega) (by rw [e60]; omega), e60]
  have f2 : (60 * v7).toInt = 60 * v7.toInt := by rw [q_mul (by rw [e60]; omega) (by rw [e60]; omega), e60]
  unfold isC
  rw [q_add (by omega) (by omega), q_add (by omega) (by omega), f1, f2]
  omega
theorem isC_m {x : Int32} (h : isC x) : ¬ x = -1 := by
  intro q
  have := h.1
  rw [q] at this
  revert this
  decide
/-- what the reference keeps of a wall's echo -/
def bkT (i : Nat) (t K d s damp : Int32) (T : Sto) : Sto :=
  if K = -1 then sw (sw (sw T 117 i (-1)) 115 i (-1)) 116 i (-1)
  else sw (sw (sw (sw (sw (sw (sw T 117 i (-1)) 115 i (-1)) 116 i (-1)) 117 i K) 115 i (t + s * d)) 116 i ((lou d * (100 - damp)) / 100)) 104 22 (T 104 22 + 1)
theorem back_M {i : Nat} {t up w lo hi damp s r1 r2 p1 p2 : Int32} {T : Sto} (hi10 : i < 10) (b1 : btw r1 (-59) 59) (b2 : btw r2 (-59) 59) (q1 : btw p1 0 59) (q2 : btw p2 0 59) (hw : btw w 0 59) (hl : btw lo 0 59) (hh : btw hi 0 59) (t1 : T 105 i = up) (t2 : T 106 i = w) (t3 : T 107 i = lo) (t4 : T 108 i = hi) (t5 : T 109 i = damp) (t6 : T 104 1 = s) :
    r_M_findsBack (nI i) t r1 r2 p1 p2 T = some (bkT i t (bkK up w lo hi r1 r2 p1 p2) (dst (r1 + r2) (p2 - p1)) s damp T) := by
  have i1 : inr (nI i) 10 = true := inr_nI hi10 (by decide)
  have tn : (nI i).toNatClampNeg = i := q_tnI (by omega)
  unfold bkT
  by_cases c : 0 < r1 * r2
  · obtain ⟨g1, g2, g3⟩ := (same_side b1 b2).mp c
    obtain ⟨nn, n0⟩ := abs_nz b1 b2 c
    have em : p1 * r_Ma_abs (r1 + r2) + (p2 - p1) * r_Ma_abs r1 = p1 * r_Ma_abs r2 + p2 * r_Ma_abs r1 := by
      rw [abs_add b1 b2 g3]; exact mid_same.symm
    by_cases c2 : p1 * r_Ma_abs r2 + p2 * r_Ma_abs r1 < lo * r_Ma_abs (r1 + r2)
    · have eK : bkK up w lo hi r1 r2 p1 p2 = -1 := by unfold bkK; rw [if_pos c, if_pos c2]
      rw [eK, if_pos rfl]
      simp (disch := omega) only [r_M_findsBack, chk_t i1, tn, ltS, lt, if_pos c, size_abs, em, rd_ne, t3, if_pos c2]
    · by_cases c3 : p1 * r_Ma_abs r2 + p2 * r_Ma_abs r1 ≤ hi * r_Ma_abs (r1 + r2)
      · have hc := bkK_c b1 b2 q1 q2 hw hl hh c c3
        have hd := dst_B (r1 + r2) (p2 - p1)
        have hdM : r_M_distance (r1 + r2) (p2 - p1) = some (dst (r1 + r2) (p2 - p1)) := by
          obtain ⟨b1, b1'⟩ := b1
          obtain ⟨b2, b2'⟩ := b2
          obtain ⟨q1, q1'⟩ := q1
          obtain ⟨q2, q2'⟩ := q2
          have e1 : (r1 + r2).toInt = r1.toInt + r2.toInt := q_add (by omega) (by omega)
          have e2 : (p2 - p1).toInt = p2.toInt - p1.toInt := q_sub (by omega) (by omega)
          have s1 := sq_le (x := (r1 + r2).toInt) (m := 118) (by omega) (by omega)
          have s2 := sq_le (x := (p2 - p1).toInt) (m := 59) (by omega) (by omega)
          have s3 := sq_small (a := r1 + r2) (b := p2 - p1) (by omega) (by omega) (by omega) (by omega) (by omega)
          exact dst_M s3.1 s3.2
        have lM := lou_M (d := dst (r1 + r2) (p2 - p1)) hd.2.1 (by omega)
        by_cases u : up = 0
        · have eK : bkK up w lo hi r1 r2 p1 p2 = 60 * w + (p1 * r_Ma_abs r2 + p2 * r_Ma_abs r1) / r_Ma_abs (r1 + r2) := by unfold bkK; rw [if_pos c, if_neg c2, if_pos c3, if_pos u]
          rw [eK, if_neg (isC_m hc.1)]
          simp (disch := omega) only [r_M_findsBack, chk_t i1, tn, ltS, lt, jn, if_pos c, size_abs, em, rd_ne, t1, t2, t3, t4, t5, t6, if_neg c2, if_pos c3, hdM, Option.bind_some, chk_t nn, if_pos u, lM]
        · have eK : bkK up w lo hi r1 r2 p1 p2 = 60 * ((p1 * r_Ma_abs r2 + p2 * r_Ma_abs r1) / r_Ma_abs (r1 + r2)) + w := by unfold bkK; rw [if_pos c, if_neg c2, if_pos c3, if_neg u]
          rw [eK, if_neg (isC_m hc.2)]
          simp (disch := omega) only [r_M_findsBack, chk_t i1, tn, ltS, lt, jn, if_pos c, size_abs, em, rd_ne, t1, t2, t3, t4, t5, t6, if_neg c2, if_pos c3, hdM, Option.bind_some, chk_t nn, if_neg u, lM]
      · have eK : bkK up w lo hi r1 r2 p1 p2 = -1 := by unfold bkK; rw [if_pos c, if_neg c2, if_neg c3]
        rw [eK, if_pos rfl]
        simp (disch := omega) only [r_M_findsBack, chk_t i1, tn, ltS, lt, if_pos c, size_abs, em, rd_ne, t3, t4, if_neg c2, if_neg c3]
  · have eK : bkK up w lo hi r1 r2 p1 p2 = -1 := by unfold bkK; rw [if_neg c]
    rw [eK, if_pos rfl]
    simp (disch := omega) only [r_M_findsBack, chk_t i1, tn, ltS, lt, if_neg c]
