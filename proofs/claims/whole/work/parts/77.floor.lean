/-- the floor of a quotient, by toInt -/
theorem fl_int {x y : Int32} (hx : -2147483648 < x.toInt) (h : 0 < y.toInt) : (fl x y).toInt = x.toInt / y.toInt := by
  have ny : nz y = true := by
    unfold nz
    have : ¬ y = 0 := by rw [q_eq, z_0]; omega
    simp [this]
  have hq := q_div (a := x) h
  have hy := q_hi y
  have hx2 := q_hi x
  have ht : x.toInt = y.toInt * x.toInt.tdiv y.toInt + x.toInt.tmod y.toInt := (Int.mul_tdiv_add_tmod _ _).symm
  have e1 : (1 : Int32).toInt = 1 := by decide
  by_cases c0 : 0 ≤ x.toInt
  · have hm : (0 : Int32) ≤ x := by rw [q_le, z_0]; exact c0
    have ev : fl x y = x / y := by
      unfold fl r_M_floor
      simp only [chk_t ny, lt]
      by_cases c : x - x / y * y = 0
      · rw [if_pos c]; rfl
      · rw [if_neg c, if_pos hm]; rfl
    rw [ev, q_divN c0 h]
  · have hm : ¬ (0 : Int32) ≤ x := by rw [q_le, z_0]; exact c0
    have hneg : x.toInt.tdiv y.toInt = -((-x.toInt) / y.toInt) := by
      rw [show x.toInt = -(-x.toInt) by omega, Int.neg_tdiv, Int.tdiv_eq_ediv_of_nonneg (by omega)]
      simp
    have g1 := Int.mul_ediv_add_emod (-x.toInt) y.toInt
    have g2 := Int.emod_nonneg (-x.toInt) (show y.toInt ≠ 0 by omega)
    have g3 := Int.emod_lt_of_pos (-x.toInt) h
    have g4 : 0 ≤ (-x.toInt) / y.toInt := Int.ediv_nonneg (by omega) (by omega)
    have g5 : (-x.toInt) / y.toInt ≤ -x.toInt := Int.ediv_le_self _ (by omega)
    have e2 : (x / y).toInt = -((-x.toInt) / y.toInt) := by rw [hq, hneg]
    have e3 : (x / y * y).toInt = x.toInt + (-x.toInt) % y.toInt := by
      have : (x / y).toInt * y.toInt = x.toInt + (-x.toInt) % y.toInt := by
        rw [e2, Int.neg_mul, Int.mul_comm]
        omega
      rw [q_mul (by omega) (by omega), this]
    by_cases c : x - x / y * y = 0
    · have ev : fl x y = x / y := by
        unfold fl r_M_floor
        simp only [chk_t ny, lt]
        rw [if_pos c]; rfl
      have c' : x / y * y = x := (sub_z.mp c)
      rw [c'] at e3
      have z : (-x.toInt) % y.toInt = 0 := by omega
      rw [ev, e2]
      have : x.toInt = -((-x.toInt) / y.toInt) * y.toInt := by
        rw [Int.neg_mul, Int.mul_comm]; omega
      refine (Int.ediv_eq_of_eq_mul_left (by omega) this).symm
    · have ev : fl x y = x / y - 1 := by
        unfold fl r_M_floor
        simp only [chk_t ny, lt]
        rw [if_neg c, if_neg hm]; rfl
      have z : ¬ (-x.toInt) % y.toInt = 0 := by
        intro z
        apply c
        apply sub_z.mpr
        rw [q_eq, e3, z]
        omega
      rw [ev, q_sub (by omega) (by omega), e2, e1]
      have g6 : x.toInt = y.toInt * (-((-x.toInt) / y.toInt) - 1) + (y.toInt - (-x.toInt) % y.toInt) := by
        rw [Int.mul_sub, Int.mul_neg]
        omega
      have := Int.ediv_emod_unique (a := x.toInt) (b := y.toInt) (q := -((-x.toInt) / y.toInt) - 1) (r := y.toInt - (-x.toInt) % y.toInt) h
      exact ((this.mpr ⟨by omega, by omega, by omega⟩).1).symm
/-- a step on the way of a ball lies between its ends -/
theorem step_in {d k m : Int} (hm : 0 < m) (hk : 0 ≤ k) (hkm : k ≤ m) (d1 : -m ≤ d) (d2 : d ≤ m) : (0 ≤ d → 0 ≤ d * k / m ∧ d * k / m ≤ d) ∧ (d ≤ 0 → d ≤ d * k / m ∧ d * k / m ≤ 0) := by
  constructor
  · intro h
    refine ⟨Int.ediv_nonneg (Int.mul_nonneg h hk) (by omega), ?_⟩
    have : d * k ≤ d * m := Int.mul_le_mul_of_nonneg_left hkm h
    calc d * k / m ≤ d * m / m := Int.ediv_le_ediv hm this
      _ = d := Int.mul_ediv_cancel _ (by omega)
  · intro h
    have h1 : d * m ≤ d * k := Int.mul_le_mul_of_nonpos_left h hkm
    have h2 : d * k ≤ 0 := Int.mul_nonpos_of_nonpos_of_nonneg h hk
    constructor
    · calc d = d * m / m := (Int.mul_ediv_cancel _ (by omega)).symm
        _ ≤ d * k / m := Int.ediv_le_ediv hm h1
    · have := Int.ediv_le_ediv hm h2
      simpa using this
