/-! numbers: ints by their values -/
theorem q_le {a b : Int32} : a ≤ b ↔ a.toInt ≤ b.toInt := Int32.le_iff_toInt_le
theorem q_lt {a b : Int32} : a < b ↔ a.toInt < b.toInt := Int32.lt_iff_toInt_lt
theorem q_eq {a b : Int32} : a = b ↔ a.toInt = b.toInt := Int32.toInt_inj.symm
theorem q_lo (a : Int32) : -2147483648 ≤ a.toInt := by have := Int32.le_toInt a; simpa using this
theorem q_hi (a : Int32) : a.toInt < 2147483648 := by have := Int32.toInt_lt a; simpa using this
theorem q_bm {x : Int} (h1 : -2147483648 ≤ x) (h2 : x < 2147483648) : x.bmod 4294967296 = x := by
  rw [Int.bmod_eq_of_le] <;> omega
theorem q_add {a b : Int32} (h1 : -2147483648 ≤ a.toInt + b.toInt) (h2 : a.toInt + b.toInt < 2147483648) : (a + b).toInt = a.toInt + b.toInt := by
  rw [Int32.toInt_add]; exact q_bm h1 h2
theorem q_sub {a b : Int32} (h1 : -2147483648 ≤ a.toInt - b.toInt) (h2 : a.toInt - b.toInt < 2147483648) : (a - b).toInt = a.toInt - b.toInt := by
  rw [Int32.toInt_sub]; exact q_bm h1 h2
theorem q_mul {a b : Int32} (h1 : -2147483648 ≤ a.toInt * b.toInt) (h2 : a.toInt * b.toInt < 2147483648) : (a * b).toInt = a.toInt * b.toInt := by
  rw [Int32.toInt_mul]; exact q_bm h1 h2
theorem q_neg {a : Int32} (h : -2147483648 < a.toInt) : (-a).toInt = -a.toInt := by
  rw [Int32.toInt_neg]
  have := q_hi a
  exact q_bm (by omega) (by omega)
theorem q_div {a b : Int32} (h : 0 < b.toInt) : (a / b).toInt = a.toInt.tdiv b.toInt := by
  rw [Int32.toInt_div]
  have h1 := q_lo a
  have h2 := q_hi a
  have h3 : (a.toInt.tdiv b.toInt).natAbs ≤ a.toInt.natAbs := by rw [Int.natAbs_tdiv]; exact Nat.div_le_self _ _
  by_cases hb : b.toInt = 1
  · rw [hb, Int.tdiv_one]; exact q_bm h1 h2
  · refine q_bm ?_ ?_
    · omega
    · have : a.toInt.tdiv b.toInt ≠ 2147483648 := by
        intro e
        have h4 : a.toInt.natAbs = 2147483648 := by omega
        have h5 : (a.toInt.tdiv b.toInt).natAbs = 2147483648 := by rw [e]; rfl
        rw [Int.natAbs_tdiv, h4] at h5
        have h6 : 2 ≤ b.toInt.natAbs := by omega
        have h7 : 2147483648 / b.toInt.natAbs ≤ 2147483648 / 2 := Nat.div_le_div_left h6 (by decide)
        have h8 : Nat.div 2147483648 b.toInt.natAbs = 2147483648 / b.toInt.natAbs := rfl
        rw [h8] at h5
        omega
      omega
theorem q_divN {a b : Int32} (ha : 0 ≤ a.toInt) (h : 0 < b.toInt) : (a / b).toInt = a.toInt / b.toInt := by
  rw [q_div h, Int.tdiv_eq_ediv_of_nonneg ha]
theorem q_of {a : Int32} {n : Nat} (h : a.toInt = (n : Int)) : a = nI n := by
  have h2 := q_hi a
  rw [q_eq, nI_toInt (by omega)]; exact h
theorem q_nI {a : Int32} (h : 0 ≤ a.toInt) : ∃ n : Nat, a = nI n ∧ (n : Int) = a.toInt := ⟨a.toInt.toNat, q_of (by omega), by omega⟩
theorem q_n {n : Nat} (h : n < 2147483648) : (nI n).toInt = n := nI_toInt h
theorem q_tn {a : Int32} (h : 0 ≤ a.toInt) : (a.toNatClampNeg : Int) = a.toInt := by show ((a.toInt.toNat : Nat) : Int) = _; omega
theorem q_tnI {n : Nat} (h : n < 2147483648) : (nI n).toNatClampNeg = n := nI_clamp h
theorem q_inr {a : Int32} {n : Nat} (h1 : 0 ≤ a.toInt) (h2 : a.toInt < n) : inr a n = true := by
  unfold inr
  have e := q_tn h1
  simp only [Bool.not_eq_true', Bool.or_eq_false_iff, decide_eq_false_iff_not]
  refine ⟨fun q => ?_, by omega⟩
  have := q_lt.mp q
  rw [show (0 : Int32).toInt = 0 by decide] at this
  omega
