theorem same_side {r1 r2 : Int32} (b1 : btw r1 (-59) 59) (b2 : btw r2 (-59) 59) : 0 < r1 * r2 ↔ (¬ r1 = 0 ∧ ¬ r2 = 0 ∧ (0 ≤ r1 ↔ 0 ≤ r2)) := by
  have m := mbd b1.1 b1.2 b2.1 b2.2
  have e : (r1 * r2).toInt = r1.toInt * r2.toInt := q_mul (by omega) (by omega)
  rw [q_lt, z_0, e, q_eq, q_eq, z_0, q_le, q_le, z_0]
  rcases Int.lt_trichotomy r1.toInt 0 with h | h | h
  · rcases Int.lt_trichotomy r2.toInt 0 with g | g | g
    · have := Int.mul_pos_of_neg_of_neg h g
      omega
    · rw [g, Int.mul_zero]; omega
    · have := Int.mul_neg_of_neg_of_pos h g
      omega
  · rw [h, Int.zero_mul]; omega
  · rcases Int.lt_trichotomy r2.toInt 0 with g | g | g
    · have := Int.mul_neg_of_pos_of_neg h g
      omega
    · rw [g, Int.mul_zero]; omega
    · have := Int.mul_pos h g
      omega
theorem abs_add {r1 r2 : Int32} (b1 : btw r1 (-59) 59) (b2 : btw r2 (-59) 59) (hs : 0 ≤ r1 ↔ 0 ≤ r2) : r_Ma_abs (r1 + r2) = r_Ma_abs r1 + r_Ma_abs r2 := by
  obtain ⟨b1, b1'⟩ := b1
  obtain ⟨b2, b2'⟩ := b2
  have e : (r1 + r2).toInt = r1.toInt + r2.toInt := q_add (by omega) (by omega)
  rw [q_le, q_le, z_0] at hs
  unfold r_Ma_abs
  by_cases h : 0 ≤ r1.toInt
  · have g := hs.mp h
    rw [if_pos (by rw [q_le, z_0]; omega), if_pos (by rw [q_le, z_0]; omega), if_pos (by rw [q_le, z_0]; omega)]
  · have g : ¬ 0 ≤ r2.toInt := fun q => h (hs.mpr q)
    rw [if_neg (by rw [q_le, z_0]; omega), if_neg (by rw [q_le, z_0]; omega), if_neg (by rw [q_le, z_0]; omega)]
    have n1 : (-r1).toInt = -r1.toInt := q_neg (by omega)
    have n2 : (-r2).toInt = -r2.toInt := q_neg (by omega)
    have n3 : (-(r1 + r2)).toInt = -(r1.toInt + r2.toInt) := by rw [q_neg (by omega), e]
    rw [q_eq, n3, q_add (by omega) (by omega), n1, n2]
    omega
theorem mid_same {p1 p2 a1 a2 : Int32} : p1 * a2 + p2 * a1 = p1 * (a1 + a2) + (p2 - p1) * a1 := by
  rw [Int32.mul_add, Int32.sub_mul]
  generalize p1 * a2 = u
  generalize p2 * a1 = w
  generalize p1 * a1 = z
  rw [Int32.sub_eq_add_neg, Int32.add_comm z u, Int32.add_comm w (-z), ← Int32.add_assoc, Int32.add_assoc u z (-z), ← Int32.sub_eq_add_neg z z, Int32.sub_self, Int32.add_zero]
/-- where the way by a wall meets it: of the sides r1 r2 and the places p1 p2 along it -/
def bkK (up w lo hi r1 r2 p1 p2 : Int32) : Int32 :=
  if 0 < r1 * r2 then
    (if p1 * r_Ma_abs r2 + p2 * r_Ma_abs r1 < lo * r_Ma_abs (r1 + r2) then -1
    else if p1 * r_Ma_abs r2 + p2 * r_Ma_abs r1 ≤ hi * r_Ma_abs (r1 + r2) then
      (if up = 0 then 60 * w + (p1 * r_Ma_abs r2 + p2 * r_Ma_abs r1) / r_Ma_abs (r1 + r2) else 60 * ((p1 * r_Ma_abs r2 + p2 * r_Ma_abs r1) / r_Ma_abs (r1 + r2)) + w)
    else -1)
  else -1
def sdS (up w x : Int32) : Int32 := (if up = 0 then x / 60 else x - x / 60 * 60) - w
def alS (up x : Int32) : Int32 := if up = 0 then x - x / 60 * 60 else x / 60
theorem side_B (a0 : Nat) (x : Int32) (S : Sto) : r_Wl_side a0 x S = some (sdS (S a0 0) (S a0 1) x) := by
  unfold r_Wl_side sdS r_B_row r_B_column
  simp only [jn]
  by_cases c : S a0 0 = 0
  · simp only [if_pos c]
  · simp only [if_neg c]
theorem along_B (a0 : Nat) (x : Int32) (S : Sto) : r_Wl_along a0 x S = alS (S a0 0) x := by
  unfold r_Wl_along alS r_B_row r_B_column
  rfl
theorem sd_b {up w x : Int32} (hx : isC x) (hw : btw w 0 59) : btw (sdS up w x) (-59) 59 ∧ btw (alS up x) 0 59 := by
  obtain ⟨r1, r2⟩ := isC_co hx
  obtain ⟨x0, x1⟩ := hx
  obtain ⟨w0, w1⟩ := hw
  unfold sdS alS btw
  split
  · rw [q_sub (by omega) (by omega)]; omega
  · rw [q_sub (by omega) (by omega)]; omega
theorem abs_nz {r1 r2 : Int32} (b1 : btw r1 (-59) 59) (b2 : btw r2 (-59) 59) (hs : 0 < r1 * r2) : nz (r_Ma_abs (r1 + r2)) = true ∧ ¬ r_Ma_abs (r1 + r2) = 0 := by
  obtain ⟨h1, h2, h3⟩ := (same_side b1 b2).mp hs
  rw [q_eq, z_0] at h1 h2
  rw [q_le, q_le, z_0] at h3
  obtain ⟨b1, b1'⟩ := b1
  obtain ⟨b2, b2'⟩ := b2
  have e : (r1 + r2).toInt = r1.toInt + r2.toInt := q_add (by omega) (by omega)
  have a := abs_i (a := r1 + r2) (by omega)
  have z : ¬ r_Ma_abs (r1 + r2) = 0 := by rw [q_eq, z_0]; omega
  exact ⟨by unfold nz; rw [decide_eq_true_eq]; exact z, z⟩
theorem cross_B {a0 : Nat} {x1 x2 : Int32} {S : Sto} (h1 : isC x1) (h2 : isC x2) (hw : btw (S a0 1) 0 59) : r_Wl_crossing a0 x1 x2 S = some (bkK (S a0 0) (S a0 1) (S a0 2) (S a0 3) (sdS (S a0 0) (S a0 1) x1) (sdS (S a0 0) (S a0 1) x2) (alS (S a0 0) x1) (alS (S a0 0) x2)) := by
  have b1 := (sd_b (up := S a0 0) h1 hw).1
  have b2 := (sd_b (up := S a0 0) h2 hw).1
  simp only [r_Wl_crossing, side_B, along_B, Option.bind_some, jn, lt]
  generalize sdS (S a0 0) (S a0 1) x1 = r1 at b1
  generalize sdS (S a0 0) (S a0 1) x2 = r2 at b2
  unfold bkK
  have ss := same_side b1 b2
  have n01 : ¬ (0 : Int32) = 1 := by decide
  have n10 : ¬ (1 : Int32) = 0 := by decide
  by_cases c : 0 < r1 * r2
  · obtain ⟨g1, g2, g3⟩ := ss.mp c
    obtain ⟨nn, n0⟩ := abs_nz b1 b2 c
    rw [if_pos c, if_neg g1, if_neg g2]
    by_cases k : 0 ≤ r1
    · simp only [if_pos k, if_pos (g3.mp k), ite_true, if_neg n0, chk_t nn]
      split
      · rfl
      · split
        · split <;> rfl
        · rfl
    · simp only [if_neg k, if_neg (fun q => k (g3.mpr q)), ite_true, if_neg n0, chk_t nn]
      split
      · rfl
      · split
        · split <;> rfl
        · rfl
  · rw [if_neg c]
    by_cases g1 : r1 = 0
    · rw [if_pos g1]
    · by_cases g2 : r2 = 0
      · rw [if_neg g1, if_pos g2]
      · have g3 : ¬ (0 ≤ r1 ↔ 0 ≤ r2) := fun q => c (ss.mpr ⟨g1, g2, q⟩)
        rw [if_neg g1, if_neg g2]
        by_cases k : 0 ≤ r1
        · have k2 : ¬ 0 ≤ r2 := fun q => g3 ⟨fun _ => q, fun _ => k⟩
          simp only [if_pos k, if_neg k2, if_neg n01]
        · have k2 : 0 ≤ r2 := Classical.not_not.mp (fun q => g3 ⟨fun p => absurd p k, fun p => absurd p q⟩)
          simp only [if_neg k, if_pos k2, if_neg n10]
