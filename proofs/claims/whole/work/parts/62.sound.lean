/-! sound: the class's and the reference's ways to a distance, a time, a loudness, a sector are one -/
theorem z_0 : (0 : Int32).toInt = 0 := by decide
theorem shr1 {b : Int32} (h : 0 ≤ b.toInt) : b >>> (1 &&& 31) = b / 2 := by
  rw [q_eq, pk_shr b (1 &&& 31) 1 (by decide), q_divN h (by decide)]
  rw [show (2 : Int32).toInt = 2 by decide, Int.shiftRight_eq_div_pow]
  rfl
theorem half_nn {b : Int32} (h : 0 ≤ b.toInt) : 0 ≤ (b / 2).toInt ∧ 2 * (b / 2).toInt ≤ b.toInt := by
  rw [q_divN h (by decide), show (2 : Int32).toInt = 2 by decide]
  omega
/-- the loop of the root, whichever -/
theorem root_same (v : Int32) : ∀ (n : Nat) (r b : Int32), 0 ≤ b.toInt → r_B_distance_L15 v n r b = r_M_root_L6 v n r b := by
  intro n
  induction n with
  | zero => intro r b _; rfl
  | succ n ih =>
    intro r b hb
    rw [r_B_distance_L15, r_M_root_L6]
    simp only [jn, lt, shr1 hb]
    rw [ih _ _ (half_nn hb).1, ih _ _ (half_nn hb).1]
theorem root_fuel (v : Int32) : ∀ (n m : Nat) (r b : Int32), 0 ≤ b.toInt → b.toInt < 2 ^ n → n ≤ m → r_M_root_L6 v (m + 1) r b = r_M_root_L6 v (n + 1) r b := by
  intro n
  induction n with
  | zero =>
    intro m r b h0 h1 _
    have hb : b ≤ 0 := by rw [q_le, z_0]; simp at h1; omega
    rw [r_M_root_L6, r_M_root_L6, if_pos hb, if_pos hb]
  | succ n ih =>
    intro m r b h0 h1 hm
    obtain ⟨m, rfl⟩ : ∃ k, m = k + 1 := ⟨m - 1, by omega⟩
    have h2 := half_nn h0
    have h3 : (b / 2).toInt < 2 ^ n := by rw [Int.pow_succ] at h1; omega
    rw [r_M_root_L6]
    conv => rhs; rw [r_M_root_L6]
    simp only [jn, lt]
    rw [ih m _ _ h2.1 h3 (by omega), ih m _ _ h2.1 h3 (by omega)]
/-- the loop ends, and its root is not far off -/
theorem root_some (v : Int32) : ∀ (n : Nat) (r b : Int32), 0 ≤ b.toInt → b.toInt < 2 ^ n → 0 ≤ r.toInt → r.toInt + 2 * b.toInt ≤ 100000 → ∃ x y, r_M_root_L6 v (n + 1) r b = some (x, y) ∧ r.toInt ≤ x.toInt ∧ x.toInt ≤ r.toInt + 2 * b.toInt := by
  intro n
  induction n with
  | zero =>
    intro r b h0 h1 _ _
    have hb : b ≤ 0 := by rw [q_le, z_0]; simp at h1; omega
    exact ⟨r, b, by rw [r_M_root_L6, if_pos hb], by omega, by omega⟩
  | succ n ih =>
    intro r b h0 h1 hr0 hr5
    by_cases hb : b ≤ 0
    · exact ⟨r, b, by rw [r_M_root_L6, if_pos hb], by omega, by omega⟩
    · rw [q_le, z_0] at hb
      have h2 := half_nn h0
      have h3 : (b / 2).toInt < 2 ^ n := by rw [Int.pow_succ] at h1; omega
      have e : (r + b).toInt = r.toInt + b.toInt := q_add (by omega) (by omega)
      rw [r_M_root_L6, if_neg (by rw [q_le, z_0]; exact hb)]
      simp only [jn, lt]
      split
      · obtain ⟨x, y, g1, g2, g3⟩ := ih r (b / 2) h2.1 h3 hr0 (by omega)
        exact ⟨x, y, g1, g2, by omega⟩
      · obtain ⟨x, y, g1, g2, g3⟩ := ih (r + b) (b / 2) h2.1 h3 (by omega) (by omega)
        exact ⟨x, y, g1, by omega, by omega⟩
def dst (dx dy : Int32) : Int32 := (r_B_distance dx dy).getD 0
theorem dst_B (dx dy : Int32) : r_B_distance dx dy = some (dst dx dy) ∧ 0 ≤ (dst dx dy).toInt ∧ (dst dx dy).toInt ≤ 256 := by
  have e128 : (128 : Int32).toInt = 128 := by decide
  obtain ⟨x, y, g1, g2, g3⟩ := root_some (dx * dx + dy * dy) 8 0 128 (by decide) (by decide) (by decide) (by decide)
  have e : r_B_distance dx dy = some x := by
    simp only [r_B_distance, lt]
    rw [root_same _ _ _ 128 (by decide), show fu = 4999 + 1 from rfl, root_fuel _ 8 4999 0 128 (by decide) (by decide) (by decide), g1]
    rfl
  have e2 : dst dx dy = x := by unfold dst; rw [e]; rfl
  rw [z_0] at g2 g3
  rw [e128] at g3
  rw [e2]
  exact ⟨e, g2, by omega⟩
theorem dst_M {dx dy : Int32} (h0 : 0 ≤ (dx * dx + dy * dy).toInt) (h1 : (dx * dx + dy * dy).toInt < 65536) : r_M_distance dx dy = some (dst dx dy) := by
  have hB := (dst_B dx dy).1
  generalize hv : dx * dx + dy * dy = v at h0 h1
  simp only [r_B_distance, lt] at hB
  rw [hv, root_same _ _ _ 128 (by decide), show fu = 4999 + 1 from rfl] at hB
  unfold r_M_distance r_M_root
  rw [hv, show fu = 4999 + 1 from rfl]
  have e128 : (128 : Int32).toInt = 128 := by decide
  have l1 : ∀ n, r_M_root_L6 v (n + 1) 0 512 = r_M_root_L6 v n 0 256 := by
    intro n
    rw [r_M_root_L6, if_neg (by decide)]
    simp only [jn, lt]
    rw [if_pos (by rw [q_lt]; rw [show ((0 + 512) * (0 + 512) : Int32).toInt = 262144 by decide]; omega)]
    rfl
  have l2 : ∀ n, r_M_root_L6 v (n + 1) 0 256 = r_M_root_L6 v n 0 128 := by
    intro n
    rw [r_M_root_L6, if_neg (by decide)]
    simp only [jn, lt]
    rw [if_pos (by rw [q_lt]; rw [show ((0 + 256) * (0 + 256) : Int32).toInt = 65536 by decide]; omega)]
    rfl
  have f1 : r_M_root_L6 v (4997 + 1) 0 128 = r_M_root_L6 v (8 + 1) 0 128 := root_fuel v 8 4997 0 128 (by decide) (by decide) (by decide)
  have f2 : r_M_root_L6 v (4999 + 1) 0 128 = r_M_root_L6 v (8 + 1) 0 128 := root_fuel v 8 4999 0 128 (by decide) (by decide) (by decide)
  rw [l1 4999, show (4999 : Nat) = 4998 + 1 from rfl, l2 4998, show (4998 : Nat) = 4997 + 1 from rfl, f1, ← f2]
  rw [show (4998 + 1 : Nat) + 1 = 4999 + 1 from rfl] at hB
  cases hq : r_M_root_L6 v (4999 + 1) 0 128 with
  | none => rw [hq] at hB; cases hB
  | some p =>
    obtain ⟨a, b⟩ := p
    rw [hq] at hB
    simp only [Option.bind_some] at hB ⊢
    exact hB
/-- the floor of a quotient -/
def fl (x y : Int32) : Int32 := (r_M_floor x y).getD 0
theorem fl_M {x y : Int32} (h : 0 < y.toInt) : r_M_floor x y = some (fl x y) := by
  have hz : nz y = true := by unfold nz; rw [decide_eq_true_eq, q_eq, z_0]; omega
  have : ∃ r, r_M_floor x y = some r := by
    simp only [r_M_floor, lt, chk_t hz]
    split
    · exact ⟨_, rfl⟩
    · split <;> exact ⟨_, rfl⟩
  obtain ⟨r, hr⟩ := this
  unfold fl
  rw [hr]; rfl
theorem xor_sign {x y : Int32} (h : 0 ≤ y.toInt) : 0 ≤ (x ^^^ y) ↔ 0 ≤ x := by
  rw [q_le, q_le, z_0]
  have m : ∀ z : Int32, 0 ≤ z.toInt ↔ z.toBitVec.msb = false := by
    intro z
    rw [BitVec.msb_eq_toInt]
    show 0 ≤ z.toBitVec.toInt ↔ _
    simp
  rw [m, m, Int32.toBitVec_xor, BitVec.msb_xor, (m y).mp h]
  simp
theorem sub_z {a b : Int32} : a - b = 0 ↔ b = a := by
  constructor
  · intro h
    have : a = 0 + b := by rw [← h]; simp
    rw [this]; simp
  · intro h; rw [h]; simp
theorem fl_B {x y : Int32} (h : 0 < y.toInt) : r_Ma_floorDiv x y = some (fl x y) := by
  rw [← fl_M h]
  have hz : nz y = true := by unfold nz; rw [decide_eq_true_eq, q_eq, z_0]; omega
  simp only [r_Ma_floorDiv, r_M_floor, lt, chk_t hz]
  by_cases h1 : 0 ≤ x
  · rw [if_pos ((xor_sign (by omega)).mpr h1)]
    split
    · rfl
    · rfl
  · rw [if_neg (fun q => h1 ((xor_sign (by omega)).mp q))]
    by_cases h2 : x / y * y = x
    · rw [if_pos h2, if_pos (sub_z.mpr h2)]
    · rw [if_neg h2, if_neg (fun q => h2 (sub_z.mp q)), if_neg h1]
/-- as sound comes -/
def trv (s wx wy x y : Int32) : Int32 := r_Ma_max 0 (s * dst ((y - y / 60 * 60) - (x - x / 60 * 60)) (y / 60 - x / 60) - fl (wx * ((y - y / 60 * 60) - (x - x / 60 * 60)) + wy * (y / 60 - x / 60)) 8)
theorem trv_B (x y : Int32) (S : Sto) : r_Sq_travel x y S = some (trv (S 1 0) (S 1 1) (S 1 2) x y) := by
  simp only [r_Sq_travel, lt, r_B_column, r_B_row]
  rw [fl_B (by decide), (dst_B _ _).1]
  rfl
def isC (x : Int32) : Prop := 0 ≤ x.toInt ∧ x.toInt < 3600
theorem isC_co {x : Int32} (h : isC x) : (x / 60).toInt = x.toInt / 60 ∧ (x - x / 60 * 60).toInt = x.toInt % 60 := by
  have e60 : (60 : Int32).toInt = 60 := by decide
  have h1 : (x / 60).toInt = x.toInt / 60 := by rw [q_divN h.1 (by decide), e60]
  have h0 := h.1
  have h9 := h.2
  have h2 : (x / 60 * 60).toInt = x.toInt / 60 * 60 := by
    rw [q_mul, h1, e60] <;> rw [h1, e60] <;> omega
  refine ⟨h1, ?_⟩
  rw [q_sub, h2]
  · omega
  · rw [h2]; omega
  · rw [h2]; omega
theorem msn (a : Int) : 0 ≤ a * a := by
  rcases Int.le_total 0 a with h | h
  · exact Int.mul_nonneg h h
  · have := Int.mul_nonneg (show 0 ≤ -a by omega) (show 0 ≤ -a by omega)
    rw [Int.neg_mul_neg] at this
    exact this
theorem sq_small {a b : Int32} (h1 : -150 ≤ a.toInt) (h2 : a.toInt ≤ 150) (h3 : -150 ≤ b.toInt) (h4 : b.toInt ≤ 150) (hs : a.toInt * a.toInt + b.toInt * b.toInt < 65536) : 0 ≤ (a * a + b * b).toInt ∧ (a * a + b * b).toInt < 65536 := by
  have n1 : 0 ≤ a.toInt * a.toInt := msn _
  have n2 : 0 ≤ b.toInt * b.toInt := msn _
  have e1 : (a * a).toInt = a.toInt * a.toInt := q_mul (by omega) (by omega)
  have e2 : (b * b).toInt = b.toInt * b.toInt := q_mul (by omega) (by omega)
  have e3 : (a * a + b * b).toInt = a.toInt * a.toInt + b.toInt * b.toInt := by rw [q_add, e1, e2] <;> rw [e1, e2] <;> omega
  rw [e3]; omega
theorem sq_le {x : Int} {m : Int} (h1 : -m ≤ x) (h2 : x ≤ m) : x * x ≤ m * m := by
  have := Int.mul_nonneg (show 0 ≤ m - x by omega) (show 0 ≤ m + x by omega)
  have e : (m - x) * (m + x) = m * m - x * x := by rw [Int.mul_add, Int.sub_mul, Int.sub_mul, Int.mul_comm x m]; omega
  omega
theorem cc_small {x y : Int32} (hx : isC x) (hy : isC y) : 0 ≤ (((y - y / 60 * 60) - (x - x / 60 * 60)) * ((y - y / 60 * 60) - (x - x / 60 * 60)) + (y / 60 - x / 60) * (y / 60 - x / 60)).toInt ∧ (((y - y / 60 * 60) - (x - x / 60 * 60)) * ((y - y / 60 * 60) - (x - x / 60 * 60)) + (y / 60 - x / 60) * (y / 60 - x / 60)).toInt < 65536 := by
  obtain ⟨a1, a2⟩ := isC_co hx
  obtain ⟨b1, b2⟩ := isC_co hy
  obtain ⟨x0, x1⟩ := hx
  obtain ⟨y0, y1⟩ := hy
  have e1 : ((y - y / 60 * 60) - (x - x / 60 * 60)).toInt = y.toInt % 60 - x.toInt % 60 := by rw [q_sub, a2, b2] <;> rw [a2, b2] <;> omega
  have e2 : (y / 60 - x / 60).toInt = y.toInt / 60 - x.toInt / 60 := by rw [q_sub, a1, b1] <;> rw [a1, b1] <;> omega
  refine sq_small (by rw [e1]; omega) (by rw [e1]; omega) (by rw [e2]; omega) (by rw [e2]; omega) ?_
  have s1 := sq_le (x := ((y - y / 60 * 60) - (x - x / 60 * 60)).toInt) (m := 59) (by rw [e1]; omega) (by rw [e1]; omega)
  have s2 := sq_le (x := (y / 60 - x / 60).toInt) (m := 59) (by rw [e2]; omega) (by rw [e2]; omega)
  omega
theorem max0 (v : Int32) : r_Ma_max 0 v = if 0 ≤ v then v else 0 := by
  unfold r_Ma_max
  by_cases h : 0 < v
  · rw [if_pos h, if_pos (by rw [q_le]; rw [q_lt] at h; omega)]
  · rw [if_neg h]
    split
    · rename_i g
      rw [q_eq]
      rw [q_lt, z_0] at h
      rw [q_le, z_0] at g
      rw [z_0]; omega
    · rfl
theorem trv_M {x y : Int32} (hx : isC x) (hy : isC y) (S : Sto) : r_M_delay x y S = some (trv (S 104 1) (S 104 2) (S 104 3) x y) := by
  have hs := cc_small hx hy
  simp only [r_M_delay, lt]
  rw [dst_M hs.1 hs.2]
  simp only [Option.bind_some]
  rw [fl_M (by decide)]
  simp only [Option.bind_some]
  unfold trv
  rw [max0]
  split <;> rfl
/-- how far two cells are -/
def far (x y : Int32) : Int32 := dst ((y - y / 60 * 60) - (x - x / 60 * 60)) (y / 60 - x / 60)
theorem far_B (x y : Int32) : r_B_between x y = some (far x y) := by
  unfold r_B_between r_B_column r_B_row
  rw [(dst_B _ _).1]; rfl
theorem far_nn (x y : Int32) : 0 ≤ (far x y).toInt ∧ (far x y).toInt ≤ 256 := (dst_B _ _).2
theorem neg_sq (a b : Int32) : (a - b) * (a - b) = (b - a) * (b - a) := by
  have e : a - b = -(b - a) := Int32.neg_sub.symm
  rw [e, Int32.neg_mul, Int32.mul_neg, Int32.neg_neg]
theorem dst_sq {a b c d : Int32} (h : a * a + b * b = c * c + d * d) : dst a b = dst c d := by
  unfold dst r_B_distance
  rw [h]
theorem far_M {x y : Int32} (hx : isC x) (hy : isC y) : r_M_apartOf x y = some (far x y) ∧ r_M_apartOf y x = some (far x y) := by
  have hs := cc_small hx hy
  have hs2 := cc_small hy hx
  have e : dst ((x - x / 60 * 60) - (y - y / 60 * 60)) (x / 60 - y / 60) = far x y := dst_sq (by rw [neg_sq (x - x / 60 * 60), neg_sq (x / 60)])
  unfold r_M_apartOf
  rw [dst_M hs.1 hs.2, dst_M hs2.1 hs2.2, e]
  exact ⟨rfl, rfl⟩
/-- how loud -/
def lou (d : Int32) : Int32 := 10000 / (d + 10)
theorem lou_10 {d : Int32} (h : 0 ≤ d.toInt) (h2 : d.toInt ≤ 1000) : (d + 10).toInt = d.toInt + 10 ∧ nz (d + 10) = true := by
  have e : (d + 10).toInt = d.toInt + 10 := by rw [q_add] <;> rw [show (10 : Int32).toInt = 10 by decide] <;> omega
  refine ⟨e, ?_⟩
  unfold nz
  rw [decide_eq_true_eq, q_eq, z_0, e]; omega
theorem lou_B {d : Int32} (h : 0 ≤ d.toInt) (h2 : d.toInt ≤ 1000) : r_B_loudness d = some (lou d) := by
  unfold r_B_loudness
  rw [if_pos (by rw [q_le, z_0]; exact h), chk_t (lou_10 h h2).2]; rfl
theorem lou_M {d : Int32} (h : 0 ≤ d.toInt) (h2 : d.toInt ≤ 1000) : r_M_loudBy d = some (lou d) := by
  unfold r_M_loudBy
  rw [chk_t (lou_10 h h2).2]; rfl
/-- sectors -/
def sct (x y : Int32) : Int32 := (r_M_sectorOf x y).getD 0
theorem sec_same (x y : Int32) : r_B_sectorOf x y = some (sct x y) ∧ r_M_sectorOf x y = some (sct x y) := by
  have hM : ∃ r, r_M_sectorOf x y = some r := by
    simp only [r_M_sectorOf, r_M_sectorBy, jn, lt]
    repeat' split
    all_goals exact ⟨_, rfl⟩
  have e : r_B_sectorOf x y = r_M_sectorOf x y := by
    simp only [r_M_sectorOf, r_M_sectorBy, r_B_sectorOf, jn, lt, r_B_column, r_B_row]
    generalize x - x / 60 * 60 - (y - y / 60 * 60) = a
    generalize x / 60 - y / 60 = b
    have u : r_B_upperSector = r_M_sectorUp := rfl
    rw [u]
    by_cases h1 : a = 0
    · by_cases h2 : b = 0
      · simp [h1, h2]
      · by_cases h3 : b < 0
        · have h4 : ¬ 0 < b := by rw [q_lt] at h3 ⊢; omega
          simp [h1, h2, h3, h4, Int32.add_comm]
        · have h4 : 0 < b := by rw [q_lt, z_0] at h3 ⊢; rw [q_eq, z_0] at h2; omega
          simp [h1, h2, h3, h4]
    · by_cases h2 : b = 0
      · by_cases h3 : 0 ≤ a
        · have h4 : ¬ a ≤ 0 := by rw [q_le, z_0] at h3 ⊢; rw [q_eq, z_0] at h1; omega
          simp [h1, h2, h3, h4]
        · have h4 : a ≤ 0 := by rw [q_le, z_0] at h3 ⊢; omega
          simp [h1, h2, h3, h4, Int32.add_comm]
      · by_cases h3 : b < 0
        · have h4 : ¬ 0 < b := by rw [q_lt] at h3 ⊢; omega
          simp [h1, h2, h3, h4, Int32.add_comm]
        · have h4 : 0 < b := by rw [q_lt, z_0] at h3 ⊢; rw [q_eq, z_0] at h2; omega
          simp [h1, h2, h3, h4]
  obtain ⟨r, hr⟩ := hM
  have e2 : sct x y = r := by unfold sct; rw [hr]; rfl
  rw [e, e2]
  exact ⟨hr, hr⟩
theorem win_iff {x lo hi : Int32} : r_B_within x lo hi = if lo ≤ x ∧ x ≤ hi then 1 else 0 := by
  unfold r_B_within
  by_cases h1 : x < lo
  · rw [if_pos h1, if_neg]
    intro q; rw [q_lt] at h1; have := q_le.mp q.1; omega
  · rw [if_neg h1]
    by_cases h2 : hi < x
    · rw [if_pos h2, if_neg]
      intro q; rw [q_lt] at h2; have := q_le.mp q.2; omega
    · rw [if_neg h2, if_pos]
      rw [q_lt] at h1 h2; rw [q_le, q_le]; omega
theorem isIn_same : r_M_isIn = r_B_within := rfl
theorem win_0 {x lo hi : Int32} : r_B_within x lo hi = 0 ↔ ¬ (lo.toInt ≤ x.toInt ∧ x.toInt ≤ hi.toInt) := by
  rw [win_iff]
  split
  · rename_i h
    rw [q_le, q_le] at h
    exact ⟨fun q => absurd q (by decide), fun q => absurd h q⟩
  · rename_i h
    rw [q_le, q_le] at h
    exact ⟨fun _ => h, fun _ => rfl⟩
theorem cell_0 {x : Int32} : r_B_isCell x = 0 ↔ ¬ isC x := by
  unfold r_B_isCell isC
  rw [win_0, z_0, show (3599 : Int32).toInt = 3599 by decide]
  constructor <;> intro h <;> omega
theorem cM_0 {x : Int32} : r_M_isCell x = 0 ↔ ¬ isC x := cell_0
theorem iM_0 {x lo hi : Int32} : r_M_isIn x lo hi = 0 ↔ ¬ (lo.toInt ≤ x.toInt ∧ x.toInt ≤ hi.toInt) := win_0
theorem iM_B {x lo hi : Int32} : r_M_isIn x lo hi = r_B_within x lo hi := by unfold r_M_isIn r_B_within; rfl
theorem win_n {x lo hi : Int32} (h : ¬ r_B_within x lo hi = 0) : lo.toInt ≤ x.toInt ∧ x.toInt ≤ hi.toInt := Classical.not_not.mp (fun q => h (win_0.mpr q))
theorem cell_n {x : Int32} (h : ¬ r_B_isCell x = 0) : isC x := Classical.not_not.mp (fun q => h (cell_0.mpr q))
