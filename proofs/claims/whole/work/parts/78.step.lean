theorem mbd {a b A B : Int} (h1 : -A ≤ a) (h2 : a ≤ A) (h3 : -B ≤ b) (h4 : b ≤ B) : -(A * B) ≤ a * b ∧ a * b ≤ A * B := by
  have e1 := Int.mul_nonneg (show 0 ≤ A - a by omega) (show 0 ≤ B + b by omega)
  have e2 := Int.mul_nonneg (show 0 ≤ A + a by omega) (show 0 ≤ B - b by omega)
  have e3 := Int.mul_nonneg (show 0 ≤ A - a by omega) (show 0 ≤ B - b by omega)
  have e4 := Int.mul_nonneg (show 0 ≤ A + a by omega) (show 0 ≤ B + b by omega)
  rw [Int.sub_mul, Int.mul_add, Int.mul_add] at e1
  rw [Int.add_mul, Int.mul_sub, Int.mul_sub] at e2
  rw [Int.sub_mul, Int.mul_sub, Int.mul_sub] at e3
  rw [Int.add_mul, Int.mul_add, Int.mul_add] at e4
  omega
theorem co_d {x y : Int32} (hx : isC x) (hy : isC y) : ((y - y / 60 * 60) - (x - x / 60 * 60)).toInt = y.toInt % 60 - x.toInt % 60 ∧ (y / 60 - x / 60).toInt = y.toInt / 60 - x.toInt / 60 := by
  obtain ⟨a1, a2⟩ := isC_co hx
  obtain ⟨b1, b2⟩ := isC_co hy
  obtain ⟨x0, x1⟩ := hx
  obtain ⟨y0, y1⟩ := hy
  exact ⟨by rw [q_sub, a2, b2] <;> rw [a2, b2] <;> omega, by rw [q_sub, a1, b1] <;> rw [a1, b1] <;> omega⟩
/-- how long sound takes at most -/
theorem trv_nn {s wx wy x y : Int32} (h1 : btw s 1 9) (h2 : btw wx (-9) 9) (h3 : btw wy (-9) 9) (hx : isC x) (hy : isC y) : 0 ≤ (trv s wx wy x y).toInt ∧ (trv s wx wy x y).toInt ≤ 9999 := by
  obtain ⟨d1, d2⟩ := co_d hx hy
  obtain ⟨x0, x1⟩ := hx
  obtain ⟨y0, y1⟩ := hy
  unfold trv
  generalize hdx : (y - y / 60 * 60) - (x - x / 60 * 60) = dx at d1
  generalize hdy : y / 60 - x / 60 = dy at d2
  have k := dst_B dx dy
  have m1 := mbd (a := s.toInt) (b := (dst dx dy).toInt) (A := 9) (B := 256) (by have := h1.1; omega) h1.2 (by omega) k.2.2
  have m2 := mbd (a := wx.toInt) (b := dx.toInt) (A := 9) (B := 59) h2.1 h2.2 (by omega) (by omega)
  have m3 := mbd (a := wy.toInt) (b := dy.toInt) (A := 9) (B := 59) h3.1 h3.2 (by omega) (by omega)
  have e1 : (s * dst dx dy).toInt = s.toInt * (dst dx dy).toInt := q_mul (by omega) (by omega)
  have e2 : (wx * dx).toInt = wx.toInt * dx.toInt := q_mul (by omega) (by omega)
  have e3 : (wy * dy).toInt = wy.toInt * dy.toInt := q_mul (by omega) (by omega)
  have e4 : (wx * dx + wy * dy).toInt = wx.toInt * dx.toInt + wy.toInt * dy.toInt := by rw [q_add, e2, e3] <;> omega
  have e5 : (fl (wx * dx + wy * dy) 8).toInt = (wx.toInt * dx.toInt + wy.toInt * dy.toInt) / 8 := by
    rw [fl_int (by omega) (by decide), e4, show (8 : Int32).toInt = 8 by decide]
  have e6 : (s * dst dx dy - fl (wx * dx + wy * dy) 8).toInt = s.toInt * (dst dx dy).toInt - (wx.toInt * dx.toInt + wy.toInt * dy.toInt) / 8 := by
    rw [q_sub, e1, e5] <;> omega
  rw [max0]
  split
  · rename_i c
    rw [q_le, z_0] at c
    refine ⟨c, ?_⟩
    rw [e6]
    omega
  · rw [z_0]; omega
/-- a step on the way of a ball is a cell -/
theorem step_cell {c r dx dy m k : Int32} (c1 : btw c 0 59) (r1 : btw r 0 59) (c2 : 0 ≤ c.toInt + dx.toInt) (c3 : c.toInt + dx.toInt ≤ 59) (r2 : 0 ≤ r.toInt + dy.toInt) (r3 : r.toInt + dy.toInt ≤ 59) (hm : 0 < m.toInt) (hm2 : m.toInt ≤ 59) (d1 : -m.toInt ≤ dx.toInt) (d2 : dx.toInt ≤ m.toInt) (d3 : -m.toInt ≤ dy.toInt) (d4 : dy.toInt ≤ m.toInt) (k0 : 0 ≤ k.toInt) (km : k.toInt ≤ m.toInt) : isC (((60 * (r + fl (dy * k) m)) + c) + fl (dx * k) m) := by
  obtain ⟨c1, c1'⟩ := c1
  obtain ⟨r1, r1'⟩ := r1
  have m1 := mbd (a := dx.toInt) (b := k.toInt) (A := 59) (B := 59) (by omega) (by omega) (by omega) (by omega)
  have m2 := mbd (a := dy.toInt) (b := k.toInt) (A := 59) (B := 59) (by omega) (by omega) (by omega) (by omega)
  have e1 : (dx * k).toInt = dx.toInt * k.toInt := q_mul (by omega) (by omega)
  have e2 : (dy * k).toInt = dy.toInt * k.toInt := q_mul (by omega) (by omega)
  have f1 : (fl (dx * k) m).toInt = dx.toInt * k.toInt / m.toInt := by rw [fl_int (by omega) hm, e1]
  have f2 : (fl (dy * k) m).toInt = dy.toInt * k.toInt / m.toInt := by rw [fl_int (by omega) hm, e2]
  have s1 := step_in hm k0 km d1 d2
  have s2 := step_in hm k0 km d3 d4
  have g1 : 0 ≤ c.toInt + (fl (dx * k) m).toInt ∧ c.toInt + (fl (dx * k) m).toInt ≤ 59 := by
    rw [f1]
    rcases Int.le_total 0 dx.toInt with q | q
    · have := s1.1 q; omega
    · have := s1.2 q; omega
  have g2 : 0 ≤ r.toInt + (fl (dy * k) m).toInt ∧ r.toInt + (fl (dy * k) m).toInt ≤ 59 := by
    rw [f2]
    rcases Int.le_total 0 dy.toInt with q | q
    · have := s2.1 q; omega
    · have := s2.2 q; omega
  have e60 : (60 : Int32).toInt = 60 := by decide
  have a1 : (r + fl (dy * k) m).toInt = r.toInt + (fl (dy * k) m).toInt := q_add (by omega) (by omega)
  have a2 : (60 * (r + fl (dy * k) m)).toInt = 60 * (r.toInt + (fl (dy * k) m).toInt) := by
    rw [q_mul (by rw [e60, a1]; omega) (by rw [e60, a1]; omega), e60, a1]
  have a3 : (60 * (r + fl (dy * k) m) + c).toInt = 60 * (r.toInt + (fl (dy * k) m).toInt) + c.toInt := by
    rw [q_add (by omega) (by omega), a2]
  have a4 : (60 * (r + fl (dy * k) m) + c + fl (dx * k) m).toInt = 60 * (r.toInt + (fl (dy * k) m).toInt) + c.toInt + (fl (dx * k) m).toInt := by
    rw [q_add (by omega) (by omega), a3]
  unfold isC
  rw [a4]
  omega
