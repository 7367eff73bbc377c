def ckC (r c dx dy m k : Int32) : Int32 := ((60 * (r + fl (dy * k) m)) + c) + fl (dx * k) m
def ckT (s wx wy c0 t0 v x cell : Int32) : Int32 := (t0 + (v * far c0 cell) / 10) + trv s wx wy cell x
/-- the way of a ball, step by step: class and reference find one crack -/
theorem crack_L {a1 : Nat} {x c0 t0 v s wx wy col row dx dy m : Int32} (hg : ∀ k : Int32, 0 ≤ k.toInt → k.toInt ≤ m.toInt → isC (ckC row col dx dy m k)) (ht : ∀ c, isC c → 0 ≤ (ckT s wx wy c0 t0 v x c).toInt) (hx : isC x) (hc0 : isC c0) (hm : 0 < m.toInt) (hm2 : m.toInt ≤ 59) (ha : a1 ≠ 13) :
    ∀ (d f k : Nat) (S T : Sto), (k : Int) + d = m.toInt + 1 → d < f → (S a1 0 = c0 ∧ S a1 1 = t0 ∧ S a1 3 = v ∧ S 1 0 = s ∧ S 1 1 = wx ∧ S 1 2 = wy) → (T 104 1 = s ∧ T 104 2 = wx ∧ T 104 3 = wy) →
    ((k = 0 ∧ T 104 19 = -1) ∨ (0 < k ∧ 0 ≤ (S 13 3).toInt ∧ T 104 19 = S 13 3 ∧ T 104 20 = S 13 4 ∧ isC (S 13 4))) →
    ∃ S' T' e, r_Hd_listenCrack_L64 a1 x col row dx dy m f (nI k) S = some (e, S') ∧ r_M_findsCrack_L86 c0 t0 v x col row dx dy m f (nI k) T = some (e, T') ∧ (∀ a j, ¬ (a = 13 ∧ (j = 3 ∨ j = 4)) → S' a j = S a j) ∧ (∀ a j, ¬ (a = 104 ∧ (j = 19 ∨ j = 20)) → T' a j = T a j) ∧ T' 104 19 = S' 13 3 ∧ T' 104 20 = S' 13 4 ∧ isC (S' 13 4) ∧ 0 ≤ (S' 13 3).toInt := by
  intro d
  induction d with
  | zero =>
    intro f k S T hk hf hS hT hI
    obtain ⟨f, rfl⟩ : ∃ g, f = g + 1 := ⟨f - 1, by omega⟩
    have ek : (nI k).toInt = k := q_n (by omega)
    have c : m < nI k := by rw [q_lt, ek]; omega
    obtain ⟨i1, i2, i3, i4, i5⟩ := hI.resolve_left (by omega)
    exact ⟨S, T, nI k, by rw [r_Hd_listenCrack_L64, if_pos c], by rw [r_M_findsCrack_L86, if_pos c], fun _ _ _ => rfl, fun _ _ _ => rfl, i3, i4, i5, i2⟩
  | succ d ih =>
    intro f k S T hk hf hS hT hI
    obtain ⟨f, rfl⟩ : ∃ g, f = g + 1 := ⟨f - 1, by omega⟩
    have ek : (nI k).toInt = k := q_n (by omega)
    have c : ¬ m < nI k := by rw [q_lt, ek]; omega
    have hC := hg (nI k) (by omega) (by omega)
    have hV := ht _ hC
    obtain ⟨s1, s2, s3, s4, s5, s6⟩ := id hS
    obtain ⟨t1, t2, t3⟩ := id hT
    have fa := (far_M hc0 hC).2
    have fd := trv_M hC hx T
    rw [t1, t2, t3] at fd
    generalize eC : ckC row col dx dy m (nI k) = C at hC hV fa fd
    have eC' : ((60 * (row + fl (dy * nI k) m)) + col) + fl (dx * nI k) m = C := eC
    generalize eV : ckT s wx wy c0 t0 v x C = V at hV
    have eV' : (t0 + (v * far c0 C) / 10) + trv s wx wy C x = V := eV
    have new : r_Hd_listenCrack_L64 a1 x col row dx dy m (f + 1) (nI k) S = r_Hd_listenCrack_L64 a1 x col row dx dy m f (nI (k + 1)) (sw (sw S 13 3 V) 13 4 C) → r_M_findsCrack_L86 c0 t0 v x col row dx dy m (f + 1) (nI k) T = r_M_findsCrack_L86 c0 t0 v x col row dx dy m f (nI (k + 1)) (sw (sw T 104 19 V) 104 20 C) →
        ∃ S' T' e, r_Hd_listenCrack_L64 a1 x col row dx dy m (f + 1) (nI k) S = some (e, S') ∧ r_M_findsCrack_L86 c0 t0 v x col row dx dy m (f + 1) (nI k) T = some (e, T') ∧ (∀ a j, ¬ (a = 13 ∧ (j = 3 ∨ j = 4)) → S' a j = S a j) ∧ (∀ a j, ¬ (a = 104 ∧ (j = 19 ∨ j = 20)) → T' a j = T a j) ∧ T' 104 19 = S' 13 3 ∧ T' 104 20 = S' 13 4 ∧ isC (S' 13 4) ∧ 0 ≤ (S' 13 3).toInt := by
      intro hB hM
      rw [hB, hM]
      obtain ⟨S', T', e, q1, q2, q3, q4, q5⟩ := ih f (k + 1) (sw (sw S 13 3 V) 13 4 C) (sw (sw T 104 19 V) 104 20 C) (by omega) (by omega) (by simp (disch := omega) only [rd_ne]; exact hS) (by simp (disch := omega) only [rd_ne]; exact hT) (Or.inr ⟨by omega, by simp (disch := omega) only [rd_ne, sw_same]; exact hV, by simp (disch := omega) only [rd_ne, sw_same], by simp (disch := omega) only [rd_ne, sw_same], by simp (disch := omega) only [rd_ne, sw_same]; exact hC⟩)
      refine ⟨S', T', e, q1, q2, fun a j h => ?_, fun a j h => ?_, q5⟩
      · rw [q3 a j h, rd_ne (by omega), rd_ne (by omega)]
      · rw [q4 a j h, rd_ne (by omega), rd_ne (by omega)]
    rcases hI with ⟨k0, t4⟩ | ⟨k0, i2, i3, i4, i5⟩
    · subst k0
      have z : nI 0 = 0 := rfl
      apply new
      · simp only [r_Hd_listenCrack_L64, if_neg c, fl_B hm, Option.bind_some, lt, ltS, far_B, trv_B, jn, eC', s1, s2, s3, s4, s5, s6, eV', nI_1]
        rw [if_pos z]
      · simp only [r_M_findsCrack_L86, if_neg c, fl_M hm, Option.bind_some, lt, ltS, jn, eC', fa, fd, eV', if_pos t4, nI_1]
    · have z : ¬ nI k = 0 := by rw [q_eq, ek, z_0]; omega
      have t5 : ¬ T 104 19 = -1 := by
        rw [i3, q_eq, show (-1 : Int32).toInt = -1 by decide]
        omega
      by_cases cv : S 13 3 ≤ V
      · have cw : ¬ V < T 104 19 := by rw [i3, q_lt]; rw [q_le] at cv; omega
        have hB : r_Hd_listenCrack_L64 a1 x col row dx dy m (f + 1) (nI k) S = r_Hd_listenCrack_L64 a1 x col row dx dy m f (nI (k + 1)) S := by
          simp only [r_Hd_listenCrack_L64, if_neg c, fl_B hm, Option.bind_some, lt, ltS, far_B, trv_B, jn, eC', s1, s2, s3, s4, s5, s6, eV', if_neg z, if_pos cv, nI_1]
        have hM : r_M_findsCrack_L86 c0 t0 v x col row dx dy m (f + 1) (nI k) T = r_M_findsCrack_L86 c0 t0 v x col row dx dy m f (nI (k + 1)) T := by
          simp only [r_M_findsCrack_L86, if_neg c, fl_M hm, Option.bind_some, lt, ltS, jn, eC', fa, fd, eV', if_neg t5, if_neg cw, nI_1]
        rw [hB, hM]
        exact ih f (k + 1) S T (by omega) (by omega) hS hT (Or.inr ⟨by omega, i2, i3, i4, i5⟩)
      · have cw : V < T 104 19 := by rw [i3, q_lt]; rw [q_le] at cv; omega
        apply new
        · simp only [r_Hd_listenCrack_L64, if_neg c, fl_B hm, Option.bind_some, lt, ltS, far_B, trv_B, jn, eC', s1, s2, s3, s4, s5, s6, eV', if_neg z, if_neg cv, nI_1]
        · simp only [r_M_findsCrack_L86, if_neg c, fl_M hm, Option.bind_some, lt, ltS, jn, eC', fa, fd, eV', if_neg t5, if_pos cw, nI_1]
