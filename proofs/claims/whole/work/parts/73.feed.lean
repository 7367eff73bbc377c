theorem byte_and (y : Int32) : (vp_nar .byte (y.toInt8.toInt32)) &&& 255 = y &&& 255 := by
  have e : vp_nar .byte (y.toInt8.toInt32) = y.toInt8.toInt32.toInt8.toInt32 := rfl
  have e2 : ∀ i, i < 32 → (255#32).getLsbD i = decide (i < 8) := by decide
  rw [e]
  apply Int32.toBitVec_inj.mp
  simp only [Int32.toBitVec_and, Int8.toBitVec_toInt32, Int32.toBitVec_toInt8]
  apply BitVec.eq_of_getLsbD_eq
  intro i hi
  have e3 := e2 i hi
  have e4 : Int32.toBitVec 255 = 255#32 := by decide
  rw [BitVec.getLsbD_and, BitVec.getLsbD_and, e4, e3]
  by_cases k : i < 8
  · simp only [BitVec.getLsbD_signExtend, k, hi, decide_true, Bool.true_and, if_true]
  · simp [k]
def bt (y s : Int32) : Int32 := vp_nar .byte ((y >>> (s &&& 31)).toInt8.toInt32)
def mt (y s : Int32) : Int32 := (y >>> (s &&& 31)) &&& 255
theorem bt_mt (y s : Int32) : mt y s = bt y s &&& 255 := (byte_and _).symm
def putB : List Int32 → Nat → Sto → Sto
  | [], _, S => S
  | b :: l, n, S => putB l (n + 1) (sw (sw S 30 n b) 29 1 (nI (n + 1)))
def putM : List Int32 → Nat → Sto → Sto
  | [], _, S => S
  | b :: l, n, S => putM l (n + 1) (sw (sw S 118 n b) 104 27 (nI (n + 1)))
theorem putB_c : ∀ (l : List Int32) (n : Nat) (S : Sto), S 29 1 = nI n → putB l n S 29 1 = nI (n + l.length) := by
  intro l
  induction l with
  | nil => intro n S h; exact h
  | cons b l ih =>
    intro n S h
    rw [putB, ih _ _ sw_same, List.length_cons, Nat.add_right_comm]
    rfl
theorem putM_c : ∀ (l : List Int32) (n : Nat) (S : Sto), S 104 27 = nI n → putM l n S 104 27 = nI (n + l.length) := by
  intro l
  induction l with
  | nil => intro n S h; exact h
  | cons b l ih =>
    intro n S h
    rw [putM, ih _ _ sw_same, List.length_cons, Nat.add_right_comm]
    rfl
theorem putB_o : ∀ (l : List Int32) (n : Nat) (S : Sto) (a k : Nat), ¬ (a = 29 ∧ k = 1) → (a = 30 → k < n) → putB l n S a k = S a k := by
  intro l
  induction l with
  | nil => intro n S a k _ _; rfl
  | cons b l ih =>
    intro n S a k h1 h2
    rw [putB, ih _ _ a k h1 (by omega), rd_ne h1, rd_ne (by omega)]
theorem putM_o : ∀ (l : List Int32) (n : Nat) (S : Sto) (a k : Nat), ¬ (a = 104 ∧ k = 27) → (a = 118 → k < n) → putM l n S a k = S a k := by
  intro l
  induction l with
  | nil => intro n S a k _ _; rfl
  | cons b l ih =>
    intro n S a k h1 h2
    rw [putM, ih _ _ a k h1 (by omega), rd_ne h1, rd_ne (by omega)]
theorem putB_i : ∀ (l : List Int32) (n : Nat) (S : Sto) (i : Nat) (b : Int32), l[i]? = some b → putB l n S 30 (n + i) = b := by
  intro l
  induction l with
  | nil => intro n S i b h; simp at h
  | cons c l ih =>
    intro n S i b h
    rw [putB]
    cases i with
    | zero =>
      simp at h
      subst h
      rw [putB_o _ _ _ _ _ (by omega) (by omega), rd_ne (by omega)]
      exact sw_same
    | succ i =>
      have := ih (n + 1) (sw (sw S 30 n c) 29 1 (nI (n + 1))) i b (by simpa using h)
      rw [show n + (i + 1) = n + 1 + i by omega]
      exact this
theorem putM_i : ∀ (l : List Int32) (n : Nat) (S : Sto) (i : Nat) (b : Int32), l[i]? = some b → putM l n S 118 (n + i) = b := by
  intro l
  induction l with
  | nil => intro n S i b h; simp at h
  | cons c l ih =>
    intro n S i b h
    rw [putM]
    cases i with
    | zero =>
      simp at h
      subst h
      rw [putM_o _ _ _ _ _ (by omega) (by omega), rd_ne (by omega)]
      exact sw_same
    | succ i =>
      have := ih (n + 1) (sw (sw S 118 n c) 104 27 (nI (n + 1))) i b (by simpa using h)
      rw [show n + (i + 1) = n + 1 + i by omega]
      exact this
theorem putB_a : ∀ (l m : List Int32) (n : Nat) (S : Sto), putB m (n + l.length) (putB l n S) = putB (l ++ m) n S := by
  intro l
  induction l with
  | nil => intro m n S; rfl
  | cons b l ih =>
    intro m n S
    rw [putB, List.cons_append, putB, ← ih, List.length_cons, show n + (l.length + 1) = n + 1 + l.length by omega]
theorem putM_a : ∀ (l m : List Int32) (n : Nat) (S : Sto), putM m (n + l.length) (putM l n S) = putM (l ++ m) n S := by
  intro l
  induction l with
  | nil => intro m n S; rfl
  | cons b l ih =>
    intro m n S
    rw [putM, List.cons_append, putM, ← ih, List.length_cons, show n + (l.length + 1) = n + 1 + l.length by omega]
theorem app1 {y s : Int32} {f n : Nat} {S : Sto} (h : S 29 1 = nI n) (hn : n < 400) (hs : ¬ s < 0) : r_Rd_append_L3 y (f + 1) s S = r_Rd_append_L3 y f (s + (-8)) (sw (sw S 30 n (bt y s)) 29 1 (nI (n + 1))) := by
  have c : ¬ 400 ≤ nI n := by
    rw [q_le, q_n (by omega), show (400 : Int32).toInt = 400 by decide]
    omega
  have i1 : inr (nI n) 400 = true := inr_nI hn (by decide)
  have tn : (nI n).toNatClampNeg = n := q_tnI (by omega)
  simp (disch := omega) only [r_Rd_append_L3, jn, ltS, lt, if_neg hs, h, if_neg c, chk_t i1, tn, rd_ne, nI_1]
  rfl
theorem pts1 {y s : Int32} {f n : Nat} {S : Sto} (h : S 104 27 = nI n) (hn : n < 400) (hs : ¬ s < 0) : r_M_puts_L3 y (f + 1) s S = r_M_puts_L3 y f (s + (-8)) (sw (sw S 118 n (mt y s)) 104 27 (nI (n + 1))) := by
  have i1 : inr (nI n) 400 = true := inr_nI hn (by decide)
  have tn : (nI n).toNatClampNeg = n := q_tnI (by omega)
  simp (disch := omega) only [r_M_puts_L3, jn, ltS, lt, if_neg hs, h, chk_t i1, tn, rd_ne, nI_1]
  rfl
def bs (y : Int32) : List Int32 := [bt y 24, bt y 16, bt y 8, bt y 0]
def ms (y : Int32) : List Int32 := [mt y 24, mt y 16, mt y 8, mt y 0]
theorem ms_bs (y : Int32) : ms y = (bs y).map (· &&& 255) := by simp only [ms, bs, bt_mt, List.map]
theorem app_4 {y : Int32} {n : Nat} {S : Sto} (h : S 29 1 = nI n) (hn : n + 4 ≤ 400) : r_Rd_append y S = some (putB (bs y) n S) := by
  have e1 : (24 : Int32) + (-8) = 16 := by decide
  have e2 : (16 : Int32) + (-8) = 8 := by decide
  have e3 : (8 : Int32) + (-8) = 0 := by decide
  have e4 : (0 : Int32) + (-8) < 0 := by decide
  have e5 : fu = 4995 + 1 + 1 + 1 + 1 + 1 := rfl
  rw [r_Rd_append, e5, app1 h (by omega) (by decide), e1, app1 sw_same (by omega) (by decide), e2, app1 sw_same (by omega) (by decide), e3, app1 sw_same (by omega) (by decide), r_Rd_append_L3, if_pos e4]
  rfl
theorem pts_4 {y : Int32} {n : Nat} {S : Sto} (h : S 104 27 = nI n) (hn : n + 4 ≤ 400) : r_M_puts y S = some (putM (ms y) n S) := by
  have e1 : (24 : Int32) + (-8) = 16 := by decide
  have e2 : (16 : Int32) + (-8) = 8 := by decide
  have e3 : (8 : Int32) + (-8) = 0 := by decide
  have e4 : (0 : Int32) + (-8) < 0 := by decide
  have e5 : fu = 4995 + 1 + 1 + 1 + 1 + 1 := rfl
  rw [r_M_puts, e5, pts1 h (by omega) (by decide), e1, pts1 sw_same (by omega) (by decide), e2, pts1 sw_same (by omega) (by decide), e3, pts1 sw_same (by omega) (by decide), r_M_puts_L3, if_pos e4]
  rfl
theorem feedB {x1 x2 x3 x4 x5 : Int32} {n : Nat} {S : Sto} (h : S 29 1 = nI n) (hn : n + 20 ≤ 400) : r_B_feed x1 x2 x3 x4 x5 S = some (nI (n + 20), putB (bs x1 ++ bs x2 ++ bs x3 ++ bs x4 ++ bs x5) n S) := by
  have c : nI n + 20 ≤ 400 := by
    have e1 : (20 : Int32).toInt = 20 := by decide
    have e2 : (nI n).toInt = n := q_n (by omega)
    rw [q_le, q_add (by omega) (by omega), e1, e2, show (400 : Int32).toInt = 400 by decide]
    omega
  have h1 := app_4 (y := x1) h (by omega)
  have k1 := putB_c (bs x1) n S h
  have h2 := app_4 (y := x2) k1 (by simp [bs]; omega)
  rw [putB_a] at h2
  have k2 := putB_c (bs x1 ++ bs x2) n S h
  have h3 := app_4 (y := x3) k2 (by simp [bs]; omega)
  rw [putB_a] at h3
  have k3 := putB_c (bs x1 ++ bs x2 ++ bs x3) n S h
  have h4 := app_4 (y := x4) k3 (by simp [bs]; omega)
  rw [putB_a] at h4
  have k4 := putB_c (bs x1 ++ bs x2 ++ bs x3 ++ bs x4) n S h
  have h5 := app_4 (y := x5) k4 (by simp [bs]; omega)
  rw [putB_a] at h5
  have k5 := putB_c (bs x1 ++ bs x2 ++ bs x3 ++ bs x4 ++ bs x5) n S h
  simp only [r_B_feed, h, if_pos c, h1, h2, h3, h4, h5, Option.bind_some]
  rw [k5]
  rfl
theorem feedM {x1 x2 x3 x4 x5 : Int32} {n : Nat} {S : Sto} (h : S 104 27 = nI n) (hn : n + 20 ≤ 400) : r_M_feed x1 x2 x3 x4 x5 S = some (nI (n + 20), putM (ms x1 ++ ms x2 ++ ms x3 ++ ms x4 ++ ms x5) n (sw S 104 0 0)) := by
  have c : nI n ≤ 380 := by
    have e2 : (nI n).toInt = n := q_n (by omega)
    rw [q_le, e2, show (380 : Int32).toInt = 380 by decide]
    omega
  have h' : (sw S 104 0 0) 104 27 = nI n := by rw [rd_ne (by omega)]; exact h
  have h1 := pts_4 (y := x1) h' (by omega)
  have k1 := putM_c (ms x1) n _ h'
  have h2 := pts_4 (y := x2) k1 (by simp [ms]; omega)
  rw [putM_a] at h2
  have k2 := putM_c (ms x1 ++ ms x2) n _ h'
  have h3 := pts_4 (y := x3) k2 (by simp [ms]; omega)
  rw [putM_a] at h3
  have k3 := putM_c (ms x1 ++ ms x2 ++ ms x3) n _ h'
  have h4 := pts_4 (y := x4) k3 (by simp [ms]; omega)
  rw [putM_a] at h4
  have k4 := putM_c (ms x1 ++ ms x2 ++ ms x3 ++ ms x4) n _ h'
  have h5 := pts_4 (y := x5) k4 (by simp [ms]; omega)
  rw [putM_a] at h5
  have k5 := putM_c (ms x1 ++ ms x2 ++ ms x3 ++ ms x4 ++ ms x5) n _ h'
  simp only [r_M_feed, ltS, h', if_pos c, h1, h2, h3, h4, h5, Option.bind_some]
  rw [k5]
  rfl
theorem st_feed {nL : Nat} {S : Sto} (h : Iv nL S) (x1 x2 x3 x4 x5 : Int32) : ∃ (r : Int32) (S1 : Sto) (S2 : Sto), r_B_feed x1 x2 x3 x4 x5 S = some (r, S1) ∧ r_M_feed x1 x2 x3 x4 x5 S1 = some (r, S2) ∧ Iv nL S2 := by
  obtain ⟨h1, h2, h3, h4, ⟨n, b0, b1, b2, b3⟩, h6, h7, h8, h9, h10, h11, h12, h13, h14⟩ := id h
  by_cases c : n + 20 ≤ 400
  rotate_left
  · have c1 : ¬ nI n + 20 ≤ 400 := by
      have e1 : (20 : Int32).toInt = 20 := by decide
      have e2 : (nI n).toInt = n := q_n (by omega)
      rw [q_le, q_add (by omega) (by omega), e1, e2, show (400 : Int32).toInt = 400 by decide]
      omega
    have c2 : ¬ nI n ≤ 380 := by
      have e2 : (nI n).toInt = n := q_n (by omega)
      rw [q_le, e2, show (380 : Int32).toInt = 380 by decide]
      omega
    exact ⟨-1, S, sw S 104 0 0, by simp only [r_B_feed, b1, if_neg c1], by simp (disch := omega) only [r_M_feed, ltS, rd_ne, b2, if_neg c2], h.t0⟩
  have hM : (ms x1 ++ ms x2 ++ ms x3 ++ ms x4 ++ ms x5) = (bs x1 ++ bs x2 ++ bs x3 ++ bs x4 ++ bs x5).map (· &&& 255) := by
    simp only [List.map_append, ms_bs]
  have hl : (bs x1 ++ bs x2 ++ bs x3 ++ bs x4 ++ bs x5).length = 20 := rfl
  have fB := feedB (x1 := x1) (x2 := x2) (x3 := x3) (x4 := x4) (x5 := x5) b1 c
  have fM := feedM (x1 := x1) (x2 := x2) (x3 := x3) (x4 := x4) (x5 := x5) (S := putB (bs x1 ++ bs x2 ++ bs x3 ++ bs x4 ++ bs x5) n S) (n := n) (by rw [putB_o _ _ _ _ _ (by omega) (by omega)]; exact b2) c
  rw [hM] at fM
  generalize bs x1 ++ bs x2 ++ bs x3 ++ bs x4 ++ bs x5 = B at fB fM hl
  refine ⟨_, _, _, fB, fM, ?_⟩
  have ag : ∀ u : Nat → Nat → Bool, u 29 1 = false → (∀ k, u 30 k = false) → u 104 0 = false → u 104 27 = false → (∀ k, u 118 k = false) → Ag u S (putM (B.map (· &&& 255)) n (sw (putB B n S) 104 0 0)) := by
    intro u e1 e2 e3 e4 e5 a k hu
    have f1 : ¬ (a = 29 ∧ k = 1) := by rintro ⟨p, q⟩; subst p; subst q; rw [e1] at hu; cases hu
    have f2 : ¬ a = 30 := by intro p; subst p; rw [e2] at hu; cases hu
    have f3 : ¬ (a = 104 ∧ k = 0) := by rintro ⟨p, q⟩; subst p; subst q; rw [e3] at hu; cases hu
    have f4 : ¬ (a = 104 ∧ k = 27) := by rintro ⟨p, q⟩; subst p; subst q; rw [e4] at hu; cases hu
    have f5 : ¬ a = 118 := by intro p; subst p; rw [e5] at hu; cases hu
    rw [putM_o _ _ _ _ _ f4 (by omega), rd_ne f3, putB_o _ _ _ _ _ f1 (by omega)]
  have w : ∀ k : Nat, True := fun _ => trivial
  refine ⟨h1.keep (ag _ rfl (fun _ => rfl) rfl rfl (fun _ => rfl)), h2.keep (ag _ rfl (fun _ => rfl) rfl rfl (fun _ => rfl)), h3.keep (ag _ rfl (fun _ => rfl) rfl rfl (fun _ => rfl)), h4.keep (ag _ rfl (fun _ => rfl) rfl rfl (fun _ => rfl)), ⟨n + 20, c, ?_, ?_, fun i hi => ?_⟩, h6.keep (ag _ rfl (fun _ => rfl) rfl rfl (fun _ => rfl)), h7.keep (ag _ rfl (fun _ => rfl) rfl rfl (fun _ => rfl)), h8.keep (ag _ rfl (fun _ => rfl) rfl rfl (fun _ => rfl)), h9.keep (ag _ rfl (fun _ => rfl) rfl rfl (fun _ => rfl)), h10.keep (ag _ rfl (fun _ => rfl) rfl rfl (fun _ => rfl)), h11.keep (ag _ rfl (fun _ => rfl) rfl rfl (fun _ => rfl)), h12.keep (ag _ rfl (fun _ => rfl) rfl rfl (fun _ => rfl)), h13.keep (ag _ rfl (fun _ => rfl) rfl rfl (fun _ => rfl)), h14.keep (ag _ rfl (fun _ => rfl) rfl rfl (fun _ => rfl))⟩
  · rw [putM_o _ _ _ _ _ (by omega) (by omega), rd_ne (by omega), putB_c _ _ _ b1, hl]
  · rw [putM_c, List.length_map, hl]
    rw [rd_ne (by omega), putB_o _ _ _ _ _ (by omega) (by omega)]
    exact b2
  · by_cases k : i < n
    · rw [putM_o _ _ _ _ _ (by omega) (by omega), putM_o _ _ _ _ _ (by omega) (by omega), rd_ne (by omega), rd_ne (by omega), putB_o _ _ _ _ _ (by omega) (by omega), putB_o _ _ _ _ _ (by omega) (by omega)]
      exact b3 i k
    · obtain ⟨j, ej⟩ : ∃ j, i = n + j := ⟨i - n, by omega⟩
      subst ej
      have hj : j < B.length := by omega
      have g1 : B[j]? = some B[j] := List.getElem?_eq_getElem hj
      have g2 : (B.map (· &&& 255))[j]? = some (B[j] &&& 255) := by rw [List.getElem?_map, g1]; rfl
      rw [putM_i _ _ _ _ _ g2, putM_o _ _ _ _ _ (by omega) (by omega), rd_ne (by omega), putB_i _ _ _ _ _ g1]
