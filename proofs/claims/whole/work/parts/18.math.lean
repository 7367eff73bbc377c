-- Ma_max
theorem d_Ma_max_0 : decode (mB Y_Ma_max) 0 = .ok (.iload_n 0, 1) := by decide +kernel
theorem d_Ma_max_1 : decode (mB Y_Ma_max) 1 = .ok (.iload_n 1, 1) := by decide +kernel
theorem d_Ma_max_2 : decode (mB Y_Ma_max) 2 = .ok (.if_icmp .lt 7, 3) := by decide +kernel
theorem d_Ma_max_5 : decode (mB Y_Ma_max) 5 = .ok (.iload_n 0, 1) := by decide +kernel
theorem d_Ma_max_6 : decode (mB Y_Ma_max) 6 = .ok (.goto 4, 3) := by decide +kernel
theorem d_Ma_max_9 : decode (mB Y_Ma_max) 9 = .ok (.iload_n 1, 1) := by decide +kernel
theorem d_Ma_max_10 : decode (mB Y_Ma_max) 10 = .ok (.ireturn, 1) := by decide +kernel
def r_Ma_max (x0 : Int32) (x1 : Int32) : Int32 := (if x0 < x1 then x1 else x0)
set_option maxHeartbeats 4000000 in
set_option maxRecDepth 20000 in
theorem c_Ma_max {G : Gl} {L : Shp} (hL : Ext L) (S : Sto) (x0 : Int32) (x1 : Int32)  : Ct Y_Ma_max G [.int x0, .int x1] L S (fp L S) (some (r_Ma_max x0 x1)) := by
  refine ct_of (by decide +kernel) (Nat.le_of_ble_eq_true rfl) (fun g C => ?_)
  have e : (some (r_Ma_max x0 x1) : Option Int32) =
      if x0 < x1 then
        some x1
      else
        some x0 := by
    unfold r_Ma_max
    simp only [some_ite, lt, ltJ]
  rw [e]
  show VO g Y_Ma_max G (fun z => Qm g Y_Ma_max G (fp L S z)) 0 0 0 [(0, .int x0), (1, .int x1)] [] L S _ some
  refine v_iload_n (pc := 0) C d_Ma_max_0 rfl 0 rfl ?_
  refine v_iload_n (pc := 1) C d_Ma_max_1 rfl 1 rfl ?_
  refine v_icmp_lt (pc := 2) (tgt := 9) C d_Ma_max_2 rfl (fun _ => ?_) (fun _ => ?_)
  · refine v_iload_n (pc := 9) C d_Ma_max_9 rfl 1 rfl ?_
    exact v_iret (z := x1) C d_Ma_max_10 rfl ⟨Nat.zero_le _, Nat.zero_le _⟩ (rfl) rfl
  · refine v_iload_n (pc := 5) C d_Ma_max_5 rfl 0 rfl ?_
    refine v_goto (pc := 6) (tgt := 10) C d_Ma_max_6 rfl ?_
    exact v_iret (z := x0) C d_Ma_max_10 rfl ⟨Nat.zero_le _, Nat.zero_le _⟩ (rfl) rfl
set_option maxHeartbeats 4000000 in
set_option maxRecDepth 20000 in
theorem c0_Ma_max {G : Gl} {L : Shp} (S : Sto) (x0 : Int32) (x1 : Int32)  : Ct Y_Ma_max G [.int x0, .int x1] L S (fp L S) (some (r_Ma_max x0 x1)) := by
  refine ct_of (by decide +kernel) (Nat.le_of_ble_eq_true rfl) (fun g C => ?_)
  have e : (some (r_Ma_max x0 x1) : Option Int32) =
      if x0 < x1 then
        some x1
      else
        some x0 := by
    unfold r_Ma_max
    simp only [some_ite, lt, ltJ]
  rw [e]
  show VO g Y_Ma_max G (fun z => Qm g Y_Ma_max G (fp L S z)) 0 0 0 [(0, .int x0), (1, .int x1)] [] L S _ some
  refine v_iload_n (pc := 0) C d_Ma_max_0 rfl 0 rfl ?_
  refine v_iload_n (pc := 1) C d_Ma_max_1 rfl 1 rfl ?_
  refine v_icmp_lt (pc := 2) (tgt := 9) C d_Ma_max_2 rfl (fun _ => ?_) (fun _ => ?_)
  · refine v_iload_n (pc := 9) C d_Ma_max_9 rfl 1 rfl ?_
    exact v_iret (z := x1) C d_Ma_max_10 rfl ⟨Nat.zero_le _, Nat.zero_le _⟩ (rfl) rfl
  · refine v_iload_n (pc := 5) C d_Ma_max_5 rfl 0 rfl ?_
    refine v_goto (pc := 6) (tgt := 10) C d_Ma_max_6 rfl ?_
    exact v_iret (z := x0) C d_Ma_max_10 rfl ⟨Nat.zero_le _, Nat.zero_le _⟩ (rfl) rfl
-- Ma_floorDiv
theorem d_Ma_floorDiv_0 : decode (mB Y_Ma_floorDiv) 0 = .ok (.iload_n 0, 1) := by decide +kernel
theorem d_Ma_floorDiv_1 : decode (mB Y_Ma_floorDiv) 1 = .ok (.iload_n 1, 1) := by decide +kernel
theorem d_Ma_floorDiv_2 : decode (mB Y_Ma_floorDiv) 2 = .ok (.idiv, 1) := by decide +kernel
theorem d_Ma_floorDiv_3 : decode (mB Y_Ma_floorDiv) 3 = .ok (.istore_n 2, 1) := by decide +kernel
theorem d_Ma_floorDiv_4 : decode (mB Y_Ma_floorDiv) 4 = .ok (.iload_n 0, 1) := by decide +kernel
theorem d_Ma_floorDiv_5 : decode (mB Y_Ma_floorDiv) 5 = .ok (.iload_n 1, 1) := by decide +kernel
theorem d_Ma_floorDiv_6 : decode (mB Y_Ma_floorDiv) 6 = .ok (.ixor, 1) := by decide +kernel
theorem d_Ma_floorDiv_7 : decode (mB Y_Ma_floorDiv) 7 = .ok (.ifCond .ge 14, 3) := by decide +kernel
theorem d_Ma_floorDiv_10 : decode (mB Y_Ma_floorDiv) 10 = .ok (.iload_n 2, 1) := by decide +kernel
theorem d_Ma_floorDiv_11 : decode (mB Y_Ma_floorDiv) 11 = .ok (.iload_n 1, 1) := by decide +kernel
theorem d_Ma_floorDiv_12 : decode (mB Y_Ma_floorDiv) 12 = .ok (.imul, 1) := by decide +kernel
theorem d_Ma_floorDiv_13 : decode (mB Y_Ma_floorDiv) 13 = .ok (.iload_n 0, 1) := by decide +kernel
theorem d_Ma_floorDiv_14 : decode (mB Y_Ma_floorDiv) 14 = .ok (.if_icmp .eq 7, 3) := by decide +kernel
theorem d_Ma_floorDiv_17 : decode (mB Y_Ma_floorDiv) 17 = .ok (.iload_n 2, 1) := by decide +kernel
theorem d_Ma_floorDiv_18 : decode (mB Y_Ma_floorDiv) 18 = .ok (.iconst 1, 1) := by decide +kernel
theorem d_Ma_floorDiv_19 : decode (mB Y_Ma_floorDiv) 19 = .ok (.isub, 1) := by decide +kernel
theorem d_Ma_floorDiv_20 : decode (mB Y_Ma_floorDiv) 20 = .ok (.ireturn, 1) := by decide +kernel
theorem d_Ma_floorDiv_21 : decode (mB Y_Ma_floorDiv) 21 = .ok (.iload_n 2, 1) := by decide +kernel
theorem d_Ma_floorDiv_22 : decode (mB Y_Ma_floorDiv) 22 = .ok (.ireturn, 1) := by decide +kernel
def r_Ma_floorDiv (x0 : Int32) (x1 : Int32) : Option Int32 :=
  chk (nz x1) (
  lt (x0 / x1) (fun v1 =>
  if 0 ≤ (x0 ^^^ x1) then
    some v1
  else
    if (v1 * x1) = x0 then
      some v1
    else
      some (v1 - 1)))
set_option maxHeartbeats 4000000 in
set_option maxRecDepth 20000 in
theorem c_Ma_floorDiv {G : Gl} {L : Shp} (hL : Ext L) (S : Sto) (x0 : Int32) (x1 : Int32)  : Ct Y_Ma_floorDiv G [.int x0, .int x1] L S (fp L S) (r_Ma_floorDiv x0 x1) := by
  refine ct_of (by decide +kernel) (Nat.le_of_ble_eq_true rfl) (fun g C => ?_)
  show VO g Y_Ma_floorDiv G (fun z => Qm g Y_Ma_floorDiv G (fp L S z)) 0 0 0 [(0, .int x0), (1, .int x1)] [] L S (r_Ma_floorDiv x0 x1) some
  unfold r_Ma_floorDiv
  refine v_iload_n (pc := 0) C d_Ma_floorDiv_0 rfl 0 rfl ?_
  refine v_iload_n (pc := 1) C d_Ma_floorDiv_1 rfl 1 rfl ?_
  refine v_chk (fun hne => ?_)
  refine v_idiv (pc := 2) C d_Ma_floorDiv_2 (nz_ne hne) ?_
  refine v_lt (fun v1 => ?_)
  refine v_istore_n (pc := 3) (lv' := [(2, .int v1), (0, .int x0), (1, .int x1)]) C d_Ma_floorDiv_3 rfl (by decide) rfl ?_
  refine v_iload_n (pc := 4) C d_Ma_floorDiv_4 rfl 1 rfl ?_
  refine v_iload_n (pc := 5) C d_Ma_floorDiv_5 rfl 2 rfl ?_
  refine v_ixor (pc := 6) C d_Ma_floorDiv_6 ?_
  refine v_if_ge (pc := 7) (tgt := 21) C d_Ma_floorDiv_7 rfl (fun _ => ?_) (fun _ => ?_)
  · refine v_iload_n (pc := 21) C d_Ma_floorDiv_21 rfl 0 rfl ?_
    exact v_iret (z := v1) C d_Ma_floorDiv_22 rfl ⟨Nat.zero_le _, Nat.zero_le _⟩ (rfl) rfl
  · refine v_iload_n (pc := 10) C d_Ma_floorDiv_10 rfl 0 rfl ?_
    refine v_iload_n (pc := 11) C d_Ma_floorDiv_11 rfl 2 rfl ?_
    refine v_imul (pc := 12) C d_Ma_floorDiv_12 ?_
    refine v_iload_n (pc := 13) C d_Ma_floorDiv_13 rfl 1 rfl ?_
    refine v_icmp_eq (pc := 14) (tgt := 21) C d_Ma_floorDiv_14 rfl (fun _ => ?_) (fun _ => ?_)
    · refine v_iload_n (pc := 21) C d_Ma_floorDiv_21 rfl 0 rfl ?_
      exact v_iret (z := v1) C d_Ma_floorDiv_22 rfl ⟨Nat.zero_le _, Nat.zero_le _⟩ (rfl) rfl
    · refine v_iload_n (pc := 17) C d_Ma_floorDiv_17 rfl 0 rfl ?_
      refine v_iconst (pc := 18) C d_Ma_floorDiv_18 ic_1 ?_
      refine v_isub (pc := 19) C d_Ma_floorDiv_19 ?_
      exact v_iret (z := (v1 - 1)) C d_Ma_floorDiv_20 rfl ⟨Nat.zero_le _, Nat.zero_le _⟩ (rfl) rfl
-- Ma_abs
theorem d_Ma_abs_0 : decode (mB Y_Ma_abs) 0 = .ok (.iload_n 0, 1) := by decide +kernel
theorem d_Ma_abs_1 : decode (mB Y_Ma_abs) 1 = .ok (.ifCond .ge 8, 3) := by decide +kernel
theorem d_Ma_abs_4 : decode (mB Y_Ma_abs) 4 = .ok (.iload_n 0, 1) := by decide +kernel
theorem d_Ma_abs_5 : decode (mB Y_Ma_abs) 5 = .ok (.ineg, 1) := by decide +kernel
theorem d_Ma_abs_6 : decode (mB Y_Ma_abs) 6 = .ok (.goto 4, 3) := by decide +kernel
theorem d_Ma_abs_9 : decode (mB Y_Ma_abs) 9 = .ok (.iload_n 0, 1) := by decide +kernel
theorem d_Ma_abs_10 : decode (mB Y_Ma_abs) 10 = .ok (.ireturn, 1) := by decide +kernel
def r_Ma_abs (x0 : Int32) : Int32 := (if 0 ≤ x0 then x0 else -x0)
set_option maxHeartbeats 4000000 in
set_option maxRecDepth 20000 in
theorem c_Ma_abs {G : Gl} {L : Shp} (hL : Ext L) (S : Sto) (x0 : Int32)  : Ct Y_Ma_abs G [.int x0] L S (fp L S) (some (r_Ma_abs x0)) := by
  refine ct_of (by decide +kernel) (Nat.le_of_ble_eq_true rfl) (fun g C => ?_)
  have e : (some (r_Ma_abs x0) : Option Int32) =
      if 0 ≤ x0 then
        some x0
      else
        some (-x0) := by
    unfold r_Ma_abs
    simp only [some_ite, lt, ltJ]
  rw [e]
  show VO g Y_Ma_abs G (fun z => Qm g Y_Ma_abs G (fp L S z)) 0 0 0 [(0, .int x0)] [] L S _ some
  refine v_iload_n (pc := 0) C d_Ma_abs_0 rfl 0 rfl ?_
  refine v_if_ge (pc := 1) (tgt := 9) C d_Ma_abs_1 rfl (fun _ => ?_) (fun _ => ?_)
  · refine v_iload_n (pc := 9) C d_Ma_abs_9 rfl 0 rfl ?_
    exact v_iret (z := x0) C d_Ma_abs_10 rfl ⟨Nat.zero_le _, Nat.zero_le _⟩ (rfl) rfl
  · refine v_iload_n (pc := 4) C d_Ma_abs_4 rfl 0 rfl ?_
    refine v_ineg (pc := 5) C d_Ma_abs_5 ?_
    refine v_goto (pc := 6) (tgt := 10) C d_Ma_abs_6 rfl ?_
    exact v_iret (z := (-x0)) C d_Ma_abs_10 rfl ⟨Nat.zero_le _, Nat.zero_le _⟩ (rfl) rfl
-- Ma_min
theorem d_Ma_min_0 : decode (mB Y_Ma_min) 0 = .ok (.iload_n 0, 1) := by decide +kernel
theorem d_Ma_min_1 : decode (mB Y_Ma_min) 1 = .ok (.iload_n 1, 1) := by decide +kernel
theorem d_Ma_min_2 : decode (mB Y_Ma_min) 2 = .ok (.if_icmp .gt 7, 3) := by decide +kernel
theorem d_Ma_min_5 : decode (mB Y_Ma_min) 5 = .ok (.iload_n 0, 1) := by decide +kernel
theorem d_Ma_min_6 : decode (mB Y_Ma_min) 6 = .ok (.goto 4, 3) := by decide +kernel
theorem d_Ma_min_9 : decode (mB Y_Ma_min) 9 = .ok (.iload_n 1, 1) := by decide +kernel
theorem d_Ma_min_10 : decode (mB Y_Ma_min) 10 = .ok (.ireturn, 1) := by decide +kernel
def r_Ma_min (x0 : Int32) (x1 : Int32) : Int32 := (if x1 < x0 then x1 else x0)
set_option maxHeartbeats 4000000 in
set_option maxRecDepth 20000 in
theorem c_Ma_min {G : Gl} {L : Shp} (hL : Ext L) (S : Sto) (x0 : Int32) (x1 : Int32)  : Ct Y_Ma_min G [.int x0, .int x1] L S (fp L S) (some (r_Ma_min x0 x1)) := by
  refine ct_of (by decide +kernel) (Nat.le_of_ble_eq_true rfl) (fun g C => ?_)
  have e : (some (r_Ma_min x0 x1) : Option Int32) =
      if x1 < x0 then
        some x1
      else
        some x0 := by
    unfold r_Ma_min
    simp only [some_ite, lt, ltJ]
  rw [e]
  show VO g Y_Ma_min G (fun z => Qm g Y_Ma_min G (fp L S z)) 0 0 0 [(0, .int x0), (1, .int x1)] [] L S _ some
  refine v_iload_n (pc := 0) C d_Ma_min_0 rfl 0 rfl ?_
  refine v_iload_n (pc := 1) C d_Ma_min_1 rfl 1 rfl ?_
  refine v_icmp_gt (pc := 2) (tgt := 9) C d_Ma_min_2 rfl (fun _ => ?_) (fun _ => ?_)
  · refine v_iload_n (pc := 9) C d_Ma_min_9 rfl 1 rfl ?_
    exact v_iret (z := x1) C d_Ma_min_10 rfl ⟨Nat.zero_le _, Nat.zero_le _⟩ (rfl) rfl
  · refine v_iload_n (pc := 5) C d_Ma_min_5 rfl 0 rfl ?_
    refine v_goto (pc := 6) (tgt := 10) C d_Ma_min_6 rfl ?_
    exact v_iret (z := x0) C d_Ma_min_10 rfl ⟨Nat.zero_le _, Nat.zero_le _⟩ (rfl) rfl
set_option maxHeartbeats 4000000 in
set_option maxRecDepth 20000 in
theorem c0_Ma_min {G : Gl} {L : Shp} (S : Sto) (x0 : Int32) (x1 : Int32)  : Ct Y_Ma_min G [.int x0, .int x1] L S (fp L S) (some (r_Ma_min x0 x1)) := by
  refine ct_of (by decide +kernel) (Nat.le_of_ble_eq_true rfl) (fun g C => ?_)
  have e : (some (r_Ma_min x0 x1) : Option Int32) =
      if x1 < x0 then
        some x1
      else
        some x0 := by
    unfold r_Ma_min
    simp only [some_ite, lt, ltJ]
  rw [e]
  show VO g Y_Ma_min G (fun z => Qm g Y_Ma_min G (fp L S z)) 0 0 0 [(0, .int x0), (1, .int x1)] [] L S _ some
  refine v_iload_n (pc := 0) C d_Ma_min_0 rfl 0 rfl ?_
  refine v_iload_n (pc := 1) C d_Ma_min_1 rfl 1 rfl ?_
  refine v_icmp_gt (pc := 2) (tgt := 9) C d_Ma_min_2 rfl (fun _ => ?_) (fun _ => ?_)
  · refine v_iload_n (pc := 9) C d_Ma_min_9 rfl 1 rfl ?_
    exact v_iret (z := x1) C d_Ma_min_10 rfl ⟨Nat.zero_le _, Nat.zero_le _⟩ (rfl) rfl
  · refine v_iload_n (pc := 5) C d_Ma_min_5 rfl 0 rfl ?_
    refine v_goto (pc := 6) (tgt := 10) C d_Ma_min_6 rfl ?_
    exact v_iret (z := x0) C d_Ma_min_10 rfl ⟨Nat.zero_le _, Nat.zero_le _⟩ (rfl) rfl
-- Ig_bitCount
theorem d_Ig_bitCount_0 : decode (mB Y_Ig_bitCount) 0 = .ok (.iload_n 0, 1) := by decide +kernel
theorem d_Ig_bitCount_1 : decode (mB Y_Ig_bitCount) 1 = .ok (.iload_n 0, 1) := by decide +kernel
theorem d_Ig_bitCount_2 : decode (mB Y_Ig_bitCount) 2 = .ok (.iconst 1, 1) := by decide +kernel
theorem d_Ig_bitCount_3 : decode (mB Y_Ig_bitCount) 3 = .ok (.iushr, 1) := by decide +kernel
theorem d_Ig_bitCount_4 : decode (mB Y_Ig_bitCount) 4 = .ok (.ldc_w 265, 3) := by decide +kernel
theorem d_Ig_bitCount_7 : decode (mB Y_Ig_bitCount) 7 = .ok (.iand, 1) := by decide +kernel
theorem d_Ig_bitCount_8 : decode (mB Y_Ig_bitCount) 8 = .ok (.isub, 1) := by decide +kernel
theorem d_Ig_bitCount_9 : decode (mB Y_Ig_bitCount) 9 = .ok (.istore_n 0, 1) := by decide +kernel
theorem d_Ig_bitCount_10 : decode (mB Y_Ig_bitCount) 10 = .ok (.iload_n 0, 1) := by decide +kernel
theorem d_Ig_bitCount_11 : decode (mB Y_Ig_bitCount) 11 = .ok (.ldc_w 266, 3) := by decide +kernel
theorem d_Ig_bitCount_14 : decode (mB Y_Ig_bitCount) 14 = .ok (.iand, 1) := by decide +kernel
theorem d_Ig_bitCount_15 : decode (mB Y_Ig_bitCount) 15 = .ok (.iload_n 0, 1) := by decide +kernel
theorem d_Ig_bitCount_16 : decode (mB Y_Ig_bitCount) 16 = .ok (.iconst 2, 1) := by decide +kernel
theorem d_Ig_bitCount_17 : decode (mB Y_Ig_bitCount) 17 = .ok (.iushr, 1) := by decide +kernel
theorem d_Ig_bitCount_18 : decode (mB Y_Ig_bitCount) 18 = .ok (.ldc_w 266, 3) := by decide +kernel
theorem d_Ig_bitCount_21 : decode (mB Y_Ig_bitCount) 21 = .ok (.iand, 1) := by decide +kernel
theorem d_Ig_bitCount_22 : decode (mB Y_Ig_bitCount) 22 = .ok (.iadd, 1) := by decide +kernel
theorem d_Ig_bitCount_23 : decode (mB Y_Ig_bitCount) 23 = .ok (.istore_n 0, 1) := by decide +kernel
theorem d_Ig_bitCount_24 : decode (mB Y_Ig_bitCount) 24 = .ok (.iload_n 0, 1) := by decide +kernel
theorem d_Ig_bitCount_25 : decode (mB Y_Ig_bitCount) 25 = .ok (.iload_n 0, 1) := by decide +kernel
theorem d_Ig_bitCount_26 : decode (mB Y_Ig_bitCount) 26 = .ok (.iconst 4, 1) := by decide +kernel
theorem d_Ig_bitCount_27 : decode (mB Y_Ig_bitCount) 27 = .ok (.iushr, 1) := by decide +kernel
theorem d_Ig_bitCount_28 : decode (mB Y_Ig_bitCount) 28 = .ok (.iadd, 1) := by decide +kernel
theorem d_Ig_bitCount_29 : decode (mB Y_Ig_bitCount) 29 = .ok (.ldc_w 267, 3) := by decide +kernel
theorem d_Ig_bitCount_32 : decode (mB Y_Ig_bitCount) 32 = .ok (.iand, 1) := by decide +kernel
theorem d_Ig_bitCount_33 : decode (mB Y_Ig_bitCount) 33 = .ok (.istore_n 0, 1) := by decide +kernel
theorem d_Ig_bitCount_34 : decode (mB Y_Ig_bitCount) 34 = .ok (.iload_n 0, 1) := by decide +kernel
theorem d_Ig_bitCount_35 : decode (mB Y_Ig_bitCount) 35 = .ok (.iload_n 0, 1) := by decide +kernel
theorem d_Ig_bitCount_36 : decode (mB Y_Ig_bitCount) 36 = .ok (.bipush 8, 2) := by decide +kernel
theorem d_Ig_bitCount_38 : decode (mB Y_Ig_bitCount) 38 = .ok (.iushr, 1) := by decide +kernel
theorem d_Ig_bitCount_39 : decode (mB Y_Ig_bitCount) 39 = .ok (.iadd, 1) := by decide +kernel
theorem d_Ig_bitCount_40 : decode (mB Y_Ig_bitCount) 40 = .ok (.istore_n 0, 1) := by decide +kernel
theorem d_Ig_bitCount_41 : decode (mB Y_Ig_bitCount) 41 = .ok (.iload_n 0, 1) := by decide +kernel
theorem d_Ig_bitCount_42 : decode (mB Y_Ig_bitCount) 42 = .ok (.iload_n 0, 1) := by decide +kernel
theorem d_Ig_bitCount_43 : decode (mB Y_Ig_bitCount) 43 = .ok (.bipush 16, 2) := by decide +kernel
theorem d_Ig_bitCount_45 : decode (mB Y_Ig_bitCount) 45 = .ok (.iushr, 1) := by decide +kernel
theorem d_Ig_bitCount_46 : decode (mB Y_Ig_bitCount) 46 = .ok (.iadd, 1) := by decide +kernel
theorem d_Ig_bitCount_47 : decode (mB Y_Ig_bitCount) 47 = .ok (.istore_n 0, 1) := by decide +kernel
theorem d_Ig_bitCount_48 : decode (mB Y_Ig_bitCount) 48 = .ok (.iload_n 0, 1) := by decide +kernel
theorem d_Ig_bitCount_49 : decode (mB Y_Ig_bitCount) 49 = .ok (.bipush 63, 2) := by decide +kernel
theorem d_Ig_bitCount_51 : decode (mB Y_Ig_bitCount) 51 = .ok (.iand, 1) := by decide +kernel
theorem d_Ig_bitCount_52 : decode (mB Y_Ig_bitCount) 52 = .ok (.ireturn, 1) := by decide +kernel
def r_Ig_bitCount (x0 : Int32) : Int32 := (((((((x0 - (((x0.toUInt32 >>> ((1 : Int32).toUInt32 &&& Int32.toUInt32 31)).toInt32) &&& 1431655765)) &&& 858993459) + ((((x0 - (((x0.toUInt32 >>> ((1 : Int32).toUInt32 &&& Int32.toUInt32 31)).toInt32) &&& 1431655765)).toUInt32 >>> ((2 : Int32).toUInt32 &&& Int32.toUInt32 31)).toInt32) &&& 858993459)) + (((((x0 - (((x0.toUInt32 >>> ((1 : Int32).toUInt32 &&& Int32.toUInt32 31)).toInt32) &&& 1431655765)) &&& 858993459) + ((((x0 - (((x0.toUInt32 >>> ((1 : Int32).toUInt32 &&& Int32.toUInt32 31)).toInt32) &&& 1431655765)).toUInt32 >>> ((2 : Int32).toUInt32 &&& Int32.toUInt32 31)).toInt32) &&& 858993459)).toUInt32 >>> ((4 : Int32).toUInt32 &&& Int32.toUInt32 31)).toInt32)) &&& 252645135) + (((((((x0 - (((x0.toUInt32 >>> ((1 : Int32).toUInt32 &&& Int32.toUInt32 31)).toInt32) &&& 1431655765)) &&& 858993459) + ((((x0 - (((x0.toUInt32 >>> ((1 : Int32).toUInt32 &&& Int32.toUInt32 31)).toInt32) &&& 1431655765)).toUInt32 >>> ((2 : Int32).toUInt32 &&& Int32.toUInt32 31)).toInt32) &&& 858993459)) + (((((x0 - (((x0.toUInt32 >>> ((1 : Int32).toUInt32 &&& Int32.toUInt32 31)).toInt32) &&& 1431655765)) &&& 858993459) + ((((x0 - (((x0.toUInt32 >>> ((1 : Int32).toUInt32 &&& Int32.toUInt32 31)).toInt32) &&& 1431655765)).toUInt32 >>> ((2 : Int32).toUInt32 &&& Int32.toUInt32 31)).toInt32) &&& 858993459)).toUInt32 >>> ((4 : Int32).toUInt32 &&& Int32.toUInt32 31)).toInt32)) &&& 252645135).toUInt32 >>> ((8 : Int32).toUInt32 &&& Int32.toUInt32 31)).toInt32)) + ((((((((x0 - (((x0.toUInt32 >>> ((1 : Int32).toUInt32 &&& Int32.toUInt32 31)).toInt32) &&& 1431655765)) &&& 858993459) + ((((x0 - (((x0.toUInt32 >>> ((1 : Int32).toUInt32 &&& Int32.toUInt32 31)).toInt32) &&& 1431655765)).toUInt32 >>> ((2 : Int32).toUInt32 &&& Int32.toUInt32 31)).toInt32) &&& 858993459)) + (((((x0 - (((x0.toUInt32 >>> ((1 : Int32).toUInt32 &&& Int32.toUInt32 31)).toInt32) &&& 1431655765)) &&& 858993459) + ((((x0 - (((x0.toUInt32 >>> ((1 : Int32).toUInt32 &&& Int32.toUInt32 31)).toInt32) &&& 1431655765)).toUInt32 >>> ((2 : Int32).toUInt32 &&& Int32.toUInt32 31)).toInt32) &&& 858993459)).toUInt32 >>> ((4 : Int32).toUInt32 &&& Int32.toUInt32 31)).toInt32)) &&& 252645135) + (((((((x0 - (((x0.toUInt32 >>> ((1 : Int32).toUInt32 &&& Int32.toUInt32 31)).toInt32) &&& 1431655765)) &&& 858993459) + ((((x0 - (((x0.toUInt32 >>> ((1 : Int32).toUInt32 &&& Int32.toUInt32 31)).toInt32) &&& 1431655765)).toUInt32 >>> ((2 : Int32).toUInt32 &&& Int32.toUInt32 31)).toInt32) &&& 858993459)) + (((((x0 - (((x0.toUInt32 >>> ((1 : Int32).toUInt32 &&& Int32.toUInt32 31)).toInt32) &&& 1431655765)) &&& 858993459) + ((((x0 - (((x0.toUInt32 >>> ((1 : Int32).toUInt32 &&& Int32.toUInt32 31)).toInt32) &&& 1431655765)).toUInt32 >>> ((2 : Int32).toUInt32 &&& Int32.toUInt32 31)).toInt32) &&& 858993459)).toUInt32 >>> ((4 : Int32).toUInt32 &&& Int32.toUInt32 31)).toInt32)) &&& 252645135).toUInt32 >>> ((8 : Int32).toUInt32 &&& Int32.toUInt32 31)).toInt32)).toUInt32 >>> ((16 : Int32).toUInt32 &&& Int32.toUInt32 31)).toInt32)) &&& 63
set_option maxHeartbeats 4000000 in
set_option maxRecDepth 20000 in
theorem c_Ig_bitCount {G : Gl} {L : Shp} (hL : Ext L) (S : Sto) (x0 : Int32)  : Ct Y_Ig_bitCount G [.int x0] L S (fp L S) (some (r_Ig_bitCount x0)) := by
  refine ct_of (by decide +kernel) (Nat.le_of_ble_eq_true rfl) (fun g C => ?_)
  have e : (some (r_Ig_bitCount x0) : Option Int32) =
      lt (x0 - (((x0.toUInt32 >>> ((1 : Int32).toUInt32 &&& Int32.toUInt32 31)).toInt32) &&& 1431655765)) (fun v1 =>
      lt ((v1 &&& 858993459) + (((v1.toUInt32 >>> ((2 : Int32).toUInt32 &&& Int32.toUInt32 31)).toInt32) &&& 858993459)) (fun v2 =>
      lt ((v2 + ((v2.toUInt32 >>> ((4 : Int32).toUInt32 &&& Int32.toUInt32 31)).toInt32)) &&& 252645135) (fun v3 =>
      lt (v3 + ((v3.toUInt32 >>> ((8 : Int32).toUInt32 &&& Int32.toUInt32 31)).toInt32)) (fun v4 =>
      lt (v4 + ((v4.toUInt32 >>> ((16 : Int32).toUInt32 &&& Int32.toUInt32 31)).toInt32)) (fun v5 =>
      some (v5 &&& 63)))))) := by
    unfold r_Ig_bitCount
    simp only [some_ite, lt, ltJ]
  rw [e]
  show VO g Y_Ig_bitCount G (fun z => Qm g Y_Ig_bitCount G (fp L S z)) 0 0 0 [(0, .int x0)] [] L S _ some
  refine v_iload_n (pc := 0) C d_Ig_bitCount_0 rfl 0 rfl ?_
  refine v_iload_n (pc := 1) C d_Ig_bitCount_1 rfl 0 rfl ?_
  refine v_iconst (pc := 2) C d_Ig_bitCount_2 ic_1 ?_
  refine v_iushr (pc := 3) C d_Ig_bitCount_3 ?_
  refine v_ldc_w (pc := 4) C d_Ig_bitCount_4 kc_Ig_265 ?_
  refine v_iand (pc := 7) C d_Ig_bitCount_7 ?_
  refine v_isub (pc := 8) C d_Ig_bitCount_8 ?_
  refine v_lt (fun v1 => ?_)
  refine v_istore_n (pc := 9) (lv' := [(0, .int v1)]) C d_Ig_bitCount_9 rfl (by decide) rfl ?_
  refine v_iload_n (pc := 10) C d_Ig_bitCount_10 rfl 0 rfl ?_
  refine v_ldc_w (pc := 11) C d_Ig_bitCount_11 kc_Ig_266 ?_
  refine v_iand (pc := 14) C d_Ig_bitCount_14 ?_
  refine v_iload_n (pc := 15) C d_Ig_bitCount_15 rfl 0 rfl ?_
  refine v_iconst (pc := 16) C d_Ig_bitCount_16 ic_2 ?_
  refine v_iushr (pc := 17) C d_Ig_bitCount_17 ?_
  refine v_ldc_w (pc := 18) C d_Ig_bitCount_18 kc_Ig_266 ?_
  refine v_iand (pc := 21) C d_Ig_bitCount_21 ?_
  refine v_iadd (pc := 22) C d_Ig_bitCount_22 ?_
  refine v_lt (fun v2 => ?_)
  refine v_istore_n (pc := 23) (lv' := [(0, .int v2)]) C d_Ig_bitCount_23 rfl (by decide) rfl ?_
  refine v_iload_n (pc := 24) C d_Ig_bitCount_24 rfl 0 rfl ?_
  refine v_iload_n (pc := 25) C d_Ig_bitCount_25 rfl 0 rfl ?_
  refine v_iconst (pc := 26) C d_Ig_bitCount_26 ic_4 ?_
  refine v_iushr (pc := 27) C d_Ig_bitCount_27 ?_
  refine v_iadd (pc := 28) C d_Ig_bitCount_28 ?_
  refine v_ldc_w (pc := 29) C d_Ig_bitCount_29 kc_Ig_267 ?_
  refine v_iand (pc := 32) C d_Ig_bitCount_32 ?_
  refine v_lt (fun v3 => ?_)
  refine v_istore_n (pc := 33) (lv' := [(0, .int v3)]) C d_Ig_bitCount_33 rfl (by decide) rfl ?_
  refine v_iload_n (pc := 34) C d_Ig_bitCount_34 rfl 0 rfl ?_
  refine v_iload_n (pc := 35) C d_Ig_bitCount_35 rfl 0 rfl ?_
  refine v_bipush (pc := 36) C d_Ig_bitCount_36 bp_8 ?_
  refine v_iushr (pc := 38) C d_Ig_bitCount_38 ?_
  refine v_iadd (pc := 39) C d_Ig_bitCount_39 ?_
  refine v_lt (fun v4 => ?_)
  refine v_istore_n (pc := 40) (lv' := [(0, .int v4)]) C d_Ig_bitCount_40 rfl (by decide) rfl ?_
  refine v_iload_n (pc := 41) C d_Ig_bitCount_41 rfl 0 rfl ?_
  refine v_iload_n (pc := 42) C d_Ig_bitCount_42 rfl 0 rfl ?_
  refine v_bipush (pc := 43) C d_Ig_bitCount_43 bp_16 ?_
  refine v_iushr (pc := 45) C d_Ig_bitCount_45 ?_
  refine v_iadd (pc := 46) C d_Ig_bitCount_46 ?_
  refine v_lt (fun v5 => ?_)
  refine v_istore_n (pc := 47) (lv' := [(0, .int v5)]) C d_Ig_bitCount_47 rfl (by decide) rfl ?_
  refine v_iload_n (pc := 48) C d_Ig_bitCount_48 rfl 0 rfl ?_
  refine v_bipush (pc := 49) C d_Ig_bitCount_49 bp_63 ?_
  refine v_iand (pc := 51) C d_Ig_bitCount_51 ?_
  exact v_iret (z := (v5 &&& 63)) C d_Ig_bitCount_52 rfl ⟨Nat.zero_le _, Nat.zero_le _⟩ (rfl) rfl
-- Lg_bitCount
theorem d_Lg_bitCount_0 : decode (mB Y_Lg_bitCount) 0 = .ok (.lload_n 0, 1) := by decide +kernel
theorem d_Lg_bitCount_1 : decode (mB Y_Lg_bitCount) 1 = .ok (.lload_n 0, 1) := by decide +kernel
theorem d_Lg_bitCount_2 : decode (mB Y_Lg_bitCount) 2 = .ok (.iconst 1, 1) := by decide +kernel
theorem d_Lg_bitCount_3 : decode (mB Y_Lg_bitCount) 3 = .ok (.lushr, 1) := by decide +kernel
theorem d_Lg_bitCount_4 : decode (mB Y_Lg_bitCount) 4 = .ok (.ldc2_w 314, 3) := by decide +kernel
theorem d_Lg_bitCount_7 : decode (mB Y_Lg_bitCount) 7 = .ok (.land, 1) := by decide +kernel
theorem d_Lg_bitCount_8 : decode (mB Y_Lg_bitCount) 8 = .ok (.lsub, 1) := by decide +kernel
theorem d_Lg_bitCount_9 : decode (mB Y_Lg_bitCount) 9 = .ok (.lstore_n 0, 1) := by decide +kernel
theorem d_Lg_bitCount_10 : decode (mB Y_Lg_bitCount) 10 = .ok (.lload_n 0, 1) := by decide +kernel
theorem d_Lg_bitCount_11 : decode (mB Y_Lg_bitCount) 11 = .ok (.ldc2_w 316, 3) := by decide +kernel
theorem d_Lg_bitCount_14 : decode (mB Y_Lg_bitCount) 14 = .ok (.land, 1) := by decide +kernel
theorem d_Lg_bitCount_15 : decode (mB Y_Lg_bitCount) 15 = .ok (.lload_n 0, 1) := by decide +kernel
theorem d_Lg_bitCount_16 : decode (mB Y_Lg_bitCount) 16 = .ok (.iconst 2, 1) := by decide +kernel
theorem d_Lg_bitCount_17 : decode (mB Y_Lg_bitCount) 17 = .ok (.lushr, 1) := by decide +kernel
theorem d_Lg_bitCount_18 : decode (mB Y_Lg_bitCount) 18 = .ok (.ldc2_w 316, 3) := by decide +kernel
theorem d_Lg_bitCount_21 : decode (mB Y_Lg_bitCount) 21 = .ok (.land, 1) := by decide +kernel
theorem d_Lg_bitCount_22 : decode (mB Y_Lg_bitCount) 22 = .ok (.ladd, 1) := by decide +kernel
theorem d_Lg_bitCount_23 : decode (mB Y_Lg_bitCount) 23 = .ok (.lstore_n 0, 1) := by decide +kernel
theorem d_Lg_bitCount_24 : decode (mB Y_Lg_bitCount) 24 = .ok (.lload_n 0, 1) := by decide +kernel
theorem d_Lg_bitCount_25 : decode (mB Y_Lg_bitCount) 25 = .ok (.lload_n 0, 1) := by decide +kernel
theorem d_Lg_bitCount_26 : decode (mB Y_Lg_bitCount) 26 = .ok (.iconst 4, 1) := by decide +kernel
theorem d_Lg_bitCount_27 : decode (mB Y_Lg_bitCount) 27 = .ok (.lushr, 1) := by decide +kernel
theorem d_Lg_bitCount_28 : decode (mB Y_Lg_bitCount) 28 = .ok (.ladd, 1) := by decide +kernel
theorem d_Lg_bitCount_29 : decode (mB Y_Lg_bitCount) 29 = .ok (.ldc2_w 318, 3) := by decide +kernel
theorem d_Lg_bitCount_32 : decode (mB Y_Lg_bitCount) 32 = .ok (.land, 1) := by decide +kernel
theorem d_Lg_bitCount_33 : decode (mB Y_Lg_bitCount) 33 = .ok (.lstore_n 0, 1) := by decide +kernel
theorem d_Lg_bitCount_34 : decode (mB Y_Lg_bitCount) 34 = .ok (.lload_n 0, 1) := by decide +kernel
theorem d_Lg_bitCount_35 : decode (mB Y_Lg_bitCount) 35 = .ok (.lload_n 0, 1) := by decide +kernel
theorem d_Lg_bitCount_36 : decode (mB Y_Lg_bitCount) 36 = .ok (.bipush 8, 2) := by decide +kernel
theorem d_Lg_bitCount_38 : decode (mB Y_Lg_bitCount) 38 = .ok (.lushr, 1) := by decide +kernel
theorem d_Lg_bitCount_39 : decode (mB Y_Lg_bitCount) 39 = .ok (.ladd, 1) := by decide +kernel
theorem d_Lg_bitCount_40 : decode (mB Y_Lg_bitCount) 40 = .ok (.lstore_n 0, 1) := by decide +kernel
theorem d_Lg_bitCount_41 : decode (mB Y_Lg_bitCount) 41 = .ok (.lload_n 0, 1) := by decide +kernel
theorem d_Lg_bitCount_42 : decode (mB Y_Lg_bitCount) 42 = .ok (.lload_n 0, 1) := by decide +kernel
theorem d_Lg_bitCount_43 : decode (mB Y_Lg_bitCount) 43 = .ok (.bipush 16, 2) := by decide +kernel
theorem d_Lg_bitCount_45 : decode (mB Y_Lg_bitCount) 45 = .ok (.lushr, 1) := by decide +kernel
theorem d_Lg_bitCount_46 : decode (mB Y_Lg_bitCount) 46 = .ok (.ladd, 1) := by decide +kernel
theorem d_Lg_bitCount_47 : decode (mB Y_Lg_bitCount) 47 = .ok (.lstore_n 0, 1) := by decide +kernel
theorem d_Lg_bitCount_48 : decode (mB Y_Lg_bitCount) 48 = .ok (.lload_n 0, 1) := by decide +kernel
theorem d_Lg_bitCount_49 : decode (mB Y_Lg_bitCount) 49 = .ok (.lload_n 0, 1) := by decide +kernel
theorem d_Lg_bitCount_50 : decode (mB Y_Lg_bitCount) 50 = .ok (.bipush 32, 2) := by decide +kernel
theorem d_Lg_bitCount_52 : decode (mB Y_Lg_bitCount) 52 = .ok (.lushr, 1) := by decide +kernel
theorem d_Lg_bitCount_53 : decode (mB Y_Lg_bitCount) 53 = .ok (.ladd, 1) := by decide +kernel
theorem d_Lg_bitCount_54 : decode (mB Y_Lg_bitCount) 54 = .ok (.lstore_n 0, 1) := by decide +kernel
theorem d_Lg_bitCount_55 : decode (mB Y_Lg_bitCount) 55 = .ok (.lload_n 0, 1) := by decide +kernel
theorem d_Lg_bitCount_56 : decode (mB Y_Lg_bitCount) 56 = .ok (.l2i, 1) := by decide +kernel
theorem d_Lg_bitCount_57 : decode (mB Y_Lg_bitCount) 57 = .ok (.bipush 127, 2) := by decide +kernel
theorem d_Lg_bitCount_59 : decode (mB Y_Lg_bitCount) 59 = .ok (.iand, 1) := by decide +kernel
theorem d_Lg_bitCount_60 : decode (mB Y_Lg_bitCount) 60 = .ok (.ireturn, 1) := by decide +kernel
def r_Lg_bitCount (x0 : Int64) : Int32 := ((((((((x0 - (((x0.toUInt64 >>> ((1 : Int32).toInt64.toUInt64 &&& Int64.toUInt64 63)).toInt64) &&& 6148914691236517205)) &&& 3689348814741910323) + ((((x0 - (((x0.toUInt64 >>> ((1 : Int32).toInt64.toUInt64 &&& Int64.toUInt64 63)).toInt64) &&& 6148914691236517205)).toUInt64 >>> ((2 : Int32).toInt64.toUInt64 &&& Int64.toUInt64 63)).toInt64) &&& 3689348814741910323)) + (((((x0 - (((x0.toUInt64 >>> ((1 : Int32).toInt64.toUInt64 &&& Int64.toUInt64 63)).toInt64) &&& 6148914691236517205)) &&& 3689348814741910323) + ((((x0 - (((x0.toUInt64 >>> ((1 : Int32).toInt64.toUInt64 &&& Int64.toUInt64 63)).toInt64) &&& 6148914691236517205)).toUInt64 >>> ((2 : Int32).toInt64.toUInt64 &&& Int64.toUInt64 63)).toInt64) &&& 3689348814741910323)).toUInt64 >>> ((4 : Int32).toInt64.toUInt64 &&& Int64.toUInt64 63)).toInt64)) &&& 1085102592571150095) + (((((((x0 - (((x0.toUInt64 >>> ((1 : Int32).toInt64.toUInt64 &&& Int64.toUInt64 63)).toInt64) &&& 6148914691236517205)) &&& 3689348814741910323) + ((((x0 - (((x0.toUInt64 >>> ((1 : Int32).toInt64.toUInt64 &&& Int64.toUInt64 63)).toInt64) &&& 6148914691236517205)).toUInt64 >>> ((2 : Int32).toInt64.toUInt64 &&& Int64.toUInt64 63)).toInt64) &&& 3689348814741910323)) + (((((x0 - (((x0.toUInt64 >>> ((1 : Int32).toInt64.toUInt64 &&& Int64.toUInt64 63)).toInt64) &&& 6148914691236517205)) &&& 3689348814741910323) + ((((x0 - (((x0.toUInt64 >>> ((1 : Int32).toInt64.toUInt64 &&& Int64.toUInt64 63)).toInt64) &&& 6148914691236517205)).toUInt64 >>> ((2 : Int32).toInt64.toUInt64 &&& Int64.toUInt64 63)).toInt64) &&& 3689348814741910323)).toUInt64 >>> ((4 : Int32).toInt64.toUInt64 &&& Int64.toUInt64 63)).toInt64)) &&& 1085102592571150095).toUInt64 >>> ((8 : Int32).toInt64.toUInt64 &&& Int64.toUInt64 63)).toInt64)) + ((((((((x0 - (((x0.toUInt64 >>> ((1 : Int32).toInt64.toUInt64 &&& Int64.toUInt64 63)).toInt64) &&& 6148914691236517205)) &&& 3689348814741910323) + ((((x0 - (((x0.toUInt64 >>> ((1 : Int32).toInt64.toUInt64 &&& Int64.toUInt64 63)).toInt64) &&& 6148914691236517205)).toUInt64 >>> ((2 : Int32).toInt64.toUInt64 &&& Int64.toUInt64 63)).toInt64) &&& 3689348814741910323)) + (((((x0 - (((x0.toUInt64 >>> ((1 : Int32).toInt64.toUInt64 &&& Int64.toUInt64 63)).toInt64) &&& 6148914691236517205)) &&& 3689348814741910323) + ((((x0 - (((x0.toUInt64 >>> ((1 : Int32).toInt64.toUInt64 &&& Int64.toUInt64 63)).toInt64) &&& 6148914691236517205)).toUInt64 >>> ((2 : Int32).toInt64.toUInt64 &&& Int64.toUInt64 63)).toInt64) &&& 3689348814741910323)).toUInt64 >>> ((4 : Int32).toInt64.toUInt64 &&& Int64.toUInt64 63)).toInt64)) &&& 1085102592571150095) + (((((((x0 - (((x0.toUInt64 >>> ((1 : Int32).toInt64.toUInt64 &&& Int64.toUInt64 63)).toInt64) &&& 6148914691236517205)) &&& 3689348814741910323) + ((((x0 - (((x0.toUInt64 >>> ((1 : Int32).toInt64.toUInt64 &&& Int64.toUInt64 63)).toInt64) &&& 6148914691236517205)).toUInt64 >>> ((2 : Int32).toInt64.toUInt64 &&& Int64.toUInt64 63)).toInt64) &&& 3689348814741910323)) + (((((x0 - (((x0.toUInt64 >>> ((1 : Int32).toInt64.toUInt64 &&& Int64.toUInt64 63)).toInt64) &&& 6148914691236517205)) &&& 3689348814741910323) + ((((x0 - (((x0.toUInt64 >>> ((1 : Int32).toInt64.toUInt64 &&& Int64.toUInt64 63)).toInt64) &&& 6148914691236517205)).toUInt64 >>> ((2 : Int32).toInt64.toUInt64 &&& Int64.toUInt64 63)).toInt64) &&& 3689348814741910323)).toUInt64 >>> ((4 : Int32).toInt64.toUInt64 &&& Int64.toUInt64 63)).toInt64)) &&& 1085102592571150095).toUInt64 >>> ((8 : Int32).toInt64.toUInt64 &&& Int64.toUInt64 63)).toInt64)).toUInt64 >>> ((16 : Int32).toInt64.toUInt64 &&& Int64.toUInt64 63)).toInt64)) + (((((((((x0 - (((x0.toUInt64 >>> ((1 : Int32).toInt64.toUInt64 &&& Int64.toUInt64 63)).toInt64) &&& 6148914691236517205)) &&& 3689348814741910323) + ((((x0 - (((x0.toUInt64 >>> ((1 : Int32).toInt64.toUInt64 &&& Int64.toUInt64 63)).toInt64) &&& 6148914691236517205)).toUInt64 >>> ((2 : Int32).toInt64.toUInt64 &&& Int64.toUInt64 63)).toInt64) &&& 3689348814741910323)) + (((((x0 - (((x0.toUInt64 >>> ((1 : Int32).toInt64.toUInt64 &&& Int64.toUInt64 63)).toInt64) &&& 6148914691236517205)) &&& 3689348814741910323) + ((((x0 - (((x0.toUInt64 >>> ((1 : Int32).toInt64.toUInt64 &&& Int64.toUInt64 63)).toInt64) &&& 6148914691236517205)).toUInt64 >>> ((2 : Int32).toInt64.toUInt64 &&& Int64.toUInt64 63)).toInt64) &&& 3689348814741910323)).toUInt64 >>> ((4 : Int32).toInt64.toUInt64 &&& Int64.toUInt64 63)).toInt64)) &&& 1085102592571150095) + (((((((x0 - (((x0.toUInt64 >>> ((1 : Int32).toInt64.toUInt64 &&& Int64.toUInt64 63)).toInt64) &&& 6148914691236517205)) &&& 3689348814741910323) + ((((x0 - (((x0.toUInt64 >>> ((1 : Int32).toInt64.toUInt64 &&& Int64.toUInt64 63)).toInt64) &&& 6148914691236517205)).toUInt64 >>> ((2 : Int32).toInt64.toUInt64 &&& Int64.toUInt64 63)).toInt64) &&& 3689348814741910323)) + (((((x0 - (((x0.toUInt64 >>> ((1 : Int32).toInt64.toUInt64 &&& Int64.toUInt64 63)).toInt64) &&& 6148914691236517205)) &&& 3689348814741910323) + ((((x0 - (((x0.toUInt64 >>> ((1 : Int32).toInt64.toUInt64 &&& Int64.toUInt64 63)).toInt64) &&& 6148914691236517205)).toUInt64 >>> ((2 : Int32).toInt64.toUInt64 &&& Int64.toUInt64 63)).toInt64) &&& 3689348814741910323)).toUInt64 >>> ((4 : Int32).toInt64.toUInt64 &&& Int64.toUInt64 63)).toInt64)) &&& 1085102592571150095).toUInt64 >>> ((8 : Int32).toInt64.toUInt64 &&& Int64.toUInt64 63)).toInt64)) + ((((((((x0 - (((x0.toUInt64 >>> ((1 : Int32).toInt64.toUInt64 &&& Int64.toUInt64 63)).toInt64) &&& 6148914691236517205)) &&& 3689348814741910323) + ((((x0 - (((x0.toUInt64 >>> ((1 : Int32).toInt64.toUInt64 &&& Int64.toUInt64 63)).toInt64) &&& 6148914691236517205)).toUInt64 >>> ((2 : Int32).toInt64.toUInt64 &&& Int64.toUInt64 63)).toInt64) &&& 3689348814741910323)) + (((((x0 - (((x0.toUInt64 >>> ((1 : Int32).toInt64.toUInt64 &&& Int64.toUInt64 63)).toInt64) &&& 6148914691236517205)) &&& 3689348814741910323) + ((((x0 - (((x0.toUInt64 >>> ((1 : Int32).toInt64.toUInt64 &&& Int64.toUInt64 63)).toInt64) &&& 6148914691236517205)).toUInt64 >>> ((2 : Int32).toInt64.toUInt64 &&& Int64.toUInt64 63)).toInt64) &&& 3689348814741910323)).toUInt64 >>> ((4 : Int32).toInt64.toUInt64 &&& Int64.toUInt64 63)).toInt64)) &&& 1085102592571150095) + (((((((x0 - (((x0.toUInt64 >>> ((1 : Int32).toInt64.toUInt64 &&& Int64.toUInt64 63)).toInt64) &&& 6148914691236517205)) &&& 3689348814741910323) + ((((x0 - (((x0.toUInt64 >>> ((1 : Int32).toInt64.toUInt64 &&& Int64.toUInt64 63)).toInt64) &&& 6148914691236517205)).toUInt64 >>> ((2 : Int32).toInt64.toUInt64 &&& Int64.toUInt64 63)).toInt64) &&& 3689348814741910323)) + (((((x0 - (((x0.toUInt64 >>> ((1 : Int32).toInt64.toUInt64 &&& Int64.toUInt64 63)).toInt64) &&& 6148914691236517205)) &&& 3689348814741910323) + ((((x0 - (((x0.toUInt64 >>> ((1 : Int32).toInt64.toUInt64 &&& Int64.toUInt64 63)).toInt64) &&& 6148914691236517205)).toUInt64 >>> ((2 : Int32).toInt64.toUInt64 &&& Int64.toUInt64 63)).toInt64) &&& 3689348814741910323)).toUInt64 >>> ((4 : Int32).toInt64.toUInt64 &&& Int64.toUInt64 63)).toInt64)) &&& 1085102592571150095).toUInt64 >>> ((8 : Int32).toInt64.toUInt64 &&& Int64.toUInt64 63)).toInt64)).toUInt64 >>> ((16 : Int32).toInt64.toUInt64 &&& Int64.toUInt64 63)).toInt64)).toUInt64 >>> ((32 : Int32).toInt64.toUInt64 &&& Int64.toUInt64 63)).toInt64)).toInt32 &&& 127
set_option maxHeartbeats 4000000 in
set_option maxRecDepth 20000 in
theorem c_Lg_bitCount {G : Gl} {L : Shp} (hL : Ext L) (S : Sto) (x0 : Int64)  : Ct Y_Lg_bitCount G [.long x0] L S (fp L S) (some (r_Lg_bitCount x0)) := by
  refine ct_of (by decide +kernel) (Nat.le_of_ble_eq_true rfl) (fun g C => ?_)
  have e : (some (r_Lg_bitCount x0) : Option Int32) =
      ltJ (x0 - (((x0.toUInt64 >>> ((1 : Int32).toInt64.toUInt64 &&& Int64.toUInt64 63)).toInt64) &&& 6148914691236517205)) (fun v1 =>
      ltJ ((v1 &&& 3689348814741910323) + (((v1.toUInt64 >>> ((2 : Int32).toInt64.toUInt64 &&& Int64.toUInt64 63)).toInt64) &&& 3689348814741910323)) (fun v2 =>
      ltJ ((v2 + ((v2.toUInt64 >>> ((4 : Int32).toInt64.toUInt64 &&& Int64.toUInt64 63)).toInt64)) &&& 1085102592571150095) (fun v3 =>
      ltJ (v3 + ((v3.toUInt64 >>> ((8 : Int32).toInt64.toUInt64 &&& Int64.toUInt64 63)).toInt64)) (fun v4 =>
      ltJ (v4 + ((v4.toUInt64 >>> ((16 : Int32).toInt64.toUInt64 &&& Int64.toUInt64 63)).toInt64)) (fun v5 =>
      ltJ (v5 + ((v5.toUInt64 >>> ((32 : Int32).toInt64.toUInt64 &&& Int64.toUInt64 63)).toInt64)) (fun v6 =>
      some (v6.toInt32 &&& 127))))))) := by
    unfold r_Lg_bitCount
    simp only [some_ite, lt, ltJ]
  rw [e]
  show VO g Y_Lg_bitCount G (fun z => Qm g Y_Lg_bitCount G (fp L S z)) 0 0 0 [(0, .long x0)] [] L S _ some
  refine v_lload_n (pc := 0) C d_Lg_bitCount_0 rfl 0 rfl ?_
  refine v_lload_n (pc := 1) C d_Lg_bitCount_1 rfl 0 rfl ?_
  refine v_iconst (pc := 2) C d_Lg_bitCount_2 ic_1 ?_
  refine v_lushr (pc := 3) C d_Lg_bitCount_3 ?_
  refine v_ldc2 (pc := 4) C d_Lg_bitCount_4 kl_Lg_314 ?_
  refine v_land (pc := 7) C d_Lg_bitCount_7 ?_
  refine v_lsub (pc := 8) C d_Lg_bitCount_8 ?_
  refine v_ltJ (fun v1 => ?_)
  refine v_lstore_n (pc := 9) (lv' := [(0, .long v1)]) C d_Lg_bitCount_9 rfl (by decide) rfl ?_
  refine v_lload_n (pc := 10) C d_Lg_bitCount_10 rfl 0 rfl ?_
  refine v_ldc2 (pc := 11) C d_Lg_bitCount_11 kl_Lg_316 ?_
  refine v_land (pc := 14) C d_Lg_bitCount_14 ?_
  refine v_lload_n (pc := 15) C d_Lg_bitCount_15 rfl 0 rfl ?_
  refine v_iconst (pc := 16) C d_Lg_bitCount_16 ic_2 ?_
  refine v_lushr (pc := 17) C d_Lg_bitCount_17 ?_
  refine v_ldc2 (pc := 18) C d_Lg_bitCount_18 kl_Lg_316 ?_
  refine v_land (pc := 21) C d_Lg_bitCount_21 ?_
  refine v_ladd (pc := 22) C d_Lg_bitCount_22 ?_
  refine v_ltJ (fun v2 => ?_)
  refine v_lstore_n (pc := 23) (lv' := [(0, .long v2)]) C d_Lg_bitCount_23 rfl (by decide) rfl ?_
  refine v_lload_n (pc := 24) C d_Lg_bitCount_24 rfl 0 rfl ?_
  refine v_lload_n (pc := 25) C d_Lg_bitCount_25 rfl 0 rfl ?_
  refine v_iconst (pc := 26) C d_Lg_bitCount_26 ic_4 ?_
  refine v_lushr (pc := 27) C d_Lg_bitCount_27 ?_
  refine v_ladd (pc := 28) C d_Lg_bitCount_28 ?_
  refine v_ldc2 (pc := 29) C d_Lg_bitCount_29 kl_Lg_318 ?_
  refine v_land (pc := 32) C d_Lg_bitCount_32 ?_
  refine v_ltJ (fun v3 => ?_)
  refine v_lstore_n (pc := 33) (lv' := [(0, .long v3)]) C d_Lg_bitCount_33 rfl (by decide) rfl ?_
  refine v_lload_n (pc := 34) C d_Lg_bitCount_34 rfl 0 rfl ?_
  refine v_lload_n (pc := 35) C d_Lg_bitCount_35 rfl 0 rfl ?_
  refine v_bipush (pc := 36) C d_Lg_bitCount_36 bp_8 ?_
  refine v_lushr (pc := 38) C d_Lg_bitCount_38 ?_
  refine v_ladd (pc := 39) C d_Lg_bitCount_39 ?_
  refine v_ltJ (fun v4 => ?_)
  refine v_lstore_n (pc := 40) (lv' := [(0, .long v4)]) C d_Lg_bitCount_40 rfl (by decide) rfl ?_
  refine v_lload_n (pc := 41) C d_Lg_bitCount_41 rfl 0 rfl ?_
  refine v_lload_n (pc := 42) C d_Lg_bitCount_42 rfl 0 rfl ?_
  refine v_bipush (pc := 43) C d_Lg_bitCount_43 bp_16 ?_
  refine v_lushr (pc := 45) C d_Lg_bitCount_45 ?_
  refine v_ladd (pc := 46) C d_Lg_bitCount_46 ?_
  refine v_ltJ (fun v5 => ?_)
  refine v_lstore_n (pc := 47) (lv' := [(0, .long v5)]) C d_Lg_bitCount_47 rfl (by decide) rfl ?_
  refine v_lload_n (pc := 48) C d_Lg_bitCount_48 rfl 0 rfl ?_
  refine v_lload_n (pc := 49) C d_Lg_bitCount_49 rfl 0 rfl ?_
  refine v_bipush (pc := 50) C d_Lg_bitCount_50 bp_32 ?_
  refine v_lushr (pc := 52) C d_Lg_bitCount_52 ?_
  refine v_ladd (pc := 53) C d_Lg_bitCount_53 ?_
  refine v_ltJ (fun v6 => ?_)
  refine v_lstore_n (pc := 54) (lv' := [(0, .long v6)]) C d_Lg_bitCount_54 rfl (by decide) rfl ?_
  refine v_lload_n (pc := 55) C d_Lg_bitCount_55 rfl 0 rfl ?_
  refine v_l2i (pc := 56) C d_Lg_bitCount_56 ?_
  refine v_bipush (pc := 57) C d_Lg_bitCount_57 bp_127 ?_
  refine v_iand (pc := 59) C d_Lg_bitCount_59 ?_
  exact v_iret (z := (v6.toInt32 &&& 127)) C d_Lg_bitCount_60 rfl ⟨Nat.zero_le _, Nat.zero_le _⟩ (rfl) rfl
