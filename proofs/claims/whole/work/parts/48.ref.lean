-- M_isSpot
theorem d_M_isSpot_0 : decode (mB Y_M_isSpot) 0 = .ok (.aload_n 0, 1) := by decide +kernel
theorem d_M_isSpot_1 : decode (mB Y_M_isSpot) 1 = .ok (.iload_n 1, 1) := by decide +kernel
theorem d_M_isSpot_2 : decode (mB Y_M_isSpot) 2 = .ok (.iconst 0, 1) := by decide +kernel
theorem d_M_isSpot_3 : decode (mB Y_M_isSpot) 3 = .ok (.bipush 9, 2) := by decide +kernel
theorem d_M_isSpot_5 : decode (mB Y_M_isSpot) 5 = .ok (.invokevirtual 153, 3) := by decide +kernel
theorem d_M_isSpot_8 : decode (mB Y_M_isSpot) 8 = .ok (.ifCond .eq 17, 3) := by decide +kernel
theorem d_M_isSpot_11 : decode (mB Y_M_isSpot) 11 = .ok (.aload_n 0, 1) := by decide +kernel
theorem d_M_isSpot_12 : decode (mB Y_M_isSpot) 12 = .ok (.getfield 33, 3) := by decide +kernel
theorem d_M_isSpot_15 : decode (mB Y_M_isSpot) 15 = .ok (.iload_n 1, 1) := by decide +kernel
theorem d_M_isSpot_16 : decode (mB Y_M_isSpot) 16 = .ok (.iaload, 1) := by decide +kernel
theorem d_M_isSpot_17 : decode (mB Y_M_isSpot) 17 = .ok (.iconst (-1), 1) := by decide +kernel
theorem d_M_isSpot_18 : decode (mB Y_M_isSpot) 18 = .ok (.if_icmp .eq 7, 3) := by decide +kernel
theorem d_M_isSpot_21 : decode (mB Y_M_isSpot) 21 = .ok (.iconst 1, 1) := by decide +kernel
theorem d_M_isSpot_22 : decode (mB Y_M_isSpot) 22 = .ok (.goto 4, 3) := by decide +kernel
theorem d_M_isSpot_25 : decode (mB Y_M_isSpot) 25 = .ok (.iconst 0, 1) := by decide +kernel
theorem d_M_isSpot_26 : decode (mB Y_M_isSpot) 26 = .ok (.ireturn, 1) := by decide +kernel
theorem ro_M_isSpot_M_isIn : roomy Y_M_isSpot Y_M_isIn := ⟨Nat.le_of_ble_eq_true rfl, Nat.le_of_ble_eq_true rfl⟩
def r_M_isSpot (x1 : Int32) (S : Sto) : Option Int32 :=
  if (r_M_isIn x1 0 9) = 0 then
    some 0
  else
    chk (inr x1 10) (
    if (S 110 x1.toNatClampNeg) = (-1) then
      some 0
    else
      some 1)
set_option maxHeartbeats 4000000 in
set_option maxRecDepth 20000 in
theorem c_M_isSpot {G : Gl} {L : Shp} (hL : Ext L) (S : Sto) (x1 : Int32)  : Ct Y_M_isSpot G [rf G 104, .int x1] L S (fp L S) (r_M_isSpot x1 S) := by
  refine ct_of (by decide +kernel) (Nat.le_of_ble_eq_true rfl) (fun g C => ?_)
  show VO g Y_M_isSpot G (fun z => Qm g Y_M_isSpot G (fp L S z)) 0 0 0 [(0, rf G 104), (1, .int x1)] [] L S (r_M_isSpot x1 S) some
  unfold r_M_isSpot
  refine v_aload_n (pc := 0) C d_M_isSpot_0 rfl 0 rfl ?_
  refine v_iload_n (pc := 1) C d_M_isSpot_1 rfl 1 rfl ?_
  refine v_iconst (pc := 2) C d_M_isSpot_2 ic_0 ?_
  refine v_bipush (pc := 3) C d_M_isSpot_3 bp_9 ?_
  refine v_ct (pc := 5) (inv_V (As := [.int x1, .int 0, .int 9]) (st := []) C ml_M_153 mv_M_isIn ro_M_isSpot_M_isIn (sh_104 hL) rfl rfl rfl rfl (Nat.le_of_ble_eq_true rfl) d_M_isSpot_5) (c_M_isIn hL S x1 0 9) ⟨rfl, rfl⟩ ⟨Nat.zero_le _, Nat.zero_le _⟩ ?_
  refine v_if_eq (pc := 8) (tgt := 25) C d_M_isSpot_8 rfl (fun _ => ?_) (fun _ => ?_)
  · refine v_iconst (pc := 25) C d_M_isSpot_25 ic_0 ?_
    exact v_zret (z := 0) C d_M_isSpot_26 rfl (b01_n (by decide)) ⟨Nat.zero_le _, Nat.zero_le _⟩ (rfl) rfl
  · refine v_aload_n (pc := 11) C d_M_isSpot_11 rfl 0 rfl ?_
    refine v_getR (pc := 12) C fl_M_33 (sh_104 hL) rfl d_M_isSpot_12 ?_
    refine v_iload_n (pc := 15) C d_M_isSpot_15 rfl 1 rfl ?_
    refine v_iald (pc := 16) C (sh_110 hL) d_M_isSpot_16 (fun _ => ?_)
    refine v_iconst (pc := 17) C d_M_isSpot_17 ic_m1 ?_
    refine v_icmp_eq (pc := 18) (tgt := 25) C d_M_isSpot_18 rfl (fun _ => ?_) (fun _ => ?_)
    · refine v_iconst (pc := 25) C d_M_isSpot_25 ic_0 ?_
      exact v_zret (z := 0) C d_M_isSpot_26 rfl (b01_n (by decide)) ⟨Nat.zero_le _, Nat.zero_le _⟩ (rfl) rfl
    · refine v_iconst (pc := 21) C d_M_isSpot_21 ic_1 ?_
      refine v_goto (pc := 22) (tgt := 26) C d_M_isSpot_22 rfl ?_
      exact v_zret (z := 1) C d_M_isSpot_26 rfl (b01_n (by decide)) ⟨Nat.zero_le _, Nat.zero_le _⟩ (rfl) rfl
-- M_isCouple
theorem d_M_isCouple_0 : decode (mB Y_M_isCouple) 0 = .ok (.aload_n 0, 1) := by decide +kernel
theorem d_M_isCouple_1 : decode (mB Y_M_isCouple) 1 = .ok (.iload_n 1, 1) := by decide +kernel
theorem d_M_isCouple_2 : decode (mB Y_M_isCouple) 2 = .ok (.invokevirtual 390, 3) := by decide +kernel
theorem d_M_isCouple_5 : decode (mB Y_M_isCouple) 5 = .ok (.ifCond .eq 37, 3) := by decide +kernel
theorem d_M_isCouple_8 : decode (mB Y_M_isCouple) 8 = .ok (.aload_n 0, 1) := by decide +kernel
theorem d_M_isCouple_9 : decode (mB Y_M_isCouple) 9 = .ok (.getfield 111, 3) := by decide +kernel
theorem d_M_isCouple_12 : decode (mB Y_M_isCouple) 12 = .ok (.iload_n 1, 1) := by decide +kernel
theorem d_M_isCouple_13 : decode (mB Y_M_isCouple) 13 = .ok (.iaload, 1) := by decide +kernel
theorem d_M_isCouple_14 : decode (mB Y_M_isCouple) 14 = .ok (.ifCond .le 28, 3) := by decide +kernel
theorem d_M_isCouple_17 : decode (mB Y_M_isCouple) 17 = .ok (.iload_n 2, 1) := by decide +kernel
theorem d_M_isCouple_18 : decode (mB Y_M_isCouple) 18 = .ok (.iload_n 3, 1) := by decide +kernel
theorem d_M_isCouple_19 : decode (mB Y_M_isCouple) 19 = .ok (.if_icmp .eq 23, 3) := by decide +kernel
theorem d_M_isCouple_22 : decode (mB Y_M_isCouple) 22 = .ok (.aload_n 0, 1) := by decide +kernel
theorem d_M_isCouple_23 : decode (mB Y_M_isCouple) 23 = .ok (.iload_n 2, 1) := by decide +kernel
theorem d_M_isCouple_24 : decode (mB Y_M_isCouple) 24 = .ok (.invokevirtual 406, 3) := by decide +kernel
theorem d_M_isCouple_27 : decode (mB Y_M_isCouple) 27 = .ok (.ifCond .eq 15, 3) := by decide +kernel
theorem d_M_isCouple_30 : decode (mB Y_M_isCouple) 30 = .ok (.aload_n 0, 1) := by decide +kernel
theorem d_M_isCouple_31 : decode (mB Y_M_isCouple) 31 = .ok (.iload_n 3, 1) := by decide +kernel
theorem d_M_isCouple_32 : decode (mB Y_M_isCouple) 32 = .ok (.invokevirtual 406, 3) := by decide +kernel
theorem d_M_isCouple_35 : decode (mB Y_M_isCouple) 35 = .ok (.ifCond .eq 7, 3) := by decide +kernel
theorem d_M_isCouple_38 : decode (mB Y_M_isCouple) 38 = .ok (.iconst 1, 1) := by decide +kernel
theorem d_M_isCouple_39 : decode (mB Y_M_isCouple) 39 = .ok (.goto 4, 3) := by decide +kernel
theorem d_M_isCouple_42 : decode (mB Y_M_isCouple) 42 = .ok (.iconst 0, 1) := by decide +kernel
theorem d_M_isCouple_43 : decode (mB Y_M_isCouple) 43 = .ok (.ireturn, 1) := by decide +kernel
theorem ro_M_isCouple_M_isSpot : roomy Y_M_isCouple Y_M_isSpot := ⟨Nat.le_of_ble_eq_true rfl, Nat.le_of_ble_eq_true rfl⟩
theorem ro_M_isCouple_M_isTape : roomy Y_M_isCouple Y_M_isTape := ⟨Nat.le_of_ble_eq_true rfl, Nat.le_of_ble_eq_true rfl⟩
def r_M_isCouple (x1 : Int32) (x2 : Int32) (x3 : Int32) (S : Sto) : Option Int32 :=
  if (r_M_isTape x1) = 0 then
    some 0
  else
    chk (inr x1 4) (
    if (S 135 x1.toNatClampNeg) ≤ 0 then
      some 0
    else
      if x2 = x3 then
        some 0
      else
        (r_M_isSpot x2 S).bind (fun r1 =>
        if r1 = 0 then
          some 0
        else
          (r_M_isSpot x3 S).bind (fun r2 =>
          if r2 = 0 then
            some 0
          else
            some 1)))
set_option maxHeartbeats 4000000 in
set_option maxRecDepth 20000 in
theorem c_M_isCouple {G : Gl} {L : Shp} (hL : Ext L) (S : Sto) (x1 : Int32) (x2 : Int32) (x3 : Int32)  : Ct Y_M_isCouple G [rf G 104, .int x1, .int x2, .int x3] L S (fp L S) (r_M_isCouple x1 x2 x3 S) := by
  refine ct_of (by decide +kernel) (Nat.le_of_ble_eq_true rfl) (fun g C => ?_)
  show VO g Y_M_isCouple G (fun z => Qm g Y_M_isCouple G (fp L S z)) 0 0 0 [(0, rf G 104), (1, .int x1), (2, .int x2), (3, .int x3)] [] L S (r_M_isCouple x1 x2 x3 S) some
  unfold r_M_isCouple
  refine v_aload_n (pc := 0) C d_M_isCouple_0 rfl 0 rfl ?_
  refine v_iload_n (pc := 1) C d_M_isCouple_1 rfl 1 rfl ?_
  refine v_ct (pc := 2) (inv_V (As := [.int x1]) (st := []) C ml_M_390 mv_M_isTape ro_M_isCouple_M_isTape (sh_104 hL) rfl rfl rfl rfl (Nat.le_of_ble_eq_true rfl) d_M_isCouple_2) (c_M_isTape hL S x1) ⟨rfl, rfl⟩ ⟨Nat.zero_le _, Nat.zero_le _⟩ ?_
  refine v_if_eq (pc := 5) (tgt := 42) C d_M_isCouple_5 rfl (fun _ => ?_) (fun _ => ?_)
  · refine v_iconst (pc := 42) C d_M_isCouple_42 ic_0 ?_
    exact v_zret (z := 0) C d_M_isCouple_43 rfl (b01_n (by decide)) ⟨Nat.zero_le _, Nat.zero_le _⟩ (rfl) rfl
  · refine v_aload_n (pc := 8) C d_M_isCouple_8 rfl 0 rfl ?_
    refine v_getR (pc := 9) C fl_M_111 (sh_104 hL) rfl d_M_isCouple_9 ?_
    refine v_iload_n (pc := 12) C d_M_isCouple_12 rfl 1 rfl ?_
    refine v_iald (pc := 13) C (sh_135 hL) d_M_isCouple_13 (fun _ => ?_)
    refine v_if_le (pc := 14) (tgt := 42) C d_M_isCouple_14 rfl (fun _ => ?_) (fun _ => ?_)
    · refine v_iconst (pc := 42) C d_M_isCouple_42 ic_0 ?_
      exact v_zret (z := 0) C d_M_isCouple_43 rfl (b01_n (by decide)) ⟨Nat.zero_le _, Nat.zero_le _⟩ (rfl) rfl
    · refine v_iload_n (pc := 17) C d_M_isCouple_17 rfl 2 rfl ?_
      refine v_iload_n (pc := 18) C d_M_isCouple_18 rfl 3 rfl ?_
      refine v_icmp_eq (pc := 19) (tgt := 42) C d_M_isCouple_19 rfl (fun _ => ?_) (fun _ => ?_)
      · refine v_iconst (pc := 42) C d_M_isCouple_42 ic_0 ?_
        exact v_zret (z := 0) C d_M_isCouple_43 rfl (b01_n (by decide)) ⟨Nat.zero_le _, Nat.zero_le _⟩ (rfl) rfl
      · refine v_aload_n (pc := 22) C d_M_isCouple_22 rfl 0 rfl ?_
        refine v_iload_n (pc := 23) C d_M_isCouple_23 rfl 2 rfl ?_
        refine v_cp (pc := 24) (inv_V (As := [.int x2]) (st := []) C ml_M_406 mv_M_isSpot ro_M_isCouple_M_isSpot (sh_104 hL) rfl rfl rfl rfl (Nat.le_of_ble_eq_true rfl) d_M_isCouple_24) (c_M_isSpot hL S x2) ⟨rfl, rfl⟩ ⟨Nat.zero_le _, Nat.zero_le _⟩ (fun r1 => ?_)
        refine v_if_eq (pc := 27) (tgt := 42) C d_M_isCouple_27 rfl (fun _ => ?_) (fun _ => ?_)
        · refine v_iconst (pc := 42) C d_M_isCouple_42 ic_0 ?_
          exact v_zret (z := 0) C d_M_isCouple_43 rfl (b01_n (by decide)) ⟨Nat.zero_le _, Nat.zero_le _⟩ (rfl) rfl
        · refine v_aload_n (pc := 30) C d_M_isCouple_30 rfl 0 rfl ?_
          refine v_iload_n (pc := 31) C d_M_isCouple_31 rfl 3 rfl ?_
          refine v_cp (pc := 32) (inv_V (As := [.int x3]) (st := []) C ml_M_406 mv_M_isSpot ro_M_isCouple_M_isSpot (sh_104 hL) rfl rfl rfl rfl (Nat.le_of_ble_eq_true rfl) d_M_isCouple_32) (c_M_isSpot hL S x3) ⟨rfl, rfl⟩ ⟨Nat.zero_le _, Nat.zero_le _⟩ (fun r2 => ?_)
          refine v_if_eq (pc := 35) (tgt := 42) C d_M_isCouple_35 rfl (fun _ => ?_) (fun _ => ?_)
          · refine v_iconst (pc := 42) C d_M_isCouple_42 ic_0 ?_
            exact v_zret (z := 0) C d_M_isCouple_43 rfl (b01_n (by decide)) ⟨Nat.zero_le _, Nat.zero_le _⟩ (rfl) rfl
          · refine v_iconst (pc := 38) C d_M_isCouple_38 ic_1 ?_
            refine v_goto (pc := 39) (tgt := 43) C d_M_isCouple_39 rfl ?_
            exact v_zret (z := 1) C d_M_isCouple_43 rfl (b01_n (by decide)) ⟨Nat.zero_le _, Nat.zero_le _⟩ (rfl) rfl
-- M_isNear
theorem d_M_isNear_0 : decode (mB Y_M_isNear) 0 = .ok (.aload_n 0, 1) := by decide +kernel
theorem d_M_isNear_1 : decode (mB Y_M_isNear) 1 = .ok (.iload_n 1, 1) := by decide +kernel
theorem d_M_isNear_2 : decode (mB Y_M_isNear) 2 = .ok (.iload_n 2, 1) := by decide +kernel
theorem d_M_isNear_3 : decode (mB Y_M_isNear) 3 = .ok (.isub, 1) := by decide +kernel
theorem d_M_isNear_4 : decode (mB Y_M_isNear) 4 = .ok (.invokevirtual 215, 3) := by decide +kernel
theorem d_M_isNear_7 : decode (mB Y_M_isNear) 7 = .ok (.aload_n 0, 1) := by decide +kernel
theorem d_M_isNear_8 : decode (mB Y_M_isNear) 8 = .ok (.getfield 13, 3) := by decide +kernel
theorem d_M_isNear_11 : decode (mB Y_M_isNear) 11 = .ok (.if_icmp .gt 7, 3) := by decide +kernel
theorem d_M_isNear_14 : decode (mB Y_M_isNear) 14 = .ok (.iconst 1, 1) := by decide +kernel
theorem d_M_isNear_15 : decode (mB Y_M_isNear) 15 = .ok (.goto 4, 3) := by decide +kernel
theorem d_M_isNear_18 : decode (mB Y_M_isNear) 18 = .ok (.iconst 0, 1) := by decide +kernel
theorem d_M_isNear_19 : decode (mB Y_M_isNear) 19 = .ok (.ireturn, 1) := by decide +kernel
theorem ro_M_isNear_M_size : roomy Y_M_isNear Y_M_size := ⟨Nat.le_of_ble_eq_true rfl, Nat.le_of_ble_eq_true rfl⟩
def r_M_isNear (x1 : Int32) (x2 : Int32) (S : Sto) : Int32 := (if (S 104 4) < (r_M_size (x1 - x2)) then 0 else 1)
theorem z_M_isNear (x1 : Int32) (x2 : Int32) (S : Sto) : b01 (r_M_isNear x1 x2 S) = true := by
  unfold r_M_isNear
  (repeat' split) <;> first | rfl | decide | rfl
set_option maxHeartbeats 4000000 in
set_option maxRecDepth 20000 in
theorem c_M_isNear {G : Gl} {L : Shp} (hL : Ext L) (S : Sto) (x1 : Int32) (x2 : Int32)  : Ct Y_M_isNear G [rf G 104, .int x1, .int x2] L S (fp L S) (some (r_M_isNear x1 x2 S)) := by
  refine ct_of (by decide +kernel) (Nat.le_of_ble_eq_true rfl) (fun g C => ?_)
  have e : (some (r_M_isNear x1 x2 S) : Option Int32) =
      if (S 104 4) < (r_M_size (x1 - x2)) then
        some 0
      else
        some 1 := by
    unfold r_M_isNear
    simp only [some_ite, lt, ltJ]
  rw [e]
  show VO g Y_M_isNear G (fun z => Qm g Y_M_isNear G (fp L S z)) 0 0 0 [(0, rf G 104), (1, .int x1), (2, .int x2)] [] L S _ some
  refine v_aload_n (pc := 0) C d_M_isNear_0 rfl 0 rfl ?_
  refine v_iload_n (pc := 1) C d_M_isNear_1 rfl 1 rfl ?_
  refine v_iload_n (pc := 2) C d_M_isNear_2 rfl 2 rfl ?_
  refine v_isub (pc := 3) C d_M_isNear_3 ?_
  refine v_ct (pc := 4) (inv_V (As := [.int (x1 - x2)]) (st := []) C ml_M_215 mv_M_size ro_M_isNear_M_size (sh_104 hL) rfl rfl rfl rfl (Nat.le_of_ble_eq_true rfl) d_M_isNear_4) (c_M_size hL S (x1 - x2)) ⟨rfl, rfl⟩ ⟨Nat.zero_le _, Nat.zero_le _⟩ ?_
  refine v_aload_n (pc := 7) C d_M_isNear_7 rfl 0 rfl ?_
  refine v_getI (pc := 8) C fl_M_13 (sh_104 hL) rfl d_M_isNear_8 ?_
  refine v_icmp_gt (pc := 11) (tgt := 18) C d_M_isNear_11 rfl (fun _ => ?_) (fun _ => ?_)
  · refine v_iconst (pc := 18) C d_M_isNear_18 ic_0 ?_
    exact v_zret (z := 0) C d_M_isNear_19 rfl (b01_n (by decide)) ⟨Nat.zero_le _, Nat.zero_le _⟩ (rfl) rfl
  · refine v_iconst (pc := 14) C d_M_isNear_14 ic_1 ?_
    refine v_goto (pc := 15) (tgt := 19) C d_M_isNear_15 rfl ?_
    exact v_zret (z := 1) C d_M_isNear_19 rfl (b01_n (by decide)) ⟨Nat.zero_le _, Nat.zero_le _⟩ (rfl) rfl
-- M_hasClick
theorem d_M_hasClick_0 : decode (mB Y_M_hasClick) 0 = .ok (.bipush 20, 2) := by decide +kernel
theorem d_M_hasClick_2 : decode (mB Y_M_hasClick) 2 = .ok (.iload_n 1, 1) := by decide +kernel
theorem d_M_hasClick_3 : decode (mB Y_M_hasClick) 3 = .ok (.imul, 1) := by decide +kernel
theorem d_M_hasClick_4 : decode (mB Y_M_hasClick) 4 = .ok (.istore_n 3, 1) := by decide +kernel
theorem d_M_hasClick_5 : decode (mB Y_M_hasClick) 5 = .ok (.iload_n 3, 1) := by decide +kernel
theorem d_M_hasClick_6 : decode (mB Y_M_hasClick) 6 = .ok (.bipush 20, 2) := by decide +kernel
theorem d_M_hasClick_8 : decode (mB Y_M_hasClick) 8 = .ok (.iload_n 1, 1) := by decide +kernel
theorem d_M_hasClick_9 : decode (mB Y_M_hasClick) 9 = .ok (.imul, 1) := by decide +kernel
theorem d_M_hasClick_10 : decode (mB Y_M_hasClick) 10 = .ok (.aload_n 0, 1) := by decide +kernel
theorem d_M_hasClick_11 : decode (mB Y_M_hasClick) 11 = .ok (.getfield 111, 3) := by decide +kernel
theorem d_M_hasClick_14 : decode (mB Y_M_hasClick) 14 = .ok (.iload_n 1, 1) := by decide +kernel
theorem d_M_hasClick_15 : decode (mB Y_M_hasClick) 15 = .ok (.iaload, 1) := by decide +kernel
theorem d_M_hasClick_16 : decode (mB Y_M_hasClick) 16 = .ok (.iadd, 1) := by decide +kernel
theorem d_M_hasClick_17 : decode (mB Y_M_hasClick) 17 = .ok (.if_icmp .ge 35, 3) := by decide +kernel
theorem d_M_hasClick_20 : decode (mB Y_M_hasClick) 20 = .ok (.aload_n 0, 1) := by decide +kernel
theorem d_M_hasClick_21 : decode (mB Y_M_hasClick) 21 = .ok (.aload_n 0, 1) := by decide +kernel
theorem d_M_hasClick_22 : decode (mB Y_M_hasClick) 22 = .ok (.getfield 114, 3) := by decide +kernel
theorem d_M_hasClick_25 : decode (mB Y_M_hasClick) 25 = .ok (.iload_n 3, 1) := by decide +kernel
theorem d_M_hasClick_26 : decode (mB Y_M_hasClick) 26 = .ok (.iaload, 1) := by decide +kernel
theorem d_M_hasClick_27 : decode (mB Y_M_hasClick) 27 = .ok (.aload_n 0, 1) := by decide +kernel
theorem d_M_hasClick_28 : decode (mB Y_M_hasClick) 28 = .ok (.getfield 114, 3) := by decide +kernel
theorem d_M_hasClick_31 : decode (mB Y_M_hasClick) 31 = .ok (.bipush 20, 2) := by decide +kernel
theorem d_M_hasClick_33 : decode (mB Y_M_hasClick) 33 = .ok (.iload_n 1, 1) := by decide +kernel
theorem d_M_hasClick_34 : decode (mB Y_M_hasClick) 34 = .ok (.imul, 1) := by decide +kernel
theorem d_M_hasClick_35 : decode (mB Y_M_hasClick) 35 = .ok (.iaload, 1) := by decide +kernel
theorem d_M_hasClick_36 : decode (mB Y_M_hasClick) 36 = .ok (.iload_n 2, 1) := by decide +kernel
theorem d_M_hasClick_37 : decode (mB Y_M_hasClick) 37 = .ok (.iadd, 1) := by decide +kernel
theorem d_M_hasClick_38 : decode (mB Y_M_hasClick) 38 = .ok (.invokevirtual 393, 3) := by decide +kernel
theorem d_M_hasClick_41 : decode (mB Y_M_hasClick) 41 = .ok (.ifCond .eq 5, 3) := by decide +kernel
theorem d_M_hasClick_44 : decode (mB Y_M_hasClick) 44 = .ok (.iconst 1, 1) := by decide +kernel
theorem d_M_hasClick_45 : decode (mB Y_M_hasClick) 45 = .ok (.ireturn, 1) := by decide +kernel
theorem d_M_hasClick_46 : decode (mB Y_M_hasClick) 46 = .ok (.iinc 3 1, 3) := by decide +kernel
theorem d_M_hasClick_49 : decode (mB Y_M_hasClick) 49 = .ok (.goto (-44), 3) := by decide +kernel
theorem d_M_hasClick_52 : decode (mB Y_M_hasClick) 52 = .ok (.iconst 0, 1) := by decide +kernel
theorem d_M_hasClick_53 : decode (mB Y_M_hasClick) 53 = .ok (.ireturn, 1) := by decide +kernel
theorem ro_M_hasClick_M_isNear : roomy Y_M_hasClick Y_M_isNear := ⟨Nat.le_of_ble_eq_true rfl, Nat.le_of_ble_eq_true rfl⟩
def r_M_hasClick_L5 (y1_ : Int32) (y2_ : Int32) : Nat → Int32 → Sto → Option ((Int32) ⊕ Int32)
  | 0, _, _ => none
  | n + 1, x3_, S =>
    chk (inr y1_ 4) (
    if ((20 * y1_) + (S 135 y1_.toNatClampNeg)) ≤ x3_ then
      some (.inl (x3_))
    else
      chk (inr x3_ 80) (
      chk (inr (20 * y1_) 80) (
      if (r_M_isNear (S 136 x3_.toNatClampNeg) ((S 136 ((20 * y1_).toNatClampNeg)) + y2_) S) = 0 then
        lt (x3_ + 1) (fun v1 =>
        r_M_hasClick_L5 y1_ y2_ n v1 S)
      else
        some (.inr 1))))
set_option maxHeartbeats 4000000 in
set_option maxRecDepth 20000 in
theorem w_M_hasClick_L5 {g : Gm} {G : Gl} {L : Shp} (C : Cx g Y_M_hasClick G) (hL : Ext L) (S : Sto) (y1_ : Int32) (y2_ : Int32)  :
    ∀ (n : Nat) (x3_ : Int32) (K : ((Int32) ⊕ Int32) → Option Int32), (∀ (x3_ : Int32), VO g Y_M_hasClick G (fun z => Qm g Y_M_hasClick G (fp L S z)) 0 0 52 [] [] L S (some (.inl (x3_))) K) → (∀ x, K (.inr x) = some x) → VO g Y_M_hasClick G (fun z => Qm g Y_M_hasClick G (fp L S z)) 0 0 5 [(0, rf G 104), (1, .int y1_), (2, .int y2_), (3, .int x3_)] [] L S (r_M_hasClick_L5 y1_ y2_ n x3_ S) K := by
  intro n
  induction n with
  | zero => intro x3_ K; intros; exact v_none
  | succ n ih =>
    intro x3_ K hK hR
    rw [r_M_hasClick_L5]
    refine v_iload_n (pc := 5) C d_M_hasClick_5 rfl 3 rfl ?_
    refine v_bipush (pc := 6) C d_M_hasClick_6 bp_20 ?_
    refine v_iload_n (pc := 8) C d_M_hasClick_8 rfl 1 rfl ?_
    refine v_imul (pc := 9) C d_M_hasClick_9 ?_
    refine v_aload_n (pc := 10) C d_M_hasClick_10 rfl 0 rfl ?_
    refine v_getR (pc := 11) C fl_M_111 (sh_104 hL) rfl d_M_hasClick_11 ?_
    refine v_iload_n (pc := 14) C d_M_hasClick_14 rfl 1 rfl ?_
    refine v_iald (pc := 15) C (sh_135 hL) d_M_hasClick_15 (fun _ => ?_)
    refine v_iadd (pc := 16) C d_M_hasClick_16 ?_
    refine v_icmp_ge (pc := 17) (tgt := 52) C d_M_hasClick_17 rfl (fun _ => ?_) (fun _ => ?_)
    · refine v_sub [] rfl ?_
      exact hK x3_
    · refine v_aload_n (pc := 20) C d_M_hasClick_20 rfl 0 rfl ?_
      refine v_aload_n (pc := 21) C d_M_hasClick_21 rfl 0 rfl ?_
      refine v_getR (pc := 22) C fl_M_114 (sh_104 hL) rfl d_M_hasClick_22 ?_
      refine v_iload_n (pc := 25) C d_M_hasClick_25 rfl 3 rfl ?_
      refine v_iald (pc := 26) C (sh_136 hL) d_M_hasClick_26 (fun _ => ?_)
      refine v_aload_n (pc := 27) C d_M_hasClick_27 rfl 0 rfl ?_
      refine v_getR (pc := 28) C fl_M_114 (sh_104 hL) rfl d_M_hasClick_28 ?_
      refine v_bipush (pc := 31) C d_M_hasClick_31 bp_20 ?_
      refine v_iload_n (pc := 33) C d_M_hasClick_33 rfl 1 rfl ?_
      refine v_imul (pc := 34) C d_M_hasClick_34 ?_
      refine v_iald (pc := 35) C (sh_136 hL) d_M_hasClick_35 (fun _ => ?_)
      refine v_iload_n (pc := 36) C d_M_hasClick_36 rfl 2 rfl ?_
      refine v_iadd (pc := 37) C d_M_hasClick_37 ?_
      refine v_ct (pc := 38) (inv_V (As := [.int (S 136 x3_.toNatClampNeg), .int ((S 136 ((20 * y1_).toNatClampNeg)) + y2_)]) (st := []) C ml_M_393 mv_M_isNear ro_M_hasClick_M_isNear (sh_104 hL) rfl rfl rfl rfl (Nat.le_of_ble_eq_true rfl) d_M_hasClick_38) (c_M_isNear hL S (S 136 x3_.toNatClampNeg) ((S 136 ((20 * y1_).toNatClampNeg)) + y2_)) ⟨rfl, rfl⟩ ⟨Nat.zero_le _, Nat.zero_le _⟩ ?_
      refine v_if_eq (pc := 41) (tgt := 46) C d_M_hasClick_41 rfl (fun _ => ?_) (fun _ => ?_)
      · refine v_iinc (pc := 46) (p := 3) (c := 1) C d_M_hasClick_46 rfl (by decide) (by decide) (fun v1 => [(3, .int v1), (0, rf G 104), (1, .int y1_), (2, .int y2_)]) (fun _ => rfl) (fun v1 => ?_)
        refine v_goto (pc := 49) (tgt := 5) C d_M_hasClick_49 rfl ?_
        refine v_sub [1, 2, 3, 0] rfl ?_
        exact ih v1 K hK hR
      · refine v_iconst (pc := 44) C d_M_hasClick_44 ic_1 ?_
        exact v_zret (z := 1) C d_M_hasClick_45 rfl (b01_n (by decide)) ⟨Nat.zero_le _, Nat.zero_le _⟩ (hR _) rfl
def r_M_hasClick (x1 : Int32) (x2 : Int32) (S : Sto) : Option Int32 :=
  lt (20 * x1) (fun v1 =>
  (r_M_hasClick_L5 x1 x2 fu v1 S).bind (fun x => match x with
  | .inl (v2) =>
    some 0
  | .inr r => some r))
set_option maxHeartbeats 4000000 in
set_option maxRecDepth 20000 in
theorem c_M_hasClick {G : Gl} {L : Shp} (hL : Ext L) (S : Sto) (x1 : Int32) (x2 : Int32)  : Ct Y_M_hasClick G [rf G 104, .int x1, .int x2] L S (fp L S) (r_M_hasClick x1 x2 S) := by
  refine ct_of (by decide +kernel) (Nat.le_of_ble_eq_true rfl) (fun g C => ?_)
  show VO g Y_M_hasClick G (fun z => Qm g Y_M_hasClick G (fp L S z)) 0 0 0 [(0, rf G 104), (1, .int x1), (2, .int x2)] [] L S (r_M_hasClick x1 x2 S) some
  unfold r_M_hasClick
  refine v_bipush (pc := 0) C d_M_hasClick_0 bp_20 ?_
  refine v_iload_n (pc := 2) C d_M_hasClick_2 rfl 1 rfl ?_
  refine v_imul (pc := 3) C d_M_hasClick_3 ?_
  refine v_lt (fun v1 => ?_)
  refine v_istore_n (pc := 4) (lv' := [(3, .int v1), (0, rf G 104), (1, .int x1), (2, .int x2)]) C d_M_hasClick_4 rfl (by decide) rfl ?_
  refine v_sub [1, 2, 3, 0] rfl ?_
  refine v_bind ?_
  refine w_M_hasClick_L5 C hL S x1 x2  fu v1 _ (fun v2 => ?_) (fun z => rfl)
  refine v_some ?_
  refine v_iconst (pc := 52) C d_M_hasClick_52 ic_0 ?_
  exact v_zret (z := 0) C d_M_hasClick_53 rfl (b01_n (by decide)) ⟨Nat.zero_le _, Nat.zero_le _⟩ (rfl) rfl
-- M_couples
theorem d_M_couples_0 : decode (mB Y_M_couples) 0 = .ok (.aload_n 0, 1) := by decide +kernel
theorem d_M_couples_1 : decode (mB Y_M_couples) 1 = .ok (.aload_n 0, 1) := by decide +kernel
theorem d_M_couples_2 : decode (mB Y_M_couples) 2 = .ok (.getfield 33, 3) := by decide +kernel
theorem d_M_couples_5 : decode (mB Y_M_couples) 5 = .ok (.iload_n 2, 1) := by decide +kernel
theorem d_M_couples_6 : decode (mB Y_M_couples) 6 = .ok (.iaload, 1) := by decide +kernel
theorem d_M_couples_7 : decode (mB Y_M_couples) 7 = .ok (.iconst 0, 1) := by decide +kernel
theorem d_M_couples_8 : decode (mB Y_M_couples) 8 = .ok (.iconst (-1), 1) := by decide +kernel
theorem d_M_couples_9 : decode (mB Y_M_couples) 9 = .ok (.iconst 1, 1) := by decide +kernel
theorem d_M_couples_10 : decode (mB Y_M_couples) 10 = .ok (.aload_n 0, 1) := by decide +kernel
theorem d_M_couples_11 : decode (mB Y_M_couples) 11 = .ok (.getfield 33, 3) := by decide +kernel
theorem d_M_couples_14 : decode (mB Y_M_couples) 14 = .ok (.iload_n 3, 1) := by decide +kernel
theorem d_M_couples_15 : decode (mB Y_M_couples) 15 = .ok (.iaload, 1) := by decide +kernel
theorem d_M_couples_16 : decode (mB Y_M_couples) 16 = .ok (.invokevirtual 235, 3) := by decide +kernel
theorem d_M_couples_19 : decode (mB Y_M_couples) 19 = .ok (.aload_n 0, 1) := by decide +kernel
theorem d_M_couples_20 : decode (mB Y_M_couples) 20 = .ok (.aload_n 0, 1) := by decide +kernel
theorem d_M_couples_21 : decode (mB Y_M_couples) 21 = .ok (.iload_n 1, 1) := by decide +kernel
theorem d_M_couples_22 : decode (mB Y_M_couples) 22 = .ok (.iconst 0, 1) := by decide +kernel
theorem d_M_couples_23 : decode (mB Y_M_couples) 23 = .ok (.invokevirtual 397, 3) := by decide +kernel
theorem d_M_couples_26 : decode (mB Y_M_couples) 26 = .ok (.ifCond .eq 7, 3) := by decide +kernel
theorem d_M_couples_29 : decode (mB Y_M_couples) 29 = .ok (.iconst 1, 1) := by decide +kernel
theorem d_M_couples_30 : decode (mB Y_M_couples) 30 = .ok (.goto 4, 3) := by decide +kernel
theorem d_M_couples_33 : decode (mB Y_M_couples) 33 = .ok (.iconst 0, 1) := by decide +kernel
theorem d_M_couples_34 : decode (mB Y_M_couples) 34 = .ok (.putfield 400, 3) := by decide +kernel
theorem d_M_couples_37 : decode (mB Y_M_couples) 37 = .ok (.aload_n 0, 1) := by decide +kernel
theorem d_M_couples_38 : decode (mB Y_M_couples) 38 = .ok (.iconst 1, 1) := by decide +kernel
theorem d_M_couples_39 : decode (mB Y_M_couples) 39 = .ok (.aload_n 0, 1) := by decide +kernel
theorem d_M_couples_40 : decode (mB Y_M_couples) 40 = .ok (.getfield 218, 3) := by decide +kernel
theorem d_M_couples_43 : decode (mB Y_M_couples) 43 = .ok (.iadd, 1) := by decide +kernel
theorem d_M_couples_44 : decode (mB Y_M_couples) 44 = .ok (.putfield 403, 3) := by decide +kernel
theorem d_M_couples_47 : decode (mB Y_M_couples) 47 = .ok (.iconst 0, 1) := by decide +kernel
theorem d_M_couples_48 : decode (mB Y_M_couples) 48 = .ok (.istore 4, 2) := by decide +kernel
theorem d_M_couples_50 : decode (mB Y_M_couples) 50 = .ok (.iload 4, 2) := by decide +kernel
theorem d_M_couples_52 : decode (mB Y_M_couples) 52 = .ok (.aload_n 0, 1) := by decide +kernel
theorem d_M_couples_53 : decode (mB Y_M_couples) 53 = .ok (.getfield 199, 3) := by decide +kernel
theorem d_M_couples_56 : decode (mB Y_M_couples) 56 = .ok (.if_icmp .ge 50, 3) := by decide +kernel
theorem d_M_couples_59 : decode (mB Y_M_couples) 59 = .ok (.aload_n 0, 1) := by decide +kernel
theorem d_M_couples_60 : decode (mB Y_M_couples) 60 = .ok (.getfield 54, 3) := by decide +kernel
theorem d_M_couples_63 : decode (mB Y_M_couples) 63 = .ok (.iload 4, 2) := by decide +kernel
theorem d_M_couples_65 : decode (mB Y_M_couples) 65 = .ok (.iaload, 1) := by decide +kernel
theorem d_M_couples_66 : decode (mB Y_M_couples) 66 = .ok (.iconst (-1), 1) := by decide +kernel
theorem d_M_couples_67 : decode (mB Y_M_couples) 67 = .ok (.if_icmp .eq 33, 3) := by decide +kernel
theorem d_M_couples_70 : decode (mB Y_M_couples) 70 = .ok (.aload_n 0, 1) := by decide +kernel
theorem d_M_couples_71 : decode (mB Y_M_couples) 71 = .ok (.iload_n 1, 1) := by decide +kernel
theorem d_M_couples_72 : decode (mB Y_M_couples) 72 = .ok (.aload_n 0, 1) := by decide +kernel
theorem d_M_couples_73 : decode (mB Y_M_couples) 73 = .ok (.getfield 48, 3) := by decide +kernel
theorem d_M_couples_76 : decode (mB Y_M_couples) 76 = .ok (.iload 4, 2) := by decide +kernel
theorem d_M_couples_78 : decode (mB Y_M_couples) 78 = .ok (.iaload, 1) := by decide +kernel
theorem d_M_couples_79 : decode (mB Y_M_couples) 79 = .ok (.aload_n 0, 1) := by decide +kernel
theorem d_M_couples_80 : decode (mB Y_M_couples) 80 = .ok (.getfield 221, 3) := by decide +kernel
theorem d_M_couples_83 : decode (mB Y_M_couples) 83 = .ok (.isub, 1) := by decide +kernel
theorem d_M_couples_84 : decode (mB Y_M_couples) 84 = .ok (.invokevirtual 397, 3) := by decide +kernel
theorem d_M_couples_87 : decode (mB Y_M_couples) 87 = .ok (.ifCond .eq 13, 3) := by decide +kernel
theorem d_M_couples_90 : decode (mB Y_M_couples) 90 = .ok (.aload_n 0, 1) := by decide +kernel
theorem d_M_couples_91 : decode (mB Y_M_couples) 91 = .ok (.aload_n 0, 1) := by decide +kernel
theorem d_M_couples_92 : decode (mB Y_M_couples) 92 = .ok (.getfield 400, 3) := by decide +kernel
theorem d_M_couples_95 : decode (mB Y_M_couples) 95 = .ok (.iconst 1, 1) := by decide +kernel
theorem d_M_couples_96 : decode (mB Y_M_couples) 96 = .ok (.iadd, 1) := by decide +kernel
theorem d_M_couples_97 : decode (mB Y_M_couples) 97 = .ok (.putfield 400, 3) := by decide +kernel
theorem d_M_couples_100 : decode (mB Y_M_couples) 100 = .ok (.iinc 4 1, 3) := by decide +kernel
theorem d_M_couples_103 : decode (mB Y_M_couples) 103 = .ok (.goto (-53), 3) := by decide +kernel
theorem d_M_couples_106 : decode (mB Y_M_couples) 106 = .ok (.return_, 1) := by decide +kernel
theorem ro_M_couples_M_hasClick : roomy Y_M_couples Y_M_hasClick := ⟨Nat.le_of_ble_eq_true rfl, Nat.le_of_ble_eq_true rfl⟩
theorem ro_M_couples_M_hears : roomy Y_M_couples Y_M_hears := ⟨Nat.le_of_ble_eq_true rfl, Nat.le_of_ble_eq_true rfl⟩
def r_M_couples_L50 (y1_ : Int32) : Nat → Int32 → Sto → Option (Int32 × Sto)
  | 0, _, _ => none
  | n + 1, x4_, S =>
    if (S 104 5) ≤ x4_ then
      some (x4_, S)
    else
      chk (inr x4_ 10) (
      jn (fun (S1 : Sto) =>
        lt (x4_ + 1) (fun v2 =>
        r_M_couples_L50 y1_ n v2 S1)) (fun j100 =>
      if (S 117 x4_.toNatClampNeg) = (-1) then
        j100 (S)
      else
        chk (inr x4_ 10) (
        (r_M_hasClick y1_ ((S 115 x4_.toNatClampNeg) - (S 104 17)) S).bind (fun r3 =>
        if r3 = 0 then
          j100 (S)
        else
          ltS (sw S 104 60 ((S 104 60) + 1)) (fun S4 =>
          j100 (S4))))))
set_option maxHeartbeats 4000000 in
set_option maxRecDepth 20000 in
theorem w_M_couples_L50 {g : Gm} {G : Gl} {L : Shp} (C : Cx g Y_M_couples G) (hL : Ext L) (y1_ : Int32)  :
    ∀ (n : Nat) (x4_ : Int32) (S : Sto) (K : (Int32 × Sto) → Option Sto), (∀ (x4_ : Int32) (S : Sto), VO g Y_M_couples G (fun z => Qm g Y_M_couples G (fv L z)) 0 0 106 [] [] L S (some (x4_, S)) K) → VO g Y_M_couples G (fun z => Qm g Y_M_couples G (fv L z)) 0 0 50 [(0, rf G 104), (1, .int y1_), (4, .int x4_)] [] L S (r_M_couples_L50 y1_ n x4_ S) K := by
  intro n
  induction n with
  | zero => intro x4_ S K; intros; exact v_none
  | succ n ih =>
    intro x4_ S K hK
    rw [r_M_couples_L50]
    refine v_iload (pc := 50) C d_M_couples_50 2 rfl ?_
    refine v_aload_n (pc := 52) C d_M_couples_52 rfl 0 rfl ?_
    refine v_getI (pc := 53) C fl_M_199 (sh_104 hL) rfl d_M_couples_53 ?_
    refine v_icmp_ge (pc := 56) (tgt := 106) C d_M_couples_56 rfl (fun _ => ?_) (fun _ => ?_)
    · refine v_sub [] rfl ?_
      exact hK x4_ S
    · refine v_aload_n (pc := 59) C d_M_couples_59 rfl 0 rfl ?_
      refine v_getR (pc := 60) C fl_M_54 (sh_104 hL) rfl d_M_couples_60 ?_
      refine v_iload (pc := 63) C d_M_couples_63 2 rfl ?_
      refine v_iald (pc := 65) C (sh_117 hL) d_M_couples_65 (fun _ => ?_)
      refine v_iconst (pc := 66) C d_M_couples_66 ic_m1 ?_
      refine v_jn (fun j => ∀ (S1 : Sto), VO g Y_M_couples G (fun z => Qm g Y_M_couples G (fv L z)) 0 0 100 [(0, rf G 104), (1, .int y1_), (4, .int x4_)] [] L S1 (j (S1)) K) (fun S1 => ?_) (fun j100 hj100 => ?_)
      · refine v_iinc (pc := 100) (p := 2) (c := 1) C d_M_couples_100 rfl (by decide) (by decide) (fun v2 => [(4, .int v2), (0, rf G 104), (1, .int y1_)]) (fun _ => rfl) (fun v2 => ?_)
        refine v_goto (pc := 103) (tgt := 50) C d_M_couples_103 rfl ?_
        refine v_sub [1, 2, 0] rfl ?_
        exact ih v2 S1 K hK
      · refine v_icmp_eq (pc := 67) (tgt := 100) C d_M_couples_67 rfl (fun _ => ?_) (fun _ => ?_)
        · exact hj100 S
        · refine v_aload_n (pc := 70) C d_M_couples_70 rfl 0 rfl ?_
          refine v_iload_n (pc := 71) C d_M_couples_71 rfl 1 rfl ?_
          refine v_aload_n (pc := 72) C d_M_couples_72 rfl 0 rfl ?_
          refine v_getR (pc := 73) C fl_M_48 (sh_104 hL) rfl d_M_couples_73 ?_
          refine v_iload (pc := 76) C d_M_couples_76 2 rfl ?_
          refine v_iald (pc := 78) C (sh_115 hL) d_M_couples_78 (fun _ => ?_)
          refine v_aload_n (pc := 79) C d_M_couples_79 rfl 0 rfl ?_
          refine v_getI (pc := 80) C fl_M_221 (sh_104 hL) rfl d_M_couples_80 ?_
          refine v_isub (pc := 83) C d_M_couples_83 ?_
          refine v_cp (pc := 84) (inv_V (As := [.int y1_, .int ((S 115 x4_.toNatClampNeg) - (S 104 17))]) (st := []) C ml_M_397 mv_M_hasClick ro_M_couples_M_hasClick (sh_104 hL) rfl rfl rfl rfl (Nat.le_of_ble_eq_true rfl) d_M_couples_84) (c_M_hasClick hL S y1_ ((S 115 x4_.toNatClampNeg) - (S 104 17))) ⟨rfl, rfl⟩ ⟨Nat.zero_le _, Nat.zero_le _⟩ (fun r3 => ?_)
          refine v_if_eq (pc := 87) (tgt := 100) C d_M_couples_87 rfl (fun _ => ?_) (fun _ => ?_)
          · exact hj100 S
          · refine v_aload_n (pc := 90) C d_M_couples_90 rfl 0 rfl ?_
            refine v_aload_n (pc := 91) C d_M_couples_91 rfl 0 rfl ?_
            refine v_getI (pc := 92) C fl_M_400 (sh_104 hL) rfl d_M_couples_92 ?_
            refine v_iconst (pc := 95) C d_M_couples_95 ic_1 ?_
            refine v_iadd (pc := 96) C d_M_couples_96 ?_
            refine v_putI (pc := 97) C fp_M_400 (sh_104 hL) rfl d_M_couples_97 (fun S4 => ?_)
            exact hj100 S4
def r_M_couples (x1 : Int32) (x2 : Int32) (x3 : Int32) (S : Sto) : Option Sto :=
  chk (inr x2 10) (
  chk (inr x3 10) (
  (r_M_hears (S 110 x2.toNatClampNeg) 0 (-1) 1 (S 110 x3.toNatClampNeg) S).bind (fun S1 =>
  (r_M_hasClick x1 0 S1).bind (fun r2 =>
  jn (fun (v3 : Int32) =>
    ltS (sw S1 104 60 v3) (fun S4 =>
    ltS (sw S4 104 61 (1 + (S4 104 22))) (fun S5 =>
    (r_M_couples_L50 x1 fu 0 S5).bind (fun (v6, S7) =>
    some S7)))) (fun j34 =>
  if r2 = 0 then
    j34 (0)
  else
    j34 (1))))))
set_option maxHeartbeats 4000000 in
set_option maxRecDepth 20000 in
theorem c_M_couples {G : Gl} {L : Shp} (hL : Ext L) (S : Sto) (x1 : Int32) (x2 : Int32) (x3 : Int32)  : Ct Y_M_couples G [rf G 104, .int x1, .int x2, .int x3] L S (fv L) (r_M_couples x1 x2 x3 S) := by
  refine ct_of (by decide +kernel) (Nat.le_of_ble_eq_true rfl) (fun g C => ?_)
  show VO g Y_M_couples G (fun z => Qm g Y_M_couples G (fv L z)) 0 0 0 [(0, rf G 104), (1, .int x1), (2, .int x2), (3, .int x3)] [] L S (r_M_couples x1 x2 x3 S) some
  unfold r_M_couples
  refine v_aload_n (pc := 0) C d_M_couples_0 rfl 0 rfl ?_
  refine v_aload_n (pc := 1) C d_M_couples_1 rfl 0 rfl ?_
  refine v_getR (pc := 2) C fl_M_33 (sh_104 hL) rfl d_M_couples_2 ?_
  refine v_iload_n (pc := 5) C d_M_couples_5 rfl 2 rfl ?_
  refine v_iald (pc := 6) C (sh_110 hL) d_M_couples_6 (fun _ => ?_)
  refine v_iconst (pc := 7) C d_M_couples_7 ic_0 ?_
  refine v_iconst (pc := 8) C d_M_couples_8 ic_m1 ?_
  refine v_iconst (pc := 9) C d_M_couples_9 ic_1 ?_
  refine v_aload_n (pc := 10) C d_M_couples_10 rfl 0 rfl ?_
  refine v_getR (pc := 11) C fl_M_33 (sh_104 hL) rfl d_M_couples_11 ?_
  refine v_iload_n (pc := 14) C d_M_couples_14 rfl 3 rfl ?_
  refine v_iald (pc := 15) C (sh_110 hL) d_M_couples_15 (fun _ => ?_)
  refine v_cv (pc := 16) (inv_V (As := [.int (S 110 x2.toNatClampNeg), .int 0, .int (-1), .int 1, .int (S 110 x3.toNatClampNeg)]) (st := []) C ml_M_235 mv_M_hears ro_M_couples_M_hears (sh_104 hL) rfl rfl rfl rfl (Nat.le_of_ble_eq_true rfl) d_M_couples_16) (c_M_hears hL S (S 110 x2.toNatClampNeg) 0 (-1) 1 (S 110 x3.toNatClampNeg)) ⟨rfl, rfl⟩ ⟨Nat.zero_le _, Nat.zero_le _⟩ (fun S1 => ?_)
  refine v_aload_n (pc := 19) C d_M_couples_19 rfl 0 rfl ?_
  refine v_aload_n (pc := 20) C d_M_couples_20 rfl 0 rfl ?_
  refine v_iload_n (pc := 21) C d_M_couples_21 rfl 1 rfl ?_
  refine v_iconst (pc := 22) C d_M_couples_22 ic_0 ?_
  refine v_cp (pc := 23) (inv_V (As := [.int x1, .int 0]) (st := [rf G 104]) C ml_M_397 mv_M_hasClick ro_M_couples_M_hasClick (sh_104 hL) rfl rfl rfl rfl (Nat.le_of_ble_eq_true rfl) d_M_couples_23) (c_M_hasClick hL S1 x1 0) ⟨rfl, rfl⟩ ⟨Nat.zero_le _, Nat.zero_le _⟩ (fun r2 => ?_)
  refine v_jn (fun j => ∀ (v3 : Int32), VO g Y_M_couples G (fun z => Qm g Y_M_couples G (fv L z)) 0 0 34 [(0, rf G 104), (1, .int x1)] [.int v3, rf G 104] L S1 (j (v3)) some) (fun v3 => ?_) (fun j34 hj34 => ?_)
  · refine v_putI (pc := 34) C fp_M_400 (sh_104 hL) rfl d_M_couples_34 (fun S4 => ?_)
    refine v_aload_n (pc := 37) C d_M_couples_37 rfl 0 rfl ?_
    refine v_iconst (pc := 38) C d_M_couples_38 ic_1 ?_
    refine v_aload_n (pc := 39) C d_M_couples_39 rfl 0 rfl ?_
    refine v_getI (pc := 40) C fl_M_218 (sh_104 hL) rfl d_M_couples_40 ?_
    refine v_iadd (pc := 43) C d_M_couples_43 ?_
    refine v_putI (pc := 44) C fp_M_403 (sh_104 hL) rfl d_M_couples_44 (fun S5 => ?_)
    refine v_iconst (pc := 47) C d_M_couples_47 ic_0 ?_
    refine v_istore (pc := 48) (lv' := [(4, .int 0), (0, rf G 104), (1, .int x1)]) C d_M_couples_48 (by decide) rfl ?_
    refine v_sub [1, 2, 0] rfl ?_
    refine v_bind ?_
    refine w_M_couples_L50 C hL x1  fu 0 S5 _ (fun v6 S7 => ?_) 
    refine v_some ?_
    exact v_vret C d_M_couples_106 rfl ⟨Nat.zero_le _, Nat.zero_le _⟩ rfl rfl
  · refine v_if_eq (pc := 26) (tgt := 33) C d_M_couples_26 rfl (fun _ => ?_) (fun _ => ?_)
    · refine v_iconst (pc := 33) C d_M_couples_33 ic_0 ?_
      refine v_sub [0, 1] rfl ?_
      exact hj34 0
    · refine v_iconst (pc := 29) C d_M_couples_29 ic_1 ?_
      refine v_goto (pc := 30) (tgt := 34) C d_M_couples_30 rfl ?_
      refine v_sub [0, 1] rfl ?_
      exact hj34 1
-- M_fits
theorem d_M_fits_0 : decode (mB Y_M_fits) 0 = .ok (.aload_n 0, 1) := by decide +kernel
theorem d_M_fits_1 : decode (mB Y_M_fits) 1 = .ok (.iconst 0, 1) := by decide +kernel
theorem d_M_fits_2 : decode (mB Y_M_fits) 2 = .ok (.putfield 150, 3) := by decide +kernel
theorem d_M_fits_5 : decode (mB Y_M_fits) 5 = .ok (.aload_n 0, 1) := by decide +kernel
theorem d_M_fits_6 : decode (mB Y_M_fits) 6 = .ok (.iload_n 1, 1) := by decide +kernel
theorem d_M_fits_7 : decode (mB Y_M_fits) 7 = .ok (.iload_n 2, 1) := by decide +kernel
theorem d_M_fits_8 : decode (mB Y_M_fits) 8 = .ok (.iload_n 3, 1) := by decide +kernel
theorem d_M_fits_9 : decode (mB Y_M_fits) 9 = .ok (.invokevirtual 409, 3) := by decide +kernel
theorem d_M_fits_12 : decode (mB Y_M_fits) 12 = .ok (.ifCond .eq 14, 3) := by decide +kernel
theorem d_M_fits_15 : decode (mB Y_M_fits) 15 = .ok (.aload_n 0, 1) := by decide +kernel
theorem d_M_fits_16 : decode (mB Y_M_fits) 16 = .ok (.iload 4, 2) := by decide +kernel
theorem d_M_fits_18 : decode (mB Y_M_fits) 18 = .ok (.iconst 0, 1) := by decide +kernel
theorem d_M_fits_19 : decode (mB Y_M_fits) 19 = .ok (.iconst 1, 1) := by decide +kernel
theorem d_M_fits_20 : decode (mB Y_M_fits) 20 = .ok (.invokevirtual 153, 3) := by decide +kernel
theorem d_M_fits_23 : decode (mB Y_M_fits) 23 = .ok (.ifCond .ne 5, 3) := by decide +kernel
theorem d_M_fits_26 : decode (mB Y_M_fits) 26 = .ok (.iconst (-1), 1) := by decide +kernel
theorem d_M_fits_27 : decode (mB Y_M_fits) 27 = .ok (.ireturn, 1) := by decide +kernel
theorem d_M_fits_28 : decode (mB Y_M_fits) 28 = .ok (.aload_n 0, 1) := by decide +kernel
theorem d_M_fits_29 : decode (mB Y_M_fits) 29 = .ok (.iload_n 1, 1) := by decide +kernel
theorem d_M_fits_30 : decode (mB Y_M_fits) 30 = .ok (.iload_n 2, 1) := by decide +kernel
theorem d_M_fits_31 : decode (mB Y_M_fits) 31 = .ok (.iload_n 3, 1) := by decide +kernel
theorem d_M_fits_32 : decode (mB Y_M_fits) 32 = .ok (.invokevirtual 412, 3) := by decide +kernel
theorem d_M_fits_35 : decode (mB Y_M_fits) 35 = .ok (.iload 4, 2) := by decide +kernel
theorem d_M_fits_37 : decode (mB Y_M_fits) 37 = .ok (.ifCond .ne 10, 3) := by decide +kernel
theorem d_M_fits_40 : decode (mB Y_M_fits) 40 = .ok (.aload_n 0, 1) := by decide +kernel
theorem d_M_fits_41 : decode (mB Y_M_fits) 41 = .ok (.getfield 400, 3) := by decide +kernel
theorem d_M_fits_44 : decode (mB Y_M_fits) 44 = .ok (.goto 7, 3) := by decide +kernel
theorem d_M_fits_47 : decode (mB Y_M_fits) 47 = .ok (.aload_n 0, 1) := by decide +kernel
theorem d_M_fits_48 : decode (mB Y_M_fits) 48 = .ok (.getfield 403, 3) := by decide +kernel
theorem d_M_fits_51 : decode (mB Y_M_fits) 51 = .ok (.ireturn, 1) := by decide +kernel
theorem ro_M_fits_M_couples : roomy Y_M_fits Y_M_couples := ⟨Nat.le_of_ble_eq_true rfl, Nat.le_of_ble_eq_true rfl⟩
theorem ro_M_fits_M_isCouple : roomy Y_M_fits Y_M_isCouple := ⟨Nat.le_of_ble_eq_true rfl, Nat.le_of_ble_eq_true rfl⟩
theorem ro_M_fits_M_isIn : roomy Y_M_fits Y_M_isIn := ⟨Nat.le_of_ble_eq_true rfl, Nat.le_of_ble_eq_true rfl⟩
def r_M_fits (x1 : Int32) (x2 : Int32) (x3 : Int32) (x4 : Int32) (S : Sto) : Option (Int32 × Sto) :=
  ltS (sw S 104 0 0) (fun S1 =>
  (r_M_isCouple x1 x2 x3 S1).bind (fun r2 =>
  if r2 = 0 then
    some ((-1), S1)
  else
    if (r_M_isIn x4 0 1) = 0 then
      some ((-1), S1)
    else
      (r_M_couples x1 x2 x3 S1).bind (fun S3 =>
      if x4 = 0 then
        some (S3 104 60, S3)
      else
        some (S3 104 61, S3))))
set_option maxHeartbeats 4000000 in
set_option maxRecDepth 20000 in
theorem c_M_fits {G : Gl} {L : Shp} (hL : Ext L) (S : Sto) (x1 : Int32) (x2 : Int32) (x3 : Int32) (x4 : Int32)  : Ct Y_M_fits G [rf G 104, .int x1, .int x2, .int x3, .int x4] L S (fi L) (r_M_fits x1 x2 x3 x4 S) := by
  refine ct_of (by decide +kernel) (Nat.le_of_ble_eq_true rfl) (fun g C => ?_)
  show VO g Y_M_fits G (fun z => Qm g Y_M_fits G (fi L z)) 0 0 0 [(0, rf G 104), (1, .int x1), (2, .int x2), (3, .int x3), (4, .int x4)] [] L S (r_M_fits x1 x2 x3 x4 S) some
  unfold r_M_fits
  refine v_aload_n (pc := 0) C d_M_fits_0 rfl 0 rfl ?_
  refine v_iconst (pc := 1) C d_M_fits_1 ic_0 ?_
  refine v_putI (pc := 2) C fp_M_150 (sh_104 hL) rfl d_M_fits_2 (fun S1 => ?_)
  refine v_aload_n (pc := 5) C d_M_fits_5 rfl 0 rfl ?_
  refine v_iload_n (pc := 6) C d_M_fits_6 rfl 1 rfl ?_
  refine v_iload_n (pc := 7) C d_M_fits_7 rfl 2 rfl ?_
  refine v_iload_n (pc := 8) C d_M_fits_8 rfl 3 rfl ?_
  refine v_cp (pc := 9) (inv_V (As := [.int x1, .int x2, .int x3]) (st := []) C ml_M_409 mv_M_isCouple ro_M_fits_M_isCouple (sh_104 hL) rfl rfl rfl rfl (Nat.le_of_ble_eq_true rfl) d_M_fits_9) (c_M_isCouple hL S1 x1 x2 x3) ⟨rfl, rfl⟩ ⟨Nat.zero_le _, Nat.zero_le _⟩ (fun r2 => ?_)
  refine v_if_eq (pc := 12) (tgt := 26) C d_M_fits_12 rfl (fun _ => ?_) (fun _ => ?_)
  · refine v_iconst (pc := 26) C d_M_fits_26 ic_m1 ?_
    exact v_iret (z := ((-1), S1)) C d_M_fits_27 rfl ⟨Nat.zero_le _, Nat.zero_le _⟩ (rfl) rfl
  · refine v_aload_n (pc := 15) C d_M_fits_15 rfl 0 rfl ?_
    refine v_iload (pc := 16) C d_M_fits_16 4 rfl ?_
    refine v_iconst (pc := 18) C d_M_fits_18 ic_0 ?_
    refine v_iconst (pc := 19) C d_M_fits_19 ic_1 ?_
    refine v_ct (pc := 20) (inv_V (As := [.int x4, .int 0, .int 1]) (st := []) C ml_M_153 mv_M_isIn ro_M_fits_M_isIn (sh_104 hL) rfl rfl rfl rfl (Nat.le_of_ble_eq_true rfl) d_M_fits_20) (c_M_isIn hL S1 x4 0 1) ⟨rfl, rfl⟩ ⟨Nat.zero_le _, Nat.zero_le _⟩ ?_
    refine v_if_ne (pc := 23) (tgt := 28) C d_M_fits_23 rfl (fun _ => ?_) (fun _ => ?_)
    · refine v_aload_n (pc := 28) C d_M_fits_28 rfl 0 rfl ?_
      refine v_iload_n (pc := 29) C d_M_fits_29 rfl 1 rfl ?_
      refine v_iload_n (pc := 30) C d_M_fits_30 rfl 2 rfl ?_
      refine v_iload_n (pc := 31) C d_M_fits_31 rfl 3 rfl ?_
      refine v_cv (pc := 32) (inv_V (As := [.int x1, .int x2, .int x3]) (st := []) C ml_M_412 mv_M_couples ro_M_fits_M_couples (sh_104 hL) rfl rfl rfl rfl (Nat.le_of_ble_eq_true rfl) d_M_fits_32) (c_M_couples hL S1 x1 x2 x3) ⟨rfl, rfl⟩ ⟨Nat.zero_le _, Nat.zero_le _⟩ (fun S3 => ?_)
      refine v_iload (pc := 35) C d_M_fits_35 4 rfl ?_
      refine v_if_ne (pc := 37) (tgt := 47) C d_M_fits_37 rfl (fun _ => ?_) (fun _ => ?_)
      · refine v_aload_n (pc := 47) C d_M_fits_47 rfl 0 rfl ?_
        refine v_getI (pc := 48) C fl_M_403 (sh_104 hL) rfl d_M_fits_48 ?_
        exact v_iret (z := (S3 104 61, S3)) C d_M_fits_51 rfl ⟨Nat.zero_le _, Nat.zero_le _⟩ (rfl) rfl
      · refine v_aload_n (pc := 40) C d_M_fits_40 rfl 0 rfl ?_
        refine v_getI (pc := 41) C fl_M_400 (sh_104 hL) rfl d_M_fits_41 ?_
        refine v_goto (pc := 44) (tgt := 51) C d_M_fits_44 rfl ?_
        exact v_iret (z := (S3 104 60, S3)) C d_M_fits_51 rfl ⟨Nat.zero_le _, Nat.zero_le _⟩ (rfl) rfl
    · refine v_iconst (pc := 26) C d_M_fits_26 ic_m1 ?_
      exact v_iret (z := ((-1), S1)) C d_M_fits_27 rfl ⟨Nat.zero_le _, Nat.zero_le _⟩ (rfl) rfl
-- M_couple
theorem d_M_couple_0 : decode (mB Y_M_couple) 0 = .ok (.aload_n 0, 1) := by decide +kernel
theorem d_M_couple_1 : decode (mB Y_M_couple) 1 = .ok (.iconst 0, 1) := by decide +kernel
theorem d_M_couple_2 : decode (mB Y_M_couple) 2 = .ok (.putfield 150, 3) := by decide +kernel
theorem d_M_couple_5 : decode (mB Y_M_couple) 5 = .ok (.aload_n 0, 1) := by decide +kernel
theorem d_M_couple_6 : decode (mB Y_M_couple) 6 = .ok (.iload_n 2, 1) := by decide +kernel
theorem d_M_couple_7 : decode (mB Y_M_couple) 7 = .ok (.iconst 0, 1) := by decide +kernel
theorem d_M_couple_8 : decode (mB Y_M_couple) 8 = .ok (.iconst 2, 1) := by decide +kernel
theorem d_M_couple_9 : decode (mB Y_M_couple) 9 = .ok (.invokevirtual 153, 3) := by decide +kernel
theorem d_M_couple_12 : decode (mB Y_M_couple) 12 = .ok (.ifCond .ne 5, 3) := by decide +kernel
theorem d_M_couple_15 : decode (mB Y_M_couple) 15 = .ok (.iconst (-1), 1) := by decide +kernel
theorem d_M_couple_16 : decode (mB Y_M_couple) 16 = .ok (.ireturn, 1) := by decide +kernel
theorem d_M_couple_17 : decode (mB Y_M_couple) 17 = .ok (.iconst (-1), 1) := by decide +kernel
theorem d_M_couple_18 : decode (mB Y_M_couple) 18 = .ok (.istore_n 3, 1) := by decide +kernel
theorem d_M_couple_19 : decode (mB Y_M_couple) 19 = .ok (.iconst (-1), 1) := by decide +kernel
theorem d_M_couple_20 : decode (mB Y_M_couple) 20 = .ok (.istore 4, 2) := by decide +kernel
theorem d_M_couple_22 : decode (mB Y_M_couple) 22 = .ok (.iconst 0, 1) := by decide +kernel
theorem d_M_couple_23 : decode (mB Y_M_couple) 23 = .ok (.istore 5, 2) := by decide +kernel
theorem d_M_couple_25 : decode (mB Y_M_couple) 25 = .ok (.iconst 0, 1) := by decide +kernel
theorem d_M_couple_26 : decode (mB Y_M_couple) 26 = .ok (.istore 6, 2) := by decide +kernel
theorem d_M_couple_28 : decode (mB Y_M_couple) 28 = .ok (.iconst 0, 1) := by decide +kernel
theorem d_M_couple_29 : decode (mB Y_M_couple) 29 = .ok (.istore 7, 2) := by decide +kernel
theorem d_M_couple_31 : decode (mB Y_M_couple) 31 = .ok (.iload 7, 2) := by decide +kernel
theorem d_M_couple_33 : decode (mB Y_M_couple) 33 = .ok (.bipush 100, 2) := by decide +kernel
theorem d_M_couple_35 : decode (mB Y_M_couple) 35 = .ok (.if_icmp .ge 138, 3) := by decide +kernel
theorem d_M_couple_38 : decode (mB Y_M_couple) 38 = .ok (.aload_n 0, 1) := by decide +kernel
theorem d_M_couple_39 : decode (mB Y_M_couple) 39 = .ok (.iload_n 1, 1) := by decide +kernel
theorem d_M_couple_40 : decode (mB Y_M_couple) 40 = .ok (.iload 7, 2) := by decide +kernel
theorem d_M_couple_42 : decode (mB Y_M_couple) 42 = .ok (.bipush 10, 2) := by decide +kernel
theorem d_M_couple_44 : decode (mB Y_M_couple) 44 = .ok (.idiv, 1) := by decide +kernel
theorem d_M_couple_45 : decode (mB Y_M_couple) 45 = .ok (.iload 7, 2) := by decide +kernel
theorem d_M_couple_47 : decode (mB Y_M_couple) 47 = .ok (.bipush 10, 2) := by decide +kernel
theorem d_M_couple_49 : decode (mB Y_M_couple) 49 = .ok (.irem, 1) := by decide +kernel
theorem d_M_couple_50 : decode (mB Y_M_couple) 50 = .ok (.invokevirtual 409, 3) := by decide +kernel
theorem d_M_couple_53 : decode (mB Y_M_couple) 53 = .ok (.ifCond .ne 6, 3) := by decide +kernel
theorem d_M_couple_56 : decode (mB Y_M_couple) 56 = .ok (.goto 111, 3) := by decide +kernel
theorem d_M_couple_59 : decode (mB Y_M_couple) 59 = .ok (.aload_n 0, 1) := by decide +kernel
theorem d_M_couple_60 : decode (mB Y_M_couple) 60 = .ok (.iload_n 1, 1) := by decide +kernel
theorem d_M_couple_61 : decode (mB Y_M_couple) 61 = .ok (.iload 7, 2) := by decide +kernel
theorem d_M_couple_63 : decode (mB Y_M_couple) 63 = .ok (.bipush 10, 2) := by decide +kernel
theorem d_M_couple_65 : decode (mB Y_M_couple) 65 = .ok (.idiv, 1) := by decide +kernel
theorem d_M_couple_66 : decode (mB Y_M_couple) 66 = .ok (.iload 7, 2) := by decide +kernel
theorem d_M_couple_68 : decode (mB Y_M_couple) 68 = .ok (.bipush 10, 2) := by decide +kernel
theorem d_M_couple_70 : decode (mB Y_M_couple) 70 = .ok (.irem, 1) := by decide +kernel
theorem d_M_couple_71 : decode (mB Y_M_couple) 71 = .ok (.invokevirtual 412, 3) := by decide +kernel
theorem d_M_couple_74 : decode (mB Y_M_couple) 74 = .ok (.aload_n 0, 1) := by decide +kernel
theorem d_M_couple_75 : decode (mB Y_M_couple) 75 = .ok (.getfield 400, 3) := by decide +kernel
theorem d_M_couple_78 : decode (mB Y_M_couple) 78 = .ok (.iload 4, 2) := by decide +kernel
theorem d_M_couple_80 : decode (mB Y_M_couple) 80 = .ok (.if_icmp .le 7, 3) := by decide +kernel
theorem d_M_couple_83 : decode (mB Y_M_couple) 83 = .ok (.iconst 1, 1) := by decide +kernel
theorem d_M_couple_84 : decode (mB Y_M_couple) 84 = .ok (.goto 21, 3) := by decide +kernel
theorem d_M_couple_87 : decode (mB Y_M_couple) 87 = .ok (.aload_n 0, 1) := by decide +kernel
theorem d_M_couple_88 : decode (mB Y_M_couple) 88 = .ok (.getfield 400, 3) := by decide +kernel
theorem d_M_couple_91 : decode (mB Y_M_couple) 91 = .ok (.iload 4, 2) := by decide +kernel
theorem d_M_couple_93 : decode (mB Y_M_couple) 93 = .ok (.if_icmp .ne 10, 3) := by decide +kernel
theorem d_M_couple_96 : decode (mB Y_M_couple) 96 = .ok (.iload 6, 2) := by decide +kernel
theorem d_M_couple_98 : decode (mB Y_M_couple) 98 = .ok (.iconst 1, 1) := by decide +kernel
theorem d_M_couple_99 : decode (mB Y_M_couple) 99 = .ok (.iadd, 1) := by decide +kernel
theorem d_M_couple_100 : decode (mB Y_M_couple) 100 = .ok (.goto 5, 3) := by decide +kernel
theorem d_M_couple_103 : decode (mB Y_M_couple) 103 = .ok (.iload 6, 2) := by decide +kernel
theorem d_M_couple_105 : decode (mB Y_M_couple) 105 = .ok (.istore 6, 2) := by decide +kernel
theorem d_M_couple_107 : decode (mB Y_M_couple) 107 = .ok (.iload_n 3, 1) := by decide +kernel
theorem d_M_couple_108 : decode (mB Y_M_couple) 108 = .ok (.iconst (-1), 1) := by decide +kernel
theorem d_M_couple_109 : decode (mB Y_M_couple) 109 = .ok (.if_icmp .eq 38, 3) := by decide +kernel
theorem d_M_couple_112 : decode (mB Y_M_couple) 112 = .ok (.aload_n 0, 1) := by decide +kernel
theorem d_M_couple_113 : decode (mB Y_M_couple) 113 = .ok (.getfield 400, 3) := by decide +kernel
theorem d_M_couple_116 : decode (mB Y_M_couple) 116 = .ok (.iload 4, 2) := by decide +kernel
theorem d_M_couple_118 : decode (mB Y_M_couple) 118 = .ok (.if_icmp .lt 49, 3) := by decide +kernel
theorem d_M_couple_121 : decode (mB Y_M_couple) 121 = .ok (.aload_n 0, 1) := by decide +kernel
theorem d_M_couple_122 : decode (mB Y_M_couple) 122 = .ok (.getfield 400, 3) := by decide +kernel
theorem d_M_couple_125 : decode (mB Y_M_couple) 125 = .ok (.iload 4, 2) := by decide +kernel
theorem d_M_couple_127 : decode (mB Y_M_couple) 127 = .ok (.if_icmp .ne 20, 3) := by decide +kernel
theorem d_M_couple_130 : decode (mB Y_M_couple) 130 = .ok (.aload_n 0, 1) := by decide +kernel
theorem d_M_couple_131 : decode (mB Y_M_couple) 131 = .ok (.getfield 403, 3) := by decide +kernel
theorem d_M_couple_134 : decode (mB Y_M_couple) 134 = .ok (.aload_n 0, 1) := by decide +kernel
theorem d_M_couple_135 : decode (mB Y_M_couple) 135 = .ok (.getfield 400, 3) := by decide +kernel
theorem d_M_couple_138 : decode (mB Y_M_couple) 138 = .ok (.isub, 1) := by decide +kernel
theorem d_M_couple_139 : decode (mB Y_M_couple) 139 = .ok (.iload 5, 2) := by decide +kernel
theorem d_M_couple_141 : decode (mB Y_M_couple) 141 = .ok (.if_icmp .lt 6, 3) := by decide +kernel
theorem d_M_couple_144 : decode (mB Y_M_couple) 144 = .ok (.goto 23, 3) := by decide +kernel
theorem d_M_couple_147 : decode (mB Y_M_couple) 147 = .ok (.iload 7, 2) := by decide +kernel
theorem d_M_couple_149 : decode (mB Y_M_couple) 149 = .ok (.istore_n 3, 1) := by decide +kernel
theorem d_M_couple_150 : decode (mB Y_M_couple) 150 = .ok (.aload_n 0, 1) := by decide +kernel
theorem d_M_couple_151 : decode (mB Y_M_couple) 151 = .ok (.getfield 400, 3) := by decide +kernel
theorem d_M_couple_154 : decode (mB Y_M_couple) 154 = .ok (.istore 4, 2) := by decide +kernel
theorem d_M_couple_156 : decode (mB Y_M_couple) 156 = .ok (.aload_n 0, 1) := by decide +kernel
theorem d_M_couple_157 : decode (mB Y_M_couple) 157 = .ok (.getfield 403, 3) := by decide +kernel
theorem d_M_couple_160 : decode (mB Y_M_couple) 160 = .ok (.aload_n 0, 1) := by decide +kernel
theorem d_M_couple_161 : decode (mB Y_M_couple) 161 = .ok (.getfield 400, 3) := by decide +kernel
theorem d_M_couple_164 : decode (mB Y_M_couple) 164 = .ok (.isub, 1) := by decide +kernel
theorem d_M_couple_165 : decode (mB Y_M_couple) 165 = .ok (.istore 5, 2) := by decide +kernel
theorem d_M_couple_167 : decode (mB Y_M_couple) 167 = .ok (.iinc 7 1, 3) := by decide +kernel
theorem d_M_couple_170 : decode (mB Y_M_couple) 170 = .ok (.goto (-139), 3) := by decide +kernel
theorem d_M_couple_173 : decode (mB Y_M_couple) 173 = .ok (.iload_n 3, 1) := by decide +kernel
theorem d_M_couple_174 : decode (mB Y_M_couple) 174 = .ok (.iconst (-1), 1) := by decide +kernel
theorem d_M_couple_175 : decode (mB Y_M_couple) 175 = .ok (.if_icmp .ne 7, 3) := by decide +kernel
theorem d_M_couple_178 : decode (mB Y_M_couple) 178 = .ok (.iconst (-1), 1) := by decide +kernel
theorem d_M_couple_179 : decode (mB Y_M_couple) 179 = .ok (.goto 23, 3) := by decide +kernel
theorem d_M_couple_182 : decode (mB Y_M_couple) 182 = .ok (.iload_n 2, 1) := by decide +kernel
theorem d_M_couple_183 : decode (mB Y_M_couple) 183 = .ok (.ifCond .ne 7, 3) := by decide +kernel
theorem d_M_couple_186 : decode (mB Y_M_couple) 186 = .ok (.iload_n 3, 1) := by decide +kernel
theorem d_M_couple_187 : decode (mB Y_M_couple) 187 = .ok (.goto 15, 3) := by decide +kernel
theorem d_M_couple_190 : decode (mB Y_M_couple) 190 = .ok (.iload_n 2, 1) := by decide +kernel
theorem d_M_couple_191 : decode (mB Y_M_couple) 191 = .ok (.iconst 1, 1) := by decide +kernel
theorem d_M_couple_192 : decode (mB Y_M_couple) 192 = .ok (.if_icmp .ne 8, 3) := by decide +kernel
theorem d_M_couple_195 : decode (mB Y_M_couple) 195 = .ok (.iload 4, 2) := by decide +kernel
theorem d_M_couple_197 : decode (mB Y_M_couple) 197 = .ok (.goto 5, 3) := by decide +kernel
theorem d_M_couple_200 : decode (mB Y_M_couple) 200 = .ok (.iload 6, 2) := by decide +kernel
theorem d_M_couple_202 : decode (mB Y_M_couple) 202 = .ok (.ireturn, 1) := by decide +kernel
theorem ro_M_couple_M_couples : roomy Y_M_couple Y_M_couples := ⟨Nat.le_of_ble_eq_true rfl, Nat.le_of_ble_eq_true rfl⟩
theorem ro_M_couple_M_isCouple : roomy Y_M_couple Y_M_isCouple := ⟨Nat.le_of_ble_eq_true rfl, Nat.le_of_ble_eq_true rfl⟩
theorem ro_M_couple_M_isIn : roomy Y_M_couple Y_M_isIn := ⟨Nat.le_of_ble_eq_true rfl, Nat.le_of_ble_eq_true rfl⟩
def r_M_couple_L31 (y1_ : Int32) (y2_ : Int32) : Nat → Int32 → Int32 → Int32 → Int32 → Int32 → Sto → Option (Int32 × Int32 × Int32 × Int32 × Int32 × Sto)
  | 0, _, _, _, _, _, _ => none
  | n + 1, x3_, x4_, x5_, x6_, x7_, S =>
    if 100 ≤ x7_ then
      some (x3_, x4_, x5_, x6_, x7_, S)
    else
      (r_M_isCouple y1_ (x7_ / 10) (x7_ - x7_ / 10 * 10) S).bind (fun r1 =>
      jn (fun ((v2, v3, v4, v5, S6) : Int32 × Int32 × Int32 × Int32 × Sto) =>
        lt (x7_ + 1) (fun v7 =>
        r_M_couple_L31 y1_ y2_ n v2 v3 v4 v5 v7 S6)) (fun j167 =>
      if r1 = 0 then
        j167 (x3_, x4_, x5_, x6_, S)
      else
        (r_M_couples y1_ (x7_ / 10) (x7_ - x7_ / 10 * 10) S).bind (fun S8 =>
        jn (fun (v9 : Int32) =>
          jn (fun (_ : Unit) =>
            lt (S8 104 60) (fun v10 =>
            lt ((S8 104 61) - (S8 104 60)) (fun v11 =>
            j167 (x7_, v10, v11, v9, S8)))) (fun j147 =>
          if x3_ = (-1) then
            j147 ()
          else
            if (S8 104 60) < x4_ then
              j167 (x3_, x4_, x5_, v9, S8)
            else
              if (S8 104 60) = x4_ then
                if ((S8 104 61) - (S8 104 60)) < x5_ then
                  j147 ()
                else
                  j167 (x3_, x4_, x5_, v9, S8)
              else
                j147 ())) (fun j105 =>
        if (S8 104 60) ≤ x4_ then
          if (S8 104 60) = x4_ then
            j105 (x6_ + 1)
          else
            j105 (x6_)
        else
          j105 (1)))))
set_option maxHeartbeats 4000000 in
set_option maxRecDepth 20000 in
theorem w_M_couple_L31 {g : Gm} {G : Gl} {L : Shp} (C : Cx g Y_M_couple G) (hL : Ext L) (y1_ : Int32) (y2_ : Int32)  :
    ∀ (n : Nat) (x3_ : Int32) (x4_ : Int32) (x5_ : Int32) (x6_ : Int32) (x7_ : Int32) (S : Sto) (K : (Int32 × Int32 × Int32 × Int32 × Int32 × Sto) → Option (Int32 × Sto)), (∀ (x3_ : Int32) (x4_ : Int32) (x5_ : Int32) (x6_ : Int32) (x7_ : Int32) (S : Sto), VO g Y_M_couple G (fun z => Qm g Y_M_couple G (fi L z)) 0 0 173 [(2, .int y2_), (3, .int x3_), (4, .int x4_), (6, .int x6_)] [] L S (some (x3_, x4_, x5_, x6_, x7_, S)) K) → VO g Y_M_couple G (fun z => Qm g Y_M_couple G (fi L z)) 0 0 31 [(0, rf G 104), (1, .int y1_), (2, .int y2_), (3, .int x3_), (4, .int x4_), (5, .int x5_), (6, .int x6_), (7, .int x7_)] [] L S (r_M_couple_L31 y1_ y2_ n x3_ x4_ x5_ x6_ x7_ S) K := by
  intro n
  induction n with
  | zero => intro x3_ x4_ x5_ x6_ x7_ S K; intros; exact v_none
  | succ n ih =>
    intro x3_ x4_ x5_ x6_ x7_ S K hK
    rw [r_M_couple_L31]
    refine v_iload (pc := 31) C d_M_couple_31 7 rfl ?_
    refine v_bipush (pc := 33) C d_M_couple_33 bp_100 ?_
    refine v_icmp_ge (pc := 35) (tgt := 173) C d_M_couple_35 rfl (fun _ => ?_) (fun _ => ?_)
    · refine v_sub [2, 3, 4, 6] rfl ?_
      exact hK x3_ x4_ x5_ x6_ x7_ S
    · refine v_aload_n (pc := 38) C d_M_couple_38 rfl 0 rfl ?_
      refine v_iload_n (pc := 39) C d_M_couple_39 rfl 1 rfl ?_
      refine v_iload (pc := 40) C d_M_couple_40 7 rfl ?_
      refine v_bipush (pc := 42) C d_M_couple_42 bp_10 ?_
      refine v_idiv (pc := 44) C d_M_couple_44 (by decide) ?_
      refine v_iload (pc := 45) C d_M_couple_45 7 rfl ?_
      refine v_bipush (pc := 47) C d_M_couple_47 bp_10 ?_
      refine v_irem (pc := 49) C d_M_couple_49 (by decide) ?_
      refine v_cp (pc := 50) (inv_V (As := [.int y1_, .int (x7_ / 10), .int (x7_ - x7_ / 10 * 10)]) (st := []) C ml_M_409 mv_M_isCouple ro_M_couple_M_isCouple (sh_104 hL) rfl rfl rfl rfl (Nat.le_of_ble_eq_true rfl) d_M_couple_50) (c_M_isCouple hL S y1_ (x7_ / 10) (x7_ - x7_ / 10 * 10)) ⟨rfl, rfl⟩ ⟨Nat.zero_le _, Nat.zero_le _⟩ (fun r1 => ?_)
      refine v_jn (fun j => ∀ (v2 : Int32) (v3 : Int32) (v4 : Int32) (v5 : Int32) (S6 : Sto), VO g Y_M_couple G (fun z => Qm g Y_M_couple G (fi L z)) 0 0 167 [(0, rf G 104), (1, .int y1_), (2, .int y2_), (3, .int v2), (4, .int v3), (5, .int v4), (6, .int v5), (7, .int x7_)] [] L S6 (j (v2, v3, v4, v5, S6)) K) (fun v2 v3 v4 v5 S6 => ?_) (fun j167 hj167 => ?_)
      · refine v_iinc (pc := 167) (p := 7) (c := 1) C d_M_couple_167 rfl (by decide) (by decide) (fun v7 => [(7, .int v7), (0, rf G 104), (1, .int y1_), (2, .int y2_), (3, .int v2), (4, .int v3), (5, .int v4), (6, .int v5)]) (fun _ => rfl) (fun v7 => ?_)
        refine v_goto (pc := 170) (tgt := 31) C d_M_couple_170 rfl ?_
        refine v_sub [1, 2, 3, 4, 5, 6, 7, 0] rfl ?_
        exact ih v2 v3 v4 v5 v7 S6 K hK
      · refine v_if_ne (pc := 53) (tgt := 59) C d_M_couple_53 rfl (fun _ => ?_) (fun _ => ?_)
        · refine v_aload_n (pc := 59) C d_M_couple_59 rfl 0 rfl ?_
          refine v_iload_n (pc := 60) C d_M_couple_60 rfl 1 rfl ?_
          refine v_iload (pc := 61) C d_M_couple_61 7 rfl ?_
          refine v_bipush (pc := 63) C d_M_couple_63 bp_10 ?_
          refine v_idiv (pc := 65) C d_M_couple_65 (by decide) ?_
          refine v_iload (pc := 66) C d_M_couple_66 7 rfl ?_
          refine v_bipush (pc := 68) C d_M_couple_68 bp_10 ?_
          refine v_irem (pc := 70) C d_M_couple_70 (by decide) ?_
          refine v_cv (pc := 71) (inv_V (As := [.int y1_, .int (x7_ / 10), .int (x7_ - x7_ / 10 * 10)]) (st := []) C ml_M_412 mv_M_couples ro_M_couple_M_couples (sh_104 hL) rfl rfl rfl rfl (Nat.le_of_ble_eq_true rfl) d_M_couple_71) (c_M_couples hL S y1_ (x7_ / 10) (x7_ - x7_ / 10 * 10)) ⟨rfl, rfl⟩ ⟨Nat.zero_le _, Nat.zero_le _⟩ (fun S8 => ?_)
          refine v_aload_n (pc := 74) C d_M_couple_74 rfl 0 rfl ?_
          refine v_getI (pc := 75) C fl_M_400 (sh_104 hL) rfl d_M_couple_75 ?_
          refine v_iload (pc := 78) C d_M_couple_78 4 rfl ?_
          refine v_jn (fun j => ∀ (v9 : Int32), VO g Y_M_couple G (fun z => Qm g Y_M_couple G (fi L z)) 0 0 105 [(0, rf G 104), (1, .int y1_), (2, .int y2_), (3, .int x3_), (4, .int x4_), (5, .int x5_), (7, .int x7_)] [.int v9] L S8 (j (v9)) K) (fun v9 => ?_) (fun j105 hj105 => ?_)
          · refine v_istore (pc := 105) (lv' := [(6, .int v9), (0, rf G 104), (1, .int y1_), (2, .int y2_), (3, .int x3_), (4, .int x4_), (5, .int x5_), (7, .int x7_)]) C d_M_couple_105 (by decide) rfl ?_
            refine v_iload_n (pc := 107) C d_M_couple_107 rfl 4 rfl ?_
            refine v_iconst (pc := 108) C d_M_couple_108 ic_m1 ?_
            refine v_jn (fun j => VO g Y_M_couple G (fun z => Qm g Y_M_couple G (fi L z)) 0 0 147 [(0, rf G 104), (1, .int y1_), (2, .int y2_), (6, .int v9), (7, .int x7_)] [] L S8 (j ()) K) (?_) (fun j147 hj147 => ?_)
            · refine v_iload (pc := 147) C d_M_couple_147 4 rfl ?_
              refine v_istore_n (pc := 149) (lv' := [(3, .int x7_), (0, rf G 104), (1, .int y1_), (2, .int y2_), (6, .int v9), (7, .int x7_)]) C d_M_couple_149 rfl (by decide) rfl ?_
              refine v_aload_n (pc := 150) C d_M_couple_150 rfl 1 rfl ?_
              refine v_getI (pc := 151) C fl_M_400 (sh_104 hL) rfl d_M_couple_151 ?_
              refine v_lt (fun v10 => ?_)
              refine v_istore (pc := 154) (lv' := [(4, .int v10), (3, .int x7_), (0, rf G 104), (1, .int y1_), (2, .int y2_), (6, .int v9), (7, .int x7_)]) C d_M_couple_154 (by decide) rfl ?_
              refine v_aload_n (pc := 156) C d_M_couple_156 rfl 2 rfl ?_
              refine v_getI (pc := 157) C fl_M_403 (sh_104 hL) rfl d_M_couple_157 ?_
              refine v_aload_n (pc := 160) C d_M_couple_160 rfl 2 rfl ?_
              refine v_getI (pc := 161) C fl_M_400 (sh_104 hL) rfl d_M_couple_161 ?_
              refine v_isub (pc := 164) C d_M_couple_164 ?_
              refine v_lt (fun v11 => ?_)
              refine v_istore (pc := 165) (lv' := [(5, .int v11), (4, .int v10), (3, .int x7_), (0, rf G 104), (1, .int y1_), (2, .int y2_), (6, .int v9), (7, .int x7_)]) C d_M_couple_165 (by decide) rfl ?_
              refine v_sub [3, 4, 5, 2, 1, 0, 6, 7] rfl ?_
              exact hj167 x7_ v10 v11 v9 S8
            · refine v_icmp_eq (pc := 109) (tgt := 147) C d_M_couple_109 rfl (fun _ => ?_) (fun _ => ?_)
              · refine v_sub [1, 2, 3, 0, 7] rfl ?_
                exact hj147
              · refine v_aload_n (pc := 112) C d_M_couple_112 rfl 1 rfl ?_
                refine v_getI (pc := 113) C fl_M_400 (sh_104 hL) rfl d_M_couple_113 ?_
                refine v_iload (pc := 116) C d_M_couple_116 5 rfl ?_
                refine v_icmp_lt (pc := 118) (tgt := 167) C d_M_couple_118 rfl (fun _ => ?_) (fun _ => ?_)
                · refine v_sub [1, 2, 3, 4, 5, 6, 0, 7] rfl ?_
                  exact hj167 x3_ x4_ x5_ v9 S8
                · refine v_aload_n (pc := 121) C d_M_couple_121 rfl 1 rfl ?_
                  refine v_getI (pc := 122) C fl_M_400 (sh_104 hL) rfl d_M_couple_122 ?_
                  refine v_iload (pc := 125) C d_M_couple_125 5 rfl ?_
                  refine v_icmp_ne (pc := 127) (tgt := 147) C d_M_couple_127 rfl (fun _ => ?_) (fun _ => ?_)
                  · refine v_sub [1, 2, 3, 0, 7] rfl ?_
                    exact hj147
                  · refine v_aload_n (pc := 130) C d_M_couple_130 rfl 1 rfl ?_
                    refine v_getI (pc := 131) C fl_M_403 (sh_104 hL) rfl d_M_couple_131 ?_
                    refine v_aload_n (pc := 134) C d_M_couple_134 rfl 1 rfl ?_
                    refine v_getI (pc := 135) C fl_M_400 (sh_104 hL) rfl d_M_couple_135 ?_
                    refine v_isub (pc := 138) C d_M_couple_138 ?_
                    refine v_iload (pc := 139) C d_M_couple_139 6 rfl ?_
                    refine v_icmp_lt (pc := 141) (tgt := 147) C d_M_couple_141 rfl (fun _ => ?_) (fun _ => ?_)
                    · refine v_sub [1, 2, 3, 0, 7] rfl ?_
                      exact hj147
                    · refine v_goto (pc := 144) (tgt := 167) C d_M_couple_144 rfl ?_
                      refine v_sub [1, 2, 3, 4, 5, 6, 0, 7] rfl ?_
                      exact hj167 x3_ x4_ x5_ v9 S8
          · refine v_icmp_le (pc := 80) (tgt := 87) C d_M_couple_80 rfl (fun _ => ?_) (fun _ => ?_)
            · refine v_aload_n (pc := 87) C d_M_couple_87 rfl 0 rfl ?_
              refine v_getI (pc := 88) C fl_M_400 (sh_104 hL) rfl d_M_couple_88 ?_
              refine v_iload (pc := 91) C d_M_couple_91 4 rfl ?_
              refine v_icmp_ne (pc := 93) (tgt := 103) C d_M_couple_93 rfl (fun _ => ?_) (fun _ => ?_)
              · refine v_iload (pc := 103) C d_M_couple_103 6 rfl ?_
                refine v_sub [0, 1, 2, 3, 4, 5, 7] rfl ?_
                exact hj105 x6_
              · refine v_iload (pc := 96) C d_M_couple_96 6 rfl ?_
                refine v_iconst (pc := 98) C d_M_couple_98 ic_1 ?_
                refine v_iadd (pc := 99) C d_M_couple_99 ?_
                refine v_goto (pc := 100) (tgt := 105) C d_M_couple_100 rfl ?_
                refine v_sub [0, 1, 2, 3, 4, 5, 7] rfl ?_
                exact hj105 (x6_ + 1)
            · refine v_iconst (pc := 83) C d_M_couple_83 ic_1 ?_
              refine v_goto (pc := 84) (tgt := 105) C d_M_couple_84 rfl ?_
              refine v_sub [0, 1, 2, 3, 4, 5, 7] rfl ?_
              exact hj105 1
        · refine v_goto (pc := 56) (tgt := 167) C d_M_couple_56 rfl ?_
          exact hj167 x3_ x4_ x5_ x6_ S
def r_M_couple (x1 : Int32) (x2 : Int32) (S : Sto) : Option (Int32 × Sto) :=
  ltS (sw S 104 0 0) (fun S1 =>
  if (r_M_isIn x2 0 2) = 0 then
    some ((-1), S1)
  else
    (r_M_couple_L31 x1 x2 fu (-1) (-1) 0 0 0 S1).bind (fun (v2, v3, v4, v5, v6, S7) =>
    if v2 = (-1) then
      some ((-1), S7)
    else
      if x2 = 0 then
        some (v2, S7)
      else
        if x2 = 1 then
          some (v3, S7)
        else
          some (v5, S7)))
set_option maxHeartbeats 4000000 in
set_option maxRecDepth 20000 in
theorem c_M_couple {G : Gl} {L : Shp} (hL : Ext L) (S : Sto) (x1 : Int32) (x2 : Int32)  : Ct Y_M_couple G [rf G 104, .int x1, .int x2] L S (fi L) (r_M_couple x1 x2 S) := by
  refine ct_of (by decide +kernel) (Nat.le_of_ble_eq_true rfl) (fun g C => ?_)
  show VO g Y_M_couple G (fun z => Qm g Y_M_couple G (fi L z)) 0 0 0 [(0, rf G 104), (1, .int x1), (2, .int x2)] [] L S (r_M_couple x1 x2 S) some
  unfold r_M_couple
  refine v_aload_n (pc := 0) C d_M_couple_0 rfl 0 rfl ?_
  refine v_iconst (pc := 1) C d_M_couple_1 ic_0 ?_
  refine v_putI (pc := 2) C fp_M_150 (sh_104 hL) rfl d_M_couple_2 (fun S1 => ?_)
  refine v_aload_n (pc := 5) C d_M_couple_5 rfl 0 rfl ?_
  refine v_iload_n (pc := 6) C d_M_couple_6 rfl 2 rfl ?_
  refine v_iconst (pc := 7) C d_M_couple_7 ic_0 ?_
  refine v_iconst (pc := 8) C d_M_couple_8 ic_2 ?_
  refine v_ct (pc := 9) (inv_V (As := [.int x2, .int 0, .int 2]) (st := []) C ml_M_153 mv_M_isIn ro_M_couple_M_isIn (sh_104 hL) rfl rfl rfl rfl (Nat.le_of_ble_eq_true rfl) d_M_couple_9) (c_M_isIn hL S1 x2 0 2) ⟨rfl, rfl⟩ ⟨Nat.zero_le _, Nat.zero_le _⟩ ?_
  refine v_if_ne (pc := 12) (tgt := 17) C d_M_couple_12 rfl (fun _ => ?_) (fun _ => ?_)
  · refine v_iconst (pc := 17) C d_M_couple_17 ic_m1 ?_
    refine v_istore_n (pc := 18) (lv' := [(3, .int (-1)), (0, rf G 104), (1, .int x1), (2, .int x2)]) C d_M_couple_18 rfl (by decide) rfl ?_
    refine v_iconst (pc := 19) C d_M_couple_19 ic_m1 ?_
    refine v_istore (pc := 20) (lv' := [(4, .int (-1)), (3, .int (-1)), (0, rf G 104), (1, .int x1), (2, .int x2)]) C d_M_couple_20 (by decide) rfl ?_
    refine v_iconst (pc := 22) C d_M_couple_22 ic_0 ?_
    refine v_istore (pc := 23) (lv' := [(5, .int 0), (4, .int (-1)), (3, .int (-1)), (0, rf G 104), (1, .int x1), (2, .int x2)]) C d_M_couple_23 (by decide) rfl ?_
    refine v_iconst (pc := 25) C d_M_couple_25 ic_0 ?_
    refine v_istore (pc := 26) (lv' := [(6, .int 0), (5, .int 0), (4, .int (-1)), (3, .int (-1)), (0, rf G 104), (1, .int x1), (2, .int x2)]) C d_M_couple_26 (by decide) rfl ?_
    refine v_iconst (pc := 28) C d_M_couple_28 ic_0 ?_
    refine v_istore (pc := 29) (lv' := [(7, .int 0), (6, .int 0), (5, .int 0), (4, .int (-1)), (3, .int (-1)), (0, rf G 104), (1, .int x1), (2, .int x2)]) C d_M_couple_29 (by decide) rfl ?_
    refine v_sub [5, 6, 7, 4, 3, 2, 1, 0] rfl ?_
    refine v_bind ?_
    refine w_M_couple_L31 C hL x1 x2  fu (-1) (-1) 0 0 0 S1 _ (fun v2 v3 v4 v5 v6 S7 => ?_) 
    refine v_some ?_
    refine v_iload_n (pc := 173) C d_M_couple_173 rfl 1 rfl ?_
    refine v_iconst (pc := 174) C d_M_couple_174 ic_m1 ?_
    refine v_icmp_ne (pc := 175) (tgt := 182) C d_M_couple_175 rfl (fun _ => ?_) (fun _ => ?_)
    · refine v_iload_n (pc := 182) C d_M_couple_182 rfl 0 rfl ?_
      refine v_if_ne (pc := 183) (tgt := 190) C d_M_couple_183 rfl (fun _ => ?_) (fun _ => ?_)
      · refine v_iload_n (pc := 190) C d_M_couple_190 rfl 0 rfl ?_
        refine v_iconst (pc := 191) C d_M_couple_191 ic_1 ?_
        refine v_icmp_ne (pc := 192) (tgt := 200) C d_M_couple_192 rfl (fun _ => ?_) (fun _ => ?_)
        · refine v_iload (pc := 200) C d_M_couple_200 3 rfl ?_
          exact v_iret (z := (v5, S7)) C d_M_couple_202 rfl ⟨Nat.zero_le _, Nat.zero_le _⟩ (rfl) rfl
        · refine v_iload (pc := 195) C d_M_couple_195 2 rfl ?_
          refine v_goto (pc := 197) (tgt := 202) C d_M_couple_197 rfl ?_
          exact v_iret (z := (v3, S7)) C d_M_couple_202 rfl ⟨Nat.zero_le _, Nat.zero_le _⟩ (rfl) rfl
      · refine v_iload_n (pc := 186) C d_M_couple_186 rfl 1 rfl ?_
        refine v_goto (pc := 187) (tgt := 202) C d_M_couple_187 rfl ?_
        exact v_iret (z := (v2, S7)) C d_M_couple_202 rfl ⟨Nat.zero_le _, Nat.zero_le _⟩ (rfl) rfl
    · refine v_iconst (pc := 178) C d_M_couple_178 ic_m1 ?_
      refine v_goto (pc := 179) (tgt := 202) C d_M_couple_179 rfl ?_
      exact v_iret (z := ((-1), S7)) C d_M_couple_202 rfl ⟨Nat.zero_le _, Nat.zero_le _⟩ (rfl) rfl
  · refine v_iconst (pc := 15) C d_M_couple_15 ic_m1 ?_
    exact v_iret (z := ((-1), S1)) C d_M_couple_16 rfl ⟨Nat.zero_le _, Nat.zero_le _⟩ (rfl) rfl
