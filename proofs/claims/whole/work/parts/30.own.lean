-- B_feed
theorem d_B_feed_0 : decode (mB Y_B_feed) 0 = .ok (.aload_n 0, 1) := by decide +kernel
theorem d_B_feed_1 : decode (mB Y_B_feed) 1 = .ok (.getfield 45, 3) := by decide +kernel
theorem d_B_feed_4 : decode (mB Y_B_feed) 4 = .ok (.getfield 199, 3) := by decide +kernel
theorem d_B_feed_7 : decode (mB Y_B_feed) 7 = .ok (.bipush 20, 2) := by decide +kernel
theorem d_B_feed_9 : decode (mB Y_B_feed) 9 = .ok (.iadd, 1) := by decide +kernel
theorem d_B_feed_10 : decode (mB Y_B_feed) 10 = .ok (.sipush 400, 3) := by decide +kernel
theorem d_B_feed_13 : decode (mB Y_B_feed) 13 = .ok (.if_icmp .le 5, 3) := by decide +kernel
theorem d_B_feed_16 : decode (mB Y_B_feed) 16 = .ok (.iconst (-1), 1) := by decide +kernel
theorem d_B_feed_17 : decode (mB Y_B_feed) 17 = .ok (.ireturn, 1) := by decide +kernel
theorem d_B_feed_18 : decode (mB Y_B_feed) 18 = .ok (.aload_n 0, 1) := by decide +kernel
theorem d_B_feed_19 : decode (mB Y_B_feed) 19 = .ok (.getfield 45, 3) := by decide +kernel
theorem d_B_feed_22 : decode (mB Y_B_feed) 22 = .ok (.iload_n 1, 1) := by decide +kernel
theorem d_B_feed_23 : decode (mB Y_B_feed) 23 = .ok (.invokevirtual 202, 3) := by decide +kernel
theorem d_B_feed_26 : decode (mB Y_B_feed) 26 = .ok (.aload_n 0, 1) := by decide +kernel
theorem d_B_feed_27 : decode (mB Y_B_feed) 27 = .ok (.getfield 45, 3) := by decide +kernel
theorem d_B_feed_30 : decode (mB Y_B_feed) 30 = .ok (.iload_n 2, 1) := by decide +kernel
theorem d_B_feed_31 : decode (mB Y_B_feed) 31 = .ok (.invokevirtual 202, 3) := by decide +kernel
theorem d_B_feed_34 : decode (mB Y_B_feed) 34 = .ok (.aload_n 0, 1) := by decide +kernel
theorem d_B_feed_35 : decode (mB Y_B_feed) 35 = .ok (.getfield 45, 3) := by decide +kernel
theorem d_B_feed_38 : decode (mB Y_B_feed) 38 = .ok (.iload_n 3, 1) := by decide +kernel
theorem d_B_feed_39 : decode (mB Y_B_feed) 39 = .ok (.invokevirtual 202, 3) := by decide +kernel
theorem d_B_feed_42 : decode (mB Y_B_feed) 42 = .ok (.aload_n 0, 1) := by decide +kernel
theorem d_B_feed_43 : decode (mB Y_B_feed) 43 = .ok (.getfield 45, 3) := by decide +kernel
theorem d_B_feed_46 : decode (mB Y_B_feed) 46 = .ok (.iload 4, 2) := by decide +kernel
theorem d_B_feed_48 : decode (mB Y_B_feed) 48 = .ok (.invokevirtual 202, 3) := by decide +kernel
theorem d_B_feed_51 : decode (mB Y_B_feed) 51 = .ok (.aload_n 0, 1) := by decide +kernel
theorem d_B_feed_52 : decode (mB Y_B_feed) 52 = .ok (.getfield 45, 3) := by decide +kernel
theorem d_B_feed_55 : decode (mB Y_B_feed) 55 = .ok (.iload 5, 2) := by decide +kernel
theorem d_B_feed_57 : decode (mB Y_B_feed) 57 = .ok (.invokevirtual 202, 3) := by decide +kernel
theorem d_B_feed_60 : decode (mB Y_B_feed) 60 = .ok (.aload_n 0, 1) := by decide +kernel
theorem d_B_feed_61 : decode (mB Y_B_feed) 61 = .ok (.getfield 45, 3) := by decide +kernel
theorem d_B_feed_64 : decode (mB Y_B_feed) 64 = .ok (.getfield 199, 3) := by decide +kernel
theorem d_B_feed_67 : decode (mB Y_B_feed) 67 = .ok (.ireturn, 1) := by decide +kernel
theorem ro_B_feed_Rd_append : roomy Y_B_feed Y_Rd_append := ⟨Nat.le_of_ble_eq_true rfl, Nat.le_of_ble_eq_true rfl⟩
def r_B_feed (x1 : Int32) (x2 : Int32) (x3 : Int32) (x4 : Int32) (x5 : Int32) (S : Sto) : Option (Int32 × Sto) :=
  if ((S 29 1) + 20) ≤ 400 then
    (r_Rd_append x1 S).bind (fun S1 =>
    (r_Rd_append x2 S1).bind (fun S2 =>
    (r_Rd_append x3 S2).bind (fun S3 =>
    (r_Rd_append x4 S3).bind (fun S4 =>
    (r_Rd_append x5 S4).bind (fun S5 =>
    some (S5 29 1, S5))))))
  else
    some ((-1), S)
set_option maxHeartbeats 4000000 in
set_option maxRecDepth 20000 in
theorem c_B_feed {G : Gl} {L : Shp} (hL : Ext L) (S : Sto) (x1 : Int32) (x2 : Int32) (x3 : Int32) (x4 : Int32) (x5 : Int32)  : Ct Y_B_feed G [rf G 0, .int x1, .int x2, .int x3, .int x4, .int x5] L S (fi L) (r_B_feed x1 x2 x3 x4 x5 S) := by
  refine ct_of (by decide +kernel) (Nat.le_of_ble_eq_true rfl) (fun g C => ?_)
  show VO g Y_B_feed G (fun z => Qm g Y_B_feed G (fi L z)) 0 0 0 [(0, rf G 0), (1, .int x1), (2, .int x2), (3, .int x3), (4, .int x4), (5, .int x5)] [] L S (r_B_feed x1 x2 x3 x4 x5 S) some
  unfold r_B_feed
  refine v_aload_n (pc := 0) C d_B_feed_0 rfl 0 rfl ?_
  refine v_getR (pc := 1) C fl_B_45 (sh_0 hL) rfl d_B_feed_1 ?_
  refine v_getI (pc := 4) C fl_B_199 (sh_29 hL) rfl d_B_feed_4 ?_
  refine v_bipush (pc := 7) C d_B_feed_7 bp_20 ?_
  refine v_iadd (pc := 9) C d_B_feed_9 ?_
  refine v_sipush (pc := 10) C d_B_feed_10 sp_400 ?_
  refine v_icmp_le (pc := 13) (tgt := 18) C d_B_feed_13 rfl (fun _ => ?_) (fun _ => ?_)
  · refine v_aload_n (pc := 18) C d_B_feed_18 rfl 0 rfl ?_
    refine v_getR (pc := 19) C fl_B_45 (sh_0 hL) rfl d_B_feed_19 ?_
    refine v_iload_n (pc := 22) C d_B_feed_22 rfl 1 rfl ?_
    refine v_cv (pc := 23) (inv_V (As := [.int x1]) (st := []) C ml_B_202 mv_Rd_append ro_B_feed_Rd_append (sh_29 hL) rfl rfl rfl rfl (Nat.le_of_ble_eq_true rfl) d_B_feed_23) (c_Rd_append hL S x1) ⟨rfl, rfl⟩ ⟨Nat.zero_le _, Nat.zero_le _⟩ (fun S1 => ?_)
    refine v_aload_n (pc := 26) C d_B_feed_26 rfl 0 rfl ?_
    refine v_getR (pc := 27) C fl_B_45 (sh_0 hL) rfl d_B_feed_27 ?_
    refine v_iload_n (pc := 30) C d_B_feed_30 rfl 2 rfl ?_
    refine v_cv (pc := 31) (inv_V (As := [.int x2]) (st := []) C ml_B_202 mv_Rd_append ro_B_feed_Rd_append (sh_29 hL) rfl rfl rfl rfl (Nat.le_of_ble_eq_true rfl) d_B_feed_31) (c_Rd_append hL S1 x2) ⟨rfl, rfl⟩ ⟨Nat.zero_le _, Nat.zero_le _⟩ (fun S2 => ?_)
    refine v_aload_n (pc := 34) C d_B_feed_34 rfl 0 rfl ?_
    refine v_getR (pc := 35) C fl_B_45 (sh_0 hL) rfl d_B_feed_35 ?_
    refine v_iload_n (pc := 38) C d_B_feed_38 rfl 3 rfl ?_
    refine v_cv (pc := 39) (inv_V (As := [.int x3]) (st := []) C ml_B_202 mv_Rd_append ro_B_feed_Rd_append (sh_29 hL) rfl rfl rfl rfl (Nat.le_of_ble_eq_true rfl) d_B_feed_39) (c_Rd_append hL S2 x3) ⟨rfl, rfl⟩ ⟨Nat.zero_le _, Nat.zero_le _⟩ (fun S3 => ?_)
    refine v_aload_n (pc := 42) C d_B_feed_42 rfl 0 rfl ?_
    refine v_getR (pc := 43) C fl_B_45 (sh_0 hL) rfl d_B_feed_43 ?_
    refine v_iload (pc := 46) C d_B_feed_46 4 rfl ?_
    refine v_cv (pc := 48) (inv_V (As := [.int x4]) (st := []) C ml_B_202 mv_Rd_append ro_B_feed_Rd_append (sh_29 hL) rfl rfl rfl rfl (Nat.le_of_ble_eq_true rfl) d_B_feed_48) (c_Rd_append hL S3 x4) ⟨rfl, rfl⟩ ⟨Nat.zero_le _, Nat.zero_le _⟩ (fun S4 => ?_)
    refine v_aload_n (pc := 51) C d_B_feed_51 rfl 0 rfl ?_
    refine v_getR (pc := 52) C fl_B_45 (sh_0 hL) rfl d_B_feed_52 ?_
    refine v_iload (pc := 55) C d_B_feed_55 5 rfl ?_
    refine v_cv (pc := 57) (inv_V (As := [.int x5]) (st := []) C ml_B_202 mv_Rd_append ro_B_feed_Rd_append (sh_29 hL) rfl rfl rfl rfl (Nat.le_of_ble_eq_true rfl) d_B_feed_57) (c_Rd_append hL S4 x5) ⟨rfl, rfl⟩ ⟨Nat.zero_le _, Nat.zero_le _⟩ (fun S5 => ?_)
    refine v_aload_n (pc := 60) C d_B_feed_60 rfl 0 rfl ?_
    refine v_getR (pc := 61) C fl_B_45 (sh_0 hL) rfl d_B_feed_61 ?_
    refine v_getI (pc := 64) C fl_B_199 (sh_29 hL) rfl d_B_feed_64 ?_
    exact v_iret (z := (S5 29 1, S5)) C d_B_feed_67 rfl ⟨Nat.zero_le _, Nat.zero_le _⟩ (rfl) rfl
  · refine v_iconst (pc := 16) C d_B_feed_16 ic_m1 ?_
    exact v_iret (z := ((-1), S)) C d_B_feed_17 rfl ⟨Nat.zero_le _, Nat.zero_le _⟩ (rfl) rfl
-- B_end
theorem d_B_end_0 : decode (mB Y_B_end) 0 = .ok (.iload_n 1, 1) := by decide +kernel
theorem d_B_end_1 : decode (mB Y_B_end) 1 = .ok (.iconst 0, 1) := by decide +kernel
theorem d_B_end_2 : decode (mB Y_B_end) 2 = .ok (.aload_n 0, 1) := by decide +kernel
theorem d_B_end_3 : decode (mB Y_B_end) 3 = .ok (.getfield 45, 3) := by decide +kernel
theorem d_B_end_6 : decode (mB Y_B_end) 6 = .ok (.getfield 199, 3) := by decide +kernel
theorem d_B_end_9 : decode (mB Y_B_end) 9 = .ok (.invokestatic 112, 3) := by decide +kernel
theorem d_B_end_12 : decode (mB Y_B_end) 12 = .ok (.ifCond .ne 5, 3) := by decide +kernel
theorem d_B_end_15 : decode (mB Y_B_end) 15 = .ok (.iconst 0, 1) := by decide +kernel
theorem d_B_end_16 : decode (mB Y_B_end) 16 = .ok (.ireturn, 1) := by decide +kernel
theorem d_B_end_17 : decode (mB Y_B_end) 17 = .ok (.aload_n 0, 1) := by decide +kernel
theorem d_B_end_18 : decode (mB Y_B_end) 18 = .ok (.getfield 45, 3) := by decide +kernel
theorem d_B_end_21 : decode (mB Y_B_end) 21 = .ok (.iload_n 1, 1) := by decide +kernel
theorem d_B_end_22 : decode (mB Y_B_end) 22 = .ok (.putfield 199, 3) := by decide +kernel
theorem d_B_end_25 : decode (mB Y_B_end) 25 = .ok (.iconst 1, 1) := by decide +kernel
theorem d_B_end_26 : decode (mB Y_B_end) 26 = .ok (.ireturn, 1) := by decide +kernel
theorem ro_B_end_B_within : roomy Y_B_end Y_B_within := ⟨Nat.le_of_ble_eq_true rfl, Nat.le_of_ble_eq_true rfl⟩
def r_B_end (x1 : Int32) (S : Sto) : Option (Int32 × Sto) :=
  if (r_B_within x1 0 (S 29 1)) = 0 then
    some (0, S)
  else
    ltS (sw S 29 1 x1) (fun S1 =>
    some (1, S1))
set_option maxHeartbeats 4000000 in
set_option maxRecDepth 20000 in
theorem c_B_end {G : Gl} {L : Shp} (hL : Ext L) (S : Sto) (x1 : Int32)  : Ct Y_B_end G [rf G 0, .int x1] L S (fi L) (r_B_end x1 S) := by
  refine ct_of (by decide +kernel) (Nat.le_of_ble_eq_true rfl) (fun g C => ?_)
  show VO g Y_B_end G (fun z => Qm g Y_B_end G (fi L z)) 0 0 0 [(0, rf G 0), (1, .int x1)] [] L S (r_B_end x1 S) some
  unfold r_B_end
  refine v_iload_n (pc := 0) C d_B_end_0 rfl 1 rfl ?_
  refine v_iconst (pc := 1) C d_B_end_1 ic_0 ?_
  refine v_aload_n (pc := 2) C d_B_end_2 rfl 0 rfl ?_
  refine v_getR (pc := 3) C fl_B_45 (sh_0 hL) rfl d_B_end_3 ?_
  refine v_getI (pc := 6) C fl_B_199 (sh_29 hL) rfl d_B_end_6 ?_
  refine v_ct (pc := 9) (inv_S (As := [.int x1, .int 0, .int (S 29 1)]) (st := []) C ml_B_112 ms_B_within ro_B_end_B_within rfl rfl (Nat.le_of_ble_eq_true rfl) d_B_end_9) (c_B_within hL S x1 0 (S 29 1)) ⟨rfl, rfl⟩ ⟨Nat.zero_le _, Nat.zero_le _⟩ ?_
  refine v_if_ne (pc := 12) (tgt := 17) C d_B_end_12 rfl (fun _ => ?_) (fun _ => ?_)
  · refine v_aload_n (pc := 17) C d_B_end_17 rfl 0 rfl ?_
    refine v_getR (pc := 18) C fl_B_45 (sh_0 hL) rfl d_B_end_18 ?_
    refine v_iload_n (pc := 21) C d_B_end_21 rfl 1 rfl ?_
    refine v_putI (pc := 22) C fp_B_199 (sh_29 hL) rfl d_B_end_22 (fun S1 => ?_)
    refine v_iconst (pc := 25) C d_B_end_25 ic_1 ?_
    exact v_zret (z := (1, S1)) C d_B_end_26 rfl (b01_n (by decide)) ⟨Nat.zero_le _, Nat.zero_le _⟩ (rfl) rfl
  · refine v_iconst (pc := 15) C d_B_end_15 ic_0 ?_
    exact v_zret (z := (0, S)) C d_B_end_16 rfl (b01_n (by decide)) ⟨Nat.zero_le _, Nat.zero_le _⟩ (rfl) rfl
-- B_text
theorem d_B_text_0 : decode (mB Y_B_text) 0 = .ok (.iload_n 1, 1) := by decide +kernel
theorem d_B_text_1 : decode (mB Y_B_text) 1 = .ok (.iconst 0, 1) := by decide +kernel
theorem d_B_text_2 : decode (mB Y_B_text) 2 = .ok (.iconst 4, 1) := by decide +kernel
theorem d_B_text_3 : decode (mB Y_B_text) 3 = .ok (.invokestatic 112, 3) := by decide +kernel
theorem d_B_text_6 : decode (mB Y_B_text) 6 = .ok (.ifCond .ne 12, 3) := by decide +kernel
theorem d_B_text_9 : decode (mB Y_B_text) 9 = .ok (.aload_n 0, 1) := by decide +kernel
theorem d_B_text_10 : decode (mB Y_B_text) 10 = .ok (.getfield 45, 3) := by decide +kernel
theorem d_B_text_13 : decode (mB Y_B_text) 13 = .ok (.invokevirtual 205, 3) := by decide +kernel
theorem d_B_text_16 : decode (mB Y_B_text) 16 = .ok (.iconst (-1), 1) := by decide +kernel
theorem d_B_text_17 : decode (mB Y_B_text) 17 = .ok (.ireturn, 1) := by decide +kernel
theorem d_B_text_18 : decode (mB Y_B_text) 18 = .ok (.iload_n 1, 1) := by decide +kernel
theorem d_B_text_19 : decode (mB Y_B_text) 19 = .ok (.iconst 4, 1) := by decide +kernel
theorem d_B_text_20 : decode (mB Y_B_text) 20 = .ok (.if_icmp .ne 19, 3) := by decide +kernel
theorem d_B_text_23 : decode (mB Y_B_text) 23 = .ok (.aload_n 0, 1) := by decide +kernel
theorem d_B_text_24 : decode (mB Y_B_text) 24 = .ok (.getfield 45, 3) := by decide +kernel
theorem d_B_text_27 : decode (mB Y_B_text) 27 = .ok (.iconst 0, 1) := by decide +kernel
theorem d_B_text_28 : decode (mB Y_B_text) 28 = .ok (.aload_n 0, 1) := by decide +kernel
theorem d_B_text_29 : decode (mB Y_B_text) 29 = .ok (.getfield 89, 3) := by decide +kernel
theorem d_B_text_32 : decode (mB Y_B_text) 32 = .ok (.getfield 208, 3) := by decide +kernel
theorem d_B_text_35 : decode (mB Y_B_text) 35 = .ok (.invokevirtual 212, 3) := by decide +kernel
theorem d_B_text_38 : decode (mB Y_B_text) 38 = .ok (.ireturn, 1) := by decide +kernel
theorem d_B_text_39 : decode (mB Y_B_text) 39 = .ok (.aload_n 0, 1) := by decide +kernel
theorem d_B_text_40 : decode (mB Y_B_text) 40 = .ok (.getfield 45, 3) := by decide +kernel
theorem d_B_text_43 : decode (mB Y_B_text) 43 = .ok (.iconst 1, 1) := by decide +kernel
theorem d_B_text_44 : decode (mB Y_B_text) 44 = .ok (.aload_n 0, 1) := by decide +kernel
theorem d_B_text_45 : decode (mB Y_B_text) 45 = .ok (.getfield 54, 3) := by decide +kernel
theorem d_B_text_48 : decode (mB Y_B_text) 48 = .ok (.getfield 216, 3) := by decide +kernel
theorem d_B_text_51 : decode (mB Y_B_text) 51 = .ok (.iload_n 1, 1) := by decide +kernel
theorem d_B_text_52 : decode (mB Y_B_text) 52 = .ok (.aaload, 1) := by decide +kernel
theorem d_B_text_53 : decode (mB Y_B_text) 53 = .ok (.invokevirtual 212, 3) := by decide +kernel
theorem d_B_text_56 : decode (mB Y_B_text) 56 = .ok (.ireturn, 1) := by decide +kernel
theorem ro_B_text_B_within : roomy Y_B_text Y_B_within := ⟨Nat.le_of_ble_eq_true rfl, Nat.le_of_ble_eq_true rfl⟩
theorem ro_B_text_Rd_drop : roomy Y_B_text Y_Rd_drop := ⟨Nat.le_of_ble_eq_true rfl, Nat.le_of_ble_eq_true rfl⟩
theorem ro_B_text_Rd_read : roomy Y_B_text Y_Rd_read := ⟨Nat.le_of_ble_eq_true rfl, Nat.le_of_ble_eq_true rfl⟩
def r_B_text (x1 : Int32) (nL : Nat) (S : Sto) : Option (Int32 × Sto × Bool) :=
  if (r_B_within x1 0 4) = 0 then
    (r_Rd_drop S).bind (fun S2 =>
    some ((-1), S2, false))
  else
    if x1 = 4 then
      (r_Rd_read 0 91 nL S).bind (fun x => some x)
    else
      chk (inr x1 4) (
      ltN x1.toNatClampNeg (fun j1 =>
      (r_Rd_read 1 (35 + 3 * j1) nL S).bind (fun x => some x)))
set_option maxHeartbeats 4000000 in
set_option maxRecDepth 20000 in
theorem c_B_text {G : Gl} {L : Shp} (hL : Ext L) (S : Sto) {nL : Nat} (hlen : nL = L.length) (hn : L.length < 2 ^ 31) (x1 : Int32)  : Ct Y_B_text G [rf G 0, .int x1] L S (fa L) (r_B_text x1 nL S) := by
  refine ct_of (by decide +kernel) (Nat.le_of_ble_eq_true rfl) (fun g C => ?_)
  subst hlen
  show VO g Y_B_text G (fun z => Qm g Y_B_text G (fa L z)) 0 0 0 [(0, rf G 0), (1, .int x1)] [] L S (r_B_text x1 L.length S) some
  unfold r_B_text
  refine v_iload_n (pc := 0) C d_B_text_0 rfl 1 rfl ?_
  refine v_iconst (pc := 1) C d_B_text_1 ic_0 ?_
  refine v_iconst (pc := 2) C d_B_text_2 ic_4 ?_
  refine v_ct (pc := 3) (inv_S (As := [.int x1, .int 0, .int 4]) (st := []) C ml_B_112 ms_B_within ro_B_text_B_within rfl rfl (Nat.le_of_ble_eq_true rfl) d_B_text_3) (c_B_within hL S x1 0 4) ⟨rfl, rfl⟩ ⟨Nat.zero_le _, Nat.zero_le _⟩ ?_
  refine v_if_ne (pc := 6) (tgt := 18) C d_B_text_6 rfl (fun _ => ?_) (fun _ => ?_)
  · refine v_iload_n (pc := 18) C d_B_text_18 rfl 1 rfl ?_
    refine v_iconst (pc := 19) C d_B_text_19 ic_4 ?_
    refine v_icmp_ne (pc := 20) (tgt := 39) C d_B_text_20 rfl (fun _ => ?_) (fun _ => ?_)
    · refine v_aload_n (pc := 39) C d_B_text_39 rfl 0 rfl ?_
      refine v_getR (pc := 40) C fl_B_45 (sh_0 hL) rfl d_B_text_40 ?_
      refine v_iconst (pc := 43) C d_B_text_43 ic_1 ?_
      refine v_aload_n (pc := 44) C d_B_text_44 rfl 0 rfl ?_
      refine v_getR (pc := 45) C fl_B_54 (sh_0 hL) rfl d_B_text_45 ?_
      refine v_getR (pc := 48) C fl_B_216 (sh_33 hL) rfl d_B_text_48 ?_
      refine v_iload_n (pc := 51) C d_B_text_51 rfl 1 rfl ?_
      refine v_aald (pc := 52) (c0 := 35) (e := 3) C (sh_34 hL) rfl (by decide) d_B_text_52 (fun j1 hj1 => ?_)
      refine v_call (pc := 53) (inv_V (As := [.int 1, rf G (35 + 3 * j1)]) (st := []) C ml_B_212 mv_Rd_read ro_B_text_Rd_read (sh_29 hL) rfl rfl rfl rfl (Nat.le_of_ble_eq_true rfl) d_B_text_53) (c_Rd_read hL S rfl hn 1 (35 + 3 * j1) (law_at hL hj1)) ⟨Nat.le_of_ble_eq_true rfl, Nat.le_of_ble_eq_true rfl⟩ (fun x => ?_)
      exact v_iret (z := x) C d_B_text_56 rfl ⟨Nat.le_of_ble_eq_true rfl, Nat.le_of_ble_eq_true rfl⟩ rfl rfl
    · refine v_aload_n (pc := 23) C d_B_text_23 rfl 0 rfl ?_
      refine v_getR (pc := 24) C fl_B_45 (sh_0 hL) rfl d_B_text_24 ?_
      refine v_iconst (pc := 27) C d_B_text_27 ic_0 ?_
      refine v_aload_n (pc := 28) C d_B_text_28 rfl 0 rfl ?_
      refine v_getR (pc := 29) C fl_B_89 (sh_0 hL) rfl d_B_text_29 ?_
      refine v_getR (pc := 32) C fl_B_208 (sh_90 hL) rfl d_B_text_32 ?_
      refine v_call (pc := 35) (inv_V (As := [.int 0, rf G 91]) (st := []) C ml_B_212 mv_Rd_read ro_B_text_Rd_read (sh_29 hL) rfl rfl rfl rfl (Nat.le_of_ble_eq_true rfl) d_B_text_35) (c_Rd_read hL S rfl hn 0 91 (rules_at hL)) ⟨Nat.le_of_ble_eq_true rfl, Nat.le_of_ble_eq_true rfl⟩ (fun x => ?_)
      exact v_iret (z := x) C d_B_text_38 rfl ⟨Nat.le_of_ble_eq_true rfl, Nat.le_of_ble_eq_true rfl⟩ rfl rfl
  · refine v_aload_n (pc := 9) C d_B_text_9 rfl 0 rfl ?_
    refine v_getR (pc := 10) C fl_B_45 (sh_0 hL) rfl d_B_text_10 ?_
    refine v_cv (pc := 13) (inv_V (As := []) (st := []) C ml_B_205 mv_Rd_drop ro_B_text_Rd_drop (sh_29 hL) rfl rfl rfl rfl (Nat.le_of_ble_eq_true rfl) d_B_text_13) (c_Rd_drop hL S) ⟨rfl, rfl⟩ ⟨Nat.zero_le _, Nat.zero_le _⟩ (fun S2 => ?_)
    refine v_iconst (pc := 16) C d_B_text_16 ic_m1 ?_
    exact v_iret (z := ((-1), S2, false)) C d_B_text_17 rfl ⟨Nat.zero_le _, Nat.zero_le _⟩ (rfl) rfl
-- B_fault
theorem d_B_fault_0 : decode (mB Y_B_fault) 0 = .ok (.iload_n 1, 1) := by decide +kernel
theorem d_B_fault_1 : decode (mB Y_B_fault) 1 = .ok (.lookupswitch 43 #[(0, 27), (1, 35)], 27) := by decide +kernel
theorem d_B_fault_28 : decode (mB Y_B_fault) 28 = .ok (.aload_n 0, 1) := by decide +kernel
theorem d_B_fault_29 : decode (mB Y_B_fault) 29 = .ok (.getfield 45, 3) := by decide +kernel
theorem d_B_fault_32 : decode (mB Y_B_fault) 32 = .ok (.getfield 220, 3) := by decide +kernel
theorem d_B_fault_35 : decode (mB Y_B_fault) 35 = .ok (.ireturn, 1) := by decide +kernel
theorem d_B_fault_36 : decode (mB Y_B_fault) 36 = .ok (.aload_n 0, 1) := by decide +kernel
theorem d_B_fault_37 : decode (mB Y_B_fault) 37 = .ok (.getfield 45, 3) := by decide +kernel
theorem d_B_fault_40 : decode (mB Y_B_fault) 40 = .ok (.getfield 223, 3) := by decide +kernel
theorem d_B_fault_43 : decode (mB Y_B_fault) 43 = .ok (.ireturn, 1) := by decide +kernel
theorem d_B_fault_44 : decode (mB Y_B_fault) 44 = .ok (.iconst (-1), 1) := by decide +kernel
theorem d_B_fault_45 : decode (mB Y_B_fault) 45 = .ok (.ireturn, 1) := by decide +kernel
def r_B_fault (x1 : Int32) (S : Sto) : Int32 := (if x1 = 0 then S 29 2 else (if x1 = 1 then S 29 3 else (-1)))
set_option maxHeartbeats 4000000 in
set_option maxRecDepth 20000 in
theorem c_B_fault {G : Gl} {L : Shp} (hL : Ext L) (S : Sto) (x1 : Int32)  : Ct Y_B_fault G [rf G 0, .int x1] L S (fp L S) (some (r_B_fault x1 S)) := by
  refine ct_of (by decide +kernel) (Nat.le_of_ble_eq_true rfl) (fun g C => ?_)
  have e : (some (r_B_fault x1 S) : Option Int32) =
      if x1 = 0 then
        some (S 29 2)
      else
        if x1 = 1 then
          some (S 29 3)
        else
          some (-1) := by
    unfold r_B_fault
    simp only [some_ite, lt, ltJ]
  rw [e]
  show VO g Y_B_fault G (fun z => Qm g Y_B_fault G (fp L S z)) 0 0 0 [(0, rf G 0), (1, .int x1)] [] L S _ some
  refine v_iload_n (pc := 0) C d_B_fault_0 rfl 1 rfl ?_
  refine v_case (x := x1) (c := 0) (fun hc1 => ?_) (fun hc1 => ?_)
  · refine v_lookup (pc := 1) (tgt := 28) C d_B_fault_1 (by decide) (by rw [hc1] <;> rfl) rfl ?_
    refine v_aload_n (pc := 28) C d_B_fault_28 rfl 0 rfl ?_
    refine v_getR (pc := 29) C fl_B_45 (sh_0 hL) rfl d_B_fault_29 ?_
    refine v_getI (pc := 32) C fl_B_220 (sh_29 hL) rfl d_B_fault_32 ?_
    exact v_iret (z := (S 29 2)) C d_B_fault_35 rfl ⟨Nat.zero_le _, Nat.zero_le _⟩ (rfl) rfl
  · refine v_case (x := x1) (c := 1) (fun hc2 => ?_) (fun hc2 => ?_)
    · refine v_lookup (pc := 1) (tgt := 36) C d_B_fault_1 (by decide) (by rw [hc2] <;> rfl) rfl ?_
      refine v_aload_n (pc := 36) C d_B_fault_36 rfl 0 rfl ?_
      refine v_getR (pc := 37) C fl_B_45 (sh_0 hL) rfl d_B_fault_37 ?_
      refine v_getI (pc := 40) C fl_B_223 (sh_29 hL) rfl d_B_fault_40 ?_
      exact v_iret (z := (S 29 3)) C d_B_fault_43 rfl ⟨Nat.zero_le _, Nat.zero_le _⟩ (rfl) rfl
    · refine v_lookup (pc := 1) (tgt := 44) C d_B_fault_1 (by decide) (by show Op.lookupswitch.offset [(0, 27), (1, 35)] _ _ = _; rw [lv_osw hc1 (by decide), lv_osw hc2 (by decide)] <;> rfl) rfl ?_
      refine v_iconst (pc := 44) C d_B_fault_44 ic_m1 ?_
      exact v_iret (z := (-1)) C d_B_fault_45 rfl ⟨Nat.zero_le _, Nat.zero_le _⟩ (rfl) rfl
-- B_hearer
theorem d_B_hearer_0 : decode (mB Y_B_hearer) 0 = .ok (.iload_n 1, 1) := by decide +kernel
theorem d_B_hearer_1 : decode (mB Y_B_hearer) 1 = .ok (.invokestatic 125, 3) := by decide +kernel
theorem d_B_hearer_4 : decode (mB Y_B_hearer) 4 = .ok (.ifCond .eq 25, 3) := by decide +kernel
theorem d_B_hearer_7 : decode (mB Y_B_hearer) 7 = .ok (.iload_n 2, 1) := by decide +kernel
theorem d_B_hearer_8 : decode (mB Y_B_hearer) 8 = .ok (.iconst (-1), 1) := by decide +kernel
theorem d_B_hearer_9 : decode (mB Y_B_hearer) 9 = .ok (.bipush 7, 2) := by decide +kernel
theorem d_B_hearer_11 : decode (mB Y_B_hearer) 11 = .ok (.invokestatic 112, 3) := by decide +kernel
theorem d_B_hearer_14 : decode (mB Y_B_hearer) 14 = .ok (.ifCond .eq 15, 3) := by decide +kernel
theorem d_B_hearer_17 : decode (mB Y_B_hearer) 17 = .ok (.aload_n 0, 1) := by decide +kernel
theorem d_B_hearer_18 : decode (mB Y_B_hearer) 18 = .ok (.getfield 54, 3) := by decide +kernel
theorem d_B_hearer_21 : decode (mB Y_B_hearer) 21 = .ok (.getfield 226, 3) := by decide +kernel
theorem d_B_hearer_24 : decode (mB Y_B_hearer) 24 = .ok (.bipush 20, 2) := by decide +kernel
theorem d_B_hearer_26 : decode (mB Y_B_hearer) 26 = .ok (.if_icmp .lt 5, 3) := by decide +kernel
theorem d_B_hearer_29 : decode (mB Y_B_hearer) 29 = .ok (.iconst (-1), 1) := by decide +kernel
theorem d_B_hearer_30 : decode (mB Y_B_hearer) 30 = .ok (.ireturn, 1) := by decide +kernel
theorem d_B_hearer_31 : decode (mB Y_B_hearer) 31 = .ok (.aload_n 0, 1) := by decide +kernel
theorem d_B_hearer_32 : decode (mB Y_B_hearer) 32 = .ok (.getfield 54, 3) := by decide +kernel
theorem d_B_hearer_35 : decode (mB Y_B_hearer) 35 = .ok (.getfield 229, 3) := by decide +kernel
theorem d_B_hearer_38 : decode (mB Y_B_hearer) 38 = .ok (.aload_n 0, 1) := by decide +kernel
theorem d_B_hearer_39 : decode (mB Y_B_hearer) 39 = .ok (.getfield 54, 3) := by decide +kernel
theorem d_B_hearer_42 : decode (mB Y_B_hearer) 42 = .ok (.getfield 226, 3) := by decide +kernel
theorem d_B_hearer_45 : decode (mB Y_B_hearer) 45 = .ok (.iload_n 1, 1) := by decide +kernel
theorem d_B_hearer_46 : decode (mB Y_B_hearer) 46 = .ok (.iastore, 1) := by decide +kernel
theorem d_B_hearer_47 : decode (mB Y_B_hearer) 47 = .ok (.aload_n 0, 1) := by decide +kernel
theorem d_B_hearer_48 : decode (mB Y_B_hearer) 48 = .ok (.getfield 54, 3) := by decide +kernel
theorem d_B_hearer_51 : decode (mB Y_B_hearer) 51 = .ok (.getfield 232, 3) := by decide +kernel
theorem d_B_hearer_54 : decode (mB Y_B_hearer) 54 = .ok (.aload_n 0, 1) := by decide +kernel
theorem d_B_hearer_55 : decode (mB Y_B_hearer) 55 = .ok (.getfield 54, 3) := by decide +kernel
theorem d_B_hearer_58 : decode (mB Y_B_hearer) 58 = .ok (.getfield 226, 3) := by decide +kernel
theorem d_B_hearer_61 : decode (mB Y_B_hearer) 61 = .ok (.iload_n 2, 1) := by decide +kernel
theorem d_B_hearer_62 : decode (mB Y_B_hearer) 62 = .ok (.iastore, 1) := by decide +kernel
theorem d_B_hearer_63 : decode (mB Y_B_hearer) 63 = .ok (.aload_n 0, 1) := by decide +kernel
theorem d_B_hearer_64 : decode (mB Y_B_hearer) 64 = .ok (.getfield 54, 3) := by decide +kernel
theorem d_B_hearer_67 : decode (mB Y_B_hearer) 67 = .ok (.dup, 1) := by decide +kernel
theorem d_B_hearer_68 : decode (mB Y_B_hearer) 68 = .ok (.getfield 226, 3) := by decide +kernel
theorem d_B_hearer_71 : decode (mB Y_B_hearer) 71 = .ok (.iconst 1, 1) := by decide +kernel
theorem d_B_hearer_72 : decode (mB Y_B_hearer) 72 = .ok (.iadd, 1) := by decide +kernel
theorem d_B_hearer_73 : decode (mB Y_B_hearer) 73 = .ok (.putfield 226, 3) := by decide +kernel
theorem d_B_hearer_76 : decode (mB Y_B_hearer) 76 = .ok (.aload_n 0, 1) := by decide +kernel
theorem d_B_hearer_77 : decode (mB Y_B_hearer) 77 = .ok (.getfield 54, 3) := by decide +kernel
theorem d_B_hearer_80 : decode (mB Y_B_hearer) 80 = .ok (.getfield 226, 3) := by decide +kernel
theorem d_B_hearer_83 : decode (mB Y_B_hearer) 83 = .ok (.iconst 1, 1) := by decide +kernel
theorem d_B_hearer_84 : decode (mB Y_B_hearer) 84 = .ok (.isub, 1) := by decide +kernel
theorem d_B_hearer_85 : decode (mB Y_B_hearer) 85 = .ok (.ireturn, 1) := by decide +kernel
theorem ro_B_hearer_B_isCell : roomy Y_B_hearer Y_B_isCell := ⟨Nat.le_of_ble_eq_true rfl, Nat.le_of_ble_eq_true rfl⟩
theorem ro_B_hearer_B_within : roomy Y_B_hearer Y_B_within := ⟨Nat.le_of_ble_eq_true rfl, Nat.le_of_ble_eq_true rfl⟩
def r_B_hearer (x1 : Int32) (x2 : Int32) (S : Sto) : Option (Int32 × Sto) :=
  if (r_B_isCell x1) = 0 then
    some ((-1), S)
  else
    if (r_B_within x2 (-1) 7) = 0 then
      some ((-1), S)
    else
      if (S 33 4) < 20 then
        chk (inr (S 33 4) 20) (
        ltS (sw S 47 ((S 33 4).toNatClampNeg) x1) (fun S1 =>
        chk (inr (S1 33 4) 20) (
        ltS (sw S1 48 ((S1 33 4).toNatClampNeg) x2) (fun S2 =>
        ltS (sw S2 33 4 ((S2 33 4) + 1)) (fun S3 =>
        some ((S3 33 4) - 1, S3))))))
      else
        some ((-1), S)
set_option maxHeartbeats 4000000 in
set_option maxRecDepth 20000 in
theorem c_B_hearer {G : Gl} {L : Shp} (hL : Ext L) (S : Sto) (x1 : Int32) (x2 : Int32)  : Ct Y_B_hearer G [rf G 0, .int x1, .int x2] L S (fi L) (r_B_hearer x1 x2 S) := by
  refine ct_of (by decide +kernel) (Nat.le_of_ble_eq_true rfl) (fun g C => ?_)
  show VO g Y_B_hearer G (fun z => Qm g Y_B_hearer G (fi L z)) 0 0 0 [(0, rf G 0), (1, .int x1), (2, .int x2)] [] L S (r_B_hearer x1 x2 S) some
  unfold r_B_hearer
  refine v_iload_n (pc := 0) C d_B_hearer_0 rfl 1 rfl ?_
  refine v_ct (pc := 1) (inv_S (As := [.int x1]) (st := []) C ml_B_125 ms_B_isCell ro_B_hearer_B_isCell rfl rfl (Nat.le_of_ble_eq_true rfl) d_B_hearer_1) (c_B_isCell hL S x1) ⟨rfl, rfl⟩ ⟨Nat.zero_le _, Nat.zero_le _⟩ ?_
  refine v_if_eq (pc := 4) (tgt := 29) C d_B_hearer_4 rfl (fun _ => ?_) (fun _ => ?_)
  · refine v_iconst (pc := 29) C d_B_hearer_29 ic_m1 ?_
    exact v_iret (z := ((-1), S)) C d_B_hearer_30 rfl ⟨Nat.zero_le _, Nat.zero_le _⟩ (rfl) rfl
  · refine v_iload_n (pc := 7) C d_B_hearer_7 rfl 2 rfl ?_
    refine v_iconst (pc := 8) C d_B_hearer_8 ic_m1 ?_
    refine v_bipush (pc := 9) C d_B_hearer_9 bp_7 ?_
    refine v_ct (pc := 11) (inv_S (As := [.int x2, .int (-1), .int 7]) (st := []) C ml_B_112 ms_B_within ro_B_hearer_B_within rfl rfl (Nat.le_of_ble_eq_true rfl) d_B_hearer_11) (c_B_within hL S x2 (-1) 7) ⟨rfl, rfl⟩ ⟨Nat.zero_le _, Nat.zero_le _⟩ ?_
    refine v_if_eq (pc := 14) (tgt := 29) C d_B_hearer_14 rfl (fun _ => ?_) (fun _ => ?_)
    · refine v_iconst (pc := 29) C d_B_hearer_29 ic_m1 ?_
      exact v_iret (z := ((-1), S)) C d_B_hearer_30 rfl ⟨Nat.zero_le _, Nat.zero_le _⟩ (rfl) rfl
    · refine v_aload_n (pc := 17) C d_B_hearer_17 rfl 0 rfl ?_
      refine v_getR (pc := 18) C fl_B_54 (sh_0 hL) rfl d_B_hearer_18 ?_
      refine v_getI (pc := 21) C fl_B_226 (sh_33 hL) rfl d_B_hearer_21 ?_
      refine v_bipush (pc := 24) C d_B_hearer_24 bp_20 ?_
      refine v_icmp_lt (pc := 26) (tgt := 31) C d_B_hearer_26 rfl (fun _ => ?_) (fun _ => ?_)
      · refine v_aload_n (pc := 31) C d_B_hearer_31 rfl 0 rfl ?_
        refine v_getR (pc := 32) C fl_B_54 (sh_0 hL) rfl d_B_hearer_32 ?_
        refine v_getR (pc := 35) C fl_B_229 (sh_33 hL) rfl d_B_hearer_35 ?_
        refine v_aload_n (pc := 38) C d_B_hearer_38 rfl 0 rfl ?_
        refine v_getR (pc := 39) C fl_B_54 (sh_0 hL) rfl d_B_hearer_39 ?_
        refine v_getI (pc := 42) C fl_B_226 (sh_33 hL) rfl d_B_hearer_42 ?_
        refine v_iload_n (pc := 45) C d_B_hearer_45 rfl 1 rfl ?_
        refine v_iast (pc := 46) C (sh_47 hL) d_B_hearer_46 (fun _ S1 => ?_)
        refine v_aload_n (pc := 47) C d_B_hearer_47 rfl 0 rfl ?_
        refine v_getR (pc := 48) C fl_B_54 (sh_0 hL) rfl d_B_hearer_48 ?_
        refine v_getR (pc := 51) C fl_B_232 (sh_33 hL) rfl d_B_hearer_51 ?_
        refine v_aload_n (pc := 54) C d_B_hearer_54 rfl 0 rfl ?_
        refine v_getR (pc := 55) C fl_B_54 (sh_0 hL) rfl d_B_hearer_55 ?_
        refine v_getI (pc := 58) C fl_B_226 (sh_33 hL) rfl d_B_hearer_58 ?_
        refine v_iload_n (pc := 61) C d_B_hearer_61 rfl 2 rfl ?_
        refine v_iast (pc := 62) C (sh_48 hL) d_B_hearer_62 (fun _ S2 => ?_)
        refine v_aload_n (pc := 63) C d_B_hearer_63 rfl 0 rfl ?_
        refine v_getR (pc := 64) C fl_B_54 (sh_0 hL) rfl d_B_hearer_64 ?_
        refine v_dup (pc := 67) C d_B_hearer_67 rfl ?_
        refine v_getI (pc := 68) C fl_B_226 (sh_33 hL) rfl d_B_hearer_68 ?_
        refine v_iconst (pc := 71) C d_B_hearer_71 ic_1 ?_
        refine v_iadd (pc := 72) C d_B_hearer_72 ?_
        refine v_putI (pc := 73) C fp_B_226 (sh_33 hL) rfl d_B_hearer_73 (fun S3 => ?_)
        refine v_aload_n (pc := 76) C d_B_hearer_76 rfl 0 rfl ?_
        refine v_getR (pc := 77) C fl_B_54 (sh_0 hL) rfl d_B_hearer_77 ?_
        refine v_getI (pc := 80) C fl_B_226 (sh_33 hL) rfl d_B_hearer_80 ?_
        refine v_iconst (pc := 83) C d_B_hearer_83 ic_1 ?_
        refine v_isub (pc := 84) C d_B_hearer_84 ?_
        exact v_iret (z := ((S3 33 4) - 1, S3)) C d_B_hearer_85 rfl ⟨Nat.zero_le _, Nat.zero_le _⟩ (rfl) rfl
      · refine v_iconst (pc := 29) C d_B_hearer_29 ic_m1 ?_
        exact v_iret (z := ((-1), S)) C d_B_hearer_30 rfl ⟨Nat.zero_le _, Nat.zero_le _⟩ (rfl) rfl
-- B_turning
theorem d_B_turning_0 : decode (mB Y_B_turning) 0 = .ok (.iload_n 1, 1) := by decide +kernel
theorem d_B_turning_1 : decode (mB Y_B_turning) 1 = .ok (.iconst 0, 1) := by decide +kernel
theorem d_B_turning_2 : decode (mB Y_B_turning) 2 = .ok (.iconst 3, 1) := by decide +kernel
theorem d_B_turning_3 : decode (mB Y_B_turning) 3 = .ok (.invokestatic 112, 3) := by decide +kernel
theorem d_B_turning_6 : decode (mB Y_B_turning) 6 = .ok (.ifCond .eq 34, 3) := by decide +kernel
theorem d_B_turning_9 : decode (mB Y_B_turning) 9 = .ok (.iload_n 2, 1) := by decide +kernel
theorem d_B_turning_10 : decode (mB Y_B_turning) 10 = .ok (.iconst 0, 1) := by decide +kernel
theorem d_B_turning_11 : decode (mB Y_B_turning) 11 = .ok (.aload_n 0, 1) := by decide +kernel
theorem d_B_turning_12 : decode (mB Y_B_turning) 12 = .ok (.getfield 54, 3) := by decide +kernel
theorem d_B_turning_15 : decode (mB Y_B_turning) 15 = .ok (.getfield 226, 3) := by decide +kernel
theorem d_B_turning_18 : decode (mB Y_B_turning) 18 = .ok (.iconst 1, 1) := by decide +kernel
theorem d_B_turning_19 : decode (mB Y_B_turning) 19 = .ok (.isub, 1) := by decide +kernel
theorem d_B_turning_20 : decode (mB Y_B_turning) 20 = .ok (.invokestatic 112, 3) := by decide +kernel
theorem d_B_turning_23 : decode (mB Y_B_turning) 23 = .ok (.ifCond .eq 17, 3) := by decide +kernel
theorem d_B_turning_26 : decode (mB Y_B_turning) 26 = .ok (.iload_n 3, 1) := by decide +kernel
theorem d_B_turning_27 : decode (mB Y_B_turning) 27 = .ok (.iconst 0, 1) := by decide +kernel
theorem d_B_turning_28 : decode (mB Y_B_turning) 28 = .ok (.aload_n 0, 1) := by decide +kernel
theorem d_B_turning_29 : decode (mB Y_B_turning) 29 = .ok (.getfield 157, 3) := by decide +kernel
theorem d_B_turning_32 : decode (mB Y_B_turning) 32 = .ok (.iconst 1, 1) := by decide +kernel
theorem d_B_turning_33 : decode (mB Y_B_turning) 33 = .ok (.isub, 1) := by decide +kernel
theorem d_B_turning_34 : decode (mB Y_B_turning) 34 = .ok (.invokestatic 112, 3) := by decide +kernel
theorem d_B_turning_37 : decode (mB Y_B_turning) 37 = .ok (.ifCond .ne 5, 3) := by decide +kernel
theorem d_B_turning_40 : decode (mB Y_B_turning) 40 = .ok (.iconst (-1), 1) := by decide +kernel
theorem d_B_turning_41 : decode (mB Y_B_turning) 41 = .ok (.ireturn, 1) := by decide +kernel
theorem d_B_turning_42 : decode (mB Y_B_turning) 42 = .ok (.aload_n 0, 1) := by decide +kernel
theorem d_B_turning_43 : decode (mB Y_B_turning) 43 = .ok (.getfield 54, 3) := by decide +kernel
theorem d_B_turning_46 : decode (mB Y_B_turning) 46 = .ok (.iload_n 2, 1) := by decide +kernel
theorem d_B_turning_47 : decode (mB Y_B_turning) 47 = .ok (.aload_n 0, 1) := by decide +kernel
theorem d_B_turning_48 : decode (mB Y_B_turning) 48 = .ok (.getfield 37, 3) := by decide +kernel
theorem d_B_turning_51 : decode (mB Y_B_turning) 51 = .ok (.iload_n 3, 1) := by decide +kernel
theorem d_B_turning_52 : decode (mB Y_B_turning) 52 = .ok (.aaload, 1) := by decide +kernel
theorem d_B_turning_53 : decode (mB Y_B_turning) 53 = .ok (.invokevirtual 235, 3) := by decide +kernel
theorem d_B_turning_56 : decode (mB Y_B_turning) 56 = .ok (.aload_n 0, 1) := by decide +kernel
theorem d_B_turning_57 : decode (mB Y_B_turning) 57 = .ok (.getfield 54, 3) := by decide +kernel
theorem d_B_turning_60 : decode (mB Y_B_turning) 60 = .ok (.iload_n 1, 1) := by decide +kernel
theorem d_B_turning_61 : decode (mB Y_B_turning) 61 = .ok (.invokevirtual 239, 3) := by decide +kernel
theorem d_B_turning_64 : decode (mB Y_B_turning) 64 = .ok (.ireturn, 1) := by decide +kernel
theorem ro_B_turning_B_within : roomy Y_B_turning Y_B_within := ⟨Nat.le_of_ble_eq_true rfl, Nat.le_of_ble_eq_true rfl⟩
theorem ro_B_turning_Cw_attend : roomy Y_B_turning Y_Cw_attend := ⟨Nat.le_of_ble_eq_true rfl, Nat.le_of_ble_eq_true rfl⟩
theorem ro_B_turning_Cw_sectorBy : roomy Y_B_turning Y_Cw_sectorBy := ⟨Nat.le_of_ble_eq_true rfl, Nat.le_of_ble_eq_true rfl⟩
def r_B_turning (x1 : Int32) (x2 : Int32) (x3 : Int32) (S : Sto) : Option (Int32 × Sto) :=
  if (r_B_within x1 0 3) = 0 then
    some ((-1), S)
  else
    if (r_B_within x2 0 ((S 33 4) - 1)) = 0 then
      some ((-1), S)
    else
      if (r_B_within x3 0 ((S 0 4) - 1)) = 0 then
        some ((-1), S)
      else
        chk (inr x3 10) (
        ltN x3.toNatClampNeg (fun j1 =>
        (r_Cw_attend x2 (19 + 1 * j1) S).bind (fun S2 =>
        (r_Cw_sectorBy x1 S2).bind (fun (r3, S4) =>
        some (r3, S4)))))
set_option maxHeartbeats 4000000 in
set_option maxRecDepth 20000 in
theorem c_B_turning {G : Gl} {L : Shp} (hL : Ext L) (S : Sto) (x1 : Int32) (x2 : Int32) (x3 : Int32)  : Ct Y_B_turning G [rf G 0, .int x1, .int x2, .int x3] L S (fi L) (r_B_turning x1 x2 x3 S) := by
  refine ct_of (by decide +kernel) (Nat.le_of_ble_eq_true rfl) (fun g C => ?_)
  show VO g Y_B_turning G (fun z => Qm g Y_B_turning G (fi L z)) 0 0 0 [(0, rf G 0), (1, .int x1), (2, .int x2), (3, .int x3)] [] L S (r_B_turning x1 x2 x3 S) some
  unfold r_B_turning
  refine v_iload_n (pc := 0) C d_B_turning_0 rfl 1 rfl ?_
  refine v_iconst (pc := 1) C d_B_turning_1 ic_0 ?_
  refine v_iconst (pc := 2) C d_B_turning_2 ic_3 ?_
  refine v_ct (pc := 3) (inv_S (As := [.int x1, .int 0, .int 3]) (st := []) C ml_B_112 ms_B_within ro_B_turning_B_within rfl rfl (Nat.le_of_ble_eq_true rfl) d_B_turning_3) (c_B_within hL S x1 0 3) ⟨rfl, rfl⟩ ⟨Nat.zero_le _, Nat.zero_le _⟩ ?_
  refine v_if_eq (pc := 6) (tgt := 40) C d_B_turning_6 rfl (fun _ => ?_) (fun _ => ?_)
  · refine v_iconst (pc := 40) C d_B_turning_40 ic_m1 ?_
    exact v_iret (z := ((-1), S)) C d_B_turning_41 rfl ⟨Nat.zero_le _, Nat.zero_le _⟩ (rfl) rfl
  · refine v_iload_n (pc := 9) C d_B_turning_9 rfl 2 rfl ?_
    refine v_iconst (pc := 10) C d_B_turning_10 ic_0 ?_
    refine v_aload_n (pc := 11) C d_B_turning_11 rfl 0 rfl ?_
    refine v_getR (pc := 12) C fl_B_54 (sh_0 hL) rfl d_B_turning_12 ?_
    refine v_getI (pc := 15) C fl_B_226 (sh_33 hL) rfl d_B_turning_15 ?_
    refine v_iconst (pc := 18) C d_B_turning_18 ic_1 ?_
    refine v_isub (pc := 19) C d_B_turning_19 ?_
    refine v_ct (pc := 20) (inv_S (As := [.int x2, .int 0, .int ((S 33 4) - 1)]) (st := []) C ml_B_112 ms_B_within ro_B_turning_B_within rfl rfl (Nat.le_of_ble_eq_true rfl) d_B_turning_20) (c_B_within hL S x2 0 ((S 33 4) - 1)) ⟨rfl, rfl⟩ ⟨Nat.zero_le _, Nat.zero_le _⟩ ?_
    refine v_if_eq (pc := 23) (tgt := 40) C d_B_turning_23 rfl (fun _ => ?_) (fun _ => ?_)
    · refine v_iconst (pc := 40) C d_B_turning_40 ic_m1 ?_
      exact v_iret (z := ((-1), S)) C d_B_turning_41 rfl ⟨Nat.zero_le _, Nat.zero_le _⟩ (rfl) rfl
    · refine v_iload_n (pc := 26) C d_B_turning_26 rfl 3 rfl ?_
      refine v_iconst (pc := 27) C d_B_turning_27 ic_0 ?_
      refine v_aload_n (pc := 28) C d_B_turning_28 rfl 0 rfl ?_
      refine v_getI (pc := 29) C fl_B_157 (sh_0 hL) rfl d_B_turning_29 ?_
      refine v_iconst (pc := 32) C d_B_turning_32 ic_1 ?_
      refine v_isub (pc := 33) C d_B_turning_33 ?_
      refine v_ct (pc := 34) (inv_S (As := [.int x3, .int 0, .int ((S 0 4) - 1)]) (st := []) C ml_B_112 ms_B_within ro_B_turning_B_within rfl rfl (Nat.le_of_ble_eq_true rfl) d_B_turning_34) (c_B_within hL S x3 0 ((S 0 4) - 1)) ⟨rfl, rfl⟩ ⟨Nat.zero_le _, Nat.zero_le _⟩ ?_
      refine v_if_ne (pc := 37) (tgt := 42) C d_B_turning_37 rfl (fun _ => ?_) (fun _ => ?_)
      · refine v_aload_n (pc := 42) C d_B_turning_42 rfl 0 rfl ?_
        refine v_getR (pc := 43) C fl_B_54 (sh_0 hL) rfl d_B_turning_43 ?_
        refine v_iload_n (pc := 46) C d_B_turning_46 rfl 2 rfl ?_
        refine v_aload_n (pc := 47) C d_B_turning_47 rfl 0 rfl ?_
        refine v_getR (pc := 48) C fl_B_37 (sh_0 hL) rfl d_B_turning_48 ?_
        refine v_iload_n (pc := 51) C d_B_turning_51 rfl 3 rfl ?_
        refine v_aald (pc := 52) (c0 := 19) (e := 1) C (sh_18 hL) rfl (by decide) d_B_turning_52 (fun j1 hj1 => ?_)
        refine v_cv (pc := 53) (inv_V (As := [.int x2, rf G (19 + 1 * j1)]) (st := []) C ml_B_235 mv_Cw_attend ro_B_turning_Cw_attend (sh_33 hL) rfl rfl rfl rfl (Nat.le_of_ble_eq_true rfl) d_B_turning_53) (c_Cw_attend hL S x2 (19 + 1 * j1) (shot_at hL hj1)) ⟨rfl, rfl⟩ ⟨Nat.zero_le _, Nat.zero_le _⟩ (fun S2 => ?_)
        refine v_aload_n (pc := 56) C d_B_turning_56 rfl 0 rfl ?_
        refine v_getR (pc := 57) C fl_B_54 (sh_0 hL) rfl d_B_turning_57 ?_
        refine v_iload_n (pc := 60) C d_B_turning_60 rfl 1 rfl ?_
        refine v_ci (pc := 61) (inv_V (As := [.int x1]) (st := []) C ml_B_239 mv_Cw_sectorBy ro_B_turning_Cw_sectorBy (sh_33 hL) rfl rfl rfl rfl (Nat.le_of_ble_eq_true rfl) d_B_turning_61) (c_Cw_sectorBy hL S2 x1) ⟨rfl, rfl⟩ ⟨Nat.zero_le _, Nat.zero_le _⟩ (fun r3 S4 => ?_)
        exact v_iret (z := (r3, S4)) C d_B_turning_64 rfl ⟨Nat.zero_le _, Nat.zero_le _⟩ (rfl) rfl
      · refine v_iconst (pc := 40) C d_B_turning_40 ic_m1 ?_
        exact v_iret (z := ((-1), S)) C d_B_turning_41 rfl ⟨Nat.zero_le _, Nat.zero_le _⟩ (rfl) rfl
-- B_story
theorem d_B_story_0 : decode (mB Y_B_story) 0 = .ok (.iload_n 1, 1) := by decide +kernel
theorem d_B_story_1 : decode (mB Y_B_story) 1 = .ok (.iconst 0, 1) := by decide +kernel
theorem d_B_story_2 : decode (mB Y_B_story) 2 = .ok (.iconst 5, 1) := by decide +kernel
theorem d_B_story_3 : decode (mB Y_B_story) 3 = .ok (.invokestatic 112, 3) := by decide +kernel
theorem d_B_story_6 : decode (mB Y_B_story) 6 = .ok (.ifCond .eq 19, 3) := by decide +kernel
theorem d_B_story_9 : decode (mB Y_B_story) 9 = .ok (.iload_n 2, 1) := by decide +kernel
theorem d_B_story_10 : decode (mB Y_B_story) 10 = .ok (.iconst 0, 1) := by decide +kernel
theorem d_B_story_11 : decode (mB Y_B_story) 11 = .ok (.iconst 1, 1) := by decide +kernel
theorem d_B_story_12 : decode (mB Y_B_story) 12 = .ok (.aload_n 0, 1) := by decide +kernel
theorem d_B_story_13 : decode (mB Y_B_story) 13 = .ok (.getfield 157, 3) := by decide +kernel
theorem d_B_story_16 : decode (mB Y_B_story) 16 = .ok (.ishl, 1) := by decide +kernel
theorem d_B_story_17 : decode (mB Y_B_story) 17 = .ok (.iconst 1, 1) := by decide +kernel
theorem d_B_story_18 : decode (mB Y_B_story) 18 = .ok (.isub, 1) := by decide +kernel
theorem d_B_story_19 : decode (mB Y_B_story) 19 = .ok (.invokestatic 112, 3) := by decide +kernel
theorem d_B_story_22 : decode (mB Y_B_story) 22 = .ok (.ifCond .ne 5, 3) := by decide +kernel
theorem d_B_story_25 : decode (mB Y_B_story) 25 = .ok (.iconst 0, 1) := by decide +kernel
theorem d_B_story_26 : decode (mB Y_B_story) 26 = .ok (.ireturn, 1) := by decide +kernel
theorem d_B_story_27 : decode (mB Y_B_story) 27 = .ok (.aload_n 0, 1) := by decide +kernel
theorem d_B_story_28 : decode (mB Y_B_story) 28 = .ok (.getfield 58, 3) := by decide +kernel
theorem d_B_story_31 : decode (mB Y_B_story) 31 = .ok (.iload_n 1, 1) := by decide +kernel
theorem d_B_story_32 : decode (mB Y_B_story) 32 = .ok (.iload_n 2, 1) := by decide +kernel
theorem d_B_story_33 : decode (mB Y_B_story) 33 = .ok (.iastore, 1) := by decide +kernel
theorem d_B_story_34 : decode (mB Y_B_story) 34 = .ok (.iconst 1, 1) := by decide +kernel
theorem d_B_story_35 : decode (mB Y_B_story) 35 = .ok (.ireturn, 1) := by decide +kernel
theorem ro_B_story_B_within : roomy Y_B_story Y_B_within := ⟨Nat.le_of_ble_eq_true rfl, Nat.le_of_ble_eq_true rfl⟩
def r_B_story (x1 : Int32) (x2 : Int32) (S : Sto) : Option (Int32 × Sto) :=
  if (r_B_within x1 0 5) = 0 then
    some (0, S)
  else
    if (r_B_within x2 0 ((1 <<< ((S 0 4) &&& 31)) - 1)) = 0 then
      some (0, S)
    else
      chk (inr x1 6) (
      ltS (sw S 51 x1.toNatClampNeg x2) (fun S1 =>
      some (1, S1)))
set_option maxHeartbeats 4000000 in
set_option maxRecDepth 20000 in
theorem c_B_story {G : Gl} {L : Shp} (hL : Ext L) (S : Sto) (x1 : Int32) (x2 : Int32)  : Ct Y_B_story G [rf G 0, .int x1, .int x2] L S (fi L) (r_B_story x1 x2 S) := by
  refine ct_of (by decide +kernel) (Nat.le_of_ble_eq_true rfl) (fun g C => ?_)
  show VO g Y_B_story G (fun z => Qm g Y_B_story G (fi L z)) 0 0 0 [(0, rf G 0), (1, .int x1), (2, .int x2)] [] L S (r_B_story x1 x2 S) some
  unfold r_B_story
  refine v_iload_n (pc := 0) C d_B_story_0 rfl 1 rfl ?_
  refine v_iconst (pc := 1) C d_B_story_1 ic_0 ?_
  refine v_iconst (pc := 2) C d_B_story_2 ic_5 ?_
  refine v_ct (pc := 3) (inv_S (As := [.int x1, .int 0, .int 5]) (st := []) C ml_B_112 ms_B_within ro_B_story_B_within rfl rfl (Nat.le_of_ble_eq_true rfl) d_B_story_3) (c_B_within hL S x1 0 5) ⟨rfl, rfl⟩ ⟨Nat.zero_le _, Nat.zero_le _⟩ ?_
  refine v_if_eq (pc := 6) (tgt := 25) C d_B_story_6 rfl (fun _ => ?_) (fun _ => ?_)
  · refine v_iconst (pc := 25) C d_B_story_25 ic_0 ?_
    exact v_zret (z := (0, S)) C d_B_story_26 rfl (b01_n (by decide)) ⟨Nat.zero_le _, Nat.zero_le _⟩ (rfl) rfl
  · refine v_iload_n (pc := 9) C d_B_story_9 rfl 2 rfl ?_
    refine v_iconst (pc := 10) C d_B_story_10 ic_0 ?_
    refine v_iconst (pc := 11) C d_B_story_11 ic_1 ?_
    refine v_aload_n (pc := 12) C d_B_story_12 rfl 0 rfl ?_
    refine v_getI (pc := 13) C fl_B_157 (sh_0 hL) rfl d_B_story_13 ?_
    refine v_ishl (pc := 16) C d_B_story_16 ?_
    refine v_iconst (pc := 17) C d_B_story_17 ic_1 ?_
    refine v_isub (pc := 18) C d_B_story_18 ?_
    refine v_ct (pc := 19) (inv_S (As := [.int x2, .int 0, .int ((1 <<< ((S 0 4) &&& 31)) - 1)]) (st := []) C ml_B_112 ms_B_within ro_B_story_B_within rfl rfl (Nat.le_of_ble_eq_true rfl) d_B_story_19) (c_B_within hL S x2 0 ((1 <<< ((S 0 4) &&& 31)) - 1)) ⟨rfl, rfl⟩ ⟨Nat.zero_le _, Nat.zero_le _⟩ ?_
    refine v_if_ne (pc := 22) (tgt := 27) C d_B_story_22 rfl (fun _ => ?_) (fun _ => ?_)
    · refine v_aload_n (pc := 27) C d_B_story_27 rfl 0 rfl ?_
      refine v_getR (pc := 28) C fl_B_58 (sh_0 hL) rfl d_B_story_28 ?_
      refine v_iload_n (pc := 31) C d_B_story_31 rfl 1 rfl ?_
      refine v_iload_n (pc := 32) C d_B_story_32 rfl 2 rfl ?_
      refine v_iast (pc := 33) C (sh_51 hL) d_B_story_33 (fun _ S1 => ?_)
      refine v_iconst (pc := 34) C d_B_story_34 ic_1 ?_
      exact v_zret (z := (1, S1)) C d_B_story_35 rfl (b01_n (by decide)) ⟨Nat.zero_le _, Nat.zero_le _⟩ (rfl) rfl
    · refine v_iconst (pc := 25) C d_B_story_25 ic_0 ?_
      exact v_zret (z := (0, S)) C d_B_story_26 rfl (b01_n (by decide)) ⟨Nat.zero_le _, Nat.zero_le _⟩ (rfl) rfl
-- B_stories
theorem d_B_stories_0 : decode (mB Y_B_stories) 0 = .ok (.iload_n 1, 1) := by decide +kernel
theorem d_B_stories_1 : decode (mB Y_B_stories) 1 = .ok (.iconst 0, 1) := by decide +kernel
theorem d_B_stories_2 : decode (mB Y_B_stories) 2 = .ok (.iconst 3, 1) := by decide +kernel
theorem d_B_stories_3 : decode (mB Y_B_stories) 3 = .ok (.invokestatic 112, 3) := by decide +kernel
theorem d_B_stories_6 : decode (mB Y_B_stories) 6 = .ok (.ifCond .eq 13, 3) := by decide +kernel
theorem d_B_stories_9 : decode (mB Y_B_stories) 9 = .ok (.iload_n 2, 1) := by decide +kernel
theorem d_B_stories_10 : decode (mB Y_B_stories) 10 = .ok (.iconst 0, 1) := by decide +kernel
theorem d_B_stories_11 : decode (mB Y_B_stories) 11 = .ok (.bipush 6, 2) := by decide +kernel
theorem d_B_stories_13 : decode (mB Y_B_stories) 13 = .ok (.invokestatic 112, 3) := by decide +kernel
theorem d_B_stories_16 : decode (mB Y_B_stories) 16 = .ok (.ifCond .ne 5, 3) := by decide +kernel
theorem d_B_stories_19 : decode (mB Y_B_stories) 19 = .ok (.iconst (-1), 1) := by decide +kernel
theorem d_B_stories_20 : decode (mB Y_B_stories) 20 = .ok (.ireturn, 1) := by decide +kernel
theorem d_B_stories_21 : decode (mB Y_B_stories) 21 = .ok (.iload_n 2, 1) := by decide +kernel
theorem d_B_stories_22 : decode (mB Y_B_stories) 22 = .ok (.bipush 6, 2) := by decide +kernel
theorem d_B_stories_24 : decode (mB Y_B_stories) 24 = .ok (.if_icmp .ge 22, 3) := by decide +kernel
theorem d_B_stories_27 : decode (mB Y_B_stories) 27 = .ok (.aload_n 0, 1) := by decide +kernel
theorem d_B_stories_28 : decode (mB Y_B_stories) 28 = .ok (.getfield 54, 3) := by decide +kernel
theorem d_B_stories_31 : decode (mB Y_B_stories) 31 = .ok (.iload_n 1, 1) := by decide +kernel
theorem d_B_stories_32 : decode (mB Y_B_stories) 32 = .ok (.aload_n 0, 1) := by decide +kernel
theorem d_B_stories_33 : decode (mB Y_B_stories) 33 = .ok (.getfield 37, 3) := by decide +kernel
theorem d_B_stories_36 : decode (mB Y_B_stories) 36 = .ok (.aload_n 0, 1) := by decide +kernel
theorem d_B_stories_37 : decode (mB Y_B_stories) 37 = .ok (.getfield 58, 3) := by decide +kernel
theorem d_B_stories_40 : decode (mB Y_B_stories) 40 = .ok (.iload_n 2, 1) := by decide +kernel
theorem d_B_stories_41 : decode (mB Y_B_stories) 41 = .ok (.iaload, 1) := by decide +kernel
theorem d_B_stories_42 : decode (mB Y_B_stories) 42 = .ok (.invokevirtual 242, 3) := by decide +kernel
theorem d_B_stories_45 : decode (mB Y_B_stories) 45 = .ok (.ireturn, 1) := by decide +kernel
theorem d_B_stories_46 : decode (mB Y_B_stories) 46 = .ok (.iconst (-1), 1) := by decide +kernel
theorem d_B_stories_47 : decode (mB Y_B_stories) 47 = .ok (.istore_n 3, 1) := by decide +kernel
theorem d_B_stories_48 : decode (mB Y_B_stories) 48 = .ok (.iconst (-1), 1) := by decide +kernel
theorem d_B_stories_49 : decode (mB Y_B_stories) 49 = .ok (.istore 4, 2) := by decide +kernel
theorem d_B_stories_51 : decode (mB Y_B_stories) 51 = .ok (.iconst 0, 1) := by decide +kernel
theorem d_B_stories_52 : decode (mB Y_B_stories) 52 = .ok (.istore 5, 2) := by decide +kernel
theorem d_B_stories_54 : decode (mB Y_B_stories) 54 = .ok (.iload 5, 2) := by decide +kernel
theorem d_B_stories_56 : decode (mB Y_B_stories) 56 = .ok (.bipush 6, 2) := by decide +kernel
theorem d_B_stories_58 : decode (mB Y_B_stories) 58 = .ok (.if_icmp .ge 58, 3) := by decide +kernel
theorem d_B_stories_61 : decode (mB Y_B_stories) 61 = .ok (.aload_n 0, 1) := by decide +kernel
theorem d_B_stories_62 : decode (mB Y_B_stories) 62 = .ok (.getfield 58, 3) := by decide +kernel
theorem d_B_stories_65 : decode (mB Y_B_stories) 65 = .ok (.iload 5, 2) := by decide +kernel
theorem d_B_stories_67 : decode (mB Y_B_stories) 67 = .ok (.iaload, 1) := by decide +kernel
theorem d_B_stories_68 : decode (mB Y_B_stories) 68 = .ok (.ifCond .ne 7, 3) := by decide +kernel
theorem d_B_stories_71 : decode (mB Y_B_stories) 71 = .ok (.iconst (-1), 1) := by decide +kernel
theorem d_B_stories_72 : decode (mB Y_B_stories) 72 = .ok (.goto 22, 3) := by decide +kernel
theorem d_B_stories_75 : decode (mB Y_B_stories) 75 = .ok (.aload_n 0, 1) := by decide +kernel
theorem d_B_stories_76 : decode (mB Y_B_stories) 76 = .ok (.getfield 54, 3) := by decide +kernel
theorem d_B_stories_79 : decode (mB Y_B_stories) 79 = .ok (.iload_n 1, 1) := by decide +kernel
theorem d_B_stories_80 : decode (mB Y_B_stories) 80 = .ok (.aload_n 0, 1) := by decide +kernel
theorem d_B_stories_81 : decode (mB Y_B_stories) 81 = .ok (.getfield 37, 3) := by decide +kernel
theorem d_B_stories_84 : decode (mB Y_B_stories) 84 = .ok (.aload_n 0, 1) := by decide +kernel
theorem d_B_stories_85 : decode (mB Y_B_stories) 85 = .ok (.getfield 58, 3) := by decide +kernel
theorem d_B_stories_88 : decode (mB Y_B_stories) 88 = .ok (.iload 5, 2) := by decide +kernel
theorem d_B_stories_90 : decode (mB Y_B_stories) 90 = .ok (.iaload, 1) := by decide +kernel
theorem d_B_stories_91 : decode (mB Y_B_stories) 91 = .ok (.invokevirtual 242, 3) := by decide +kernel
theorem d_B_stories_94 : decode (mB Y_B_stories) 94 = .ok (.istore 6, 2) := by decide +kernel
theorem d_B_stories_96 : decode (mB Y_B_stories) 96 = .ok (.iload 6, 2) := by decide +kernel
theorem d_B_stories_98 : decode (mB Y_B_stories) 98 = .ok (.iload 4, 2) := by decide +kernel
theorem d_B_stories_100 : decode (mB Y_B_stories) 100 = .ok (.if_icmp .le 10, 3) := by decide +kernel
theorem d_B_stories_103 : decode (mB Y_B_stories) 103 = .ok (.iload 6, 2) := by decide +kernel
theorem d_B_stories_105 : decode (mB Y_B_stories) 105 = .ok (.istore 4, 2) := by decide +kernel
theorem d_B_stories_107 : decode (mB Y_B_stories) 107 = .ok (.iload 5, 2) := by decide +kernel
theorem d_B_stories_109 : decode (mB Y_B_stories) 109 = .ok (.istore_n 3, 1) := by decide +kernel
theorem d_B_stories_110 : decode (mB Y_B_stories) 110 = .ok (.iinc 5 1, 3) := by decide +kernel
theorem d_B_stories_113 : decode (mB Y_B_stories) 113 = .ok (.goto (-59), 3) := by decide +kernel
theorem d_B_stories_116 : decode (mB Y_B_stories) 116 = .ok (.iload_n 3, 1) := by decide +kernel
theorem d_B_stories_117 : decode (mB Y_B_stories) 117 = .ok (.ireturn, 1) := by decide +kernel
theorem ro_B_stories_B_within : roomy Y_B_stories Y_B_within := ⟨Nat.le_of_ble_eq_true rfl, Nat.le_of_ble_eq_true rfl⟩
theorem ro_B_stories_Cw_countFitting : roomy Y_B_stories Y_Cw_countFitting := ⟨Nat.le_of_ble_eq_true rfl, Nat.le_of_ble_eq_true rfl⟩
def r_B_stories_L54 (y1_ : Int32) : Nat → Int32 → Int32 → Int32 → Sto → Option (Int32 × Int32 × Int32 × Sto)
  | 0, _, _, _, _ => none
  | n + 1, x3_, x4_, x5_, S =>
    if 6 ≤ x5_ then
      some (x3_, x4_, x5_, S)
    else
      chk (inr x5_ 6) (
      jn (fun ((v1, S2) : Int32 × Sto) =>
        jn (fun ((v3, v4) : Int32 × Int32) =>
          lt (x5_ + 1) (fun v5 =>
          r_B_stories_L54 y1_ n v3 v4 v5 S2)) (fun j110 =>
        if v1 ≤ x4_ then
          j110 (x3_, x4_)
        else
          j110 (x5_, v1))) (fun j94 =>
      if (S 51 x5_.toNatClampNeg) = 0 then
        j94 ((-1), S)
      else
        chk (inr x5_ 6) (
        (r_Cw_countFitting y1_ (S 51 x5_.toNatClampNeg) S).bind (fun (r6, S7) =>
        j94 (r6, S7)))))
set_option maxHeartbeats 4000000 in
set_option maxRecDepth 20000 in
theorem w_B_stories_L54 {g : Gm} {G : Gl} {L : Shp} (C : Cx g Y_B_stories G) (hL : Ext L) (y1_ : Int32)  :
    ∀ (n : Nat) (x3_ : Int32) (x4_ : Int32) (x5_ : Int32) (S : Sto) (K : (Int32 × Int32 × Int32 × Sto) → Option (Int32 × Sto)), (∀ (x3_ : Int32) (x4_ : Int32) (x5_ : Int32) (S : Sto), VO g Y_B_stories G (fun z => Qm g Y_B_stories G (fi L z)) 0 0 116 [(3, .int x3_)] [] L S (some (x3_, x4_, x5_, S)) K) → VO g Y_B_stories G (fun z => Qm g Y_B_stories G (fi L z)) 0 0 54 [(0, rf G 0), (1, .int y1_), (3, .int x3_), (4, .int x4_), (5, .int x5_)] [] L S (r_B_stories_L54 y1_ n x3_ x4_ x5_ S) K := by
  intro n
  induction n with
  | zero => intro x3_ x4_ x5_ S K; intros; exact v_none
  | succ n ih =>
    intro x3_ x4_ x5_ S K hK
    rw [r_B_stories_L54]
    refine v_iload (pc := 54) C d_B_stories_54 4 rfl ?_
    refine v_bipush (pc := 56) C d_B_stories_56 bp_6 ?_
    refine v_icmp_ge (pc := 58) (tgt := 116) C d_B_stories_58 rfl (fun _ => ?_) (fun _ => ?_)
    · refine v_sub [2] rfl ?_
      exact hK x3_ x4_ x5_ S
    · refine v_aload_n (pc := 61) C d_B_stories_61 rfl 0 rfl ?_
      refine v_getR (pc := 62) C fl_B_58 (sh_0 hL) rfl d_B_stories_62 ?_
      refine v_iload (pc := 65) C d_B_stories_65 4 rfl ?_
      refine v_iald (pc := 67) C (sh_51 hL) d_B_stories_67 (fun _ => ?_)
      refine v_jn (fun j => ∀ (v1 : Int32) (S2 : Sto), VO g Y_B_stories G (fun z => Qm g Y_B_stories G (fi L z)) 0 0 94 [(0, rf G 0), (1, .int y1_), (3, .int x3_), (4, .int x4_), (5, .int x5_)] [.int v1] L S2 (j (v1, S2)) K) (fun v1 S2 => ?_) (fun j94 hj94 => ?_)
      · refine v_istore (pc := 94) (lv' := [(6, .int v1), (0, rf G 0), (1, .int y1_), (3, .int x3_), (4, .int x4_), (5, .int x5_)]) C d_B_stories_94 (by decide) rfl ?_
        refine v_iload (pc := 96) C d_B_stories_96 0 rfl ?_
        refine v_iload (pc := 98) C d_B_stories_98 4 rfl ?_
        refine v_jn (fun j => ∀ (v3 : Int32) (v4 : Int32), VO g Y_B_stories G (fun z => Qm g Y_B_stories G (fi L z)) 0 0 110 [(0, rf G 0), (1, .int y1_), (3, .int v3), (4, .int v4), (5, .int x5_)] [] L S2 (j (v3, v4)) K) (fun v3 v4 => ?_) (fun j110 hj110 => ?_)
        · refine v_iinc (pc := 110) (p := 4) (c := 1) C d_B_stories_110 rfl (by decide) (by decide) (fun v5 => [(5, .int v5), (0, rf G 0), (1, .int y1_), (3, .int v3), (4, .int v4)]) (fun _ => rfl) (fun v5 => ?_)
          refine v_goto (pc := 113) (tgt := 54) C d_B_stories_113 rfl ?_
          refine v_sub [1, 2, 3, 4, 0] rfl ?_
          exact ih v3 v4 v5 S2 K hK
        · refine v_icmp_le (pc := 100) (tgt := 110) C d_B_stories_100 rfl (fun _ => ?_) (fun _ => ?_)
          · refine v_sub [1, 2, 3, 4, 5] rfl ?_
            exact hj110 x3_ x4_
          · refine v_iload (pc := 103) C d_B_stories_103 0 rfl ?_
            refine v_istore (pc := 105) (lv' := [(4, .int v1), (6, .int v1), (0, rf G 0), (1, .int y1_), (3, .int x3_), (5, .int x5_)]) C d_B_stories_105 (by decide) rfl ?_
            refine v_iload (pc := 107) C d_B_stories_107 5 rfl ?_
            refine v_istore_n (pc := 109) (lv' := [(3, .int x5_), (4, .int v1), (6, .int v1), (0, rf G 0), (1, .int y1_), (5, .int x5_)]) C d_B_stories_109 rfl (by decide) rfl ?_
            refine v_sub [3, 4, 0, 1, 5] rfl ?_
            exact hj110 x5_ v1
      · refine v_if_ne (pc := 68) (tgt := 75) C d_B_stories_68 rfl (fun _ => ?_) (fun _ => ?_)
        · refine v_aload_n (pc := 75) C d_B_stories_75 rfl 0 rfl ?_
          refine v_getR (pc := 76) C fl_B_54 (sh_0 hL) rfl d_B_stories_76 ?_
          refine v_iload_n (pc := 79) C d_B_stories_79 rfl 1 rfl ?_
          refine v_aload_n (pc := 80) C d_B_stories_80 rfl 0 rfl ?_
          refine v_getR (pc := 81) C fl_B_37 (sh_0 hL) rfl d_B_stories_81 ?_
          refine v_aload_n (pc := 84) C d_B_stories_84 rfl 0 rfl ?_
          refine v_getR (pc := 85) C fl_B_58 (sh_0 hL) rfl d_B_stories_85 ?_
          refine v_iload (pc := 88) C d_B_stories_88 4 rfl ?_
          refine v_iald (pc := 90) C (sh_51 hL) d_B_stories_90 (fun _ => ?_)
          refine v_ci (pc := 91) (inv_V (As := [.int y1_, rf G 18, .int (S 51 x5_.toNatClampNeg)]) (st := []) C ml_B_242 mv_Cw_countFitting ro_B_stories_Cw_countFitting (sh_33 hL) rfl rfl rfl rfl (Nat.le_of_ble_eq_true rfl) d_B_stories_91) (c_Cw_countFitting hL S y1_ (S 51 x5_.toNatClampNeg)) ⟨rfl, rfl⟩ ⟨Nat.zero_le _, Nat.zero_le _⟩ (fun r6 S7 => ?_)
          exact hj94 r6 S7
        · refine v_iconst (pc := 71) C d_B_stories_71 ic_m1 ?_
          refine v_goto (pc := 72) (tgt := 94) C d_B_stories_72 rfl ?_
          exact hj94 (-1) S
def r_B_stories (x1 : Int32) (x2 : Int32) (S : Sto) : Option (Int32 × Sto) :=
  if (r_B_within x1 0 3) = 0 then
    some ((-1), S)
  else
    if (r_B_within x2 0 6) = 0 then
      some ((-1), S)
    else
      if 6 ≤ x2 then
        (r_B_stories_L54 x1 fu (-1) (-1) 0 S).bind (fun (v1, v2, v3, S4) =>
        some (v1, S4))
      else
        chk (inr x2 6) (
        (r_Cw_countFitting x1 (S 51 x2.toNatClampNeg) S).bind (fun (r5, S6) =>
        some (r5, S6)))
set_option maxHeartbeats 4000000 in
set_option maxRecDepth 20000 in
theorem c_B_stories {G : Gl} {L : Shp} (hL : Ext L) (S : Sto) (x1 : Int32) (x2 : Int32)  : Ct Y_B_stories G [rf G 0, .int x1, .int x2] L S (fi L) (r_B_stories x1 x2 S) := by
  refine ct_of (by decide +kernel) (Nat.le_of_ble_eq_true rfl) (fun g C => ?_)
  show VO g Y_B_stories G (fun z => Qm g Y_B_stories G (fi L z)) 0 0 0 [(0, rf G 0), (1, .int x1), (2, .int x2)] [] L S (r_B_stories x1 x2 S) some
  unfold r_B_stories
  refine v_iload_n (pc := 0) C d_B_stories_0 rfl 1 rfl ?_
  refine v_iconst (pc := 1) C d_B_stories_1 ic_0 ?_
  refine v_iconst (pc := 2) C d_B_stories_2 ic_3 ?_
  refine v_ct (pc := 3) (inv_S (As := [.int x1, .int 0, .int 3]) (st := []) C ml_B_112 ms_B_within ro_B_stories_B_within rfl rfl (Nat.le_of_ble_eq_true rfl) d_B_stories_3) (c_B_within hL S x1 0 3) ⟨rfl, rfl⟩ ⟨Nat.zero_le _, Nat.zero_le _⟩ ?_
  refine v_if_eq (pc := 6) (tgt := 19) C d_B_stories_6 rfl (fun _ => ?_) (fun _ => ?_)
  · refine v_iconst (pc := 19) C d_B_stories_19 ic_m1 ?_
    exact v_iret (z := ((-1), S)) C d_B_stories_20 rfl ⟨Nat.zero_le _, Nat.zero_le _⟩ (rfl) rfl
  · refine v_iload_n (pc := 9) C d_B_stories_9 rfl 2 rfl ?_
    refine v_iconst (pc := 10) C d_B_stories_10 ic_0 ?_
    refine v_bipush (pc := 11) C d_B_stories_11 bp_6 ?_
    refine v_ct (pc := 13) (inv_S (As := [.int x2, .int 0, .int 6]) (st := []) C ml_B_112 ms_B_within ro_B_stories_B_within rfl rfl (Nat.le_of_ble_eq_true rfl) d_B_stories_13) (c_B_within hL S x2 0 6) ⟨rfl, rfl⟩ ⟨Nat.zero_le _, Nat.zero_le _⟩ ?_
    refine v_if_ne (pc := 16) (tgt := 21) C d_B_stories_16 rfl (fun _ => ?_) (fun _ => ?_)
    · refine v_iload_n (pc := 21) C d_B_stories_21 rfl 2 rfl ?_
      refine v_bipush (pc := 22) C d_B_stories_22 bp_6 ?_
      refine v_icmp_ge (pc := 24) (tgt := 46) C d_B_stories_24 rfl (fun _ => ?_) (fun _ => ?_)
      · refine v_iconst (pc := 46) C d_B_stories_46 ic_m1 ?_
        refine v_istore_n (pc := 47) (lv' := [(3, .int (-1)), (0, rf G 0), (1, .int x1), (2, .int x2)]) C d_B_stories_47 rfl (by decide) rfl ?_
        refine v_iconst (pc := 48) C d_B_stories_48 ic_m1 ?_
        refine v_istore (pc := 49) (lv' := [(4, .int (-1)), (3, .int (-1)), (0, rf G 0), (1, .int x1), (2, .int x2)]) C d_B_stories_49 (by decide) rfl ?_
        refine v_iconst (pc := 51) C d_B_stories_51 ic_0 ?_
        refine v_istore (pc := 52) (lv' := [(5, .int 0), (4, .int (-1)), (3, .int (-1)), (0, rf G 0), (1, .int x1), (2, .int x2)]) C d_B_stories_52 (by decide) rfl ?_
        refine v_sub [3, 4, 2, 1, 0] rfl ?_
        refine v_bind ?_
        refine w_B_stories_L54 C hL x1  fu (-1) (-1) 0 S _ (fun v1 v2 v3 S4 => ?_) 
        refine v_some ?_
        refine v_iload_n (pc := 116) C d_B_stories_116 rfl 0 rfl ?_
        exact v_iret (z := (v1, S4)) C d_B_stories_117 rfl ⟨Nat.zero_le _, Nat.zero_le _⟩ (rfl) rfl
      · refine v_aload_n (pc := 27) C d_B_stories_27 rfl 0 rfl ?_
        refine v_getR (pc := 28) C fl_B_54 (sh_0 hL) rfl d_B_stories_28 ?_
        refine v_iload_n (pc := 31) C d_B_stories_31 rfl 1 rfl ?_
        refine v_aload_n (pc := 32) C d_B_stories_32 rfl 0 rfl ?_
        refine v_getR (pc := 33) C fl_B_37 (sh_0 hL) rfl d_B_stories_33 ?_
        refine v_aload_n (pc := 36) C d_B_stories_36 rfl 0 rfl ?_
        refine v_getR (pc := 37) C fl_B_58 (sh_0 hL) rfl d_B_stories_37 ?_
        refine v_iload_n (pc := 40) C d_B_stories_40 rfl 2 rfl ?_
        refine v_iald (pc := 41) C (sh_51 hL) d_B_stories_41 (fun _ => ?_)
        refine v_ci (pc := 42) (inv_V (As := [.int x1, rf G 18, .int (S 51 x2.toNatClampNeg)]) (st := []) C ml_B_242 mv_Cw_countFitting ro_B_stories_Cw_countFitting (sh_33 hL) rfl rfl rfl rfl (Nat.le_of_ble_eq_true rfl) d_B_stories_42) (c_Cw_countFitting hL S x1 (S 51 x2.toNatClampNeg)) ⟨rfl, rfl⟩ ⟨Nat.zero_le _, Nat.zero_le _⟩ (fun r5 S6 => ?_)
        exact v_iret (z := (r5, S6)) C d_B_stories_45 rfl ⟨Nat.zero_le _, Nat.zero_le _⟩ (rfl) rfl
    · refine v_iconst (pc := 19) C d_B_stories_19 ic_m1 ?_
      exact v_iret (z := ((-1), S)) C d_B_stories_20 rfl ⟨Nat.zero_le _, Nat.zero_le _⟩ (rfl) rfl
-- B_ear
theorem d_B_ear_0 : decode (mB Y_B_ear) 0 = .ok (.iload_n 1, 1) := by decide +kernel
theorem d_B_ear_1 : decode (mB Y_B_ear) 1 = .ok (.invokestatic 125, 3) := by decide +kernel
theorem d_B_ear_4 : decode (mB Y_B_ear) 4 = .ok (.ifCond .eq 15, 3) := by decide +kernel
theorem d_B_ear_7 : decode (mB Y_B_ear) 7 = .ok (.aload_n 0, 1) := by decide +kernel
theorem d_B_ear_8 : decode (mB Y_B_ear) 8 = .ok (.getfield 69, 3) := by decide +kernel
theorem d_B_ear_11 : decode (mB Y_B_ear) 11 = .ok (.getfield 246, 3) := by decide +kernel
theorem d_B_ear_14 : decode (mB Y_B_ear) 14 = .ok (.bipush 8, 2) := by decide +kernel
theorem d_B_ear_16 : decode (mB Y_B_ear) 16 = .ok (.if_icmp .lt 5, 3) := by decide +kernel
theorem d_B_ear_19 : decode (mB Y_B_ear) 19 = .ok (.iconst (-1), 1) := by decide +kernel
theorem d_B_ear_20 : decode (mB Y_B_ear) 20 = .ok (.ireturn, 1) := by decide +kernel
theorem d_B_ear_21 : decode (mB Y_B_ear) 21 = .ok (.aload_n 0, 1) := by decide +kernel
theorem d_B_ear_22 : decode (mB Y_B_ear) 22 = .ok (.getfield 61, 3) := by decide +kernel
theorem d_B_ear_25 : decode (mB Y_B_ear) 25 = .ok (.aload_n 0, 1) := by decide +kernel
theorem d_B_ear_26 : decode (mB Y_B_ear) 26 = .ok (.getfield 69, 3) := by decide +kernel
theorem d_B_ear_29 : decode (mB Y_B_ear) 29 = .ok (.getfield 246, 3) := by decide +kernel
theorem d_B_ear_32 : decode (mB Y_B_ear) 32 = .ok (.iload_n 1, 1) := by decide +kernel
theorem d_B_ear_33 : decode (mB Y_B_ear) 33 = .ok (.iastore, 1) := by decide +kernel
theorem d_B_ear_34 : decode (mB Y_B_ear) 34 = .ok (.aload_n 0, 1) := by decide +kernel
theorem d_B_ear_35 : decode (mB Y_B_ear) 35 = .ok (.getfield 69, 3) := by decide +kernel
theorem d_B_ear_38 : decode (mB Y_B_ear) 38 = .ok (.iconst 0, 1) := by decide +kernel
theorem d_B_ear_39 : decode (mB Y_B_ear) 39 = .ok (.iconst (-1), 1) := by decide +kernel
theorem d_B_ear_40 : decode (mB Y_B_ear) 40 = .ok (.iconst (-1), 1) := by decide +kernel
theorem d_B_ear_41 : decode (mB Y_B_ear) 41 = .ok (.invokevirtual 247, 3) := by decide +kernel
theorem d_B_ear_44 : decode (mB Y_B_ear) 44 = .ok (.ireturn, 1) := by decide +kernel
theorem ro_B_ear_B_isCell : roomy Y_B_ear Y_B_isCell := ⟨Nat.le_of_ble_eq_true rfl, Nat.le_of_ble_eq_true rfl⟩
theorem ro_B_ear_Sp_add : roomy Y_B_ear Y_Sp_add := ⟨Nat.le_of_ble_eq_true rfl, Nat.le_of_ble_eq_true rfl⟩
def r_B_ear (x1 : Int32) (S : Sto) : Option (Int32 × Sto) :=
  if (r_B_isCell x1) = 0 then
    some ((-1), S)
  else
    if (S 53 3) < 8 then
      chk (inr (S 53 3) 8) (
      ltS (sw S 52 ((S 53 3).toNatClampNeg) x1) (fun S1 =>
      (r_Sp_add 53 8 0 (-1) (-1) S1).bind (fun (r2, S3) =>
      some (r2, S3))))
    else
      some ((-1), S)
set_option maxHeartbeats 4000000 in
set_option maxRecDepth 20000 in
theorem c_B_ear {G : Gl} {L : Shp} (hL : Ext L) (S : Sto) (x1 : Int32)  : Ct Y_B_ear G [rf G 0, .int x1] L S (fi L) (r_B_ear x1 S) := by
  refine ct_of (by decide +kernel) (Nat.le_of_ble_eq_true rfl) (fun g C => ?_)
  show VO g Y_B_ear G (fun z => Qm g Y_B_ear G (fi L z)) 0 0 0 [(0, rf G 0), (1, .int x1)] [] L S (r_B_ear x1 S) some
  unfold r_B_ear
  refine v_iload_n (pc := 0) C d_B_ear_0 rfl 1 rfl ?_
  refine v_ct (pc := 1) (inv_S (As := [.int x1]) (st := []) C ml_B_125 ms_B_isCell ro_B_ear_B_isCell rfl rfl (Nat.le_of_ble_eq_true rfl) d_B_ear_1) (c_B_isCell hL S x1) ⟨rfl, rfl⟩ ⟨Nat.zero_le _, Nat.zero_le _⟩ ?_
  refine v_if_eq (pc := 4) (tgt := 19) C d_B_ear_4 rfl (fun _ => ?_) (fun _ => ?_)
  · refine v_iconst (pc := 19) C d_B_ear_19 ic_m1 ?_
    exact v_iret (z := ((-1), S)) C d_B_ear_20 rfl ⟨Nat.zero_le _, Nat.zero_le _⟩ (rfl) rfl
  · refine v_aload_n (pc := 7) C d_B_ear_7 rfl 0 rfl ?_
    refine v_getR (pc := 8) C fl_B_69 (sh_0 hL) rfl d_B_ear_8 ?_
    refine v_getI (pc := 11) C fl_B_246 (sh_53 hL) rfl d_B_ear_11 ?_
    refine v_bipush (pc := 14) C d_B_ear_14 bp_8 ?_
    refine v_icmp_lt (pc := 16) (tgt := 21) C d_B_ear_16 rfl (fun _ => ?_) (fun _ => ?_)
    · refine v_aload_n (pc := 21) C d_B_ear_21 rfl 0 rfl ?_
      refine v_getR (pc := 22) C fl_B_61 (sh_0 hL) rfl d_B_ear_22 ?_
      refine v_aload_n (pc := 25) C d_B_ear_25 rfl 0 rfl ?_
      refine v_getR (pc := 26) C fl_B_69 (sh_0 hL) rfl d_B_ear_26 ?_
      refine v_getI (pc := 29) C fl_B_246 (sh_53 hL) rfl d_B_ear_29 ?_
      refine v_iload_n (pc := 32) C d_B_ear_32 rfl 1 rfl ?_
      refine v_iast (pc := 33) C (sh_52 hL) d_B_ear_33 (fun _ S1 => ?_)
      refine v_aload_n (pc := 34) C d_B_ear_34 rfl 0 rfl ?_
      refine v_getR (pc := 35) C fl_B_69 (sh_0 hL) rfl d_B_ear_35 ?_
      refine v_iconst (pc := 38) C d_B_ear_38 ic_0 ?_
      refine v_iconst (pc := 39) C d_B_ear_39 ic_m1 ?_
      refine v_iconst (pc := 40) C d_B_ear_40 ic_m1 ?_
      refine v_ci (pc := 41) (inv_V (As := [.int 0, .int (-1), .int (-1)]) (st := []) C ml_B_247 mv_Sp_add ro_B_ear_Sp_add (sh_53 hL) rfl rfl rfl rfl (Nat.le_of_ble_eq_true rfl) d_B_ear_41) (c_Sp_add hL S1 53 8 0 (-1) (-1) (ears_at hL)) ⟨rfl, rfl⟩ ⟨Nat.zero_le _, Nat.zero_le _⟩ (fun r2 S3 => ?_)
      exact v_iret (z := (r2, S3)) C d_B_ear_44 rfl ⟨Nat.zero_le _, Nat.zero_le _⟩ (rfl) rfl
    · refine v_iconst (pc := 19) C d_B_ear_19 ic_m1 ?_
      exact v_iret (z := ((-1), S)) C d_B_ear_20 rfl ⟨Nat.zero_le _, Nat.zero_le _⟩ (rfl) rfl
-- B_got
theorem d_B_got_0 : decode (mB Y_B_got) 0 = .ok (.iload_n 1, 1) := by decide +kernel
theorem d_B_got_1 : decode (mB Y_B_got) 1 = .ok (.iconst 0, 1) := by decide +kernel
theorem d_B_got_2 : decode (mB Y_B_got) 2 = .ok (.aload_n 0, 1) := by decide +kernel
theorem d_B_got_3 : decode (mB Y_B_got) 3 = .ok (.getfield 69, 3) := by decide +kernel
theorem d_B_got_6 : decode (mB Y_B_got) 6 = .ok (.getfield 246, 3) := by decide +kernel
theorem d_B_got_9 : decode (mB Y_B_got) 9 = .ok (.iconst 1, 1) := by decide +kernel
theorem d_B_got_10 : decode (mB Y_B_got) 10 = .ok (.isub, 1) := by decide +kernel
theorem d_B_got_11 : decode (mB Y_B_got) 11 = .ok (.invokestatic 112, 3) := by decide +kernel
theorem d_B_got_14 : decode (mB Y_B_got) 14 = .ok (.ifCond .ne 5, 3) := by decide +kernel
theorem d_B_got_17 : decode (mB Y_B_got) 17 = .ok (.iconst 0, 1) := by decide +kernel
theorem d_B_got_18 : decode (mB Y_B_got) 18 = .ok (.ireturn, 1) := by decide +kernel
theorem d_B_got_19 : decode (mB Y_B_got) 19 = .ok (.iload_n 2, 1) := by decide +kernel
theorem d_B_got_20 : decode (mB Y_B_got) 20 = .ok (.iconst (-1), 1) := by decide +kernel
theorem d_B_got_21 : decode (mB Y_B_got) 21 = .ok (.if_icmp .eq 25, 3) := by decide +kernel
theorem d_B_got_24 : decode (mB Y_B_got) 24 = .ok (.iload_n 2, 1) := by decide +kernel
theorem d_B_got_25 : decode (mB Y_B_got) 25 = .ok (.iconst 0, 1) := by decide +kernel
theorem d_B_got_26 : decode (mB Y_B_got) 26 = .ok (.ldc 251, 2) := by decide +kernel
theorem d_B_got_28 : decode (mB Y_B_got) 28 = .ok (.invokestatic 112, 3) := by decide +kernel
theorem d_B_got_31 : decode (mB Y_B_got) 31 = .ok (.ifCond .eq 13, 3) := by decide +kernel
theorem d_B_got_34 : decode (mB Y_B_got) 34 = .ok (.iload_n 3, 1) := by decide +kernel
theorem d_B_got_35 : decode (mB Y_B_got) 35 = .ok (.iload_n 2, 1) := by decide +kernel
theorem d_B_got_36 : decode (mB Y_B_got) 36 = .ok (.ldc 251, 2) := by decide +kernel
theorem d_B_got_38 : decode (mB Y_B_got) 38 = .ok (.invokestatic 112, 3) := by decide +kernel
theorem d_B_got_41 : decode (mB Y_B_got) 41 = .ok (.ifCond .ne 5, 3) := by decide +kernel
theorem d_B_got_44 : decode (mB Y_B_got) 44 = .ok (.iconst 0, 1) := by decide +kernel
theorem d_B_got_45 : decode (mB Y_B_got) 45 = .ok (.ireturn, 1) := by decide +kernel
theorem d_B_got_46 : decode (mB Y_B_got) 46 = .ok (.aload_n 0, 1) := by decide +kernel
theorem d_B_got_47 : decode (mB Y_B_got) 47 = .ok (.getfield 69, 3) := by decide +kernel
theorem d_B_got_50 : decode (mB Y_B_got) 50 = .ok (.getfield 252, 3) := by decide +kernel
theorem d_B_got_53 : decode (mB Y_B_got) 53 = .ok (.iload_n 1, 1) := by decide +kernel
theorem d_B_got_54 : decode (mB Y_B_got) 54 = .ok (.iload_n 2, 1) := by decide +kernel
theorem d_B_got_55 : decode (mB Y_B_got) 55 = .ok (.iastore, 1) := by decide +kernel
theorem d_B_got_56 : decode (mB Y_B_got) 56 = .ok (.aload_n 0, 1) := by decide +kernel
theorem d_B_got_57 : decode (mB Y_B_got) 57 = .ok (.getfield 69, 3) := by decide +kernel
theorem d_B_got_60 : decode (mB Y_B_got) 60 = .ok (.getfield 255, 3) := by decide +kernel
theorem d_B_got_63 : decode (mB Y_B_got) 63 = .ok (.iload_n 1, 1) := by decide +kernel
theorem d_B_got_64 : decode (mB Y_B_got) 64 = .ok (.iload_n 3, 1) := by decide +kernel
theorem d_B_got_65 : decode (mB Y_B_got) 65 = .ok (.iastore, 1) := by decide +kernel
theorem d_B_got_66 : decode (mB Y_B_got) 66 = .ok (.iconst 1, 1) := by decide +kernel
theorem d_B_got_67 : decode (mB Y_B_got) 67 = .ok (.ireturn, 1) := by decide +kernel
theorem ro_B_got_B_within : roomy Y_B_got Y_B_within := ⟨Nat.le_of_ble_eq_true rfl, Nat.le_of_ble_eq_true rfl⟩
def r_B_got (x1 : Int32) (x2 : Int32) (x3 : Int32) (S : Sto) : Option (Int32 × Sto) :=
  if (r_B_within x1 0 ((S 53 3) - 1)) = 0 then
    some (0, S)
  else
    jn (fun (_ : Unit) =>
      chk (inr x1 8) (
      ltS (sw S 55 x1.toNatClampNeg x2) (fun S1 =>
      chk (inr x1 8) (
      ltS (sw S1 56 x1.toNatClampNeg x3) (fun S2 =>
      some (1, S2)))))) (fun j46 =>
    if x2 = (-1) then
      j46 ()
    else
      if (r_B_within x2 0 199999) = 0 then
        some (0, S)
      else
        if (r_B_within x3 x2 199999) = 0 then
          some (0, S)
        else
          j46 ())
set_option maxHeartbeats 4000000 in
set_option maxRecDepth 20000 in
theorem c_B_got {G : Gl} {L : Shp} (hL : Ext L) (S : Sto) (x1 : Int32) (x2 : Int32) (x3 : Int32)  : Ct Y_B_got G [rf G 0, .int x1, .int x2, .int x3] L S (fi L) (r_B_got x1 x2 x3 S) := by
  refine ct_of (by decide +kernel) (Nat.le_of_ble_eq_true rfl) (fun g C => ?_)
  show VO g Y_B_got G (fun z => Qm g Y_B_got G (fi L z)) 0 0 0 [(0, rf G 0), (1, .int x1), (2, .int x2), (3, .int x3)] [] L S (r_B_got x1 x2 x3 S) some
  unfold r_B_got
  refine v_iload_n (pc := 0) C d_B_got_0 rfl 1 rfl ?_
  refine v_iconst (pc := 1) C d_B_got_1 ic_0 ?_
  refine v_aload_n (pc := 2) C d_B_got_2 rfl 0 rfl ?_
  refine v_getR (pc := 3) C fl_B_69 (sh_0 hL) rfl d_B_got_3 ?_
  refine v_getI (pc := 6) C fl_B_246 (sh_53 hL) rfl d_B_got_6 ?_
  refine v_iconst (pc := 9) C d_B_got_9 ic_1 ?_
  refine v_isub (pc := 10) C d_B_got_10 ?_
  refine v_ct (pc := 11) (inv_S (As := [.int x1, .int 0, .int ((S 53 3) - 1)]) (st := []) C ml_B_112 ms_B_within ro_B_got_B_within rfl rfl (Nat.le_of_ble_eq_true rfl) d_B_got_11) (c_B_within hL S x1 0 ((S 53 3) - 1)) ⟨rfl, rfl⟩ ⟨Nat.zero_le _, Nat.zero_le _⟩ ?_
  refine v_if_ne (pc := 14) (tgt := 19) C d_B_got_14 rfl (fun _ => ?_) (fun _ => ?_)
  · refine v_iload_n (pc := 19) C d_B_got_19 rfl 2 rfl ?_
    refine v_iconst (pc := 20) C d_B_got_20 ic_m1 ?_
    refine v_jn (fun j => VO g Y_B_got G (fun z => Qm g Y_B_got G (fi L z)) 0 0 46 [(0, rf G 0), (1, .int x1), (2, .int x2), (3, .int x3)] [] L S (j ()) some) (?_) (fun j46 hj46 => ?_)
    · refine v_aload_n (pc := 46) C d_B_got_46 rfl 0 rfl ?_
      refine v_getR (pc := 47) C fl_B_69 (sh_0 hL) rfl d_B_got_47 ?_
      refine v_getR (pc := 50) C fl_B_252 (sh_53 hL) rfl d_B_got_50 ?_
      refine v_iload_n (pc := 53) C d_B_got_53 rfl 1 rfl ?_
      refine v_iload_n (pc := 54) C d_B_got_54 rfl 2 rfl ?_
      refine v_iast (pc := 55) C (sh_55 hL) d_B_got_55 (fun _ S1 => ?_)
      refine v_aload_n (pc := 56) C d_B_got_56 rfl 0 rfl ?_
      refine v_getR (pc := 57) C fl_B_69 (sh_0 hL) rfl d_B_got_57 ?_
      refine v_getR (pc := 60) C fl_B_255 (sh_53 hL) rfl d_B_got_60 ?_
      refine v_iload_n (pc := 63) C d_B_got_63 rfl 1 rfl ?_
      refine v_iload_n (pc := 64) C d_B_got_64 rfl 3 rfl ?_
      refine v_iast (pc := 65) C (sh_56 hL) d_B_got_65 (fun _ S2 => ?_)
      refine v_iconst (pc := 66) C d_B_got_66 ic_1 ?_
      exact v_zret (z := (1, S2)) C d_B_got_67 rfl (b01_n (by decide)) ⟨Nat.zero_le _, Nat.zero_le _⟩ (rfl) rfl
    · refine v_icmp_eq (pc := 21) (tgt := 46) C d_B_got_21 rfl (fun _ => ?_) (fun _ => ?_)
      · exact hj46
      · refine v_iload_n (pc := 24) C d_B_got_24 rfl 2 rfl ?_
        refine v_iconst (pc := 25) C d_B_got_25 ic_0 ?_
        refine v_ldc (pc := 26) C d_B_got_26 kc_B_251 ?_
        refine v_ct (pc := 28) (inv_S (As := [.int x2, .int 0, .int 199999]) (st := []) C ml_B_112 ms_B_within ro_B_got_B_within rfl rfl (Nat.le_of_ble_eq_true rfl) d_B_got_28) (c_B_within hL S x2 0 199999) ⟨rfl, rfl⟩ ⟨Nat.zero_le _, Nat.zero_le _⟩ ?_
        refine v_if_eq (pc := 31) (tgt := 44) C d_B_got_31 rfl (fun _ => ?_) (fun _ => ?_)
        · refine v_iconst (pc := 44) C d_B_got_44 ic_0 ?_
          exact v_zret (z := (0, S)) C d_B_got_45 rfl (b01_n (by decide)) ⟨Nat.zero_le _, Nat.zero_le _⟩ (rfl) rfl
        · refine v_iload_n (pc := 34) C d_B_got_34 rfl 3 rfl ?_
          refine v_iload_n (pc := 35) C d_B_got_35 rfl 2 rfl ?_
          refine v_ldc (pc := 36) C d_B_got_36 kc_B_251 ?_
          refine v_ct (pc := 38) (inv_S (As := [.int x3, .int x2, .int 199999]) (st := []) C ml_B_112 ms_B_within ro_B_got_B_within rfl rfl (Nat.le_of_ble_eq_true rfl) d_B_got_38) (c_B_within hL S x3 x2 199999) ⟨rfl, rfl⟩ ⟨Nat.zero_le _, Nat.zero_le _⟩ ?_
          refine v_if_ne (pc := 41) (tgt := 46) C d_B_got_41 rfl (fun _ => ?_) (fun _ => ?_)
          · exact hj46
          · refine v_iconst (pc := 44) C d_B_got_44 ic_0 ?_
            exact v_zret (z := (0, S)) C d_B_got_45 rfl (b01_n (by decide)) ⟨Nat.zero_le _, Nat.zero_le _⟩ (rfl) rfl
  · refine v_iconst (pc := 17) C d_B_got_17 ic_0 ?_
    exact v_zret (z := (0, S)) C d_B_got_18 rfl (b01_n (by decide)) ⟨Nat.zero_le _, Nat.zero_le _⟩ (rfl) rfl
-- B_mayBeFrom
theorem d_B_mayBeFrom_0 : decode (mB Y_B_mayBeFrom) 0 = .ok (.iconst 0, 1) := by decide +kernel
theorem d_B_mayBeFrom_1 : decode (mB Y_B_mayBeFrom) 1 = .ok (.istore_n 2, 1) := by decide +kernel
theorem d_B_mayBeFrom_2 : decode (mB Y_B_mayBeFrom) 2 = .ok (.iload_n 2, 1) := by decide +kernel
theorem d_B_mayBeFrom_3 : decode (mB Y_B_mayBeFrom) 3 = .ok (.aload_n 0, 1) := by decide +kernel
theorem d_B_mayBeFrom_4 : decode (mB Y_B_mayBeFrom) 4 = .ok (.getfield 69, 3) := by decide +kernel
theorem d_B_mayBeFrom_7 : decode (mB Y_B_mayBeFrom) 7 = .ok (.getfield 246, 3) := by decide +kernel
theorem d_B_mayBeFrom_10 : decode (mB Y_B_mayBeFrom) 10 = .ok (.if_icmp .ge 45, 3) := by decide +kernel
theorem d_B_mayBeFrom_13 : decode (mB Y_B_mayBeFrom) 13 = .ok (.aload_n 0, 1) := by decide +kernel
theorem d_B_mayBeFrom_14 : decode (mB Y_B_mayBeFrom) 14 = .ok (.getfield 69, 3) := by decide +kernel
theorem d_B_mayBeFrom_17 : decode (mB Y_B_mayBeFrom) 17 = .ok (.getfield 252, 3) := by decide +kernel
theorem d_B_mayBeFrom_20 : decode (mB Y_B_mayBeFrom) 20 = .ok (.iload_n 2, 1) := by decide +kernel
theorem d_B_mayBeFrom_21 : decode (mB Y_B_mayBeFrom) 21 = .ok (.iaload, 1) := by decide +kernel
theorem d_B_mayBeFrom_22 : decode (mB Y_B_mayBeFrom) 22 = .ok (.iconst (-1), 1) := by decide +kernel
theorem d_B_mayBeFrom_23 : decode (mB Y_B_mayBeFrom) 23 = .ok (.if_icmp .eq 26, 3) := by decide +kernel
theorem d_B_mayBeFrom_26 : decode (mB Y_B_mayBeFrom) 26 = .ok (.aload_n 0, 1) := by decide +kernel
theorem d_B_mayBeFrom_27 : decode (mB Y_B_mayBeFrom) 27 = .ok (.getfield 69, 3) := by decide +kernel
theorem d_B_mayBeFrom_30 : decode (mB Y_B_mayBeFrom) 30 = .ok (.getfield 261, 3) := by decide +kernel
theorem d_B_mayBeFrom_33 : decode (mB Y_B_mayBeFrom) 33 = .ok (.iload_n 2, 1) := by decide +kernel
theorem d_B_mayBeFrom_34 : decode (mB Y_B_mayBeFrom) 34 = .ok (.aload_n 0, 1) := by decide +kernel
theorem d_B_mayBeFrom_35 : decode (mB Y_B_mayBeFrom) 35 = .ok (.getfield 12, 3) := by decide +kernel
theorem d_B_mayBeFrom_38 : decode (mB Y_B_mayBeFrom) 38 = .ok (.iload_n 1, 1) := by decide +kernel
theorem d_B_mayBeFrom_39 : decode (mB Y_B_mayBeFrom) 39 = .ok (.aload_n 0, 1) := by decide +kernel
theorem d_B_mayBeFrom_40 : decode (mB Y_B_mayBeFrom) 40 = .ok (.getfield 61, 3) := by decide +kernel
theorem d_B_mayBeFrom_43 : decode (mB Y_B_mayBeFrom) 43 = .ok (.iload_n 2, 1) := by decide +kernel
theorem d_B_mayBeFrom_44 : decode (mB Y_B_mayBeFrom) 44 = .ok (.iaload, 1) := by decide +kernel
theorem d_B_mayBeFrom_45 : decode (mB Y_B_mayBeFrom) 45 = .ok (.invokevirtual 129, 3) := by decide +kernel
theorem d_B_mayBeFrom_48 : decode (mB Y_B_mayBeFrom) 48 = .ok (.iastore, 1) := by decide +kernel
theorem d_B_mayBeFrom_49 : decode (mB Y_B_mayBeFrom) 49 = .ok (.iinc 2 1, 3) := by decide +kernel
theorem d_B_mayBeFrom_52 : decode (mB Y_B_mayBeFrom) 52 = .ok (.goto (-50), 3) := by decide +kernel
theorem d_B_mayBeFrom_55 : decode (mB Y_B_mayBeFrom) 55 = .ok (.aload_n 0, 1) := by decide +kernel
theorem d_B_mayBeFrom_56 : decode (mB Y_B_mayBeFrom) 56 = .ok (.getfield 69, 3) := by decide +kernel
theorem d_B_mayBeFrom_59 : decode (mB Y_B_mayBeFrom) 59 = .ok (.iconst (-1), 1) := by decide +kernel
theorem d_B_mayBeFrom_60 : decode (mB Y_B_mayBeFrom) 60 = .ok (.invokevirtual 264, 3) := by decide +kernel
theorem d_B_mayBeFrom_63 : decode (mB Y_B_mayBeFrom) 63 = .ok (.ireturn, 1) := by decide +kernel
theorem ro_B_mayBeFrom_Sp_agreeWithout : roomy Y_B_mayBeFrom Y_Sp_agreeWithout := ⟨Nat.le_of_ble_eq_true rfl, Nat.le_of_ble_eq_true rfl⟩
theorem ro_B_mayBeFrom_Sq_travel : roomy Y_B_mayBeFrom Y_Sq_travel := ⟨Nat.le_of_ble_eq_true rfl, Nat.le_of_ble_eq_true rfl⟩
def r_B_mayBeFrom_L2 (y1_ : Int32) : Nat → Int32 → Sto → Option (Int32 × Sto)
  | 0, _, _ => none
  | n + 1, x2_, S =>
    if (S 53 3) ≤ x2_ then
      some (x2_, S)
    else
      chk (inr x2_ 8) (
      jn (fun (S1 : Sto) =>
        lt (x2_ + 1) (fun v2 =>
        r_B_mayBeFrom_L2 y1_ n v2 S1)) (fun j49 =>
      if (S 55 x2_.toNatClampNeg) = (-1) then
        j49 (S)
      else
        chk (inr x2_ 8) (
        (r_Sq_travel y1_ (S 52 x2_.toNatClampNeg) S).bind (fun r3 =>
        chk (inr x2_ 8) (
        ltS (sw S 54 x2_.toNatClampNeg r3) (fun S4 =>
        j49 (S4)))))))
set_option maxHeartbeats 4000000 in
set_option maxRecDepth 20000 in
theorem w_B_mayBeFrom_L2 {g : Gm} {G : Gl} {L : Shp} (C : Cx g Y_B_mayBeFrom G) (hL : Ext L) (y1_ : Int32)  :
    ∀ (n : Nat) (x2_ : Int32) (S : Sto) (K : (Int32 × Sto) → Option (Int32 × Sto)), (∀ (x2_ : Int32) (S : Sto), VO g Y_B_mayBeFrom G (fun z => Qm g Y_B_mayBeFrom G (fi L z)) 0 0 55 [(0, rf G 0)] [] L S (some (x2_, S)) K) → VO g Y_B_mayBeFrom G (fun z => Qm g Y_B_mayBeFrom G (fi L z)) 0 0 2 [(0, rf G 0), (1, .int y1_), (2, .int x2_)] [] L S (r_B_mayBeFrom_L2 y1_ n x2_ S) K := by
  intro n
  induction n with
  | zero => intro x2_ S K; intros; exact v_none
  | succ n ih =>
    intro x2_ S K hK
    rw [r_B_mayBeFrom_L2]
    refine v_iload_n (pc := 2) C d_B_mayBeFrom_2 rfl 2 rfl ?_
    refine v_aload_n (pc := 3) C d_B_mayBeFrom_3 rfl 0 rfl ?_
    refine v_getR (pc := 4) C fl_B_69 (sh_0 hL) rfl d_B_mayBeFrom_4 ?_
    refine v_getI (pc := 7) C fl_B_246 (sh_53 hL) rfl d_B_mayBeFrom_7 ?_
    refine v_icmp_ge (pc := 10) (tgt := 55) C d_B_mayBeFrom_10 rfl (fun _ => ?_) (fun _ => ?_)
    · refine v_sub [0] rfl ?_
      exact hK x2_ S
    · refine v_aload_n (pc := 13) C d_B_mayBeFrom_13 rfl 0 rfl ?_
      refine v_getR (pc := 14) C fl_B_69 (sh_0 hL) rfl d_B_mayBeFrom_14 ?_
      refine v_getR (pc := 17) C fl_B_252 (sh_53 hL) rfl d_B_mayBeFrom_17 ?_
      refine v_iload_n (pc := 20) C d_B_mayBeFrom_20 rfl 2 rfl ?_
      refine v_iald (pc := 21) C (sh_55 hL) d_B_mayBeFrom_21 (fun _ => ?_)
      refine v_iconst (pc := 22) C d_B_mayBeFrom_22 ic_m1 ?_
      refine v_jn (fun j => ∀ (S1 : Sto), VO g Y_B_mayBeFrom G (fun z => Qm g Y_B_mayBeFrom G (fi L z)) 0 0 49 [(0, rf G 0), (1, .int y1_), (2, .int x2_)] [] L S1 (j (S1)) K) (fun S1 => ?_) (fun j49 hj49 => ?_)
      · refine v_iinc (pc := 49) (p := 2) (c := 1) C d_B_mayBeFrom_49 rfl (by decide) (by decide) (fun v2 => [(2, .int v2), (0, rf G 0), (1, .int y1_)]) (fun _ => rfl) (fun v2 => ?_)
        refine v_goto (pc := 52) (tgt := 2) C d_B_mayBeFrom_52 rfl ?_
        refine v_sub [1, 2, 0] rfl ?_
        exact ih v2 S1 K hK
      · refine v_icmp_eq (pc := 23) (tgt := 49) C d_B_mayBeFrom_23 rfl (fun _ => ?_) (fun _ => ?_)
        · exact hj49 S
        · refine v_aload_n (pc := 26) C d_B_mayBeFrom_26 rfl 0 rfl ?_
          refine v_getR (pc := 27) C fl_B_69 (sh_0 hL) rfl d_B_mayBeFrom_27 ?_
          refine v_getR (pc := 30) C fl_B_261 (sh_53 hL) rfl d_B_mayBeFrom_30 ?_
          refine v_iload_n (pc := 33) C d_B_mayBeFrom_33 rfl 2 rfl ?_
          refine v_aload_n (pc := 34) C d_B_mayBeFrom_34 rfl 0 rfl ?_
          refine v_getR (pc := 35) C fl_B_12 (sh_0 hL) rfl d_B_mayBeFrom_35 ?_
          refine v_iload_n (pc := 38) C d_B_mayBeFrom_38 rfl 1 rfl ?_
          refine v_aload_n (pc := 39) C d_B_mayBeFrom_39 rfl 0 rfl ?_
          refine v_getR (pc := 40) C fl_B_61 (sh_0 hL) rfl d_B_mayBeFrom_40 ?_
          refine v_iload_n (pc := 43) C d_B_mayBeFrom_43 rfl 2 rfl ?_
          refine v_iald (pc := 44) C (sh_52 hL) d_B_mayBeFrom_44 (fun _ => ?_)
          refine v_cp (pc := 45) (inv_V (As := [.int y1_, .int (S 52 x2_.toNatClampNeg)]) (st := [.int x2_, rf G 54]) C ml_B_129 mv_Sq_travel ro_B_mayBeFrom_Sq_travel (sh_1 hL) rfl rfl rfl rfl (Nat.le_of_ble_eq_true rfl) d_B_mayBeFrom_45) (c_Sq_travel hL S y1_ (S 52 x2_.toNatClampNeg)) ⟨rfl, rfl⟩ ⟨Nat.zero_le _, Nat.zero_le _⟩ (fun r3 => ?_)
          refine v_iast (pc := 48) C (sh_54 hL) d_B_mayBeFrom_48 (fun _ S4 => ?_)
          exact hj49 S4
def r_B_mayBeFrom (x1 : Int32) (S : Sto) : Option (Int32 × Sto) :=
  (r_B_mayBeFrom_L2 x1 fu 0 S).bind (fun (v1, S2) =>
  (r_Sp_agreeWithout 53 8 (-1) S2).bind (fun r3 =>
  chk (b01 r3) (
  some (r3, S2))))
set_option maxHeartbeats 4000000 in
set_option maxRecDepth 20000 in
theorem c_B_mayBeFrom {G : Gl} {L : Shp} (hL : Ext L) (S : Sto) (x1 : Int32)  : Ct Y_B_mayBeFrom G [rf G 0, .int x1] L S (fi L) (r_B_mayBeFrom x1 S) := by
  refine ct_of (by decide +kernel) (Nat.le_of_ble_eq_true rfl) (fun g C => ?_)
  show VO g Y_B_mayBeFrom G (fun z => Qm g Y_B_mayBeFrom G (fi L z)) 0 0 0 [(0, rf G 0), (1, .int x1)] [] L S (r_B_mayBeFrom x1 S) some
  unfold r_B_mayBeFrom
  refine v_iconst (pc := 0) C d_B_mayBeFrom_0 ic_0 ?_
  refine v_istore_n (pc := 1) (lv' := [(2, .int 0), (0, rf G 0), (1, .int x1)]) C d_B_mayBeFrom_1 rfl (by decide) rfl ?_
  refine v_sub [1, 2, 0] rfl ?_
  refine v_bind ?_
  refine w_B_mayBeFrom_L2 C hL x1  fu 0 S _ (fun v1 S2 => ?_) 
  refine v_some ?_
  refine v_aload_n (pc := 55) C d_B_mayBeFrom_55 rfl 0 rfl ?_
  refine v_getR (pc := 56) C fl_B_69 (sh_0 hL) rfl d_B_mayBeFrom_56 ?_
  refine v_iconst (pc := 59) C d_B_mayBeFrom_59 ic_m1 ?_
  refine v_cp (pc := 60) (inv_V (As := [.int (-1)]) (st := []) C ml_B_264 mv_Sp_agreeWithout ro_B_mayBeFrom_Sp_agreeWithout (sh_53 hL) rfl rfl rfl rfl (Nat.le_of_ble_eq_true rfl) d_B_mayBeFrom_60) (c_Sp_agreeWithout hL S2 53 8 (-1) (ears_at hL)) ⟨rfl, rfl⟩ ⟨Nat.zero_le _, Nat.zero_le _⟩ (fun r3 => ?_)
  refine v_chk (fun hb => ?_)
  exact v_zret (z := (r3, S2)) C d_B_mayBeFrom_63 rfl (b01_n hb) ⟨Nat.zero_le _, Nat.zero_le _⟩ (rfl) rfl
