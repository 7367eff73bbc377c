-- Str_coder
theorem d_Str_coder_0 : decode (mB Y_Str_coder) 0 = .ok (.getstatic 38, 3) := by decide +kernel
theorem d_Str_coder_3 : decode (mB Y_Str_coder) 3 = .ok (.ifCond .eq 10, 3) := by decide +kernel
theorem d_Str_coder_6 : decode (mB Y_Str_coder) 6 = .ok (.aload_n 0, 1) := by decide +kernel
theorem d_Str_coder_7 : decode (mB Y_Str_coder) 7 = .ok (.getfield 15, 3) := by decide +kernel
theorem d_Str_coder_10 : decode (mB Y_Str_coder) 10 = .ok (.goto 4, 3) := by decide +kernel
theorem d_Str_coder_13 : decode (mB Y_Str_coder) 13 = .ok (.iconst 1, 1) := by decide +kernel
theorem d_Str_coder_14 : decode (mB Y_Str_coder) 14 = .ok (.ireturn, 1) := by decide +kernel
def r_Str_coder (i0 : Nat) (S : Sto) : Int32 := 0
set_option maxHeartbeats 4000000 in
set_option maxRecDepth 20000 in
theorem c_Str_coder {G : Gl} {L : Shp} (hL : Ext L) (S : Sto) (i0 : Nat) (h0 : i0 < 3) : Ct Y_Str_coder G [rs G i0] L S (fp L S) (some (r_Str_coder i0 S)) := by
  refine ct_of (by decide +kernel) (Nat.le_of_ble_eq_true rfl) (fun g C => ?_)
  have e : (some (r_Str_coder i0 S) : Option Int32) = some 0 := rfl
  rw [e]
  show VO g Y_Str_coder G (fun z => Qm g Y_Str_coder G (fp L S z)) 0 0 0 [(0, rs G i0)] [] L S _ some
  refine v_getsC (pc := 0) C sf_Str_38 d_Str_coder_0 ?_
  refine v_if_eq_f (pc := 3) C d_Str_coder_3 13 rfl (by decide) ?_
  refine v_aloadS_n (pc := 6) C d_Str_coder_6 rfl 0 rfl ?_
  refine v_sgetC (pc := 7) C h0 sf_Str_15 d_Str_coder_7 ?_
  refine v_goto (pc := 10) (tgt := 14) C d_Str_coder_10 rfl ?_
  exact v_zret (z := 0) C d_Str_coder_14 rfl (by decide) ⟨Nat.zero_le _, Nat.zero_le _⟩ (rfl) rfl
-- Str_length
theorem d_Str_length_0 : decode (mB Y_Str_length) 0 = .ok (.aload_n 0, 1) := by decide +kernel
theorem d_Str_length_1 : decode (mB Y_Str_length) 1 = .ok (.getfield 9, 3) := by decide +kernel
theorem d_Str_length_4 : decode (mB Y_Str_length) 4 = .ok (.arraylength, 1) := by decide +kernel
theorem d_Str_length_5 : decode (mB Y_Str_length) 5 = .ok (.aload_n 0, 1) := by decide +kernel
theorem d_Str_length_6 : decode (mB Y_Str_length) 6 = .ok (.invokevirtual 335, 3) := by decide +kernel
theorem d_Str_length_9 : decode (mB Y_Str_length) 9 = .ok (.ishr, 1) := by decide +kernel
theorem d_Str_length_10 : decode (mB Y_Str_length) 10 = .ok (.ireturn, 1) := by decide +kernel
theorem ro_Str_length_Str_coder : roomy Y_Str_length Y_Str_coder := ⟨Nat.le_of_ble_eq_true rfl, Nat.le_of_ble_eq_true rfl⟩
def r_Str_length (i0 : Nat) (S : Sto) : Int32 := (nI (sln i0)) >>> (0 &&& 31)
set_option maxHeartbeats 4000000 in
set_option maxRecDepth 20000 in
theorem c_Str_length {G : Gl} {L : Shp} (hL : Ext L) (S : Sto) (i0 : Nat) (h0 : i0 < 3) : Ct Y_Str_length G [rs G i0] L S (fp L S) (some (r_Str_length i0 S)) := by
  refine ct_of (by decide +kernel) (Nat.le_of_ble_eq_true rfl) (fun g C => ?_)
  have e : (some (r_Str_length i0 S) : Option Int32) = some ((nI (sln i0)) >>> (0 &&& 31)) := rfl
  rw [e]
  show VO g Y_Str_length G (fun z => Qm g Y_Str_length G (fp L S z)) 0 0 0 [(0, rs G i0)] [] L S _ some
  refine v_aloadS_n (pc := 0) C d_Str_length_0 rfl 0 rfl ?_
  refine v_sgetV (pc := 1) C h0 sf_Str_9 d_Str_length_1 ?_
  refine v_slen (pc := 4) C h0 d_Str_length_4 ?_
  refine v_aloadS_n (pc := 5) C d_Str_length_5 rfl 0 rfl ?_
  refine v_ct (v := 0) (pc := 6) (inv_VS (As := []) (st := [.int (nI (sln i0))]) C h0 ml_Str_335 mv_Str_coder ro_Str_length_Str_coder rfl rfl rfl (Nat.le_of_ble_eq_true rfl) d_Str_length_6) (c_Str_coder hL S i0 h0) ⟨rfl, rfl⟩ ⟨Nat.zero_le _, Nat.zero_le _⟩ ?_
  refine v_ishr (pc := 9) C d_Str_length_9 ?_
  exact v_iret (z := ((nI (sln i0)) >>> (0 &&& 31))) C d_Str_length_10 rfl ⟨Nat.zero_le _, Nat.zero_le _⟩ (rfl) rfl
-- Str_isLatin1
theorem d_Str_isLatin1_0 : decode (mB Y_Str_isLatin1) 0 = .ok (.getstatic 38, 3) := by decide +kernel
theorem d_Str_isLatin1_3 : decode (mB Y_Str_isLatin1) 3 = .ok (.ifCond .eq 14, 3) := by decide +kernel
theorem d_Str_isLatin1_6 : decode (mB Y_Str_isLatin1) 6 = .ok (.aload_n 0, 1) := by decide +kernel
theorem d_Str_isLatin1_7 : decode (mB Y_Str_isLatin1) 7 = .ok (.getfield 15, 3) := by decide +kernel
theorem d_Str_isLatin1_10 : decode (mB Y_Str_isLatin1) 10 = .ok (.ifCond .ne 7, 3) := by decide +kernel
theorem d_Str_isLatin1_13 : decode (mB Y_Str_isLatin1) 13 = .ok (.iconst 1, 1) := by decide +kernel
theorem d_Str_isLatin1_14 : decode (mB Y_Str_isLatin1) 14 = .ok (.goto 4, 3) := by decide +kernel
theorem d_Str_isLatin1_17 : decode (mB Y_Str_isLatin1) 17 = .ok (.iconst 0, 1) := by decide +kernel
theorem d_Str_isLatin1_18 : decode (mB Y_Str_isLatin1) 18 = .ok (.ireturn, 1) := by decide +kernel
def r_Str_isLatin1 (i0 : Nat) (S : Sto) : Int32 := 1
theorem z_Str_isLatin1 (i0 : Nat) (S : Sto) : b01 (r_Str_isLatin1 i0 S) = true := by
  unfold r_Str_isLatin1
  (repeat' split) <;> first | rfl | decide | rfl
set_option maxHeartbeats 4000000 in
set_option maxRecDepth 20000 in
theorem c_Str_isLatin1 {G : Gl} {L : Shp} (hL : Ext L) (S : Sto) (i0 : Nat) (h0 : i0 < 3) : Ct Y_Str_isLatin1 G [rs G i0] L S (fp L S) (some (r_Str_isLatin1 i0 S)) := by
  refine ct_of (by decide +kernel) (Nat.le_of_ble_eq_true rfl) (fun g C => ?_)
  have e : (some (r_Str_isLatin1 i0 S) : Option Int32) = some 1 := rfl
  rw [e]
  show VO g Y_Str_isLatin1 G (fun z => Qm g Y_Str_isLatin1 G (fp L S z)) 0 0 0 [(0, rs G i0)] [] L S _ some
  refine v_getsC (pc := 0) C sf_Str_38 d_Str_isLatin1_0 ?_
  refine v_if_eq_f (pc := 3) C d_Str_isLatin1_3 17 rfl (by decide) ?_
  refine v_aloadS_n (pc := 6) C d_Str_isLatin1_6 rfl 0 rfl ?_
  refine v_sgetC (pc := 7) C h0 sf_Str_15 d_Str_isLatin1_7 ?_
  refine v_if_ne_f (pc := 10) C d_Str_isLatin1_10 17 rfl (by decide) ?_
  refine v_iconst (pc := 13) C d_Str_isLatin1_13 ic_1 ?_
  refine v_goto (pc := 14) (tgt := 18) C d_Str_isLatin1_14 rfl ?_
  exact v_zret (z := 1) C d_Str_isLatin1_18 rfl (b01_n (by decide)) ⟨Nat.zero_le _, Nat.zero_le _⟩ (rfl) rfl
-- SL_charAt
theorem d_SL_charAt_0 : decode (mB Y_SL_charAt) 0 = .ok (.iload_n 1, 1) := by decide +kernel
theorem d_SL_charAt_1 : decode (mB Y_SL_charAt) 1 = .ok (.aload_n 0, 1) := by decide +kernel
theorem d_SL_charAt_2 : decode (mB Y_SL_charAt) 2 = .ok (.arraylength, 1) := by decide +kernel
theorem d_SL_charAt_3 : decode (mB Y_SL_charAt) 3 = .ok (.invokestatic 9, 3) := by decide +kernel
theorem d_SL_charAt_6 : decode (mB Y_SL_charAt) 6 = .ok (.aload_n 0, 1) := by decide +kernel
theorem d_SL_charAt_7 : decode (mB Y_SL_charAt) 7 = .ok (.iload_n 1, 1) := by decide +kernel
theorem d_SL_charAt_8 : decode (mB Y_SL_charAt) 8 = .ok (.baload, 1) := by decide +kernel
theorem d_SL_charAt_9 : decode (mB Y_SL_charAt) 9 = .ok (.sipush 255, 3) := by decide +kernel
theorem d_SL_charAt_12 : decode (mB Y_SL_charAt) 12 = .ok (.iand, 1) := by decide +kernel
theorem d_SL_charAt_13 : decode (mB Y_SL_charAt) 13 = .ok (.i2c, 1) := by decide +kernel
theorem d_SL_charAt_14 : decode (mB Y_SL_charAt) 14 = .ok (.ireturn, 1) := by decide +kernel
theorem ro_SL_charAt_Str_checkIndex : roomy Y_SL_charAt Y_Str_checkIndex := ⟨Nat.le_of_ble_eq_true rfl, Nat.le_of_ble_eq_true rfl⟩
def r_SL_charAt (i0 : Nat) (x1 : Int32) (S : Sto) : Option (Int32 × Sto) :=
  (r_Str_checkIndex x1 (nI (sln i0)) S).bind (fun S1 =>
  chk (inr x1 (sln i0)) (
  some ((((sbt i0 x1.toNatClampNeg) &&& 255).toUInt32 % 65536).toInt32, S1)))
set_option maxHeartbeats 4000000 in
set_option maxRecDepth 20000 in
theorem c_SL_charAt {G : Gl} {L : Shp} (hL : Ext L) (S : Sto) (i0 : Nat) (x1 : Int32) (h0 : i0 < 3) : Ct Y_SL_charAt G [rv G i0, .int x1] L S (fi L) (r_SL_charAt i0 x1 S) := by
  refine ct_of (by decide +kernel) (Nat.le_of_ble_eq_true rfl) (fun g C => ?_)
  show VO g Y_SL_charAt G (fun z => Qm g Y_SL_charAt G (fi L z)) 0 0 0 [(0, rv G i0), (1, .int x1)] [] L S (r_SL_charAt i0 x1 S) some
  unfold r_SL_charAt
  refine v_iload_n (pc := 0) C d_SL_charAt_0 rfl 1 rfl ?_
  refine v_aloadB_n (pc := 1) C d_SL_charAt_1 rfl 0 rfl ?_
  refine v_slen (pc := 2) C h0 d_SL_charAt_2 ?_
  refine v_cv (pc := 3) (inv_S (As := [.int x1, .int (nI (sln i0))]) (st := []) C ml_SL_9 ms_Str_checkIndex ro_SL_charAt_Str_checkIndex rfl rfl (Nat.le_of_ble_eq_true rfl) d_SL_charAt_3) (c_Str_checkIndex hL S x1 (nI (sln i0))) ⟨rfl, rfl⟩ ⟨Nat.zero_le _, Nat.zero_le _⟩ (fun S1 => ?_)
  refine v_aloadB_n (pc := 6) C d_SL_charAt_6 rfl 0 rfl ?_
  refine v_iload_n (pc := 7) C d_SL_charAt_7 rfl 1 rfl ?_
  refine v_sbald (pc := 8) C h0 d_SL_charAt_8 (fun _ => ?_)
  refine v_sipush (pc := 9) C d_SL_charAt_9 sp_255 ?_
  refine v_iand (pc := 12) C d_SL_charAt_12 ?_
  refine v_i2c (pc := 13) C d_SL_charAt_13 ?_
  exact v_zret (z := ((((sbt i0 x1.toNatClampNeg) &&& 255).toUInt32 % 65536).toInt32, S1)) C d_SL_charAt_14 rfl (pk_nc _) ⟨Nat.zero_le _, Nat.zero_le _⟩ (rfl) rfl
-- Str_charAt
theorem d_Str_charAt_0 : decode (mB Y_Str_charAt) 0 = .ok (.aload_n 0, 1) := by decide +kernel
theorem d_Str_charAt_1 : decode (mB Y_Str_charAt) 1 = .ok (.invokevirtual 492, 3) := by decide +kernel
theorem d_Str_charAt_4 : decode (mB Y_Str_charAt) 4 = .ok (.ifCond .eq 12, 3) := by decide +kernel
theorem d_Str_charAt_7 : decode (mB Y_Str_charAt) 7 = .ok (.aload_n 0, 1) := by decide +kernel
theorem d_Str_charAt_8 : decode (mB Y_Str_charAt) 8 = .ok (.getfield 9, 3) := by decide +kernel
theorem d_Str_charAt_11 : decode (mB Y_Str_charAt) 11 = .ok (.iload_n 1, 1) := by decide +kernel
theorem d_Str_charAt_12 : decode (mB Y_Str_charAt) 12 = .ok (.invokestatic 495, 3) := by decide +kernel
theorem d_Str_charAt_15 : decode (mB Y_Str_charAt) 15 = .ok (.ireturn, 1) := by decide +kernel
theorem d_Str_charAt_16 : decode (mB Y_Str_charAt) 16 = .ok (.aload_n 0, 1) := by decide +kernel
theorem d_Str_charAt_17 : decode (mB Y_Str_charAt) 17 = .ok (.getfield 9, 3) := by decide +kernel
theorem d_Str_charAt_20 : decode (mB Y_Str_charAt) 20 = .ok (.iload_n 1, 1) := by decide +kernel
theorem d_Str_charAt_21 : decode (mB Y_Str_charAt) 21 = .ok (.invokestatic 498, 3) := by decide +kernel
theorem d_Str_charAt_24 : decode (mB Y_Str_charAt) 24 = .ok (.ireturn, 1) := by decide +kernel
theorem ro_Str_charAt_SL_charAt : roomy Y_Str_charAt Y_SL_charAt := ⟨Nat.le_of_ble_eq_true rfl, Nat.le_of_ble_eq_true rfl⟩
theorem ro_Str_charAt_Str_isLatin1 : roomy Y_Str_charAt Y_Str_isLatin1 := ⟨Nat.le_of_ble_eq_true rfl, Nat.le_of_ble_eq_true rfl⟩
def r_Str_charAt (i0 : Nat) (x1 : Int32) (S : Sto) : Option (Int32 × Sto) :=
  (r_SL_charAt i0 x1 S).bind (fun (r1, S2) =>
  chk (isch r1) (
  some (r1, S2)))
set_option maxHeartbeats 4000000 in
set_option maxRecDepth 20000 in
theorem c_Str_charAt {G : Gl} {L : Shp} (hL : Ext L) (S : Sto) (i0 : Nat) (x1 : Int32) (h0 : i0 < 3) : Ct Y_Str_charAt G [rs G i0, .int x1] L S (fi L) (r_Str_charAt i0 x1 S) := by
  refine ct_of (by decide +kernel) (Nat.le_of_ble_eq_true rfl) (fun g C => ?_)
  show VO g Y_Str_charAt G (fun z => Qm g Y_Str_charAt G (fi L z)) 0 0 0 [(0, rs G i0), (1, .int x1)] [] L S (r_Str_charAt i0 x1 S) some
  unfold r_Str_charAt
  refine v_aloadS_n (pc := 0) C d_Str_charAt_0 rfl 0 rfl ?_
  refine v_ct (v := 1) (pc := 1) (inv_VS (As := []) (st := []) C h0 ml_Str_492 mv_Str_isLatin1 ro_Str_charAt_Str_isLatin1 rfl rfl rfl (Nat.le_of_ble_eq_true rfl) d_Str_charAt_1) (c_Str_isLatin1 hL S i0 h0) ⟨rfl, rfl⟩ ⟨Nat.zero_le _, Nat.zero_le _⟩ ?_
  refine v_if_eq_f (pc := 4) C d_Str_charAt_4 16 rfl (by decide) ?_
  refine v_aloadS_n (pc := 7) C d_Str_charAt_7 rfl 0 rfl ?_
  refine v_sgetV (pc := 8) C h0 sf_Str_9 d_Str_charAt_8 ?_
  refine v_iload_n (pc := 11) C d_Str_charAt_11 rfl 1 rfl ?_
  refine v_ci (pc := 12) (inv_S (As := [rv G i0, .int x1]) (st := []) C ml_Str_495 ms_SL_charAt ro_Str_charAt_SL_charAt rfl rfl (Nat.le_of_ble_eq_true rfl) d_Str_charAt_12) (c_SL_charAt hL S i0 x1 h0) ⟨rfl, rfl⟩ ⟨Nat.zero_le _, Nat.zero_le _⟩ (fun r1 S2 => ?_)
  refine v_chk (fun hb => ?_)
  exact v_zret (z := (r1, S2)) C d_Str_charAt_15 rfl (of_decide_eq_true hb) ⟨Nat.zero_le _, Nat.zero_le _⟩ (rfl) rfl
-- SL_canEncode
theorem d_SL_canEncode_0 : decode (mB Y_SL_canEncode) 0 = .ok (.iload_n 0, 1) := by decide +kernel
theorem d_SL_canEncode_1 : decode (mB Y_SL_canEncode) 1 = .ok (.ifCond .lt 14, 3) := by decide +kernel
theorem d_SL_canEncode_4 : decode (mB Y_SL_canEncode) 4 = .ok (.iload_n 0, 1) := by decide +kernel
theorem d_SL_canEncode_5 : decode (mB Y_SL_canEncode) 5 = .ok (.sipush 255, 3) := by decide +kernel
theorem d_SL_canEncode_8 : decode (mB Y_SL_canEncode) 8 = .ok (.if_icmp .gt 7, 3) := by decide +kernel
theorem d_SL_canEncode_11 : decode (mB Y_SL_canEncode) 11 = .ok (.iconst 1, 1) := by decide +kernel
theorem d_SL_canEncode_12 : decode (mB Y_SL_canEncode) 12 = .ok (.goto 4, 3) := by decide +kernel
theorem d_SL_canEncode_15 : decode (mB Y_SL_canEncode) 15 = .ok (.iconst 0, 1) := by decide +kernel
theorem d_SL_canEncode_16 : decode (mB Y_SL_canEncode) 16 = .ok (.ireturn, 1) := by decide +kernel
def r_SL_canEncode (x0 : Int32) : Int32 := (if x0 < 0 then 0 else (if 255 < x0 then 0 else 1))
theorem z_SL_canEncode (x0 : Int32) : b01 (r_SL_canEncode x0) = true := by
  unfold r_SL_canEncode
  (repeat' split) <;> first | rfl | decide | rfl
set_option maxHeartbeats 4000000 in
set_option maxRecDepth 20000 in
theorem c_SL_canEncode {G : Gl} {L : Shp} (hL : Ext L) (S : Sto) (x0 : Int32)  : Ct Y_SL_canEncode G [.int x0] L S (fp L S) (some (r_SL_canEncode x0)) := by
  refine ct_of (by decide +kernel) (Nat.le_of_ble_eq_true rfl) (fun g C => ?_)
  have e : (some (r_SL_canEncode x0) : Option Int32) =
      if x0 < 0 then
        some 0
      else
        if 255 < x0 then
          some 0
        else
          some 1 := by
    unfold r_SL_canEncode
    simp only [some_ite, lt, ltJ]
  rw [e]
  show VO g Y_SL_canEncode G (fun z => Qm g Y_SL_canEncode G (fp L S z)) 0 0 0 [(0, .int x0)] [] L S _ some
  refine v_iload_n (pc := 0) C d_SL_canEncode_0 rfl 0 rfl ?_
  refine v_if_lt (pc := 1) (tgt := 15) C d_SL_canEncode_1 rfl (fun _ => ?_) (fun _ => ?_)
  · refine v_iconst (pc := 15) C d_SL_canEncode_15 ic_0 ?_
    exact v_zret (z := 0) C d_SL_canEncode_16 rfl (b01_n (by decide)) ⟨Nat.zero_le _, Nat.zero_le _⟩ (rfl) rfl
  · refine v_iload_n (pc := 4) C d_SL_canEncode_4 rfl 0 rfl ?_
    refine v_sipush (pc := 5) C d_SL_canEncode_5 sp_255 ?_
    refine v_icmp_gt (pc := 8) (tgt := 15) C d_SL_canEncode_8 rfl (fun _ => ?_) (fun _ => ?_)
    · refine v_iconst (pc := 15) C d_SL_canEncode_15 ic_0 ?_
      exact v_zret (z := 0) C d_SL_canEncode_16 rfl (b01_n (by decide)) ⟨Nat.zero_le _, Nat.zero_le _⟩ (rfl) rfl
    · refine v_iconst (pc := 11) C d_SL_canEncode_11 ic_1 ?_
      refine v_goto (pc := 12) (tgt := 16) C d_SL_canEncode_12 rfl ?_
      exact v_zret (z := 1) C d_SL_canEncode_16 rfl (b01_n (by decide)) ⟨Nat.zero_le _, Nat.zero_le _⟩ (rfl) rfl
-- SL_indexOfChar
theorem d_SL_indexOfChar_0 : decode (mB Y_SL_indexOfChar) 0 = .ok (.iload_n 1, 1) := by decide +kernel
theorem d_SL_indexOfChar_1 : decode (mB Y_SL_indexOfChar) 1 = .ok (.i2b, 1) := by decide +kernel
theorem d_SL_indexOfChar_2 : decode (mB Y_SL_indexOfChar) 2 = .ok (.istore 4, 2) := by decide +kernel
theorem d_SL_indexOfChar_4 : decode (mB Y_SL_indexOfChar) 4 = .ok (.iload_n 2, 1) := by decide +kernel
theorem d_SL_indexOfChar_5 : decode (mB Y_SL_indexOfChar) 5 = .ok (.istore 5, 2) := by decide +kernel
theorem d_SL_indexOfChar_7 : decode (mB Y_SL_indexOfChar) 7 = .ok (.iload 5, 2) := by decide +kernel
theorem d_SL_indexOfChar_9 : decode (mB Y_SL_indexOfChar) 9 = .ok (.iload_n 3, 1) := by decide +kernel
theorem d_SL_indexOfChar_10 : decode (mB Y_SL_indexOfChar) 10 = .ok (.if_icmp .ge 21, 3) := by decide +kernel
theorem d_SL_indexOfChar_13 : decode (mB Y_SL_indexOfChar) 13 = .ok (.aload_n 0, 1) := by decide +kernel
theorem d_SL_indexOfChar_14 : decode (mB Y_SL_indexOfChar) 14 = .ok (.iload 5, 2) := by decide +kernel
theorem d_SL_indexOfChar_16 : decode (mB Y_SL_indexOfChar) 16 = .ok (.baload, 1) := by decide +kernel
theorem d_SL_indexOfChar_17 : decode (mB Y_SL_indexOfChar) 17 = .ok (.iload 4, 2) := by decide +kernel
theorem d_SL_indexOfChar_19 : decode (mB Y_SL_indexOfChar) 19 = .ok (.if_icmp .ne 6, 3) := by decide +kernel
theorem d_SL_indexOfChar_22 : decode (mB Y_SL_indexOfChar) 22 = .ok (.iload 5, 2) := by decide +kernel
theorem d_SL_indexOfChar_24 : decode (mB Y_SL_indexOfChar) 24 = .ok (.ireturn, 1) := by decide +kernel
theorem d_SL_indexOfChar_25 : decode (mB Y_SL_indexOfChar) 25 = .ok (.iinc 5 1, 3) := by decide +kernel
theorem d_SL_indexOfChar_28 : decode (mB Y_SL_indexOfChar) 28 = .ok (.goto (-21), 3) := by decide +kernel
theorem d_SL_indexOfChar_31 : decode (mB Y_SL_indexOfChar) 31 = .ok (.iconst (-1), 1) := by decide +kernel
theorem d_SL_indexOfChar_32 : decode (mB Y_SL_indexOfChar) 32 = .ok (.ireturn, 1) := by decide +kernel
def r_SL_indexOfChar_L7 (i0_ : Nat) (y3_ : Int32) (y4_ : Int32) : Nat → Int32 → Sto → Option ((Int32) ⊕ Int32)
  | 0, _, _ => none
  | n + 1, x5_, S =>
    if y3_ ≤ x5_ then
      some (.inl (x5_))
    else
      chk (inr x5_ (sln i0_)) (
      if (sbt i0_ x5_.toNatClampNeg) = y4_ then
        some (.inr x5_)
      else
        lt (x5_ + 1) (fun v1 =>
        r_SL_indexOfChar_L7 i0_ y3_ y4_ n v1 S))
set_option maxHeartbeats 4000000 in
set_option maxRecDepth 20000 in
theorem w_SL_indexOfChar_L7 {g : Gm} {G : Gl} {L : Shp} (C : Cx g Y_SL_indexOfChar G) (hL : Ext L) (S : Sto) (i0_ : Nat) (y3_ : Int32) (y4_ : Int32) (h0_ : i0_ < 3) :
    ∀ (n : Nat) (x5_ : Int32) (K : ((Int32) ⊕ Int32) → Option Int32), (∀ (x5_ : Int32), VO g Y_SL_indexOfChar G (fun z => Qm g Y_SL_indexOfChar G (fp L S z)) 0 0 31 [] [] L S (some (.inl (x5_))) K) → (∀ x, K (.inr x) = some x) → VO g Y_SL_indexOfChar G (fun z => Qm g Y_SL_indexOfChar G (fp L S z)) 0 0 7 [(0, rv G i0_), (3, .int y3_), (4, .int y4_), (5, .int x5_)] [] L S (r_SL_indexOfChar_L7 i0_ y3_ y4_ n x5_ S) K := by
  intro n
  induction n with
  | zero => intro x5_ K; intros; exact v_none
  | succ n ih =>
    intro x5_ K hK hR
    rw [r_SL_indexOfChar_L7]
    refine v_iload (pc := 7) C d_SL_indexOfChar_7 3 rfl ?_
    refine v_iload_n (pc := 9) C d_SL_indexOfChar_9 rfl 1 rfl ?_
    refine v_icmp_ge (pc := 10) (tgt := 31) C d_SL_indexOfChar_10 rfl (fun _ => ?_) (fun _ => ?_)
    · refine v_sub [] rfl ?_
      exact hK x5_
    · refine v_aloadB_n (pc := 13) C d_SL_indexOfChar_13 rfl 0 rfl ?_
      refine v_iload (pc := 14) C d_SL_indexOfChar_14 3 rfl ?_
      refine v_sbald (pc := 16) C h0_ d_SL_indexOfChar_16 (fun _ => ?_)
      refine v_iload (pc := 17) C d_SL_indexOfChar_17 2 rfl ?_
      refine v_icmp_ne (pc := 19) (tgt := 25) C d_SL_indexOfChar_19 rfl (fun _ => ?_) (fun _ => ?_)
      · refine v_iinc (pc := 25) (p := 3) (c := 1) C d_SL_indexOfChar_25 rfl (by decide) (by decide) (fun v1 => [(5, .int v1), (0, rv G i0_), (3, .int y3_), (4, .int y4_)]) (fun _ => rfl) (fun v1 => ?_)
        refine v_goto (pc := 28) (tgt := 7) C d_SL_indexOfChar_28 rfl ?_
        refine v_sub [1, 2, 3, 0] rfl ?_
        exact ih v1 K hK hR
      · refine v_iload (pc := 22) C d_SL_indexOfChar_22 3 rfl ?_
        exact v_iret (z := x5_) C d_SL_indexOfChar_24 rfl ⟨Nat.zero_le _, Nat.zero_le _⟩ (hR _) rfl
def r_SL_indexOfChar (i0 : Nat) (x1 : Int32) (x2 : Int32) (x3 : Int32) (S : Sto) : Option Int32 :=
  lt x1.toInt8.toInt32 (fun v1 =>
  (r_SL_indexOfChar_L7 i0 x3 v1 fu x2 S).bind (fun x => match x with
  | .inl (v2) =>
    some (-1)
  | .inr r => some r))
set_option maxHeartbeats 4000000 in
set_option maxRecDepth 20000 in
theorem c_SL_indexOfChar {G : Gl} {L : Shp} (hL : Ext L) (S : Sto) (i0 : Nat) (x1 : Int32) (x2 : Int32) (x3 : Int32) (h0 : i0 < 3) : Ct Y_SL_indexOfChar G [rv G i0, .int x1, .int x2, .int x3] L S (fp L S) (r_SL_indexOfChar i0 x1 x2 x3 S) := by
  refine ct_of (by decide +kernel) (Nat.le_of_ble_eq_true rfl) (fun g C => ?_)
  show VO g Y_SL_indexOfChar G (fun z => Qm g Y_SL_indexOfChar G (fp L S z)) 0 0 0 [(0, rv G i0), (1, .int x1), (2, .int x2), (3, .int x3)] [] L S (r_SL_indexOfChar i0 x1 x2 x3 S) some
  unfold r_SL_indexOfChar
  refine v_iload_n (pc := 0) C d_SL_indexOfChar_0 rfl 1 rfl ?_
  refine v_i2b (pc := 1) C d_SL_indexOfChar_1 ?_
  refine v_lt (fun v1 => ?_)
  refine v_istore (pc := 2) (lv' := [(4, .int v1), (0, rv G i0), (1, .int x1), (2, .int x2), (3, .int x3)]) C d_SL_indexOfChar_2 (by decide) rfl ?_
  refine v_iload_n (pc := 4) C d_SL_indexOfChar_4 rfl 3 rfl ?_
  refine v_istore (pc := 5) (lv' := [(5, .int x2), (4, .int v1), (0, rv G i0), (1, .int x1), (2, .int x2), (3, .int x3)]) C d_SL_indexOfChar_5 (by decide) rfl ?_
  refine v_sub [2, 5, 1, 0] rfl ?_
  refine v_bind ?_
  refine w_SL_indexOfChar_L7 C hL S i0 x3 v1 h0 fu x2 _ (fun v2 => ?_) (fun z => rfl)
  refine v_some ?_
  refine v_iconst (pc := 31) C d_SL_indexOfChar_31 ic_m1 ?_
  exact v_iret (z := (-1)) C d_SL_indexOfChar_32 rfl ⟨Nat.zero_le _, Nat.zero_le _⟩ (rfl) rfl
-- SL_indexOf
theorem d_SL_indexOf_0 : decode (mB Y_SL_indexOf) 0 = .ok (.iload_n 1, 1) := by decide +kernel
theorem d_SL_indexOf_1 : decode (mB Y_SL_indexOf) 1 = .ok (.invokestatic 88, 3) := by decide +kernel
theorem d_SL_indexOf_4 : decode (mB Y_SL_indexOf) 4 = .ok (.ifCond .ne 5, 3) := by decide +kernel
theorem d_SL_indexOf_7 : decode (mB Y_SL_indexOf) 7 = .ok (.iconst (-1), 1) := by decide +kernel
theorem d_SL_indexOf_8 : decode (mB Y_SL_indexOf) 8 = .ok (.ireturn, 1) := by decide +kernel
theorem d_SL_indexOf_9 : decode (mB Y_SL_indexOf) 9 = .ok (.iload_n 2, 1) := by decide +kernel
theorem d_SL_indexOf_10 : decode (mB Y_SL_indexOf) 10 = .ok (.iconst 0, 1) := by decide +kernel
theorem d_SL_indexOf_11 : decode (mB Y_SL_indexOf) 11 = .ok (.invokestatic 92, 3) := by decide +kernel
theorem d_SL_indexOf_14 : decode (mB Y_SL_indexOf) 14 = .ok (.istore_n 2, 1) := by decide +kernel
theorem d_SL_indexOf_15 : decode (mB Y_SL_indexOf) 15 = .ok (.iload_n 3, 1) := by decide +kernel
theorem d_SL_indexOf_16 : decode (mB Y_SL_indexOf) 16 = .ok (.aload_n 0, 1) := by decide +kernel
theorem d_SL_indexOf_17 : decode (mB Y_SL_indexOf) 17 = .ok (.arraylength, 1) := by decide +kernel
theorem d_SL_indexOf_18 : decode (mB Y_SL_indexOf) 18 = .ok (.invokestatic 38, 3) := by decide +kernel
theorem d_SL_indexOf_21 : decode (mB Y_SL_indexOf) 21 = .ok (.istore_n 3, 1) := by decide +kernel
theorem d_SL_indexOf_22 : decode (mB Y_SL_indexOf) 22 = .ok (.iload_n 2, 1) := by decide +kernel
theorem d_SL_indexOf_23 : decode (mB Y_SL_indexOf) 23 = .ok (.iload_n 3, 1) := by decide +kernel
theorem d_SL_indexOf_24 : decode (mB Y_SL_indexOf) 24 = .ok (.if_icmp .lt 5, 3) := by decide +kernel
theorem d_SL_indexOf_27 : decode (mB Y_SL_indexOf) 27 = .ok (.iconst (-1), 1) := by decide +kernel
theorem d_SL_indexOf_28 : decode (mB Y_SL_indexOf) 28 = .ok (.ireturn, 1) := by decide +kernel
theorem d_SL_indexOf_29 : decode (mB Y_SL_indexOf) 29 = .ok (.aload_n 0, 1) := by decide +kernel
theorem d_SL_indexOf_30 : decode (mB Y_SL_indexOf) 30 = .ok (.iload_n 1, 1) := by decide +kernel
theorem d_SL_indexOf_31 : decode (mB Y_SL_indexOf) 31 = .ok (.iload_n 2, 1) := by decide +kernel
theorem d_SL_indexOf_32 : decode (mB Y_SL_indexOf) 32 = .ok (.iload_n 3, 1) := by decide +kernel
theorem d_SL_indexOf_33 : decode (mB Y_SL_indexOf) 33 = .ok (.invokestatic 95, 3) := by decide +kernel
theorem d_SL_indexOf_36 : decode (mB Y_SL_indexOf) 36 = .ok (.ireturn, 1) := by decide +kernel
theorem ro_SL_indexOf_Ma_max : roomy Y_SL_indexOf Y_Ma_max := ⟨Nat.le_of_ble_eq_true rfl, Nat.le_of_ble_eq_true rfl⟩
theorem ro_SL_indexOf_Ma_min : roomy Y_SL_indexOf Y_Ma_min := ⟨Nat.le_of_ble_eq_true rfl, Nat.le_of_ble_eq_true rfl⟩
theorem ro_SL_indexOf_SL_canEncode : roomy Y_SL_indexOf Y_SL_canEncode := ⟨Nat.le_of_ble_eq_true rfl, Nat.le_of_ble_eq_true rfl⟩
theorem ro_SL_indexOf_SL_indexOfChar : roomy Y_SL_indexOf Y_SL_indexOfChar := ⟨Nat.le_of_ble_eq_true rfl, Nat.le_of_ble_eq_true rfl⟩
def r_SL_indexOf (i0 : Nat) (x1 : Int32) (x2 : Int32) (x3 : Int32) (S : Sto) : Option Int32 :=
  if (r_SL_canEncode x1) = 0 then
    some (-1)
  else
    lt (r_Ma_max x2 0) (fun v1 =>
    lt (r_Ma_min x3 (nI (sln i0))) (fun v2 =>
    if v1 < v2 then
      (r_SL_indexOfChar i0 x1 v1 v2 S).bind (fun r3 =>
      some r3)
    else
      some (-1)))
set_option maxHeartbeats 4000000 in
set_option maxRecDepth 20000 in
theorem c_SL_indexOf {G : Gl} {L : Shp} (hL : Ext L) (S : Sto) (i0 : Nat) (x1 : Int32) (x2 : Int32) (x3 : Int32) (h0 : i0 < 3) : Ct Y_SL_indexOf G [rv G i0, .int x1, .int x2, .int x3] L S (fp L S) (r_SL_indexOf i0 x1 x2 x3 S) := by
  refine ct_of (by decide +kernel) (Nat.le_of_ble_eq_true rfl) (fun g C => ?_)
  show VO g Y_SL_indexOf G (fun z => Qm g Y_SL_indexOf G (fp L S z)) 0 0 0 [(0, rv G i0), (1, .int x1), (2, .int x2), (3, .int x3)] [] L S (r_SL_indexOf i0 x1 x2 x3 S) some
  unfold r_SL_indexOf
  refine v_iload_n (pc := 0) C d_SL_indexOf_0 rfl 1 rfl ?_
  refine v_ct (pc := 1) (inv_S (As := [.int x1]) (st := []) C ml_SL_88 ms_SL_canEncode ro_SL_indexOf_SL_canEncode rfl rfl (Nat.le_of_ble_eq_true rfl) d_SL_indexOf_1) (c_SL_canEncode hL S x1) ⟨rfl, rfl⟩ ⟨Nat.zero_le _, Nat.zero_le _⟩ ?_
  refine v_if_ne (pc := 4) (tgt := 9) C d_SL_indexOf_4 rfl (fun _ => ?_) (fun _ => ?_)
  · refine v_iload_n (pc := 9) C d_SL_indexOf_9 rfl 2 rfl ?_
    refine v_iconst (pc := 10) C d_SL_indexOf_10 ic_0 ?_
    refine v_ct (pc := 11) (inv_S (As := [.int x2, .int 0]) (st := []) C ml_SL_92 ms_Ma_max ro_SL_indexOf_Ma_max rfl rfl (Nat.le_of_ble_eq_true rfl) d_SL_indexOf_11) (c_Ma_max hL S x2 0) ⟨rfl, rfl⟩ ⟨Nat.zero_le _, Nat.zero_le _⟩ ?_
    refine v_lt (fun v1 => ?_)
    refine v_istore_n (pc := 14) (lv' := [(2, .int v1), (0, rv G i0), (1, .int x1), (3, .int x3)]) C d_SL_indexOf_14 rfl (by decide) rfl ?_
    refine v_iload_n (pc := 15) C d_SL_indexOf_15 rfl 3 rfl ?_
    refine v_aloadB_n (pc := 16) C d_SL_indexOf_16 rfl 1 rfl ?_
    refine v_slen (pc := 17) C h0 d_SL_indexOf_17 ?_
    refine v_ct (pc := 18) (inv_S (As := [.int x3, .int (nI (sln i0))]) (st := []) C ml_SL_38 ms_Ma_min ro_SL_indexOf_Ma_min rfl rfl (Nat.le_of_ble_eq_true rfl) d_SL_indexOf_18) (c_Ma_min hL S x3 (nI (sln i0))) ⟨rfl, rfl⟩ ⟨Nat.zero_le _, Nat.zero_le _⟩ ?_
    refine v_lt (fun v2 => ?_)
    refine v_istore_n (pc := 21) (lv' := [(3, .int v2), (2, .int v1), (0, rv G i0), (1, .int x1)]) C d_SL_indexOf_21 rfl (by decide) rfl ?_
    refine v_iload_n (pc := 22) C d_SL_indexOf_22 rfl 1 rfl ?_
    refine v_iload_n (pc := 23) C d_SL_indexOf_23 rfl 0 rfl ?_
    refine v_icmp_lt (pc := 24) (tgt := 29) C d_SL_indexOf_24 rfl (fun _ => ?_) (fun _ => ?_)
    · refine v_aloadB_n (pc := 29) C d_SL_indexOf_29 rfl 2 rfl ?_
      refine v_iload_n (pc := 30) C d_SL_indexOf_30 rfl 3 rfl ?_
      refine v_iload_n (pc := 31) C d_SL_indexOf_31 rfl 1 rfl ?_
      refine v_iload_n (pc := 32) C d_SL_indexOf_32 rfl 0 rfl ?_
      refine v_cp (pc := 33) (inv_S (As := [rv G i0, .int x1, .int v1, .int v2]) (st := []) C ml_SL_95 ms_SL_indexOfChar ro_SL_indexOf_SL_indexOfChar rfl rfl (Nat.le_of_ble_eq_true rfl) d_SL_indexOf_33) (c_SL_indexOfChar hL S i0 x1 v1 v2 h0) ⟨rfl, rfl⟩ ⟨Nat.zero_le _, Nat.zero_le _⟩ (fun r3 => ?_)
      exact v_iret (z := r3) C d_SL_indexOf_36 rfl ⟨Nat.zero_le _, Nat.zero_le _⟩ (rfl) rfl
    · refine v_iconst (pc := 27) C d_SL_indexOf_27 ic_m1 ?_
      exact v_iret (z := (-1)) C d_SL_indexOf_28 rfl ⟨Nat.zero_le _, Nat.zero_le _⟩ (rfl) rfl
  · refine v_iconst (pc := 7) C d_SL_indexOf_7 ic_m1 ?_
    exact v_iret (z := (-1)) C d_SL_indexOf_8 rfl ⟨Nat.zero_le _, Nat.zero_le _⟩ (rfl) rfl
-- Str_indexOf_1
theorem d_Str_indexOf_1_0 : decode (mB Y_Str_indexOf_1) 0 = .ok (.aload_n 0, 1) := by decide +kernel
theorem d_Str_indexOf_1_1 : decode (mB Y_Str_indexOf_1) 1 = .ok (.invokevirtual 492, 3) := by decide +kernel
theorem d_Str_indexOf_1_4 : decode (mB Y_Str_indexOf_1) 4 = .ok (.ifCond .eq 19, 3) := by decide +kernel
theorem d_Str_indexOf_1_7 : decode (mB Y_Str_indexOf_1) 7 = .ok (.aload_n 0, 1) := by decide +kernel
theorem d_Str_indexOf_1_8 : decode (mB Y_Str_indexOf_1) 8 = .ok (.getfield 9, 3) := by decide +kernel
theorem d_Str_indexOf_1_11 : decode (mB Y_Str_indexOf_1) 11 = .ok (.iload_n 1, 1) := by decide +kernel
theorem d_Str_indexOf_1_12 : decode (mB Y_Str_indexOf_1) 12 = .ok (.iload_n 2, 1) := by decide +kernel
theorem d_Str_indexOf_1_13 : decode (mB Y_Str_indexOf_1) 13 = .ok (.aload_n 0, 1) := by decide +kernel
theorem d_Str_indexOf_1_14 : decode (mB Y_Str_indexOf_1) 14 = .ok (.invokevirtual 505, 3) := by decide +kernel
theorem d_Str_indexOf_1_17 : decode (mB Y_Str_indexOf_1) 17 = .ok (.invokestatic 637, 3) := by decide +kernel
theorem d_Str_indexOf_1_20 : decode (mB Y_Str_indexOf_1) 20 = .ok (.goto 16, 3) := by decide +kernel
theorem d_Str_indexOf_1_23 : decode (mB Y_Str_indexOf_1) 23 = .ok (.aload_n 0, 1) := by decide +kernel
theorem d_Str_indexOf_1_24 : decode (mB Y_Str_indexOf_1) 24 = .ok (.getfield 9, 3) := by decide +kernel
theorem d_Str_indexOf_1_27 : decode (mB Y_Str_indexOf_1) 27 = .ok (.iload_n 1, 1) := by decide +kernel
theorem d_Str_indexOf_1_28 : decode (mB Y_Str_indexOf_1) 28 = .ok (.iload_n 2, 1) := by decide +kernel
theorem d_Str_indexOf_1_29 : decode (mB Y_Str_indexOf_1) 29 = .ok (.aload_n 0, 1) := by decide +kernel
theorem d_Str_indexOf_1_30 : decode (mB Y_Str_indexOf_1) 30 = .ok (.invokevirtual 505, 3) := by decide +kernel
theorem d_Str_indexOf_1_33 : decode (mB Y_Str_indexOf_1) 33 = .ok (.invokestatic 640, 3) := by decide +kernel
theorem d_Str_indexOf_1_36 : decode (mB Y_Str_indexOf_1) 36 = .ok (.ireturn, 1) := by decide +kernel
theorem ro_Str_indexOf_1_SL_indexOf : roomy Y_Str_indexOf_1 Y_SL_indexOf := ⟨Nat.le_of_ble_eq_true rfl, Nat.le_of_ble_eq_true rfl⟩
theorem ro_Str_indexOf_1_Str_isLatin1 : roomy Y_Str_indexOf_1 Y_Str_isLatin1 := ⟨Nat.le_of_ble_eq_true rfl, Nat.le_of_ble_eq_true rfl⟩
theorem ro_Str_indexOf_1_Str_length : roomy Y_Str_indexOf_1 Y_Str_length := ⟨Nat.le_of_ble_eq_true rfl, Nat.le_of_ble_eq_true rfl⟩
def r_Str_indexOf_1 (i0 : Nat) (x1 : Int32) (x2 : Int32) (S : Sto) : Option Int32 :=
  (r_SL_indexOf i0 x1 x2 (r_Str_length i0 S) S).bind (fun r1 =>
  some r1)
set_option maxHeartbeats 4000000 in
set_option maxRecDepth 20000 in
theorem c_Str_indexOf_1 {G : Gl} {L : Shp} (hL : Ext L) (S : Sto) (i0 : Nat) (x1 : Int32) (x2 : Int32) (h0 : i0 < 3) : Ct Y_Str_indexOf_1 G [rs G i0, .int x1, .int x2] L S (fp L S) (r_Str_indexOf_1 i0 x1 x2 S) := by
  refine ct_of (by decide +kernel) (Nat.le_of_ble_eq_true rfl) (fun g C => ?_)
  show VO g Y_Str_indexOf_1 G (fun z => Qm g Y_Str_indexOf_1 G (fp L S z)) 0 0 0 [(0, rs G i0), (1, .int x1), (2, .int x2)] [] L S (r_Str_indexOf_1 i0 x1 x2 S) some
  unfold r_Str_indexOf_1
  refine v_aloadS_n (pc := 0) C d_Str_indexOf_1_0 rfl 0 rfl ?_
  refine v_ct (v := 1) (pc := 1) (inv_VS (As := []) (st := []) C h0 ml_Str_492 mv_Str_isLatin1 ro_Str_indexOf_1_Str_isLatin1 rfl rfl rfl (Nat.le_of_ble_eq_true rfl) d_Str_indexOf_1_1) (c_Str_isLatin1 hL S i0 h0) ⟨rfl, rfl⟩ ⟨Nat.zero_le _, Nat.zero_le _⟩ ?_
  refine v_if_eq_f (pc := 4) C d_Str_indexOf_1_4 23 rfl (by decide) ?_
  refine v_aloadS_n (pc := 7) C d_Str_indexOf_1_7 rfl 0 rfl ?_
  refine v_sgetV (pc := 8) C h0 sf_Str_9 d_Str_indexOf_1_8 ?_
  refine v_iload_n (pc := 11) C d_Str_indexOf_1_11 rfl 1 rfl ?_
  refine v_iload_n (pc := 12) C d_Str_indexOf_1_12 rfl 2 rfl ?_
  refine v_aloadS_n (pc := 13) C d_Str_indexOf_1_13 rfl 0 rfl ?_
  refine v_ct (pc := 14) (inv_VS (As := []) (st := [.int x2, .int x1, rv G i0]) C h0 ml_Str_505 mv_Str_length ro_Str_indexOf_1_Str_length rfl rfl rfl (Nat.le_of_ble_eq_true rfl) d_Str_indexOf_1_14) (c_Str_length hL S i0 h0) ⟨rfl, rfl⟩ ⟨Nat.zero_le _, Nat.zero_le _⟩ ?_
  refine v_cp (pc := 17) (inv_S (As := [rv G i0, .int x1, .int x2, .int (r_Str_length i0 S)]) (st := []) C ml_Str_637 ms_SL_indexOf ro_Str_indexOf_1_SL_indexOf rfl rfl (Nat.le_of_ble_eq_true rfl) d_Str_indexOf_1_17) (c_SL_indexOf hL S i0 x1 x2 (r_Str_length i0 S) h0) ⟨rfl, rfl⟩ ⟨Nat.zero_le _, Nat.zero_le _⟩ (fun r1 => ?_)
  refine v_goto (pc := 20) (tgt := 36) C d_Str_indexOf_1_20 rfl ?_
  exact v_iret (z := r1) C d_Str_indexOf_1_36 rfl ⟨Nat.zero_le _, Nat.zero_le _⟩ (rfl) rfl
-- Str_indexOf_0
theorem d_Str_indexOf_0_0 : decode (mB Y_Str_indexOf_0) 0 = .ok (.aload_n 0, 1) := by decide +kernel
theorem d_Str_indexOf_0_1 : decode (mB Y_Str_indexOf_0) 1 = .ok (.iload_n 1, 1) := by decide +kernel
theorem d_Str_indexOf_0_2 : decode (mB Y_Str_indexOf_0) 2 = .ok (.iconst 0, 1) := by decide +kernel
theorem d_Str_indexOf_0_3 : decode (mB Y_Str_indexOf_0) 3 = .ok (.invokevirtual 633, 3) := by decide +kernel
theorem d_Str_indexOf_0_6 : decode (mB Y_Str_indexOf_0) 6 = .ok (.ireturn, 1) := by decide +kernel
theorem ro_Str_indexOf_0_Str_indexOf_1 : roomy Y_Str_indexOf_0 Y_Str_indexOf_1 := ⟨Nat.le_of_ble_eq_true rfl, Nat.le_of_ble_eq_true rfl⟩
def r_Str_indexOf_0 (i0 : Nat) (x1 : Int32) (S : Sto) : Option Int32 :=
  (r_Str_indexOf_1 i0 x1 0 S).bind (fun r1 =>
  some r1)
set_option maxHeartbeats 4000000 in
set_option maxRecDepth 20000 in
theorem c_Str_indexOf_0 {G : Gl} {L : Shp} (hL : Ext L) (S : Sto) (i0 : Nat) (x1 : Int32) (h0 : i0 < 3) : Ct Y_Str_indexOf_0 G [rs G i0, .int x1] L S (fp L S) (r_Str_indexOf_0 i0 x1 S) := by
  refine ct_of (by decide +kernel) (Nat.le_of_ble_eq_true rfl) (fun g C => ?_)
  show VO g Y_Str_indexOf_0 G (fun z => Qm g Y_Str_indexOf_0 G (fp L S z)) 0 0 0 [(0, rs G i0), (1, .int x1)] [] L S (r_Str_indexOf_0 i0 x1 S) some
  unfold r_Str_indexOf_0
  refine v_aloadS_n (pc := 0) C d_Str_indexOf_0_0 rfl 0 rfl ?_
  refine v_iload_n (pc := 1) C d_Str_indexOf_0_1 rfl 1 rfl ?_
  refine v_iconst (pc := 2) C d_Str_indexOf_0_2 ic_0 ?_
  refine v_cp (pc := 3) (inv_VS (As := [.int x1, .int 0]) (st := []) C h0 ml_Str_633 mv_Str_indexOf_1 ro_Str_indexOf_0_Str_indexOf_1 rfl rfl rfl (Nat.le_of_ble_eq_true rfl) d_Str_indexOf_0_3) (c_Str_indexOf_1 hL S i0 x1 0 h0) ⟨rfl, rfl⟩ ⟨Nat.zero_le _, Nat.zero_le _⟩ (fun r1 => ?_)
  exact v_iret (z := r1) C d_Str_indexOf_0_6 rfl ⟨Nat.zero_le _, Nat.zero_le _⟩ (rfl) rfl
-- B_column
theorem d_B_column_0 : decode (mB Y_B_column) 0 = .ok (.iload_n 0, 1) := by decide +kernel
theorem d_B_column_1 : decode (mB Y_B_column) 1 = .ok (.bipush 60, 2) := by decide +kernel
theorem d_B_column_3 : decode (mB Y_B_column) 3 = .ok (.irem, 1) := by decide +kernel
theorem d_B_column_4 : decode (mB Y_B_column) 4 = .ok (.ireturn, 1) := by decide +kernel
def r_B_column (x0 : Int32) : Int32 := x0 - x0 / 60 * 60
set_option maxHeartbeats 4000000 in
set_option maxRecDepth 20000 in
theorem c_B_column {G : Gl} {L : Shp} (hL : Ext L) (S : Sto) (x0 : Int32)  : Ct Y_B_column G [.int x0] L S (fp L S) (some (r_B_column x0)) := by
  refine ct_of (by decide +kernel) (Nat.le_of_ble_eq_true rfl) (fun g C => ?_)
  have e : (some (r_B_column x0) : Option Int32) = some (x0 - x0 / 60 * 60) := rfl
  rw [e]
  show VO g Y_B_column G (fun z => Qm g Y_B_column G (fp L S z)) 0 0 0 [(0, .int x0)] [] L S _ some
  refine v_iload_n (pc := 0) C d_B_column_0 rfl 0 rfl ?_
  refine v_bipush (pc := 1) C d_B_column_1 bp_60 ?_
  refine v_irem (pc := 3) C d_B_column_3 (by decide) ?_
  exact v_iret (z := (x0 - x0 / 60 * 60)) C d_B_column_4 rfl ⟨Nat.zero_le _, Nat.zero_le _⟩ (rfl) rfl
-- B_row
theorem d_B_row_0 : decode (mB Y_B_row) 0 = .ok (.iload_n 0, 1) := by decide +kernel
theorem d_B_row_1 : decode (mB Y_B_row) 1 = .ok (.bipush 60, 2) := by decide +kernel
theorem d_B_row_3 : decode (mB Y_B_row) 3 = .ok (.idiv, 1) := by decide +kernel
theorem d_B_row_4 : decode (mB Y_B_row) 4 = .ok (.ireturn, 1) := by decide +kernel
def r_B_row (x0 : Int32) : Int32 := x0 / 60
set_option maxHeartbeats 4000000 in
set_option maxRecDepth 20000 in
theorem c_B_row {G : Gl} {L : Shp} (hL : Ext L) (S : Sto) (x0 : Int32)  : Ct Y_B_row G [.int x0] L S (fp L S) (some (r_B_row x0)) := by
  refine ct_of (by decide +kernel) (Nat.le_of_ble_eq_true rfl) (fun g C => ?_)
  have e : (some (r_B_row x0) : Option Int32) = some (x0 / 60) := rfl
  rw [e]
  show VO g Y_B_row G (fun z => Qm g Y_B_row G (fp L S z)) 0 0 0 [(0, .int x0)] [] L S _ some
  refine v_iload_n (pc := 0) C d_B_row_0 rfl 0 rfl ?_
  refine v_bipush (pc := 1) C d_B_row_1 bp_60 ?_
  refine v_idiv (pc := 3) C d_B_row_3 (by decide) ?_
  exact v_iret (z := (x0 / 60)) C d_B_row_4 rfl ⟨Nat.zero_le _, Nat.zero_le _⟩ (rfl) rfl
-- B_distance
theorem d_B_distance_0 : decode (mB Y_B_distance) 0 = .ok (.iload_n 0, 1) := by decide +kernel
theorem d_B_distance_1 : decode (mB Y_B_distance) 1 = .ok (.iload_n 0, 1) := by decide +kernel
theorem d_B_distance_2 : decode (mB Y_B_distance) 2 = .ok (.imul, 1) := by decide +kernel
theorem d_B_distance_3 : decode (mB Y_B_distance) 3 = .ok (.iload_n 1, 1) := by decide +kernel
theorem d_B_distance_4 : decode (mB Y_B_distance) 4 = .ok (.iload_n 1, 1) := by decide +kernel
theorem d_B_distance_5 : decode (mB Y_B_distance) 5 = .ok (.imul, 1) := by decide +kernel
theorem d_B_distance_6 : decode (mB Y_B_distance) 6 = .ok (.iadd, 1) := by decide +kernel
theorem d_B_distance_7 : decode (mB Y_B_distance) 7 = .ok (.istore_n 2, 1) := by decide +kernel
theorem d_B_distance_8 : decode (mB Y_B_distance) 8 = .ok (.iconst 0, 1) := by decide +kernel
theorem d_B_distance_9 : decode (mB Y_B_distance) 9 = .ok (.istore_n 3, 1) := by decide +kernel
theorem d_B_distance_10 : decode (mB Y_B_distance) 10 = .ok (.sipush 128, 3) := by decide +kernel
theorem d_B_distance_13 : decode (mB Y_B_distance) 13 = .ok (.istore 4, 2) := by decide +kernel
theorem d_B_distance_15 : decode (mB Y_B_distance) 15 = .ok (.iload 4, 2) := by decide +kernel
theorem d_B_distance_17 : decode (mB Y_B_distance) 17 = .ok (.ifCond .le 30, 3) := by decide +kernel
theorem d_B_distance_20 : decode (mB Y_B_distance) 20 = .ok (.iload_n 3, 1) := by decide +kernel
theorem d_B_distance_21 : decode (mB Y_B_distance) 21 = .ok (.iload 4, 2) := by decide +kernel
theorem d_B_distance_23 : decode (mB Y_B_distance) 23 = .ok (.iadd, 1) := by decide +kernel
theorem d_B_distance_24 : decode (mB Y_B_distance) 24 = .ok (.iload_n 3, 1) := by decide +kernel
theorem d_B_distance_25 : decode (mB Y_B_distance) 25 = .ok (.iload 4, 2) := by decide +kernel
theorem d_B_distance_27 : decode (mB Y_B_distance) 27 = .ok (.iadd, 1) := by decide +kernel
theorem d_B_distance_28 : decode (mB Y_B_distance) 28 = .ok (.imul, 1) := by decide +kernel
theorem d_B_distance_29 : decode (mB Y_B_distance) 29 = .ok (.iload_n 2, 1) := by decide +kernel
theorem d_B_distance_30 : decode (mB Y_B_distance) 30 = .ok (.if_icmp .gt 8, 3) := by decide +kernel
theorem d_B_distance_33 : decode (mB Y_B_distance) 33 = .ok (.iload_n 3, 1) := by decide +kernel
theorem d_B_distance_34 : decode (mB Y_B_distance) 34 = .ok (.iload 4, 2) := by decide +kernel
theorem d_B_distance_36 : decode (mB Y_B_distance) 36 = .ok (.iadd, 1) := by decide +kernel
theorem d_B_distance_37 : decode (mB Y_B_distance) 37 = .ok (.istore_n 3, 1) := by decide +kernel
theorem d_B_distance_38 : decode (mB Y_B_distance) 38 = .ok (.iload 4, 2) := by decide +kernel
theorem d_B_distance_40 : decode (mB Y_B_distance) 40 = .ok (.iconst 1, 1) := by decide +kernel
theorem d_B_distance_41 : decode (mB Y_B_distance) 41 = .ok (.ishr, 1) := by decide +kernel
theorem d_B_distance_42 : decode (mB Y_B_distance) 42 = .ok (.istore 4, 2) := by decide +kernel
theorem d_B_distance_44 : decode (mB Y_B_distance) 44 = .ok (.goto (-29), 3) := by decide +kernel
theorem d_B_distance_47 : decode (mB Y_B_distance) 47 = .ok (.iload_n 3, 1) := by decide +kernel
theorem d_B_distance_48 : decode (mB Y_B_distance) 48 = .ok (.ireturn, 1) := by decide +kernel
def r_B_distance_L15 (y2_ : Int32) : Nat → Int32 → Int32 → Option (Int32 × Int32)
  | 0, _, _ => none
  | n + 1, x3_, x4_ =>
    if x4_ ≤ 0 then
      some (x3_, x4_)
    else
      jn (fun (v1 : Int32) =>
        lt (x4_ >>> (1 &&& 31)) (fun v2 =>
        r_B_distance_L15 y2_ n v1 v2)) (fun j38 =>
      if y2_ < ((x3_ + x4_) * (x3_ + x4_)) then
        j38 (x3_)
      else
        lt (x3_ + x4_) (fun v3 =>
        j38 (v3)))
set_option maxHeartbeats 4000000 in
set_option maxRecDepth 20000 in
theorem w_B_distance_L15 {g : Gm} {G : Gl} {L : Shp} (C : Cx g Y_B_distance G) (hL : Ext L) (S : Sto) (y2_ : Int32)  :
    ∀ (n : Nat) (x3_ : Int32) (x4_ : Int32) (K : (Int32 × Int32) → Option Int32), (∀ (x3_ : Int32) (x4_ : Int32), VO g Y_B_distance G (fun z => Qm g Y_B_distance G (fp L S z)) 0 0 47 [(3, .int x3_)] [] L S (some (x3_, x4_)) K) → VO g Y_B_distance G (fun z => Qm g Y_B_distance G (fp L S z)) 0 0 15 [(2, .int y2_), (3, .int x3_), (4, .int x4_)] [] L S (r_B_distance_L15 y2_ n x3_ x4_) K := by
  intro n
  induction n with
  | zero => intro x3_ x4_ K; intros; exact v_none
  | succ n ih =>
    intro x3_ x4_ K hK
    rw [r_B_distance_L15]
    refine v_iload (pc := 15) C d_B_distance_15 2 rfl ?_
    refine v_if_le (pc := 17) (tgt := 47) C d_B_distance_17 rfl (fun _ => ?_) (fun _ => ?_)
    · refine v_sub [1] rfl ?_
      exact hK x3_ x4_
    · refine v_iload_n (pc := 20) C d_B_distance_20 rfl 1 rfl ?_
      refine v_iload (pc := 21) C d_B_distance_21 2 rfl ?_
      refine v_iadd (pc := 23) C d_B_distance_23 ?_
      refine v_iload_n (pc := 24) C d_B_distance_24 rfl 1 rfl ?_
      refine v_iload (pc := 25) C d_B_distance_25 2 rfl ?_
      refine v_iadd (pc := 27) C d_B_distance_27 ?_
      refine v_imul (pc := 28) C d_B_distance_28 ?_
      refine v_iload_n (pc := 29) C d_B_distance_29 rfl 0 rfl ?_
      refine v_jn (fun j => ∀ (v1 : Int32), VO g Y_B_distance G (fun z => Qm g Y_B_distance G (fp L S z)) 0 0 38 [(2, .int y2_), (3, .int v1), (4, .int x4_)] [] L S (j (v1)) K) (fun v1 => ?_) (fun j38 hj38 => ?_)
      · refine v_iload (pc := 38) C d_B_distance_38 2 rfl ?_
        refine v_iconst (pc := 40) C d_B_distance_40 ic_1 ?_
        refine v_ishr (pc := 41) C d_B_distance_41 ?_
        refine v_lt (fun v2 => ?_)
        refine v_istore (pc := 42) (lv' := [(4, .int v2), (2, .int y2_), (3, .int v1)]) C d_B_distance_42 (by decide) rfl ?_
        refine v_goto (pc := 44) (tgt := 15) C d_B_distance_44 rfl ?_
        refine v_sub [1, 2, 0] rfl ?_
        exact ih v1 v2 K hK
      · refine v_icmp_gt (pc := 30) (tgt := 38) C d_B_distance_30 rfl (fun _ => ?_) (fun _ => ?_)
        · exact hj38 x3_
        · refine v_iload_n (pc := 33) C d_B_distance_33 rfl 1 rfl ?_
          refine v_iload (pc := 34) C d_B_distance_34 2 rfl ?_
          refine v_iadd (pc := 36) C d_B_distance_36 ?_
          refine v_lt (fun v3 => ?_)
          refine v_istore_n (pc := 37) (lv' := [(3, .int v3), (2, .int y2_), (4, .int x4_)]) C d_B_distance_37 rfl (by decide) rfl ?_
          refine v_sub [1, 0, 2] rfl ?_
          exact hj38 v3
def r_B_distance (x0 : Int32) (x1 : Int32) : Option Int32 :=
  lt ((x0 * x0) + (x1 * x1)) (fun v1 =>
  (r_B_distance_L15 v1 fu 0 128).bind (fun (v2, v3) =>
  some v2))
set_option maxHeartbeats 4000000 in
set_option maxRecDepth 20000 in
theorem c_B_distance {G : Gl} {L : Shp} (hL : Ext L) (S : Sto) (x0 : Int32) (x1 : Int32)  : Ct Y_B_distance G [.int x0, .int x1] L S (fp L S) (r_B_distance x0 x1) := by
  refine ct_of (by decide +kernel) (Nat.le_of_ble_eq_true rfl) (fun g C => ?_)
  show VO g Y_B_distance G (fun z => Qm g Y_B_distance G (fp L S z)) 0 0 0 [(0, .int x0), (1, .int x1)] [] L S (r_B_distance x0 x1) some
  unfold r_B_distance
  refine v_iload_n (pc := 0) C d_B_distance_0 rfl 0 rfl ?_
  refine v_iload_n (pc := 1) C d_B_distance_1 rfl 0 rfl ?_
  refine v_imul (pc := 2) C d_B_distance_2 ?_
  refine v_iload_n (pc := 3) C d_B_distance_3 rfl 1 rfl ?_
  refine v_iload_n (pc := 4) C d_B_distance_4 rfl 1 rfl ?_
  refine v_imul (pc := 5) C d_B_distance_5 ?_
  refine v_iadd (pc := 6) C d_B_distance_6 ?_
  refine v_lt (fun v1 => ?_)
  refine v_istore_n (pc := 7) (lv' := [(2, .int v1), (0, .int x0), (1, .int x1)]) C d_B_distance_7 rfl (by decide) rfl ?_
  refine v_iconst (pc := 8) C d_B_distance_8 ic_0 ?_
  refine v_istore_n (pc := 9) (lv' := [(3, .int 0), (2, .int v1), (0, .int x0), (1, .int x1)]) C d_B_distance_9 rfl (by decide) rfl ?_
  refine v_sipush (pc := 10) C d_B_distance_10 sp_128 ?_
  refine v_istore (pc := 13) (lv' := [(4, .int 128), (3, .int 0), (2, .int v1), (0, .int x0), (1, .int x1)]) C d_B_distance_13 (by decide) rfl ?_
  refine v_sub [2, 1, 0] rfl ?_
  refine v_bind ?_
  refine w_B_distance_L15 C hL S v1  fu 0 128 _ (fun v2 v3 => ?_) 
  refine v_some ?_
  refine v_iload_n (pc := 47) C d_B_distance_47 rfl 0 rfl ?_
  exact v_iret (z := v2) C d_B_distance_48 rfl ⟨Nat.zero_le _, Nat.zero_le _⟩ (rfl) rfl
-- Sq_travel
theorem d_Sq_travel_0 : decode (mB Y_Sq_travel) 0 = .ok (.iload_n 2, 1) := by decide +kernel
theorem d_Sq_travel_1 : decode (mB Y_Sq_travel) 1 = .ok (.invokestatic 22, 3) := by decide +kernel
theorem d_Sq_travel_4 : decode (mB Y_Sq_travel) 4 = .ok (.iload_n 1, 1) := by decide +kernel
theorem d_Sq_travel_5 : decode (mB Y_Sq_travel) 5 = .ok (.invokestatic 22, 3) := by decide +kernel
theorem d_Sq_travel_8 : decode (mB Y_Sq_travel) 8 = .ok (.isub, 1) := by decide +kernel
theorem d_Sq_travel_9 : decode (mB Y_Sq_travel) 9 = .ok (.istore_n 3, 1) := by decide +kernel
theorem d_Sq_travel_10 : decode (mB Y_Sq_travel) 10 = .ok (.iload_n 2, 1) := by decide +kernel
theorem d_Sq_travel_11 : decode (mB Y_Sq_travel) 11 = .ok (.invokestatic 26, 3) := by decide +kernel
theorem d_Sq_travel_14 : decode (mB Y_Sq_travel) 14 = .ok (.iload_n 1, 1) := by decide +kernel
theorem d_Sq_travel_15 : decode (mB Y_Sq_travel) 15 = .ok (.invokestatic 26, 3) := by decide +kernel
theorem d_Sq_travel_18 : decode (mB Y_Sq_travel) 18 = .ok (.isub, 1) := by decide +kernel
theorem d_Sq_travel_19 : decode (mB Y_Sq_travel) 19 = .ok (.istore 4, 2) := by decide +kernel
theorem d_Sq_travel_21 : decode (mB Y_Sq_travel) 21 = .ok (.aload_n 0, 1) := by decide +kernel
theorem d_Sq_travel_22 : decode (mB Y_Sq_travel) 22 = .ok (.getfield 29, 3) := by decide +kernel
theorem d_Sq_travel_25 : decode (mB Y_Sq_travel) 25 = .ok (.iload_n 3, 1) := by decide +kernel
theorem d_Sq_travel_26 : decode (mB Y_Sq_travel) 26 = .ok (.imul, 1) := by decide +kernel
theorem d_Sq_travel_27 : decode (mB Y_Sq_travel) 27 = .ok (.aload_n 0, 1) := by decide +kernel
theorem d_Sq_travel_28 : decode (mB Y_Sq_travel) 28 = .ok (.getfield 32, 3) := by decide +kernel
theorem d_Sq_travel_31 : decode (mB Y_Sq_travel) 31 = .ok (.iload 4, 2) := by decide +kernel
theorem d_Sq_travel_33 : decode (mB Y_Sq_travel) 33 = .ok (.imul, 1) := by decide +kernel
theorem d_Sq_travel_34 : decode (mB Y_Sq_travel) 34 = .ok (.iadd, 1) := by decide +kernel
theorem d_Sq_travel_35 : decode (mB Y_Sq_travel) 35 = .ok (.bipush 8, 2) := by decide +kernel
theorem d_Sq_travel_37 : decode (mB Y_Sq_travel) 37 = .ok (.invokestatic 35, 3) := by decide +kernel
theorem d_Sq_travel_40 : decode (mB Y_Sq_travel) 40 = .ok (.istore 5, 2) := by decide +kernel
theorem d_Sq_travel_42 : decode (mB Y_Sq_travel) 42 = .ok (.iconst 0, 1) := by decide +kernel
theorem d_Sq_travel_43 : decode (mB Y_Sq_travel) 43 = .ok (.aload_n 0, 1) := by decide +kernel
theorem d_Sq_travel_44 : decode (mB Y_Sq_travel) 44 = .ok (.getfield 9, 3) := by decide +kernel
theorem d_Sq_travel_47 : decode (mB Y_Sq_travel) 47 = .ok (.iload_n 3, 1) := by decide +kernel
theorem d_Sq_travel_48 : decode (mB Y_Sq_travel) 48 = .ok (.iload 4, 2) := by decide +kernel
theorem d_Sq_travel_50 : decode (mB Y_Sq_travel) 50 = .ok (.invokestatic 41, 3) := by decide +kernel
theorem d_Sq_travel_53 : decode (mB Y_Sq_travel) 53 = .ok (.imul, 1) := by decide +kernel
theorem d_Sq_travel_54 : decode (mB Y_Sq_travel) 54 = .ok (.iload 5, 2) := by decide +kernel
theorem d_Sq_travel_56 : decode (mB Y_Sq_travel) 56 = .ok (.isub, 1) := by decide +kernel
theorem d_Sq_travel_57 : decode (mB Y_Sq_travel) 57 = .ok (.invokestatic 44, 3) := by decide +kernel
theorem d_Sq_travel_60 : decode (mB Y_Sq_travel) 60 = .ok (.ireturn, 1) := by decide +kernel
theorem ro_Sq_travel_B_column : roomy Y_Sq_travel Y_B_column := ⟨Nat.le_of_ble_eq_true rfl, Nat.le_of_ble_eq_true rfl⟩
theorem ro_Sq_travel_B_distance : roomy Y_Sq_travel Y_B_distance := ⟨Nat.le_of_ble_eq_true rfl, Nat.le_of_ble_eq_true rfl⟩
theorem ro_Sq_travel_B_row : roomy Y_Sq_travel Y_B_row := ⟨Nat.le_of_ble_eq_true rfl, Nat.le_of_ble_eq_true rfl⟩
theorem ro_Sq_travel_Ma_floorDiv : roomy Y_Sq_travel Y_Ma_floorDiv := ⟨Nat.le_of_ble_eq_true rfl, Nat.le_of_ble_eq_true rfl⟩
theorem ro_Sq_travel_Ma_max : roomy Y_Sq_travel Y_Ma_max := ⟨Nat.le_of_ble_eq_true rfl, Nat.le_of_ble_eq_true rfl⟩
def r_Sq_travel (x1 : Int32) (x2 : Int32) (S : Sto) : Option Int32 :=
  lt ((r_B_column x2) - (r_B_column x1)) (fun v1 =>
  lt ((r_B_row x2) - (r_B_row x1)) (fun v2 =>
  (r_Ma_floorDiv (((S 1 1) * v1) + ((S 1 2) * v2)) 8).bind (fun r3 =>
  (r_B_distance v1 v2).bind (fun r4 =>
  some (r_Ma_max 0 (((S 1 0) * r4) - r3))))))
set_option maxHeartbeats 4000000 in
set_option maxRecDepth 20000 in
theorem c_Sq_travel {G : Gl} {L : Shp} (hL : Ext L) (S : Sto) (x1 : Int32) (x2 : Int32)  : Ct Y_Sq_travel G [rf G 1, .int x1, .int x2] L S (fp L S) (r_Sq_travel x1 x2 S) := by
  refine ct_of (by decide +kernel) (Nat.le_of_ble_eq_true rfl) (fun g C => ?_)
  show VO g Y_Sq_travel G (fun z => Qm g Y_Sq_travel G (fp L S z)) 0 0 0 [(0, rf G 1), (1, .int x1), (2, .int x2)] [] L S (r_Sq_travel x1 x2 S) some
  unfold r_Sq_travel
  refine v_iload_n (pc := 0) C d_Sq_travel_0 rfl 2 rfl ?_
  refine v_ct (pc := 1) (inv_SN (As := [.int x2]) (st := []) C mn_Sq_22 ms_B_column ro_Sq_travel_B_column rfl rfl (Nat.le_of_ble_eq_true rfl) d_Sq_travel_1) (c_B_column hL S x2) ⟨rfl, rfl⟩ ⟨Nat.zero_le _, Nat.zero_le _⟩ ?_
  refine v_iload_n (pc := 4) C d_Sq_travel_4 rfl 1 rfl ?_
  refine v_ct (pc := 5) (inv_SN (As := [.int x1]) (st := [.int (r_B_column x2)]) C mn_Sq_22 ms_B_column ro_Sq_travel_B_column rfl rfl (Nat.le_of_ble_eq_true rfl) d_Sq_travel_5) (c_B_column hL S x1) ⟨rfl, rfl⟩ ⟨Nat.zero_le _, Nat.zero_le _⟩ ?_
  refine v_isub (pc := 8) C d_Sq_travel_8 ?_
  refine v_lt (fun v1 => ?_)
  refine v_istore_n (pc := 9) (lv' := [(3, .int v1), (0, rf G 1), (1, .int x1), (2, .int x2)]) C d_Sq_travel_9 rfl (by decide) rfl ?_
  refine v_iload_n (pc := 10) C d_Sq_travel_10 rfl 3 rfl ?_
  refine v_ct (pc := 11) (inv_SN (As := [.int x2]) (st := []) C mn_Sq_26 ms_B_row ro_Sq_travel_B_row rfl rfl (Nat.le_of_ble_eq_true rfl) d_Sq_travel_11) (c_B_row hL S x2) ⟨rfl, rfl⟩ ⟨Nat.zero_le _, Nat.zero_le _⟩ ?_
  refine v_iload_n (pc := 14) C d_Sq_travel_14 rfl 2 rfl ?_
  refine v_ct (pc := 15) (inv_SN (As := [.int x1]) (st := [.int (r_B_row x2)]) C mn_Sq_26 ms_B_row ro_Sq_travel_B_row rfl rfl (Nat.le_of_ble_eq_true rfl) d_Sq_travel_15) (c_B_row hL S x1) ⟨rfl, rfl⟩ ⟨Nat.zero_le _, Nat.zero_le _⟩ ?_
  refine v_isub (pc := 18) C d_Sq_travel_18 ?_
  refine v_lt (fun v2 => ?_)
  refine v_istore (pc := 19) (lv' := [(4, .int v2), (3, .int v1), (0, rf G 1), (1, .int x1), (2, .int x2)]) C d_Sq_travel_19 (by decide) rfl ?_
  refine v_aload_n (pc := 21) C d_Sq_travel_21 rfl 2 rfl ?_
  refine v_getI (pc := 22) C fl_Sq_29 (sh_1 hL) rfl d_Sq_travel_22 ?_
  refine v_iload_n (pc := 25) C d_Sq_travel_25 rfl 1 rfl ?_
  refine v_imul (pc := 26) C d_Sq_travel_26 ?_
  refine v_aload_n (pc := 27) C d_Sq_travel_27 rfl 2 rfl ?_
  refine v_getI (pc := 28) C fl_Sq_32 (sh_1 hL) rfl d_Sq_travel_28 ?_
  refine v_iload (pc := 31) C d_Sq_travel_31 0 rfl ?_
  refine v_imul (pc := 33) C d_Sq_travel_33 ?_
  refine v_iadd (pc := 34) C d_Sq_travel_34 ?_
  refine v_bipush (pc := 35) C d_Sq_travel_35 bp_8 ?_
  refine v_cp (pc := 37) (inv_S (As := [.int (((S 1 1) * v1) + ((S 1 2) * v2)), .int 8]) (st := []) C ml_Sq_35 ms_Ma_floorDiv ro_Sq_travel_Ma_floorDiv rfl rfl (Nat.le_of_ble_eq_true rfl) d_Sq_travel_37) (c_Ma_floorDiv hL S (((S 1 1) * v1) + ((S 1 2) * v2)) 8) ⟨rfl, rfl⟩ ⟨Nat.zero_le _, Nat.zero_le _⟩ (fun r3 => ?_)
  refine v_istore (pc := 40) (lv' := [(5, .int r3), (4, .int v2), (3, .int v1), (0, rf G 1), (1, .int x1), (2, .int x2)]) C d_Sq_travel_40 (by decide) rfl ?_
  refine v_iconst (pc := 42) C d_Sq_travel_42 ic_0 ?_
  refine v_aload_n (pc := 43) C d_Sq_travel_43 rfl 3 rfl ?_
  refine v_getI (pc := 44) C fl_Sq_9 (sh_1 hL) rfl d_Sq_travel_44 ?_
  refine v_iload_n (pc := 47) C d_Sq_travel_47 rfl 2 rfl ?_
  refine v_iload (pc := 48) C d_Sq_travel_48 1 rfl ?_
  refine v_cp (pc := 50) (inv_SN (As := [.int v1, .int v2]) (st := [.int (S 1 0), .int 0]) C mn_Sq_41 ms_B_distance ro_Sq_travel_B_distance rfl rfl (Nat.le_of_ble_eq_true rfl) d_Sq_travel_50) (c_B_distance hL S v1 v2) ⟨rfl, rfl⟩ ⟨Nat.zero_le _, Nat.zero_le _⟩ (fun r4 => ?_)
  refine v_imul (pc := 53) C d_Sq_travel_53 ?_
  refine v_iload (pc := 54) C d_Sq_travel_54 0 rfl ?_
  refine v_isub (pc := 56) C d_Sq_travel_56 ?_
  refine v_ct (pc := 57) (inv_S (As := [.int 0, .int (((S 1 0) * r4) - r3)]) (st := []) C ml_Sq_44 ms_Ma_max ro_Sq_travel_Ma_max rfl rfl (Nat.le_of_ble_eq_true rfl) d_Sq_travel_57) (c_Ma_max hL S 0 (((S 1 0) * r4) - r3)) ⟨rfl, rfl⟩ ⟨Nat.zero_le _, Nat.zero_le _⟩ ?_
  exact v_iret (z := (r_Ma_max 0 (((S 1 0) * r4) - r3))) C d_Sq_travel_60 rfl ⟨Nat.zero_le _, Nat.zero_le _⟩ (rfl) rfl
-- Wl_build
theorem d_Wl_build_0 : decode (mB Y_Wl_build) 0 = .ok (.aload_n 0, 1) := by decide +kernel
theorem d_Wl_build_1 : decode (mB Y_Wl_build) 1 = .ok (.iload_n 1, 1) := by decide +kernel
theorem d_Wl_build_2 : decode (mB Y_Wl_build) 2 = .ok (.putfield 9, 3) := by decide +kernel
theorem d_Wl_build_5 : decode (mB Y_Wl_build) 5 = .ok (.aload_n 0, 1) := by decide +kernel
theorem d_Wl_build_6 : decode (mB Y_Wl_build) 6 = .ok (.iload_n 2, 1) := by decide +kernel
theorem d_Wl_build_7 : decode (mB Y_Wl_build) 7 = .ok (.putfield 15, 3) := by decide +kernel
theorem d_Wl_build_10 : decode (mB Y_Wl_build) 10 = .ok (.aload_n 0, 1) := by decide +kernel
theorem d_Wl_build_11 : decode (mB Y_Wl_build) 11 = .ok (.iload_n 3, 1) := by decide +kernel
theorem d_Wl_build_12 : decode (mB Y_Wl_build) 12 = .ok (.putfield 19, 3) := by decide +kernel
theorem d_Wl_build_15 : decode (mB Y_Wl_build) 15 = .ok (.aload_n 0, 1) := by decide +kernel
theorem d_Wl_build_16 : decode (mB Y_Wl_build) 16 = .ok (.iload 4, 2) := by decide +kernel
theorem d_Wl_build_18 : decode (mB Y_Wl_build) 18 = .ok (.putfield 22, 3) := by decide +kernel
theorem d_Wl_build_21 : decode (mB Y_Wl_build) 21 = .ok (.aload_n 0, 1) := by decide +kernel
theorem d_Wl_build_22 : decode (mB Y_Wl_build) 22 = .ok (.iload 5, 2) := by decide +kernel
theorem d_Wl_build_24 : decode (mB Y_Wl_build) 24 = .ok (.putfield 25, 3) := by decide +kernel
theorem d_Wl_build_27 : decode (mB Y_Wl_build) 27 = .ok (.return_, 1) := by decide +kernel
def r_Wl_build (a0 : Nat) (x1 : Int32) (x2 : Int32) (x3 : Int32) (x4 : Int32) (x5 : Int32) (S : Sto) : Option Sto :=
  chk (b01 x1) (
  ltS (sw S a0 0 x1) (fun S1 =>
  ltS (sw S1 a0 1 x2) (fun S2 =>
  ltS (sw S2 a0 2 x3) (fun S3 =>
  ltS (sw S3 a0 3 x4) (fun S4 =>
  ltS (sw S4 a0 4 x5) (fun S5 =>
  some S5))))))
set_option maxHeartbeats 4000000 in
set_option maxRecDepth 20000 in
theorem c_Wl_build {G : Gl} {L : Shp} (hL : Ext L) (S : Sto) (a0 : Nat) (x1 : Int32) (x2 : Int32) (x3 : Int32) (x4 : Int32) (x5 : Int32) (h0 : isWall L a0) : Ct Y_Wl_build G [rf G a0, .int x1, .int x2, .int x3, .int x4, .int x5] L S (fv L) (r_Wl_build a0 x1 x2 x3 x4 x5 S) := by
  refine ct_of (by decide +kernel) (Nat.le_of_ble_eq_true rfl) (fun g C => ?_)
  show VO g Y_Wl_build G (fun z => Qm g Y_Wl_build G (fv L z)) 0 0 0 [(0, rf G a0), (1, .int x1), (2, .int x2), (3, .int x3), (4, .int x4), (5, .int x5)] [] L S (r_Wl_build a0 x1 x2 x3 x4 x5 S) some
  unfold r_Wl_build
  refine v_aload_n (pc := 0) C d_Wl_build_0 rfl 0 rfl ?_
  refine v_iload_n (pc := 1) C d_Wl_build_1 rfl 1 rfl ?_
  refine v_chk (fun hb => ?_)
  refine v_putZ (pc := 2) C fp_Wl_9 h0 rfl d_Wl_build_2 hb (fun S1 => ?_)
  refine v_aload_n (pc := 5) C d_Wl_build_5 rfl 0 rfl ?_
  refine v_iload_n (pc := 6) C d_Wl_build_6 rfl 2 rfl ?_
  refine v_putI (pc := 7) C fp_Wl_15 h0 rfl d_Wl_build_7 (fun S2 => ?_)
  refine v_aload_n (pc := 10) C d_Wl_build_10 rfl 0 rfl ?_
  refine v_iload_n (pc := 11) C d_Wl_build_11 rfl 3 rfl ?_
  refine v_putI (pc := 12) C fp_Wl_19 h0 rfl d_Wl_build_12 (fun S3 => ?_)
  refine v_aload_n (pc := 15) C d_Wl_build_15 rfl 0 rfl ?_
  refine v_iload (pc := 16) C d_Wl_build_16 4 rfl ?_
  refine v_putI (pc := 18) C fp_Wl_22 h0 rfl d_Wl_build_18 (fun S4 => ?_)
  refine v_aload_n (pc := 21) C d_Wl_build_21 rfl 0 rfl ?_
  refine v_iload (pc := 22) C d_Wl_build_22 5 rfl ?_
  refine v_putI (pc := 24) C fp_Wl_25 h0 rfl d_Wl_build_24 (fun S5 => ?_)
  exact v_vret C d_Wl_build_27 rfl ⟨Nat.zero_le _, Nat.zero_le _⟩ rfl rfl
-- Sh_fire
theorem d_Sh_fire_0 : decode (mB Y_Sh_fire) 0 = .ok (.aload_n 0, 1) := by decide +kernel
theorem d_Sh_fire_1 : decode (mB Y_Sh_fire) 1 = .ok (.iload_n 1, 1) := by decide +kernel
theorem d_Sh_fire_2 : decode (mB Y_Sh_fire) 2 = .ok (.putfield 15, 3) := by decide +kernel
theorem d_Sh_fire_5 : decode (mB Y_Sh_fire) 5 = .ok (.aload_n 0, 1) := by decide +kernel
theorem d_Sh_fire_6 : decode (mB Y_Sh_fire) 6 = .ok (.iload_n 2, 1) := by decide +kernel
theorem d_Sh_fire_7 : decode (mB Y_Sh_fire) 7 = .ok (.putfield 18, 3) := by decide +kernel
theorem d_Sh_fire_10 : decode (mB Y_Sh_fire) 10 = .ok (.aload_n 0, 1) := by decide +kernel
theorem d_Sh_fire_11 : decode (mB Y_Sh_fire) 11 = .ok (.iload_n 3, 1) := by decide +kernel
theorem d_Sh_fire_12 : decode (mB Y_Sh_fire) 12 = .ok (.putfield 9, 3) := by decide +kernel
theorem d_Sh_fire_15 : decode (mB Y_Sh_fire) 15 = .ok (.aload_n 0, 1) := by decide +kernel
theorem d_Sh_fire_16 : decode (mB Y_Sh_fire) 16 = .ok (.iload 4, 2) := by decide +kernel
theorem d_Sh_fire_18 : decode (mB Y_Sh_fire) 18 = .ok (.putfield 21, 3) := by decide +kernel
theorem d_Sh_fire_21 : decode (mB Y_Sh_fire) 21 = .ok (.return_, 1) := by decide +kernel
def r_Sh_fire (a0 : Nat) (x1 : Int32) (x2 : Int32) (x3 : Int32) (x4 : Int32) (S : Sto) : Option Sto :=
  ltS (sw S a0 0 x1) (fun S1 =>
  ltS (sw S1 a0 1 x2) (fun S2 =>
  ltS (sw S2 a0 2 x3) (fun S3 =>
  ltS (sw S3 a0 3 x4) (fun S4 =>
  some S4))))
set_option maxHeartbeats 4000000 in
set_option maxRecDepth 20000 in
theorem c_Sh_fire {G : Gl} {L : Shp} (hL : Ext L) (S : Sto) (a0 : Nat) (x1 : Int32) (x2 : Int32) (x3 : Int32) (x4 : Int32) (h0 : isShot L a0) : Ct Y_Sh_fire G [rf G a0, .int x1, .int x2, .int x3, .int x4] L S (fv L) (r_Sh_fire a0 x1 x2 x3 x4 S) := by
  refine ct_of (by decide +kernel) (Nat.le_of_ble_eq_true rfl) (fun g C => ?_)
  show VO g Y_Sh_fire G (fun z => Qm g Y_Sh_fire G (fv L z)) 0 0 0 [(0, rf G a0), (1, .int x1), (2, .int x2), (3, .int x3), (4, .int x4)] [] L S (r_Sh_fire a0 x1 x2 x3 x4 S) some
  unfold r_Sh_fire
  refine v_aload_n (pc := 0) C d_Sh_fire_0 rfl 0 rfl ?_
  refine v_iload_n (pc := 1) C d_Sh_fire_1 rfl 1 rfl ?_
  refine v_putI (pc := 2) C fp_Sh_15 h0 rfl d_Sh_fire_2 (fun S1 => ?_)
  refine v_aload_n (pc := 5) C d_Sh_fire_5 rfl 0 rfl ?_
  refine v_iload_n (pc := 6) C d_Sh_fire_6 rfl 2 rfl ?_
  refine v_putI (pc := 7) C fp_Sh_18 h0 rfl d_Sh_fire_7 (fun S2 => ?_)
  refine v_aload_n (pc := 10) C d_Sh_fire_10 rfl 0 rfl ?_
  refine v_iload_n (pc := 11) C d_Sh_fire_11 rfl 3 rfl ?_
  refine v_putI (pc := 12) C fp_Sh_9 h0 rfl d_Sh_fire_12 (fun S3 => ?_)
  refine v_aload_n (pc := 15) C d_Sh_fire_15 rfl 0 rfl ?_
  refine v_iload (pc := 16) C d_Sh_fire_16 4 rfl ?_
  refine v_putI (pc := 18) C fp_Sh_21 h0 rfl d_Sh_fire_18 (fun S4 => ?_)
  exact v_vret C d_Sh_fire_21 rfl ⟨Nat.zero_le _, Nat.zero_le _⟩ rfl rfl
-- B_between
theorem d_B_between_0 : decode (mB Y_B_between) 0 = .ok (.iload_n 1, 1) := by decide +kernel
theorem d_B_between_1 : decode (mB Y_B_between) 1 = .ok (.invokestatic 356, 3) := by decide +kernel
theorem d_B_between_4 : decode (mB Y_B_between) 4 = .ok (.iload_n 0, 1) := by decide +kernel
theorem d_B_between_5 : decode (mB Y_B_between) 5 = .ok (.invokestatic 356, 3) := by decide +kernel
theorem d_B_between_8 : decode (mB Y_B_between) 8 = .ok (.isub, 1) := by decide +kernel
theorem d_B_between_9 : decode (mB Y_B_between) 9 = .ok (.iload_n 1, 1) := by decide +kernel
theorem d_B_between_10 : decode (mB Y_B_between) 10 = .ok (.invokestatic 359, 3) := by decide +kernel
theorem d_B_between_13 : decode (mB Y_B_between) 13 = .ok (.iload_n 0, 1) := by decide +kernel
theorem d_B_between_14 : decode (mB Y_B_between) 14 = .ok (.invokestatic 359, 3) := by decide +kernel
theorem d_B_between_17 : decode (mB Y_B_between) 17 = .ok (.isub, 1) := by decide +kernel
theorem d_B_between_18 : decode (mB Y_B_between) 18 = .ok (.invokestatic 362, 3) := by decide +kernel
theorem d_B_between_21 : decode (mB Y_B_between) 21 = .ok (.ireturn, 1) := by decide +kernel
theorem ro_B_between_B_column : roomy Y_B_between Y_B_column := ⟨Nat.le_of_ble_eq_true rfl, Nat.le_of_ble_eq_true rfl⟩
theorem ro_B_between_B_distance : roomy Y_B_between Y_B_distance := ⟨Nat.le_of_ble_eq_true rfl, Nat.le_of_ble_eq_true rfl⟩
theorem ro_B_between_B_row : roomy Y_B_between Y_B_row := ⟨Nat.le_of_ble_eq_true rfl, Nat.le_of_ble_eq_true rfl⟩
def r_B_between (x0 : Int32) (x1 : Int32) : Option Int32 :=
  (r_B_distance ((r_B_column x1) - (r_B_column x0)) ((r_B_row x1) - (r_B_row x0))).bind (fun r1 =>
  some r1)
set_option maxHeartbeats 4000000 in
set_option maxRecDepth 20000 in
theorem c_B_between {G : Gl} {L : Shp} (hL : Ext L) (S : Sto) (x0 : Int32) (x1 : Int32)  : Ct Y_B_between G [.int x0, .int x1] L S (fp L S) (r_B_between x0 x1) := by
  refine ct_of (by decide +kernel) (Nat.le_of_ble_eq_true rfl) (fun g C => ?_)
  show VO g Y_B_between G (fun z => Qm g Y_B_between G (fp L S z)) 0 0 0 [(0, .int x0), (1, .int x1)] [] L S (r_B_between x0 x1) some
  unfold r_B_between
  refine v_iload_n (pc := 0) C d_B_between_0 rfl 1 rfl ?_
  refine v_ct (pc := 1) (inv_S (As := [.int x1]) (st := []) C ml_B_356 ms_B_column ro_B_between_B_column rfl rfl (Nat.le_of_ble_eq_true rfl) d_B_between_1) (c_B_column hL S x1) ⟨rfl, rfl⟩ ⟨Nat.zero_le _, Nat.zero_le _⟩ ?_
  refine v_iload_n (pc := 4) C d_B_between_4 rfl 0 rfl ?_
  refine v_ct (pc := 5) (inv_S (As := [.int x0]) (st := [.int (r_B_column x1)]) C ml_B_356 ms_B_column ro_B_between_B_column rfl rfl (Nat.le_of_ble_eq_true rfl) d_B_between_5) (c_B_column hL S x0) ⟨rfl, rfl⟩ ⟨Nat.zero_le _, Nat.zero_le _⟩ ?_
  refine v_isub (pc := 8) C d_B_between_8 ?_
  refine v_iload_n (pc := 9) C d_B_between_9 rfl 1 rfl ?_
  refine v_ct (pc := 10) (inv_S (As := [.int x1]) (st := [.int ((r_B_column x1) - (r_B_column x0))]) C ml_B_359 ms_B_row ro_B_between_B_row rfl rfl (Nat.le_of_ble_eq_true rfl) d_B_between_10) (c_B_row hL S x1) ⟨rfl, rfl⟩ ⟨Nat.zero_le _, Nat.zero_le _⟩ ?_
  refine v_iload_n (pc := 13) C d_B_between_13 rfl 0 rfl ?_
  refine v_ct (pc := 14) (inv_S (As := [.int x0]) (st := [.int (r_B_row x1), .int ((r_B_column x1) - (r_B_column x0))]) C ml_B_359 ms_B_row ro_B_between_B_row rfl rfl (Nat.le_of_ble_eq_true rfl) d_B_between_14) (c_B_row hL S x0) ⟨rfl, rfl⟩ ⟨Nat.zero_le _, Nat.zero_le _⟩ ?_
  refine v_isub (pc := 17) C d_B_between_17 ?_
  refine v_cp (pc := 18) (inv_S (As := [.int ((r_B_column x1) - (r_B_column x0)), .int ((r_B_row x1) - (r_B_row x0))]) (st := []) C ml_B_362 ms_B_distance ro_B_between_B_distance rfl rfl (Nat.le_of_ble_eq_true rfl) d_B_between_18) (c_B_distance hL S ((r_B_column x1) - (r_B_column x0)) ((r_B_row x1) - (r_B_row x0))) ⟨rfl, rfl⟩ ⟨Nat.zero_le _, Nat.zero_le _⟩ (fun r1 => ?_)
  exact v_iret (z := r1) C d_B_between_21 rfl ⟨Nat.zero_le _, Nat.zero_le _⟩ (rfl) rfl
-- B_loudness
theorem d_B_loudness_0 : decode (mB Y_B_loudness) 0 = .ok (.iload_n 0, 1) := by decide +kernel
theorem d_B_loudness_1 : decode (mB Y_B_loudness) 1 = .ok (.ifCond .ge 7, 3) := by decide +kernel
theorem d_B_loudness_4 : decode (mB Y_B_loudness) 4 = .ok (.iconst 0, 1) := by decide +kernel
theorem d_B_loudness_5 : decode (mB Y_B_loudness) 5 = .ok (.goto 11, 3) := by decide +kernel
theorem d_B_loudness_8 : decode (mB Y_B_loudness) 8 = .ok (.sipush 10000, 3) := by decide +kernel
theorem d_B_loudness_11 : decode (mB Y_B_loudness) 11 = .ok (.iload_n 0, 1) := by decide +kernel
theorem d_B_loudness_12 : decode (mB Y_B_loudness) 12 = .ok (.bipush 10, 2) := by decide +kernel
theorem d_B_loudness_14 : decode (mB Y_B_loudness) 14 = .ok (.iadd, 1) := by decide +kernel
theorem d_B_loudness_15 : decode (mB Y_B_loudness) 15 = .ok (.idiv, 1) := by decide +kernel
theorem d_B_loudness_16 : decode (mB Y_B_loudness) 16 = .ok (.ireturn, 1) := by decide +kernel
def r_B_loudness (x0 : Int32) : Option Int32 :=
  if 0 ≤ x0 then
    chk (nz (x0 + 10)) (
    some (10000 / (x0 + 10)))
  else
    some 0
set_option maxHeartbeats 4000000 in
set_option maxRecDepth 20000 in
theorem c_B_loudness {G : Gl} {L : Shp} (hL : Ext L) (S : Sto) (x0 : Int32)  : Ct Y_B_loudness G [.int x0] L S (fp L S) (r_B_loudness x0) := by
  refine ct_of (by decide +kernel) (Nat.le_of_ble_eq_true rfl) (fun g C => ?_)
  show VO g Y_B_loudness G (fun z => Qm g Y_B_loudness G (fp L S z)) 0 0 0 [(0, .int x0)] [] L S (r_B_loudness x0) some
  unfold r_B_loudness
  refine v_iload_n (pc := 0) C d_B_loudness_0 rfl 0 rfl ?_
  refine v_if_ge (pc := 1) (tgt := 8) C d_B_loudness_1 rfl (fun _ => ?_) (fun _ => ?_)
  · refine v_sipush (pc := 8) C d_B_loudness_8 sp_10000 ?_
    refine v_iload_n (pc := 11) C d_B_loudness_11 rfl 0 rfl ?_
    refine v_bipush (pc := 12) C d_B_loudness_12 bp_10 ?_
    refine v_iadd (pc := 14) C d_B_loudness_14 ?_
    refine v_chk (fun hne => ?_)
    refine v_idiv (pc := 15) C d_B_loudness_15 (nz_ne hne) ?_
    exact v_iret (z := (10000 / (x0 + 10))) C d_B_loudness_16 rfl ⟨Nat.zero_le _, Nat.zero_le _⟩ (rfl) rfl
  · refine v_iconst (pc := 4) C d_B_loudness_4 ic_0 ?_
    refine v_goto (pc := 5) (tgt := 16) C d_B_loudness_5 rfl ?_
    exact v_iret (z := 0) C d_B_loudness_16 rfl ⟨Nat.zero_le _, Nat.zero_le _⟩ (rfl) rfl
