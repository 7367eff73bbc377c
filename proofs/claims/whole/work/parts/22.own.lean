-- Hd_listen
theorem d_Hd_listen_0 : decode (mB Y_Hd_listen) 0 = .ok (.aload_n 0, 1) := by decide +kernel
theorem d_Hd_listen_1 : decode (mB Y_Hd_listen) 1 = .ok (.aload_n 1, 1) := by decide +kernel
theorem d_Hd_listen_2 : decode (mB Y_Hd_listen) 2 = .ok (.getfield 25, 3) := by decide +kernel
theorem d_Hd_listen_5 : decode (mB Y_Hd_listen) 5 = .ok (.iload_n 2, 1) := by decide +kernel
theorem d_Hd_listen_6 : decode (mB Y_Hd_listen) 6 = .ok (.invokestatic 31, 3) := by decide +kernel
theorem d_Hd_listen_9 : decode (mB Y_Hd_listen) 9 = .ok (.putfield 35, 3) := by decide +kernel
theorem d_Hd_listen_12 : decode (mB Y_Hd_listen) 12 = .ok (.aload_n 0, 1) := by decide +kernel
theorem d_Hd_listen_13 : decode (mB Y_Hd_listen) 13 = .ok (.aload_n 1, 1) := by decide +kernel
theorem d_Hd_listen_14 : decode (mB Y_Hd_listen) 14 = .ok (.getfield 38, 3) := by decide +kernel
theorem d_Hd_listen_17 : decode (mB Y_Hd_listen) 17 = .ok (.aload_n 0, 1) := by decide +kernel
theorem d_Hd_listen_18 : decode (mB Y_Hd_listen) 18 = .ok (.getfield 9, 3) := by decide +kernel
theorem d_Hd_listen_21 : decode (mB Y_Hd_listen) 21 = .ok (.aload_n 1, 1) := by decide +kernel
theorem d_Hd_listen_22 : decode (mB Y_Hd_listen) 22 = .ok (.getfield 25, 3) := by decide +kernel
theorem d_Hd_listen_25 : decode (mB Y_Hd_listen) 25 = .ok (.iload_n 2, 1) := by decide +kernel
theorem d_Hd_listen_26 : decode (mB Y_Hd_listen) 26 = .ok (.invokevirtual 41, 3) := by decide +kernel
theorem d_Hd_listen_29 : decode (mB Y_Hd_listen) 29 = .ok (.iadd, 1) := by decide +kernel
theorem d_Hd_listen_30 : decode (mB Y_Hd_listen) 30 = .ok (.putfield 46, 3) := by decide +kernel
theorem d_Hd_listen_33 : decode (mB Y_Hd_listen) 33 = .ok (.aload_n 0, 1) := by decide +kernel
theorem d_Hd_listen_34 : decode (mB Y_Hd_listen) 34 = .ok (.iconst (-1), 1) := by decide +kernel
theorem d_Hd_listen_35 : decode (mB Y_Hd_listen) 35 = .ok (.putfield 49, 3) := by decide +kernel
theorem d_Hd_listen_38 : decode (mB Y_Hd_listen) 38 = .ok (.aload_n 0, 1) := by decide +kernel
theorem d_Hd_listen_39 : decode (mB Y_Hd_listen) 39 = .ok (.iconst (-1), 1) := by decide +kernel
theorem d_Hd_listen_40 : decode (mB Y_Hd_listen) 40 = .ok (.putfield 52, 3) := by decide +kernel
theorem d_Hd_listen_43 : decode (mB Y_Hd_listen) 43 = .ok (.aload_n 0, 1) := by decide +kernel
theorem d_Hd_listen_44 : decode (mB Y_Hd_listen) 44 = .ok (.iconst (-1), 1) := by decide +kernel
theorem d_Hd_listen_45 : decode (mB Y_Hd_listen) 45 = .ok (.putfield 55, 3) := by decide +kernel
theorem d_Hd_listen_48 : decode (mB Y_Hd_listen) 48 = .ok (.aload_n 1, 1) := by decide +kernel
theorem d_Hd_listen_49 : decode (mB Y_Hd_listen) 49 = .ok (.getfield 58, 3) := by decide +kernel
theorem d_Hd_listen_52 : decode (mB Y_Hd_listen) 52 = .ok (.iconst (-1), 1) := by decide +kernel
theorem d_Hd_listen_53 : decode (mB Y_Hd_listen) 53 = .ok (.if_icmp .eq 9, 3) := by decide +kernel
theorem d_Hd_listen_56 : decode (mB Y_Hd_listen) 56 = .ok (.aload_n 0, 1) := by decide +kernel
theorem d_Hd_listen_57 : decode (mB Y_Hd_listen) 57 = .ok (.aload_n 1, 1) := by decide +kernel
theorem d_Hd_listen_58 : decode (mB Y_Hd_listen) 58 = .ok (.iload_n 2, 1) := by decide +kernel
theorem d_Hd_listen_59 : decode (mB Y_Hd_listen) 59 = .ok (.invokevirtual 61, 3) := by decide +kernel
theorem d_Hd_listen_62 : decode (mB Y_Hd_listen) 62 = .ok (.aload_n 0, 1) := by decide +kernel
theorem d_Hd_listen_63 : decode (mB Y_Hd_listen) 63 = .ok (.aload_n 1, 1) := by decide +kernel
theorem d_Hd_listen_64 : decode (mB Y_Hd_listen) 64 = .ok (.iload_n 2, 1) := by decide +kernel
theorem d_Hd_listen_65 : decode (mB Y_Hd_listen) 65 = .ok (.invokevirtual 65, 3) := by decide +kernel
theorem d_Hd_listen_68 : decode (mB Y_Hd_listen) 68 = .ok (.return_, 1) := by decide +kernel
theorem ro_Hd_listen_B_between : roomy Y_Hd_listen Y_B_between := ⟨Nat.le_of_ble_eq_true rfl, Nat.le_of_ble_eq_true rfl⟩
theorem ro_Hd_listen_Hd_listenBack : roomy Y_Hd_listen Y_Hd_listenBack := ⟨Nat.le_of_ble_eq_true rfl, Nat.le_of_ble_eq_true rfl⟩
theorem ro_Hd_listen_Hd_listenCrack : roomy Y_Hd_listen Y_Hd_listenCrack := ⟨Nat.le_of_ble_eq_true rfl, Nat.le_of_ble_eq_true rfl⟩
theorem ro_Hd_listen_Sq_travel : roomy Y_Hd_listen Y_Sq_travel := ⟨Nat.le_of_ble_eq_true rfl, Nat.le_of_ble_eq_true rfl⟩
def r_Hd_listen (a1 : Nat) (x2 : Int32) (S : Sto) : Option Sto :=
  (r_B_between (S a1 0) x2).bind (fun r1 =>
  ltS (sw S 13 1 r1) (fun S2 =>
  (r_Sq_travel (S2 a1 0) x2 S2).bind (fun r3 =>
  ltS (sw S2 13 2 ((S2 a1 1) + r3)) (fun S4 =>
  ltS (sw S4 13 3 (-1)) (fun S5 =>
  ltS (sw S5 13 4 (-1)) (fun S6 =>
  ltS (sw S6 13 5 (-1)) (fun S7 =>
  jn (fun (S8 : Sto) =>
    (r_Hd_listenBack a1 x2 S8).bind (fun S9 =>
    some S9)) (fun j62 =>
  if (S7 a1 2) = (-1) then
    j62 (S7)
  else
    (r_Hd_listenCrack a1 x2 S7).bind (fun S10 =>
    j62 (S10))))))))))
set_option maxHeartbeats 4000000 in
set_option maxRecDepth 20000 in
theorem c_Hd_listen {G : Gl} {L : Shp} (hL : Ext L) (S : Sto) (a1 : Nat) (x2 : Int32) (h1 : isShot L a1) : Ct Y_Hd_listen G [rf G 13, rf G a1, .int x2] L S (fv L) (r_Hd_listen a1 x2 S) := by
  refine ct_of (by decide +kernel) (Nat.le_of_ble_eq_true rfl) (fun g C => ?_)
  show VO g Y_Hd_listen G (fun z => Qm g Y_Hd_listen G (fv L z)) 0 0 0 [(0, rf G 13), (1, rf G a1), (2, .int x2)] [] L S (r_Hd_listen a1 x2 S) some
  unfold r_Hd_listen
  refine v_aload_n (pc := 0) C d_Hd_listen_0 rfl 0 rfl ?_
  refine v_aload_n (pc := 1) C d_Hd_listen_1 rfl 1 rfl ?_
  refine v_getI (pc := 2) C fl_Hd_25 h1 rfl d_Hd_listen_2 ?_
  refine v_iload_n (pc := 5) C d_Hd_listen_5 rfl 2 rfl ?_
  refine v_cp (pc := 6) (inv_SN (As := [.int (S a1 0), .int x2]) (st := [rf G 13]) C mn_Hd_31 ms_B_between ro_Hd_listen_B_between rfl rfl (Nat.le_of_ble_eq_true rfl) d_Hd_listen_6) (c_B_between hL S (S a1 0) x2) ⟨rfl, rfl⟩ ⟨Nat.zero_le _, Nat.zero_le _⟩ (fun r1 => ?_)
  refine v_putI (pc := 9) C fp_Hd_35 (sh_13 hL) rfl d_Hd_listen_9 (fun S2 => ?_)
  refine v_aload_n (pc := 12) C d_Hd_listen_12 rfl 0 rfl ?_
  refine v_aload_n (pc := 13) C d_Hd_listen_13 rfl 1 rfl ?_
  refine v_getI (pc := 14) C fl_Hd_38 h1 rfl d_Hd_listen_14 ?_
  refine v_aload_n (pc := 17) C d_Hd_listen_17 rfl 0 rfl ?_
  refine v_getR (pc := 18) C fl_Hd_9 (sh_13 hL) rfl d_Hd_listen_18 ?_
  refine v_aload_n (pc := 21) C d_Hd_listen_21 rfl 1 rfl ?_
  refine v_getI (pc := 22) C fl_Hd_25 h1 rfl d_Hd_listen_22 ?_
  refine v_iload_n (pc := 25) C d_Hd_listen_25 rfl 2 rfl ?_
  refine v_cp (pc := 26) (inv_V (As := [.int (S2 a1 0), .int x2]) (st := [.int (S2 a1 1), rf G 13]) C ml_Hd_41 mv_Sq_travel ro_Hd_listen_Sq_travel (sh_1 hL) rfl rfl rfl rfl (Nat.le_of_ble_eq_true rfl) d_Hd_listen_26) (c_Sq_travel hL S2 (S2 a1 0) x2) ⟨rfl, rfl⟩ ⟨Nat.zero_le _, Nat.zero_le _⟩ (fun r3 => ?_)
  refine v_iadd (pc := 29) C d_Hd_listen_29 ?_
  refine v_putI (pc := 30) C fp_Hd_46 (sh_13 hL) rfl d_Hd_listen_30 (fun S4 => ?_)
  refine v_aload_n (pc := 33) C d_Hd_listen_33 rfl 0 rfl ?_
  refine v_iconst (pc := 34) C d_Hd_listen_34 ic_m1 ?_
  refine v_putI (pc := 35) C fp_Hd_49 (sh_13 hL) rfl d_Hd_listen_35 (fun S5 => ?_)
  refine v_aload_n (pc := 38) C d_Hd_listen_38 rfl 0 rfl ?_
  refine v_iconst (pc := 39) C d_Hd_listen_39 ic_m1 ?_
  refine v_putI (pc := 40) C fp_Hd_52 (sh_13 hL) rfl d_Hd_listen_40 (fun S6 => ?_)
  refine v_aload_n (pc := 43) C d_Hd_listen_43 rfl 0 rfl ?_
  refine v_iconst (pc := 44) C d_Hd_listen_44 ic_m1 ?_
  refine v_putI (pc := 45) C fp_Hd_55 (sh_13 hL) rfl d_Hd_listen_45 (fun S7 => ?_)
  refine v_aload_n (pc := 48) C d_Hd_listen_48 rfl 1 rfl ?_
  refine v_getI (pc := 49) C fl_Hd_58 h1 rfl d_Hd_listen_49 ?_
  refine v_iconst (pc := 52) C d_Hd_listen_52 ic_m1 ?_
  refine v_jn (fun j => ∀ (S8 : Sto), VO g Y_Hd_listen G (fun z => Qm g Y_Hd_listen G (fv L z)) 0 0 62 [(0, rf G 13), (1, rf G a1), (2, .int x2)] [] L S8 (j (S8)) some) (fun S8 => ?_) (fun j62 hj62 => ?_)
  · refine v_aload_n (pc := 62) C d_Hd_listen_62 rfl 0 rfl ?_
    refine v_aload_n (pc := 63) C d_Hd_listen_63 rfl 1 rfl ?_
    refine v_iload_n (pc := 64) C d_Hd_listen_64 rfl 2 rfl ?_
    refine v_cv (pc := 65) (inv_V (As := [rf G a1, .int x2]) (st := []) C ml_Hd_65 mv_Hd_listenBack ro_Hd_listen_Hd_listenBack (sh_13 hL) rfl rfl rfl rfl (Nat.le_of_ble_eq_true rfl) d_Hd_listen_65) (c_Hd_listenBack hL S8 a1 x2 h1) ⟨rfl, rfl⟩ ⟨Nat.zero_le _, Nat.zero_le _⟩ (fun S9 => ?_)
    exact v_vret C d_Hd_listen_68 rfl ⟨Nat.zero_le _, Nat.zero_le _⟩ rfl rfl
  · refine v_icmp_eq (pc := 53) (tgt := 62) C d_Hd_listen_53 rfl (fun _ => ?_) (fun _ => ?_)
    · exact hj62 S7
    · refine v_aload_n (pc := 56) C d_Hd_listen_56 rfl 0 rfl ?_
      refine v_aload_n (pc := 57) C d_Hd_listen_57 rfl 1 rfl ?_
      refine v_iload_n (pc := 58) C d_Hd_listen_58 rfl 2 rfl ?_
      refine v_cv (pc := 59) (inv_V (As := [rf G a1, .int x2]) (st := []) C ml_Hd_61 mv_Hd_listenCrack ro_Hd_listen_Hd_listenCrack (sh_13 hL) rfl rfl rfl rfl (Nat.le_of_ble_eq_true rfl) d_Hd_listen_59) (c_Hd_listenCrack hL S7 a1 x2 h1) ⟨rfl, rfl⟩ ⟨Nat.zero_le _, Nat.zero_le _⟩ (fun S10 => ?_)
      exact hj62 S10
-- Rd_append
theorem d_Rd_append_0 : decode (mB Y_Rd_append) 0 = .ok (.bipush 24, 2) := by decide +kernel
theorem d_Rd_append_2 : decode (mB Y_Rd_append) 2 = .ok (.istore_n 2, 1) := by decide +kernel
theorem d_Rd_append_3 : decode (mB Y_Rd_append) 3 = .ok (.iload_n 2, 1) := by decide +kernel
theorem d_Rd_append_4 : decode (mB Y_Rd_append) 4 = .ok (.ifCond .lt 44, 3) := by decide +kernel
theorem d_Rd_append_7 : decode (mB Y_Rd_append) 7 = .ok (.aload_n 0, 1) := by decide +kernel
theorem d_Rd_append_8 : decode (mB Y_Rd_append) 8 = .ok (.getfield 26, 3) := by decide +kernel
theorem d_Rd_append_11 : decode (mB Y_Rd_append) 11 = .ok (.aload_n 0, 1) := by decide +kernel
theorem d_Rd_append_12 : decode (mB Y_Rd_append) 12 = .ok (.getfield 9, 3) := by decide +kernel
theorem d_Rd_append_15 : decode (mB Y_Rd_append) 15 = .ok (.arraylength, 1) := by decide +kernel
theorem d_Rd_append_16 : decode (mB Y_Rd_append) 16 = .ok (.if_icmp .ge 26, 3) := by decide +kernel
theorem d_Rd_append_19 : decode (mB Y_Rd_append) 19 = .ok (.aload_n 0, 1) := by decide +kernel
theorem d_Rd_append_20 : decode (mB Y_Rd_append) 20 = .ok (.getfield 9, 3) := by decide +kernel
theorem d_Rd_append_23 : decode (mB Y_Rd_append) 23 = .ok (.aload_n 0, 1) := by decide +kernel
theorem d_Rd_append_24 : decode (mB Y_Rd_append) 24 = .ok (.getfield 26, 3) := by decide +kernel
theorem d_Rd_append_27 : decode (mB Y_Rd_append) 27 = .ok (.iload_n 1, 1) := by decide +kernel
theorem d_Rd_append_28 : decode (mB Y_Rd_append) 28 = .ok (.iload_n 2, 1) := by decide +kernel
theorem d_Rd_append_29 : decode (mB Y_Rd_append) 29 = .ok (.ishr, 1) := by decide +kernel
theorem d_Rd_append_30 : decode (mB Y_Rd_append) 30 = .ok (.i2b, 1) := by decide +kernel
theorem d_Rd_append_31 : decode (mB Y_Rd_append) 31 = .ok (.bastore, 1) := by decide +kernel
theorem d_Rd_append_32 : decode (mB Y_Rd_append) 32 = .ok (.aload_n 0, 1) := by decide +kernel
theorem d_Rd_append_33 : decode (mB Y_Rd_append) 33 = .ok (.dup, 1) := by decide +kernel
theorem d_Rd_append_34 : decode (mB Y_Rd_append) 34 = .ok (.getfield 26, 3) := by decide +kernel
theorem d_Rd_append_37 : decode (mB Y_Rd_append) 37 = .ok (.iconst 1, 1) := by decide +kernel
theorem d_Rd_append_38 : decode (mB Y_Rd_append) 38 = .ok (.iadd, 1) := by decide +kernel
theorem d_Rd_append_39 : decode (mB Y_Rd_append) 39 = .ok (.putfield 26, 3) := by decide +kernel
theorem d_Rd_append_42 : decode (mB Y_Rd_append) 42 = .ok (.iinc 2 (-8), 3) := by decide +kernel
theorem d_Rd_append_45 : decode (mB Y_Rd_append) 45 = .ok (.goto (-42), 3) := by decide +kernel
theorem d_Rd_append_48 : decode (mB Y_Rd_append) 48 = .ok (.return_, 1) := by decide +kernel
def r_Rd_append_L3 (y1_ : Int32) : Nat → Int32 → Sto → Option (Int32 × Sto)
  | 0, _, _ => none
  | n + 1, x2_, S =>
    if x2_ < 0 then
      some (x2_, S)
    else
      jn (fun (S1 : Sto) =>
        lt (x2_ + (-8)) (fun v2 =>
        r_Rd_append_L3 y1_ n v2 S1)) (fun j42 =>
      if 400 ≤ (S 29 1) then
        j42 (S)
      else
        chk (inr (S 29 1) 400) (
        ltS (sw S 30 ((S 29 1).toNatClampNeg) (vp_nar .byte ((y1_ >>> (x2_ &&& 31)).toInt8.toInt32))) (fun S3 =>
        ltS (sw S3 29 1 ((S3 29 1) + 1)) (fun S4 =>
        j42 (S4)))))
set_option maxHeartbeats 4000000 in
set_option maxRecDepth 20000 in
theorem w_Rd_append_L3 {g : Gm} {G : Gl} {L : Shp} (C : Cx g Y_Rd_append G) (hL : Ext L) (y1_ : Int32)  :
    ∀ (n : Nat) (x2_ : Int32) (S : Sto) (K : (Int32 × Sto) → Option Sto), (∀ (x2_ : Int32) (S : Sto), VO g Y_Rd_append G (fun z => Qm g Y_Rd_append G (fv L z)) 0 0 48 [] [] L S (some (x2_, S)) K) → VO g Y_Rd_append G (fun z => Qm g Y_Rd_append G (fv L z)) 0 0 3 [(0, rf G 29), (1, .int y1_), (2, .int x2_)] [] L S (r_Rd_append_L3 y1_ n x2_ S) K := by
  intro n
  induction n with
  | zero => intro x2_ S K; intros; exact v_none
  | succ n ih =>
    intro x2_ S K hK
    rw [r_Rd_append_L3]
    refine v_iload_n (pc := 3) C d_Rd_append_3 rfl 2 rfl ?_
    refine v_if_lt (pc := 4) (tgt := 48) C d_Rd_append_4 rfl (fun _ => ?_) (fun _ => ?_)
    · refine v_sub [] rfl ?_
      exact hK x2_ S
    · refine v_aload_n (pc := 7) C d_Rd_append_7 rfl 0 rfl ?_
      refine v_getI (pc := 8) C fl_Rd_26 (sh_29 hL) rfl d_Rd_append_8 ?_
      refine v_aload_n (pc := 11) C d_Rd_append_11 rfl 0 rfl ?_
      refine v_getR (pc := 12) C fl_Rd_9 (sh_29 hL) rfl d_Rd_append_12 ?_
      refine v_alen (pc := 15) (v := 400) (t := 1) C (sh_30 hL) rfl rfl rfl d_Rd_append_15 ?_
      refine v_jn (fun j => ∀ (S1 : Sto), VO g Y_Rd_append G (fun z => Qm g Y_Rd_append G (fv L z)) 0 0 42 [(0, rf G 29), (1, .int y1_), (2, .int x2_)] [] L S1 (j (S1)) K) (fun S1 => ?_) (fun j42 hj42 => ?_)
      · refine v_iinc (pc := 42) (p := 2) (c := (-8)) C d_Rd_append_42 rfl (by decide) (by decide) (fun v2 => [(2, .int v2), (0, rf G 29), (1, .int y1_)]) (fun _ => rfl) (fun v2 => ?_)
        refine v_goto (pc := 45) (tgt := 3) C d_Rd_append_45 rfl ?_
        refine v_sub [1, 2, 0] rfl ?_
        exact ih v2 S1 K hK
      · refine v_icmp_ge (pc := 16) (tgt := 42) C d_Rd_append_16 rfl (fun _ => ?_) (fun _ => ?_)
        · exact hj42 S
        · refine v_aload_n (pc := 19) C d_Rd_append_19 rfl 0 rfl ?_
          refine v_getR (pc := 20) C fl_Rd_9 (sh_29 hL) rfl d_Rd_append_20 ?_
          refine v_aload_n (pc := 23) C d_Rd_append_23 rfl 0 rfl ?_
          refine v_getI (pc := 24) C fl_Rd_26 (sh_29 hL) rfl d_Rd_append_24 ?_
          refine v_iload_n (pc := 27) C d_Rd_append_27 rfl 1 rfl ?_
          refine v_iload_n (pc := 28) C d_Rd_append_28 rfl 2 rfl ?_
          refine v_ishr (pc := 29) C d_Rd_append_29 ?_
          refine v_i2b (pc := 30) C d_Rd_append_30 ?_
          refine v_bast (pc := 31) C (sh_30 hL) d_Rd_append_31 (fun _ S3 => ?_)
          refine v_aload_n (pc := 32) C d_Rd_append_32 rfl 0 rfl ?_
          refine v_dup (pc := 33) C d_Rd_append_33 rfl ?_
          refine v_getI (pc := 34) C fl_Rd_26 (sh_29 hL) rfl d_Rd_append_34 ?_
          refine v_iconst (pc := 37) C d_Rd_append_37 ic_1 ?_
          refine v_iadd (pc := 38) C d_Rd_append_38 ?_
          refine v_putI (pc := 39) C fp_Rd_26 (sh_29 hL) rfl d_Rd_append_39 (fun S4 => ?_)
          exact hj42 S4
def r_Rd_append (x1 : Int32) (S : Sto) : Option Sto :=
  (r_Rd_append_L3 x1 fu 24 S).bind (fun (v1, S2) =>
  some S2)
set_option maxHeartbeats 4000000 in
set_option maxRecDepth 20000 in
theorem c_Rd_append {G : Gl} {L : Shp} (hL : Ext L) (S : Sto) (x1 : Int32)  : Ct Y_Rd_append G [rf G 29, .int x1] L S (fv L) (r_Rd_append x1 S) := by
  refine ct_of (by decide +kernel) (Nat.le_of_ble_eq_true rfl) (fun g C => ?_)
  show VO g Y_Rd_append G (fun z => Qm g Y_Rd_append G (fv L z)) 0 0 0 [(0, rf G 29), (1, .int x1)] [] L S (r_Rd_append x1 S) some
  unfold r_Rd_append
  refine v_bipush (pc := 0) C d_Rd_append_0 bp_24 ?_
  refine v_istore_n (pc := 2) (lv' := [(2, .int 24), (0, rf G 29), (1, .int x1)]) C d_Rd_append_2 rfl (by decide) rfl ?_
  refine v_sub [1, 2, 0] rfl ?_
  refine v_bind ?_
  refine w_Rd_append_L3 C hL x1  fu 24 S _ (fun v1 S2 => ?_) 
  refine v_some ?_
  exact v_vret C d_Rd_append_48 rfl ⟨Nat.zero_le _, Nat.zero_le _⟩ rfl rfl
-- Rd_drop
theorem d_Rd_drop_0 : decode (mB Y_Rd_drop) 0 = .ok (.aload_n 0, 1) := by decide +kernel
theorem d_Rd_drop_1 : decode (mB Y_Rd_drop) 1 = .ok (.iconst 0, 1) := by decide +kernel
theorem d_Rd_drop_2 : decode (mB Y_Rd_drop) 2 = .ok (.putfield 26, 3) := by decide +kernel
theorem d_Rd_drop_5 : decode (mB Y_Rd_drop) 5 = .ok (.aload_n 0, 1) := by decide +kernel
theorem d_Rd_drop_6 : decode (mB Y_Rd_drop) 6 = .ok (.iconst 0, 1) := by decide +kernel
theorem d_Rd_drop_7 : decode (mB Y_Rd_drop) 7 = .ok (.putfield 29, 3) := by decide +kernel
theorem d_Rd_drop_10 : decode (mB Y_Rd_drop) 10 = .ok (.aload_n 0, 1) := by decide +kernel
theorem d_Rd_drop_11 : decode (mB Y_Rd_drop) 11 = .ok (.iconst (-1), 1) := by decide +kernel
theorem d_Rd_drop_12 : decode (mB Y_Rd_drop) 12 = .ok (.putfield 15, 3) := by decide +kernel
theorem d_Rd_drop_15 : decode (mB Y_Rd_drop) 15 = .ok (.return_, 1) := by decide +kernel
def r_Rd_drop  (S : Sto) : Option Sto :=
  ltS (sw S 29 1 0) (fun S1 =>
  ltS (sw S1 29 2 0) (fun S2 =>
  ltS (sw S2 29 3 (-1)) (fun S3 =>
  some S3)))
set_option maxHeartbeats 4000000 in
set_option maxRecDepth 20000 in
theorem c_Rd_drop {G : Gl} {L : Shp} (hL : Ext L) (S : Sto)   : Ct Y_Rd_drop G [rf G 29] L S (fv L) (r_Rd_drop S) := by
  refine ct_of (by decide +kernel) (Nat.le_of_ble_eq_true rfl) (fun g C => ?_)
  show VO g Y_Rd_drop G (fun z => Qm g Y_Rd_drop G (fv L z)) 0 0 0 [(0, rf G 29)] [] L S (r_Rd_drop S) some
  unfold r_Rd_drop
  refine v_aload_n (pc := 0) C d_Rd_drop_0 rfl 0 rfl ?_
  refine v_iconst (pc := 1) C d_Rd_drop_1 ic_0 ?_
  refine v_putI (pc := 2) C fp_Rd_26 (sh_29 hL) rfl d_Rd_drop_2 (fun S1 => ?_)
  refine v_aload_n (pc := 5) C d_Rd_drop_5 rfl 0 rfl ?_
  refine v_iconst (pc := 6) C d_Rd_drop_6 ic_0 ?_
  refine v_putI (pc := 7) C fp_Rd_29 (sh_29 hL) rfl d_Rd_drop_7 (fun S2 => ?_)
  refine v_aload_n (pc := 10) C d_Rd_drop_10 rfl 0 rfl ?_
  refine v_iconst (pc := 11) C d_Rd_drop_11 ic_m1 ?_
  refine v_putI (pc := 12) C fp_Rd_15 (sh_29 hL) rfl d_Rd_drop_12 (fun S3 => ?_)
  exact v_vret C d_Rd_drop_15 rfl ⟨Nat.zero_le _, Nat.zero_le _⟩ rfl rfl
-- Rd_start
theorem d_Rd_start_0 : decode (mB Y_Rd_start) 0 = .ok (.aload_n 0, 1) := by decide +kernel
theorem d_Rd_start_1 : decode (mB Y_Rd_start) 1 = .ok (.iload_n 1, 1) := by decide +kernel
theorem d_Rd_start_2 : decode (mB Y_Rd_start) 2 = .ok (.putfield 67, 3) := by decide +kernel
theorem d_Rd_start_5 : decode (mB Y_Rd_start) 5 = .ok (.aload_n 0, 1) := by decide +kernel
theorem d_Rd_start_6 : decode (mB Y_Rd_start) 6 = .ok (.iconst 0, 1) := by decide +kernel
theorem d_Rd_start_7 : decode (mB Y_Rd_start) 7 = .ok (.putfield 71, 3) := by decide +kernel
theorem d_Rd_start_10 : decode (mB Y_Rd_start) 10 = .ok (.aload_n 0, 1) := by decide +kernel
theorem d_Rd_start_11 : decode (mB Y_Rd_start) 11 = .ok (.iconst 0, 1) := by decide +kernel
theorem d_Rd_start_12 : decode (mB Y_Rd_start) 12 = .ok (.putfield 42, 3) := by decide +kernel
theorem d_Rd_start_15 : decode (mB Y_Rd_start) 15 = .ok (.aload_n 0, 1) := by decide +kernel
theorem d_Rd_start_16 : decode (mB Y_Rd_start) 16 = .ok (.iconst 0, 1) := by decide +kernel
theorem d_Rd_start_17 : decode (mB Y_Rd_start) 17 = .ok (.putfield 64, 3) := by decide +kernel
theorem d_Rd_start_20 : decode (mB Y_Rd_start) 20 = .ok (.aload_n 0, 1) := by decide +kernel
theorem d_Rd_start_21 : decode (mB Y_Rd_start) 21 = .ok (.iconst 0, 1) := by decide +kernel
theorem d_Rd_start_22 : decode (mB Y_Rd_start) 22 = .ok (.putfield 74, 3) := by decide +kernel
theorem d_Rd_start_25 : decode (mB Y_Rd_start) 25 = .ok (.aload_n 0, 1) := by decide +kernel
theorem d_Rd_start_26 : decode (mB Y_Rd_start) 26 = .ok (.iconst 0, 1) := by decide +kernel
theorem d_Rd_start_27 : decode (mB Y_Rd_start) 27 = .ok (.putfield 77, 3) := by decide +kernel
theorem d_Rd_start_30 : decode (mB Y_Rd_start) 30 = .ok (.aload_n 0, 1) := by decide +kernel
theorem d_Rd_start_31 : decode (mB Y_Rd_start) 31 = .ok (.iconst 0, 1) := by decide +kernel
theorem d_Rd_start_32 : decode (mB Y_Rd_start) 32 = .ok (.putfield 80, 3) := by decide +kernel
theorem d_Rd_start_35 : decode (mB Y_Rd_start) 35 = .ok (.aload_n 0, 1) := by decide +kernel
theorem d_Rd_start_36 : decode (mB Y_Rd_start) 36 = .ok (.iconst 0, 1) := by decide +kernel
theorem d_Rd_start_37 : decode (mB Y_Rd_start) 37 = .ok (.putfield 52, 3) := by decide +kernel
theorem d_Rd_start_40 : decode (mB Y_Rd_start) 40 = .ok (.return_, 1) := by decide +kernel
def r_Rd_start (x1 : Int32) (S : Sto) : Option Sto :=
  chk (b01 x1) (
  ltS (sw S 29 4 x1) (fun S1 =>
  ltS (sw S1 29 5 0) (fun S2 =>
  ltS (sw S2 29 9 0) (fun S3 =>
  ltS (sw S3 29 11 0) (fun S4 =>
  ltS (sw S4 29 13 0) (fun S5 =>
  ltS (sw S5 29 14 0) (fun S6 =>
  ltS (sw S6 29 16 0) (fun S7 =>
  ltS (sw S7 29 18 0) (fun S8 =>
  some S8)))))))))
set_option maxHeartbeats 4000000 in
set_option maxRecDepth 20000 in
theorem c_Rd_start {G : Gl} {L : Shp} (hL : Ext L) (S : Sto) (x1 : Int32)  : Ct Y_Rd_start G [rf G 29, .int x1] L S (fv L) (r_Rd_start x1 S) := by
  refine ct_of (by decide +kernel) (Nat.le_of_ble_eq_true rfl) (fun g C => ?_)
  show VO g Y_Rd_start G (fun z => Qm g Y_Rd_start G (fv L z)) 0 0 0 [(0, rf G 29), (1, .int x1)] [] L S (r_Rd_start x1 S) some
  unfold r_Rd_start
  refine v_aload_n (pc := 0) C d_Rd_start_0 rfl 0 rfl ?_
  refine v_iload_n (pc := 1) C d_Rd_start_1 rfl 1 rfl ?_
  refine v_chk (fun hb => ?_)
  refine v_putZ (pc := 2) C fp_Rd_67 (sh_29 hL) rfl d_Rd_start_2 hb (fun S1 => ?_)
  refine v_aload_n (pc := 5) C d_Rd_start_5 rfl 0 rfl ?_
  refine v_iconst (pc := 6) C d_Rd_start_6 ic_0 ?_
  refine v_putI (pc := 7) C fp_Rd_71 (sh_29 hL) rfl d_Rd_start_7 (fun S2 => ?_)
  refine v_aload_n (pc := 10) C d_Rd_start_10 rfl 0 rfl ?_
  refine v_iconst (pc := 11) C d_Rd_start_11 ic_0 ?_
  refine v_putI (pc := 12) C fp_Rd_42 (sh_29 hL) rfl d_Rd_start_12 (fun S3 => ?_)
  refine v_aload_n (pc := 15) C d_Rd_start_15 rfl 0 rfl ?_
  refine v_iconst (pc := 16) C d_Rd_start_16 ic_0 ?_
  refine v_putI (pc := 17) C fp_Rd_64 (sh_29 hL) rfl d_Rd_start_17 (fun S4 => ?_)
  refine v_aload_n (pc := 20) C d_Rd_start_20 rfl 0 rfl ?_
  refine v_iconst (pc := 21) C d_Rd_start_21 ic_0 ?_
  refine v_putI (pc := 22) C fp_Rd_74 (sh_29 hL) rfl d_Rd_start_22 (fun S5 => ?_)
  refine v_aload_n (pc := 25) C d_Rd_start_25 rfl 0 rfl ?_
  refine v_iconst (pc := 26) C d_Rd_start_26 ic_0 ?_
  refine v_putI (pc := 27) C fp_Rd_77 (sh_29 hL) rfl d_Rd_start_27 (fun S6 => ?_)
  refine v_aload_n (pc := 30) C d_Rd_start_30 rfl 0 rfl ?_
  refine v_iconst (pc := 31) C d_Rd_start_31 ic_0 ?_
  refine v_putI (pc := 32) C fp_Rd_80 (sh_29 hL) rfl d_Rd_start_32 (fun S7 => ?_)
  refine v_aload_n (pc := 35) C d_Rd_start_35 rfl 0 rfl ?_
  refine v_iconst (pc := 36) C d_Rd_start_36 ic_0 ?_
  refine v_putI (pc := 37) C fp_Rd_52 (sh_29 hL) rfl d_Rd_start_37 (fun S8 => ?_)
  exact v_vret C d_Rd_start_40 rfl ⟨Nat.zero_le _, Nat.zero_le _⟩ rfl rfl
-- Rd_byteAt
theorem d_Rd_byteAt_0 : decode (mB Y_Rd_byteAt) 0 = .ok (.iload_n 1, 1) := by decide +kernel
theorem d_Rd_byteAt_1 : decode (mB Y_Rd_byteAt) 1 = .ok (.ifCond .lt 33, 3) := by decide +kernel
theorem d_Rd_byteAt_4 : decode (mB Y_Rd_byteAt) 4 = .ok (.iload_n 1, 1) := by decide +kernel
theorem d_Rd_byteAt_5 : decode (mB Y_Rd_byteAt) 5 = .ok (.aload_n 0, 1) := by decide +kernel
theorem d_Rd_byteAt_6 : decode (mB Y_Rd_byteAt) 6 = .ok (.getfield 26, 3) := by decide +kernel
theorem d_Rd_byteAt_9 : decode (mB Y_Rd_byteAt) 9 = .ok (.if_icmp .ge 25, 3) := by decide +kernel
theorem d_Rd_byteAt_12 : decode (mB Y_Rd_byteAt) 12 = .ok (.iload_n 1, 1) := by decide +kernel
theorem d_Rd_byteAt_13 : decode (mB Y_Rd_byteAt) 13 = .ok (.aload_n 0, 1) := by decide +kernel
theorem d_Rd_byteAt_14 : decode (mB Y_Rd_byteAt) 14 = .ok (.getfield 9, 3) := by decide +kernel
theorem d_Rd_byteAt_17 : decode (mB Y_Rd_byteAt) 17 = .ok (.arraylength, 1) := by decide +kernel
theorem d_Rd_byteAt_18 : decode (mB Y_Rd_byteAt) 18 = .ok (.if_icmp .ge 16, 3) := by decide +kernel
theorem d_Rd_byteAt_21 : decode (mB Y_Rd_byteAt) 21 = .ok (.aload_n 0, 1) := by decide +kernel
theorem d_Rd_byteAt_22 : decode (mB Y_Rd_byteAt) 22 = .ok (.getfield 9, 3) := by decide +kernel
theorem d_Rd_byteAt_25 : decode (mB Y_Rd_byteAt) 25 = .ok (.iload_n 1, 1) := by decide +kernel
theorem d_Rd_byteAt_26 : decode (mB Y_Rd_byteAt) 26 = .ok (.baload, 1) := by decide +kernel
theorem d_Rd_byteAt_27 : decode (mB Y_Rd_byteAt) 27 = .ok (.sipush 255, 3) := by decide +kernel
theorem d_Rd_byteAt_30 : decode (mB Y_Rd_byteAt) 30 = .ok (.iand, 1) := by decide +kernel
theorem d_Rd_byteAt_31 : decode (mB Y_Rd_byteAt) 31 = .ok (.goto 4, 3) := by decide +kernel
theorem d_Rd_byteAt_34 : decode (mB Y_Rd_byteAt) 34 = .ok (.iconst 0, 1) := by decide +kernel
theorem d_Rd_byteAt_35 : decode (mB Y_Rd_byteAt) 35 = .ok (.ireturn, 1) := by decide +kernel
def r_Rd_byteAt (x1 : Int32) (S : Sto) : Option Int32 :=
  if x1 < 0 then
    some 0
  else
    if (S 29 1) ≤ x1 then
      some 0
    else
      if 400 ≤ x1 then
        some 0
      else
        chk (inr x1 400) (
        some ((S 30 x1.toNatClampNeg) &&& 255))
set_option maxHeartbeats 4000000 in
set_option maxRecDepth 20000 in
theorem c_Rd_byteAt {G : Gl} {L : Shp} (hL : Ext L) (S : Sto) (x1 : Int32)  : Ct Y_Rd_byteAt G [rf G 29, .int x1] L S (fp L S) (r_Rd_byteAt x1 S) := by
  refine ct_of (by decide +kernel) (Nat.le_of_ble_eq_true rfl) (fun g C => ?_)
  show VO g Y_Rd_byteAt G (fun z => Qm g Y_Rd_byteAt G (fp L S z)) 0 0 0 [(0, rf G 29), (1, .int x1)] [] L S (r_Rd_byteAt x1 S) some
  unfold r_Rd_byteAt
  refine v_iload_n (pc := 0) C d_Rd_byteAt_0 rfl 1 rfl ?_
  refine v_if_lt (pc := 1) (tgt := 34) C d_Rd_byteAt_1 rfl (fun _ => ?_) (fun _ => ?_)
  · refine v_iconst (pc := 34) C d_Rd_byteAt_34 ic_0 ?_
    exact v_iret (z := 0) C d_Rd_byteAt_35 rfl ⟨Nat.zero_le _, Nat.zero_le _⟩ (rfl) rfl
  · refine v_iload_n (pc := 4) C d_Rd_byteAt_4 rfl 1 rfl ?_
    refine v_aload_n (pc := 5) C d_Rd_byteAt_5 rfl 0 rfl ?_
    refine v_getI (pc := 6) C fl_Rd_26 (sh_29 hL) rfl d_Rd_byteAt_6 ?_
    refine v_icmp_ge (pc := 9) (tgt := 34) C d_Rd_byteAt_9 rfl (fun _ => ?_) (fun _ => ?_)
    · refine v_iconst (pc := 34) C d_Rd_byteAt_34 ic_0 ?_
      exact v_iret (z := 0) C d_Rd_byteAt_35 rfl ⟨Nat.zero_le _, Nat.zero_le _⟩ (rfl) rfl
    · refine v_iload_n (pc := 12) C d_Rd_byteAt_12 rfl 1 rfl ?_
      refine v_aload_n (pc := 13) C d_Rd_byteAt_13 rfl 0 rfl ?_
      refine v_getR (pc := 14) C fl_Rd_9 (sh_29 hL) rfl d_Rd_byteAt_14 ?_
      refine v_alen (pc := 17) (v := 400) (t := 1) C (sh_30 hL) rfl rfl rfl d_Rd_byteAt_17 ?_
      refine v_icmp_ge (pc := 18) (tgt := 34) C d_Rd_byteAt_18 rfl (fun _ => ?_) (fun _ => ?_)
      · refine v_iconst (pc := 34) C d_Rd_byteAt_34 ic_0 ?_
        exact v_iret (z := 0) C d_Rd_byteAt_35 rfl ⟨Nat.zero_le _, Nat.zero_le _⟩ (rfl) rfl
      · refine v_aload_n (pc := 21) C d_Rd_byteAt_21 rfl 0 rfl ?_
        refine v_getR (pc := 22) C fl_Rd_9 (sh_29 hL) rfl d_Rd_byteAt_22 ?_
        refine v_iload_n (pc := 25) C d_Rd_byteAt_25 rfl 1 rfl ?_
        refine v_bald (pc := 26) C (sh_30 hL) d_Rd_byteAt_26 (fun _ => ?_)
        refine v_sipush (pc := 27) C d_Rd_byteAt_27 sp_255 ?_
        refine v_iand (pc := 30) C d_Rd_byteAt_30 ?_
        refine v_goto (pc := 31) (tgt := 35) C d_Rd_byteAt_31 rfl ?_
        exact v_iret (z := ((S 30 x1.toNatClampNeg) &&& 255)) C d_Rd_byteAt_35 rfl ⟨Nat.zero_le _, Nat.zero_le _⟩ (rfl) rfl
-- B_within
theorem d_B_within_0 : decode (mB Y_B_within) 0 = .ok (.iload_n 0, 1) := by decide +kernel
theorem d_B_within_1 : decode (mB Y_B_within) 1 = .ok (.iload_n 1, 1) := by decide +kernel
theorem d_B_within_2 : decode (mB Y_B_within) 2 = .ok (.if_icmp .lt 12, 3) := by decide +kernel
theorem d_B_within_5 : decode (mB Y_B_within) 5 = .ok (.iload_n 0, 1) := by decide +kernel
theorem d_B_within_6 : decode (mB Y_B_within) 6 = .ok (.iload_n 2, 1) := by decide +kernel
theorem d_B_within_7 : decode (mB Y_B_within) 7 = .ok (.if_icmp .gt 7, 3) := by decide +kernel
theorem d_B_within_10 : decode (mB Y_B_within) 10 = .ok (.iconst 1, 1) := by decide +kernel
theorem d_B_within_11 : decode (mB Y_B_within) 11 = .ok (.goto 4, 3) := by decide +kernel
theorem d_B_within_14 : decode (mB Y_B_within) 14 = .ok (.iconst 0, 1) := by decide +kernel
theorem d_B_within_15 : decode (mB Y_B_within) 15 = .ok (.ireturn, 1) := by decide +kernel
def r_B_within (x0 : Int32) (x1 : Int32) (x2 : Int32) : Int32 := (if x0 < x1 then 0 else (if x2 < x0 then 0 else 1))
theorem z_B_within (x0 : Int32) (x1 : Int32) (x2 : Int32) : b01 (r_B_within x0 x1 x2) = true := by
  unfold r_B_within
  (repeat' split) <;> first | rfl | decide | rfl
set_option maxHeartbeats 4000000 in
set_option maxRecDepth 20000 in
theorem c_B_within {G : Gl} {L : Shp} (hL : Ext L) (S : Sto) (x0 : Int32) (x1 : Int32) (x2 : Int32)  : Ct Y_B_within G [.int x0, .int x1, .int x2] L S (fp L S) (some (r_B_within x0 x1 x2)) := by
  refine ct_of (by decide +kernel) (Nat.le_of_ble_eq_true rfl) (fun g C => ?_)
  have e : (some (r_B_within x0 x1 x2) : Option Int32) =
      if x0 < x1 then
        some 0
      else
        if x2 < x0 then
          some 0
        else
          some 1 := by
    unfold r_B_within
    simp only [some_ite, lt, ltJ]
  rw [e]
  show VO g Y_B_within G (fun z => Qm g Y_B_within G (fp L S z)) 0 0 0 [(0, .int x0), (1, .int x1), (2, .int x2)] [] L S _ some
  refine v_iload_n (pc := 0) C d_B_within_0 rfl 0 rfl ?_
  refine v_iload_n (pc := 1) C d_B_within_1 rfl 1 rfl ?_
  refine v_icmp_lt (pc := 2) (tgt := 14) C d_B_within_2 rfl (fun _ => ?_) (fun _ => ?_)
  · refine v_iconst (pc := 14) C d_B_within_14 ic_0 ?_
    exact v_zret (z := 0) C d_B_within_15 rfl (b01_n (by decide)) ⟨Nat.zero_le _, Nat.zero_le _⟩ (rfl) rfl
  · refine v_iload_n (pc := 5) C d_B_within_5 rfl 0 rfl ?_
    refine v_iload_n (pc := 6) C d_B_within_6 rfl 2 rfl ?_
    refine v_icmp_gt (pc := 7) (tgt := 14) C d_B_within_7 rfl (fun _ => ?_) (fun _ => ?_)
    · refine v_iconst (pc := 14) C d_B_within_14 ic_0 ?_
      exact v_zret (z := 0) C d_B_within_15 rfl (b01_n (by decide)) ⟨Nat.zero_le _, Nat.zero_le _⟩ (rfl) rfl
    · refine v_iconst (pc := 10) C d_B_within_10 ic_1 ?_
      refine v_goto (pc := 11) (tgt := 15) C d_B_within_11 rfl ?_
      exact v_zret (z := 1) C d_B_within_15 rfl (b01_n (by decide)) ⟨Nat.zero_le _, Nat.zero_le _⟩ (rfl) rfl
-- Rd_isLetter
theorem d_Rd_isLetter_0 : decode (mB Y_Rd_isLetter) 0 = .ok (.iload_n 0, 1) := by decide +kernel
theorem d_Rd_isLetter_1 : decode (mB Y_Rd_isLetter) 1 = .ok (.bipush 97, 2) := by decide +kernel
theorem d_Rd_isLetter_3 : decode (mB Y_Rd_isLetter) 3 = .ok (.bipush 122, 2) := by decide +kernel
theorem d_Rd_isLetter_5 : decode (mB Y_Rd_isLetter) 5 = .ok (.invokestatic 124, 3) := by decide +kernel
theorem d_Rd_isLetter_8 : decode (mB Y_Rd_isLetter) 8 = .ok (.ifCond .ne 14, 3) := by decide +kernel
theorem d_Rd_isLetter_11 : decode (mB Y_Rd_isLetter) 11 = .ok (.iload_n 0, 1) := by decide +kernel
theorem d_Rd_isLetter_12 : decode (mB Y_Rd_isLetter) 12 = .ok (.bipush 65, 2) := by decide +kernel
theorem d_Rd_isLetter_14 : decode (mB Y_Rd_isLetter) 14 = .ok (.bipush 90, 2) := by decide +kernel
theorem d_Rd_isLetter_16 : decode (mB Y_Rd_isLetter) 16 = .ok (.invokestatic 124, 3) := by decide +kernel
theorem d_Rd_isLetter_19 : decode (mB Y_Rd_isLetter) 19 = .ok (.ifCond .eq 7, 3) := by decide +kernel
theorem d_Rd_isLetter_22 : decode (mB Y_Rd_isLetter) 22 = .ok (.iconst 1, 1) := by decide +kernel
theorem d_Rd_isLetter_23 : decode (mB Y_Rd_isLetter) 23 = .ok (.goto 4, 3) := by decide +kernel
theorem d_Rd_isLetter_26 : decode (mB Y_Rd_isLetter) 26 = .ok (.iconst 0, 1) := by decide +kernel
theorem d_Rd_isLetter_27 : decode (mB Y_Rd_isLetter) 27 = .ok (.ireturn, 1) := by decide +kernel
theorem ro_Rd_isLetter_B_within : roomy Y_Rd_isLetter Y_B_within := ⟨Nat.le_of_ble_eq_true rfl, Nat.le_of_ble_eq_true rfl⟩
def r_Rd_isLetter (x0 : Int32) : Int32 := (if (r_B_within x0 97 122) = 0 then (if (r_B_within x0 65 90) = 0 then 0 else 1) else 1)
theorem z_Rd_isLetter (x0 : Int32) : b01 (r_Rd_isLetter x0) = true := by
  unfold r_Rd_isLetter
  (repeat' split) <;> first | rfl | decide | exact z_B_within .. | rfl
set_option maxHeartbeats 4000000 in
set_option maxRecDepth 20000 in
theorem c_Rd_isLetter {G : Gl} {L : Shp} (hL : Ext L) (S : Sto) (x0 : Int32)  : Ct Y_Rd_isLetter G [.int x0] L S (fp L S) (some (r_Rd_isLetter x0)) := by
  refine ct_of (by decide +kernel) (Nat.le_of_ble_eq_true rfl) (fun g C => ?_)
  have e : (some (r_Rd_isLetter x0) : Option Int32) =
      if (r_B_within x0 97 122) = 0 then
        if (r_B_within x0 65 90) = 0 then
          some 0
        else
          some 1
      else
        some 1 := by
    unfold r_Rd_isLetter
    simp only [some_ite, lt, ltJ]
  rw [e]
  show VO g Y_Rd_isLetter G (fun z => Qm g Y_Rd_isLetter G (fp L S z)) 0 0 0 [(0, .int x0)] [] L S _ some
  refine v_iload_n (pc := 0) C d_Rd_isLetter_0 rfl 0 rfl ?_
  refine v_bipush (pc := 1) C d_Rd_isLetter_1 bp_97 ?_
  refine v_bipush (pc := 3) C d_Rd_isLetter_3 bp_122 ?_
  refine v_ct (pc := 5) (inv_SN (As := [.int x0, .int 97, .int 122]) (st := []) C mn_Rd_124 ms_B_within ro_Rd_isLetter_B_within rfl rfl (Nat.le_of_ble_eq_true rfl) d_Rd_isLetter_5) (c_B_within hL S x0 97 122) ⟨rfl, rfl⟩ ⟨Nat.zero_le _, Nat.zero_le _⟩ ?_
  refine v_if_ne (pc := 8) (tgt := 22) C d_Rd_isLetter_8 rfl (fun _ => ?_) (fun _ => ?_)
  · refine v_iconst (pc := 22) C d_Rd_isLetter_22 ic_1 ?_
    refine v_goto (pc := 23) (tgt := 27) C d_Rd_isLetter_23 rfl ?_
    exact v_zret (z := 1) C d_Rd_isLetter_27 rfl (b01_n (by decide)) ⟨Nat.zero_le _, Nat.zero_le _⟩ (rfl) rfl
  · refine v_iload_n (pc := 11) C d_Rd_isLetter_11 rfl 0 rfl ?_
    refine v_bipush (pc := 12) C d_Rd_isLetter_12 bp_65 ?_
    refine v_bipush (pc := 14) C d_Rd_isLetter_14 bp_90 ?_
    refine v_ct (pc := 16) (inv_SN (As := [.int x0, .int 65, .int 90]) (st := []) C mn_Rd_124 ms_B_within ro_Rd_isLetter_B_within rfl rfl (Nat.le_of_ble_eq_true rfl) d_Rd_isLetter_16) (c_B_within hL S x0 65 90) ⟨rfl, rfl⟩ ⟨Nat.zero_le _, Nat.zero_le _⟩ ?_
    refine v_if_eq (pc := 19) (tgt := 26) C d_Rd_isLetter_19 rfl (fun _ => ?_) (fun _ => ?_)
    · refine v_iconst (pc := 26) C d_Rd_isLetter_26 ic_0 ?_
      exact v_zret (z := 0) C d_Rd_isLetter_27 rfl (b01_n (by decide)) ⟨Nat.zero_le _, Nat.zero_le _⟩ (rfl) rfl
    · refine v_iconst (pc := 22) C d_Rd_isLetter_22 ic_1 ?_
      refine v_goto (pc := 23) (tgt := 27) C d_Rd_isLetter_23 rfl ?_
      exact v_zret (z := 1) C d_Rd_isLetter_27 rfl (b01_n (by decide)) ⟨Nat.zero_le _, Nat.zero_le _⟩ (rfl) rfl
-- Rd_isWord
theorem d_Rd_isWord_0 : decode (mB Y_Rd_isWord) 0 = .ok (.aload_n 0, 1) := by decide +kernel
theorem d_Rd_isWord_1 : decode (mB Y_Rd_isWord) 1 = .ok (.getfield 71, 3) := by decide +kernel
theorem d_Rd_isWord_4 : decode (mB Y_Rd_isWord) 4 = .ok (.aload_n 0, 1) := by decide +kernel
theorem d_Rd_isWord_5 : decode (mB Y_Rd_isWord) 5 = .ok (.getfield 49, 3) := by decide +kernel
theorem d_Rd_isWord_8 : decode (mB Y_Rd_isWord) 8 = .ok (.isub, 1) := by decide +kernel
theorem d_Rd_isWord_9 : decode (mB Y_Rd_isWord) 9 = .ok (.bipush 8, 2) := by decide +kernel
theorem d_Rd_isWord_11 : decode (mB Y_Rd_isWord) 11 = .ok (.if_icmp .ge 14, 3) := by decide +kernel
theorem d_Rd_isWord_14 : decode (mB Y_Rd_isWord) 14 = .ok (.iload_n 2, 1) := by decide +kernel
theorem d_Rd_isWord_15 : decode (mB Y_Rd_isWord) 15 = .ok (.bipush 8, 2) := by decide +kernel
theorem d_Rd_isWord_17 : decode (mB Y_Rd_isWord) 17 = .ok (.iadd, 1) := by decide +kernel
theorem d_Rd_isWord_18 : decode (mB Y_Rd_isWord) 18 = .ok (.aload_n 1, 1) := by decide +kernel
theorem d_Rd_isWord_19 : decode (mB Y_Rd_isWord) 19 = .ok (.invokevirtual 111, 3) := by decide +kernel
theorem d_Rd_isWord_22 : decode (mB Y_Rd_isWord) 22 = .ok (.if_icmp .le 5, 3) := by decide +kernel
theorem d_Rd_isWord_25 : decode (mB Y_Rd_isWord) 25 = .ok (.iconst 0, 1) := by decide +kernel
theorem d_Rd_isWord_26 : decode (mB Y_Rd_isWord) 26 = .ok (.ireturn, 1) := by decide +kernel
theorem d_Rd_isWord_27 : decode (mB Y_Rd_isWord) 27 = .ok (.iconst 0, 1) := by decide +kernel
theorem d_Rd_isWord_28 : decode (mB Y_Rd_isWord) 28 = .ok (.istore_n 3, 1) := by decide +kernel
theorem d_Rd_isWord_29 : decode (mB Y_Rd_isWord) 29 = .ok (.iload_n 3, 1) := by decide +kernel
theorem d_Rd_isWord_30 : decode (mB Y_Rd_isWord) 30 = .ok (.bipush 8, 2) := by decide +kernel
theorem d_Rd_isWord_32 : decode (mB Y_Rd_isWord) 32 = .ok (.if_icmp .ge 53, 3) := by decide +kernel
theorem d_Rd_isWord_35 : decode (mB Y_Rd_isWord) 35 = .ok (.aload_n 0, 1) := by decide +kernel
theorem d_Rd_isWord_36 : decode (mB Y_Rd_isWord) 36 = .ok (.getfield 49, 3) := by decide +kernel
theorem d_Rd_isWord_39 : decode (mB Y_Rd_isWord) 39 = .ok (.iload_n 3, 1) := by decide +kernel
theorem d_Rd_isWord_40 : decode (mB Y_Rd_isWord) 40 = .ok (.iadd, 1) := by decide +kernel
theorem d_Rd_isWord_41 : decode (mB Y_Rd_isWord) 41 = .ok (.aload_n 0, 1) := by decide +kernel
theorem d_Rd_isWord_42 : decode (mB Y_Rd_isWord) 42 = .ok (.getfield 71, 3) := by decide +kernel
theorem d_Rd_isWord_45 : decode (mB Y_Rd_isWord) 45 = .ok (.if_icmp .ge 16, 3) := by decide +kernel
theorem d_Rd_isWord_48 : decode (mB Y_Rd_isWord) 48 = .ok (.aload_n 0, 1) := by decide +kernel
theorem d_Rd_isWord_49 : decode (mB Y_Rd_isWord) 49 = .ok (.aload_n 0, 1) := by decide +kernel
theorem d_Rd_isWord_50 : decode (mB Y_Rd_isWord) 50 = .ok (.getfield 49, 3) := by decide +kernel
theorem d_Rd_isWord_53 : decode (mB Y_Rd_isWord) 53 = .ok (.iload_n 3, 1) := by decide +kernel
theorem d_Rd_isWord_54 : decode (mB Y_Rd_isWord) 54 = .ok (.iadd, 1) := by decide +kernel
theorem d_Rd_isWord_55 : decode (mB Y_Rd_isWord) 55 = .ok (.invokevirtual 83, 3) := by decide +kernel
theorem d_Rd_isWord_58 : decode (mB Y_Rd_isWord) 58 = .ok (.goto 5, 3) := by decide +kernel
theorem d_Rd_isWord_61 : decode (mB Y_Rd_isWord) 61 = .ok (.bipush 32, 2) := by decide +kernel
theorem d_Rd_isWord_63 : decode (mB Y_Rd_isWord) 63 = .ok (.istore 4, 2) := by decide +kernel
theorem d_Rd_isWord_65 : decode (mB Y_Rd_isWord) 65 = .ok (.aload_n 1, 1) := by decide +kernel
theorem d_Rd_isWord_66 : decode (mB Y_Rd_isWord) 66 = .ok (.iload_n 2, 1) := by decide +kernel
theorem d_Rd_isWord_67 : decode (mB Y_Rd_isWord) 67 = .ok (.iload_n 3, 1) := by decide +kernel
theorem d_Rd_isWord_68 : decode (mB Y_Rd_isWord) 68 = .ok (.iadd, 1) := by decide +kernel
theorem d_Rd_isWord_69 : decode (mB Y_Rd_isWord) 69 = .ok (.invokevirtual 117, 3) := by decide +kernel
theorem d_Rd_isWord_72 : decode (mB Y_Rd_isWord) 72 = .ok (.iload 4, 2) := by decide +kernel
theorem d_Rd_isWord_74 : decode (mB Y_Rd_isWord) 74 = .ok (.if_icmp .eq 5, 3) := by decide +kernel
theorem d_Rd_isWord_77 : decode (mB Y_Rd_isWord) 77 = .ok (.iconst 0, 1) := by decide +kernel
theorem d_Rd_isWord_78 : decode (mB Y_Rd_isWord) 78 = .ok (.ireturn, 1) := by decide +kernel
theorem d_Rd_isWord_79 : decode (mB Y_Rd_isWord) 79 = .ok (.iinc 3 1, 3) := by decide +kernel
theorem d_Rd_isWord_82 : decode (mB Y_Rd_isWord) 82 = .ok (.goto (-53), 3) := by decide +kernel
theorem d_Rd_isWord_85 : decode (mB Y_Rd_isWord) 85 = .ok (.iconst 1, 1) := by decide +kernel
theorem d_Rd_isWord_86 : decode (mB Y_Rd_isWord) 86 = .ok (.ireturn, 1) := by decide +kernel
theorem ro_Rd_isWord_Rd_byteAt : roomy Y_Rd_isWord Y_Rd_byteAt := ⟨Nat.le_of_ble_eq_true rfl, Nat.le_of_ble_eq_true rfl⟩
theorem ro_Rd_isWord_Str_charAt : roomy Y_Rd_isWord Y_Str_charAt := ⟨Nat.le_of_ble_eq_true rfl, Nat.le_of_ble_eq_true rfl⟩
theorem ro_Rd_isWord_Str_length : roomy Y_Rd_isWord Y_Str_length := ⟨Nat.le_of_ble_eq_true rfl, Nat.le_of_ble_eq_true rfl⟩
def r_Rd_isWord_L29 (i1_ : Nat) (y2_ : Int32) : Nat → Int32 → Sto → Option ((Int32 × Sto) ⊕ (Int32 × Sto))
  | 0, _, _ => none
  | n + 1, x3_, S =>
    if 8 ≤ x3_ then
      some (.inl (x3_, S))
    else
      jn (fun (v1 : Int32) =>
        (r_Str_charAt i1_ (y2_ + x3_) S).bind (fun (r2, S3) =>
        if r2 = v1 then
          lt (x3_ + 1) (fun v4 =>
          r_Rd_isWord_L29 i1_ y2_ n v4 S3)
        else
          some (.inr (0, S3)))) (fun j63 =>
      if (S 29 5) ≤ ((S 29 8) + x3_) then
        j63 (32)
      else
        (r_Rd_byteAt ((S 29 8) + x3_) S).bind (fun r5 =>
        j63 (r5)))
set_option maxHeartbeats 4000000 in
set_option maxRecDepth 20000 in
theorem w_Rd_isWord_L29 {g : Gm} {G : Gl} {L : Shp} (C : Cx g Y_Rd_isWord G) (hL : Ext L) (i1_ : Nat) (y2_ : Int32) (h1_ : i1_ < 3) :
    ∀ (n : Nat) (x3_ : Int32) (S : Sto) (K : ((Int32 × Sto) ⊕ (Int32 × Sto)) → Option (Int32 × Sto)), (∀ (x3_ : Int32) (S : Sto), VO g Y_Rd_isWord G (fun z => Qm g Y_Rd_isWord G (fi L z)) 0 0 85 [] [] L S (some (.inl (x3_, S))) K) → (∀ x, K (.inr x) = some x) → VO g Y_Rd_isWord G (fun z => Qm g Y_Rd_isWord G (fi L z)) 0 0 29 [(0, rf G 29), (1, rs G i1_), (2, .int y2_), (3, .int x3_)] [] L S (r_Rd_isWord_L29 i1_ y2_ n x3_ S) K := by
  intro n
  induction n with
  | zero => intro x3_ S K; intros; exact v_none
  | succ n ih =>
    intro x3_ S K hK hR
    rw [r_Rd_isWord_L29]
    refine v_iload_n (pc := 29) C d_Rd_isWord_29 rfl 3 rfl ?_
    refine v_bipush (pc := 30) C d_Rd_isWord_30 bp_8 ?_
    refine v_icmp_ge (pc := 32) (tgt := 85) C d_Rd_isWord_32 rfl (fun _ => ?_) (fun _ => ?_)
    · refine v_sub [] rfl ?_
      exact hK x3_ S
    · refine v_aload_n (pc := 35) C d_Rd_isWord_35 rfl 0 rfl ?_
      refine v_getI (pc := 36) C fl_Rd_49 (sh_29 hL) rfl d_Rd_isWord_36 ?_
      refine v_iload_n (pc := 39) C d_Rd_isWord_39 rfl 3 rfl ?_
      refine v_iadd (pc := 40) C d_Rd_isWord_40 ?_
      refine v_aload_n (pc := 41) C d_Rd_isWord_41 rfl 0 rfl ?_
      refine v_getI (pc := 42) C fl_Rd_71 (sh_29 hL) rfl d_Rd_isWord_42 ?_
      refine v_jn (fun j => ∀ (v1 : Int32), VO g Y_Rd_isWord G (fun z => Qm g Y_Rd_isWord G (fi L z)) 0 0 63 [(0, rf G 29), (1, rs G i1_), (2, .int y2_), (3, .int x3_)] [.int v1] L S (j (v1)) K) (fun v1 => ?_) (fun j63 hj63 => ?_)
      · refine v_istore (pc := 63) (lv' := [(4, .int v1), (0, rf G 29), (1, rs G i1_), (2, .int y2_), (3, .int x3_)]) C d_Rd_isWord_63 (by decide) rfl ?_
        refine v_aloadS_n (pc := 65) C d_Rd_isWord_65 rfl 2 rfl ?_
        refine v_iload_n (pc := 66) C d_Rd_isWord_66 rfl 3 rfl ?_
        refine v_iload_n (pc := 67) C d_Rd_isWord_67 rfl 4 rfl ?_
        refine v_iadd (pc := 68) C d_Rd_isWord_68 ?_
        refine v_ci (pc := 69) (inv_VS (As := [.int (y2_ + x3_)]) (st := []) C h1_ ml_Rd_117 mv_Str_charAt ro_Rd_isWord_Str_charAt rfl rfl rfl (Nat.le_of_ble_eq_true rfl) d_Rd_isWord_69) (c_Str_charAt hL S i1_ (y2_ + x3_) h1_) ⟨rfl, rfl⟩ ⟨Nat.zero_le _, Nat.zero_le _⟩ (fun r2 S3 => ?_)
        refine v_iload (pc := 72) C d_Rd_isWord_72 0 rfl ?_
        refine v_icmp_eq (pc := 74) (tgt := 79) C d_Rd_isWord_74 rfl (fun _ => ?_) (fun _ => ?_)
        · refine v_iinc (pc := 79) (p := 4) (c := 1) C d_Rd_isWord_79 rfl (by decide) (by decide) (fun v4 => [(3, .int v4), (4, .int v1), (0, rf G 29), (1, rs G i1_), (2, .int y2_)]) (fun _ => rfl) (fun v4 => ?_)
          refine v_goto (pc := 82) (tgt := 29) C d_Rd_isWord_82 rfl ?_
          refine v_sub [2, 3, 4, 0] rfl ?_
          exact ih v4 S3 K hK hR
        · refine v_iconst (pc := 77) C d_Rd_isWord_77 ic_0 ?_
          exact v_zret (z := (0, S3)) C d_Rd_isWord_78 rfl (b01_n (by decide)) ⟨Nat.zero_le _, Nat.zero_le _⟩ (hR _) rfl
      · refine v_icmp_ge (pc := 45) (tgt := 61) C d_Rd_isWord_45 rfl (fun _ => ?_) (fun _ => ?_)
        · refine v_bipush (pc := 61) C d_Rd_isWord_61 bp_32 ?_
          exact hj63 32
        · refine v_aload_n (pc := 48) C d_Rd_isWord_48 rfl 0 rfl ?_
          refine v_aload_n (pc := 49) C d_Rd_isWord_49 rfl 0 rfl ?_
          refine v_getI (pc := 50) C fl_Rd_49 (sh_29 hL) rfl d_Rd_isWord_50 ?_
          refine v_iload_n (pc := 53) C d_Rd_isWord_53 rfl 3 rfl ?_
          refine v_iadd (pc := 54) C d_Rd_isWord_54 ?_
          refine v_cp (pc := 55) (inv_V (As := [.int ((S 29 8) + x3_)]) (st := []) C ml_Rd_83 mv_Rd_byteAt ro_Rd_isWord_Rd_byteAt (sh_29 hL) rfl rfl rfl rfl (Nat.le_of_ble_eq_true rfl) d_Rd_isWord_55) (c_Rd_byteAt hL S ((S 29 8) + x3_)) ⟨rfl, rfl⟩ ⟨Nat.zero_le _, Nat.zero_le _⟩ (fun r5 => ?_)
          refine v_goto (pc := 58) (tgt := 63) C d_Rd_isWord_58 rfl ?_
          exact hj63 r5
def r_Rd_isWord (i1 : Nat) (x2 : Int32) (S : Sto) : Option (Int32 × Sto) :=
  if 8 ≤ ((S 29 5) - (S 29 8)) then
    some (0, S)
  else
    if (x2 + 8) ≤ (r_Str_length i1 S) then
      (r_Rd_isWord_L29 i1 x2 fu 0 S).bind (fun x => match x with
      | .inl (v1, S2) =>
        some (1, S2)
      | .inr r => some r)
    else
      some (0, S)
set_option maxHeartbeats 4000000 in
set_option maxRecDepth 20000 in
theorem c_Rd_isWord {G : Gl} {L : Shp} (hL : Ext L) (S : Sto) (i1 : Nat) (x2 : Int32) (h1 : i1 < 3) : Ct Y_Rd_isWord G [rf G 29, rs G i1, .int x2] L S (fi L) (r_Rd_isWord i1 x2 S) := by
  refine ct_of (by decide +kernel) (Nat.le_of_ble_eq_true rfl) (fun g C => ?_)
  show VO g Y_Rd_isWord G (fun z => Qm g Y_Rd_isWord G (fi L z)) 0 0 0 [(0, rf G 29), (1, rs G i1), (2, .int x2)] [] L S (r_Rd_isWord i1 x2 S) some
  unfold r_Rd_isWord
  refine v_aload_n (pc := 0) C d_Rd_isWord_0 rfl 0 rfl ?_
  refine v_getI (pc := 1) C fl_Rd_71 (sh_29 hL) rfl d_Rd_isWord_1 ?_
  refine v_aload_n (pc := 4) C d_Rd_isWord_4 rfl 0 rfl ?_
  refine v_getI (pc := 5) C fl_Rd_49 (sh_29 hL) rfl d_Rd_isWord_5 ?_
  refine v_isub (pc := 8) C d_Rd_isWord_8 ?_
  refine v_bipush (pc := 9) C d_Rd_isWord_9 bp_8 ?_
  refine v_icmp_ge (pc := 11) (tgt := 25) C d_Rd_isWord_11 rfl (fun _ => ?_) (fun _ => ?_)
  · refine v_iconst (pc := 25) C d_Rd_isWord_25 ic_0 ?_
    exact v_zret (z := (0, S)) C d_Rd_isWord_26 rfl (b01_n (by decide)) ⟨Nat.zero_le _, Nat.zero_le _⟩ (rfl) rfl
  · refine v_iload_n (pc := 14) C d_Rd_isWord_14 rfl 2 rfl ?_
    refine v_bipush (pc := 15) C d_Rd_isWord_15 bp_8 ?_
    refine v_iadd (pc := 17) C d_Rd_isWord_17 ?_
    refine v_aloadS_n (pc := 18) C d_Rd_isWord_18 rfl 1 rfl ?_
    refine v_ct (pc := 19) (inv_VS (As := []) (st := [.int (x2 + 8)]) C h1 ml_Rd_111 mv_Str_length ro_Rd_isWord_Str_length rfl rfl rfl (Nat.le_of_ble_eq_true rfl) d_Rd_isWord_19) (c_Str_length hL S i1 h1) ⟨rfl, rfl⟩ ⟨Nat.zero_le _, Nat.zero_le _⟩ ?_
    refine v_icmp_le (pc := 22) (tgt := 27) C d_Rd_isWord_22 rfl (fun _ => ?_) (fun _ => ?_)
    · refine v_iconst (pc := 27) C d_Rd_isWord_27 ic_0 ?_
      refine v_istore_n (pc := 28) (lv' := [(3, .int 0), (0, rf G 29), (1, rs G i1), (2, .int x2)]) C d_Rd_isWord_28 rfl (by decide) rfl ?_
      refine v_sub [1, 2, 3, 0] rfl ?_
      refine v_bind ?_
      refine w_Rd_isWord_L29 C hL i1 x2 h1 fu 0 S _ (fun v1 S2 => ?_) (fun z => rfl)
      refine v_some ?_
      refine v_iconst (pc := 85) C d_Rd_isWord_85 ic_1 ?_
      exact v_zret (z := (1, S2)) C d_Rd_isWord_86 rfl (b01_n (by decide)) ⟨Nat.zero_le _, Nat.zero_le _⟩ (rfl) rfl
    · refine v_iconst (pc := 25) C d_Rd_isWord_25 ic_0 ?_
      exact v_zret (z := (0, S)) C d_Rd_isWord_26 rfl (b01_n (by decide)) ⟨Nat.zero_le _, Nat.zero_le _⟩ (rfl) rfl
-- Rd_scanWord
theorem d_Rd_scanWord_0 : decode (mB Y_Rd_scanWord) 0 = .ok (.aload_n 0, 1) := by decide +kernel
theorem d_Rd_scanWord_1 : decode (mB Y_Rd_scanWord) 1 = .ok (.getfield 71, 3) := by decide +kernel
theorem d_Rd_scanWord_4 : decode (mB Y_Rd_scanWord) 4 = .ok (.aload_n 0, 1) := by decide +kernel
theorem d_Rd_scanWord_5 : decode (mB Y_Rd_scanWord) 5 = .ok (.getfield 26, 3) := by decide +kernel
theorem d_Rd_scanWord_8 : decode (mB Y_Rd_scanWord) 8 = .ok (.if_icmp .ge 30, 3) := by decide +kernel
theorem d_Rd_scanWord_11 : decode (mB Y_Rd_scanWord) 11 = .ok (.aload_n 0, 1) := by decide +kernel
theorem d_Rd_scanWord_12 : decode (mB Y_Rd_scanWord) 12 = .ok (.aload_n 0, 1) := by decide +kernel
theorem d_Rd_scanWord_13 : decode (mB Y_Rd_scanWord) 13 = .ok (.getfield 71, 3) := by decide +kernel
theorem d_Rd_scanWord_16 : decode (mB Y_Rd_scanWord) 16 = .ok (.invokevirtual 83, 3) := by decide +kernel
theorem d_Rd_scanWord_19 : decode (mB Y_Rd_scanWord) 19 = .ok (.invokestatic 87, 3) := by decide +kernel
theorem d_Rd_scanWord_22 : decode (mB Y_Rd_scanWord) 22 = .ok (.ifCond .eq 16, 3) := by decide +kernel
theorem d_Rd_scanWord_25 : decode (mB Y_Rd_scanWord) 25 = .ok (.aload_n 0, 1) := by decide +kernel
theorem d_Rd_scanWord_26 : decode (mB Y_Rd_scanWord) 26 = .ok (.dup, 1) := by decide +kernel
theorem d_Rd_scanWord_27 : decode (mB Y_Rd_scanWord) 27 = .ok (.getfield 71, 3) := by decide +kernel
theorem d_Rd_scanWord_30 : decode (mB Y_Rd_scanWord) 30 = .ok (.iconst 1, 1) := by decide +kernel
theorem d_Rd_scanWord_31 : decode (mB Y_Rd_scanWord) 31 = .ok (.iadd, 1) := by decide +kernel
theorem d_Rd_scanWord_32 : decode (mB Y_Rd_scanWord) 32 = .ok (.putfield 71, 3) := by decide +kernel
theorem d_Rd_scanWord_35 : decode (mB Y_Rd_scanWord) 35 = .ok (.goto (-35), 3) := by decide +kernel
theorem d_Rd_scanWord_38 : decode (mB Y_Rd_scanWord) 38 = .ok (.aload_n 0, 1) := by decide +kernel
theorem d_Rd_scanWord_39 : decode (mB Y_Rd_scanWord) 39 = .ok (.getfield 67, 3) := by decide +kernel
theorem d_Rd_scanWord_42 : decode (mB Y_Rd_scanWord) 42 = .ok (.ifCond .eq 8, 3) := by decide +kernel
theorem d_Rd_scanWord_45 : decode (mB Y_Rd_scanWord) 45 = .ok (.ldc 107, 2) := by decide +kernel
theorem d_Rd_scanWord_47 : decode (mB Y_Rd_scanWord) 47 = .ok (.goto 5, 3) := by decide +kernel
theorem d_Rd_scanWord_50 : decode (mB Y_Rd_scanWord) 50 = .ok (.ldc 109, 2) := by decide +kernel
theorem d_Rd_scanWord_52 : decode (mB Y_Rd_scanWord) 52 = .ok (.astore_n 1, 1) := by decide +kernel
theorem d_Rd_scanWord_53 : decode (mB Y_Rd_scanWord) 53 = .ok (.aload_n 0, 1) := by decide +kernel
theorem d_Rd_scanWord_54 : decode (mB Y_Rd_scanWord) 54 = .ok (.bipush 15, 2) := by decide +kernel
theorem d_Rd_scanWord_56 : decode (mB Y_Rd_scanWord) 56 = .ok (.putfield 39, 3) := by decide +kernel
theorem d_Rd_scanWord_59 : decode (mB Y_Rd_scanWord) 59 = .ok (.iconst 0, 1) := by decide +kernel
theorem d_Rd_scanWord_60 : decode (mB Y_Rd_scanWord) 60 = .ok (.istore_n 2, 1) := by decide +kernel
theorem d_Rd_scanWord_61 : decode (mB Y_Rd_scanWord) 61 = .ok (.bipush 8, 2) := by decide +kernel
theorem d_Rd_scanWord_63 : decode (mB Y_Rd_scanWord) 63 = .ok (.iload_n 2, 1) := by decide +kernel
theorem d_Rd_scanWord_64 : decode (mB Y_Rd_scanWord) 64 = .ok (.imul, 1) := by decide +kernel
theorem d_Rd_scanWord_65 : decode (mB Y_Rd_scanWord) 65 = .ok (.aload_n 1, 1) := by decide +kernel
theorem d_Rd_scanWord_66 : decode (mB Y_Rd_scanWord) 66 = .ok (.invokevirtual 111, 3) := by decide +kernel
theorem d_Rd_scanWord_69 : decode (mB Y_Rd_scanWord) 69 = .ok (.if_icmp .ge 26, 3) := by decide +kernel
theorem d_Rd_scanWord_72 : decode (mB Y_Rd_scanWord) 72 = .ok (.aload_n 0, 1) := by decide +kernel
theorem d_Rd_scanWord_73 : decode (mB Y_Rd_scanWord) 73 = .ok (.aload_n 1, 1) := by decide +kernel
theorem d_Rd_scanWord_74 : decode (mB Y_Rd_scanWord) 74 = .ok (.bipush 8, 2) := by decide +kernel
theorem d_Rd_scanWord_76 : decode (mB Y_Rd_scanWord) 76 = .ok (.iload_n 2, 1) := by decide +kernel
theorem d_Rd_scanWord_77 : decode (mB Y_Rd_scanWord) 77 = .ok (.imul, 1) := by decide +kernel
theorem d_Rd_scanWord_78 : decode (mB Y_Rd_scanWord) 78 = .ok (.invokevirtual 113, 3) := by decide +kernel
theorem d_Rd_scanWord_81 : decode (mB Y_Rd_scanWord) 81 = .ok (.ifCond .eq 8, 3) := by decide +kernel
theorem d_Rd_scanWord_84 : decode (mB Y_Rd_scanWord) 84 = .ok (.aload_n 0, 1) := by decide +kernel
theorem d_Rd_scanWord_85 : decode (mB Y_Rd_scanWord) 85 = .ok (.iload_n 2, 1) := by decide +kernel
theorem d_Rd_scanWord_86 : decode (mB Y_Rd_scanWord) 86 = .ok (.putfield 39, 3) := by decide +kernel
theorem d_Rd_scanWord_89 : decode (mB Y_Rd_scanWord) 89 = .ok (.iinc 2 1, 3) := by decide +kernel
theorem d_Rd_scanWord_92 : decode (mB Y_Rd_scanWord) 92 = .ok (.goto (-31), 3) := by decide +kernel
theorem d_Rd_scanWord_95 : decode (mB Y_Rd_scanWord) 95 = .ok (.return_, 1) := by decide +kernel
theorem ro_Rd_scanWord_Rd_byteAt : roomy Y_Rd_scanWord Y_Rd_byteAt := ⟨Nat.le_of_ble_eq_true rfl, Nat.le_of_ble_eq_true rfl⟩
theorem ro_Rd_scanWord_Rd_isLetter : roomy Y_Rd_scanWord Y_Rd_isLetter := ⟨Nat.le_of_ble_eq_true rfl, Nat.le_of_ble_eq_true rfl⟩
theorem ro_Rd_scanWord_Rd_isWord : roomy Y_Rd_scanWord Y_Rd_isWord := ⟨Nat.le_of_ble_eq_true rfl, Nat.le_of_ble_eq_true rfl⟩
theorem ro_Rd_scanWord_Str_length : roomy Y_Rd_scanWord Y_Str_length := ⟨Nat.le_of_ble_eq_true rfl, Nat.le_of_ble_eq_true rfl⟩
def r_Rd_scanWord_L0  : Nat → Sto → Option (Sto)
  | 0, _ => none
  | n + 1, S =>
    if (S 29 1) ≤ (S 29 5) then
      some (S)
    else
      (r_Rd_byteAt (S 29 5) S).bind (fun r1 =>
      if (r_Rd_isLetter r1) = 0 then
        some (S)
      else
        ltS (sw S 29 5 ((S 29 5) + 1)) (fun S2 =>
        r_Rd_scanWord_L0 n S2))
def r_Rd_scanWord_L61 (i1_ : Nat) : Nat → Int32 → Sto → Option (Int32 × Sto)
  | 0, _, _ => none
  | n + 1, x2_, S =>
    if (r_Str_length i1_ S) ≤ (8 * x2_) then
      some (x2_, S)
    else
      (r_Rd_isWord i1_ (8 * x2_) S).bind (fun (r1, S2) =>
      jn (fun (S3 : Sto) =>
        lt (x2_ + 1) (fun v4 =>
        r_Rd_scanWord_L61 i1_ n v4 S3)) (fun j89 =>
      if r1 = 0 then
        j89 (S2)
      else
        ltS (sw S2 29 6 x2_) (fun S5 =>
        j89 (S5))))
set_option maxHeartbeats 4000000 in
set_option maxRecDepth 20000 in
theorem w_Rd_scanWord_L0 {g : Gm} {G : Gl} {L : Shp} (C : Cx g Y_Rd_scanWord G) (hL : Ext L)  :
    ∀ (n : Nat)  (S : Sto) (K : (Sto) → Option Sto), (∀ (S : Sto), VO g Y_Rd_scanWord G (fun z => Qm g Y_Rd_scanWord G (fv L z)) 0 0 38 [(0, rf G 29)] [] L S (some (S)) K) → VO g Y_Rd_scanWord G (fun z => Qm g Y_Rd_scanWord G (fv L z)) 0 0 0 [(0, rf G 29)] [] L S (r_Rd_scanWord_L0 n S) K := by
  intro n
  induction n with
  | zero => intro S K; intros; exact v_none
  | succ n ih =>
    intro S K hK
    rw [r_Rd_scanWord_L0]
    refine v_aload_n (pc := 0) C d_Rd_scanWord_0 rfl 0 rfl ?_
    refine v_getI (pc := 1) C fl_Rd_71 (sh_29 hL) rfl d_Rd_scanWord_1 ?_
    refine v_aload_n (pc := 4) C d_Rd_scanWord_4 rfl 0 rfl ?_
    refine v_getI (pc := 5) C fl_Rd_26 (sh_29 hL) rfl d_Rd_scanWord_5 ?_
    refine v_icmp_ge (pc := 8) (tgt := 38) C d_Rd_scanWord_8 rfl (fun _ => ?_) (fun _ => ?_)
    · exact hK S
    · refine v_aload_n (pc := 11) C d_Rd_scanWord_11 rfl 0 rfl ?_
      refine v_aload_n (pc := 12) C d_Rd_scanWord_12 rfl 0 rfl ?_
      refine v_getI (pc := 13) C fl_Rd_71 (sh_29 hL) rfl d_Rd_scanWord_13 ?_
      refine v_cp (pc := 16) (inv_V (As := [.int (S 29 5)]) (st := []) C ml_Rd_83 mv_Rd_byteAt ro_Rd_scanWord_Rd_byteAt (sh_29 hL) rfl rfl rfl rfl (Nat.le_of_ble_eq_true rfl) d_Rd_scanWord_16) (c_Rd_byteAt hL S (S 29 5)) ⟨rfl, rfl⟩ ⟨Nat.zero_le _, Nat.zero_le _⟩ (fun r1 => ?_)
      refine v_ct (pc := 19) (inv_S (As := [.int r1]) (st := []) C ml_Rd_87 ms_Rd_isLetter ro_Rd_scanWord_Rd_isLetter rfl rfl (Nat.le_of_ble_eq_true rfl) d_Rd_scanWord_19) (c_Rd_isLetter hL S r1) ⟨rfl, rfl⟩ ⟨Nat.zero_le _, Nat.zero_le _⟩ ?_
      refine v_if_eq (pc := 22) (tgt := 38) C d_Rd_scanWord_22 rfl (fun _ => ?_) (fun _ => ?_)
      · exact hK S
      · refine v_aload_n (pc := 25) C d_Rd_scanWord_25 rfl 0 rfl ?_
        refine v_dup (pc := 26) C d_Rd_scanWord_26 rfl ?_
        refine v_getI (pc := 27) C fl_Rd_71 (sh_29 hL) rfl d_Rd_scanWord_27 ?_
        refine v_iconst (pc := 30) C d_Rd_scanWord_30 ic_1 ?_
        refine v_iadd (pc := 31) C d_Rd_scanWord_31 ?_
        refine v_putI (pc := 32) C fp_Rd_71 (sh_29 hL) rfl d_Rd_scanWord_32 (fun S2 => ?_)
        refine v_goto (pc := 35) (tgt := 0) C d_Rd_scanWord_35 rfl ?_
        exact ih S2 K hK
set_option maxHeartbeats 4000000 in
set_option maxRecDepth 20000 in
theorem w_Rd_scanWord_L61 {g : Gm} {G : Gl} {L : Shp} (C : Cx g Y_Rd_scanWord G) (hL : Ext L) (i1_ : Nat) (h1_ : i1_ < 3) :
    ∀ (n : Nat) (x2_ : Int32) (S : Sto) (K : (Int32 × Sto) → Option Sto), (∀ (x2_ : Int32) (S : Sto), VO g Y_Rd_scanWord G (fun z => Qm g Y_Rd_scanWord G (fv L z)) 0 0 95 [] [] L S (some (x2_, S)) K) → VO g Y_Rd_scanWord G (fun z => Qm g Y_Rd_scanWord G (fv L z)) 0 0 61 [(0, rf G 29), (1, rs G i1_), (2, .int x2_)] [] L S (r_Rd_scanWord_L61 i1_ n x2_ S) K := by
  intro n
  induction n with
  | zero => intro x2_ S K; intros; exact v_none
  | succ n ih =>
    intro x2_ S K hK
    rw [r_Rd_scanWord_L61]
    refine v_bipush (pc := 61) C d_Rd_scanWord_61 bp_8 ?_
    refine v_iload_n (pc := 63) C d_Rd_scanWord_63 rfl 2 rfl ?_
    refine v_imul (pc := 64) C d_Rd_scanWord_64 ?_
    refine v_aloadS_n (pc := 65) C d_Rd_scanWord_65 rfl 1 rfl ?_
    refine v_ct (pc := 66) (inv_VS (As := []) (st := [.int (8 * x2_)]) C h1_ ml_Rd_111 mv_Str_length ro_Rd_scanWord_Str_length rfl rfl rfl (Nat.le_of_ble_eq_true rfl) d_Rd_scanWord_66) (c_Str_length hL S i1_ h1_) ⟨rfl, rfl⟩ ⟨Nat.zero_le _, Nat.zero_le _⟩ ?_
    refine v_icmp_ge (pc := 69) (tgt := 95) C d_Rd_scanWord_69 rfl (fun _ => ?_) (fun _ => ?_)
    · refine v_sub [] rfl ?_
      exact hK x2_ S
    · refine v_aload_n (pc := 72) C d_Rd_scanWord_72 rfl 0 rfl ?_
      refine v_aloadS_n (pc := 73) C d_Rd_scanWord_73 rfl 1 rfl ?_
      refine v_bipush (pc := 74) C d_Rd_scanWord_74 bp_8 ?_
      refine v_iload_n (pc := 76) C d_Rd_scanWord_76 rfl 2 rfl ?_
      refine v_imul (pc := 77) C d_Rd_scanWord_77 ?_
      refine v_ci (pc := 78) (inv_V (As := [rs G i1_, .int (8 * x2_)]) (st := []) C ml_Rd_113 mv_Rd_isWord ro_Rd_scanWord_Rd_isWord (sh_29 hL) rfl rfl rfl rfl (Nat.le_of_ble_eq_true rfl) d_Rd_scanWord_78) (c_Rd_isWord hL S i1_ (8 * x2_) h1_) ⟨rfl, rfl⟩ ⟨Nat.zero_le _, Nat.zero_le _⟩ (fun r1 S2 => ?_)
      refine v_jn (fun j => ∀ (S3 : Sto), VO g Y_Rd_scanWord G (fun z => Qm g Y_Rd_scanWord G (fv L z)) 0 0 89 [(0, rf G 29), (1, rs G i1_), (2, .int x2_)] [] L S3 (j (S3)) K) (fun S3 => ?_) (fun j89 hj89 => ?_)
      · refine v_iinc (pc := 89) (p := 2) (c := 1) C d_Rd_scanWord_89 rfl (by decide) (by decide) (fun v4 => [(2, .int v4), (0, rf G 29), (1, rs G i1_)]) (fun _ => rfl) (fun v4 => ?_)
        refine v_goto (pc := 92) (tgt := 61) C d_Rd_scanWord_92 rfl ?_
        refine v_sub [1, 2, 0] rfl ?_
        exact ih v4 S3 K hK
      · refine v_if_eq (pc := 81) (tgt := 89) C d_Rd_scanWord_81 rfl (fun _ => ?_) (fun _ => ?_)
        · exact hj89 S2
        · refine v_aload_n (pc := 84) C d_Rd_scanWord_84 rfl 0 rfl ?_
          refine v_iload_n (pc := 85) C d_Rd_scanWord_85 rfl 2 rfl ?_
          refine v_putI (pc := 86) C fp_Rd_39 (sh_29 hL) rfl d_Rd_scanWord_86 (fun S5 => ?_)
          exact hj89 S5
def r_Rd_scanWord  (S : Sto) : Option Sto :=
  (r_Rd_scanWord_L0 fu S).bind (fun (S1) =>
  jn (fun (i2 : Nat) =>
    ltS (sw S1 29 6 15) (fun S3 =>
    (r_Rd_scanWord_L61 i2 fu 0 S3).bind (fun (v4, S5) =>
    some S5))) (fun j52 =>
  if (S1 29 4) = 0 then
    j52 (1)
  else
    j52 (0)))
set_option maxHeartbeats 4000000 in
set_option maxRecDepth 20000 in
theorem c_Rd_scanWord {G : Gl} {L : Shp} (hL : Ext L) (S : Sto)   : Ct Y_Rd_scanWord G [rf G 29] L S (fv L) (r_Rd_scanWord S) := by
  refine ct_of (by decide +kernel) (Nat.le_of_ble_eq_true rfl) (fun g C => ?_)
  show VO g Y_Rd_scanWord G (fun z => Qm g Y_Rd_scanWord G (fv L z)) 0 0 0 [(0, rf G 29)] [] L S (r_Rd_scanWord S) some
  unfold r_Rd_scanWord
  refine v_bind ?_
  refine w_Rd_scanWord_L0 C hL  fu S _ (fun S1 => ?_) 
  refine v_some ?_
  refine v_aload_n (pc := 38) C d_Rd_scanWord_38 rfl 0 rfl ?_
  refine v_getI (pc := 39) C fl_Rd_67 (sh_29 hL) rfl d_Rd_scanWord_39 ?_
  refine v_jn (fun j => ∀ (i2 : Nat) (hi2 : i2 < 3), VO g Y_Rd_scanWord G (fun z => Qm g Y_Rd_scanWord G (fv L z)) 0 0 52 [(0, rf G 29)] [rs G i2] L S1 (j (i2)) some) (fun i2 hi2 => ?_) (fun j52 hj52 => ?_)
  · refine v_astoreS_n (pc := 52) (lv' := [(1, rs G i2), (0, rf G 29)]) C d_Rd_scanWord_52 rfl (by decide) rfl ?_
    refine v_aload_n (pc := 53) C d_Rd_scanWord_53 rfl 1 rfl ?_
    refine v_bipush (pc := 54) C d_Rd_scanWord_54 bp_15 ?_
    refine v_putI (pc := 56) C fp_Rd_39 (sh_29 hL) rfl d_Rd_scanWord_56 (fun S3 => ?_)
    refine v_iconst (pc := 59) C d_Rd_scanWord_59 ic_0 ?_
    refine v_istore_n (pc := 60) (lv' := [(2, .int 0), (1, rs G i2), (0, rf G 29)]) C d_Rd_scanWord_60 rfl (by decide) rfl ?_
    refine v_sub [2, 1, 0] rfl ?_
    refine v_bind ?_
    refine w_Rd_scanWord_L61 C hL i2 hi2 fu 0 S3 _ (fun v4 S5 => ?_) 
    refine v_some ?_
    exact v_vret C d_Rd_scanWord_95 rfl ⟨Nat.zero_le _, Nat.zero_le _⟩ rfl rfl
  · refine v_if_eq (pc := 42) (tgt := 50) C d_Rd_scanWord_42 rfl (fun _ => ?_) (fun _ => ?_)
    · refine v_ldcS (pc := 50) (i := 1) C (by decide) rfl d_Rd_scanWord_50 ?_
      exact hj52 1 (by decide)
    · refine v_ldcS (pc := 45) (i := 0) C (by decide) rfl d_Rd_scanWord_45 ?_
      refine v_goto (pc := 47) (tgt := 52) C d_Rd_scanWord_47 rfl ?_
      exact hj52 0 (by decide)
-- Rd_isDigit
theorem d_Rd_isDigit_0 : decode (mB Y_Rd_isDigit) 0 = .ok (.iload_n 0, 1) := by decide +kernel
theorem d_Rd_isDigit_1 : decode (mB Y_Rd_isDigit) 1 = .ok (.bipush 48, 2) := by decide +kernel
theorem d_Rd_isDigit_3 : decode (mB Y_Rd_isDigit) 3 = .ok (.bipush 57, 2) := by decide +kernel
theorem d_Rd_isDigit_5 : decode (mB Y_Rd_isDigit) 5 = .ok (.invokestatic 124, 3) := by decide +kernel
theorem d_Rd_isDigit_8 : decode (mB Y_Rd_isDigit) 8 = .ok (.ireturn, 1) := by decide +kernel
theorem ro_Rd_isDigit_B_within : roomy Y_Rd_isDigit Y_B_within := ⟨Nat.le_of_ble_eq_true rfl, Nat.le_of_ble_eq_true rfl⟩
def r_Rd_isDigit (x0 : Int32) : Int32 := (r_B_within x0 48 57)
theorem z_Rd_isDigit (x0 : Int32) : b01 (r_Rd_isDigit x0) = true := by
  unfold r_Rd_isDigit
  (repeat' split) <;> first | rfl | decide | exact z_B_within .. | rfl
set_option maxHeartbeats 4000000 in
set_option maxRecDepth 20000 in
theorem c_Rd_isDigit {G : Gl} {L : Shp} (hL : Ext L) (S : Sto) (x0 : Int32)  : Ct Y_Rd_isDigit G [.int x0] L S (fp L S) (some (r_Rd_isDigit x0)) := by
  refine ct_of (by decide +kernel) (Nat.le_of_ble_eq_true rfl) (fun g C => ?_)
  have e : (some (r_Rd_isDigit x0) : Option Int32) = some (r_B_within x0 48 57) := rfl
  rw [e]
  show VO g Y_Rd_isDigit G (fun z => Qm g Y_Rd_isDigit G (fp L S z)) 0 0 0 [(0, .int x0)] [] L S _ some
  refine v_iload_n (pc := 0) C d_Rd_isDigit_0 rfl 0 rfl ?_
  refine v_bipush (pc := 1) C d_Rd_isDigit_1 bp_48 ?_
  refine v_bipush (pc := 3) C d_Rd_isDigit_3 bp_57 ?_
  refine v_ct (pc := 5) (inv_SN (As := [.int x0, .int 48, .int 57]) (st := []) C mn_Rd_124 ms_B_within ro_Rd_isDigit_B_within rfl rfl (Nat.le_of_ble_eq_true rfl) d_Rd_isDigit_5) (c_B_within hL S x0 48 57) ⟨rfl, rfl⟩ ⟨Nat.zero_le _, Nat.zero_le _⟩ ?_
  exact v_zret (z := (r_B_within x0 48 57)) C d_Rd_isDigit_8 rfl (b01_n (z_B_within x0 48 57)) ⟨Nat.zero_le _, Nat.zero_le _⟩ (rfl) rfl
-- Rd_scanNumber
theorem d_Rd_scanNumber_0 : decode (mB Y_Rd_scanNumber) 0 = .ok (.aload_n 0, 1) := by decide +kernel
theorem d_Rd_scanNumber_1 : decode (mB Y_Rd_scanNumber) 1 = .ok (.iconst 0, 1) := by decide +kernel
theorem d_Rd_scanNumber_2 : decode (mB Y_Rd_scanNumber) 2 = .ok (.putfield 121, 3) := by decide +kernel
theorem d_Rd_scanNumber_5 : decode (mB Y_Rd_scanNumber) 5 = .ok (.aload_n 0, 1) := by decide +kernel
theorem d_Rd_scanNumber_6 : decode (mB Y_Rd_scanNumber) 6 = .ok (.getfield 71, 3) := by decide +kernel
theorem d_Rd_scanNumber_9 : decode (mB Y_Rd_scanNumber) 9 = .ok (.aload_n 0, 1) := by decide +kernel
theorem d_Rd_scanNumber_10 : decode (mB Y_Rd_scanNumber) 10 = .ok (.getfield 26, 3) := by decide +kernel
theorem d_Rd_scanNumber_13 : decode (mB Y_Rd_scanNumber) 13 = .ok (.if_icmp .ge 66, 3) := by decide +kernel
theorem d_Rd_scanNumber_16 : decode (mB Y_Rd_scanNumber) 16 = .ok (.aload_n 0, 1) := by decide +kernel
theorem d_Rd_scanNumber_17 : decode (mB Y_Rd_scanNumber) 17 = .ok (.aload_n 0, 1) := by decide +kernel
theorem d_Rd_scanNumber_18 : decode (mB Y_Rd_scanNumber) 18 = .ok (.getfield 71, 3) := by decide +kernel
theorem d_Rd_scanNumber_21 : decode (mB Y_Rd_scanNumber) 21 = .ok (.invokevirtual 83, 3) := by decide +kernel
theorem d_Rd_scanNumber_24 : decode (mB Y_Rd_scanNumber) 24 = .ok (.invokestatic 94, 3) := by decide +kernel
theorem d_Rd_scanNumber_27 : decode (mB Y_Rd_scanNumber) 27 = .ok (.ifCond .eq 52, 3) := by decide +kernel
theorem d_Rd_scanNumber_30 : decode (mB Y_Rd_scanNumber) 30 = .ok (.aload_n 0, 1) := by decide +kernel
theorem d_Rd_scanNumber_31 : decode (mB Y_Rd_scanNumber) 31 = .ok (.getfield 71, 3) := by decide +kernel
theorem d_Rd_scanNumber_34 : decode (mB Y_Rd_scanNumber) 34 = .ok (.aload_n 0, 1) := by decide +kernel
theorem d_Rd_scanNumber_35 : decode (mB Y_Rd_scanNumber) 35 = .ok (.getfield 49, 3) := by decide +kernel
theorem d_Rd_scanNumber_38 : decode (mB Y_Rd_scanNumber) 38 = .ok (.isub, 1) := by decide +kernel
theorem d_Rd_scanNumber_39 : decode (mB Y_Rd_scanNumber) 39 = .ok (.iconst 5, 1) := by decide +kernel
theorem d_Rd_scanNumber_40 : decode (mB Y_Rd_scanNumber) 40 = .ok (.if_icmp .ge 26, 3) := by decide +kernel
theorem d_Rd_scanNumber_43 : decode (mB Y_Rd_scanNumber) 43 = .ok (.aload_n 0, 1) := by decide +kernel
theorem d_Rd_scanNumber_44 : decode (mB Y_Rd_scanNumber) 44 = .ok (.bipush 10, 2) := by decide +kernel
theorem d_Rd_scanNumber_46 : decode (mB Y_Rd_scanNumber) 46 = .ok (.aload_n 0, 1) := by decide +kernel
theorem d_Rd_scanNumber_47 : decode (mB Y_Rd_scanNumber) 47 = .ok (.getfield 121, 3) := by decide +kernel
theorem d_Rd_scanNumber_50 : decode (mB Y_Rd_scanNumber) 50 = .ok (.imul, 1) := by decide +kernel
theorem d_Rd_scanNumber_51 : decode (mB Y_Rd_scanNumber) 51 = .ok (.aload_n 0, 1) := by decide +kernel
theorem d_Rd_scanNumber_52 : decode (mB Y_Rd_scanNumber) 52 = .ok (.aload_n 0, 1) := by decide +kernel
theorem d_Rd_scanNumber_53 : decode (mB Y_Rd_scanNumber) 53 = .ok (.getfield 71, 3) := by decide +kernel
theorem d_Rd_scanNumber_56 : decode (mB Y_Rd_scanNumber) 56 = .ok (.invokevirtual 83, 3) := by decide +kernel
theorem d_Rd_scanNumber_59 : decode (mB Y_Rd_scanNumber) 59 = .ok (.iadd, 1) := by decide +kernel
theorem d_Rd_scanNumber_60 : decode (mB Y_Rd_scanNumber) 60 = .ok (.bipush 48, 2) := by decide +kernel
theorem d_Rd_scanNumber_62 : decode (mB Y_Rd_scanNumber) 62 = .ok (.isub, 1) := by decide +kernel
theorem d_Rd_scanNumber_63 : decode (mB Y_Rd_scanNumber) 63 = .ok (.putfield 121, 3) := by decide +kernel
theorem d_Rd_scanNumber_66 : decode (mB Y_Rd_scanNumber) 66 = .ok (.aload_n 0, 1) := by decide +kernel
theorem d_Rd_scanNumber_67 : decode (mB Y_Rd_scanNumber) 67 = .ok (.dup, 1) := by decide +kernel
theorem d_Rd_scanNumber_68 : decode (mB Y_Rd_scanNumber) 68 = .ok (.getfield 71, 3) := by decide +kernel
theorem d_Rd_scanNumber_71 : decode (mB Y_Rd_scanNumber) 71 = .ok (.iconst 1, 1) := by decide +kernel
theorem d_Rd_scanNumber_72 : decode (mB Y_Rd_scanNumber) 72 = .ok (.iadd, 1) := by decide +kernel
theorem d_Rd_scanNumber_73 : decode (mB Y_Rd_scanNumber) 73 = .ok (.putfield 71, 3) := by decide +kernel
theorem d_Rd_scanNumber_76 : decode (mB Y_Rd_scanNumber) 76 = .ok (.goto (-71), 3) := by decide +kernel
theorem d_Rd_scanNumber_79 : decode (mB Y_Rd_scanNumber) 79 = .ok (.aload_n 0, 1) := by decide +kernel
theorem d_Rd_scanNumber_80 : decode (mB Y_Rd_scanNumber) 80 = .ok (.aload_n 0, 1) := by decide +kernel
theorem d_Rd_scanNumber_81 : decode (mB Y_Rd_scanNumber) 81 = .ok (.getfield 71, 3) := by decide +kernel
theorem d_Rd_scanNumber_84 : decode (mB Y_Rd_scanNumber) 84 = .ok (.aload_n 0, 1) := by decide +kernel
theorem d_Rd_scanNumber_85 : decode (mB Y_Rd_scanNumber) 85 = .ok (.getfield 49, 3) := by decide +kernel
theorem d_Rd_scanNumber_88 : decode (mB Y_Rd_scanNumber) 88 = .ok (.isub, 1) := by decide +kernel
theorem d_Rd_scanNumber_89 : decode (mB Y_Rd_scanNumber) 89 = .ok (.iconst 5, 1) := by decide +kernel
theorem d_Rd_scanNumber_90 : decode (mB Y_Rd_scanNumber) 90 = .ok (.if_icmp .gt 8, 3) := by decide +kernel
theorem d_Rd_scanNumber_93 : decode (mB Y_Rd_scanNumber) 93 = .ok (.bipush 12, 2) := by decide +kernel
theorem d_Rd_scanNumber_95 : decode (mB Y_Rd_scanNumber) 95 = .ok (.goto 5, 3) := by decide +kernel
theorem d_Rd_scanNumber_98 : decode (mB Y_Rd_scanNumber) 98 = .ok (.bipush 15, 2) := by decide +kernel
theorem d_Rd_scanNumber_100 : decode (mB Y_Rd_scanNumber) 100 = .ok (.putfield 39, 3) := by decide +kernel
theorem d_Rd_scanNumber_103 : decode (mB Y_Rd_scanNumber) 103 = .ok (.return_, 1) := by decide +kernel
theorem ro_Rd_scanNumber_Rd_byteAt : roomy Y_Rd_scanNumber Y_Rd_byteAt := ⟨Nat.le_of_ble_eq_true rfl, Nat.le_of_ble_eq_true rfl⟩
theorem ro_Rd_scanNumber_Rd_isDigit : roomy Y_Rd_scanNumber Y_Rd_isDigit := ⟨Nat.le_of_ble_eq_true rfl, Nat.le_of_ble_eq_true rfl⟩
def r_Rd_scanNumber_L5  : Nat → Sto → Option (Sto)
  | 0, _ => none
  | n + 1, S =>
    if (S 29 1) ≤ (S 29 5) then
      some (S)
    else
      (r_Rd_byteAt (S 29 5) S).bind (fun r1 =>
      if (r_Rd_isDigit r1) = 0 then
        some (S)
      else
        jn (fun (S2 : Sto) =>
          ltS (sw S2 29 5 ((S2 29 5) + 1)) (fun S3 =>
          r_Rd_scanNumber_L5 n S3)) (fun j66 =>
        if 5 ≤ ((S 29 5) - (S 29 8)) then
          j66 (S)
        else
          (r_Rd_byteAt (S 29 5) S).bind (fun r4 =>
          ltS (sw S 29 7 (((10 * (S 29 7)) + r4) - 48)) (fun S5 =>
          j66 (S5)))))
set_option maxHeartbeats 4000000 in
set_option maxRecDepth 20000 in
theorem w_Rd_scanNumber_L5 {g : Gm} {G : Gl} {L : Shp} (C : Cx g Y_Rd_scanNumber G) (hL : Ext L)  :
    ∀ (n : Nat)  (S : Sto) (K : (Sto) → Option Sto), (∀ (S : Sto), VO g Y_Rd_scanNumber G (fun z => Qm g Y_Rd_scanNumber G (fv L z)) 0 0 79 [(0, rf G 29)] [] L S (some (S)) K) → VO g Y_Rd_scanNumber G (fun z => Qm g Y_Rd_scanNumber G (fv L z)) 0 0 5 [(0, rf G 29)] [] L S (r_Rd_scanNumber_L5 n S) K := by
  intro n
  induction n with
  | zero => intro S K; intros; exact v_none
  | succ n ih =>
    intro S K hK
    rw [r_Rd_scanNumber_L5]
    refine v_aload_n (pc := 5) C d_Rd_scanNumber_5 rfl 0 rfl ?_
    refine v_getI (pc := 6) C fl_Rd_71 (sh_29 hL) rfl d_Rd_scanNumber_6 ?_
    refine v_aload_n (pc := 9) C d_Rd_scanNumber_9 rfl 0 rfl ?_
    refine v_getI (pc := 10) C fl_Rd_26 (sh_29 hL) rfl d_Rd_scanNumber_10 ?_
    refine v_icmp_ge (pc := 13) (tgt := 79) C d_Rd_scanNumber_13 rfl (fun _ => ?_) (fun _ => ?_)
    · exact hK S
    · refine v_aload_n (pc := 16) C d_Rd_scanNumber_16 rfl 0 rfl ?_
      refine v_aload_n (pc := 17) C d_Rd_scanNumber_17 rfl 0 rfl ?_
      refine v_getI (pc := 18) C fl_Rd_71 (sh_29 hL) rfl d_Rd_scanNumber_18 ?_
      refine v_cp (pc := 21) (inv_V (As := [.int (S 29 5)]) (st := []) C ml_Rd_83 mv_Rd_byteAt ro_Rd_scanNumber_Rd_byteAt (sh_29 hL) rfl rfl rfl rfl (Nat.le_of_ble_eq_true rfl) d_Rd_scanNumber_21) (c_Rd_byteAt hL S (S 29 5)) ⟨rfl, rfl⟩ ⟨Nat.zero_le _, Nat.zero_le _⟩ (fun r1 => ?_)
      refine v_ct (pc := 24) (inv_S (As := [.int r1]) (st := []) C ml_Rd_94 ms_Rd_isDigit ro_Rd_scanNumber_Rd_isDigit rfl rfl (Nat.le_of_ble_eq_true rfl) d_Rd_scanNumber_24) (c_Rd_isDigit hL S r1) ⟨rfl, rfl⟩ ⟨Nat.zero_le _, Nat.zero_le _⟩ ?_
      refine v_if_eq (pc := 27) (tgt := 79) C d_Rd_scanNumber_27 rfl (fun _ => ?_) (fun _ => ?_)
      · exact hK S
      · refine v_aload_n (pc := 30) C d_Rd_scanNumber_30 rfl 0 rfl ?_
        refine v_getI (pc := 31) C fl_Rd_71 (sh_29 hL) rfl d_Rd_scanNumber_31 ?_
        refine v_aload_n (pc := 34) C d_Rd_scanNumber_34 rfl 0 rfl ?_
        refine v_getI (pc := 35) C fl_Rd_49 (sh_29 hL) rfl d_Rd_scanNumber_35 ?_
        refine v_isub (pc := 38) C d_Rd_scanNumber_38 ?_
        refine v_iconst (pc := 39) C d_Rd_scanNumber_39 ic_5 ?_
        refine v_jn (fun j => ∀ (S2 : Sto), VO g Y_Rd_scanNumber G (fun z => Qm g Y_Rd_scanNumber G (fv L z)) 0 0 66 [(0, rf G 29)] [] L S2 (j (S2)) K) (fun S2 => ?_) (fun j66 hj66 => ?_)
        · refine v_aload_n (pc := 66) C d_Rd_scanNumber_66 rfl 0 rfl ?_
          refine v_dup (pc := 67) C d_Rd_scanNumber_67 rfl ?_
          refine v_getI (pc := 68) C fl_Rd_71 (sh_29 hL) rfl d_Rd_scanNumber_68 ?_
          refine v_iconst (pc := 71) C d_Rd_scanNumber_71 ic_1 ?_
          refine v_iadd (pc := 72) C d_Rd_scanNumber_72 ?_
          refine v_putI (pc := 73) C fp_Rd_71 (sh_29 hL) rfl d_Rd_scanNumber_73 (fun S3 => ?_)
          refine v_goto (pc := 76) (tgt := 5) C d_Rd_scanNumber_76 rfl ?_
          exact ih S3 K hK
        · refine v_icmp_ge (pc := 40) (tgt := 66) C d_Rd_scanNumber_40 rfl (fun _ => ?_) (fun _ => ?_)
          · exact hj66 S
          · refine v_aload_n (pc := 43) C d_Rd_scanNumber_43 rfl 0 rfl ?_
            refine v_bipush (pc := 44) C d_Rd_scanNumber_44 bp_10 ?_
            refine v_aload_n (pc := 46) C d_Rd_scanNumber_46 rfl 0 rfl ?_
            refine v_getI (pc := 47) C fl_Rd_121 (sh_29 hL) rfl d_Rd_scanNumber_47 ?_
            refine v_imul (pc := 50) C d_Rd_scanNumber_50 ?_
            refine v_aload_n (pc := 51) C d_Rd_scanNumber_51 rfl 0 rfl ?_
            refine v_aload_n (pc := 52) C d_Rd_scanNumber_52 rfl 0 rfl ?_
            refine v_getI (pc := 53) C fl_Rd_71 (sh_29 hL) rfl d_Rd_scanNumber_53 ?_
            refine v_cp (pc := 56) (inv_V (As := [.int (S 29 5)]) (st := [.int (10 * (S 29 7)), rf G 29]) C ml_Rd_83 mv_Rd_byteAt ro_Rd_scanNumber_Rd_byteAt (sh_29 hL) rfl rfl rfl rfl (Nat.le_of_ble_eq_true rfl) d_Rd_scanNumber_56) (c_Rd_byteAt hL S (S 29 5)) ⟨rfl, rfl⟩ ⟨Nat.zero_le _, Nat.zero_le _⟩ (fun r4 => ?_)
            refine v_iadd (pc := 59) C d_Rd_scanNumber_59 ?_
            refine v_bipush (pc := 60) C d_Rd_scanNumber_60 bp_48 ?_
            refine v_isub (pc := 62) C d_Rd_scanNumber_62 ?_
            refine v_putI (pc := 63) C fp_Rd_121 (sh_29 hL) rfl d_Rd_scanNumber_63 (fun S5 => ?_)
            exact hj66 S5
def r_Rd_scanNumber  (S : Sto) : Option Sto :=
  ltS (sw S 29 7 0) (fun S1 =>
  (r_Rd_scanNumber_L5 fu S1).bind (fun (S2) =>
  jn (fun (v3 : Int32) =>
    ltS (sw S2 29 6 v3) (fun S4 =>
    some S4)) (fun j100 =>
  if 5 < ((S2 29 5) - (S2 29 8)) then
    j100 (15)
  else
    j100 (12))))
set_option maxHeartbeats 4000000 in
set_option maxRecDepth 20000 in
theorem c_Rd_scanNumber {G : Gl} {L : Shp} (hL : Ext L) (S : Sto)   : Ct Y_Rd_scanNumber G [rf G 29] L S (fv L) (r_Rd_scanNumber S) := by
  refine ct_of (by decide +kernel) (Nat.le_of_ble_eq_true rfl) (fun g C => ?_)
  show VO g Y_Rd_scanNumber G (fun z => Qm g Y_Rd_scanNumber G (fv L z)) 0 0 0 [(0, rf G 29)] [] L S (r_Rd_scanNumber S) some
  unfold r_Rd_scanNumber
  refine v_aload_n (pc := 0) C d_Rd_scanNumber_0 rfl 0 rfl ?_
  refine v_iconst (pc := 1) C d_Rd_scanNumber_1 ic_0 ?_
  refine v_putI (pc := 2) C fp_Rd_121 (sh_29 hL) rfl d_Rd_scanNumber_2 (fun S1 => ?_)
  refine v_bind ?_
  refine w_Rd_scanNumber_L5 C hL  fu S1 _ (fun S2 => ?_) 
  refine v_some ?_
  refine v_aload_n (pc := 79) C d_Rd_scanNumber_79 rfl 0 rfl ?_
  refine v_aload_n (pc := 80) C d_Rd_scanNumber_80 rfl 0 rfl ?_
  refine v_getI (pc := 81) C fl_Rd_71 (sh_29 hL) rfl d_Rd_scanNumber_81 ?_
  refine v_aload_n (pc := 84) C d_Rd_scanNumber_84 rfl 0 rfl ?_
  refine v_getI (pc := 85) C fl_Rd_49 (sh_29 hL) rfl d_Rd_scanNumber_85 ?_
  refine v_isub (pc := 88) C d_Rd_scanNumber_88 ?_
  refine v_iconst (pc := 89) C d_Rd_scanNumber_89 ic_5 ?_
  refine v_jn (fun j => ∀ (v3 : Int32), VO g Y_Rd_scanNumber G (fun z => Qm g Y_Rd_scanNumber G (fv L z)) 0 0 100 [] [.int v3, rf G 29] L S2 (j (v3)) some) (fun v3 => ?_) (fun j100 hj100 => ?_)
  · refine v_putI (pc := 100) C fp_Rd_39 (sh_29 hL) rfl d_Rd_scanNumber_100 (fun S4 => ?_)
    exact v_vret C d_Rd_scanNumber_103 rfl ⟨Nat.zero_le _, Nat.zero_le _⟩ rfl rfl
  · refine v_icmp_gt (pc := 90) (tgt := 98) C d_Rd_scanNumber_90 rfl (fun _ => ?_) (fun _ => ?_)
    · refine v_bipush (pc := 98) C d_Rd_scanNumber_98 bp_15 ?_
      refine v_sub [] rfl ?_
      exact hj100 15
    · refine v_bipush (pc := 93) C d_Rd_scanNumber_93 bp_12 ?_
      refine v_goto (pc := 95) (tgt := 100) C d_Rd_scanNumber_95 rfl ?_
      refine v_sub [] rfl ?_
      exact hj100 12
