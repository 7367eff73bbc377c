-- Rd_takeJoint
theorem d_Rd_takeJoint_0 : decode (mB Y_Rd_takeJoint) 0 = .ok (.aload_n 0, 1) := by decide +kernel
theorem d_Rd_takeJoint_1 : decode (mB Y_Rd_takeJoint) 1 = .ok (.getfield 39, 3) := by decide +kernel
theorem d_Rd_takeJoint_4 : decode (mB Y_Rd_takeJoint) 4 = .ok (.iconst 1, 1) := by decide +kernel
theorem d_Rd_takeJoint_5 : decode (mB Y_Rd_takeJoint) 5 = .ok (.if_icmp .eq 11, 3) := by decide +kernel
theorem d_Rd_takeJoint_8 : decode (mB Y_Rd_takeJoint) 8 = .ok (.aload_n 0, 1) := by decide +kernel
theorem d_Rd_takeJoint_9 : decode (mB Y_Rd_takeJoint) 9 = .ok (.getfield 39, 3) := by decide +kernel
theorem d_Rd_takeJoint_12 : decode (mB Y_Rd_takeJoint) 12 = .ok (.iconst 2, 1) := by decide +kernel
theorem d_Rd_takeJoint_13 : decode (mB Y_Rd_takeJoint) 13 = .ok (.if_icmp .ne 29, 3) := by decide +kernel
theorem d_Rd_takeJoint_16 : decode (mB Y_Rd_takeJoint) 16 = .ok (.aload_n 0, 1) := by decide +kernel
theorem d_Rd_takeJoint_17 : decode (mB Y_Rd_takeJoint) 17 = .ok (.aload_n 0, 1) := by decide +kernel
theorem d_Rd_takeJoint_18 : decode (mB Y_Rd_takeJoint) 18 = .ok (.getfield 39, 3) := by decide +kernel
theorem d_Rd_takeJoint_21 : decode (mB Y_Rd_takeJoint) 21 = .ok (.invokestatic 166, 3) := by decide +kernel
theorem d_Rd_takeJoint_24 : decode (mB Y_Rd_takeJoint) 24 = .ok (.invokevirtual 169, 3) := by decide +kernel
theorem d_Rd_takeJoint_27 : decode (mB Y_Rd_takeJoint) 27 = .ok (.aload_n 0, 1) := by decide +kernel
theorem d_Rd_takeJoint_28 : decode (mB Y_Rd_takeJoint) 28 = .ok (.aload_n 0, 1) := by decide +kernel
theorem d_Rd_takeJoint_29 : decode (mB Y_Rd_takeJoint) 29 = .ok (.getfield 39, 3) := by decide +kernel
theorem d_Rd_takeJoint_32 : decode (mB Y_Rd_takeJoint) 32 = .ok (.invokevirtual 158, 3) := by decide +kernel
theorem d_Rd_takeJoint_35 : decode (mB Y_Rd_takeJoint) 35 = .ok (.aload_n 0, 1) := by decide +kernel
theorem d_Rd_takeJoint_36 : decode (mB Y_Rd_takeJoint) 36 = .ok (.iconst 3, 1) := by decide +kernel
theorem d_Rd_takeJoint_37 : decode (mB Y_Rd_takeJoint) 37 = .ok (.putfield 42, 3) := by decide +kernel
theorem d_Rd_takeJoint_40 : decode (mB Y_Rd_takeJoint) 40 = .ok (.iconst 0, 1) := by decide +kernel
theorem d_Rd_takeJoint_41 : decode (mB Y_Rd_takeJoint) 41 = .ok (.ireturn, 1) := by decide +kernel
theorem d_Rd_takeJoint_42 : decode (mB Y_Rd_takeJoint) 42 = .ok (.aload_n 0, 1) := by decide +kernel
theorem d_Rd_takeJoint_43 : decode (mB Y_Rd_takeJoint) 43 = .ok (.getfield 39, 3) := by decide +kernel
theorem d_Rd_takeJoint_46 : decode (mB Y_Rd_takeJoint) 46 = .ok (.bipush 41, 2) := by decide +kernel
theorem d_Rd_takeJoint_48 : decode (mB Y_Rd_takeJoint) 48 = .ok (.if_icmp .ne 30, 3) := by decide +kernel
theorem d_Rd_takeJoint_51 : decode (mB Y_Rd_takeJoint) 51 = .ok (.aload_n 0, 1) := by decide +kernel
theorem d_Rd_takeJoint_52 : decode (mB Y_Rd_takeJoint) 52 = .ok (.getfield 77, 3) := by decide +kernel
theorem d_Rd_takeJoint_55 : decode (mB Y_Rd_takeJoint) 55 = .ok (.ifCond .le 23, 3) := by decide +kernel
theorem d_Rd_takeJoint_58 : decode (mB Y_Rd_takeJoint) 58 = .ok (.aload_n 0, 1) := by decide +kernel
theorem d_Rd_takeJoint_59 : decode (mB Y_Rd_takeJoint) 59 = .ok (.iconst 1, 1) := by decide +kernel
theorem d_Rd_takeJoint_60 : decode (mB Y_Rd_takeJoint) 60 = .ok (.invokestatic 166, 3) := by decide +kernel
theorem d_Rd_takeJoint_63 : decode (mB Y_Rd_takeJoint) 63 = .ok (.invokevirtual 169, 3) := by decide +kernel
theorem d_Rd_takeJoint_66 : decode (mB Y_Rd_takeJoint) 66 = .ok (.aload_n 0, 1) := by decide +kernel
theorem d_Rd_takeJoint_67 : decode (mB Y_Rd_takeJoint) 67 = .ok (.invokevirtual 172, 3) := by decide +kernel
theorem d_Rd_takeJoint_70 : decode (mB Y_Rd_takeJoint) 70 = .ok (.aload_n 0, 1) := by decide +kernel
theorem d_Rd_takeJoint_71 : decode (mB Y_Rd_takeJoint) 71 = .ok (.bipush 7, 2) := by decide +kernel
theorem d_Rd_takeJoint_73 : decode (mB Y_Rd_takeJoint) 73 = .ok (.putfield 42, 3) := by decide +kernel
theorem d_Rd_takeJoint_76 : decode (mB Y_Rd_takeJoint) 76 = .ok (.iconst 0, 1) := by decide +kernel
theorem d_Rd_takeJoint_77 : decode (mB Y_Rd_takeJoint) 77 = .ok (.ireturn, 1) := by decide +kernel
theorem d_Rd_takeJoint_78 : decode (mB Y_Rd_takeJoint) 78 = .ok (.aload_n 0, 1) := by decide +kernel
theorem d_Rd_takeJoint_79 : decode (mB Y_Rd_takeJoint) 79 = .ok (.getfield 39, 3) := by decide +kernel
theorem d_Rd_takeJoint_82 : decode (mB Y_Rd_takeJoint) 82 = .ok (.bipush 59, 2) := by decide +kernel
theorem d_Rd_takeJoint_84 : decode (mB Y_Rd_takeJoint) 84 = .ok (.if_icmp .ne 35, 3) := by decide +kernel
theorem d_Rd_takeJoint_87 : decode (mB Y_Rd_takeJoint) 87 = .ok (.aload_n 0, 1) := by decide +kernel
theorem d_Rd_takeJoint_88 : decode (mB Y_Rd_takeJoint) 88 = .ok (.getfield 77, 3) := by decide +kernel
theorem d_Rd_takeJoint_91 : decode (mB Y_Rd_takeJoint) 91 = .ok (.ifCond .ne 28, 3) := by decide +kernel
theorem d_Rd_takeJoint_94 : decode (mB Y_Rd_takeJoint) 94 = .ok (.aload_n 0, 1) := by decide +kernel
theorem d_Rd_takeJoint_95 : decode (mB Y_Rd_takeJoint) 95 = .ok (.iconst 1, 1) := by decide +kernel
theorem d_Rd_takeJoint_96 : decode (mB Y_Rd_takeJoint) 96 = .ok (.invokestatic 166, 3) := by decide +kernel
theorem d_Rd_takeJoint_99 : decode (mB Y_Rd_takeJoint) 99 = .ok (.invokevirtual 169, 3) := by decide +kernel
theorem d_Rd_takeJoint_102 : decode (mB Y_Rd_takeJoint) 102 = .ok (.aload_n 0, 1) := by decide +kernel
theorem d_Rd_takeJoint_103 : decode (mB Y_Rd_takeJoint) 103 = .ok (.bipush 59, 2) := by decide +kernel
theorem d_Rd_takeJoint_105 : decode (mB Y_Rd_takeJoint) 105 = .ok (.aload_n 0, 1) := by decide +kernel
theorem d_Rd_takeJoint_106 : decode (mB Y_Rd_takeJoint) 106 = .ok (.getfield 152, 3) := by decide +kernel
theorem d_Rd_takeJoint_109 : decode (mB Y_Rd_takeJoint) 109 = .ok (.invokevirtual 162, 3) := by decide +kernel
theorem d_Rd_takeJoint_112 : decode (mB Y_Rd_takeJoint) 112 = .ok (.aload_n 0, 1) := by decide +kernel
theorem d_Rd_takeJoint_113 : decode (mB Y_Rd_takeJoint) 113 = .ok (.iconst 0, 1) := by decide +kernel
theorem d_Rd_takeJoint_114 : decode (mB Y_Rd_takeJoint) 114 = .ok (.putfield 42, 3) := by decide +kernel
theorem d_Rd_takeJoint_117 : decode (mB Y_Rd_takeJoint) 117 = .ok (.iconst 0, 1) := by decide +kernel
theorem d_Rd_takeJoint_118 : decode (mB Y_Rd_takeJoint) 118 = .ok (.ireturn, 1) := by decide +kernel
theorem d_Rd_takeJoint_119 : decode (mB Y_Rd_takeJoint) 119 = .ok (.iconst 1, 1) := by decide +kernel
theorem d_Rd_takeJoint_120 : decode (mB Y_Rd_takeJoint) 120 = .ok (.ireturn, 1) := by decide +kernel
theorem ro_Rd_takeJoint_Rd_dropBracket : roomy Y_Rd_takeJoint Y_Rd_dropBracket := ⟨Nat.le_of_ble_eq_true rfl, Nat.le_of_ble_eq_true rfl⟩
theorem ro_Rd_takeJoint_Rd_emit : roomy Y_Rd_takeJoint Y_Rd_emit := ⟨Nat.le_of_ble_eq_true rfl, Nat.le_of_ble_eq_true rfl⟩
theorem ro_Rd_takeJoint_Rd_hold : roomy Y_Rd_takeJoint Y_Rd_hold := ⟨Nat.le_of_ble_eq_true rfl, Nat.le_of_ble_eq_true rfl⟩
theorem ro_Rd_takeJoint_Rd_rank : roomy Y_Rd_takeJoint Y_Rd_rank := ⟨Nat.le_of_ble_eq_true rfl, Nat.le_of_ble_eq_true rfl⟩
theorem ro_Rd_takeJoint_Rd_release : roomy Y_Rd_takeJoint Y_Rd_release := ⟨Nat.le_of_ble_eq_true rfl, Nat.le_of_ble_eq_true rfl⟩
def r_Rd_takeJoint  (S : Sto) : Option (Int32 × Sto) :=
  jn (fun (_ : Unit) =>
    (r_Rd_release (r_Rd_rank (S 29 6)) S).bind (fun S1 =>
    (r_Rd_hold (S1 29 6) S1).bind (fun S2 =>
    ltS (sw S2 29 9 3) (fun S3 =>
    some (0, S3))))) (fun j16 =>
  if (S 29 6) = 1 then
    j16 ()
  else
    if (S 29 6) = 2 then
      j16 ()
    else
      jn (fun (_ : Unit) =>
        if (S 29 6) = 59 then
          if (S 29 14) = 0 then
            (r_Rd_release (r_Rd_rank 1) S).bind (fun S4 =>
            (r_Rd_emit 59 (S4 29 12) S4).bind (fun S5 =>
            ltS (sw S5 29 9 0) (fun S6 =>
            some (0, S6))))
          else
            some (1, S)
        else
          some (1, S)) (fun j78 =>
      if (S 29 6) = 41 then
        if (S 29 14) ≤ 0 then
          j78 ()
        else
          (r_Rd_release (r_Rd_rank 1) S).bind (fun S7 =>
          (r_Rd_dropBracket S7).bind (fun S8 =>
          ltS (sw S8 29 9 7) (fun S9 =>
          some (0, S9))))
      else
        j78 ()))
set_option maxHeartbeats 4000000 in
set_option maxRecDepth 20000 in
theorem c_Rd_takeJoint {G : Gl} {L : Shp} (hL : Ext L) (S : Sto)   : Ct Y_Rd_takeJoint G [rf G 29] L S (fi L) (r_Rd_takeJoint S) := by
  refine ct_of (by decide +kernel) (Nat.le_of_ble_eq_true rfl) (fun g C => ?_)
  show VO g Y_Rd_takeJoint G (fun z => Qm g Y_Rd_takeJoint G (fi L z)) 0 0 0 [(0, rf G 29)] [] L S (r_Rd_takeJoint S) some
  unfold r_Rd_takeJoint
  refine v_aload_n (pc := 0) C d_Rd_takeJoint_0 rfl 0 rfl ?_
  refine v_getI (pc := 1) C fl_Rd_39 (sh_29 hL) rfl d_Rd_takeJoint_1 ?_
  refine v_iconst (pc := 4) C d_Rd_takeJoint_4 ic_1 ?_
  refine v_jn (fun j => VO g Y_Rd_takeJoint G (fun z => Qm g Y_Rd_takeJoint G (fi L z)) 0 0 16 [(0, rf G 29)] [] L S (j ()) some) (?_) (fun j16 hj16 => ?_)
  · refine v_aload_n (pc := 16) C d_Rd_takeJoint_16 rfl 0 rfl ?_
    refine v_aload_n (pc := 17) C d_Rd_takeJoint_17 rfl 0 rfl ?_
    refine v_getI (pc := 18) C fl_Rd_39 (sh_29 hL) rfl d_Rd_takeJoint_18 ?_
    refine v_ct (pc := 21) (inv_S (As := [.int (S 29 6)]) (st := [rf G 29]) C ml_Rd_166 ms_Rd_rank ro_Rd_takeJoint_Rd_rank rfl rfl (Nat.le_of_ble_eq_true rfl) d_Rd_takeJoint_21) (c_Rd_rank hL S (S 29 6)) ⟨rfl, rfl⟩ ⟨Nat.zero_le _, Nat.zero_le _⟩ ?_
    refine v_cv (pc := 24) (inv_V (As := [.int (r_Rd_rank (S 29 6))]) (st := []) C ml_Rd_169 mv_Rd_release ro_Rd_takeJoint_Rd_release (sh_29 hL) rfl rfl rfl rfl (Nat.le_of_ble_eq_true rfl) d_Rd_takeJoint_24) (c_Rd_release hL S (r_Rd_rank (S 29 6))) ⟨rfl, rfl⟩ ⟨Nat.zero_le _, Nat.zero_le _⟩ (fun S1 => ?_)
    refine v_aload_n (pc := 27) C d_Rd_takeJoint_27 rfl 0 rfl ?_
    refine v_aload_n (pc := 28) C d_Rd_takeJoint_28 rfl 0 rfl ?_
    refine v_getI (pc := 29) C fl_Rd_39 (sh_29 hL) rfl d_Rd_takeJoint_29 ?_
    refine v_cv (pc := 32) (inv_V (As := [.int (S1 29 6)]) (st := []) C ml_Rd_158 mv_Rd_hold ro_Rd_takeJoint_Rd_hold (sh_29 hL) rfl rfl rfl rfl (Nat.le_of_ble_eq_true rfl) d_Rd_takeJoint_32) (c_Rd_hold hL S1 (S1 29 6)) ⟨rfl, rfl⟩ ⟨Nat.zero_le _, Nat.zero_le _⟩ (fun S2 => ?_)
    refine v_aload_n (pc := 35) C d_Rd_takeJoint_35 rfl 0 rfl ?_
    refine v_iconst (pc := 36) C d_Rd_takeJoint_36 ic_3 ?_
    refine v_putI (pc := 37) C fp_Rd_42 (sh_29 hL) rfl d_Rd_takeJoint_37 (fun S3 => ?_)
    refine v_iconst (pc := 40) C d_Rd_takeJoint_40 ic_0 ?_
    exact v_iret (z := (0, S3)) C d_Rd_takeJoint_41 rfl ⟨Nat.zero_le _, Nat.zero_le _⟩ (rfl) rfl
  · refine v_icmp_eq (pc := 5) (tgt := 16) C d_Rd_takeJoint_5 rfl (fun _ => ?_) (fun _ => ?_)
    · exact hj16
    · refine v_aload_n (pc := 8) C d_Rd_takeJoint_8 rfl 0 rfl ?_
      refine v_getI (pc := 9) C fl_Rd_39 (sh_29 hL) rfl d_Rd_takeJoint_9 ?_
      refine v_iconst (pc := 12) C d_Rd_takeJoint_12 ic_2 ?_
      refine v_icmp_ne (pc := 13) (tgt := 42) C d_Rd_takeJoint_13 rfl (fun _ => ?_) (fun _ => ?_)
      · refine v_aload_n (pc := 42) C d_Rd_takeJoint_42 rfl 0 rfl ?_
        refine v_getI (pc := 43) C fl_Rd_39 (sh_29 hL) rfl d_Rd_takeJoint_43 ?_
        refine v_bipush (pc := 46) C d_Rd_takeJoint_46 bp_41 ?_
        refine v_jn (fun j => VO g Y_Rd_takeJoint G (fun z => Qm g Y_Rd_takeJoint G (fi L z)) 0 0 78 [(0, rf G 29)] [] L S (j ()) some) (?_) (fun j78 hj78 => ?_)
        · refine v_aload_n (pc := 78) C d_Rd_takeJoint_78 rfl 0 rfl ?_
          refine v_getI (pc := 79) C fl_Rd_39 (sh_29 hL) rfl d_Rd_takeJoint_79 ?_
          refine v_bipush (pc := 82) C d_Rd_takeJoint_82 bp_59 ?_
          refine v_icmp_ne (pc := 84) (tgt := 119) C d_Rd_takeJoint_84 rfl (fun _ => ?_) (fun _ => ?_)
          · refine v_iconst (pc := 119) C d_Rd_takeJoint_119 ic_1 ?_
            exact v_iret (z := (1, S)) C d_Rd_takeJoint_120 rfl ⟨Nat.zero_le _, Nat.zero_le _⟩ (rfl) rfl
          · refine v_aload_n (pc := 87) C d_Rd_takeJoint_87 rfl 0 rfl ?_
            refine v_getI (pc := 88) C fl_Rd_77 (sh_29 hL) rfl d_Rd_takeJoint_88 ?_
            refine v_if_ne (pc := 91) (tgt := 119) C d_Rd_takeJoint_91 rfl (fun _ => ?_) (fun _ => ?_)
            · refine v_iconst (pc := 119) C d_Rd_takeJoint_119 ic_1 ?_
              exact v_iret (z := (1, S)) C d_Rd_takeJoint_120 rfl ⟨Nat.zero_le _, Nat.zero_le _⟩ (rfl) rfl
            · refine v_aload_n (pc := 94) C d_Rd_takeJoint_94 rfl 0 rfl ?_
              refine v_iconst (pc := 95) C d_Rd_takeJoint_95 ic_1 ?_
              refine v_ct (pc := 96) (inv_S (As := [.int 1]) (st := [rf G 29]) C ml_Rd_166 ms_Rd_rank ro_Rd_takeJoint_Rd_rank rfl rfl (Nat.le_of_ble_eq_true rfl) d_Rd_takeJoint_96) (c_Rd_rank hL S 1) ⟨rfl, rfl⟩ ⟨Nat.zero_le _, Nat.zero_le _⟩ ?_
              refine v_cv (pc := 99) (inv_V (As := [.int (r_Rd_rank 1)]) (st := []) C ml_Rd_169 mv_Rd_release ro_Rd_takeJoint_Rd_release (sh_29 hL) rfl rfl rfl rfl (Nat.le_of_ble_eq_true rfl) d_Rd_takeJoint_99) (c_Rd_release hL S (r_Rd_rank 1)) ⟨rfl, rfl⟩ ⟨Nat.zero_le _, Nat.zero_le _⟩ (fun S4 => ?_)
              refine v_aload_n (pc := 102) C d_Rd_takeJoint_102 rfl 0 rfl ?_
              refine v_bipush (pc := 103) C d_Rd_takeJoint_103 bp_59 ?_
              refine v_aload_n (pc := 105) C d_Rd_takeJoint_105 rfl 0 rfl ?_
              refine v_getI (pc := 106) C fl_Rd_152 (sh_29 hL) rfl d_Rd_takeJoint_106 ?_
              refine v_cv (pc := 109) (inv_V (As := [.int 59, .int (S4 29 12)]) (st := []) C ml_Rd_162 mv_Rd_emit ro_Rd_takeJoint_Rd_emit (sh_29 hL) rfl rfl rfl rfl (Nat.le_of_ble_eq_true rfl) d_Rd_takeJoint_109) (c_Rd_emit hL S4 59 (S4 29 12)) ⟨rfl, rfl⟩ ⟨Nat.zero_le _, Nat.zero_le _⟩ (fun S5 => ?_)
              refine v_aload_n (pc := 112) C d_Rd_takeJoint_112 rfl 0 rfl ?_
              refine v_iconst (pc := 113) C d_Rd_takeJoint_113 ic_0 ?_
              refine v_putI (pc := 114) C fp_Rd_42 (sh_29 hL) rfl d_Rd_takeJoint_114 (fun S6 => ?_)
              refine v_iconst (pc := 117) C d_Rd_takeJoint_117 ic_0 ?_
              exact v_iret (z := (0, S6)) C d_Rd_takeJoint_118 rfl ⟨Nat.zero_le _, Nat.zero_le _⟩ (rfl) rfl
        · refine v_icmp_ne (pc := 48) (tgt := 78) C d_Rd_takeJoint_48 rfl (fun _ => ?_) (fun _ => ?_)
          · exact hj78
          · refine v_aload_n (pc := 51) C d_Rd_takeJoint_51 rfl 0 rfl ?_
            refine v_getI (pc := 52) C fl_Rd_77 (sh_29 hL) rfl d_Rd_takeJoint_52 ?_
            refine v_if_le (pc := 55) (tgt := 78) C d_Rd_takeJoint_55 rfl (fun _ => ?_) (fun _ => ?_)
            · exact hj78
            · refine v_aload_n (pc := 58) C d_Rd_takeJoint_58 rfl 0 rfl ?_
              refine v_iconst (pc := 59) C d_Rd_takeJoint_59 ic_1 ?_
              refine v_ct (pc := 60) (inv_S (As := [.int 1]) (st := [rf G 29]) C ml_Rd_166 ms_Rd_rank ro_Rd_takeJoint_Rd_rank rfl rfl (Nat.le_of_ble_eq_true rfl) d_Rd_takeJoint_60) (c_Rd_rank hL S 1) ⟨rfl, rfl⟩ ⟨Nat.zero_le _, Nat.zero_le _⟩ ?_
              refine v_cv (pc := 63) (inv_V (As := [.int (r_Rd_rank 1)]) (st := []) C ml_Rd_169 mv_Rd_release ro_Rd_takeJoint_Rd_release (sh_29 hL) rfl rfl rfl rfl (Nat.le_of_ble_eq_true rfl) d_Rd_takeJoint_63) (c_Rd_release hL S (r_Rd_rank 1)) ⟨rfl, rfl⟩ ⟨Nat.zero_le _, Nat.zero_le _⟩ (fun S7 => ?_)
              refine v_aload_n (pc := 66) C d_Rd_takeJoint_66 rfl 0 rfl ?_
              refine v_cv (pc := 67) (inv_V (As := []) (st := []) C ml_Rd_172 mv_Rd_dropBracket ro_Rd_takeJoint_Rd_dropBracket (sh_29 hL) rfl rfl rfl rfl (Nat.le_of_ble_eq_true rfl) d_Rd_takeJoint_67) (c_Rd_dropBracket hL S7) ⟨rfl, rfl⟩ ⟨Nat.zero_le _, Nat.zero_le _⟩ (fun S8 => ?_)
              refine v_aload_n (pc := 70) C d_Rd_takeJoint_70 rfl 0 rfl ?_
              refine v_bipush (pc := 71) C d_Rd_takeJoint_71 bp_7 ?_
              refine v_putI (pc := 73) C fp_Rd_42 (sh_29 hL) rfl d_Rd_takeJoint_73 (fun S9 => ?_)
              refine v_iconst (pc := 76) C d_Rd_takeJoint_76 ic_0 ?_
              exact v_iret (z := (0, S9)) C d_Rd_takeJoint_77 rfl ⟨Nat.zero_le _, Nat.zero_le _⟩ (rfl) rfl
      · exact hj16
-- Rd_takeSign
theorem d_Rd_takeSign_0 : decode (mB Y_Rd_takeSign) 0 = .ok (.aload_n 0, 1) := by decide +kernel
theorem d_Rd_takeSign_1 : decode (mB Y_Rd_takeSign) 1 = .ok (.getfield 39, 3) := by decide +kernel
theorem d_Rd_takeSign_4 : decode (mB Y_Rd_takeSign) 4 = .ok (.bipush 47, 2) := by decide +kernel
theorem d_Rd_takeSign_6 : decode (mB Y_Rd_takeSign) 6 = .ok (.if_icmp .ne 19, 3) := by decide +kernel
theorem d_Rd_takeSign_9 : decode (mB Y_Rd_takeSign) 9 = .ok (.aload_n 0, 1) := by decide +kernel
theorem d_Rd_takeSign_10 : decode (mB Y_Rd_takeSign) 10 = .ok (.bipush 42, 2) := by decide +kernel
theorem d_Rd_takeSign_12 : decode (mB Y_Rd_takeSign) 12 = .ok (.invokestatic 166, 3) := by decide +kernel
theorem d_Rd_takeSign_15 : decode (mB Y_Rd_takeSign) 15 = .ok (.invokevirtual 169, 3) := by decide +kernel
theorem d_Rd_takeSign_18 : decode (mB Y_Rd_takeSign) 18 = .ok (.aload_n 0, 1) := by decide +kernel
theorem d_Rd_takeSign_19 : decode (mB Y_Rd_takeSign) 19 = .ok (.iconst 5, 1) := by decide +kernel
theorem d_Rd_takeSign_20 : decode (mB Y_Rd_takeSign) 20 = .ok (.putfield 42, 3) := by decide +kernel
theorem d_Rd_takeSign_23 : decode (mB Y_Rd_takeSign) 23 = .ok (.iconst 0, 1) := by decide +kernel
theorem d_Rd_takeSign_24 : decode (mB Y_Rd_takeSign) 24 = .ok (.ireturn, 1) := by decide +kernel
theorem d_Rd_takeSign_25 : decode (mB Y_Rd_takeSign) 25 = .ok (.aload_n 0, 1) := by decide +kernel
theorem d_Rd_takeSign_26 : decode (mB Y_Rd_takeSign) 26 = .ok (.getfield 39, 3) := by decide +kernel
theorem d_Rd_takeSign_29 : decode (mB Y_Rd_takeSign) 29 = .ok (.bipush 60, 2) := by decide +kernel
theorem d_Rd_takeSign_31 : decode (mB Y_Rd_takeSign) 31 = .ok (.if_icmp .eq 21, 3) := by decide +kernel
theorem d_Rd_takeSign_34 : decode (mB Y_Rd_takeSign) 34 = .ok (.aload_n 0, 1) := by decide +kernel
theorem d_Rd_takeSign_35 : decode (mB Y_Rd_takeSign) 35 = .ok (.getfield 39, 3) := by decide +kernel
theorem d_Rd_takeSign_38 : decode (mB Y_Rd_takeSign) 38 = .ok (.bipush 61, 2) := by decide +kernel
theorem d_Rd_takeSign_40 : decode (mB Y_Rd_takeSign) 40 = .ok (.if_icmp .eq 12, 3) := by decide +kernel
theorem d_Rd_takeSign_43 : decode (mB Y_Rd_takeSign) 43 = .ok (.aload_n 0, 1) := by decide +kernel
theorem d_Rd_takeSign_44 : decode (mB Y_Rd_takeSign) 44 = .ok (.getfield 39, 3) := by decide +kernel
theorem d_Rd_takeSign_47 : decode (mB Y_Rd_takeSign) 47 = .ok (.bipush 62, 2) := by decide +kernel
theorem d_Rd_takeSign_49 : decode (mB Y_Rd_takeSign) 49 = .ok (.if_icmp .ne 7, 3) := by decide +kernel
theorem d_Rd_takeSign_52 : decode (mB Y_Rd_takeSign) 52 = .ok (.iconst 1, 1) := by decide +kernel
theorem d_Rd_takeSign_53 : decode (mB Y_Rd_takeSign) 53 = .ok (.goto 4, 3) := by decide +kernel
theorem d_Rd_takeSign_56 : decode (mB Y_Rd_takeSign) 56 = .ok (.iconst 0, 1) := by decide +kernel
theorem d_Rd_takeSign_57 : decode (mB Y_Rd_takeSign) 57 = .ok (.istore_n 1, 1) := by decide +kernel
theorem d_Rd_takeSign_58 : decode (mB Y_Rd_takeSign) 58 = .ok (.iload_n 1, 1) := by decide +kernel
theorem d_Rd_takeSign_59 : decode (mB Y_Rd_takeSign) 59 = .ok (.ifCond .eq 18, 3) := by decide +kernel
theorem d_Rd_takeSign_62 : decode (mB Y_Rd_takeSign) 62 = .ok (.aload_n 0, 1) := by decide +kernel
theorem d_Rd_takeSign_63 : decode (mB Y_Rd_takeSign) 63 = .ok (.getfield 155, 3) := by decide +kernel
theorem d_Rd_takeSign_66 : decode (mB Y_Rd_takeSign) 66 = .ok (.ifCond .ne 11, 3) := by decide +kernel
theorem d_Rd_takeSign_69 : decode (mB Y_Rd_takeSign) 69 = .ok (.aload_n 0, 1) := by decide +kernel
theorem d_Rd_takeSign_70 : decode (mB Y_Rd_takeSign) 70 = .ok (.iconst 1, 1) := by decide +kernel
theorem d_Rd_takeSign_71 : decode (mB Y_Rd_takeSign) 71 = .ok (.putfield 155, 3) := by decide +kernel
theorem d_Rd_takeSign_74 : decode (mB Y_Rd_takeSign) 74 = .ok (.goto 46, 3) := by decide +kernel
theorem d_Rd_takeSign_77 : decode (mB Y_Rd_takeSign) 77 = .ok (.aload_n 0, 1) := by decide +kernel
theorem d_Rd_takeSign_78 : decode (mB Y_Rd_takeSign) 78 = .ok (.getfield 39, 3) := by decide +kernel
theorem d_Rd_takeSign_81 : decode (mB Y_Rd_takeSign) 81 = .ok (.bipush 43, 2) := by decide +kernel
theorem d_Rd_takeSign_83 : decode (mB Y_Rd_takeSign) 83 = .ok (.if_icmp .eq 37, 3) := by decide +kernel
theorem d_Rd_takeSign_86 : decode (mB Y_Rd_takeSign) 86 = .ok (.aload_n 0, 1) := by decide +kernel
theorem d_Rd_takeSign_87 : decode (mB Y_Rd_takeSign) 87 = .ok (.getfield 39, 3) := by decide +kernel
theorem d_Rd_takeSign_90 : decode (mB Y_Rd_takeSign) 90 = .ok (.bipush 45, 2) := by decide +kernel
theorem d_Rd_takeSign_92 : decode (mB Y_Rd_takeSign) 92 = .ok (.if_icmp .eq 28, 3) := by decide +kernel
theorem d_Rd_takeSign_95 : decode (mB Y_Rd_takeSign) 95 = .ok (.aload_n 0, 1) := by decide +kernel
theorem d_Rd_takeSign_96 : decode (mB Y_Rd_takeSign) 96 = .ok (.getfield 39, 3) := by decide +kernel
theorem d_Rd_takeSign_99 : decode (mB Y_Rd_takeSign) 99 = .ok (.bipush 42, 2) := by decide +kernel
theorem d_Rd_takeSign_101 : decode (mB Y_Rd_takeSign) 101 = .ok (.if_icmp .eq 19, 3) := by decide +kernel
theorem d_Rd_takeSign_104 : decode (mB Y_Rd_takeSign) 104 = .ok (.aload_n 0, 1) := by decide +kernel
theorem d_Rd_takeSign_105 : decode (mB Y_Rd_takeSign) 105 = .ok (.getfield 155, 3) := by decide +kernel
theorem d_Rd_takeSign_108 : decode (mB Y_Rd_takeSign) 108 = .ok (.ifCond .eq 10, 3) := by decide +kernel
theorem d_Rd_takeSign_111 : decode (mB Y_Rd_takeSign) 111 = .ok (.aload_n 0, 1) := by decide +kernel
theorem d_Rd_takeSign_112 : decode (mB Y_Rd_takeSign) 112 = .ok (.invokevirtual 149, 3) := by decide +kernel
theorem d_Rd_takeSign_115 : decode (mB Y_Rd_takeSign) 115 = .ok (.goto 4, 3) := by decide +kernel
theorem d_Rd_takeSign_118 : decode (mB Y_Rd_takeSign) 118 = .ok (.iconst 1, 1) := by decide +kernel
theorem d_Rd_takeSign_119 : decode (mB Y_Rd_takeSign) 119 = .ok (.ireturn, 1) := by decide +kernel
theorem d_Rd_takeSign_120 : decode (mB Y_Rd_takeSign) 120 = .ok (.aload_n 0, 1) := by decide +kernel
theorem d_Rd_takeSign_121 : decode (mB Y_Rd_takeSign) 121 = .ok (.aload_n 0, 1) := by decide +kernel
theorem d_Rd_takeSign_122 : decode (mB Y_Rd_takeSign) 122 = .ok (.getfield 39, 3) := by decide +kernel
theorem d_Rd_takeSign_125 : decode (mB Y_Rd_takeSign) 125 = .ok (.invokestatic 166, 3) := by decide +kernel
theorem d_Rd_takeSign_128 : decode (mB Y_Rd_takeSign) 128 = .ok (.invokevirtual 169, 3) := by decide +kernel
theorem d_Rd_takeSign_131 : decode (mB Y_Rd_takeSign) 131 = .ok (.aload_n 0, 1) := by decide +kernel
theorem d_Rd_takeSign_132 : decode (mB Y_Rd_takeSign) 132 = .ok (.aload_n 0, 1) := by decide +kernel
theorem d_Rd_takeSign_133 : decode (mB Y_Rd_takeSign) 133 = .ok (.getfield 39, 3) := by decide +kernel
theorem d_Rd_takeSign_136 : decode (mB Y_Rd_takeSign) 136 = .ok (.invokevirtual 158, 3) := by decide +kernel
theorem d_Rd_takeSign_139 : decode (mB Y_Rd_takeSign) 139 = .ok (.aload_n 0, 1) := by decide +kernel
theorem d_Rd_takeSign_140 : decode (mB Y_Rd_takeSign) 140 = .ok (.iconst 4, 1) := by decide +kernel
theorem d_Rd_takeSign_141 : decode (mB Y_Rd_takeSign) 141 = .ok (.putfield 42, 3) := by decide +kernel
theorem d_Rd_takeSign_144 : decode (mB Y_Rd_takeSign) 144 = .ok (.iconst 0, 1) := by decide +kernel
theorem d_Rd_takeSign_145 : decode (mB Y_Rd_takeSign) 145 = .ok (.ireturn, 1) := by decide +kernel
theorem ro_Rd_takeSign_Rd_hold : roomy Y_Rd_takeSign Y_Rd_hold := ⟨Nat.le_of_ble_eq_true rfl, Nat.le_of_ble_eq_true rfl⟩
theorem ro_Rd_takeSign_Rd_rank : roomy Y_Rd_takeSign Y_Rd_rank := ⟨Nat.le_of_ble_eq_true rfl, Nat.le_of_ble_eq_true rfl⟩
theorem ro_Rd_takeSign_Rd_release : roomy Y_Rd_takeSign Y_Rd_release := ⟨Nat.le_of_ble_eq_true rfl, Nat.le_of_ble_eq_true rfl⟩
theorem ro_Rd_takeSign_Rd_takeJoint : roomy Y_Rd_takeSign Y_Rd_takeJoint := ⟨Nat.le_of_ble_eq_true rfl, Nat.le_of_ble_eq_true rfl⟩
def r_Rd_takeSign  (S : Sto) : Option (Int32 × Sto) :=
  if (S 29 6) = 47 then
    (r_Rd_release (r_Rd_rank 42) S).bind (fun S9 =>
    ltS (sw S9 29 9 5) (fun S10 =>
    some (0, S10)))
  else
    jn (fun (v1 : Int32) =>
      jn (fun (S2 : Sto) =>
        (r_Rd_release (r_Rd_rank (S2 29 6)) S2).bind (fun S3 =>
        (r_Rd_hold (S3 29 6) S3).bind (fun S4 =>
        ltS (sw S4 29 9 4) (fun S5 =>
        some (0, S5))))) (fun j120 =>
      jn (fun (_ : Unit) =>
        if (S 29 6) = 43 then
          j120 (S)
        else
          if (S 29 6) = 45 then
            j120 (S)
          else
            if (S 29 6) = 42 then
              j120 (S)
            else
              if (S 29 10) = 0 then
                some (1, S)
              else
                (r_Rd_takeJoint S).bind (fun (r6, S7) =>
                some (r6, S7))) (fun j77 =>
      if v1 = 0 then
        j77 ()
      else
        if (S 29 10) = 0 then
          ltS (sw S 29 10 1) (fun S8 =>
          j120 (S8))
        else
          j77 ()))) (fun j57 =>
    if (S 29 6) = 60 then
      j57 (1)
    else
      if (S 29 6) = 61 then
        j57 (1)
      else
        if (S 29 6) = 62 then
          j57 (1)
        else
          j57 (0))
set_option maxHeartbeats 4000000 in
set_option maxRecDepth 20000 in
theorem c_Rd_takeSign {G : Gl} {L : Shp} (hL : Ext L) (S : Sto)   : Ct Y_Rd_takeSign G [rf G 29] L S (fi L) (r_Rd_takeSign S) := by
  refine ct_of (by decide +kernel) (Nat.le_of_ble_eq_true rfl) (fun g C => ?_)
  show VO g Y_Rd_takeSign G (fun z => Qm g Y_Rd_takeSign G (fi L z)) 0 0 0 [(0, rf G 29)] [] L S (r_Rd_takeSign S) some
  unfold r_Rd_takeSign
  refine v_aload_n (pc := 0) C d_Rd_takeSign_0 rfl 0 rfl ?_
  refine v_getI (pc := 1) C fl_Rd_39 (sh_29 hL) rfl d_Rd_takeSign_1 ?_
  refine v_bipush (pc := 4) C d_Rd_takeSign_4 bp_47 ?_
  refine v_icmp_ne (pc := 6) (tgt := 25) C d_Rd_takeSign_6 rfl (fun _ => ?_) (fun _ => ?_)
  · refine v_aload_n (pc := 25) C d_Rd_takeSign_25 rfl 0 rfl ?_
    refine v_getI (pc := 26) C fl_Rd_39 (sh_29 hL) rfl d_Rd_takeSign_26 ?_
    refine v_bipush (pc := 29) C d_Rd_takeSign_29 bp_60 ?_
    refine v_jn (fun j => ∀ (v1 : Int32), VO g Y_Rd_takeSign G (fun z => Qm g Y_Rd_takeSign G (fi L z)) 0 0 57 [(0, rf G 29)] [.int v1] L S (j (v1)) some) (fun v1 => ?_) (fun j57 hj57 => ?_)
    · refine v_istore_n (pc := 57) (lv' := [(1, .int v1), (0, rf G 29)]) C d_Rd_takeSign_57 rfl (by decide) rfl ?_
      refine v_iload_n (pc := 58) C d_Rd_takeSign_58 rfl 0 rfl ?_
      refine v_jn (fun j => ∀ (S2 : Sto), VO g Y_Rd_takeSign G (fun z => Qm g Y_Rd_takeSign G (fi L z)) 0 0 120 [(0, rf G 29)] [] L S2 (j (S2)) some) (fun S2 => ?_) (fun j120 hj120 => ?_)
      · refine v_aload_n (pc := 120) C d_Rd_takeSign_120 rfl 0 rfl ?_
        refine v_aload_n (pc := 121) C d_Rd_takeSign_121 rfl 0 rfl ?_
        refine v_getI (pc := 122) C fl_Rd_39 (sh_29 hL) rfl d_Rd_takeSign_122 ?_
        refine v_ct (pc := 125) (inv_S (As := [.int (S2 29 6)]) (st := [rf G 29]) C ml_Rd_166 ms_Rd_rank ro_Rd_takeSign_Rd_rank rfl rfl (Nat.le_of_ble_eq_true rfl) d_Rd_takeSign_125) (c_Rd_rank hL S2 (S2 29 6)) ⟨rfl, rfl⟩ ⟨Nat.zero_le _, Nat.zero_le _⟩ ?_
        refine v_cv (pc := 128) (inv_V (As := [.int (r_Rd_rank (S2 29 6))]) (st := []) C ml_Rd_169 mv_Rd_release ro_Rd_takeSign_Rd_release (sh_29 hL) rfl rfl rfl rfl (Nat.le_of_ble_eq_true rfl) d_Rd_takeSign_128) (c_Rd_release hL S2 (r_Rd_rank (S2 29 6))) ⟨rfl, rfl⟩ ⟨Nat.zero_le _, Nat.zero_le _⟩ (fun S3 => ?_)
        refine v_aload_n (pc := 131) C d_Rd_takeSign_131 rfl 0 rfl ?_
        refine v_aload_n (pc := 132) C d_Rd_takeSign_132 rfl 0 rfl ?_
        refine v_getI (pc := 133) C fl_Rd_39 (sh_29 hL) rfl d_Rd_takeSign_133 ?_
        refine v_cv (pc := 136) (inv_V (As := [.int (S3 29 6)]) (st := []) C ml_Rd_158 mv_Rd_hold ro_Rd_takeSign_Rd_hold (sh_29 hL) rfl rfl rfl rfl (Nat.le_of_ble_eq_true rfl) d_Rd_takeSign_136) (c_Rd_hold hL S3 (S3 29 6)) ⟨rfl, rfl⟩ ⟨Nat.zero_le _, Nat.zero_le _⟩ (fun S4 => ?_)
        refine v_aload_n (pc := 139) C d_Rd_takeSign_139 rfl 0 rfl ?_
        refine v_iconst (pc := 140) C d_Rd_takeSign_140 ic_4 ?_
        refine v_putI (pc := 141) C fp_Rd_42 (sh_29 hL) rfl d_Rd_takeSign_141 (fun S5 => ?_)
        refine v_iconst (pc := 144) C d_Rd_takeSign_144 ic_0 ?_
        exact v_iret (z := (0, S5)) C d_Rd_takeSign_145 rfl ⟨Nat.zero_le _, Nat.zero_le _⟩ (rfl) rfl
      · refine v_jn (fun j => VO g Y_Rd_takeSign G (fun z => Qm g Y_Rd_takeSign G (fi L z)) 0 0 77 [(0, rf G 29)] [] L S (j ()) some) (?_) (fun j77 hj77 => ?_)
        · refine v_aload_n (pc := 77) C d_Rd_takeSign_77 rfl 0 rfl ?_
          refine v_getI (pc := 78) C fl_Rd_39 (sh_29 hL) rfl d_Rd_takeSign_78 ?_
          refine v_bipush (pc := 81) C d_Rd_takeSign_81 bp_43 ?_
          refine v_icmp_eq (pc := 83) (tgt := 120) C d_Rd_takeSign_83 rfl (fun _ => ?_) (fun _ => ?_)
          · exact hj120 S
          · refine v_aload_n (pc := 86) C d_Rd_takeSign_86 rfl 0 rfl ?_
            refine v_getI (pc := 87) C fl_Rd_39 (sh_29 hL) rfl d_Rd_takeSign_87 ?_
            refine v_bipush (pc := 90) C d_Rd_takeSign_90 bp_45 ?_
            refine v_icmp_eq (pc := 92) (tgt := 120) C d_Rd_takeSign_92 rfl (fun _ => ?_) (fun _ => ?_)
            · exact hj120 S
            · refine v_aload_n (pc := 95) C d_Rd_takeSign_95 rfl 0 rfl ?_
              refine v_getI (pc := 96) C fl_Rd_39 (sh_29 hL) rfl d_Rd_takeSign_96 ?_
              refine v_bipush (pc := 99) C d_Rd_takeSign_99 bp_42 ?_
              refine v_icmp_eq (pc := 101) (tgt := 120) C d_Rd_takeSign_101 rfl (fun _ => ?_) (fun _ => ?_)
              · exact hj120 S
              · refine v_aload_n (pc := 104) C d_Rd_takeSign_104 rfl 0 rfl ?_
                refine v_getI (pc := 105) C fl_Rd_155 (sh_29 hL) rfl d_Rd_takeSign_105 ?_
                refine v_if_eq (pc := 108) (tgt := 118) C d_Rd_takeSign_108 rfl (fun _ => ?_) (fun _ => ?_)
                · refine v_iconst (pc := 118) C d_Rd_takeSign_118 ic_1 ?_
                  exact v_iret (z := (1, S)) C d_Rd_takeSign_119 rfl ⟨Nat.zero_le _, Nat.zero_le _⟩ (rfl) rfl
                · refine v_aload_n (pc := 111) C d_Rd_takeSign_111 rfl 0 rfl ?_
                  refine v_ci (pc := 112) (inv_V (As := []) (st := []) C ml_Rd_149 mv_Rd_takeJoint ro_Rd_takeSign_Rd_takeJoint (sh_29 hL) rfl rfl rfl rfl (Nat.le_of_ble_eq_true rfl) d_Rd_takeSign_112) (c_Rd_takeJoint hL S) ⟨rfl, rfl⟩ ⟨Nat.zero_le _, Nat.zero_le _⟩ (fun r6 S7 => ?_)
                  refine v_goto (pc := 115) (tgt := 119) C d_Rd_takeSign_115 rfl ?_
                  exact v_iret (z := (r6, S7)) C d_Rd_takeSign_119 rfl ⟨Nat.zero_le _, Nat.zero_le _⟩ (rfl) rfl
        · refine v_if_eq (pc := 59) (tgt := 77) C d_Rd_takeSign_59 rfl (fun _ => ?_) (fun _ => ?_)
          · refine v_sub [1] rfl ?_
            exact hj77
          · refine v_aload_n (pc := 62) C d_Rd_takeSign_62 rfl 1 rfl ?_
            refine v_getI (pc := 63) C fl_Rd_155 (sh_29 hL) rfl d_Rd_takeSign_63 ?_
            refine v_if_ne (pc := 66) (tgt := 77) C d_Rd_takeSign_66 rfl (fun _ => ?_) (fun _ => ?_)
            · refine v_sub [1] rfl ?_
              exact hj77
            · refine v_aload_n (pc := 69) C d_Rd_takeSign_69 rfl 1 rfl ?_
              refine v_iconst (pc := 70) C d_Rd_takeSign_70 ic_1 ?_
              refine v_putZ (pc := 71) C fp_Rd_155 (sh_29 hL) rfl d_Rd_takeSign_71 (by decide) (fun S8 => ?_)
              refine v_goto (pc := 74) (tgt := 120) C d_Rd_takeSign_74 rfl ?_
              refine v_sub [1] rfl ?_
              exact hj120 S8
    · refine v_icmp_eq (pc := 31) (tgt := 52) C d_Rd_takeSign_31 rfl (fun _ => ?_) (fun _ => ?_)
      · refine v_iconst (pc := 52) C d_Rd_takeSign_52 ic_1 ?_
        refine v_goto (pc := 53) (tgt := 57) C d_Rd_takeSign_53 rfl ?_
        exact hj57 1
      · refine v_aload_n (pc := 34) C d_Rd_takeSign_34 rfl 0 rfl ?_
        refine v_getI (pc := 35) C fl_Rd_39 (sh_29 hL) rfl d_Rd_takeSign_35 ?_
        refine v_bipush (pc := 38) C d_Rd_takeSign_38 bp_61 ?_
        refine v_icmp_eq (pc := 40) (tgt := 52) C d_Rd_takeSign_40 rfl (fun _ => ?_) (fun _ => ?_)
        · refine v_iconst (pc := 52) C d_Rd_takeSign_52 ic_1 ?_
          refine v_goto (pc := 53) (tgt := 57) C d_Rd_takeSign_53 rfl ?_
          exact hj57 1
        · refine v_aload_n (pc := 43) C d_Rd_takeSign_43 rfl 0 rfl ?_
          refine v_getI (pc := 44) C fl_Rd_39 (sh_29 hL) rfl d_Rd_takeSign_44 ?_
          refine v_bipush (pc := 47) C d_Rd_takeSign_47 bp_62 ?_
          refine v_icmp_ne (pc := 49) (tgt := 56) C d_Rd_takeSign_49 rfl (fun _ => ?_) (fun _ => ?_)
          · refine v_iconst (pc := 56) C d_Rd_takeSign_56 ic_0 ?_
            exact hj57 0
          · refine v_iconst (pc := 52) C d_Rd_takeSign_52 ic_1 ?_
            refine v_goto (pc := 53) (tgt := 57) C d_Rd_takeSign_53 rfl ?_
            exact hj57 1
  · refine v_aload_n (pc := 9) C d_Rd_takeSign_9 rfl 0 rfl ?_
    refine v_bipush (pc := 10) C d_Rd_takeSign_10 bp_42 ?_
    refine v_ct (pc := 12) (inv_S (As := [.int 42]) (st := [rf G 29]) C ml_Rd_166 ms_Rd_rank ro_Rd_takeSign_Rd_rank rfl rfl (Nat.le_of_ble_eq_true rfl) d_Rd_takeSign_12) (c_Rd_rank hL S 42) ⟨rfl, rfl⟩ ⟨Nat.zero_le _, Nat.zero_le _⟩ ?_
    refine v_cv (pc := 15) (inv_V (As := [.int (r_Rd_rank 42)]) (st := []) C ml_Rd_169 mv_Rd_release ro_Rd_takeSign_Rd_release (sh_29 hL) rfl rfl rfl rfl (Nat.le_of_ble_eq_true rfl) d_Rd_takeSign_15) (c_Rd_release hL S (r_Rd_rank 42)) ⟨rfl, rfl⟩ ⟨Nat.zero_le _, Nat.zero_le _⟩ (fun S9 => ?_)
    refine v_aload_n (pc := 18) C d_Rd_takeSign_18 rfl 0 rfl ?_
    refine v_iconst (pc := 19) C d_Rd_takeSign_19 ic_5 ?_
    refine v_putI (pc := 20) C fp_Rd_42 (sh_29 hL) rfl d_Rd_takeSign_20 (fun S10 => ?_)
    refine v_iconst (pc := 23) C d_Rd_takeSign_23 ic_0 ?_
    exact v_iret (z := (0, S10)) C d_Rd_takeSign_24 rfl ⟨Nat.zero_le _, Nat.zero_le _⟩ (rfl) rfl
-- Rd_take
theorem d_Rd_take_0 : decode (mB Y_Rd_take) 0 = .ok (.aload_n 0, 1) := by decide +kernel
theorem d_Rd_take_1 : decode (mB Y_Rd_take) 1 = .ok (.getfield 42, 3) := by decide +kernel
theorem d_Rd_take_4 : decode (mB Y_Rd_take) 4 = .ok (.tableswitch 79 0 6 #[44, 49, 54, 59, 64, 69, 74], 44) := by decide +kernel
theorem d_Rd_take_48 : decode (mB Y_Rd_take) 48 = .ok (.aload_n 0, 1) := by decide +kernel
theorem d_Rd_take_49 : decode (mB Y_Rd_take) 49 = .ok (.invokevirtual 128, 3) := by decide +kernel
theorem d_Rd_take_52 : decode (mB Y_Rd_take) 52 = .ok (.ireturn, 1) := by decide +kernel
theorem d_Rd_take_53 : decode (mB Y_Rd_take) 53 = .ok (.aload_n 0, 1) := by decide +kernel
theorem d_Rd_take_54 : decode (mB Y_Rd_take) 54 = .ok (.invokevirtual 131, 3) := by decide +kernel
theorem d_Rd_take_57 : decode (mB Y_Rd_take) 57 = .ok (.ireturn, 1) := by decide +kernel
theorem d_Rd_take_58 : decode (mB Y_Rd_take) 58 = .ok (.aload_n 0, 1) := by decide +kernel
theorem d_Rd_take_59 : decode (mB Y_Rd_take) 59 = .ok (.invokevirtual 134, 3) := by decide +kernel
theorem d_Rd_take_62 : decode (mB Y_Rd_take) 62 = .ok (.ireturn, 1) := by decide +kernel
theorem d_Rd_take_63 : decode (mB Y_Rd_take) 63 = .ok (.aload_n 0, 1) := by decide +kernel
theorem d_Rd_take_64 : decode (mB Y_Rd_take) 64 = .ok (.invokevirtual 137, 3) := by decide +kernel
theorem d_Rd_take_67 : decode (mB Y_Rd_take) 67 = .ok (.ireturn, 1) := by decide +kernel
theorem d_Rd_take_68 : decode (mB Y_Rd_take) 68 = .ok (.aload_n 0, 1) := by decide +kernel
theorem d_Rd_take_69 : decode (mB Y_Rd_take) 69 = .ok (.invokevirtual 140, 3) := by decide +kernel
theorem d_Rd_take_72 : decode (mB Y_Rd_take) 72 = .ok (.ireturn, 1) := by decide +kernel
theorem d_Rd_take_73 : decode (mB Y_Rd_take) 73 = .ok (.aload_n 0, 1) := by decide +kernel
theorem d_Rd_take_74 : decode (mB Y_Rd_take) 74 = .ok (.invokevirtual 143, 3) := by decide +kernel
theorem d_Rd_take_77 : decode (mB Y_Rd_take) 77 = .ok (.ireturn, 1) := by decide +kernel
theorem d_Rd_take_78 : decode (mB Y_Rd_take) 78 = .ok (.aload_n 0, 1) := by decide +kernel
theorem d_Rd_take_79 : decode (mB Y_Rd_take) 79 = .ok (.invokevirtual 146, 3) := by decide +kernel
theorem d_Rd_take_82 : decode (mB Y_Rd_take) 82 = .ok (.ireturn, 1) := by decide +kernel
theorem d_Rd_take_83 : decode (mB Y_Rd_take) 83 = .ok (.aload_n 0, 1) := by decide +kernel
theorem d_Rd_take_84 : decode (mB Y_Rd_take) 84 = .ok (.invokevirtual 149, 3) := by decide +kernel
theorem d_Rd_take_87 : decode (mB Y_Rd_take) 87 = .ok (.ireturn, 1) := by decide +kernel
theorem ro_Rd_take_Rd_takeClaim : roomy Y_Rd_take Y_Rd_takeClaim := ⟨Nat.le_of_ble_eq_true rfl, Nat.le_of_ble_eq_true rfl⟩
theorem ro_Rd_take_Rd_takeJoint : roomy Y_Rd_take Y_Rd_takeJoint := ⟨Nat.le_of_ble_eq_true rfl, Nat.le_of_ble_eq_true rfl⟩
theorem ro_Rd_take_Rd_takeKind : roomy Y_Rd_take Y_Rd_takeKind := ⟨Nat.le_of_ble_eq_true rfl, Nat.le_of_ble_eq_true rfl⟩
theorem ro_Rd_take_Rd_takeLine : roomy Y_Rd_take Y_Rd_takeLine := ⟨Nat.le_of_ble_eq_true rfl, Nat.le_of_ble_eq_true rfl⟩
theorem ro_Rd_take_Rd_takePart : roomy Y_Rd_take Y_Rd_takePart := ⟨Nat.le_of_ble_eq_true rfl, Nat.le_of_ble_eq_true rfl⟩
theorem ro_Rd_take_Rd_takeSign : roomy Y_Rd_take Y_Rd_takeSign := ⟨Nat.le_of_ble_eq_true rfl, Nat.le_of_ble_eq_true rfl⟩
theorem ro_Rd_take_Rd_takeUnit : roomy Y_Rd_take Y_Rd_takeUnit := ⟨Nat.le_of_ble_eq_true rfl, Nat.le_of_ble_eq_true rfl⟩
theorem ro_Rd_take_Rd_takeWhen : roomy Y_Rd_take Y_Rd_takeWhen := ⟨Nat.le_of_ble_eq_true rfl, Nat.le_of_ble_eq_true rfl⟩
def r_Rd_take  (S : Sto) : Option (Int32 × Sto) :=
  if (S 29 9) = 0 then
    (r_Rd_takeLine S).bind (fun (r2, S3) =>
    some (r2, S3))
  else
    if (S 29 9) = 1 then
      (r_Rd_takeKind S).bind (fun (r5, S6) =>
      some (r5, S6))
    else
      if (S 29 9) = 2 then
        (r_Rd_takeWhen S).bind (fun (r8, S9) =>
        some (r8, S9))
      else
        if (S 29 9) = 3 then
          (r_Rd_takeClaim S).bind (fun (r11, S12) =>
          some (r11, S12))
        else
          if (S 29 9) = 4 then
            (r_Rd_takeUnit S).bind (fun (r14, S15) =>
            some (r14, S15))
          else
            if (S 29 9) = 5 then
              (r_Rd_takePart S).bind (fun (r17, S18) =>
              some (r17, S18))
            else
              if (S 29 9) = 6 then
                (r_Rd_takeSign S).bind (fun (r20, S21) =>
                some (r20, S21))
              else
                (r_Rd_takeJoint S).bind (fun (r22, S23) =>
                some (r22, S23))
set_option maxHeartbeats 4000000 in
set_option maxRecDepth 20000 in
theorem c_Rd_take {G : Gl} {L : Shp} (hL : Ext L) (S : Sto)   : Ct Y_Rd_take G [rf G 29] L S (fi L) (r_Rd_take S) := by
  refine ct_of (by decide +kernel) (Nat.le_of_ble_eq_true rfl) (fun g C => ?_)
  show VO g Y_Rd_take G (fun z => Qm g Y_Rd_take G (fi L z)) 0 0 0 [(0, rf G 29)] [] L S (r_Rd_take S) some
  unfold r_Rd_take
  refine v_aload_n (pc := 0) C d_Rd_take_0 rfl 0 rfl ?_
  refine v_getI (pc := 1) C fl_Rd_42 (sh_29 hL) rfl d_Rd_take_1 ?_
  refine v_case (x := (S 29 9)) (c := 0) (fun hc1 => ?_) (fun hc1 => ?_)
  · refine v_tableIn (pc := 4) (tgt := 48) C d_Rd_take_4 (by rw [hc1]; decide) (by rw [hc1]; decide) (by rw [hc1] <;> rfl) rfl ?_
    refine v_aload_n (pc := 48) C d_Rd_take_48 rfl 0 rfl ?_
    refine v_ci (pc := 49) (inv_V (As := []) (st := []) C ml_Rd_128 mv_Rd_takeLine ro_Rd_take_Rd_takeLine (sh_29 hL) rfl rfl rfl rfl (Nat.le_of_ble_eq_true rfl) d_Rd_take_49) (c_Rd_takeLine hL S) ⟨rfl, rfl⟩ ⟨Nat.zero_le _, Nat.zero_le _⟩ (fun r2 S3 => ?_)
    exact v_iret (z := (r2, S3)) C d_Rd_take_52 rfl ⟨Nat.zero_le _, Nat.zero_le _⟩ (rfl) rfl
  · refine v_case (x := (S 29 9)) (c := 1) (fun hc4 => ?_) (fun hc4 => ?_)
    · refine v_tableIn (pc := 4) (tgt := 53) C d_Rd_take_4 (by rw [hc4]; decide) (by rw [hc4]; decide) (by rw [hc4] <;> rfl) rfl ?_
      refine v_aload_n (pc := 53) C d_Rd_take_53 rfl 0 rfl ?_
      refine v_ci (pc := 54) (inv_V (As := []) (st := []) C ml_Rd_131 mv_Rd_takeKind ro_Rd_take_Rd_takeKind (sh_29 hL) rfl rfl rfl rfl (Nat.le_of_ble_eq_true rfl) d_Rd_take_54) (c_Rd_takeKind hL S) ⟨rfl, rfl⟩ ⟨Nat.zero_le _, Nat.zero_le _⟩ (fun r5 S6 => ?_)
      exact v_iret (z := (r5, S6)) C d_Rd_take_57 rfl ⟨Nat.zero_le _, Nat.zero_le _⟩ (rfl) rfl
    · refine v_case (x := (S 29 9)) (c := 2) (fun hc7 => ?_) (fun hc7 => ?_)
      · refine v_tableIn (pc := 4) (tgt := 58) C d_Rd_take_4 (by rw [hc7]; decide) (by rw [hc7]; decide) (by rw [hc7] <;> rfl) rfl ?_
        refine v_aload_n (pc := 58) C d_Rd_take_58 rfl 0 rfl ?_
        refine v_ci (pc := 59) (inv_V (As := []) (st := []) C ml_Rd_134 mv_Rd_takeWhen ro_Rd_take_Rd_takeWhen (sh_29 hL) rfl rfl rfl rfl (Nat.le_of_ble_eq_true rfl) d_Rd_take_59) (c_Rd_takeWhen hL S) ⟨rfl, rfl⟩ ⟨Nat.zero_le _, Nat.zero_le _⟩ (fun r8 S9 => ?_)
        exact v_iret (z := (r8, S9)) C d_Rd_take_62 rfl ⟨Nat.zero_le _, Nat.zero_le _⟩ (rfl) rfl
      · refine v_case (x := (S 29 9)) (c := 3) (fun hc10 => ?_) (fun hc10 => ?_)
        · refine v_tableIn (pc := 4) (tgt := 63) C d_Rd_take_4 (by rw [hc10]; decide) (by rw [hc10]; decide) (by rw [hc10] <;> rfl) rfl ?_
          refine v_aload_n (pc := 63) C d_Rd_take_63 rfl 0 rfl ?_
          refine v_ci (pc := 64) (inv_V (As := []) (st := []) C ml_Rd_137 mv_Rd_takeClaim ro_Rd_take_Rd_takeClaim (sh_29 hL) rfl rfl rfl rfl (Nat.le_of_ble_eq_true rfl) d_Rd_take_64) (c_Rd_takeClaim hL S) ⟨rfl, rfl⟩ ⟨Nat.zero_le _, Nat.zero_le _⟩ (fun r11 S12 => ?_)
          exact v_iret (z := (r11, S12)) C d_Rd_take_67 rfl ⟨Nat.zero_le _, Nat.zero_le _⟩ (rfl) rfl
        · refine v_case (x := (S 29 9)) (c := 4) (fun hc13 => ?_) (fun hc13 => ?_)
          · refine v_tableIn (pc := 4) (tgt := 68) C d_Rd_take_4 (by rw [hc13]; decide) (by rw [hc13]; decide) (by rw [hc13] <;> rfl) rfl ?_
            refine v_aload_n (pc := 68) C d_Rd_take_68 rfl 0 rfl ?_
            refine v_ci (pc := 69) (inv_V (As := []) (st := []) C ml_Rd_140 mv_Rd_takeUnit ro_Rd_take_Rd_takeUnit (sh_29 hL) rfl rfl rfl rfl (Nat.le_of_ble_eq_true rfl) d_Rd_take_69) (c_Rd_takeUnit hL S) ⟨rfl, rfl⟩ ⟨Nat.zero_le _, Nat.zero_le _⟩ (fun r14 S15 => ?_)
            exact v_iret (z := (r14, S15)) C d_Rd_take_72 rfl ⟨Nat.zero_le _, Nat.zero_le _⟩ (rfl) rfl
          · refine v_case (x := (S 29 9)) (c := 5) (fun hc16 => ?_) (fun hc16 => ?_)
            · refine v_tableIn (pc := 4) (tgt := 73) C d_Rd_take_4 (by rw [hc16]; decide) (by rw [hc16]; decide) (by rw [hc16] <;> rfl) rfl ?_
              refine v_aload_n (pc := 73) C d_Rd_take_73 rfl 0 rfl ?_
              refine v_ci (pc := 74) (inv_V (As := []) (st := []) C ml_Rd_143 mv_Rd_takePart ro_Rd_take_Rd_takePart (sh_29 hL) rfl rfl rfl rfl (Nat.le_of_ble_eq_true rfl) d_Rd_take_74) (c_Rd_takePart hL S) ⟨rfl, rfl⟩ ⟨Nat.zero_le _, Nat.zero_le _⟩ (fun r17 S18 => ?_)
              exact v_iret (z := (r17, S18)) C d_Rd_take_77 rfl ⟨Nat.zero_le _, Nat.zero_le _⟩ (rfl) rfl
            · refine v_case (x := (S 29 9)) (c := 6) (fun hc19 => ?_) (fun hc19 => ?_)
              · refine v_tableIn (pc := 4) (tgt := 78) C d_Rd_take_4 (by rw [hc19]; decide) (by rw [hc19]; decide) (by rw [hc19] <;> rfl) rfl ?_
                refine v_aload_n (pc := 78) C d_Rd_take_78 rfl 0 rfl ?_
                refine v_ci (pc := 79) (inv_V (As := []) (st := []) C ml_Rd_146 mv_Rd_takeSign ro_Rd_take_Rd_takeSign (sh_29 hL) rfl rfl rfl rfl (Nat.le_of_ble_eq_true rfl) d_Rd_take_79) (c_Rd_takeSign hL S) ⟨rfl, rfl⟩ ⟨Nat.zero_le _, Nat.zero_le _⟩ (fun r20 S21 => ?_)
                exact v_iret (z := (r20, S21)) C d_Rd_take_82 rfl ⟨Nat.zero_le _, Nat.zero_le _⟩ (rfl) rfl
              · refine v_tableOut (pc := 4) (tgt := 83) C d_Rd_take_4 (by have q0 := lv_neT (a := 0) hc1 (by decide); have q1 := lv_neT (a := 1) hc4 (by decide); have q2 := lv_neT (a := 2) hc7 (by decide); have q3 := lv_neT (a := 3) hc10 (by decide); have q4 := lv_neT (a := 4) hc13 (by decide); have q5 := lv_neT (a := 5) hc16 (by decide); have q6 := lv_neT (a := 6) hc19 (by decide); omega) rfl ?_
                refine v_aload_n (pc := 83) C d_Rd_take_83 rfl 0 rfl ?_
                refine v_ci (pc := 84) (inv_V (As := []) (st := []) C ml_Rd_149 mv_Rd_takeJoint ro_Rd_take_Rd_takeJoint (sh_29 hL) rfl rfl rfl rfl (Nat.le_of_ble_eq_true rfl) d_Rd_take_84) (c_Rd_takeJoint hL S) ⟨rfl, rfl⟩ ⟨Nat.zero_le _, Nat.zero_le _⟩ (fun r22 S23 => ?_)
                exact v_iret (z := (r22, S23)) C d_Rd_take_87 rfl ⟨Nat.zero_le _, Nat.zero_le _⟩ (rfl) rfl
-- Rd_read
theorem d_Rd_read_0 : decode (mB Y_Rd_read) 0 = .ok (.aload_n 0, 1) := by decide +kernel
theorem d_Rd_read_1 : decode (mB Y_Rd_read) 1 = .ok (.iload_n 1, 1) := by decide +kernel
theorem d_Rd_read_2 : decode (mB Y_Rd_read) 2 = .ok (.invokevirtual 32, 3) := by decide +kernel
theorem d_Rd_read_5 : decode (mB Y_Rd_read) 5 = .ok (.aload_n 0, 1) := by decide +kernel
theorem d_Rd_read_6 : decode (mB Y_Rd_read) 6 = .ok (.iconst 0, 1) := by decide +kernel
theorem d_Rd_read_7 : decode (mB Y_Rd_read) 7 = .ok (.putfield 29, 3) := by decide +kernel
theorem d_Rd_read_10 : decode (mB Y_Rd_read) 10 = .ok (.iconst 0, 1) := by decide +kernel
theorem d_Rd_read_11 : decode (mB Y_Rd_read) 11 = .ok (.istore_n 3, 1) := by decide +kernel
theorem d_Rd_read_12 : decode (mB Y_Rd_read) 12 = .ok (.iload_n 3, 1) := by decide +kernel
theorem d_Rd_read_13 : decode (mB Y_Rd_read) 13 = .ok (.sipush 400, 3) := by decide +kernel
theorem d_Rd_read_16 : decode (mB Y_Rd_read) 16 = .ok (.if_icmp .gt 47, 3) := by decide +kernel
theorem d_Rd_read_19 : decode (mB Y_Rd_read) 19 = .ok (.aload_n 0, 1) := by decide +kernel
theorem d_Rd_read_20 : decode (mB Y_Rd_read) 20 = .ok (.getfield 29, 3) := by decide +kernel
theorem d_Rd_read_23 : decode (mB Y_Rd_read) 23 = .ok (.ifCond .ne 40, 3) := by decide +kernel
theorem d_Rd_read_26 : decode (mB Y_Rd_read) 26 = .ok (.aload_n 0, 1) := by decide +kernel
theorem d_Rd_read_27 : decode (mB Y_Rd_read) 27 = .ok (.invokevirtual 36, 3) := by decide +kernel
theorem d_Rd_read_30 : decode (mB Y_Rd_read) 30 = .ok (.aload_n 0, 1) := by decide +kernel
theorem d_Rd_read_31 : decode (mB Y_Rd_read) 31 = .ok (.getfield 39, 3) := by decide +kernel
theorem d_Rd_read_34 : decode (mB Y_Rd_read) 34 = .ok (.bipush 14, 2) := by decide +kernel
theorem d_Rd_read_36 : decode (mB Y_Rd_read) 36 = .ok (.if_icmp .ne 13, 3) := by decide +kernel
theorem d_Rd_read_39 : decode (mB Y_Rd_read) 39 = .ok (.aload_n 0, 1) := by decide +kernel
theorem d_Rd_read_40 : decode (mB Y_Rd_read) 40 = .ok (.getfield 42, 3) := by decide +kernel
theorem d_Rd_read_43 : decode (mB Y_Rd_read) 43 = .ok (.ifCond .ne 6, 3) := by decide +kernel
theorem d_Rd_read_46 : decode (mB Y_Rd_read) 46 = .ok (.goto 17, 3) := by decide +kernel
theorem d_Rd_read_49 : decode (mB Y_Rd_read) 49 = .ok (.aload_n 0, 1) := by decide +kernel
theorem d_Rd_read_50 : decode (mB Y_Rd_read) 50 = .ok (.aload_n 0, 1) := by decide +kernel
theorem d_Rd_read_51 : decode (mB Y_Rd_read) 51 = .ok (.invokevirtual 45, 3) := by decide +kernel
theorem d_Rd_read_54 : decode (mB Y_Rd_read) 54 = .ok (.putfield 29, 3) := by decide +kernel
theorem d_Rd_read_57 : decode (mB Y_Rd_read) 57 = .ok (.iinc 3 1, 3) := by decide +kernel
theorem d_Rd_read_60 : decode (mB Y_Rd_read) 60 = .ok (.goto (-48), 3) := by decide +kernel
theorem d_Rd_read_63 : decode (mB Y_Rd_read) 63 = .ok (.aload_n 0, 1) := by decide +kernel
theorem d_Rd_read_64 : decode (mB Y_Rd_read) 64 = .ok (.aload_n 0, 1) := by decide +kernel
theorem d_Rd_read_65 : decode (mB Y_Rd_read) 65 = .ok (.getfield 29, 3) := by decide +kernel
theorem d_Rd_read_68 : decode (mB Y_Rd_read) 68 = .ok (.ifCond .ne 7, 3) := by decide +kernel
theorem d_Rd_read_71 : decode (mB Y_Rd_read) 71 = .ok (.iconst (-1), 1) := by decide +kernel
theorem d_Rd_read_72 : decode (mB Y_Rd_read) 72 = .ok (.goto 7, 3) := by decide +kernel
theorem d_Rd_read_75 : decode (mB Y_Rd_read) 75 = .ok (.aload_n 0, 1) := by decide +kernel
theorem d_Rd_read_76 : decode (mB Y_Rd_read) 76 = .ok (.getfield 49, 3) := by decide +kernel
theorem d_Rd_read_79 : decode (mB Y_Rd_read) 79 = .ok (.putfield 15, 3) := by decide +kernel
theorem d_Rd_read_82 : decode (mB Y_Rd_read) 82 = .ok (.aload_n 0, 1) := by decide +kernel
theorem d_Rd_read_83 : decode (mB Y_Rd_read) 83 = .ok (.iconst 0, 1) := by decide +kernel
theorem d_Rd_read_84 : decode (mB Y_Rd_read) 84 = .ok (.putfield 26, 3) := by decide +kernel
theorem d_Rd_read_87 : decode (mB Y_Rd_read) 87 = .ok (.aload_n 0, 1) := by decide +kernel
theorem d_Rd_read_88 : decode (mB Y_Rd_read) 88 = .ok (.getfield 29, 3) := by decide +kernel
theorem d_Rd_read_91 : decode (mB Y_Rd_read) 91 = .ok (.ifCond .eq 5, 3) := by decide +kernel
theorem d_Rd_read_94 : decode (mB Y_Rd_read) 94 = .ok (.iconst (-1), 1) := by decide +kernel
theorem d_Rd_read_95 : decode (mB Y_Rd_read) 95 = .ok (.ireturn, 1) := by decide +kernel
theorem d_Rd_read_96 : decode (mB Y_Rd_read) 96 = .ok (.aload_n 2, 1) := by decide +kernel
theorem d_Rd_read_97 : decode (mB Y_Rd_read) 97 = .ok (.aload_n 0, 1) := by decide +kernel
theorem d_Rd_read_98 : decode (mB Y_Rd_read) 98 = .ok (.getfield 23, 3) := by decide +kernel
theorem d_Rd_read_101 : decode (mB Y_Rd_read) 101 = .ok (.aload_n 0, 1) := by decide +kernel
theorem d_Rd_read_102 : decode (mB Y_Rd_read) 102 = .ok (.getfield 52, 3) := by decide +kernel
theorem d_Rd_read_105 : decode (mB Y_Rd_read) 105 = .ok (.invokestatic 55, 3) := by decide +kernel
theorem d_Rd_read_108 : decode (mB Y_Rd_read) 108 = .ok (.putfield 61, 3) := by decide +kernel
theorem d_Rd_read_111 : decode (mB Y_Rd_read) 111 = .ok (.aload_n 0, 1) := by decide +kernel
theorem d_Rd_read_112 : decode (mB Y_Rd_read) 112 = .ok (.getfield 64, 3) := by decide +kernel
theorem d_Rd_read_115 : decode (mB Y_Rd_read) 115 = .ok (.ireturn, 1) := by decide +kernel
theorem ro_Rd_read_Ar_copyOf : roomy Y_Rd_read Y_Ar_copyOf := ⟨Nat.le_of_ble_eq_true rfl, Nat.le_of_ble_eq_true rfl⟩
theorem ro_Rd_read_Rd_scan : roomy Y_Rd_read Y_Rd_scan := ⟨Nat.le_of_ble_eq_true rfl, Nat.le_of_ble_eq_true rfl⟩
theorem ro_Rd_read_Rd_start : roomy Y_Rd_read Y_Rd_start := ⟨Nat.le_of_ble_eq_true rfl, Nat.le_of_ble_eq_true rfl⟩
theorem ro_Rd_read_Rd_take : roomy Y_Rd_read Y_Rd_take := ⟨Nat.le_of_ble_eq_true rfl, Nat.le_of_ble_eq_true rfl⟩
def r_Rd_read_L12 (a2_ : Nat) : Nat → Int32 → Sto → Option ((Int32 × Sto) ⊕ (Int32 × Sto × Bool))
  | 0, _, _ => none
  | n + 1, x3_, S =>
    if 400 < x3_ then
      some (.inl (x3_, S))
    else
      if (S 29 2) = 0 then
        (r_Rd_scan S).bind (fun S1 =>
        jn (fun (_ : Unit) =>
          (r_Rd_take S1).bind (fun (r2, S3) =>
          ltS (sw S3 29 2 r2) (fun S4 =>
          lt (x3_ + 1) (fun v5 =>
          r_Rd_read_L12 a2_ n v5 S4)))) (fun j49 =>
        if (S1 29 6) = 14 then
          if (S1 29 9) = 0 then
            some (.inl (x3_, S1))
          else
            j49 ()
        else
          j49 ()))
      else
        some (.inl (x3_, S))
set_option maxHeartbeats 4000000 in
set_option maxRecDepth 20000 in
theorem w_Rd_read_L12 {g : Gm} {G : Gl} {L : Shp} (C : Cx g Y_Rd_read G) (hL : Ext L) (a2_ : Nat) (h2_ : isScript L a2_) :
    ∀ (n : Nat) (x3_ : Int32) (S : Sto) (K : ((Int32 × Sto) ⊕ (Int32 × Sto × Bool)) → Option (Int32 × Sto × Bool)), (∀ (x3_ : Int32) (S : Sto), VO g Y_Rd_read G (fun z => Qm g Y_Rd_read G (fa L z)) 0 0 63 [(0, rf G 29), (2, rf G a2_)] [] L S (some (.inl (x3_, S))) K) → (∀ x, K (.inr x) = some x) → VO g Y_Rd_read G (fun z => Qm g Y_Rd_read G (fa L z)) 0 0 12 [(0, rf G 29), (2, rf G a2_), (3, .int x3_)] [] L S (r_Rd_read_L12 a2_ n x3_ S) K := by
  intro n
  induction n with
  | zero => intro x3_ S K; intros; exact v_none
  | succ n ih =>
    intro x3_ S K hK hR
    rw [r_Rd_read_L12]
    refine v_iload_n (pc := 12) C d_Rd_read_12 rfl 2 rfl ?_
    refine v_sipush (pc := 13) C d_Rd_read_13 sp_400 ?_
    refine v_icmp_gt (pc := 16) (tgt := 63) C d_Rd_read_16 rfl (fun _ => ?_) (fun _ => ?_)
    · refine v_sub [0, 1] rfl ?_
      exact hK x3_ S
    · refine v_aload_n (pc := 19) C d_Rd_read_19 rfl 0 rfl ?_
      refine v_getI (pc := 20) C fl_Rd_29 (sh_29 hL) rfl d_Rd_read_20 ?_
      refine v_if_ne (pc := 23) (tgt := 63) C d_Rd_read_23 rfl (fun _ => ?_) (fun _ => ?_)
      · refine v_sub [0, 1] rfl ?_
        exact hK x3_ S
      · refine v_aload_n (pc := 26) C d_Rd_read_26 rfl 0 rfl ?_
        refine v_cv (pc := 27) (inv_V (As := []) (st := []) C ml_Rd_36 mv_Rd_scan ro_Rd_read_Rd_scan (sh_29 hL) rfl rfl rfl rfl (Nat.le_of_ble_eq_true rfl) d_Rd_read_27) (c_Rd_scan hL S) ⟨rfl, rfl⟩ ⟨Nat.zero_le _, Nat.zero_le _⟩ (fun S1 => ?_)
        refine v_aload_n (pc := 30) C d_Rd_read_30 rfl 0 rfl ?_
        refine v_getI (pc := 31) C fl_Rd_39 (sh_29 hL) rfl d_Rd_read_31 ?_
        refine v_bipush (pc := 34) C d_Rd_read_34 bp_14 ?_
        refine v_jn (fun j => VO g Y_Rd_read G (fun z => Qm g Y_Rd_read G (fa L z)) 0 0 49 [(0, rf G 29), (2, rf G a2_), (3, .int x3_)] [] L S1 (j ()) K) (?_) (fun j49 hj49 => ?_)
        · refine v_aload_n (pc := 49) C d_Rd_read_49 rfl 0 rfl ?_
          refine v_aload_n (pc := 50) C d_Rd_read_50 rfl 0 rfl ?_
          refine v_ci (pc := 51) (inv_V (As := []) (st := [rf G 29]) C ml_Rd_45 mv_Rd_take ro_Rd_read_Rd_take (sh_29 hL) rfl rfl rfl rfl (Nat.le_of_ble_eq_true rfl) d_Rd_read_51) (c_Rd_take hL S1) ⟨rfl, rfl⟩ ⟨Nat.zero_le _, Nat.zero_le _⟩ (fun r2 S3 => ?_)
          refine v_putI (pc := 54) C fp_Rd_29 (sh_29 hL) rfl d_Rd_read_54 (fun S4 => ?_)
          refine v_iinc (pc := 57) (p := 2) (c := 1) C d_Rd_read_57 rfl (by decide) (by decide) (fun v5 => [(3, .int v5), (0, rf G 29), (2, rf G a2_)]) (fun _ => rfl) (fun v5 => ?_)
          refine v_goto (pc := 60) (tgt := 12) C d_Rd_read_60 rfl ?_
          refine v_sub [1, 2, 0] rfl ?_
          exact ih v5 S4 K hK hR
        · refine v_icmp_ne (pc := 36) (tgt := 49) C d_Rd_read_36 rfl (fun _ => ?_) (fun _ => ?_)
          · exact hj49
          · refine v_aload_n (pc := 39) C d_Rd_read_39 rfl 0 rfl ?_
            refine v_getI (pc := 40) C fl_Rd_42 (sh_29 hL) rfl d_Rd_read_40 ?_
            refine v_if_ne (pc := 43) (tgt := 49) C d_Rd_read_43 rfl (fun _ => ?_) (fun _ => ?_)
            · exact hj49
            · refine v_goto (pc := 46) (tgt := 63) C d_Rd_read_46 rfl ?_
              refine v_sub [0, 1] rfl ?_
              exact hK x3_ S1
def r_Rd_read (x1 : Int32) (a2 : Nat) (nL : Nat) (S : Sto) : Option (Int32 × Sto × Bool) :=
  (r_Rd_start x1 S).bind (fun S1 =>
  ltS (sw S1 29 2 0) (fun S2 =>
  (r_Rd_read_L12 a2 fu 0 S2).bind (fun x => match x with
  | .inl (v3, S4) =>
    jn (fun (v5 : Int32) =>
      ltS (sw S4 29 3 v5) (fun S6 =>
      ltS (sw S6 29 1 0) (fun S7 =>
      if (S7 29 2) = 0 then
        chk (okc (S7 29 18)) (
        ltS (cpo S7 nL (S7 29 18)) (fun S1 =>
        ltS (sw S1 a2 0 (nI nL)) (fun S2 =>
        some (S2 29 11, S2, true))))
      else
        some ((-1), S7, false)))) (fun j79 =>
    if (S4 29 2) = 0 then
      j79 ((-1))
    else
      j79 (S4 29 8))
  | .inr r => some r)))
set_option maxHeartbeats 4000000 in
set_option maxRecDepth 20000 in
theorem c_Rd_read {G : Gl} {L : Shp} (hL : Ext L) (S : Sto) {nL : Nat} (hlen : nL = L.length) (hn : L.length < 2 ^ 31) (x1 : Int32) (a2 : Nat) (h2 : isScript L a2) : Ct Y_Rd_read G [rf G 29, .int x1, rf G a2] L S (fa L) (r_Rd_read x1 a2 nL S) := by
  refine ct_of (by decide +kernel) (Nat.le_of_ble_eq_true rfl) (fun g C => ?_)
  subst hlen
  show VO g Y_Rd_read G (fun z => Qm g Y_Rd_read G (fa L z)) 0 0 0 [(0, rf G 29), (1, .int x1), (2, rf G a2)] [] L S (r_Rd_read x1 a2 L.length S) some
  unfold r_Rd_read
  refine v_aload_n (pc := 0) C d_Rd_read_0 rfl 0 rfl ?_
  refine v_iload_n (pc := 1) C d_Rd_read_1 rfl 1 rfl ?_
  refine v_cv (pc := 2) (inv_V (As := [.int x1]) (st := []) C ml_Rd_32 mv_Rd_start ro_Rd_read_Rd_start (sh_29 hL) rfl rfl rfl rfl (Nat.le_of_ble_eq_true rfl) d_Rd_read_2) (c_Rd_start hL S x1) ⟨rfl, rfl⟩ ⟨Nat.zero_le _, Nat.zero_le _⟩ (fun S1 => ?_)
  refine v_aload_n (pc := 5) C d_Rd_read_5 rfl 0 rfl ?_
  refine v_iconst (pc := 6) C d_Rd_read_6 ic_0 ?_
  refine v_putI (pc := 7) C fp_Rd_29 (sh_29 hL) rfl d_Rd_read_7 (fun S2 => ?_)
  refine v_iconst (pc := 10) C d_Rd_read_10 ic_0 ?_
  refine v_istore_n (pc := 11) (lv' := [(3, .int 0), (0, rf G 29), (1, .int x1), (2, rf G a2)]) C d_Rd_read_11 rfl (by decide) rfl ?_
  refine v_sub [1, 3, 0] rfl ?_
  refine v_bind ?_
  refine w_Rd_read_L12 C hL a2 h2 fu 0 S2 _ (fun v3 S4 => ?_) (fun z => rfl)
  refine v_some ?_
  refine v_aload_n (pc := 63) C d_Rd_read_63 rfl 0 rfl ?_
  refine v_aload_n (pc := 64) C d_Rd_read_64 rfl 0 rfl ?_
  refine v_getI (pc := 65) C fl_Rd_29 (sh_29 hL) rfl d_Rd_read_65 ?_
  refine v_jn (fun j => ∀ (v5 : Int32), VO g Y_Rd_read G (fun z => Qm g Y_Rd_read G (fa L z)) 0 0 79 [(0, rf G 29), (2, rf G a2)] [.int v5, rf G 29] L S4 (j (v5)) some) (fun v5 => ?_) (fun j79 hj79 => ?_)
  · refine v_putI (pc := 79) C fp_Rd_15 (sh_29 hL) rfl d_Rd_read_79 (fun S6 => ?_)
    refine v_aload_n (pc := 82) C d_Rd_read_82 rfl 0 rfl ?_
    refine v_iconst (pc := 83) C d_Rd_read_83 ic_0 ?_
    refine v_putI (pc := 84) C fp_Rd_26 (sh_29 hL) rfl d_Rd_read_84 (fun S7 => ?_)
    refine v_aload_n (pc := 87) C d_Rd_read_87 rfl 0 rfl ?_
    refine v_getI (pc := 88) C fl_Rd_29 (sh_29 hL) rfl d_Rd_read_88 ?_
    refine v_if_eq (pc := 91) (tgt := 96) C d_Rd_read_91 rfl (fun _ => ?_) (fun _ => ?_)
    · refine v_aload_n (pc := 96) C d_Rd_read_96 rfl 1 rfl ?_
      refine v_aload_n (pc := 97) C d_Rd_read_97 rfl 0 rfl ?_
      refine v_getR (pc := 98) C fl_Rd_23 (sh_29 hL) rfl d_Rd_read_98 ?_
      refine v_aload_n (pc := 101) C d_Rd_read_101 rfl 0 rfl ?_
      refine v_getI (pc := 102) C fl_Rd_52 (sh_29 hL) rfl d_Rd_read_102 ?_
      refine v_chk (fun hb => ?_)
      refine v_cca (pc := 105) (inv_S (As := [rf G 32, .int (S7 29 18)]) (st := [rf G a2]) C ml_Rd_55 ms_Ar_copyOf ro_Rd_read_Ar_copyOf rfl rfl (Nat.le_of_ble_eq_true rfl) d_Rd_read_105) (c_Ar_copyOf S7 (S7 29 18) (sh_32 hL) hb) rfl rfl ⟨Nat.le_of_ble_eq_true rfl, Nat.le_of_ble_eq_true rfl⟩ (fun S1 => ?_)
      refine v_putD (pc := 108) (L2 := L ++ [(5, 0, [])]) (x0 := nI L.length) C (Or.inl fp_Rd_61) (ap_get h2.1) rfl (fun _ => rfl) (fun _ => rfl) (ap_set h2.1) (ap_last L) (nI_clamp hn) d_Rd_read_108 (fun S2 => ?_)
      refine v_aload_n (pc := 111) C d_Rd_read_111 rfl 0 rfl ?_
      refine v_getI (pc := 112) C fl_Rd_64 (ap_get (sh_29 hL)) rfl d_Rd_read_112 ?_
      exact v_iret (z := (S2 29 11, S2, true)) C d_Rd_read_115 rfl ⟨Nat.le_of_ble_eq_true rfl, Nat.le_of_ble_eq_true rfl⟩ rfl rfl
    · refine v_iconst (pc := 94) C d_Rd_read_94 ic_m1 ?_
      exact v_iret (z := ((-1), S7, false)) C d_Rd_read_95 rfl ⟨Nat.zero_le _, Nat.zero_le _⟩ (rfl) rfl
  · refine v_if_ne (pc := 68) (tgt := 75) C d_Rd_read_68 rfl (fun _ => ?_) (fun _ => ?_)
    · refine v_aload_n (pc := 75) C d_Rd_read_75 rfl 0 rfl ?_
      refine v_getI (pc := 76) C fl_Rd_49 (sh_29 hL) rfl d_Rd_read_76 ?_
      exact hj79 (S4 29 8)
    · refine v_iconst (pc := 71) C d_Rd_read_71 ic_m1 ?_
      refine v_goto (pc := 72) (tgt := 79) C d_Rd_read_72 rfl ?_
      exact hj79 (-1)
-- B_upperSector
theorem d_B_upperSector_0 : decode (mB Y_B_upperSector) 0 = .ok (.iload_n 0, 1) := by decide +kernel
theorem d_B_upperSector_1 : decode (mB Y_B_upperSector) 1 = .ok (.ifCond .le 14, 3) := by decide +kernel
theorem d_B_upperSector_4 : decode (mB Y_B_upperSector) 4 = .ok (.iload_n 1, 1) := by decide +kernel
theorem d_B_upperSector_5 : decode (mB Y_B_upperSector) 5 = .ok (.iload_n 0, 1) := by decide +kernel
theorem d_B_upperSector_6 : decode (mB Y_B_upperSector) 6 = .ok (.if_icmp .ge 7, 3) := by decide +kernel
theorem d_B_upperSector_9 : decode (mB Y_B_upperSector) 9 = .ok (.iconst 0, 1) := by decide +kernel
theorem d_B_upperSector_10 : decode (mB Y_B_upperSector) 10 = .ok (.goto 4, 3) := by decide +kernel
theorem d_B_upperSector_13 : decode (mB Y_B_upperSector) 13 = .ok (.iconst 1, 1) := by decide +kernel
theorem d_B_upperSector_14 : decode (mB Y_B_upperSector) 14 = .ok (.ireturn, 1) := by decide +kernel
theorem d_B_upperSector_15 : decode (mB Y_B_upperSector) 15 = .ok (.iload_n 1, 1) := by decide +kernel
theorem d_B_upperSector_16 : decode (mB Y_B_upperSector) 16 = .ok (.iload_n 0, 1) := by decide +kernel
theorem d_B_upperSector_17 : decode (mB Y_B_upperSector) 17 = .ok (.ineg, 1) := by decide +kernel
theorem d_B_upperSector_18 : decode (mB Y_B_upperSector) 18 = .ok (.if_icmp .le 7, 3) := by decide +kernel
theorem d_B_upperSector_21 : decode (mB Y_B_upperSector) 21 = .ok (.iconst 2, 1) := by decide +kernel
theorem d_B_upperSector_22 : decode (mB Y_B_upperSector) 22 = .ok (.goto 4, 3) := by decide +kernel
theorem d_B_upperSector_25 : decode (mB Y_B_upperSector) 25 = .ok (.iconst 3, 1) := by decide +kernel
theorem d_B_upperSector_26 : decode (mB Y_B_upperSector) 26 = .ok (.ireturn, 1) := by decide +kernel
def r_B_upperSector (x0 : Int32) (x1 : Int32) : Int32 := (if x0 ≤ 0 then (if x1 ≤ (-x0) then 3 else 2) else (if x0 ≤ x1 then 1 else 0))
set_option maxHeartbeats 4000000 in
set_option maxRecDepth 20000 in
theorem c_B_upperSector {G : Gl} {L : Shp} (hL : Ext L) (S : Sto) (x0 : Int32) (x1 : Int32)  : Ct Y_B_upperSector G [.int x0, .int x1] L S (fp L S) (some (r_B_upperSector x0 x1)) := by
  refine ct_of (by decide +kernel) (Nat.le_of_ble_eq_true rfl) (fun g C => ?_)
  have e : (some (r_B_upperSector x0 x1) : Option Int32) =
      if x0 ≤ 0 then
        if x1 ≤ (-x0) then
          some 3
        else
          some 2
      else
        if x0 ≤ x1 then
          some 1
        else
          some 0 := by
    unfold r_B_upperSector
    simp only [some_ite, lt, ltJ]
  rw [e]
  show VO g Y_B_upperSector G (fun z => Qm g Y_B_upperSector G (fp L S z)) 0 0 0 [(0, .int x0), (1, .int x1)] [] L S _ some
  refine v_iload_n (pc := 0) C d_B_upperSector_0 rfl 0 rfl ?_
  refine v_if_le (pc := 1) (tgt := 15) C d_B_upperSector_1 rfl (fun _ => ?_) (fun _ => ?_)
  · refine v_iload_n (pc := 15) C d_B_upperSector_15 rfl 1 rfl ?_
    refine v_iload_n (pc := 16) C d_B_upperSector_16 rfl 0 rfl ?_
    refine v_ineg (pc := 17) C d_B_upperSector_17 ?_
    refine v_icmp_le (pc := 18) (tgt := 25) C d_B_upperSector_18 rfl (fun _ => ?_) (fun _ => ?_)
    · refine v_iconst (pc := 25) C d_B_upperSector_25 ic_3 ?_
      exact v_iret (z := 3) C d_B_upperSector_26 rfl ⟨Nat.zero_le _, Nat.zero_le _⟩ (rfl) rfl
    · refine v_iconst (pc := 21) C d_B_upperSector_21 ic_2 ?_
      refine v_goto (pc := 22) (tgt := 26) C d_B_upperSector_22 rfl ?_
      exact v_iret (z := 2) C d_B_upperSector_26 rfl ⟨Nat.zero_le _, Nat.zero_le _⟩ (rfl) rfl
  · refine v_iload_n (pc := 4) C d_B_upperSector_4 rfl 1 rfl ?_
    refine v_iload_n (pc := 5) C d_B_upperSector_5 rfl 0 rfl ?_
    refine v_icmp_ge (pc := 6) (tgt := 13) C d_B_upperSector_6 rfl (fun _ => ?_) (fun _ => ?_)
    · refine v_iconst (pc := 13) C d_B_upperSector_13 ic_1 ?_
      exact v_iret (z := 1) C d_B_upperSector_14 rfl ⟨Nat.zero_le _, Nat.zero_le _⟩ (rfl) rfl
    · refine v_iconst (pc := 9) C d_B_upperSector_9 ic_0 ?_
      refine v_goto (pc := 10) (tgt := 14) C d_B_upperSector_10 rfl ?_
      exact v_iret (z := 0) C d_B_upperSector_14 rfl ⟨Nat.zero_le _, Nat.zero_le _⟩ (rfl) rfl
-- B_sectorOf
theorem d_B_sectorOf_0 : decode (mB Y_B_sectorOf) 0 = .ok (.iload_n 0, 1) := by decide +kernel
theorem d_B_sectorOf_1 : decode (mB Y_B_sectorOf) 1 = .ok (.invokestatic 356, 3) := by decide +kernel
theorem d_B_sectorOf_4 : decode (mB Y_B_sectorOf) 4 = .ok (.iload_n 1, 1) := by decide +kernel
theorem d_B_sectorOf_5 : decode (mB Y_B_sectorOf) 5 = .ok (.invokestatic 356, 3) := by decide +kernel
theorem d_B_sectorOf_8 : decode (mB Y_B_sectorOf) 8 = .ok (.isub, 1) := by decide +kernel
theorem d_B_sectorOf_9 : decode (mB Y_B_sectorOf) 9 = .ok (.istore_n 2, 1) := by decide +kernel
theorem d_B_sectorOf_10 : decode (mB Y_B_sectorOf) 10 = .ok (.iload_n 0, 1) := by decide +kernel
theorem d_B_sectorOf_11 : decode (mB Y_B_sectorOf) 11 = .ok (.invokestatic 359, 3) := by decide +kernel
theorem d_B_sectorOf_14 : decode (mB Y_B_sectorOf) 14 = .ok (.iload_n 1, 1) := by decide +kernel
theorem d_B_sectorOf_15 : decode (mB Y_B_sectorOf) 15 = .ok (.invokestatic 359, 3) := by decide +kernel
theorem d_B_sectorOf_18 : decode (mB Y_B_sectorOf) 18 = .ok (.isub, 1) := by decide +kernel
theorem d_B_sectorOf_19 : decode (mB Y_B_sectorOf) 19 = .ok (.istore_n 3, 1) := by decide +kernel
theorem d_B_sectorOf_20 : decode (mB Y_B_sectorOf) 20 = .ok (.iload_n 2, 1) := by decide +kernel
theorem d_B_sectorOf_21 : decode (mB Y_B_sectorOf) 21 = .ok (.ifCond .ne 9, 3) := by decide +kernel
theorem d_B_sectorOf_24 : decode (mB Y_B_sectorOf) 24 = .ok (.iload_n 3, 1) := by decide +kernel
theorem d_B_sectorOf_25 : decode (mB Y_B_sectorOf) 25 = .ok (.ifCond .ne 5, 3) := by decide +kernel
theorem d_B_sectorOf_28 : decode (mB Y_B_sectorOf) 28 = .ok (.iconst (-1), 1) := by decide +kernel
theorem d_B_sectorOf_29 : decode (mB Y_B_sectorOf) 29 = .ok (.ireturn, 1) := by decide +kernel
theorem d_B_sectorOf_30 : decode (mB Y_B_sectorOf) 30 = .ok (.iload_n 3, 1) := by decide +kernel
theorem d_B_sectorOf_31 : decode (mB Y_B_sectorOf) 31 = .ok (.ifCond .gt 11, 3) := by decide +kernel
theorem d_B_sectorOf_34 : decode (mB Y_B_sectorOf) 34 = .ok (.iload_n 3, 1) := by decide +kernel
theorem d_B_sectorOf_35 : decode (mB Y_B_sectorOf) 35 = .ok (.ifCond .ne 11, 3) := by decide +kernel
theorem d_B_sectorOf_38 : decode (mB Y_B_sectorOf) 38 = .ok (.iload_n 2, 1) := by decide +kernel
theorem d_B_sectorOf_39 : decode (mB Y_B_sectorOf) 39 = .ok (.ifCond .le 7, 3) := by decide +kernel
theorem d_B_sectorOf_42 : decode (mB Y_B_sectorOf) 42 = .ok (.iconst 1, 1) := by decide +kernel
theorem d_B_sectorOf_43 : decode (mB Y_B_sectorOf) 43 = .ok (.goto 4, 3) := by decide +kernel
theorem d_B_sectorOf_46 : decode (mB Y_B_sectorOf) 46 = .ok (.iconst 0, 1) := by decide +kernel
theorem d_B_sectorOf_47 : decode (mB Y_B_sectorOf) 47 = .ok (.istore 4, 2) := by decide +kernel
theorem d_B_sectorOf_49 : decode (mB Y_B_sectorOf) 49 = .ok (.iload 4, 2) := by decide +kernel
theorem d_B_sectorOf_51 : decode (mB Y_B_sectorOf) 51 = .ok (.ifCond .eq 11, 3) := by decide +kernel
theorem d_B_sectorOf_54 : decode (mB Y_B_sectorOf) 54 = .ok (.iload_n 2, 1) := by decide +kernel
theorem d_B_sectorOf_55 : decode (mB Y_B_sectorOf) 55 = .ok (.iload_n 3, 1) := by decide +kernel
theorem d_B_sectorOf_56 : decode (mB Y_B_sectorOf) 56 = .ok (.invokestatic 365, 3) := by decide +kernel
theorem d_B_sectorOf_59 : decode (mB Y_B_sectorOf) 59 = .ok (.goto 12, 3) := by decide +kernel
theorem d_B_sectorOf_62 : decode (mB Y_B_sectorOf) 62 = .ok (.iconst 4, 1) := by decide +kernel
theorem d_B_sectorOf_63 : decode (mB Y_B_sectorOf) 63 = .ok (.iload_n 2, 1) := by decide +kernel
theorem d_B_sectorOf_64 : decode (mB Y_B_sectorOf) 64 = .ok (.ineg, 1) := by decide +kernel
theorem d_B_sectorOf_65 : decode (mB Y_B_sectorOf) 65 = .ok (.iload_n 3, 1) := by decide +kernel
theorem d_B_sectorOf_66 : decode (mB Y_B_sectorOf) 66 = .ok (.ineg, 1) := by decide +kernel
theorem d_B_sectorOf_67 : decode (mB Y_B_sectorOf) 67 = .ok (.invokestatic 365, 3) := by decide +kernel
theorem d_B_sectorOf_70 : decode (mB Y_B_sectorOf) 70 = .ok (.iadd, 1) := by decide +kernel
theorem d_B_sectorOf_71 : decode (mB Y_B_sectorOf) 71 = .ok (.ireturn, 1) := by decide +kernel
theorem ro_B_sectorOf_B_column : roomy Y_B_sectorOf Y_B_column := ⟨Nat.le_of_ble_eq_true rfl, Nat.le_of_ble_eq_true rfl⟩
theorem ro_B_sectorOf_B_row : roomy Y_B_sectorOf Y_B_row := ⟨Nat.le_of_ble_eq_true rfl, Nat.le_of_ble_eq_true rfl⟩
theorem ro_B_sectorOf_B_upperSector : roomy Y_B_sectorOf Y_B_upperSector := ⟨Nat.le_of_ble_eq_true rfl, Nat.le_of_ble_eq_true rfl⟩
def r_B_sectorOf (x0 : Int32) (x1 : Int32) : Option Int32 :=
  lt ((r_B_column x0) - (r_B_column x1)) (fun v1 =>
  lt ((r_B_row x0) - (r_B_row x1)) (fun v2 =>
  jn (fun (_ : Unit) =>
    jn (fun (v3 : Int32) =>
      if v3 = 0 then
        some (4 + (r_B_upperSector (-v1) (-v2)))
      else
        some (r_B_upperSector v1 v2)) (fun j47 =>
    if 0 < v2 then
      j47 (1)
    else
      if v2 = 0 then
        if v1 ≤ 0 then
          j47 (0)
        else
          j47 (1)
      else
        j47 (0))) (fun j30 =>
  if v1 = 0 then
    if v2 = 0 then
      some (-1)
    else
      j30 ()
  else
    j30 ())))
set_option maxHeartbeats 4000000 in
set_option maxRecDepth 20000 in
theorem c_B_sectorOf {G : Gl} {L : Shp} (hL : Ext L) (S : Sto) (x0 : Int32) (x1 : Int32)  : Ct Y_B_sectorOf G [.int x0, .int x1] L S (fp L S) (r_B_sectorOf x0 x1) := by
  refine ct_of (by decide +kernel) (Nat.le_of_ble_eq_true rfl) (fun g C => ?_)
  show VO g Y_B_sectorOf G (fun z => Qm g Y_B_sectorOf G (fp L S z)) 0 0 0 [(0, .int x0), (1, .int x1)] [] L S (r_B_sectorOf x0 x1) some
  unfold r_B_sectorOf
  refine v_iload_n (pc := 0) C d_B_sectorOf_0 rfl 0 rfl ?_
  refine v_ct (pc := 1) (inv_S (As := [.int x0]) (st := []) C ml_B_356 ms_B_column ro_B_sectorOf_B_column rfl rfl (Nat.le_of_ble_eq_true rfl) d_B_sectorOf_1) (c_B_column hL S x0) ⟨rfl, rfl⟩ ⟨Nat.zero_le _, Nat.zero_le _⟩ ?_
  refine v_iload_n (pc := 4) C d_B_sectorOf_4 rfl 1 rfl ?_
  refine v_ct (pc := 5) (inv_S (As := [.int x1]) (st := [.int (r_B_column x0)]) C ml_B_356 ms_B_column ro_B_sectorOf_B_column rfl rfl (Nat.le_of_ble_eq_true rfl) d_B_sectorOf_5) (c_B_column hL S x1) ⟨rfl, rfl⟩ ⟨Nat.zero_le _, Nat.zero_le _⟩ ?_
  refine v_isub (pc := 8) C d_B_sectorOf_8 ?_
  refine v_lt (fun v1 => ?_)
  refine v_istore_n (pc := 9) (lv' := [(2, .int v1), (0, .int x0), (1, .int x1)]) C d_B_sectorOf_9 rfl (by decide) rfl ?_
  refine v_iload_n (pc := 10) C d_B_sectorOf_10 rfl 1 rfl ?_
  refine v_ct (pc := 11) (inv_S (As := [.int x0]) (st := []) C ml_B_359 ms_B_row ro_B_sectorOf_B_row rfl rfl (Nat.le_of_ble_eq_true rfl) d_B_sectorOf_11) (c_B_row hL S x0) ⟨rfl, rfl⟩ ⟨Nat.zero_le _, Nat.zero_le _⟩ ?_
  refine v_iload_n (pc := 14) C d_B_sectorOf_14 rfl 2 rfl ?_
  refine v_ct (pc := 15) (inv_S (As := [.int x1]) (st := [.int (r_B_row x0)]) C ml_B_359 ms_B_row ro_B_sectorOf_B_row rfl rfl (Nat.le_of_ble_eq_true rfl) d_B_sectorOf_15) (c_B_row hL S x1) ⟨rfl, rfl⟩ ⟨Nat.zero_le _, Nat.zero_le _⟩ ?_
  refine v_isub (pc := 18) C d_B_sectorOf_18 ?_
  refine v_lt (fun v2 => ?_)
  refine v_istore_n (pc := 19) (lv' := [(3, .int v2), (2, .int v1), (0, .int x0), (1, .int x1)]) C d_B_sectorOf_19 rfl (by decide) rfl ?_
  refine v_iload_n (pc := 20) C d_B_sectorOf_20 rfl 1 rfl ?_
  refine v_jn (fun j => VO g Y_B_sectorOf G (fun z => Qm g Y_B_sectorOf G (fp L S z)) 0 0 30 [(2, .int v1), (3, .int v2)] [] L S (j ()) some) (?_) (fun j30 hj30 => ?_)
  · refine v_iload_n (pc := 30) C d_B_sectorOf_30 rfl 1 rfl ?_
    refine v_jn (fun j => ∀ (v3 : Int32), VO g Y_B_sectorOf G (fun z => Qm g Y_B_sectorOf G (fp L S z)) 0 0 47 [(2, .int v1), (3, .int v2)] [.int v3] L S (j (v3)) some) (fun v3 => ?_) (fun j47 hj47 => ?_)
    · refine v_istore (pc := 47) (lv' := [(4, .int v3), (2, .int v1), (3, .int v2)]) C d_B_sectorOf_47 (by decide) rfl ?_
      refine v_iload (pc := 49) C d_B_sectorOf_49 0 rfl ?_
      refine v_if_eq (pc := 51) (tgt := 62) C d_B_sectorOf_51 rfl (fun _ => ?_) (fun _ => ?_)
      · refine v_iconst (pc := 62) C d_B_sectorOf_62 ic_4 ?_
        refine v_iload_n (pc := 63) C d_B_sectorOf_63 rfl 1 rfl ?_
        refine v_ineg (pc := 64) C d_B_sectorOf_64 ?_
        refine v_iload_n (pc := 65) C d_B_sectorOf_65 rfl 2 rfl ?_
        refine v_ineg (pc := 66) C d_B_sectorOf_66 ?_
        refine v_ct (pc := 67) (inv_S (As := [.int (-v1), .int (-v2)]) (st := [.int 4]) C ml_B_365 ms_B_upperSector ro_B_sectorOf_B_upperSector rfl rfl (Nat.le_of_ble_eq_true rfl) d_B_sectorOf_67) (c_B_upperSector hL S (-v1) (-v2)) ⟨rfl, rfl⟩ ⟨Nat.zero_le _, Nat.zero_le _⟩ ?_
        refine v_iadd (pc := 70) C d_B_sectorOf_70 ?_
        exact v_iret (z := (4 + (r_B_upperSector (-v1) (-v2)))) C d_B_sectorOf_71 rfl ⟨Nat.zero_le _, Nat.zero_le _⟩ (rfl) rfl
      · refine v_iload_n (pc := 54) C d_B_sectorOf_54 rfl 1 rfl ?_
        refine v_iload_n (pc := 55) C d_B_sectorOf_55 rfl 2 rfl ?_
        refine v_ct (pc := 56) (inv_S (As := [.int v1, .int v2]) (st := []) C ml_B_365 ms_B_upperSector ro_B_sectorOf_B_upperSector rfl rfl (Nat.le_of_ble_eq_true rfl) d_B_sectorOf_56) (c_B_upperSector hL S v1 v2) ⟨rfl, rfl⟩ ⟨Nat.zero_le _, Nat.zero_le _⟩ ?_
        refine v_goto (pc := 59) (tgt := 71) C d_B_sectorOf_59 rfl ?_
        exact v_iret (z := (r_B_upperSector v1 v2)) C d_B_sectorOf_71 rfl ⟨Nat.zero_le _, Nat.zero_le _⟩ (rfl) rfl
    · refine v_if_gt (pc := 31) (tgt := 42) C d_B_sectorOf_31 rfl (fun _ => ?_) (fun _ => ?_)
      · refine v_iconst (pc := 42) C d_B_sectorOf_42 ic_1 ?_
        refine v_goto (pc := 43) (tgt := 47) C d_B_sectorOf_43 rfl ?_
        exact hj47 1
      · refine v_iload_n (pc := 34) C d_B_sectorOf_34 rfl 1 rfl ?_
        refine v_if_ne (pc := 35) (tgt := 46) C d_B_sectorOf_35 rfl (fun _ => ?_) (fun _ => ?_)
        · refine v_iconst (pc := 46) C d_B_sectorOf_46 ic_0 ?_
          exact hj47 0
        · refine v_iload_n (pc := 38) C d_B_sectorOf_38 rfl 0 rfl ?_
          refine v_if_le (pc := 39) (tgt := 46) C d_B_sectorOf_39 rfl (fun _ => ?_) (fun _ => ?_)
          · refine v_iconst (pc := 46) C d_B_sectorOf_46 ic_0 ?_
            exact hj47 0
          · refine v_iconst (pc := 42) C d_B_sectorOf_42 ic_1 ?_
            refine v_goto (pc := 43) (tgt := 47) C d_B_sectorOf_43 rfl ?_
            exact hj47 1
  · refine v_if_ne (pc := 21) (tgt := 30) C d_B_sectorOf_21 rfl (fun _ => ?_) (fun _ => ?_)
    · refine v_sub [1, 0] rfl ?_
      exact hj30
    · refine v_iload_n (pc := 24) C d_B_sectorOf_24 rfl 0 rfl ?_
      refine v_if_ne (pc := 25) (tgt := 30) C d_B_sectorOf_25 rfl (fun _ => ?_) (fun _ => ?_)
      · refine v_sub [1, 0] rfl ?_
        exact hj30
      · refine v_iconst (pc := 28) C d_B_sectorOf_28 ic_m1 ?_
        exact v_iret (z := (-1)) C d_B_sectorOf_29 rfl ⟨Nat.zero_le _, Nat.zero_le _⟩ (rfl) rfl
