-- M_noise
theorem d_M_noise_0 : decode (mB Y_M_noise) 0 = .ok (.aload_n 0, 1) := by decide +kernel
theorem d_M_noise_1 : decode (mB Y_M_noise) 1 = .ok (.iconst 0, 1) := by decide +kernel
theorem d_M_noise_2 : decode (mB Y_M_noise) 2 = .ok (.putfield 150, 3) := by decide +kernel
theorem d_M_noise_5 : decode (mB Y_M_noise) 5 = .ok (.aload_n 0, 1) := by decide +kernel
theorem d_M_noise_6 : decode (mB Y_M_noise) 6 = .ok (.iload_n 1, 1) := by decide +kernel
theorem d_M_noise_7 : decode (mB Y_M_noise) 7 = .ok (.iconst 0, 1) := by decide +kernel
theorem d_M_noise_8 : decode (mB Y_M_noise) 8 = .ok (.sipush 9999, 3) := by decide +kernel
theorem d_M_noise_11 : decode (mB Y_M_noise) 11 = .ok (.invokevirtual 153, 3) := by decide +kernel
theorem d_M_noise_14 : decode (mB Y_M_noise) 14 = .ok (.ifCond .eq 47, 3) := by decide +kernel
theorem d_M_noise_17 : decode (mB Y_M_noise) 17 = .ok (.aload_n 0, 1) := by decide +kernel
theorem d_M_noise_18 : decode (mB Y_M_noise) 18 = .ok (.iload_n 2, 1) := by decide +kernel
theorem d_M_noise_19 : decode (mB Y_M_noise) 19 = .ok (.iconst 0, 1) := by decide +kernel
theorem d_M_noise_20 : decode (mB Y_M_noise) 20 = .ok (.sipush 999, 3) := by decide +kernel
theorem d_M_noise_23 : decode (mB Y_M_noise) 23 = .ok (.invokevirtual 153, 3) := by decide +kernel
theorem d_M_noise_26 : decode (mB Y_M_noise) 26 = .ok (.ifCond .eq 35, 3) := by decide +kernel
theorem d_M_noise_29 : decode (mB Y_M_noise) 29 = .ok (.aload_n 0, 1) := by decide +kernel
theorem d_M_noise_30 : decode (mB Y_M_noise) 30 = .ok (.iload_n 3, 1) := by decide +kernel
theorem d_M_noise_31 : decode (mB Y_M_noise) 31 = .ok (.iconst 0, 1) := by decide +kernel
theorem d_M_noise_32 : decode (mB Y_M_noise) 32 = .ok (.ldc_w 384, 3) := by decide +kernel
theorem d_M_noise_35 : decode (mB Y_M_noise) 35 = .ok (.invokevirtual 153, 3) := by decide +kernel
theorem d_M_noise_38 : decode (mB Y_M_noise) 38 = .ok (.ifCond .eq 23, 3) := by decide +kernel
theorem d_M_noise_41 : decode (mB Y_M_noise) 41 = .ok (.aload_n 0, 1) := by decide +kernel
theorem d_M_noise_42 : decode (mB Y_M_noise) 42 = .ok (.iload 4, 2) := by decide +kernel
theorem d_M_noise_44 : decode (mB Y_M_noise) 44 = .ok (.iconst 1, 1) := by decide +kernel
theorem d_M_noise_45 : decode (mB Y_M_noise) 45 = .ok (.iconst 3, 1) := by decide +kernel
theorem d_M_noise_46 : decode (mB Y_M_noise) 46 = .ok (.invokevirtual 153, 3) := by decide +kernel
theorem d_M_noise_49 : decode (mB Y_M_noise) 49 = .ok (.ifCond .eq 12, 3) := by decide +kernel
theorem d_M_noise_52 : decode (mB Y_M_noise) 52 = .ok (.aload_n 0, 1) := by decide +kernel
theorem d_M_noise_53 : decode (mB Y_M_noise) 53 = .ok (.getfield 426, 3) := by decide +kernel
theorem d_M_noise_56 : decode (mB Y_M_noise) 56 = .ok (.bipush 20, 2) := by decide +kernel
theorem d_M_noise_58 : decode (mB Y_M_noise) 58 = .ok (.if_icmp .ne 5, 3) := by decide +kernel
theorem d_M_noise_61 : decode (mB Y_M_noise) 61 = .ok (.iconst (-1), 1) := by decide +kernel
theorem d_M_noise_62 : decode (mB Y_M_noise) 62 = .ok (.ireturn, 1) := by decide +kernel
theorem d_M_noise_63 : decode (mB Y_M_noise) 63 = .ok (.aload_n 0, 1) := by decide +kernel
theorem d_M_noise_64 : decode (mB Y_M_noise) 64 = .ok (.getfield 126, 3) := by decide +kernel
theorem d_M_noise_67 : decode (mB Y_M_noise) 67 = .ok (.aload_n 0, 1) := by decide +kernel
theorem d_M_noise_68 : decode (mB Y_M_noise) 68 = .ok (.getfield 426, 3) := by decide +kernel
theorem d_M_noise_71 : decode (mB Y_M_noise) 71 = .ok (.iload_n 1, 1) := by decide +kernel
theorem d_M_noise_72 : decode (mB Y_M_noise) 72 = .ok (.iastore, 1) := by decide +kernel
theorem d_M_noise_73 : decode (mB Y_M_noise) 73 = .ok (.aload_n 0, 1) := by decide +kernel
theorem d_M_noise_74 : decode (mB Y_M_noise) 74 = .ok (.getfield 129, 3) := by decide +kernel
theorem d_M_noise_77 : decode (mB Y_M_noise) 77 = .ok (.aload_n 0, 1) := by decide +kernel
theorem d_M_noise_78 : decode (mB Y_M_noise) 78 = .ok (.getfield 426, 3) := by decide +kernel
theorem d_M_noise_81 : decode (mB Y_M_noise) 81 = .ok (.iload_n 2, 1) := by decide +kernel
theorem d_M_noise_82 : decode (mB Y_M_noise) 82 = .ok (.iastore, 1) := by decide +kernel
theorem d_M_noise_83 : decode (mB Y_M_noise) 83 = .ok (.aload_n 0, 1) := by decide +kernel
theorem d_M_noise_84 : decode (mB Y_M_noise) 84 = .ok (.getfield 132, 3) := by decide +kernel
theorem d_M_noise_87 : decode (mB Y_M_noise) 87 = .ok (.aload_n 0, 1) := by decide +kernel
theorem d_M_noise_88 : decode (mB Y_M_noise) 88 = .ok (.getfield 426, 3) := by decide +kernel
theorem d_M_noise_91 : decode (mB Y_M_noise) 91 = .ok (.iload_n 3, 1) := by decide +kernel
theorem d_M_noise_92 : decode (mB Y_M_noise) 92 = .ok (.iastore, 1) := by decide +kernel
theorem d_M_noise_93 : decode (mB Y_M_noise) 93 = .ok (.aload_n 0, 1) := by decide +kernel
theorem d_M_noise_94 : decode (mB Y_M_noise) 94 = .ok (.getfield 135, 3) := by decide +kernel
theorem d_M_noise_97 : decode (mB Y_M_noise) 97 = .ok (.aload_n 0, 1) := by decide +kernel
theorem d_M_noise_98 : decode (mB Y_M_noise) 98 = .ok (.getfield 426, 3) := by decide +kernel
theorem d_M_noise_101 : decode (mB Y_M_noise) 101 = .ok (.iload 4, 2) := by decide +kernel
theorem d_M_noise_103 : decode (mB Y_M_noise) 103 = .ok (.iastore, 1) := by decide +kernel
theorem d_M_noise_104 : decode (mB Y_M_noise) 104 = .ok (.aload_n 0, 1) := by decide +kernel
theorem d_M_noise_105 : decode (mB Y_M_noise) 105 = .ok (.aload_n 0, 1) := by decide +kernel
theorem d_M_noise_106 : decode (mB Y_M_noise) 106 = .ok (.getfield 426, 3) := by decide +kernel
theorem d_M_noise_109 : decode (mB Y_M_noise) 109 = .ok (.iconst 1, 1) := by decide +kernel
theorem d_M_noise_110 : decode (mB Y_M_noise) 110 = .ok (.iadd, 1) := by decide +kernel
theorem d_M_noise_111 : decode (mB Y_M_noise) 111 = .ok (.putfield 426, 3) := by decide +kernel
theorem d_M_noise_114 : decode (mB Y_M_noise) 114 = .ok (.aload_n 0, 1) := by decide +kernel
theorem d_M_noise_115 : decode (mB Y_M_noise) 115 = .ok (.getfield 426, 3) := by decide +kernel
theorem d_M_noise_118 : decode (mB Y_M_noise) 118 = .ok (.iconst 1, 1) := by decide +kernel
theorem d_M_noise_119 : decode (mB Y_M_noise) 119 = .ok (.isub, 1) := by decide +kernel
theorem d_M_noise_120 : decode (mB Y_M_noise) 120 = .ok (.ireturn, 1) := by decide +kernel
theorem ro_M_noise_M_isIn : roomy Y_M_noise Y_M_isIn := ⟨Nat.le_of_ble_eq_true rfl, Nat.le_of_ble_eq_true rfl⟩
def r_M_noise (x1 : Int32) (x2 : Int32) (x3 : Int32) (x4 : Int32) (S : Sto) : Option (Int32 × Sto) :=
  ltS (sw S 104 0 0) (fun S1 =>
  if (r_M_isIn x1 0 9999) = 0 then
    some ((-1), S1)
  else
    if (r_M_isIn x2 0 999) = 0 then
      some ((-1), S1)
    else
      if (r_M_isIn x3 0 199999) = 0 then
        some ((-1), S1)
      else
        if (r_M_isIn x4 1 3) = 0 then
          some ((-1), S1)
        else
          if (S1 104 65) = 20 then
            some ((-1), S1)
          else
            chk (inr (S1 104 65) 20) (
            ltS (sw S1 140 ((S1 104 65).toNatClampNeg) x1) (fun S2 =>
            chk (inr (S2 104 65) 20) (
            ltS (sw S2 141 ((S2 104 65).toNatClampNeg) x2) (fun S3 =>
            chk (inr (S3 104 65) 20) (
            ltS (sw S3 142 ((S3 104 65).toNatClampNeg) x3) (fun S4 =>
            chk (inr (S4 104 65) 20) (
            ltS (sw S4 143 ((S4 104 65).toNatClampNeg) x4) (fun S5 =>
            ltS (sw S5 104 65 ((S5 104 65) + 1)) (fun S6 =>
            some ((S6 104 65) - 1, S6)))))))))))
set_option maxHeartbeats 4000000 in
set_option maxRecDepth 20000 in
theorem c_M_noise {G : Gl} {L : Shp} (hL : Ext L) (S : Sto) (x1 : Int32) (x2 : Int32) (x3 : Int32) (x4 : Int32)  : Ct Y_M_noise G [rf G 104, .int x1, .int x2, .int x3, .int x4] L S (fi L) (r_M_noise x1 x2 x3 x4 S) := by
  refine ct_of (by decide +kernel) (Nat.le_of_ble_eq_true rfl) (fun g C => ?_)
  show VO g Y_M_noise G (fun z => Qm g Y_M_noise G (fi L z)) 0 0 0 [(0, rf G 104), (1, .int x1), (2, .int x2), (3, .int x3), (4, .int x4)] [] L S (r_M_noise x1 x2 x3 x4 S) some
  unfold r_M_noise
  refine v_aload_n (pc := 0) C d_M_noise_0 rfl 0 rfl ?_
  refine v_iconst (pc := 1) C d_M_noise_1 ic_0 ?_
  refine v_putI (pc := 2) C fp_M_150 (sh_104 hL) rfl d_M_noise_2 (fun S1 => ?_)
  refine v_aload_n (pc := 5) C d_M_noise_5 rfl 0 rfl ?_
  refine v_iload_n (pc := 6) C d_M_noise_6 rfl 1 rfl ?_
  refine v_iconst (pc := 7) C d_M_noise_7 ic_0 ?_
  refine v_sipush (pc := 8) C d_M_noise_8 sp_9999 ?_
  refine v_ct (pc := 11) (inv_V (As := [.int x1, .int 0, .int 9999]) (st := []) C ml_M_153 mv_M_isIn ro_M_noise_M_isIn (sh_104 hL) rfl rfl rfl rfl (Nat.le_of_ble_eq_true rfl) d_M_noise_11) (c_M_isIn hL S1 x1 0 9999) ⟨rfl, rfl⟩ ⟨Nat.zero_le _, Nat.zero_le _⟩ ?_
  refine v_if_eq (pc := 14) (tgt := 61) C d_M_noise_14 rfl (fun _ => ?_) (fun _ => ?_)
  · refine v_iconst (pc := 61) C d_M_noise_61 ic_m1 ?_
    exact v_iret (z := ((-1), S1)) C d_M_noise_62 rfl ⟨Nat.zero_le _, Nat.zero_le _⟩ (rfl) rfl
  · refine v_aload_n (pc := 17) C d_M_noise_17 rfl 0 rfl ?_
    refine v_iload_n (pc := 18) C d_M_noise_18 rfl 2 rfl ?_
    refine v_iconst (pc := 19) C d_M_noise_19 ic_0 ?_
    refine v_sipush (pc := 20) C d_M_noise_20 sp_999 ?_
    refine v_ct (pc := 23) (inv_V (As := [.int x2, .int 0, .int 999]) (st := []) C ml_M_153 mv_M_isIn ro_M_noise_M_isIn (sh_104 hL) rfl rfl rfl rfl (Nat.le_of_ble_eq_true rfl) d_M_noise_23) (c_M_isIn hL S1 x2 0 999) ⟨rfl, rfl⟩ ⟨Nat.zero_le _, Nat.zero_le _⟩ ?_
    refine v_if_eq (pc := 26) (tgt := 61) C d_M_noise_26 rfl (fun _ => ?_) (fun _ => ?_)
    · refine v_iconst (pc := 61) C d_M_noise_61 ic_m1 ?_
      exact v_iret (z := ((-1), S1)) C d_M_noise_62 rfl ⟨Nat.zero_le _, Nat.zero_le _⟩ (rfl) rfl
    · refine v_aload_n (pc := 29) C d_M_noise_29 rfl 0 rfl ?_
      refine v_iload_n (pc := 30) C d_M_noise_30 rfl 3 rfl ?_
      refine v_iconst (pc := 31) C d_M_noise_31 ic_0 ?_
      refine v_ldc_w (pc := 32) C d_M_noise_32 kc_M_384 ?_
      refine v_ct (pc := 35) (inv_V (As := [.int x3, .int 0, .int 199999]) (st := []) C ml_M_153 mv_M_isIn ro_M_noise_M_isIn (sh_104 hL) rfl rfl rfl rfl (Nat.le_of_ble_eq_true rfl) d_M_noise_35) (c_M_isIn hL S1 x3 0 199999) ⟨rfl, rfl⟩ ⟨Nat.zero_le _, Nat.zero_le _⟩ ?_
      refine v_if_eq (pc := 38) (tgt := 61) C d_M_noise_38 rfl (fun _ => ?_) (fun _ => ?_)
      · refine v_iconst (pc := 61) C d_M_noise_61 ic_m1 ?_
        exact v_iret (z := ((-1), S1)) C d_M_noise_62 rfl ⟨Nat.zero_le _, Nat.zero_le _⟩ (rfl) rfl
      · refine v_aload_n (pc := 41) C d_M_noise_41 rfl 0 rfl ?_
        refine v_iload (pc := 42) C d_M_noise_42 4 rfl ?_
        refine v_iconst (pc := 44) C d_M_noise_44 ic_1 ?_
        refine v_iconst (pc := 45) C d_M_noise_45 ic_3 ?_
        refine v_ct (pc := 46) (inv_V (As := [.int x4, .int 1, .int 3]) (st := []) C ml_M_153 mv_M_isIn ro_M_noise_M_isIn (sh_104 hL) rfl rfl rfl rfl (Nat.le_of_ble_eq_true rfl) d_M_noise_46) (c_M_isIn hL S1 x4 1 3) ⟨rfl, rfl⟩ ⟨Nat.zero_le _, Nat.zero_le _⟩ ?_
        refine v_if_eq (pc := 49) (tgt := 61) C d_M_noise_49 rfl (fun _ => ?_) (fun _ => ?_)
        · refine v_iconst (pc := 61) C d_M_noise_61 ic_m1 ?_
          exact v_iret (z := ((-1), S1)) C d_M_noise_62 rfl ⟨Nat.zero_le _, Nat.zero_le _⟩ (rfl) rfl
        · refine v_aload_n (pc := 52) C d_M_noise_52 rfl 0 rfl ?_
          refine v_getI (pc := 53) C fl_M_426 (sh_104 hL) rfl d_M_noise_53 ?_
          refine v_bipush (pc := 56) C d_M_noise_56 bp_20 ?_
          refine v_icmp_ne (pc := 58) (tgt := 63) C d_M_noise_58 rfl (fun _ => ?_) (fun _ => ?_)
          · refine v_aload_n (pc := 63) C d_M_noise_63 rfl 0 rfl ?_
            refine v_getR (pc := 64) C fl_M_126 (sh_104 hL) rfl d_M_noise_64 ?_
            refine v_aload_n (pc := 67) C d_M_noise_67 rfl 0 rfl ?_
            refine v_getI (pc := 68) C fl_M_426 (sh_104 hL) rfl d_M_noise_68 ?_
            refine v_iload_n (pc := 71) C d_M_noise_71 rfl 1 rfl ?_
            refine v_iast (pc := 72) C (sh_140 hL) d_M_noise_72 (fun _ S2 => ?_)
            refine v_aload_n (pc := 73) C d_M_noise_73 rfl 0 rfl ?_
            refine v_getR (pc := 74) C fl_M_129 (sh_104 hL) rfl d_M_noise_74 ?_
            refine v_aload_n (pc := 77) C d_M_noise_77 rfl 0 rfl ?_
            refine v_getI (pc := 78) C fl_M_426 (sh_104 hL) rfl d_M_noise_78 ?_
            refine v_iload_n (pc := 81) C d_M_noise_81 rfl 2 rfl ?_
            refine v_iast (pc := 82) C (sh_141 hL) d_M_noise_82 (fun _ S3 => ?_)
            refine v_aload_n (pc := 83) C d_M_noise_83 rfl 0 rfl ?_
            refine v_getR (pc := 84) C fl_M_132 (sh_104 hL) rfl d_M_noise_84 ?_
            refine v_aload_n (pc := 87) C d_M_noise_87 rfl 0 rfl ?_
            refine v_getI (pc := 88) C fl_M_426 (sh_104 hL) rfl d_M_noise_88 ?_
            refine v_iload_n (pc := 91) C d_M_noise_91 rfl 3 rfl ?_
            refine v_iast (pc := 92) C (sh_142 hL) d_M_noise_92 (fun _ S4 => ?_)
            refine v_aload_n (pc := 93) C d_M_noise_93 rfl 0 rfl ?_
            refine v_getR (pc := 94) C fl_M_135 (sh_104 hL) rfl d_M_noise_94 ?_
            refine v_aload_n (pc := 97) C d_M_noise_97 rfl 0 rfl ?_
            refine v_getI (pc := 98) C fl_M_426 (sh_104 hL) rfl d_M_noise_98 ?_
            refine v_iload (pc := 101) C d_M_noise_101 4 rfl ?_
            refine v_iast (pc := 103) C (sh_143 hL) d_M_noise_103 (fun _ S5 => ?_)
            refine v_aload_n (pc := 104) C d_M_noise_104 rfl 0 rfl ?_
            refine v_aload_n (pc := 105) C d_M_noise_105 rfl 0 rfl ?_
            refine v_getI (pc := 106) C fl_M_426 (sh_104 hL) rfl d_M_noise_106 ?_
            refine v_iconst (pc := 109) C d_M_noise_109 ic_1 ?_
            refine v_iadd (pc := 110) C d_M_noise_110 ?_
            refine v_putI (pc := 111) C fp_M_426 (sh_104 hL) rfl d_M_noise_111 (fun S6 => ?_)
            refine v_aload_n (pc := 114) C d_M_noise_114 rfl 0 rfl ?_
            refine v_getI (pc := 115) C fl_M_426 (sh_104 hL) rfl d_M_noise_115 ?_
            refine v_iconst (pc := 118) C d_M_noise_118 ic_1 ?_
            refine v_isub (pc := 119) C d_M_noise_119 ?_
            exact v_iret (z := ((S6 104 65) - 1, S6)) C d_M_noise_120 rfl ⟨Nat.zero_le _, Nat.zero_le _⟩ (rfl) rfl
          · refine v_iconst (pc := 61) C d_M_noise_61 ic_m1 ?_
            exact v_iret (z := ((-1), S1)) C d_M_noise_62 rfl ⟨Nat.zero_le _, Nat.zero_le _⟩ (rfl) rfl
-- M_soundsLike
theorem d_M_soundsLike_0 : decode (mB Y_M_soundsLike) 0 = .ok (.aload_n 0, 1) := by decide +kernel
theorem d_M_soundsLike_1 : decode (mB Y_M_soundsLike) 1 = .ok (.getfield 87, 3) := by decide +kernel
theorem d_M_soundsLike_4 : decode (mB Y_M_soundsLike) 4 = .ok (.bipush 6, 2) := by decide +kernel
theorem d_M_soundsLike_6 : decode (mB Y_M_soundsLike) 6 = .ok (.aload_n 0, 1) := by decide +kernel
theorem d_M_soundsLike_7 : decode (mB Y_M_soundsLike) 7 = .ok (.getfield 126, 3) := by decide +kernel
theorem d_M_soundsLike_10 : decode (mB Y_M_soundsLike) 10 = .ok (.iload_n 1, 1) := by decide +kernel
theorem d_M_soundsLike_11 : decode (mB Y_M_soundsLike) 11 = .ok (.iaload, 1) := by decide +kernel
theorem d_M_soundsLike_12 : decode (mB Y_M_soundsLike) 12 = .ok (.iastore, 1) := by decide +kernel
theorem d_M_soundsLike_13 : decode (mB Y_M_soundsLike) 13 = .ok (.aload_n 0, 1) := by decide +kernel
theorem d_M_soundsLike_14 : decode (mB Y_M_soundsLike) 14 = .ok (.getfield 87, 3) := by decide +kernel
theorem d_M_soundsLike_17 : decode (mB Y_M_soundsLike) 17 = .ok (.bipush 7, 2) := by decide +kernel
theorem d_M_soundsLike_19 : decode (mB Y_M_soundsLike) 19 = .ok (.aload_n 0, 1) := by decide +kernel
theorem d_M_soundsLike_20 : decode (mB Y_M_soundsLike) 20 = .ok (.getfield 129, 3) := by decide +kernel
theorem d_M_soundsLike_23 : decode (mB Y_M_soundsLike) 23 = .ok (.iload_n 1, 1) := by decide +kernel
theorem d_M_soundsLike_24 : decode (mB Y_M_soundsLike) 24 = .ok (.iaload, 1) := by decide +kernel
theorem d_M_soundsLike_25 : decode (mB Y_M_soundsLike) 25 = .ok (.iastore, 1) := by decide +kernel
theorem d_M_soundsLike_26 : decode (mB Y_M_soundsLike) 26 = .ok (.aload_n 0, 1) := by decide +kernel
theorem d_M_soundsLike_27 : decode (mB Y_M_soundsLike) 27 = .ok (.getfield 87, 3) := by decide +kernel
theorem d_M_soundsLike_30 : decode (mB Y_M_soundsLike) 30 = .ok (.bipush 8, 2) := by decide +kernel
theorem d_M_soundsLike_32 : decode (mB Y_M_soundsLike) 32 = .ok (.sipush 9999, 3) := by decide +kernel
theorem d_M_soundsLike_35 : decode (mB Y_M_soundsLike) 35 = .ok (.iastore, 1) := by decide +kernel
theorem d_M_soundsLike_36 : decode (mB Y_M_soundsLike) 36 = .ok (.aload_n 0, 1) := by decide +kernel
theorem d_M_soundsLike_37 : decode (mB Y_M_soundsLike) 37 = .ok (.getfield 87, 3) := by decide +kernel
theorem d_M_soundsLike_40 : decode (mB Y_M_soundsLike) 40 = .ok (.bipush 9, 2) := by decide +kernel
theorem d_M_soundsLike_42 : decode (mB Y_M_soundsLike) 42 = .ok (.sipush 9999, 3) := by decide +kernel
theorem d_M_soundsLike_45 : decode (mB Y_M_soundsLike) 45 = .ok (.iastore, 1) := by decide +kernel
theorem d_M_soundsLike_46 : decode (mB Y_M_soundsLike) 46 = .ok (.iconst 0, 1) := by decide +kernel
theorem d_M_soundsLike_47 : decode (mB Y_M_soundsLike) 47 = .ok (.istore_n 2, 1) := by decide +kernel
theorem d_M_soundsLike_48 : decode (mB Y_M_soundsLike) 48 = .ok (.iload_n 2, 1) := by decide +kernel
theorem d_M_soundsLike_49 : decode (mB Y_M_soundsLike) 49 = .ok (.aload_n 0, 1) := by decide +kernel
theorem d_M_soundsLike_50 : decode (mB Y_M_soundsLike) 50 = .ok (.getfield 426, 3) := by decide +kernel
theorem d_M_soundsLike_53 : decode (mB Y_M_soundsLike) 53 = .ok (.if_icmp .ge 111, 3) := by decide +kernel
theorem d_M_soundsLike_56 : decode (mB Y_M_soundsLike) 56 = .ok (.iload_n 2, 1) := by decide +kernel
theorem d_M_soundsLike_57 : decode (mB Y_M_soundsLike) 57 = .ok (.iload_n 1, 1) := by decide +kernel
theorem d_M_soundsLike_58 : decode (mB Y_M_soundsLike) 58 = .ok (.if_icmp .ne 6, 3) := by decide +kernel
theorem d_M_soundsLike_61 : decode (mB Y_M_soundsLike) 61 = .ok (.goto 97, 3) := by decide +kernel
theorem d_M_soundsLike_64 : decode (mB Y_M_soundsLike) 64 = .ok (.aload_n 0, 1) := by decide +kernel
theorem d_M_soundsLike_65 : decode (mB Y_M_soundsLike) 65 = .ok (.getfield 132, 3) := by decide +kernel
theorem d_M_soundsLike_68 : decode (mB Y_M_soundsLike) 68 = .ok (.iload_n 2, 1) := by decide +kernel
theorem d_M_soundsLike_69 : decode (mB Y_M_soundsLike) 69 = .ok (.iaload, 1) := by decide +kernel
theorem d_M_soundsLike_70 : decode (mB Y_M_soundsLike) 70 = .ok (.aload_n 0, 1) := by decide +kernel
theorem d_M_soundsLike_71 : decode (mB Y_M_soundsLike) 71 = .ok (.getfield 132, 3) := by decide +kernel
theorem d_M_soundsLike_74 : decode (mB Y_M_soundsLike) 74 = .ok (.iload_n 1, 1) := by decide +kernel
theorem d_M_soundsLike_75 : decode (mB Y_M_soundsLike) 75 = .ok (.iaload, 1) := by decide +kernel
theorem d_M_soundsLike_76 : decode (mB Y_M_soundsLike) 76 = .ok (.if_icmp .lt 23, 3) := by decide +kernel
theorem d_M_soundsLike_79 : decode (mB Y_M_soundsLike) 79 = .ok (.aload_n 0, 1) := by decide +kernel
theorem d_M_soundsLike_80 : decode (mB Y_M_soundsLike) 80 = .ok (.getfield 132, 3) := by decide +kernel
theorem d_M_soundsLike_83 : decode (mB Y_M_soundsLike) 83 = .ok (.iload_n 2, 1) := by decide +kernel
theorem d_M_soundsLike_84 : decode (mB Y_M_soundsLike) 84 = .ok (.iaload, 1) := by decide +kernel
theorem d_M_soundsLike_85 : decode (mB Y_M_soundsLike) 85 = .ok (.aload_n 0, 1) := by decide +kernel
theorem d_M_soundsLike_86 : decode (mB Y_M_soundsLike) 86 = .ok (.getfield 132, 3) := by decide +kernel
theorem d_M_soundsLike_89 : decode (mB Y_M_soundsLike) 89 = .ok (.iload_n 1, 1) := by decide +kernel
theorem d_M_soundsLike_90 : decode (mB Y_M_soundsLike) 90 = .ok (.iaload, 1) := by decide +kernel
theorem d_M_soundsLike_91 : decode (mB Y_M_soundsLike) 91 = .ok (.if_icmp .ne 12, 3) := by decide +kernel
theorem d_M_soundsLike_94 : decode (mB Y_M_soundsLike) 94 = .ok (.iload_n 2, 1) := by decide +kernel
theorem d_M_soundsLike_95 : decode (mB Y_M_soundsLike) 95 = .ok (.iload_n 1, 1) := by decide +kernel
theorem d_M_soundsLike_96 : decode (mB Y_M_soundsLike) 96 = .ok (.if_icmp .ge 7, 3) := by decide +kernel
theorem d_M_soundsLike_99 : decode (mB Y_M_soundsLike) 99 = .ok (.iconst 1, 1) := by decide +kernel
theorem d_M_soundsLike_100 : decode (mB Y_M_soundsLike) 100 = .ok (.goto 4, 3) := by decide +kernel
theorem d_M_soundsLike_103 : decode (mB Y_M_soundsLike) 103 = .ok (.iconst 0, 1) := by decide +kernel
theorem d_M_soundsLike_104 : decode (mB Y_M_soundsLike) 104 = .ok (.istore_n 3, 1) := by decide +kernel
theorem d_M_soundsLike_105 : decode (mB Y_M_soundsLike) 105 = .ok (.aload_n 0, 1) := by decide +kernel
theorem d_M_soundsLike_106 : decode (mB Y_M_soundsLike) 106 = .ok (.aload_n 0, 1) := by decide +kernel
theorem d_M_soundsLike_107 : decode (mB Y_M_soundsLike) 107 = .ok (.getfield 132, 3) := by decide +kernel
theorem d_M_soundsLike_110 : decode (mB Y_M_soundsLike) 110 = .ok (.iload_n 2, 1) := by decide +kernel
theorem d_M_soundsLike_111 : decode (mB Y_M_soundsLike) 111 = .ok (.iaload, 1) := by decide +kernel
theorem d_M_soundsLike_112 : decode (mB Y_M_soundsLike) 112 = .ok (.aload_n 0, 1) := by decide +kernel
theorem d_M_soundsLike_113 : decode (mB Y_M_soundsLike) 113 = .ok (.getfield 132, 3) := by decide +kernel
theorem d_M_soundsLike_116 : decode (mB Y_M_soundsLike) 116 = .ok (.iload_n 1, 1) := by decide +kernel
theorem d_M_soundsLike_117 : decode (mB Y_M_soundsLike) 117 = .ok (.iaload, 1) := by decide +kernel
theorem d_M_soundsLike_118 : decode (mB Y_M_soundsLike) 118 = .ok (.isub, 1) := by decide +kernel
theorem d_M_soundsLike_119 : decode (mB Y_M_soundsLike) 119 = .ok (.invokevirtual 215, 3) := by decide +kernel
theorem d_M_soundsLike_122 : decode (mB Y_M_soundsLike) 122 = .ok (.istore 4, 2) := by decide +kernel
theorem d_M_soundsLike_124 : decode (mB Y_M_soundsLike) 124 = .ok (.iload_n 3, 1) := by decide +kernel
theorem d_M_soundsLike_125 : decode (mB Y_M_soundsLike) 125 = .ok (.ifCond .eq 8, 3) := by decide +kernel
theorem d_M_soundsLike_128 : decode (mB Y_M_soundsLike) 128 = .ok (.bipush 8, 2) := by decide +kernel
theorem d_M_soundsLike_130 : decode (mB Y_M_soundsLike) 130 = .ok (.goto 5, 3) := by decide +kernel
theorem d_M_soundsLike_133 : decode (mB Y_M_soundsLike) 133 = .ok (.bipush 9, 2) := by decide +kernel
theorem d_M_soundsLike_135 : decode (mB Y_M_soundsLike) 135 = .ok (.istore 5, 2) := by decide +kernel
theorem d_M_soundsLike_137 : decode (mB Y_M_soundsLike) 137 = .ok (.iload 4, 2) := by decide +kernel
theorem d_M_soundsLike_139 : decode (mB Y_M_soundsLike) 139 = .ok (.aload_n 0, 1) := by decide +kernel
theorem d_M_soundsLike_140 : decode (mB Y_M_soundsLike) 140 = .ok (.getfield 87, 3) := by decide +kernel
theorem d_M_soundsLike_143 : decode (mB Y_M_soundsLike) 143 = .ok (.iload 5, 2) := by decide +kernel
theorem d_M_soundsLike_145 : decode (mB Y_M_soundsLike) 145 = .ok (.iaload, 1) := by decide +kernel
theorem d_M_soundsLike_146 : decode (mB Y_M_soundsLike) 146 = .ok (.if_icmp .ge 12, 3) := by decide +kernel
theorem d_M_soundsLike_149 : decode (mB Y_M_soundsLike) 149 = .ok (.aload_n 0, 1) := by decide +kernel
theorem d_M_soundsLike_150 : decode (mB Y_M_soundsLike) 150 = .ok (.getfield 87, 3) := by decide +kernel
theorem d_M_soundsLike_153 : decode (mB Y_M_soundsLike) 153 = .ok (.iload 5, 2) := by decide +kernel
theorem d_M_soundsLike_155 : decode (mB Y_M_soundsLike) 155 = .ok (.iload 4, 2) := by decide +kernel
theorem d_M_soundsLike_157 : decode (mB Y_M_soundsLike) 157 = .ok (.iastore, 1) := by decide +kernel
theorem d_M_soundsLike_158 : decode (mB Y_M_soundsLike) 158 = .ok (.iinc 2 1, 3) := by decide +kernel
theorem d_M_soundsLike_161 : decode (mB Y_M_soundsLike) 161 = .ok (.goto (-113), 3) := by decide +kernel
theorem d_M_soundsLike_164 : decode (mB Y_M_soundsLike) 164 = .ok (.aload_n 0, 1) := by decide +kernel
theorem d_M_soundsLike_165 : decode (mB Y_M_soundsLike) 165 = .ok (.iconst 4, 1) := by decide +kernel
theorem d_M_soundsLike_166 : decode (mB Y_M_soundsLike) 166 = .ok (.invokevirtual 365, 3) := by decide +kernel
theorem d_M_soundsLike_169 : decode (mB Y_M_soundsLike) 169 = .ok (.istore_n 2, 1) := by decide +kernel
theorem d_M_soundsLike_170 : decode (mB Y_M_soundsLike) 170 = .ok (.iload_n 2, 1) := by decide +kernel
theorem d_M_soundsLike_171 : decode (mB Y_M_soundsLike) 171 = .ok (.iconst (-1), 1) := by decide +kernel
theorem d_M_soundsLike_172 : decode (mB Y_M_soundsLike) 172 = .ok (.if_icmp .ne 7, 3) := by decide +kernel
theorem d_M_soundsLike_175 : decode (mB Y_M_soundsLike) 175 = .ok (.iconst 0, 1) := by decide +kernel
theorem d_M_soundsLike_176 : decode (mB Y_M_soundsLike) 176 = .ok (.goto 9, 3) := by decide +kernel
theorem d_M_soundsLike_179 : decode (mB Y_M_soundsLike) 179 = .ok (.iload_n 2, 1) := by decide +kernel
theorem d_M_soundsLike_180 : decode (mB Y_M_soundsLike) 180 = .ok (.bipush 12, 2) := by decide +kernel
theorem d_M_soundsLike_182 : decode (mB Y_M_soundsLike) 182 = .ok (.isub, 1) := by decide +kernel
theorem d_M_soundsLike_183 : decode (mB Y_M_soundsLike) 183 = .ok (.iconst 1, 1) := by decide +kernel
theorem d_M_soundsLike_184 : decode (mB Y_M_soundsLike) 184 = .ok (.iadd, 1) := by decide +kernel
theorem d_M_soundsLike_185 : decode (mB Y_M_soundsLike) 185 = .ok (.ireturn, 1) := by decide +kernel
theorem ro_M_soundsLike_M_firstSo : roomy Y_M_soundsLike Y_M_firstSo := ⟨Nat.le_of_ble_eq_true rfl, Nat.le_of_ble_eq_true rfl⟩
theorem ro_M_soundsLike_M_size : roomy Y_M_soundsLike Y_M_size := ⟨Nat.le_of_ble_eq_true rfl, Nat.le_of_ble_eq_true rfl⟩
def r_M_soundsLike_L48 (y1_ : Int32) : Nat → Int32 → Sto → Option (Int32 × Sto)
  | 0, _, _ => none
  | n + 1, x2_, S =>
    if (S 104 65) ≤ x2_ then
      some (x2_, S)
    else
      jn (fun (S1 : Sto) =>
        lt (x2_ + 1) (fun v2 =>
        r_M_soundsLike_L48 y1_ n v2 S1)) (fun j158 =>
      if x2_ = y1_ then
        j158 (S)
      else
        chk (inr x2_ 20) (
        chk (inr y1_ 20) (
        jn (fun (v3 : Int32) =>
          chk (inr x2_ 20) (
          chk (inr y1_ 20) (
          lt (r_M_size ((S 142 x2_.toNatClampNeg) - (S 142 y1_.toNatClampNeg))) (fun v4 =>
          jn (fun (v5 : Int32) =>
            chk (inr v5 10) (
            if (S 127 v5.toNatClampNeg) ≤ v4 then
              j158 (S)
            else
              chk (inr v5 10) (
              ltS (sw S 127 v5.toNatClampNeg v4) (fun S6 =>
              j158 (S6))))) (fun j135 =>
          if v3 = 0 then
            j135 (9)
          else
            j135 (8)))))) (fun j104 =>
        if (S 142 x2_.toNatClampNeg) < (S 142 y1_.toNatClampNeg) then
          j104 (1)
        else
          chk (inr x2_ 20) (
          chk (inr y1_ 20) (
          if (S 142 x2_.toNatClampNeg) = (S 142 y1_.toNatClampNeg) then
            if y1_ ≤ x2_ then
              j104 (0)
            else
              j104 (1)
          else
            j104 (0)))))))
set_option maxHeartbeats 4000000 in
set_option maxRecDepth 20000 in
theorem w_M_soundsLike_L48 {g : Gm} {G : Gl} {L : Shp} (C : Cx g Y_M_soundsLike G) (hL : Ext L) (y1_ : Int32)  :
    ∀ (n : Nat) (x2_ : Int32) (S : Sto) (K : (Int32 × Sto) → Option (Int32 × Sto)), (∀ (x2_ : Int32) (S : Sto), VO g Y_M_soundsLike G (fun z => Qm g Y_M_soundsLike G (fi L z)) 0 0 164 [(0, rf G 104)] [] L S (some (x2_, S)) K) → VO g Y_M_soundsLike G (fun z => Qm g Y_M_soundsLike G (fi L z)) 0 0 48 [(0, rf G 104), (1, .int y1_), (2, .int x2_)] [] L S (r_M_soundsLike_L48 y1_ n x2_ S) K := by
  intro n
  induction n with
  | zero => intro x2_ S K; intros; exact v_none
  | succ n ih =>
    intro x2_ S K hK
    rw [r_M_soundsLike_L48]
    refine v_iload_n (pc := 48) C d_M_soundsLike_48 rfl 2 rfl ?_
    refine v_aload_n (pc := 49) C d_M_soundsLike_49 rfl 0 rfl ?_
    refine v_getI (pc := 50) C fl_M_426 (sh_104 hL) rfl d_M_soundsLike_50 ?_
    refine v_icmp_ge (pc := 53) (tgt := 164) C d_M_soundsLike_53 rfl (fun _ => ?_) (fun _ => ?_)
    · refine v_sub [0] rfl ?_
      exact hK x2_ S
    · refine v_iload_n (pc := 56) C d_M_soundsLike_56 rfl 2 rfl ?_
      refine v_iload_n (pc := 57) C d_M_soundsLike_57 rfl 1 rfl ?_
      refine v_jn (fun j => ∀ (S1 : Sto), VO g Y_M_soundsLike G (fun z => Qm g Y_M_soundsLike G (fi L z)) 0 0 158 [(0, rf G 104), (1, .int y1_), (2, .int x2_)] [] L S1 (j (S1)) K) (fun S1 => ?_) (fun j158 hj158 => ?_)
      · refine v_iinc (pc := 158) (p := 2) (c := 1) C d_M_soundsLike_158 rfl (by decide) (by decide) (fun v2 => [(2, .int v2), (0, rf G 104), (1, .int y1_)]) (fun _ => rfl) (fun v2 => ?_)
        refine v_goto (pc := 161) (tgt := 48) C d_M_soundsLike_161 rfl ?_
        refine v_sub [1, 2, 0] rfl ?_
        exact ih v2 S1 K hK
      · refine v_icmp_ne (pc := 58) (tgt := 64) C d_M_soundsLike_58 rfl (fun _ => ?_) (fun _ => ?_)
        · refine v_aload_n (pc := 64) C d_M_soundsLike_64 rfl 0 rfl ?_
          refine v_getR (pc := 65) C fl_M_132 (sh_104 hL) rfl d_M_soundsLike_65 ?_
          refine v_iload_n (pc := 68) C d_M_soundsLike_68 rfl 2 rfl ?_
          refine v_iald (pc := 69) C (sh_142 hL) d_M_soundsLike_69 (fun _ => ?_)
          refine v_aload_n (pc := 70) C d_M_soundsLike_70 rfl 0 rfl ?_
          refine v_getR (pc := 71) C fl_M_132 (sh_104 hL) rfl d_M_soundsLike_71 ?_
          refine v_iload_n (pc := 74) C d_M_soundsLike_74 rfl 1 rfl ?_
          refine v_iald (pc := 75) C (sh_142 hL) d_M_soundsLike_75 (fun _ => ?_)
          refine v_jn (fun j => ∀ (v3 : Int32), VO g Y_M_soundsLike G (fun z => Qm g Y_M_soundsLike G (fi L z)) 0 0 104 [(0, rf G 104), (1, .int y1_), (2, .int x2_)] [.int v3] L S (j (v3)) K) (fun v3 => ?_) (fun j104 hj104 => ?_)
          · refine v_istore_n (pc := 104) (lv' := [(3, .int v3), (0, rf G 104), (1, .int y1_), (2, .int x2_)]) C d_M_soundsLike_104 rfl (by decide) rfl ?_
            refine v_aload_n (pc := 105) C d_M_soundsLike_105 rfl 1 rfl ?_
            refine v_aload_n (pc := 106) C d_M_soundsLike_106 rfl 1 rfl ?_
            refine v_getR (pc := 107) C fl_M_132 (sh_104 hL) rfl d_M_soundsLike_107 ?_
            refine v_iload_n (pc := 110) C d_M_soundsLike_110 rfl 3 rfl ?_
            refine v_iald (pc := 111) C (sh_142 hL) d_M_soundsLike_111 (fun _ => ?_)
            refine v_aload_n (pc := 112) C d_M_soundsLike_112 rfl 1 rfl ?_
            refine v_getR (pc := 113) C fl_M_132 (sh_104 hL) rfl d_M_soundsLike_113 ?_
            refine v_iload_n (pc := 116) C d_M_soundsLike_116 rfl 2 rfl ?_
            refine v_iald (pc := 117) C (sh_142 hL) d_M_soundsLike_117 (fun _ => ?_)
            refine v_isub (pc := 118) C d_M_soundsLike_118 ?_
            refine v_ct (pc := 119) (inv_V (As := [.int ((S 142 x2_.toNatClampNeg) - (S 142 y1_.toNatClampNeg))]) (st := []) C ml_M_215 mv_M_size ro_M_soundsLike_M_size (sh_104 hL) rfl rfl rfl rfl (Nat.le_of_ble_eq_true rfl) d_M_soundsLike_119) (c_M_size hL S ((S 142 x2_.toNatClampNeg) - (S 142 y1_.toNatClampNeg))) ⟨rfl, rfl⟩ ⟨Nat.zero_le _, Nat.zero_le _⟩ ?_
            refine v_lt (fun v4 => ?_)
            refine v_istore (pc := 122) (lv' := [(4, .int v4), (3, .int v3), (0, rf G 104), (1, .int y1_), (2, .int x2_)]) C d_M_soundsLike_122 (by decide) rfl ?_
            refine v_iload_n (pc := 124) C d_M_soundsLike_124 rfl 1 rfl ?_
            refine v_jn (fun j => ∀ (v5 : Int32), VO g Y_M_soundsLike G (fun z => Qm g Y_M_soundsLike G (fi L z)) 0 0 135 [(0, rf G 104), (1, .int y1_), (2, .int x2_), (4, .int v4)] [.int v5] L S (j (v5)) K) (fun v5 => ?_) (fun j135 hj135 => ?_)
            · refine v_istore (pc := 135) (lv' := [(5, .int v5), (0, rf G 104), (1, .int y1_), (2, .int x2_), (4, .int v4)]) C d_M_soundsLike_135 (by decide) rfl ?_
              refine v_iload (pc := 137) C d_M_soundsLike_137 4 rfl ?_
              refine v_aload_n (pc := 139) C d_M_soundsLike_139 rfl 1 rfl ?_
              refine v_getR (pc := 140) C fl_M_87 (sh_104 hL) rfl d_M_soundsLike_140 ?_
              refine v_iload (pc := 143) C d_M_soundsLike_143 0 rfl ?_
              refine v_iald (pc := 145) C (sh_127 hL) d_M_soundsLike_145 (fun _ => ?_)
              refine v_icmp_ge (pc := 146) (tgt := 158) C d_M_soundsLike_146 rfl (fun _ => ?_) (fun _ => ?_)
              · refine v_sub [1, 2, 3] rfl ?_
                exact hj158 S
              · refine v_aload_n (pc := 149) C d_M_soundsLike_149 rfl 1 rfl ?_
                refine v_getR (pc := 150) C fl_M_87 (sh_104 hL) rfl d_M_soundsLike_150 ?_
                refine v_iload (pc := 153) C d_M_soundsLike_153 0 rfl ?_
                refine v_iload (pc := 155) C d_M_soundsLike_155 4 rfl ?_
                refine v_iast (pc := 157) C (sh_127 hL) d_M_soundsLike_157 (fun _ S6 => ?_)
                refine v_sub [1, 2, 3] rfl ?_
                exact hj158 S6
            · refine v_if_eq (pc := 125) (tgt := 133) C d_M_soundsLike_125 rfl (fun _ => ?_) (fun _ => ?_)
              · refine v_bipush (pc := 133) C d_M_soundsLike_133 bp_9 ?_
                refine v_sub [2, 3, 4, 0] rfl ?_
                exact hj135 9
              · refine v_bipush (pc := 128) C d_M_soundsLike_128 bp_8 ?_
                refine v_goto (pc := 130) (tgt := 135) C d_M_soundsLike_130 rfl ?_
                refine v_sub [2, 3, 4, 0] rfl ?_
                exact hj135 8
          · refine v_icmp_lt (pc := 76) (tgt := 99) C d_M_soundsLike_76 rfl (fun _ => ?_) (fun _ => ?_)
            · refine v_iconst (pc := 99) C d_M_soundsLike_99 ic_1 ?_
              refine v_goto (pc := 100) (tgt := 104) C d_M_soundsLike_100 rfl ?_
              exact hj104 1
            · refine v_aload_n (pc := 79) C d_M_soundsLike_79 rfl 0 rfl ?_
              refine v_getR (pc := 80) C fl_M_132 (sh_104 hL) rfl d_M_soundsLike_80 ?_
              refine v_iload_n (pc := 83) C d_M_soundsLike_83 rfl 2 rfl ?_
              refine v_iald (pc := 84) C (sh_142 hL) d_M_soundsLike_84 (fun _ => ?_)
              refine v_aload_n (pc := 85) C d_M_soundsLike_85 rfl 0 rfl ?_
              refine v_getR (pc := 86) C fl_M_132 (sh_104 hL) rfl d_M_soundsLike_86 ?_
              refine v_iload_n (pc := 89) C d_M_soundsLike_89 rfl 1 rfl ?_
              refine v_iald (pc := 90) C (sh_142 hL) d_M_soundsLike_90 (fun _ => ?_)
              refine v_icmp_ne (pc := 91) (tgt := 103) C d_M_soundsLike_91 rfl (fun _ => ?_) (fun _ => ?_)
              · refine v_iconst (pc := 103) C d_M_soundsLike_103 ic_0 ?_
                exact hj104 0
              · refine v_iload_n (pc := 94) C d_M_soundsLike_94 rfl 2 rfl ?_
                refine v_iload_n (pc := 95) C d_M_soundsLike_95 rfl 1 rfl ?_
                refine v_icmp_ge (pc := 96) (tgt := 103) C d_M_soundsLike_96 rfl (fun _ => ?_) (fun _ => ?_)
                · refine v_iconst (pc := 103) C d_M_soundsLike_103 ic_0 ?_
                  exact hj104 0
                · refine v_iconst (pc := 99) C d_M_soundsLike_99 ic_1 ?_
                  refine v_goto (pc := 100) (tgt := 104) C d_M_soundsLike_100 rfl ?_
                  exact hj104 1
        · refine v_goto (pc := 61) (tgt := 158) C d_M_soundsLike_61 rfl ?_
          exact hj158 S
def r_M_soundsLike (x1 : Int32) (S : Sto) : Option (Int32 × Sto) :=
  chk (inr x1 20) (
  chk (inr (6 : Int32) 10) (
  ltS (sw S 127 ((6 : Int32).toNatClampNeg) (S 140 x1.toNatClampNeg)) (fun S1 =>
  chk (inr x1 20) (
  chk (inr (7 : Int32) 10) (
  ltS (sw S1 127 ((7 : Int32).toNatClampNeg) (S1 141 x1.toNatClampNeg)) (fun S2 =>
  chk (inr (8 : Int32) 10) (
  ltS (sw S2 127 ((8 : Int32).toNatClampNeg) 9999) (fun S3 =>
  chk (inr (9 : Int32) 10) (
  ltS (sw S3 127 ((9 : Int32).toNatClampNeg) 9999) (fun S4 =>
  (r_M_soundsLike_L48 x1 fu 0 S4).bind (fun (v5, S6) =>
  (r_M_firstSo 4 S6).bind (fun (r7, S8) =>
  if r7 = (-1) then
    some (0, S8)
  else
    some ((r7 - 12) + 1, S8)))))))))))))
set_option maxHeartbeats 4000000 in
set_option maxRecDepth 20000 in
theorem c_M_soundsLike {G : Gl} {L : Shp} (hL : Ext L) (S : Sto) (x1 : Int32)  : Ct Y_M_soundsLike G [rf G 104, .int x1] L S (fi L) (r_M_soundsLike x1 S) := by
  refine ct_of (by decide +kernel) (Nat.le_of_ble_eq_true rfl) (fun g C => ?_)
  show VO g Y_M_soundsLike G (fun z => Qm g Y_M_soundsLike G (fi L z)) 0 0 0 [(0, rf G 104), (1, .int x1)] [] L S (r_M_soundsLike x1 S) some
  unfold r_M_soundsLike
  refine v_aload_n (pc := 0) C d_M_soundsLike_0 rfl 0 rfl ?_
  refine v_getR (pc := 1) C fl_M_87 (sh_104 hL) rfl d_M_soundsLike_1 ?_
  refine v_bipush (pc := 4) C d_M_soundsLike_4 bp_6 ?_
  refine v_aload_n (pc := 6) C d_M_soundsLike_6 rfl 0 rfl ?_
  refine v_getR (pc := 7) C fl_M_126 (sh_104 hL) rfl d_M_soundsLike_7 ?_
  refine v_iload_n (pc := 10) C d_M_soundsLike_10 rfl 1 rfl ?_
  refine v_iald (pc := 11) C (sh_140 hL) d_M_soundsLike_11 (fun _ => ?_)
  refine v_iast (pc := 12) C (sh_127 hL) d_M_soundsLike_12 (fun _ S1 => ?_)
  refine v_aload_n (pc := 13) C d_M_soundsLike_13 rfl 0 rfl ?_
  refine v_getR (pc := 14) C fl_M_87 (sh_104 hL) rfl d_M_soundsLike_14 ?_
  refine v_bipush (pc := 17) C d_M_soundsLike_17 bp_7 ?_
  refine v_aload_n (pc := 19) C d_M_soundsLike_19 rfl 0 rfl ?_
  refine v_getR (pc := 20) C fl_M_129 (sh_104 hL) rfl d_M_soundsLike_20 ?_
  refine v_iload_n (pc := 23) C d_M_soundsLike_23 rfl 1 rfl ?_
  refine v_iald (pc := 24) C (sh_141 hL) d_M_soundsLike_24 (fun _ => ?_)
  refine v_iast (pc := 25) C (sh_127 hL) d_M_soundsLike_25 (fun _ S2 => ?_)
  refine v_aload_n (pc := 26) C d_M_soundsLike_26 rfl 0 rfl ?_
  refine v_getR (pc := 27) C fl_M_87 (sh_104 hL) rfl d_M_soundsLike_27 ?_
  refine v_bipush (pc := 30) C d_M_soundsLike_30 bp_8 ?_
  refine v_sipush (pc := 32) C d_M_soundsLike_32 sp_9999 ?_
  refine v_iast (pc := 35) C (sh_127 hL) d_M_soundsLike_35 (fun _ S3 => ?_)
  refine v_aload_n (pc := 36) C d_M_soundsLike_36 rfl 0 rfl ?_
  refine v_getR (pc := 37) C fl_M_87 (sh_104 hL) rfl d_M_soundsLike_37 ?_
  refine v_bipush (pc := 40) C d_M_soundsLike_40 bp_9 ?_
  refine v_sipush (pc := 42) C d_M_soundsLike_42 sp_9999 ?_
  refine v_iast (pc := 45) C (sh_127 hL) d_M_soundsLike_45 (fun _ S4 => ?_)
  refine v_iconst (pc := 46) C d_M_soundsLike_46 ic_0 ?_
  refine v_istore_n (pc := 47) (lv' := [(2, .int 0), (0, rf G 104), (1, .int x1)]) C d_M_soundsLike_47 rfl (by decide) rfl ?_
  refine v_sub [1, 2, 0] rfl ?_
  refine v_bind ?_
  refine w_M_soundsLike_L48 C hL x1  fu 0 S4 _ (fun v5 S6 => ?_) 
  refine v_some ?_
  refine v_aload_n (pc := 164) C d_M_soundsLike_164 rfl 0 rfl ?_
  refine v_iconst (pc := 165) C d_M_soundsLike_165 ic_4 ?_
  refine v_ci (pc := 166) (inv_V (As := [.int 4]) (st := []) C ml_M_365 mv_M_firstSo ro_M_soundsLike_M_firstSo (sh_104 hL) rfl rfl rfl rfl (Nat.le_of_ble_eq_true rfl) d_M_soundsLike_166) (c_M_firstSo hL S6 4) ⟨rfl, rfl⟩ ⟨Nat.zero_le _, Nat.zero_le _⟩ (fun r7 S8 => ?_)
  refine v_istore_n (pc := 169) (lv' := [(2, .int r7), (0, rf G 104)]) C d_M_soundsLike_169 rfl (by decide) rfl ?_
  refine v_iload_n (pc := 170) C d_M_soundsLike_170 rfl 0 rfl ?_
  refine v_iconst (pc := 171) C d_M_soundsLike_171 ic_m1 ?_
  refine v_icmp_ne (pc := 172) (tgt := 179) C d_M_soundsLike_172 rfl (fun _ => ?_) (fun _ => ?_)
  · refine v_iload_n (pc := 179) C d_M_soundsLike_179 rfl 0 rfl ?_
    refine v_bipush (pc := 180) C d_M_soundsLike_180 bp_12 ?_
    refine v_isub (pc := 182) C d_M_soundsLike_182 ?_
    refine v_iconst (pc := 183) C d_M_soundsLike_183 ic_1 ?_
    refine v_iadd (pc := 184) C d_M_soundsLike_184 ?_
    exact v_iret (z := ((r7 - 12) + 1, S8)) C d_M_soundsLike_185 rfl ⟨Nat.zero_le _, Nat.zero_le _⟩ (rfl) rfl
  · refine v_iconst (pc := 175) C d_M_soundsLike_175 ic_0 ?_
    refine v_goto (pc := 176) (tgt := 185) C d_M_soundsLike_176 rfl ?_
    exact v_iret (z := (0, S8)) C d_M_soundsLike_185 rfl ⟨Nat.zero_le _, Nat.zero_le _⟩ (rfl) rfl
-- M_noises
theorem d_M_noises_0 : decode (mB Y_M_noises) 0 = .ok (.aload_n 0, 1) := by decide +kernel
theorem d_M_noises_1 : decode (mB Y_M_noises) 1 = .ok (.iconst 0, 1) := by decide +kernel
theorem d_M_noises_2 : decode (mB Y_M_noises) 2 = .ok (.putfield 150, 3) := by decide +kernel
theorem d_M_noises_5 : decode (mB Y_M_noises) 5 = .ok (.aload_n 0, 1) := by decide +kernel
theorem d_M_noises_6 : decode (mB Y_M_noises) 6 = .ok (.iload_n 1, 1) := by decide +kernel
theorem d_M_noises_7 : decode (mB Y_M_noises) 7 = .ok (.bipush 10, 2) := by decide +kernel
theorem d_M_noises_9 : decode (mB Y_M_noises) 9 = .ok (.bipush 9, 2) := by decide +kernel
theorem d_M_noises_11 : decode (mB Y_M_noises) 11 = .ok (.aload_n 0, 1) := by decide +kernel
theorem d_M_noises_12 : decode (mB Y_M_noises) 12 = .ok (.getfield 426, 3) := by decide +kernel
theorem d_M_noises_15 : decode (mB Y_M_noises) 15 = .ok (.iadd, 1) := by decide +kernel
theorem d_M_noises_16 : decode (mB Y_M_noises) 16 = .ok (.invokevirtual 153, 3) := by decide +kernel
theorem d_M_noises_19 : decode (mB Y_M_noises) 19 = .ok (.ifCond .eq 12, 3) := by decide +kernel
theorem d_M_noises_22 : decode (mB Y_M_noises) 22 = .ok (.aload_n 0, 1) := by decide +kernel
theorem d_M_noises_23 : decode (mB Y_M_noises) 23 = .ok (.iload_n 1, 1) := by decide +kernel
theorem d_M_noises_24 : decode (mB Y_M_noises) 24 = .ok (.bipush 10, 2) := by decide +kernel
theorem d_M_noises_26 : decode (mB Y_M_noises) 26 = .ok (.isub, 1) := by decide +kernel
theorem d_M_noises_27 : decode (mB Y_M_noises) 27 = .ok (.invokevirtual 429, 3) := by decide +kernel
theorem d_M_noises_30 : decode (mB Y_M_noises) 30 = .ok (.ireturn, 1) := by decide +kernel
theorem d_M_noises_31 : decode (mB Y_M_noises) 31 = .ok (.aload_n 0, 1) := by decide +kernel
theorem d_M_noises_32 : decode (mB Y_M_noises) 32 = .ok (.iload_n 1, 1) := by decide +kernel
theorem d_M_noises_33 : decode (mB Y_M_noises) 33 = .ok (.iconst 0, 1) := by decide +kernel
theorem d_M_noises_34 : decode (mB Y_M_noises) 34 = .ok (.iconst 1, 1) := by decide +kernel
theorem d_M_noises_35 : decode (mB Y_M_noises) 35 = .ok (.invokevirtual 153, 3) := by decide +kernel
theorem d_M_noises_38 : decode (mB Y_M_noises) 38 = .ok (.ifCond .ne 5, 3) := by decide +kernel
theorem d_M_noises_41 : decode (mB Y_M_noises) 41 = .ok (.iconst (-1), 1) := by decide +kernel
theorem d_M_noises_42 : decode (mB Y_M_noises) 42 = .ok (.ireturn, 1) := by decide +kernel
theorem d_M_noises_43 : decode (mB Y_M_noises) 43 = .ok (.iconst 0, 1) := by decide +kernel
theorem d_M_noises_44 : decode (mB Y_M_noises) 44 = .ok (.istore_n 2, 1) := by decide +kernel
theorem d_M_noises_45 : decode (mB Y_M_noises) 45 = .ok (.iconst 0, 1) := by decide +kernel
theorem d_M_noises_46 : decode (mB Y_M_noises) 46 = .ok (.istore_n 3, 1) := by decide +kernel
theorem d_M_noises_47 : decode (mB Y_M_noises) 47 = .ok (.iload_n 3, 1) := by decide +kernel
theorem d_M_noises_48 : decode (mB Y_M_noises) 48 = .ok (.aload_n 0, 1) := by decide +kernel
theorem d_M_noises_49 : decode (mB Y_M_noises) 49 = .ok (.getfield 426, 3) := by decide +kernel
theorem d_M_noises_52 : decode (mB Y_M_noises) 52 = .ok (.if_icmp .ge 66, 3) := by decide +kernel
theorem d_M_noises_55 : decode (mB Y_M_noises) 55 = .ok (.aload_n 0, 1) := by decide +kernel
theorem d_M_noises_56 : decode (mB Y_M_noises) 56 = .ok (.iload_n 3, 1) := by decide +kernel
theorem d_M_noises_57 : decode (mB Y_M_noises) 57 = .ok (.invokevirtual 429, 3) := by decide +kernel
theorem d_M_noises_60 : decode (mB Y_M_noises) 60 = .ok (.iconst 1, 1) := by decide +kernel
theorem d_M_noises_61 : decode (mB Y_M_noises) 61 = .ok (.if_icmp .ne 7, 3) := by decide +kernel
theorem d_M_noises_64 : decode (mB Y_M_noises) 64 = .ok (.iconst 1, 1) := by decide +kernel
theorem d_M_noises_65 : decode (mB Y_M_noises) 65 = .ok (.goto 4, 3) := by decide +kernel
theorem d_M_noises_68 : decode (mB Y_M_noises) 68 = .ok (.iconst 0, 1) := by decide +kernel
theorem d_M_noises_69 : decode (mB Y_M_noises) 69 = .ok (.istore 4, 2) := by decide +kernel
theorem d_M_noises_71 : decode (mB Y_M_noises) 71 = .ok (.iload_n 1, 1) := by decide +kernel
theorem d_M_noises_72 : decode (mB Y_M_noises) 72 = .ok (.ifCond .ne 21, 3) := by decide +kernel
theorem d_M_noises_75 : decode (mB Y_M_noises) 75 = .ok (.iload 4, 2) := by decide +kernel
theorem d_M_noises_77 : decode (mB Y_M_noises) 77 = .ok (.ifCond .eq 35, 3) := by decide +kernel
theorem d_M_noises_80 : decode (mB Y_M_noises) 80 = .ok (.aload_n 0, 1) := by decide +kernel
theorem d_M_noises_81 : decode (mB Y_M_noises) 81 = .ok (.getfield 135, 3) := by decide +kernel
theorem d_M_noises_84 : decode (mB Y_M_noises) 84 = .ok (.iload_n 3, 1) := by decide +kernel
theorem d_M_noises_85 : decode (mB Y_M_noises) 85 = .ok (.iaload, 1) := by decide +kernel
theorem d_M_noises_86 : decode (mB Y_M_noises) 86 = .ok (.iconst 1, 1) := by decide +kernel
theorem d_M_noises_87 : decode (mB Y_M_noises) 87 = .ok (.if_icmp .eq 25, 3) := by decide +kernel
theorem d_M_noises_90 : decode (mB Y_M_noises) 90 = .ok (.goto 18, 3) := by decide +kernel
theorem d_M_noises_93 : decode (mB Y_M_noises) 93 = .ok (.iload 4, 2) := by decide +kernel
theorem d_M_noises_95 : decode (mB Y_M_noises) 95 = .ok (.ifCond .ne 17, 3) := by decide +kernel
theorem d_M_noises_98 : decode (mB Y_M_noises) 98 = .ok (.aload_n 0, 1) := by decide +kernel
theorem d_M_noises_99 : decode (mB Y_M_noises) 99 = .ok (.getfield 135, 3) := by decide +kernel
theorem d_M_noises_102 : decode (mB Y_M_noises) 102 = .ok (.iload_n 3, 1) := by decide +kernel
theorem d_M_noises_103 : decode (mB Y_M_noises) 103 = .ok (.iaload, 1) := by decide +kernel
theorem d_M_noises_104 : decode (mB Y_M_noises) 104 = .ok (.iconst 1, 1) := by decide +kernel
theorem d_M_noises_105 : decode (mB Y_M_noises) 105 = .ok (.if_icmp .ne 7, 3) := by decide +kernel
theorem d_M_noises_108 : decode (mB Y_M_noises) 108 = .ok (.iload_n 2, 1) := by decide +kernel
theorem d_M_noises_109 : decode (mB Y_M_noises) 109 = .ok (.iconst 1, 1) := by decide +kernel
theorem d_M_noises_110 : decode (mB Y_M_noises) 110 = .ok (.iadd, 1) := by decide +kernel
theorem d_M_noises_111 : decode (mB Y_M_noises) 111 = .ok (.istore_n 2, 1) := by decide +kernel
theorem d_M_noises_112 : decode (mB Y_M_noises) 112 = .ok (.iinc 3 1, 3) := by decide +kernel
theorem d_M_noises_115 : decode (mB Y_M_noises) 115 = .ok (.goto (-68), 3) := by decide +kernel
theorem d_M_noises_118 : decode (mB Y_M_noises) 118 = .ok (.iload_n 2, 1) := by decide +kernel
theorem d_M_noises_119 : decode (mB Y_M_noises) 119 = .ok (.ireturn, 1) := by decide +kernel
theorem ro_M_noises_M_isIn : roomy Y_M_noises Y_M_isIn := ⟨Nat.le_of_ble_eq_true rfl, Nat.le_of_ble_eq_true rfl⟩
theorem ro_M_noises_M_soundsLike : roomy Y_M_noises Y_M_soundsLike := ⟨Nat.le_of_ble_eq_true rfl, Nat.le_of_ble_eq_true rfl⟩
def r_M_noises_L47 (y1_ : Int32) : Nat → Int32 → Int32 → Sto → Option (Int32 × Int32 × Sto)
  | 0, _, _, _ => none
  | n + 1, x2_, x3_, S =>
    if (S 104 65) ≤ x3_ then
      some (x2_, x3_, S)
    else
      (r_M_soundsLike x3_ S).bind (fun (r1, S2) =>
      jn (fun (v3 : Int32) =>
        jn (fun (v4 : Int32) =>
          lt (x3_ + 1) (fun v5 =>
          r_M_noises_L47 y1_ n v4 v5 S2)) (fun j112 =>
        jn (fun (_ : Unit) =>
          lt (x2_ + 1) (fun v6 =>
          j112 (v6))) (fun j108 =>
        if y1_ = 0 then
          if v3 = 0 then
            j112 (x2_)
          else
            chk (inr x3_ 20) (
            if (S2 143 x3_.toNatClampNeg) = 1 then
              j112 (x2_)
            else
              j108 ())
        else
          if v3 = 0 then
            chk (inr x3_ 20) (
            if (S2 143 x3_.toNatClampNeg) = 1 then
              j108 ()
            else
              j112 (x2_))
          else
            j112 (x2_)))) (fun j69 =>
      if r1 = 1 then
        j69 (1)
      else
        j69 (0)))
set_option maxHeartbeats 4000000 in
set_option maxRecDepth 20000 in
theorem w_M_noises_L47 {g : Gm} {G : Gl} {L : Shp} (C : Cx g Y_M_noises G) (hL : Ext L) (y1_ : Int32)  :
    ∀ (n : Nat) (x2_ : Int32) (x3_ : Int32) (S : Sto) (K : (Int32 × Int32 × Sto) → Option (Int32 × Sto)), (∀ (x2_ : Int32) (x3_ : Int32) (S : Sto), VO g Y_M_noises G (fun z => Qm g Y_M_noises G (fi L z)) 0 0 118 [(2, .int x2_)] [] L S (some (x2_, x3_, S)) K) → VO g Y_M_noises G (fun z => Qm g Y_M_noises G (fi L z)) 0 0 47 [(0, rf G 104), (1, .int y1_), (2, .int x2_), (3, .int x3_)] [] L S (r_M_noises_L47 y1_ n x2_ x3_ S) K := by
  intro n
  induction n with
  | zero => intro x2_ x3_ S K; intros; exact v_none
  | succ n ih =>
    intro x2_ x3_ S K hK
    rw [r_M_noises_L47]
    refine v_iload_n (pc := 47) C d_M_noises_47 rfl 3 rfl ?_
    refine v_aload_n (pc := 48) C d_M_noises_48 rfl 0 rfl ?_
    refine v_getI (pc := 49) C fl_M_426 (sh_104 hL) rfl d_M_noises_49 ?_
    refine v_icmp_ge (pc := 52) (tgt := 118) C d_M_noises_52 rfl (fun _ => ?_) (fun _ => ?_)
    · refine v_sub [2] rfl ?_
      exact hK x2_ x3_ S
    · refine v_aload_n (pc := 55) C d_M_noises_55 rfl 0 rfl ?_
      refine v_iload_n (pc := 56) C d_M_noises_56 rfl 3 rfl ?_
      refine v_ci (pc := 57) (inv_V (As := [.int x3_]) (st := []) C ml_M_429 mv_M_soundsLike ro_M_noises_M_soundsLike (sh_104 hL) rfl rfl rfl rfl (Nat.le_of_ble_eq_true rfl) d_M_noises_57) (c_M_soundsLike hL S x3_) ⟨rfl, rfl⟩ ⟨Nat.zero_le _, Nat.zero_le _⟩ (fun r1 S2 => ?_)
      refine v_iconst (pc := 60) C d_M_noises_60 ic_1 ?_
      refine v_jn (fun j => ∀ (v3 : Int32), VO g Y_M_noises G (fun z => Qm g Y_M_noises G (fi L z)) 0 0 69 [(0, rf G 104), (1, .int y1_), (2, .int x2_), (3, .int x3_)] [.int v3] L S2 (j (v3)) K) (fun v3 => ?_) (fun j69 hj69 => ?_)
      · refine v_istore (pc := 69) (lv' := [(4, .int v3), (0, rf G 104), (1, .int y1_), (2, .int x2_), (3, .int x3_)]) C d_M_noises_69 (by decide) rfl ?_
        refine v_iload_n (pc := 71) C d_M_noises_71 rfl 2 rfl ?_
        refine v_jn (fun j => ∀ (v4 : Int32), VO g Y_M_noises G (fun z => Qm g Y_M_noises G (fi L z)) 0 0 112 [(0, rf G 104), (1, .int y1_), (2, .int v4), (3, .int x3_)] [] L S2 (j (v4)) K) (fun v4 => ?_) (fun j112 hj112 => ?_)
        · refine v_iinc (pc := 112) (p := 3) (c := 1) C d_M_noises_112 rfl (by decide) (by decide) (fun v5 => [(3, .int v5), (0, rf G 104), (1, .int y1_), (2, .int v4)]) (fun _ => rfl) (fun v5 => ?_)
          refine v_goto (pc := 115) (tgt := 47) C d_M_noises_115 rfl ?_
          refine v_sub [1, 2, 3, 0] rfl ?_
          exact ih v4 v5 S2 K hK
        · refine v_jn (fun j => VO g Y_M_noises G (fun z => Qm g Y_M_noises G (fi L z)) 0 0 108 [(0, rf G 104), (1, .int y1_), (2, .int x2_), (3, .int x3_)] [] L S2 (j ()) K) (?_) (fun j108 hj108 => ?_)
          · refine v_iload_n (pc := 108) C d_M_noises_108 rfl 2 rfl ?_
            refine v_iconst (pc := 109) C d_M_noises_109 ic_1 ?_
            refine v_iadd (pc := 110) C d_M_noises_110 ?_
            refine v_lt (fun v6 => ?_)
            refine v_istore_n (pc := 111) (lv' := [(2, .int v6), (0, rf G 104), (1, .int y1_), (3, .int x3_)]) C d_M_noises_111 rfl (by decide) rfl ?_
            refine v_sub [1, 2, 0, 3] rfl ?_
            exact hj112 v6
          · refine v_if_ne (pc := 72) (tgt := 93) C d_M_noises_72 rfl (fun _ => ?_) (fun _ => ?_)
            · refine v_iload (pc := 93) C d_M_noises_93 0 rfl ?_
              refine v_if_ne (pc := 95) (tgt := 112) C d_M_noises_95 rfl (fun _ => ?_) (fun _ => ?_)
              · refine v_sub [1, 2, 3, 4] rfl ?_
                exact hj112 x2_
              · refine v_aload_n (pc := 98) C d_M_noises_98 rfl 1 rfl ?_
                refine v_getR (pc := 99) C fl_M_135 (sh_104 hL) rfl d_M_noises_99 ?_
                refine v_iload_n (pc := 102) C d_M_noises_102 rfl 4 rfl ?_
                refine v_iald (pc := 103) C (sh_143 hL) d_M_noises_103 (fun _ => ?_)
                refine v_iconst (pc := 104) C d_M_noises_104 ic_1 ?_
                refine v_icmp_ne (pc := 105) (tgt := 112) C d_M_noises_105 rfl (fun _ => ?_) (fun _ => ?_)
                · refine v_sub [1, 2, 3, 4] rfl ?_
                  exact hj112 x2_
                · refine v_sub [1, 2, 3, 4] rfl ?_
                  exact hj108
            · refine v_iload (pc := 75) C d_M_noises_75 0 rfl ?_
              refine v_if_eq (pc := 77) (tgt := 112) C d_M_noises_77 rfl (fun _ => ?_) (fun _ => ?_)
              · refine v_sub [1, 2, 3, 4] rfl ?_
                exact hj112 x2_
              · refine v_aload_n (pc := 80) C d_M_noises_80 rfl 1 rfl ?_
                refine v_getR (pc := 81) C fl_M_135 (sh_104 hL) rfl d_M_noises_81 ?_
                refine v_iload_n (pc := 84) C d_M_noises_84 rfl 4 rfl ?_
                refine v_iald (pc := 85) C (sh_143 hL) d_M_noises_85 (fun _ => ?_)
                refine v_iconst (pc := 86) C d_M_noises_86 ic_1 ?_
                refine v_icmp_eq (pc := 87) (tgt := 112) C d_M_noises_87 rfl (fun _ => ?_) (fun _ => ?_)
                · refine v_sub [1, 2, 3, 4] rfl ?_
                  exact hj112 x2_
                · refine v_goto (pc := 90) (tgt := 108) C d_M_noises_90 rfl ?_
                  refine v_sub [1, 2, 3, 4] rfl ?_
                  exact hj108
      · refine v_icmp_ne (pc := 61) (tgt := 68) C d_M_noises_61 rfl (fun _ => ?_) (fun _ => ?_)
        · refine v_iconst (pc := 68) C d_M_noises_68 ic_0 ?_
          exact hj69 0
        · refine v_iconst (pc := 64) C d_M_noises_64 ic_1 ?_
          refine v_goto (pc := 65) (tgt := 69) C d_M_noises_65 rfl ?_
          exact hj69 1
def r_M_noises (x1 : Int32) (S : Sto) : Option (Int32 × Sto) :=
  ltS (sw S 104 0 0) (fun S1 =>
  if (r_M_isIn x1 10 (9 + (S1 104 65))) = 0 then
    if (r_M_isIn x1 0 1) = 0 then
      some ((-1), S1)
    else
      (r_M_noises_L47 x1 fu 0 0 S1).bind (fun (v2, v3, S4) =>
      some (v2, S4))
  else
    (r_M_soundsLike (x1 - 10) S1).bind (fun (r5, S6) =>
    some (r5, S6)))
set_option maxHeartbeats 4000000 in
set_option maxRecDepth 20000 in
theorem c_M_noises {G : Gl} {L : Shp} (hL : Ext L) (S : Sto) (x1 : Int32)  : Ct Y_M_noises G [rf G 104, .int x1] L S (fi L) (r_M_noises x1 S) := by
  refine ct_of (by decide +kernel) (Nat.le_of_ble_eq_true rfl) (fun g C => ?_)
  show VO g Y_M_noises G (fun z => Qm g Y_M_noises G (fi L z)) 0 0 0 [(0, rf G 104), (1, .int x1)] [] L S (r_M_noises x1 S) some
  unfold r_M_noises
  refine v_aload_n (pc := 0) C d_M_noises_0 rfl 0 rfl ?_
  refine v_iconst (pc := 1) C d_M_noises_1 ic_0 ?_
  refine v_putI (pc := 2) C fp_M_150 (sh_104 hL) rfl d_M_noises_2 (fun S1 => ?_)
  refine v_aload_n (pc := 5) C d_M_noises_5 rfl 0 rfl ?_
  refine v_iload_n (pc := 6) C d_M_noises_6 rfl 1 rfl ?_
  refine v_bipush (pc := 7) C d_M_noises_7 bp_10 ?_
  refine v_bipush (pc := 9) C d_M_noises_9 bp_9 ?_
  refine v_aload_n (pc := 11) C d_M_noises_11 rfl 0 rfl ?_
  refine v_getI (pc := 12) C fl_M_426 (sh_104 hL) rfl d_M_noises_12 ?_
  refine v_iadd (pc := 15) C d_M_noises_15 ?_
  refine v_ct (pc := 16) (inv_V (As := [.int x1, .int 10, .int (9 + (S1 104 65))]) (st := []) C ml_M_153 mv_M_isIn ro_M_noises_M_isIn (sh_104 hL) rfl rfl rfl rfl (Nat.le_of_ble_eq_true rfl) d_M_noises_16) (c_M_isIn hL S1 x1 10 (9 + (S1 104 65))) ⟨rfl, rfl⟩ ⟨Nat.zero_le _, Nat.zero_le _⟩ ?_
  refine v_if_eq (pc := 19) (tgt := 31) C d_M_noises_19 rfl (fun _ => ?_) (fun _ => ?_)
  · refine v_aload_n (pc := 31) C d_M_noises_31 rfl 0 rfl ?_
    refine v_iload_n (pc := 32) C d_M_noises_32 rfl 1 rfl ?_
    refine v_iconst (pc := 33) C d_M_noises_33 ic_0 ?_
    refine v_iconst (pc := 34) C d_M_noises_34 ic_1 ?_
    refine v_ct (pc := 35) (inv_V (As := [.int x1, .int 0, .int 1]) (st := []) C ml_M_153 mv_M_isIn ro_M_noises_M_isIn (sh_104 hL) rfl rfl rfl rfl (Nat.le_of_ble_eq_true rfl) d_M_noises_35) (c_M_isIn hL S1 x1 0 1) ⟨rfl, rfl⟩ ⟨Nat.zero_le _, Nat.zero_le _⟩ ?_
    refine v_if_ne (pc := 38) (tgt := 43) C d_M_noises_38 rfl (fun _ => ?_) (fun _ => ?_)
    · refine v_iconst (pc := 43) C d_M_noises_43 ic_0 ?_
      refine v_istore_n (pc := 44) (lv' := [(2, .int 0), (0, rf G 104), (1, .int x1)]) C d_M_noises_44 rfl (by decide) rfl ?_
      refine v_iconst (pc := 45) C d_M_noises_45 ic_0 ?_
      refine v_istore_n (pc := 46) (lv' := [(3, .int 0), (2, .int 0), (0, rf G 104), (1, .int x1)]) C d_M_noises_46 rfl (by decide) rfl ?_
      refine v_sub [2, 3, 1, 0] rfl ?_
      refine v_bind ?_
      refine w_M_noises_L47 C hL x1  fu 0 0 S1 _ (fun v2 v3 S4 => ?_) 
      refine v_some ?_
      refine v_iload_n (pc := 118) C d_M_noises_118 rfl 0 rfl ?_
      exact v_iret (z := (v2, S4)) C d_M_noises_119 rfl ⟨Nat.zero_le _, Nat.zero_le _⟩ (rfl) rfl
    · refine v_iconst (pc := 41) C d_M_noises_41 ic_m1 ?_
      exact v_iret (z := ((-1), S1)) C d_M_noises_42 rfl ⟨Nat.zero_le _, Nat.zero_le _⟩ (rfl) rfl
  · refine v_aload_n (pc := 22) C d_M_noises_22 rfl 0 rfl ?_
    refine v_iload_n (pc := 23) C d_M_noises_23 rfl 1 rfl ?_
    refine v_bipush (pc := 24) C d_M_noises_24 bp_10 ?_
    refine v_isub (pc := 26) C d_M_noises_26 ?_
    refine v_ci (pc := 27) (inv_V (As := [.int (x1 - 10)]) (st := []) C ml_M_429 mv_M_soundsLike ro_M_noises_M_soundsLike (sh_104 hL) rfl rfl rfl rfl (Nat.le_of_ble_eq_true rfl) d_M_noises_27) (c_M_soundsLike hL S1 (x1 - 10)) ⟨rfl, rfl⟩ ⟨Nat.zero_le _, Nat.zero_le _⟩ (fun r5 S6 => ?_)
    exact v_iret (z := (r5, S6)) C d_M_noises_30 rfl ⟨Nat.zero_le _, Nat.zero_le _⟩ (rfl) rfl
-- M_ball
theorem d_M_ball_0 : decode (mB Y_M_ball) 0 = .ok (.aload_n 0, 1) := by decide +kernel
theorem d_M_ball_1 : decode (mB Y_M_ball) 1 = .ok (.iconst 0, 1) := by decide +kernel
theorem d_M_ball_2 : decode (mB Y_M_ball) 2 = .ok (.putfield 150, 3) := by decide +kernel
theorem d_M_ball_5 : decode (mB Y_M_ball) 5 = .ok (.iload_n 1, 1) := by decide +kernel
theorem d_M_ball_6 : decode (mB Y_M_ball) 6 = .ok (.iconst (-1), 1) := by decide +kernel
theorem d_M_ball_7 : decode (mB Y_M_ball) 7 = .ok (.if_icmp .eq 24, 3) := by decide +kernel
theorem d_M_ball_10 : decode (mB Y_M_ball) 10 = .ok (.aload_n 0, 1) := by decide +kernel
theorem d_M_ball_11 : decode (mB Y_M_ball) 11 = .ok (.iload_n 1, 1) := by decide +kernel
theorem d_M_ball_12 : decode (mB Y_M_ball) 12 = .ok (.invokevirtual 180, 3) := by decide +kernel
theorem d_M_ball_15 : decode (mB Y_M_ball) 15 = .ok (.ifCond .eq 14, 3) := by decide +kernel
theorem d_M_ball_18 : decode (mB Y_M_ball) 18 = .ok (.aload_n 0, 1) := by decide +kernel
theorem d_M_ball_19 : decode (mB Y_M_ball) 19 = .ok (.iload_n 2, 1) := by decide +kernel
theorem d_M_ball_20 : decode (mB Y_M_ball) 20 = .ok (.iconst 1, 1) := by decide +kernel
theorem d_M_ball_21 : decode (mB Y_M_ball) 21 = .ok (.bipush 99, 2) := by decide +kernel
theorem d_M_ball_23 : decode (mB Y_M_ball) 23 = .ok (.invokevirtual 153, 3) := by decide +kernel
theorem d_M_ball_26 : decode (mB Y_M_ball) 26 = .ok (.ifCond .ne 5, 3) := by decide +kernel
theorem d_M_ball_29 : decode (mB Y_M_ball) 29 = .ok (.iconst 0, 1) := by decide +kernel
theorem d_M_ball_30 : decode (mB Y_M_ball) 30 = .ok (.ireturn, 1) := by decide +kernel
theorem d_M_ball_31 : decode (mB Y_M_ball) 31 = .ok (.aload_n 0, 1) := by decide +kernel
theorem d_M_ball_32 : decode (mB Y_M_ball) 32 = .ok (.iload_n 1, 1) := by decide +kernel
theorem d_M_ball_33 : decode (mB Y_M_ball) 33 = .ok (.putfield 138, 3) := by decide +kernel
theorem d_M_ball_36 : decode (mB Y_M_ball) 36 = .ok (.iload_n 1, 1) := by decide +kernel
theorem d_M_ball_37 : decode (mB Y_M_ball) 37 = .ok (.iconst (-1), 1) := by decide +kernel
theorem d_M_ball_38 : decode (mB Y_M_ball) 38 = .ok (.if_icmp .eq 8, 3) := by decide +kernel
theorem d_M_ball_41 : decode (mB Y_M_ball) 41 = .ok (.aload_n 0, 1) := by decide +kernel
theorem d_M_ball_42 : decode (mB Y_M_ball) 42 = .ok (.iload_n 2, 1) := by decide +kernel
theorem d_M_ball_43 : decode (mB Y_M_ball) 43 = .ok (.putfield 141, 3) := by decide +kernel
theorem d_M_ball_46 : decode (mB Y_M_ball) 46 = .ok (.iconst 1, 1) := by decide +kernel
theorem d_M_ball_47 : decode (mB Y_M_ball) 47 = .ok (.ireturn, 1) := by decide +kernel
theorem ro_M_ball_M_isCell : roomy Y_M_ball Y_M_isCell := ⟨Nat.le_of_ble_eq_true rfl, Nat.le_of_ble_eq_true rfl⟩
theorem ro_M_ball_M_isIn : roomy Y_M_ball Y_M_isIn := ⟨Nat.le_of_ble_eq_true rfl, Nat.le_of_ble_eq_true rfl⟩
def r_M_ball (x1 : Int32) (x2 : Int32) (S : Sto) : Option (Int32 × Sto) :=
  ltS (sw S 104 0 0) (fun S1 =>
  jn (fun (_ : Unit) =>
    ltS (sw S1 104 70 x1) (fun S2 =>
    if x1 = (-1) then
      some (1, S2)
    else
      ltS (sw S2 104 71 x2) (fun S3 =>
      some (1, S3)))) (fun j31 =>
  if x1 = (-1) then
    j31 ()
  else
    if (r_M_isCell x1) = 0 then
      some (0, S1)
    else
      if (r_M_isIn x2 1 99) = 0 then
        some (0, S1)
      else
        j31 ()))
set_option maxHeartbeats 4000000 in
set_option maxRecDepth 20000 in
theorem c_M_ball {G : Gl} {L : Shp} (hL : Ext L) (S : Sto) (x1 : Int32) (x2 : Int32)  : Ct Y_M_ball G [rf G 104, .int x1, .int x2] L S (fi L) (r_M_ball x1 x2 S) := by
  refine ct_of (by decide +kernel) (Nat.le_of_ble_eq_true rfl) (fun g C => ?_)
  show VO g Y_M_ball G (fun z => Qm g Y_M_ball G (fi L z)) 0 0 0 [(0, rf G 104), (1, .int x1), (2, .int x2)] [] L S (r_M_ball x1 x2 S) some
  unfold r_M_ball
  refine v_aload_n (pc := 0) C d_M_ball_0 rfl 0 rfl ?_
  refine v_iconst (pc := 1) C d_M_ball_1 ic_0 ?_
  refine v_putI (pc := 2) C fp_M_150 (sh_104 hL) rfl d_M_ball_2 (fun S1 => ?_)
  refine v_iload_n (pc := 5) C d_M_ball_5 rfl 1 rfl ?_
  refine v_iconst (pc := 6) C d_M_ball_6 ic_m1 ?_
  refine v_jn (fun j => VO g Y_M_ball G (fun z => Qm g Y_M_ball G (fi L z)) 0 0 31 [(0, rf G 104), (1, .int x1), (2, .int x2)] [] L S1 (j ()) some) (?_) (fun j31 hj31 => ?_)
  · refine v_aload_n (pc := 31) C d_M_ball_31 rfl 0 rfl ?_
    refine v_iload_n (pc := 32) C d_M_ball_32 rfl 1 rfl ?_
    refine v_putI (pc := 33) C fp_M_138 (sh_104 hL) rfl d_M_ball_33 (fun S2 => ?_)
    refine v_iload_n (pc := 36) C d_M_ball_36 rfl 1 rfl ?_
    refine v_iconst (pc := 37) C d_M_ball_37 ic_m1 ?_
    refine v_icmp_eq (pc := 38) (tgt := 46) C d_M_ball_38 rfl (fun _ => ?_) (fun _ => ?_)
    · refine v_iconst (pc := 46) C d_M_ball_46 ic_1 ?_
      exact v_zret (z := (1, S2)) C d_M_ball_47 rfl (b01_n (by decide)) ⟨Nat.zero_le _, Nat.zero_le _⟩ (rfl) rfl
    · refine v_aload_n (pc := 41) C d_M_ball_41 rfl 0 rfl ?_
      refine v_iload_n (pc := 42) C d_M_ball_42 rfl 2 rfl ?_
      refine v_putI (pc := 43) C fp_M_141 (sh_104 hL) rfl d_M_ball_43 (fun S3 => ?_)
      refine v_iconst (pc := 46) C d_M_ball_46 ic_1 ?_
      exact v_zret (z := (1, S3)) C d_M_ball_47 rfl (b01_n (by decide)) ⟨Nat.zero_le _, Nat.zero_le _⟩ (rfl) rfl
  · refine v_icmp_eq (pc := 7) (tgt := 31) C d_M_ball_7 rfl (fun _ => ?_) (fun _ => ?_)
    · exact hj31
    · refine v_aload_n (pc := 10) C d_M_ball_10 rfl 0 rfl ?_
      refine v_iload_n (pc := 11) C d_M_ball_11 rfl 1 rfl ?_
      refine v_ct (pc := 12) (inv_V (As := [.int x1]) (st := []) C ml_M_180 mv_M_isCell ro_M_ball_M_isCell (sh_104 hL) rfl rfl rfl rfl (Nat.le_of_ble_eq_true rfl) d_M_ball_12) (c_M_isCell hL S1 x1) ⟨rfl, rfl⟩ ⟨Nat.zero_le _, Nat.zero_le _⟩ ?_
      refine v_if_eq (pc := 15) (tgt := 29) C d_M_ball_15 rfl (fun _ => ?_) (fun _ => ?_)
      · refine v_iconst (pc := 29) C d_M_ball_29 ic_0 ?_
        exact v_zret (z := (0, S1)) C d_M_ball_30 rfl (b01_n (by decide)) ⟨Nat.zero_le _, Nat.zero_le _⟩ (rfl) rfl
      · refine v_aload_n (pc := 18) C d_M_ball_18 rfl 0 rfl ?_
        refine v_iload_n (pc := 19) C d_M_ball_19 rfl 2 rfl ?_
        refine v_iconst (pc := 20) C d_M_ball_20 ic_1 ?_
        refine v_bipush (pc := 21) C d_M_ball_21 bp_99 ?_
        refine v_ct (pc := 23) (inv_V (As := [.int x2, .int 1, .int 99]) (st := []) C ml_M_153 mv_M_isIn ro_M_ball_M_isIn (sh_104 hL) rfl rfl rfl rfl (Nat.le_of_ble_eq_true rfl) d_M_ball_23) (c_M_isIn hL S1 x2 1 99) ⟨rfl, rfl⟩ ⟨Nat.zero_le _, Nat.zero_le _⟩ ?_
        refine v_if_ne (pc := 26) (tgt := 31) C d_M_ball_26 rfl (fun _ => ?_) (fun _ => ?_)
        · exact hj31
        · refine v_iconst (pc := 29) C d_M_ball_29 ic_0 ?_
          exact v_zret (z := (0, S1)) C d_M_ball_30 rfl (b01_n (by decide)) ⟨Nat.zero_le _, Nat.zero_le _⟩ (rfl) rfl
-- M_parts
theorem d_M_parts_0 : decode (mB Y_M_parts) 0 = .ok (.aload_n 0, 1) := by decide +kernel
theorem d_M_parts_1 : decode (mB Y_M_parts) 1 = .ok (.getfield 33, 3) := by decide +kernel
theorem d_M_parts_4 : decode (mB Y_M_parts) 4 = .ok (.iload_n 1, 1) := by decide +kernel
theorem d_M_parts_5 : decode (mB Y_M_parts) 5 = .ok (.iaload, 1) := by decide +kernel
theorem d_M_parts_6 : decode (mB Y_M_parts) 6 = .ok (.aload_n 0, 1) := by decide +kernel
theorem d_M_parts_7 : decode (mB Y_M_parts) 7 = .ok (.getfield 138, 3) := by decide +kernel
theorem d_M_parts_10 : decode (mB Y_M_parts) 10 = .ok (.if_icmp .ne 7, 3) := by decide +kernel
theorem d_M_parts_13 : decode (mB Y_M_parts) 13 = .ok (.iconst (-1), 1) := by decide +kernel
theorem d_M_parts_14 : decode (mB Y_M_parts) 14 = .ok (.goto 7, 3) := by decide +kernel
theorem d_M_parts_17 : decode (mB Y_M_parts) 17 = .ok (.aload_n 0, 1) := by decide +kernel
theorem d_M_parts_18 : decode (mB Y_M_parts) 18 = .ok (.getfield 138, 3) := by decide +kernel
theorem d_M_parts_21 : decode (mB Y_M_parts) 21 = .ok (.istore 4, 2) := by decide +kernel
theorem d_M_parts_23 : decode (mB Y_M_parts) 23 = .ok (.iconst 0, 1) := by decide +kernel
theorem d_M_parts_24 : decode (mB Y_M_parts) 24 = .ok (.istore 5, 2) := by decide +kernel
theorem d_M_parts_26 : decode (mB Y_M_parts) 26 = .ok (.iload 5, 2) := by decide +kernel
theorem d_M_parts_28 : decode (mB Y_M_parts) 28 = .ok (.aload_n 0, 1) := by decide +kernel
theorem d_M_parts_29 : decode (mB Y_M_parts) 29 = .ok (.getfield 359, 3) := by decide +kernel
theorem d_M_parts_32 : decode (mB Y_M_parts) 32 = .ok (.if_icmp .ge 72, 3) := by decide +kernel
theorem d_M_parts_35 : decode (mB Y_M_parts) 35 = .ok (.aload_n 0, 1) := by decide +kernel
theorem d_M_parts_36 : decode (mB Y_M_parts) 36 = .ok (.iload_n 2, 1) := by decide +kernel
theorem d_M_parts_37 : decode (mB Y_M_parts) 37 = .ok (.aload_n 0, 1) := by decide +kernel
theorem d_M_parts_38 : decode (mB Y_M_parts) 38 = .ok (.getfield 93, 3) := by decide +kernel
theorem d_M_parts_41 : decode (mB Y_M_parts) 41 = .ok (.iload 5, 2) := by decide +kernel
theorem d_M_parts_43 : decode (mB Y_M_parts) 43 = .ok (.iaload, 1) := by decide +kernel
theorem d_M_parts_44 : decode (mB Y_M_parts) 44 = .ok (.aload_n 0, 1) := by decide +kernel
theorem d_M_parts_45 : decode (mB Y_M_parts) 45 = .ok (.getfield 33, 3) := by decide +kernel
theorem d_M_parts_48 : decode (mB Y_M_parts) 48 = .ok (.iload_n 1, 1) := by decide +kernel
theorem d_M_parts_49 : decode (mB Y_M_parts) 49 = .ok (.iaload, 1) := by decide +kernel
theorem d_M_parts_50 : decode (mB Y_M_parts) 50 = .ok (.iconst 0, 1) := by decide +kernel
theorem d_M_parts_51 : decode (mB Y_M_parts) 51 = .ok (.iload 4, 2) := by decide +kernel
theorem d_M_parts_53 : decode (mB Y_M_parts) 53 = .ok (.aload_n 0, 1) := by decide +kernel
theorem d_M_parts_54 : decode (mB Y_M_parts) 54 = .ok (.getfield 141, 3) := by decide +kernel
theorem d_M_parts_57 : decode (mB Y_M_parts) 57 = .ok (.invokevirtual 368, 3) := by decide +kernel
theorem d_M_parts_60 : decode (mB Y_M_parts) 60 = .ok (.istore 6, 2) := by decide +kernel
theorem d_M_parts_62 : decode (mB Y_M_parts) 62 = .ok (.aload_n 0, 1) := by decide +kernel
theorem d_M_parts_63 : decode (mB Y_M_parts) 63 = .ok (.iload_n 3, 1) := by decide +kernel
theorem d_M_parts_64 : decode (mB Y_M_parts) 64 = .ok (.aload_n 0, 1) := by decide +kernel
theorem d_M_parts_65 : decode (mB Y_M_parts) 65 = .ok (.getfield 93, 3) := by decide +kernel
theorem d_M_parts_68 : decode (mB Y_M_parts) 68 = .ok (.iload 5, 2) := by decide +kernel
theorem d_M_parts_70 : decode (mB Y_M_parts) 70 = .ok (.iaload, 1) := by decide +kernel
theorem d_M_parts_71 : decode (mB Y_M_parts) 71 = .ok (.aload_n 0, 1) := by decide +kernel
theorem d_M_parts_72 : decode (mB Y_M_parts) 72 = .ok (.getfield 33, 3) := by decide +kernel
theorem d_M_parts_75 : decode (mB Y_M_parts) 75 = .ok (.iload_n 1, 1) := by decide +kernel
theorem d_M_parts_76 : decode (mB Y_M_parts) 76 = .ok (.iaload, 1) := by decide +kernel
theorem d_M_parts_77 : decode (mB Y_M_parts) 77 = .ok (.iconst 0, 1) := by decide +kernel
theorem d_M_parts_78 : decode (mB Y_M_parts) 78 = .ok (.iload 4, 2) := by decide +kernel
theorem d_M_parts_80 : decode (mB Y_M_parts) 80 = .ok (.aload_n 0, 1) := by decide +kernel
theorem d_M_parts_81 : decode (mB Y_M_parts) 81 = .ok (.getfield 141, 3) := by decide +kernel
theorem d_M_parts_84 : decode (mB Y_M_parts) 84 = .ok (.invokevirtual 368, 3) := by decide +kernel
theorem d_M_parts_87 : decode (mB Y_M_parts) 87 = .ok (.istore 7, 2) := by decide +kernel
theorem d_M_parts_89 : decode (mB Y_M_parts) 89 = .ok (.iload 6, 2) := by decide +kernel
theorem d_M_parts_91 : decode (mB Y_M_parts) 91 = .ok (.iload 7, 2) := by decide +kernel
theorem d_M_parts_93 : decode (mB Y_M_parts) 93 = .ok (.if_icmp .eq 5, 3) := by decide +kernel
theorem d_M_parts_96 : decode (mB Y_M_parts) 96 = .ok (.iconst 1, 1) := by decide +kernel
theorem d_M_parts_97 : decode (mB Y_M_parts) 97 = .ok (.ireturn, 1) := by decide +kernel
theorem d_M_parts_98 : decode (mB Y_M_parts) 98 = .ok (.iinc 5 1, 3) := by decide +kernel
theorem d_M_parts_101 : decode (mB Y_M_parts) 101 = .ok (.goto (-75), 3) := by decide +kernel
theorem d_M_parts_104 : decode (mB Y_M_parts) 104 = .ok (.iconst 0, 1) := by decide +kernel
theorem d_M_parts_105 : decode (mB Y_M_parts) 105 = .ok (.ireturn, 1) := by decide +kernel
theorem ro_M_parts_M_turnsBy : roomy Y_M_parts Y_M_turnsBy := ⟨Nat.le_of_ble_eq_true rfl, Nat.le_of_ble_eq_true rfl⟩
def r_M_parts_L26 (y1_ : Int32) (y2_ : Int32) (y3_ : Int32) (y4_ : Int32) : Nat → Int32 → Sto → Option ((Int32 × Sto) ⊕ (Int32 × Sto))
  | 0, _, _ => none
  | n + 1, x5_, S =>
    if (S 104 50) ≤ x5_ then
      some (.inl (x5_, S))
    else
      chk (inr x5_ 20) (
      chk (inr y1_ 10) (
      (r_M_turnsBy y2_ (S 129 x5_.toNatClampNeg) (S 110 y1_.toNatClampNeg) 0 y4_ (S 104 71) S).bind (fun (r1, S2) =>
      chk (inr x5_ 20) (
      chk (inr y1_ 10) (
      (r_M_turnsBy y3_ (S2 129 x5_.toNatClampNeg) (S2 110 y1_.toNatClampNeg) 0 y4_ (S2 104 71) S2).bind (fun (r3, S4) =>
      if r1 = r3 then
        lt (x5_ + 1) (fun v5 =>
        r_M_parts_L26 y1_ y2_ y3_ y4_ n v5 S4)
      else
        some (.inr (1, S4))))))))
set_option maxHeartbeats 4000000 in
set_option maxRecDepth 20000 in
theorem w_M_parts_L26 {g : Gm} {G : Gl} {L : Shp} (C : Cx g Y_M_parts G) (hL : Ext L) (y1_ : Int32) (y2_ : Int32) (y3_ : Int32) (y4_ : Int32)  :
    ∀ (n : Nat) (x5_ : Int32) (S : Sto) (K : ((Int32 × Sto) ⊕ (Int32 × Sto)) → Option (Int32 × Sto)), (∀ (x5_ : Int32) (S : Sto), VO g Y_M_parts G (fun z => Qm g Y_M_parts G (fi L z)) 0 0 104 [] [] L S (some (.inl (x5_, S))) K) → (∀ x, K (.inr x) = some x) → VO g Y_M_parts G (fun z => Qm g Y_M_parts G (fi L z)) 0 0 26 [(0, rf G 104), (1, .int y1_), (2, .int y2_), (3, .int y3_), (4, .int y4_), (5, .int x5_)] [] L S (r_M_parts_L26 y1_ y2_ y3_ y4_ n x5_ S) K := by
  intro n
  induction n with
  | zero => intro x5_ S K; intros; exact v_none
  | succ n ih =>
    intro x5_ S K hK hR
    rw [r_M_parts_L26]
    refine v_iload (pc := 26) C d_M_parts_26 5 rfl ?_
    refine v_aload_n (pc := 28) C d_M_parts_28 rfl 0 rfl ?_
    refine v_getI (pc := 29) C fl_M_359 (sh_104 hL) rfl d_M_parts_29 ?_
    refine v_icmp_ge (pc := 32) (tgt := 104) C d_M_parts_32 rfl (fun _ => ?_) (fun _ => ?_)
    · refine v_sub [] rfl ?_
      exact hK x5_ S
    · refine v_aload_n (pc := 35) C d_M_parts_35 rfl 0 rfl ?_
      refine v_iload_n (pc := 36) C d_M_parts_36 rfl 2 rfl ?_
      refine v_aload_n (pc := 37) C d_M_parts_37 rfl 0 rfl ?_
      refine v_getR (pc := 38) C fl_M_93 (sh_104 hL) rfl d_M_parts_38 ?_
      refine v_iload (pc := 41) C d_M_parts_41 5 rfl ?_
      refine v_iald (pc := 43) C (sh_129 hL) d_M_parts_43 (fun _ => ?_)
      refine v_aload_n (pc := 44) C d_M_parts_44 rfl 0 rfl ?_
      refine v_getR (pc := 45) C fl_M_33 (sh_104 hL) rfl d_M_parts_45 ?_
      refine v_iload_n (pc := 48) C d_M_parts_48 rfl 1 rfl ?_
      refine v_iald (pc := 49) C (sh_110 hL) d_M_parts_49 (fun _ => ?_)
      refine v_iconst (pc := 50) C d_M_parts_50 ic_0 ?_
      refine v_iload (pc := 51) C d_M_parts_51 4 rfl ?_
      refine v_aload_n (pc := 53) C d_M_parts_53 rfl 0 rfl ?_
      refine v_getI (pc := 54) C fl_M_141 (sh_104 hL) rfl d_M_parts_54 ?_
      refine v_ci (pc := 57) (inv_V (As := [.int y2_, .int (S 129 x5_.toNatClampNeg), .int (S 110 y1_.toNatClampNeg), .int 0, .int y4_, .int (S 104 71)]) (st := []) C ml_M_368 mv_M_turnsBy ro_M_parts_M_turnsBy (sh_104 hL) rfl rfl rfl rfl (Nat.le_of_ble_eq_true rfl) d_M_parts_57) (c_M_turnsBy hL S y2_ (S 129 x5_.toNatClampNeg) (S 110 y1_.toNatClampNeg) 0 y4_ (S 104 71)) ⟨rfl, rfl⟩ ⟨Nat.zero_le _, Nat.zero_le _⟩ (fun r1 S2 => ?_)
      refine v_istore (pc := 60) (lv' := [(6, .int r1), (0, rf G 104), (1, .int y1_), (2, .int y2_), (3, .int y3_), (4, .int y4_), (5, .int x5_)]) C d_M_parts_60 (by decide) rfl ?_
      refine v_aload_n (pc := 62) C d_M_parts_62 rfl 1 rfl ?_
      refine v_iload_n (pc := 63) C d_M_parts_63 rfl 4 rfl ?_
      refine v_aload_n (pc := 64) C d_M_parts_64 rfl 1 rfl ?_
      refine v_getR (pc := 65) C fl_M_93 (sh_104 hL) rfl d_M_parts_65 ?_
      refine v_iload (pc := 68) C d_M_parts_68 6 rfl ?_
      refine v_iald (pc := 70) C (sh_129 hL) d_M_parts_70 (fun _ => ?_)
      refine v_aload_n (pc := 71) C d_M_parts_71 rfl 1 rfl ?_
      refine v_getR (pc := 72) C fl_M_33 (sh_104 hL) rfl d_M_parts_72 ?_
      refine v_iload_n (pc := 75) C d_M_parts_75 rfl 2 rfl ?_
      refine v_iald (pc := 76) C (sh_110 hL) d_M_parts_76 (fun _ => ?_)
      refine v_iconst (pc := 77) C d_M_parts_77 ic_0 ?_
      refine v_iload (pc := 78) C d_M_parts_78 5 rfl ?_
      refine v_aload_n (pc := 80) C d_M_parts_80 rfl 1 rfl ?_
      refine v_getI (pc := 81) C fl_M_141 (sh_104 hL) rfl d_M_parts_81 ?_
      refine v_ci (pc := 84) (inv_V (As := [.int y3_, .int (S2 129 x5_.toNatClampNeg), .int (S2 110 y1_.toNatClampNeg), .int 0, .int y4_, .int (S2 104 71)]) (st := []) C ml_M_368 mv_M_turnsBy ro_M_parts_M_turnsBy (sh_104 hL) rfl rfl rfl rfl (Nat.le_of_ble_eq_true rfl) d_M_parts_84) (c_M_turnsBy hL S2 y3_ (S2 129 x5_.toNatClampNeg) (S2 110 y1_.toNatClampNeg) 0 y4_ (S2 104 71)) ⟨rfl, rfl⟩ ⟨Nat.zero_le _, Nat.zero_le _⟩ (fun r3 S4 => ?_)
      refine v_istore (pc := 87) (lv' := [(7, .int r3), (6, .int r1), (0, rf G 104), (1, .int y1_), (2, .int y2_), (3, .int y3_), (4, .int y4_), (5, .int x5_)]) C d_M_parts_87 (by decide) rfl ?_
      refine v_iload (pc := 89) C d_M_parts_89 1 rfl ?_
      refine v_iload (pc := 91) C d_M_parts_91 0 rfl ?_
      refine v_icmp_eq (pc := 93) (tgt := 98) C d_M_parts_93 rfl (fun _ => ?_) (fun _ => ?_)
      · refine v_iinc (pc := 98) (p := 7) (c := 1) C d_M_parts_98 rfl (by decide) (by decide) (fun v5 => [(5, .int v5), (7, .int r3), (6, .int r1), (0, rf G 104), (1, .int y1_), (2, .int y2_), (3, .int y3_), (4, .int y4_)]) (fun _ => rfl) (fun v5 => ?_)
        refine v_goto (pc := 101) (tgt := 26) C d_M_parts_101 rfl ?_
        refine v_sub [3, 4, 5, 6, 7, 0] rfl ?_
        exact ih v5 S4 K hK hR
      · refine v_iconst (pc := 96) C d_M_parts_96 ic_1 ?_
        exact v_zret (z := (1, S4)) C d_M_parts_97 rfl (b01_n (by decide)) ⟨Nat.zero_le _, Nat.zero_le _⟩ (hR _) rfl
def r_M_parts (x1 : Int32) (x2 : Int32) (x3 : Int32) (S : Sto) : Option (Int32 × Sto) :=
  chk (inr x1 10) (
  jn (fun (v1 : Int32) =>
    (r_M_parts_L26 x1 x2 x3 v1 fu 0 S).bind (fun x => match x with
    | .inl (v2, S3) =>
      some (0, S3)
    | .inr r => some r)) (fun j21 =>
  if (S 110 x1.toNatClampNeg) = (S 104 70) then
    j21 ((-1))
  else
    j21 (S 104 70)))
set_option maxHeartbeats 4000000 in
set_option maxRecDepth 20000 in
theorem c_M_parts {G : Gl} {L : Shp} (hL : Ext L) (S : Sto) (x1 : Int32) (x2 : Int32) (x3 : Int32)  : Ct Y_M_parts G [rf G 104, .int x1, .int x2, .int x3] L S (fi L) (r_M_parts x1 x2 x3 S) := by
  refine ct_of (by decide +kernel) (Nat.le_of_ble_eq_true rfl) (fun g C => ?_)
  show VO g Y_M_parts G (fun z => Qm g Y_M_parts G (fi L z)) 0 0 0 [(0, rf G 104), (1, .int x1), (2, .int x2), (3, .int x3)] [] L S (r_M_parts x1 x2 x3 S) some
  unfold r_M_parts
  refine v_aload_n (pc := 0) C d_M_parts_0 rfl 0 rfl ?_
  refine v_getR (pc := 1) C fl_M_33 (sh_104 hL) rfl d_M_parts_1 ?_
  refine v_iload_n (pc := 4) C d_M_parts_4 rfl 1 rfl ?_
  refine v_iald (pc := 5) C (sh_110 hL) d_M_parts_5 (fun _ => ?_)
  refine v_aload_n (pc := 6) C d_M_parts_6 rfl 0 rfl ?_
  refine v_getI (pc := 7) C fl_M_138 (sh_104 hL) rfl d_M_parts_7 ?_
  refine v_jn (fun j => ∀ (v1 : Int32), VO g Y_M_parts G (fun z => Qm g Y_M_parts G (fi L z)) 0 0 21 [(0, rf G 104), (1, .int x1), (2, .int x2), (3, .int x3)] [.int v1] L S (j (v1)) some) (fun v1 => ?_) (fun j21 hj21 => ?_)
  · refine v_istore (pc := 21) (lv' := [(4, .int v1), (0, rf G 104), (1, .int x1), (2, .int x2), (3, .int x3)]) C d_M_parts_21 (by decide) rfl ?_
    refine v_iconst (pc := 23) C d_M_parts_23 ic_0 ?_
    refine v_istore (pc := 24) (lv' := [(5, .int 0), (4, .int v1), (0, rf G 104), (1, .int x1), (2, .int x2), (3, .int x3)]) C d_M_parts_24 (by decide) rfl ?_
    refine v_sub [2, 3, 4, 5, 1, 0] rfl ?_
    refine v_bind ?_
    refine w_M_parts_L26 C hL x1 x2 x3 v1  fu 0 S _ (fun v2 S3 => ?_) (fun z => rfl)
    refine v_some ?_
    refine v_iconst (pc := 104) C d_M_parts_104 ic_0 ?_
    exact v_zret (z := (0, S3)) C d_M_parts_105 rfl (b01_n (by decide)) ⟨Nat.zero_le _, Nat.zero_le _⟩ (rfl) rfl
  · refine v_icmp_ne (pc := 10) (tgt := 17) C d_M_parts_10 rfl (fun _ => ?_) (fun _ => ?_)
    · refine v_aload_n (pc := 17) C d_M_parts_17 rfl 0 rfl ?_
      refine v_getI (pc := 18) C fl_M_138 (sh_104 hL) rfl d_M_parts_18 ?_
      exact hj21 (S 104 70)
    · refine v_iconst (pc := 13) C d_M_parts_13 ic_m1 ?_
      refine v_goto (pc := 14) (tgt := 21) C d_M_parts_14 rfl ?_
      exact hj21 (-1)
-- M_there
theorem d_M_there_0 : decode (mB Y_M_there) 0 = .ok (.iconst 0, 1) := by decide +kernel
theorem d_M_there_1 : decode (mB Y_M_there) 1 = .ok (.istore_n 1, 1) := by decide +kernel
theorem d_M_there_2 : decode (mB Y_M_there) 2 = .ok (.iconst 0, 1) := by decide +kernel
theorem d_M_there_3 : decode (mB Y_M_there) 3 = .ok (.istore_n 2, 1) := by decide +kernel
theorem d_M_there_4 : decode (mB Y_M_there) 4 = .ok (.iload_n 2, 1) := by decide +kernel
theorem d_M_there_5 : decode (mB Y_M_there) 5 = .ok (.bipush 10, 2) := by decide +kernel
theorem d_M_there_7 : decode (mB Y_M_there) 7 = .ok (.if_icmp .ge 23, 3) := by decide +kernel
theorem d_M_there_10 : decode (mB Y_M_there) 10 = .ok (.aload_n 0, 1) := by decide +kernel
theorem d_M_there_11 : decode (mB Y_M_there) 11 = .ok (.iload_n 2, 1) := by decide +kernel
theorem d_M_there_12 : decode (mB Y_M_there) 12 = .ok (.invokevirtual 406, 3) := by decide +kernel
theorem d_M_there_15 : decode (mB Y_M_there) 15 = .ok (.ifCond .eq 9, 3) := by decide +kernel
theorem d_M_there_18 : decode (mB Y_M_there) 18 = .ok (.iload_n 1, 1) := by decide +kernel
theorem d_M_there_19 : decode (mB Y_M_there) 19 = .ok (.iconst 1, 1) := by decide +kernel
theorem d_M_there_20 : decode (mB Y_M_there) 20 = .ok (.iload_n 2, 1) := by decide +kernel
theorem d_M_there_21 : decode (mB Y_M_there) 21 = .ok (.ishl, 1) := by decide +kernel
theorem d_M_there_22 : decode (mB Y_M_there) 22 = .ok (.ior, 1) := by decide +kernel
theorem d_M_there_23 : decode (mB Y_M_there) 23 = .ok (.istore_n 1, 1) := by decide +kernel
theorem d_M_there_24 : decode (mB Y_M_there) 24 = .ok (.iinc 2 1, 3) := by decide +kernel
theorem d_M_there_27 : decode (mB Y_M_there) 27 = .ok (.goto (-23), 3) := by decide +kernel
theorem d_M_there_30 : decode (mB Y_M_there) 30 = .ok (.iload_n 1, 1) := by decide +kernel
theorem d_M_there_31 : decode (mB Y_M_there) 31 = .ok (.ireturn, 1) := by decide +kernel
theorem ro_M_there_M_isSpot : roomy Y_M_there Y_M_isSpot := ⟨Nat.le_of_ble_eq_true rfl, Nat.le_of_ble_eq_true rfl⟩
def r_M_there_L4  : Nat → Int32 → Int32 → Sto → Option (Int32 × Int32)
  | 0, _, _, _ => none
  | n + 1, x1_, x2_, S =>
    if 10 ≤ x2_ then
      some (x1_, x2_)
    else
      (r_M_isSpot x2_ S).bind (fun r1 =>
      jn (fun (v2 : Int32) =>
        lt (x2_ + 1) (fun v3 =>
        r_M_there_L4 n v2 v3 S)) (fun j24 =>
      if r1 = 0 then
        j24 (x1_)
      else
        lt (x1_ ||| (1 <<< (x2_ &&& 31))) (fun v4 =>
        j24 (v4))))
set_option maxHeartbeats 4000000 in
set_option maxRecDepth 20000 in
theorem w_M_there_L4 {g : Gm} {G : Gl} {L : Shp} (C : Cx g Y_M_there G) (hL : Ext L) (S : Sto)  :
    ∀ (n : Nat) (x1_ : Int32) (x2_ : Int32) (K : (Int32 × Int32) → Option Int32), (∀ (x1_ : Int32) (x2_ : Int32), VO g Y_M_there G (fun z => Qm g Y_M_there G (fp L S z)) 0 0 30 [(1, .int x1_)] [] L S (some (x1_, x2_)) K) → VO g Y_M_there G (fun z => Qm g Y_M_there G (fp L S z)) 0 0 4 [(0, rf G 104), (1, .int x1_), (2, .int x2_)] [] L S (r_M_there_L4 n x1_ x2_ S) K := by
  intro n
  induction n with
  | zero => intro x1_ x2_ K; intros; exact v_none
  | succ n ih =>
    intro x1_ x2_ K hK
    rw [r_M_there_L4]
    refine v_iload_n (pc := 4) C d_M_there_4 rfl 2 rfl ?_
    refine v_bipush (pc := 5) C d_M_there_5 bp_10 ?_
    refine v_icmp_ge (pc := 7) (tgt := 30) C d_M_there_7 rfl (fun _ => ?_) (fun _ => ?_)
    · refine v_sub [1] rfl ?_
      exact hK x1_ x2_
    · refine v_aload_n (pc := 10) C d_M_there_10 rfl 0 rfl ?_
      refine v_iload_n (pc := 11) C d_M_there_11 rfl 2 rfl ?_
      refine v_cp (pc := 12) (inv_V (As := [.int x2_]) (st := []) C ml_M_406 mv_M_isSpot ro_M_there_M_isSpot (sh_104 hL) rfl rfl rfl rfl (Nat.le_of_ble_eq_true rfl) d_M_there_12) (c_M_isSpot hL S x2_) ⟨rfl, rfl⟩ ⟨Nat.zero_le _, Nat.zero_le _⟩ (fun r1 => ?_)
      refine v_jn (fun j => ∀ (v2 : Int32), VO g Y_M_there G (fun z => Qm g Y_M_there G (fp L S z)) 0 0 24 [(0, rf G 104), (1, .int v2), (2, .int x2_)] [] L S (j (v2)) K) (fun v2 => ?_) (fun j24 hj24 => ?_)
      · refine v_iinc (pc := 24) (p := 2) (c := 1) C d_M_there_24 rfl (by decide) (by decide) (fun v3 => [(2, .int v3), (0, rf G 104), (1, .int v2)]) (fun _ => rfl) (fun v3 => ?_)
        refine v_goto (pc := 27) (tgt := 4) C d_M_there_27 rfl ?_
        refine v_sub [1, 2, 0] rfl ?_
        exact ih v2 v3 K hK
      · refine v_if_eq (pc := 15) (tgt := 24) C d_M_there_15 rfl (fun _ => ?_) (fun _ => ?_)
        · exact hj24 x1_
        · refine v_iload_n (pc := 18) C d_M_there_18 rfl 1 rfl ?_
          refine v_iconst (pc := 19) C d_M_there_19 ic_1 ?_
          refine v_iload_n (pc := 20) C d_M_there_20 rfl 2 rfl ?_
          refine v_ishl (pc := 21) C d_M_there_21 ?_
          refine v_ior (pc := 22) C d_M_there_22 ?_
          refine v_lt (fun v4 => ?_)
          refine v_istore_n (pc := 23) (lv' := [(1, .int v4), (0, rf G 104), (2, .int x2_)]) C d_M_there_23 rfl (by decide) rfl ?_
          refine v_sub [1, 0, 2] rfl ?_
          exact hj24 v4
def r_M_there  (S : Sto) : Option Int32 :=
  (r_M_there_L4 fu 0 0 S).bind (fun (v1, v2) =>
  some v1)
set_option maxHeartbeats 4000000 in
set_option maxRecDepth 20000 in
theorem c_M_there {G : Gl} {L : Shp} (hL : Ext L) (S : Sto)   : Ct Y_M_there G [rf G 104] L S (fp L S) (r_M_there S) := by
  refine ct_of (by decide +kernel) (Nat.le_of_ble_eq_true rfl) (fun g C => ?_)
  show VO g Y_M_there G (fun z => Qm g Y_M_there G (fp L S z)) 0 0 0 [(0, rf G 104)] [] L S (r_M_there S) some
  unfold r_M_there
  refine v_iconst (pc := 0) C d_M_there_0 ic_0 ?_
  refine v_istore_n (pc := 1) (lv' := [(1, .int 0), (0, rf G 104)]) C d_M_there_1 rfl (by decide) rfl ?_
  refine v_iconst (pc := 2) C d_M_there_2 ic_0 ?_
  refine v_istore_n (pc := 3) (lv' := [(2, .int 0), (1, .int 0), (0, rf G 104)]) C d_M_there_3 rfl (by decide) rfl ?_
  refine v_sub [2, 1, 0] rfl ?_
  refine v_bind ?_
  refine w_M_there_L4 C hL S  fu 0 0 _ (fun v1 v2 => ?_) 
  refine v_some ?_
  refine v_iload_n (pc := 30) C d_M_there_30 rfl 0 rfl ?_
  exact v_iret (z := v1) C d_M_there_31 rfl ⟨Nat.zero_le _, Nat.zero_le _⟩ (rfl) rfl
