-- M_readLine
theorem d_M_readLine_0 : decode (mB Y_M_readLine) 0 = .ok (.aload_n 0, 1) := by decide +kernel
theorem d_M_readLine_1 : decode (mB Y_M_readLine) 1 = .ok (.getfield 289, 3) := by decide +kernel
theorem d_M_readLine_4 : decode (mB Y_M_readLine) 4 = .ok (.ifCond .ne 34, 3) := by decide +kernel
theorem d_M_readLine_7 : decode (mB Y_M_readLine) 7 = .ok (.aload_n 0, 1) := by decide +kernel
theorem d_M_readLine_8 : decode (mB Y_M_readLine) 8 = .ok (.invokevirtual 303, 3) := by decide +kernel
theorem d_M_readLine_11 : decode (mB Y_M_readLine) 11 = .ok (.aload_n 0, 1) := by decide +kernel
theorem d_M_readLine_12 : decode (mB Y_M_readLine) 12 = .ok (.getfield 261, 3) := by decide +kernel
theorem d_M_readLine_15 : decode (mB Y_M_readLine) 15 = .ok (.iconst 2, 1) := by decide +kernel
theorem d_M_readLine_16 : decode (mB Y_M_readLine) 16 = .ok (.if_icmp .ne 16, 3) := by decide +kernel
theorem d_M_readLine_19 : decode (mB Y_M_readLine) 19 = .ok (.aload_n 0, 1) := by decide +kernel
theorem d_M_readLine_20 : decode (mB Y_M_readLine) 20 = .ok (.aload_n 0, 1) := by decide +kernel
theorem d_M_readLine_21 : decode (mB Y_M_readLine) 21 = .ok (.getfield 264, 3) := by decide +kernel
theorem d_M_readLine_24 : decode (mB Y_M_readLine) 24 = .ok (.iconst 1, 1) := by decide +kernel
theorem d_M_readLine_25 : decode (mB Y_M_readLine) 25 = .ok (.iconst 4, 1) := by decide +kernel
theorem d_M_readLine_26 : decode (mB Y_M_readLine) 26 = .ok (.invokevirtual 153, 3) := by decide +kernel
theorem d_M_readLine_29 : decode (mB Y_M_readLine) 29 = .ok (.ifCond .ne 9, 3) := by decide +kernel
theorem d_M_readLine_32 : decode (mB Y_M_readLine) 32 = .ok (.aload_n 0, 1) := by decide +kernel
theorem d_M_readLine_33 : decode (mB Y_M_readLine) 33 = .ok (.iconst 1, 1) := by decide +kernel
theorem d_M_readLine_34 : decode (mB Y_M_readLine) 34 = .ok (.invokevirtual 297, 3) := by decide +kernel
theorem d_M_readLine_37 : decode (mB Y_M_readLine) 37 = .ok (.ireturn, 1) := by decide +kernel
theorem d_M_readLine_38 : decode (mB Y_M_readLine) 38 = .ok (.aload_n 0, 1) := by decide +kernel
theorem d_M_readLine_39 : decode (mB Y_M_readLine) 39 = .ok (.getfield 66, 3) := by decide +kernel
theorem d_M_readLine_42 : decode (mB Y_M_readLine) 42 = .ok (.iload_n 1, 1) := by decide +kernel
theorem d_M_readLine_43 : decode (mB Y_M_readLine) 43 = .ok (.aload_n 0, 1) := by decide +kernel
theorem d_M_readLine_44 : decode (mB Y_M_readLine) 44 = .ok (.getfield 264, 3) := by decide +kernel
theorem d_M_readLine_47 : decode (mB Y_M_readLine) 47 = .ok (.iastore, 1) := by decide +kernel
theorem d_M_readLine_48 : decode (mB Y_M_readLine) 48 = .ok (.aload_n 0, 1) := by decide +kernel
theorem d_M_readLine_49 : decode (mB Y_M_readLine) 49 = .ok (.invokevirtual 303, 3) := by decide +kernel
theorem d_M_readLine_52 : decode (mB Y_M_readLine) 52 = .ok (.aload_n 0, 1) := by decide +kernel
theorem d_M_readLine_53 : decode (mB Y_M_readLine) 53 = .ok (.iconst 5, 1) := by decide +kernel
theorem d_M_readLine_54 : decode (mB Y_M_readLine) 54 = .ok (.invokevirtual 324, 3) := by decide +kernel
theorem d_M_readLine_57 : decode (mB Y_M_readLine) 57 = .ok (.ifCond .ne 9, 3) := by decide +kernel
theorem d_M_readLine_60 : decode (mB Y_M_readLine) 60 = .ok (.aload_n 0, 1) := by decide +kernel
theorem d_M_readLine_61 : decode (mB Y_M_readLine) 61 = .ok (.iconst 1, 1) := by decide +kernel
theorem d_M_readLine_62 : decode (mB Y_M_readLine) 62 = .ok (.invokevirtual 297, 3) := by decide +kernel
theorem d_M_readLine_65 : decode (mB Y_M_readLine) 65 = .ok (.ireturn, 1) := by decide +kernel
theorem d_M_readLine_66 : decode (mB Y_M_readLine) 66 = .ok (.aload_n 0, 1) := by decide +kernel
theorem d_M_readLine_67 : decode (mB Y_M_readLine) 67 = .ok (.invokevirtual 303, 3) := by decide +kernel
theorem d_M_readLine_70 : decode (mB Y_M_readLine) 70 = .ok (.aload_n 0, 1) := by decide +kernel
theorem d_M_readLine_71 : decode (mB Y_M_readLine) 71 = .ok (.getfield 69, 3) := by decide +kernel
theorem d_M_readLine_74 : decode (mB Y_M_readLine) 74 = .ok (.iload_n 1, 1) := by decide +kernel
theorem d_M_readLine_75 : decode (mB Y_M_readLine) 75 = .ok (.aload_n 0, 1) := by decide +kernel
theorem d_M_readLine_76 : decode (mB Y_M_readLine) 76 = .ok (.getfield 286, 3) := by decide +kernel
theorem d_M_readLine_79 : decode (mB Y_M_readLine) 79 = .ok (.iastore, 1) := by decide +kernel
theorem d_M_readLine_80 : decode (mB Y_M_readLine) 80 = .ok (.aload_n 0, 1) := by decide +kernel
theorem d_M_readLine_81 : decode (mB Y_M_readLine) 81 = .ok (.invokevirtual 336, 3) := by decide +kernel
theorem d_M_readLine_84 : decode (mB Y_M_readLine) 84 = .ok (.iconst (-1), 1) := by decide +kernel
theorem d_M_readLine_85 : decode (mB Y_M_readLine) 85 = .ok (.if_icmp .ne 5, 3) := by decide +kernel
theorem d_M_readLine_88 : decode (mB Y_M_readLine) 88 = .ok (.iconst (-1), 1) := by decide +kernel
theorem d_M_readLine_89 : decode (mB Y_M_readLine) 89 = .ok (.ireturn, 1) := by decide +kernel
theorem d_M_readLine_90 : decode (mB Y_M_readLine) 90 = .ok (.aload_n 0, 1) := by decide +kernel
theorem d_M_readLine_91 : decode (mB Y_M_readLine) 91 = .ok (.getfield 72, 3) := by decide +kernel
theorem d_M_readLine_94 : decode (mB Y_M_readLine) 94 = .ok (.iload_n 1, 1) := by decide +kernel
theorem d_M_readLine_95 : decode (mB Y_M_readLine) 95 = .ok (.aload_n 0, 1) := by decide +kernel
theorem d_M_readLine_96 : decode (mB Y_M_readLine) 96 = .ok (.getfield 286, 3) := by decide +kernel
theorem d_M_readLine_99 : decode (mB Y_M_readLine) 99 = .ok (.iastore, 1) := by decide +kernel
theorem d_M_readLine_100 : decode (mB Y_M_readLine) 100 = .ok (.aload_n 0, 1) := by decide +kernel
theorem d_M_readLine_101 : decode (mB Y_M_readLine) 101 = .ok (.bipush 59, 2) := by decide +kernel
theorem d_M_readLine_103 : decode (mB Y_M_readLine) 103 = .ok (.invokevirtual 309, 3) := by decide +kernel
theorem d_M_readLine_106 : decode (mB Y_M_readLine) 106 = .ok (.ifCond .ne 9, 3) := by decide +kernel
theorem d_M_readLine_109 : decode (mB Y_M_readLine) 109 = .ok (.aload_n 0, 1) := by decide +kernel
theorem d_M_readLine_110 : decode (mB Y_M_readLine) 110 = .ok (.iconst 1, 1) := by decide +kernel
theorem d_M_readLine_111 : decode (mB Y_M_readLine) 111 = .ok (.invokevirtual 297, 3) := by decide +kernel
theorem d_M_readLine_114 : decode (mB Y_M_readLine) 114 = .ok (.ireturn, 1) := by decide +kernel
theorem d_M_readLine_115 : decode (mB Y_M_readLine) 115 = .ok (.aload_n 0, 1) := by decide +kernel
theorem d_M_readLine_116 : decode (mB Y_M_readLine) 116 = .ok (.invokevirtual 303, 3) := by decide +kernel
theorem d_M_readLine_119 : decode (mB Y_M_readLine) 119 = .ok (.iconst 0, 1) := by decide +kernel
theorem d_M_readLine_120 : decode (mB Y_M_readLine) 120 = .ok (.ireturn, 1) := by decide +kernel
theorem ro_M_readLine_M_fails : roomy Y_M_readLine Y_M_fails := ⟨Nat.le_of_ble_eq_true rfl, Nat.le_of_ble_eq_true rfl⟩
theorem ro_M_readLine_M_isIn : roomy Y_M_readLine Y_M_isIn := ⟨Nat.le_of_ble_eq_true rfl, Nat.le_of_ble_eq_true rfl⟩
theorem ro_M_readLine_M_isSign : roomy Y_M_readLine Y_M_isSign := ⟨Nat.le_of_ble_eq_true rfl, Nat.le_of_ble_eq_true rfl⟩
theorem ro_M_readLine_M_isWord : roomy Y_M_readLine Y_M_isWord := ⟨Nat.le_of_ble_eq_true rfl, Nat.le_of_ble_eq_true rfl⟩
theorem ro_M_readLine_M_readAny : roomy Y_M_readLine Y_M_readAny := ⟨Nat.le_of_ble_eq_true rfl, Nat.le_of_ble_eq_true rfl⟩
theorem ro_M_readLine_M_reads : roomy Y_M_readLine Y_M_reads := ⟨Nat.le_of_ble_eq_true rfl, Nat.le_of_ble_eq_true rfl⟩
def r_M_readLine (x1 : Int32) (S : Sto) : Option (Int32 × Sto) :=
  jn (fun (S1 : Sto) =>
    chk (inr x1 72) (
    ltS (sw S1 121 x1.toNatClampNeg (S1 104 31)) (fun S2 =>
    (r_M_reads S2).bind (fun S3 =>
    if (r_M_isWord 5 S3) = 0 then
      (r_M_fails 1 S3).bind (fun (r12, S13) =>
      some (r12, S13))
    else
      (r_M_reads S3).bind (fun S4 =>
      chk (inr x1 72) (
      ltS (sw S4 122 x1.toNatClampNeg (S4 104 40)) (fun S5 =>
      (r_M_readAny S5).bind (fun (r6, S7) =>
      if r6 = (-1) then
        some ((-1), S7)
      else
        chk (inr x1 72) (
        ltS (sw S7 123 x1.toNatClampNeg (S7 104 40)) (fun S8 =>
        if (r_M_isSign 59 S8) = 0 then
          (r_M_fails 1 S8).bind (fun (r10, S11) =>
          some (r10, S11))
        else
          (r_M_reads S8).bind (fun S9 =>
          some (0, S9)))))))))))) (fun j38 =>
  if (S 104 39) = 0 then
    (r_M_reads S).bind (fun S14 =>
    jn (fun (_ : Unit) =>
      (r_M_fails 1 S14).bind (fun (r15, S16) =>
      some (r15, S16))) (fun j32 =>
    if (S14 104 30) = 2 then
      if (r_M_isIn (S14 104 31) 1 4) = 0 then
        j32 ()
      else
        j38 (S14)
    else
      j32 ()))
  else
    j38 (S))
set_option maxHeartbeats 4000000 in
set_option maxRecDepth 20000 in
theorem c_M_readLine {G : Gl} {L : Shp} (hL : Ext L) (S : Sto) (x1 : Int32)  : Ct Y_M_readLine G [rf G 104, .int x1] L S (fi L) (r_M_readLine x1 S) := by
  refine ct_of (by decide +kernel) (Nat.le_of_ble_eq_true rfl) (fun g C => ?_)
  show VO g Y_M_readLine G (fun z => Qm g Y_M_readLine G (fi L z)) 0 0 0 [(0, rf G 104), (1, .int x1)] [] L S (r_M_readLine x1 S) some
  unfold r_M_readLine
  refine v_aload_n (pc := 0) C d_M_readLine_0 rfl 0 rfl ?_
  refine v_getI (pc := 1) C fl_M_289 (sh_104 hL) rfl d_M_readLine_1 ?_
  refine v_jn (fun j => ∀ (S1 : Sto), VO g Y_M_readLine G (fun z => Qm g Y_M_readLine G (fi L z)) 0 0 38 [(0, rf G 104), (1, .int x1)] [] L S1 (j (S1)) some) (fun S1 => ?_) (fun j38 hj38 => ?_)
  · refine v_aload_n (pc := 38) C d_M_readLine_38 rfl 0 rfl ?_
    refine v_getR (pc := 39) C fl_M_66 (sh_104 hL) rfl d_M_readLine_39 ?_
    refine v_iload_n (pc := 42) C d_M_readLine_42 rfl 1 rfl ?_
    refine v_aload_n (pc := 43) C d_M_readLine_43 rfl 0 rfl ?_
    refine v_getI (pc := 44) C fl_M_264 (sh_104 hL) rfl d_M_readLine_44 ?_
    refine v_iast (pc := 47) C (sh_121 hL) d_M_readLine_47 (fun _ S2 => ?_)
    refine v_aload_n (pc := 48) C d_M_readLine_48 rfl 0 rfl ?_
    refine v_cv (pc := 49) (inv_V (As := []) (st := []) C ml_M_303 mv_M_reads ro_M_readLine_M_reads (sh_104 hL) rfl rfl rfl rfl (Nat.le_of_ble_eq_true rfl) d_M_readLine_49) (c_M_reads hL S2) ⟨rfl, rfl⟩ ⟨Nat.zero_le _, Nat.zero_le _⟩ (fun S3 => ?_)
    refine v_aload_n (pc := 52) C d_M_readLine_52 rfl 0 rfl ?_
    refine v_iconst (pc := 53) C d_M_readLine_53 ic_5 ?_
    refine v_ct (pc := 54) (inv_V (As := [.int 5]) (st := []) C ml_M_324 mv_M_isWord ro_M_readLine_M_isWord (sh_104 hL) rfl rfl rfl rfl (Nat.le_of_ble_eq_true rfl) d_M_readLine_54) (c_M_isWord hL S3 5) ⟨rfl, rfl⟩ ⟨Nat.zero_le _, Nat.zero_le _⟩ ?_
    refine v_if_ne (pc := 57) (tgt := 66) C d_M_readLine_57 rfl (fun _ => ?_) (fun _ => ?_)
    · refine v_aload_n (pc := 66) C d_M_readLine_66 rfl 0 rfl ?_
      refine v_cv (pc := 67) (inv_V (As := []) (st := []) C ml_M_303 mv_M_reads ro_M_readLine_M_reads (sh_104 hL) rfl rfl rfl rfl (Nat.le_of_ble_eq_true rfl) d_M_readLine_67) (c_M_reads hL S3) ⟨rfl, rfl⟩ ⟨Nat.zero_le _, Nat.zero_le _⟩ (fun S4 => ?_)
      refine v_aload_n (pc := 70) C d_M_readLine_70 rfl 0 rfl ?_
      refine v_getR (pc := 71) C fl_M_69 (sh_104 hL) rfl d_M_readLine_71 ?_
      refine v_iload_n (pc := 74) C d_M_readLine_74 rfl 1 rfl ?_
      refine v_aload_n (pc := 75) C d_M_readLine_75 rfl 0 rfl ?_
      refine v_getI (pc := 76) C fl_M_286 (sh_104 hL) rfl d_M_readLine_76 ?_
      refine v_iast (pc := 79) C (sh_122 hL) d_M_readLine_79 (fun _ S5 => ?_)
      refine v_aload_n (pc := 80) C d_M_readLine_80 rfl 0 rfl ?_
      refine v_ci (pc := 81) (inv_V (As := []) (st := []) C ml_M_336 mv_M_readAny ro_M_readLine_M_readAny (sh_104 hL) rfl rfl rfl rfl (Nat.le_of_ble_eq_true rfl) d_M_readLine_81) (c_M_readAny hL S5) ⟨rfl, rfl⟩ ⟨Nat.zero_le _, Nat.zero_le _⟩ (fun r6 S7 => ?_)
      refine v_iconst (pc := 84) C d_M_readLine_84 ic_m1 ?_
      refine v_icmp_ne (pc := 85) (tgt := 90) C d_M_readLine_85 rfl (fun _ => ?_) (fun _ => ?_)
      · refine v_aload_n (pc := 90) C d_M_readLine_90 rfl 0 rfl ?_
        refine v_getR (pc := 91) C fl_M_72 (sh_104 hL) rfl d_M_readLine_91 ?_
        refine v_iload_n (pc := 94) C d_M_readLine_94 rfl 1 rfl ?_
        refine v_aload_n (pc := 95) C d_M_readLine_95 rfl 0 rfl ?_
        refine v_getI (pc := 96) C fl_M_286 (sh_104 hL) rfl d_M_readLine_96 ?_
        refine v_iast (pc := 99) C (sh_123 hL) d_M_readLine_99 (fun _ S8 => ?_)
        refine v_aload_n (pc := 100) C d_M_readLine_100 rfl 0 rfl ?_
        refine v_bipush (pc := 101) C d_M_readLine_101 bp_59 ?_
        refine v_ct (pc := 103) (inv_V (As := [.int 59]) (st := []) C ml_M_309 mv_M_isSign ro_M_readLine_M_isSign (sh_104 hL) rfl rfl rfl rfl (Nat.le_of_ble_eq_true rfl) d_M_readLine_103) (c_M_isSign hL S8 59) ⟨rfl, rfl⟩ ⟨Nat.zero_le _, Nat.zero_le _⟩ ?_
        refine v_if_ne (pc := 106) (tgt := 115) C d_M_readLine_106 rfl (fun _ => ?_) (fun _ => ?_)
        · refine v_aload_n (pc := 115) C d_M_readLine_115 rfl 0 rfl ?_
          refine v_cv (pc := 116) (inv_V (As := []) (st := []) C ml_M_303 mv_M_reads ro_M_readLine_M_reads (sh_104 hL) rfl rfl rfl rfl (Nat.le_of_ble_eq_true rfl) d_M_readLine_116) (c_M_reads hL S8) ⟨rfl, rfl⟩ ⟨Nat.zero_le _, Nat.zero_le _⟩ (fun S9 => ?_)
          refine v_iconst (pc := 119) C d_M_readLine_119 ic_0 ?_
          exact v_iret (z := (0, S9)) C d_M_readLine_120 rfl ⟨Nat.zero_le _, Nat.zero_le _⟩ (rfl) rfl
        · refine v_aload_n (pc := 109) C d_M_readLine_109 rfl 0 rfl ?_
          refine v_iconst (pc := 110) C d_M_readLine_110 ic_1 ?_
          refine v_ci (pc := 111) (inv_V (As := [.int 1]) (st := []) C ml_M_297 mv_M_fails ro_M_readLine_M_fails (sh_104 hL) rfl rfl rfl rfl (Nat.le_of_ble_eq_true rfl) d_M_readLine_111) (c_M_fails hL S8 1) ⟨rfl, rfl⟩ ⟨Nat.zero_le _, Nat.zero_le _⟩ (fun r10 S11 => ?_)
          exact v_iret (z := (r10, S11)) C d_M_readLine_114 rfl ⟨Nat.zero_le _, Nat.zero_le _⟩ (rfl) rfl
      · refine v_iconst (pc := 88) C d_M_readLine_88 ic_m1 ?_
        exact v_iret (z := ((-1), S7)) C d_M_readLine_89 rfl ⟨Nat.zero_le _, Nat.zero_le _⟩ (rfl) rfl
    · refine v_aload_n (pc := 60) C d_M_readLine_60 rfl 0 rfl ?_
      refine v_iconst (pc := 61) C d_M_readLine_61 ic_1 ?_
      refine v_ci (pc := 62) (inv_V (As := [.int 1]) (st := []) C ml_M_297 mv_M_fails ro_M_readLine_M_fails (sh_104 hL) rfl rfl rfl rfl (Nat.le_of_ble_eq_true rfl) d_M_readLine_62) (c_M_fails hL S3 1) ⟨rfl, rfl⟩ ⟨Nat.zero_le _, Nat.zero_le _⟩ (fun r12 S13 => ?_)
      exact v_iret (z := (r12, S13)) C d_M_readLine_65 rfl ⟨Nat.zero_le _, Nat.zero_le _⟩ (rfl) rfl
  · refine v_if_ne (pc := 4) (tgt := 38) C d_M_readLine_4 rfl (fun _ => ?_) (fun _ => ?_)
    · exact hj38 S
    · refine v_aload_n (pc := 7) C d_M_readLine_7 rfl 0 rfl ?_
      refine v_cv (pc := 8) (inv_V (As := []) (st := []) C ml_M_303 mv_M_reads ro_M_readLine_M_reads (sh_104 hL) rfl rfl rfl rfl (Nat.le_of_ble_eq_true rfl) d_M_readLine_8) (c_M_reads hL S) ⟨rfl, rfl⟩ ⟨Nat.zero_le _, Nat.zero_le _⟩ (fun S14 => ?_)
      refine v_aload_n (pc := 11) C d_M_readLine_11 rfl 0 rfl ?_
      refine v_getI (pc := 12) C fl_M_261 (sh_104 hL) rfl d_M_readLine_12 ?_
      refine v_iconst (pc := 15) C d_M_readLine_15 ic_2 ?_
      refine v_jn (fun j => VO g Y_M_readLine G (fun z => Qm g Y_M_readLine G (fi L z)) 0 0 32 [(0, rf G 104)] [] L S14 (j ()) some) (?_) (fun j32 hj32 => ?_)
      · refine v_aload_n (pc := 32) C d_M_readLine_32 rfl 0 rfl ?_
        refine v_iconst (pc := 33) C d_M_readLine_33 ic_1 ?_
        refine v_ci (pc := 34) (inv_V (As := [.int 1]) (st := []) C ml_M_297 mv_M_fails ro_M_readLine_M_fails (sh_104 hL) rfl rfl rfl rfl (Nat.le_of_ble_eq_true rfl) d_M_readLine_34) (c_M_fails hL S14 1) ⟨rfl, rfl⟩ ⟨Nat.zero_le _, Nat.zero_le _⟩ (fun r15 S16 => ?_)
        exact v_iret (z := (r15, S16)) C d_M_readLine_37 rfl ⟨Nat.zero_le _, Nat.zero_le _⟩ (rfl) rfl
      · refine v_icmp_ne (pc := 16) (tgt := 32) C d_M_readLine_16 rfl (fun _ => ?_) (fun _ => ?_)
        · refine v_sub [0] rfl ?_
          exact hj32
        · refine v_aload_n (pc := 19) C d_M_readLine_19 rfl 0 rfl ?_
          refine v_aload_n (pc := 20) C d_M_readLine_20 rfl 0 rfl ?_
          refine v_getI (pc := 21) C fl_M_264 (sh_104 hL) rfl d_M_readLine_21 ?_
          refine v_iconst (pc := 24) C d_M_readLine_24 ic_1 ?_
          refine v_iconst (pc := 25) C d_M_readLine_25 ic_4 ?_
          refine v_ct (pc := 26) (inv_V (As := [.int (S14 104 31), .int 1, .int 4]) (st := []) C ml_M_153 mv_M_isIn ro_M_readLine_M_isIn (sh_104 hL) rfl rfl rfl rfl (Nat.le_of_ble_eq_true rfl) d_M_readLine_26) (c_M_isIn hL S14 (S14 104 31) 1 4) ⟨rfl, rfl⟩ ⟨Nat.zero_le _, Nat.zero_le _⟩ ?_
          refine v_if_ne (pc := 29) (tgt := 38) C d_M_readLine_29 rfl (fun _ => ?_) (fun _ => ?_)
          · exact hj38 S14
          · refine v_sub [0] rfl ?_
            exact hj32
-- M_readText
theorem d_M_readText_0 : decode (mB Y_M_readText) 0 = .ok (.iconst 0, 1) := by decide +kernel
theorem d_M_readText_1 : decode (mB Y_M_readText) 1 = .ok (.istore_n 1, 1) := by decide +kernel
theorem d_M_readText_2 : decode (mB Y_M_readText) 2 = .ok (.aload_n 0, 1) := by decide +kernel
theorem d_M_readText_3 : decode (mB Y_M_readText) 3 = .ok (.iconst 0, 1) := by decide +kernel
theorem d_M_readText_4 : decode (mB Y_M_readText) 4 = .ok (.putfield 252, 3) := by decide +kernel
theorem d_M_readText_7 : decode (mB Y_M_readText) 7 = .ok (.aload_n 0, 1) := by decide +kernel
theorem d_M_readText_8 : decode (mB Y_M_readText) 8 = .ok (.iconst 0, 1) := by decide +kernel
theorem d_M_readText_9 : decode (mB Y_M_readText) 9 = .ok (.putfield 286, 3) := by decide +kernel
theorem d_M_readText_12 : decode (mB Y_M_readText) 12 = .ok (.aload_n 0, 1) := by decide +kernel
theorem d_M_readText_13 : decode (mB Y_M_readText) 13 = .ok (.iconst 0, 1) := by decide +kernel
theorem d_M_readText_14 : decode (mB Y_M_readText) 14 = .ok (.putfield 321, 3) := by decide +kernel
theorem d_M_readText_17 : decode (mB Y_M_readText) 17 = .ok (.aload_n 0, 1) := by decide +kernel
theorem d_M_readText_18 : decode (mB Y_M_readText) 18 = .ok (.invokevirtual 303, 3) := by decide +kernel
theorem d_M_readText_21 : decode (mB Y_M_readText) 21 = .ok (.aload_n 0, 1) := by decide +kernel
theorem d_M_readText_22 : decode (mB Y_M_readText) 22 = .ok (.invokevirtual 339, 3) := by decide +kernel
theorem d_M_readText_25 : decode (mB Y_M_readText) 25 = .ok (.ifCond .eq 36, 3) := by decide +kernel
theorem d_M_readText_28 : decode (mB Y_M_readText) 28 = .ok (.iload_n 1, 1) := by decide +kernel
theorem d_M_readText_29 : decode (mB Y_M_readText) 29 = .ok (.bipush 12, 2) := by decide +kernel
theorem d_M_readText_31 : decode (mB Y_M_readText) 31 = .ok (.if_icmp .ne 9, 3) := by decide +kernel
theorem d_M_readText_34 : decode (mB Y_M_readText) 34 = .ok (.aload_n 0, 1) := by decide +kernel
theorem d_M_readText_35 : decode (mB Y_M_readText) 35 = .ok (.iconst 3, 1) := by decide +kernel
theorem d_M_readText_36 : decode (mB Y_M_readText) 36 = .ok (.invokevirtual 297, 3) := by decide +kernel
theorem d_M_readText_39 : decode (mB Y_M_readText) 39 = .ok (.ireturn, 1) := by decide +kernel
theorem d_M_readText_40 : decode (mB Y_M_readText) 40 = .ok (.aload_n 0, 1) := by decide +kernel
theorem d_M_readText_41 : decode (mB Y_M_readText) 41 = .ok (.bipush 60, 2) := by decide +kernel
theorem d_M_readText_43 : decode (mB Y_M_readText) 43 = .ok (.iload_n 1, 1) := by decide +kernel
theorem d_M_readText_44 : decode (mB Y_M_readText) 44 = .ok (.iadd, 1) := by decide +kernel
theorem d_M_readText_45 : decode (mB Y_M_readText) 45 = .ok (.invokevirtual 343, 3) := by decide +kernel
theorem d_M_readText_48 : decode (mB Y_M_readText) 48 = .ok (.iconst (-1), 1) := by decide +kernel
theorem d_M_readText_49 : decode (mB Y_M_readText) 49 = .ok (.if_icmp .ne 5, 3) := by decide +kernel
theorem d_M_readText_52 : decode (mB Y_M_readText) 52 = .ok (.iconst (-1), 1) := by decide +kernel
theorem d_M_readText_53 : decode (mB Y_M_readText) 53 = .ok (.ireturn, 1) := by decide +kernel
theorem d_M_readText_54 : decode (mB Y_M_readText) 54 = .ok (.iload_n 1, 1) := by decide +kernel
theorem d_M_readText_55 : decode (mB Y_M_readText) 55 = .ok (.iconst 1, 1) := by decide +kernel
theorem d_M_readText_56 : decode (mB Y_M_readText) 56 = .ok (.iadd, 1) := by decide +kernel
theorem d_M_readText_57 : decode (mB Y_M_readText) 57 = .ok (.istore_n 1, 1) := by decide +kernel
theorem d_M_readText_58 : decode (mB Y_M_readText) 58 = .ok (.goto (-37), 3) := by decide +kernel
theorem d_M_readText_61 : decode (mB Y_M_readText) 61 = .ok (.aload_n 0, 1) := by decide +kernel
theorem d_M_readText_62 : decode (mB Y_M_readText) 62 = .ok (.getfield 261, 3) := by decide +kernel
theorem d_M_readText_65 : decode (mB Y_M_readText) 65 = .ok (.ifCond .ne 7, 3) := by decide +kernel
theorem d_M_readText_68 : decode (mB Y_M_readText) 68 = .ok (.iload_n 1, 1) := by decide +kernel
theorem d_M_readText_69 : decode (mB Y_M_readText) 69 = .ok (.goto 8, 3) := by decide +kernel
theorem d_M_readText_72 : decode (mB Y_M_readText) 72 = .ok (.aload_n 0, 1) := by decide +kernel
theorem d_M_readText_73 : decode (mB Y_M_readText) 73 = .ok (.iconst 1, 1) := by decide +kernel
theorem d_M_readText_74 : decode (mB Y_M_readText) 74 = .ok (.invokevirtual 297, 3) := by decide +kernel
theorem d_M_readText_77 : decode (mB Y_M_readText) 77 = .ok (.ireturn, 1) := by decide +kernel
theorem ro_M_readText_M_fails : roomy Y_M_readText Y_M_fails := ⟨Nat.le_of_ble_eq_true rfl, Nat.le_of_ble_eq_true rfl⟩
theorem ro_M_readText_M_isBegin : roomy Y_M_readText Y_M_isBegin := ⟨Nat.le_of_ble_eq_true rfl, Nat.le_of_ble_eq_true rfl⟩
theorem ro_M_readText_M_readLine : roomy Y_M_readText Y_M_readLine := ⟨Nat.le_of_ble_eq_true rfl, Nat.le_of_ble_eq_true rfl⟩
theorem ro_M_readText_M_reads : roomy Y_M_readText Y_M_reads := ⟨Nat.le_of_ble_eq_true rfl, Nat.le_of_ble_eq_true rfl⟩
def r_M_readText_L21  : Nat → Int32 → Sto → Option ((Int32 × Sto) ⊕ (Int32 × Sto))
  | 0, _, _ => none
  | n + 1, x1_, S =>
    if (r_M_isBegin S) = 0 then
      some (.inl (x1_, S))
    else
      if x1_ = 12 then
        (r_M_fails 3 S).bind (fun (r4, S5) =>
        some (.inr (r4, S5)))
      else
        (r_M_readLine (60 + x1_) S).bind (fun (r1, S2) =>
        if r1 = (-1) then
          some (.inr ((-1), S2))
        else
          lt (x1_ + 1) (fun v3 =>
          r_M_readText_L21 n v3 S2))
set_option maxHeartbeats 4000000 in
set_option maxRecDepth 20000 in
theorem w_M_readText_L21 {g : Gm} {G : Gl} {L : Shp} (C : Cx g Y_M_readText G) (hL : Ext L)  :
    ∀ (n : Nat) (x1_ : Int32) (S : Sto) (K : ((Int32 × Sto) ⊕ (Int32 × Sto)) → Option (Int32 × Sto)), (∀ (x1_ : Int32) (S : Sto), VO g Y_M_readText G (fun z => Qm g Y_M_readText G (fi L z)) 0 0 61 [(0, rf G 104), (1, .int x1_)] [] L S (some (.inl (x1_, S))) K) → (∀ x, K (.inr x) = some x) → VO g Y_M_readText G (fun z => Qm g Y_M_readText G (fi L z)) 0 0 21 [(0, rf G 104), (1, .int x1_)] [] L S (r_M_readText_L21 n x1_ S) K := by
  intro n
  induction n with
  | zero => intro x1_ S K; intros; exact v_none
  | succ n ih =>
    intro x1_ S K hK hR
    rw [r_M_readText_L21]
    refine v_aload_n (pc := 21) C d_M_readText_21 rfl 0 rfl ?_
    refine v_ct (pc := 22) (inv_V (As := []) (st := []) C ml_M_339 mv_M_isBegin ro_M_readText_M_isBegin (sh_104 hL) rfl rfl rfl rfl (Nat.le_of_ble_eq_true rfl) d_M_readText_22) (c_M_isBegin hL S) ⟨rfl, rfl⟩ ⟨Nat.zero_le _, Nat.zero_le _⟩ ?_
    refine v_if_eq (pc := 25) (tgt := 61) C d_M_readText_25 rfl (fun _ => ?_) (fun _ => ?_)
    · exact hK x1_ S
    · refine v_iload_n (pc := 28) C d_M_readText_28 rfl 1 rfl ?_
      refine v_bipush (pc := 29) C d_M_readText_29 bp_12 ?_
      refine v_icmp_ne (pc := 31) (tgt := 40) C d_M_readText_31 rfl (fun _ => ?_) (fun _ => ?_)
      · refine v_aload_n (pc := 40) C d_M_readText_40 rfl 0 rfl ?_
        refine v_bipush (pc := 41) C d_M_readText_41 bp_60 ?_
        refine v_iload_n (pc := 43) C d_M_readText_43 rfl 1 rfl ?_
        refine v_iadd (pc := 44) C d_M_readText_44 ?_
        refine v_ci (pc := 45) (inv_V (As := [.int (60 + x1_)]) (st := []) C ml_M_343 mv_M_readLine ro_M_readText_M_readLine (sh_104 hL) rfl rfl rfl rfl (Nat.le_of_ble_eq_true rfl) d_M_readText_45) (c_M_readLine hL S (60 + x1_)) ⟨rfl, rfl⟩ ⟨Nat.zero_le _, Nat.zero_le _⟩ (fun r1 S2 => ?_)
        refine v_iconst (pc := 48) C d_M_readText_48 ic_m1 ?_
        refine v_icmp_ne (pc := 49) (tgt := 54) C d_M_readText_49 rfl (fun _ => ?_) (fun _ => ?_)
        · refine v_iload_n (pc := 54) C d_M_readText_54 rfl 1 rfl ?_
          refine v_iconst (pc := 55) C d_M_readText_55 ic_1 ?_
          refine v_iadd (pc := 56) C d_M_readText_56 ?_
          refine v_lt (fun v3 => ?_)
          refine v_istore_n (pc := 57) (lv' := [(1, .int v3), (0, rf G 104)]) C d_M_readText_57 rfl (by decide) rfl ?_
          refine v_goto (pc := 58) (tgt := 21) C d_M_readText_58 rfl ?_
          refine v_sub [1, 0] rfl ?_
          exact ih v3 S2 K hK hR
        · refine v_iconst (pc := 52) C d_M_readText_52 ic_m1 ?_
          exact v_iret (z := ((-1), S2)) C d_M_readText_53 rfl ⟨Nat.zero_le _, Nat.zero_le _⟩ (hR _) rfl
      · refine v_aload_n (pc := 34) C d_M_readText_34 rfl 0 rfl ?_
        refine v_iconst (pc := 35) C d_M_readText_35 ic_3 ?_
        refine v_ci (pc := 36) (inv_V (As := [.int 3]) (st := []) C ml_M_297 mv_M_fails ro_M_readText_M_fails (sh_104 hL) rfl rfl rfl rfl (Nat.le_of_ble_eq_true rfl) d_M_readText_36) (c_M_fails hL S 3) ⟨rfl, rfl⟩ ⟨Nat.zero_le _, Nat.zero_le _⟩ (fun r4 S5 => ?_)
        exact v_iret (z := (r4, S5)) C d_M_readText_39 rfl ⟨Nat.zero_le _, Nat.zero_le _⟩ (hR _) rfl
def r_M_readText  (S : Sto) : Option (Int32 × Sto) :=
  ltS (sw S 104 28 0) (fun S1 =>
  ltS (sw S1 104 40 0) (fun S2 =>
  ltS (sw S2 104 41 0) (fun S3 =>
  (r_M_reads S3).bind (fun S4 =>
  (r_M_readText_L21 fu 0 S4).bind (fun x => match x with
  | .inl (v5, S6) =>
    if (S6 104 30) = 0 then
      some (v5, S6)
    else
      (r_M_fails 1 S6).bind (fun (r7, S8) =>
      some (r7, S8))
  | .inr r => some r)))))
set_option maxHeartbeats 4000000 in
set_option maxRecDepth 20000 in
theorem c_M_readText {G : Gl} {L : Shp} (hL : Ext L) (S : Sto)   : Ct Y_M_readText G [rf G 104] L S (fi L) (r_M_readText S) := by
  refine ct_of (by decide +kernel) (Nat.le_of_ble_eq_true rfl) (fun g C => ?_)
  show VO g Y_M_readText G (fun z => Qm g Y_M_readText G (fi L z)) 0 0 0 [(0, rf G 104)] [] L S (r_M_readText S) some
  unfold r_M_readText
  refine v_iconst (pc := 0) C d_M_readText_0 ic_0 ?_
  refine v_istore_n (pc := 1) (lv' := [(1, .int 0), (0, rf G 104)]) C d_M_readText_1 rfl (by decide) rfl ?_
  refine v_aload_n (pc := 2) C d_M_readText_2 rfl 1 rfl ?_
  refine v_iconst (pc := 3) C d_M_readText_3 ic_0 ?_
  refine v_putI (pc := 4) C fp_M_252 (sh_104 hL) rfl d_M_readText_4 (fun S1 => ?_)
  refine v_aload_n (pc := 7) C d_M_readText_7 rfl 1 rfl ?_
  refine v_iconst (pc := 8) C d_M_readText_8 ic_0 ?_
  refine v_putI (pc := 9) C fp_M_286 (sh_104 hL) rfl d_M_readText_9 (fun S2 => ?_)
  refine v_aload_n (pc := 12) C d_M_readText_12 rfl 1 rfl ?_
  refine v_iconst (pc := 13) C d_M_readText_13 ic_0 ?_
  refine v_putI (pc := 14) C fp_M_321 (sh_104 hL) rfl d_M_readText_14 (fun S3 => ?_)
  refine v_aload_n (pc := 17) C d_M_readText_17 rfl 1 rfl ?_
  refine v_cv (pc := 18) (inv_V (As := []) (st := []) C ml_M_303 mv_M_reads ro_M_readText_M_reads (sh_104 hL) rfl rfl rfl rfl (Nat.le_of_ble_eq_true rfl) d_M_readText_18) (c_M_reads hL S3) ⟨rfl, rfl⟩ ⟨Nat.zero_le _, Nat.zero_le _⟩ (fun S4 => ?_)
  refine v_sub [1, 0] rfl ?_
  refine v_bind ?_
  refine w_M_readText_L21 C hL  fu 0 S4 _ (fun v5 S6 => ?_) (fun z => rfl)
  refine v_some ?_
  refine v_aload_n (pc := 61) C d_M_readText_61 rfl 0 rfl ?_
  refine v_getI (pc := 62) C fl_M_261 (sh_104 hL) rfl d_M_readText_62 ?_
  refine v_if_ne (pc := 65) (tgt := 72) C d_M_readText_65 rfl (fun _ => ?_) (fun _ => ?_)
  · refine v_aload_n (pc := 72) C d_M_readText_72 rfl 0 rfl ?_
    refine v_iconst (pc := 73) C d_M_readText_73 ic_1 ?_
    refine v_ci (pc := 74) (inv_V (As := [.int 1]) (st := []) C ml_M_297 mv_M_fails ro_M_readText_M_fails (sh_104 hL) rfl rfl rfl rfl (Nat.le_of_ble_eq_true rfl) d_M_readText_74) (c_M_fails hL S6 1) ⟨rfl, rfl⟩ ⟨Nat.zero_le _, Nat.zero_le _⟩ (fun r7 S8 => ?_)
    exact v_iret (z := (r7, S8)) C d_M_readText_77 rfl ⟨Nat.zero_le _, Nat.zero_le _⟩ (rfl) rfl
  · refine v_iload_n (pc := 68) C d_M_readText_68 rfl 1 rfl ?_
    refine v_goto (pc := 69) (tgt := 77) C d_M_readText_69 rfl ?_
    exact v_iret (z := (v5, S6)) C d_M_readText_77 rfl ⟨Nat.zero_le _, Nat.zero_le _⟩ (rfl) rfl
-- M_text
theorem d_M_text_0 : decode (mB Y_M_text) 0 = .ok (.aload_n 0, 1) := by decide +kernel
theorem d_M_text_1 : decode (mB Y_M_text) 1 = .ok (.iconst 0, 1) := by decide +kernel
theorem d_M_text_2 : decode (mB Y_M_text) 2 = .ok (.putfield 150, 3) := by decide +kernel
theorem d_M_text_5 : decode (mB Y_M_text) 5 = .ok (.aload_n 0, 1) := by decide +kernel
theorem d_M_text_6 : decode (mB Y_M_text) 6 = .ok (.iconst 0, 1) := by decide +kernel
theorem d_M_text_7 : decode (mB Y_M_text) 7 = .ok (.putfield 346, 3) := by decide +kernel
theorem d_M_text_10 : decode (mB Y_M_text) 10 = .ok (.aload_n 0, 1) := by decide +kernel
theorem d_M_text_11 : decode (mB Y_M_text) 11 = .ok (.iconst (-1), 1) := by decide +kernel
theorem d_M_text_12 : decode (mB Y_M_text) 12 = .ok (.putfield 84, 3) := by decide +kernel
theorem d_M_text_15 : decode (mB Y_M_text) 15 = .ok (.aload_n 0, 1) := by decide +kernel
theorem d_M_text_16 : decode (mB Y_M_text) 16 = .ok (.iload_n 1, 1) := by decide +kernel
theorem d_M_text_17 : decode (mB Y_M_text) 17 = .ok (.iconst 4, 1) := by decide +kernel
theorem d_M_text_18 : decode (mB Y_M_text) 18 = .ok (.if_icmp .ne 7, 3) := by decide +kernel
theorem d_M_text_21 : decode (mB Y_M_text) 21 = .ok (.iconst 1, 1) := by decide +kernel
theorem d_M_text_22 : decode (mB Y_M_text) 22 = .ok (.goto 4, 3) := by decide +kernel
theorem d_M_text_25 : decode (mB Y_M_text) 25 = .ok (.iconst 0, 1) := by decide +kernel
theorem d_M_text_26 : decode (mB Y_M_text) 26 = .ok (.putfield 289, 3) := by decide +kernel
theorem d_M_text_29 : decode (mB Y_M_text) 29 = .ok (.aload_n 0, 1) := by decide +kernel
theorem d_M_text_30 : decode (mB Y_M_text) 30 = .ok (.iload_n 1, 1) := by decide +kernel
theorem d_M_text_31 : decode (mB Y_M_text) 31 = .ok (.iconst 0, 1) := by decide +kernel
theorem d_M_text_32 : decode (mB Y_M_text) 32 = .ok (.iconst 4, 1) := by decide +kernel
theorem d_M_text_33 : decode (mB Y_M_text) 33 = .ok (.invokevirtual 153, 3) := by decide +kernel
theorem d_M_text_36 : decode (mB Y_M_text) 36 = .ok (.istore_n 2, 1) := by decide +kernel
theorem d_M_text_37 : decode (mB Y_M_text) 37 = .ok (.iload_n 2, 1) := by decide +kernel
theorem d_M_text_38 : decode (mB Y_M_text) 38 = .ok (.ifCond .eq 10, 3) := by decide +kernel
theorem d_M_text_41 : decode (mB Y_M_text) 41 = .ok (.aload_n 0, 1) := by decide +kernel
theorem d_M_text_42 : decode (mB Y_M_text) 42 = .ok (.invokevirtual 349, 3) := by decide +kernel
theorem d_M_text_45 : decode (mB Y_M_text) 45 = .ok (.goto 4, 3) := by decide +kernel
theorem d_M_text_48 : decode (mB Y_M_text) 48 = .ok (.iconst (-1), 1) := by decide +kernel
theorem d_M_text_49 : decode (mB Y_M_text) 49 = .ok (.istore_n 3, 1) := by decide +kernel
theorem d_M_text_50 : decode (mB Y_M_text) 50 = .ok (.aload_n 0, 1) := by decide +kernel
theorem d_M_text_51 : decode (mB Y_M_text) 51 = .ok (.iconst 0, 1) := by decide +kernel
theorem d_M_text_52 : decode (mB Y_M_text) 52 = .ok (.putfield 245, 3) := by decide +kernel
theorem d_M_text_55 : decode (mB Y_M_text) 55 = .ok (.iload_n 2, 1) := by decide +kernel
theorem d_M_text_56 : decode (mB Y_M_text) 56 = .ok (.ifCond .eq 24, 3) := by decide +kernel
theorem d_M_text_59 : decode (mB Y_M_text) 59 = .ok (.iload_n 3, 1) := by decide +kernel
theorem d_M_text_60 : decode (mB Y_M_text) 60 = .ok (.iconst (-1), 1) := by decide +kernel
theorem d_M_text_61 : decode (mB Y_M_text) 61 = .ok (.if_icmp .ne 19, 3) := by decide +kernel
theorem d_M_text_64 : decode (mB Y_M_text) 64 = .ok (.aload_n 0, 1) := by decide +kernel
theorem d_M_text_65 : decode (mB Y_M_text) 65 = .ok (.aload_n 0, 1) := by decide +kernel
theorem d_M_text_66 : decode (mB Y_M_text) 66 = .ok (.getfield 280, 3) := by decide +kernel
theorem d_M_text_69 : decode (mB Y_M_text) 69 = .ok (.putfield 346, 3) := by decide +kernel
theorem d_M_text_72 : decode (mB Y_M_text) 72 = .ok (.aload_n 0, 1) := by decide +kernel
theorem d_M_text_73 : decode (mB Y_M_text) 73 = .ok (.aload_n 0, 1) := by decide +kernel
theorem d_M_text_74 : decode (mB Y_M_text) 74 = .ok (.getfield 283, 3) := by decide +kernel
theorem d_M_text_77 : decode (mB Y_M_text) 77 = .ok (.putfield 84, 3) := by decide +kernel
theorem d_M_text_80 : decode (mB Y_M_text) 80 = .ok (.iload_n 3, 1) := by decide +kernel
theorem d_M_text_81 : decode (mB Y_M_text) 81 = .ok (.iconst (-1), 1) := by decide +kernel
theorem d_M_text_82 : decode (mB Y_M_text) 82 = .ok (.if_icmp .ne 5, 3) := by decide +kernel
theorem d_M_text_85 : decode (mB Y_M_text) 85 = .ok (.iconst (-1), 1) := by decide +kernel
theorem d_M_text_86 : decode (mB Y_M_text) 86 = .ok (.ireturn, 1) := by decide +kernel
theorem d_M_text_87 : decode (mB Y_M_text) 87 = .ok (.iconst 0, 1) := by decide +kernel
theorem d_M_text_88 : decode (mB Y_M_text) 88 = .ok (.istore 4, 2) := by decide +kernel
theorem d_M_text_90 : decode (mB Y_M_text) 90 = .ok (.iload 4, 2) := by decide +kernel
theorem d_M_text_92 : decode (mB Y_M_text) 92 = .ok (.iload_n 3, 1) := by decide +kernel
theorem d_M_text_93 : decode (mB Y_M_text) 93 = .ok (.if_icmp .ge 75, 3) := by decide +kernel
theorem d_M_text_96 : decode (mB Y_M_text) 96 = .ok (.aload_n 0, 1) := by decide +kernel
theorem d_M_text_97 : decode (mB Y_M_text) 97 = .ok (.getfield 66, 3) := by decide +kernel
theorem d_M_text_100 : decode (mB Y_M_text) 100 = .ok (.bipush 12, 2) := by decide +kernel
theorem d_M_text_102 : decode (mB Y_M_text) 102 = .ok (.iload_n 1, 1) := by decide +kernel
theorem d_M_text_103 : decode (mB Y_M_text) 103 = .ok (.imul, 1) := by decide +kernel
theorem d_M_text_104 : decode (mB Y_M_text) 104 = .ok (.iload 4, 2) := by decide +kernel
theorem d_M_text_106 : decode (mB Y_M_text) 106 = .ok (.iadd, 1) := by decide +kernel
theorem d_M_text_107 : decode (mB Y_M_text) 107 = .ok (.aload_n 0, 1) := by decide +kernel
theorem d_M_text_108 : decode (mB Y_M_text) 108 = .ok (.getfield 66, 3) := by decide +kernel
theorem d_M_text_111 : decode (mB Y_M_text) 111 = .ok (.bipush 60, 2) := by decide +kernel
theorem d_M_text_113 : decode (mB Y_M_text) 113 = .ok (.iload 4, 2) := by decide +kernel
theorem d_M_text_115 : decode (mB Y_M_text) 115 = .ok (.iadd, 1) := by decide +kernel
theorem d_M_text_116 : decode (mB Y_M_text) 116 = .ok (.iaload, 1) := by decide +kernel
theorem d_M_text_117 : decode (mB Y_M_text) 117 = .ok (.iastore, 1) := by decide +kernel
theorem d_M_text_118 : decode (mB Y_M_text) 118 = .ok (.aload_n 0, 1) := by decide +kernel
theorem d_M_text_119 : decode (mB Y_M_text) 119 = .ok (.getfield 69, 3) := by decide +kernel
theorem d_M_text_122 : decode (mB Y_M_text) 122 = .ok (.bipush 12, 2) := by decide +kernel
theorem d_M_text_124 : decode (mB Y_M_text) 124 = .ok (.iload_n 1, 1) := by decide +kernel
theorem d_M_text_125 : decode (mB Y_M_text) 125 = .ok (.imul, 1) := by decide +kernel
theorem d_M_text_126 : decode (mB Y_M_text) 126 = .ok (.iload 4, 2) := by decide +kernel
theorem d_M_text_128 : decode (mB Y_M_text) 128 = .ok (.iadd, 1) := by decide +kernel
theorem d_M_text_129 : decode (mB Y_M_text) 129 = .ok (.aload_n 0, 1) := by decide +kernel
theorem d_M_text_130 : decode (mB Y_M_text) 130 = .ok (.getfield 69, 3) := by decide +kernel
theorem d_M_text_133 : decode (mB Y_M_text) 133 = .ok (.bipush 60, 2) := by decide +kernel
theorem d_M_text_135 : decode (mB Y_M_text) 135 = .ok (.iload 4, 2) := by decide +kernel
theorem d_M_text_137 : decode (mB Y_M_text) 137 = .ok (.iadd, 1) := by decide +kernel
theorem d_M_text_138 : decode (mB Y_M_text) 138 = .ok (.iaload, 1) := by decide +kernel
theorem d_M_text_139 : decode (mB Y_M_text) 139 = .ok (.iastore, 1) := by decide +kernel
theorem d_M_text_140 : decode (mB Y_M_text) 140 = .ok (.aload_n 0, 1) := by decide +kernel
theorem d_M_text_141 : decode (mB Y_M_text) 141 = .ok (.getfield 72, 3) := by decide +kernel
theorem d_M_text_144 : decode (mB Y_M_text) 144 = .ok (.bipush 12, 2) := by decide +kernel
theorem d_M_text_146 : decode (mB Y_M_text) 146 = .ok (.iload_n 1, 1) := by decide +kernel
theorem d_M_text_147 : decode (mB Y_M_text) 147 = .ok (.imul, 1) := by decide +kernel
theorem d_M_text_148 : decode (mB Y_M_text) 148 = .ok (.iload 4, 2) := by decide +kernel
theorem d_M_text_150 : decode (mB Y_M_text) 150 = .ok (.iadd, 1) := by decide +kernel
theorem d_M_text_151 : decode (mB Y_M_text) 151 = .ok (.aload_n 0, 1) := by decide +kernel
theorem d_M_text_152 : decode (mB Y_M_text) 152 = .ok (.getfield 72, 3) := by decide +kernel
theorem d_M_text_155 : decode (mB Y_M_text) 155 = .ok (.bipush 60, 2) := by decide +kernel
theorem d_M_text_157 : decode (mB Y_M_text) 157 = .ok (.iload 4, 2) := by decide +kernel
theorem d_M_text_159 : decode (mB Y_M_text) 159 = .ok (.iadd, 1) := by decide +kernel
theorem d_M_text_160 : decode (mB Y_M_text) 160 = .ok (.iaload, 1) := by decide +kernel
theorem d_M_text_161 : decode (mB Y_M_text) 161 = .ok (.iastore, 1) := by decide +kernel
theorem d_M_text_162 : decode (mB Y_M_text) 162 = .ok (.iinc 4 1, 3) := by decide +kernel
theorem d_M_text_165 : decode (mB Y_M_text) 165 = .ok (.goto (-75), 3) := by decide +kernel
theorem d_M_text_168 : decode (mB Y_M_text) 168 = .ok (.iconst 0, 1) := by decide +kernel
theorem d_M_text_169 : decode (mB Y_M_text) 169 = .ok (.istore 4, 2) := by decide +kernel
theorem d_M_text_171 : decode (mB Y_M_text) 171 = .ok (.iload 4, 2) := by decide +kernel
theorem d_M_text_173 : decode (mB Y_M_text) 173 = .ok (.aload_n 0, 1) := by decide +kernel
theorem d_M_text_174 : decode (mB Y_M_text) 174 = .ok (.getfield 286, 3) := by decide +kernel
theorem d_M_text_177 : decode (mB Y_M_text) 177 = .ok (.if_icmp .ge 57, 3) := by decide +kernel
theorem d_M_text_180 : decode (mB Y_M_text) 180 = .ok (.aload_n 0, 1) := by decide +kernel
theorem d_M_text_181 : decode (mB Y_M_text) 181 = .ok (.getfield 75, 3) := by decide +kernel
theorem d_M_text_184 : decode (mB Y_M_text) 184 = .ok (.sipush 400, 3) := by decide +kernel
theorem d_M_text_187 : decode (mB Y_M_text) 187 = .ok (.iload_n 1, 1) := by decide +kernel
theorem d_M_text_188 : decode (mB Y_M_text) 188 = .ok (.imul, 1) := by decide +kernel
theorem d_M_text_189 : decode (mB Y_M_text) 189 = .ok (.iload 4, 2) := by decide +kernel
theorem d_M_text_191 : decode (mB Y_M_text) 191 = .ok (.iadd, 1) := by decide +kernel
theorem d_M_text_192 : decode (mB Y_M_text) 192 = .ok (.aload_n 0, 1) := by decide +kernel
theorem d_M_text_193 : decode (mB Y_M_text) 193 = .ok (.getfield 75, 3) := by decide +kernel
theorem d_M_text_196 : decode (mB Y_M_text) 196 = .ok (.sipush 2000, 3) := by decide +kernel
theorem d_M_text_199 : decode (mB Y_M_text) 199 = .ok (.iload 4, 2) := by decide +kernel
theorem d_M_text_201 : decode (mB Y_M_text) 201 = .ok (.iadd, 1) := by decide +kernel
theorem d_M_text_202 : decode (mB Y_M_text) 202 = .ok (.iaload, 1) := by decide +kernel
theorem d_M_text_203 : decode (mB Y_M_text) 203 = .ok (.iastore, 1) := by decide +kernel
theorem d_M_text_204 : decode (mB Y_M_text) 204 = .ok (.aload_n 0, 1) := by decide +kernel
theorem d_M_text_205 : decode (mB Y_M_text) 205 = .ok (.getfield 78, 3) := by decide +kernel
theorem d_M_text_208 : decode (mB Y_M_text) 208 = .ok (.sipush 400, 3) := by decide +kernel
theorem d_M_text_211 : decode (mB Y_M_text) 211 = .ok (.iload_n 1, 1) := by decide +kernel
theorem d_M_text_212 : decode (mB Y_M_text) 212 = .ok (.imul, 1) := by decide +kernel
theorem d_M_text_213 : decode (mB Y_M_text) 213 = .ok (.iload 4, 2) := by decide +kernel
theorem d_M_text_215 : decode (mB Y_M_text) 215 = .ok (.iadd, 1) := by decide +kernel
theorem d_M_text_216 : decode (mB Y_M_text) 216 = .ok (.aload_n 0, 1) := by decide +kernel
theorem d_M_text_217 : decode (mB Y_M_text) 217 = .ok (.getfield 78, 3) := by decide +kernel
theorem d_M_text_220 : decode (mB Y_M_text) 220 = .ok (.sipush 2000, 3) := by decide +kernel
theorem d_M_text_223 : decode (mB Y_M_text) 223 = .ok (.iload 4, 2) := by decide +kernel
theorem d_M_text_225 : decode (mB Y_M_text) 225 = .ok (.iadd, 1) := by decide +kernel
theorem d_M_text_226 : decode (mB Y_M_text) 226 = .ok (.iaload, 1) := by decide +kernel
theorem d_M_text_227 : decode (mB Y_M_text) 227 = .ok (.iastore, 1) := by decide +kernel
theorem d_M_text_228 : decode (mB Y_M_text) 228 = .ok (.iinc 4 1, 3) := by decide +kernel
theorem d_M_text_231 : decode (mB Y_M_text) 231 = .ok (.goto (-60), 3) := by decide +kernel
theorem d_M_text_234 : decode (mB Y_M_text) 234 = .ok (.aload_n 0, 1) := by decide +kernel
theorem d_M_text_235 : decode (mB Y_M_text) 235 = .ok (.getfield 63, 3) := by decide +kernel
theorem d_M_text_238 : decode (mB Y_M_text) 238 = .ok (.iload_n 1, 1) := by decide +kernel
theorem d_M_text_239 : decode (mB Y_M_text) 239 = .ok (.iload_n 3, 1) := by decide +kernel
theorem d_M_text_240 : decode (mB Y_M_text) 240 = .ok (.iastore, 1) := by decide +kernel
theorem d_M_text_241 : decode (mB Y_M_text) 241 = .ok (.iload_n 3, 1) := by decide +kernel
theorem d_M_text_242 : decode (mB Y_M_text) 242 = .ok (.ireturn, 1) := by decide +kernel
theorem ro_M_text_M_isIn : roomy Y_M_text Y_M_isIn := ⟨Nat.le_of_ble_eq_true rfl, Nat.le_of_ble_eq_true rfl⟩
theorem ro_M_text_M_readText : roomy Y_M_text Y_M_readText := ⟨Nat.le_of_ble_eq_true rfl, Nat.le_of_ble_eq_true rfl⟩
def r_M_text_L90 (y1_ : Int32) (y3_ : Int32) : Nat → Int32 → Sto → Option (Int32 × Sto)
  | 0, _, _ => none
  | n + 1, x4_, S =>
    if y3_ ≤ x4_ then
      some (x4_, S)
    else
      chk (inr (60 + x4_) 72) (
      chk (inr ((12 * y1_) + x4_) 72) (
      ltS (sw S 121 (((12 * y1_) + x4_).toNatClampNeg) (S 121 ((60 + x4_).toNatClampNeg))) (fun S1 =>
      chk (inr (60 + x4_) 72) (
      chk (inr ((12 * y1_) + x4_) 72) (
      ltS (sw S1 122 (((12 * y1_) + x4_).toNatClampNeg) (S1 122 ((60 + x4_).toNatClampNeg))) (fun S2 =>
      chk (inr (60 + x4_) 72) (
      chk (inr ((12 * y1_) + x4_) 72) (
      ltS (sw S2 123 (((12 * y1_) + x4_).toNatClampNeg) (S2 123 ((60 + x4_).toNatClampNeg))) (fun S3 =>
      lt (x4_ + 1) (fun v4 =>
      r_M_text_L90 y1_ y3_ n v4 S3))))))))))
def r_M_text_L171 (y1_ : Int32) (y3_ : Int32) : Nat → Int32 → Sto → Option (Int32 × Sto)
  | 0, _, _ => none
  | n + 1, x4_, S =>
    if (S 104 40) ≤ x4_ then
      some (x4_, S)
    else
      chk (inr (2000 + x4_) 2400) (
      chk (inr ((400 * y1_) + x4_) 2400) (
      ltS (sw S 124 (((400 * y1_) + x4_).toNatClampNeg) (S 124 ((2000 + x4_).toNatClampNeg))) (fun S1 =>
      chk (inr (2000 + x4_) 2400) (
      chk (inr ((400 * y1_) + x4_) 2400) (
      ltS (sw S1 125 (((400 * y1_) + x4_).toNatClampNeg) (S1 125 ((2000 + x4_).toNatClampNeg))) (fun S2 =>
      lt (x4_ + 1) (fun v3 =>
      r_M_text_L171 y1_ y3_ n v3 S2)))))))
set_option maxHeartbeats 4000000 in
set_option maxRecDepth 20000 in
theorem w_M_text_L90 {g : Gm} {G : Gl} {L : Shp} (C : Cx g Y_M_text G) (hL : Ext L) (y1_ : Int32) (y3_ : Int32)  :
    ∀ (n : Nat) (x4_ : Int32) (S : Sto) (K : (Int32 × Sto) → Option (Int32 × Sto)), (∀ (x4_ : Int32) (S : Sto), VO g Y_M_text G (fun z => Qm g Y_M_text G (fi L z)) 0 0 168 [(0, rf G 104), (1, .int y1_), (3, .int y3_)] [] L S (some (x4_, S)) K) → VO g Y_M_text G (fun z => Qm g Y_M_text G (fi L z)) 0 0 90 [(0, rf G 104), (1, .int y1_), (3, .int y3_), (4, .int x4_)] [] L S (r_M_text_L90 y1_ y3_ n x4_ S) K := by
  intro n
  induction n with
  | zero => intro x4_ S K; intros; exact v_none
  | succ n ih =>
    intro x4_ S K hK
    rw [r_M_text_L90]
    refine v_iload (pc := 90) C d_M_text_90 3 rfl ?_
    refine v_iload_n (pc := 92) C d_M_text_92 rfl 2 rfl ?_
    refine v_icmp_ge (pc := 93) (tgt := 168) C d_M_text_93 rfl (fun _ => ?_) (fun _ => ?_)
    · refine v_sub [0, 1, 2] rfl ?_
      exact hK x4_ S
    · refine v_aload_n (pc := 96) C d_M_text_96 rfl 0 rfl ?_
      refine v_getR (pc := 97) C fl_M_66 (sh_104 hL) rfl d_M_text_97 ?_
      refine v_bipush (pc := 100) C d_M_text_100 bp_12 ?_
      refine v_iload_n (pc := 102) C d_M_text_102 rfl 1 rfl ?_
      refine v_imul (pc := 103) C d_M_text_103 ?_
      refine v_iload (pc := 104) C d_M_text_104 3 rfl ?_
      refine v_iadd (pc := 106) C d_M_text_106 ?_
      refine v_aload_n (pc := 107) C d_M_text_107 rfl 0 rfl ?_
      refine v_getR (pc := 108) C fl_M_66 (sh_104 hL) rfl d_M_text_108 ?_
      refine v_bipush (pc := 111) C d_M_text_111 bp_60 ?_
      refine v_iload (pc := 113) C d_M_text_113 3 rfl ?_
      refine v_iadd (pc := 115) C d_M_text_115 ?_
      refine v_iald (pc := 116) C (sh_121 hL) d_M_text_116 (fun _ => ?_)
      refine v_iast (pc := 117) C (sh_121 hL) d_M_text_117 (fun _ S1 => ?_)
      refine v_aload_n (pc := 118) C d_M_text_118 rfl 0 rfl ?_
      refine v_getR (pc := 119) C fl_M_69 (sh_104 hL) rfl d_M_text_119 ?_
      refine v_bipush (pc := 122) C d_M_text_122 bp_12 ?_
      refine v_iload_n (pc := 124) C d_M_text_124 rfl 1 rfl ?_
      refine v_imul (pc := 125) C d_M_text_125 ?_
      refine v_iload (pc := 126) C d_M_text_126 3 rfl ?_
      refine v_iadd (pc := 128) C d_M_text_128 ?_
      refine v_aload_n (pc := 129) C d_M_text_129 rfl 0 rfl ?_
      refine v_getR (pc := 130) C fl_M_69 (sh_104 hL) rfl d_M_text_130 ?_
      refine v_bipush (pc := 133) C d_M_text_133 bp_60 ?_
      refine v_iload (pc := 135) C d_M_text_135 3 rfl ?_
      refine v_iadd (pc := 137) C d_M_text_137 ?_
      refine v_iald (pc := 138) C (sh_122 hL) d_M_text_138 (fun _ => ?_)
      refine v_iast (pc := 139) C (sh_122 hL) d_M_text_139 (fun _ S2 => ?_)
      refine v_aload_n (pc := 140) C d_M_text_140 rfl 0 rfl ?_
      refine v_getR (pc := 141) C fl_M_72 (sh_104 hL) rfl d_M_text_141 ?_
      refine v_bipush (pc := 144) C d_M_text_144 bp_12 ?_
      refine v_iload_n (pc := 146) C d_M_text_146 rfl 1 rfl ?_
      refine v_imul (pc := 147) C d_M_text_147 ?_
      refine v_iload (pc := 148) C d_M_text_148 3 rfl ?_
      refine v_iadd (pc := 150) C d_M_text_150 ?_
      refine v_aload_n (pc := 151) C d_M_text_151 rfl 0 rfl ?_
      refine v_getR (pc := 152) C fl_M_72 (sh_104 hL) rfl d_M_text_152 ?_
      refine v_bipush (pc := 155) C d_M_text_155 bp_60 ?_
      refine v_iload (pc := 157) C d_M_text_157 3 rfl ?_
      refine v_iadd (pc := 159) C d_M_text_159 ?_
      refine v_iald (pc := 160) C (sh_123 hL) d_M_text_160 (fun _ => ?_)
      refine v_iast (pc := 161) C (sh_123 hL) d_M_text_161 (fun _ S3 => ?_)
      refine v_iinc (pc := 162) (p := 3) (c := 1) C d_M_text_162 rfl (by decide) (by decide) (fun v4 => [(4, .int v4), (0, rf G 104), (1, .int y1_), (3, .int y3_)]) (fun _ => rfl) (fun v4 => ?_)
      refine v_goto (pc := 165) (tgt := 90) C d_M_text_165 rfl ?_
      refine v_sub [1, 2, 3, 0] rfl ?_
      exact ih v4 S3 K hK
set_option maxHeartbeats 4000000 in
set_option maxRecDepth 20000 in
theorem w_M_text_L171 {g : Gm} {G : Gl} {L : Shp} (C : Cx g Y_M_text G) (hL : Ext L) (y1_ : Int32) (y3_ : Int32)  :
    ∀ (n : Nat) (x4_ : Int32) (S : Sto) (K : (Int32 × Sto) → Option (Int32 × Sto)), (∀ (x4_ : Int32) (S : Sto), VO g Y_M_text G (fun z => Qm g Y_M_text G (fi L z)) 0 0 234 [(0, rf G 104), (1, .int y1_), (3, .int y3_)] [] L S (some (x4_, S)) K) → VO g Y_M_text G (fun z => Qm g Y_M_text G (fi L z)) 0 0 171 [(0, rf G 104), (1, .int y1_), (3, .int y3_), (4, .int x4_)] [] L S (r_M_text_L171 y1_ y3_ n x4_ S) K := by
  intro n
  induction n with
  | zero => intro x4_ S K; intros; exact v_none
  | succ n ih =>
    intro x4_ S K hK
    rw [r_M_text_L171]
    refine v_iload (pc := 171) C d_M_text_171 3 rfl ?_
    refine v_aload_n (pc := 173) C d_M_text_173 rfl 0 rfl ?_
    refine v_getI (pc := 174) C fl_M_286 (sh_104 hL) rfl d_M_text_174 ?_
    refine v_icmp_ge (pc := 177) (tgt := 234) C d_M_text_177 rfl (fun _ => ?_) (fun _ => ?_)
    · refine v_sub [0, 1, 2] rfl ?_
      exact hK x4_ S
    · refine v_aload_n (pc := 180) C d_M_text_180 rfl 0 rfl ?_
      refine v_getR (pc := 181) C fl_M_75 (sh_104 hL) rfl d_M_text_181 ?_
      refine v_sipush (pc := 184) C d_M_text_184 sp_400 ?_
      refine v_iload_n (pc := 187) C d_M_text_187 rfl 1 rfl ?_
      refine v_imul (pc := 188) C d_M_text_188 ?_
      refine v_iload (pc := 189) C d_M_text_189 3 rfl ?_
      refine v_iadd (pc := 191) C d_M_text_191 ?_
      refine v_aload_n (pc := 192) C d_M_text_192 rfl 0 rfl ?_
      refine v_getR (pc := 193) C fl_M_75 (sh_104 hL) rfl d_M_text_193 ?_
      refine v_sipush (pc := 196) C d_M_text_196 sp_2000 ?_
      refine v_iload (pc := 199) C d_M_text_199 3 rfl ?_
      refine v_iadd (pc := 201) C d_M_text_201 ?_
      refine v_iald (pc := 202) C (sh_124 hL) d_M_text_202 (fun _ => ?_)
      refine v_iast (pc := 203) C (sh_124 hL) d_M_text_203 (fun _ S1 => ?_)
      refine v_aload_n (pc := 204) C d_M_text_204 rfl 0 rfl ?_
      refine v_getR (pc := 205) C fl_M_78 (sh_104 hL) rfl d_M_text_205 ?_
      refine v_sipush (pc := 208) C d_M_text_208 sp_400 ?_
      refine v_iload_n (pc := 211) C d_M_text_211 rfl 1 rfl ?_
      refine v_imul (pc := 212) C d_M_text_212 ?_
      refine v_iload (pc := 213) C d_M_text_213 3 rfl ?_
      refine v_iadd (pc := 215) C d_M_text_215 ?_
      refine v_aload_n (pc := 216) C d_M_text_216 rfl 0 rfl ?_
      refine v_getR (pc := 217) C fl_M_78 (sh_104 hL) rfl d_M_text_217 ?_
      refine v_sipush (pc := 220) C d_M_text_220 sp_2000 ?_
      refine v_iload (pc := 223) C d_M_text_223 3 rfl ?_
      refine v_iadd (pc := 225) C d_M_text_225 ?_
      refine v_iald (pc := 226) C (sh_125 hL) d_M_text_226 (fun _ => ?_)
      refine v_iast (pc := 227) C (sh_125 hL) d_M_text_227 (fun _ S2 => ?_)
      refine v_iinc (pc := 228) (p := 3) (c := 1) C d_M_text_228 rfl (by decide) (by decide) (fun v3 => [(4, .int v3), (0, rf G 104), (1, .int y1_), (3, .int y3_)]) (fun _ => rfl) (fun v3 => ?_)
      refine v_goto (pc := 231) (tgt := 171) C d_M_text_231 rfl ?_
      refine v_sub [1, 2, 3, 0] rfl ?_
      exact ih v3 S2 K hK
def r_M_text (x1 : Int32) (S : Sto) : Option (Int32 × Sto) :=
  ltS (sw S 104 0 0) (fun S1 =>
  ltS (sw S1 104 46 0) (fun S2 =>
  ltS (sw S2 104 47 (-1)) (fun S3 =>
  jn (fun (v4 : Int32) =>
    chk (b01 v4) (
    ltS (sw S3 104 39 v4) (fun S5 =>
    lt (r_M_isIn x1 0 4) (fun v6 =>
    jn (fun ((v7, S8) : Int32 × Sto) =>
      ltS (sw S8 104 27 0) (fun S9 =>
      jn (fun (S10 : Sto) =>
        if v7 = (-1) then
          some ((-1), S10)
        else
          (r_M_text_L90 x1 v7 fu 0 S10).bind (fun (v11, S12) =>
          (r_M_text_L171 x1 v7 fu 0 S12).bind (fun (v13, S14) =>
          chk (inr x1 6) (
          ltS (sw S14 120 x1.toNatClampNeg v7) (fun S15 =>
          some (v7, S15)))))) (fun j80 =>
      if v6 = 0 then
        j80 (S9)
      else
        if v7 = (-1) then
          ltS (sw S9 104 46 (S9 104 44)) (fun S16 =>
          ltS (sw S16 104 47 (S16 104 45)) (fun S17 =>
          j80 (S17)))
        else
          j80 (S9)))) (fun j49 =>
    if v6 = 0 then
      j49 ((-1), S5)
    else
      (r_M_readText S5).bind (fun (r18, S19) =>
      j49 (r18, S19))))))) (fun j26 =>
  if x1 = 4 then
    j26 (1)
  else
    j26 (0)))))
set_option maxHeartbeats 4000000 in
set_option maxRecDepth 20000 in
theorem c_M_text {G : Gl} {L : Shp} (hL : Ext L) (S : Sto) (x1 : Int32)  : Ct Y_M_text G [rf G 104, .int x1] L S (fi L) (r_M_text x1 S) := by
  refine ct_of (by decide +kernel) (Nat.le_of_ble_eq_true rfl) (fun g C => ?_)
  show VO g Y_M_text G (fun z => Qm g Y_M_text G (fi L z)) 0 0 0 [(0, rf G 104), (1, .int x1)] [] L S (r_M_text x1 S) some
  unfold r_M_text
  refine v_aload_n (pc := 0) C d_M_text_0 rfl 0 rfl ?_
  refine v_iconst (pc := 1) C d_M_text_1 ic_0 ?_
  refine v_putI (pc := 2) C fp_M_150 (sh_104 hL) rfl d_M_text_2 (fun S1 => ?_)
  refine v_aload_n (pc := 5) C d_M_text_5 rfl 0 rfl ?_
  refine v_iconst (pc := 6) C d_M_text_6 ic_0 ?_
  refine v_putI (pc := 7) C fp_M_346 (sh_104 hL) rfl d_M_text_7 (fun S2 => ?_)
  refine v_aload_n (pc := 10) C d_M_text_10 rfl 0 rfl ?_
  refine v_iconst (pc := 11) C d_M_text_11 ic_m1 ?_
  refine v_putI (pc := 12) C fp_M_84 (sh_104 hL) rfl d_M_text_12 (fun S3 => ?_)
  refine v_aload_n (pc := 15) C d_M_text_15 rfl 0 rfl ?_
  refine v_iload_n (pc := 16) C d_M_text_16 rfl 1 rfl ?_
  refine v_iconst (pc := 17) C d_M_text_17 ic_4 ?_
  refine v_jn (fun j => ∀ (v4 : Int32), VO g Y_M_text G (fun z => Qm g Y_M_text G (fi L z)) 0 0 26 [(0, rf G 104), (1, .int x1)] [.int v4, rf G 104] L S3 (j (v4)) some) (fun v4 => ?_) (fun j26 hj26 => ?_)
  · refine v_chk (fun hb => ?_)
    refine v_putZ (pc := 26) C fp_M_289 (sh_104 hL) rfl d_M_text_26 hb (fun S5 => ?_)
    refine v_aload_n (pc := 29) C d_M_text_29 rfl 0 rfl ?_
    refine v_iload_n (pc := 30) C d_M_text_30 rfl 1 rfl ?_
    refine v_iconst (pc := 31) C d_M_text_31 ic_0 ?_
    refine v_iconst (pc := 32) C d_M_text_32 ic_4 ?_
    refine v_ct (pc := 33) (inv_V (As := [.int x1, .int 0, .int 4]) (st := []) C ml_M_153 mv_M_isIn ro_M_text_M_isIn (sh_104 hL) rfl rfl rfl rfl (Nat.le_of_ble_eq_true rfl) d_M_text_33) (c_M_isIn hL S5 x1 0 4) ⟨rfl, rfl⟩ ⟨Nat.zero_le _, Nat.zero_le _⟩ ?_
    refine v_lt (fun v6 => ?_)
    refine v_istore_n (pc := 36) (lv' := [(2, .int v6), (0, rf G 104), (1, .int x1)]) C d_M_text_36 rfl (by decide) rfl ?_
    refine v_iload_n (pc := 37) C d_M_text_37 rfl 0 rfl ?_
    refine v_jn (fun j => ∀ (v7 : Int32) (S8 : Sto), VO g Y_M_text G (fun z => Qm g Y_M_text G (fi L z)) 0 0 49 [(0, rf G 104), (1, .int x1), (2, .int v6)] [.int v7] L S8 (j (v7, S8)) some) (fun v7 S8 => ?_) (fun j49 hj49 => ?_)
    · refine v_istore_n (pc := 49) (lv' := [(3, .int v7), (0, rf G 104), (1, .int x1), (2, .int v6)]) C d_M_text_49 rfl (by decide) rfl ?_
      refine v_aload_n (pc := 50) C d_M_text_50 rfl 1 rfl ?_
      refine v_iconst (pc := 51) C d_M_text_51 ic_0 ?_
      refine v_putI (pc := 52) C fp_M_245 (sh_104 hL) rfl d_M_text_52 (fun S9 => ?_)
      refine v_iload_n (pc := 55) C d_M_text_55 rfl 3 rfl ?_
      refine v_jn (fun j => ∀ (S10 : Sto), VO g Y_M_text G (fun z => Qm g Y_M_text G (fi L z)) 0 0 80 [(0, rf G 104), (1, .int x1), (3, .int v7)] [] L S10 (j (S10)) some) (fun S10 => ?_) (fun j80 hj80 => ?_)
      · refine v_iload_n (pc := 80) C d_M_text_80 rfl 2 rfl ?_
        refine v_iconst (pc := 81) C d_M_text_81 ic_m1 ?_
        refine v_icmp_ne (pc := 82) (tgt := 87) C d_M_text_82 rfl (fun _ => ?_) (fun _ => ?_)
        · refine v_iconst (pc := 87) C d_M_text_87 ic_0 ?_
          refine v_istore (pc := 88) (lv' := [(4, .int 0), (0, rf G 104), (1, .int x1), (3, .int v7)]) C d_M_text_88 (by decide) rfl ?_
          refine v_sub [1, 2, 3, 0] rfl ?_
          refine v_bind ?_
          refine w_M_text_L90 C hL x1 v7  fu 0 S10 _ (fun v11 S12 => ?_) 
          refine v_some ?_
          refine v_iconst (pc := 168) C d_M_text_168 ic_0 ?_
          refine v_istore (pc := 169) (lv' := [(4, .int 0), (0, rf G 104), (1, .int x1), (3, .int v7)]) C d_M_text_169 (by decide) rfl ?_
          refine v_sub [1, 2, 3, 0] rfl ?_
          refine v_bind ?_
          refine w_M_text_L171 C hL x1 v7  fu 0 S12 _ (fun v13 S14 => ?_) 
          refine v_some ?_
          refine v_aload_n (pc := 234) C d_M_text_234 rfl 0 rfl ?_
          refine v_getR (pc := 235) C fl_M_63 (sh_104 hL) rfl d_M_text_235 ?_
          refine v_iload_n (pc := 238) C d_M_text_238 rfl 1 rfl ?_
          refine v_iload_n (pc := 239) C d_M_text_239 rfl 2 rfl ?_
          refine v_iast (pc := 240) C (sh_120 hL) d_M_text_240 (fun _ S15 => ?_)
          refine v_iload_n (pc := 241) C d_M_text_241 rfl 2 rfl ?_
          exact v_iret (z := (v7, S15)) C d_M_text_242 rfl ⟨Nat.zero_le _, Nat.zero_le _⟩ (rfl) rfl
        · refine v_iconst (pc := 85) C d_M_text_85 ic_m1 ?_
          exact v_iret (z := ((-1), S10)) C d_M_text_86 rfl ⟨Nat.zero_le _, Nat.zero_le _⟩ (rfl) rfl
      · refine v_if_eq (pc := 56) (tgt := 80) C d_M_text_56 rfl (fun _ => ?_) (fun _ => ?_)
        · refine v_sub [1, 2, 0] rfl ?_
          exact hj80 S9
        · refine v_iload_n (pc := 59) C d_M_text_59 rfl 0 rfl ?_
          refine v_iconst (pc := 60) C d_M_text_60 ic_m1 ?_
          refine v_icmp_ne (pc := 61) (tgt := 80) C d_M_text_61 rfl (fun _ => ?_) (fun _ => ?_)
          · refine v_sub [1, 2, 0] rfl ?_
            exact hj80 S9
          · refine v_aload_n (pc := 64) C d_M_text_64 rfl 1 rfl ?_
            refine v_aload_n (pc := 65) C d_M_text_65 rfl 1 rfl ?_
            refine v_getI (pc := 66) C fl_M_280 (sh_104 hL) rfl d_M_text_66 ?_
            refine v_putI (pc := 69) C fp_M_346 (sh_104 hL) rfl d_M_text_69 (fun S16 => ?_)
            refine v_aload_n (pc := 72) C d_M_text_72 rfl 1 rfl ?_
            refine v_aload_n (pc := 73) C d_M_text_73 rfl 1 rfl ?_
            refine v_getI (pc := 74) C fl_M_283 (sh_104 hL) rfl d_M_text_74 ?_
            refine v_putI (pc := 77) C fp_M_84 (sh_104 hL) rfl d_M_text_77 (fun S17 => ?_)
            refine v_sub [1, 2, 0] rfl ?_
            exact hj80 S17
    · refine v_if_eq (pc := 38) (tgt := 48) C d_M_text_38 rfl (fun _ => ?_) (fun _ => ?_)
      · refine v_iconst (pc := 48) C d_M_text_48 ic_m1 ?_
        refine v_sub [1, 2, 0] rfl ?_
        exact hj49 (-1) S5
      · refine v_aload_n (pc := 41) C d_M_text_41 rfl 1 rfl ?_
        refine v_ci (pc := 42) (inv_V (As := []) (st := []) C ml_M_349 mv_M_readText ro_M_text_M_readText (sh_104 hL) rfl rfl rfl rfl (Nat.le_of_ble_eq_true rfl) d_M_text_42) (c_M_readText hL S5) ⟨rfl, rfl⟩ ⟨Nat.zero_le _, Nat.zero_le _⟩ (fun r18 S19 => ?_)
        refine v_goto (pc := 45) (tgt := 49) C d_M_text_45 rfl ?_
        refine v_sub [1, 2, 0] rfl ?_
        exact hj49 r18 S19
  · refine v_icmp_ne (pc := 18) (tgt := 25) C d_M_text_18 rfl (fun _ => ?_) (fun _ => ?_)
    · refine v_iconst (pc := 25) C d_M_text_25 ic_0 ?_
      exact hj26 0
    · refine v_iconst (pc := 21) C d_M_text_21 ic_1 ?_
      refine v_goto (pc := 22) (tgt := 26) C d_M_text_22 rfl ?_
      exact hj26 1
-- M_fault
theorem d_M_fault_0 : decode (mB Y_M_fault) 0 = .ok (.aload_n 0, 1) := by decide +kernel
theorem d_M_fault_1 : decode (mB Y_M_fault) 1 = .ok (.iconst 0, 1) := by decide +kernel
theorem d_M_fault_2 : decode (mB Y_M_fault) 2 = .ok (.putfield 150, 3) := by decide +kernel
theorem d_M_fault_5 : decode (mB Y_M_fault) 5 = .ok (.iload_n 1, 1) := by decide +kernel
theorem d_M_fault_6 : decode (mB Y_M_fault) 6 = .ok (.ifCond .ne 10, 3) := by decide +kernel
theorem d_M_fault_9 : decode (mB Y_M_fault) 9 = .ok (.aload_n 0, 1) := by decide +kernel
theorem d_M_fault_10 : decode (mB Y_M_fault) 10 = .ok (.getfield 346, 3) := by decide +kernel
theorem d_M_fault_13 : decode (mB Y_M_fault) 13 = .ok (.goto 16, 3) := by decide +kernel
theorem d_M_fault_16 : decode (mB Y_M_fault) 16 = .ok (.iload_n 1, 1) := by decide +kernel
theorem d_M_fault_17 : decode (mB Y_M_fault) 17 = .ok (.iconst 1, 1) := by decide +kernel
theorem d_M_fault_18 : decode (mB Y_M_fault) 18 = .ok (.if_icmp .ne 10, 3) := by decide +kernel
theorem d_M_fault_21 : decode (mB Y_M_fault) 21 = .ok (.aload_n 0, 1) := by decide +kernel
theorem d_M_fault_22 : decode (mB Y_M_fault) 22 = .ok (.getfield 84, 3) := by decide +kernel
theorem d_M_fault_25 : decode (mB Y_M_fault) 25 = .ok (.goto 4, 3) := by decide +kernel
theorem d_M_fault_28 : decode (mB Y_M_fault) 28 = .ok (.iconst (-1), 1) := by decide +kernel
theorem d_M_fault_29 : decode (mB Y_M_fault) 29 = .ok (.ireturn, 1) := by decide +kernel
def r_M_fault (x1 : Int32) (S : Sto) : Option (Int32 × Sto) :=
  ltS (sw S 104 0 0) (fun S1 =>
  if x1 = 0 then
    some (S1 104 46, S1)
  else
    if x1 = 1 then
      some (S1 104 47, S1)
    else
      some ((-1), S1))
set_option maxHeartbeats 4000000 in
set_option maxRecDepth 20000 in
theorem c_M_fault {G : Gl} {L : Shp} (hL : Ext L) (S : Sto) (x1 : Int32)  : Ct Y_M_fault G [rf G 104, .int x1] L S (fi L) (r_M_fault x1 S) := by
  refine ct_of (by decide +kernel) (Nat.le_of_ble_eq_true rfl) (fun g C => ?_)
  show VO g Y_M_fault G (fun z => Qm g Y_M_fault G (fi L z)) 0 0 0 [(0, rf G 104), (1, .int x1)] [] L S (r_M_fault x1 S) some
  unfold r_M_fault
  refine v_aload_n (pc := 0) C d_M_fault_0 rfl 0 rfl ?_
  refine v_iconst (pc := 1) C d_M_fault_1 ic_0 ?_
  refine v_putI (pc := 2) C fp_M_150 (sh_104 hL) rfl d_M_fault_2 (fun S1 => ?_)
  refine v_iload_n (pc := 5) C d_M_fault_5 rfl 1 rfl ?_
  refine v_if_ne (pc := 6) (tgt := 16) C d_M_fault_6 rfl (fun _ => ?_) (fun _ => ?_)
  · refine v_iload_n (pc := 16) C d_M_fault_16 rfl 1 rfl ?_
    refine v_iconst (pc := 17) C d_M_fault_17 ic_1 ?_
    refine v_icmp_ne (pc := 18) (tgt := 28) C d_M_fault_18 rfl (fun _ => ?_) (fun _ => ?_)
    · refine v_iconst (pc := 28) C d_M_fault_28 ic_m1 ?_
      exact v_iret (z := ((-1), S1)) C d_M_fault_29 rfl ⟨Nat.zero_le _, Nat.zero_le _⟩ (rfl) rfl
    · refine v_aload_n (pc := 21) C d_M_fault_21 rfl 0 rfl ?_
      refine v_getI (pc := 22) C fl_M_84 (sh_104 hL) rfl d_M_fault_22 ?_
      refine v_goto (pc := 25) (tgt := 29) C d_M_fault_25 rfl ?_
      exact v_iret (z := (S1 104 47, S1)) C d_M_fault_29 rfl ⟨Nat.zero_le _, Nat.zero_le _⟩ (rfl) rfl
  · refine v_aload_n (pc := 9) C d_M_fault_9 rfl 0 rfl ?_
    refine v_getI (pc := 10) C fl_M_346 (sh_104 hL) rfl d_M_fault_10 ?_
    refine v_goto (pc := 13) (tgt := 29) C d_M_fault_13 rfl ?_
    exact v_iret (z := (S1 104 46, S1)) C d_M_fault_29 rfl ⟨Nat.zero_le _, Nat.zero_le _⟩ (rfl) rfl
-- M_hearer
theorem d_M_hearer_0 : decode (mB Y_M_hearer) 0 = .ok (.aload_n 0, 1) := by decide +kernel
theorem d_M_hearer_1 : decode (mB Y_M_hearer) 1 = .ok (.iconst 0, 1) := by decide +kernel
theorem d_M_hearer_2 : decode (mB Y_M_hearer) 2 = .ok (.putfield 150, 3) := by decide +kernel
theorem d_M_hearer_5 : decode (mB Y_M_hearer) 5 = .ok (.aload_n 0, 1) := by decide +kernel
theorem d_M_hearer_6 : decode (mB Y_M_hearer) 6 = .ok (.iload_n 1, 1) := by decide +kernel
theorem d_M_hearer_7 : decode (mB Y_M_hearer) 7 = .ok (.invokevirtual 180, 3) := by decide +kernel
theorem d_M_hearer_10 : decode (mB Y_M_hearer) 10 = .ok (.ifCond .eq 23, 3) := by decide +kernel
theorem d_M_hearer_13 : decode (mB Y_M_hearer) 13 = .ok (.aload_n 0, 1) := by decide +kernel
theorem d_M_hearer_14 : decode (mB Y_M_hearer) 14 = .ok (.iload_n 2, 1) := by decide +kernel
theorem d_M_hearer_15 : decode (mB Y_M_hearer) 15 = .ok (.iconst (-1), 1) := by decide +kernel
theorem d_M_hearer_16 : decode (mB Y_M_hearer) 16 = .ok (.bipush 7, 2) := by decide +kernel
theorem d_M_hearer_18 : decode (mB Y_M_hearer) 18 = .ok (.invokevirtual 153, 3) := by decide +kernel
theorem d_M_hearer_21 : decode (mB Y_M_hearer) 21 = .ok (.ifCond .eq 12, 3) := by decide +kernel
theorem d_M_hearer_24 : decode (mB Y_M_hearer) 24 = .ok (.aload_n 0, 1) := by decide +kernel
theorem d_M_hearer_25 : decode (mB Y_M_hearer) 25 = .ok (.getfield 359, 3) := by decide +kernel
theorem d_M_hearer_28 : decode (mB Y_M_hearer) 28 = .ok (.bipush 20, 2) := by decide +kernel
theorem d_M_hearer_30 : decode (mB Y_M_hearer) 30 = .ok (.if_icmp .ne 5, 3) := by decide +kernel
theorem d_M_hearer_33 : decode (mB Y_M_hearer) 33 = .ok (.iconst (-1), 1) := by decide +kernel
theorem d_M_hearer_34 : decode (mB Y_M_hearer) 34 = .ok (.ireturn, 1) := by decide +kernel
theorem d_M_hearer_35 : decode (mB Y_M_hearer) 35 = .ok (.aload_n 0, 1) := by decide +kernel
theorem d_M_hearer_36 : decode (mB Y_M_hearer) 36 = .ok (.getfield 93, 3) := by decide +kernel
theorem d_M_hearer_39 : decode (mB Y_M_hearer) 39 = .ok (.aload_n 0, 1) := by decide +kernel
theorem d_M_hearer_40 : decode (mB Y_M_hearer) 40 = .ok (.getfield 359, 3) := by decide +kernel
theorem d_M_hearer_43 : decode (mB Y_M_hearer) 43 = .ok (.iload_n 1, 1) := by decide +kernel
theorem d_M_hearer_44 : decode (mB Y_M_hearer) 44 = .ok (.iastore, 1) := by decide +kernel
theorem d_M_hearer_45 : decode (mB Y_M_hearer) 45 = .ok (.aload_n 0, 1) := by decide +kernel
theorem d_M_hearer_46 : decode (mB Y_M_hearer) 46 = .ok (.getfield 96, 3) := by decide +kernel
theorem d_M_hearer_49 : decode (mB Y_M_hearer) 49 = .ok (.aload_n 0, 1) := by decide +kernel
theorem d_M_hearer_50 : decode (mB Y_M_hearer) 50 = .ok (.getfield 359, 3) := by decide +kernel
theorem d_M_hearer_53 : decode (mB Y_M_hearer) 53 = .ok (.iload_n 2, 1) := by decide +kernel
theorem d_M_hearer_54 : decode (mB Y_M_hearer) 54 = .ok (.iastore, 1) := by decide +kernel
theorem d_M_hearer_55 : decode (mB Y_M_hearer) 55 = .ok (.aload_n 0, 1) := by decide +kernel
theorem d_M_hearer_56 : decode (mB Y_M_hearer) 56 = .ok (.aload_n 0, 1) := by decide +kernel
theorem d_M_hearer_57 : decode (mB Y_M_hearer) 57 = .ok (.getfield 359, 3) := by decide +kernel
theorem d_M_hearer_60 : decode (mB Y_M_hearer) 60 = .ok (.iconst 1, 1) := by decide +kernel
theorem d_M_hearer_61 : decode (mB Y_M_hearer) 61 = .ok (.iadd, 1) := by decide +kernel
theorem d_M_hearer_62 : decode (mB Y_M_hearer) 62 = .ok (.putfield 359, 3) := by decide +kernel
theorem d_M_hearer_65 : decode (mB Y_M_hearer) 65 = .ok (.aload_n 0, 1) := by decide +kernel
theorem d_M_hearer_66 : decode (mB Y_M_hearer) 66 = .ok (.getfield 359, 3) := by decide +kernel
theorem d_M_hearer_69 : decode (mB Y_M_hearer) 69 = .ok (.iconst 1, 1) := by decide +kernel
theorem d_M_hearer_70 : decode (mB Y_M_hearer) 70 = .ok (.isub, 1) := by decide +kernel
theorem d_M_hearer_71 : decode (mB Y_M_hearer) 71 = .ok (.ireturn, 1) := by decide +kernel
theorem ro_M_hearer_M_isCell : roomy Y_M_hearer Y_M_isCell := ⟨Nat.le_of_ble_eq_true rfl, Nat.le_of_ble_eq_true rfl⟩
theorem ro_M_hearer_M_isIn : roomy Y_M_hearer Y_M_isIn := ⟨Nat.le_of_ble_eq_true rfl, Nat.le_of_ble_eq_true rfl⟩
def r_M_hearer (x1 : Int32) (x2 : Int32) (S : Sto) : Option (Int32 × Sto) :=
  ltS (sw S 104 0 0) (fun S1 =>
  if (r_M_isCell x1) = 0 then
    some ((-1), S1)
  else
    if (r_M_isIn x2 (-1) 7) = 0 then
      some ((-1), S1)
    else
      if (S1 104 50) = 20 then
        some ((-1), S1)
      else
        chk (inr (S1 104 50) 20) (
        ltS (sw S1 129 ((S1 104 50).toNatClampNeg) x1) (fun S2 =>
        chk (inr (S2 104 50) 20) (
        ltS (sw S2 130 ((S2 104 50).toNatClampNeg) x2) (fun S3 =>
        ltS (sw S3 104 50 ((S3 104 50) + 1)) (fun S4 =>
        some ((S4 104 50) - 1, S4)))))))
set_option maxHeartbeats 4000000 in
set_option maxRecDepth 20000 in
theorem c_M_hearer {G : Gl} {L : Shp} (hL : Ext L) (S : Sto) (x1 : Int32) (x2 : Int32)  : Ct Y_M_hearer G [rf G 104, .int x1, .int x2] L S (fi L) (r_M_hearer x1 x2 S) := by
  refine ct_of (by decide +kernel) (Nat.le_of_ble_eq_true rfl) (fun g C => ?_)
  show VO g Y_M_hearer G (fun z => Qm g Y_M_hearer G (fi L z)) 0 0 0 [(0, rf G 104), (1, .int x1), (2, .int x2)] [] L S (r_M_hearer x1 x2 S) some
  unfold r_M_hearer
  refine v_aload_n (pc := 0) C d_M_hearer_0 rfl 0 rfl ?_
  refine v_iconst (pc := 1) C d_M_hearer_1 ic_0 ?_
  refine v_putI (pc := 2) C fp_M_150 (sh_104 hL) rfl d_M_hearer_2 (fun S1 => ?_)
  refine v_aload_n (pc := 5) C d_M_hearer_5 rfl 0 rfl ?_
  refine v_iload_n (pc := 6) C d_M_hearer_6 rfl 1 rfl ?_
  refine v_ct (pc := 7) (inv_V (As := [.int x1]) (st := []) C ml_M_180 mv_M_isCell ro_M_hearer_M_isCell (sh_104 hL) rfl rfl rfl rfl (Nat.le_of_ble_eq_true rfl) d_M_hearer_7) (c_M_isCell hL S1 x1) ⟨rfl, rfl⟩ ⟨Nat.zero_le _, Nat.zero_le _⟩ ?_
  refine v_if_eq (pc := 10) (tgt := 33) C d_M_hearer_10 rfl (fun _ => ?_) (fun _ => ?_)
  · refine v_iconst (pc := 33) C d_M_hearer_33 ic_m1 ?_
    exact v_iret (z := ((-1), S1)) C d_M_hearer_34 rfl ⟨Nat.zero_le _, Nat.zero_le _⟩ (rfl) rfl
  · refine v_aload_n (pc := 13) C d_M_hearer_13 rfl 0 rfl ?_
    refine v_iload_n (pc := 14) C d_M_hearer_14 rfl 2 rfl ?_
    refine v_iconst (pc := 15) C d_M_hearer_15 ic_m1 ?_
    refine v_bipush (pc := 16) C d_M_hearer_16 bp_7 ?_
    refine v_ct (pc := 18) (inv_V (As := [.int x2, .int (-1), .int 7]) (st := []) C ml_M_153 mv_M_isIn ro_M_hearer_M_isIn (sh_104 hL) rfl rfl rfl rfl (Nat.le_of_ble_eq_true rfl) d_M_hearer_18) (c_M_isIn hL S1 x2 (-1) 7) ⟨rfl, rfl⟩ ⟨Nat.zero_le _, Nat.zero_le _⟩ ?_
    refine v_if_eq (pc := 21) (tgt := 33) C d_M_hearer_21 rfl (fun _ => ?_) (fun _ => ?_)
    · refine v_iconst (pc := 33) C d_M_hearer_33 ic_m1 ?_
      exact v_iret (z := ((-1), S1)) C d_M_hearer_34 rfl ⟨Nat.zero_le _, Nat.zero_le _⟩ (rfl) rfl
    · refine v_aload_n (pc := 24) C d_M_hearer_24 rfl 0 rfl ?_
      refine v_getI (pc := 25) C fl_M_359 (sh_104 hL) rfl d_M_hearer_25 ?_
      refine v_bipush (pc := 28) C d_M_hearer_28 bp_20 ?_
      refine v_icmp_ne (pc := 30) (tgt := 35) C d_M_hearer_30 rfl (fun _ => ?_) (fun _ => ?_)
      · refine v_aload_n (pc := 35) C d_M_hearer_35 rfl 0 rfl ?_
        refine v_getR (pc := 36) C fl_M_93 (sh_104 hL) rfl d_M_hearer_36 ?_
        refine v_aload_n (pc := 39) C d_M_hearer_39 rfl 0 rfl ?_
        refine v_getI (pc := 40) C fl_M_359 (sh_104 hL) rfl d_M_hearer_40 ?_
        refine v_iload_n (pc := 43) C d_M_hearer_43 rfl 1 rfl ?_
        refine v_iast (pc := 44) C (sh_129 hL) d_M_hearer_44 (fun _ S2 => ?_)
        refine v_aload_n (pc := 45) C d_M_hearer_45 rfl 0 rfl ?_
        refine v_getR (pc := 46) C fl_M_96 (sh_104 hL) rfl d_M_hearer_46 ?_
        refine v_aload_n (pc := 49) C d_M_hearer_49 rfl 0 rfl ?_
        refine v_getI (pc := 50) C fl_M_359 (sh_104 hL) rfl d_M_hearer_50 ?_
        refine v_iload_n (pc := 53) C d_M_hearer_53 rfl 2 rfl ?_
        refine v_iast (pc := 54) C (sh_130 hL) d_M_hearer_54 (fun _ S3 => ?_)
        refine v_aload_n (pc := 55) C d_M_hearer_55 rfl 0 rfl ?_
        refine v_aload_n (pc := 56) C d_M_hearer_56 rfl 0 rfl ?_
        refine v_getI (pc := 57) C fl_M_359 (sh_104 hL) rfl d_M_hearer_57 ?_
        refine v_iconst (pc := 60) C d_M_hearer_60 ic_1 ?_
        refine v_iadd (pc := 61) C d_M_hearer_61 ?_
        refine v_putI (pc := 62) C fp_M_359 (sh_104 hL) rfl d_M_hearer_62 (fun S4 => ?_)
        refine v_aload_n (pc := 65) C d_M_hearer_65 rfl 0 rfl ?_
        refine v_getI (pc := 66) C fl_M_359 (sh_104 hL) rfl d_M_hearer_66 ?_
        refine v_iconst (pc := 69) C d_M_hearer_69 ic_1 ?_
        refine v_isub (pc := 70) C d_M_hearer_70 ?_
        exact v_iret (z := ((S4 104 50) - 1, S4)) C d_M_hearer_71 rfl ⟨Nat.zero_le _, Nat.zero_le _⟩ (rfl) rfl
      · refine v_iconst (pc := 33) C d_M_hearer_33 ic_m1 ?_
        exact v_iret (z := ((-1), S1)) C d_M_hearer_34 rfl ⟨Nat.zero_le _, Nat.zero_le _⟩ (rfl) rfl
-- M_isLaw
theorem d_M_isLaw_0 : decode (mB Y_M_isLaw) 0 = .ok (.aload_n 0, 1) := by decide +kernel
theorem d_M_isLaw_1 : decode (mB Y_M_isLaw) 1 = .ok (.iload_n 1, 1) := by decide +kernel
theorem d_M_isLaw_2 : decode (mB Y_M_isLaw) 2 = .ok (.iconst 0, 1) := by decide +kernel
theorem d_M_isLaw_3 : decode (mB Y_M_isLaw) 3 = .ok (.iconst 3, 1) := by decide +kernel
theorem d_M_isLaw_4 : decode (mB Y_M_isLaw) 4 = .ok (.invokevirtual 153, 3) := by decide +kernel
theorem d_M_isLaw_7 : decode (mB Y_M_isLaw) 7 = .ok (.ireturn, 1) := by decide +kernel
theorem ro_M_isLaw_M_isIn : roomy Y_M_isLaw Y_M_isIn := ⟨Nat.le_of_ble_eq_true rfl, Nat.le_of_ble_eq_true rfl⟩
def r_M_isLaw (x1 : Int32) : Int32 := (r_M_isIn x1 0 3)
theorem z_M_isLaw (x1 : Int32) : b01 (r_M_isLaw x1) = true := by
  unfold r_M_isLaw
  (repeat' split) <;> first | rfl | decide | exact z_M_isIn .. | rfl
set_option maxHeartbeats 4000000 in
set_option maxRecDepth 20000 in
theorem c_M_isLaw {G : Gl} {L : Shp} (hL : Ext L) (S : Sto) (x1 : Int32)  : Ct Y_M_isLaw G [rf G 104, .int x1] L S (fp L S) (some (r_M_isLaw x1)) := by
  refine ct_of (by decide +kernel) (Nat.le_of_ble_eq_true rfl) (fun g C => ?_)
  have e : (some (r_M_isLaw x1) : Option Int32) = some (r_M_isIn x1 0 3) := rfl
  rw [e]
  show VO g Y_M_isLaw G (fun z => Qm g Y_M_isLaw G (fp L S z)) 0 0 0 [(0, rf G 104), (1, .int x1)] [] L S _ some
  refine v_aload_n (pc := 0) C d_M_isLaw_0 rfl 0 rfl ?_
  refine v_iload_n (pc := 1) C d_M_isLaw_1 rfl 1 rfl ?_
  refine v_iconst (pc := 2) C d_M_isLaw_2 ic_0 ?_
  refine v_iconst (pc := 3) C d_M_isLaw_3 ic_3 ?_
  refine v_ct (pc := 4) (inv_V (As := [.int x1, .int 0, .int 3]) (st := []) C ml_M_153 mv_M_isIn ro_M_isLaw_M_isIn (sh_104 hL) rfl rfl rfl rfl (Nat.le_of_ble_eq_true rfl) d_M_isLaw_4) (c_M_isIn hL S x1 0 3) ⟨rfl, rfl⟩ ⟨Nat.zero_le _, Nat.zero_le _⟩ ?_
  exact v_zret (z := (r_M_isIn x1 0 3)) C d_M_isLaw_7 rfl (b01_n (z_M_isIn x1 0 3)) ⟨Nat.zero_le _, Nat.zero_le _⟩ (rfl) rfl
-- M_loudestBack
theorem d_M_loudestBack_0 : decode (mB Y_M_loudestBack) 0 = .ok (.iconst (-1), 1) := by decide +kernel
theorem d_M_loudestBack_1 : decode (mB Y_M_loudestBack) 1 = .ok (.istore_n 1, 1) := by decide +kernel
theorem d_M_loudestBack_2 : decode (mB Y_M_loudestBack) 2 = .ok (.iconst 0, 1) := by decide +kernel
theorem d_M_loudestBack_3 : decode (mB Y_M_loudestBack) 3 = .ok (.istore_n 2, 1) := by decide +kernel
theorem d_M_loudestBack_4 : decode (mB Y_M_loudestBack) 4 = .ok (.iload_n 2, 1) := by decide +kernel
theorem d_M_loudestBack_5 : decode (mB Y_M_loudestBack) 5 = .ok (.aload_n 0, 1) := by decide +kernel
theorem d_M_loudestBack_6 : decode (mB Y_M_loudestBack) 6 = .ok (.getfield 199, 3) := by decide +kernel
theorem d_M_loudestBack_9 : decode (mB Y_M_loudestBack) 9 = .ok (.if_icmp .ge 41, 3) := by decide +kernel
theorem d_M_loudestBack_12 : decode (mB Y_M_loudestBack) 12 = .ok (.aload_n 0, 1) := by decide +kernel
theorem d_M_loudestBack_13 : decode (mB Y_M_loudestBack) 13 = .ok (.getfield 54, 3) := by decide +kernel
theorem d_M_loudestBack_16 : decode (mB Y_M_loudestBack) 16 = .ok (.iload_n 2, 1) := by decide +kernel
theorem d_M_loudestBack_17 : decode (mB Y_M_loudestBack) 17 = .ok (.iaload, 1) := by decide +kernel
theorem d_M_loudestBack_18 : decode (mB Y_M_loudestBack) 18 = .ok (.iconst (-1), 1) := by decide +kernel
theorem d_M_loudestBack_19 : decode (mB Y_M_loudestBack) 19 = .ok (.if_icmp .eq 25, 3) := by decide +kernel
theorem d_M_loudestBack_22 : decode (mB Y_M_loudestBack) 22 = .ok (.iload_n 1, 1) := by decide +kernel
theorem d_M_loudestBack_23 : decode (mB Y_M_loudestBack) 23 = .ok (.iconst (-1), 1) := by decide +kernel
theorem d_M_loudestBack_24 : decode (mB Y_M_loudestBack) 24 = .ok (.if_icmp .eq 18, 3) := by decide +kernel
theorem d_M_loudestBack_27 : decode (mB Y_M_loudestBack) 27 = .ok (.aload_n 0, 1) := by decide +kernel
theorem d_M_loudestBack_28 : decode (mB Y_M_loudestBack) 28 = .ok (.getfield 51, 3) := by decide +kernel
theorem d_M_loudestBack_31 : decode (mB Y_M_loudestBack) 31 = .ok (.iload_n 2, 1) := by decide +kernel
theorem d_M_loudestBack_32 : decode (mB Y_M_loudestBack) 32 = .ok (.iaload, 1) := by decide +kernel
theorem d_M_loudestBack_33 : decode (mB Y_M_loudestBack) 33 = .ok (.aload_n 0, 1) := by decide +kernel
theorem d_M_loudestBack_34 : decode (mB Y_M_loudestBack) 34 = .ok (.getfield 51, 3) := by decide +kernel
theorem d_M_loudestBack_37 : decode (mB Y_M_loudestBack) 37 = .ok (.iload_n 1, 1) := by decide +kernel
theorem d_M_loudestBack_38 : decode (mB Y_M_loudestBack) 38 = .ok (.iaload, 1) := by decide +kernel
theorem d_M_loudestBack_39 : decode (mB Y_M_loudestBack) 39 = .ok (.if_icmp .le 5, 3) := by decide +kernel
theorem d_M_loudestBack_42 : decode (mB Y_M_loudestBack) 42 = .ok (.iload_n 2, 1) := by decide +kernel
theorem d_M_loudestBack_43 : decode (mB Y_M_loudestBack) 43 = .ok (.istore_n 1, 1) := by decide +kernel
theorem d_M_loudestBack_44 : decode (mB Y_M_loudestBack) 44 = .ok (.iinc 2 1, 3) := by decide +kernel
theorem d_M_loudestBack_47 : decode (mB Y_M_loudestBack) 47 = .ok (.goto (-43), 3) := by decide +kernel
theorem d_M_loudestBack_50 : decode (mB Y_M_loudestBack) 50 = .ok (.iload_n 1, 1) := by decide +kernel
theorem d_M_loudestBack_51 : decode (mB Y_M_loudestBack) 51 = .ok (.ireturn, 1) := by decide +kernel
def r_M_loudestBack_L4  : Nat → Int32 → Int32 → Sto → Option (Int32 × Int32)
  | 0, _, _, _ => none
  | n + 1, x1_, x2_, S =>
    if (S 104 5) ≤ x2_ then
      some (x1_, x2_)
    else
      chk (inr x2_ 10) (
      jn (fun (v1 : Int32) =>
        lt (x2_ + 1) (fun v2 =>
        r_M_loudestBack_L4 n v1 v2 S)) (fun j44 =>
      if (S 117 x2_.toNatClampNeg) = (-1) then
        j44 (x1_)
      else
        jn (fun (_ : Unit) =>
          j44 (x2_)) (fun j42 =>
        if x1_ = (-1) then
          j42 ()
        else
          chk (inr x2_ 10) (
          chk (inr x1_ 10) (
          if (S 116 x2_.toNatClampNeg) ≤ (S 116 x1_.toNatClampNeg) then
            j44 (x1_)
          else
            j42 ())))))
set_option maxHeartbeats 4000000 in
set_option maxRecDepth 20000 in
theorem w_M_loudestBack_L4 {g : Gm} {G : Gl} {L : Shp} (C : Cx g Y_M_loudestBack G) (hL : Ext L) (S : Sto)  :
    ∀ (n : Nat) (x1_ : Int32) (x2_ : Int32) (K : (Int32 × Int32) → Option Int32), (∀ (x1_ : Int32) (x2_ : Int32), VO g Y_M_loudestBack G (fun z => Qm g Y_M_loudestBack G (fp L S z)) 0 0 50 [(1, .int x1_)] [] L S (some (x1_, x2_)) K) → VO g Y_M_loudestBack G (fun z => Qm g Y_M_loudestBack G (fp L S z)) 0 0 4 [(0, rf G 104), (1, .int x1_), (2, .int x2_)] [] L S (r_M_loudestBack_L4 n x1_ x2_ S) K := by
  intro n
  induction n with
  | zero => intro x1_ x2_ K; intros; exact v_none
  | succ n ih =>
    intro x1_ x2_ K hK
    rw [r_M_loudestBack_L4]
    refine v_iload_n (pc := 4) C d_M_loudestBack_4 rfl 2 rfl ?_
    refine v_aload_n (pc := 5) C d_M_loudestBack_5 rfl 0 rfl ?_
    refine v_getI (pc := 6) C fl_M_199 (sh_104 hL) rfl d_M_loudestBack_6 ?_
    refine v_icmp_ge (pc := 9) (tgt := 50) C d_M_loudestBack_9 rfl (fun _ => ?_) (fun _ => ?_)
    · refine v_sub [1] rfl ?_
      exact hK x1_ x2_
    · refine v_aload_n (pc := 12) C d_M_loudestBack_12 rfl 0 rfl ?_
      refine v_getR (pc := 13) C fl_M_54 (sh_104 hL) rfl d_M_loudestBack_13 ?_
      refine v_iload_n (pc := 16) C d_M_loudestBack_16 rfl 2 rfl ?_
      refine v_iald (pc := 17) C (sh_117 hL) d_M_loudestBack_17 (fun _ => ?_)
      refine v_iconst (pc := 18) C d_M_loudestBack_18 ic_m1 ?_
      refine v_jn (fun j => ∀ (v1 : Int32), VO g Y_M_loudestBack G (fun z => Qm g Y_M_loudestBack G (fp L S z)) 0 0 44 [(0, rf G 104), (1, .int v1), (2, .int x2_)] [] L S (j (v1)) K) (fun v1 => ?_) (fun j44 hj44 => ?_)
      · refine v_iinc (pc := 44) (p := 2) (c := 1) C d_M_loudestBack_44 rfl (by decide) (by decide) (fun v2 => [(2, .int v2), (0, rf G 104), (1, .int v1)]) (fun _ => rfl) (fun v2 => ?_)
        refine v_goto (pc := 47) (tgt := 4) C d_M_loudestBack_47 rfl ?_
        refine v_sub [1, 2, 0] rfl ?_
        exact ih v1 v2 K hK
      · refine v_icmp_eq (pc := 19) (tgt := 44) C d_M_loudestBack_19 rfl (fun _ => ?_) (fun _ => ?_)
        · exact hj44 x1_
        · refine v_iload_n (pc := 22) C d_M_loudestBack_22 rfl 1 rfl ?_
          refine v_iconst (pc := 23) C d_M_loudestBack_23 ic_m1 ?_
          refine v_jn (fun j => VO g Y_M_loudestBack G (fun z => Qm g Y_M_loudestBack G (fp L S z)) 0 0 42 [(0, rf G 104), (2, .int x2_)] [] L S (j ()) K) (?_) (fun j42 hj42 => ?_)
          · refine v_iload_n (pc := 42) C d_M_loudestBack_42 rfl 1 rfl ?_
            refine v_istore_n (pc := 43) (lv' := [(1, .int x2_), (0, rf G 104), (2, .int x2_)]) C d_M_loudestBack_43 rfl (by decide) rfl ?_
            refine v_sub [1, 0, 2] rfl ?_
            exact hj44 x2_
          · refine v_icmp_eq (pc := 24) (tgt := 42) C d_M_loudestBack_24 rfl (fun _ => ?_) (fun _ => ?_)
            · refine v_sub [0, 2] rfl ?_
              exact hj42
            · refine v_aload_n (pc := 27) C d_M_loudestBack_27 rfl 0 rfl ?_
              refine v_getR (pc := 28) C fl_M_51 (sh_104 hL) rfl d_M_loudestBack_28 ?_
              refine v_iload_n (pc := 31) C d_M_loudestBack_31 rfl 2 rfl ?_
              refine v_iald (pc := 32) C (sh_116 hL) d_M_loudestBack_32 (fun _ => ?_)
              refine v_aload_n (pc := 33) C d_M_loudestBack_33 rfl 0 rfl ?_
              refine v_getR (pc := 34) C fl_M_51 (sh_104 hL) rfl d_M_loudestBack_34 ?_
              refine v_iload_n (pc := 37) C d_M_loudestBack_37 rfl 1 rfl ?_
              refine v_iald (pc := 38) C (sh_116 hL) d_M_loudestBack_38 (fun _ => ?_)
              refine v_icmp_le (pc := 39) (tgt := 44) C d_M_loudestBack_39 rfl (fun _ => ?_) (fun _ => ?_)
              · exact hj44 x1_
              · refine v_sub [0, 2] rfl ?_
                exact hj42
def r_M_loudestBack  (S : Sto) : Option Int32 :=
  (r_M_loudestBack_L4 fu (-1) 0 S).bind (fun (v1, v2) =>
  some v1)
set_option maxHeartbeats 4000000 in
set_option maxRecDepth 20000 in
theorem c_M_loudestBack {G : Gl} {L : Shp} (hL : Ext L) (S : Sto)   : Ct Y_M_loudestBack G [rf G 104] L S (fp L S) (r_M_loudestBack S) := by
  refine ct_of (by decide +kernel) (Nat.le_of_ble_eq_true rfl) (fun g C => ?_)
  show VO g Y_M_loudestBack G (fun z => Qm g Y_M_loudestBack G (fp L S z)) 0 0 0 [(0, rf G 104)] [] L S (r_M_loudestBack S) some
  unfold r_M_loudestBack
  refine v_iconst (pc := 0) C d_M_loudestBack_0 ic_m1 ?_
  refine v_istore_n (pc := 1) (lv' := [(1, .int (-1)), (0, rf G 104)]) C d_M_loudestBack_1 rfl (by decide) rfl ?_
  refine v_iconst (pc := 2) C d_M_loudestBack_2 ic_0 ?_
  refine v_istore_n (pc := 3) (lv' := [(2, .int 0), (1, .int (-1)), (0, rf G 104)]) C d_M_loudestBack_3 rfl (by decide) rfl ?_
  refine v_sub [2, 1, 0] rfl ?_
  refine v_bind ?_
  refine w_M_loudestBack_L4 C hL S  fu (-1) 0 _ (fun v1 v2 => ?_) 
  refine v_some ?_
  refine v_iload_n (pc := 50) C d_M_loudestBack_50 rfl 0 rfl ?_
  exact v_iret (z := v1) C d_M_loudestBack_51 rfl ⟨Nat.zero_le _, Nat.zero_le _⟩ (rfl) rfl
