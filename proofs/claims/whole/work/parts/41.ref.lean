-- M_shot
theorem d_M_shot_0 : decode (mB Y_M_shot) 0 = .ok (.aload_n 0, 1) := by decide +kernel
theorem d_M_shot_1 : decode (mB Y_M_shot) 1 = .ok (.iconst 0, 1) := by decide +kernel
theorem d_M_shot_2 : decode (mB Y_M_shot) 2 = .ok (.putfield 150, 3) := by decide +kernel
theorem d_M_shot_5 : decode (mB Y_M_shot) 5 = .ok (.aload_n 0, 1) := by decide +kernel
theorem d_M_shot_6 : decode (mB Y_M_shot) 6 = .ok (.iload_n 1, 1) := by decide +kernel
theorem d_M_shot_7 : decode (mB Y_M_shot) 7 = .ok (.invokevirtual 180, 3) := by decide +kernel
theorem d_M_shot_10 : decode (mB Y_M_shot) 10 = .ok (.ifCond .eq 23, 3) := by decide +kernel
theorem d_M_shot_13 : decode (mB Y_M_shot) 13 = .ok (.aload_n 0, 1) := by decide +kernel
theorem d_M_shot_14 : decode (mB Y_M_shot) 14 = .ok (.iload_n 2, 1) := by decide +kernel
theorem d_M_shot_15 : decode (mB Y_M_shot) 15 = .ok (.iconst 0, 1) := by decide +kernel
theorem d_M_shot_16 : decode (mB Y_M_shot) 16 = .ok (.ldc 205, 2) := by decide +kernel
theorem d_M_shot_18 : decode (mB Y_M_shot) 18 = .ok (.invokevirtual 153, 3) := by decide +kernel
theorem d_M_shot_21 : decode (mB Y_M_shot) 21 = .ok (.ifCond .eq 12, 3) := by decide +kernel
theorem d_M_shot_24 : decode (mB Y_M_shot) 24 = .ok (.aload_n 0, 1) := by decide +kernel
theorem d_M_shot_25 : decode (mB Y_M_shot) 25 = .ok (.getfield 202, 3) := by decide +kernel
theorem d_M_shot_28 : decode (mB Y_M_shot) 28 = .ok (.bipush 10, 2) := by decide +kernel
theorem d_M_shot_30 : decode (mB Y_M_shot) 30 = .ok (.if_icmp .ne 5, 3) := by decide +kernel
theorem d_M_shot_33 : decode (mB Y_M_shot) 33 = .ok (.iconst (-1), 1) := by decide +kernel
theorem d_M_shot_34 : decode (mB Y_M_shot) 34 = .ok (.ireturn, 1) := by decide +kernel
theorem d_M_shot_35 : decode (mB Y_M_shot) 35 = .ok (.iload_n 3, 1) := by decide +kernel
theorem d_M_shot_36 : decode (mB Y_M_shot) 36 = .ok (.iconst (-1), 1) := by decide +kernel
theorem d_M_shot_37 : decode (mB Y_M_shot) 37 = .ok (.if_icmp .eq 30, 3) := by decide +kernel
theorem d_M_shot_40 : decode (mB Y_M_shot) 40 = .ok (.aload_n 0, 1) := by decide +kernel
theorem d_M_shot_41 : decode (mB Y_M_shot) 41 = .ok (.iload_n 3, 1) := by decide +kernel
theorem d_M_shot_42 : decode (mB Y_M_shot) 42 = .ok (.invokevirtual 180, 3) := by decide +kernel
theorem d_M_shot_45 : decode (mB Y_M_shot) 45 = .ok (.ifCond .eq 20, 3) := by decide +kernel
theorem d_M_shot_48 : decode (mB Y_M_shot) 48 = .ok (.iload_n 3, 1) := by decide +kernel
theorem d_M_shot_49 : decode (mB Y_M_shot) 49 = .ok (.iload_n 1, 1) := by decide +kernel
theorem d_M_shot_50 : decode (mB Y_M_shot) 50 = .ok (.if_icmp .eq 15, 3) := by decide +kernel
theorem d_M_shot_53 : decode (mB Y_M_shot) 53 = .ok (.aload_n 0, 1) := by decide +kernel
theorem d_M_shot_54 : decode (mB Y_M_shot) 54 = .ok (.iload 4, 2) := by decide +kernel
theorem d_M_shot_56 : decode (mB Y_M_shot) 56 = .ok (.iconst 1, 1) := by decide +kernel
theorem d_M_shot_57 : decode (mB Y_M_shot) 57 = .ok (.bipush 99, 2) := by decide +kernel
theorem d_M_shot_59 : decode (mB Y_M_shot) 59 = .ok (.invokevirtual 153, 3) := by decide +kernel
theorem d_M_shot_62 : decode (mB Y_M_shot) 62 = .ok (.ifCond .ne 5, 3) := by decide +kernel
theorem d_M_shot_65 : decode (mB Y_M_shot) 65 = .ok (.iconst (-1), 1) := by decide +kernel
theorem d_M_shot_66 : decode (mB Y_M_shot) 66 = .ok (.ireturn, 1) := by decide +kernel
theorem d_M_shot_67 : decode (mB Y_M_shot) 67 = .ok (.aload_n 0, 1) := by decide +kernel
theorem d_M_shot_68 : decode (mB Y_M_shot) 68 = .ok (.getfield 36, 3) := by decide +kernel
theorem d_M_shot_71 : decode (mB Y_M_shot) 71 = .ok (.aload_n 0, 1) := by decide +kernel
theorem d_M_shot_72 : decode (mB Y_M_shot) 72 = .ok (.getfield 202, 3) := by decide +kernel
theorem d_M_shot_75 : decode (mB Y_M_shot) 75 = .ok (.iload_n 1, 1) := by decide +kernel
theorem d_M_shot_76 : decode (mB Y_M_shot) 76 = .ok (.iastore, 1) := by decide +kernel
theorem d_M_shot_77 : decode (mB Y_M_shot) 77 = .ok (.aload_n 0, 1) := by decide +kernel
theorem d_M_shot_78 : decode (mB Y_M_shot) 78 = .ok (.getfield 39, 3) := by decide +kernel
theorem d_M_shot_81 : decode (mB Y_M_shot) 81 = .ok (.aload_n 0, 1) := by decide +kernel
theorem d_M_shot_82 : decode (mB Y_M_shot) 82 = .ok (.getfield 202, 3) := by decide +kernel
theorem d_M_shot_85 : decode (mB Y_M_shot) 85 = .ok (.iload_n 2, 1) := by decide +kernel
theorem d_M_shot_86 : decode (mB Y_M_shot) 86 = .ok (.iastore, 1) := by decide +kernel
theorem d_M_shot_87 : decode (mB Y_M_shot) 87 = .ok (.aload_n 0, 1) := by decide +kernel
theorem d_M_shot_88 : decode (mB Y_M_shot) 88 = .ok (.getfield 42, 3) := by decide +kernel
theorem d_M_shot_91 : decode (mB Y_M_shot) 91 = .ok (.aload_n 0, 1) := by decide +kernel
theorem d_M_shot_92 : decode (mB Y_M_shot) 92 = .ok (.getfield 202, 3) := by decide +kernel
theorem d_M_shot_95 : decode (mB Y_M_shot) 95 = .ok (.iload_n 3, 1) := by decide +kernel
theorem d_M_shot_96 : decode (mB Y_M_shot) 96 = .ok (.iastore, 1) := by decide +kernel
theorem d_M_shot_97 : decode (mB Y_M_shot) 97 = .ok (.aload_n 0, 1) := by decide +kernel
theorem d_M_shot_98 : decode (mB Y_M_shot) 98 = .ok (.getfield 45, 3) := by decide +kernel
theorem d_M_shot_101 : decode (mB Y_M_shot) 101 = .ok (.aload_n 0, 1) := by decide +kernel
theorem d_M_shot_102 : decode (mB Y_M_shot) 102 = .ok (.getfield 202, 3) := by decide +kernel
theorem d_M_shot_105 : decode (mB Y_M_shot) 105 = .ok (.iload 4, 2) := by decide +kernel
theorem d_M_shot_107 : decode (mB Y_M_shot) 107 = .ok (.iastore, 1) := by decide +kernel
theorem d_M_shot_108 : decode (mB Y_M_shot) 108 = .ok (.aload_n 0, 1) := by decide +kernel
theorem d_M_shot_109 : decode (mB Y_M_shot) 109 = .ok (.aload_n 0, 1) := by decide +kernel
theorem d_M_shot_110 : decode (mB Y_M_shot) 110 = .ok (.getfield 202, 3) := by decide +kernel
theorem d_M_shot_113 : decode (mB Y_M_shot) 113 = .ok (.iconst 1, 1) := by decide +kernel
theorem d_M_shot_114 : decode (mB Y_M_shot) 114 = .ok (.iadd, 1) := by decide +kernel
theorem d_M_shot_115 : decode (mB Y_M_shot) 115 = .ok (.putfield 202, 3) := by decide +kernel
theorem d_M_shot_118 : decode (mB Y_M_shot) 118 = .ok (.aload_n 0, 1) := by decide +kernel
theorem d_M_shot_119 : decode (mB Y_M_shot) 119 = .ok (.getfield 202, 3) := by decide +kernel
theorem d_M_shot_122 : decode (mB Y_M_shot) 122 = .ok (.iconst 1, 1) := by decide +kernel
theorem d_M_shot_123 : decode (mB Y_M_shot) 123 = .ok (.isub, 1) := by decide +kernel
theorem d_M_shot_124 : decode (mB Y_M_shot) 124 = .ok (.ireturn, 1) := by decide +kernel
theorem ro_M_shot_M_isCell : roomy Y_M_shot Y_M_isCell := ⟨Nat.le_of_ble_eq_true rfl, Nat.le_of_ble_eq_true rfl⟩
theorem ro_M_shot_M_isIn : roomy Y_M_shot Y_M_isIn := ⟨Nat.le_of_ble_eq_true rfl, Nat.le_of_ble_eq_true rfl⟩
def r_M_shot (x1 : Int32) (x2 : Int32) (x3 : Int32) (x4 : Int32) (S : Sto) : Option (Int32 × Sto) :=
  ltS (sw S 104 0 0) (fun S1 =>
  if (r_M_isCell x1) = 0 then
    some ((-1), S1)
  else
    if (r_M_isIn x2 0 99999) = 0 then
      some ((-1), S1)
    else
      if (S1 104 12) = 10 then
        some ((-1), S1)
      else
        jn (fun (_ : Unit) =>
          chk (inr (S1 104 12) 10) (
          ltS (sw S1 111 ((S1 104 12).toNatClampNeg) x1) (fun S2 =>
          chk (inr (S2 104 12) 10) (
          ltS (sw S2 112 ((S2 104 12).toNatClampNeg) x2) (fun S3 =>
          chk (inr (S3 104 12) 10) (
          ltS (sw S3 113 ((S3 104 12).toNatClampNeg) x3) (fun S4 =>
          chk (inr (S4 104 12) 10) (
          ltS (sw S4 114 ((S4 104 12).toNatClampNeg) x4) (fun S5 =>
          ltS (sw S5 104 12 ((S5 104 12) + 1)) (fun S6 =>
          some ((S6 104 12) - 1, S6))))))))))) (fun j67 =>
        if x3 = (-1) then
          j67 ()
        else
          if (r_M_isCell x3) = 0 then
            some ((-1), S1)
          else
            if x3 = x1 then
              some ((-1), S1)
            else
              if (r_M_isIn x4 1 99) = 0 then
                some ((-1), S1)
              else
                j67 ()))
set_option maxHeartbeats 4000000 in
set_option maxRecDepth 20000 in
theorem c_M_shot {G : Gl} {L : Shp} (hL : Ext L) (S : Sto) (x1 : Int32) (x2 : Int32) (x3 : Int32) (x4 : Int32)  : Ct Y_M_shot G [rf G 104, .int x1, .int x2, .int x3, .int x4] L S (fi L) (r_M_shot x1 x2 x3 x4 S) := by
  refine ct_of (by decide +kernel) (Nat.le_of_ble_eq_true rfl) (fun g C => ?_)
  show VO g Y_M_shot G (fun z => Qm g Y_M_shot G (fi L z)) 0 0 0 [(0, rf G 104), (1, .int x1), (2, .int x2), (3, .int x3), (4, .int x4)] [] L S (r_M_shot x1 x2 x3 x4 S) some
  unfold r_M_shot
  refine v_aload_n (pc := 0) C d_M_shot_0 rfl 0 rfl ?_
  refine v_iconst (pc := 1) C d_M_shot_1 ic_0 ?_
  refine v_putI (pc := 2) C fp_M_150 (sh_104 hL) rfl d_M_shot_2 (fun S1 => ?_)
  refine v_aload_n (pc := 5) C d_M_shot_5 rfl 0 rfl ?_
  refine v_iload_n (pc := 6) C d_M_shot_6 rfl 1 rfl ?_
  refine v_ct (pc := 7) (inv_V (As := [.int x1]) (st := []) C ml_M_180 mv_M_isCell ro_M_shot_M_isCell (sh_104 hL) rfl rfl rfl rfl (Nat.le_of_ble_eq_true rfl) d_M_shot_7) (c_M_isCell hL S1 x1) ⟨rfl, rfl⟩ ⟨Nat.zero_le _, Nat.zero_le _⟩ ?_
  refine v_if_eq (pc := 10) (tgt := 33) C d_M_shot_10 rfl (fun _ => ?_) (fun _ => ?_)
  · refine v_iconst (pc := 33) C d_M_shot_33 ic_m1 ?_
    exact v_iret (z := ((-1), S1)) C d_M_shot_34 rfl ⟨Nat.zero_le _, Nat.zero_le _⟩ (rfl) rfl
  · refine v_aload_n (pc := 13) C d_M_shot_13 rfl 0 rfl ?_
    refine v_iload_n (pc := 14) C d_M_shot_14 rfl 2 rfl ?_
    refine v_iconst (pc := 15) C d_M_shot_15 ic_0 ?_
    refine v_ldc (pc := 16) C d_M_shot_16 kc_M_205 ?_
    refine v_ct (pc := 18) (inv_V (As := [.int x2, .int 0, .int 99999]) (st := []) C ml_M_153 mv_M_isIn ro_M_shot_M_isIn (sh_104 hL) rfl rfl rfl rfl (Nat.le_of_ble_eq_true rfl) d_M_shot_18) (c_M_isIn hL S1 x2 0 99999) ⟨rfl, rfl⟩ ⟨Nat.zero_le _, Nat.zero_le _⟩ ?_
    refine v_if_eq (pc := 21) (tgt := 33) C d_M_shot_21 rfl (fun _ => ?_) (fun _ => ?_)
    · refine v_iconst (pc := 33) C d_M_shot_33 ic_m1 ?_
      exact v_iret (z := ((-1), S1)) C d_M_shot_34 rfl ⟨Nat.zero_le _, Nat.zero_le _⟩ (rfl) rfl
    · refine v_aload_n (pc := 24) C d_M_shot_24 rfl 0 rfl ?_
      refine v_getI (pc := 25) C fl_M_202 (sh_104 hL) rfl d_M_shot_25 ?_
      refine v_bipush (pc := 28) C d_M_shot_28 bp_10 ?_
      refine v_icmp_ne (pc := 30) (tgt := 35) C d_M_shot_30 rfl (fun _ => ?_) (fun _ => ?_)
      · refine v_iload_n (pc := 35) C d_M_shot_35 rfl 3 rfl ?_
        refine v_iconst (pc := 36) C d_M_shot_36 ic_m1 ?_
        refine v_jn (fun j => VO g Y_M_shot G (fun z => Qm g Y_M_shot G (fi L z)) 0 0 67 [(0, rf G 104), (1, .int x1), (2, .int x2), (3, .int x3), (4, .int x4)] [] L S1 (j ()) some) (?_) (fun j67 hj67 => ?_)
        · refine v_aload_n (pc := 67) C d_M_shot_67 rfl 0 rfl ?_
          refine v_getR (pc := 68) C fl_M_36 (sh_104 hL) rfl d_M_shot_68 ?_
          refine v_aload_n (pc := 71) C d_M_shot_71 rfl 0 rfl ?_
          refine v_getI (pc := 72) C fl_M_202 (sh_104 hL) rfl d_M_shot_72 ?_
          refine v_iload_n (pc := 75) C d_M_shot_75 rfl 1 rfl ?_
          refine v_iast (pc := 76) C (sh_111 hL) d_M_shot_76 (fun _ S2 => ?_)
          refine v_aload_n (pc := 77) C d_M_shot_77 rfl 0 rfl ?_
          refine v_getR (pc := 78) C fl_M_39 (sh_104 hL) rfl d_M_shot_78 ?_
          refine v_aload_n (pc := 81) C d_M_shot_81 rfl 0 rfl ?_
          refine v_getI (pc := 82) C fl_M_202 (sh_104 hL) rfl d_M_shot_82 ?_
          refine v_iload_n (pc := 85) C d_M_shot_85 rfl 2 rfl ?_
          refine v_iast (pc := 86) C (sh_112 hL) d_M_shot_86 (fun _ S3 => ?_)
          refine v_aload_n (pc := 87) C d_M_shot_87 rfl 0 rfl ?_
          refine v_getR (pc := 88) C fl_M_42 (sh_104 hL) rfl d_M_shot_88 ?_
          refine v_aload_n (pc := 91) C d_M_shot_91 rfl 0 rfl ?_
          refine v_getI (pc := 92) C fl_M_202 (sh_104 hL) rfl d_M_shot_92 ?_
          refine v_iload_n (pc := 95) C d_M_shot_95 rfl 3 rfl ?_
          refine v_iast (pc := 96) C (sh_113 hL) d_M_shot_96 (fun _ S4 => ?_)
          refine v_aload_n (pc := 97) C d_M_shot_97 rfl 0 rfl ?_
          refine v_getR (pc := 98) C fl_M_45 (sh_104 hL) rfl d_M_shot_98 ?_
          refine v_aload_n (pc := 101) C d_M_shot_101 rfl 0 rfl ?_
          refine v_getI (pc := 102) C fl_M_202 (sh_104 hL) rfl d_M_shot_102 ?_
          refine v_iload (pc := 105) C d_M_shot_105 4 rfl ?_
          refine v_iast (pc := 107) C (sh_114 hL) d_M_shot_107 (fun _ S5 => ?_)
          refine v_aload_n (pc := 108) C d_M_shot_108 rfl 0 rfl ?_
          refine v_aload_n (pc := 109) C d_M_shot_109 rfl 0 rfl ?_
          refine v_getI (pc := 110) C fl_M_202 (sh_104 hL) rfl d_M_shot_110 ?_
          refine v_iconst (pc := 113) C d_M_shot_113 ic_1 ?_
          refine v_iadd (pc := 114) C d_M_shot_114 ?_
          refine v_putI (pc := 115) C fp_M_202 (sh_104 hL) rfl d_M_shot_115 (fun S6 => ?_)
          refine v_aload_n (pc := 118) C d_M_shot_118 rfl 0 rfl ?_
          refine v_getI (pc := 119) C fl_M_202 (sh_104 hL) rfl d_M_shot_119 ?_
          refine v_iconst (pc := 122) C d_M_shot_122 ic_1 ?_
          refine v_isub (pc := 123) C d_M_shot_123 ?_
          exact v_iret (z := ((S6 104 12) - 1, S6)) C d_M_shot_124 rfl ⟨Nat.zero_le _, Nat.zero_le _⟩ (rfl) rfl
        · refine v_icmp_eq (pc := 37) (tgt := 67) C d_M_shot_37 rfl (fun _ => ?_) (fun _ => ?_)
          · exact hj67
          · refine v_aload_n (pc := 40) C d_M_shot_40 rfl 0 rfl ?_
            refine v_iload_n (pc := 41) C d_M_shot_41 rfl 3 rfl ?_
            refine v_ct (pc := 42) (inv_V (As := [.int x3]) (st := []) C ml_M_180 mv_M_isCell ro_M_shot_M_isCell (sh_104 hL) rfl rfl rfl rfl (Nat.le_of_ble_eq_true rfl) d_M_shot_42) (c_M_isCell hL S1 x3) ⟨rfl, rfl⟩ ⟨Nat.zero_le _, Nat.zero_le _⟩ ?_
            refine v_if_eq (pc := 45) (tgt := 65) C d_M_shot_45 rfl (fun _ => ?_) (fun _ => ?_)
            · refine v_iconst (pc := 65) C d_M_shot_65 ic_m1 ?_
              exact v_iret (z := ((-1), S1)) C d_M_shot_66 rfl ⟨Nat.zero_le _, Nat.zero_le _⟩ (rfl) rfl
            · refine v_iload_n (pc := 48) C d_M_shot_48 rfl 3 rfl ?_
              refine v_iload_n (pc := 49) C d_M_shot_49 rfl 1 rfl ?_
              refine v_icmp_eq (pc := 50) (tgt := 65) C d_M_shot_50 rfl (fun _ => ?_) (fun _ => ?_)
              · refine v_iconst (pc := 65) C d_M_shot_65 ic_m1 ?_
                exact v_iret (z := ((-1), S1)) C d_M_shot_66 rfl ⟨Nat.zero_le _, Nat.zero_le _⟩ (rfl) rfl
              · refine v_aload_n (pc := 53) C d_M_shot_53 rfl 0 rfl ?_
                refine v_iload (pc := 54) C d_M_shot_54 4 rfl ?_
                refine v_iconst (pc := 56) C d_M_shot_56 ic_1 ?_
                refine v_bipush (pc := 57) C d_M_shot_57 bp_99 ?_
                refine v_ct (pc := 59) (inv_V (As := [.int x4, .int 1, .int 99]) (st := []) C ml_M_153 mv_M_isIn ro_M_shot_M_isIn (sh_104 hL) rfl rfl rfl rfl (Nat.le_of_ble_eq_true rfl) d_M_shot_59) (c_M_isIn hL S1 x4 1 99) ⟨rfl, rfl⟩ ⟨Nat.zero_le _, Nat.zero_le _⟩ ?_
                refine v_if_ne (pc := 62) (tgt := 67) C d_M_shot_62 rfl (fun _ => ?_) (fun _ => ?_)
                · exact hj67
                · refine v_iconst (pc := 65) C d_M_shot_65 ic_m1 ?_
                  exact v_iret (z := ((-1), S1)) C d_M_shot_66 rfl ⟨Nat.zero_le _, Nat.zero_le _⟩ (rfl) rfl
      · refine v_iconst (pc := 33) C d_M_shot_33 ic_m1 ?_
        exact v_iret (z := ((-1), S1)) C d_M_shot_34 rfl ⟨Nat.zero_le _, Nat.zero_le _⟩ (rfl) rfl
-- M_isShot
theorem d_M_isShot_0 : decode (mB Y_M_isShot) 0 = .ok (.iload_n 1, 1) := by decide +kernel
theorem d_M_isShot_1 : decode (mB Y_M_isShot) 1 = .ok (.ifCond .lt 15, 3) := by decide +kernel
theorem d_M_isShot_4 : decode (mB Y_M_isShot) 4 = .ok (.iload_n 1, 1) := by decide +kernel
theorem d_M_isShot_5 : decode (mB Y_M_isShot) 5 = .ok (.aload_n 0, 1) := by decide +kernel
theorem d_M_isShot_6 : decode (mB Y_M_isShot) 6 = .ok (.getfield 202, 3) := by decide +kernel
theorem d_M_isShot_9 : decode (mB Y_M_isShot) 9 = .ok (.if_icmp .ge 7, 3) := by decide +kernel
theorem d_M_isShot_12 : decode (mB Y_M_isShot) 12 = .ok (.iconst 1, 1) := by decide +kernel
theorem d_M_isShot_13 : decode (mB Y_M_isShot) 13 = .ok (.goto 4, 3) := by decide +kernel
theorem d_M_isShot_16 : decode (mB Y_M_isShot) 16 = .ok (.iconst 0, 1) := by decide +kernel
theorem d_M_isShot_17 : decode (mB Y_M_isShot) 17 = .ok (.ireturn, 1) := by decide +kernel
def r_M_isShot (x1 : Int32) (S : Sto) : Int32 := (if x1 < 0 then 0 else (if (S 104 12) ≤ x1 then 0 else 1))
theorem z_M_isShot (x1 : Int32) (S : Sto) : b01 (r_M_isShot x1 S) = true := by
  unfold r_M_isShot
  (repeat' split) <;> first | rfl | decide | rfl
set_option maxHeartbeats 4000000 in
set_option maxRecDepth 20000 in
theorem c_M_isShot {G : Gl} {L : Shp} (hL : Ext L) (S : Sto) (x1 : Int32)  : Ct Y_M_isShot G [rf G 104, .int x1] L S (fp L S) (some (r_M_isShot x1 S)) := by
  refine ct_of (by decide +kernel) (Nat.le_of_ble_eq_true rfl) (fun g C => ?_)
  have e : (some (r_M_isShot x1 S) : Option Int32) =
      if x1 < 0 then
        some 0
      else
        if (S 104 12) ≤ x1 then
          some 0
        else
          some 1 := by
    unfold r_M_isShot
    simp only [some_ite, lt, ltJ]
  rw [e]
  show VO g Y_M_isShot G (fun z => Qm g Y_M_isShot G (fp L S z)) 0 0 0 [(0, rf G 104), (1, .int x1)] [] L S _ some
  refine v_iload_n (pc := 0) C d_M_isShot_0 rfl 1 rfl ?_
  refine v_if_lt (pc := 1) (tgt := 16) C d_M_isShot_1 rfl (fun _ => ?_) (fun _ => ?_)
  · refine v_iconst (pc := 16) C d_M_isShot_16 ic_0 ?_
    exact v_zret (z := 0) C d_M_isShot_17 rfl (b01_n (by decide)) ⟨Nat.zero_le _, Nat.zero_le _⟩ (rfl) rfl
  · refine v_iload_n (pc := 4) C d_M_isShot_4 rfl 1 rfl ?_
    refine v_aload_n (pc := 5) C d_M_isShot_5 rfl 0 rfl ?_
    refine v_getI (pc := 6) C fl_M_202 (sh_104 hL) rfl d_M_isShot_6 ?_
    refine v_icmp_ge (pc := 9) (tgt := 16) C d_M_isShot_9 rfl (fun _ => ?_) (fun _ => ?_)
    · refine v_iconst (pc := 16) C d_M_isShot_16 ic_0 ?_
      exact v_zret (z := 0) C d_M_isShot_17 rfl (b01_n (by decide)) ⟨Nat.zero_le _, Nat.zero_le _⟩ (rfl) rfl
    · refine v_iconst (pc := 12) C d_M_isShot_12 ic_1 ?_
      refine v_goto (pc := 13) (tgt := 17) C d_M_isShot_13 rfl ?_
      exact v_zret (z := 1) C d_M_isShot_17 rfl (b01_n (by decide)) ⟨Nat.zero_le _, Nat.zero_le _⟩ (rfl) rfl
-- M_size
theorem d_M_size_0 : decode (mB Y_M_size) 0 = .ok (.iload_n 1, 1) := by decide +kernel
theorem d_M_size_1 : decode (mB Y_M_size) 1 = .ok (.ifCond .ge 8, 3) := by decide +kernel
theorem d_M_size_4 : decode (mB Y_M_size) 4 = .ok (.iload_n 1, 1) := by decide +kernel
theorem d_M_size_5 : decode (mB Y_M_size) 5 = .ok (.ineg, 1) := by decide +kernel
theorem d_M_size_6 : decode (mB Y_M_size) 6 = .ok (.goto 4, 3) := by decide +kernel
theorem d_M_size_9 : decode (mB Y_M_size) 9 = .ok (.iload_n 1, 1) := by decide +kernel
theorem d_M_size_10 : decode (mB Y_M_size) 10 = .ok (.ireturn, 1) := by decide +kernel
def r_M_size (x1 : Int32) : Int32 := (if 0 ≤ x1 then x1 else -x1)
set_option maxHeartbeats 4000000 in
set_option maxRecDepth 20000 in
theorem c_M_size {G : Gl} {L : Shp} (hL : Ext L) (S : Sto) (x1 : Int32)  : Ct Y_M_size G [rf G 104, .int x1] L S (fp L S) (some (r_M_size x1)) := by
  refine ct_of (by decide +kernel) (Nat.le_of_ble_eq_true rfl) (fun g C => ?_)
  have e : (some (r_M_size x1) : Option Int32) =
      if 0 ≤ x1 then
        some x1
      else
        some (-x1) := by
    unfold r_M_size
    simp only [some_ite, lt, ltJ]
  rw [e]
  show VO g Y_M_size G (fun z => Qm g Y_M_size G (fp L S z)) 0 0 0 [(0, rf G 104), (1, .int x1)] [] L S _ some
  refine v_iload_n (pc := 0) C d_M_size_0 rfl 1 rfl ?_
  refine v_if_ge (pc := 1) (tgt := 9) C d_M_size_1 rfl (fun _ => ?_) (fun _ => ?_)
  · refine v_iload_n (pc := 9) C d_M_size_9 rfl 1 rfl ?_
    exact v_iret (z := x1) C d_M_size_10 rfl ⟨Nat.zero_le _, Nat.zero_le _⟩ (rfl) rfl
  · refine v_iload_n (pc := 4) C d_M_size_4 rfl 1 rfl ?_
    refine v_ineg (pc := 5) C d_M_size_5 ?_
    refine v_goto (pc := 6) (tgt := 10) C d_M_size_6 rfl ?_
    exact v_iret (z := (-x1)) C d_M_size_10 rfl ⟨Nat.zero_le _, Nat.zero_le _⟩ (rfl) rfl
-- M_findsCrack
theorem d_M_findsCrack_0 : decode (mB Y_M_findsCrack) 0 = .ok (.aload_n 0, 1) := by decide +kernel
theorem d_M_findsCrack_1 : decode (mB Y_M_findsCrack) 1 = .ok (.iconst (-1), 1) := by decide +kernel
theorem d_M_findsCrack_2 : decode (mB Y_M_findsCrack) 2 = .ok (.putfield 206, 3) := by decide +kernel
theorem d_M_findsCrack_5 : decode (mB Y_M_findsCrack) 5 = .ok (.aload_n 0, 1) := by decide +kernel
theorem d_M_findsCrack_6 : decode (mB Y_M_findsCrack) 6 = .ok (.iconst (-1), 1) := by decide +kernel
theorem d_M_findsCrack_7 : decode (mB Y_M_findsCrack) 7 = .ok (.putfield 209, 3) := by decide +kernel
theorem d_M_findsCrack_10 : decode (mB Y_M_findsCrack) 10 = .ok (.aload_n 0, 1) := by decide +kernel
theorem d_M_findsCrack_11 : decode (mB Y_M_findsCrack) 11 = .ok (.iconst 0, 1) := by decide +kernel
theorem d_M_findsCrack_12 : decode (mB Y_M_findsCrack) 12 = .ok (.putfield 212, 3) := by decide +kernel
theorem d_M_findsCrack_15 : decode (mB Y_M_findsCrack) 15 = .ok (.iload_n 3, 1) := by decide +kernel
theorem d_M_findsCrack_16 : decode (mB Y_M_findsCrack) 16 = .ok (.iconst (-1), 1) := by decide +kernel
theorem d_M_findsCrack_17 : decode (mB Y_M_findsCrack) 17 = .ok (.if_icmp .ne 4, 3) := by decide +kernel
theorem d_M_findsCrack_20 : decode (mB Y_M_findsCrack) 20 = .ok (.return_, 1) := by decide +kernel
theorem d_M_findsCrack_21 : decode (mB Y_M_findsCrack) 21 = .ok (.iload_n 1, 1) := by decide +kernel
theorem d_M_findsCrack_22 : decode (mB Y_M_findsCrack) 22 = .ok (.bipush 60, 2) := by decide +kernel
theorem d_M_findsCrack_24 : decode (mB Y_M_findsCrack) 24 = .ok (.irem, 1) := by decide +kernel
theorem d_M_findsCrack_25 : decode (mB Y_M_findsCrack) 25 = .ok (.istore 6, 2) := by decide +kernel
theorem d_M_findsCrack_27 : decode (mB Y_M_findsCrack) 27 = .ok (.iload_n 1, 1) := by decide +kernel
theorem d_M_findsCrack_28 : decode (mB Y_M_findsCrack) 28 = .ok (.bipush 60, 2) := by decide +kernel
theorem d_M_findsCrack_30 : decode (mB Y_M_findsCrack) 30 = .ok (.idiv, 1) := by decide +kernel
theorem d_M_findsCrack_31 : decode (mB Y_M_findsCrack) 31 = .ok (.istore 7, 2) := by decide +kernel
theorem d_M_findsCrack_33 : decode (mB Y_M_findsCrack) 33 = .ok (.iload_n 3, 1) := by decide +kernel
theorem d_M_findsCrack_34 : decode (mB Y_M_findsCrack) 34 = .ok (.bipush 60, 2) := by decide +kernel
theorem d_M_findsCrack_36 : decode (mB Y_M_findsCrack) 36 = .ok (.irem, 1) := by decide +kernel
theorem d_M_findsCrack_37 : decode (mB Y_M_findsCrack) 37 = .ok (.iload 6, 2) := by decide +kernel
theorem d_M_findsCrack_39 : decode (mB Y_M_findsCrack) 39 = .ok (.isub, 1) := by decide +kernel
theorem d_M_findsCrack_40 : decode (mB Y_M_findsCrack) 40 = .ok (.istore 8, 2) := by decide +kernel
theorem d_M_findsCrack_42 : decode (mB Y_M_findsCrack) 42 = .ok (.iload_n 3, 1) := by decide +kernel
theorem d_M_findsCrack_43 : decode (mB Y_M_findsCrack) 43 = .ok (.bipush 60, 2) := by decide +kernel
theorem d_M_findsCrack_45 : decode (mB Y_M_findsCrack) 45 = .ok (.idiv, 1) := by decide +kernel
theorem d_M_findsCrack_46 : decode (mB Y_M_findsCrack) 46 = .ok (.iload 7, 2) := by decide +kernel
theorem d_M_findsCrack_48 : decode (mB Y_M_findsCrack) 48 = .ok (.isub, 1) := by decide +kernel
theorem d_M_findsCrack_49 : decode (mB Y_M_findsCrack) 49 = .ok (.istore 9, 2) := by decide +kernel
theorem d_M_findsCrack_51 : decode (mB Y_M_findsCrack) 51 = .ok (.aload_n 0, 1) := by decide +kernel
theorem d_M_findsCrack_52 : decode (mB Y_M_findsCrack) 52 = .ok (.iload 8, 2) := by decide +kernel
theorem d_M_findsCrack_54 : decode (mB Y_M_findsCrack) 54 = .ok (.invokevirtual 215, 3) := by decide +kernel
theorem d_M_findsCrack_57 : decode (mB Y_M_findsCrack) 57 = .ok (.aload_n 0, 1) := by decide +kernel
theorem d_M_findsCrack_58 : decode (mB Y_M_findsCrack) 58 = .ok (.iload 9, 2) := by decide +kernel
theorem d_M_findsCrack_60 : decode (mB Y_M_findsCrack) 60 = .ok (.invokevirtual 215, 3) := by decide +kernel
theorem d_M_findsCrack_63 : decode (mB Y_M_findsCrack) 63 = .ok (.if_icmp .le 12, 3) := by decide +kernel
theorem d_M_findsCrack_66 : decode (mB Y_M_findsCrack) 66 = .ok (.aload_n 0, 1) := by decide +kernel
theorem d_M_findsCrack_67 : decode (mB Y_M_findsCrack) 67 = .ok (.iload 8, 2) := by decide +kernel
theorem d_M_findsCrack_69 : decode (mB Y_M_findsCrack) 69 = .ok (.invokevirtual 215, 3) := by decide +kernel
theorem d_M_findsCrack_72 : decode (mB Y_M_findsCrack) 72 = .ok (.goto 9, 3) := by decide +kernel
theorem d_M_findsCrack_75 : decode (mB Y_M_findsCrack) 75 = .ok (.aload_n 0, 1) := by decide +kernel
theorem d_M_findsCrack_76 : decode (mB Y_M_findsCrack) 76 = .ok (.iload 9, 2) := by decide +kernel
theorem d_M_findsCrack_78 : decode (mB Y_M_findsCrack) 78 = .ok (.invokevirtual 215, 3) := by decide +kernel
theorem d_M_findsCrack_81 : decode (mB Y_M_findsCrack) 81 = .ok (.istore 10, 2) := by decide +kernel
theorem d_M_findsCrack_83 : decode (mB Y_M_findsCrack) 83 = .ok (.iconst 0, 1) := by decide +kernel
theorem d_M_findsCrack_84 : decode (mB Y_M_findsCrack) 84 = .ok (.istore 11, 2) := by decide +kernel
theorem d_M_findsCrack_86 : decode (mB Y_M_findsCrack) 86 = .ok (.iload 11, 2) := by decide +kernel
theorem d_M_findsCrack_88 : decode (mB Y_M_findsCrack) 88 = .ok (.iload 10, 2) := by decide +kernel
theorem d_M_findsCrack_90 : decode (mB Y_M_findsCrack) 90 = .ok (.if_icmp .gt 101, 3) := by decide +kernel
theorem d_M_findsCrack_93 : decode (mB Y_M_findsCrack) 93 = .ok (.bipush 60, 2) := by decide +kernel
theorem d_M_findsCrack_95 : decode (mB Y_M_findsCrack) 95 = .ok (.iload 7, 2) := by decide +kernel
theorem d_M_findsCrack_97 : decode (mB Y_M_findsCrack) 97 = .ok (.aload_n 0, 1) := by decide +kernel
theorem d_M_findsCrack_98 : decode (mB Y_M_findsCrack) 98 = .ok (.iload 9, 2) := by decide +kernel
theorem d_M_findsCrack_100 : decode (mB Y_M_findsCrack) 100 = .ok (.iload 11, 2) := by decide +kernel
theorem d_M_findsCrack_102 : decode (mB Y_M_findsCrack) 102 = .ok (.imul, 1) := by decide +kernel
theorem d_M_findsCrack_103 : decode (mB Y_M_findsCrack) 103 = .ok (.iload 10, 2) := by decide +kernel
theorem d_M_findsCrack_105 : decode (mB Y_M_findsCrack) 105 = .ok (.invokevirtual 171, 3) := by decide +kernel
theorem d_M_findsCrack_108 : decode (mB Y_M_findsCrack) 108 = .ok (.iadd, 1) := by decide +kernel
theorem d_M_findsCrack_109 : decode (mB Y_M_findsCrack) 109 = .ok (.imul, 1) := by decide +kernel
theorem d_M_findsCrack_110 : decode (mB Y_M_findsCrack) 110 = .ok (.iload 6, 2) := by decide +kernel
theorem d_M_findsCrack_112 : decode (mB Y_M_findsCrack) 112 = .ok (.iadd, 1) := by decide +kernel
theorem d_M_findsCrack_113 : decode (mB Y_M_findsCrack) 113 = .ok (.aload_n 0, 1) := by decide +kernel
theorem d_M_findsCrack_114 : decode (mB Y_M_findsCrack) 114 = .ok (.iload 8, 2) := by decide +kernel
theorem d_M_findsCrack_116 : decode (mB Y_M_findsCrack) 116 = .ok (.iload 11, 2) := by decide +kernel
theorem d_M_findsCrack_118 : decode (mB Y_M_findsCrack) 118 = .ok (.imul, 1) := by decide +kernel
theorem d_M_findsCrack_119 : decode (mB Y_M_findsCrack) 119 = .ok (.iload 10, 2) := by decide +kernel
theorem d_M_findsCrack_121 : decode (mB Y_M_findsCrack) 121 = .ok (.invokevirtual 171, 3) := by decide +kernel
theorem d_M_findsCrack_124 : decode (mB Y_M_findsCrack) 124 = .ok (.iadd, 1) := by decide +kernel
theorem d_M_findsCrack_125 : decode (mB Y_M_findsCrack) 125 = .ok (.istore 12, 2) := by decide +kernel
theorem d_M_findsCrack_127 : decode (mB Y_M_findsCrack) 127 = .ok (.iload_n 2, 1) := by decide +kernel
theorem d_M_findsCrack_128 : decode (mB Y_M_findsCrack) 128 = .ok (.iload 4, 2) := by decide +kernel
theorem d_M_findsCrack_130 : decode (mB Y_M_findsCrack) 130 = .ok (.aload_n 0, 1) := by decide +kernel
theorem d_M_findsCrack_131 : decode (mB Y_M_findsCrack) 131 = .ok (.iload 12, 2) := by decide +kernel
theorem d_M_findsCrack_133 : decode (mB Y_M_findsCrack) 133 = .ok (.iload_n 1, 1) := by decide +kernel
theorem d_M_findsCrack_134 : decode (mB Y_M_findsCrack) 134 = .ok (.invokevirtual 187, 3) := by decide +kernel
theorem d_M_findsCrack_137 : decode (mB Y_M_findsCrack) 137 = .ok (.imul, 1) := by decide +kernel
theorem d_M_findsCrack_138 : decode (mB Y_M_findsCrack) 138 = .ok (.bipush 10, 2) := by decide +kernel
theorem d_M_findsCrack_140 : decode (mB Y_M_findsCrack) 140 = .ok (.idiv, 1) := by decide +kernel
theorem d_M_findsCrack_141 : decode (mB Y_M_findsCrack) 141 = .ok (.iadd, 1) := by decide +kernel
theorem d_M_findsCrack_142 : decode (mB Y_M_findsCrack) 142 = .ok (.aload_n 0, 1) := by decide +kernel
theorem d_M_findsCrack_143 : decode (mB Y_M_findsCrack) 143 = .ok (.iload 12, 2) := by decide +kernel
theorem d_M_findsCrack_145 : decode (mB Y_M_findsCrack) 145 = .ok (.iload 5, 2) := by decide +kernel
theorem d_M_findsCrack_147 : decode (mB Y_M_findsCrack) 147 = .ok (.invokevirtual 184, 3) := by decide +kernel
theorem d_M_findsCrack_150 : decode (mB Y_M_findsCrack) 150 = .ok (.iadd, 1) := by decide +kernel
theorem d_M_findsCrack_151 : decode (mB Y_M_findsCrack) 151 = .ok (.istore 13, 2) := by decide +kernel
theorem d_M_findsCrack_153 : decode (mB Y_M_findsCrack) 153 = .ok (.aload_n 0, 1) := by decide +kernel
theorem d_M_findsCrack_154 : decode (mB Y_M_findsCrack) 154 = .ok (.getfield 206, 3) := by decide +kernel
theorem d_M_findsCrack_157 : decode (mB Y_M_findsCrack) 157 = .ok (.iconst (-1), 1) := by decide +kernel
theorem d_M_findsCrack_158 : decode (mB Y_M_findsCrack) 158 = .ok (.if_icmp .eq 15, 3) := by decide +kernel
theorem d_M_findsCrack_161 : decode (mB Y_M_findsCrack) 161 = .ok (.iload 13, 2) := by decide +kernel
theorem d_M_findsCrack_163 : decode (mB Y_M_findsCrack) 163 = .ok (.aload_n 0, 1) := by decide +kernel
theorem d_M_findsCrack_164 : decode (mB Y_M_findsCrack) 164 = .ok (.getfield 206, 3) := by decide +kernel
theorem d_M_findsCrack_167 : decode (mB Y_M_findsCrack) 167 = .ok (.if_icmp .lt 6, 3) := by decide +kernel
theorem d_M_findsCrack_170 : decode (mB Y_M_findsCrack) 170 = .ok (.goto 15, 3) := by decide +kernel
theorem d_M_findsCrack_173 : decode (mB Y_M_findsCrack) 173 = .ok (.aload_n 0, 1) := by decide +kernel
theorem d_M_findsCrack_174 : decode (mB Y_M_findsCrack) 174 = .ok (.iload 13, 2) := by decide +kernel
theorem d_M_findsCrack_176 : decode (mB Y_M_findsCrack) 176 = .ok (.putfield 206, 3) := by decide +kernel
theorem d_M_findsCrack_179 : decode (mB Y_M_findsCrack) 179 = .ok (.aload_n 0, 1) := by decide +kernel
theorem d_M_findsCrack_180 : decode (mB Y_M_findsCrack) 180 = .ok (.iload 12, 2) := by decide +kernel
theorem d_M_findsCrack_182 : decode (mB Y_M_findsCrack) 182 = .ok (.putfield 209, 3) := by decide +kernel
theorem d_M_findsCrack_185 : decode (mB Y_M_findsCrack) 185 = .ok (.iinc 11 1, 3) := by decide +kernel
theorem d_M_findsCrack_188 : decode (mB Y_M_findsCrack) 188 = .ok (.goto (-102), 3) := by decide +kernel
theorem d_M_findsCrack_191 : decode (mB Y_M_findsCrack) 191 = .ok (.aload_n 0, 1) := by decide +kernel
theorem d_M_findsCrack_192 : decode (mB Y_M_findsCrack) 192 = .ok (.iconst 2, 1) := by decide +kernel
theorem d_M_findsCrack_193 : decode (mB Y_M_findsCrack) 193 = .ok (.aload_n 0, 1) := by decide +kernel
theorem d_M_findsCrack_194 : decode (mB Y_M_findsCrack) 194 = .ok (.aload_n 0, 1) := by decide +kernel
theorem d_M_findsCrack_195 : decode (mB Y_M_findsCrack) 195 = .ok (.aload_n 0, 1) := by decide +kernel
theorem d_M_findsCrack_196 : decode (mB Y_M_findsCrack) 196 = .ok (.getfield 209, 3) := by decide +kernel
theorem d_M_findsCrack_199 : decode (mB Y_M_findsCrack) 199 = .ok (.iload 5, 2) := by decide +kernel
theorem d_M_findsCrack_201 : decode (mB Y_M_findsCrack) 201 = .ok (.invokevirtual 187, 3) := by decide +kernel
theorem d_M_findsCrack_204 : decode (mB Y_M_findsCrack) 204 = .ok (.invokevirtual 190, 3) := by decide +kernel
theorem d_M_findsCrack_207 : decode (mB Y_M_findsCrack) 207 = .ok (.imul, 1) := by decide +kernel
theorem d_M_findsCrack_208 : decode (mB Y_M_findsCrack) 208 = .ok (.putfield 212, 3) := by decide +kernel
theorem d_M_findsCrack_211 : decode (mB Y_M_findsCrack) 211 = .ok (.return_, 1) := by decide +kernel
theorem ro_M_findsCrack_M_apartOf : roomy Y_M_findsCrack Y_M_apartOf := ⟨Nat.le_of_ble_eq_true rfl, Nat.le_of_ble_eq_true rfl⟩
theorem ro_M_findsCrack_M_delay : roomy Y_M_findsCrack Y_M_delay := ⟨Nat.le_of_ble_eq_true rfl, Nat.le_of_ble_eq_true rfl⟩
theorem ro_M_findsCrack_M_floor : roomy Y_M_findsCrack Y_M_floor := ⟨Nat.le_of_ble_eq_true rfl, Nat.le_of_ble_eq_true rfl⟩
theorem ro_M_findsCrack_M_loudBy : roomy Y_M_findsCrack Y_M_loudBy := ⟨Nat.le_of_ble_eq_true rfl, Nat.le_of_ble_eq_true rfl⟩
theorem ro_M_findsCrack_M_size : roomy Y_M_findsCrack Y_M_size := ⟨Nat.le_of_ble_eq_true rfl, Nat.le_of_ble_eq_true rfl⟩
def r_M_findsCrack_L86 (y1_ : Int32) (y2_ : Int32) (y4_ : Int32) (y5_ : Int32) (y6_ : Int32) (y7_ : Int32) (y8_ : Int32) (y9_ : Int32) (y10_ : Int32) : Nat → Int32 → Sto → Option (Int32 × Sto)
  | 0, _, _ => none
  | n + 1, x11_, S =>
    if y10_ < x11_ then
      some (x11_, S)
    else
      (r_M_floor (y9_ * x11_) y10_).bind (fun r1 =>
      (r_M_floor (y8_ * x11_) y10_).bind (fun r2 =>
      lt (((60 * (y7_ + r1)) + y6_) + r2) (fun v3 =>
      (r_M_apartOf v3 y1_).bind (fun r4 =>
      (r_M_delay v3 y5_ S).bind (fun r5 =>
      lt ((y2_ + ((y4_ * r4) / 10)) + r5) (fun v6 =>
      jn (fun (S7 : Sto) =>
        lt (x11_ + 1) (fun v8 =>
        r_M_findsCrack_L86 y1_ y2_ y4_ y5_ y6_ y7_ y8_ y9_ y10_ n v8 S7)) (fun j185 =>
      jn (fun (_ : Unit) =>
        ltS (sw S 104 19 v6) (fun S9 =>
        ltS (sw S9 104 20 v3) (fun S10 =>
        j185 (S10)))) (fun j173 =>
      if (S 104 19) = (-1) then
        j173 ()
      else
        if v6 < (S 104 19) then
          j173 ()
        else
          j185 (S)))))))))
set_option maxHeartbeats 4000000 in
set_option maxRecDepth 20000 in
theorem w_M_findsCrack_L86 {g : Gm} {G : Gl} {L : Shp} (C : Cx g Y_M_findsCrack G) (hL : Ext L) (y1_ : Int32) (y2_ : Int32) (y4_ : Int32) (y5_ : Int32) (y6_ : Int32) (y7_ : Int32) (y8_ : Int32) (y9_ : Int32) (y10_ : Int32)  :
    ∀ (n : Nat) (x11_ : Int32) (S : Sto) (K : (Int32 × Sto) → Option Sto), (∀ (x11_ : Int32) (S : Sto), VO g Y_M_findsCrack G (fun z => Qm g Y_M_findsCrack G (fv L z)) 0 0 191 [(0, rf G 104), (5, .int y5_)] [] L S (some (x11_, S)) K) → VO g Y_M_findsCrack G (fun z => Qm g Y_M_findsCrack G (fv L z)) 0 0 86 [(0, rf G 104), (1, .int y1_), (2, .int y2_), (4, .int y4_), (5, .int y5_), (6, .int y6_), (7, .int y7_), (8, .int y8_), (9, .int y9_), (10, .int y10_), (11, .int x11_)] [] L S (r_M_findsCrack_L86 y1_ y2_ y4_ y5_ y6_ y7_ y8_ y9_ y10_ n x11_ S) K := by
  intro n
  induction n with
  | zero => intro x11_ S K; intros; exact v_none
  | succ n ih =>
    intro x11_ S K hK
    rw [r_M_findsCrack_L86]
    refine v_iload (pc := 86) C d_M_findsCrack_86 10 rfl ?_
    refine v_iload (pc := 88) C d_M_findsCrack_88 9 rfl ?_
    refine v_icmp_gt (pc := 90) (tgt := 191) C d_M_findsCrack_90 rfl (fun _ => ?_) (fun _ => ?_)
    · refine v_sub [0, 4] rfl ?_
      exact hK x11_ S
    · refine v_bipush (pc := 93) C d_M_findsCrack_93 bp_60 ?_
      refine v_iload (pc := 95) C d_M_findsCrack_95 6 rfl ?_
      refine v_aload_n (pc := 97) C d_M_findsCrack_97 rfl 0 rfl ?_
      refine v_iload (pc := 98) C d_M_findsCrack_98 8 rfl ?_
      refine v_iload (pc := 100) C d_M_findsCrack_100 10 rfl ?_
      refine v_imul (pc := 102) C d_M_findsCrack_102 ?_
      refine v_iload (pc := 103) C d_M_findsCrack_103 9 rfl ?_
      refine v_cp (pc := 105) (inv_V (As := [.int (y9_ * x11_), .int y10_]) (st := [.int y7_, .int 60]) C ml_M_171 mv_M_floor ro_M_findsCrack_M_floor (sh_104 hL) rfl rfl rfl rfl (Nat.le_of_ble_eq_true rfl) d_M_findsCrack_105) (c_M_floor hL S (y9_ * x11_) y10_) ⟨rfl, rfl⟩ ⟨Nat.zero_le _, Nat.zero_le _⟩ (fun r1 => ?_)
      refine v_iadd (pc := 108) C d_M_findsCrack_108 ?_
      refine v_imul (pc := 109) C d_M_findsCrack_109 ?_
      refine v_iload (pc := 110) C d_M_findsCrack_110 5 rfl ?_
      refine v_iadd (pc := 112) C d_M_findsCrack_112 ?_
      refine v_aload_n (pc := 113) C d_M_findsCrack_113 rfl 0 rfl ?_
      refine v_iload (pc := 114) C d_M_findsCrack_114 7 rfl ?_
      refine v_iload (pc := 116) C d_M_findsCrack_116 10 rfl ?_
      refine v_imul (pc := 118) C d_M_findsCrack_118 ?_
      refine v_iload (pc := 119) C d_M_findsCrack_119 9 rfl ?_
      refine v_cp (pc := 121) (inv_V (As := [.int (y8_ * x11_), .int y10_]) (st := [.int ((60 * (y7_ + r1)) + y6_)]) C ml_M_171 mv_M_floor ro_M_findsCrack_M_floor (sh_104 hL) rfl rfl rfl rfl (Nat.le_of_ble_eq_true rfl) d_M_findsCrack_121) (c_M_floor hL S (y8_ * x11_) y10_) ⟨rfl, rfl⟩ ⟨Nat.zero_le _, Nat.zero_le _⟩ (fun r2 => ?_)
      refine v_iadd (pc := 124) C d_M_findsCrack_124 ?_
      refine v_lt (fun v3 => ?_)
      refine v_istore (pc := 125) (lv' := [(12, .int v3), (0, rf G 104), (1, .int y1_), (2, .int y2_), (4, .int y4_), (5, .int y5_), (6, .int y6_), (7, .int y7_), (8, .int y8_), (9, .int y9_), (10, .int y10_), (11, .int x11_)]) C d_M_findsCrack_125 (by decide) rfl ?_
      refine v_iload_n (pc := 127) C d_M_findsCrack_127 rfl 3 rfl ?_
      refine v_iload (pc := 128) C d_M_findsCrack_128 4 rfl ?_
      refine v_aload_n (pc := 130) C d_M_findsCrack_130 rfl 1 rfl ?_
      refine v_iload (pc := 131) C d_M_findsCrack_131 0 rfl ?_
      refine v_iload_n (pc := 133) C d_M_findsCrack_133 rfl 2 rfl ?_
      refine v_cp (pc := 134) (inv_V (As := [.int v3, .int y1_]) (st := [.int y4_, .int y2_]) C ml_M_187 mv_M_apartOf ro_M_findsCrack_M_apartOf (sh_104 hL) rfl rfl rfl rfl (Nat.le_of_ble_eq_true rfl) d_M_findsCrack_134) (c_M_apartOf hL S v3 y1_) ⟨rfl, rfl⟩ ⟨Nat.zero_le _, Nat.zero_le _⟩ (fun r4 => ?_)
      refine v_imul (pc := 137) C d_M_findsCrack_137 ?_
      refine v_bipush (pc := 138) C d_M_findsCrack_138 bp_10 ?_
      refine v_idiv (pc := 140) C d_M_findsCrack_140 (by decide) ?_
      refine v_iadd (pc := 141) C d_M_findsCrack_141 ?_
      refine v_aload_n (pc := 142) C d_M_findsCrack_142 rfl 1 rfl ?_
      refine v_iload (pc := 143) C d_M_findsCrack_143 0 rfl ?_
      refine v_iload (pc := 145) C d_M_findsCrack_145 5 rfl ?_
      refine v_cp (pc := 147) (inv_V (As := [.int v3, .int y5_]) (st := [.int (y2_ + ((y4_ * r4) / 10))]) C ml_M_184 mv_M_delay ro_M_findsCrack_M_delay (sh_104 hL) rfl rfl rfl rfl (Nat.le_of_ble_eq_true rfl) d_M_findsCrack_147) (c_M_delay hL S v3 y5_) ⟨rfl, rfl⟩ ⟨Nat.zero_le _, Nat.zero_le _⟩ (fun r5 => ?_)
      refine v_iadd (pc := 150) C d_M_findsCrack_150 ?_
      refine v_lt (fun v6 => ?_)
      refine v_istore (pc := 151) (lv' := [(13, .int v6), (12, .int v3), (0, rf G 104), (1, .int y1_), (2, .int y2_), (4, .int y4_), (5, .int y5_), (6, .int y6_), (7, .int y7_), (8, .int y8_), (9, .int y9_), (10, .int y10_), (11, .int x11_)]) C d_M_findsCrack_151 (by decide) rfl ?_
      refine v_aload_n (pc := 153) C d_M_findsCrack_153 rfl 2 rfl ?_
      refine v_getI (pc := 154) C fl_M_206 (sh_104 hL) rfl d_M_findsCrack_154 ?_
      refine v_iconst (pc := 157) C d_M_findsCrack_157 ic_m1 ?_
      refine v_jn (fun j => ∀ (S7 : Sto), VO g Y_M_findsCrack G (fun z => Qm g Y_M_findsCrack G (fv L z)) 0 0 185 [(0, rf G 104), (1, .int y1_), (2, .int y2_), (4, .int y4_), (5, .int y5_), (6, .int y6_), (7, .int y7_), (8, .int y8_), (9, .int y9_), (10, .int y10_), (11, .int x11_)] [] L S7 (j (S7)) K) (fun S7 => ?_) (fun j185 hj185 => ?_)
      · refine v_iinc (pc := 185) (p := 10) (c := 1) C d_M_findsCrack_185 rfl (by decide) (by decide) (fun v8 => [(11, .int v8), (0, rf G 104), (1, .int y1_), (2, .int y2_), (4, .int y4_), (5, .int y5_), (6, .int y6_), (7, .int y7_), (8, .int y8_), (9, .int y9_), (10, .int y10_)]) (fun _ => rfl) (fun v8 => ?_)
        refine v_goto (pc := 188) (tgt := 86) C d_M_findsCrack_188 rfl ?_
        refine v_sub [1, 2, 3, 4, 5, 6, 7, 8, 9, 10, 0] rfl ?_
        exact ih v8 S7 K hK
      · refine v_jn (fun j => VO g Y_M_findsCrack G (fun z => Qm g Y_M_findsCrack G (fv L z)) 0 0 173 [(0, rf G 104), (1, .int y1_), (2, .int y2_), (4, .int y4_), (5, .int y5_), (6, .int y6_), (7, .int y7_), (8, .int y8_), (9, .int y9_), (10, .int y10_), (11, .int x11_), (12, .int v3), (13, .int v6)] [] L S (j ()) K) (?_) (fun j173 hj173 => ?_)
        · refine v_aload_n (pc := 173) C d_M_findsCrack_173 rfl 0 rfl ?_
          refine v_iload (pc := 174) C d_M_findsCrack_174 12 rfl ?_
          refine v_putI (pc := 176) C fp_M_206 (sh_104 hL) rfl d_M_findsCrack_176 (fun S9 => ?_)
          refine v_aload_n (pc := 179) C d_M_findsCrack_179 rfl 0 rfl ?_
          refine v_iload (pc := 180) C d_M_findsCrack_180 11 rfl ?_
          refine v_putI (pc := 182) C fp_M_209 (sh_104 hL) rfl d_M_findsCrack_182 (fun S10 => ?_)
          refine v_sub [0, 1, 2, 3, 4, 5, 6, 7, 8, 9, 10] rfl ?_
          exact hj185 S10
        · refine v_icmp_eq (pc := 158) (tgt := 173) C d_M_findsCrack_158 rfl (fun _ => ?_) (fun _ => ?_)
          · refine v_sub [2, 3, 4, 5, 6, 7, 8, 9, 10, 11, 12, 1, 0] rfl ?_
            exact hj173
          · refine v_iload (pc := 161) C d_M_findsCrack_161 0 rfl ?_
            refine v_aload_n (pc := 163) C d_M_findsCrack_163 rfl 2 rfl ?_
            refine v_getI (pc := 164) C fl_M_206 (sh_104 hL) rfl d_M_findsCrack_164 ?_
            refine v_icmp_lt (pc := 167) (tgt := 173) C d_M_findsCrack_167 rfl (fun _ => ?_) (fun _ => ?_)
            · refine v_sub [2, 3, 4, 5, 6, 7, 8, 9, 10, 11, 12, 1, 0] rfl ?_
              exact hj173
            · refine v_goto (pc := 170) (tgt := 185) C d_M_findsCrack_170 rfl ?_
              refine v_sub [2, 3, 4, 5, 6, 7, 8, 9, 10, 11, 12] rfl ?_
              exact hj185 S
def r_M_findsCrack (x1 : Int32) (x2 : Int32) (x3 : Int32) (x4 : Int32) (x5 : Int32) (S : Sto) : Option Sto :=
  ltS (sw S 104 19 (-1)) (fun S1 =>
  ltS (sw S1 104 20 (-1)) (fun S2 =>
  ltS (sw S2 104 21 0) (fun S3 =>
  if x3 = (-1) then
    some S3
  else
    lt (x1 - x1 / 60 * 60) (fun v4 =>
    lt (x1 / 60) (fun v5 =>
    lt ((x3 - x3 / 60 * 60) - v4) (fun v6 =>
    lt ((x3 / 60) - v5) (fun v7 =>
    jn (fun (v8 : Int32) =>
      (r_M_findsCrack_L86 x1 x2 x4 x5 v4 v5 v6 v7 v8 fu 0 S3).bind (fun (v9, S10) =>
      (r_M_apartOf (S10 104 20) x5).bind (fun r11 =>
      (r_M_loudBy r11).bind (fun r12 =>
      ltS (sw S10 104 21 (2 * r12)) (fun S13 =>
      some S13))))) (fun j81 =>
    if (r_M_size v6) ≤ (r_M_size v7) then
      j81 ((r_M_size v7))
    else
      j81 ((r_M_size v6))))))))))
set_option maxHeartbeats 4000000 in
set_option maxRecDepth 20000 in
theorem c_M_findsCrack {G : Gl} {L : Shp} (hL : Ext L) (S : Sto) (x1 : Int32) (x2 : Int32) (x3 : Int32) (x4 : Int32) (x5 : Int32)  : Ct Y_M_findsCrack G [rf G 104, .int x1, .int x2, .int x3, .int x4, .int x5] L S (fv L) (r_M_findsCrack x1 x2 x3 x4 x5 S) := by
  refine ct_of (by decide +kernel) (Nat.le_of_ble_eq_true rfl) (fun g C => ?_)
  show VO g Y_M_findsCrack G (fun z => Qm g Y_M_findsCrack G (fv L z)) 0 0 0 [(0, rf G 104), (1, .int x1), (2, .int x2), (3, .int x3), (4, .int x4), (5, .int x5)] [] L S (r_M_findsCrack x1 x2 x3 x4 x5 S) some
  unfold r_M_findsCrack
  refine v_aload_n (pc := 0) C d_M_findsCrack_0 rfl 0 rfl ?_
  refine v_iconst (pc := 1) C d_M_findsCrack_1 ic_m1 ?_
  refine v_putI (pc := 2) C fp_M_206 (sh_104 hL) rfl d_M_findsCrack_2 (fun S1 => ?_)
  refine v_aload_n (pc := 5) C d_M_findsCrack_5 rfl 0 rfl ?_
  refine v_iconst (pc := 6) C d_M_findsCrack_6 ic_m1 ?_
  refine v_putI (pc := 7) C fp_M_209 (sh_104 hL) rfl d_M_findsCrack_7 (fun S2 => ?_)
  refine v_aload_n (pc := 10) C d_M_findsCrack_10 rfl 0 rfl ?_
  refine v_iconst (pc := 11) C d_M_findsCrack_11 ic_0 ?_
  refine v_putI (pc := 12) C fp_M_212 (sh_104 hL) rfl d_M_findsCrack_12 (fun S3 => ?_)
  refine v_iload_n (pc := 15) C d_M_findsCrack_15 rfl 3 rfl ?_
  refine v_iconst (pc := 16) C d_M_findsCrack_16 ic_m1 ?_
  refine v_icmp_ne (pc := 17) (tgt := 21) C d_M_findsCrack_17 rfl (fun _ => ?_) (fun _ => ?_)
  · refine v_iload_n (pc := 21) C d_M_findsCrack_21 rfl 1 rfl ?_
    refine v_bipush (pc := 22) C d_M_findsCrack_22 bp_60 ?_
    refine v_irem (pc := 24) C d_M_findsCrack_24 (by decide) ?_
    refine v_lt (fun v4 => ?_)
    refine v_istore (pc := 25) (lv' := [(6, .int v4), (0, rf G 104), (1, .int x1), (2, .int x2), (3, .int x3), (4, .int x4), (5, .int x5)]) C d_M_findsCrack_25 (by decide) rfl ?_
    refine v_iload_n (pc := 27) C d_M_findsCrack_27 rfl 2 rfl ?_
    refine v_bipush (pc := 28) C d_M_findsCrack_28 bp_60 ?_
    refine v_idiv (pc := 30) C d_M_findsCrack_30 (by decide) ?_
    refine v_lt (fun v5 => ?_)
    refine v_istore (pc := 31) (lv' := [(7, .int v5), (6, .int v4), (0, rf G 104), (1, .int x1), (2, .int x2), (3, .int x3), (4, .int x4), (5, .int x5)]) C d_M_findsCrack_31 (by decide) rfl ?_
    refine v_iload_n (pc := 33) C d_M_findsCrack_33 rfl 5 rfl ?_
    refine v_bipush (pc := 34) C d_M_findsCrack_34 bp_60 ?_
    refine v_irem (pc := 36) C d_M_findsCrack_36 (by decide) ?_
    refine v_iload (pc := 37) C d_M_findsCrack_37 1 rfl ?_
    refine v_isub (pc := 39) C d_M_findsCrack_39 ?_
    refine v_lt (fun v6 => ?_)
    refine v_istore (pc := 40) (lv' := [(8, .int v6), (7, .int v5), (6, .int v4), (0, rf G 104), (1, .int x1), (2, .int x2), (3, .int x3), (4, .int x4), (5, .int x5)]) C d_M_findsCrack_40 (by decide) rfl ?_
    refine v_iload_n (pc := 42) C d_M_findsCrack_42 rfl 6 rfl ?_
    refine v_bipush (pc := 43) C d_M_findsCrack_43 bp_60 ?_
    refine v_idiv (pc := 45) C d_M_findsCrack_45 (by decide) ?_
    refine v_iload (pc := 46) C d_M_findsCrack_46 1 rfl ?_
    refine v_isub (pc := 48) C d_M_findsCrack_48 ?_
    refine v_lt (fun v7 => ?_)
    refine v_istore (pc := 49) (lv' := [(9, .int v7), (8, .int v6), (7, .int v5), (6, .int v4), (0, rf G 104), (1, .int x1), (2, .int x2), (3, .int x3), (4, .int x4), (5, .int x5)]) C d_M_findsCrack_49 (by decide) rfl ?_
    refine v_aload_n (pc := 51) C d_M_findsCrack_51 rfl 4 rfl ?_
    refine v_iload (pc := 52) C d_M_findsCrack_52 1 rfl ?_
    refine v_ct (pc := 54) (inv_V (As := [.int v6]) (st := []) C ml_M_215 mv_M_size ro_M_findsCrack_M_size (sh_104 hL) rfl rfl rfl rfl (Nat.le_of_ble_eq_true rfl) d_M_findsCrack_54) (c_M_size hL S3 v6) ⟨rfl, rfl⟩ ⟨Nat.zero_le _, Nat.zero_le _⟩ ?_
    refine v_aload_n (pc := 57) C d_M_findsCrack_57 rfl 4 rfl ?_
    refine v_iload (pc := 58) C d_M_findsCrack_58 0 rfl ?_
    refine v_ct (pc := 60) (inv_V (As := [.int v7]) (st := [.int (r_M_size v6)]) C ml_M_215 mv_M_size ro_M_findsCrack_M_size (sh_104 hL) rfl rfl rfl rfl (Nat.le_of_ble_eq_true rfl) d_M_findsCrack_60) (c_M_size hL S3 v7) ⟨rfl, rfl⟩ ⟨Nat.zero_le _, Nat.zero_le _⟩ ?_
    refine v_jn (fun j => ∀ (v8 : Int32), VO g Y_M_findsCrack G (fun z => Qm g Y_M_findsCrack G (fv L z)) 0 0 81 [(0, rf G 104), (1, .int x1), (2, .int x2), (4, .int x4), (5, .int x5), (6, .int v4), (7, .int v5), (8, .int v6), (9, .int v7)] [.int v8] L S3 (j (v8)) some) (fun v8 => ?_) (fun j81 hj81 => ?_)
    · refine v_istore (pc := 81) (lv' := [(10, .int v8), (0, rf G 104), (1, .int x1), (2, .int x2), (4, .int x4), (5, .int x5), (6, .int v4), (7, .int v5), (8, .int v6), (9, .int v7)]) C d_M_findsCrack_81 (by decide) rfl ?_
      refine v_iconst (pc := 83) C d_M_findsCrack_83 ic_0 ?_
      refine v_istore (pc := 84) (lv' := [(11, .int 0), (10, .int v8), (0, rf G 104), (1, .int x1), (2, .int x2), (4, .int x4), (5, .int x5), (6, .int v4), (7, .int v5), (8, .int v6), (9, .int v7)]) C d_M_findsCrack_84 (by decide) rfl ?_
      refine v_sub [2, 3, 4, 5, 6, 7, 8, 9, 10, 1, 0] rfl ?_
      refine v_bind ?_
      refine w_M_findsCrack_L86 C hL x1 x2 x4 x5 v4 v5 v6 v7 v8  fu 0 S3 _ (fun v9 S10 => ?_) 
      refine v_some ?_
      refine v_aload_n (pc := 191) C d_M_findsCrack_191 rfl 0 rfl ?_
      refine v_iconst (pc := 192) C d_M_findsCrack_192 ic_2 ?_
      refine v_aload_n (pc := 193) C d_M_findsCrack_193 rfl 0 rfl ?_
      refine v_aload_n (pc := 194) C d_M_findsCrack_194 rfl 0 rfl ?_
      refine v_aload_n (pc := 195) C d_M_findsCrack_195 rfl 0 rfl ?_
      refine v_getI (pc := 196) C fl_M_209 (sh_104 hL) rfl d_M_findsCrack_196 ?_
      refine v_iload (pc := 199) C d_M_findsCrack_199 1 rfl ?_
      refine v_cp (pc := 201) (inv_V (As := [.int (S10 104 20), .int x5]) (st := [rf G 104, .int 2, rf G 104]) C ml_M_187 mv_M_apartOf ro_M_findsCrack_M_apartOf (sh_104 hL) rfl rfl rfl rfl (Nat.le_of_ble_eq_true rfl) d_M_findsCrack_201) (c_M_apartOf hL S10 (S10 104 20) x5) ⟨rfl, rfl⟩ ⟨Nat.zero_le _, Nat.zero_le _⟩ (fun r11 => ?_)
      refine v_cp (pc := 204) (inv_V (As := [.int r11]) (st := [.int 2, rf G 104]) C ml_M_190 mv_M_loudBy ro_M_findsCrack_M_loudBy (sh_104 hL) rfl rfl rfl rfl (Nat.le_of_ble_eq_true rfl) d_M_findsCrack_204) (c_M_loudBy hL S10 r11) ⟨rfl, rfl⟩ ⟨Nat.zero_le _, Nat.zero_le _⟩ (fun r12 => ?_)
      refine v_imul (pc := 207) C d_M_findsCrack_207 ?_
      refine v_putI (pc := 208) C fp_M_212 (sh_104 hL) rfl d_M_findsCrack_208 (fun S13 => ?_)
      exact v_vret C d_M_findsCrack_211 rfl ⟨Nat.zero_le _, Nat.zero_le _⟩ rfl rfl
    · refine v_icmp_le (pc := 63) (tgt := 75) C d_M_findsCrack_63 rfl (fun _ => ?_) (fun _ => ?_)
      · refine v_aload_n (pc := 75) C d_M_findsCrack_75 rfl 4 rfl ?_
        refine v_iload (pc := 76) C d_M_findsCrack_76 0 rfl ?_
        refine v_ct (pc := 78) (inv_V (As := [.int v7]) (st := []) C ml_M_215 mv_M_size ro_M_findsCrack_M_size (sh_104 hL) rfl rfl rfl rfl (Nat.le_of_ble_eq_true rfl) d_M_findsCrack_78) (c_M_size hL S3 v7) ⟨rfl, rfl⟩ ⟨Nat.zero_le _, Nat.zero_le _⟩ ?_
        refine v_sub [4, 5, 6, 8, 9, 3, 2, 1, 0] rfl ?_
        exact hj81 (r_M_size v7)
      · refine v_aload_n (pc := 66) C d_M_findsCrack_66 rfl 4 rfl ?_
        refine v_iload (pc := 67) C d_M_findsCrack_67 1 rfl ?_
        refine v_ct (pc := 69) (inv_V (As := [.int v6]) (st := []) C ml_M_215 mv_M_size ro_M_findsCrack_M_size (sh_104 hL) rfl rfl rfl rfl (Nat.le_of_ble_eq_true rfl) d_M_findsCrack_69) (c_M_size hL S3 v6) ⟨rfl, rfl⟩ ⟨Nat.zero_le _, Nat.zero_le _⟩ ?_
        refine v_goto (pc := 72) (tgt := 81) C d_M_findsCrack_72 rfl ?_
        refine v_sub [4, 5, 6, 8, 9, 3, 2, 1, 0] rfl ?_
        exact hj81 (r_M_size v6)
  · exact v_vret C d_M_findsCrack_20 rfl ⟨Nat.zero_le _, Nat.zero_le _⟩ rfl rfl
-- M_findsBack
theorem d_M_findsBack_0 : decode (mB Y_M_findsBack) 0 = .ok (.aload_n 0, 1) := by decide +kernel
theorem d_M_findsBack_1 : decode (mB Y_M_findsBack) 1 = .ok (.getfield 54, 3) := by decide +kernel
theorem d_M_findsBack_4 : decode (mB Y_M_findsBack) 4 = .ok (.iload_n 1, 1) := by decide +kernel
theorem d_M_findsBack_5 : decode (mB Y_M_findsBack) 5 = .ok (.iconst (-1), 1) := by decide +kernel
theorem d_M_findsBack_6 : decode (mB Y_M_findsBack) 6 = .ok (.iastore, 1) := by decide +kernel
theorem d_M_findsBack_7 : decode (mB Y_M_findsBack) 7 = .ok (.aload_n 0, 1) := by decide +kernel
theorem d_M_findsBack_8 : decode (mB Y_M_findsBack) 8 = .ok (.getfield 48, 3) := by decide +kernel
theorem d_M_findsBack_11 : decode (mB Y_M_findsBack) 11 = .ok (.iload_n 1, 1) := by decide +kernel
theorem d_M_findsBack_12 : decode (mB Y_M_findsBack) 12 = .ok (.iconst (-1), 1) := by decide +kernel
theorem d_M_findsBack_13 : decode (mB Y_M_findsBack) 13 = .ok (.iastore, 1) := by decide +kernel
theorem d_M_findsBack_14 : decode (mB Y_M_findsBack) 14 = .ok (.aload_n 0, 1) := by decide +kernel
theorem d_M_findsBack_15 : decode (mB Y_M_findsBack) 15 = .ok (.getfield 51, 3) := by decide +kernel
theorem d_M_findsBack_18 : decode (mB Y_M_findsBack) 18 = .ok (.iload_n 1, 1) := by decide +kernel
theorem d_M_findsBack_19 : decode (mB Y_M_findsBack) 19 = .ok (.iconst (-1), 1) := by decide +kernel
theorem d_M_findsBack_20 : decode (mB Y_M_findsBack) 20 = .ok (.iastore, 1) := by decide +kernel
theorem d_M_findsBack_21 : decode (mB Y_M_findsBack) 21 = .ok (.iload_n 3, 1) := by decide +kernel
theorem d_M_findsBack_22 : decode (mB Y_M_findsBack) 22 = .ok (.iload 4, 2) := by decide +kernel
theorem d_M_findsBack_24 : decode (mB Y_M_findsBack) 24 = .ok (.imul, 1) := by decide +kernel
theorem d_M_findsBack_25 : decode (mB Y_M_findsBack) 25 = .ok (.ifCond .gt 4, 3) := by decide +kernel
theorem d_M_findsBack_28 : decode (mB Y_M_findsBack) 28 = .ok (.return_, 1) := by decide +kernel
theorem d_M_findsBack_29 : decode (mB Y_M_findsBack) 29 = .ok (.aload_n 0, 1) := by decide +kernel
theorem d_M_findsBack_30 : decode (mB Y_M_findsBack) 30 = .ok (.iload_n 3, 1) := by decide +kernel
theorem d_M_findsBack_31 : decode (mB Y_M_findsBack) 31 = .ok (.iload 4, 2) := by decide +kernel
theorem d_M_findsBack_33 : decode (mB Y_M_findsBack) 33 = .ok (.iadd, 1) := by decide +kernel
theorem d_M_findsBack_34 : decode (mB Y_M_findsBack) 34 = .ok (.invokevirtual 215, 3) := by decide +kernel
theorem d_M_findsBack_37 : decode (mB Y_M_findsBack) 37 = .ok (.istore 7, 2) := by decide +kernel
theorem d_M_findsBack_39 : decode (mB Y_M_findsBack) 39 = .ok (.iload 5, 2) := by decide +kernel
theorem d_M_findsBack_41 : decode (mB Y_M_findsBack) 41 = .ok (.iload 7, 2) := by decide +kernel
theorem d_M_findsBack_43 : decode (mB Y_M_findsBack) 43 = .ok (.imul, 1) := by decide +kernel
theorem d_M_findsBack_44 : decode (mB Y_M_findsBack) 44 = .ok (.iload 6, 2) := by decide +kernel
theorem d_M_findsBack_46 : decode (mB Y_M_findsBack) 46 = .ok (.iload 5, 2) := by decide +kernel
theorem d_M_findsBack_48 : decode (mB Y_M_findsBack) 48 = .ok (.isub, 1) := by decide +kernel
theorem d_M_findsBack_49 : decode (mB Y_M_findsBack) 49 = .ok (.aload_n 0, 1) := by decide +kernel
theorem d_M_findsBack_50 : decode (mB Y_M_findsBack) 50 = .ok (.iload_n 3, 1) := by decide +kernel
theorem d_M_findsBack_51 : decode (mB Y_M_findsBack) 51 = .ok (.invokevirtual 215, 3) := by decide +kernel
theorem d_M_findsBack_54 : decode (mB Y_M_findsBack) 54 = .ok (.imul, 1) := by decide +kernel
theorem d_M_findsBack_55 : decode (mB Y_M_findsBack) 55 = .ok (.iadd, 1) := by decide +kernel
theorem d_M_findsBack_56 : decode (mB Y_M_findsBack) 56 = .ok (.istore 8, 2) := by decide +kernel
theorem d_M_findsBack_58 : decode (mB Y_M_findsBack) 58 = .ok (.iload 8, 2) := by decide +kernel
theorem d_M_findsBack_60 : decode (mB Y_M_findsBack) 60 = .ok (.aload_n 0, 1) := by decide +kernel
theorem d_M_findsBack_61 : decode (mB Y_M_findsBack) 61 = .ok (.getfield 24, 3) := by decide +kernel
theorem d_M_findsBack_64 : decode (mB Y_M_findsBack) 64 = .ok (.iload_n 1, 1) := by decide +kernel
theorem d_M_findsBack_65 : decode (mB Y_M_findsBack) 65 = .ok (.iaload, 1) := by decide +kernel
theorem d_M_findsBack_66 : decode (mB Y_M_findsBack) 66 = .ok (.iload 7, 2) := by decide +kernel
theorem d_M_findsBack_68 : decode (mB Y_M_findsBack) 68 = .ok (.imul, 1) := by decide +kernel
theorem d_M_findsBack_69 : decode (mB Y_M_findsBack) 69 = .ok (.if_icmp .lt 17, 3) := by decide +kernel
theorem d_M_findsBack_72 : decode (mB Y_M_findsBack) 72 = .ok (.iload 8, 2) := by decide +kernel
theorem d_M_findsBack_74 : decode (mB Y_M_findsBack) 74 = .ok (.aload_n 0, 1) := by decide +kernel
theorem d_M_findsBack_75 : decode (mB Y_M_findsBack) 75 = .ok (.getfield 27, 3) := by decide +kernel
theorem d_M_findsBack_78 : decode (mB Y_M_findsBack) 78 = .ok (.iload_n 1, 1) := by decide +kernel
theorem d_M_findsBack_79 : decode (mB Y_M_findsBack) 79 = .ok (.iaload, 1) := by decide +kernel
theorem d_M_findsBack_80 : decode (mB Y_M_findsBack) 80 = .ok (.iload 7, 2) := by decide +kernel
theorem d_M_findsBack_82 : decode (mB Y_M_findsBack) 82 = .ok (.imul, 1) := by decide +kernel
theorem d_M_findsBack_83 : decode (mB Y_M_findsBack) 83 = .ok (.if_icmp .le 4, 3) := by decide +kernel
theorem d_M_findsBack_86 : decode (mB Y_M_findsBack) 86 = .ok (.return_, 1) := by decide +kernel
theorem d_M_findsBack_87 : decode (mB Y_M_findsBack) 87 = .ok (.aload_n 0, 1) := by decide +kernel
theorem d_M_findsBack_88 : decode (mB Y_M_findsBack) 88 = .ok (.iload_n 3, 1) := by decide +kernel
theorem d_M_findsBack_89 : decode (mB Y_M_findsBack) 89 = .ok (.iload 4, 2) := by decide +kernel
theorem d_M_findsBack_91 : decode (mB Y_M_findsBack) 91 = .ok (.iadd, 1) := by decide +kernel
theorem d_M_findsBack_92 : decode (mB Y_M_findsBack) 92 = .ok (.iload 6, 2) := by decide +kernel
theorem d_M_findsBack_94 : decode (mB Y_M_findsBack) 94 = .ok (.iload 5, 2) := by decide +kernel
theorem d_M_findsBack_96 : decode (mB Y_M_findsBack) 96 = .ok (.isub, 1) := by decide +kernel
theorem d_M_findsBack_97 : decode (mB Y_M_findsBack) 97 = .ok (.invokevirtual 167, 3) := by decide +kernel
theorem d_M_findsBack_100 : decode (mB Y_M_findsBack) 100 = .ok (.istore 9, 2) := by decide +kernel
theorem d_M_findsBack_102 : decode (mB Y_M_findsBack) 102 = .ok (.iload 8, 2) := by decide +kernel
theorem d_M_findsBack_104 : decode (mB Y_M_findsBack) 104 = .ok (.iload 7, 2) := by decide +kernel
theorem d_M_findsBack_106 : decode (mB Y_M_findsBack) 106 = .ok (.idiv, 1) := by decide +kernel
theorem d_M_findsBack_107 : decode (mB Y_M_findsBack) 107 = .ok (.istore 10, 2) := by decide +kernel
theorem d_M_findsBack_109 : decode (mB Y_M_findsBack) 109 = .ok (.aload_n 0, 1) := by decide +kernel
theorem d_M_findsBack_110 : decode (mB Y_M_findsBack) 110 = .ok (.getfield 54, 3) := by decide +kernel
theorem d_M_findsBack_113 : decode (mB Y_M_findsBack) 113 = .ok (.iload_n 1, 1) := by decide +kernel
theorem d_M_findsBack_114 : decode (mB Y_M_findsBack) 114 = .ok (.aload_n 0, 1) := by decide +kernel
theorem d_M_findsBack_115 : decode (mB Y_M_findsBack) 115 = .ok (.getfield 16, 3) := by decide +kernel
theorem d_M_findsBack_118 : decode (mB Y_M_findsBack) 118 = .ok (.iload_n 1, 1) := by decide +kernel
theorem d_M_findsBack_119 : decode (mB Y_M_findsBack) 119 = .ok (.baload, 1) := by decide +kernel
theorem d_M_findsBack_120 : decode (mB Y_M_findsBack) 120 = .ok (.ifCond .eq 18, 3) := by decide +kernel
theorem d_M_findsBack_123 : decode (mB Y_M_findsBack) 123 = .ok (.bipush 60, 2) := by decide +kernel
theorem d_M_findsBack_125 : decode (mB Y_M_findsBack) 125 = .ok (.iload 10, 2) := by decide +kernel
theorem d_M_findsBack_127 : decode (mB Y_M_findsBack) 127 = .ok (.imul, 1) := by decide +kernel
theorem d_M_findsBack_128 : decode (mB Y_M_findsBack) 128 = .ok (.aload_n 0, 1) := by decide +kernel
theorem d_M_findsBack_129 : decode (mB Y_M_findsBack) 129 = .ok (.getfield 20, 3) := by decide +kernel
theorem d_M_findsBack_132 : decode (mB Y_M_findsBack) 132 = .ok (.iload_n 1, 1) := by decide +kernel
theorem d_M_findsBack_133 : decode (mB Y_M_findsBack) 133 = .ok (.iaload, 1) := by decide +kernel
theorem d_M_findsBack_134 : decode (mB Y_M_findsBack) 134 = .ok (.iadd, 1) := by decide +kernel
theorem d_M_findsBack_135 : decode (mB Y_M_findsBack) 135 = .ok (.goto 15, 3) := by decide +kernel
theorem d_M_findsBack_138 : decode (mB Y_M_findsBack) 138 = .ok (.bipush 60, 2) := by decide +kernel
theorem d_M_findsBack_140 : decode (mB Y_M_findsBack) 140 = .ok (.aload_n 0, 1) := by decide +kernel
theorem d_M_findsBack_141 : decode (mB Y_M_findsBack) 141 = .ok (.getfield 20, 3) := by decide +kernel
theorem d_M_findsBack_144 : decode (mB Y_M_findsBack) 144 = .ok (.iload_n 1, 1) := by decide +kernel
theorem d_M_findsBack_145 : decode (mB Y_M_findsBack) 145 = .ok (.iaload, 1) := by decide +kernel
theorem d_M_findsBack_146 : decode (mB Y_M_findsBack) 146 = .ok (.imul, 1) := by decide +kernel
theorem d_M_findsBack_147 : decode (mB Y_M_findsBack) 147 = .ok (.iload 10, 2) := by decide +kernel
theorem d_M_findsBack_149 : decode (mB Y_M_findsBack) 149 = .ok (.iadd, 1) := by decide +kernel
theorem d_M_findsBack_150 : decode (mB Y_M_findsBack) 150 = .ok (.iastore, 1) := by decide +kernel
theorem d_M_findsBack_151 : decode (mB Y_M_findsBack) 151 = .ok (.aload_n 0, 1) := by decide +kernel
theorem d_M_findsBack_152 : decode (mB Y_M_findsBack) 152 = .ok (.getfield 48, 3) := by decide +kernel
theorem d_M_findsBack_155 : decode (mB Y_M_findsBack) 155 = .ok (.iload_n 1, 1) := by decide +kernel
theorem d_M_findsBack_156 : decode (mB Y_M_findsBack) 156 = .ok (.iload_n 2, 1) := by decide +kernel
theorem d_M_findsBack_157 : decode (mB Y_M_findsBack) 157 = .ok (.aload_n 0, 1) := by decide +kernel
theorem d_M_findsBack_158 : decode (mB Y_M_findsBack) 158 = .ok (.getfield 7, 3) := by decide +kernel
theorem d_M_findsBack_161 : decode (mB Y_M_findsBack) 161 = .ok (.iload 9, 2) := by decide +kernel
theorem d_M_findsBack_163 : decode (mB Y_M_findsBack) 163 = .ok (.imul, 1) := by decide +kernel
theorem d_M_findsBack_164 : decode (mB Y_M_findsBack) 164 = .ok (.iadd, 1) := by decide +kernel
theorem d_M_findsBack_165 : decode (mB Y_M_findsBack) 165 = .ok (.iastore, 1) := by decide +kernel
theorem d_M_findsBack_166 : decode (mB Y_M_findsBack) 166 = .ok (.aload_n 0, 1) := by decide +kernel
theorem d_M_findsBack_167 : decode (mB Y_M_findsBack) 167 = .ok (.getfield 51, 3) := by decide +kernel
theorem d_M_findsBack_170 : decode (mB Y_M_findsBack) 170 = .ok (.iload_n 1, 1) := by decide +kernel
theorem d_M_findsBack_171 : decode (mB Y_M_findsBack) 171 = .ok (.aload_n 0, 1) := by decide +kernel
theorem d_M_findsBack_172 : decode (mB Y_M_findsBack) 172 = .ok (.iload 9, 2) := by decide +kernel
theorem d_M_findsBack_174 : decode (mB Y_M_findsBack) 174 = .ok (.invokevirtual 190, 3) := by decide +kernel
theorem d_M_findsBack_177 : decode (mB Y_M_findsBack) 177 = .ok (.bipush 100, 2) := by decide +kernel
theorem d_M_findsBack_179 : decode (mB Y_M_findsBack) 179 = .ok (.aload_n 0, 1) := by decide +kernel
theorem d_M_findsBack_180 : decode (mB Y_M_findsBack) 180 = .ok (.getfield 30, 3) := by decide +kernel
theorem d_M_findsBack_183 : decode (mB Y_M_findsBack) 183 = .ok (.iload_n 1, 1) := by decide +kernel
theorem d_M_findsBack_184 : decode (mB Y_M_findsBack) 184 = .ok (.iaload, 1) := by decide +kernel
theorem d_M_findsBack_185 : decode (mB Y_M_findsBack) 185 = .ok (.isub, 1) := by decide +kernel
theorem d_M_findsBack_186 : decode (mB Y_M_findsBack) 186 = .ok (.imul, 1) := by decide +kernel
theorem d_M_findsBack_187 : decode (mB Y_M_findsBack) 187 = .ok (.bipush 100, 2) := by decide +kernel
theorem d_M_findsBack_189 : decode (mB Y_M_findsBack) 189 = .ok (.idiv, 1) := by decide +kernel
theorem d_M_findsBack_190 : decode (mB Y_M_findsBack) 190 = .ok (.iastore, 1) := by decide +kernel
theorem d_M_findsBack_191 : decode (mB Y_M_findsBack) 191 = .ok (.aload_n 0, 1) := by decide +kernel
theorem d_M_findsBack_192 : decode (mB Y_M_findsBack) 192 = .ok (.aload_n 0, 1) := by decide +kernel
theorem d_M_findsBack_193 : decode (mB Y_M_findsBack) 193 = .ok (.getfield 218, 3) := by decide +kernel
theorem d_M_findsBack_196 : decode (mB Y_M_findsBack) 196 = .ok (.iconst 1, 1) := by decide +kernel
theorem d_M_findsBack_197 : decode (mB Y_M_findsBack) 197 = .ok (.iadd, 1) := by decide +kernel
theorem d_M_findsBack_198 : decode (mB Y_M_findsBack) 198 = .ok (.putfield 218, 3) := by decide +kernel
theorem d_M_findsBack_201 : decode (mB Y_M_findsBack) 201 = .ok (.return_, 1) := by decide +kernel
theorem ro_M_findsBack_M_distance : roomy Y_M_findsBack Y_M_distance := ⟨Nat.le_of_ble_eq_true rfl, Nat.le_of_ble_eq_true rfl⟩
theorem ro_M_findsBack_M_loudBy : roomy Y_M_findsBack Y_M_loudBy := ⟨Nat.le_of_ble_eq_true rfl, Nat.le_of_ble_eq_true rfl⟩
theorem ro_M_findsBack_M_size : roomy Y_M_findsBack Y_M_size := ⟨Nat.le_of_ble_eq_true rfl, Nat.le_of_ble_eq_true rfl⟩
def r_M_findsBack (x1 : Int32) (x2 : Int32) (x3 : Int32) (x4 : Int32) (x5 : Int32) (x6 : Int32) (S : Sto) : Option Sto :=
  chk (inr x1 10) (
  ltS (sw S 117 x1.toNatClampNeg (-1)) (fun S1 =>
  chk (inr x1 10) (
  ltS (sw S1 115 x1.toNatClampNeg (-1)) (fun S2 =>
  chk (inr x1 10) (
  ltS (sw S2 116 x1.toNatClampNeg (-1)) (fun S3 =>
  if 0 < (x3 * x4) then
    lt (r_M_size (x3 + x4)) (fun v4 =>
    lt ((x5 * v4) + ((x6 - x5) * (r_M_size x3))) (fun v5 =>
    chk (inr x1 10) (
    if v5 < ((S3 107 x1.toNatClampNeg) * v4) then
      some S3
    else
      chk (inr x1 10) (
      if v5 ≤ ((S3 108 x1.toNatClampNeg) * v4) then
        (r_M_distance (x3 + x4) (x6 - x5)).bind (fun r6 =>
        chk (nz v4) (
        lt (v5 / v4) (fun v7 =>
        chk (inr x1 10) (
        jn (fun (v8 : Int32) =>
          chk (inr x1 10) (
          ltS (sw S3 117 x1.toNatClampNeg v8) (fun S9 =>
          chk (inr x1 10) (
          ltS (sw S9 115 x1.toNatClampNeg (x2 + ((S9 104 1) * r6))) (fun S10 =>
          (r_M_loudBy r6).bind (fun r11 =>
          chk (inr x1 10) (
          chk (inr x1 10) (
          ltS (sw S10 116 x1.toNatClampNeg ((r11 * (100 - (S10 109 x1.toNatClampNeg))) / 100)) (fun S12 =>
          ltS (sw S12 104 22 ((S12 104 22) + 1)) (fun S13 =>
          some S13)))))))))) (fun j150 =>
        if (S3 105 x1.toNatClampNeg) = 0 then
          chk (inr x1 10) (
          j150 ((60 * (S3 106 x1.toNatClampNeg)) + v7))
        else
          chk (inr x1 10) (
          j150 ((60 * v7) + (S3 106 x1.toNatClampNeg))))))))
      else
        some S3))))
  else
    some S3))))))
set_option maxHeartbeats 4000000 in
set_option maxRecDepth 20000 in
theorem c_M_findsBack {G : Gl} {L : Shp} (hL : Ext L) (S : Sto) (x1 : Int32) (x2 : Int32) (x3 : Int32) (x4 : Int32) (x5 : Int32) (x6 : Int32)  : Ct Y_M_findsBack G [rf G 104, .int x1, .int x2, .int x3, .int x4, .int x5, .int x6] L S (fv L) (r_M_findsBack x1 x2 x3 x4 x5 x6 S) := by
  refine ct_of (by decide +kernel) (Nat.le_of_ble_eq_true rfl) (fun g C => ?_)
  show VO g Y_M_findsBack G (fun z => Qm g Y_M_findsBack G (fv L z)) 0 0 0 [(0, rf G 104), (1, .int x1), (2, .int x2), (3, .int x3), (4, .int x4), (5, .int x5), (6, .int x6)] [] L S (r_M_findsBack x1 x2 x3 x4 x5 x6 S) some
  unfold r_M_findsBack
  refine v_aload_n (pc := 0) C d_M_findsBack_0 rfl 0 rfl ?_
  refine v_getR (pc := 1) C fl_M_54 (sh_104 hL) rfl d_M_findsBack_1 ?_
  refine v_iload_n (pc := 4) C d_M_findsBack_4 rfl 1 rfl ?_
  refine v_iconst (pc := 5) C d_M_findsBack_5 ic_m1 ?_
  refine v_iast (pc := 6) C (sh_117 hL) d_M_findsBack_6 (fun _ S1 => ?_)
  refine v_aload_n (pc := 7) C d_M_findsBack_7 rfl 0 rfl ?_
  refine v_getR (pc := 8) C fl_M_48 (sh_104 hL) rfl d_M_findsBack_8 ?_
  refine v_iload_n (pc := 11) C d_M_findsBack_11 rfl 1 rfl ?_
  refine v_iconst (pc := 12) C d_M_findsBack_12 ic_m1 ?_
  refine v_iast (pc := 13) C (sh_115 hL) d_M_findsBack_13 (fun _ S2 => ?_)
  refine v_aload_n (pc := 14) C d_M_findsBack_14 rfl 0 rfl ?_
  refine v_getR (pc := 15) C fl_M_51 (sh_104 hL) rfl d_M_findsBack_15 ?_
  refine v_iload_n (pc := 18) C d_M_findsBack_18 rfl 1 rfl ?_
  refine v_iconst (pc := 19) C d_M_findsBack_19 ic_m1 ?_
  refine v_iast (pc := 20) C (sh_116 hL) d_M_findsBack_20 (fun _ S3 => ?_)
  refine v_iload_n (pc := 21) C d_M_findsBack_21 rfl 3 rfl ?_
  refine v_iload (pc := 22) C d_M_findsBack_22 4 rfl ?_
  refine v_imul (pc := 24) C d_M_findsBack_24 ?_
  refine v_if_gt (pc := 25) (tgt := 29) C d_M_findsBack_25 rfl (fun _ => ?_) (fun _ => ?_)
  · refine v_aload_n (pc := 29) C d_M_findsBack_29 rfl 0 rfl ?_
    refine v_iload_n (pc := 30) C d_M_findsBack_30 rfl 3 rfl ?_
    refine v_iload (pc := 31) C d_M_findsBack_31 4 rfl ?_
    refine v_iadd (pc := 33) C d_M_findsBack_33 ?_
    refine v_ct (pc := 34) (inv_V (As := [.int (x3 + x4)]) (st := []) C ml_M_215 mv_M_size ro_M_findsBack_M_size (sh_104 hL) rfl rfl rfl rfl (Nat.le_of_ble_eq_true rfl) d_M_findsBack_34) (c_M_size hL S3 (x3 + x4)) ⟨rfl, rfl⟩ ⟨Nat.zero_le _, Nat.zero_le _⟩ ?_
    refine v_lt (fun v4 => ?_)
    refine v_istore (pc := 37) (lv' := [(7, .int v4), (0, rf G 104), (1, .int x1), (2, .int x2), (3, .int x3), (4, .int x4), (5, .int x5), (6, .int x6)]) C d_M_findsBack_37 (by decide) rfl ?_
    refine v_iload (pc := 39) C d_M_findsBack_39 6 rfl ?_
    refine v_iload (pc := 41) C d_M_findsBack_41 0 rfl ?_
    refine v_imul (pc := 43) C d_M_findsBack_43 ?_
    refine v_iload (pc := 44) C d_M_findsBack_44 7 rfl ?_
    refine v_iload (pc := 46) C d_M_findsBack_46 6 rfl ?_
    refine v_isub (pc := 48) C d_M_findsBack_48 ?_
    refine v_aload_n (pc := 49) C d_M_findsBack_49 rfl 1 rfl ?_
    refine v_iload_n (pc := 50) C d_M_findsBack_50 rfl 4 rfl ?_
    refine v_ct (pc := 51) (inv_V (As := [.int x3]) (st := [.int (x6 - x5), .int (x5 * v4)]) C ml_M_215 mv_M_size ro_M_findsBack_M_size (sh_104 hL) rfl rfl rfl rfl (Nat.le_of_ble_eq_true rfl) d_M_findsBack_51) (c_M_size hL S3 x3) ⟨rfl, rfl⟩ ⟨Nat.zero_le _, Nat.zero_le _⟩ ?_
    refine v_imul (pc := 54) C d_M_findsBack_54 ?_
    refine v_iadd (pc := 55) C d_M_findsBack_55 ?_
    refine v_lt (fun v5 => ?_)
    refine v_istore (pc := 56) (lv' := [(8, .int v5), (7, .int v4), (0, rf G 104), (1, .int x1), (2, .int x2), (3, .int x3), (4, .int x4), (5, .int x5), (6, .int x6)]) C d_M_findsBack_56 (by decide) rfl ?_
    refine v_iload (pc := 58) C d_M_findsBack_58 0 rfl ?_
    refine v_aload_n (pc := 60) C d_M_findsBack_60 rfl 2 rfl ?_
    refine v_getR (pc := 61) C fl_M_24 (sh_104 hL) rfl d_M_findsBack_61 ?_
    refine v_iload_n (pc := 64) C d_M_findsBack_64 rfl 3 rfl ?_
    refine v_iald (pc := 65) C (sh_107 hL) d_M_findsBack_65 (fun _ => ?_)
    refine v_iload (pc := 66) C d_M_findsBack_66 1 rfl ?_
    refine v_imul (pc := 68) C d_M_findsBack_68 ?_
    refine v_icmp_lt (pc := 69) (tgt := 86) C d_M_findsBack_69 rfl (fun _ => ?_) (fun _ => ?_)
    · exact v_vret C d_M_findsBack_86 rfl ⟨Nat.zero_le _, Nat.zero_le _⟩ rfl rfl
    · refine v_iload (pc := 72) C d_M_findsBack_72 0 rfl ?_
      refine v_aload_n (pc := 74) C d_M_findsBack_74 rfl 2 rfl ?_
      refine v_getR (pc := 75) C fl_M_27 (sh_104 hL) rfl d_M_findsBack_75 ?_
      refine v_iload_n (pc := 78) C d_M_findsBack_78 rfl 3 rfl ?_
      refine v_iald (pc := 79) C (sh_108 hL) d_M_findsBack_79 (fun _ => ?_)
      refine v_iload (pc := 80) C d_M_findsBack_80 1 rfl ?_
      refine v_imul (pc := 82) C d_M_findsBack_82 ?_
      refine v_icmp_le (pc := 83) (tgt := 87) C d_M_findsBack_83 rfl (fun _ => ?_) (fun _ => ?_)
      · refine v_aload_n (pc := 87) C d_M_findsBack_87 rfl 2 rfl ?_
        refine v_iload_n (pc := 88) C d_M_findsBack_88 rfl 5 rfl ?_
        refine v_iload (pc := 89) C d_M_findsBack_89 6 rfl ?_
        refine v_iadd (pc := 91) C d_M_findsBack_91 ?_
        refine v_iload (pc := 92) C d_M_findsBack_92 8 rfl ?_
        refine v_iload (pc := 94) C d_M_findsBack_94 7 rfl ?_
        refine v_isub (pc := 96) C d_M_findsBack_96 ?_
        refine v_cp (pc := 97) (inv_V (As := [.int (x3 + x4), .int (x6 - x5)]) (st := []) C ml_M_167 mv_M_distance ro_M_findsBack_M_distance (sh_104 hL) rfl rfl rfl rfl (Nat.le_of_ble_eq_true rfl) d_M_findsBack_97) (c_M_distance hL S3 (x3 + x4) (x6 - x5)) ⟨rfl, rfl⟩ ⟨Nat.zero_le _, Nat.zero_le _⟩ (fun r6 => ?_)
        refine v_istore (pc := 100) (lv' := [(9, .int r6), (8, .int v5), (7, .int v4), (0, rf G 104), (1, .int x1), (2, .int x2), (3, .int x3), (4, .int x4), (5, .int x5), (6, .int x6)]) C d_M_findsBack_100 (by decide) rfl ?_
        refine v_iload (pc := 102) C d_M_findsBack_102 1 rfl ?_
        refine v_iload (pc := 104) C d_M_findsBack_104 2 rfl ?_
        refine v_chk (fun hne => ?_)
        refine v_idiv (pc := 106) C d_M_findsBack_106 (nz_ne hne) ?_
        refine v_lt (fun v7 => ?_)
        refine v_istore (pc := 107) (lv' := [(10, .int v7), (9, .int r6), (8, .int v5), (7, .int v4), (0, rf G 104), (1, .int x1), (2, .int x2), (3, .int x3), (4, .int x4), (5, .int x5), (6, .int x6)]) C d_M_findsBack_107 (by decide) rfl ?_
        refine v_aload_n (pc := 109) C d_M_findsBack_109 rfl 4 rfl ?_
        refine v_getR (pc := 110) C fl_M_54 (sh_104 hL) rfl d_M_findsBack_110 ?_
        refine v_iload_n (pc := 113) C d_M_findsBack_113 rfl 5 rfl ?_
        refine v_aload_n (pc := 114) C d_M_findsBack_114 rfl 4 rfl ?_
        refine v_getR (pc := 115) C fl_M_16 (sh_104 hL) rfl d_M_findsBack_115 ?_
        refine v_iload_n (pc := 118) C d_M_findsBack_118 rfl 5 rfl ?_
        refine v_zald (pc := 119) C (sh_105 hL) d_M_findsBack_119 (fun _ => ?_)
        refine v_jn (fun j => ∀ (v8 : Int32), VO g Y_M_findsBack G (fun z => Qm g Y_M_findsBack G (fv L z)) 0 0 150 [(0, rf G 104), (1, .int x1), (2, .int x2), (9, .int r6)] [.int v8, .int x1, rf G 117] L S3 (j (v8)) some) (fun v8 => ?_) (fun j150 hj150 => ?_)
        · refine v_iast (pc := 150) C (sh_117 hL) d_M_findsBack_150 (fun _ S9 => ?_)
          refine v_aload_n (pc := 151) C d_M_findsBack_151 rfl 0 rfl ?_
          refine v_getR (pc := 152) C fl_M_48 (sh_104 hL) rfl d_M_findsBack_152 ?_
          refine v_iload_n (pc := 155) C d_M_findsBack_155 rfl 1 rfl ?_
          refine v_iload_n (pc := 156) C d_M_findsBack_156 rfl 2 rfl ?_
          refine v_aload_n (pc := 157) C d_M_findsBack_157 rfl 0 rfl ?_
          refine v_getI (pc := 158) C fl_M_7 (sh_104 hL) rfl d_M_findsBack_158 ?_
          refine v_iload (pc := 161) C d_M_findsBack_161 3 rfl ?_
          refine v_imul (pc := 163) C d_M_findsBack_163 ?_
          refine v_iadd (pc := 164) C d_M_findsBack_164 ?_
          refine v_iast (pc := 165) C (sh_115 hL) d_M_findsBack_165 (fun _ S10 => ?_)
          refine v_aload_n (pc := 166) C d_M_findsBack_166 rfl 0 rfl ?_
          refine v_getR (pc := 167) C fl_M_51 (sh_104 hL) rfl d_M_findsBack_167 ?_
          refine v_iload_n (pc := 170) C d_M_findsBack_170 rfl 1 rfl ?_
          refine v_aload_n (pc := 171) C d_M_findsBack_171 rfl 0 rfl ?_
          refine v_iload (pc := 172) C d_M_findsBack_172 3 rfl ?_
          refine v_cp (pc := 174) (inv_V (As := [.int r6]) (st := [.int x1, rf G 116]) C ml_M_190 mv_M_loudBy ro_M_findsBack_M_loudBy (sh_104 hL) rfl rfl rfl rfl (Nat.le_of_ble_eq_true rfl) d_M_findsBack_174) (c_M_loudBy hL S10 r6) ⟨rfl, rfl⟩ ⟨Nat.zero_le _, Nat.zero_le _⟩ (fun r11 => ?_)
          refine v_bipush (pc := 177) C d_M_findsBack_177 bp_100 ?_
          refine v_aload_n (pc := 179) C d_M_findsBack_179 rfl 0 rfl ?_
          refine v_getR (pc := 180) C fl_M_30 (sh_104 hL) rfl d_M_findsBack_180 ?_
          refine v_iload_n (pc := 183) C d_M_findsBack_183 rfl 1 rfl ?_
          refine v_iald (pc := 184) C (sh_109 hL) d_M_findsBack_184 (fun _ => ?_)
          refine v_isub (pc := 185) C d_M_findsBack_185 ?_
          refine v_imul (pc := 186) C d_M_findsBack_186 ?_
          refine v_bipush (pc := 187) C d_M_findsBack_187 bp_100 ?_
          refine v_idiv (pc := 189) C d_M_findsBack_189 (by decide) ?_
          refine v_iast (pc := 190) C (sh_116 hL) d_M_findsBack_190 (fun _ S12 => ?_)
          refine v_aload_n (pc := 191) C d_M_findsBack_191 rfl 0 rfl ?_
          refine v_aload_n (pc := 192) C d_M_findsBack_192 rfl 0 rfl ?_
          refine v_getI (pc := 193) C fl_M_218 (sh_104 hL) rfl d_M_findsBack_193 ?_
          refine v_iconst (pc := 196) C d_M_findsBack_196 ic_1 ?_
          refine v_iadd (pc := 197) C d_M_findsBack_197 ?_
          refine v_putI (pc := 198) C fp_M_218 (sh_104 hL) rfl d_M_findsBack_198 (fun S13 => ?_)
          exact v_vret C d_M_findsBack_201 rfl ⟨Nat.zero_le _, Nat.zero_le _⟩ rfl rfl
        · refine v_if_eq (pc := 120) (tgt := 138) C d_M_findsBack_120 rfl (fun _ => ?_) (fun _ => ?_)
          · refine v_bipush (pc := 138) C d_M_findsBack_138 bp_60 ?_
            refine v_aload_n (pc := 140) C d_M_findsBack_140 rfl 4 rfl ?_
            refine v_getR (pc := 141) C fl_M_20 (sh_104 hL) rfl d_M_findsBack_141 ?_
            refine v_iload_n (pc := 144) C d_M_findsBack_144 rfl 5 rfl ?_
            refine v_iald (pc := 145) C (sh_106 hL) d_M_findsBack_145 (fun _ => ?_)
            refine v_imul (pc := 146) C d_M_findsBack_146 ?_
            refine v_iload (pc := 147) C d_M_findsBack_147 0 rfl ?_
            refine v_iadd (pc := 149) C d_M_findsBack_149 ?_
            refine v_sub [4, 5, 6, 1] rfl ?_
            exact hj150 ((60 * (S3 106 x1.toNatClampNeg)) + v7)
          · refine v_bipush (pc := 123) C d_M_findsBack_123 bp_60 ?_
            refine v_iload (pc := 125) C d_M_findsBack_125 0 rfl ?_
            refine v_imul (pc := 127) C d_M_findsBack_127 ?_
            refine v_aload_n (pc := 128) C d_M_findsBack_128 rfl 4 rfl ?_
            refine v_getR (pc := 129) C fl_M_20 (sh_104 hL) rfl d_M_findsBack_129 ?_
            refine v_iload_n (pc := 132) C d_M_findsBack_132 rfl 5 rfl ?_
            refine v_iald (pc := 133) C (sh_106 hL) d_M_findsBack_133 (fun _ => ?_)
            refine v_iadd (pc := 134) C d_M_findsBack_134 ?_
            refine v_goto (pc := 135) (tgt := 150) C d_M_findsBack_135 rfl ?_
            refine v_sub [4, 5, 6, 1] rfl ?_
            exact hj150 ((60 * v7) + (S3 106 x1.toNatClampNeg))
      · exact v_vret C d_M_findsBack_86 rfl ⟨Nat.zero_le _, Nat.zero_le _⟩ rfl rfl
  · exact v_vret C d_M_findsBack_28 rfl ⟨Nat.zero_le _, Nat.zero_le _⟩ rfl rfl
