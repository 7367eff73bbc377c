-- M_twoOf
theorem d_M_twoOf_0 : decode (mB Y_M_twoOf) 0 = .ok (.iload_n 1, 1) := by decide +kernel
theorem d_M_twoOf_1 : decode (mB Y_M_twoOf) 1 = .ok (.iconst 2, 1) := by decide +kernel
theorem d_M_twoOf_2 : decode (mB Y_M_twoOf) 2 = .ok (.if_icmp .ne 7, 3) := by decide +kernel
theorem d_M_twoOf_5 : decode (mB Y_M_twoOf) 5 = .ok (.iload_n 2, 1) := by decide +kernel
theorem d_M_twoOf_6 : decode (mB Y_M_twoOf) 6 = .ok (.iload_n 3, 1) := by decide +kernel
theorem d_M_twoOf_7 : decode (mB Y_M_twoOf) 7 = .ok (.iadd, 1) := by decide +kernel
theorem d_M_twoOf_8 : decode (mB Y_M_twoOf) 8 = .ok (.ireturn, 1) := by decide +kernel
theorem d_M_twoOf_9 : decode (mB Y_M_twoOf) 9 = .ok (.iload_n 1, 1) := by decide +kernel
theorem d_M_twoOf_10 : decode (mB Y_M_twoOf) 10 = .ok (.iconst 3, 1) := by decide +kernel
theorem d_M_twoOf_11 : decode (mB Y_M_twoOf) 11 = .ok (.if_icmp .ne 7, 3) := by decide +kernel
theorem d_M_twoOf_14 : decode (mB Y_M_twoOf) 14 = .ok (.iload_n 2, 1) := by decide +kernel
theorem d_M_twoOf_15 : decode (mB Y_M_twoOf) 15 = .ok (.iload_n 3, 1) := by decide +kernel
theorem d_M_twoOf_16 : decode (mB Y_M_twoOf) 16 = .ok (.isub, 1) := by decide +kernel
theorem d_M_twoOf_17 : decode (mB Y_M_twoOf) 17 = .ok (.ireturn, 1) := by decide +kernel
theorem d_M_twoOf_18 : decode (mB Y_M_twoOf) 18 = .ok (.iload_n 1, 1) := by decide +kernel
theorem d_M_twoOf_19 : decode (mB Y_M_twoOf) 19 = .ok (.iconst 4, 1) := by decide +kernel
theorem d_M_twoOf_20 : decode (mB Y_M_twoOf) 20 = .ok (.if_icmp .ne 7, 3) := by decide +kernel
theorem d_M_twoOf_23 : decode (mB Y_M_twoOf) 23 = .ok (.iload_n 2, 1) := by decide +kernel
theorem d_M_twoOf_24 : decode (mB Y_M_twoOf) 24 = .ok (.iload_n 3, 1) := by decide +kernel
theorem d_M_twoOf_25 : decode (mB Y_M_twoOf) 25 = .ok (.imul, 1) := by decide +kernel
theorem d_M_twoOf_26 : decode (mB Y_M_twoOf) 26 = .ok (.ireturn, 1) := by decide +kernel
theorem d_M_twoOf_27 : decode (mB Y_M_twoOf) 27 = .ok (.iload_n 1, 1) := by decide +kernel
theorem d_M_twoOf_28 : decode (mB Y_M_twoOf) 28 = .ok (.iconst 5, 1) := by decide +kernel
theorem d_M_twoOf_29 : decode (mB Y_M_twoOf) 29 = .ok (.if_icmp .ne 7, 3) := by decide +kernel
theorem d_M_twoOf_32 : decode (mB Y_M_twoOf) 32 = .ok (.iload_n 2, 1) := by decide +kernel
theorem d_M_twoOf_33 : decode (mB Y_M_twoOf) 33 = .ok (.iload_n 3, 1) := by decide +kernel
theorem d_M_twoOf_34 : decode (mB Y_M_twoOf) 34 = .ok (.idiv, 1) := by decide +kernel
theorem d_M_twoOf_35 : decode (mB Y_M_twoOf) 35 = .ok (.ireturn, 1) := by decide +kernel
theorem d_M_twoOf_36 : decode (mB Y_M_twoOf) 36 = .ok (.iload_n 1, 1) := by decide +kernel
theorem d_M_twoOf_37 : decode (mB Y_M_twoOf) 37 = .ok (.bipush 6, 2) := by decide +kernel
theorem d_M_twoOf_39 : decode (mB Y_M_twoOf) 39 = .ok (.if_icmp .ne 14, 3) := by decide +kernel
theorem d_M_twoOf_42 : decode (mB Y_M_twoOf) 42 = .ok (.iload_n 2, 1) := by decide +kernel
theorem d_M_twoOf_43 : decode (mB Y_M_twoOf) 43 = .ok (.iload_n 3, 1) := by decide +kernel
theorem d_M_twoOf_44 : decode (mB Y_M_twoOf) 44 = .ok (.if_icmp .ge 7, 3) := by decide +kernel
theorem d_M_twoOf_47 : decode (mB Y_M_twoOf) 47 = .ok (.iconst 1, 1) := by decide +kernel
theorem d_M_twoOf_48 : decode (mB Y_M_twoOf) 48 = .ok (.goto 4, 3) := by decide +kernel
theorem d_M_twoOf_51 : decode (mB Y_M_twoOf) 51 = .ok (.iconst 0, 1) := by decide +kernel
theorem d_M_twoOf_52 : decode (mB Y_M_twoOf) 52 = .ok (.ireturn, 1) := by decide +kernel
theorem d_M_twoOf_53 : decode (mB Y_M_twoOf) 53 = .ok (.iload_n 1, 1) := by decide +kernel
theorem d_M_twoOf_54 : decode (mB Y_M_twoOf) 54 = .ok (.bipush 7, 2) := by decide +kernel
theorem d_M_twoOf_56 : decode (mB Y_M_twoOf) 56 = .ok (.if_icmp .ne 14, 3) := by decide +kernel
theorem d_M_twoOf_59 : decode (mB Y_M_twoOf) 59 = .ok (.iload_n 2, 1) := by decide +kernel
theorem d_M_twoOf_60 : decode (mB Y_M_twoOf) 60 = .ok (.iload_n 3, 1) := by decide +kernel
theorem d_M_twoOf_61 : decode (mB Y_M_twoOf) 61 = .ok (.if_icmp .ne 7, 3) := by decide +kernel
theorem d_M_twoOf_64 : decode (mB Y_M_twoOf) 64 = .ok (.iconst 1, 1) := by decide +kernel
theorem d_M_twoOf_65 : decode (mB Y_M_twoOf) 65 = .ok (.goto 4, 3) := by decide +kernel
theorem d_M_twoOf_68 : decode (mB Y_M_twoOf) 68 = .ok (.iconst 0, 1) := by decide +kernel
theorem d_M_twoOf_69 : decode (mB Y_M_twoOf) 69 = .ok (.ireturn, 1) := by decide +kernel
theorem d_M_twoOf_70 : decode (mB Y_M_twoOf) 70 = .ok (.iload_n 1, 1) := by decide +kernel
theorem d_M_twoOf_71 : decode (mB Y_M_twoOf) 71 = .ok (.bipush 8, 2) := by decide +kernel
theorem d_M_twoOf_73 : decode (mB Y_M_twoOf) 73 = .ok (.if_icmp .ne 14, 3) := by decide +kernel
theorem d_M_twoOf_76 : decode (mB Y_M_twoOf) 76 = .ok (.iload_n 2, 1) := by decide +kernel
theorem d_M_twoOf_77 : decode (mB Y_M_twoOf) 77 = .ok (.iload_n 3, 1) := by decide +kernel
theorem d_M_twoOf_78 : decode (mB Y_M_twoOf) 78 = .ok (.if_icmp .le 7, 3) := by decide +kernel
theorem d_M_twoOf_81 : decode (mB Y_M_twoOf) 81 = .ok (.iconst 1, 1) := by decide +kernel
theorem d_M_twoOf_82 : decode (mB Y_M_twoOf) 82 = .ok (.goto 4, 3) := by decide +kernel
theorem d_M_twoOf_85 : decode (mB Y_M_twoOf) 85 = .ok (.iconst 0, 1) := by decide +kernel
theorem d_M_twoOf_86 : decode (mB Y_M_twoOf) 86 = .ok (.ireturn, 1) := by decide +kernel
theorem d_M_twoOf_87 : decode (mB Y_M_twoOf) 87 = .ok (.iload_n 1, 1) := by decide +kernel
theorem d_M_twoOf_88 : decode (mB Y_M_twoOf) 88 = .ok (.bipush 10, 2) := by decide +kernel
theorem d_M_twoOf_90 : decode (mB Y_M_twoOf) 90 = .ok (.if_icmp .ne 9, 3) := by decide +kernel
theorem d_M_twoOf_93 : decode (mB Y_M_twoOf) 93 = .ok (.iload_n 2, 1) := by decide +kernel
theorem d_M_twoOf_94 : decode (mB Y_M_twoOf) 94 = .ok (.iload_n 3, 1) := by decide +kernel
theorem d_M_twoOf_95 : decode (mB Y_M_twoOf) 95 = .ok (.imul, 1) := by decide +kernel
theorem d_M_twoOf_96 : decode (mB Y_M_twoOf) 96 = .ok (.goto 14, 3) := by decide +kernel
theorem d_M_twoOf_99 : decode (mB Y_M_twoOf) 99 = .ok (.iload_n 2, 1) := by decide +kernel
theorem d_M_twoOf_100 : decode (mB Y_M_twoOf) 100 = .ok (.iload_n 3, 1) := by decide +kernel
theorem d_M_twoOf_101 : decode (mB Y_M_twoOf) 101 = .ok (.iadd, 1) := by decide +kernel
theorem d_M_twoOf_102 : decode (mB Y_M_twoOf) 102 = .ok (.ifCond .le 7, 3) := by decide +kernel
theorem d_M_twoOf_105 : decode (mB Y_M_twoOf) 105 = .ok (.iconst 1, 1) := by decide +kernel
theorem d_M_twoOf_106 : decode (mB Y_M_twoOf) 106 = .ok (.goto 4, 3) := by decide +kernel
theorem d_M_twoOf_109 : decode (mB Y_M_twoOf) 109 = .ok (.iconst 0, 1) := by decide +kernel
theorem d_M_twoOf_110 : decode (mB Y_M_twoOf) 110 = .ok (.ireturn, 1) := by decide +kernel
def r_M_twoOf (x1 : Int32) (x2 : Int32) (x3 : Int32) : Option Int32 :=
  if x1 = 2 then
    some (x2 + x3)
  else
    if x1 = 3 then
      some (x2 - x3)
    else
      if x1 = 4 then
        some (x2 * x3)
      else
        if x1 = 5 then
          chk (nz x3) (
          some (x2 / x3))
        else
          if x1 = 6 then
            if x3 ≤ x2 then
              some 0
            else
              some 1
          else
            if x1 = 7 then
              if x2 = x3 then
                some 1
              else
                some 0
            else
              if x1 = 8 then
                if x2 ≤ x3 then
                  some 0
                else
                  some 1
              else
                if x1 = 10 then
                  some (x2 * x3)
                else
                  if (x2 + x3) ≤ 0 then
                    some 0
                  else
                    some 1
set_option maxHeartbeats 4000000 in
set_option maxRecDepth 20000 in
theorem c_M_twoOf {G : Gl} {L : Shp} (hL : Ext L) (S : Sto) (x1 : Int32) (x2 : Int32) (x3 : Int32)  : Ct Y_M_twoOf G [rf G 104, .int x1, .int x2, .int x3] L S (fp L S) (r_M_twoOf x1 x2 x3) := by
  refine ct_of (by decide +kernel) (Nat.le_of_ble_eq_true rfl) (fun g C => ?_)
  show VO g Y_M_twoOf G (fun z => Qm g Y_M_twoOf G (fp L S z)) 0 0 0 [(0, rf G 104), (1, .int x1), (2, .int x2), (3, .int x3)] [] L S (r_M_twoOf x1 x2 x3) some
  unfold r_M_twoOf
  refine v_iload_n (pc := 0) C d_M_twoOf_0 rfl 1 rfl ?_
  refine v_iconst (pc := 1) C d_M_twoOf_1 ic_2 ?_
  refine v_icmp_ne (pc := 2) (tgt := 9) C d_M_twoOf_2 rfl (fun _ => ?_) (fun _ => ?_)
  · refine v_iload_n (pc := 9) C d_M_twoOf_9 rfl 1 rfl ?_
    refine v_iconst (pc := 10) C d_M_twoOf_10 ic_3 ?_
    refine v_icmp_ne (pc := 11) (tgt := 18) C d_M_twoOf_11 rfl (fun _ => ?_) (fun _ => ?_)
    · refine v_iload_n (pc := 18) C d_M_twoOf_18 rfl 1 rfl ?_
      refine v_iconst (pc := 19) C d_M_twoOf_19 ic_4 ?_
      refine v_icmp_ne (pc := 20) (tgt := 27) C d_M_twoOf_20 rfl (fun _ => ?_) (fun _ => ?_)
      · refine v_iload_n (pc := 27) C d_M_twoOf_27 rfl 1 rfl ?_
        refine v_iconst (pc := 28) C d_M_twoOf_28 ic_5 ?_
        refine v_icmp_ne (pc := 29) (tgt := 36) C d_M_twoOf_29 rfl (fun _ => ?_) (fun _ => ?_)
        · refine v_iload_n (pc := 36) C d_M_twoOf_36 rfl 1 rfl ?_
          refine v_bipush (pc := 37) C d_M_twoOf_37 bp_6 ?_
          refine v_icmp_ne (pc := 39) (tgt := 53) C d_M_twoOf_39 rfl (fun _ => ?_) (fun _ => ?_)
          · refine v_iload_n (pc := 53) C d_M_twoOf_53 rfl 1 rfl ?_
            refine v_bipush (pc := 54) C d_M_twoOf_54 bp_7 ?_
            refine v_icmp_ne (pc := 56) (tgt := 70) C d_M_twoOf_56 rfl (fun _ => ?_) (fun _ => ?_)
            · refine v_iload_n (pc := 70) C d_M_twoOf_70 rfl 1 rfl ?_
              refine v_bipush (pc := 71) C d_M_twoOf_71 bp_8 ?_
              refine v_icmp_ne (pc := 73) (tgt := 87) C d_M_twoOf_73 rfl (fun _ => ?_) (fun _ => ?_)
              · refine v_iload_n (pc := 87) C d_M_twoOf_87 rfl 1 rfl ?_
                refine v_bipush (pc := 88) C d_M_twoOf_88 bp_10 ?_
                refine v_icmp_ne (pc := 90) (tgt := 99) C d_M_twoOf_90 rfl (fun _ => ?_) (fun _ => ?_)
                · refine v_iload_n (pc := 99) C d_M_twoOf_99 rfl 2 rfl ?_
                  refine v_iload_n (pc := 100) C d_M_twoOf_100 rfl 3 rfl ?_
                  refine v_iadd (pc := 101) C d_M_twoOf_101 ?_
                  refine v_if_le (pc := 102) (tgt := 109) C d_M_twoOf_102 rfl (fun _ => ?_) (fun _ => ?_)
                  · refine v_iconst (pc := 109) C d_M_twoOf_109 ic_0 ?_
                    exact v_iret (z := 0) C d_M_twoOf_110 rfl ⟨Nat.zero_le _, Nat.zero_le _⟩ (rfl) rfl
                  · refine v_iconst (pc := 105) C d_M_twoOf_105 ic_1 ?_
                    refine v_goto (pc := 106) (tgt := 110) C d_M_twoOf_106 rfl ?_
                    exact v_iret (z := 1) C d_M_twoOf_110 rfl ⟨Nat.zero_le _, Nat.zero_le _⟩ (rfl) rfl
                · refine v_iload_n (pc := 93) C d_M_twoOf_93 rfl 2 rfl ?_
                  refine v_iload_n (pc := 94) C d_M_twoOf_94 rfl 3 rfl ?_
                  refine v_imul (pc := 95) C d_M_twoOf_95 ?_
                  refine v_goto (pc := 96) (tgt := 110) C d_M_twoOf_96 rfl ?_
                  exact v_iret (z := (x2 * x3)) C d_M_twoOf_110 rfl ⟨Nat.zero_le _, Nat.zero_le _⟩ (rfl) rfl
              · refine v_iload_n (pc := 76) C d_M_twoOf_76 rfl 2 rfl ?_
                refine v_iload_n (pc := 77) C d_M_twoOf_77 rfl 3 rfl ?_
                refine v_icmp_le (pc := 78) (tgt := 85) C d_M_twoOf_78 rfl (fun _ => ?_) (fun _ => ?_)
                · refine v_iconst (pc := 85) C d_M_twoOf_85 ic_0 ?_
                  exact v_iret (z := 0) C d_M_twoOf_86 rfl ⟨Nat.zero_le _, Nat.zero_le _⟩ (rfl) rfl
                · refine v_iconst (pc := 81) C d_M_twoOf_81 ic_1 ?_
                  refine v_goto (pc := 82) (tgt := 86) C d_M_twoOf_82 rfl ?_
                  exact v_iret (z := 1) C d_M_twoOf_86 rfl ⟨Nat.zero_le _, Nat.zero_le _⟩ (rfl) rfl
            · refine v_iload_n (pc := 59) C d_M_twoOf_59 rfl 2 rfl ?_
              refine v_iload_n (pc := 60) C d_M_twoOf_60 rfl 3 rfl ?_
              refine v_icmp_ne (pc := 61) (tgt := 68) C d_M_twoOf_61 rfl (fun _ => ?_) (fun _ => ?_)
              · refine v_iconst (pc := 68) C d_M_twoOf_68 ic_0 ?_
                exact v_iret (z := 0) C d_M_twoOf_69 rfl ⟨Nat.zero_le _, Nat.zero_le _⟩ (rfl) rfl
              · refine v_iconst (pc := 64) C d_M_twoOf_64 ic_1 ?_
                refine v_goto (pc := 65) (tgt := 69) C d_M_twoOf_65 rfl ?_
                exact v_iret (z := 1) C d_M_twoOf_69 rfl ⟨Nat.zero_le _, Nat.zero_le _⟩ (rfl) rfl
          · refine v_iload_n (pc := 42) C d_M_twoOf_42 rfl 2 rfl ?_
            refine v_iload_n (pc := 43) C d_M_twoOf_43 rfl 3 rfl ?_
            refine v_icmp_ge (pc := 44) (tgt := 51) C d_M_twoOf_44 rfl (fun _ => ?_) (fun _ => ?_)
            · refine v_iconst (pc := 51) C d_M_twoOf_51 ic_0 ?_
              exact v_iret (z := 0) C d_M_twoOf_52 rfl ⟨Nat.zero_le _, Nat.zero_le _⟩ (rfl) rfl
            · refine v_iconst (pc := 47) C d_M_twoOf_47 ic_1 ?_
              refine v_goto (pc := 48) (tgt := 52) C d_M_twoOf_48 rfl ?_
              exact v_iret (z := 1) C d_M_twoOf_52 rfl ⟨Nat.zero_le _, Nat.zero_le _⟩ (rfl) rfl
        · refine v_iload_n (pc := 32) C d_M_twoOf_32 rfl 2 rfl ?_
          refine v_iload_n (pc := 33) C d_M_twoOf_33 rfl 3 rfl ?_
          refine v_chk (fun hne => ?_)
          refine v_idiv (pc := 34) C d_M_twoOf_34 (nz_ne hne) ?_
          exact v_iret (z := (x2 / x3)) C d_M_twoOf_35 rfl ⟨Nat.zero_le _, Nat.zero_le _⟩ (rfl) rfl
      · refine v_iload_n (pc := 23) C d_M_twoOf_23 rfl 2 rfl ?_
        refine v_iload_n (pc := 24) C d_M_twoOf_24 rfl 3 rfl ?_
        refine v_imul (pc := 25) C d_M_twoOf_25 ?_
        exact v_iret (z := (x2 * x3)) C d_M_twoOf_26 rfl ⟨Nat.zero_le _, Nat.zero_le _⟩ (rfl) rfl
    · refine v_iload_n (pc := 14) C d_M_twoOf_14 rfl 2 rfl ?_
      refine v_iload_n (pc := 15) C d_M_twoOf_15 rfl 3 rfl ?_
      refine v_isub (pc := 16) C d_M_twoOf_16 ?_
      exact v_iret (z := (x2 - x3)) C d_M_twoOf_17 rfl ⟨Nat.zero_le _, Nat.zero_le _⟩ (rfl) rfl
  · refine v_iload_n (pc := 5) C d_M_twoOf_5 rfl 2 rfl ?_
    refine v_iload_n (pc := 6) C d_M_twoOf_6 rfl 3 rfl ?_
    refine v_iadd (pc := 7) C d_M_twoOf_7 ?_
    exact v_iret (z := (x2 + x3)) C d_M_twoOf_8 rfl ⟨Nat.zero_le _, Nat.zero_le _⟩ (rfl) rfl
-- M_worth
theorem d_M_worth_0 : decode (mB Y_M_worth) 0 = .ok (.iconst 0, 1) := by decide +kernel
theorem d_M_worth_1 : decode (mB Y_M_worth) 1 = .ok (.istore 4, 2) := by decide +kernel
theorem d_M_worth_3 : decode (mB Y_M_worth) 3 = .ok (.sipush 400, 3) := by decide +kernel
theorem d_M_worth_6 : decode (mB Y_M_worth) 6 = .ok (.iload_n 1, 1) := by decide +kernel
theorem d_M_worth_7 : decode (mB Y_M_worth) 7 = .ok (.imul, 1) := by decide +kernel
theorem d_M_worth_8 : decode (mB Y_M_worth) 8 = .ok (.iload_n 2, 1) := by decide +kernel
theorem d_M_worth_9 : decode (mB Y_M_worth) 9 = .ok (.iadd, 1) := by decide +kernel
theorem d_M_worth_10 : decode (mB Y_M_worth) 10 = .ok (.istore 5, 2) := by decide +kernel
theorem d_M_worth_12 : decode (mB Y_M_worth) 12 = .ok (.iload 5, 2) := by decide +kernel
theorem d_M_worth_14 : decode (mB Y_M_worth) 14 = .ok (.sipush 400, 3) := by decide +kernel
theorem d_M_worth_17 : decode (mB Y_M_worth) 17 = .ok (.iload_n 1, 1) := by decide +kernel
theorem d_M_worth_18 : decode (mB Y_M_worth) 18 = .ok (.imul, 1) := by decide +kernel
theorem d_M_worth_19 : decode (mB Y_M_worth) 19 = .ok (.iload_n 3, 1) := by decide +kernel
theorem d_M_worth_20 : decode (mB Y_M_worth) 20 = .ok (.iadd, 1) := by decide +kernel
theorem d_M_worth_21 : decode (mB Y_M_worth) 21 = .ok (.if_icmp .ge 155, 3) := by decide +kernel
theorem d_M_worth_24 : decode (mB Y_M_worth) 24 = .ok (.aload_n 0, 1) := by decide +kernel
theorem d_M_worth_25 : decode (mB Y_M_worth) 25 = .ok (.getfield 75, 3) := by decide +kernel
theorem d_M_worth_28 : decode (mB Y_M_worth) 28 = .ok (.iload 5, 2) := by decide +kernel
theorem d_M_worth_30 : decode (mB Y_M_worth) 30 = .ok (.iaload, 1) := by decide +kernel
theorem d_M_worth_31 : decode (mB Y_M_worth) 31 = .ok (.ifCond .eq 14, 3) := by decide +kernel
theorem d_M_worth_34 : decode (mB Y_M_worth) 34 = .ok (.aload_n 0, 1) := by decide +kernel
theorem d_M_worth_35 : decode (mB Y_M_worth) 35 = .ok (.getfield 75, 3) := by decide +kernel
theorem d_M_worth_38 : decode (mB Y_M_worth) 38 = .ok (.iload 5, 2) := by decide +kernel
theorem d_M_worth_40 : decode (mB Y_M_worth) 40 = .ok (.iaload, 1) := by decide +kernel
theorem d_M_worth_41 : decode (mB Y_M_worth) 41 = .ok (.iconst 1, 1) := by decide +kernel
theorem d_M_worth_42 : decode (mB Y_M_worth) 42 = .ok (.if_icmp .ne 51, 3) := by decide +kernel
theorem d_M_worth_45 : decode (mB Y_M_worth) 45 = .ok (.aload_n 0, 1) := by decide +kernel
theorem d_M_worth_46 : decode (mB Y_M_worth) 46 = .ok (.getfield 90, 3) := by decide +kernel
theorem d_M_worth_49 : decode (mB Y_M_worth) 49 = .ok (.iload 4, 2) := by decide +kernel
theorem d_M_worth_51 : decode (mB Y_M_worth) 51 = .ok (.aload_n 0, 1) := by decide +kernel
theorem d_M_worth_52 : decode (mB Y_M_worth) 52 = .ok (.getfield 75, 3) := by decide +kernel
theorem d_M_worth_55 : decode (mB Y_M_worth) 55 = .ok (.iload 5, 2) := by decide +kernel
theorem d_M_worth_57 : decode (mB Y_M_worth) 57 = .ok (.iaload, 1) := by decide +kernel
theorem d_M_worth_58 : decode (mB Y_M_worth) 58 = .ok (.ifCond .ne 13, 3) := by decide +kernel
theorem d_M_worth_61 : decode (mB Y_M_worth) 61 = .ok (.aload_n 0, 1) := by decide +kernel
theorem d_M_worth_62 : decode (mB Y_M_worth) 62 = .ok (.getfield 78, 3) := by decide +kernel
theorem d_M_worth_65 : decode (mB Y_M_worth) 65 = .ok (.iload 5, 2) := by decide +kernel
theorem d_M_worth_67 : decode (mB Y_M_worth) 67 = .ok (.iaload, 1) := by decide +kernel
theorem d_M_worth_68 : decode (mB Y_M_worth) 68 = .ok (.goto 15, 3) := by decide +kernel
theorem d_M_worth_71 : decode (mB Y_M_worth) 71 = .ok (.aload_n 0, 1) := by decide +kernel
theorem d_M_worth_72 : decode (mB Y_M_worth) 72 = .ok (.getfield 87, 3) := by decide +kernel
theorem d_M_worth_75 : decode (mB Y_M_worth) 75 = .ok (.aload_n 0, 1) := by decide +kernel
theorem d_M_worth_76 : decode (mB Y_M_worth) 76 = .ok (.getfield 78, 3) := by decide +kernel
theorem d_M_worth_79 : decode (mB Y_M_worth) 79 = .ok (.iload 5, 2) := by decide +kernel
theorem d_M_worth_81 : decode (mB Y_M_worth) 81 = .ok (.iaload, 1) := by decide +kernel
theorem d_M_worth_82 : decode (mB Y_M_worth) 82 = .ok (.iaload, 1) := by decide +kernel
theorem d_M_worth_83 : decode (mB Y_M_worth) 83 = .ok (.iastore, 1) := by decide +kernel
theorem d_M_worth_84 : decode (mB Y_M_worth) 84 = .ok (.iload 4, 2) := by decide +kernel
theorem d_M_worth_86 : decode (mB Y_M_worth) 86 = .ok (.iconst 1, 1) := by decide +kernel
theorem d_M_worth_87 : decode (mB Y_M_worth) 87 = .ok (.iadd, 1) := by decide +kernel
theorem d_M_worth_88 : decode (mB Y_M_worth) 88 = .ok (.istore 4, 2) := by decide +kernel
theorem d_M_worth_90 : decode (mB Y_M_worth) 90 = .ok (.goto 80, 3) := by decide +kernel
theorem d_M_worth_93 : decode (mB Y_M_worth) 93 = .ok (.aload_n 0, 1) := by decide +kernel
theorem d_M_worth_94 : decode (mB Y_M_worth) 94 = .ok (.getfield 75, 3) := by decide +kernel
theorem d_M_worth_97 : decode (mB Y_M_worth) 97 = .ok (.iload 5, 2) := by decide +kernel
theorem d_M_worth_99 : decode (mB Y_M_worth) 99 = .ok (.iaload, 1) := by decide +kernel
theorem d_M_worth_100 : decode (mB Y_M_worth) 100 = .ok (.bipush 9, 2) := by decide +kernel
theorem d_M_worth_102 : decode (mB Y_M_worth) 102 = .ok (.if_icmp .ne 26, 3) := by decide +kernel
theorem d_M_worth_105 : decode (mB Y_M_worth) 105 = .ok (.aload_n 0, 1) := by decide +kernel
theorem d_M_worth_106 : decode (mB Y_M_worth) 106 = .ok (.getfield 90, 3) := by decide +kernel
theorem d_M_worth_109 : decode (mB Y_M_worth) 109 = .ok (.iload 4, 2) := by decide +kernel
theorem d_M_worth_111 : decode (mB Y_M_worth) 111 = .ok (.iconst 1, 1) := by decide +kernel
theorem d_M_worth_112 : decode (mB Y_M_worth) 112 = .ok (.isub, 1) := by decide +kernel
theorem d_M_worth_113 : decode (mB Y_M_worth) 113 = .ok (.iconst 1, 1) := by decide +kernel
theorem d_M_worth_114 : decode (mB Y_M_worth) 114 = .ok (.aload_n 0, 1) := by decide +kernel
theorem d_M_worth_115 : decode (mB Y_M_worth) 115 = .ok (.getfield 90, 3) := by decide +kernel
theorem d_M_worth_118 : decode (mB Y_M_worth) 118 = .ok (.iload 4, 2) := by decide +kernel
theorem d_M_worth_120 : decode (mB Y_M_worth) 120 = .ok (.iconst 1, 1) := by decide +kernel
theorem d_M_worth_121 : decode (mB Y_M_worth) 121 = .ok (.isub, 1) := by decide +kernel
theorem d_M_worth_122 : decode (mB Y_M_worth) 122 = .ok (.iaload, 1) := by decide +kernel
theorem d_M_worth_123 : decode (mB Y_M_worth) 123 = .ok (.isub, 1) := by decide +kernel
theorem d_M_worth_124 : decode (mB Y_M_worth) 124 = .ok (.iastore, 1) := by decide +kernel
theorem d_M_worth_125 : decode (mB Y_M_worth) 125 = .ok (.goto 45, 3) := by decide +kernel
theorem d_M_worth_128 : decode (mB Y_M_worth) 128 = .ok (.iload 4, 2) := by decide +kernel
theorem d_M_worth_130 : decode (mB Y_M_worth) 130 = .ok (.iconst 1, 1) := by decide +kernel
theorem d_M_worth_131 : decode (mB Y_M_worth) 131 = .ok (.isub, 1) := by decide +kernel
theorem d_M_worth_132 : decode (mB Y_M_worth) 132 = .ok (.istore 4, 2) := by decide +kernel
theorem d_M_worth_134 : decode (mB Y_M_worth) 134 = .ok (.aload_n 0, 1) := by decide +kernel
theorem d_M_worth_135 : decode (mB Y_M_worth) 135 = .ok (.getfield 90, 3) := by decide +kernel
theorem d_M_worth_138 : decode (mB Y_M_worth) 138 = .ok (.iload 4, 2) := by decide +kernel
theorem d_M_worth_140 : decode (mB Y_M_worth) 140 = .ok (.iconst 1, 1) := by decide +kernel
theorem d_M_worth_141 : decode (mB Y_M_worth) 141 = .ok (.isub, 1) := by decide +kernel
theorem d_M_worth_142 : decode (mB Y_M_worth) 142 = .ok (.aload_n 0, 1) := by decide +kernel
theorem d_M_worth_143 : decode (mB Y_M_worth) 143 = .ok (.aload_n 0, 1) := by decide +kernel
theorem d_M_worth_144 : decode (mB Y_M_worth) 144 = .ok (.getfield 75, 3) := by decide +kernel
theorem d_M_worth_147 : decode (mB Y_M_worth) 147 = .ok (.iload 5, 2) := by decide +kernel
theorem d_M_worth_149 : decode (mB Y_M_worth) 149 = .ok (.iaload, 1) := by decide +kernel
theorem d_M_worth_150 : decode (mB Y_M_worth) 150 = .ok (.aload_n 0, 1) := by decide +kernel
theorem d_M_worth_151 : decode (mB Y_M_worth) 151 = .ok (.getfield 90, 3) := by decide +kernel
theorem d_M_worth_154 : decode (mB Y_M_worth) 154 = .ok (.iload 4, 2) := by decide +kernel
theorem d_M_worth_156 : decode (mB Y_M_worth) 156 = .ok (.iconst 1, 1) := by decide +kernel
theorem d_M_worth_157 : decode (mB Y_M_worth) 157 = .ok (.isub, 1) := by decide +kernel
theorem d_M_worth_158 : decode (mB Y_M_worth) 158 = .ok (.iaload, 1) := by decide +kernel
theorem d_M_worth_159 : decode (mB Y_M_worth) 159 = .ok (.aload_n 0, 1) := by decide +kernel
theorem d_M_worth_160 : decode (mB Y_M_worth) 160 = .ok (.getfield 90, 3) := by decide +kernel
theorem d_M_worth_163 : decode (mB Y_M_worth) 163 = .ok (.iload 4, 2) := by decide +kernel
theorem d_M_worth_165 : decode (mB Y_M_worth) 165 = .ok (.iaload, 1) := by decide +kernel
theorem d_M_worth_166 : decode (mB Y_M_worth) 166 = .ok (.invokevirtual 352, 3) := by decide +kernel
theorem d_M_worth_169 : decode (mB Y_M_worth) 169 = .ok (.iastore, 1) := by decide +kernel
theorem d_M_worth_170 : decode (mB Y_M_worth) 170 = .ok (.iinc 5 1, 3) := by decide +kernel
theorem d_M_worth_173 : decode (mB Y_M_worth) 173 = .ok (.goto (-161), 3) := by decide +kernel
theorem d_M_worth_176 : decode (mB Y_M_worth) 176 = .ok (.aload_n 0, 1) := by decide +kernel
theorem d_M_worth_177 : decode (mB Y_M_worth) 177 = .ok (.getfield 90, 3) := by decide +kernel
theorem d_M_worth_180 : decode (mB Y_M_worth) 180 = .ok (.iconst 0, 1) := by decide +kernel
theorem d_M_worth_181 : decode (mB Y_M_worth) 181 = .ok (.iaload, 1) := by decide +kernel
theorem d_M_worth_182 : decode (mB Y_M_worth) 182 = .ok (.ireturn, 1) := by decide +kernel
theorem ro_M_worth_M_twoOf : roomy Y_M_worth Y_M_twoOf := ⟨Nat.le_of_ble_eq_true rfl, Nat.le_of_ble_eq_true rfl⟩
def r_M_worth_L12 (y1_ : Int32) (y3_ : Int32) : Nat → Int32 → Int32 → Sto → Option (Int32 × Int32 × Sto)
  | 0, _, _, _ => none
  | n + 1, x4_, x5_, S =>
    if ((400 * y1_) + y3_) ≤ x5_ then
      some (x4_, x5_, S)
    else
      chk (inr x5_ 2400) (
      jn (fun ((v1, S2) : Int32 × Sto) =>
        lt (x5_ + 1) (fun v3 =>
        r_M_worth_L12 y1_ y3_ n v1 v3 S2)) (fun j170 =>
      jn (fun (_ : Unit) =>
        chk (inr x5_ 2400) (
        jn (fun (v4 : Int32) =>
          chk (inr x4_ 420) (
          ltS (sw S 128 x4_.toNatClampNeg v4) (fun S5 =>
          lt (x4_ + 1) (fun v6 =>
          j170 (v6, S5))))) (fun j83 =>
        if (S 124 x5_.toNatClampNeg) = 0 then
          chk (inr x5_ 2400) (
          j83 (S 125 x5_.toNatClampNeg))
        else
          chk (inr x5_ 2400) (
          chk (inr (S 125 x5_.toNatClampNeg) 10) (
          j83 (S 127 ((S 125 x5_.toNatClampNeg).toNatClampNeg))))))) (fun j45 =>
      if (S 124 x5_.toNatClampNeg) = 0 then
        j45 ()
      else
        chk (inr x5_ 2400) (
        if (S 124 x5_.toNatClampNeg) = 1 then
          j45 ()
        else
          chk (inr x5_ 2400) (
          if (S 124 x5_.toNatClampNeg) = 9 then
            chk (inr (x4_ - 1) 420) (
            chk (inr (x4_ - 1) 420) (
            ltS (sw S 128 ((x4_ - 1).toNatClampNeg) (1 - (S 128 ((x4_ - 1).toNatClampNeg)))) (fun S10 =>
            j170 (x4_, S10))))
          else
            lt (x4_ - 1) (fun v7 =>
            chk (inr x5_ 2400) (
            chk (inr (v7 - 1) 420) (
            chk (inr v7 420) (
            (r_M_twoOf (S 124 x5_.toNatClampNeg) (S 128 ((v7 - 1).toNatClampNeg)) (S 128 v7.toNatClampNeg)).bind (fun r8 =>
            chk (inr (v7 - 1) 420) (
            ltS (sw S 128 ((v7 - 1).toNatClampNeg) r8) (fun S9 =>
            j170 (v7, S9)))))))))))))
set_option maxHeartbeats 4000000 in
set_option maxRecDepth 20000 in
theorem w_M_worth_L12 {g : Gm} {G : Gl} {L : Shp} (C : Cx g Y_M_worth G) (hL : Ext L) (y1_ : Int32) (y3_ : Int32)  :
    ∀ (n : Nat) (x4_ : Int32) (x5_ : Int32) (S : Sto) (K : (Int32 × Int32 × Sto) → Option (Int32 × Sto)), (∀ (x4_ : Int32) (x5_ : Int32) (S : Sto), VO g Y_M_worth G (fun z => Qm g Y_M_worth G (fi L z)) 0 0 176 [(0, rf G 104)] [] L S (some (x4_, x5_, S)) K) → VO g Y_M_worth G (fun z => Qm g Y_M_worth G (fi L z)) 0 0 12 [(0, rf G 104), (1, .int y1_), (3, .int y3_), (4, .int x4_), (5, .int x5_)] [] L S (r_M_worth_L12 y1_ y3_ n x4_ x5_ S) K := by
  intro n
  induction n with
  | zero => intro x4_ x5_ S K; intros; exact v_none
  | succ n ih =>
    intro x4_ x5_ S K hK
    rw [r_M_worth_L12]
    refine v_iload (pc := 12) C d_M_worth_12 4 rfl ?_
    refine v_sipush (pc := 14) C d_M_worth_14 sp_400 ?_
    refine v_iload_n (pc := 17) C d_M_worth_17 rfl 1 rfl ?_
    refine v_imul (pc := 18) C d_M_worth_18 ?_
    refine v_iload_n (pc := 19) C d_M_worth_19 rfl 2 rfl ?_
    refine v_iadd (pc := 20) C d_M_worth_20 ?_
    refine v_icmp_ge (pc := 21) (tgt := 176) C d_M_worth_21 rfl (fun _ => ?_) (fun _ => ?_)
    · refine v_sub [0] rfl ?_
      exact hK x4_ x5_ S
    · refine v_aload_n (pc := 24) C d_M_worth_24 rfl 0 rfl ?_
      refine v_getR (pc := 25) C fl_M_75 (sh_104 hL) rfl d_M_worth_25 ?_
      refine v_iload (pc := 28) C d_M_worth_28 4 rfl ?_
      refine v_iald (pc := 30) C (sh_124 hL) d_M_worth_30 (fun _ => ?_)
      refine v_jn (fun j => ∀ (v1 : Int32) (S2 : Sto), VO g Y_M_worth G (fun z => Qm g Y_M_worth G (fi L z)) 0 0 170 [(0, rf G 104), (1, .int y1_), (3, .int y3_), (4, .int v1), (5, .int x5_)] [] L S2 (j (v1, S2)) K) (fun v1 S2 => ?_) (fun j170 hj170 => ?_)
      · refine v_iinc (pc := 170) (p := 4) (c := 1) C d_M_worth_170 rfl (by decide) (by decide) (fun v3 => [(5, .int v3), (0, rf G 104), (1, .int y1_), (3, .int y3_), (4, .int v1)]) (fun _ => rfl) (fun v3 => ?_)
        refine v_goto (pc := 173) (tgt := 12) C d_M_worth_173 rfl ?_
        refine v_sub [1, 2, 3, 4, 0] rfl ?_
        exact ih v1 v3 S2 K hK
      · refine v_jn (fun j => VO g Y_M_worth G (fun z => Qm g Y_M_worth G (fi L z)) 0 0 45 [(0, rf G 104), (1, .int y1_), (3, .int y3_), (4, .int x4_), (5, .int x5_)] [] L S (j ()) K) (?_) (fun j45 hj45 => ?_)
        · refine v_aload_n (pc := 45) C d_M_worth_45 rfl 0 rfl ?_
          refine v_getR (pc := 46) C fl_M_90 (sh_104 hL) rfl d_M_worth_46 ?_
          refine v_iload (pc := 49) C d_M_worth_49 3 rfl ?_
          refine v_aload_n (pc := 51) C d_M_worth_51 rfl 0 rfl ?_
          refine v_getR (pc := 52) C fl_M_75 (sh_104 hL) rfl d_M_worth_52 ?_
          refine v_iload (pc := 55) C d_M_worth_55 4 rfl ?_
          refine v_iald (pc := 57) C (sh_124 hL) d_M_worth_57 (fun _ => ?_)
          refine v_jn (fun j => ∀ (v4 : Int32), VO g Y_M_worth G (fun z => Qm g Y_M_worth G (fi L z)) 0 0 83 [(0, rf G 104), (1, .int y1_), (3, .int y3_), (4, .int x4_), (5, .int x5_)] [.int v4, .int x4_, rf G 128] L S (j (v4)) K) (fun v4 => ?_) (fun j83 hj83 => ?_)
          · refine v_iast (pc := 83) C (sh_128 hL) d_M_worth_83 (fun _ S5 => ?_)
            refine v_iload (pc := 84) C d_M_worth_84 3 rfl ?_
            refine v_iconst (pc := 86) C d_M_worth_86 ic_1 ?_
            refine v_iadd (pc := 87) C d_M_worth_87 ?_
            refine v_lt (fun v6 => ?_)
            refine v_istore (pc := 88) (lv' := [(4, .int v6), (0, rf G 104), (1, .int y1_), (3, .int y3_), (5, .int x5_)]) C d_M_worth_88 (by decide) rfl ?_
            refine v_goto (pc := 90) (tgt := 170) C d_M_worth_90 rfl ?_
            refine v_sub [1, 2, 3, 0, 4] rfl ?_
            exact hj170 v6 S5
          · refine v_if_ne (pc := 58) (tgt := 71) C d_M_worth_58 rfl (fun _ => ?_) (fun _ => ?_)
            · refine v_aload_n (pc := 71) C d_M_worth_71 rfl 0 rfl ?_
              refine v_getR (pc := 72) C fl_M_87 (sh_104 hL) rfl d_M_worth_72 ?_
              refine v_aload_n (pc := 75) C d_M_worth_75 rfl 0 rfl ?_
              refine v_getR (pc := 76) C fl_M_78 (sh_104 hL) rfl d_M_worth_76 ?_
              refine v_iload (pc := 79) C d_M_worth_79 4 rfl ?_
              refine v_iald (pc := 81) C (sh_125 hL) d_M_worth_81 (fun _ => ?_)
              refine v_iald (pc := 82) C (sh_127 hL) d_M_worth_82 (fun _ => ?_)
              exact hj83 (S 127 ((S 125 x5_.toNatClampNeg).toNatClampNeg))
            · refine v_aload_n (pc := 61) C d_M_worth_61 rfl 0 rfl ?_
              refine v_getR (pc := 62) C fl_M_78 (sh_104 hL) rfl d_M_worth_62 ?_
              refine v_iload (pc := 65) C d_M_worth_65 4 rfl ?_
              refine v_iald (pc := 67) C (sh_125 hL) d_M_worth_67 (fun _ => ?_)
              refine v_goto (pc := 68) (tgt := 83) C d_M_worth_68 rfl ?_
              exact hj83 (S 125 x5_.toNatClampNeg)
        · refine v_if_eq (pc := 31) (tgt := 45) C d_M_worth_31 rfl (fun _ => ?_) (fun _ => ?_)
          · exact hj45
          · refine v_aload_n (pc := 34) C d_M_worth_34 rfl 0 rfl ?_
            refine v_getR (pc := 35) C fl_M_75 (sh_104 hL) rfl d_M_worth_35 ?_
            refine v_iload (pc := 38) C d_M_worth_38 4 rfl ?_
            refine v_iald (pc := 40) C (sh_124 hL) d_M_worth_40 (fun _ => ?_)
            refine v_iconst (pc := 41) C d_M_worth_41 ic_1 ?_
            refine v_icmp_ne (pc := 42) (tgt := 93) C d_M_worth_42 rfl (fun _ => ?_) (fun _ => ?_)
            · refine v_aload_n (pc := 93) C d_M_worth_93 rfl 0 rfl ?_
              refine v_getR (pc := 94) C fl_M_75 (sh_104 hL) rfl d_M_worth_94 ?_
              refine v_iload (pc := 97) C d_M_worth_97 4 rfl ?_
              refine v_iald (pc := 99) C (sh_124 hL) d_M_worth_99 (fun _ => ?_)
              refine v_bipush (pc := 100) C d_M_worth_100 bp_9 ?_
              refine v_icmp_ne (pc := 102) (tgt := 128) C d_M_worth_102 rfl (fun _ => ?_) (fun _ => ?_)
              · refine v_iload (pc := 128) C d_M_worth_128 3 rfl ?_
                refine v_iconst (pc := 130) C d_M_worth_130 ic_1 ?_
                refine v_isub (pc := 131) C d_M_worth_131 ?_
                refine v_lt (fun v7 => ?_)
                refine v_istore (pc := 132) (lv' := [(4, .int v7), (0, rf G 104), (1, .int y1_), (3, .int y3_), (5, .int x5_)]) C d_M_worth_132 (by decide) rfl ?_
                refine v_aload_n (pc := 134) C d_M_worth_134 rfl 1 rfl ?_
                refine v_getR (pc := 135) C fl_M_90 (sh_104 hL) rfl d_M_worth_135 ?_
                refine v_iload (pc := 138) C d_M_worth_138 0 rfl ?_
                refine v_iconst (pc := 140) C d_M_worth_140 ic_1 ?_
                refine v_isub (pc := 141) C d_M_worth_141 ?_
                refine v_aload_n (pc := 142) C d_M_worth_142 rfl 1 rfl ?_
                refine v_aload_n (pc := 143) C d_M_worth_143 rfl 1 rfl ?_
                refine v_getR (pc := 144) C fl_M_75 (sh_104 hL) rfl d_M_worth_144 ?_
                refine v_iload (pc := 147) C d_M_worth_147 4 rfl ?_
                refine v_iald (pc := 149) C (sh_124 hL) d_M_worth_149 (fun _ => ?_)
                refine v_aload_n (pc := 150) C d_M_worth_150 rfl 1 rfl ?_
                refine v_getR (pc := 151) C fl_M_90 (sh_104 hL) rfl d_M_worth_151 ?_
                refine v_iload (pc := 154) C d_M_worth_154 0 rfl ?_
                refine v_iconst (pc := 156) C d_M_worth_156 ic_1 ?_
                refine v_isub (pc := 157) C d_M_worth_157 ?_
                refine v_iald (pc := 158) C (sh_128 hL) d_M_worth_158 (fun _ => ?_)
                refine v_aload_n (pc := 159) C d_M_worth_159 rfl 1 rfl ?_
                refine v_getR (pc := 160) C fl_M_90 (sh_104 hL) rfl d_M_worth_160 ?_
                refine v_iload (pc := 163) C d_M_worth_163 0 rfl ?_
                refine v_iald (pc := 165) C (sh_128 hL) d_M_worth_165 (fun _ => ?_)
                refine v_cp (pc := 166) (inv_V (As := [.int (S 124 x5_.toNatClampNeg), .int (S 128 ((v7 - 1).toNatClampNeg)), .int (S 128 v7.toNatClampNeg)]) (st := [.int (v7 - 1), rf G 128]) C ml_M_352 mv_M_twoOf ro_M_worth_M_twoOf (sh_104 hL) rfl rfl rfl rfl (Nat.le_of_ble_eq_true rfl) d_M_worth_166) (c_M_twoOf hL S (S 124 x5_.toNatClampNeg) (S 128 ((v7 - 1).toNatClampNeg)) (S 128 v7.toNatClampNeg)) ⟨rfl, rfl⟩ ⟨Nat.zero_le _, Nat.zero_le _⟩ (fun r8 => ?_)
                refine v_iast (pc := 169) C (sh_128 hL) d_M_worth_169 (fun _ S9 => ?_)
                refine v_sub [1, 2, 3, 0, 4] rfl ?_
                exact hj170 v7 S9
              · refine v_aload_n (pc := 105) C d_M_worth_105 rfl 0 rfl ?_
                refine v_getR (pc := 106) C fl_M_90 (sh_104 hL) rfl d_M_worth_106 ?_
                refine v_iload (pc := 109) C d_M_worth_109 3 rfl ?_
                refine v_iconst (pc := 111) C d_M_worth_111 ic_1 ?_
                refine v_isub (pc := 112) C d_M_worth_112 ?_
                refine v_iconst (pc := 113) C d_M_worth_113 ic_1 ?_
                refine v_aload_n (pc := 114) C d_M_worth_114 rfl 0 rfl ?_
                refine v_getR (pc := 115) C fl_M_90 (sh_104 hL) rfl d_M_worth_115 ?_
                refine v_iload (pc := 118) C d_M_worth_118 3 rfl ?_
                refine v_iconst (pc := 120) C d_M_worth_120 ic_1 ?_
                refine v_isub (pc := 121) C d_M_worth_121 ?_
                refine v_iald (pc := 122) C (sh_128 hL) d_M_worth_122 (fun _ => ?_)
                refine v_isub (pc := 123) C d_M_worth_123 ?_
                refine v_iast (pc := 124) C (sh_128 hL) d_M_worth_124 (fun _ S10 => ?_)
                refine v_goto (pc := 125) (tgt := 170) C d_M_worth_125 rfl ?_
                exact hj170 x4_ S10
            · exact hj45
def r_M_worth (x1 : Int32) (x2 : Int32) (x3 : Int32) (S : Sto) : Option (Int32 × Sto) :=
  lt ((400 * x1) + x2) (fun v1 =>
  (r_M_worth_L12 x1 x3 fu 0 v1 S).bind (fun (v2, v3, S4) =>
  some (S4 128 ((0 : Int32).toNatClampNeg), S4)))
set_option maxHeartbeats 4000000 in
set_option maxRecDepth 20000 in
theorem c_M_worth {G : Gl} {L : Shp} (hL : Ext L) (S : Sto) (x1 : Int32) (x2 : Int32) (x3 : Int32)  : Ct Y_M_worth G [rf G 104, .int x1, .int x2, .int x3] L S (fi L) (r_M_worth x1 x2 x3 S) := by
  refine ct_of (by decide +kernel) (Nat.le_of_ble_eq_true rfl) (fun g C => ?_)
  show VO g Y_M_worth G (fun z => Qm g Y_M_worth G (fi L z)) 0 0 0 [(0, rf G 104), (1, .int x1), (2, .int x2), (3, .int x3)] [] L S (r_M_worth x1 x2 x3 S) some
  unfold r_M_worth
  refine v_iconst (pc := 0) C d_M_worth_0 ic_0 ?_
  refine v_istore (pc := 1) (lv' := [(4, .int 0), (0, rf G 104), (1, .int x1), (2, .int x2), (3, .int x3)]) C d_M_worth_1 (by decide) rfl ?_
  refine v_sipush (pc := 3) C d_M_worth_3 sp_400 ?_
  refine v_iload_n (pc := 6) C d_M_worth_6 rfl 2 rfl ?_
  refine v_imul (pc := 7) C d_M_worth_7 ?_
  refine v_iload_n (pc := 8) C d_M_worth_8 rfl 3 rfl ?_
  refine v_iadd (pc := 9) C d_M_worth_9 ?_
  refine v_lt (fun v1 => ?_)
  refine v_istore (pc := 10) (lv' := [(5, .int v1), (4, .int 0), (0, rf G 104), (1, .int x1), (2, .int x2), (3, .int x3)]) C d_M_worth_10 (by decide) rfl ?_
  refine v_sub [2, 3, 5, 1, 0] rfl ?_
  refine v_bind ?_
  refine w_M_worth_L12 C hL x1 x3  fu 0 v1 S _ (fun v2 v3 S4 => ?_) 
  refine v_some ?_
  refine v_aload_n (pc := 176) C d_M_worth_176 rfl 0 rfl ?_
  refine v_getR (pc := 177) C fl_M_90 (sh_104 hL) rfl d_M_worth_177 ?_
  refine v_iconst (pc := 180) C d_M_worth_180 ic_0 ?_
  refine v_ialdT (pc := 181) C (sh_128 hL) d_M_worth_181 (by decide) ?_
  exact v_iret (z := (S4 128 ((0 : Int32).toNatClampNeg), S4)) C d_M_worth_182 rfl ⟨Nat.zero_le _, Nat.zero_le _⟩ (rfl) rfl
-- M_firstSo
theorem d_M_firstSo_0 : decode (mB Y_M_firstSo) 0 = .ok (.bipush 12, 2) := by decide +kernel
theorem d_M_firstSo_2 : decode (mB Y_M_firstSo) 2 = .ok (.iload_n 1, 1) := by decide +kernel
theorem d_M_firstSo_3 : decode (mB Y_M_firstSo) 3 = .ok (.imul, 1) := by decide +kernel
theorem d_M_firstSo_4 : decode (mB Y_M_firstSo) 4 = .ok (.istore_n 2, 1) := by decide +kernel
theorem d_M_firstSo_5 : decode (mB Y_M_firstSo) 5 = .ok (.iload_n 2, 1) := by decide +kernel
theorem d_M_firstSo_6 : decode (mB Y_M_firstSo) 6 = .ok (.bipush 12, 2) := by decide +kernel
theorem d_M_firstSo_8 : decode (mB Y_M_firstSo) 8 = .ok (.iload_n 1, 1) := by decide +kernel
theorem d_M_firstSo_9 : decode (mB Y_M_firstSo) 9 = .ok (.imul, 1) := by decide +kernel
theorem d_M_firstSo_10 : decode (mB Y_M_firstSo) 10 = .ok (.aload_n 0, 1) := by decide +kernel
theorem d_M_firstSo_11 : decode (mB Y_M_firstSo) 11 = .ok (.getfield 63, 3) := by decide +kernel
theorem d_M_firstSo_14 : decode (mB Y_M_firstSo) 14 = .ok (.iload_n 1, 1) := by decide +kernel
theorem d_M_firstSo_15 : decode (mB Y_M_firstSo) 15 = .ok (.iaload, 1) := by decide +kernel
theorem d_M_firstSo_16 : decode (mB Y_M_firstSo) 16 = .ok (.iadd, 1) := by decide +kernel
theorem d_M_firstSo_17 : decode (mB Y_M_firstSo) 17 = .ok (.if_icmp .ge 36, 3) := by decide +kernel
theorem d_M_firstSo_20 : decode (mB Y_M_firstSo) 20 = .ok (.aload_n 0, 1) := by decide +kernel
theorem d_M_firstSo_21 : decode (mB Y_M_firstSo) 21 = .ok (.iload_n 1, 1) := by decide +kernel
theorem d_M_firstSo_22 : decode (mB Y_M_firstSo) 22 = .ok (.aload_n 0, 1) := by decide +kernel
theorem d_M_firstSo_23 : decode (mB Y_M_firstSo) 23 = .ok (.getfield 69, 3) := by decide +kernel
theorem d_M_firstSo_26 : decode (mB Y_M_firstSo) 26 = .ok (.iload_n 2, 1) := by decide +kernel
theorem d_M_firstSo_27 : decode (mB Y_M_firstSo) 27 = .ok (.iaload, 1) := by decide +kernel
theorem d_M_firstSo_28 : decode (mB Y_M_firstSo) 28 = .ok (.aload_n 0, 1) := by decide +kernel
theorem d_M_firstSo_29 : decode (mB Y_M_firstSo) 29 = .ok (.getfield 72, 3) := by decide +kernel
theorem d_M_firstSo_32 : decode (mB Y_M_firstSo) 32 = .ok (.iload_n 2, 1) := by decide +kernel
theorem d_M_firstSo_33 : decode (mB Y_M_firstSo) 33 = .ok (.iaload, 1) := by decide +kernel
theorem d_M_firstSo_34 : decode (mB Y_M_firstSo) 34 = .ok (.invokevirtual 356, 3) := by decide +kernel
theorem d_M_firstSo_37 : decode (mB Y_M_firstSo) 37 = .ok (.ifCond .eq 10, 3) := by decide +kernel
theorem d_M_firstSo_40 : decode (mB Y_M_firstSo) 40 = .ok (.aload_n 0, 1) := by decide +kernel
theorem d_M_firstSo_41 : decode (mB Y_M_firstSo) 41 = .ok (.getfield 66, 3) := by decide +kernel
theorem d_M_firstSo_44 : decode (mB Y_M_firstSo) 44 = .ok (.iload_n 2, 1) := by decide +kernel
theorem d_M_firstSo_45 : decode (mB Y_M_firstSo) 45 = .ok (.iaload, 1) := by decide +kernel
theorem d_M_firstSo_46 : decode (mB Y_M_firstSo) 46 = .ok (.ireturn, 1) := by decide +kernel
theorem d_M_firstSo_47 : decode (mB Y_M_firstSo) 47 = .ok (.iinc 2 1, 3) := by decide +kernel
theorem d_M_firstSo_50 : decode (mB Y_M_firstSo) 50 = .ok (.goto (-45), 3) := by decide +kernel
theorem d_M_firstSo_53 : decode (mB Y_M_firstSo) 53 = .ok (.iconst (-1), 1) := by decide +kernel
theorem d_M_firstSo_54 : decode (mB Y_M_firstSo) 54 = .ok (.ireturn, 1) := by decide +kernel
theorem ro_M_firstSo_M_worth : roomy Y_M_firstSo Y_M_worth := ⟨Nat.le_of_ble_eq_true rfl, Nat.le_of_ble_eq_true rfl⟩
def r_M_firstSo_L5 (y1_ : Int32) : Nat → Int32 → Sto → Option ((Int32 × Sto) ⊕ (Int32 × Sto))
  | 0, _, _ => none
  | n + 1, x2_, S =>
    chk (inr y1_ 6) (
    if ((12 * y1_) + (S 120 y1_.toNatClampNeg)) ≤ x2_ then
      some (.inl (x2_, S))
    else
      chk (inr x2_ 72) (
      chk (inr x2_ 72) (
      (r_M_worth y1_ (S 122 x2_.toNatClampNeg) (S 123 x2_.toNatClampNeg) S).bind (fun (r1, S2) =>
      if r1 = 0 then
        lt (x2_ + 1) (fun v3 =>
        r_M_firstSo_L5 y1_ n v3 S2)
      else
        chk (inr x2_ 72) (
        some (.inr (S2 121 x2_.toNatClampNeg, S2)))))))
set_option maxHeartbeats 4000000 in
set_option maxRecDepth 20000 in
theorem w_M_firstSo_L5 {g : Gm} {G : Gl} {L : Shp} (C : Cx g Y_M_firstSo G) (hL : Ext L) (y1_ : Int32)  :
    ∀ (n : Nat) (x2_ : Int32) (S : Sto) (K : ((Int32 × Sto) ⊕ (Int32 × Sto)) → Option (Int32 × Sto)), (∀ (x2_ : Int32) (S : Sto), VO g Y_M_firstSo G (fun z => Qm g Y_M_firstSo G (fi L z)) 0 0 53 [] [] L S (some (.inl (x2_, S))) K) → (∀ x, K (.inr x) = some x) → VO g Y_M_firstSo G (fun z => Qm g Y_M_firstSo G (fi L z)) 0 0 5 [(0, rf G 104), (1, .int y1_), (2, .int x2_)] [] L S (r_M_firstSo_L5 y1_ n x2_ S) K := by
  intro n
  induction n with
  | zero => intro x2_ S K; intros; exact v_none
  | succ n ih =>
    intro x2_ S K hK hR
    rw [r_M_firstSo_L5]
    refine v_iload_n (pc := 5) C d_M_firstSo_5 rfl 2 rfl ?_
    refine v_bipush (pc := 6) C d_M_firstSo_6 bp_12 ?_
    refine v_iload_n (pc := 8) C d_M_firstSo_8 rfl 1 rfl ?_
    refine v_imul (pc := 9) C d_M_firstSo_9 ?_
    refine v_aload_n (pc := 10) C d_M_firstSo_10 rfl 0 rfl ?_
    refine v_getR (pc := 11) C fl_M_63 (sh_104 hL) rfl d_M_firstSo_11 ?_
    refine v_iload_n (pc := 14) C d_M_firstSo_14 rfl 1 rfl ?_
    refine v_iald (pc := 15) C (sh_120 hL) d_M_firstSo_15 (fun _ => ?_)
    refine v_iadd (pc := 16) C d_M_firstSo_16 ?_
    refine v_icmp_ge (pc := 17) (tgt := 53) C d_M_firstSo_17 rfl (fun _ => ?_) (fun _ => ?_)
    · refine v_sub [] rfl ?_
      exact hK x2_ S
    · refine v_aload_n (pc := 20) C d_M_firstSo_20 rfl 0 rfl ?_
      refine v_iload_n (pc := 21) C d_M_firstSo_21 rfl 1 rfl ?_
      refine v_aload_n (pc := 22) C d_M_firstSo_22 rfl 0 rfl ?_
      refine v_getR (pc := 23) C fl_M_69 (sh_104 hL) rfl d_M_firstSo_23 ?_
      refine v_iload_n (pc := 26) C d_M_firstSo_26 rfl 2 rfl ?_
      refine v_iald (pc := 27) C (sh_122 hL) d_M_firstSo_27 (fun _ => ?_)
      refine v_aload_n (pc := 28) C d_M_firstSo_28 rfl 0 rfl ?_
      refine v_getR (pc := 29) C fl_M_72 (sh_104 hL) rfl d_M_firstSo_29 ?_
      refine v_iload_n (pc := 32) C d_M_firstSo_32 rfl 2 rfl ?_
      refine v_iald (pc := 33) C (sh_123 hL) d_M_firstSo_33 (fun _ => ?_)
      refine v_ci (pc := 34) (inv_V (As := [.int y1_, .int (S 122 x2_.toNatClampNeg), .int (S 123 x2_.toNatClampNeg)]) (st := []) C ml_M_356 mv_M_worth ro_M_firstSo_M_worth (sh_104 hL) rfl rfl rfl rfl (Nat.le_of_ble_eq_true rfl) d_M_firstSo_34) (c_M_worth hL S y1_ (S 122 x2_.toNatClampNeg) (S 123 x2_.toNatClampNeg)) ⟨rfl, rfl⟩ ⟨Nat.zero_le _, Nat.zero_le _⟩ (fun r1 S2 => ?_)
      refine v_if_eq (pc := 37) (tgt := 47) C d_M_firstSo_37 rfl (fun _ => ?_) (fun _ => ?_)
      · refine v_iinc (pc := 47) (p := 2) (c := 1) C d_M_firstSo_47 rfl (by decide) (by decide) (fun v3 => [(2, .int v3), (0, rf G 104), (1, .int y1_)]) (fun _ => rfl) (fun v3 => ?_)
        refine v_goto (pc := 50) (tgt := 5) C d_M_firstSo_50 rfl ?_
        refine v_sub [1, 2, 0] rfl ?_
        exact ih v3 S2 K hK hR
      · refine v_aload_n (pc := 40) C d_M_firstSo_40 rfl 0 rfl ?_
        refine v_getR (pc := 41) C fl_M_66 (sh_104 hL) rfl d_M_firstSo_41 ?_
        refine v_iload_n (pc := 44) C d_M_firstSo_44 rfl 2 rfl ?_
        refine v_iald (pc := 45) C (sh_121 hL) d_M_firstSo_45 (fun _ => ?_)
        exact v_iret (z := (S2 121 x2_.toNatClampNeg, S2)) C d_M_firstSo_46 rfl ⟨Nat.zero_le _, Nat.zero_le _⟩ (hR _) rfl
def r_M_firstSo (x1 : Int32) (S : Sto) : Option (Int32 × Sto) :=
  lt (12 * x1) (fun v1 =>
  (r_M_firstSo_L5 x1 fu v1 S).bind (fun x => match x with
  | .inl (v2, S3) =>
    some ((-1), S3)
  | .inr r => some r))
set_option maxHeartbeats 4000000 in
set_option maxRecDepth 20000 in
theorem c_M_firstSo {G : Gl} {L : Shp} (hL : Ext L) (S : Sto) (x1 : Int32)  : Ct Y_M_firstSo G [rf G 104, .int x1] L S (fi L) (r_M_firstSo x1 S) := by
  refine ct_of (by decide +kernel) (Nat.le_of_ble_eq_true rfl) (fun g C => ?_)
  show VO g Y_M_firstSo G (fun z => Qm g Y_M_firstSo G (fi L z)) 0 0 0 [(0, rf G 104), (1, .int x1)] [] L S (r_M_firstSo x1 S) some
  unfold r_M_firstSo
  refine v_bipush (pc := 0) C d_M_firstSo_0 bp_12 ?_
  refine v_iload_n (pc := 2) C d_M_firstSo_2 rfl 1 rfl ?_
  refine v_imul (pc := 3) C d_M_firstSo_3 ?_
  refine v_lt (fun v1 => ?_)
  refine v_istore_n (pc := 4) (lv' := [(2, .int v1), (0, rf G 104), (1, .int x1)]) C d_M_firstSo_4 rfl (by decide) rfl ?_
  refine v_sub [1, 2, 0] rfl ?_
  refine v_bind ?_
  refine w_M_firstSo_L5 C hL x1  fu v1 S _ (fun v2 S3 => ?_) (fun z => rfl)
  refine v_some ?_
  refine v_iconst (pc := 53) C d_M_firstSo_53 ic_m1 ?_
  exact v_iret (z := ((-1), S3)) C d_M_firstSo_54 rfl ⟨Nat.zero_le _, Nat.zero_le _⟩ (rfl) rfl
-- M_turnsBy
theorem d_M_turnsBy_0 : decode (mB Y_M_turnsBy) 0 = .ok (.aload_n 0, 1) := by decide +kernel
theorem d_M_turnsBy_1 : decode (mB Y_M_turnsBy) 1 = .ok (.iload_n 3, 1) := by decide +kernel
theorem d_M_turnsBy_2 : decode (mB Y_M_turnsBy) 2 = .ok (.iload 4, 2) := by decide +kernel
theorem d_M_turnsBy_4 : decode (mB Y_M_turnsBy) 4 = .ok (.iload 5, 2) := by decide +kernel
theorem d_M_turnsBy_6 : decode (mB Y_M_turnsBy) 6 = .ok (.iload 6, 2) := by decide +kernel
theorem d_M_turnsBy_8 : decode (mB Y_M_turnsBy) 8 = .ok (.iload_n 2, 1) := by decide +kernel
theorem d_M_turnsBy_9 : decode (mB Y_M_turnsBy) 9 = .ok (.invokevirtual 235, 3) := by decide +kernel
theorem d_M_turnsBy_12 : decode (mB Y_M_turnsBy) 12 = .ok (.aload_n 0, 1) := by decide +kernel
theorem d_M_turnsBy_13 : decode (mB Y_M_turnsBy) 13 = .ok (.invokevirtual 362, 3) := by decide +kernel
theorem d_M_turnsBy_16 : decode (mB Y_M_turnsBy) 16 = .ok (.istore 7, 2) := by decide +kernel
theorem d_M_turnsBy_18 : decode (mB Y_M_turnsBy) 18 = .ok (.aload_n 0, 1) := by decide +kernel
theorem d_M_turnsBy_19 : decode (mB Y_M_turnsBy) 19 = .ok (.getfield 87, 3) := by decide +kernel
theorem d_M_turnsBy_22 : decode (mB Y_M_turnsBy) 22 = .ok (.iconst 0, 1) := by decide +kernel
theorem d_M_turnsBy_23 : decode (mB Y_M_turnsBy) 23 = .ok (.aload_n 0, 1) := by decide +kernel
theorem d_M_turnsBy_24 : decode (mB Y_M_turnsBy) 24 = .ok (.getfield 224, 3) := by decide +kernel
theorem d_M_turnsBy_27 : decode (mB Y_M_turnsBy) 27 = .ok (.iastore, 1) := by decide +kernel
theorem d_M_turnsBy_28 : decode (mB Y_M_turnsBy) 28 = .ok (.aload_n 0, 1) := by decide +kernel
theorem d_M_turnsBy_29 : decode (mB Y_M_turnsBy) 29 = .ok (.getfield 87, 3) := by decide +kernel
theorem d_M_turnsBy_32 : decode (mB Y_M_turnsBy) 32 = .ok (.iconst 1, 1) := by decide +kernel
theorem d_M_turnsBy_33 : decode (mB Y_M_turnsBy) 33 = .ok (.aload_n 0, 1) := by decide +kernel
theorem d_M_turnsBy_34 : decode (mB Y_M_turnsBy) 34 = .ok (.getfield 212, 3) := by decide +kernel
theorem d_M_turnsBy_37 : decode (mB Y_M_turnsBy) 37 = .ok (.iastore, 1) := by decide +kernel
theorem d_M_turnsBy_38 : decode (mB Y_M_turnsBy) 38 = .ok (.aload_n 0, 1) := by decide +kernel
theorem d_M_turnsBy_39 : decode (mB Y_M_turnsBy) 39 = .ok (.getfield 87, 3) := by decide +kernel
theorem d_M_turnsBy_42 : decode (mB Y_M_turnsBy) 42 = .ok (.iconst 2, 1) := by decide +kernel
theorem d_M_turnsBy_43 : decode (mB Y_M_turnsBy) 43 = .ok (.iload 7, 2) := by decide +kernel
theorem d_M_turnsBy_45 : decode (mB Y_M_turnsBy) 45 = .ok (.iconst (-1), 1) := by decide +kernel
theorem d_M_turnsBy_46 : decode (mB Y_M_turnsBy) 46 = .ok (.if_icmp .ne 7, 3) := by decide +kernel
theorem d_M_turnsBy_49 : decode (mB Y_M_turnsBy) 49 = .ok (.iconst 0, 1) := by decide +kernel
theorem d_M_turnsBy_50 : decode (mB Y_M_turnsBy) 50 = .ok (.goto 10, 3) := by decide +kernel
theorem d_M_turnsBy_53 : decode (mB Y_M_turnsBy) 53 = .ok (.aload_n 0, 1) := by decide +kernel
theorem d_M_turnsBy_54 : decode (mB Y_M_turnsBy) 54 = .ok (.getfield 51, 3) := by decide +kernel
theorem d_M_turnsBy_57 : decode (mB Y_M_turnsBy) 57 = .ok (.iload 7, 2) := by decide +kernel
theorem d_M_turnsBy_59 : decode (mB Y_M_turnsBy) 59 = .ok (.iaload, 1) := by decide +kernel
theorem d_M_turnsBy_60 : decode (mB Y_M_turnsBy) 60 = .ok (.iastore, 1) := by decide +kernel
theorem d_M_turnsBy_61 : decode (mB Y_M_turnsBy) 61 = .ok (.aload_n 0, 1) := by decide +kernel
theorem d_M_turnsBy_62 : decode (mB Y_M_turnsBy) 62 = .ok (.getfield 87, 3) := by decide +kernel
theorem d_M_turnsBy_65 : decode (mB Y_M_turnsBy) 65 = .ok (.iconst 3, 1) := by decide +kernel
theorem d_M_turnsBy_66 : decode (mB Y_M_turnsBy) 66 = .ok (.aload_n 0, 1) := by decide +kernel
theorem d_M_turnsBy_67 : decode (mB Y_M_turnsBy) 67 = .ok (.getfield 206, 3) := by decide +kernel
theorem d_M_turnsBy_70 : decode (mB Y_M_turnsBy) 70 = .ok (.iconst (-1), 1) := by decide +kernel
theorem d_M_turnsBy_71 : decode (mB Y_M_turnsBy) 71 = .ok (.if_icmp .ne 7, 3) := by decide +kernel
theorem d_M_turnsBy_74 : decode (mB Y_M_turnsBy) 74 = .ok (.iconst 0, 1) := by decide +kernel
theorem d_M_turnsBy_75 : decode (mB Y_M_turnsBy) 75 = .ok (.goto 12, 3) := by decide +kernel
theorem d_M_turnsBy_78 : decode (mB Y_M_turnsBy) 78 = .ok (.aload_n 0, 1) := by decide +kernel
theorem d_M_turnsBy_79 : decode (mB Y_M_turnsBy) 79 = .ok (.getfield 221, 3) := by decide +kernel
theorem d_M_turnsBy_82 : decode (mB Y_M_turnsBy) 82 = .ok (.aload_n 0, 1) := by decide +kernel
theorem d_M_turnsBy_83 : decode (mB Y_M_turnsBy) 83 = .ok (.getfield 206, 3) := by decide +kernel
theorem d_M_turnsBy_86 : decode (mB Y_M_turnsBy) 86 = .ok (.isub, 1) := by decide +kernel
theorem d_M_turnsBy_87 : decode (mB Y_M_turnsBy) 87 = .ok (.iastore, 1) := by decide +kernel
theorem d_M_turnsBy_88 : decode (mB Y_M_turnsBy) 88 = .ok (.aload_n 0, 1) := by decide +kernel
theorem d_M_turnsBy_89 : decode (mB Y_M_turnsBy) 89 = .ok (.getfield 87, 3) := by decide +kernel
theorem d_M_turnsBy_92 : decode (mB Y_M_turnsBy) 92 = .ok (.iconst 4, 1) := by decide +kernel
theorem d_M_turnsBy_93 : decode (mB Y_M_turnsBy) 93 = .ok (.aload_n 0, 1) := by decide +kernel
theorem d_M_turnsBy_94 : decode (mB Y_M_turnsBy) 94 = .ok (.getfield 218, 3) := by decide +kernel
theorem d_M_turnsBy_97 : decode (mB Y_M_turnsBy) 97 = .ok (.iastore, 1) := by decide +kernel
theorem d_M_turnsBy_98 : decode (mB Y_M_turnsBy) 98 = .ok (.aload_n 0, 1) := by decide +kernel
theorem d_M_turnsBy_99 : decode (mB Y_M_turnsBy) 99 = .ok (.getfield 87, 3) := by decide +kernel
theorem d_M_turnsBy_102 : decode (mB Y_M_turnsBy) 102 = .ok (.iconst 5, 1) := by decide +kernel
theorem d_M_turnsBy_103 : decode (mB Y_M_turnsBy) 103 = .ok (.aload_n 0, 1) := by decide +kernel
theorem d_M_turnsBy_104 : decode (mB Y_M_turnsBy) 104 = .ok (.iload_n 3, 1) := by decide +kernel
theorem d_M_turnsBy_105 : decode (mB Y_M_turnsBy) 105 = .ok (.iload_n 2, 1) := by decide +kernel
theorem d_M_turnsBy_106 : decode (mB Y_M_turnsBy) 106 = .ok (.invokevirtual 187, 3) := by decide +kernel
theorem d_M_turnsBy_109 : decode (mB Y_M_turnsBy) 109 = .ok (.iastore, 1) := by decide +kernel
theorem d_M_turnsBy_110 : decode (mB Y_M_turnsBy) 110 = .ok (.aload_n 0, 1) := by decide +kernel
theorem d_M_turnsBy_111 : decode (mB Y_M_turnsBy) 111 = .ok (.iload_n 1, 1) := by decide +kernel
theorem d_M_turnsBy_112 : decode (mB Y_M_turnsBy) 112 = .ok (.invokevirtual 365, 3) := by decide +kernel
theorem d_M_turnsBy_115 : decode (mB Y_M_turnsBy) 115 = .ok (.istore 8, 2) := by decide +kernel
theorem d_M_turnsBy_117 : decode (mB Y_M_turnsBy) 117 = .ok (.iload 8, 2) := by decide +kernel
theorem d_M_turnsBy_119 : decode (mB Y_M_turnsBy) 119 = .ok (.iconst 1, 1) := by decide +kernel
theorem d_M_turnsBy_120 : decode (mB Y_M_turnsBy) 120 = .ok (.if_icmp .ne 10, 3) := by decide +kernel
theorem d_M_turnsBy_123 : decode (mB Y_M_turnsBy) 123 = .ok (.aload_n 0, 1) := by decide +kernel
theorem d_M_turnsBy_124 : decode (mB Y_M_turnsBy) 124 = .ok (.iload_n 3, 1) := by decide +kernel
theorem d_M_turnsBy_125 : decode (mB Y_M_turnsBy) 125 = .ok (.iload_n 2, 1) := by decide +kernel
theorem d_M_turnsBy_126 : decode (mB Y_M_turnsBy) 126 = .ok (.invokevirtual 193, 3) := by decide +kernel
theorem d_M_turnsBy_129 : decode (mB Y_M_turnsBy) 129 = .ok (.ireturn, 1) := by decide +kernel
theorem d_M_turnsBy_130 : decode (mB Y_M_turnsBy) 130 = .ok (.iload 8, 2) := by decide +kernel
theorem d_M_turnsBy_132 : decode (mB Y_M_turnsBy) 132 = .ok (.iconst 2, 1) := by decide +kernel
theorem d_M_turnsBy_133 : decode (mB Y_M_turnsBy) 133 = .ok (.if_icmp .ne 25, 3) := by decide +kernel
theorem d_M_turnsBy_136 : decode (mB Y_M_turnsBy) 136 = .ok (.aload_n 0, 1) := by decide +kernel
theorem d_M_turnsBy_137 : decode (mB Y_M_turnsBy) 137 = .ok (.getfield 206, 3) := by decide +kernel
theorem d_M_turnsBy_140 : decode (mB Y_M_turnsBy) 140 = .ok (.iconst (-1), 1) := by decide +kernel
theorem d_M_turnsBy_141 : decode (mB Y_M_turnsBy) 141 = .ok (.if_icmp .ne 7, 3) := by decide +kernel
theorem d_M_turnsBy_144 : decode (mB Y_M_turnsBy) 144 = .ok (.iconst (-1), 1) := by decide +kernel
theorem d_M_turnsBy_145 : decode (mB Y_M_turnsBy) 145 = .ok (.goto 12, 3) := by decide +kernel
theorem d_M_turnsBy_148 : decode (mB Y_M_turnsBy) 148 = .ok (.aload_n 0, 1) := by decide +kernel
theorem d_M_turnsBy_149 : decode (mB Y_M_turnsBy) 149 = .ok (.aload_n 0, 1) := by decide +kernel
theorem d_M_turnsBy_150 : decode (mB Y_M_turnsBy) 150 = .ok (.getfield 209, 3) := by decide +kernel
theorem d_M_turnsBy_153 : decode (mB Y_M_turnsBy) 153 = .ok (.iload_n 2, 1) := by decide +kernel
theorem d_M_turnsBy_154 : decode (mB Y_M_turnsBy) 154 = .ok (.invokevirtual 193, 3) := by decide +kernel
theorem d_M_turnsBy_157 : decode (mB Y_M_turnsBy) 157 = .ok (.ireturn, 1) := by decide +kernel
theorem d_M_turnsBy_158 : decode (mB Y_M_turnsBy) 158 = .ok (.iload 8, 2) := by decide +kernel
theorem d_M_turnsBy_160 : decode (mB Y_M_turnsBy) 160 = .ok (.iconst 3, 1) := by decide +kernel
theorem d_M_turnsBy_161 : decode (mB Y_M_turnsBy) 161 = .ok (.if_icmp .ne 24, 3) := by decide +kernel
theorem d_M_turnsBy_164 : decode (mB Y_M_turnsBy) 164 = .ok (.iload 7, 2) := by decide +kernel
theorem d_M_turnsBy_166 : decode (mB Y_M_turnsBy) 166 = .ok (.iconst (-1), 1) := by decide +kernel
theorem d_M_turnsBy_167 : decode (mB Y_M_turnsBy) 167 = .ok (.if_icmp .eq 18, 3) := by decide +kernel
theorem d_M_turnsBy_170 : decode (mB Y_M_turnsBy) 170 = .ok (.aload_n 0, 1) := by decide +kernel
theorem d_M_turnsBy_171 : decode (mB Y_M_turnsBy) 171 = .ok (.aload_n 0, 1) := by decide +kernel
theorem d_M_turnsBy_172 : decode (mB Y_M_turnsBy) 172 = .ok (.getfield 54, 3) := by decide +kernel
theorem d_M_turnsBy_175 : decode (mB Y_M_turnsBy) 175 = .ok (.iload 7, 2) := by decide +kernel
theorem d_M_turnsBy_177 : decode (mB Y_M_turnsBy) 177 = .ok (.iaload, 1) := by decide +kernel
theorem d_M_turnsBy_178 : decode (mB Y_M_turnsBy) 178 = .ok (.iload_n 2, 1) := by decide +kernel
theorem d_M_turnsBy_179 : decode (mB Y_M_turnsBy) 179 = .ok (.invokevirtual 193, 3) := by decide +kernel
theorem d_M_turnsBy_182 : decode (mB Y_M_turnsBy) 182 = .ok (.goto 4, 3) := by decide +kernel
theorem d_M_turnsBy_185 : decode (mB Y_M_turnsBy) 185 = .ok (.iconst (-1), 1) := by decide +kernel
theorem d_M_turnsBy_186 : decode (mB Y_M_turnsBy) 186 = .ok (.ireturn, 1) := by decide +kernel
theorem ro_M_turnsBy_M_apartOf : roomy Y_M_turnsBy Y_M_apartOf := ⟨Nat.le_of_ble_eq_true rfl, Nat.le_of_ble_eq_true rfl⟩
theorem ro_M_turnsBy_M_firstSo : roomy Y_M_turnsBy Y_M_firstSo := ⟨Nat.le_of_ble_eq_true rfl, Nat.le_of_ble_eq_true rfl⟩
theorem ro_M_turnsBy_M_hears : roomy Y_M_turnsBy Y_M_hears := ⟨Nat.le_of_ble_eq_true rfl, Nat.le_of_ble_eq_true rfl⟩
theorem ro_M_turnsBy_M_loudestBack : roomy Y_M_turnsBy Y_M_loudestBack := ⟨Nat.le_of_ble_eq_true rfl, Nat.le_of_ble_eq_true rfl⟩
theorem ro_M_turnsBy_M_sectorOf : roomy Y_M_turnsBy Y_M_sectorOf := ⟨Nat.le_of_ble_eq_true rfl, Nat.le_of_ble_eq_true rfl⟩
def r_M_turnsBy (x1 : Int32) (x2 : Int32) (x3 : Int32) (x4 : Int32) (x5 : Int32) (x6 : Int32) (S : Sto) : Option (Int32 × Sto) :=
  (r_M_hears x3 x4 x5 x6 x2 S).bind (fun S1 =>
  (r_M_loudestBack S1).bind (fun r2 =>
  chk (inr (0 : Int32) 10) (
  ltS (sw S1 127 ((0 : Int32).toNatClampNeg) (S1 104 18)) (fun S3 =>
  chk (inr (1 : Int32) 10) (
  ltS (sw S3 127 ((1 : Int32).toNatClampNeg) (S3 104 21)) (fun S4 =>
  jn (fun (v5 : Int32) =>
    chk (inr (2 : Int32) 10) (
    ltS (sw S4 127 ((2 : Int32).toNatClampNeg) v5) (fun S6 =>
    jn (fun (v7 : Int32) =>
      chk (inr (3 : Int32) 10) (
      ltS (sw S6 127 ((3 : Int32).toNatClampNeg) v7) (fun S8 =>
      chk (inr (4 : Int32) 10) (
      ltS (sw S8 127 ((4 : Int32).toNatClampNeg) (S8 104 22)) (fun S9 =>
      (r_M_apartOf x3 x2).bind (fun r10 =>
      chk (inr (5 : Int32) 10) (
      ltS (sw S9 127 ((5 : Int32).toNatClampNeg) r10) (fun S11 =>
      (r_M_firstSo x1 S11).bind (fun (r12, S13) =>
      if r12 = 1 then
        (r_M_sectorOf x3 x2).bind (fun r16 =>
        some (r16, S13))
      else
        if r12 = 2 then
          if (S13 104 19) = (-1) then
            some ((-1), S13)
          else
            (r_M_sectorOf (S13 104 20) x2).bind (fun r15 =>
            some (r15, S13))
        else
          if r12 = 3 then
            if r2 = (-1) then
              some ((-1), S13)
            else
              chk (inr r2 10) (
              (r_M_sectorOf (S13 117 r2.toNatClampNeg) x2).bind (fun r14 =>
              some (r14, S13)))
          else
            some ((-1), S13)))))))))) (fun j87 =>
    if (S6 104 19) = (-1) then
      j87 (0)
    else
      j87 ((S6 104 17) - (S6 104 19)))))) (fun j60 =>
  if r2 = (-1) then
    j60 (0)
  else
    chk (inr r2 10) (
    j60 (S4 116 r2.toNatClampNeg)))))))))
set_option maxHeartbeats 4000000 in
set_option maxRecDepth 20000 in
theorem c_M_turnsBy {G : Gl} {L : Shp} (hL : Ext L) (S : Sto) (x1 : Int32) (x2 : Int32) (x3 : Int32) (x4 : Int32) (x5 : Int32) (x6 : Int32)  : Ct Y_M_turnsBy G [rf G 104, .int x1, .int x2, .int x3, .int x4, .int x5, .int x6] L S (fi L) (r_M_turnsBy x1 x2 x3 x4 x5 x6 S) := by
  refine ct_of (by decide +kernel) (Nat.le_of_ble_eq_true rfl) (fun g C => ?_)
  show VO g Y_M_turnsBy G (fun z => Qm g Y_M_turnsBy G (fi L z)) 0 0 0 [(0, rf G 104), (1, .int x1), (2, .int x2), (3, .int x3), (4, .int x4), (5, .int x5), (6, .int x6)] [] L S (r_M_turnsBy x1 x2 x3 x4 x5 x6 S) some
  unfold r_M_turnsBy
  refine v_aload_n (pc := 0) C d_M_turnsBy_0 rfl 0 rfl ?_
  refine v_iload_n (pc := 1) C d_M_turnsBy_1 rfl 3 rfl ?_
  refine v_iload (pc := 2) C d_M_turnsBy_2 4 rfl ?_
  refine v_iload (pc := 4) C d_M_turnsBy_4 5 rfl ?_
  refine v_iload (pc := 6) C d_M_turnsBy_6 6 rfl ?_
  refine v_iload_n (pc := 8) C d_M_turnsBy_8 rfl 2 rfl ?_
  refine v_cv (pc := 9) (inv_V (As := [.int x3, .int x4, .int x5, .int x6, .int x2]) (st := []) C ml_M_235 mv_M_hears ro_M_turnsBy_M_hears (sh_104 hL) rfl rfl rfl rfl (Nat.le_of_ble_eq_true rfl) d_M_turnsBy_9) (c_M_hears hL S x3 x4 x5 x6 x2) ⟨rfl, rfl⟩ ⟨Nat.zero_le _, Nat.zero_le _⟩ (fun S1 => ?_)
  refine v_aload_n (pc := 12) C d_M_turnsBy_12 rfl 0 rfl ?_
  refine v_cp (pc := 13) (inv_V (As := []) (st := []) C ml_M_362 mv_M_loudestBack ro_M_turnsBy_M_loudestBack (sh_104 hL) rfl rfl rfl rfl (Nat.le_of_ble_eq_true rfl) d_M_turnsBy_13) (c_M_loudestBack hL S1) ⟨rfl, rfl⟩ ⟨Nat.zero_le _, Nat.zero_le _⟩ (fun r2 => ?_)
  refine v_istore (pc := 16) (lv' := [(7, .int r2), (0, rf G 104), (1, .int x1), (2, .int x2), (3, .int x3), (4, .int x4), (5, .int x5), (6, .int x6)]) C d_M_turnsBy_16 (by decide) rfl ?_
  refine v_aload_n (pc := 18) C d_M_turnsBy_18 rfl 1 rfl ?_
  refine v_getR (pc := 19) C fl_M_87 (sh_104 hL) rfl d_M_turnsBy_19 ?_
  refine v_iconst (pc := 22) C d_M_turnsBy_22 ic_0 ?_
  refine v_aload_n (pc := 23) C d_M_turnsBy_23 rfl 1 rfl ?_
  refine v_getI (pc := 24) C fl_M_224 (sh_104 hL) rfl d_M_turnsBy_24 ?_
  refine v_iast (pc := 27) C (sh_127 hL) d_M_turnsBy_27 (fun _ S3 => ?_)
  refine v_aload_n (pc := 28) C d_M_turnsBy_28 rfl 1 rfl ?_
  refine v_getR (pc := 29) C fl_M_87 (sh_104 hL) rfl d_M_turnsBy_29 ?_
  refine v_iconst (pc := 32) C d_M_turnsBy_32 ic_1 ?_
  refine v_aload_n (pc := 33) C d_M_turnsBy_33 rfl 1 rfl ?_
  refine v_getI (pc := 34) C fl_M_212 (sh_104 hL) rfl d_M_turnsBy_34 ?_
  refine v_iast (pc := 37) C (sh_127 hL) d_M_turnsBy_37 (fun _ S4 => ?_)
  refine v_aload_n (pc := 38) C d_M_turnsBy_38 rfl 1 rfl ?_
  refine v_getR (pc := 39) C fl_M_87 (sh_104 hL) rfl d_M_turnsBy_39 ?_
  refine v_iconst (pc := 42) C d_M_turnsBy_42 ic_2 ?_
  refine v_iload (pc := 43) C d_M_turnsBy_43 0 rfl ?_
  refine v_iconst (pc := 45) C d_M_turnsBy_45 ic_m1 ?_
  refine v_jn (fun j => ∀ (v5 : Int32), VO g Y_M_turnsBy G (fun z => Qm g Y_M_turnsBy G (fi L z)) 0 0 60 [(0, rf G 104), (1, .int x1), (2, .int x2), (3, .int x3), (7, .int r2)] [.int v5, .int 2, rf G 127] L S4 (j (v5)) some) (fun v5 => ?_) (fun j60 hj60 => ?_)
  · refine v_iast (pc := 60) C (sh_127 hL) d_M_turnsBy_60 (fun _ S6 => ?_)
    refine v_aload_n (pc := 61) C d_M_turnsBy_61 rfl 0 rfl ?_
    refine v_getR (pc := 62) C fl_M_87 (sh_104 hL) rfl d_M_turnsBy_62 ?_
    refine v_iconst (pc := 65) C d_M_turnsBy_65 ic_3 ?_
    refine v_aload_n (pc := 66) C d_M_turnsBy_66 rfl 0 rfl ?_
    refine v_getI (pc := 67) C fl_M_206 (sh_104 hL) rfl d_M_turnsBy_67 ?_
    refine v_iconst (pc := 70) C d_M_turnsBy_70 ic_m1 ?_
    refine v_jn (fun j => ∀ (v7 : Int32), VO g Y_M_turnsBy G (fun z => Qm g Y_M_turnsBy G (fi L z)) 0 0 87 [(0, rf G 104), (1, .int x1), (2, .int x2), (3, .int x3), (7, .int r2)] [.int v7, .int 3, rf G 127] L S6 (j (v7)) some) (fun v7 => ?_) (fun j87 hj87 => ?_)
    · refine v_iast (pc := 87) C (sh_127 hL) d_M_turnsBy_87 (fun _ S8 => ?_)
      refine v_aload_n (pc := 88) C d_M_turnsBy_88 rfl 0 rfl ?_
      refine v_getR (pc := 89) C fl_M_87 (sh_104 hL) rfl d_M_turnsBy_89 ?_
      refine v_iconst (pc := 92) C d_M_turnsBy_92 ic_4 ?_
      refine v_aload_n (pc := 93) C d_M_turnsBy_93 rfl 0 rfl ?_
      refine v_getI (pc := 94) C fl_M_218 (sh_104 hL) rfl d_M_turnsBy_94 ?_
      refine v_iast (pc := 97) C (sh_127 hL) d_M_turnsBy_97 (fun _ S9 => ?_)
      refine v_aload_n (pc := 98) C d_M_turnsBy_98 rfl 0 rfl ?_
      refine v_getR (pc := 99) C fl_M_87 (sh_104 hL) rfl d_M_turnsBy_99 ?_
      refine v_iconst (pc := 102) C d_M_turnsBy_102 ic_5 ?_
      refine v_aload_n (pc := 103) C d_M_turnsBy_103 rfl 0 rfl ?_
      refine v_iload_n (pc := 104) C d_M_turnsBy_104 rfl 3 rfl ?_
      refine v_iload_n (pc := 105) C d_M_turnsBy_105 rfl 2 rfl ?_
      refine v_cp (pc := 106) (inv_V (As := [.int x3, .int x2]) (st := [.int 5, rf G 127]) C ml_M_187 mv_M_apartOf ro_M_turnsBy_M_apartOf (sh_104 hL) rfl rfl rfl rfl (Nat.le_of_ble_eq_true rfl) d_M_turnsBy_106) (c_M_apartOf hL S9 x3 x2) ⟨rfl, rfl⟩ ⟨Nat.zero_le _, Nat.zero_le _⟩ (fun r10 => ?_)
      refine v_iast (pc := 109) C (sh_127 hL) d_M_turnsBy_109 (fun _ S11 => ?_)
      refine v_aload_n (pc := 110) C d_M_turnsBy_110 rfl 0 rfl ?_
      refine v_iload_n (pc := 111) C d_M_turnsBy_111 rfl 1 rfl ?_
      refine v_ci (pc := 112) (inv_V (As := [.int x1]) (st := []) C ml_M_365 mv_M_firstSo ro_M_turnsBy_M_firstSo (sh_104 hL) rfl rfl rfl rfl (Nat.le_of_ble_eq_true rfl) d_M_turnsBy_112) (c_M_firstSo hL S11 x1) ⟨rfl, rfl⟩ ⟨Nat.zero_le _, Nat.zero_le _⟩ (fun r12 S13 => ?_)
      refine v_istore (pc := 115) (lv' := [(8, .int r12), (0, rf G 104), (1, .int x1), (2, .int x2), (3, .int x3), (7, .int r2)]) C d_M_turnsBy_115 (by decide) rfl ?_
      refine v_iload (pc := 117) C d_M_turnsBy_117 0 rfl ?_
      refine v_iconst (pc := 119) C d_M_turnsBy_119 ic_1 ?_
      refine v_icmp_ne (pc := 120) (tgt := 130) C d_M_turnsBy_120 rfl (fun _ => ?_) (fun _ => ?_)
      · refine v_iload (pc := 130) C d_M_turnsBy_130 0 rfl ?_
        refine v_iconst (pc := 132) C d_M_turnsBy_132 ic_2 ?_
        refine v_icmp_ne (pc := 133) (tgt := 158) C d_M_turnsBy_133 rfl (fun _ => ?_) (fun _ => ?_)
        · refine v_iload (pc := 158) C d_M_turnsBy_158 0 rfl ?_
          refine v_iconst (pc := 160) C d_M_turnsBy_160 ic_3 ?_
          refine v_icmp_ne (pc := 161) (tgt := 185) C d_M_turnsBy_161 rfl (fun _ => ?_) (fun _ => ?_)
          · refine v_iconst (pc := 185) C d_M_turnsBy_185 ic_m1 ?_
            exact v_iret (z := ((-1), S13)) C d_M_turnsBy_186 rfl ⟨Nat.zero_le _, Nat.zero_le _⟩ (rfl) rfl
          · refine v_iload (pc := 164) C d_M_turnsBy_164 5 rfl ?_
            refine v_iconst (pc := 166) C d_M_turnsBy_166 ic_m1 ?_
            refine v_icmp_eq (pc := 167) (tgt := 185) C d_M_turnsBy_167 rfl (fun _ => ?_) (fun _ => ?_)
            · refine v_iconst (pc := 185) C d_M_turnsBy_185 ic_m1 ?_
              exact v_iret (z := ((-1), S13)) C d_M_turnsBy_186 rfl ⟨Nat.zero_le _, Nat.zero_le _⟩ (rfl) rfl
            · refine v_aload_n (pc := 170) C d_M_turnsBy_170 rfl 1 rfl ?_
              refine v_aload_n (pc := 171) C d_M_turnsBy_171 rfl 1 rfl ?_
              refine v_getR (pc := 172) C fl_M_54 (sh_104 hL) rfl d_M_turnsBy_172 ?_
              refine v_iload (pc := 175) C d_M_turnsBy_175 5 rfl ?_
              refine v_iald (pc := 177) C (sh_117 hL) d_M_turnsBy_177 (fun _ => ?_)
              refine v_iload_n (pc := 178) C d_M_turnsBy_178 rfl 3 rfl ?_
              refine v_cp (pc := 179) (inv_V (As := [.int (S13 117 r2.toNatClampNeg), .int x2]) (st := []) C ml_M_193 mv_M_sectorOf ro_M_turnsBy_M_sectorOf (sh_104 hL) rfl rfl rfl rfl (Nat.le_of_ble_eq_true rfl) d_M_turnsBy_179) (c_M_sectorOf hL S13 (S13 117 r2.toNatClampNeg) x2) ⟨rfl, rfl⟩ ⟨Nat.zero_le _, Nat.zero_le _⟩ (fun r14 => ?_)
              refine v_goto (pc := 182) (tgt := 186) C d_M_turnsBy_182 rfl ?_
              exact v_iret (z := (r14, S13)) C d_M_turnsBy_186 rfl ⟨Nat.zero_le _, Nat.zero_le _⟩ (rfl) rfl
        · refine v_aload_n (pc := 136) C d_M_turnsBy_136 rfl 1 rfl ?_
          refine v_getI (pc := 137) C fl_M_206 (sh_104 hL) rfl d_M_turnsBy_137 ?_
          refine v_iconst (pc := 140) C d_M_turnsBy_140 ic_m1 ?_
          refine v_icmp_ne (pc := 141) (tgt := 148) C d_M_turnsBy_141 rfl (fun _ => ?_) (fun _ => ?_)
          · refine v_aload_n (pc := 148) C d_M_turnsBy_148 rfl 1 rfl ?_
            refine v_aload_n (pc := 149) C d_M_turnsBy_149 rfl 1 rfl ?_
            refine v_getI (pc := 150) C fl_M_209 (sh_104 hL) rfl d_M_turnsBy_150 ?_
            refine v_iload_n (pc := 153) C d_M_turnsBy_153 rfl 3 rfl ?_
            refine v_cp (pc := 154) (inv_V (As := [.int (S13 104 20), .int x2]) (st := []) C ml_M_193 mv_M_sectorOf ro_M_turnsBy_M_sectorOf (sh_104 hL) rfl rfl rfl rfl (Nat.le_of_ble_eq_true rfl) d_M_turnsBy_154) (c_M_sectorOf hL S13 (S13 104 20) x2) ⟨rfl, rfl⟩ ⟨Nat.zero_le _, Nat.zero_le _⟩ (fun r15 => ?_)
            exact v_iret (z := (r15, S13)) C d_M_turnsBy_157 rfl ⟨Nat.zero_le _, Nat.zero_le _⟩ (rfl) rfl
          · refine v_iconst (pc := 144) C d_M_turnsBy_144 ic_m1 ?_
            refine v_goto (pc := 145) (tgt := 157) C d_M_turnsBy_145 rfl ?_
            exact v_iret (z := ((-1), S13)) C d_M_turnsBy_157 rfl ⟨Nat.zero_le _, Nat.zero_le _⟩ (rfl) rfl
      · refine v_aload_n (pc := 123) C d_M_turnsBy_123 rfl 1 rfl ?_
        refine v_iload_n (pc := 124) C d_M_turnsBy_124 rfl 4 rfl ?_
        refine v_iload_n (pc := 125) C d_M_turnsBy_125 rfl 3 rfl ?_
        refine v_cp (pc := 126) (inv_V (As := [.int x3, .int x2]) (st := []) C ml_M_193 mv_M_sectorOf ro_M_turnsBy_M_sectorOf (sh_104 hL) rfl rfl rfl rfl (Nat.le_of_ble_eq_true rfl) d_M_turnsBy_126) (c_M_sectorOf hL S13 x3 x2) ⟨rfl, rfl⟩ ⟨Nat.zero_le _, Nat.zero_le _⟩ (fun r16 => ?_)
        exact v_iret (z := (r16, S13)) C d_M_turnsBy_129 rfl ⟨Nat.zero_le _, Nat.zero_le _⟩ (rfl) rfl
    · refine v_icmp_ne (pc := 71) (tgt := 78) C d_M_turnsBy_71 rfl (fun _ => ?_) (fun _ => ?_)
      · refine v_aload_n (pc := 78) C d_M_turnsBy_78 rfl 0 rfl ?_
        refine v_getI (pc := 79) C fl_M_221 (sh_104 hL) rfl d_M_turnsBy_79 ?_
        refine v_aload_n (pc := 82) C d_M_turnsBy_82 rfl 0 rfl ?_
        refine v_getI (pc := 83) C fl_M_206 (sh_104 hL) rfl d_M_turnsBy_83 ?_
        refine v_isub (pc := 86) C d_M_turnsBy_86 ?_
        exact hj87 ((S6 104 17) - (S6 104 19))
      · refine v_iconst (pc := 74) C d_M_turnsBy_74 ic_0 ?_
        refine v_goto (pc := 75) (tgt := 87) C d_M_turnsBy_75 rfl ?_
        exact hj87 0
  · refine v_icmp_ne (pc := 46) (tgt := 53) C d_M_turnsBy_46 rfl (fun _ => ?_) (fun _ => ?_)
    · refine v_aload_n (pc := 53) C d_M_turnsBy_53 rfl 1 rfl ?_
      refine v_getR (pc := 54) C fl_M_51 (sh_104 hL) rfl d_M_turnsBy_54 ?_
      refine v_iload (pc := 57) C d_M_turnsBy_57 0 rfl ?_
      refine v_iald (pc := 59) C (sh_116 hL) d_M_turnsBy_59 (fun _ => ?_)
      refine v_sub [1, 2, 3, 4, 0] rfl ?_
      exact hj60 (S4 116 r2.toNatClampNeg)
    · refine v_iconst (pc := 49) C d_M_turnsBy_49 ic_0 ?_
      refine v_goto (pc := 50) (tgt := 60) C d_M_turnsBy_50 rfl ?_
      refine v_sub [1, 2, 3, 4, 0] rfl ?_
      exact hj60 0
-- M_turnsOf
theorem d_M_turnsOf_0 : decode (mB Y_M_turnsOf) 0 = .ok (.aload_n 0, 1) := by decide +kernel
theorem d_M_turnsOf_1 : decode (mB Y_M_turnsOf) 1 = .ok (.iload_n 1, 1) := by decide +kernel
theorem d_M_turnsOf_2 : decode (mB Y_M_turnsOf) 2 = .ok (.aload_n 0, 1) := by decide +kernel
theorem d_M_turnsOf_3 : decode (mB Y_M_turnsOf) 3 = .ok (.getfield 93, 3) := by decide +kernel
theorem d_M_turnsOf_6 : decode (mB Y_M_turnsOf) 6 = .ok (.iload_n 2, 1) := by decide +kernel
theorem d_M_turnsOf_7 : decode (mB Y_M_turnsOf) 7 = .ok (.iaload, 1) := by decide +kernel
theorem d_M_turnsOf_8 : decode (mB Y_M_turnsOf) 8 = .ok (.aload_n 0, 1) := by decide +kernel
theorem d_M_turnsOf_9 : decode (mB Y_M_turnsOf) 9 = .ok (.getfield 36, 3) := by decide +kernel
theorem d_M_turnsOf_12 : decode (mB Y_M_turnsOf) 12 = .ok (.iload_n 3, 1) := by decide +kernel
theorem d_M_turnsOf_13 : decode (mB Y_M_turnsOf) 13 = .ok (.iaload, 1) := by decide +kernel
theorem d_M_turnsOf_14 : decode (mB Y_M_turnsOf) 14 = .ok (.aload_n 0, 1) := by decide +kernel
theorem d_M_turnsOf_15 : decode (mB Y_M_turnsOf) 15 = .ok (.getfield 39, 3) := by decide +kernel
theorem d_M_turnsOf_18 : decode (mB Y_M_turnsOf) 18 = .ok (.iload_n 3, 1) := by decide +kernel
theorem d_M_turnsOf_19 : decode (mB Y_M_turnsOf) 19 = .ok (.iaload, 1) := by decide +kernel
theorem d_M_turnsOf_20 : decode (mB Y_M_turnsOf) 20 = .ok (.aload_n 0, 1) := by decide +kernel
theorem d_M_turnsOf_21 : decode (mB Y_M_turnsOf) 21 = .ok (.getfield 42, 3) := by decide +kernel
theorem d_M_turnsOf_24 : decode (mB Y_M_turnsOf) 24 = .ok (.iload_n 3, 1) := by decide +kernel
theorem d_M_turnsOf_25 : decode (mB Y_M_turnsOf) 25 = .ok (.iaload, 1) := by decide +kernel
theorem d_M_turnsOf_26 : decode (mB Y_M_turnsOf) 26 = .ok (.aload_n 0, 1) := by decide +kernel
theorem d_M_turnsOf_27 : decode (mB Y_M_turnsOf) 27 = .ok (.getfield 45, 3) := by decide +kernel
theorem d_M_turnsOf_30 : decode (mB Y_M_turnsOf) 30 = .ok (.iload_n 3, 1) := by decide +kernel
theorem d_M_turnsOf_31 : decode (mB Y_M_turnsOf) 31 = .ok (.iaload, 1) := by decide +kernel
theorem d_M_turnsOf_32 : decode (mB Y_M_turnsOf) 32 = .ok (.invokevirtual 368, 3) := by decide +kernel
theorem d_M_turnsOf_35 : decode (mB Y_M_turnsOf) 35 = .ok (.ireturn, 1) := by decide +kernel
theorem ro_M_turnsOf_M_turnsBy : roomy Y_M_turnsOf Y_M_turnsBy := ⟨Nat.le_of_ble_eq_true rfl, Nat.le_of_ble_eq_true rfl⟩
def r_M_turnsOf (x1 : Int32) (x2 : Int32) (x3 : Int32) (S : Sto) : Option (Int32 × Sto) :=
  chk (inr x2 20) (
  chk (inr x3 10) (
  chk (inr x3 10) (
  chk (inr x3 10) (
  chk (inr x3 10) (
  (r_M_turnsBy x1 (S 129 x2.toNatClampNeg) (S 111 x3.toNatClampNeg) (S 112 x3.toNatClampNeg) (S 113 x3.toNatClampNeg) (S 114 x3.toNatClampNeg) S).bind (fun (r1, S2) =>
  some (r1, S2)))))))
set_option maxHeartbeats 4000000 in
set_option maxRecDepth 20000 in
theorem c_M_turnsOf {G : Gl} {L : Shp} (hL : Ext L) (S : Sto) (x1 : Int32) (x2 : Int32) (x3 : Int32)  : Ct Y_M_turnsOf G [rf G 104, .int x1, .int x2, .int x3] L S (fi L) (r_M_turnsOf x1 x2 x3 S) := by
  refine ct_of (by decide +kernel) (Nat.le_of_ble_eq_true rfl) (fun g C => ?_)
  show VO g Y_M_turnsOf G (fun z => Qm g Y_M_turnsOf G (fi L z)) 0 0 0 [(0, rf G 104), (1, .int x1), (2, .int x2), (3, .int x3)] [] L S (r_M_turnsOf x1 x2 x3 S) some
  unfold r_M_turnsOf
  refine v_aload_n (pc := 0) C d_M_turnsOf_0 rfl 0 rfl ?_
  refine v_iload_n (pc := 1) C d_M_turnsOf_1 rfl 1 rfl ?_
  refine v_aload_n (pc := 2) C d_M_turnsOf_2 rfl 0 rfl ?_
  refine v_getR (pc := 3) C fl_M_93 (sh_104 hL) rfl d_M_turnsOf_3 ?_
  refine v_iload_n (pc := 6) C d_M_turnsOf_6 rfl 2 rfl ?_
  refine v_iald (pc := 7) C (sh_129 hL) d_M_turnsOf_7 (fun _ => ?_)
  refine v_aload_n (pc := 8) C d_M_turnsOf_8 rfl 0 rfl ?_
  refine v_getR (pc := 9) C fl_M_36 (sh_104 hL) rfl d_M_turnsOf_9 ?_
  refine v_iload_n (pc := 12) C d_M_turnsOf_12 rfl 3 rfl ?_
  refine v_iald (pc := 13) C (sh_111 hL) d_M_turnsOf_13 (fun _ => ?_)
  refine v_aload_n (pc := 14) C d_M_turnsOf_14 rfl 0 rfl ?_
  refine v_getR (pc := 15) C fl_M_39 (sh_104 hL) rfl d_M_turnsOf_15 ?_
  refine v_iload_n (pc := 18) C d_M_turnsOf_18 rfl 3 rfl ?_
  refine v_iald (pc := 19) C (sh_112 hL) d_M_turnsOf_19 (fun _ => ?_)
  refine v_aload_n (pc := 20) C d_M_turnsOf_20 rfl 0 rfl ?_
  refine v_getR (pc := 21) C fl_M_42 (sh_104 hL) rfl d_M_turnsOf_21 ?_
  refine v_iload_n (pc := 24) C d_M_turnsOf_24 rfl 3 rfl ?_
  refine v_iald (pc := 25) C (sh_113 hL) d_M_turnsOf_25 (fun _ => ?_)
  refine v_aload_n (pc := 26) C d_M_turnsOf_26 rfl 0 rfl ?_
  refine v_getR (pc := 27) C fl_M_45 (sh_104 hL) rfl d_M_turnsOf_27 ?_
  refine v_iload_n (pc := 30) C d_M_turnsOf_30 rfl 3 rfl ?_
  refine v_iald (pc := 31) C (sh_114 hL) d_M_turnsOf_31 (fun _ => ?_)
  refine v_ci (pc := 32) (inv_V (As := [.int x1, .int (S 129 x2.toNatClampNeg), .int (S 111 x3.toNatClampNeg), .int (S 112 x3.toNatClampNeg), .int (S 113 x3.toNatClampNeg), .int (S 114 x3.toNatClampNeg)]) (st := []) C ml_M_368 mv_M_turnsBy ro_M_turnsOf_M_turnsBy (sh_104 hL) rfl rfl rfl rfl (Nat.le_of_ble_eq_true rfl) d_M_turnsOf_32) (c_M_turnsBy hL S x1 (S 129 x2.toNatClampNeg) (S 111 x3.toNatClampNeg) (S 112 x3.toNatClampNeg) (S 113 x3.toNatClampNeg) (S 114 x3.toNatClampNeg)) ⟨rfl, rfl⟩ ⟨Nat.zero_le _, Nat.zero_le _⟩ (fun r1 S2 => ?_)
  exact v_iret (z := (r1, S2)) C d_M_turnsOf_35 rfl ⟨Nat.zero_le _, Nat.zero_le _⟩ (rfl) rfl
-- M_turning
theorem d_M_turning_0 : decode (mB Y_M_turning) 0 = .ok (.aload_n 0, 1) := by decide +kernel
theorem d_M_turning_1 : decode (mB Y_M_turning) 1 = .ok (.iconst 0, 1) := by decide +kernel
theorem d_M_turning_2 : decode (mB Y_M_turning) 2 = .ok (.putfield 150, 3) := by decide +kernel
theorem d_M_turning_5 : decode (mB Y_M_turning) 5 = .ok (.aload_n 0, 1) := by decide +kernel
theorem d_M_turning_6 : decode (mB Y_M_turning) 6 = .ok (.iload_n 1, 1) := by decide +kernel
theorem d_M_turning_7 : decode (mB Y_M_turning) 7 = .ok (.invokevirtual 372, 3) := by decide +kernel
theorem d_M_turning_10 : decode (mB Y_M_turning) 10 = .ok (.ifCond .eq 36, 3) := by decide +kernel
theorem d_M_turning_13 : decode (mB Y_M_turning) 13 = .ok (.aload_n 0, 1) := by decide +kernel
theorem d_M_turning_14 : decode (mB Y_M_turning) 14 = .ok (.iload_n 2, 1) := by decide +kernel
theorem d_M_turning_15 : decode (mB Y_M_turning) 15 = .ok (.iconst 0, 1) := by decide +kernel
theorem d_M_turning_16 : decode (mB Y_M_turning) 16 = .ok (.aload_n 0, 1) := by decide +kernel
theorem d_M_turning_17 : decode (mB Y_M_turning) 17 = .ok (.getfield 359, 3) := by decide +kernel
theorem d_M_turning_20 : decode (mB Y_M_turning) 20 = .ok (.iconst 1, 1) := by decide +kernel
theorem d_M_turning_21 : decode (mB Y_M_turning) 21 = .ok (.isub, 1) := by decide +kernel
theorem d_M_turning_22 : decode (mB Y_M_turning) 22 = .ok (.invokevirtual 153, 3) := by decide +kernel
theorem d_M_turning_25 : decode (mB Y_M_turning) 25 = .ok (.ifCond .eq 21, 3) := by decide +kernel
theorem d_M_turning_28 : decode (mB Y_M_turning) 28 = .ok (.aload_n 0, 1) := by decide +kernel
theorem d_M_turning_29 : decode (mB Y_M_turning) 29 = .ok (.iload_n 3, 1) := by decide +kernel
theorem d_M_turning_30 : decode (mB Y_M_turning) 30 = .ok (.invokevirtual 238, 3) := by decide +kernel
theorem d_M_turning_33 : decode (mB Y_M_turning) 33 = .ok (.ifCond .eq 13, 3) := by decide +kernel
theorem d_M_turning_36 : decode (mB Y_M_turning) 36 = .ok (.aload_n 0, 1) := by decide +kernel
theorem d_M_turning_37 : decode (mB Y_M_turning) 37 = .ok (.iload_n 1, 1) := by decide +kernel
theorem d_M_turning_38 : decode (mB Y_M_turning) 38 = .ok (.iload_n 2, 1) := by decide +kernel
theorem d_M_turning_39 : decode (mB Y_M_turning) 39 = .ok (.iload_n 3, 1) := by decide +kernel
theorem d_M_turning_40 : decode (mB Y_M_turning) 40 = .ok (.invokevirtual 375, 3) := by decide +kernel
theorem d_M_turning_43 : decode (mB Y_M_turning) 43 = .ok (.goto 4, 3) := by decide +kernel
theorem d_M_turning_46 : decode (mB Y_M_turning) 46 = .ok (.iconst (-1), 1) := by decide +kernel
theorem d_M_turning_47 : decode (mB Y_M_turning) 47 = .ok (.ireturn, 1) := by decide +kernel
theorem ro_M_turning_M_isIn : roomy Y_M_turning Y_M_isIn := ⟨Nat.le_of_ble_eq_true rfl, Nat.le_of_ble_eq_true rfl⟩
theorem ro_M_turning_M_isLaw : roomy Y_M_turning Y_M_isLaw := ⟨Nat.le_of_ble_eq_true rfl, Nat.le_of_ble_eq_true rfl⟩
theorem ro_M_turning_M_isShot : roomy Y_M_turning Y_M_isShot := ⟨Nat.le_of_ble_eq_true rfl, Nat.le_of_ble_eq_true rfl⟩
theorem ro_M_turning_M_turnsOf : roomy Y_M_turning Y_M_turnsOf := ⟨Nat.le_of_ble_eq_true rfl, Nat.le_of_ble_eq_true rfl⟩
def r_M_turning (x1 : Int32) (x2 : Int32) (x3 : Int32) (S : Sto) : Option (Int32 × Sto) :=
  ltS (sw S 104 0 0) (fun S1 =>
  if (r_M_isLaw x1) = 0 then
    some ((-1), S1)
  else
    if (r_M_isIn x2 0 ((S1 104 50) - 1)) = 0 then
      some ((-1), S1)
    else
      if (r_M_isShot x3 S1) = 0 then
        some ((-1), S1)
      else
        (r_M_turnsOf x1 x2 x3 S1).bind (fun (r2, S3) =>
        some (r2, S3)))
set_option maxHeartbeats 4000000 in
set_option maxRecDepth 20000 in
theorem c_M_turning {G : Gl} {L : Shp} (hL : Ext L) (S : Sto) (x1 : Int32) (x2 : Int32) (x3 : Int32)  : Ct Y_M_turning G [rf G 104, .int x1, .int x2, .int x3] L S (fi L) (r_M_turning x1 x2 x3 S) := by
  refine ct_of (by decide +kernel) (Nat.le_of_ble_eq_true rfl) (fun g C => ?_)
  show VO g Y_M_turning G (fun z => Qm g Y_M_turning G (fi L z)) 0 0 0 [(0, rf G 104), (1, .int x1), (2, .int x2), (3, .int x3)] [] L S (r_M_turning x1 x2 x3 S) some
  unfold r_M_turning
  refine v_aload_n (pc := 0) C d_M_turning_0 rfl 0 rfl ?_
  refine v_iconst (pc := 1) C d_M_turning_1 ic_0 ?_
  refine v_putI (pc := 2) C fp_M_150 (sh_104 hL) rfl d_M_turning_2 (fun S1 => ?_)
  refine v_aload_n (pc := 5) C d_M_turning_5 rfl 0 rfl ?_
  refine v_iload_n (pc := 6) C d_M_turning_6 rfl 1 rfl ?_
  refine v_ct (pc := 7) (inv_V (As := [.int x1]) (st := []) C ml_M_372 mv_M_isLaw ro_M_turning_M_isLaw (sh_104 hL) rfl rfl rfl rfl (Nat.le_of_ble_eq_true rfl) d_M_turning_7) (c_M_isLaw hL S1 x1) ⟨rfl, rfl⟩ ⟨Nat.zero_le _, Nat.zero_le _⟩ ?_
  refine v_if_eq (pc := 10) (tgt := 46) C d_M_turning_10 rfl (fun _ => ?_) (fun _ => ?_)
  · refine v_iconst (pc := 46) C d_M_turning_46 ic_m1 ?_
    exact v_iret (z := ((-1), S1)) C d_M_turning_47 rfl ⟨Nat.zero_le _, Nat.zero_le _⟩ (rfl) rfl
  · refine v_aload_n (pc := 13) C d_M_turning_13 rfl 0 rfl ?_
    refine v_iload_n (pc := 14) C d_M_turning_14 rfl 2 rfl ?_
    refine v_iconst (pc := 15) C d_M_turning_15 ic_0 ?_
    refine v_aload_n (pc := 16) C d_M_turning_16 rfl 0 rfl ?_
    refine v_getI (pc := 17) C fl_M_359 (sh_104 hL) rfl d_M_turning_17 ?_
    refine v_iconst (pc := 20) C d_M_turning_20 ic_1 ?_
    refine v_isub (pc := 21) C d_M_turning_21 ?_
    refine v_ct (pc := 22) (inv_V (As := [.int x2, .int 0, .int ((S1 104 50) - 1)]) (st := []) C ml_M_153 mv_M_isIn ro_M_turning_M_isIn (sh_104 hL) rfl rfl rfl rfl (Nat.le_of_ble_eq_true rfl) d_M_turning_22) (c_M_isIn hL S1 x2 0 ((S1 104 50) - 1)) ⟨rfl, rfl⟩ ⟨Nat.zero_le _, Nat.zero_le _⟩ ?_
    refine v_if_eq (pc := 25) (tgt := 46) C d_M_turning_25 rfl (fun _ => ?_) (fun _ => ?_)
    · refine v_iconst (pc := 46) C d_M_turning_46 ic_m1 ?_
      exact v_iret (z := ((-1), S1)) C d_M_turning_47 rfl ⟨Nat.zero_le _, Nat.zero_le _⟩ (rfl) rfl
    · refine v_aload_n (pc := 28) C d_M_turning_28 rfl 0 rfl ?_
      refine v_iload_n (pc := 29) C d_M_turning_29 rfl 3 rfl ?_
      refine v_ct (pc := 30) (inv_V (As := [.int x3]) (st := []) C ml_M_238 mv_M_isShot ro_M_turning_M_isShot (sh_104 hL) rfl rfl rfl rfl (Nat.le_of_ble_eq_true rfl) d_M_turning_30) (c_M_isShot hL S1 x3) ⟨rfl, rfl⟩ ⟨Nat.zero_le _, Nat.zero_le _⟩ ?_
      refine v_if_eq (pc := 33) (tgt := 46) C d_M_turning_33 rfl (fun _ => ?_) (fun _ => ?_)
      · refine v_iconst (pc := 46) C d_M_turning_46 ic_m1 ?_
        exact v_iret (z := ((-1), S1)) C d_M_turning_47 rfl ⟨Nat.zero_le _, Nat.zero_le _⟩ (rfl) rfl
      · refine v_aload_n (pc := 36) C d_M_turning_36 rfl 0 rfl ?_
        refine v_iload_n (pc := 37) C d_M_turning_37 rfl 1 rfl ?_
        refine v_iload_n (pc := 38) C d_M_turning_38 rfl 2 rfl ?_
        refine v_iload_n (pc := 39) C d_M_turning_39 rfl 3 rfl ?_
        refine v_ci (pc := 40) (inv_V (As := [.int x1, .int x2, .int x3]) (st := []) C ml_M_375 mv_M_turnsOf ro_M_turning_M_turnsOf (sh_104 hL) rfl rfl rfl rfl (Nat.le_of_ble_eq_true rfl) d_M_turning_40) (c_M_turnsOf hL S1 x1 x2 x3) ⟨rfl, rfl⟩ ⟨Nat.zero_le _, Nat.zero_le _⟩ (fun r2 S3 => ?_)
        refine v_goto (pc := 43) (tgt := 47) C d_M_turning_43 rfl ?_
        exact v_iret (z := (r2, S3)) C d_M_turning_47 rfl ⟨Nat.zero_le _, Nat.zero_le _⟩ (rfl) rfl
-- M_story
theorem d_M_story_0 : decode (mB Y_M_story) 0 = .ok (.aload_n 0, 1) := by decide +kernel
theorem d_M_story_1 : decode (mB Y_M_story) 1 = .ok (.iconst 0, 1) := by decide +kernel
theorem d_M_story_2 : decode (mB Y_M_story) 2 = .ok (.putfield 150, 3) := by decide +kernel
theorem d_M_story_5 : decode (mB Y_M_story) 5 = .ok (.aload_n 0, 1) := by decide +kernel
theorem d_M_story_6 : decode (mB Y_M_story) 6 = .ok (.iload_n 1, 1) := by decide +kernel
theorem d_M_story_7 : decode (mB Y_M_story) 7 = .ok (.iconst 0, 1) := by decide +kernel
theorem d_M_story_8 : decode (mB Y_M_story) 8 = .ok (.iconst 5, 1) := by decide +kernel
theorem d_M_story_9 : decode (mB Y_M_story) 9 = .ok (.invokevirtual 153, 3) := by decide +kernel
theorem d_M_story_12 : decode (mB Y_M_story) 12 = .ok (.ifCond .eq 20, 3) := by decide +kernel
theorem d_M_story_15 : decode (mB Y_M_story) 15 = .ok (.aload_n 0, 1) := by decide +kernel
theorem d_M_story_16 : decode (mB Y_M_story) 16 = .ok (.iload_n 2, 1) := by decide +kernel
theorem d_M_story_17 : decode (mB Y_M_story) 17 = .ok (.iconst 0, 1) := by decide +kernel
theorem d_M_story_18 : decode (mB Y_M_story) 18 = .ok (.iconst 1, 1) := by decide +kernel
theorem d_M_story_19 : decode (mB Y_M_story) 19 = .ok (.aload_n 0, 1) := by decide +kernel
theorem d_M_story_20 : decode (mB Y_M_story) 20 = .ok (.getfield 202, 3) := by decide +kernel
theorem d_M_story_23 : decode (mB Y_M_story) 23 = .ok (.ishl, 1) := by decide +kernel
theorem d_M_story_24 : decode (mB Y_M_story) 24 = .ok (.iconst 1, 1) := by decide +kernel
theorem d_M_story_25 : decode (mB Y_M_story) 25 = .ok (.isub, 1) := by decide +kernel
theorem d_M_story_26 : decode (mB Y_M_story) 26 = .ok (.invokevirtual 153, 3) := by decide +kernel
theorem d_M_story_29 : decode (mB Y_M_story) 29 = .ok (.ifCond .ne 5, 3) := by decide +kernel
theorem d_M_story_32 : decode (mB Y_M_story) 32 = .ok (.iconst 0, 1) := by decide +kernel
theorem d_M_story_33 : decode (mB Y_M_story) 33 = .ok (.ireturn, 1) := by decide +kernel
theorem d_M_story_34 : decode (mB Y_M_story) 34 = .ok (.aload_n 0, 1) := by decide +kernel
theorem d_M_story_35 : decode (mB Y_M_story) 35 = .ok (.getfield 99, 3) := by decide +kernel
theorem d_M_story_38 : decode (mB Y_M_story) 38 = .ok (.iload_n 1, 1) := by decide +kernel
theorem d_M_story_39 : decode (mB Y_M_story) 39 = .ok (.iload_n 2, 1) := by decide +kernel
theorem d_M_story_40 : decode (mB Y_M_story) 40 = .ok (.iastore, 1) := by decide +kernel
theorem d_M_story_41 : decode (mB Y_M_story) 41 = .ok (.iconst 1, 1) := by decide +kernel
theorem d_M_story_42 : decode (mB Y_M_story) 42 = .ok (.ireturn, 1) := by decide +kernel
theorem ro_M_story_M_isIn : roomy Y_M_story Y_M_isIn := ⟨Nat.le_of_ble_eq_true rfl, Nat.le_of_ble_eq_true rfl⟩
def r_M_story (x1 : Int32) (x2 : Int32) (S : Sto) : Option (Int32 × Sto) :=
  ltS (sw S 104 0 0) (fun S1 =>
  if (r_M_isIn x1 0 5) = 0 then
    some (0, S1)
  else
    if (r_M_isIn x2 0 ((1 <<< ((S1 104 12) &&& 31)) - 1)) = 0 then
      some (0, S1)
    else
      chk (inr x1 6) (
      ltS (sw S1 131 x1.toNatClampNeg x2) (fun S2 =>
      some (1, S2))))
set_option maxHeartbeats 4000000 in
set_option maxRecDepth 20000 in
theorem c_M_story {G : Gl} {L : Shp} (hL : Ext L) (S : Sto) (x1 : Int32) (x2 : Int32)  : Ct Y_M_story G [rf G 104, .int x1, .int x2] L S (fi L) (r_M_story x1 x2 S) := by
  refine ct_of (by decide +kernel) (Nat.le_of_ble_eq_true rfl) (fun g C => ?_)
  show VO g Y_M_story G (fun z => Qm g Y_M_story G (fi L z)) 0 0 0 [(0, rf G 104), (1, .int x1), (2, .int x2)] [] L S (r_M_story x1 x2 S) some
  unfold r_M_story
  refine v_aload_n (pc := 0) C d_M_story_0 rfl 0 rfl ?_
  refine v_iconst (pc := 1) C d_M_story_1 ic_0 ?_
  refine v_putI (pc := 2) C fp_M_150 (sh_104 hL) rfl d_M_story_2 (fun S1 => ?_)
  refine v_aload_n (pc := 5) C d_M_story_5 rfl 0 rfl ?_
  refine v_iload_n (pc := 6) C d_M_story_6 rfl 1 rfl ?_
  refine v_iconst (pc := 7) C d_M_story_7 ic_0 ?_
  refine v_iconst (pc := 8) C d_M_story_8 ic_5 ?_
  refine v_ct (pc := 9) (inv_V (As := [.int x1, .int 0, .int 5]) (st := []) C ml_M_153 mv_M_isIn ro_M_story_M_isIn (sh_104 hL) rfl rfl rfl rfl (Nat.le_of_ble_eq_true rfl) d_M_story_9) (c_M_isIn hL S1 x1 0 5) ⟨rfl, rfl⟩ ⟨Nat.zero_le _, Nat.zero_le _⟩ ?_
  refine v_if_eq (pc := 12) (tgt := 32) C d_M_story_12 rfl (fun _ => ?_) (fun _ => ?_)
  · refine v_iconst (pc := 32) C d_M_story_32 ic_0 ?_
    exact v_zret (z := (0, S1)) C d_M_story_33 rfl (b01_n (by decide)) ⟨Nat.zero_le _, Nat.zero_le _⟩ (rfl) rfl
  · refine v_aload_n (pc := 15) C d_M_story_15 rfl 0 rfl ?_
    refine v_iload_n (pc := 16) C d_M_story_16 rfl 2 rfl ?_
    refine v_iconst (pc := 17) C d_M_story_17 ic_0 ?_
    refine v_iconst (pc := 18) C d_M_story_18 ic_1 ?_
    refine v_aload_n (pc := 19) C d_M_story_19 rfl 0 rfl ?_
    refine v_getI (pc := 20) C fl_M_202 (sh_104 hL) rfl d_M_story_20 ?_
    refine v_ishl (pc := 23) C d_M_story_23 ?_
    refine v_iconst (pc := 24) C d_M_story_24 ic_1 ?_
    refine v_isub (pc := 25) C d_M_story_25 ?_
    refine v_ct (pc := 26) (inv_V (As := [.int x2, .int 0, .int ((1 <<< ((S1 104 12) &&& 31)) - 1)]) (st := []) C ml_M_153 mv_M_isIn ro_M_story_M_isIn (sh_104 hL) rfl rfl rfl rfl (Nat.le_of_ble_eq_true rfl) d_M_story_26) (c_M_isIn hL S1 x2 0 ((1 <<< ((S1 104 12) &&& 31)) - 1)) ⟨rfl, rfl⟩ ⟨Nat.zero_le _, Nat.zero_le _⟩ ?_
    refine v_if_ne (pc := 29) (tgt := 34) C d_M_story_29 rfl (fun _ => ?_) (fun _ => ?_)
    · refine v_aload_n (pc := 34) C d_M_story_34 rfl 0 rfl ?_
      refine v_getR (pc := 35) C fl_M_99 (sh_104 hL) rfl d_M_story_35 ?_
      refine v_iload_n (pc := 38) C d_M_story_38 rfl 1 rfl ?_
      refine v_iload_n (pc := 39) C d_M_story_39 rfl 2 rfl ?_
      refine v_iast (pc := 40) C (sh_131 hL) d_M_story_40 (fun _ S2 => ?_)
      refine v_iconst (pc := 41) C d_M_story_41 ic_1 ?_
      exact v_zret (z := (1, S2)) C d_M_story_42 rfl (b01_n (by decide)) ⟨Nat.zero_le _, Nat.zero_le _⟩ (rfl) rfl
    · refine v_iconst (pc := 32) C d_M_story_32 ic_0 ?_
      exact v_zret (z := (0, S1)) C d_M_story_33 rfl (b01_n (by decide)) ⟨Nat.zero_le _, Nat.zero_le _⟩ (rfl) rfl
