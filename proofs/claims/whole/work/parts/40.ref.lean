-- M_isIn
theorem d_M_isIn_0 : decode (mB Y_M_isIn) 0 = .ok (.iload_n 1, 1) := by decide +kernel
theorem d_M_isIn_1 : decode (mB Y_M_isIn) 1 = .ok (.iload_n 2, 1) := by decide +kernel
theorem d_M_isIn_2 : decode (mB Y_M_isIn) 2 = .ok (.if_icmp .lt 12, 3) := by decide +kernel
theorem d_M_isIn_5 : decode (mB Y_M_isIn) 5 = .ok (.iload_n 1, 1) := by decide +kernel
theorem d_M_isIn_6 : decode (mB Y_M_isIn) 6 = .ok (.iload_n 3, 1) := by decide +kernel
theorem d_M_isIn_7 : decode (mB Y_M_isIn) 7 = .ok (.if_icmp .gt 7, 3) := by decide +kernel
theorem d_M_isIn_10 : decode (mB Y_M_isIn) 10 = .ok (.iconst 1, 1) := by decide +kernel
theorem d_M_isIn_11 : decode (mB Y_M_isIn) 11 = .ok (.goto 4, 3) := by decide +kernel
theorem d_M_isIn_14 : decode (mB Y_M_isIn) 14 = .ok (.iconst 0, 1) := by decide +kernel
theorem d_M_isIn_15 : decode (mB Y_M_isIn) 15 = .ok (.ireturn, 1) := by decide +kernel
def r_M_isIn (x1 : Int32) (x2 : Int32) (x3 : Int32) : Int32 := (if x1 < x2 then 0 else (if x3 < x1 then 0 else 1))
theorem z_M_isIn (x1 : Int32) (x2 : Int32) (x3 : Int32) : b01 (r_M_isIn x1 x2 x3) = true := by
  unfold r_M_isIn
  (repeat' split) <;> first | rfl | decide | rfl
set_option maxHeartbeats 4000000 in
set_option maxRecDepth 20000 in
theorem c_M_isIn {G : Gl} {L : Shp} (hL : Ext L) (S : Sto) (x1 : Int32) (x2 : Int32) (x3 : Int32)  : Ct Y_M_isIn G [rf G 104, .int x1, .int x2, .int x3] L S (fp L S) (some (r_M_isIn x1 x2 x3)) := by
  refine ct_of (by decide +kernel) (Nat.le_of_ble_eq_true rfl) (fun g C => ?_)
  have e : (some (r_M_isIn x1 x2 x3) : Option Int32) =
      if x1 < x2 then
        some 0
      else
        if x3 < x1 then
          some 0
        else
          some 1 := by
    unfold r_M_isIn
    simp only [some_ite, lt, ltJ]
  rw [e]
  show VO g Y_M_isIn G (fun z => Qm g Y_M_isIn G (fp L S z)) 0 0 0 [(0, rf G 104), (1, .int x1), (2, .int x2), (3, .int x3)] [] L S _ some
  refine v_iload_n (pc := 0) C d_M_isIn_0 rfl 1 rfl ?_
  refine v_iload_n (pc := 1) C d_M_isIn_1 rfl 2 rfl ?_
  refine v_icmp_lt (pc := 2) (tgt := 14) C d_M_isIn_2 rfl (fun _ => ?_) (fun _ => ?_)
  · refine v_iconst (pc := 14) C d_M_isIn_14 ic_0 ?_
    exact v_zret (z := 0) C d_M_isIn_15 rfl (b01_n (by decide)) ⟨Nat.zero_le _, Nat.zero_le _⟩ (rfl) rfl
  · refine v_iload_n (pc := 5) C d_M_isIn_5 rfl 1 rfl ?_
    refine v_iload_n (pc := 6) C d_M_isIn_6 rfl 3 rfl ?_
    refine v_icmp_gt (pc := 7) (tgt := 14) C d_M_isIn_7 rfl (fun _ => ?_) (fun _ => ?_)
    · refine v_iconst (pc := 14) C d_M_isIn_14 ic_0 ?_
      exact v_zret (z := 0) C d_M_isIn_15 rfl (b01_n (by decide)) ⟨Nat.zero_le _, Nat.zero_le _⟩ (rfl) rfl
    · refine v_iconst (pc := 10) C d_M_isIn_10 ic_1 ?_
      refine v_goto (pc := 11) (tgt := 15) C d_M_isIn_11 rfl ?_
      exact v_zret (z := 1) C d_M_isIn_15 rfl (b01_n (by decide)) ⟨Nat.zero_le _, Nat.zero_le _⟩ (rfl) rfl
-- M_set
theorem d_M_set_0 : decode (mB Y_M_set) 0 = .ok (.aload_n 0, 1) := by decide +kernel
theorem d_M_set_1 : decode (mB Y_M_set) 1 = .ok (.iconst 0, 1) := by decide +kernel
theorem d_M_set_2 : decode (mB Y_M_set) 2 = .ok (.putfield 150, 3) := by decide +kernel
theorem d_M_set_5 : decode (mB Y_M_set) 5 = .ok (.iload_n 1, 1) := by decide +kernel
theorem d_M_set_6 : decode (mB Y_M_set) 6 = .ok (.ifCond .ne 7, 3) := by decide +kernel
theorem d_M_set_9 : decode (mB Y_M_set) 9 = .ok (.iconst 1, 1) := by decide +kernel
theorem d_M_set_10 : decode (mB Y_M_set) 10 = .ok (.goto 14, 3) := by decide +kernel
theorem d_M_set_13 : decode (mB Y_M_set) 13 = .ok (.iload_n 1, 1) := by decide +kernel
theorem d_M_set_14 : decode (mB Y_M_set) 14 = .ok (.iconst 3, 1) := by decide +kernel
theorem d_M_set_15 : decode (mB Y_M_set) 15 = .ok (.if_icmp .ne 7, 3) := by decide +kernel
theorem d_M_set_18 : decode (mB Y_M_set) 18 = .ok (.iconst 0, 1) := by decide +kernel
theorem d_M_set_19 : decode (mB Y_M_set) 19 = .ok (.goto 5, 3) := by decide +kernel
theorem d_M_set_22 : decode (mB Y_M_set) 22 = .ok (.bipush (-9), 2) := by decide +kernel
theorem d_M_set_24 : decode (mB Y_M_set) 24 = .ok (.istore_n 3, 1) := by decide +kernel
theorem d_M_set_25 : decode (mB Y_M_set) 25 = .ok (.aload_n 0, 1) := by decide +kernel
theorem d_M_set_26 : decode (mB Y_M_set) 26 = .ok (.iload_n 1, 1) := by decide +kernel
theorem d_M_set_27 : decode (mB Y_M_set) 27 = .ok (.iconst 0, 1) := by decide +kernel
theorem d_M_set_28 : decode (mB Y_M_set) 28 = .ok (.iconst 3, 1) := by decide +kernel
theorem d_M_set_29 : decode (mB Y_M_set) 29 = .ok (.invokevirtual 153, 3) := by decide +kernel
theorem d_M_set_32 : decode (mB Y_M_set) 32 = .ok (.ifCond .eq 24, 3) := by decide +kernel
theorem d_M_set_35 : decode (mB Y_M_set) 35 = .ok (.aload_n 0, 1) := by decide +kernel
theorem d_M_set_36 : decode (mB Y_M_set) 36 = .ok (.iload_n 2, 1) := by decide +kernel
theorem d_M_set_37 : decode (mB Y_M_set) 37 = .ok (.iload_n 3, 1) := by decide +kernel
theorem d_M_set_38 : decode (mB Y_M_set) 38 = .ok (.iload_n 1, 1) := by decide +kernel
theorem d_M_set_39 : decode (mB Y_M_set) 39 = .ok (.iconst 3, 1) := by decide +kernel
theorem d_M_set_40 : decode (mB Y_M_set) 40 = .ok (.if_icmp .ne 8, 3) := by decide +kernel
theorem d_M_set_43 : decode (mB Y_M_set) 43 = .ok (.bipush 99, 2) := by decide +kernel
theorem d_M_set_45 : decode (mB Y_M_set) 45 = .ok (.goto 5, 3) := by decide +kernel
theorem d_M_set_48 : decode (mB Y_M_set) 48 = .ok (.bipush 9, 2) := by decide +kernel
theorem d_M_set_50 : decode (mB Y_M_set) 50 = .ok (.invokevirtual 153, 3) := by decide +kernel
theorem d_M_set_53 : decode (mB Y_M_set) 53 = .ok (.ifCond .ne 5, 3) := by decide +kernel
theorem d_M_set_56 : decode (mB Y_M_set) 56 = .ok (.iconst 0, 1) := by decide +kernel
theorem d_M_set_57 : decode (mB Y_M_set) 57 = .ok (.ireturn, 1) := by decide +kernel
theorem d_M_set_58 : decode (mB Y_M_set) 58 = .ok (.iload_n 1, 1) := by decide +kernel
theorem d_M_set_59 : decode (mB Y_M_set) 59 = .ok (.ifCond .ne 11, 3) := by decide +kernel
theorem d_M_set_62 : decode (mB Y_M_set) 62 = .ok (.aload_n 0, 1) := by decide +kernel
theorem d_M_set_63 : decode (mB Y_M_set) 63 = .ok (.iload_n 2, 1) := by decide +kernel
theorem d_M_set_64 : decode (mB Y_M_set) 64 = .ok (.putfield 7, 3) := by decide +kernel
theorem d_M_set_67 : decode (mB Y_M_set) 67 = .ok (.goto 34, 3) := by decide +kernel
theorem d_M_set_70 : decode (mB Y_M_set) 70 = .ok (.iload_n 1, 1) := by decide +kernel
theorem d_M_set_71 : decode (mB Y_M_set) 71 = .ok (.iconst 1, 1) := by decide +kernel
theorem d_M_set_72 : decode (mB Y_M_set) 72 = .ok (.if_icmp .ne 11, 3) := by decide +kernel
theorem d_M_set_75 : decode (mB Y_M_set) 75 = .ok (.aload_n 0, 1) := by decide +kernel
theorem d_M_set_76 : decode (mB Y_M_set) 76 = .ok (.iload_n 2, 1) := by decide +kernel
theorem d_M_set_77 : decode (mB Y_M_set) 77 = .ok (.putfield 161, 3) := by decide +kernel
theorem d_M_set_80 : decode (mB Y_M_set) 80 = .ok (.goto 21, 3) := by decide +kernel
theorem d_M_set_83 : decode (mB Y_M_set) 83 = .ok (.iload_n 1, 1) := by decide +kernel
theorem d_M_set_84 : decode (mB Y_M_set) 84 = .ok (.iconst 2, 1) := by decide +kernel
theorem d_M_set_85 : decode (mB Y_M_set) 85 = .ok (.if_icmp .ne 11, 3) := by decide +kernel
theorem d_M_set_88 : decode (mB Y_M_set) 88 = .ok (.aload_n 0, 1) := by decide +kernel
theorem d_M_set_89 : decode (mB Y_M_set) 89 = .ok (.iload_n 2, 1) := by decide +kernel
theorem d_M_set_90 : decode (mB Y_M_set) 90 = .ok (.putfield 164, 3) := by decide +kernel
theorem d_M_set_93 : decode (mB Y_M_set) 93 = .ok (.goto 8, 3) := by decide +kernel
theorem d_M_set_96 : decode (mB Y_M_set) 96 = .ok (.aload_n 0, 1) := by decide +kernel
theorem d_M_set_97 : decode (mB Y_M_set) 97 = .ok (.iload_n 2, 1) := by decide +kernel
theorem d_M_set_98 : decode (mB Y_M_set) 98 = .ok (.putfield 13, 3) := by decide +kernel
theorem d_M_set_101 : decode (mB Y_M_set) 101 = .ok (.iconst 1, 1) := by decide +kernel
theorem d_M_set_102 : decode (mB Y_M_set) 102 = .ok (.ireturn, 1) := by decide +kernel
theorem ro_M_set_M_isIn : roomy Y_M_set Y_M_isIn := ⟨Nat.le_of_ble_eq_true rfl, Nat.le_of_ble_eq_true rfl⟩
def r_M_set (x1 : Int32) (x2 : Int32) (S : Sto) : Option (Int32 × Sto) :=
  ltS (sw S 104 0 0) (fun S1 =>
  jn (fun (v2 : Int32) =>
    if (r_M_isIn x1 0 3) = 0 then
      some (0, S1)
    else
      jn (fun (v3 : Int32) =>
        if (r_M_isIn x2 v2 v3) = 0 then
          some (0, S1)
        else
          if x1 = 0 then
            ltS (sw S1 104 1 x2) (fun S7 =>
            some (1, S7))
          else
            if x1 = 1 then
              ltS (sw S1 104 2 x2) (fun S6 =>
              some (1, S6))
            else
              if x1 = 2 then
                ltS (sw S1 104 3 x2) (fun S5 =>
                some (1, S5))
              else
                ltS (sw S1 104 4 x2) (fun S4 =>
                some (1, S4))) (fun j50 =>
      if x1 = 3 then
        j50 (99)
      else
        j50 (9))) (fun j24 =>
  if x1 = 0 then
    j24 (1)
  else
    if x1 = 3 then
      j24 (0)
    else
      j24 ((-9))))
set_option maxHeartbeats 4000000 in
set_option maxRecDepth 20000 in
theorem c_M_set {G : Gl} {L : Shp} (hL : Ext L) (S : Sto) (x1 : Int32) (x2 : Int32)  : Ct Y_M_set G [rf G 104, .int x1, .int x2] L S (fi L) (r_M_set x1 x2 S) := by
  refine ct_of (by decide +kernel) (Nat.le_of_ble_eq_true rfl) (fun g C => ?_)
  show VO g Y_M_set G (fun z => Qm g Y_M_set G (fi L z)) 0 0 0 [(0, rf G 104), (1, .int x1), (2, .int x2)] [] L S (r_M_set x1 x2 S) some
  unfold r_M_set
  refine v_aload_n (pc := 0) C d_M_set_0 rfl 0 rfl ?_
  refine v_iconst (pc := 1) C d_M_set_1 ic_0 ?_
  refine v_putI (pc := 2) C fp_M_150 (sh_104 hL) rfl d_M_set_2 (fun S1 => ?_)
  refine v_iload_n (pc := 5) C d_M_set_5 rfl 1 rfl ?_
  refine v_jn (fun j => ∀ (v2 : Int32), VO g Y_M_set G (fun z => Qm g Y_M_set G (fi L z)) 0 0 24 [(0, rf G 104), (1, .int x1), (2, .int x2)] [.int v2] L S1 (j (v2)) some) (fun v2 => ?_) (fun j24 hj24 => ?_)
  · refine v_istore_n (pc := 24) (lv' := [(3, .int v2), (0, rf G 104), (1, .int x1), (2, .int x2)]) C d_M_set_24 rfl (by decide) rfl ?_
    refine v_aload_n (pc := 25) C d_M_set_25 rfl 1 rfl ?_
    refine v_iload_n (pc := 26) C d_M_set_26 rfl 2 rfl ?_
    refine v_iconst (pc := 27) C d_M_set_27 ic_0 ?_
    refine v_iconst (pc := 28) C d_M_set_28 ic_3 ?_
    refine v_ct (pc := 29) (inv_V (As := [.int x1, .int 0, .int 3]) (st := []) C ml_M_153 mv_M_isIn ro_M_set_M_isIn (sh_104 hL) rfl rfl rfl rfl (Nat.le_of_ble_eq_true rfl) d_M_set_29) (c_M_isIn hL S1 x1 0 3) ⟨rfl, rfl⟩ ⟨Nat.zero_le _, Nat.zero_le _⟩ ?_
    refine v_if_eq (pc := 32) (tgt := 56) C d_M_set_32 rfl (fun _ => ?_) (fun _ => ?_)
    · refine v_iconst (pc := 56) C d_M_set_56 ic_0 ?_
      exact v_zret (z := (0, S1)) C d_M_set_57 rfl (b01_n (by decide)) ⟨Nat.zero_le _, Nat.zero_le _⟩ (rfl) rfl
    · refine v_aload_n (pc := 35) C d_M_set_35 rfl 1 rfl ?_
      refine v_iload_n (pc := 36) C d_M_set_36 rfl 3 rfl ?_
      refine v_iload_n (pc := 37) C d_M_set_37 rfl 0 rfl ?_
      refine v_iload_n (pc := 38) C d_M_set_38 rfl 2 rfl ?_
      refine v_iconst (pc := 39) C d_M_set_39 ic_3 ?_
      refine v_jn (fun j => ∀ (v3 : Int32), VO g Y_M_set G (fun z => Qm g Y_M_set G (fi L z)) 0 0 50 [(0, rf G 104), (1, .int x1), (2, .int x2)] [.int v3, .int v2, .int x2, rf G 104] L S1 (j (v3)) some) (fun v3 => ?_) (fun j50 hj50 => ?_)
      · refine v_ct (pc := 50) (inv_V (As := [.int x2, .int v2, .int v3]) (st := []) C ml_M_153 mv_M_isIn ro_M_set_M_isIn (sh_104 hL) rfl rfl rfl rfl (Nat.le_of_ble_eq_true rfl) d_M_set_50) (c_M_isIn hL S1 x2 v2 v3) ⟨rfl, rfl⟩ ⟨Nat.zero_le _, Nat.zero_le _⟩ ?_
        refine v_if_ne (pc := 53) (tgt := 58) C d_M_set_53 rfl (fun _ => ?_) (fun _ => ?_)
        · refine v_iload_n (pc := 58) C d_M_set_58 rfl 1 rfl ?_
          refine v_if_ne (pc := 59) (tgt := 70) C d_M_set_59 rfl (fun _ => ?_) (fun _ => ?_)
          · refine v_iload_n (pc := 70) C d_M_set_70 rfl 1 rfl ?_
            refine v_iconst (pc := 71) C d_M_set_71 ic_1 ?_
            refine v_icmp_ne (pc := 72) (tgt := 83) C d_M_set_72 rfl (fun _ => ?_) (fun _ => ?_)
            · refine v_iload_n (pc := 83) C d_M_set_83 rfl 1 rfl ?_
              refine v_iconst (pc := 84) C d_M_set_84 ic_2 ?_
              refine v_icmp_ne (pc := 85) (tgt := 96) C d_M_set_85 rfl (fun _ => ?_) (fun _ => ?_)
              · refine v_aload_n (pc := 96) C d_M_set_96 rfl 0 rfl ?_
                refine v_iload_n (pc := 97) C d_M_set_97 rfl 2 rfl ?_
                refine v_putI (pc := 98) C fp_M_13 (sh_104 hL) rfl d_M_set_98 (fun S4 => ?_)
                refine v_iconst (pc := 101) C d_M_set_101 ic_1 ?_
                exact v_zret (z := (1, S4)) C d_M_set_102 rfl (b01_n (by decide)) ⟨Nat.zero_le _, Nat.zero_le _⟩ (rfl) rfl
              · refine v_aload_n (pc := 88) C d_M_set_88 rfl 0 rfl ?_
                refine v_iload_n (pc := 89) C d_M_set_89 rfl 2 rfl ?_
                refine v_putI (pc := 90) C fp_M_164 (sh_104 hL) rfl d_M_set_90 (fun S5 => ?_)
                refine v_goto (pc := 93) (tgt := 101) C d_M_set_93 rfl ?_
                refine v_iconst (pc := 101) C d_M_set_101 ic_1 ?_
                exact v_zret (z := (1, S5)) C d_M_set_102 rfl (b01_n (by decide)) ⟨Nat.zero_le _, Nat.zero_le _⟩ (rfl) rfl
            · refine v_aload_n (pc := 75) C d_M_set_75 rfl 0 rfl ?_
              refine v_iload_n (pc := 76) C d_M_set_76 rfl 2 rfl ?_
              refine v_putI (pc := 77) C fp_M_161 (sh_104 hL) rfl d_M_set_77 (fun S6 => ?_)
              refine v_goto (pc := 80) (tgt := 101) C d_M_set_80 rfl ?_
              refine v_iconst (pc := 101) C d_M_set_101 ic_1 ?_
              exact v_zret (z := (1, S6)) C d_M_set_102 rfl (b01_n (by decide)) ⟨Nat.zero_le _, Nat.zero_le _⟩ (rfl) rfl
          · refine v_aload_n (pc := 62) C d_M_set_62 rfl 0 rfl ?_
            refine v_iload_n (pc := 63) C d_M_set_63 rfl 2 rfl ?_
            refine v_putI (pc := 64) C fp_M_7 (sh_104 hL) rfl d_M_set_64 (fun S7 => ?_)
            refine v_goto (pc := 67) (tgt := 101) C d_M_set_67 rfl ?_
            refine v_iconst (pc := 101) C d_M_set_101 ic_1 ?_
            exact v_zret (z := (1, S7)) C d_M_set_102 rfl (b01_n (by decide)) ⟨Nat.zero_le _, Nat.zero_le _⟩ (rfl) rfl
        · refine v_iconst (pc := 56) C d_M_set_56 ic_0 ?_
          exact v_zret (z := (0, S1)) C d_M_set_57 rfl (b01_n (by decide)) ⟨Nat.zero_le _, Nat.zero_le _⟩ (rfl) rfl
      · refine v_icmp_ne (pc := 40) (tgt := 48) C d_M_set_40 rfl (fun _ => ?_) (fun _ => ?_)
        · refine v_bipush (pc := 48) C d_M_set_48 bp_9 ?_
          refine v_sub [1, 2, 3] rfl ?_
          exact hj50 9
        · refine v_bipush (pc := 43) C d_M_set_43 bp_99 ?_
          refine v_goto (pc := 45) (tgt := 50) C d_M_set_45 rfl ?_
          refine v_sub [1, 2, 3] rfl ?_
          exact hj50 99
  · refine v_if_ne (pc := 6) (tgt := 13) C d_M_set_6 rfl (fun _ => ?_) (fun _ => ?_)
    · refine v_iload_n (pc := 13) C d_M_set_13 rfl 1 rfl ?_
      refine v_iconst (pc := 14) C d_M_set_14 ic_3 ?_
      refine v_icmp_ne (pc := 15) (tgt := 22) C d_M_set_15 rfl (fun _ => ?_) (fun _ => ?_)
      · refine v_bipush (pc := 22) C d_M_set_22 bp_m9 ?_
        exact hj24 (-9)
      · refine v_iconst (pc := 18) C d_M_set_18 ic_0 ?_
        refine v_goto (pc := 19) (tgt := 24) C d_M_set_19 rfl ?_
        exact hj24 0
    · refine v_iconst (pc := 9) C d_M_set_9 ic_1 ?_
      refine v_goto (pc := 10) (tgt := 24) C d_M_set_10 rfl ?_
      exact hj24 1
-- M_isCell
theorem d_M_isCell_0 : decode (mB Y_M_isCell) 0 = .ok (.aload_n 0, 1) := by decide +kernel
theorem d_M_isCell_1 : decode (mB Y_M_isCell) 1 = .ok (.iload_n 1, 1) := by decide +kernel
theorem d_M_isCell_2 : decode (mB Y_M_isCell) 2 = .ok (.iconst 0, 1) := by decide +kernel
theorem d_M_isCell_3 : decode (mB Y_M_isCell) 3 = .ok (.sipush 3599, 3) := by decide +kernel
theorem d_M_isCell_6 : decode (mB Y_M_isCell) 6 = .ok (.invokevirtual 153, 3) := by decide +kernel
theorem d_M_isCell_9 : decode (mB Y_M_isCell) 9 = .ok (.ireturn, 1) := by decide +kernel
theorem ro_M_isCell_M_isIn : roomy Y_M_isCell Y_M_isIn := ⟨Nat.le_of_ble_eq_true rfl, Nat.le_of_ble_eq_true rfl⟩
def r_M_isCell (x1 : Int32) : Int32 := (r_M_isIn x1 0 3599)
theorem z_M_isCell (x1 : Int32) : b01 (r_M_isCell x1) = true := by
  unfold r_M_isCell
  (repeat' split) <;> first | rfl | decide | exact z_M_isIn .. | rfl
set_option maxHeartbeats 4000000 in
set_option maxRecDepth 20000 in
theorem c_M_isCell {G : Gl} {L : Shp} (hL : Ext L) (S : Sto) (x1 : Int32)  : Ct Y_M_isCell G [rf G 104, .int x1] L S (fp L S) (some (r_M_isCell x1)) := by
  refine ct_of (by decide +kernel) (Nat.le_of_ble_eq_true rfl) (fun g C => ?_)
  have e : (some (r_M_isCell x1) : Option Int32) = some (r_M_isIn x1 0 3599) := rfl
  rw [e]
  show VO g Y_M_isCell G (fun z => Qm g Y_M_isCell G (fp L S z)) 0 0 0 [(0, rf G 104), (1, .int x1)] [] L S _ some
  refine v_aload_n (pc := 0) C d_M_isCell_0 rfl 0 rfl ?_
  refine v_iload_n (pc := 1) C d_M_isCell_1 rfl 1 rfl ?_
  refine v_iconst (pc := 2) C d_M_isCell_2 ic_0 ?_
  refine v_sipush (pc := 3) C d_M_isCell_3 sp_3599 ?_
  refine v_ct (pc := 6) (inv_V (As := [.int x1, .int 0, .int 3599]) (st := []) C ml_M_153 mv_M_isIn ro_M_isCell_M_isIn (sh_104 hL) rfl rfl rfl rfl (Nat.le_of_ble_eq_true rfl) d_M_isCell_6) (c_M_isIn hL S x1 0 3599) ⟨rfl, rfl⟩ ⟨Nat.zero_le _, Nat.zero_le _⟩ ?_
  exact v_zret (z := (r_M_isIn x1 0 3599)) C d_M_isCell_9 rfl (b01_n (z_M_isIn x1 0 3599)) ⟨Nat.zero_le _, Nat.zero_le _⟩ (rfl) rfl
-- M_root
theorem d_M_root_0 : decode (mB Y_M_root) 0 = .ok (.iconst 0, 1) := by decide +kernel
theorem d_M_root_1 : decode (mB Y_M_root) 1 = .ok (.istore_n 2, 1) := by decide +kernel
theorem d_M_root_2 : decode (mB Y_M_root) 2 = .ok (.sipush 512, 3) := by decide +kernel
theorem d_M_root_5 : decode (mB Y_M_root) 5 = .ok (.istore_n 3, 1) := by decide +kernel
theorem d_M_root_6 : decode (mB Y_M_root) 6 = .ok (.iload_n 3, 1) := by decide +kernel
theorem d_M_root_7 : decode (mB Y_M_root) 7 = .ok (.ifCond .le 25, 3) := by decide +kernel
theorem d_M_root_10 : decode (mB Y_M_root) 10 = .ok (.iload_n 2, 1) := by decide +kernel
theorem d_M_root_11 : decode (mB Y_M_root) 11 = .ok (.iload_n 3, 1) := by decide +kernel
theorem d_M_root_12 : decode (mB Y_M_root) 12 = .ok (.iadd, 1) := by decide +kernel
theorem d_M_root_13 : decode (mB Y_M_root) 13 = .ok (.iload_n 2, 1) := by decide +kernel
theorem d_M_root_14 : decode (mB Y_M_root) 14 = .ok (.iload_n 3, 1) := by decide +kernel
theorem d_M_root_15 : decode (mB Y_M_root) 15 = .ok (.iadd, 1) := by decide +kernel
theorem d_M_root_16 : decode (mB Y_M_root) 16 = .ok (.imul, 1) := by decide +kernel
theorem d_M_root_17 : decode (mB Y_M_root) 17 = .ok (.iload_n 1, 1) := by decide +kernel
theorem d_M_root_18 : decode (mB Y_M_root) 18 = .ok (.if_icmp .gt 7, 3) := by decide +kernel
theorem d_M_root_21 : decode (mB Y_M_root) 21 = .ok (.iload_n 2, 1) := by decide +kernel
theorem d_M_root_22 : decode (mB Y_M_root) 22 = .ok (.iload_n 3, 1) := by decide +kernel
theorem d_M_root_23 : decode (mB Y_M_root) 23 = .ok (.iadd, 1) := by decide +kernel
theorem d_M_root_24 : decode (mB Y_M_root) 24 = .ok (.istore_n 2, 1) := by decide +kernel
theorem d_M_root_25 : decode (mB Y_M_root) 25 = .ok (.iload_n 3, 1) := by decide +kernel
theorem d_M_root_26 : decode (mB Y_M_root) 26 = .ok (.iconst 2, 1) := by decide +kernel
theorem d_M_root_27 : decode (mB Y_M_root) 27 = .ok (.idiv, 1) := by decide +kernel
theorem d_M_root_28 : decode (mB Y_M_root) 28 = .ok (.istore_n 3, 1) := by decide +kernel
theorem d_M_root_29 : decode (mB Y_M_root) 29 = .ok (.goto (-23), 3) := by decide +kernel
theorem d_M_root_32 : decode (mB Y_M_root) 32 = .ok (.iload_n 2, 1) := by decide +kernel
theorem d_M_root_33 : decode (mB Y_M_root) 33 = .ok (.ireturn, 1) := by decide +kernel
def r_M_root_L6 (y1_ : Int32) : Nat → Int32 → Int32 → Option (Int32 × Int32)
  | 0, _, _ => none
  | n + 1, x2_, x3_ =>
    if x3_ ≤ 0 then
      some (x2_, x3_)
    else
      jn (fun (v1 : Int32) =>
        lt (x3_ / 2) (fun v2 =>
        r_M_root_L6 y1_ n v1 v2)) (fun j25 =>
      if y1_ < ((x2_ + x3_) * (x2_ + x3_)) then
        j25 (x2_)
      else
        lt (x2_ + x3_) (fun v3 =>
        j25 (v3)))
set_option maxHeartbeats 4000000 in
set_option maxRecDepth 20000 in
theorem w_M_root_L6 {g : Gm} {G : Gl} {L : Shp} (C : Cx g Y_M_root G) (hL : Ext L) (S : Sto) (y1_ : Int32)  :
    ∀ (n : Nat) (x2_ : Int32) (x3_ : Int32) (K : (Int32 × Int32) → Option Int32), (∀ (x2_ : Int32) (x3_ : Int32), VO g Y_M_root G (fun z => Qm g Y_M_root G (fp L S z)) 0 0 32 [(2, .int x2_)] [] L S (some (x2_, x3_)) K) → VO g Y_M_root G (fun z => Qm g Y_M_root G (fp L S z)) 0 0 6 [(1, .int y1_), (2, .int x2_), (3, .int x3_)] [] L S (r_M_root_L6 y1_ n x2_ x3_) K := by
  intro n
  induction n with
  | zero => intro x2_ x3_ K; intros; exact v_none
  | succ n ih =>
    intro x2_ x3_ K hK
    rw [r_M_root_L6]
    refine v_iload_n (pc := 6) C d_M_root_6 rfl 2 rfl ?_
    refine v_if_le (pc := 7) (tgt := 32) C d_M_root_7 rfl (fun _ => ?_) (fun _ => ?_)
    · refine v_sub [1] rfl ?_
      exact hK x2_ x3_
    · refine v_iload_n (pc := 10) C d_M_root_10 rfl 1 rfl ?_
      refine v_iload_n (pc := 11) C d_M_root_11 rfl 2 rfl ?_
      refine v_iadd (pc := 12) C d_M_root_12 ?_
      refine v_iload_n (pc := 13) C d_M_root_13 rfl 1 rfl ?_
      refine v_iload_n (pc := 14) C d_M_root_14 rfl 2 rfl ?_
      refine v_iadd (pc := 15) C d_M_root_15 ?_
      refine v_imul (pc := 16) C d_M_root_16 ?_
      refine v_iload_n (pc := 17) C d_M_root_17 rfl 0 rfl ?_
      refine v_jn (fun j => ∀ (v1 : Int32), VO g Y_M_root G (fun z => Qm g Y_M_root G (fp L S z)) 0 0 25 [(1, .int y1_), (2, .int v1), (3, .int x3_)] [] L S (j (v1)) K) (fun v1 => ?_) (fun j25 hj25 => ?_)
      · refine v_iload_n (pc := 25) C d_M_root_25 rfl 2 rfl ?_
        refine v_iconst (pc := 26) C d_M_root_26 ic_2 ?_
        refine v_idiv (pc := 27) C d_M_root_27 (by decide) ?_
        refine v_lt (fun v2 => ?_)
        refine v_istore_n (pc := 28) (lv' := [(3, .int v2), (1, .int y1_), (2, .int v1)]) C d_M_root_28 rfl (by decide) rfl ?_
        refine v_goto (pc := 29) (tgt := 6) C d_M_root_29 rfl ?_
        refine v_sub [1, 2, 0] rfl ?_
        exact ih v1 v2 K hK
      · refine v_icmp_gt (pc := 18) (tgt := 25) C d_M_root_18 rfl (fun _ => ?_) (fun _ => ?_)
        · exact hj25 x2_
        · refine v_iload_n (pc := 21) C d_M_root_21 rfl 1 rfl ?_
          refine v_iload_n (pc := 22) C d_M_root_22 rfl 2 rfl ?_
          refine v_iadd (pc := 23) C d_M_root_23 ?_
          refine v_lt (fun v3 => ?_)
          refine v_istore_n (pc := 24) (lv' := [(2, .int v3), (1, .int y1_), (3, .int x3_)]) C d_M_root_24 rfl (by decide) rfl ?_
          refine v_sub [1, 0, 2] rfl ?_
          exact hj25 v3
def r_M_root (x1 : Int32) : Option Int32 :=
  (r_M_root_L6 x1 fu 0 512).bind (fun (v1, v2) =>
  some v1)
set_option maxHeartbeats 4000000 in
set_option maxRecDepth 20000 in
theorem c_M_root {G : Gl} {L : Shp} (hL : Ext L) (S : Sto) (x1 : Int32)  : Ct Y_M_root G [rf G 104, .int x1] L S (fp L S) (r_M_root x1) := by
  refine ct_of (by decide +kernel) (Nat.le_of_ble_eq_true rfl) (fun g C => ?_)
  show VO g Y_M_root G (fun z => Qm g Y_M_root G (fp L S z)) 0 0 0 [(0, rf G 104), (1, .int x1)] [] L S (r_M_root x1) some
  unfold r_M_root
  refine v_iconst (pc := 0) C d_M_root_0 ic_0 ?_
  refine v_istore_n (pc := 1) (lv' := [(2, .int 0), (0, rf G 104), (1, .int x1)]) C d_M_root_1 rfl (by decide) rfl ?_
  refine v_sipush (pc := 2) C d_M_root_2 sp_512 ?_
  refine v_istore_n (pc := 5) (lv' := [(3, .int 512), (2, .int 0), (0, rf G 104), (1, .int x1)]) C d_M_root_5 rfl (by decide) rfl ?_
  refine v_sub [3, 1, 0] rfl ?_
  refine v_bind ?_
  refine w_M_root_L6 C hL S x1  fu 0 512 _ (fun v1 v2 => ?_) 
  refine v_some ?_
  refine v_iload_n (pc := 32) C d_M_root_32 rfl 0 rfl ?_
  exact v_iret (z := v1) C d_M_root_33 rfl ⟨Nat.zero_le _, Nat.zero_le _⟩ (rfl) rfl
-- M_distance
theorem d_M_distance_0 : decode (mB Y_M_distance) 0 = .ok (.aload_n 0, 1) := by decide +kernel
theorem d_M_distance_1 : decode (mB Y_M_distance) 1 = .ok (.iload_n 1, 1) := by decide +kernel
theorem d_M_distance_2 : decode (mB Y_M_distance) 2 = .ok (.iload_n 1, 1) := by decide +kernel
theorem d_M_distance_3 : decode (mB Y_M_distance) 3 = .ok (.imul, 1) := by decide +kernel
theorem d_M_distance_4 : decode (mB Y_M_distance) 4 = .ok (.iload_n 2, 1) := by decide +kernel
theorem d_M_distance_5 : decode (mB Y_M_distance) 5 = .ok (.iload_n 2, 1) := by decide +kernel
theorem d_M_distance_6 : decode (mB Y_M_distance) 6 = .ok (.imul, 1) := by decide +kernel
theorem d_M_distance_7 : decode (mB Y_M_distance) 7 = .ok (.iadd, 1) := by decide +kernel
theorem d_M_distance_8 : decode (mB Y_M_distance) 8 = .ok (.invokevirtual 157, 3) := by decide +kernel
theorem d_M_distance_11 : decode (mB Y_M_distance) 11 = .ok (.ireturn, 1) := by decide +kernel
theorem ro_M_distance_M_root : roomy Y_M_distance Y_M_root := ⟨Nat.le_of_ble_eq_true rfl, Nat.le_of_ble_eq_true rfl⟩
def r_M_distance (x1 : Int32) (x2 : Int32) : Option Int32 :=
  (r_M_root ((x1 * x1) + (x2 * x2))).bind (fun r1 =>
  some r1)
set_option maxHeartbeats 4000000 in
set_option maxRecDepth 20000 in
theorem c_M_distance {G : Gl} {L : Shp} (hL : Ext L) (S : Sto) (x1 : Int32) (x2 : Int32)  : Ct Y_M_distance G [rf G 104, .int x1, .int x2] L S (fp L S) (r_M_distance x1 x2) := by
  refine ct_of (by decide +kernel) (Nat.le_of_ble_eq_true rfl) (fun g C => ?_)
  show VO g Y_M_distance G (fun z => Qm g Y_M_distance G (fp L S z)) 0 0 0 [(0, rf G 104), (1, .int x1), (2, .int x2)] [] L S (r_M_distance x1 x2) some
  unfold r_M_distance
  refine v_aload_n (pc := 0) C d_M_distance_0 rfl 0 rfl ?_
  refine v_iload_n (pc := 1) C d_M_distance_1 rfl 1 rfl ?_
  refine v_iload_n (pc := 2) C d_M_distance_2 rfl 1 rfl ?_
  refine v_imul (pc := 3) C d_M_distance_3 ?_
  refine v_iload_n (pc := 4) C d_M_distance_4 rfl 2 rfl ?_
  refine v_iload_n (pc := 5) C d_M_distance_5 rfl 2 rfl ?_
  refine v_imul (pc := 6) C d_M_distance_6 ?_
  refine v_iadd (pc := 7) C d_M_distance_7 ?_
  refine v_cp (pc := 8) (inv_V (As := [.int ((x1 * x1) + (x2 * x2))]) (st := []) C ml_M_157 mv_M_root ro_M_distance_M_root (sh_104 hL) rfl rfl rfl rfl (Nat.le_of_ble_eq_true rfl) d_M_distance_8) (c_M_root hL S ((x1 * x1) + (x2 * x2))) ⟨rfl, rfl⟩ ⟨Nat.zero_le _, Nat.zero_le _⟩ (fun r1 => ?_)
  exact v_iret (z := r1) C d_M_distance_11 rfl ⟨Nat.zero_le _, Nat.zero_le _⟩ (rfl) rfl
-- M_floor
theorem d_M_floor_0 : decode (mB Y_M_floor) 0 = .ok (.iload_n 1, 1) := by decide +kernel
theorem d_M_floor_1 : decode (mB Y_M_floor) 1 = .ok (.iload_n 2, 1) := by decide +kernel
theorem d_M_floor_2 : decode (mB Y_M_floor) 2 = .ok (.idiv, 1) := by decide +kernel
theorem d_M_floor_3 : decode (mB Y_M_floor) 3 = .ok (.istore_n 3, 1) := by decide +kernel
theorem d_M_floor_4 : decode (mB Y_M_floor) 4 = .ok (.iload_n 1, 1) := by decide +kernel
theorem d_M_floor_5 : decode (mB Y_M_floor) 5 = .ok (.iload_n 2, 1) := by decide +kernel
theorem d_M_floor_6 : decode (mB Y_M_floor) 6 = .ok (.irem, 1) := by decide +kernel
theorem d_M_floor_7 : decode (mB Y_M_floor) 7 = .ok (.ifCond .eq 13, 3) := by decide +kernel
theorem d_M_floor_10 : decode (mB Y_M_floor) 10 = .ok (.iload_n 1, 1) := by decide +kernel
theorem d_M_floor_11 : decode (mB Y_M_floor) 11 = .ok (.ifCond .ge 9, 3) := by decide +kernel
theorem d_M_floor_14 : decode (mB Y_M_floor) 14 = .ok (.iload_n 3, 1) := by decide +kernel
theorem d_M_floor_15 : decode (mB Y_M_floor) 15 = .ok (.iconst 1, 1) := by decide +kernel
theorem d_M_floor_16 : decode (mB Y_M_floor) 16 = .ok (.isub, 1) := by decide +kernel
theorem d_M_floor_17 : decode (mB Y_M_floor) 17 = .ok (.goto 4, 3) := by decide +kernel
theorem d_M_floor_20 : decode (mB Y_M_floor) 20 = .ok (.iload_n 3, 1) := by decide +kernel
theorem d_M_floor_21 : decode (mB Y_M_floor) 21 = .ok (.ireturn, 1) := by decide +kernel
def r_M_floor (x1 : Int32) (x2 : Int32) : Option Int32 :=
  chk (nz x2) (
  lt (x1 / x2) (fun v1 =>
  chk (nz x2) (
  if (x1 - x1 / x2 * x2) = 0 then
    some v1
  else
    if 0 ≤ x1 then
      some v1
    else
      some (v1 - 1))))
set_option maxHeartbeats 4000000 in
set_option maxRecDepth 20000 in
theorem c_M_floor {G : Gl} {L : Shp} (hL : Ext L) (S : Sto) (x1 : Int32) (x2 : Int32)  : Ct Y_M_floor G [rf G 104, .int x1, .int x2] L S (fp L S) (r_M_floor x1 x2) := by
  refine ct_of (by decide +kernel) (Nat.le_of_ble_eq_true rfl) (fun g C => ?_)
  show VO g Y_M_floor G (fun z => Qm g Y_M_floor G (fp L S z)) 0 0 0 [(0, rf G 104), (1, .int x1), (2, .int x2)] [] L S (r_M_floor x1 x2) some
  unfold r_M_floor
  refine v_iload_n (pc := 0) C d_M_floor_0 rfl 1 rfl ?_
  refine v_iload_n (pc := 1) C d_M_floor_1 rfl 2 rfl ?_
  refine v_chk (fun hne => ?_)
  refine v_idiv (pc := 2) C d_M_floor_2 (nz_ne hne) ?_
  refine v_lt (fun v1 => ?_)
  refine v_istore_n (pc := 3) (lv' := [(3, .int v1), (0, rf G 104), (1, .int x1), (2, .int x2)]) C d_M_floor_3 rfl (by decide) rfl ?_
  refine v_iload_n (pc := 4) C d_M_floor_4 rfl 2 rfl ?_
  refine v_iload_n (pc := 5) C d_M_floor_5 rfl 3 rfl ?_
  refine v_chk (fun hne => ?_)
  refine v_irem (pc := 6) C d_M_floor_6 (nz_ne hne) ?_
  refine v_if_eq (pc := 7) (tgt := 20) C d_M_floor_7 rfl (fun _ => ?_) (fun _ => ?_)
  · refine v_iload_n (pc := 20) C d_M_floor_20 rfl 0 rfl ?_
    exact v_iret (z := v1) C d_M_floor_21 rfl ⟨Nat.zero_le _, Nat.zero_le _⟩ (rfl) rfl
  · refine v_iload_n (pc := 10) C d_M_floor_10 rfl 2 rfl ?_
    refine v_if_ge (pc := 11) (tgt := 20) C d_M_floor_11 rfl (fun _ => ?_) (fun _ => ?_)
    · refine v_iload_n (pc := 20) C d_M_floor_20 rfl 0 rfl ?_
      exact v_iret (z := v1) C d_M_floor_21 rfl ⟨Nat.zero_le _, Nat.zero_le _⟩ (rfl) rfl
    · refine v_iload_n (pc := 14) C d_M_floor_14 rfl 0 rfl ?_
      refine v_iconst (pc := 15) C d_M_floor_15 ic_1 ?_
      refine v_isub (pc := 16) C d_M_floor_16 ?_
      refine v_goto (pc := 17) (tgt := 21) C d_M_floor_17 rfl ?_
      exact v_iret (z := (v1 - 1)) C d_M_floor_21 rfl ⟨Nat.zero_le _, Nat.zero_le _⟩ (rfl) rfl
-- M_delay
theorem d_M_delay_0 : decode (mB Y_M_delay) 0 = .ok (.iload_n 2, 1) := by decide +kernel
theorem d_M_delay_1 : decode (mB Y_M_delay) 1 = .ok (.bipush 60, 2) := by decide +kernel
theorem d_M_delay_3 : decode (mB Y_M_delay) 3 = .ok (.irem, 1) := by decide +kernel
theorem d_M_delay_4 : decode (mB Y_M_delay) 4 = .ok (.iload_n 1, 1) := by decide +kernel
theorem d_M_delay_5 : decode (mB Y_M_delay) 5 = .ok (.bipush 60, 2) := by decide +kernel
theorem d_M_delay_7 : decode (mB Y_M_delay) 7 = .ok (.irem, 1) := by decide +kernel
theorem d_M_delay_8 : decode (mB Y_M_delay) 8 = .ok (.isub, 1) := by decide +kernel
theorem d_M_delay_9 : decode (mB Y_M_delay) 9 = .ok (.istore_n 3, 1) := by decide +kernel
theorem d_M_delay_10 : decode (mB Y_M_delay) 10 = .ok (.iload_n 2, 1) := by decide +kernel
theorem d_M_delay_11 : decode (mB Y_M_delay) 11 = .ok (.bipush 60, 2) := by decide +kernel
theorem d_M_delay_13 : decode (mB Y_M_delay) 13 = .ok (.idiv, 1) := by decide +kernel
theorem d_M_delay_14 : decode (mB Y_M_delay) 14 = .ok (.iload_n 1, 1) := by decide +kernel
theorem d_M_delay_15 : decode (mB Y_M_delay) 15 = .ok (.bipush 60, 2) := by decide +kernel
theorem d_M_delay_17 : decode (mB Y_M_delay) 17 = .ok (.idiv, 1) := by decide +kernel
theorem d_M_delay_18 : decode (mB Y_M_delay) 18 = .ok (.isub, 1) := by decide +kernel
theorem d_M_delay_19 : decode (mB Y_M_delay) 19 = .ok (.istore 4, 2) := by decide +kernel
theorem d_M_delay_21 : decode (mB Y_M_delay) 21 = .ok (.aload_n 0, 1) := by decide +kernel
theorem d_M_delay_22 : decode (mB Y_M_delay) 22 = .ok (.getfield 7, 3) := by decide +kernel
theorem d_M_delay_25 : decode (mB Y_M_delay) 25 = .ok (.aload_n 0, 1) := by decide +kernel
theorem d_M_delay_26 : decode (mB Y_M_delay) 26 = .ok (.iload_n 3, 1) := by decide +kernel
theorem d_M_delay_27 : decode (mB Y_M_delay) 27 = .ok (.iload 4, 2) := by decide +kernel
theorem d_M_delay_29 : decode (mB Y_M_delay) 29 = .ok (.invokevirtual 167, 3) := by decide +kernel
theorem d_M_delay_32 : decode (mB Y_M_delay) 32 = .ok (.imul, 1) := by decide +kernel
theorem d_M_delay_33 : decode (mB Y_M_delay) 33 = .ok (.aload_n 0, 1) := by decide +kernel
theorem d_M_delay_34 : decode (mB Y_M_delay) 34 = .ok (.aload_n 0, 1) := by decide +kernel
theorem d_M_delay_35 : decode (mB Y_M_delay) 35 = .ok (.getfield 161, 3) := by decide +kernel
theorem d_M_delay_38 : decode (mB Y_M_delay) 38 = .ok (.iload_n 3, 1) := by decide +kernel
theorem d_M_delay_39 : decode (mB Y_M_delay) 39 = .ok (.imul, 1) := by decide +kernel
theorem d_M_delay_40 : decode (mB Y_M_delay) 40 = .ok (.aload_n 0, 1) := by decide +kernel
theorem d_M_delay_41 : decode (mB Y_M_delay) 41 = .ok (.getfield 164, 3) := by decide +kernel
theorem d_M_delay_44 : decode (mB Y_M_delay) 44 = .ok (.iload 4, 2) := by decide +kernel
theorem d_M_delay_46 : decode (mB Y_M_delay) 46 = .ok (.imul, 1) := by decide +kernel
theorem d_M_delay_47 : decode (mB Y_M_delay) 47 = .ok (.iadd, 1) := by decide +kernel
theorem d_M_delay_48 : decode (mB Y_M_delay) 48 = .ok (.bipush 8, 2) := by decide +kernel
theorem d_M_delay_50 : decode (mB Y_M_delay) 50 = .ok (.invokevirtual 171, 3) := by decide +kernel
theorem d_M_delay_53 : decode (mB Y_M_delay) 53 = .ok (.isub, 1) := by decide +kernel
theorem d_M_delay_54 : decode (mB Y_M_delay) 54 = .ok (.istore 5, 2) := by decide +kernel
theorem d_M_delay_56 : decode (mB Y_M_delay) 56 = .ok (.iload 5, 2) := by decide +kernel
theorem d_M_delay_58 : decode (mB Y_M_delay) 58 = .ok (.ifCond .ge 7, 3) := by decide +kernel
theorem d_M_delay_61 : decode (mB Y_M_delay) 61 = .ok (.iconst 0, 1) := by decide +kernel
theorem d_M_delay_62 : decode (mB Y_M_delay) 62 = .ok (.goto 5, 3) := by decide +kernel
theorem d_M_delay_65 : decode (mB Y_M_delay) 65 = .ok (.iload 5, 2) := by decide +kernel
theorem d_M_delay_67 : decode (mB Y_M_delay) 67 = .ok (.ireturn, 1) := by decide +kernel
theorem ro_M_delay_M_distance : roomy Y_M_delay Y_M_distance := ⟨Nat.le_of_ble_eq_true rfl, Nat.le_of_ble_eq_true rfl⟩
theorem ro_M_delay_M_floor : roomy Y_M_delay Y_M_floor := ⟨Nat.le_of_ble_eq_true rfl, Nat.le_of_ble_eq_true rfl⟩
def r_M_delay (x1 : Int32) (x2 : Int32) (S : Sto) : Option Int32 :=
  lt ((x2 - x2 / 60 * 60) - (x1 - x1 / 60 * 60)) (fun v1 =>
  lt ((x2 / 60) - (x1 / 60)) (fun v2 =>
  (r_M_distance v1 v2).bind (fun r3 =>
  (r_M_floor (((S 104 2) * v1) + ((S 104 3) * v2)) 8).bind (fun r4 =>
  lt (((S 104 1) * r3) - r4) (fun v5 =>
  if 0 ≤ v5 then
    some v5
  else
    some 0)))))
set_option maxHeartbeats 4000000 in
set_option maxRecDepth 20000 in
theorem c_M_delay {G : Gl} {L : Shp} (hL : Ext L) (S : Sto) (x1 : Int32) (x2 : Int32)  : Ct Y_M_delay G [rf G 104, .int x1, .int x2] L S (fp L S) (r_M_delay x1 x2 S) := by
  refine ct_of (by decide +kernel) (Nat.le_of_ble_eq_true rfl) (fun g C => ?_)
  show VO g Y_M_delay G (fun z => Qm g Y_M_delay G (fp L S z)) 0 0 0 [(0, rf G 104), (1, .int x1), (2, .int x2)] [] L S (r_M_delay x1 x2 S) some
  unfold r_M_delay
  refine v_iload_n (pc := 0) C d_M_delay_0 rfl 2 rfl ?_
  refine v_bipush (pc := 1) C d_M_delay_1 bp_60 ?_
  refine v_irem (pc := 3) C d_M_delay_3 (by decide) ?_
  refine v_iload_n (pc := 4) C d_M_delay_4 rfl 1 rfl ?_
  refine v_bipush (pc := 5) C d_M_delay_5 bp_60 ?_
  refine v_irem (pc := 7) C d_M_delay_7 (by decide) ?_
  refine v_isub (pc := 8) C d_M_delay_8 ?_
  refine v_lt (fun v1 => ?_)
  refine v_istore_n (pc := 9) (lv' := [(3, .int v1), (0, rf G 104), (1, .int x1), (2, .int x2)]) C d_M_delay_9 rfl (by decide) rfl ?_
  refine v_iload_n (pc := 10) C d_M_delay_10 rfl 3 rfl ?_
  refine v_bipush (pc := 11) C d_M_delay_11 bp_60 ?_
  refine v_idiv (pc := 13) C d_M_delay_13 (by decide) ?_
  refine v_iload_n (pc := 14) C d_M_delay_14 rfl 2 rfl ?_
  refine v_bipush (pc := 15) C d_M_delay_15 bp_60 ?_
  refine v_idiv (pc := 17) C d_M_delay_17 (by decide) ?_
  refine v_isub (pc := 18) C d_M_delay_18 ?_
  refine v_lt (fun v2 => ?_)
  refine v_istore (pc := 19) (lv' := [(4, .int v2), (3, .int v1), (0, rf G 104), (1, .int x1), (2, .int x2)]) C d_M_delay_19 (by decide) rfl ?_
  refine v_aload_n (pc := 21) C d_M_delay_21 rfl 2 rfl ?_
  refine v_getI (pc := 22) C fl_M_7 (sh_104 hL) rfl d_M_delay_22 ?_
  refine v_aload_n (pc := 25) C d_M_delay_25 rfl 2 rfl ?_
  refine v_iload_n (pc := 26) C d_M_delay_26 rfl 1 rfl ?_
  refine v_iload (pc := 27) C d_M_delay_27 0 rfl ?_
  refine v_cp (pc := 29) (inv_V (As := [.int v1, .int v2]) (st := [.int (S 104 1)]) C ml_M_167 mv_M_distance ro_M_delay_M_distance (sh_104 hL) rfl rfl rfl rfl (Nat.le_of_ble_eq_true rfl) d_M_delay_29) (c_M_distance hL S v1 v2) ⟨rfl, rfl⟩ ⟨Nat.zero_le _, Nat.zero_le _⟩ (fun r3 => ?_)
  refine v_imul (pc := 32) C d_M_delay_32 ?_
  refine v_aload_n (pc := 33) C d_M_delay_33 rfl 2 rfl ?_
  refine v_aload_n (pc := 34) C d_M_delay_34 rfl 2 rfl ?_
  refine v_getI (pc := 35) C fl_M_161 (sh_104 hL) rfl d_M_delay_35 ?_
  refine v_iload_n (pc := 38) C d_M_delay_38 rfl 1 rfl ?_
  refine v_imul (pc := 39) C d_M_delay_39 ?_
  refine v_aload_n (pc := 40) C d_M_delay_40 rfl 2 rfl ?_
  refine v_getI (pc := 41) C fl_M_164 (sh_104 hL) rfl d_M_delay_41 ?_
  refine v_iload (pc := 44) C d_M_delay_44 0 rfl ?_
  refine v_imul (pc := 46) C d_M_delay_46 ?_
  refine v_iadd (pc := 47) C d_M_delay_47 ?_
  refine v_bipush (pc := 48) C d_M_delay_48 bp_8 ?_
  refine v_cp (pc := 50) (inv_V (As := [.int (((S 104 2) * v1) + ((S 104 3) * v2)), .int 8]) (st := [.int ((S 104 1) * r3)]) C ml_M_171 mv_M_floor ro_M_delay_M_floor (sh_104 hL) rfl rfl rfl rfl (Nat.le_of_ble_eq_true rfl) d_M_delay_50) (c_M_floor hL S (((S 104 2) * v1) + ((S 104 3) * v2)) 8) ⟨rfl, rfl⟩ ⟨Nat.zero_le _, Nat.zero_le _⟩ (fun r4 => ?_)
  refine v_isub (pc := 53) C d_M_delay_53 ?_
  refine v_lt (fun v5 => ?_)
  refine v_istore (pc := 54) (lv' := [(5, .int v5), (4, .int v2), (3, .int v1), (0, rf G 104), (1, .int x1), (2, .int x2)]) C d_M_delay_54 (by decide) rfl ?_
  refine v_iload (pc := 56) C d_M_delay_56 0 rfl ?_
  refine v_if_ge (pc := 58) (tgt := 65) C d_M_delay_58 rfl (fun _ => ?_) (fun _ => ?_)
  · refine v_iload (pc := 65) C d_M_delay_65 0 rfl ?_
    exact v_iret (z := v5) C d_M_delay_67 rfl ⟨Nat.zero_le _, Nat.zero_le _⟩ (rfl) rfl
  · refine v_iconst (pc := 61) C d_M_delay_61 ic_0 ?_
    refine v_goto (pc := 62) (tgt := 67) C d_M_delay_62 rfl ?_
    exact v_iret (z := 0) C d_M_delay_67 rfl ⟨Nat.zero_le _, Nat.zero_le _⟩ (rfl) rfl
-- M_apartOf
theorem d_M_apartOf_0 : decode (mB Y_M_apartOf) 0 = .ok (.aload_n 0, 1) := by decide +kernel
theorem d_M_apartOf_1 : decode (mB Y_M_apartOf) 1 = .ok (.iload_n 1, 1) := by decide +kernel
theorem d_M_apartOf_2 : decode (mB Y_M_apartOf) 2 = .ok (.bipush 60, 2) := by decide +kernel
theorem d_M_apartOf_4 : decode (mB Y_M_apartOf) 4 = .ok (.irem, 1) := by decide +kernel
theorem d_M_apartOf_5 : decode (mB Y_M_apartOf) 5 = .ok (.iload_n 2, 1) := by decide +kernel
theorem d_M_apartOf_6 : decode (mB Y_M_apartOf) 6 = .ok (.bipush 60, 2) := by decide +kernel
theorem d_M_apartOf_8 : decode (mB Y_M_apartOf) 8 = .ok (.irem, 1) := by decide +kernel
theorem d_M_apartOf_9 : decode (mB Y_M_apartOf) 9 = .ok (.isub, 1) := by decide +kernel
theorem d_M_apartOf_10 : decode (mB Y_M_apartOf) 10 = .ok (.iload_n 1, 1) := by decide +kernel
theorem d_M_apartOf_11 : decode (mB Y_M_apartOf) 11 = .ok (.bipush 60, 2) := by decide +kernel
theorem d_M_apartOf_13 : decode (mB Y_M_apartOf) 13 = .ok (.idiv, 1) := by decide +kernel
theorem d_M_apartOf_14 : decode (mB Y_M_apartOf) 14 = .ok (.iload_n 2, 1) := by decide +kernel
theorem d_M_apartOf_15 : decode (mB Y_M_apartOf) 15 = .ok (.bipush 60, 2) := by decide +kernel
theorem d_M_apartOf_17 : decode (mB Y_M_apartOf) 17 = .ok (.idiv, 1) := by decide +kernel
theorem d_M_apartOf_18 : decode (mB Y_M_apartOf) 18 = .ok (.isub, 1) := by decide +kernel
theorem d_M_apartOf_19 : decode (mB Y_M_apartOf) 19 = .ok (.invokevirtual 167, 3) := by decide +kernel
theorem d_M_apartOf_22 : decode (mB Y_M_apartOf) 22 = .ok (.ireturn, 1) := by decide +kernel
theorem ro_M_apartOf_M_distance : roomy Y_M_apartOf Y_M_distance := ⟨Nat.le_of_ble_eq_true rfl, Nat.le_of_ble_eq_true rfl⟩
def r_M_apartOf (x1 : Int32) (x2 : Int32) : Option Int32 :=
  (r_M_distance ((x1 - x1 / 60 * 60) - (x2 - x2 / 60 * 60)) ((x1 / 60) - (x2 / 60))).bind (fun r1 =>
  some r1)
set_option maxHeartbeats 4000000 in
set_option maxRecDepth 20000 in
theorem c_M_apartOf {G : Gl} {L : Shp} (hL : Ext L) (S : Sto) (x1 : Int32) (x2 : Int32)  : Ct Y_M_apartOf G [rf G 104, .int x1, .int x2] L S (fp L S) (r_M_apartOf x1 x2) := by
  refine ct_of (by decide +kernel) (Nat.le_of_ble_eq_true rfl) (fun g C => ?_)
  show VO g Y_M_apartOf G (fun z => Qm g Y_M_apartOf G (fp L S z)) 0 0 0 [(0, rf G 104), (1, .int x1), (2, .int x2)] [] L S (r_M_apartOf x1 x2) some
  unfold r_M_apartOf
  refine v_aload_n (pc := 0) C d_M_apartOf_0 rfl 0 rfl ?_
  refine v_iload_n (pc := 1) C d_M_apartOf_1 rfl 1 rfl ?_
  refine v_bipush (pc := 2) C d_M_apartOf_2 bp_60 ?_
  refine v_irem (pc := 4) C d_M_apartOf_4 (by decide) ?_
  refine v_iload_n (pc := 5) C d_M_apartOf_5 rfl 2 rfl ?_
  refine v_bipush (pc := 6) C d_M_apartOf_6 bp_60 ?_
  refine v_irem (pc := 8) C d_M_apartOf_8 (by decide) ?_
  refine v_isub (pc := 9) C d_M_apartOf_9 ?_
  refine v_iload_n (pc := 10) C d_M_apartOf_10 rfl 1 rfl ?_
  refine v_bipush (pc := 11) C d_M_apartOf_11 bp_60 ?_
  refine v_idiv (pc := 13) C d_M_apartOf_13 (by decide) ?_
  refine v_iload_n (pc := 14) C d_M_apartOf_14 rfl 2 rfl ?_
  refine v_bipush (pc := 15) C d_M_apartOf_15 bp_60 ?_
  refine v_idiv (pc := 17) C d_M_apartOf_17 (by decide) ?_
  refine v_isub (pc := 18) C d_M_apartOf_18 ?_
  refine v_cp (pc := 19) (inv_V (As := [.int ((x1 - x1 / 60 * 60) - (x2 - x2 / 60 * 60)), .int ((x1 / 60) - (x2 / 60))]) (st := []) C ml_M_167 mv_M_distance ro_M_apartOf_M_distance (sh_104 hL) rfl rfl rfl rfl (Nat.le_of_ble_eq_true rfl) d_M_apartOf_19) (c_M_distance hL S ((x1 - x1 / 60 * 60) - (x2 - x2 / 60 * 60)) ((x1 / 60) - (x2 / 60))) ⟨rfl, rfl⟩ ⟨Nat.zero_le _, Nat.zero_le _⟩ (fun r1 => ?_)
  exact v_iret (z := r1) C d_M_apartOf_22 rfl ⟨Nat.zero_le _, Nat.zero_le _⟩ (rfl) rfl
-- M_loudBy
theorem d_M_loudBy_0 : decode (mB Y_M_loudBy) 0 = .ok (.sipush 10000, 3) := by decide +kernel
theorem d_M_loudBy_3 : decode (mB Y_M_loudBy) 3 = .ok (.iload_n 1, 1) := by decide +kernel
theorem d_M_loudBy_4 : decode (mB Y_M_loudBy) 4 = .ok (.bipush 10, 2) := by decide +kernel
theorem d_M_loudBy_6 : decode (mB Y_M_loudBy) 6 = .ok (.iadd, 1) := by decide +kernel
theorem d_M_loudBy_7 : decode (mB Y_M_loudBy) 7 = .ok (.idiv, 1) := by decide +kernel
theorem d_M_loudBy_8 : decode (mB Y_M_loudBy) 8 = .ok (.ireturn, 1) := by decide +kernel
def r_M_loudBy (x1 : Int32) : Option Int32 :=
  chk (nz (x1 + 10)) (
  some (10000 / (x1 + 10)))
set_option maxHeartbeats 4000000 in
set_option maxRecDepth 20000 in
theorem c_M_loudBy {G : Gl} {L : Shp} (hL : Ext L) (S : Sto) (x1 : Int32)  : Ct Y_M_loudBy G [rf G 104, .int x1] L S (fp L S) (r_M_loudBy x1) := by
  refine ct_of (by decide +kernel) (Nat.le_of_ble_eq_true rfl) (fun g C => ?_)
  show VO g Y_M_loudBy G (fun z => Qm g Y_M_loudBy G (fp L S z)) 0 0 0 [(0, rf G 104), (1, .int x1)] [] L S (r_M_loudBy x1) some
  unfold r_M_loudBy
  refine v_sipush (pc := 0) C d_M_loudBy_0 sp_10000 ?_
  refine v_iload_n (pc := 3) C d_M_loudBy_3 rfl 1 rfl ?_
  refine v_bipush (pc := 4) C d_M_loudBy_4 bp_10 ?_
  refine v_iadd (pc := 6) C d_M_loudBy_6 ?_
  refine v_chk (fun hne => ?_)
  refine v_idiv (pc := 7) C d_M_loudBy_7 (nz_ne hne) ?_
  exact v_iret (z := (10000 / (x1 + 10))) C d_M_loudBy_8 rfl ⟨Nat.zero_le _, Nat.zero_le _⟩ (rfl) rfl
-- M_sectorUp
theorem d_M_sectorUp_0 : decode (mB Y_M_sectorUp) 0 = .ok (.iload_n 1, 1) := by decide +kernel
theorem d_M_sectorUp_1 : decode (mB Y_M_sectorUp) 1 = .ok (.ifCond .le 14, 3) := by decide +kernel
theorem d_M_sectorUp_4 : decode (mB Y_M_sectorUp) 4 = .ok (.iload_n 2, 1) := by decide +kernel
theorem d_M_sectorUp_5 : decode (mB Y_M_sectorUp) 5 = .ok (.iload_n 1, 1) := by decide +kernel
theorem d_M_sectorUp_6 : decode (mB Y_M_sectorUp) 6 = .ok (.if_icmp .ge 7, 3) := by decide +kernel
theorem d_M_sectorUp_9 : decode (mB Y_M_sectorUp) 9 = .ok (.iconst 0, 1) := by decide +kernel
theorem d_M_sectorUp_10 : decode (mB Y_M_sectorUp) 10 = .ok (.goto 4, 3) := by decide +kernel
theorem d_M_sectorUp_13 : decode (mB Y_M_sectorUp) 13 = .ok (.iconst 1, 1) := by decide +kernel
theorem d_M_sectorUp_14 : decode (mB Y_M_sectorUp) 14 = .ok (.ireturn, 1) := by decide +kernel
theorem d_M_sectorUp_15 : decode (mB Y_M_sectorUp) 15 = .ok (.iload_n 2, 1) := by decide +kernel
theorem d_M_sectorUp_16 : decode (mB Y_M_sectorUp) 16 = .ok (.iload_n 1, 1) := by decide +kernel
theorem d_M_sectorUp_17 : decode (mB Y_M_sectorUp) 17 = .ok (.ineg, 1) := by decide +kernel
theorem d_M_sectorUp_18 : decode (mB Y_M_sectorUp) 18 = .ok (.if_icmp .le 7, 3) := by decide +kernel
theorem d_M_sectorUp_21 : decode (mB Y_M_sectorUp) 21 = .ok (.iconst 2, 1) := by decide +kernel
theorem d_M_sectorUp_22 : decode (mB Y_M_sectorUp) 22 = .ok (.goto 4, 3) := by decide +kernel
theorem d_M_sectorUp_25 : decode (mB Y_M_sectorUp) 25 = .ok (.iconst 3, 1) := by decide +kernel
theorem d_M_sectorUp_26 : decode (mB Y_M_sectorUp) 26 = .ok (.ireturn, 1) := by decide +kernel
def r_M_sectorUp (x1 : Int32) (x2 : Int32) : Int32 := (if x1 ≤ 0 then (if x2 ≤ (-x1) then 3 else 2) else (if x1 ≤ x2 then 1 else 0))
set_option maxHeartbeats 4000000 in
set_option maxRecDepth 20000 in
theorem c_M_sectorUp {G : Gl} {L : Shp} (hL : Ext L) (S : Sto) (x1 : Int32) (x2 : Int32)  : Ct Y_M_sectorUp G [rf G 104, .int x1, .int x2] L S (fp L S) (some (r_M_sectorUp x1 x2)) := by
  refine ct_of (by decide +kernel) (Nat.le_of_ble_eq_true rfl) (fun g C => ?_)
  have e : (some (r_M_sectorUp x1 x2) : Option Int32) =
      if x1 ≤ 0 then
        if x2 ≤ (-x1) then
          some 3
        else
          some 2
      else
        if x1 ≤ x2 then
          some 1
        else
          some 0 := by
    unfold r_M_sectorUp
    simp only [some_ite, lt, ltJ]
  rw [e]
  show VO g Y_M_sectorUp G (fun z => Qm g Y_M_sectorUp G (fp L S z)) 0 0 0 [(0, rf G 104), (1, .int x1), (2, .int x2)] [] L S _ some
  refine v_iload_n (pc := 0) C d_M_sectorUp_0 rfl 1 rfl ?_
  refine v_if_le (pc := 1) (tgt := 15) C d_M_sectorUp_1 rfl (fun _ => ?_) (fun _ => ?_)
  · refine v_iload_n (pc := 15) C d_M_sectorUp_15 rfl 2 rfl ?_
    refine v_iload_n (pc := 16) C d_M_sectorUp_16 rfl 1 rfl ?_
    refine v_ineg (pc := 17) C d_M_sectorUp_17 ?_
    refine v_icmp_le (pc := 18) (tgt := 25) C d_M_sectorUp_18 rfl (fun _ => ?_) (fun _ => ?_)
    · refine v_iconst (pc := 25) C d_M_sectorUp_25 ic_3 ?_
      exact v_iret (z := 3) C d_M_sectorUp_26 rfl ⟨Nat.zero_le _, Nat.zero_le _⟩ (rfl) rfl
    · refine v_iconst (pc := 21) C d_M_sectorUp_21 ic_2 ?_
      refine v_goto (pc := 22) (tgt := 26) C d_M_sectorUp_22 rfl ?_
      exact v_iret (z := 2) C d_M_sectorUp_26 rfl ⟨Nat.zero_le _, Nat.zero_le _⟩ (rfl) rfl
  · refine v_iload_n (pc := 4) C d_M_sectorUp_4 rfl 2 rfl ?_
    refine v_iload_n (pc := 5) C d_M_sectorUp_5 rfl 1 rfl ?_
    refine v_icmp_ge (pc := 6) (tgt := 13) C d_M_sectorUp_6 rfl (fun _ => ?_) (fun _ => ?_)
    · refine v_iconst (pc := 13) C d_M_sectorUp_13 ic_1 ?_
      exact v_iret (z := 1) C d_M_sectorUp_14 rfl ⟨Nat.zero_le _, Nat.zero_le _⟩ (rfl) rfl
    · refine v_iconst (pc := 9) C d_M_sectorUp_9 ic_0 ?_
      refine v_goto (pc := 10) (tgt := 14) C d_M_sectorUp_10 rfl ?_
      exact v_iret (z := 0) C d_M_sectorUp_14 rfl ⟨Nat.zero_le _, Nat.zero_le _⟩ (rfl) rfl
-- M_sectorBy
theorem d_M_sectorBy_0 : decode (mB Y_M_sectorBy) 0 = .ok (.iload_n 1, 1) := by decide +kernel
theorem d_M_sectorBy_1 : decode (mB Y_M_sectorBy) 1 = .ok (.ifCond .ne 9, 3) := by decide +kernel
theorem d_M_sectorBy_4 : decode (mB Y_M_sectorBy) 4 = .ok (.iload_n 2, 1) := by decide +kernel
theorem d_M_sectorBy_5 : decode (mB Y_M_sectorBy) 5 = .ok (.ifCond .ne 5, 3) := by decide +kernel
theorem d_M_sectorBy_8 : decode (mB Y_M_sectorBy) 8 = .ok (.iconst (-1), 1) := by decide +kernel
theorem d_M_sectorBy_9 : decode (mB Y_M_sectorBy) 9 = .ok (.ireturn, 1) := by decide +kernel
theorem d_M_sectorBy_10 : decode (mB Y_M_sectorBy) 10 = .ok (.iload_n 2, 1) := by decide +kernel
theorem d_M_sectorBy_11 : decode (mB Y_M_sectorBy) 11 = .ok (.ifCond .lt 11, 3) := by decide +kernel
theorem d_M_sectorBy_14 : decode (mB Y_M_sectorBy) 14 = .ok (.iload_n 2, 1) := by decide +kernel
theorem d_M_sectorBy_15 : decode (mB Y_M_sectorBy) 15 = .ok (.ifCond .ne 20, 3) := by decide +kernel
theorem d_M_sectorBy_18 : decode (mB Y_M_sectorBy) 18 = .ok (.iload_n 1, 1) := by decide +kernel
theorem d_M_sectorBy_19 : decode (mB Y_M_sectorBy) 19 = .ok (.ifCond .ge 16, 3) := by decide +kernel
theorem d_M_sectorBy_22 : decode (mB Y_M_sectorBy) 22 = .ok (.aload_n 0, 1) := by decide +kernel
theorem d_M_sectorBy_23 : decode (mB Y_M_sectorBy) 23 = .ok (.iload_n 1, 1) := by decide +kernel
theorem d_M_sectorBy_24 : decode (mB Y_M_sectorBy) 24 = .ok (.ineg, 1) := by decide +kernel
theorem d_M_sectorBy_25 : decode (mB Y_M_sectorBy) 25 = .ok (.iload_n 2, 1) := by decide +kernel
theorem d_M_sectorBy_26 : decode (mB Y_M_sectorBy) 26 = .ok (.ineg, 1) := by decide +kernel
theorem d_M_sectorBy_27 : decode (mB Y_M_sectorBy) 27 = .ok (.invokevirtual 174, 3) := by decide +kernel
theorem d_M_sectorBy_30 : decode (mB Y_M_sectorBy) 30 = .ok (.istore_n 3, 1) := by decide +kernel
theorem d_M_sectorBy_31 : decode (mB Y_M_sectorBy) 31 = .ok (.iload_n 3, 1) := by decide +kernel
theorem d_M_sectorBy_32 : decode (mB Y_M_sectorBy) 32 = .ok (.iconst 4, 1) := by decide +kernel
theorem d_M_sectorBy_33 : decode (mB Y_M_sectorBy) 33 = .ok (.iadd, 1) := by decide +kernel
theorem d_M_sectorBy_34 : decode (mB Y_M_sectorBy) 34 = .ok (.ireturn, 1) := by decide +kernel
theorem d_M_sectorBy_35 : decode (mB Y_M_sectorBy) 35 = .ok (.aload_n 0, 1) := by decide +kernel
theorem d_M_sectorBy_36 : decode (mB Y_M_sectorBy) 36 = .ok (.iload_n 1, 1) := by decide +kernel
theorem d_M_sectorBy_37 : decode (mB Y_M_sectorBy) 37 = .ok (.iload_n 2, 1) := by decide +kernel
theorem d_M_sectorBy_38 : decode (mB Y_M_sectorBy) 38 = .ok (.invokevirtual 174, 3) := by decide +kernel
theorem d_M_sectorBy_41 : decode (mB Y_M_sectorBy) 41 = .ok (.ireturn, 1) := by decide +kernel
theorem ro_M_sectorBy_M_sectorUp : roomy Y_M_sectorBy Y_M_sectorUp := ⟨Nat.le_of_ble_eq_true rfl, Nat.le_of_ble_eq_true rfl⟩
def r_M_sectorBy (x1 : Int32) (x2 : Int32) : Option Int32 :=
  jn (fun (_ : Unit) =>
    jn (fun (_ : Unit) =>
      lt (r_M_sectorUp (-x1) (-x2)) (fun v1 =>
      some (v1 + 4))) (fun j22 =>
    if x2 < 0 then
      j22 ()
    else
      jn (fun (_ : Unit) =>
        some (r_M_sectorUp x1 x2)) (fun j35 =>
      if x2 = 0 then
        if 0 ≤ x1 then
          j35 ()
        else
          j22 ()
      else
        j35 ()))) (fun j10 =>
  if x1 = 0 then
    if x2 = 0 then
      some (-1)
    else
      j10 ()
  else
    j10 ())
set_option maxHeartbeats 4000000 in
set_option maxRecDepth 20000 in
theorem c_M_sectorBy {G : Gl} {L : Shp} (hL : Ext L) (S : Sto) (x1 : Int32) (x2 : Int32)  : Ct Y_M_sectorBy G [rf G 104, .int x1, .int x2] L S (fp L S) (r_M_sectorBy x1 x2) := by
  refine ct_of (by decide +kernel) (Nat.le_of_ble_eq_true rfl) (fun g C => ?_)
  show VO g Y_M_sectorBy G (fun z => Qm g Y_M_sectorBy G (fp L S z)) 0 0 0 [(0, rf G 104), (1, .int x1), (2, .int x2)] [] L S (r_M_sectorBy x1 x2) some
  unfold r_M_sectorBy
  refine v_iload_n (pc := 0) C d_M_sectorBy_0 rfl 1 rfl ?_
  refine v_jn (fun j => VO g Y_M_sectorBy G (fun z => Qm g Y_M_sectorBy G (fp L S z)) 0 0 10 [(0, rf G 104), (1, .int x1), (2, .int x2)] [] L S (j ()) some) (?_) (fun j10 hj10 => ?_)
  · refine v_iload_n (pc := 10) C d_M_sectorBy_10 rfl 2 rfl ?_
    refine v_jn (fun j => VO g Y_M_sectorBy G (fun z => Qm g Y_M_sectorBy G (fp L S z)) 0 0 22 [(0, rf G 104), (1, .int x1), (2, .int x2)] [] L S (j ()) some) (?_) (fun j22 hj22 => ?_)
    · refine v_aload_n (pc := 22) C d_M_sectorBy_22 rfl 0 rfl ?_
      refine v_iload_n (pc := 23) C d_M_sectorBy_23 rfl 1 rfl ?_
      refine v_ineg (pc := 24) C d_M_sectorBy_24 ?_
      refine v_iload_n (pc := 25) C d_M_sectorBy_25 rfl 2 rfl ?_
      refine v_ineg (pc := 26) C d_M_sectorBy_26 ?_
      refine v_ct (pc := 27) (inv_V (As := [.int (-x1), .int (-x2)]) (st := []) C ml_M_174 mv_M_sectorUp ro_M_sectorBy_M_sectorUp (sh_104 hL) rfl rfl rfl rfl (Nat.le_of_ble_eq_true rfl) d_M_sectorBy_27) (c_M_sectorUp hL S (-x1) (-x2)) ⟨rfl, rfl⟩ ⟨Nat.zero_le _, Nat.zero_le _⟩ ?_
      refine v_lt (fun v1 => ?_)
      refine v_istore_n (pc := 30) (lv' := [(3, .int v1), (0, rf G 104), (1, .int x1), (2, .int x2)]) C d_M_sectorBy_30 rfl (by decide) rfl ?_
      refine v_iload_n (pc := 31) C d_M_sectorBy_31 rfl 0 rfl ?_
      refine v_iconst (pc := 32) C d_M_sectorBy_32 ic_4 ?_
      refine v_iadd (pc := 33) C d_M_sectorBy_33 ?_
      exact v_iret (z := (v1 + 4)) C d_M_sectorBy_34 rfl ⟨Nat.zero_le _, Nat.zero_le _⟩ (rfl) rfl
    · refine v_if_lt (pc := 11) (tgt := 22) C d_M_sectorBy_11 rfl (fun _ => ?_) (fun _ => ?_)
      · exact hj22
      · refine v_iload_n (pc := 14) C d_M_sectorBy_14 rfl 2 rfl ?_
        refine v_jn (fun j => VO g Y_M_sectorBy G (fun z => Qm g Y_M_sectorBy G (fp L S z)) 0 0 35 [(0, rf G 104), (1, .int x1), (2, .int x2)] [] L S (j ()) some) (?_) (fun j35 hj35 => ?_)
        · refine v_aload_n (pc := 35) C d_M_sectorBy_35 rfl 0 rfl ?_
          refine v_iload_n (pc := 36) C d_M_sectorBy_36 rfl 1 rfl ?_
          refine v_iload_n (pc := 37) C d_M_sectorBy_37 rfl 2 rfl ?_
          refine v_ct (pc := 38) (inv_V (As := [.int x1, .int x2]) (st := []) C ml_M_174 mv_M_sectorUp ro_M_sectorBy_M_sectorUp (sh_104 hL) rfl rfl rfl rfl (Nat.le_of_ble_eq_true rfl) d_M_sectorBy_38) (c_M_sectorUp hL S x1 x2) ⟨rfl, rfl⟩ ⟨Nat.zero_le _, Nat.zero_le _⟩ ?_
          exact v_iret (z := (r_M_sectorUp x1 x2)) C d_M_sectorBy_41 rfl ⟨Nat.zero_le _, Nat.zero_le _⟩ (rfl) rfl
        · refine v_if_ne (pc := 15) (tgt := 35) C d_M_sectorBy_15 rfl (fun _ => ?_) (fun _ => ?_)
          · exact hj35
          · refine v_iload_n (pc := 18) C d_M_sectorBy_18 rfl 1 rfl ?_
            refine v_if_ge (pc := 19) (tgt := 35) C d_M_sectorBy_19 rfl (fun _ => ?_) (fun _ => ?_)
            · exact hj35
            · exact hj22
  · refine v_if_ne (pc := 1) (tgt := 10) C d_M_sectorBy_1 rfl (fun _ => ?_) (fun _ => ?_)
    · exact hj10
    · refine v_iload_n (pc := 4) C d_M_sectorBy_4 rfl 2 rfl ?_
      refine v_if_ne (pc := 5) (tgt := 10) C d_M_sectorBy_5 rfl (fun _ => ?_) (fun _ => ?_)
      · exact hj10
      · refine v_iconst (pc := 8) C d_M_sectorBy_8 ic_m1 ?_
        exact v_iret (z := (-1)) C d_M_sectorBy_9 rfl ⟨Nat.zero_le _, Nat.zero_le _⟩ (rfl) rfl
-- M_sectorOf
theorem d_M_sectorOf_0 : decode (mB Y_M_sectorOf) 0 = .ok (.aload_n 0, 1) := by decide +kernel
theorem d_M_sectorOf_1 : decode (mB Y_M_sectorOf) 1 = .ok (.iload_n 1, 1) := by decide +kernel
theorem d_M_sectorOf_2 : decode (mB Y_M_sectorOf) 2 = .ok (.bipush 60, 2) := by decide +kernel
theorem d_M_sectorOf_4 : decode (mB Y_M_sectorOf) 4 = .ok (.irem, 1) := by decide +kernel
theorem d_M_sectorOf_5 : decode (mB Y_M_sectorOf) 5 = .ok (.iload_n 2, 1) := by decide +kernel
theorem d_M_sectorOf_6 : decode (mB Y_M_sectorOf) 6 = .ok (.bipush 60, 2) := by decide +kernel
theorem d_M_sectorOf_8 : decode (mB Y_M_sectorOf) 8 = .ok (.irem, 1) := by decide +kernel
theorem d_M_sectorOf_9 : decode (mB Y_M_sectorOf) 9 = .ok (.isub, 1) := by decide +kernel
theorem d_M_sectorOf_10 : decode (mB Y_M_sectorOf) 10 = .ok (.iload_n 1, 1) := by decide +kernel
theorem d_M_sectorOf_11 : decode (mB Y_M_sectorOf) 11 = .ok (.bipush 60, 2) := by decide +kernel
theorem d_M_sectorOf_13 : decode (mB Y_M_sectorOf) 13 = .ok (.idiv, 1) := by decide +kernel
theorem d_M_sectorOf_14 : decode (mB Y_M_sectorOf) 14 = .ok (.iload_n 2, 1) := by decide +kernel
theorem d_M_sectorOf_15 : decode (mB Y_M_sectorOf) 15 = .ok (.bipush 60, 2) := by decide +kernel
theorem d_M_sectorOf_17 : decode (mB Y_M_sectorOf) 17 = .ok (.idiv, 1) := by decide +kernel
theorem d_M_sectorOf_18 : decode (mB Y_M_sectorOf) 18 = .ok (.isub, 1) := by decide +kernel
theorem d_M_sectorOf_19 : decode (mB Y_M_sectorOf) 19 = .ok (.invokevirtual 177, 3) := by decide +kernel
theorem d_M_sectorOf_22 : decode (mB Y_M_sectorOf) 22 = .ok (.ireturn, 1) := by decide +kernel
theorem ro_M_sectorOf_M_sectorBy : roomy Y_M_sectorOf Y_M_sectorBy := ⟨Nat.le_of_ble_eq_true rfl, Nat.le_of_ble_eq_true rfl⟩
def r_M_sectorOf (x1 : Int32) (x2 : Int32) : Option Int32 :=
  (r_M_sectorBy ((x1 - x1 / 60 * 60) - (x2 - x2 / 60 * 60)) ((x1 / 60) - (x2 / 60))).bind (fun r1 =>
  some r1)
set_option maxHeartbeats 4000000 in
set_option maxRecDepth 20000 in
theorem c_M_sectorOf {G : Gl} {L : Shp} (hL : Ext L) (S : Sto) (x1 : Int32) (x2 : Int32)  : Ct Y_M_sectorOf G [rf G 104, .int x1, .int x2] L S (fp L S) (r_M_sectorOf x1 x2) := by
  refine ct_of (by decide +kernel) (Nat.le_of_ble_eq_true rfl) (fun g C => ?_)
  show VO g Y_M_sectorOf G (fun z => Qm g Y_M_sectorOf G (fp L S z)) 0 0 0 [(0, rf G 104), (1, .int x1), (2, .int x2)] [] L S (r_M_sectorOf x1 x2) some
  unfold r_M_sectorOf
  refine v_aload_n (pc := 0) C d_M_sectorOf_0 rfl 0 rfl ?_
  refine v_iload_n (pc := 1) C d_M_sectorOf_1 rfl 1 rfl ?_
  refine v_bipush (pc := 2) C d_M_sectorOf_2 bp_60 ?_
  refine v_irem (pc := 4) C d_M_sectorOf_4 (by decide) ?_
  refine v_iload_n (pc := 5) C d_M_sectorOf_5 rfl 2 rfl ?_
  refine v_bipush (pc := 6) C d_M_sectorOf_6 bp_60 ?_
  refine v_irem (pc := 8) C d_M_sectorOf_8 (by decide) ?_
  refine v_isub (pc := 9) C d_M_sectorOf_9 ?_
  refine v_iload_n (pc := 10) C d_M_sectorOf_10 rfl 1 rfl ?_
  refine v_bipush (pc := 11) C d_M_sectorOf_11 bp_60 ?_
  refine v_idiv (pc := 13) C d_M_sectorOf_13 (by decide) ?_
  refine v_iload_n (pc := 14) C d_M_sectorOf_14 rfl 2 rfl ?_
  refine v_bipush (pc := 15) C d_M_sectorOf_15 bp_60 ?_
  refine v_idiv (pc := 17) C d_M_sectorOf_17 (by decide) ?_
  refine v_isub (pc := 18) C d_M_sectorOf_18 ?_
  refine v_cp (pc := 19) (inv_V (As := [.int ((x1 - x1 / 60 * 60) - (x2 - x2 / 60 * 60)), .int ((x1 / 60) - (x2 / 60))]) (st := []) C ml_M_177 mv_M_sectorBy ro_M_sectorOf_M_sectorBy (sh_104 hL) rfl rfl rfl rfl (Nat.le_of_ble_eq_true rfl) d_M_sectorOf_19) (c_M_sectorBy hL S ((x1 - x1 / 60 * 60) - (x2 - x2 / 60 * 60)) ((x1 / 60) - (x2 / 60))) ⟨rfl, rfl⟩ ⟨Nat.zero_le _, Nat.zero_le _⟩ (fun r1 => ?_)
  exact v_iret (z := r1) C d_M_sectorOf_22 rfl ⟨Nat.zero_le _, Nat.zero_le _⟩ (rfl) rfl
-- M_comes
theorem d_M_comes_0 : decode (mB Y_M_comes) 0 = .ok (.aload_n 0, 1) := by decide +kernel
theorem d_M_comes_1 : decode (mB Y_M_comes) 1 = .ok (.iconst 0, 1) := by decide +kernel
theorem d_M_comes_2 : decode (mB Y_M_comes) 2 = .ok (.putfield 150, 3) := by decide +kernel
theorem d_M_comes_5 : decode (mB Y_M_comes) 5 = .ok (.aload_n 0, 1) := by decide +kernel
theorem d_M_comes_6 : decode (mB Y_M_comes) 6 = .ok (.iload_n 1, 1) := by decide +kernel
theorem d_M_comes_7 : decode (mB Y_M_comes) 7 = .ok (.invokevirtual 180, 3) := by decide +kernel
theorem d_M_comes_10 : decode (mB Y_M_comes) 10 = .ok (.ifCond .eq 11, 3) := by decide +kernel
theorem d_M_comes_13 : decode (mB Y_M_comes) 13 = .ok (.aload_n 0, 1) := by decide +kernel
theorem d_M_comes_14 : decode (mB Y_M_comes) 14 = .ok (.iload_n 2, 1) := by decide +kernel
theorem d_M_comes_15 : decode (mB Y_M_comes) 15 = .ok (.invokevirtual 180, 3) := by decide +kernel
theorem d_M_comes_18 : decode (mB Y_M_comes) 18 = .ok (.ifCond .ne 5, 3) := by decide +kernel
theorem d_M_comes_21 : decode (mB Y_M_comes) 21 = .ok (.iconst (-1), 1) := by decide +kernel
theorem d_M_comes_22 : decode (mB Y_M_comes) 22 = .ok (.ireturn, 1) := by decide +kernel
theorem d_M_comes_23 : decode (mB Y_M_comes) 23 = .ok (.iload_n 3, 1) := by decide +kernel
theorem d_M_comes_24 : decode (mB Y_M_comes) 24 = .ok (.ifCond .ne 10, 3) := by decide +kernel
theorem d_M_comes_27 : decode (mB Y_M_comes) 27 = .ok (.aload_n 0, 1) := by decide +kernel
theorem d_M_comes_28 : decode (mB Y_M_comes) 28 = .ok (.iload_n 1, 1) := by decide +kernel
theorem d_M_comes_29 : decode (mB Y_M_comes) 29 = .ok (.iload_n 2, 1) := by decide +kernel
theorem d_M_comes_30 : decode (mB Y_M_comes) 30 = .ok (.invokevirtual 184, 3) := by decide +kernel
theorem d_M_comes_33 : decode (mB Y_M_comes) 33 = .ok (.ireturn, 1) := by decide +kernel
theorem d_M_comes_34 : decode (mB Y_M_comes) 34 = .ok (.iload_n 3, 1) := by decide +kernel
theorem d_M_comes_35 : decode (mB Y_M_comes) 35 = .ok (.iconst 1, 1) := by decide +kernel
theorem d_M_comes_36 : decode (mB Y_M_comes) 36 = .ok (.if_icmp .ne 14, 3) := by decide +kernel
theorem d_M_comes_39 : decode (mB Y_M_comes) 39 = .ok (.aload_n 0, 1) := by decide +kernel
theorem d_M_comes_40 : decode (mB Y_M_comes) 40 = .ok (.aload_n 0, 1) := by decide +kernel
theorem d_M_comes_41 : decode (mB Y_M_comes) 41 = .ok (.iload_n 1, 1) := by decide +kernel
theorem d_M_comes_42 : decode (mB Y_M_comes) 42 = .ok (.iload_n 2, 1) := by decide +kernel
theorem d_M_comes_43 : decode (mB Y_M_comes) 43 = .ok (.invokevirtual 187, 3) := by decide +kernel
theorem d_M_comes_46 : decode (mB Y_M_comes) 46 = .ok (.invokevirtual 190, 3) := by decide +kernel
theorem d_M_comes_49 : decode (mB Y_M_comes) 49 = .ok (.ireturn, 1) := by decide +kernel
theorem d_M_comes_50 : decode (mB Y_M_comes) 50 = .ok (.iload_n 3, 1) := by decide +kernel
theorem d_M_comes_51 : decode (mB Y_M_comes) 51 = .ok (.iconst 2, 1) := by decide +kernel
theorem d_M_comes_52 : decode (mB Y_M_comes) 52 = .ok (.if_icmp .ne 12, 3) := by decide +kernel
theorem d_M_comes_55 : decode (mB Y_M_comes) 55 = .ok (.aload_n 0, 1) := by decide +kernel
theorem d_M_comes_56 : decode (mB Y_M_comes) 56 = .ok (.iload_n 1, 1) := by decide +kernel
theorem d_M_comes_57 : decode (mB Y_M_comes) 57 = .ok (.iload_n 2, 1) := by decide +kernel
theorem d_M_comes_58 : decode (mB Y_M_comes) 58 = .ok (.invokevirtual 193, 3) := by decide +kernel
theorem d_M_comes_61 : decode (mB Y_M_comes) 61 = .ok (.goto 4, 3) := by decide +kernel
theorem d_M_comes_64 : decode (mB Y_M_comes) 64 = .ok (.iconst (-1), 1) := by decide +kernel
theorem d_M_comes_65 : decode (mB Y_M_comes) 65 = .ok (.ireturn, 1) := by decide +kernel
theorem ro_M_comes_M_apartOf : roomy Y_M_comes Y_M_apartOf := ⟨Nat.le_of_ble_eq_true rfl, Nat.le_of_ble_eq_true rfl⟩
theorem ro_M_comes_M_delay : roomy Y_M_comes Y_M_delay := ⟨Nat.le_of_ble_eq_true rfl, Nat.le_of_ble_eq_true rfl⟩
theorem ro_M_comes_M_isCell : roomy Y_M_comes Y_M_isCell := ⟨Nat.le_of_ble_eq_true rfl, Nat.le_of_ble_eq_true rfl⟩
theorem ro_M_comes_M_loudBy : roomy Y_M_comes Y_M_loudBy := ⟨Nat.le_of_ble_eq_true rfl, Nat.le_of_ble_eq_true rfl⟩
theorem ro_M_comes_M_sectorOf : roomy Y_M_comes Y_M_sectorOf := ⟨Nat.le_of_ble_eq_true rfl, Nat.le_of_ble_eq_true rfl⟩
def r_M_comes (x1 : Int32) (x2 : Int32) (x3 : Int32) (S : Sto) : Option (Int32 × Sto) :=
  ltS (sw S 104 0 0) (fun S1 =>
  if (r_M_isCell x1) = 0 then
    some ((-1), S1)
  else
    if (r_M_isCell x2) = 0 then
      some ((-1), S1)
    else
      if x3 = 0 then
        (r_M_delay x1 x2 S1).bind (fun r5 =>
        some (r5, S1))
      else
        if x3 = 1 then
          (r_M_apartOf x1 x2).bind (fun r3 =>
          (r_M_loudBy r3).bind (fun r4 =>
          some (r4, S1)))
        else
          if x3 = 2 then
            (r_M_sectorOf x1 x2).bind (fun r2 =>
            some (r2, S1))
          else
            some ((-1), S1))
set_option maxHeartbeats 4000000 in
set_option maxRecDepth 20000 in
theorem c_M_comes {G : Gl} {L : Shp} (hL : Ext L) (S : Sto) (x1 : Int32) (x2 : Int32) (x3 : Int32)  : Ct Y_M_comes G [rf G 104, .int x1, .int x2, .int x3] L S (fi L) (r_M_comes x1 x2 x3 S) := by
  refine ct_of (by decide +kernel) (Nat.le_of_ble_eq_true rfl) (fun g C => ?_)
  show VO g Y_M_comes G (fun z => Qm g Y_M_comes G (fi L z)) 0 0 0 [(0, rf G 104), (1, .int x1), (2, .int x2), (3, .int x3)] [] L S (r_M_comes x1 x2 x3 S) some
  unfold r_M_comes
  refine v_aload_n (pc := 0) C d_M_comes_0 rfl 0 rfl ?_
  refine v_iconst (pc := 1) C d_M_comes_1 ic_0 ?_
  refine v_putI (pc := 2) C fp_M_150 (sh_104 hL) rfl d_M_comes_2 (fun S1 => ?_)
  refine v_aload_n (pc := 5) C d_M_comes_5 rfl 0 rfl ?_
  refine v_iload_n (pc := 6) C d_M_comes_6 rfl 1 rfl ?_
  refine v_ct (pc := 7) (inv_V (As := [.int x1]) (st := []) C ml_M_180 mv_M_isCell ro_M_comes_M_isCell (sh_104 hL) rfl rfl rfl rfl (Nat.le_of_ble_eq_true rfl) d_M_comes_7) (c_M_isCell hL S1 x1) ⟨rfl, rfl⟩ ⟨Nat.zero_le _, Nat.zero_le _⟩ ?_
  refine v_if_eq (pc := 10) (tgt := 21) C d_M_comes_10 rfl (fun _ => ?_) (fun _ => ?_)
  · refine v_iconst (pc := 21) C d_M_comes_21 ic_m1 ?_
    exact v_iret (z := ((-1), S1)) C d_M_comes_22 rfl ⟨Nat.zero_le _, Nat.zero_le _⟩ (rfl) rfl
  · refine v_aload_n (pc := 13) C d_M_comes_13 rfl 0 rfl ?_
    refine v_iload_n (pc := 14) C d_M_comes_14 rfl 2 rfl ?_
    refine v_ct (pc := 15) (inv_V (As := [.int x2]) (st := []) C ml_M_180 mv_M_isCell ro_M_comes_M_isCell (sh_104 hL) rfl rfl rfl rfl (Nat.le_of_ble_eq_true rfl) d_M_comes_15) (c_M_isCell hL S1 x2) ⟨rfl, rfl⟩ ⟨Nat.zero_le _, Nat.zero_le _⟩ ?_
    refine v_if_ne (pc := 18) (tgt := 23) C d_M_comes_18 rfl (fun _ => ?_) (fun _ => ?_)
    · refine v_iload_n (pc := 23) C d_M_comes_23 rfl 3 rfl ?_
      refine v_if_ne (pc := 24) (tgt := 34) C d_M_comes_24 rfl (fun _ => ?_) (fun _ => ?_)
      · refine v_iload_n (pc := 34) C d_M_comes_34 rfl 3 rfl ?_
        refine v_iconst (pc := 35) C d_M_comes_35 ic_1 ?_
        refine v_icmp_ne (pc := 36) (tgt := 50) C d_M_comes_36 rfl (fun _ => ?_) (fun _ => ?_)
        · refine v_iload_n (pc := 50) C d_M_comes_50 rfl 3 rfl ?_
          refine v_iconst (pc := 51) C d_M_comes_51 ic_2 ?_
          refine v_icmp_ne (pc := 52) (tgt := 64) C d_M_comes_52 rfl (fun _ => ?_) (fun _ => ?_)
          · refine v_iconst (pc := 64) C d_M_comes_64 ic_m1 ?_
            exact v_iret (z := ((-1), S1)) C d_M_comes_65 rfl ⟨Nat.zero_le _, Nat.zero_le _⟩ (rfl) rfl
          · refine v_aload_n (pc := 55) C d_M_comes_55 rfl 0 rfl ?_
            refine v_iload_n (pc := 56) C d_M_comes_56 rfl 1 rfl ?_
            refine v_iload_n (pc := 57) C d_M_comes_57 rfl 2 rfl ?_
            refine v_cp (pc := 58) (inv_V (As := [.int x1, .int x2]) (st := []) C ml_M_193 mv_M_sectorOf ro_M_comes_M_sectorOf (sh_104 hL) rfl rfl rfl rfl (Nat.le_of_ble_eq_true rfl) d_M_comes_58) (c_M_sectorOf hL S1 x1 x2) ⟨rfl, rfl⟩ ⟨Nat.zero_le _, Nat.zero_le _⟩ (fun r2 => ?_)
            refine v_goto (pc := 61) (tgt := 65) C d_M_comes_61 rfl ?_
            exact v_iret (z := (r2, S1)) C d_M_comes_65 rfl ⟨Nat.zero_le _, Nat.zero_le _⟩ (rfl) rfl
        · refine v_aload_n (pc := 39) C d_M_comes_39 rfl 0 rfl ?_
          refine v_aload_n (pc := 40) C d_M_comes_40 rfl 0 rfl ?_
          refine v_iload_n (pc := 41) C d_M_comes_41 rfl 1 rfl ?_
          refine v_iload_n (pc := 42) C d_M_comes_42 rfl 2 rfl ?_
          refine v_cp (pc := 43) (inv_V (As := [.int x1, .int x2]) (st := [rf G 104]) C ml_M_187 mv_M_apartOf ro_M_comes_M_apartOf (sh_104 hL) rfl rfl rfl rfl (Nat.le_of_ble_eq_true rfl) d_M_comes_43) (c_M_apartOf hL S1 x1 x2) ⟨rfl, rfl⟩ ⟨Nat.zero_le _, Nat.zero_le _⟩ (fun r3 => ?_)
          refine v_cp (pc := 46) (inv_V (As := [.int r3]) (st := []) C ml_M_190 mv_M_loudBy ro_M_comes_M_loudBy (sh_104 hL) rfl rfl rfl rfl (Nat.le_of_ble_eq_true rfl) d_M_comes_46) (c_M_loudBy hL S1 r3) ⟨rfl, rfl⟩ ⟨Nat.zero_le _, Nat.zero_le _⟩ (fun r4 => ?_)
          exact v_iret (z := (r4, S1)) C d_M_comes_49 rfl ⟨Nat.zero_le _, Nat.zero_le _⟩ (rfl) rfl
      · refine v_aload_n (pc := 27) C d_M_comes_27 rfl 0 rfl ?_
        refine v_iload_n (pc := 28) C d_M_comes_28 rfl 1 rfl ?_
        refine v_iload_n (pc := 29) C d_M_comes_29 rfl 2 rfl ?_
        refine v_cp (pc := 30) (inv_V (As := [.int x1, .int x2]) (st := []) C ml_M_184 mv_M_delay ro_M_comes_M_delay (sh_104 hL) rfl rfl rfl rfl (Nat.le_of_ble_eq_true rfl) d_M_comes_30) (c_M_delay hL S1 x1 x2) ⟨rfl, rfl⟩ ⟨Nat.zero_le _, Nat.zero_le _⟩ (fun r5 => ?_)
        exact v_iret (z := (r5, S1)) C d_M_comes_33 rfl ⟨Nat.zero_le _, Nat.zero_le _⟩ (rfl) rfl
    · refine v_iconst (pc := 21) C d_M_comes_21 ic_m1 ?_
      exact v_iret (z := ((-1), S1)) C d_M_comes_22 rfl ⟨Nat.zero_le _, Nat.zero_le _⟩ (rfl) rfl
-- M_isSide
theorem d_M_isSide_0 : decode (mB Y_M_isSide) 0 = .ok (.aload_n 0, 1) := by decide +kernel
theorem d_M_isSide_1 : decode (mB Y_M_isSide) 1 = .ok (.iload_n 1, 1) := by decide +kernel
theorem d_M_isSide_2 : decode (mB Y_M_isSide) 2 = .ok (.iconst 0, 1) := by decide +kernel
theorem d_M_isSide_3 : decode (mB Y_M_isSide) 3 = .ok (.bipush 59, 2) := by decide +kernel
theorem d_M_isSide_5 : decode (mB Y_M_isSide) 5 = .ok (.invokevirtual 153, 3) := by decide +kernel
theorem d_M_isSide_8 : decode (mB Y_M_isSide) 8 = .ok (.ireturn, 1) := by decide +kernel
theorem ro_M_isSide_M_isIn : roomy Y_M_isSide Y_M_isIn := ⟨Nat.le_of_ble_eq_true rfl, Nat.le_of_ble_eq_true rfl⟩
def r_M_isSide (x1 : Int32) : Int32 := (r_M_isIn x1 0 59)
theorem z_M_isSide (x1 : Int32) : b01 (r_M_isSide x1) = true := by
  unfold r_M_isSide
  (repeat' split) <;> first | rfl | decide | exact z_M_isIn .. | rfl
set_option maxHeartbeats 4000000 in
set_option maxRecDepth 20000 in
theorem c_M_isSide {G : Gl} {L : Shp} (hL : Ext L) (S : Sto) (x1 : Int32)  : Ct Y_M_isSide G [rf G 104, .int x1] L S (fp L S) (some (r_M_isSide x1)) := by
  refine ct_of (by decide +kernel) (Nat.le_of_ble_eq_true rfl) (fun g C => ?_)
  have e : (some (r_M_isSide x1) : Option Int32) = some (r_M_isIn x1 0 59) := rfl
  rw [e]
  show VO g Y_M_isSide G (fun z => Qm g Y_M_isSide G (fp L S z)) 0 0 0 [(0, rf G 104), (1, .int x1)] [] L S _ some
  refine v_aload_n (pc := 0) C d_M_isSide_0 rfl 0 rfl ?_
  refine v_iload_n (pc := 1) C d_M_isSide_1 rfl 1 rfl ?_
  refine v_iconst (pc := 2) C d_M_isSide_2 ic_0 ?_
  refine v_bipush (pc := 3) C d_M_isSide_3 bp_59 ?_
  refine v_ct (pc := 5) (inv_V (As := [.int x1, .int 0, .int 59]) (st := []) C ml_M_153 mv_M_isIn ro_M_isSide_M_isIn (sh_104 hL) rfl rfl rfl rfl (Nat.le_of_ble_eq_true rfl) d_M_isSide_5) (c_M_isIn hL S x1 0 59) ⟨rfl, rfl⟩ ⟨Nat.zero_le _, Nat.zero_le _⟩ ?_
  exact v_zret (z := (r_M_isIn x1 0 59)) C d_M_isSide_8 rfl (b01_n (z_M_isIn x1 0 59)) ⟨Nat.zero_le _, Nat.zero_le _⟩ (rfl) rfl
-- M_wall
theorem d_M_wall_0 : decode (mB Y_M_wall) 0 = .ok (.aload_n 0, 1) := by decide +kernel
theorem d_M_wall_1 : decode (mB Y_M_wall) 1 = .ok (.iconst 0, 1) := by decide +kernel
theorem d_M_wall_2 : decode (mB Y_M_wall) 2 = .ok (.putfield 150, 3) := by decide +kernel
theorem d_M_wall_5 : decode (mB Y_M_wall) 5 = .ok (.aload_n 0, 1) := by decide +kernel
theorem d_M_wall_6 : decode (mB Y_M_wall) 6 = .ok (.iload_n 2, 1) := by decide +kernel
theorem d_M_wall_7 : decode (mB Y_M_wall) 7 = .ok (.invokevirtual 196, 3) := by decide +kernel
theorem d_M_wall_10 : decode (mB Y_M_wall) 10 = .ok (.ifCond .eq 47, 3) := by decide +kernel
theorem d_M_wall_13 : decode (mB Y_M_wall) 13 = .ok (.aload_n 0, 1) := by decide +kernel
theorem d_M_wall_14 : decode (mB Y_M_wall) 14 = .ok (.iload_n 3, 1) := by decide +kernel
theorem d_M_wall_15 : decode (mB Y_M_wall) 15 = .ok (.invokevirtual 196, 3) := by decide +kernel
theorem d_M_wall_18 : decode (mB Y_M_wall) 18 = .ok (.ifCond .eq 39, 3) := by decide +kernel
theorem d_M_wall_21 : decode (mB Y_M_wall) 21 = .ok (.aload_n 0, 1) := by decide +kernel
theorem d_M_wall_22 : decode (mB Y_M_wall) 22 = .ok (.iload 4, 2) := by decide +kernel
theorem d_M_wall_24 : decode (mB Y_M_wall) 24 = .ok (.invokevirtual 196, 3) := by decide +kernel
theorem d_M_wall_27 : decode (mB Y_M_wall) 27 = .ok (.ifCond .eq 30, 3) := by decide +kernel
theorem d_M_wall_30 : decode (mB Y_M_wall) 30 = .ok (.iload_n 3, 1) := by decide +kernel
theorem d_M_wall_31 : decode (mB Y_M_wall) 31 = .ok (.iload 4, 2) := by decide +kernel
theorem d_M_wall_33 : decode (mB Y_M_wall) 33 = .ok (.if_icmp .gt 24, 3) := by decide +kernel
theorem d_M_wall_36 : decode (mB Y_M_wall) 36 = .ok (.aload_n 0, 1) := by decide +kernel
theorem d_M_wall_37 : decode (mB Y_M_wall) 37 = .ok (.iload 5, 2) := by decide +kernel
theorem d_M_wall_39 : decode (mB Y_M_wall) 39 = .ok (.iconst 0, 1) := by decide +kernel
theorem d_M_wall_40 : decode (mB Y_M_wall) 40 = .ok (.bipush 100, 2) := by decide +kernel
theorem d_M_wall_42 : decode (mB Y_M_wall) 42 = .ok (.invokevirtual 153, 3) := by decide +kernel
theorem d_M_wall_45 : decode (mB Y_M_wall) 45 = .ok (.ifCond .eq 12, 3) := by decide +kernel
theorem d_M_wall_48 : decode (mB Y_M_wall) 48 = .ok (.aload_n 0, 1) := by decide +kernel
theorem d_M_wall_49 : decode (mB Y_M_wall) 49 = .ok (.getfield 199, 3) := by decide +kernel
theorem d_M_wall_52 : decode (mB Y_M_wall) 52 = .ok (.bipush 10, 2) := by decide +kernel
theorem d_M_wall_54 : decode (mB Y_M_wall) 54 = .ok (.if_icmp .ne 5, 3) := by decide +kernel
theorem d_M_wall_57 : decode (mB Y_M_wall) 57 = .ok (.iconst (-1), 1) := by decide +kernel
theorem d_M_wall_58 : decode (mB Y_M_wall) 58 = .ok (.ireturn, 1) := by decide +kernel
theorem d_M_wall_59 : decode (mB Y_M_wall) 59 = .ok (.aload_n 0, 1) := by decide +kernel
theorem d_M_wall_60 : decode (mB Y_M_wall) 60 = .ok (.getfield 16, 3) := by decide +kernel
theorem d_M_wall_63 : decode (mB Y_M_wall) 63 = .ok (.aload_n 0, 1) := by decide +kernel
theorem d_M_wall_64 : decode (mB Y_M_wall) 64 = .ok (.getfield 199, 3) := by decide +kernel
theorem d_M_wall_67 : decode (mB Y_M_wall) 67 = .ok (.iload_n 1, 1) := by decide +kernel
theorem d_M_wall_68 : decode (mB Y_M_wall) 68 = .ok (.bastore, 1) := by decide +kernel
theorem d_M_wall_69 : decode (mB Y_M_wall) 69 = .ok (.aload_n 0, 1) := by decide +kernel
theorem d_M_wall_70 : decode (mB Y_M_wall) 70 = .ok (.getfield 20, 3) := by decide +kernel
theorem d_M_wall_73 : decode (mB Y_M_wall) 73 = .ok (.aload_n 0, 1) := by decide +kernel
theorem d_M_wall_74 : decode (mB Y_M_wall) 74 = .ok (.getfield 199, 3) := by decide +kernel
theorem d_M_wall_77 : decode (mB Y_M_wall) 77 = .ok (.iload_n 2, 1) := by decide +kernel
theorem d_M_wall_78 : decode (mB Y_M_wall) 78 = .ok (.iastore, 1) := by decide +kernel
theorem d_M_wall_79 : decode (mB Y_M_wall) 79 = .ok (.aload_n 0, 1) := by decide +kernel
theorem d_M_wall_80 : decode (mB Y_M_wall) 80 = .ok (.getfield 24, 3) := by decide +kernel
theorem d_M_wall_83 : decode (mB Y_M_wall) 83 = .ok (.aload_n 0, 1) := by decide +kernel
theorem d_M_wall_84 : decode (mB Y_M_wall) 84 = .ok (.getfield 199, 3) := by decide +kernel
theorem d_M_wall_87 : decode (mB Y_M_wall) 87 = .ok (.iload_n 3, 1) := by decide +kernel
theorem d_M_wall_88 : decode (mB Y_M_wall) 88 = .ok (.iastore, 1) := by decide +kernel
theorem d_M_wall_89 : decode (mB Y_M_wall) 89 = .ok (.aload_n 0, 1) := by decide +kernel
theorem d_M_wall_90 : decode (mB Y_M_wall) 90 = .ok (.getfield 27, 3) := by decide +kernel
theorem d_M_wall_93 : decode (mB Y_M_wall) 93 = .ok (.aload_n 0, 1) := by decide +kernel
theorem d_M_wall_94 : decode (mB Y_M_wall) 94 = .ok (.getfield 199, 3) := by decide +kernel
theorem d_M_wall_97 : decode (mB Y_M_wall) 97 = .ok (.iload 4, 2) := by decide +kernel
theorem d_M_wall_99 : decode (mB Y_M_wall) 99 = .ok (.iastore, 1) := by decide +kernel
theorem d_M_wall_100 : decode (mB Y_M_wall) 100 = .ok (.aload_n 0, 1) := by decide +kernel
theorem d_M_wall_101 : decode (mB Y_M_wall) 101 = .ok (.getfield 30, 3) := by decide +kernel
theorem d_M_wall_104 : decode (mB Y_M_wall) 104 = .ok (.aload_n 0, 1) := by decide +kernel
theorem d_M_wall_105 : decode (mB Y_M_wall) 105 = .ok (.getfield 199, 3) := by decide +kernel
theorem d_M_wall_108 : decode (mB Y_M_wall) 108 = .ok (.iload 5, 2) := by decide +kernel
theorem d_M_wall_110 : decode (mB Y_M_wall) 110 = .ok (.iastore, 1) := by decide +kernel
theorem d_M_wall_111 : decode (mB Y_M_wall) 111 = .ok (.aload_n 0, 1) := by decide +kernel
theorem d_M_wall_112 : decode (mB Y_M_wall) 112 = .ok (.aload_n 0, 1) := by decide +kernel
theorem d_M_wall_113 : decode (mB Y_M_wall) 113 = .ok (.getfield 199, 3) := by decide +kernel
theorem d_M_wall_116 : decode (mB Y_M_wall) 116 = .ok (.iconst 1, 1) := by decide +kernel
theorem d_M_wall_117 : decode (mB Y_M_wall) 117 = .ok (.iadd, 1) := by decide +kernel
theorem d_M_wall_118 : decode (mB Y_M_wall) 118 = .ok (.putfield 199, 3) := by decide +kernel
theorem d_M_wall_121 : decode (mB Y_M_wall) 121 = .ok (.aload_n 0, 1) := by decide +kernel
theorem d_M_wall_122 : decode (mB Y_M_wall) 122 = .ok (.getfield 199, 3) := by decide +kernel
theorem d_M_wall_125 : decode (mB Y_M_wall) 125 = .ok (.iconst 1, 1) := by decide +kernel
theorem d_M_wall_126 : decode (mB Y_M_wall) 126 = .ok (.isub, 1) := by decide +kernel
theorem d_M_wall_127 : decode (mB Y_M_wall) 127 = .ok (.ireturn, 1) := by decide +kernel
theorem ro_M_wall_M_isIn : roomy Y_M_wall Y_M_isIn := ⟨Nat.le_of_ble_eq_true rfl, Nat.le_of_ble_eq_true rfl⟩
theorem ro_M_wall_M_isSide : roomy Y_M_wall Y_M_isSide := ⟨Nat.le_of_ble_eq_true rfl, Nat.le_of_ble_eq_true rfl⟩
def r_M_wall (x1 : Int32) (x2 : Int32) (x3 : Int32) (x4 : Int32) (x5 : Int32) (S : Sto) : Option (Int32 × Sto) :=
  ltS (sw S 104 0 0) (fun S1 =>
  if (r_M_isSide x2) = 0 then
    some ((-1), S1)
  else
    if (r_M_isSide x3) = 0 then
      some ((-1), S1)
    else
      if (r_M_isSide x4) = 0 then
        some ((-1), S1)
      else
        if x4 < x3 then
          some ((-1), S1)
        else
          if (r_M_isIn x5 0 100) = 0 then
            some ((-1), S1)
          else
            if (S1 104 5) = 10 then
              some ((-1), S1)
            else
              chk (inr (S1 104 5) 10) (
              ltS (sw S1 105 ((S1 104 5).toNatClampNeg) (vp_nar .boolean x1)) (fun S2 =>
              chk (inr (S2 104 5) 10) (
              ltS (sw S2 106 ((S2 104 5).toNatClampNeg) x2) (fun S3 =>
              chk (inr (S3 104 5) 10) (
              ltS (sw S3 107 ((S3 104 5).toNatClampNeg) x3) (fun S4 =>
              chk (inr (S4 104 5) 10) (
              ltS (sw S4 108 ((S4 104 5).toNatClampNeg) x4) (fun S5 =>
              chk (inr (S5 104 5) 10) (
              ltS (sw S5 109 ((S5 104 5).toNatClampNeg) x5) (fun S6 =>
              ltS (sw S6 104 5 ((S6 104 5) + 1)) (fun S7 =>
              some ((S7 104 5) - 1, S7)))))))))))))
set_option maxHeartbeats 4000000 in
set_option maxRecDepth 20000 in
theorem c_M_wall {G : Gl} {L : Shp} (hL : Ext L) (S : Sto) (x1 : Int32) (x2 : Int32) (x3 : Int32) (x4 : Int32) (x5 : Int32)  : Ct Y_M_wall G [rf G 104, .int x1, .int x2, .int x3, .int x4, .int x5] L S (fi L) (r_M_wall x1 x2 x3 x4 x5 S) := by
  refine ct_of (by decide +kernel) (Nat.le_of_ble_eq_true rfl) (fun g C => ?_)
  show VO g Y_M_wall G (fun z => Qm g Y_M_wall G (fi L z)) 0 0 0 [(0, rf G 104), (1, .int x1), (2, .int x2), (3, .int x3), (4, .int x4), (5, .int x5)] [] L S (r_M_wall x1 x2 x3 x4 x5 S) some
  unfold r_M_wall
  refine v_aload_n (pc := 0) C d_M_wall_0 rfl 0 rfl ?_
  refine v_iconst (pc := 1) C d_M_wall_1 ic_0 ?_
  refine v_putI (pc := 2) C fp_M_150 (sh_104 hL) rfl d_M_wall_2 (fun S1 => ?_)
  refine v_aload_n (pc := 5) C d_M_wall_5 rfl 0 rfl ?_
  refine v_iload_n (pc := 6) C d_M_wall_6 rfl 2 rfl ?_
  refine v_ct (pc := 7) (inv_V (As := [.int x2]) (st := []) C ml_M_196 mv_M_isSide ro_M_wall_M_isSide (sh_104 hL) rfl rfl rfl rfl (Nat.le_of_ble_eq_true rfl) d_M_wall_7) (c_M_isSide hL S1 x2) ⟨rfl, rfl⟩ ⟨Nat.zero_le _, Nat.zero_le _⟩ ?_
  refine v_if_eq (pc := 10) (tgt := 57) C d_M_wall_10 rfl (fun _ => ?_) (fun _ => ?_)
  · refine v_iconst (pc := 57) C d_M_wall_57 ic_m1 ?_
    exact v_iret (z := ((-1), S1)) C d_M_wall_58 rfl ⟨Nat.zero_le _, Nat.zero_le _⟩ (rfl) rfl
  · refine v_aload_n (pc := 13) C d_M_wall_13 rfl 0 rfl ?_
    refine v_iload_n (pc := 14) C d_M_wall_14 rfl 3 rfl ?_
    refine v_ct (pc := 15) (inv_V (As := [.int x3]) (st := []) C ml_M_196 mv_M_isSide ro_M_wall_M_isSide (sh_104 hL) rfl rfl rfl rfl (Nat.le_of_ble_eq_true rfl) d_M_wall_15) (c_M_isSide hL S1 x3) ⟨rfl, rfl⟩ ⟨Nat.zero_le _, Nat.zero_le _⟩ ?_
    refine v_if_eq (pc := 18) (tgt := 57) C d_M_wall_18 rfl (fun _ => ?_) (fun _ => ?_)
    · refine v_iconst (pc := 57) C d_M_wall_57 ic_m1 ?_
      exact v_iret (z := ((-1), S1)) C d_M_wall_58 rfl ⟨Nat.zero_le _, Nat.zero_le _⟩ (rfl) rfl
    · refine v_aload_n (pc := 21) C d_M_wall_21 rfl 0 rfl ?_
      refine v_iload (pc := 22) C d_M_wall_22 4 rfl ?_
      refine v_ct (pc := 24) (inv_V (As := [.int x4]) (st := []) C ml_M_196 mv_M_isSide ro_M_wall_M_isSide (sh_104 hL) rfl rfl rfl rfl (Nat.le_of_ble_eq_true rfl) d_M_wall_24) (c_M_isSide hL S1 x4) ⟨rfl, rfl⟩ ⟨Nat.zero_le _, Nat.zero_le _⟩ ?_
      refine v_if_eq (pc := 27) (tgt := 57) C d_M_wall_27 rfl (fun _ => ?_) (fun _ => ?_)
      · refine v_iconst (pc := 57) C d_M_wall_57 ic_m1 ?_
        exact v_iret (z := ((-1), S1)) C d_M_wall_58 rfl ⟨Nat.zero_le _, Nat.zero_le _⟩ (rfl) rfl
      · refine v_iload_n (pc := 30) C d_M_wall_30 rfl 3 rfl ?_
        refine v_iload (pc := 31) C d_M_wall_31 4 rfl ?_
        refine v_icmp_gt (pc := 33) (tgt := 57) C d_M_wall_33 rfl (fun _ => ?_) (fun _ => ?_)
        · refine v_iconst (pc := 57) C d_M_wall_57 ic_m1 ?_
          exact v_iret (z := ((-1), S1)) C d_M_wall_58 rfl ⟨Nat.zero_le _, Nat.zero_le _⟩ (rfl) rfl
        · refine v_aload_n (pc := 36) C d_M_wall_36 rfl 0 rfl ?_
          refine v_iload (pc := 37) C d_M_wall_37 5 rfl ?_
          refine v_iconst (pc := 39) C d_M_wall_39 ic_0 ?_
          refine v_bipush (pc := 40) C d_M_wall_40 bp_100 ?_
          refine v_ct (pc := 42) (inv_V (As := [.int x5, .int 0, .int 100]) (st := []) C ml_M_153 mv_M_isIn ro_M_wall_M_isIn (sh_104 hL) rfl rfl rfl rfl (Nat.le_of_ble_eq_true rfl) d_M_wall_42) (c_M_isIn hL S1 x5 0 100) ⟨rfl, rfl⟩ ⟨Nat.zero_le _, Nat.zero_le _⟩ ?_
          refine v_if_eq (pc := 45) (tgt := 57) C d_M_wall_45 rfl (fun _ => ?_) (fun _ => ?_)
          · refine v_iconst (pc := 57) C d_M_wall_57 ic_m1 ?_
            exact v_iret (z := ((-1), S1)) C d_M_wall_58 rfl ⟨Nat.zero_le _, Nat.zero_le _⟩ (rfl) rfl
          · refine v_aload_n (pc := 48) C d_M_wall_48 rfl 0 rfl ?_
            refine v_getI (pc := 49) C fl_M_199 (sh_104 hL) rfl d_M_wall_49 ?_
            refine v_bipush (pc := 52) C d_M_wall_52 bp_10 ?_
            refine v_icmp_ne (pc := 54) (tgt := 59) C d_M_wall_54 rfl (fun _ => ?_) (fun _ => ?_)
            · refine v_aload_n (pc := 59) C d_M_wall_59 rfl 0 rfl ?_
              refine v_getR (pc := 60) C fl_M_16 (sh_104 hL) rfl d_M_wall_60 ?_
              refine v_aload_n (pc := 63) C d_M_wall_63 rfl 0 rfl ?_
              refine v_getI (pc := 64) C fl_M_199 (sh_104 hL) rfl d_M_wall_64 ?_
              refine v_iload_n (pc := 67) C d_M_wall_67 rfl 1 rfl ?_
              refine v_zast (pc := 68) C (sh_105 hL) d_M_wall_68 (fun _ S2 => ?_)
              refine v_aload_n (pc := 69) C d_M_wall_69 rfl 0 rfl ?_
              refine v_getR (pc := 70) C fl_M_20 (sh_104 hL) rfl d_M_wall_70 ?_
              refine v_aload_n (pc := 73) C d_M_wall_73 rfl 0 rfl ?_
              refine v_getI (pc := 74) C fl_M_199 (sh_104 hL) rfl d_M_wall_74 ?_
              refine v_iload_n (pc := 77) C d_M_wall_77 rfl 2 rfl ?_
              refine v_iast (pc := 78) C (sh_106 hL) d_M_wall_78 (fun _ S3 => ?_)
              refine v_aload_n (pc := 79) C d_M_wall_79 rfl 0 rfl ?_
              refine v_getR (pc := 80) C fl_M_24 (sh_104 hL) rfl d_M_wall_80 ?_
              refine v_aload_n (pc := 83) C d_M_wall_83 rfl 0 rfl ?_
              refine v_getI (pc := 84) C fl_M_199 (sh_104 hL) rfl d_M_wall_84 ?_
              refine v_iload_n (pc := 87) C d_M_wall_87 rfl 3 rfl ?_
              refine v_iast (pc := 88) C (sh_107 hL) d_M_wall_88 (fun _ S4 => ?_)
              refine v_aload_n (pc := 89) C d_M_wall_89 rfl 0 rfl ?_
              refine v_getR (pc := 90) C fl_M_27 (sh_104 hL) rfl d_M_wall_90 ?_
              refine v_aload_n (pc := 93) C d_M_wall_93 rfl 0 rfl ?_
              refine v_getI (pc := 94) C fl_M_199 (sh_104 hL) rfl d_M_wall_94 ?_
              refine v_iload (pc := 97) C d_M_wall_97 4 rfl ?_
              refine v_iast (pc := 99) C (sh_108 hL) d_M_wall_99 (fun _ S5 => ?_)
              refine v_aload_n (pc := 100) C d_M_wall_100 rfl 0 rfl ?_
              refine v_getR (pc := 101) C fl_M_30 (sh_104 hL) rfl d_M_wall_101 ?_
              refine v_aload_n (pc := 104) C d_M_wall_104 rfl 0 rfl ?_
              refine v_getI (pc := 105) C fl_M_199 (sh_104 hL) rfl d_M_wall_105 ?_
              refine v_iload (pc := 108) C d_M_wall_108 5 rfl ?_
              refine v_iast (pc := 110) C (sh_109 hL) d_M_wall_110 (fun _ S6 => ?_)
              refine v_aload_n (pc := 111) C d_M_wall_111 rfl 0 rfl ?_
              refine v_aload_n (pc := 112) C d_M_wall_112 rfl 0 rfl ?_
              refine v_getI (pc := 113) C fl_M_199 (sh_104 hL) rfl d_M_wall_113 ?_
              refine v_iconst (pc := 116) C d_M_wall_116 ic_1 ?_
              refine v_iadd (pc := 117) C d_M_wall_117 ?_
              refine v_putI (pc := 118) C fp_M_199 (sh_104 hL) rfl d_M_wall_118 (fun S7 => ?_)
              refine v_aload_n (pc := 121) C d_M_wall_121 rfl 0 rfl ?_
              refine v_getI (pc := 122) C fl_M_199 (sh_104 hL) rfl d_M_wall_122 ?_
              refine v_iconst (pc := 125) C d_M_wall_125 ic_1 ?_
              refine v_isub (pc := 126) C d_M_wall_126 ?_
              exact v_iret (z := ((S7 104 5) - 1, S7)) C d_M_wall_127 rfl ⟨Nat.zero_le _, Nat.zero_le _⟩ (rfl) rfl
            · refine v_iconst (pc := 57) C d_M_wall_57 ic_m1 ?_
              exact v_iret (z := ((-1), S1)) C d_M_wall_58 rfl ⟨Nat.zero_le _, Nat.zero_le _⟩ (rfl) rfl
-- M_spot
theorem d_M_spot_0 : decode (mB Y_M_spot) 0 = .ok (.aload_n 0, 1) := by decide +kernel
theorem d_M_spot_1 : decode (mB Y_M_spot) 1 = .ok (.iconst 0, 1) := by decide +kernel
theorem d_M_spot_2 : decode (mB Y_M_spot) 2 = .ok (.putfield 150, 3) := by decide +kernel
theorem d_M_spot_5 : decode (mB Y_M_spot) 5 = .ok (.aload_n 0, 1) := by decide +kernel
theorem d_M_spot_6 : decode (mB Y_M_spot) 6 = .ok (.iload_n 1, 1) := by decide +kernel
theorem d_M_spot_7 : decode (mB Y_M_spot) 7 = .ok (.iconst 0, 1) := by decide +kernel
theorem d_M_spot_8 : decode (mB Y_M_spot) 8 = .ok (.bipush 9, 2) := by decide +kernel
theorem d_M_spot_10 : decode (mB Y_M_spot) 10 = .ok (.invokevirtual 153, 3) := by decide +kernel
theorem d_M_spot_13 : decode (mB Y_M_spot) 13 = .ok (.ifCond .eq 11, 3) := by decide +kernel
theorem d_M_spot_16 : decode (mB Y_M_spot) 16 = .ok (.aload_n 0, 1) := by decide +kernel
theorem d_M_spot_17 : decode (mB Y_M_spot) 17 = .ok (.iload_n 2, 1) := by decide +kernel
theorem d_M_spot_18 : decode (mB Y_M_spot) 18 = .ok (.invokevirtual 180, 3) := by decide +kernel
theorem d_M_spot_21 : decode (mB Y_M_spot) 21 = .ok (.ifCond .ne 5, 3) := by decide +kernel
theorem d_M_spot_24 : decode (mB Y_M_spot) 24 = .ok (.iconst 0, 1) := by decide +kernel
theorem d_M_spot_25 : decode (mB Y_M_spot) 25 = .ok (.ireturn, 1) := by decide +kernel
theorem d_M_spot_26 : decode (mB Y_M_spot) 26 = .ok (.aload_n 0, 1) := by decide +kernel
theorem d_M_spot_27 : decode (mB Y_M_spot) 27 = .ok (.getfield 33, 3) := by decide +kernel
theorem d_M_spot_30 : decode (mB Y_M_spot) 30 = .ok (.iload_n 1, 1) := by decide +kernel
theorem d_M_spot_31 : decode (mB Y_M_spot) 31 = .ok (.iload_n 2, 1) := by decide +kernel
theorem d_M_spot_32 : decode (mB Y_M_spot) 32 = .ok (.iastore, 1) := by decide +kernel
theorem d_M_spot_33 : decode (mB Y_M_spot) 33 = .ok (.iconst 1, 1) := by decide +kernel
theorem d_M_spot_34 : decode (mB Y_M_spot) 34 = .ok (.ireturn, 1) := by decide +kernel
theorem ro_M_spot_M_isCell : roomy Y_M_spot Y_M_isCell := ⟨Nat.le_of_ble_eq_true rfl, Nat.le_of_ble_eq_true rfl⟩
theorem ro_M_spot_M_isIn : roomy Y_M_spot Y_M_isIn := ⟨Nat.le_of_ble_eq_true rfl, Nat.le_of_ble_eq_true rfl⟩
def r_M_spot (x1 : Int32) (x2 : Int32) (S : Sto) : Option (Int32 × Sto) :=
  ltS (sw S 104 0 0) (fun S1 =>
  if (r_M_isIn x1 0 9) = 0 then
    some (0, S1)
  else
    if (r_M_isCell x2) = 0 then
      some (0, S1)
    else
      chk (inr x1 10) (
      ltS (sw S1 110 x1.toNatClampNeg x2) (fun S2 =>
      some (1, S2))))
set_option maxHeartbeats 4000000 in
set_option maxRecDepth 20000 in
theorem c_M_spot {G : Gl} {L : Shp} (hL : Ext L) (S : Sto) (x1 : Int32) (x2 : Int32)  : Ct Y_M_spot G [rf G 104, .int x1, .int x2] L S (fi L) (r_M_spot x1 x2 S) := by
  refine ct_of (by decide +kernel) (Nat.le_of_ble_eq_true rfl) (fun g C => ?_)
  show VO g Y_M_spot G (fun z => Qm g Y_M_spot G (fi L z)) 0 0 0 [(0, rf G 104), (1, .int x1), (2, .int x2)] [] L S (r_M_spot x1 x2 S) some
  unfold r_M_spot
  refine v_aload_n (pc := 0) C d_M_spot_0 rfl 0 rfl ?_
  refine v_iconst (pc := 1) C d_M_spot_1 ic_0 ?_
  refine v_putI (pc := 2) C fp_M_150 (sh_104 hL) rfl d_M_spot_2 (fun S1 => ?_)
  refine v_aload_n (pc := 5) C d_M_spot_5 rfl 0 rfl ?_
  refine v_iload_n (pc := 6) C d_M_spot_6 rfl 1 rfl ?_
  refine v_iconst (pc := 7) C d_M_spot_7 ic_0 ?_
  refine v_bipush (pc := 8) C d_M_spot_8 bp_9 ?_
  refine v_ct (pc := 10) (inv_V (As := [.int x1, .int 0, .int 9]) (st := []) C ml_M_153 mv_M_isIn ro_M_spot_M_isIn (sh_104 hL) rfl rfl rfl rfl (Nat.le_of_ble_eq_true rfl) d_M_spot_10) (c_M_isIn hL S1 x1 0 9) ⟨rfl, rfl⟩ ⟨Nat.zero_le _, Nat.zero_le _⟩ ?_
  refine v_if_eq (pc := 13) (tgt := 24) C d_M_spot_13 rfl (fun _ => ?_) (fun _ => ?_)
  · refine v_iconst (pc := 24) C d_M_spot_24 ic_0 ?_
    exact v_zret (z := (0, S1)) C d_M_spot_25 rfl (b01_n (by decide)) ⟨Nat.zero_le _, Nat.zero_le _⟩ (rfl) rfl
  · refine v_aload_n (pc := 16) C d_M_spot_16 rfl 0 rfl ?_
    refine v_iload_n (pc := 17) C d_M_spot_17 rfl 2 rfl ?_
    refine v_ct (pc := 18) (inv_V (As := [.int x2]) (st := []) C ml_M_180 mv_M_isCell ro_M_spot_M_isCell (sh_104 hL) rfl rfl rfl rfl (Nat.le_of_ble_eq_true rfl) d_M_spot_18) (c_M_isCell hL S1 x2) ⟨rfl, rfl⟩ ⟨Nat.zero_le _, Nat.zero_le _⟩ ?_
    refine v_if_ne (pc := 21) (tgt := 26) C d_M_spot_21 rfl (fun _ => ?_) (fun _ => ?_)
    · refine v_aload_n (pc := 26) C d_M_spot_26 rfl 0 rfl ?_
      refine v_getR (pc := 27) C fl_M_33 (sh_104 hL) rfl d_M_spot_27 ?_
      refine v_iload_n (pc := 30) C d_M_spot_30 rfl 1 rfl ?_
      refine v_iload_n (pc := 31) C d_M_spot_31 rfl 2 rfl ?_
      refine v_iast (pc := 32) C (sh_110 hL) d_M_spot_32 (fun _ S2 => ?_)
      refine v_iconst (pc := 33) C d_M_spot_33 ic_1 ?_
      exact v_zret (z := (1, S2)) C d_M_spot_34 rfl (b01_n (by decide)) ⟨Nat.zero_le _, Nat.zero_le _⟩ (rfl) rfl
    · refine v_iconst (pc := 24) C d_M_spot_24 ic_0 ?_
      exact v_zret (z := (0, S1)) C d_M_spot_25 rfl (b01_n (by decide)) ⟨Nat.zero_le _, Nat.zero_le _⟩ (rfl) rfl
