-- M_isMarkSign
theorem d_M_isMarkSign_0 : decode (mB Y_M_isMarkSign) 0 = .ok (.iload_n 1, 1) := by decide +kernel
theorem d_M_isMarkSign_1 : decode (mB Y_M_isMarkSign) 1 = .ok (.bipush 59, 2) := by decide +kernel
theorem d_M_isMarkSign_3 : decode (mB Y_M_isMarkSign) 3 = .ok (.if_icmp .eq 57, 3) := by decide +kernel
theorem d_M_isMarkSign_6 : decode (mB Y_M_isMarkSign) 6 = .ok (.iload_n 1, 1) := by decide +kernel
theorem d_M_isMarkSign_7 : decode (mB Y_M_isMarkSign) 7 = .ok (.bipush 43, 2) := by decide +kernel
theorem d_M_isMarkSign_9 : decode (mB Y_M_isMarkSign) 9 = .ok (.if_icmp .eq 51, 3) := by decide +kernel
theorem d_M_isMarkSign_12 : decode (mB Y_M_isMarkSign) 12 = .ok (.iload_n 1, 1) := by decide +kernel
theorem d_M_isMarkSign_13 : decode (mB Y_M_isMarkSign) 13 = .ok (.bipush 45, 2) := by decide +kernel
theorem d_M_isMarkSign_15 : decode (mB Y_M_isMarkSign) 15 = .ok (.if_icmp .eq 45, 3) := by decide +kernel
theorem d_M_isMarkSign_18 : decode (mB Y_M_isMarkSign) 18 = .ok (.iload_n 1, 1) := by decide +kernel
theorem d_M_isMarkSign_19 : decode (mB Y_M_isMarkSign) 19 = .ok (.bipush 42, 2) := by decide +kernel
theorem d_M_isMarkSign_21 : decode (mB Y_M_isMarkSign) 21 = .ok (.if_icmp .eq 39, 3) := by decide +kernel
theorem d_M_isMarkSign_24 : decode (mB Y_M_isMarkSign) 24 = .ok (.iload_n 1, 1) := by decide +kernel
theorem d_M_isMarkSign_25 : decode (mB Y_M_isMarkSign) 25 = .ok (.bipush 47, 2) := by decide +kernel
theorem d_M_isMarkSign_27 : decode (mB Y_M_isMarkSign) 27 = .ok (.if_icmp .eq 33, 3) := by decide +kernel
theorem d_M_isMarkSign_30 : decode (mB Y_M_isMarkSign) 30 = .ok (.iload_n 1, 1) := by decide +kernel
theorem d_M_isMarkSign_31 : decode (mB Y_M_isMarkSign) 31 = .ok (.bipush 40, 2) := by decide +kernel
theorem d_M_isMarkSign_33 : decode (mB Y_M_isMarkSign) 33 = .ok (.if_icmp .eq 27, 3) := by decide +kernel
theorem d_M_isMarkSign_36 : decode (mB Y_M_isMarkSign) 36 = .ok (.iload_n 1, 1) := by decide +kernel
theorem d_M_isMarkSign_37 : decode (mB Y_M_isMarkSign) 37 = .ok (.bipush 41, 2) := by decide +kernel
theorem d_M_isMarkSign_39 : decode (mB Y_M_isMarkSign) 39 = .ok (.if_icmp .eq 21, 3) := by decide +kernel
theorem d_M_isMarkSign_42 : decode (mB Y_M_isMarkSign) 42 = .ok (.iload_n 1, 1) := by decide +kernel
theorem d_M_isMarkSign_43 : decode (mB Y_M_isMarkSign) 43 = .ok (.bipush 60, 2) := by decide +kernel
theorem d_M_isMarkSign_45 : decode (mB Y_M_isMarkSign) 45 = .ok (.if_icmp .eq 15, 3) := by decide +kernel
theorem d_M_isMarkSign_48 : decode (mB Y_M_isMarkSign) 48 = .ok (.iload_n 1, 1) := by decide +kernel
theorem d_M_isMarkSign_49 : decode (mB Y_M_isMarkSign) 49 = .ok (.bipush 61, 2) := by decide +kernel
theorem d_M_isMarkSign_51 : decode (mB Y_M_isMarkSign) 51 = .ok (.if_icmp .eq 9, 3) := by decide +kernel
theorem d_M_isMarkSign_54 : decode (mB Y_M_isMarkSign) 54 = .ok (.iload_n 1, 1) := by decide +kernel
theorem d_M_isMarkSign_55 : decode (mB Y_M_isMarkSign) 55 = .ok (.bipush 62, 2) := by decide +kernel
theorem d_M_isMarkSign_57 : decode (mB Y_M_isMarkSign) 57 = .ok (.if_icmp .ne 7, 3) := by decide +kernel
theorem d_M_isMarkSign_60 : decode (mB Y_M_isMarkSign) 60 = .ok (.iconst 1, 1) := by decide +kernel
theorem d_M_isMarkSign_61 : decode (mB Y_M_isMarkSign) 61 = .ok (.goto 4, 3) := by decide +kernel
theorem d_M_isMarkSign_64 : decode (mB Y_M_isMarkSign) 64 = .ok (.iconst 0, 1) := by decide +kernel
theorem d_M_isMarkSign_65 : decode (mB Y_M_isMarkSign) 65 = .ok (.ireturn, 1) := by decide +kernel
def r_M_isMarkSign (x1 : Int32) : Int32 := (if x1 = 59 then 1 else (if x1 = 43 then 1 else (if x1 = 45 then 1 else (if x1 = 42 then 1 else (if x1 = 47 then 1 else (if x1 = 40 then 1 else (if x1 = 41 then 1 else (if x1 = 60 then 1 else (if x1 = 61 then 1 else (if x1 = 62 then 1 else 0))))))))))
theorem z_M_isMarkSign (x1 : Int32) : b01 (r_M_isMarkSign x1) = true := by
  unfold r_M_isMarkSign
  (repeat' split) <;> first | rfl | decide | rfl
set_option maxHeartbeats 4000000 in
set_option maxRecDepth 20000 in
theorem c_M_isMarkSign {G : Gl} {L : Shp} (hL : Ext L) (S : Sto) (x1 : Int32)  : Ct Y_M_isMarkSign G [rf G 104, .int x1] L S (fp L S) (some (r_M_isMarkSign x1)) := by
  refine ct_of (by decide +kernel) (Nat.le_of_ble_eq_true rfl) (fun g C => ?_)
  have e : (some (r_M_isMarkSign x1) : Option Int32) =
      if x1 = 59 then
        some 1
      else
        if x1 = 43 then
          some 1
        else
          if x1 = 45 then
            some 1
          else
            if x1 = 42 then
              some 1
            else
              if x1 = 47 then
                some 1
              else
                if x1 = 40 then
                  some 1
                else
                  if x1 = 41 then
                    some 1
                  else
                    if x1 = 60 then
                      some 1
                    else
                      if x1 = 61 then
                        some 1
                      else
                        if x1 = 62 then
                          some 1
                        else
                          some 0 := by
    unfold r_M_isMarkSign
    simp only [some_ite, lt, ltJ]
  rw [e]
  show VO g Y_M_isMarkSign G (fun z => Qm g Y_M_isMarkSign G (fp L S z)) 0 0 0 [(0, rf G 104), (1, .int x1)] [] L S _ some
  refine v_iload_n (pc := 0) C d_M_isMarkSign_0 rfl 1 rfl ?_
  refine v_bipush (pc := 1) C d_M_isMarkSign_1 bp_59 ?_
  refine v_icmp_eq (pc := 3) (tgt := 60) C d_M_isMarkSign_3 rfl (fun _ => ?_) (fun _ => ?_)
  · refine v_iconst (pc := 60) C d_M_isMarkSign_60 ic_1 ?_
    refine v_goto (pc := 61) (tgt := 65) C d_M_isMarkSign_61 rfl ?_
    exact v_zret (z := 1) C d_M_isMarkSign_65 rfl (b01_n (by decide)) ⟨Nat.zero_le _, Nat.zero_le _⟩ (rfl) rfl
  · refine v_iload_n (pc := 6) C d_M_isMarkSign_6 rfl 1 rfl ?_
    refine v_bipush (pc := 7) C d_M_isMarkSign_7 bp_43 ?_
    refine v_icmp_eq (pc := 9) (tgt := 60) C d_M_isMarkSign_9 rfl (fun _ => ?_) (fun _ => ?_)
    · refine v_iconst (pc := 60) C d_M_isMarkSign_60 ic_1 ?_
      refine v_goto (pc := 61) (tgt := 65) C d_M_isMarkSign_61 rfl ?_
      exact v_zret (z := 1) C d_M_isMarkSign_65 rfl (b01_n (by decide)) ⟨Nat.zero_le _, Nat.zero_le _⟩ (rfl) rfl
    · refine v_iload_n (pc := 12) C d_M_isMarkSign_12 rfl 1 rfl ?_
      refine v_bipush (pc := 13) C d_M_isMarkSign_13 bp_45 ?_
      refine v_icmp_eq (pc := 15) (tgt := 60) C d_M_isMarkSign_15 rfl (fun _ => ?_) (fun _ => ?_)
      · refine v_iconst (pc := 60) C d_M_isMarkSign_60 ic_1 ?_
        refine v_goto (pc := 61) (tgt := 65) C d_M_isMarkSign_61 rfl ?_
        exact v_zret (z := 1) C d_M_isMarkSign_65 rfl (b01_n (by decide)) ⟨Nat.zero_le _, Nat.zero_le _⟩ (rfl) rfl
      · refine v_iload_n (pc := 18) C d_M_isMarkSign_18 rfl 1 rfl ?_
        refine v_bipush (pc := 19) C d_M_isMarkSign_19 bp_42 ?_
        refine v_icmp_eq (pc := 21) (tgt := 60) C d_M_isMarkSign_21 rfl (fun _ => ?_) (fun _ => ?_)
        · refine v_iconst (pc := 60) C d_M_isMarkSign_60 ic_1 ?_
          refine v_goto (pc := 61) (tgt := 65) C d_M_isMarkSign_61 rfl ?_
          exact v_zret (z := 1) C d_M_isMarkSign_65 rfl (b01_n (by decide)) ⟨Nat.zero_le _, Nat.zero_le _⟩ (rfl) rfl
        · refine v_iload_n (pc := 24) C d_M_isMarkSign_24 rfl 1 rfl ?_
          refine v_bipush (pc := 25) C d_M_isMarkSign_25 bp_47 ?_
          refine v_icmp_eq (pc := 27) (tgt := 60) C d_M_isMarkSign_27 rfl (fun _ => ?_) (fun _ => ?_)
          · refine v_iconst (pc := 60) C d_M_isMarkSign_60 ic_1 ?_
            refine v_goto (pc := 61) (tgt := 65) C d_M_isMarkSign_61 rfl ?_
            exact v_zret (z := 1) C d_M_isMarkSign_65 rfl (b01_n (by decide)) ⟨Nat.zero_le _, Nat.zero_le _⟩ (rfl) rfl
          · refine v_iload_n (pc := 30) C d_M_isMarkSign_30 rfl 1 rfl ?_
            refine v_bipush (pc := 31) C d_M_isMarkSign_31 bp_40 ?_
            refine v_icmp_eq (pc := 33) (tgt := 60) C d_M_isMarkSign_33 rfl (fun _ => ?_) (fun _ => ?_)
            · refine v_iconst (pc := 60) C d_M_isMarkSign_60 ic_1 ?_
              refine v_goto (pc := 61) (tgt := 65) C d_M_isMarkSign_61 rfl ?_
              exact v_zret (z := 1) C d_M_isMarkSign_65 rfl (b01_n (by decide)) ⟨Nat.zero_le _, Nat.zero_le _⟩ (rfl) rfl
            · refine v_iload_n (pc := 36) C d_M_isMarkSign_36 rfl 1 rfl ?_
              refine v_bipush (pc := 37) C d_M_isMarkSign_37 bp_41 ?_
              refine v_icmp_eq (pc := 39) (tgt := 60) C d_M_isMarkSign_39 rfl (fun _ => ?_) (fun _ => ?_)
              · refine v_iconst (pc := 60) C d_M_isMarkSign_60 ic_1 ?_
                refine v_goto (pc := 61) (tgt := 65) C d_M_isMarkSign_61 rfl ?_
                exact v_zret (z := 1) C d_M_isMarkSign_65 rfl (b01_n (by decide)) ⟨Nat.zero_le _, Nat.zero_le _⟩ (rfl) rfl
              · refine v_iload_n (pc := 42) C d_M_isMarkSign_42 rfl 1 rfl ?_
                refine v_bipush (pc := 43) C d_M_isMarkSign_43 bp_60 ?_
                refine v_icmp_eq (pc := 45) (tgt := 60) C d_M_isMarkSign_45 rfl (fun _ => ?_) (fun _ => ?_)
                · refine v_iconst (pc := 60) C d_M_isMarkSign_60 ic_1 ?_
                  refine v_goto (pc := 61) (tgt := 65) C d_M_isMarkSign_61 rfl ?_
                  exact v_zret (z := 1) C d_M_isMarkSign_65 rfl (b01_n (by decide)) ⟨Nat.zero_le _, Nat.zero_le _⟩ (rfl) rfl
                · refine v_iload_n (pc := 48) C d_M_isMarkSign_48 rfl 1 rfl ?_
                  refine v_bipush (pc := 49) C d_M_isMarkSign_49 bp_61 ?_
                  refine v_icmp_eq (pc := 51) (tgt := 60) C d_M_isMarkSign_51 rfl (fun _ => ?_) (fun _ => ?_)
                  · refine v_iconst (pc := 60) C d_M_isMarkSign_60 ic_1 ?_
                    refine v_goto (pc := 61) (tgt := 65) C d_M_isMarkSign_61 rfl ?_
                    exact v_zret (z := 1) C d_M_isMarkSign_65 rfl (b01_n (by decide)) ⟨Nat.zero_le _, Nat.zero_le _⟩ (rfl) rfl
                  · refine v_iload_n (pc := 54) C d_M_isMarkSign_54 rfl 1 rfl ?_
                    refine v_bipush (pc := 55) C d_M_isMarkSign_55 bp_62 ?_
                    refine v_icmp_ne (pc := 57) (tgt := 64) C d_M_isMarkSign_57 rfl (fun _ => ?_) (fun _ => ?_)
                    · refine v_iconst (pc := 64) C d_M_isMarkSign_64 ic_0 ?_
                      exact v_zret (z := 0) C d_M_isMarkSign_65 rfl (b01_n (by decide)) ⟨Nat.zero_le _, Nat.zero_le _⟩ (rfl) rfl
                    · refine v_iconst (pc := 60) C d_M_isMarkSign_60 ic_1 ?_
                      refine v_goto (pc := 61) (tgt := 65) C d_M_isMarkSign_61 rfl ?_
                      exact v_zret (z := 1) C d_M_isMarkSign_65 rfl (b01_n (by decide)) ⟨Nat.zero_le _, Nat.zero_le _⟩ (rfl) rfl
-- M_reads
theorem d_M_reads_0 : decode (mB Y_M_reads) 0 = .ok (.aload_n 0, 1) := by decide +kernel
theorem d_M_reads_1 : decode (mB Y_M_reads) 1 = .ok (.aload_n 0, 1) := by decide +kernel
theorem d_M_reads_2 : decode (mB Y_M_reads) 2 = .ok (.getfield 252, 3) := by decide +kernel
theorem d_M_reads_5 : decode (mB Y_M_reads) 5 = .ok (.invokevirtual 255, 3) := by decide +kernel
theorem d_M_reads_8 : decode (mB Y_M_reads) 8 = .ok (.bipush 32, 2) := by decide +kernel
theorem d_M_reads_10 : decode (mB Y_M_reads) 10 = .ok (.if_icmp .eq 16, 3) := by decide +kernel
theorem d_M_reads_13 : decode (mB Y_M_reads) 13 = .ok (.aload_n 0, 1) := by decide +kernel
theorem d_M_reads_14 : decode (mB Y_M_reads) 14 = .ok (.aload_n 0, 1) := by decide +kernel
theorem d_M_reads_15 : decode (mB Y_M_reads) 15 = .ok (.getfield 252, 3) := by decide +kernel
theorem d_M_reads_18 : decode (mB Y_M_reads) 18 = .ok (.invokevirtual 255, 3) := by decide +kernel
theorem d_M_reads_21 : decode (mB Y_M_reads) 21 = .ok (.bipush 10, 2) := by decide +kernel
theorem d_M_reads_23 : decode (mB Y_M_reads) 23 = .ok (.if_icmp .ne 16, 3) := by decide +kernel
theorem d_M_reads_26 : decode (mB Y_M_reads) 26 = .ok (.aload_n 0, 1) := by decide +kernel
theorem d_M_reads_27 : decode (mB Y_M_reads) 27 = .ok (.aload_n 0, 1) := by decide +kernel
theorem d_M_reads_28 : decode (mB Y_M_reads) 28 = .ok (.getfield 252, 3) := by decide +kernel
theorem d_M_reads_31 : decode (mB Y_M_reads) 31 = .ok (.iconst 1, 1) := by decide +kernel
theorem d_M_reads_32 : decode (mB Y_M_reads) 32 = .ok (.iadd, 1) := by decide +kernel
theorem d_M_reads_33 : decode (mB Y_M_reads) 33 = .ok (.putfield 252, 3) := by decide +kernel
theorem d_M_reads_36 : decode (mB Y_M_reads) 36 = .ok (.goto (-36), 3) := by decide +kernel
theorem d_M_reads_39 : decode (mB Y_M_reads) 39 = .ok (.aload_n 0, 1) := by decide +kernel
theorem d_M_reads_40 : decode (mB Y_M_reads) 40 = .ok (.aload_n 0, 1) := by decide +kernel
theorem d_M_reads_41 : decode (mB Y_M_reads) 41 = .ok (.getfield 252, 3) := by decide +kernel
theorem d_M_reads_44 : decode (mB Y_M_reads) 44 = .ok (.putfield 258, 3) := by decide +kernel
theorem d_M_reads_47 : decode (mB Y_M_reads) 47 = .ok (.aload_n 0, 1) := by decide +kernel
theorem d_M_reads_48 : decode (mB Y_M_reads) 48 = .ok (.iconst 1, 1) := by decide +kernel
theorem d_M_reads_49 : decode (mB Y_M_reads) 49 = .ok (.putfield 261, 3) := by decide +kernel
theorem d_M_reads_52 : decode (mB Y_M_reads) 52 = .ok (.aload_n 0, 1) := by decide +kernel
theorem d_M_reads_53 : decode (mB Y_M_reads) 53 = .ok (.aload_n 0, 1) := by decide +kernel
theorem d_M_reads_54 : decode (mB Y_M_reads) 54 = .ok (.getfield 252, 3) := by decide +kernel
theorem d_M_reads_57 : decode (mB Y_M_reads) 57 = .ok (.invokevirtual 255, 3) := by decide +kernel
theorem d_M_reads_60 : decode (mB Y_M_reads) 60 = .ok (.istore_n 1, 1) := by decide +kernel
theorem d_M_reads_61 : decode (mB Y_M_reads) 61 = .ok (.iload_n 1, 1) := by decide +kernel
theorem d_M_reads_62 : decode (mB Y_M_reads) 62 = .ok (.iconst (-1), 1) := by decide +kernel
theorem d_M_reads_63 : decode (mB Y_M_reads) 63 = .ok (.if_icmp .ne 9, 3) := by decide +kernel
theorem d_M_reads_66 : decode (mB Y_M_reads) 66 = .ok (.aload_n 0, 1) := by decide +kernel
theorem d_M_reads_67 : decode (mB Y_M_reads) 67 = .ok (.iconst 0, 1) := by decide +kernel
theorem d_M_reads_68 : decode (mB Y_M_reads) 68 = .ok (.putfield 261, 3) := by decide +kernel
theorem d_M_reads_71 : decode (mB Y_M_reads) 71 = .ok (.return_, 1) := by decide +kernel
theorem d_M_reads_72 : decode (mB Y_M_reads) 72 = .ok (.aload_n 0, 1) := by decide +kernel
theorem d_M_reads_73 : decode (mB Y_M_reads) 73 = .ok (.aload_n 0, 1) := by decide +kernel
theorem d_M_reads_74 : decode (mB Y_M_reads) 74 = .ok (.getfield 252, 3) := by decide +kernel
theorem d_M_reads_77 : decode (mB Y_M_reads) 77 = .ok (.iconst 1, 1) := by decide +kernel
theorem d_M_reads_78 : decode (mB Y_M_reads) 78 = .ok (.iadd, 1) := by decide +kernel
theorem d_M_reads_79 : decode (mB Y_M_reads) 79 = .ok (.putfield 252, 3) := by decide +kernel
theorem d_M_reads_82 : decode (mB Y_M_reads) 82 = .ok (.aload_n 0, 1) := by decide +kernel
theorem d_M_reads_83 : decode (mB Y_M_reads) 83 = .ok (.iload_n 1, 1) := by decide +kernel
theorem d_M_reads_84 : decode (mB Y_M_reads) 84 = .ok (.putfield 264, 3) := by decide +kernel
theorem d_M_reads_87 : decode (mB Y_M_reads) 87 = .ok (.aload_n 0, 1) := by decide +kernel
theorem d_M_reads_88 : decode (mB Y_M_reads) 88 = .ok (.iload_n 1, 1) := by decide +kernel
theorem d_M_reads_89 : decode (mB Y_M_reads) 89 = .ok (.invokevirtual 267, 3) := by decide +kernel
theorem d_M_reads_92 : decode (mB Y_M_reads) 92 = .ok (.ifCond .eq 63, 3) := by decide +kernel
theorem d_M_reads_95 : decode (mB Y_M_reads) 95 = .ok (.aload_n 0, 1) := by decide +kernel
theorem d_M_reads_96 : decode (mB Y_M_reads) 96 = .ok (.aload_n 0, 1) := by decide +kernel
theorem d_M_reads_97 : decode (mB Y_M_reads) 97 = .ok (.aload_n 0, 1) := by decide +kernel
theorem d_M_reads_98 : decode (mB Y_M_reads) 98 = .ok (.getfield 252, 3) := by decide +kernel
theorem d_M_reads_101 : decode (mB Y_M_reads) 101 = .ok (.invokevirtual 255, 3) := by decide +kernel
theorem d_M_reads_104 : decode (mB Y_M_reads) 104 = .ok (.invokevirtual 267, 3) := by decide +kernel
theorem d_M_reads_107 : decode (mB Y_M_reads) 107 = .ok (.ifCond .eq 16, 3) := by decide +kernel
theorem d_M_reads_110 : decode (mB Y_M_reads) 110 = .ok (.aload_n 0, 1) := by decide +kernel
theorem d_M_reads_111 : decode (mB Y_M_reads) 111 = .ok (.aload_n 0, 1) := by decide +kernel
theorem d_M_reads_112 : decode (mB Y_M_reads) 112 = .ok (.getfield 252, 3) := by decide +kernel
theorem d_M_reads_115 : decode (mB Y_M_reads) 115 = .ok (.iconst 1, 1) := by decide +kernel
theorem d_M_reads_116 : decode (mB Y_M_reads) 116 = .ok (.iadd, 1) := by decide +kernel
theorem d_M_reads_117 : decode (mB Y_M_reads) 117 = .ok (.putfield 252, 3) := by decide +kernel
theorem d_M_reads_120 : decode (mB Y_M_reads) 120 = .ok (.goto (-25), 3) := by decide +kernel
theorem d_M_reads_123 : decode (mB Y_M_reads) 123 = .ok (.aload_n 0, 1) := by decide +kernel
theorem d_M_reads_124 : decode (mB Y_M_reads) 124 = .ok (.aload_n 0, 1) := by decide +kernel
theorem d_M_reads_125 : decode (mB Y_M_reads) 125 = .ok (.aload_n 0, 1) := by decide +kernel
theorem d_M_reads_126 : decode (mB Y_M_reads) 126 = .ok (.getfield 258, 3) := by decide +kernel
theorem d_M_reads_129 : decode (mB Y_M_reads) 129 = .ok (.aload_n 0, 1) := by decide +kernel
theorem d_M_reads_130 : decode (mB Y_M_reads) 130 = .ok (.getfield 252, 3) := by decide +kernel
theorem d_M_reads_133 : decode (mB Y_M_reads) 133 = .ok (.invokevirtual 270, 3) := by decide +kernel
theorem d_M_reads_136 : decode (mB Y_M_reads) 136 = .ok (.putfield 264, 3) := by decide +kernel
theorem d_M_reads_139 : decode (mB Y_M_reads) 139 = .ok (.aload_n 0, 1) := by decide +kernel
theorem d_M_reads_140 : decode (mB Y_M_reads) 140 = .ok (.getfield 264, 3) := by decide +kernel
theorem d_M_reads_143 : decode (mB Y_M_reads) 143 = .ok (.iconst (-1), 1) := by decide +kernel
theorem d_M_reads_144 : decode (mB Y_M_reads) 144 = .ok (.if_icmp .eq 130, 3) := by decide +kernel
theorem d_M_reads_147 : decode (mB Y_M_reads) 147 = .ok (.aload_n 0, 1) := by decide +kernel
theorem d_M_reads_148 : decode (mB Y_M_reads) 148 = .ok (.iconst 2, 1) := by decide +kernel
theorem d_M_reads_149 : decode (mB Y_M_reads) 149 = .ok (.putfield 261, 3) := by decide +kernel
theorem d_M_reads_152 : decode (mB Y_M_reads) 152 = .ok (.goto 122, 3) := by decide +kernel
theorem d_M_reads_155 : decode (mB Y_M_reads) 155 = .ok (.aload_n 0, 1) := by decide +kernel
theorem d_M_reads_156 : decode (mB Y_M_reads) 156 = .ok (.iload_n 1, 1) := by decide +kernel
theorem d_M_reads_157 : decode (mB Y_M_reads) 157 = .ok (.invokevirtual 273, 3) := by decide +kernel
theorem d_M_reads_160 : decode (mB Y_M_reads) 160 = .ok (.ifCond .eq 101, 3) := by decide +kernel
theorem d_M_reads_163 : decode (mB Y_M_reads) 163 = .ok (.aload_n 0, 1) := by decide +kernel
theorem d_M_reads_164 : decode (mB Y_M_reads) 164 = .ok (.iload_n 1, 1) := by decide +kernel
theorem d_M_reads_165 : decode (mB Y_M_reads) 165 = .ok (.bipush 48, 2) := by decide +kernel
theorem d_M_reads_167 : decode (mB Y_M_reads) 167 = .ok (.isub, 1) := by decide +kernel
theorem d_M_reads_168 : decode (mB Y_M_reads) 168 = .ok (.putfield 264, 3) := by decide +kernel
theorem d_M_reads_171 : decode (mB Y_M_reads) 171 = .ok (.aload_n 0, 1) := by decide +kernel
theorem d_M_reads_172 : decode (mB Y_M_reads) 172 = .ok (.aload_n 0, 1) := by decide +kernel
theorem d_M_reads_173 : decode (mB Y_M_reads) 173 = .ok (.aload_n 0, 1) := by decide +kernel
theorem d_M_reads_174 : decode (mB Y_M_reads) 174 = .ok (.getfield 252, 3) := by decide +kernel
theorem d_M_reads_177 : decode (mB Y_M_reads) 177 = .ok (.invokevirtual 255, 3) := by decide +kernel
theorem d_M_reads_180 : decode (mB Y_M_reads) 180 = .ok (.invokevirtual 273, 3) := by decide +kernel
theorem d_M_reads_183 : decode (mB Y_M_reads) 183 = .ok (.ifCond .eq 56, 3) := by decide +kernel
theorem d_M_reads_186 : decode (mB Y_M_reads) 186 = .ok (.aload_n 0, 1) := by decide +kernel
theorem d_M_reads_187 : decode (mB Y_M_reads) 187 = .ok (.aload_n 0, 1) := by decide +kernel
theorem d_M_reads_188 : decode (mB Y_M_reads) 188 = .ok (.getfield 264, 3) := by decide +kernel
theorem d_M_reads_191 : decode (mB Y_M_reads) 191 = .ok (.ldc_w 276, 3) := by decide +kernel
theorem d_M_reads_194 : decode (mB Y_M_reads) 194 = .ok (.if_icmp .ge 25, 3) := by decide +kernel
theorem d_M_reads_197 : decode (mB Y_M_reads) 197 = .ok (.bipush 10, 2) := by decide +kernel
theorem d_M_reads_199 : decode (mB Y_M_reads) 199 = .ok (.aload_n 0, 1) := by decide +kernel
theorem d_M_reads_200 : decode (mB Y_M_reads) 200 = .ok (.getfield 264, 3) := by decide +kernel
theorem d_M_reads_203 : decode (mB Y_M_reads) 203 = .ok (.imul, 1) := by decide +kernel
theorem d_M_reads_204 : decode (mB Y_M_reads) 204 = .ok (.aload_n 0, 1) := by decide +kernel
theorem d_M_reads_205 : decode (mB Y_M_reads) 205 = .ok (.aload_n 0, 1) := by decide +kernel
theorem d_M_reads_206 : decode (mB Y_M_reads) 206 = .ok (.getfield 252, 3) := by decide +kernel
theorem d_M_reads_209 : decode (mB Y_M_reads) 209 = .ok (.invokevirtual 255, 3) := by decide +kernel
theorem d_M_reads_212 : decode (mB Y_M_reads) 212 = .ok (.iadd, 1) := by decide +kernel
theorem d_M_reads_213 : decode (mB Y_M_reads) 213 = .ok (.bipush 48, 2) := by decide +kernel
theorem d_M_reads_215 : decode (mB Y_M_reads) 215 = .ok (.isub, 1) := by decide +kernel
theorem d_M_reads_216 : decode (mB Y_M_reads) 216 = .ok (.goto 7, 3) := by decide +kernel
theorem d_M_reads_219 : decode (mB Y_M_reads) 219 = .ok (.aload_n 0, 1) := by decide +kernel
theorem d_M_reads_220 : decode (mB Y_M_reads) 220 = .ok (.getfield 264, 3) := by decide +kernel
theorem d_M_reads_223 : decode (mB Y_M_reads) 223 = .ok (.putfield 264, 3) := by decide +kernel
theorem d_M_reads_226 : decode (mB Y_M_reads) 226 = .ok (.aload_n 0, 1) := by decide +kernel
theorem d_M_reads_227 : decode (mB Y_M_reads) 227 = .ok (.aload_n 0, 1) := by decide +kernel
theorem d_M_reads_228 : decode (mB Y_M_reads) 228 = .ok (.getfield 252, 3) := by decide +kernel
theorem d_M_reads_231 : decode (mB Y_M_reads) 231 = .ok (.iconst 1, 1) := by decide +kernel
theorem d_M_reads_232 : decode (mB Y_M_reads) 232 = .ok (.iadd, 1) := by decide +kernel
theorem d_M_reads_233 : decode (mB Y_M_reads) 233 = .ok (.putfield 252, 3) := by decide +kernel
theorem d_M_reads_236 : decode (mB Y_M_reads) 236 = .ok (.goto (-65), 3) := by decide +kernel
theorem d_M_reads_239 : decode (mB Y_M_reads) 239 = .ok (.aload_n 0, 1) := by decide +kernel
theorem d_M_reads_240 : decode (mB Y_M_reads) 240 = .ok (.getfield 252, 3) := by decide +kernel
theorem d_M_reads_243 : decode (mB Y_M_reads) 243 = .ok (.aload_n 0, 1) := by decide +kernel
theorem d_M_reads_244 : decode (mB Y_M_reads) 244 = .ok (.getfield 258, 3) := by decide +kernel
theorem d_M_reads_247 : decode (mB Y_M_reads) 247 = .ok (.isub, 1) := by decide +kernel
theorem d_M_reads_248 : decode (mB Y_M_reads) 248 = .ok (.bipush 6, 2) := by decide +kernel
theorem d_M_reads_250 : decode (mB Y_M_reads) 250 = .ok (.if_icmp .ge 24, 3) := by decide +kernel
theorem d_M_reads_253 : decode (mB Y_M_reads) 253 = .ok (.aload_n 0, 1) := by decide +kernel
theorem d_M_reads_254 : decode (mB Y_M_reads) 254 = .ok (.iconst 3, 1) := by decide +kernel
theorem d_M_reads_255 : decode (mB Y_M_reads) 255 = .ok (.putfield 261, 3) := by decide +kernel
theorem d_M_reads_258 : decode (mB Y_M_reads) 258 = .ok (.goto 16, 3) := by decide +kernel
theorem d_M_reads_261 : decode (mB Y_M_reads) 261 = .ok (.aload_n 0, 1) := by decide +kernel
theorem d_M_reads_262 : decode (mB Y_M_reads) 262 = .ok (.iload_n 1, 1) := by decide +kernel
theorem d_M_reads_263 : decode (mB Y_M_reads) 263 = .ok (.invokevirtual 277, 3) := by decide +kernel
theorem d_M_reads_266 : decode (mB Y_M_reads) 266 = .ok (.ifCond .eq 8, 3) := by decide +kernel
theorem d_M_reads_269 : decode (mB Y_M_reads) 269 = .ok (.aload_n 0, 1) := by decide +kernel
theorem d_M_reads_270 : decode (mB Y_M_reads) 270 = .ok (.iconst 4, 1) := by decide +kernel
theorem d_M_reads_271 : decode (mB Y_M_reads) 271 = .ok (.putfield 261, 3) := by decide +kernel
theorem d_M_reads_274 : decode (mB Y_M_reads) 274 = .ok (.return_, 1) := by decide +kernel
theorem ro_M_reads_M_isDigit : roomy Y_M_reads Y_M_isDigit := ⟨Nat.le_of_ble_eq_true rfl, Nat.le_of_ble_eq_true rfl⟩
theorem ro_M_reads_M_isLetter : roomy Y_M_reads Y_M_isLetter := ⟨Nat.le_of_ble_eq_true rfl, Nat.le_of_ble_eq_true rfl⟩
theorem ro_M_reads_M_isMarkSign : roomy Y_M_reads Y_M_isMarkSign := ⟨Nat.le_of_ble_eq_true rfl, Nat.le_of_ble_eq_true rfl⟩
theorem ro_M_reads_M_raw : roomy Y_M_reads Y_M_raw := ⟨Nat.le_of_ble_eq_true rfl, Nat.le_of_ble_eq_true rfl⟩
theorem ro_M_reads_M_wordAt : roomy Y_M_reads Y_M_wordAt := ⟨Nat.le_of_ble_eq_true rfl, Nat.le_of_ble_eq_true rfl⟩
def r_M_reads_L0  : Nat → Sto → Option (Sto)
  | 0, _ => none
  | n + 1, S =>
    (r_M_raw (S 104 28) S).bind (fun r1 =>
    jn (fun (_ : Unit) =>
      ltS (sw S 104 28 ((S 104 28) + 1)) (fun S2 =>
      r_M_reads_L0 n S2)) (fun j26 =>
    if r1 = 32 then
      j26 ()
    else
      (r_M_raw (S 104 28) S).bind (fun r3 =>
      if r3 = 10 then
        j26 ()
      else
        some (S))))
def r_M_reads_L171  : Nat → Sto → Option (Sto)
  | 0, _ => none
  | n + 1, S =>
    (r_M_raw (S 104 28) S).bind (fun r1 =>
    if (r_M_isDigit r1) = 0 then
      some (S)
    else
      jn (fun (v2 : Int32) =>
        ltS (sw S 104 31 v2) (fun S3 =>
        ltS (sw S3 104 28 ((S3 104 28) + 1)) (fun S4 =>
        r_M_reads_L171 n S4))) (fun j223 =>
      if 100000 ≤ (S 104 31) then
        j223 (S 104 31)
      else
        (r_M_raw (S 104 28) S).bind (fun r5 =>
        j223 (((10 * (S 104 31)) + r5) - 48))))
def r_M_reads_L95  : Nat → Sto → Option (Sto)
  | 0, _ => none
  | n + 1, S =>
    (r_M_raw (S 104 28) S).bind (fun r1 =>
    if (r_M_isLetter r1) = 0 then
      some (S)
    else
      ltS (sw S 104 28 ((S 104 28) + 1)) (fun S2 =>
      r_M_reads_L95 n S2))
set_option maxHeartbeats 4000000 in
set_option maxRecDepth 20000 in
theorem w_M_reads_L0 {g : Gm} {G : Gl} {L : Shp} (C : Cx g Y_M_reads G) (hL : Ext L)  :
    ∀ (n : Nat)  (S : Sto) (K : (Sto) → Option Sto), (∀ (S : Sto), VO g Y_M_reads G (fun z => Qm g Y_M_reads G (fv L z)) 0 0 39 [(0, rf G 104)] [] L S (some (S)) K) → VO g Y_M_reads G (fun z => Qm g Y_M_reads G (fv L z)) 0 0 0 [(0, rf G 104)] [] L S (r_M_reads_L0 n S) K := by
  intro n
  induction n with
  | zero => intro S K; intros; exact v_none
  | succ n ih =>
    intro S K hK
    rw [r_M_reads_L0]
    refine v_aload_n (pc := 0) C d_M_reads_0 rfl 0 rfl ?_
    refine v_aload_n (pc := 1) C d_M_reads_1 rfl 0 rfl ?_
    refine v_getI (pc := 2) C fl_M_252 (sh_104 hL) rfl d_M_reads_2 ?_
    refine v_cp (pc := 5) (inv_V (As := [.int (S 104 28)]) (st := []) C ml_M_255 mv_M_raw ro_M_reads_M_raw (sh_104 hL) rfl rfl rfl rfl (Nat.le_of_ble_eq_true rfl) d_M_reads_5) (c_M_raw hL S (S 104 28)) ⟨rfl, rfl⟩ ⟨Nat.zero_le _, Nat.zero_le _⟩ (fun r1 => ?_)
    refine v_bipush (pc := 8) C d_M_reads_8 bp_32 ?_
    refine v_jn (fun j => VO g Y_M_reads G (fun z => Qm g Y_M_reads G (fv L z)) 0 0 26 [(0, rf G 104)] [] L S (j ()) K) (?_) (fun j26 hj26 => ?_)
    · refine v_aload_n (pc := 26) C d_M_reads_26 rfl 0 rfl ?_
      refine v_aload_n (pc := 27) C d_M_reads_27 rfl 0 rfl ?_
      refine v_getI (pc := 28) C fl_M_252 (sh_104 hL) rfl d_M_reads_28 ?_
      refine v_iconst (pc := 31) C d_M_reads_31 ic_1 ?_
      refine v_iadd (pc := 32) C d_M_reads_32 ?_
      refine v_putI (pc := 33) C fp_M_252 (sh_104 hL) rfl d_M_reads_33 (fun S2 => ?_)
      refine v_goto (pc := 36) (tgt := 0) C d_M_reads_36 rfl ?_
      exact ih S2 K hK
    · refine v_icmp_eq (pc := 10) (tgt := 26) C d_M_reads_10 rfl (fun _ => ?_) (fun _ => ?_)
      · exact hj26
      · refine v_aload_n (pc := 13) C d_M_reads_13 rfl 0 rfl ?_
        refine v_aload_n (pc := 14) C d_M_reads_14 rfl 0 rfl ?_
        refine v_getI (pc := 15) C fl_M_252 (sh_104 hL) rfl d_M_reads_15 ?_
        refine v_cp (pc := 18) (inv_V (As := [.int (S 104 28)]) (st := []) C ml_M_255 mv_M_raw ro_M_reads_M_raw (sh_104 hL) rfl rfl rfl rfl (Nat.le_of_ble_eq_true rfl) d_M_reads_18) (c_M_raw hL S (S 104 28)) ⟨rfl, rfl⟩ ⟨Nat.zero_le _, Nat.zero_le _⟩ (fun r3 => ?_)
        refine v_bipush (pc := 21) C d_M_reads_21 bp_10 ?_
        refine v_icmp_ne (pc := 23) (tgt := 39) C d_M_reads_23 rfl (fun _ => ?_) (fun _ => ?_)
        · exact hK S
        · exact hj26
set_option maxHeartbeats 4000000 in
set_option maxRecDepth 20000 in
theorem w_M_reads_L171 {g : Gm} {G : Gl} {L : Shp} (C : Cx g Y_M_reads G) (hL : Ext L)  :
    ∀ (n : Nat)  (S : Sto) (K : (Sto) → Option Sto), (∀ (S : Sto), VO g Y_M_reads G (fun z => Qm g Y_M_reads G (fv L z)) 0 0 239 [(0, rf G 104)] [] L S (some (S)) K) → VO g Y_M_reads G (fun z => Qm g Y_M_reads G (fv L z)) 0 0 171 [(0, rf G 104)] [] L S (r_M_reads_L171 n S) K := by
  intro n
  induction n with
  | zero => intro S K; intros; exact v_none
  | succ n ih =>
    intro S K hK
    rw [r_M_reads_L171]
    refine v_aload_n (pc := 171) C d_M_reads_171 rfl 0 rfl ?_
    refine v_aload_n (pc := 172) C d_M_reads_172 rfl 0 rfl ?_
    refine v_aload_n (pc := 173) C d_M_reads_173 rfl 0 rfl ?_
    refine v_getI (pc := 174) C fl_M_252 (sh_104 hL) rfl d_M_reads_174 ?_
    refine v_cp (pc := 177) (inv_V (As := [.int (S 104 28)]) (st := [rf G 104]) C ml_M_255 mv_M_raw ro_M_reads_M_raw (sh_104 hL) rfl rfl rfl rfl (Nat.le_of_ble_eq_true rfl) d_M_reads_177) (c_M_raw hL S (S 104 28)) ⟨rfl, rfl⟩ ⟨Nat.zero_le _, Nat.zero_le _⟩ (fun r1 => ?_)
    refine v_ct (pc := 180) (inv_V (As := [.int r1]) (st := []) C ml_M_273 mv_M_isDigit ro_M_reads_M_isDigit (sh_104 hL) rfl rfl rfl rfl (Nat.le_of_ble_eq_true rfl) d_M_reads_180) (c_M_isDigit hL S r1) ⟨rfl, rfl⟩ ⟨Nat.zero_le _, Nat.zero_le _⟩ ?_
    refine v_if_eq (pc := 183) (tgt := 239) C d_M_reads_183 rfl (fun _ => ?_) (fun _ => ?_)
    · exact hK S
    · refine v_aload_n (pc := 186) C d_M_reads_186 rfl 0 rfl ?_
      refine v_aload_n (pc := 187) C d_M_reads_187 rfl 0 rfl ?_
      refine v_getI (pc := 188) C fl_M_264 (sh_104 hL) rfl d_M_reads_188 ?_
      refine v_ldc_w (pc := 191) C d_M_reads_191 kc_M_276 ?_
      refine v_jn (fun j => ∀ (v2 : Int32), VO g Y_M_reads G (fun z => Qm g Y_M_reads G (fv L z)) 0 0 223 [(0, rf G 104)] [.int v2, rf G 104] L S (j (v2)) K) (fun v2 => ?_) (fun j223 hj223 => ?_)
      · refine v_putI (pc := 223) C fp_M_264 (sh_104 hL) rfl d_M_reads_223 (fun S3 => ?_)
        refine v_aload_n (pc := 226) C d_M_reads_226 rfl 0 rfl ?_
        refine v_aload_n (pc := 227) C d_M_reads_227 rfl 0 rfl ?_
        refine v_getI (pc := 228) C fl_M_252 (sh_104 hL) rfl d_M_reads_228 ?_
        refine v_iconst (pc := 231) C d_M_reads_231 ic_1 ?_
        refine v_iadd (pc := 232) C d_M_reads_232 ?_
        refine v_putI (pc := 233) C fp_M_252 (sh_104 hL) rfl d_M_reads_233 (fun S4 => ?_)
        refine v_goto (pc := 236) (tgt := 171) C d_M_reads_236 rfl ?_
        exact ih S4 K hK
      · refine v_icmp_ge (pc := 194) (tgt := 219) C d_M_reads_194 rfl (fun _ => ?_) (fun _ => ?_)
        · refine v_aload_n (pc := 219) C d_M_reads_219 rfl 0 rfl ?_
          refine v_getI (pc := 220) C fl_M_264 (sh_104 hL) rfl d_M_reads_220 ?_
          exact hj223 (S 104 31)
        · refine v_bipush (pc := 197) C d_M_reads_197 bp_10 ?_
          refine v_aload_n (pc := 199) C d_M_reads_199 rfl 0 rfl ?_
          refine v_getI (pc := 200) C fl_M_264 (sh_104 hL) rfl d_M_reads_200 ?_
          refine v_imul (pc := 203) C d_M_reads_203 ?_
          refine v_aload_n (pc := 204) C d_M_reads_204 rfl 0 rfl ?_
          refine v_aload_n (pc := 205) C d_M_reads_205 rfl 0 rfl ?_
          refine v_getI (pc := 206) C fl_M_252 (sh_104 hL) rfl d_M_reads_206 ?_
          refine v_cp (pc := 209) (inv_V (As := [.int (S 104 28)]) (st := [.int (10 * (S 104 31)), rf G 104]) C ml_M_255 mv_M_raw ro_M_reads_M_raw (sh_104 hL) rfl rfl rfl rfl (Nat.le_of_ble_eq_true rfl) d_M_reads_209) (c_M_raw hL S (S 104 28)) ⟨rfl, rfl⟩ ⟨Nat.zero_le _, Nat.zero_le _⟩ (fun r5 => ?_)
          refine v_iadd (pc := 212) C d_M_reads_212 ?_
          refine v_bipush (pc := 213) C d_M_reads_213 bp_48 ?_
          refine v_isub (pc := 215) C d_M_reads_215 ?_
          refine v_goto (pc := 216) (tgt := 223) C d_M_reads_216 rfl ?_
          exact hj223 (((10 * (S 104 31)) + r5) - 48)
set_option maxHeartbeats 4000000 in
set_option maxRecDepth 20000 in
theorem w_M_reads_L95 {g : Gm} {G : Gl} {L : Shp} (C : Cx g Y_M_reads G) (hL : Ext L)  :
    ∀ (n : Nat)  (S : Sto) (K : (Sto) → Option Sto), (∀ (S : Sto), VO g Y_M_reads G (fun z => Qm g Y_M_reads G (fv L z)) 0 0 123 [(0, rf G 104)] [] L S (some (S)) K) → VO g Y_M_reads G (fun z => Qm g Y_M_reads G (fv L z)) 0 0 95 [(0, rf G 104)] [] L S (r_M_reads_L95 n S) K := by
  intro n
  induction n with
  | zero => intro S K; intros; exact v_none
  | succ n ih =>
    intro S K hK
    rw [r_M_reads_L95]
    refine v_aload_n (pc := 95) C d_M_reads_95 rfl 0 rfl ?_
    refine v_aload_n (pc := 96) C d_M_reads_96 rfl 0 rfl ?_
    refine v_aload_n (pc := 97) C d_M_reads_97 rfl 0 rfl ?_
    refine v_getI (pc := 98) C fl_M_252 (sh_104 hL) rfl d_M_reads_98 ?_
    refine v_cp (pc := 101) (inv_V (As := [.int (S 104 28)]) (st := [rf G 104]) C ml_M_255 mv_M_raw ro_M_reads_M_raw (sh_104 hL) rfl rfl rfl rfl (Nat.le_of_ble_eq_true rfl) d_M_reads_101) (c_M_raw hL S (S 104 28)) ⟨rfl, rfl⟩ ⟨Nat.zero_le _, Nat.zero_le _⟩ (fun r1 => ?_)
    refine v_ct (pc := 104) (inv_V (As := [.int r1]) (st := []) C ml_M_267 mv_M_isLetter ro_M_reads_M_isLetter (sh_104 hL) rfl rfl rfl rfl (Nat.le_of_ble_eq_true rfl) d_M_reads_104) (c_M_isLetter hL S r1) ⟨rfl, rfl⟩ ⟨Nat.zero_le _, Nat.zero_le _⟩ ?_
    refine v_if_eq (pc := 107) (tgt := 123) C d_M_reads_107 rfl (fun _ => ?_) (fun _ => ?_)
    · exact hK S
    · refine v_aload_n (pc := 110) C d_M_reads_110 rfl 0 rfl ?_
      refine v_aload_n (pc := 111) C d_M_reads_111 rfl 0 rfl ?_
      refine v_getI (pc := 112) C fl_M_252 (sh_104 hL) rfl d_M_reads_112 ?_
      refine v_iconst (pc := 115) C d_M_reads_115 ic_1 ?_
      refine v_iadd (pc := 116) C d_M_reads_116 ?_
      refine v_putI (pc := 117) C fp_M_252 (sh_104 hL) rfl d_M_reads_117 (fun S2 => ?_)
      refine v_goto (pc := 120) (tgt := 95) C d_M_reads_120 rfl ?_
      exact ih S2 K hK
def r_M_reads  (S : Sto) : Option Sto :=
  (r_M_reads_L0 fu S).bind (fun (S1) =>
  ltS (sw S1 104 29 (S1 104 28)) (fun S2 =>
  ltS (sw S2 104 30 1) (fun S3 =>
  (r_M_raw (S3 104 28) S3).bind (fun r4 =>
  if r4 = (-1) then
    ltS (sw S3 104 30 0) (fun S15 =>
    some S15)
  else
    ltS (sw S3 104 28 ((S3 104 28) + 1)) (fun S5 =>
    ltS (sw S5 104 31 r4) (fun S6 =>
    if (r_M_isLetter r4) = 0 then
      if (r_M_isDigit r4) = 0 then
        if (r_M_isMarkSign r4) = 0 then
          some S6
        else
          ltS (sw S6 104 30 4) (fun S7 =>
          some S7)
      else
        ltS (sw S6 104 31 (r4 - 48)) (fun S8 =>
        (r_M_reads_L171 fu S8).bind (fun (S9) =>
        if 6 ≤ ((S9 104 28) - (S9 104 29)) then
          some S9
        else
          ltS (sw S9 104 30 3) (fun S10 =>
          some S10)))
    else
      (r_M_reads_L95 fu S6).bind (fun (S11) =>
      (r_M_wordAt (S11 104 29) (S11 104 28) S11).bind (fun r12 =>
      ltS (sw S11 104 31 r12) (fun S13 =>
      if (S13 104 31) = (-1) then
        some S13
      else
        ltS (sw S13 104 30 2) (fun S14 =>
        some S14))))))))))
set_option maxHeartbeats 4000000 in
set_option maxRecDepth 20000 in
theorem c_M_reads {G : Gl} {L : Shp} (hL : Ext L) (S : Sto)   : Ct Y_M_reads G [rf G 104] L S (fv L) (r_M_reads S) := by
  refine ct_of (by decide +kernel) (Nat.le_of_ble_eq_true rfl) (fun g C => ?_)
  show VO g Y_M_reads G (fun z => Qm g Y_M_reads G (fv L z)) 0 0 0 [(0, rf G 104)] [] L S (r_M_reads S) some
  unfold r_M_reads
  refine v_bind ?_
  refine w_M_reads_L0 C hL  fu S _ (fun S1 => ?_) 
  refine v_some ?_
  refine v_aload_n (pc := 39) C d_M_reads_39 rfl 0 rfl ?_
  refine v_aload_n (pc := 40) C d_M_reads_40 rfl 0 rfl ?_
  refine v_getI (pc := 41) C fl_M_252 (sh_104 hL) rfl d_M_reads_41 ?_
  refine v_putI (pc := 44) C fp_M_258 (sh_104 hL) rfl d_M_reads_44 (fun S2 => ?_)
  refine v_aload_n (pc := 47) C d_M_reads_47 rfl 0 rfl ?_
  refine v_iconst (pc := 48) C d_M_reads_48 ic_1 ?_
  refine v_putI (pc := 49) C fp_M_261 (sh_104 hL) rfl d_M_reads_49 (fun S3 => ?_)
  refine v_aload_n (pc := 52) C d_M_reads_52 rfl 0 rfl ?_
  refine v_aload_n (pc := 53) C d_M_reads_53 rfl 0 rfl ?_
  refine v_getI (pc := 54) C fl_M_252 (sh_104 hL) rfl d_M_reads_54 ?_
  refine v_cp (pc := 57) (inv_V (As := [.int (S3 104 28)]) (st := []) C ml_M_255 mv_M_raw ro_M_reads_M_raw (sh_104 hL) rfl rfl rfl rfl (Nat.le_of_ble_eq_true rfl) d_M_reads_57) (c_M_raw hL S3 (S3 104 28)) ⟨rfl, rfl⟩ ⟨Nat.zero_le _, Nat.zero_le _⟩ (fun r4 => ?_)
  refine v_istore_n (pc := 60) (lv' := [(1, .int r4), (0, rf G 104)]) C d_M_reads_60 rfl (by decide) rfl ?_
  refine v_iload_n (pc := 61) C d_M_reads_61 rfl 0 rfl ?_
  refine v_iconst (pc := 62) C d_M_reads_62 ic_m1 ?_
  refine v_icmp_ne (pc := 63) (tgt := 72) C d_M_reads_63 rfl (fun _ => ?_) (fun _ => ?_)
  · refine v_aload_n (pc := 72) C d_M_reads_72 rfl 1 rfl ?_
    refine v_aload_n (pc := 73) C d_M_reads_73 rfl 1 rfl ?_
    refine v_getI (pc := 74) C fl_M_252 (sh_104 hL) rfl d_M_reads_74 ?_
    refine v_iconst (pc := 77) C d_M_reads_77 ic_1 ?_
    refine v_iadd (pc := 78) C d_M_reads_78 ?_
    refine v_putI (pc := 79) C fp_M_252 (sh_104 hL) rfl d_M_reads_79 (fun S5 => ?_)
    refine v_aload_n (pc := 82) C d_M_reads_82 rfl 1 rfl ?_
    refine v_iload_n (pc := 83) C d_M_reads_83 rfl 0 rfl ?_
    refine v_putI (pc := 84) C fp_M_264 (sh_104 hL) rfl d_M_reads_84 (fun S6 => ?_)
    refine v_aload_n (pc := 87) C d_M_reads_87 rfl 1 rfl ?_
    refine v_iload_n (pc := 88) C d_M_reads_88 rfl 0 rfl ?_
    refine v_ct (pc := 89) (inv_V (As := [.int r4]) (st := []) C ml_M_267 mv_M_isLetter ro_M_reads_M_isLetter (sh_104 hL) rfl rfl rfl rfl (Nat.le_of_ble_eq_true rfl) d_M_reads_89) (c_M_isLetter hL S6 r4) ⟨rfl, rfl⟩ ⟨Nat.zero_le _, Nat.zero_le _⟩ ?_
    refine v_if_eq (pc := 92) (tgt := 155) C d_M_reads_92 rfl (fun _ => ?_) (fun _ => ?_)
    · refine v_aload_n (pc := 155) C d_M_reads_155 rfl 1 rfl ?_
      refine v_iload_n (pc := 156) C d_M_reads_156 rfl 0 rfl ?_
      refine v_ct (pc := 157) (inv_V (As := [.int r4]) (st := []) C ml_M_273 mv_M_isDigit ro_M_reads_M_isDigit (sh_104 hL) rfl rfl rfl rfl (Nat.le_of_ble_eq_true rfl) d_M_reads_157) (c_M_isDigit hL S6 r4) ⟨rfl, rfl⟩ ⟨Nat.zero_le _, Nat.zero_le _⟩ ?_
      refine v_if_eq (pc := 160) (tgt := 261) C d_M_reads_160 rfl (fun _ => ?_) (fun _ => ?_)
      · refine v_aload_n (pc := 261) C d_M_reads_261 rfl 1 rfl ?_
        refine v_iload_n (pc := 262) C d_M_reads_262 rfl 0 rfl ?_
        refine v_ct (pc := 263) (inv_V (As := [.int r4]) (st := []) C ml_M_277 mv_M_isMarkSign ro_M_reads_M_isMarkSign (sh_104 hL) rfl rfl rfl rfl (Nat.le_of_ble_eq_true rfl) d_M_reads_263) (c_M_isMarkSign hL S6 r4) ⟨rfl, rfl⟩ ⟨Nat.zero_le _, Nat.zero_le _⟩ ?_
        refine v_if_eq (pc := 266) (tgt := 274) C d_M_reads_266 rfl (fun _ => ?_) (fun _ => ?_)
        · exact v_vret C d_M_reads_274 rfl ⟨Nat.zero_le _, Nat.zero_le _⟩ rfl rfl
        · refine v_aload_n (pc := 269) C d_M_reads_269 rfl 1 rfl ?_
          refine v_iconst (pc := 270) C d_M_reads_270 ic_4 ?_
          refine v_putI (pc := 271) C fp_M_261 (sh_104 hL) rfl d_M_reads_271 (fun S7 => ?_)
          exact v_vret C d_M_reads_274 rfl ⟨Nat.zero_le _, Nat.zero_le _⟩ rfl rfl
      · refine v_aload_n (pc := 163) C d_M_reads_163 rfl 1 rfl ?_
        refine v_iload_n (pc := 164) C d_M_reads_164 rfl 0 rfl ?_
        refine v_bipush (pc := 165) C d_M_reads_165 bp_48 ?_
        refine v_isub (pc := 167) C d_M_reads_167 ?_
        refine v_putI (pc := 168) C fp_M_264 (sh_104 hL) rfl d_M_reads_168 (fun S8 => ?_)
        refine v_sub [1] rfl ?_
        refine v_bind ?_
        refine w_M_reads_L171 C hL  fu S8 _ (fun S9 => ?_) 
        refine v_some ?_
        refine v_aload_n (pc := 239) C d_M_reads_239 rfl 0 rfl ?_
        refine v_getI (pc := 240) C fl_M_252 (sh_104 hL) rfl d_M_reads_240 ?_
        refine v_aload_n (pc := 243) C d_M_reads_243 rfl 0 rfl ?_
        refine v_getI (pc := 244) C fl_M_258 (sh_104 hL) rfl d_M_reads_244 ?_
        refine v_isub (pc := 247) C d_M_reads_247 ?_
        refine v_bipush (pc := 248) C d_M_reads_248 bp_6 ?_
        refine v_icmp_ge (pc := 250) (tgt := 274) C d_M_reads_250 rfl (fun _ => ?_) (fun _ => ?_)
        · exact v_vret C d_M_reads_274 rfl ⟨Nat.zero_le _, Nat.zero_le _⟩ rfl rfl
        · refine v_aload_n (pc := 253) C d_M_reads_253 rfl 0 rfl ?_
          refine v_iconst (pc := 254) C d_M_reads_254 ic_3 ?_
          refine v_putI (pc := 255) C fp_M_261 (sh_104 hL) rfl d_M_reads_255 (fun S10 => ?_)
          refine v_goto (pc := 258) (tgt := 274) C d_M_reads_258 rfl ?_
          exact v_vret C d_M_reads_274 rfl ⟨Nat.zero_le _, Nat.zero_le _⟩ rfl rfl
    · refine v_sub [1] rfl ?_
      refine v_bind ?_
      refine w_M_reads_L95 C hL  fu S6 _ (fun S11 => ?_) 
      refine v_some ?_
      refine v_aload_n (pc := 123) C d_M_reads_123 rfl 0 rfl ?_
      refine v_aload_n (pc := 124) C d_M_reads_124 rfl 0 rfl ?_
      refine v_aload_n (pc := 125) C d_M_reads_125 rfl 0 rfl ?_
      refine v_getI (pc := 126) C fl_M_258 (sh_104 hL) rfl d_M_reads_126 ?_
      refine v_aload_n (pc := 129) C d_M_reads_129 rfl 0 rfl ?_
      refine v_getI (pc := 130) C fl_M_252 (sh_104 hL) rfl d_M_reads_130 ?_
      refine v_cp (pc := 133) (inv_V (As := [.int (S11 104 29), .int (S11 104 28)]) (st := [rf G 104]) C ml_M_270 mv_M_wordAt ro_M_reads_M_wordAt (sh_104 hL) rfl rfl rfl rfl (Nat.le_of_ble_eq_true rfl) d_M_reads_133) (c_M_wordAt hL S11 (S11 104 29) (S11 104 28)) ⟨rfl, rfl⟩ ⟨Nat.zero_le _, Nat.zero_le _⟩ (fun r12 => ?_)
      refine v_putI (pc := 136) C fp_M_264 (sh_104 hL) rfl d_M_reads_136 (fun S13 => ?_)
      refine v_aload_n (pc := 139) C d_M_reads_139 rfl 0 rfl ?_
      refine v_getI (pc := 140) C fl_M_264 (sh_104 hL) rfl d_M_reads_140 ?_
      refine v_iconst (pc := 143) C d_M_reads_143 ic_m1 ?_
      refine v_icmp_eq (pc := 144) (tgt := 274) C d_M_reads_144 rfl (fun _ => ?_) (fun _ => ?_)
      · exact v_vret C d_M_reads_274 rfl ⟨Nat.zero_le _, Nat.zero_le _⟩ rfl rfl
      · refine v_aload_n (pc := 147) C d_M_reads_147 rfl 0 rfl ?_
        refine v_iconst (pc := 148) C d_M_reads_148 ic_2 ?_
        refine v_putI (pc := 149) C fp_M_261 (sh_104 hL) rfl d_M_reads_149 (fun S14 => ?_)
        refine v_goto (pc := 152) (tgt := 274) C d_M_reads_152 rfl ?_
        exact v_vret C d_M_reads_274 rfl ⟨Nat.zero_le _, Nat.zero_le _⟩ rfl rfl
  · refine v_aload_n (pc := 66) C d_M_reads_66 rfl 1 rfl ?_
    refine v_iconst (pc := 67) C d_M_reads_67 ic_0 ?_
    refine v_putI (pc := 68) C fp_M_261 (sh_104 hL) rfl d_M_reads_68 (fun S15 => ?_)
    exact v_vret C d_M_reads_71 rfl ⟨Nat.zero_le _, Nat.zero_le _⟩ rfl rfl
-- M_isBegin
theorem d_M_isBegin_0 : decode (mB Y_M_isBegin) 0 = .ok (.aload_n 0, 1) := by decide +kernel
theorem d_M_isBegin_1 : decode (mB Y_M_isBegin) 1 = .ok (.getfield 261, 3) := by decide +kernel
theorem d_M_isBegin_4 : decode (mB Y_M_isBegin) 4 = .ok (.iconst 2, 1) := by decide +kernel
theorem d_M_isBegin_5 : decode (mB Y_M_isBegin) 5 = .ok (.if_icmp .ne 39, 3) := by decide +kernel
theorem d_M_isBegin_8 : decode (mB Y_M_isBegin) 8 = .ok (.aload_n 0, 1) := by decide +kernel
theorem d_M_isBegin_9 : decode (mB Y_M_isBegin) 9 = .ok (.getfield 289, 3) := by decide +kernel
theorem d_M_isBegin_12 : decode (mB Y_M_isBegin) 12 = .ok (.ifCond .eq 21, 3) := by decide +kernel
theorem d_M_isBegin_15 : decode (mB Y_M_isBegin) 15 = .ok (.aload_n 0, 1) := by decide +kernel
theorem d_M_isBegin_16 : decode (mB Y_M_isBegin) 16 = .ok (.aload_n 0, 1) := by decide +kernel
theorem d_M_isBegin_17 : decode (mB Y_M_isBegin) 17 = .ok (.getfield 264, 3) := by decide +kernel
theorem d_M_isBegin_20 : decode (mB Y_M_isBegin) 20 = .ok (.bipush 12, 2) := by decide +kernel
theorem d_M_isBegin_22 : decode (mB Y_M_isBegin) 22 = .ok (.bipush 14, 2) := by decide +kernel
theorem d_M_isBegin_24 : decode (mB Y_M_isBegin) 24 = .ok (.invokevirtual 153, 3) := by decide +kernel
theorem d_M_isBegin_27 : decode (mB Y_M_isBegin) 27 = .ok (.ifCond .eq 17, 3) := by decide +kernel
theorem d_M_isBegin_30 : decode (mB Y_M_isBegin) 30 = .ok (.goto 10, 3) := by decide +kernel
theorem d_M_isBegin_33 : decode (mB Y_M_isBegin) 33 = .ok (.aload_n 0, 1) := by decide +kernel
theorem d_M_isBegin_34 : decode (mB Y_M_isBegin) 34 = .ok (.getfield 264, 3) := by decide +kernel
theorem d_M_isBegin_37 : decode (mB Y_M_isBegin) 37 = .ok (.ifCond .ne 7, 3) := by decide +kernel
theorem d_M_isBegin_40 : decode (mB Y_M_isBegin) 40 = .ok (.iconst 1, 1) := by decide +kernel
theorem d_M_isBegin_41 : decode (mB Y_M_isBegin) 41 = .ok (.goto 4, 3) := by decide +kernel
theorem d_M_isBegin_44 : decode (mB Y_M_isBegin) 44 = .ok (.iconst 0, 1) := by decide +kernel
theorem d_M_isBegin_45 : decode (mB Y_M_isBegin) 45 = .ok (.ireturn, 1) := by decide +kernel
theorem ro_M_isBegin_M_isIn : roomy Y_M_isBegin Y_M_isIn := ⟨Nat.le_of_ble_eq_true rfl, Nat.le_of_ble_eq_true rfl⟩
def r_M_isBegin  (S : Sto) : Int32 := (if (S 104 30) = 2 then (if (S 104 39) = 0 then (if (S 104 31) = 0 then 1 else 0) else (if (r_M_isIn (S 104 31) 12 14) = 0 then 0 else 1)) else 0)
theorem z_M_isBegin  (S : Sto) : b01 (r_M_isBegin S) = true := by
  unfold r_M_isBegin
  (repeat' split) <;> first | rfl | decide | exact z_M_isIn .. | rfl
set_option maxHeartbeats 4000000 in
set_option maxRecDepth 20000 in
theorem c_M_isBegin {G : Gl} {L : Shp} (hL : Ext L) (S : Sto)   : Ct Y_M_isBegin G [rf G 104] L S (fp L S) (some (r_M_isBegin S)) := by
  refine ct_of (by decide +kernel) (Nat.le_of_ble_eq_true rfl) (fun g C => ?_)
  have e : (some (r_M_isBegin S) : Option Int32) =
      if (S 104 30) = 2 then
        if (S 104 39) = 0 then
          if (S 104 31) = 0 then
            some 1
          else
            some 0
        else
          if (r_M_isIn (S 104 31) 12 14) = 0 then
            some 0
          else
            some 1
      else
        some 0 := by
    unfold r_M_isBegin
    simp only [some_ite, lt, ltJ]
  rw [e]
  show VO g Y_M_isBegin G (fun z => Qm g Y_M_isBegin G (fp L S z)) 0 0 0 [(0, rf G 104)] [] L S _ some
  refine v_aload_n (pc := 0) C d_M_isBegin_0 rfl 0 rfl ?_
  refine v_getI (pc := 1) C fl_M_261 (sh_104 hL) rfl d_M_isBegin_1 ?_
  refine v_iconst (pc := 4) C d_M_isBegin_4 ic_2 ?_
  refine v_icmp_ne (pc := 5) (tgt := 44) C d_M_isBegin_5 rfl (fun _ => ?_) (fun _ => ?_)
  · refine v_iconst (pc := 44) C d_M_isBegin_44 ic_0 ?_
    exact v_zret (z := 0) C d_M_isBegin_45 rfl (b01_n (by decide)) ⟨Nat.zero_le _, Nat.zero_le _⟩ (rfl) rfl
  · refine v_aload_n (pc := 8) C d_M_isBegin_8 rfl 0 rfl ?_
    refine v_getI (pc := 9) C fl_M_289 (sh_104 hL) rfl d_M_isBegin_9 ?_
    refine v_if_eq (pc := 12) (tgt := 33) C d_M_isBegin_12 rfl (fun _ => ?_) (fun _ => ?_)
    · refine v_aload_n (pc := 33) C d_M_isBegin_33 rfl 0 rfl ?_
      refine v_getI (pc := 34) C fl_M_264 (sh_104 hL) rfl d_M_isBegin_34 ?_
      refine v_if_ne (pc := 37) (tgt := 44) C d_M_isBegin_37 rfl (fun _ => ?_) (fun _ => ?_)
      · refine v_iconst (pc := 44) C d_M_isBegin_44 ic_0 ?_
        exact v_zret (z := 0) C d_M_isBegin_45 rfl (b01_n (by decide)) ⟨Nat.zero_le _, Nat.zero_le _⟩ (rfl) rfl
      · refine v_iconst (pc := 40) C d_M_isBegin_40 ic_1 ?_
        refine v_goto (pc := 41) (tgt := 45) C d_M_isBegin_41 rfl ?_
        exact v_zret (z := 1) C d_M_isBegin_45 rfl (b01_n (by decide)) ⟨Nat.zero_le _, Nat.zero_le _⟩ (rfl) rfl
    · refine v_aload_n (pc := 15) C d_M_isBegin_15 rfl 0 rfl ?_
      refine v_aload_n (pc := 16) C d_M_isBegin_16 rfl 0 rfl ?_
      refine v_getI (pc := 17) C fl_M_264 (sh_104 hL) rfl d_M_isBegin_17 ?_
      refine v_bipush (pc := 20) C d_M_isBegin_20 bp_12 ?_
      refine v_bipush (pc := 22) C d_M_isBegin_22 bp_14 ?_
      refine v_ct (pc := 24) (inv_V (As := [.int (S 104 31), .int 12, .int 14]) (st := []) C ml_M_153 mv_M_isIn ro_M_isBegin_M_isIn (sh_104 hL) rfl rfl rfl rfl (Nat.le_of_ble_eq_true rfl) d_M_isBegin_24) (c_M_isIn hL S (S 104 31) 12 14) ⟨rfl, rfl⟩ ⟨Nat.zero_le _, Nat.zero_le _⟩ ?_
      refine v_if_eq (pc := 27) (tgt := 44) C d_M_isBegin_27 rfl (fun _ => ?_) (fun _ => ?_)
      · refine v_iconst (pc := 44) C d_M_isBegin_44 ic_0 ?_
        exact v_zret (z := 0) C d_M_isBegin_45 rfl (b01_n (by decide)) ⟨Nat.zero_le _, Nat.zero_le _⟩ (rfl) rfl
      · refine v_goto (pc := 30) (tgt := 40) C d_M_isBegin_30 rfl ?_
        refine v_iconst (pc := 40) C d_M_isBegin_40 ic_1 ?_
        refine v_goto (pc := 41) (tgt := 45) C d_M_isBegin_41 rfl ?_
        exact v_zret (z := 1) C d_M_isBegin_45 rfl (b01_n (by decide)) ⟨Nat.zero_le _, Nat.zero_le _⟩ (rfl) rfl
-- M_fails
theorem d_M_fails_0 : decode (mB Y_M_fails) 0 = .ok (.aload_n 0, 1) := by decide +kernel
theorem d_M_fails_1 : decode (mB Y_M_fails) 1 = .ok (.iload_n 1, 1) := by decide +kernel
theorem d_M_fails_2 : decode (mB Y_M_fails) 2 = .ok (.putfield 280, 3) := by decide +kernel
theorem d_M_fails_5 : decode (mB Y_M_fails) 5 = .ok (.aload_n 0, 1) := by decide +kernel
theorem d_M_fails_6 : decode (mB Y_M_fails) 6 = .ok (.aload_n 0, 1) := by decide +kernel
theorem d_M_fails_7 : decode (mB Y_M_fails) 7 = .ok (.getfield 258, 3) := by decide +kernel
theorem d_M_fails_10 : decode (mB Y_M_fails) 10 = .ok (.putfield 283, 3) := by decide +kernel
theorem d_M_fails_13 : decode (mB Y_M_fails) 13 = .ok (.iconst (-1), 1) := by decide +kernel
theorem d_M_fails_14 : decode (mB Y_M_fails) 14 = .ok (.ireturn, 1) := by decide +kernel
def r_M_fails (x1 : Int32) (S : Sto) : Option (Int32 × Sto) :=
  ltS (sw S 104 44 x1) (fun S1 =>
  ltS (sw S1 104 45 (S1 104 29)) (fun S2 =>
  some ((-1), S2)))
set_option maxHeartbeats 4000000 in
set_option maxRecDepth 20000 in
theorem c_M_fails {G : Gl} {L : Shp} (hL : Ext L) (S : Sto) (x1 : Int32)  : Ct Y_M_fails G [rf G 104, .int x1] L S (fi L) (r_M_fails x1 S) := by
  refine ct_of (by decide +kernel) (Nat.le_of_ble_eq_true rfl) (fun g C => ?_)
  show VO g Y_M_fails G (fun z => Qm g Y_M_fails G (fi L z)) 0 0 0 [(0, rf G 104), (1, .int x1)] [] L S (r_M_fails x1 S) some
  unfold r_M_fails
  refine v_aload_n (pc := 0) C d_M_fails_0 rfl 0 rfl ?_
  refine v_iload_n (pc := 1) C d_M_fails_1 rfl 1 rfl ?_
  refine v_putI (pc := 2) C fp_M_280 (sh_104 hL) rfl d_M_fails_2 (fun S1 => ?_)
  refine v_aload_n (pc := 5) C d_M_fails_5 rfl 0 rfl ?_
  refine v_aload_n (pc := 6) C d_M_fails_6 rfl 0 rfl ?_
  refine v_getI (pc := 7) C fl_M_258 (sh_104 hL) rfl d_M_fails_7 ?_
  refine v_putI (pc := 10) C fp_M_283 (sh_104 hL) rfl d_M_fails_10 (fun S2 => ?_)
  refine v_iconst (pc := 13) C d_M_fails_13 ic_m1 ?_
  exact v_iret (z := ((-1), S2)) C d_M_fails_14 rfl ⟨Nat.zero_le _, Nat.zero_le _⟩ (rfl) rfl
-- M_isWord
theorem d_M_isWord_0 : decode (mB Y_M_isWord) 0 = .ok (.aload_n 0, 1) := by decide +kernel
theorem d_M_isWord_1 : decode (mB Y_M_isWord) 1 = .ok (.getfield 261, 3) := by decide +kernel
theorem d_M_isWord_4 : decode (mB Y_M_isWord) 4 = .ok (.iconst 2, 1) := by decide +kernel
theorem d_M_isWord_5 : decode (mB Y_M_isWord) 5 = .ok (.if_icmp .ne 15, 3) := by decide +kernel
theorem d_M_isWord_8 : decode (mB Y_M_isWord) 8 = .ok (.aload_n 0, 1) := by decide +kernel
theorem d_M_isWord_9 : decode (mB Y_M_isWord) 9 = .ok (.getfield 264, 3) := by decide +kernel
theorem d_M_isWord_12 : decode (mB Y_M_isWord) 12 = .ok (.iload_n 1, 1) := by decide +kernel
theorem d_M_isWord_13 : decode (mB Y_M_isWord) 13 = .ok (.if_icmp .ne 7, 3) := by decide +kernel
theorem d_M_isWord_16 : decode (mB Y_M_isWord) 16 = .ok (.iconst 1, 1) := by decide +kernel
theorem d_M_isWord_17 : decode (mB Y_M_isWord) 17 = .ok (.goto 4, 3) := by decide +kernel
theorem d_M_isWord_20 : decode (mB Y_M_isWord) 20 = .ok (.iconst 0, 1) := by decide +kernel
theorem d_M_isWord_21 : decode (mB Y_M_isWord) 21 = .ok (.ireturn, 1) := by decide +kernel
def r_M_isWord (x1 : Int32) (S : Sto) : Int32 := (if (S 104 30) = 2 then (if (S 104 31) = x1 then 1 else 0) else 0)
theorem z_M_isWord (x1 : Int32) (S : Sto) : b01 (r_M_isWord x1 S) = true := by
  unfold r_M_isWord
  (repeat' split) <;> first | rfl | decide | rfl
set_option maxHeartbeats 4000000 in
set_option maxRecDepth 20000 in
theorem c_M_isWord {G : Gl} {L : Shp} (hL : Ext L) (S : Sto) (x1 : Int32)  : Ct Y_M_isWord G [rf G 104, .int x1] L S (fp L S) (some (r_M_isWord x1 S)) := by
  refine ct_of (by decide +kernel) (Nat.le_of_ble_eq_true rfl) (fun g C => ?_)
  have e : (some (r_M_isWord x1 S) : Option Int32) =
      if (S 104 30) = 2 then
        if (S 104 31) = x1 then
          some 1
        else
          some 0
      else
        some 0 := by
    unfold r_M_isWord
    simp only [some_ite, lt, ltJ]
  rw [e]
  show VO g Y_M_isWord G (fun z => Qm g Y_M_isWord G (fp L S z)) 0 0 0 [(0, rf G 104), (1, .int x1)] [] L S _ some
  refine v_aload_n (pc := 0) C d_M_isWord_0 rfl 0 rfl ?_
  refine v_getI (pc := 1) C fl_M_261 (sh_104 hL) rfl d_M_isWord_1 ?_
  refine v_iconst (pc := 4) C d_M_isWord_4 ic_2 ?_
  refine v_icmp_ne (pc := 5) (tgt := 20) C d_M_isWord_5 rfl (fun _ => ?_) (fun _ => ?_)
  · refine v_iconst (pc := 20) C d_M_isWord_20 ic_0 ?_
    exact v_zret (z := 0) C d_M_isWord_21 rfl (b01_n (by decide)) ⟨Nat.zero_le _, Nat.zero_le _⟩ (rfl) rfl
  · refine v_aload_n (pc := 8) C d_M_isWord_8 rfl 0 rfl ?_
    refine v_getI (pc := 9) C fl_M_264 (sh_104 hL) rfl d_M_isWord_9 ?_
    refine v_iload_n (pc := 12) C d_M_isWord_12 rfl 1 rfl ?_
    refine v_icmp_ne (pc := 13) (tgt := 20) C d_M_isWord_13 rfl (fun _ => ?_) (fun _ => ?_)
    · refine v_iconst (pc := 20) C d_M_isWord_20 ic_0 ?_
      exact v_zret (z := 0) C d_M_isWord_21 rfl (b01_n (by decide)) ⟨Nat.zero_le _, Nat.zero_le _⟩ (rfl) rfl
    · refine v_iconst (pc := 16) C d_M_isWord_16 ic_1 ?_
      refine v_goto (pc := 17) (tgt := 21) C d_M_isWord_17 rfl ?_
      exact v_zret (z := 1) C d_M_isWord_21 rfl (b01_n (by decide)) ⟨Nat.zero_le _, Nat.zero_le _⟩ (rfl) rfl
-- M_isSign
theorem d_M_isSign_0 : decode (mB Y_M_isSign) 0 = .ok (.aload_n 0, 1) := by decide +kernel
theorem d_M_isSign_1 : decode (mB Y_M_isSign) 1 = .ok (.getfield 261, 3) := by decide +kernel
theorem d_M_isSign_4 : decode (mB Y_M_isSign) 4 = .ok (.iconst 4, 1) := by decide +kernel
theorem d_M_isSign_5 : decode (mB Y_M_isSign) 5 = .ok (.if_icmp .ne 15, 3) := by decide +kernel
theorem d_M_isSign_8 : decode (mB Y_M_isSign) 8 = .ok (.aload_n 0, 1) := by decide +kernel
theorem d_M_isSign_9 : decode (mB Y_M_isSign) 9 = .ok (.getfield 264, 3) := by decide +kernel
theorem d_M_isSign_12 : decode (mB Y_M_isSign) 12 = .ok (.iload_n 1, 1) := by decide +kernel
theorem d_M_isSign_13 : decode (mB Y_M_isSign) 13 = .ok (.if_icmp .ne 7, 3) := by decide +kernel
theorem d_M_isSign_16 : decode (mB Y_M_isSign) 16 = .ok (.iconst 1, 1) := by decide +kernel
theorem d_M_isSign_17 : decode (mB Y_M_isSign) 17 = .ok (.goto 4, 3) := by decide +kernel
theorem d_M_isSign_20 : decode (mB Y_M_isSign) 20 = .ok (.iconst 0, 1) := by decide +kernel
theorem d_M_isSign_21 : decode (mB Y_M_isSign) 21 = .ok (.ireturn, 1) := by decide +kernel
def r_M_isSign (x1 : Int32) (S : Sto) : Int32 := (if (S 104 30) = 4 then (if (S 104 31) = x1 then 1 else 0) else 0)
theorem z_M_isSign (x1 : Int32) (S : Sto) : b01 (r_M_isSign x1 S) = true := by
  unfold r_M_isSign
  (repeat' split) <;> first | rfl | decide | rfl
set_option maxHeartbeats 4000000 in
set_option maxRecDepth 20000 in
theorem c_M_isSign {G : Gl} {L : Shp} (hL : Ext L) (S : Sto) (x1 : Int32)  : Ct Y_M_isSign G [rf G 104, .int x1] L S (fp L S) (some (r_M_isSign x1 S)) := by
  refine ct_of (by decide +kernel) (Nat.le_of_ble_eq_true rfl) (fun g C => ?_)
  have e : (some (r_M_isSign x1 S) : Option Int32) =
      if (S 104 30) = 4 then
        if (S 104 31) = x1 then
          some 1
        else
          some 0
      else
        some 0 := by
    unfold r_M_isSign
    simp only [some_ite, lt, ltJ]
  rw [e]
  show VO g Y_M_isSign G (fun z => Qm g Y_M_isSign G (fp L S z)) 0 0 0 [(0, rf G 104), (1, .int x1)] [] L S _ some
  refine v_aload_n (pc := 0) C d_M_isSign_0 rfl 0 rfl ?_
  refine v_getI (pc := 1) C fl_M_261 (sh_104 hL) rfl d_M_isSign_1 ?_
  refine v_iconst (pc := 4) C d_M_isSign_4 ic_4 ?_
  refine v_icmp_ne (pc := 5) (tgt := 20) C d_M_isSign_5 rfl (fun _ => ?_) (fun _ => ?_)
  · refine v_iconst (pc := 20) C d_M_isSign_20 ic_0 ?_
    exact v_zret (z := 0) C d_M_isSign_21 rfl (b01_n (by decide)) ⟨Nat.zero_le _, Nat.zero_le _⟩ (rfl) rfl
  · refine v_aload_n (pc := 8) C d_M_isSign_8 rfl 0 rfl ?_
    refine v_getI (pc := 9) C fl_M_264 (sh_104 hL) rfl d_M_isSign_9 ?_
    refine v_iload_n (pc := 12) C d_M_isSign_12 rfl 1 rfl ?_
    refine v_icmp_ne (pc := 13) (tgt := 20) C d_M_isSign_13 rfl (fun _ => ?_) (fun _ => ?_)
    · refine v_iconst (pc := 20) C d_M_isSign_20 ic_0 ?_
      exact v_zret (z := 0) C d_M_isSign_21 rfl (b01_n (by decide)) ⟨Nat.zero_le _, Nat.zero_le _⟩ (rfl) rfl
    · refine v_iconst (pc := 16) C d_M_isSign_16 ic_1 ?_
      refine v_goto (pc := 17) (tgt := 21) C d_M_isSign_17 rfl ?_
      exact v_zret (z := 1) C d_M_isSign_21 rfl (b01_n (by decide)) ⟨Nat.zero_le _, Nat.zero_le _⟩ (rfl) rfl
-- M_waits
theorem d_M_waits_0 : decode (mB Y_M_waits) 0 = .ok (.aload_n 0, 1) := by decide +kernel
theorem d_M_waits_1 : decode (mB Y_M_waits) 1 = .ok (.getfield 81, 3) := by decide +kernel
theorem d_M_waits_4 : decode (mB Y_M_waits) 4 = .ok (.aload_n 0, 1) := by decide +kernel
theorem d_M_waits_5 : decode (mB Y_M_waits) 5 = .ok (.getfield 318, 3) := by decide +kernel
theorem d_M_waits_8 : decode (mB Y_M_waits) 8 = .ok (.iload_n 1, 1) := by decide +kernel
theorem d_M_waits_9 : decode (mB Y_M_waits) 9 = .ok (.iastore, 1) := by decide +kernel
theorem d_M_waits_10 : decode (mB Y_M_waits) 10 = .ok (.aload_n 0, 1) := by decide +kernel
theorem d_M_waits_11 : decode (mB Y_M_waits) 11 = .ok (.aload_n 0, 1) := by decide +kernel
theorem d_M_waits_12 : decode (mB Y_M_waits) 12 = .ok (.getfield 318, 3) := by decide +kernel
theorem d_M_waits_15 : decode (mB Y_M_waits) 15 = .ok (.iconst 1, 1) := by decide +kernel
theorem d_M_waits_16 : decode (mB Y_M_waits) 16 = .ok (.iadd, 1) := by decide +kernel
theorem d_M_waits_17 : decode (mB Y_M_waits) 17 = .ok (.putfield 318, 3) := by decide +kernel
theorem d_M_waits_20 : decode (mB Y_M_waits) 20 = .ok (.return_, 1) := by decide +kernel
def r_M_waits (x1 : Int32) (S : Sto) : Option Sto :=
  chk (inr (S 104 43) 40) (
  ltS (sw S 126 ((S 104 43).toNatClampNeg) x1) (fun S1 =>
  ltS (sw S1 104 43 ((S1 104 43) + 1)) (fun S2 =>
  some S2)))
set_option maxHeartbeats 4000000 in
set_option maxRecDepth 20000 in
theorem c_M_waits {G : Gl} {L : Shp} (hL : Ext L) (S : Sto) (x1 : Int32)  : Ct Y_M_waits G [rf G 104, .int x1] L S (fv L) (r_M_waits x1 S) := by
  refine ct_of (by decide +kernel) (Nat.le_of_ble_eq_true rfl) (fun g C => ?_)
  show VO g Y_M_waits G (fun z => Qm g Y_M_waits G (fv L z)) 0 0 0 [(0, rf G 104), (1, .int x1)] [] L S (r_M_waits x1 S) some
  unfold r_M_waits
  refine v_aload_n (pc := 0) C d_M_waits_0 rfl 0 rfl ?_
  refine v_getR (pc := 1) C fl_M_81 (sh_104 hL) rfl d_M_waits_1 ?_
  refine v_aload_n (pc := 4) C d_M_waits_4 rfl 0 rfl ?_
  refine v_getI (pc := 5) C fl_M_318 (sh_104 hL) rfl d_M_waits_5 ?_
  refine v_iload_n (pc := 8) C d_M_waits_8 rfl 1 rfl ?_
  refine v_iast (pc := 9) C (sh_126 hL) d_M_waits_9 (fun _ S1 => ?_)
  refine v_aload_n (pc := 10) C d_M_waits_10 rfl 0 rfl ?_
  refine v_aload_n (pc := 11) C d_M_waits_11 rfl 0 rfl ?_
  refine v_getI (pc := 12) C fl_M_318 (sh_104 hL) rfl d_M_waits_12 ?_
  refine v_iconst (pc := 15) C d_M_waits_15 ic_1 ?_
  refine v_iadd (pc := 16) C d_M_waits_16 ?_
  refine v_putI (pc := 17) C fp_M_318 (sh_104 hL) rfl d_M_waits_17 (fun S2 => ?_)
  exact v_vret C d_M_waits_20 rfl ⟨Nat.zero_le _, Nat.zero_le _⟩ rfl rfl
-- M_askedBy
theorem d_M_askedBy_0 : decode (mB Y_M_askedBy) 0 = .ok (.aload_n 0, 1) := by decide +kernel
theorem d_M_askedBy_1 : decode (mB Y_M_askedBy) 1 = .ok (.getfield 261, 3) := by decide +kernel
theorem d_M_askedBy_4 : decode (mB Y_M_askedBy) 4 = .ok (.iconst 2, 1) := by decide +kernel
theorem d_M_askedBy_5 : decode (mB Y_M_askedBy) 5 = .ok (.if_icmp .eq 5, 3) := by decide +kernel
theorem d_M_askedBy_8 : decode (mB Y_M_askedBy) 8 = .ok (.iconst (-1), 1) := by decide +kernel
theorem d_M_askedBy_9 : decode (mB Y_M_askedBy) 9 = .ok (.ireturn, 1) := by decide +kernel
theorem d_M_askedBy_10 : decode (mB Y_M_askedBy) 10 = .ok (.aload_n 0, 1) := by decide +kernel
theorem d_M_askedBy_11 : decode (mB Y_M_askedBy) 11 = .ok (.getfield 289, 3) := by decide +kernel
theorem d_M_askedBy_14 : decode (mB Y_M_askedBy) 14 = .ok (.ifCond .eq 27, 3) := by decide +kernel
theorem d_M_askedBy_17 : decode (mB Y_M_askedBy) 17 = .ok (.aload_n 0, 1) := by decide +kernel
theorem d_M_askedBy_18 : decode (mB Y_M_askedBy) 18 = .ok (.getfield 264, 3) := by decide +kernel
theorem d_M_askedBy_21 : decode (mB Y_M_askedBy) 21 = .ok (.bipush 15, 2) := by decide +kernel
theorem d_M_askedBy_23 : decode (mB Y_M_askedBy) 23 = .ok (.if_icmp .lt 16, 3) := by decide +kernel
theorem d_M_askedBy_26 : decode (mB Y_M_askedBy) 26 = .ok (.aload_n 0, 1) := by decide +kernel
theorem d_M_askedBy_27 : decode (mB Y_M_askedBy) 27 = .ok (.getfield 264, 3) := by decide +kernel
theorem d_M_askedBy_30 : decode (mB Y_M_askedBy) 30 = .ok (.bipush 15, 2) := by decide +kernel
theorem d_M_askedBy_32 : decode (mB Y_M_askedBy) 32 = .ok (.isub, 1) := by decide +kernel
theorem d_M_askedBy_33 : decode (mB Y_M_askedBy) 33 = .ok (.bipush 6, 2) := by decide +kernel
theorem d_M_askedBy_35 : decode (mB Y_M_askedBy) 35 = .ok (.iadd, 1) := by decide +kernel
theorem d_M_askedBy_36 : decode (mB Y_M_askedBy) 36 = .ok (.goto 4, 3) := by decide +kernel
theorem d_M_askedBy_39 : decode (mB Y_M_askedBy) 39 = .ok (.iconst (-1), 1) := by decide +kernel
theorem d_M_askedBy_40 : decode (mB Y_M_askedBy) 40 = .ok (.ireturn, 1) := by decide +kernel
theorem d_M_askedBy_41 : decode (mB Y_M_askedBy) 41 = .ok (.aload_n 0, 1) := by decide +kernel
theorem d_M_askedBy_42 : decode (mB Y_M_askedBy) 42 = .ok (.aload_n 0, 1) := by decide +kernel
theorem d_M_askedBy_43 : decode (mB Y_M_askedBy) 43 = .ok (.getfield 264, 3) := by decide +kernel
theorem d_M_askedBy_46 : decode (mB Y_M_askedBy) 46 = .ok (.iconst 1, 1) := by decide +kernel
theorem d_M_askedBy_47 : decode (mB Y_M_askedBy) 47 = .ok (.iconst 3, 1) := by decide +kernel
theorem d_M_askedBy_48 : decode (mB Y_M_askedBy) 48 = .ok (.invokevirtual 153, 3) := by decide +kernel
theorem d_M_askedBy_51 : decode (mB Y_M_askedBy) 51 = .ok (.ifCond .eq 10, 3) := by decide +kernel
theorem d_M_askedBy_54 : decode (mB Y_M_askedBy) 54 = .ok (.aload_n 0, 1) := by decide +kernel
theorem d_M_askedBy_55 : decode (mB Y_M_askedBy) 55 = .ok (.getfield 264, 3) := by decide +kernel
theorem d_M_askedBy_58 : decode (mB Y_M_askedBy) 58 = .ok (.iconst 1, 1) := by decide +kernel
theorem d_M_askedBy_59 : decode (mB Y_M_askedBy) 59 = .ok (.isub, 1) := by decide +kernel
theorem d_M_askedBy_60 : decode (mB Y_M_askedBy) 60 = .ok (.ireturn, 1) := by decide +kernel
theorem d_M_askedBy_61 : decode (mB Y_M_askedBy) 61 = .ok (.aload_n 0, 1) := by decide +kernel
theorem d_M_askedBy_62 : decode (mB Y_M_askedBy) 62 = .ok (.aload_n 0, 1) := by decide +kernel
theorem d_M_askedBy_63 : decode (mB Y_M_askedBy) 63 = .ok (.getfield 264, 3) := by decide +kernel
theorem d_M_askedBy_66 : decode (mB Y_M_askedBy) 66 = .ok (.bipush 9, 2) := by decide +kernel
theorem d_M_askedBy_68 : decode (mB Y_M_askedBy) 68 = .ok (.bipush 11, 2) := by decide +kernel
theorem d_M_askedBy_70 : decode (mB Y_M_askedBy) 70 = .ok (.invokevirtual 153, 3) := by decide +kernel
theorem d_M_askedBy_73 : decode (mB Y_M_askedBy) 73 = .ok (.ifCond .eq 15, 3) := by decide +kernel
theorem d_M_askedBy_76 : decode (mB Y_M_askedBy) 76 = .ok (.aload_n 0, 1) := by decide +kernel
theorem d_M_askedBy_77 : decode (mB Y_M_askedBy) 77 = .ok (.getfield 264, 3) := by decide +kernel
theorem d_M_askedBy_80 : decode (mB Y_M_askedBy) 80 = .ok (.bipush 9, 2) := by decide +kernel
theorem d_M_askedBy_82 : decode (mB Y_M_askedBy) 82 = .ok (.isub, 1) := by decide +kernel
theorem d_M_askedBy_83 : decode (mB Y_M_askedBy) 83 = .ok (.iconst 3, 1) := by decide +kernel
theorem d_M_askedBy_84 : decode (mB Y_M_askedBy) 84 = .ok (.iadd, 1) := by decide +kernel
theorem d_M_askedBy_85 : decode (mB Y_M_askedBy) 85 = .ok (.goto 4, 3) := by decide +kernel
theorem d_M_askedBy_88 : decode (mB Y_M_askedBy) 88 = .ok (.iconst (-1), 1) := by decide +kernel
theorem d_M_askedBy_89 : decode (mB Y_M_askedBy) 89 = .ok (.ireturn, 1) := by decide +kernel
theorem ro_M_askedBy_M_isIn : roomy Y_M_askedBy Y_M_isIn := ⟨Nat.le_of_ble_eq_true rfl, Nat.le_of_ble_eq_true rfl⟩
def r_M_askedBy  (S : Sto) : Int32 := (if (S 104 30) = 2 then (if (S 104 39) = 0 then (if (r_M_isIn (S 104 31) 1 3) = 0 then (if (r_M_isIn (S 104 31) 9 11) = 0 then (-1) else ((S 104 31) - 9) + 3) else (S 104 31) - 1) else (if (S 104 31) < 15 then (-1) else ((S 104 31) - 15) + 6)) else (-1))
set_option maxHeartbeats 4000000 in
set_option maxRecDepth 20000 in
theorem c_M_askedBy {G : Gl} {L : Shp} (hL : Ext L) (S : Sto)   : Ct Y_M_askedBy G [rf G 104] L S (fp L S) (some (r_M_askedBy S)) := by
  refine ct_of (by decide +kernel) (Nat.le_of_ble_eq_true rfl) (fun g C => ?_)
  have e : (some (r_M_askedBy S) : Option Int32) =
      if (S 104 30) = 2 then
        if (S 104 39) = 0 then
          if (r_M_isIn (S 104 31) 1 3) = 0 then
            if (r_M_isIn (S 104 31) 9 11) = 0 then
              some (-1)
            else
              some (((S 104 31) - 9) + 3)
          else
            some ((S 104 31) - 1)
        else
          if (S 104 31) < 15 then
            some (-1)
          else
            some (((S 104 31) - 15) + 6)
      else
        some (-1) := by
    unfold r_M_askedBy
    simp only [some_ite, lt, ltJ]
  rw [e]
  show VO g Y_M_askedBy G (fun z => Qm g Y_M_askedBy G (fp L S z)) 0 0 0 [(0, rf G 104)] [] L S _ some
  refine v_aload_n (pc := 0) C d_M_askedBy_0 rfl 0 rfl ?_
  refine v_getI (pc := 1) C fl_M_261 (sh_104 hL) rfl d_M_askedBy_1 ?_
  refine v_iconst (pc := 4) C d_M_askedBy_4 ic_2 ?_
  refine v_icmp_eq (pc := 5) (tgt := 10) C d_M_askedBy_5 rfl (fun _ => ?_) (fun _ => ?_)
  · refine v_aload_n (pc := 10) C d_M_askedBy_10 rfl 0 rfl ?_
    refine v_getI (pc := 11) C fl_M_289 (sh_104 hL) rfl d_M_askedBy_11 ?_
    refine v_if_eq (pc := 14) (tgt := 41) C d_M_askedBy_14 rfl (fun _ => ?_) (fun _ => ?_)
    · refine v_aload_n (pc := 41) C d_M_askedBy_41 rfl 0 rfl ?_
      refine v_aload_n (pc := 42) C d_M_askedBy_42 rfl 0 rfl ?_
      refine v_getI (pc := 43) C fl_M_264 (sh_104 hL) rfl d_M_askedBy_43 ?_
      refine v_iconst (pc := 46) C d_M_askedBy_46 ic_1 ?_
      refine v_iconst (pc := 47) C d_M_askedBy_47 ic_3 ?_
      refine v_ct (pc := 48) (inv_V (As := [.int (S 104 31), .int 1, .int 3]) (st := []) C ml_M_153 mv_M_isIn ro_M_askedBy_M_isIn (sh_104 hL) rfl rfl rfl rfl (Nat.le_of_ble_eq_true rfl) d_M_askedBy_48) (c_M_isIn hL S (S 104 31) 1 3) ⟨rfl, rfl⟩ ⟨Nat.zero_le _, Nat.zero_le _⟩ ?_
      refine v_if_eq (pc := 51) (tgt := 61) C d_M_askedBy_51 rfl (fun _ => ?_) (fun _ => ?_)
      · refine v_aload_n (pc := 61) C d_M_askedBy_61 rfl 0 rfl ?_
        refine v_aload_n (pc := 62) C d_M_askedBy_62 rfl 0 rfl ?_
        refine v_getI (pc := 63) C fl_M_264 (sh_104 hL) rfl d_M_askedBy_63 ?_
        refine v_bipush (pc := 66) C d_M_askedBy_66 bp_9 ?_
        refine v_bipush (pc := 68) C d_M_askedBy_68 bp_11 ?_
        refine v_ct (pc := 70) (inv_V (As := [.int (S 104 31), .int 9, .int 11]) (st := []) C ml_M_153 mv_M_isIn ro_M_askedBy_M_isIn (sh_104 hL) rfl rfl rfl rfl (Nat.le_of_ble_eq_true rfl) d_M_askedBy_70) (c_M_isIn hL S (S 104 31) 9 11) ⟨rfl, rfl⟩ ⟨Nat.zero_le _, Nat.zero_le _⟩ ?_
        refine v_if_eq (pc := 73) (tgt := 88) C d_M_askedBy_73 rfl (fun _ => ?_) (fun _ => ?_)
        · refine v_iconst (pc := 88) C d_M_askedBy_88 ic_m1 ?_
          exact v_iret (z := (-1)) C d_M_askedBy_89 rfl ⟨Nat.zero_le _, Nat.zero_le _⟩ (rfl) rfl
        · refine v_aload_n (pc := 76) C d_M_askedBy_76 rfl 0 rfl ?_
          refine v_getI (pc := 77) C fl_M_264 (sh_104 hL) rfl d_M_askedBy_77 ?_
          refine v_bipush (pc := 80) C d_M_askedBy_80 bp_9 ?_
          refine v_isub (pc := 82) C d_M_askedBy_82 ?_
          refine v_iconst (pc := 83) C d_M_askedBy_83 ic_3 ?_
          refine v_iadd (pc := 84) C d_M_askedBy_84 ?_
          refine v_goto (pc := 85) (tgt := 89) C d_M_askedBy_85 rfl ?_
          exact v_iret (z := (((S 104 31) - 9) + 3)) C d_M_askedBy_89 rfl ⟨Nat.zero_le _, Nat.zero_le _⟩ (rfl) rfl
      · refine v_aload_n (pc := 54) C d_M_askedBy_54 rfl 0 rfl ?_
        refine v_getI (pc := 55) C fl_M_264 (sh_104 hL) rfl d_M_askedBy_55 ?_
        refine v_iconst (pc := 58) C d_M_askedBy_58 ic_1 ?_
        refine v_isub (pc := 59) C d_M_askedBy_59 ?_
        exact v_iret (z := ((S 104 31) - 1)) C d_M_askedBy_60 rfl ⟨Nat.zero_le _, Nat.zero_le _⟩ (rfl) rfl
    · refine v_aload_n (pc := 17) C d_M_askedBy_17 rfl 0 rfl ?_
      refine v_getI (pc := 18) C fl_M_264 (sh_104 hL) rfl d_M_askedBy_18 ?_
      refine v_bipush (pc := 21) C d_M_askedBy_21 bp_15 ?_
      refine v_icmp_lt (pc := 23) (tgt := 39) C d_M_askedBy_23 rfl (fun _ => ?_) (fun _ => ?_)
      · refine v_iconst (pc := 39) C d_M_askedBy_39 ic_m1 ?_
        exact v_iret (z := (-1)) C d_M_askedBy_40 rfl ⟨Nat.zero_le _, Nat.zero_le _⟩ (rfl) rfl
      · refine v_aload_n (pc := 26) C d_M_askedBy_26 rfl 0 rfl ?_
        refine v_getI (pc := 27) C fl_M_264 (sh_104 hL) rfl d_M_askedBy_27 ?_
        refine v_bipush (pc := 30) C d_M_askedBy_30 bp_15 ?_
        refine v_isub (pc := 32) C d_M_askedBy_32 ?_
        refine v_bipush (pc := 33) C d_M_askedBy_33 bp_6 ?_
        refine v_iadd (pc := 35) C d_M_askedBy_35 ?_
        refine v_goto (pc := 36) (tgt := 40) C d_M_askedBy_36 rfl ?_
        exact v_iret (z := (((S 104 31) - 15) + 6)) C d_M_askedBy_40 rfl ⟨Nat.zero_le _, Nat.zero_le _⟩ (rfl) rfl
  · refine v_iconst (pc := 8) C d_M_askedBy_8 ic_m1 ?_
    exact v_iret (z := (-1)) C d_M_askedBy_9 rfl ⟨Nat.zero_le _, Nat.zero_le _⟩ (rfl) rfl
-- M_emits
theorem d_M_emits_0 : decode (mB Y_M_emits) 0 = .ok (.aload_n 0, 1) := by decide +kernel
theorem d_M_emits_1 : decode (mB Y_M_emits) 1 = .ok (.getfield 75, 3) := by decide +kernel
theorem d_M_emits_4 : decode (mB Y_M_emits) 4 = .ok (.sipush 2000, 3) := by decide +kernel
theorem d_M_emits_7 : decode (mB Y_M_emits) 7 = .ok (.aload_n 0, 1) := by decide +kernel
theorem d_M_emits_8 : decode (mB Y_M_emits) 8 = .ok (.getfield 286, 3) := by decide +kernel
theorem d_M_emits_11 : decode (mB Y_M_emits) 11 = .ok (.iadd, 1) := by decide +kernel
theorem d_M_emits_12 : decode (mB Y_M_emits) 12 = .ok (.iload_n 1, 1) := by decide +kernel
theorem d_M_emits_13 : decode (mB Y_M_emits) 13 = .ok (.iastore, 1) := by decide +kernel
theorem d_M_emits_14 : decode (mB Y_M_emits) 14 = .ok (.aload_n 0, 1) := by decide +kernel
theorem d_M_emits_15 : decode (mB Y_M_emits) 15 = .ok (.getfield 78, 3) := by decide +kernel
theorem d_M_emits_18 : decode (mB Y_M_emits) 18 = .ok (.sipush 2000, 3) := by decide +kernel
theorem d_M_emits_21 : decode (mB Y_M_emits) 21 = .ok (.aload_n 0, 1) := by decide +kernel
theorem d_M_emits_22 : decode (mB Y_M_emits) 22 = .ok (.getfield 286, 3) := by decide +kernel
theorem d_M_emits_25 : decode (mB Y_M_emits) 25 = .ok (.iadd, 1) := by decide +kernel
theorem d_M_emits_26 : decode (mB Y_M_emits) 26 = .ok (.iload_n 2, 1) := by decide +kernel
theorem d_M_emits_27 : decode (mB Y_M_emits) 27 = .ok (.iastore, 1) := by decide +kernel
theorem d_M_emits_28 : decode (mB Y_M_emits) 28 = .ok (.aload_n 0, 1) := by decide +kernel
theorem d_M_emits_29 : decode (mB Y_M_emits) 29 = .ok (.aload_n 0, 1) := by decide +kernel
theorem d_M_emits_30 : decode (mB Y_M_emits) 30 = .ok (.getfield 286, 3) := by decide +kernel
theorem d_M_emits_33 : decode (mB Y_M_emits) 33 = .ok (.iconst 1, 1) := by decide +kernel
theorem d_M_emits_34 : decode (mB Y_M_emits) 34 = .ok (.iadd, 1) := by decide +kernel
theorem d_M_emits_35 : decode (mB Y_M_emits) 35 = .ok (.putfield 286, 3) := by decide +kernel
theorem d_M_emits_38 : decode (mB Y_M_emits) 38 = .ok (.return_, 1) := by decide +kernel
def r_M_emits (x1 : Int32) (x2 : Int32) (S : Sto) : Option Sto :=
  chk (inr (2000 + (S 104 40)) 2400) (
  ltS (sw S 124 ((2000 + (S 104 40)).toNatClampNeg) x1) (fun S1 =>
  chk (inr (2000 + (S1 104 40)) 2400) (
  ltS (sw S1 125 ((2000 + (S1 104 40)).toNatClampNeg) x2) (fun S2 =>
  ltS (sw S2 104 40 ((S2 104 40) + 1)) (fun S3 =>
  some S3)))))
set_option maxHeartbeats 4000000 in
set_option maxRecDepth 20000 in
theorem c_M_emits {G : Gl} {L : Shp} (hL : Ext L) (S : Sto) (x1 : Int32) (x2 : Int32)  : Ct Y_M_emits G [rf G 104, .int x1, .int x2] L S (fv L) (r_M_emits x1 x2 S) := by
  refine ct_of (by decide +kernel) (Nat.le_of_ble_eq_true rfl) (fun g C => ?_)
  show VO g Y_M_emits G (fun z => Qm g Y_M_emits G (fv L z)) 0 0 0 [(0, rf G 104), (1, .int x1), (2, .int x2)] [] L S (r_M_emits x1 x2 S) some
  unfold r_M_emits
  refine v_aload_n (pc := 0) C d_M_emits_0 rfl 0 rfl ?_
  refine v_getR (pc := 1) C fl_M_75 (sh_104 hL) rfl d_M_emits_1 ?_
  refine v_sipush (pc := 4) C d_M_emits_4 sp_2000 ?_
  refine v_aload_n (pc := 7) C d_M_emits_7 rfl 0 rfl ?_
  refine v_getI (pc := 8) C fl_M_286 (sh_104 hL) rfl d_M_emits_8 ?_
  refine v_iadd (pc := 11) C d_M_emits_11 ?_
  refine v_iload_n (pc := 12) C d_M_emits_12 rfl 1 rfl ?_
  refine v_iast (pc := 13) C (sh_124 hL) d_M_emits_13 (fun _ S1 => ?_)
  refine v_aload_n (pc := 14) C d_M_emits_14 rfl 0 rfl ?_
  refine v_getR (pc := 15) C fl_M_78 (sh_104 hL) rfl d_M_emits_15 ?_
  refine v_sipush (pc := 18) C d_M_emits_18 sp_2000 ?_
  refine v_aload_n (pc := 21) C d_M_emits_21 rfl 0 rfl ?_
  refine v_getI (pc := 22) C fl_M_286 (sh_104 hL) rfl d_M_emits_22 ?_
  refine v_iadd (pc := 25) C d_M_emits_25 ?_
  refine v_iload_n (pc := 26) C d_M_emits_26 rfl 2 rfl ?_
  refine v_iast (pc := 27) C (sh_125 hL) d_M_emits_27 (fun _ S2 => ?_)
  refine v_aload_n (pc := 28) C d_M_emits_28 rfl 0 rfl ?_
  refine v_aload_n (pc := 29) C d_M_emits_29 rfl 0 rfl ?_
  refine v_getI (pc := 30) C fl_M_286 (sh_104 hL) rfl d_M_emits_30 ?_
  refine v_iconst (pc := 33) C d_M_emits_33 ic_1 ?_
  refine v_iadd (pc := 34) C d_M_emits_34 ?_
  refine v_putI (pc := 35) C fp_M_286 (sh_104 hL) rfl d_M_emits_35 (fun S3 => ?_)
  exact v_vret C d_M_emits_38 rfl ⟨Nat.zero_le _, Nat.zero_le _⟩ rfl rfl
-- M_readUnit
theorem d_M_readUnit_0 : decode (mB Y_M_readUnit) 0 = .ok (.aload_n 0, 1) := by decide +kernel
theorem d_M_readUnit_1 : decode (mB Y_M_readUnit) 1 = .ok (.invokevirtual 293, 3) := by decide +kernel
theorem d_M_readUnit_4 : decode (mB Y_M_readUnit) 4 = .ok (.istore_n 1, 1) := by decide +kernel
theorem d_M_readUnit_5 : decode (mB Y_M_readUnit) 5 = .ok (.iload_n 1, 1) := by decide +kernel
theorem d_M_readUnit_6 : decode (mB Y_M_readUnit) 6 = .ok (.iconst (-1), 1) := by decide +kernel
theorem d_M_readUnit_7 : decode (mB Y_M_readUnit) 7 = .ok (.if_icmp .ne 17, 3) := by decide +kernel
theorem d_M_readUnit_10 : decode (mB Y_M_readUnit) 10 = .ok (.aload_n 0, 1) := by decide +kernel
theorem d_M_readUnit_11 : decode (mB Y_M_readUnit) 11 = .ok (.getfield 261, 3) := by decide +kernel
theorem d_M_readUnit_14 : decode (mB Y_M_readUnit) 14 = .ok (.iconst 3, 1) := by decide +kernel
theorem d_M_readUnit_15 : decode (mB Y_M_readUnit) 15 = .ok (.if_icmp .eq 9, 3) := by decide +kernel
theorem d_M_readUnit_18 : decode (mB Y_M_readUnit) 18 = .ok (.aload_n 0, 1) := by decide +kernel
theorem d_M_readUnit_19 : decode (mB Y_M_readUnit) 19 = .ok (.iconst 1, 1) := by decide +kernel
theorem d_M_readUnit_20 : decode (mB Y_M_readUnit) 20 = .ok (.invokevirtual 297, 3) := by decide +kernel
theorem d_M_readUnit_23 : decode (mB Y_M_readUnit) 23 = .ok (.ireturn, 1) := by decide +kernel
theorem d_M_readUnit_24 : decode (mB Y_M_readUnit) 24 = .ok (.aload_n 0, 1) := by decide +kernel
theorem d_M_readUnit_25 : decode (mB Y_M_readUnit) 25 = .ok (.iload_n 1, 1) := by decide +kernel
theorem d_M_readUnit_26 : decode (mB Y_M_readUnit) 26 = .ok (.iconst (-1), 1) := by decide +kernel
theorem d_M_readUnit_27 : decode (mB Y_M_readUnit) 27 = .ok (.if_icmp .ne 7, 3) := by decide +kernel
theorem d_M_readUnit_30 : decode (mB Y_M_readUnit) 30 = .ok (.iconst 0, 1) := by decide +kernel
theorem d_M_readUnit_31 : decode (mB Y_M_readUnit) 31 = .ok (.goto 4, 3) := by decide +kernel
theorem d_M_readUnit_34 : decode (mB Y_M_readUnit) 34 = .ok (.iconst 1, 1) := by decide +kernel
theorem d_M_readUnit_35 : decode (mB Y_M_readUnit) 35 = .ok (.iload_n 1, 1) := by decide +kernel
theorem d_M_readUnit_36 : decode (mB Y_M_readUnit) 36 = .ok (.iconst (-1), 1) := by decide +kernel
theorem d_M_readUnit_37 : decode (mB Y_M_readUnit) 37 = .ok (.if_icmp .ne 10, 3) := by decide +kernel
theorem d_M_readUnit_40 : decode (mB Y_M_readUnit) 40 = .ok (.aload_n 0, 1) := by decide +kernel
theorem d_M_readUnit_41 : decode (mB Y_M_readUnit) 41 = .ok (.getfield 264, 3) := by decide +kernel
theorem d_M_readUnit_44 : decode (mB Y_M_readUnit) 44 = .ok (.goto 4, 3) := by decide +kernel
theorem d_M_readUnit_47 : decode (mB Y_M_readUnit) 47 = .ok (.iload_n 1, 1) := by decide +kernel
theorem d_M_readUnit_48 : decode (mB Y_M_readUnit) 48 = .ok (.invokevirtual 300, 3) := by decide +kernel
theorem d_M_readUnit_51 : decode (mB Y_M_readUnit) 51 = .ok (.aload_n 0, 1) := by decide +kernel
theorem d_M_readUnit_52 : decode (mB Y_M_readUnit) 52 = .ok (.invokevirtual 303, 3) := by decide +kernel
theorem d_M_readUnit_55 : decode (mB Y_M_readUnit) 55 = .ok (.iconst 0, 1) := by decide +kernel
theorem d_M_readUnit_56 : decode (mB Y_M_readUnit) 56 = .ok (.ireturn, 1) := by decide +kernel
theorem ro_M_readUnit_M_askedBy : roomy Y_M_readUnit Y_M_askedBy := ⟨Nat.le_of_ble_eq_true rfl, Nat.le_of_ble_eq_true rfl⟩
theorem ro_M_readUnit_M_emits : roomy Y_M_readUnit Y_M_emits := ⟨Nat.le_of_ble_eq_true rfl, Nat.le_of_ble_eq_true rfl⟩
theorem ro_M_readUnit_M_fails : roomy Y_M_readUnit Y_M_fails := ⟨Nat.le_of_ble_eq_true rfl, Nat.le_of_ble_eq_true rfl⟩
theorem ro_M_readUnit_M_reads : roomy Y_M_readUnit Y_M_reads := ⟨Nat.le_of_ble_eq_true rfl, Nat.le_of_ble_eq_true rfl⟩
def r_M_readUnit  (S : Sto) : Option (Int32 × Sto) :=
  lt (r_M_askedBy S) (fun v1 =>
  jn (fun (_ : Unit) =>
    jn (fun (v2 : Int32) =>
      jn (fun (v3 : Int32) =>
        (r_M_emits v2 v3 S).bind (fun S4 =>
        (r_M_reads S4).bind (fun S5 =>
        some (0, S5)))) (fun j48 =>
      if v1 = (-1) then
        j48 (S 104 31)
      else
        j48 (v1))) (fun j35 =>
    if v1 = (-1) then
      j35 (0)
    else
      j35 (1))) (fun j24 =>
  if v1 = (-1) then
    if (S 104 30) = 3 then
      j24 ()
    else
      (r_M_fails 1 S).bind (fun (r6, S7) =>
      some (r6, S7))
  else
    j24 ()))
set_option maxHeartbeats 4000000 in
set_option maxRecDepth 20000 in
theorem c_M_readUnit {G : Gl} {L : Shp} (hL : Ext L) (S : Sto)   : Ct Y_M_readUnit G [rf G 104] L S (fi L) (r_M_readUnit S) := by
  refine ct_of (by decide +kernel) (Nat.le_of_ble_eq_true rfl) (fun g C => ?_)
  show VO g Y_M_readUnit G (fun z => Qm g Y_M_readUnit G (fi L z)) 0 0 0 [(0, rf G 104)] [] L S (r_M_readUnit S) some
  unfold r_M_readUnit
  refine v_aload_n (pc := 0) C d_M_readUnit_0 rfl 0 rfl ?_
  refine v_ct (pc := 1) (inv_V (As := []) (st := []) C ml_M_293 mv_M_askedBy ro_M_readUnit_M_askedBy (sh_104 hL) rfl rfl rfl rfl (Nat.le_of_ble_eq_true rfl) d_M_readUnit_1) (c_M_askedBy hL S) ⟨rfl, rfl⟩ ⟨Nat.zero_le _, Nat.zero_le _⟩ ?_
  refine v_lt (fun v1 => ?_)
  refine v_istore_n (pc := 4) (lv' := [(1, .int v1), (0, rf G 104)]) C d_M_readUnit_4 rfl (by decide) rfl ?_
  refine v_iload_n (pc := 5) C d_M_readUnit_5 rfl 0 rfl ?_
  refine v_iconst (pc := 6) C d_M_readUnit_6 ic_m1 ?_
  refine v_jn (fun j => VO g Y_M_readUnit G (fun z => Qm g Y_M_readUnit G (fi L z)) 0 0 24 [(0, rf G 104), (1, .int v1)] [] L S (j ()) some) (?_) (fun j24 hj24 => ?_)
  · refine v_aload_n (pc := 24) C d_M_readUnit_24 rfl 0 rfl ?_
    refine v_iload_n (pc := 25) C d_M_readUnit_25 rfl 1 rfl ?_
    refine v_iconst (pc := 26) C d_M_readUnit_26 ic_m1 ?_
    refine v_jn (fun j => ∀ (v2 : Int32), VO g Y_M_readUnit G (fun z => Qm g Y_M_readUnit G (fi L z)) 0 0 35 [(0, rf G 104), (1, .int v1)] [.int v2, rf G 104] L S (j (v2)) some) (fun v2 => ?_) (fun j35 hj35 => ?_)
    · refine v_iload_n (pc := 35) C d_M_readUnit_35 rfl 1 rfl ?_
      refine v_iconst (pc := 36) C d_M_readUnit_36 ic_m1 ?_
      refine v_jn (fun j => ∀ (v3 : Int32), VO g Y_M_readUnit G (fun z => Qm g Y_M_readUnit G (fi L z)) 0 0 48 [(0, rf G 104)] [.int v3, .int v2, rf G 104] L S (j (v3)) some) (fun v3 => ?_) (fun j48 hj48 => ?_)
      · refine v_cv (pc := 48) (inv_V (As := [.int v2, .int v3]) (st := []) C ml_M_300 mv_M_emits ro_M_readUnit_M_emits (sh_104 hL) rfl rfl rfl rfl (Nat.le_of_ble_eq_true rfl) d_M_readUnit_48) (c_M_emits hL S v2 v3) ⟨rfl, rfl⟩ ⟨Nat.zero_le _, Nat.zero_le _⟩ (fun S4 => ?_)
        refine v_aload_n (pc := 51) C d_M_readUnit_51 rfl 0 rfl ?_
        refine v_cv (pc := 52) (inv_V (As := []) (st := []) C ml_M_303 mv_M_reads ro_M_readUnit_M_reads (sh_104 hL) rfl rfl rfl rfl (Nat.le_of_ble_eq_true rfl) d_M_readUnit_52) (c_M_reads hL S4) ⟨rfl, rfl⟩ ⟨Nat.zero_le _, Nat.zero_le _⟩ (fun S5 => ?_)
        refine v_iconst (pc := 55) C d_M_readUnit_55 ic_0 ?_
        exact v_iret (z := (0, S5)) C d_M_readUnit_56 rfl ⟨Nat.zero_le _, Nat.zero_le _⟩ (rfl) rfl
      · refine v_icmp_ne (pc := 37) (tgt := 47) C d_M_readUnit_37 rfl (fun _ => ?_) (fun _ => ?_)
        · refine v_iload_n (pc := 47) C d_M_readUnit_47 rfl 1 rfl ?_
          refine v_sub [0] rfl ?_
          exact hj48 v1
        · refine v_aload_n (pc := 40) C d_M_readUnit_40 rfl 0 rfl ?_
          refine v_getI (pc := 41) C fl_M_264 (sh_104 hL) rfl d_M_readUnit_41 ?_
          refine v_goto (pc := 44) (tgt := 48) C d_M_readUnit_44 rfl ?_
          refine v_sub [0] rfl ?_
          exact hj48 (S 104 31)
    · refine v_icmp_ne (pc := 27) (tgt := 34) C d_M_readUnit_27 rfl (fun _ => ?_) (fun _ => ?_)
      · refine v_iconst (pc := 34) C d_M_readUnit_34 ic_1 ?_
        exact hj35 1
      · refine v_iconst (pc := 30) C d_M_readUnit_30 ic_0 ?_
        refine v_goto (pc := 31) (tgt := 35) C d_M_readUnit_31 rfl ?_
        exact hj35 0
  · refine v_icmp_ne (pc := 7) (tgt := 24) C d_M_readUnit_7 rfl (fun _ => ?_) (fun _ => ?_)
    · refine v_sub [1, 0] rfl ?_
      exact hj24
    · refine v_aload_n (pc := 10) C d_M_readUnit_10 rfl 1 rfl ?_
      refine v_getI (pc := 11) C fl_M_261 (sh_104 hL) rfl d_M_readUnit_11 ?_
      refine v_iconst (pc := 14) C d_M_readUnit_14 ic_3 ?_
      refine v_icmp_eq (pc := 15) (tgt := 24) C d_M_readUnit_15 rfl (fun _ => ?_) (fun _ => ?_)
      · refine v_sub [1, 0] rfl ?_
        exact hj24
      · refine v_aload_n (pc := 18) C d_M_readUnit_18 rfl 1 rfl ?_
        refine v_iconst (pc := 19) C d_M_readUnit_19 ic_1 ?_
        refine v_ci (pc := 20) (inv_V (As := [.int 1]) (st := []) C ml_M_297 mv_M_fails ro_M_readUnit_M_fails (sh_104 hL) rfl rfl rfl rfl (Nat.le_of_ble_eq_true rfl) d_M_readUnit_20) (c_M_fails hL S 1) ⟨rfl, rfl⟩ ⟨Nat.zero_le _, Nat.zero_le _⟩ (fun r6 S7 => ?_)
        exact v_iret (z := (r6, S7)) C d_M_readUnit_23 rfl ⟨Nat.zero_le _, Nat.zero_le _⟩ (rfl) rfl
