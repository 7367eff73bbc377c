-- M_roofs
theorem d_M_roofs_0 : decode (mB Y_M_roofs) 0 = .ok (.aload_n 0, 1) := by decide +kernel
theorem d_M_roofs_1 : decode (mB Y_M_roofs) 1 = .ok (.iconst 0, 1) := by decide +kernel
theorem d_M_roofs_2 : decode (mB Y_M_roofs) 2 = .ok (.putfield 150, 3) := by decide +kernel
theorem d_M_roofs_5 : decode (mB Y_M_roofs) 5 = .ok (.aload_n 0, 1) := by decide +kernel
theorem d_M_roofs_6 : decode (mB Y_M_roofs) 6 = .ok (.iload_n 1, 1) := by decide +kernel
theorem d_M_roofs_7 : decode (mB Y_M_roofs) 7 = .ok (.iconst 2, 1) := by decide +kernel
theorem d_M_roofs_8 : decode (mB Y_M_roofs) 8 = .ok (.bipush 6, 2) := by decide +kernel
theorem d_M_roofs_10 : decode (mB Y_M_roofs) 10 = .ok (.invokevirtual 153, 3) := by decide +kernel
theorem d_M_roofs_13 : decode (mB Y_M_roofs) 13 = .ok (.ifCond .eq 15, 3) := by decide +kernel
theorem d_M_roofs_16 : decode (mB Y_M_roofs) 16 = .ok (.aload_n 0, 1) := by decide +kernel
theorem d_M_roofs_17 : decode (mB Y_M_roofs) 17 = .ok (.iload_n 2, 1) := by decide +kernel
theorem d_M_roofs_18 : decode (mB Y_M_roofs) 18 = .ok (.iconst 0, 1) := by decide +kernel
theorem d_M_roofs_19 : decode (mB Y_M_roofs) 19 = .ok (.sipush 999, 3) := by decide +kernel
theorem d_M_roofs_22 : decode (mB Y_M_roofs) 22 = .ok (.invokevirtual 153, 3) := by decide +kernel
theorem d_M_roofs_25 : decode (mB Y_M_roofs) 25 = .ok (.ifCond .ne 5, 3) := by decide +kernel
theorem d_M_roofs_28 : decode (mB Y_M_roofs) 28 = .ok (.iconst (-1), 1) := by decide +kernel
theorem d_M_roofs_29 : decode (mB Y_M_roofs) 29 = .ok (.ireturn, 1) := by decide +kernel
theorem d_M_roofs_30 : decode (mB Y_M_roofs) 30 = .ok (.aload_n 0, 1) := by decide +kernel
theorem d_M_roofs_31 : decode (mB Y_M_roofs) 31 = .ok (.invokevirtual 445, 3) := by decide +kernel
theorem d_M_roofs_34 : decode (mB Y_M_roofs) 34 = .ok (.iconst (-1), 1) := by decide +kernel
theorem d_M_roofs_35 : decode (mB Y_M_roofs) 35 = .ok (.istore_n 3, 1) := by decide +kernel
theorem d_M_roofs_36 : decode (mB Y_M_roofs) 36 = .ok (.iconst (-1), 1) := by decide +kernel
theorem d_M_roofs_37 : decode (mB Y_M_roofs) 37 = .ok (.istore 4, 2) := by decide +kernel
theorem d_M_roofs_39 : decode (mB Y_M_roofs) 39 = .ok (.iconst 0, 1) := by decide +kernel
theorem d_M_roofs_40 : decode (mB Y_M_roofs) 40 = .ok (.istore 5, 2) := by decide +kernel
theorem d_M_roofs_42 : decode (mB Y_M_roofs) 42 = .ok (.iload 5, 2) := by decide +kernel
theorem d_M_roofs_44 : decode (mB Y_M_roofs) 44 = .ok (.sipush 1024, 3) := by decide +kernel
theorem d_M_roofs_47 : decode (mB Y_M_roofs) 47 = .ok (.if_icmp .ge 60, 3) := by decide +kernel
theorem d_M_roofs_50 : decode (mB Y_M_roofs) 50 = .ok (.iload 5, 2) := by decide +kernel
theorem d_M_roofs_52 : decode (mB Y_M_roofs) 52 = .ok (.aload_n 0, 1) := by decide +kernel
theorem d_M_roofs_53 : decode (mB Y_M_roofs) 53 = .ok (.invokevirtual 435, 3) := by decide +kernel
theorem d_M_roofs_56 : decode (mB Y_M_roofs) 56 = .ok (.iconst (-1), 1) := by decide +kernel
theorem d_M_roofs_57 : decode (mB Y_M_roofs) 57 = .ok (.ixor, 1) := by decide +kernel
theorem d_M_roofs_58 : decode (mB Y_M_roofs) 58 = .ok (.iand, 1) := by decide +kernel
theorem d_M_roofs_59 : decode (mB Y_M_roofs) 59 = .ok (.ifCond .ne 42, 3) := by decide +kernel
theorem d_M_roofs_62 : decode (mB Y_M_roofs) 62 = .ok (.aload_n 0, 1) := by decide +kernel
theorem d_M_roofs_63 : decode (mB Y_M_roofs) 63 = .ok (.iload 5, 2) := by decide +kernel
theorem d_M_roofs_65 : decode (mB Y_M_roofs) 65 = .ok (.invokevirtual 419, 3) := by decide +kernel
theorem d_M_roofs_68 : decode (mB Y_M_roofs) 68 = .ok (.iload_n 1, 1) := by decide +kernel
theorem d_M_roofs_69 : decode (mB Y_M_roofs) 69 = .ok (.if_icmp .eq 6, 3) := by decide +kernel
theorem d_M_roofs_72 : decode (mB Y_M_roofs) 72 = .ok (.goto 29, 3) := by decide +kernel
theorem d_M_roofs_75 : decode (mB Y_M_roofs) 75 = .ok (.aload_n 0, 1) := by decide +kernel
theorem d_M_roofs_76 : decode (mB Y_M_roofs) 76 = .ok (.iload 5, 2) := by decide +kernel
theorem d_M_roofs_78 : decode (mB Y_M_roofs) 78 = .ok (.iload_n 2, 1) := by decide +kernel
theorem d_M_roofs_79 : decode (mB Y_M_roofs) 79 = .ok (.invokevirtual 448, 3) := by decide +kernel
theorem d_M_roofs_82 : decode (mB Y_M_roofs) 82 = .ok (.istore 6, 2) := by decide +kernel
theorem d_M_roofs_84 : decode (mB Y_M_roofs) 84 = .ok (.iload 6, 2) := by decide +kernel
theorem d_M_roofs_86 : decode (mB Y_M_roofs) 86 = .ok (.iload 4, 2) := by decide +kernel
theorem d_M_roofs_88 : decode (mB Y_M_roofs) 88 = .ok (.if_icmp .gt 6, 3) := by decide +kernel
theorem d_M_roofs_91 : decode (mB Y_M_roofs) 91 = .ok (.goto 10, 3) := by decide +kernel
theorem d_M_roofs_94 : decode (mB Y_M_roofs) 94 = .ok (.iload 5, 2) := by decide +kernel
theorem d_M_roofs_96 : decode (mB Y_M_roofs) 96 = .ok (.istore_n 3, 1) := by decide +kernel
theorem d_M_roofs_97 : decode (mB Y_M_roofs) 97 = .ok (.iload 6, 2) := by decide +kernel
theorem d_M_roofs_99 : decode (mB Y_M_roofs) 99 = .ok (.istore 4, 2) := by decide +kernel
theorem d_M_roofs_101 : decode (mB Y_M_roofs) 101 = .ok (.iinc 5 1, 3) := by decide +kernel
theorem d_M_roofs_104 : decode (mB Y_M_roofs) 104 = .ok (.goto (-62), 3) := by decide +kernel
theorem d_M_roofs_107 : decode (mB Y_M_roofs) 107 = .ok (.iload_n 3, 1) := by decide +kernel
theorem d_M_roofs_108 : decode (mB Y_M_roofs) 108 = .ok (.ireturn, 1) := by decide +kernel
theorem ro_M_roofs_M_apartBy : roomy Y_M_roofs Y_M_apartBy := ⟨Nat.le_of_ble_eq_true rfl, Nat.le_of_ble_eq_true rfl⟩
theorem ro_M_roofs_M_findsTable : roomy Y_M_roofs Y_M_findsTable := ⟨Nat.le_of_ble_eq_true rfl, Nat.le_of_ble_eq_true rfl⟩
theorem ro_M_roofs_M_isIn : roomy Y_M_roofs Y_M_isIn := ⟨Nat.le_of_ble_eq_true rfl, Nat.le_of_ble_eq_true rfl⟩
theorem ro_M_roofs_M_ones : roomy Y_M_roofs Y_M_ones := ⟨Nat.le_of_ble_eq_true rfl, Nat.le_of_ble_eq_true rfl⟩
theorem ro_M_roofs_M_there : roomy Y_M_roofs Y_M_there := ⟨Nat.le_of_ble_eq_true rfl, Nat.le_of_ble_eq_true rfl⟩
def r_M_roofs_L42 (y1_ : Int32) (y2_ : Int32) : Nat → Int32 → Int32 → Int32 → Sto → Option (Int32 × Int32 × Int32)
  | 0, _, _, _, _ => none
  | n + 1, x3_, x4_, x5_, S =>
    if 1024 ≤ x5_ then
      some (x3_, x4_, x5_)
    else
      (r_M_there S).bind (fun r1 =>
      jn (fun ((v2, v3) : Int32 × Int32) =>
        lt (x5_ + 1) (fun v4 =>
        r_M_roofs_L42 y1_ y2_ n v2 v3 v4 S)) (fun j101 =>
      if (x5_ &&& (r1 ^^^ (-1))) = 0 then
        (r_M_ones x5_).bind (fun r5 =>
        if r5 = y1_ then
          (r_M_apartBy x5_ y2_ S).bind (fun r6 =>
          if x4_ < r6 then
            j101 (x5_, r6)
          else
            j101 (x3_, x4_))
        else
          j101 (x3_, x4_))
      else
        j101 (x3_, x4_)))
set_option maxHeartbeats 4000000 in
set_option maxRecDepth 20000 in
theorem w_M_roofs_L42 {g : Gm} {G : Gl} {L : Shp} (C : Cx g Y_M_roofs G) (hL : Ext L) (S : Sto) (y1_ : Int32) (y2_ : Int32)  :
    ∀ (n : Nat) (x3_ : Int32) (x4_ : Int32) (x5_ : Int32) (K : (Int32 × Int32 × Int32) → Option (Int32 × Sto)), (∀ (x3_ : Int32) (x4_ : Int32) (x5_ : Int32), VO g Y_M_roofs G (fun z => Qm g Y_M_roofs G (fi L z)) 0 0 107 [(3, .int x3_)] [] L S (some (x3_, x4_, x5_)) K) → VO g Y_M_roofs G (fun z => Qm g Y_M_roofs G (fi L z)) 0 0 42 [(0, rf G 104), (1, .int y1_), (2, .int y2_), (3, .int x3_), (4, .int x4_), (5, .int x5_)] [] L S (r_M_roofs_L42 y1_ y2_ n x3_ x4_ x5_ S) K := by
  intro n
  induction n with
  | zero => intro x3_ x4_ x5_ K; intros; exact v_none
  | succ n ih =>
    intro x3_ x4_ x5_ K hK
    rw [r_M_roofs_L42]
    refine v_iload (pc := 42) C d_M_roofs_42 5 rfl ?_
    refine v_sipush (pc := 44) C d_M_roofs_44 sp_1024 ?_
    refine v_icmp_ge (pc := 47) (tgt := 107) C d_M_roofs_47 rfl (fun _ => ?_) (fun _ => ?_)
    · refine v_sub [3] rfl ?_
      exact hK x3_ x4_ x5_
    · refine v_iload (pc := 50) C d_M_roofs_50 5 rfl ?_
      refine v_aload_n (pc := 52) C d_M_roofs_52 rfl 0 rfl ?_
      refine v_cp (pc := 53) (inv_V (As := []) (st := [.int x5_]) C ml_M_435 mv_M_there ro_M_roofs_M_there (sh_104 hL) rfl rfl rfl rfl (Nat.le_of_ble_eq_true rfl) d_M_roofs_53) (c_M_there hL S) ⟨rfl, rfl⟩ ⟨Nat.zero_le _, Nat.zero_le _⟩ (fun r1 => ?_)
      refine v_iconst (pc := 56) C d_M_roofs_56 ic_m1 ?_
      refine v_ixor (pc := 57) C d_M_roofs_57 ?_
      refine v_iand (pc := 58) C d_M_roofs_58 ?_
      refine v_jn (fun j => ∀ (v2 : Int32) (v3 : Int32), VO g Y_M_roofs G (fun z => Qm g Y_M_roofs G (fi L z)) 0 0 101 [(0, rf G 104), (1, .int y1_), (2, .int y2_), (3, .int v2), (4, .int v3), (5, .int x5_)] [] L S (j (v2, v3)) K) (fun v2 v3 => ?_) (fun j101 hj101 => ?_)
      · refine v_iinc (pc := 101) (p := 5) (c := 1) C d_M_roofs_101 rfl (by decide) (by decide) (fun v4 => [(5, .int v4), (0, rf G 104), (1, .int y1_), (2, .int y2_), (3, .int v2), (4, .int v3)]) (fun _ => rfl) (fun v4 => ?_)
        refine v_goto (pc := 104) (tgt := 42) C d_M_roofs_104 rfl ?_
        refine v_sub [1, 2, 3, 4, 5, 0] rfl ?_
        exact ih v2 v3 v4 K hK
      · refine v_if_ne (pc := 59) (tgt := 101) C d_M_roofs_59 rfl (fun _ => ?_) (fun _ => ?_)
        · exact hj101 x3_ x4_
        · refine v_aload_n (pc := 62) C d_M_roofs_62 rfl 0 rfl ?_
          refine v_iload (pc := 63) C d_M_roofs_63 5 rfl ?_
          refine v_cp (pc := 65) (inv_V (As := [.int x5_]) (st := []) C ml_M_419 mv_M_ones ro_M_roofs_M_ones (sh_104 hL) rfl rfl rfl rfl (Nat.le_of_ble_eq_true rfl) d_M_roofs_65) (c_M_ones hL S x5_) ⟨rfl, rfl⟩ ⟨Nat.zero_le _, Nat.zero_le _⟩ (fun r5 => ?_)
          refine v_iload_n (pc := 68) C d_M_roofs_68 rfl 1 rfl ?_
          refine v_icmp_eq (pc := 69) (tgt := 75) C d_M_roofs_69 rfl (fun _ => ?_) (fun _ => ?_)
          · refine v_aload_n (pc := 75) C d_M_roofs_75 rfl 0 rfl ?_
            refine v_iload (pc := 76) C d_M_roofs_76 5 rfl ?_
            refine v_iload_n (pc := 78) C d_M_roofs_78 rfl 2 rfl ?_
            refine v_cp (pc := 79) (inv_V (As := [.int x5_, .int y2_]) (st := []) C ml_M_448 mv_M_apartBy ro_M_roofs_M_apartBy (sh_104 hL) rfl rfl rfl rfl (Nat.le_of_ble_eq_true rfl) d_M_roofs_79) (c_M_apartBy hL S x5_ y2_) ⟨rfl, rfl⟩ ⟨Nat.zero_le _, Nat.zero_le _⟩ (fun r6 => ?_)
            refine v_istore (pc := 82) (lv' := [(6, .int r6), (0, rf G 104), (1, .int y1_), (2, .int y2_), (3, .int x3_), (4, .int x4_), (5, .int x5_)]) C d_M_roofs_82 (by decide) rfl ?_
            refine v_iload (pc := 84) C d_M_roofs_84 0 rfl ?_
            refine v_iload (pc := 86) C d_M_roofs_86 5 rfl ?_
            refine v_icmp_gt (pc := 88) (tgt := 94) C d_M_roofs_88 rfl (fun _ => ?_) (fun _ => ?_)
            · refine v_iload (pc := 94) C d_M_roofs_94 6 rfl ?_
              refine v_istore_n (pc := 96) (lv' := [(3, .int x5_), (6, .int r6), (0, rf G 104), (1, .int y1_), (2, .int y2_), (4, .int x4_), (5, .int x5_)]) C d_M_roofs_96 rfl (by decide) rfl ?_
              refine v_iload (pc := 97) C d_M_roofs_97 1 rfl ?_
              refine v_istore (pc := 99) (lv' := [(4, .int r6), (3, .int x5_), (6, .int r6), (0, rf G 104), (1, .int y1_), (2, .int y2_), (5, .int x5_)]) C d_M_roofs_99 (by decide) rfl ?_
              refine v_sub [3, 4, 5, 1, 0, 6] rfl ?_
              exact hj101 x5_ r6
            · refine v_goto (pc := 91) (tgt := 101) C d_M_roofs_91 rfl ?_
              refine v_sub [1, 2, 3, 4, 5, 6] rfl ?_
              exact hj101 x3_ x4_
          · refine v_goto (pc := 72) (tgt := 101) C d_M_roofs_72 rfl ?_
            exact hj101 x3_ x4_
def r_M_roofs (x1 : Int32) (x2 : Int32) (S : Sto) : Option (Int32 × Sto) :=
  ltS (sw S 104 0 0) (fun S1 =>
  if (r_M_isIn x1 2 6) = 0 then
    some ((-1), S1)
  else
    if (r_M_isIn x2 0 999) = 0 then
      some ((-1), S1)
    else
      (r_M_findsTable S1).bind (fun S2 =>
      (r_M_roofs_L42 x1 x2 fu (-1) (-1) 0 S2).bind (fun (v3, v4, v5) =>
      some (v3, S2))))
set_option maxHeartbeats 4000000 in
set_option maxRecDepth 20000 in
theorem c_M_roofs {G : Gl} {L : Shp} (hL : Ext L) (S : Sto) (x1 : Int32) (x2 : Int32)  : Ct Y_M_roofs G [rf G 104, .int x1, .int x2] L S (fi L) (r_M_roofs x1 x2 S) := by
  refine ct_of (by decide +kernel) (Nat.le_of_ble_eq_true rfl) (fun g C => ?_)
  show VO g Y_M_roofs G (fun z => Qm g Y_M_roofs G (fi L z)) 0 0 0 [(0, rf G 104), (1, .int x1), (2, .int x2)] [] L S (r_M_roofs x1 x2 S) some
  unfold r_M_roofs
  refine v_aload_n (pc := 0) C d_M_roofs_0 rfl 0 rfl ?_
  refine v_iconst (pc := 1) C d_M_roofs_1 ic_0 ?_
  refine v_putI (pc := 2) C fp_M_150 (sh_104 hL) rfl d_M_roofs_2 (fun S1 => ?_)
  refine v_aload_n (pc := 5) C d_M_roofs_5 rfl 0 rfl ?_
  refine v_iload_n (pc := 6) C d_M_roofs_6 rfl 1 rfl ?_
  refine v_iconst (pc := 7) C d_M_roofs_7 ic_2 ?_
  refine v_bipush (pc := 8) C d_M_roofs_8 bp_6 ?_
  refine v_ct (pc := 10) (inv_V (As := [.int x1, .int 2, .int 6]) (st := []) C ml_M_153 mv_M_isIn ro_M_roofs_M_isIn (sh_104 hL) rfl rfl rfl rfl (Nat.le_of_ble_eq_true rfl) d_M_roofs_10) (c_M_isIn hL S1 x1 2 6) ⟨rfl, rfl⟩ ⟨Nat.zero_le _, Nat.zero_le _⟩ ?_
  refine v_if_eq (pc := 13) (tgt := 28) C d_M_roofs_13 rfl (fun _ => ?_) (fun _ => ?_)
  · refine v_iconst (pc := 28) C d_M_roofs_28 ic_m1 ?_
    exact v_iret (z := ((-1), S1)) C d_M_roofs_29 rfl ⟨Nat.zero_le _, Nat.zero_le _⟩ (rfl) rfl
  · refine v_aload_n (pc := 16) C d_M_roofs_16 rfl 0 rfl ?_
    refine v_iload_n (pc := 17) C d_M_roofs_17 rfl 2 rfl ?_
    refine v_iconst (pc := 18) C d_M_roofs_18 ic_0 ?_
    refine v_sipush (pc := 19) C d_M_roofs_19 sp_999 ?_
    refine v_ct (pc := 22) (inv_V (As := [.int x2, .int 0, .int 999]) (st := []) C ml_M_153 mv_M_isIn ro_M_roofs_M_isIn (sh_104 hL) rfl rfl rfl rfl (Nat.le_of_ble_eq_true rfl) d_M_roofs_22) (c_M_isIn hL S1 x2 0 999) ⟨rfl, rfl⟩ ⟨Nat.zero_le _, Nat.zero_le _⟩ ?_
    refine v_if_ne (pc := 25) (tgt := 30) C d_M_roofs_25 rfl (fun _ => ?_) (fun _ => ?_)
    · refine v_aload_n (pc := 30) C d_M_roofs_30 rfl 0 rfl ?_
      refine v_cv (pc := 31) (inv_V (As := []) (st := []) C ml_M_445 mv_M_findsTable ro_M_roofs_M_findsTable (sh_104 hL) rfl rfl rfl rfl (Nat.le_of_ble_eq_true rfl) d_M_roofs_31) (c_M_findsTable hL S1) ⟨rfl, rfl⟩ ⟨Nat.zero_le _, Nat.zero_le _⟩ (fun S2 => ?_)
      refine v_iconst (pc := 34) C d_M_roofs_34 ic_m1 ?_
      refine v_istore_n (pc := 35) (lv' := [(3, .int (-1)), (0, rf G 104), (1, .int x1), (2, .int x2)]) C d_M_roofs_35 rfl (by decide) rfl ?_
      refine v_iconst (pc := 36) C d_M_roofs_36 ic_m1 ?_
      refine v_istore (pc := 37) (lv' := [(4, .int (-1)), (3, .int (-1)), (0, rf G 104), (1, .int x1), (2, .int x2)]) C d_M_roofs_37 (by decide) rfl ?_
      refine v_iconst (pc := 39) C d_M_roofs_39 ic_0 ?_
      refine v_istore (pc := 40) (lv' := [(5, .int 0), (4, .int (-1)), (3, .int (-1)), (0, rf G 104), (1, .int x1), (2, .int x2)]) C d_M_roofs_40 (by decide) rfl ?_
      refine v_sub [3, 4, 5, 2, 1, 0] rfl ?_
      refine v_bind ?_
      refine w_M_roofs_L42 C hL S2 x1 x2  fu (-1) (-1) 0 _ (fun v3 v4 v5 => ?_) 
      refine v_some ?_
      refine v_iload_n (pc := 107) C d_M_roofs_107 rfl 0 rfl ?_
      exact v_iret (z := (v3, S2)) C d_M_roofs_108 rfl ⟨Nat.zero_le _, Nat.zero_le _⟩ (rfl) rfl
    · refine v_iconst (pc := 28) C d_M_roofs_28 ic_m1 ?_
      exact v_iret (z := ((-1), S1)) C d_M_roofs_29 rfl ⟨Nat.zero_le _, Nat.zero_le _⟩ (rfl) rfl
-- M_look
theorem d_M_look_0 : decode (mB Y_M_look) 0 = .ok (.aload_n 0, 1) := by decide +kernel
theorem d_M_look_1 : decode (mB Y_M_look) 1 = .ok (.iconst 0, 1) := by decide +kernel
theorem d_M_look_2 : decode (mB Y_M_look) 2 = .ok (.putfield 150, 3) := by decide +kernel
theorem d_M_look_5 : decode (mB Y_M_look) 5 = .ok (.iload_n 1, 1) := by decide +kernel
theorem d_M_look_6 : decode (mB Y_M_look) 6 = .ok (.ifCond .ne 8, 3) := by decide +kernel
theorem d_M_look_9 : decode (mB Y_M_look) 9 = .ok (.aload_n 0, 1) := by decide +kernel
theorem d_M_look_10 : decode (mB Y_M_look) 10 = .ok (.getfield 199, 3) := by decide +kernel
theorem d_M_look_13 : decode (mB Y_M_look) 13 = .ok (.ireturn, 1) := by decide +kernel
theorem d_M_look_14 : decode (mB Y_M_look) 14 = .ok (.iload_n 1, 1) := by decide +kernel
theorem d_M_look_15 : decode (mB Y_M_look) 15 = .ok (.iconst 1, 1) := by decide +kernel
theorem d_M_look_16 : decode (mB Y_M_look) 16 = .ok (.if_icmp .ne 8, 3) := by decide +kernel
theorem d_M_look_19 : decode (mB Y_M_look) 19 = .ok (.aload_n 0, 1) := by decide +kernel
theorem d_M_look_20 : decode (mB Y_M_look) 20 = .ok (.getfield 202, 3) := by decide +kernel
theorem d_M_look_23 : decode (mB Y_M_look) 23 = .ok (.ireturn, 1) := by decide +kernel
theorem d_M_look_24 : decode (mB Y_M_look) 24 = .ok (.iload_n 1, 1) := by decide +kernel
theorem d_M_look_25 : decode (mB Y_M_look) 25 = .ok (.iconst 2, 1) := by decide +kernel
theorem d_M_look_26 : decode (mB Y_M_look) 26 = .ok (.if_icmp .ne 8, 3) := by decide +kernel
theorem d_M_look_29 : decode (mB Y_M_look) 29 = .ok (.aload_n 0, 1) := by decide +kernel
theorem d_M_look_30 : decode (mB Y_M_look) 30 = .ok (.getfield 359, 3) := by decide +kernel
theorem d_M_look_33 : decode (mB Y_M_look) 33 = .ok (.ireturn, 1) := by decide +kernel
theorem d_M_look_34 : decode (mB Y_M_look) 34 = .ok (.iload_n 1, 1) := by decide +kernel
theorem d_M_look_35 : decode (mB Y_M_look) 35 = .ok (.iconst 3, 1) := by decide +kernel
theorem d_M_look_36 : decode (mB Y_M_look) 36 = .ok (.if_icmp .ne 8, 3) := by decide +kernel
theorem d_M_look_39 : decode (mB Y_M_look) 39 = .ok (.aload_n 0, 1) := by decide +kernel
theorem d_M_look_40 : decode (mB Y_M_look) 40 = .ok (.getfield 381, 3) := by decide +kernel
theorem d_M_look_43 : decode (mB Y_M_look) 43 = .ok (.ireturn, 1) := by decide +kernel
theorem d_M_look_44 : decode (mB Y_M_look) 44 = .ok (.iload_n 1, 1) := by decide +kernel
theorem d_M_look_45 : decode (mB Y_M_look) 45 = .ok (.iconst 4, 1) := by decide +kernel
theorem d_M_look_46 : decode (mB Y_M_look) 46 = .ok (.if_icmp .ne 8, 3) := by decide +kernel
theorem d_M_look_49 : decode (mB Y_M_look) 49 = .ok (.aload_n 0, 1) := by decide +kernel
theorem d_M_look_50 : decode (mB Y_M_look) 50 = .ok (.getfield 426, 3) := by decide +kernel
theorem d_M_look_53 : decode (mB Y_M_look) 53 = .ok (.ireturn, 1) := by decide +kernel
theorem d_M_look_54 : decode (mB Y_M_look) 54 = .ok (.iload_n 1, 1) := by decide +kernel
theorem d_M_look_55 : decode (mB Y_M_look) 55 = .ok (.iconst 5, 1) := by decide +kernel
theorem d_M_look_56 : decode (mB Y_M_look) 56 = .ok (.if_icmp .ne 14, 3) := by decide +kernel
theorem d_M_look_59 : decode (mB Y_M_look) 59 = .ok (.aload_n 0, 1) := by decide +kernel
theorem d_M_look_60 : decode (mB Y_M_look) 60 = .ok (.aload_n 0, 1) := by decide +kernel
theorem d_M_look_61 : decode (mB Y_M_look) 61 = .ok (.invokevirtual 435, 3) := by decide +kernel
theorem d_M_look_64 : decode (mB Y_M_look) 64 = .ok (.invokevirtual 419, 3) := by decide +kernel
theorem d_M_look_67 : decode (mB Y_M_look) 67 = .ok (.goto 4, 3) := by decide +kernel
theorem d_M_look_70 : decode (mB Y_M_look) 70 = .ok (.iconst (-1), 1) := by decide +kernel
theorem d_M_look_71 : decode (mB Y_M_look) 71 = .ok (.ireturn, 1) := by decide +kernel
theorem ro_M_look_M_ones : roomy Y_M_look Y_M_ones := ⟨Nat.le_of_ble_eq_true rfl, Nat.le_of_ble_eq_true rfl⟩
theorem ro_M_look_M_there : roomy Y_M_look Y_M_there := ⟨Nat.le_of_ble_eq_true rfl, Nat.le_of_ble_eq_true rfl⟩
def r_M_look (x1 : Int32) (S : Sto) : Option (Int32 × Sto) :=
  ltS (sw S 104 0 0) (fun S1 =>
  if x1 = 0 then
    some (S1 104 5, S1)
  else
    if x1 = 1 then
      some (S1 104 12, S1)
    else
      if x1 = 2 then
        some (S1 104 50, S1)
      else
        if x1 = 3 then
          some (S1 104 54, S1)
        else
          if x1 = 4 then
            some (S1 104 65, S1)
          else
            if x1 = 5 then
              (r_M_there S1).bind (fun r2 =>
              (r_M_ones r2).bind (fun r3 =>
              some (r3, S1)))
            else
              some ((-1), S1))
set_option maxHeartbeats 4000000 in
set_option maxRecDepth 20000 in
theorem c_M_look {G : Gl} {L : Shp} (hL : Ext L) (S : Sto) (x1 : Int32)  : Ct Y_M_look G [rf G 104, .int x1] L S (fi L) (r_M_look x1 S) := by
  refine ct_of (by decide +kernel) (Nat.le_of_ble_eq_true rfl) (fun g C => ?_)
  show VO g Y_M_look G (fun z => Qm g Y_M_look G (fi L z)) 0 0 0 [(0, rf G 104), (1, .int x1)] [] L S (r_M_look x1 S) some
  unfold r_M_look
  refine v_aload_n (pc := 0) C d_M_look_0 rfl 0 rfl ?_
  refine v_iconst (pc := 1) C d_M_look_1 ic_0 ?_
  refine v_putI (pc := 2) C fp_M_150 (sh_104 hL) rfl d_M_look_2 (fun S1 => ?_)
  refine v_iload_n (pc := 5) C d_M_look_5 rfl 1 rfl ?_
  refine v_if_ne (pc := 6) (tgt := 14) C d_M_look_6 rfl (fun _ => ?_) (fun _ => ?_)
  · refine v_iload_n (pc := 14) C d_M_look_14 rfl 1 rfl ?_
    refine v_iconst (pc := 15) C d_M_look_15 ic_1 ?_
    refine v_icmp_ne (pc := 16) (tgt := 24) C d_M_look_16 rfl (fun _ => ?_) (fun _ => ?_)
    · refine v_iload_n (pc := 24) C d_M_look_24 rfl 1 rfl ?_
      refine v_iconst (pc := 25) C d_M_look_25 ic_2 ?_
      refine v_icmp_ne (pc := 26) (tgt := 34) C d_M_look_26 rfl (fun _ => ?_) (fun _ => ?_)
      · refine v_iload_n (pc := 34) C d_M_look_34 rfl 1 rfl ?_
        refine v_iconst (pc := 35) C d_M_look_35 ic_3 ?_
        refine v_icmp_ne (pc := 36) (tgt := 44) C d_M_look_36 rfl (fun _ => ?_) (fun _ => ?_)
        · refine v_iload_n (pc := 44) C d_M_look_44 rfl 1 rfl ?_
          refine v_iconst (pc := 45) C d_M_look_45 ic_4 ?_
          refine v_icmp_ne (pc := 46) (tgt := 54) C d_M_look_46 rfl (fun _ => ?_) (fun _ => ?_)
          · refine v_iload_n (pc := 54) C d_M_look_54 rfl 1 rfl ?_
            refine v_iconst (pc := 55) C d_M_look_55 ic_5 ?_
            refine v_icmp_ne (pc := 56) (tgt := 70) C d_M_look_56 rfl (fun _ => ?_) (fun _ => ?_)
            · refine v_iconst (pc := 70) C d_M_look_70 ic_m1 ?_
              exact v_iret (z := ((-1), S1)) C d_M_look_71 rfl ⟨Nat.zero_le _, Nat.zero_le _⟩ (rfl) rfl
            · refine v_aload_n (pc := 59) C d_M_look_59 rfl 0 rfl ?_
              refine v_aload_n (pc := 60) C d_M_look_60 rfl 0 rfl ?_
              refine v_cp (pc := 61) (inv_V (As := []) (st := [rf G 104]) C ml_M_435 mv_M_there ro_M_look_M_there (sh_104 hL) rfl rfl rfl rfl (Nat.le_of_ble_eq_true rfl) d_M_look_61) (c_M_there hL S1) ⟨rfl, rfl⟩ ⟨Nat.zero_le _, Nat.zero_le _⟩ (fun r2 => ?_)
              refine v_cp (pc := 64) (inv_V (As := [.int r2]) (st := []) C ml_M_419 mv_M_ones ro_M_look_M_ones (sh_104 hL) rfl rfl rfl rfl (Nat.le_of_ble_eq_true rfl) d_M_look_64) (c_M_ones hL S1 r2) ⟨rfl, rfl⟩ ⟨Nat.zero_le _, Nat.zero_le _⟩ (fun r3 => ?_)
              refine v_goto (pc := 67) (tgt := 71) C d_M_look_67 rfl ?_
              exact v_iret (z := (r3, S1)) C d_M_look_71 rfl ⟨Nat.zero_le _, Nat.zero_le _⟩ (rfl) rfl
          · refine v_aload_n (pc := 49) C d_M_look_49 rfl 0 rfl ?_
            refine v_getI (pc := 50) C fl_M_426 (sh_104 hL) rfl d_M_look_50 ?_
            exact v_iret (z := (S1 104 65, S1)) C d_M_look_53 rfl ⟨Nat.zero_le _, Nat.zero_le _⟩ (rfl) rfl
        · refine v_aload_n (pc := 39) C d_M_look_39 rfl 0 rfl ?_
          refine v_getI (pc := 40) C fl_M_381 (sh_104 hL) rfl d_M_look_40 ?_
          exact v_iret (z := (S1 104 54, S1)) C d_M_look_43 rfl ⟨Nat.zero_le _, Nat.zero_le _⟩ (rfl) rfl
      · refine v_aload_n (pc := 29) C d_M_look_29 rfl 0 rfl ?_
        refine v_getI (pc := 30) C fl_M_359 (sh_104 hL) rfl d_M_look_30 ?_
        exact v_iret (z := (S1 104 50, S1)) C d_M_look_33 rfl ⟨Nat.zero_le _, Nat.zero_le _⟩ (rfl) rfl
    · refine v_aload_n (pc := 19) C d_M_look_19 rfl 0 rfl ?_
      refine v_getI (pc := 20) C fl_M_202 (sh_104 hL) rfl d_M_look_20 ?_
      exact v_iret (z := (S1 104 12, S1)) C d_M_look_23 rfl ⟨Nat.zero_le _, Nat.zero_le _⟩ (rfl) rfl
  · refine v_aload_n (pc := 9) C d_M_look_9 rfl 0 rfl ?_
    refine v_getI (pc := 10) C fl_M_199 (sh_104 hL) rfl d_M_look_10 ?_
    exact v_iret (z := (S1 104 5, S1)) C d_M_look_13 rfl ⟨Nat.zero_le _, Nat.zero_le _⟩ (rfl) rfl
