-- Rd_scan
theorem d_Rd_scan_0 : decode (mB Y_Rd_scan) 0 = .ok (.aload_n 0, 1) := by decide +kernel
theorem d_Rd_scan_1 : decode (mB Y_Rd_scan) 1 = .ok (.getfield 71, 3) := by decide +kernel
theorem d_Rd_scan_4 : decode (mB Y_Rd_scan) 4 = .ok (.aload_n 0, 1) := by decide +kernel
theorem d_Rd_scan_5 : decode (mB Y_Rd_scan) 5 = .ok (.getfield 26, 3) := by decide +kernel
theorem d_Rd_scan_8 : decode (mB Y_Rd_scan) 8 = .ok (.if_icmp .ge 42, 3) := by decide +kernel
theorem d_Rd_scan_11 : decode (mB Y_Rd_scan) 11 = .ok (.aload_n 0, 1) := by decide +kernel
theorem d_Rd_scan_12 : decode (mB Y_Rd_scan) 12 = .ok (.aload_n 0, 1) := by decide +kernel
theorem d_Rd_scan_13 : decode (mB Y_Rd_scan) 13 = .ok (.getfield 71, 3) := by decide +kernel
theorem d_Rd_scan_16 : decode (mB Y_Rd_scan) 16 = .ok (.invokevirtual 83, 3) := by decide +kernel
theorem d_Rd_scan_19 : decode (mB Y_Rd_scan) 19 = .ok (.bipush 32, 2) := by decide +kernel
theorem d_Rd_scan_21 : decode (mB Y_Rd_scan) 21 = .ok (.if_icmp .eq 16, 3) := by decide +kernel
theorem d_Rd_scan_24 : decode (mB Y_Rd_scan) 24 = .ok (.aload_n 0, 1) := by decide +kernel
theorem d_Rd_scan_25 : decode (mB Y_Rd_scan) 25 = .ok (.aload_n 0, 1) := by decide +kernel
theorem d_Rd_scan_26 : decode (mB Y_Rd_scan) 26 = .ok (.getfield 71, 3) := by decide +kernel
theorem d_Rd_scan_29 : decode (mB Y_Rd_scan) 29 = .ok (.invokevirtual 83, 3) := by decide +kernel
theorem d_Rd_scan_32 : decode (mB Y_Rd_scan) 32 = .ok (.bipush 10, 2) := by decide +kernel
theorem d_Rd_scan_34 : decode (mB Y_Rd_scan) 34 = .ok (.if_icmp .ne 16, 3) := by decide +kernel
theorem d_Rd_scan_37 : decode (mB Y_Rd_scan) 37 = .ok (.aload_n 0, 1) := by decide +kernel
theorem d_Rd_scan_38 : decode (mB Y_Rd_scan) 38 = .ok (.dup, 1) := by decide +kernel
theorem d_Rd_scan_39 : decode (mB Y_Rd_scan) 39 = .ok (.getfield 71, 3) := by decide +kernel
theorem d_Rd_scan_42 : decode (mB Y_Rd_scan) 42 = .ok (.iconst 1, 1) := by decide +kernel
theorem d_Rd_scan_43 : decode (mB Y_Rd_scan) 43 = .ok (.iadd, 1) := by decide +kernel
theorem d_Rd_scan_44 : decode (mB Y_Rd_scan) 44 = .ok (.putfield 71, 3) := by decide +kernel
theorem d_Rd_scan_47 : decode (mB Y_Rd_scan) 47 = .ok (.goto (-47), 3) := by decide +kernel
theorem d_Rd_scan_50 : decode (mB Y_Rd_scan) 50 = .ok (.aload_n 0, 1) := by decide +kernel
theorem d_Rd_scan_51 : decode (mB Y_Rd_scan) 51 = .ok (.aload_n 0, 1) := by decide +kernel
theorem d_Rd_scan_52 : decode (mB Y_Rd_scan) 52 = .ok (.getfield 71, 3) := by decide +kernel
theorem d_Rd_scan_55 : decode (mB Y_Rd_scan) 55 = .ok (.putfield 49, 3) := by decide +kernel
theorem d_Rd_scan_58 : decode (mB Y_Rd_scan) 58 = .ok (.aload_n 0, 1) := by decide +kernel
theorem d_Rd_scan_59 : decode (mB Y_Rd_scan) 59 = .ok (.getfield 71, 3) := by decide +kernel
theorem d_Rd_scan_62 : decode (mB Y_Rd_scan) 62 = .ok (.aload_n 0, 1) := by decide +kernel
theorem d_Rd_scan_63 : decode (mB Y_Rd_scan) 63 = .ok (.getfield 26, 3) := by decide +kernel
theorem d_Rd_scan_66 : decode (mB Y_Rd_scan) 66 = .ok (.if_icmp .lt 12, 3) := by decide +kernel
theorem d_Rd_scan_69 : decode (mB Y_Rd_scan) 69 = .ok (.aload_n 0, 1) := by decide +kernel
theorem d_Rd_scan_70 : decode (mB Y_Rd_scan) 70 = .ok (.bipush 14, 2) := by decide +kernel
theorem d_Rd_scan_72 : decode (mB Y_Rd_scan) 72 = .ok (.putfield 39, 3) := by decide +kernel
theorem d_Rd_scan_75 : decode (mB Y_Rd_scan) 75 = .ok (.goto 84, 3) := by decide +kernel
theorem d_Rd_scan_78 : decode (mB Y_Rd_scan) 78 = .ok (.aload_n 0, 1) := by decide +kernel
theorem d_Rd_scan_79 : decode (mB Y_Rd_scan) 79 = .ok (.aload_n 0, 1) := by decide +kernel
theorem d_Rd_scan_80 : decode (mB Y_Rd_scan) 80 = .ok (.getfield 71, 3) := by decide +kernel
theorem d_Rd_scan_83 : decode (mB Y_Rd_scan) 83 = .ok (.invokevirtual 83, 3) := by decide +kernel
theorem d_Rd_scan_86 : decode (mB Y_Rd_scan) 86 = .ok (.invokestatic 87, 3) := by decide +kernel
theorem d_Rd_scan_89 : decode (mB Y_Rd_scan) 89 = .ok (.ifCond .eq 10, 3) := by decide +kernel
theorem d_Rd_scan_92 : decode (mB Y_Rd_scan) 92 = .ok (.aload_n 0, 1) := by decide +kernel
theorem d_Rd_scan_93 : decode (mB Y_Rd_scan) 93 = .ok (.invokevirtual 91, 3) := by decide +kernel
theorem d_Rd_scan_96 : decode (mB Y_Rd_scan) 96 = .ok (.goto 63, 3) := by decide +kernel
theorem d_Rd_scan_99 : decode (mB Y_Rd_scan) 99 = .ok (.aload_n 0, 1) := by decide +kernel
theorem d_Rd_scan_100 : decode (mB Y_Rd_scan) 100 = .ok (.aload_n 0, 1) := by decide +kernel
theorem d_Rd_scan_101 : decode (mB Y_Rd_scan) 101 = .ok (.getfield 71, 3) := by decide +kernel
theorem d_Rd_scan_104 : decode (mB Y_Rd_scan) 104 = .ok (.invokevirtual 83, 3) := by decide +kernel
theorem d_Rd_scan_107 : decode (mB Y_Rd_scan) 107 = .ok (.invokestatic 94, 3) := by decide +kernel
theorem d_Rd_scan_110 : decode (mB Y_Rd_scan) 110 = .ok (.ifCond .eq 10, 3) := by decide +kernel
theorem d_Rd_scan_113 : decode (mB Y_Rd_scan) 113 = .ok (.aload_n 0, 1) := by decide +kernel
theorem d_Rd_scan_114 : decode (mB Y_Rd_scan) 114 = .ok (.invokevirtual 97, 3) := by decide +kernel
theorem d_Rd_scan_117 : decode (mB Y_Rd_scan) 117 = .ok (.goto 42, 3) := by decide +kernel
theorem d_Rd_scan_120 : decode (mB Y_Rd_scan) 120 = .ok (.aload_n 0, 1) := by decide +kernel
theorem d_Rd_scan_121 : decode (mB Y_Rd_scan) 121 = .ok (.aload_n 0, 1) := by decide +kernel
theorem d_Rd_scan_122 : decode (mB Y_Rd_scan) 122 = .ok (.getfield 71, 3) := by decide +kernel
theorem d_Rd_scan_125 : decode (mB Y_Rd_scan) 125 = .ok (.invokevirtual 83, 3) := by decide +kernel
theorem d_Rd_scan_128 : decode (mB Y_Rd_scan) 128 = .ok (.istore_n 1, 1) := by decide +kernel
theorem d_Rd_scan_129 : decode (mB Y_Rd_scan) 129 = .ok (.aload_n 0, 1) := by decide +kernel
theorem d_Rd_scan_130 : decode (mB Y_Rd_scan) 130 = .ok (.ldc 100, 2) := by decide +kernel
theorem d_Rd_scan_132 : decode (mB Y_Rd_scan) 132 = .ok (.iload_n 1, 1) := by decide +kernel
theorem d_Rd_scan_133 : decode (mB Y_Rd_scan) 133 = .ok (.i2c, 1) := by decide +kernel
theorem d_Rd_scan_134 : decode (mB Y_Rd_scan) 134 = .ok (.invokevirtual 102, 3) := by decide +kernel
theorem d_Rd_scan_137 : decode (mB Y_Rd_scan) 137 = .ok (.ifCond .lt 7, 3) := by decide +kernel
theorem d_Rd_scan_140 : decode (mB Y_Rd_scan) 140 = .ok (.iload_n 1, 1) := by decide +kernel
theorem d_Rd_scan_141 : decode (mB Y_Rd_scan) 141 = .ok (.goto 5, 3) := by decide +kernel
theorem d_Rd_scan_144 : decode (mB Y_Rd_scan) 144 = .ok (.bipush 15, 2) := by decide +kernel
theorem d_Rd_scan_146 : decode (mB Y_Rd_scan) 146 = .ok (.putfield 39, 3) := by decide +kernel
theorem d_Rd_scan_149 : decode (mB Y_Rd_scan) 149 = .ok (.aload_n 0, 1) := by decide +kernel
theorem d_Rd_scan_150 : decode (mB Y_Rd_scan) 150 = .ok (.dup, 1) := by decide +kernel
theorem d_Rd_scan_151 : decode (mB Y_Rd_scan) 151 = .ok (.getfield 71, 3) := by decide +kernel
theorem d_Rd_scan_154 : decode (mB Y_Rd_scan) 154 = .ok (.iconst 1, 1) := by decide +kernel
theorem d_Rd_scan_155 : decode (mB Y_Rd_scan) 155 = .ok (.iadd, 1) := by decide +kernel
theorem d_Rd_scan_156 : decode (mB Y_Rd_scan) 156 = .ok (.putfield 71, 3) := by decide +kernel
theorem d_Rd_scan_159 : decode (mB Y_Rd_scan) 159 = .ok (.return_, 1) := by decide +kernel
theorem ro_Rd_scan_Rd_byteAt : roomy Y_Rd_scan Y_Rd_byteAt := ⟨Nat.le_of_ble_eq_true rfl, Nat.le_of_ble_eq_true rfl⟩
theorem ro_Rd_scan_Rd_isDigit : roomy Y_Rd_scan Y_Rd_isDigit := ⟨Nat.le_of_ble_eq_true rfl, Nat.le_of_ble_eq_true rfl⟩
theorem ro_Rd_scan_Rd_isLetter : roomy Y_Rd_scan Y_Rd_isLetter := ⟨Nat.le_of_ble_eq_true rfl, Nat.le_of_ble_eq_true rfl⟩
theorem ro_Rd_scan_Rd_scanNumber : roomy Y_Rd_scan Y_Rd_scanNumber := ⟨Nat.le_of_ble_eq_true rfl, Nat.le_of_ble_eq_true rfl⟩
theorem ro_Rd_scan_Rd_scanWord : roomy Y_Rd_scan Y_Rd_scanWord := ⟨Nat.le_of_ble_eq_true rfl, Nat.le_of_ble_eq_true rfl⟩
theorem ro_Rd_scan_Str_indexOf_0 : roomy Y_Rd_scan Y_Str_indexOf_0 := ⟨Nat.le_of_ble_eq_true rfl, Nat.le_of_ble_eq_true rfl⟩
def r_Rd_scan_L0  : Nat → Sto → Option (Sto)
  | 0, _ => none
  | n + 1, S =>
    if (S 29 1) ≤ (S 29 5) then
      some (S)
    else
      (r_Rd_byteAt (S 29 5) S).bind (fun r1 =>
      jn (fun (_ : Unit) =>
        ltS (sw S 29 5 ((S 29 5) + 1)) (fun S2 =>
        r_Rd_scan_L0 n S2)) (fun j37 =>
      if r1 = 32 then
        j37 ()
      else
        (r_Rd_byteAt (S 29 5) S).bind (fun r3 =>
        if r3 = 10 then
          j37 ()
        else
          some (S))))
set_option maxHeartbeats 4000000 in
set_option maxRecDepth 20000 in
theorem w_Rd_scan_L0 {g : Gm} {G : Gl} {L : Shp} (C : Cx g Y_Rd_scan G) (hL : Ext L)  :
    ∀ (n : Nat)  (S : Sto) (K : (Sto) → Option Sto), (∀ (S : Sto), VO g Y_Rd_scan G (fun z => Qm g Y_Rd_scan G (fv L z)) 0 0 50 [(0, rf G 29)] [] L S (some (S)) K) → VO g Y_Rd_scan G (fun z => Qm g Y_Rd_scan G (fv L z)) 0 0 0 [(0, rf G 29)] [] L S (r_Rd_scan_L0 n S) K := by
  intro n
  induction n with
  | zero => intro S K; intros; exact v_none
  | succ n ih =>
    intro S K hK
    rw [r_Rd_scan_L0]
    refine v_aload_n (pc := 0) C d_Rd_scan_0 rfl 0 rfl ?_
    refine v_getI (pc := 1) C fl_Rd_71 (sh_29 hL) rfl d_Rd_scan_1 ?_
    refine v_aload_n (pc := 4) C d_Rd_scan_4 rfl 0 rfl ?_
    refine v_getI (pc := 5) C fl_Rd_26 (sh_29 hL) rfl d_Rd_scan_5 ?_
    refine v_icmp_ge (pc := 8) (tgt := 50) C d_Rd_scan_8 rfl (fun _ => ?_) (fun _ => ?_)
    · exact hK S
    · refine v_aload_n (pc := 11) C d_Rd_scan_11 rfl 0 rfl ?_
      refine v_aload_n (pc := 12) C d_Rd_scan_12 rfl 0 rfl ?_
      refine v_getI (pc := 13) C fl_Rd_71 (sh_29 hL) rfl d_Rd_scan_13 ?_
      refine v_cp (pc := 16) (inv_V (As := [.int (S 29 5)]) (st := []) C ml_Rd_83 mv_Rd_byteAt ro_Rd_scan_Rd_byteAt (sh_29 hL) rfl rfl rfl rfl (Nat.le_of_ble_eq_true rfl) d_Rd_scan_16) (c_Rd_byteAt hL S (S 29 5)) ⟨rfl, rfl⟩ ⟨Nat.zero_le _, Nat.zero_le _⟩ (fun r1 => ?_)
      refine v_bipush (pc := 19) C d_Rd_scan_19 bp_32 ?_
      refine v_jn (fun j => VO g Y_Rd_scan G (fun z => Qm g Y_Rd_scan G (fv L z)) 0 0 37 [(0, rf G 29)] [] L S (j ()) K) (?_) (fun j37 hj37 => ?_)
      · refine v_aload_n (pc := 37) C d_Rd_scan_37 rfl 0 rfl ?_
        refine v_dup (pc := 38) C d_Rd_scan_38 rfl ?_
        refine v_getI (pc := 39) C fl_Rd_71 (sh_29 hL) rfl d_Rd_scan_39 ?_
        refine v_iconst (pc := 42) C d_Rd_scan_42 ic_1 ?_
        refine v_iadd (pc := 43) C d_Rd_scan_43 ?_
        refine v_putI (pc := 44) C fp_Rd_71 (sh_29 hL) rfl d_Rd_scan_44 (fun S2 => ?_)
        refine v_goto (pc := 47) (tgt := 0) C d_Rd_scan_47 rfl ?_
        exact ih S2 K hK
      · refine v_icmp_eq (pc := 21) (tgt := 37) C d_Rd_scan_21 rfl (fun _ => ?_) (fun _ => ?_)
        · exact hj37
        · refine v_aload_n (pc := 24) C d_Rd_scan_24 rfl 0 rfl ?_
          refine v_aload_n (pc := 25) C d_Rd_scan_25 rfl 0 rfl ?_
          refine v_getI (pc := 26) C fl_Rd_71 (sh_29 hL) rfl d_Rd_scan_26 ?_
          refine v_cp (pc := 29) (inv_V (As := [.int (S 29 5)]) (st := []) C ml_Rd_83 mv_Rd_byteAt ro_Rd_scan_Rd_byteAt (sh_29 hL) rfl rfl rfl rfl (Nat.le_of_ble_eq_true rfl) d_Rd_scan_29) (c_Rd_byteAt hL S (S 29 5)) ⟨rfl, rfl⟩ ⟨Nat.zero_le _, Nat.zero_le _⟩ (fun r3 => ?_)
          refine v_bipush (pc := 32) C d_Rd_scan_32 bp_10 ?_
          refine v_icmp_ne (pc := 34) (tgt := 50) C d_Rd_scan_34 rfl (fun _ => ?_) (fun _ => ?_)
          · exact hK S
          · exact hj37
def r_Rd_scan  (S : Sto) : Option Sto :=
  (r_Rd_scan_L0 fu S).bind (fun (S1) =>
  ltS (sw S1 29 8 (S1 29 5)) (fun S2 =>
  if (S2 29 5) < (S2 29 1) then
    (r_Rd_byteAt (S2 29 5) S2).bind (fun r3 =>
    if (r_Rd_isLetter r3) = 0 then
      (r_Rd_byteAt (S2 29 5) S2).bind (fun r4 =>
      if (r_Rd_isDigit r4) = 0 then
        (r_Rd_byteAt (S2 29 5) S2).bind (fun r5 =>
        (r_Str_indexOf_0 2 ((r5.toUInt32 % 65536).toInt32) S2).bind (fun r6 =>
        jn (fun (v7 : Int32) =>
          ltS (sw S2 29 6 v7) (fun S8 =>
          ltS (sw S8 29 5 ((S8 29 5) + 1)) (fun S9 =>
          some S9))) (fun j146 =>
        if r6 < 0 then
          j146 (15)
        else
          j146 (r5))))
      else
        (r_Rd_scanNumber S2).bind (fun S10 =>
        some S10))
    else
      (r_Rd_scanWord S2).bind (fun S11 =>
      some S11))
  else
    ltS (sw S2 29 6 14) (fun S12 =>
    some S12)))
set_option maxHeartbeats 4000000 in
set_option maxRecDepth 20000 in
theorem c_Rd_scan {G : Gl} {L : Shp} (hL : Ext L) (S : Sto)   : Ct Y_Rd_scan G [rf G 29] L S (fv L) (r_Rd_scan S) := by
  refine ct_of (by decide +kernel) (Nat.le_of_ble_eq_true rfl) (fun g C => ?_)
  show VO g Y_Rd_scan G (fun z => Qm g Y_Rd_scan G (fv L z)) 0 0 0 [(0, rf G 29)] [] L S (r_Rd_scan S) some
  unfold r_Rd_scan
  refine v_bind ?_
  refine w_Rd_scan_L0 C hL  fu S _ (fun S1 => ?_) 
  refine v_some ?_
  refine v_aload_n (pc := 50) C d_Rd_scan_50 rfl 0 rfl ?_
  refine v_aload_n (pc := 51) C d_Rd_scan_51 rfl 0 rfl ?_
  refine v_getI (pc := 52) C fl_Rd_71 (sh_29 hL) rfl d_Rd_scan_52 ?_
  refine v_putI (pc := 55) C fp_Rd_49 (sh_29 hL) rfl d_Rd_scan_55 (fun S2 => ?_)
  refine v_aload_n (pc := 58) C d_Rd_scan_58 rfl 0 rfl ?_
  refine v_getI (pc := 59) C fl_Rd_71 (sh_29 hL) rfl d_Rd_scan_59 ?_
  refine v_aload_n (pc := 62) C d_Rd_scan_62 rfl 0 rfl ?_
  refine v_getI (pc := 63) C fl_Rd_26 (sh_29 hL) rfl d_Rd_scan_63 ?_
  refine v_icmp_lt (pc := 66) (tgt := 78) C d_Rd_scan_66 rfl (fun _ => ?_) (fun _ => ?_)
  · refine v_aload_n (pc := 78) C d_Rd_scan_78 rfl 0 rfl ?_
    refine v_aload_n (pc := 79) C d_Rd_scan_79 rfl 0 rfl ?_
    refine v_getI (pc := 80) C fl_Rd_71 (sh_29 hL) rfl d_Rd_scan_80 ?_
    refine v_cp (pc := 83) (inv_V (As := [.int (S2 29 5)]) (st := []) C ml_Rd_83 mv_Rd_byteAt ro_Rd_scan_Rd_byteAt (sh_29 hL) rfl rfl rfl rfl (Nat.le_of_ble_eq_true rfl) d_Rd_scan_83) (c_Rd_byteAt hL S2 (S2 29 5)) ⟨rfl, rfl⟩ ⟨Nat.zero_le _, Nat.zero_le _⟩ (fun r3 => ?_)
    refine v_ct (pc := 86) (inv_S (As := [.int r3]) (st := []) C ml_Rd_87 ms_Rd_isLetter ro_Rd_scan_Rd_isLetter rfl rfl (Nat.le_of_ble_eq_true rfl) d_Rd_scan_86) (c_Rd_isLetter hL S2 r3) ⟨rfl, rfl⟩ ⟨Nat.zero_le _, Nat.zero_le _⟩ ?_
    refine v_if_eq (pc := 89) (tgt := 99) C d_Rd_scan_89 rfl (fun _ => ?_) (fun _ => ?_)
    · refine v_aload_n (pc := 99) C d_Rd_scan_99 rfl 0 rfl ?_
      refine v_aload_n (pc := 100) C d_Rd_scan_100 rfl 0 rfl ?_
      refine v_getI (pc := 101) C fl_Rd_71 (sh_29 hL) rfl d_Rd_scan_101 ?_
      refine v_cp (pc := 104) (inv_V (As := [.int (S2 29 5)]) (st := []) C ml_Rd_83 mv_Rd_byteAt ro_Rd_scan_Rd_byteAt (sh_29 hL) rfl rfl rfl rfl (Nat.le_of_ble_eq_true rfl) d_Rd_scan_104) (c_Rd_byteAt hL S2 (S2 29 5)) ⟨rfl, rfl⟩ ⟨Nat.zero_le _, Nat.zero_le _⟩ (fun r4 => ?_)
      refine v_ct (pc := 107) (inv_S (As := [.int r4]) (st := []) C ml_Rd_94 ms_Rd_isDigit ro_Rd_scan_Rd_isDigit rfl rfl (Nat.le_of_ble_eq_true rfl) d_Rd_scan_107) (c_Rd_isDigit hL S2 r4) ⟨rfl, rfl⟩ ⟨Nat.zero_le _, Nat.zero_le _⟩ ?_
      refine v_if_eq (pc := 110) (tgt := 120) C d_Rd_scan_110 rfl (fun _ => ?_) (fun _ => ?_)
      · refine v_aload_n (pc := 120) C d_Rd_scan_120 rfl 0 rfl ?_
        refine v_aload_n (pc := 121) C d_Rd_scan_121 rfl 0 rfl ?_
        refine v_getI (pc := 122) C fl_Rd_71 (sh_29 hL) rfl d_Rd_scan_122 ?_
        refine v_cp (pc := 125) (inv_V (As := [.int (S2 29 5)]) (st := []) C ml_Rd_83 mv_Rd_byteAt ro_Rd_scan_Rd_byteAt (sh_29 hL) rfl rfl rfl rfl (Nat.le_of_ble_eq_true rfl) d_Rd_scan_125) (c_Rd_byteAt hL S2 (S2 29 5)) ⟨rfl, rfl⟩ ⟨Nat.zero_le _, Nat.zero_le _⟩ (fun r5 => ?_)
        refine v_istore_n (pc := 128) (lv' := [(1, .int r5), (0, rf G 29)]) C d_Rd_scan_128 rfl (by decide) rfl ?_
        refine v_aload_n (pc := 129) C d_Rd_scan_129 rfl 1 rfl ?_
        refine v_ldcS (pc := 130) (i := 2) C (by decide) rfl d_Rd_scan_130 ?_
        refine v_iload_n (pc := 132) C d_Rd_scan_132 rfl 0 rfl ?_
        refine v_i2c (pc := 133) C d_Rd_scan_133 ?_
        refine v_cp (pc := 134) (inv_VS (As := [.int ((r5.toUInt32 % 65536).toInt32)]) (st := [rf G 29]) C (by decide) ml_Rd_102 mv_Str_indexOf_0 ro_Rd_scan_Str_indexOf_0 rfl rfl rfl (Nat.le_of_ble_eq_true rfl) d_Rd_scan_134) (c_Str_indexOf_0 hL S2 2 ((r5.toUInt32 % 65536).toInt32) (by decide)) ⟨rfl, rfl⟩ ⟨Nat.zero_le _, Nat.zero_le _⟩ (fun r6 => ?_)
        refine v_jn (fun j => ∀ (v7 : Int32), VO g Y_Rd_scan G (fun z => Qm g Y_Rd_scan G (fv L z)) 0 0 146 [(0, rf G 29)] [.int v7, rf G 29] L S2 (j (v7)) some) (fun v7 => ?_) (fun j146 hj146 => ?_)
        · refine v_putI (pc := 146) C fp_Rd_39 (sh_29 hL) rfl d_Rd_scan_146 (fun S8 => ?_)
          refine v_aload_n (pc := 149) C d_Rd_scan_149 rfl 0 rfl ?_
          refine v_dup (pc := 150) C d_Rd_scan_150 rfl ?_
          refine v_getI (pc := 151) C fl_Rd_71 (sh_29 hL) rfl d_Rd_scan_151 ?_
          refine v_iconst (pc := 154) C d_Rd_scan_154 ic_1 ?_
          refine v_iadd (pc := 155) C d_Rd_scan_155 ?_
          refine v_putI (pc := 156) C fp_Rd_71 (sh_29 hL) rfl d_Rd_scan_156 (fun S9 => ?_)
          exact v_vret C d_Rd_scan_159 rfl ⟨Nat.zero_le _, Nat.zero_le _⟩ rfl rfl
        · refine v_if_lt (pc := 137) (tgt := 144) C d_Rd_scan_137 rfl (fun _ => ?_) (fun _ => ?_)
          · refine v_bipush (pc := 144) C d_Rd_scan_144 bp_15 ?_
            refine v_sub [1] rfl ?_
            exact hj146 15
          · refine v_iload_n (pc := 140) C d_Rd_scan_140 rfl 0 rfl ?_
            refine v_goto (pc := 141) (tgt := 146) C d_Rd_scan_141 rfl ?_
            refine v_sub [1] rfl ?_
            exact hj146 r5
      · refine v_aload_n (pc := 113) C d_Rd_scan_113 rfl 0 rfl ?_
        refine v_cv (pc := 114) (inv_V (As := []) (st := []) C ml_Rd_97 mv_Rd_scanNumber ro_Rd_scan_Rd_scanNumber (sh_29 hL) rfl rfl rfl rfl (Nat.le_of_ble_eq_true rfl) d_Rd_scan_114) (c_Rd_scanNumber hL S2) ⟨rfl, rfl⟩ ⟨Nat.zero_le _, Nat.zero_le _⟩ (fun S10 => ?_)
        refine v_goto (pc := 117) (tgt := 159) C d_Rd_scan_117 rfl ?_
        exact v_vret C d_Rd_scan_159 rfl ⟨Nat.zero_le _, Nat.zero_le _⟩ rfl rfl
    · refine v_aload_n (pc := 92) C d_Rd_scan_92 rfl 0 rfl ?_
      refine v_cv (pc := 93) (inv_V (As := []) (st := []) C ml_Rd_91 mv_Rd_scanWord ro_Rd_scan_Rd_scanWord (sh_29 hL) rfl rfl rfl rfl (Nat.le_of_ble_eq_true rfl) d_Rd_scan_93) (c_Rd_scanWord hL S2) ⟨rfl, rfl⟩ ⟨Nat.zero_le _, Nat.zero_le _⟩ (fun S11 => ?_)
      refine v_goto (pc := 96) (tgt := 159) C d_Rd_scan_96 rfl ?_
      exact v_vret C d_Rd_scan_159 rfl ⟨Nat.zero_le _, Nat.zero_le _⟩ rfl rfl
  · refine v_aload_n (pc := 69) C d_Rd_scan_69 rfl 0 rfl ?_
    refine v_bipush (pc := 70) C d_Rd_scan_70 bp_14 ?_
    refine v_putI (pc := 72) C fp_Rd_39 (sh_29 hL) rfl d_Rd_scan_72 (fun S12 => ?_)
    refine v_goto (pc := 75) (tgt := 159) C d_Rd_scan_75 rfl ?_
    exact v_vret C d_Rd_scan_159 rfl ⟨Nat.zero_le _, Nat.zero_le _⟩ rfl rfl
-- Rd_takeLine
theorem d_Rd_takeLine_0 : decode (mB Y_Rd_takeLine) 0 = .ok (.aload_n 0, 1) := by decide +kernel
theorem d_Rd_takeLine_1 : decode (mB Y_Rd_takeLine) 1 = .ok (.getfield 67, 3) := by decide +kernel
theorem d_Rd_takeLine_4 : decode (mB Y_Rd_takeLine) 4 = .ok (.ifCond .eq 7, 3) := by decide +kernel
theorem d_Rd_takeLine_7 : decode (mB Y_Rd_takeLine) 7 = .ok (.iconst 4, 1) := by decide +kernel
theorem d_Rd_takeLine_8 : decode (mB Y_Rd_takeLine) 8 = .ok (.goto 5, 3) := by decide +kernel
theorem d_Rd_takeLine_11 : decode (mB Y_Rd_takeLine) 11 = .ok (.bipush 6, 2) := by decide +kernel
theorem d_Rd_takeLine_13 : decode (mB Y_Rd_takeLine) 13 = .ok (.istore_n 1, 1) := by decide +kernel
theorem d_Rd_takeLine_14 : decode (mB Y_Rd_takeLine) 14 = .ok (.aload_n 0, 1) := by decide +kernel
theorem d_Rd_takeLine_15 : decode (mB Y_Rd_takeLine) 15 = .ok (.getfield 39, 3) := by decide +kernel
theorem d_Rd_takeLine_18 : decode (mB Y_Rd_takeLine) 18 = .ok (.iconst 4, 1) := by decide +kernel
theorem d_Rd_takeLine_19 : decode (mB Y_Rd_takeLine) 19 = .ok (.iload_n 1, 1) := by decide +kernel
theorem d_Rd_takeLine_20 : decode (mB Y_Rd_takeLine) 20 = .ok (.invokestatic 124, 3) := by decide +kernel
theorem d_Rd_takeLine_23 : decode (mB Y_Rd_takeLine) 23 = .ok (.ifCond .ne 5, 3) := by decide +kernel
theorem d_Rd_takeLine_26 : decode (mB Y_Rd_takeLine) 26 = .ok (.iconst 1, 1) := by decide +kernel
theorem d_Rd_takeLine_27 : decode (mB Y_Rd_takeLine) 27 = .ok (.ireturn, 1) := by decide +kernel
theorem d_Rd_takeLine_28 : decode (mB Y_Rd_takeLine) 28 = .ok (.aload_n 0, 1) := by decide +kernel
theorem d_Rd_takeLine_29 : decode (mB Y_Rd_takeLine) 29 = .ok (.getfield 64, 3) := by decide +kernel
theorem d_Rd_takeLine_32 : decode (mB Y_Rd_takeLine) 32 = .ok (.bipush 12, 2) := by decide +kernel
theorem d_Rd_takeLine_34 : decode (mB Y_Rd_takeLine) 34 = .ok (.if_icmp .lt 5, 3) := by decide +kernel
theorem d_Rd_takeLine_37 : decode (mB Y_Rd_takeLine) 37 = .ok (.iconst 3, 1) := by decide +kernel
theorem d_Rd_takeLine_38 : decode (mB Y_Rd_takeLine) 38 = .ok (.ireturn, 1) := by decide +kernel
theorem d_Rd_takeLine_39 : decode (mB Y_Rd_takeLine) 39 = .ok (.aload_n 0, 1) := by decide +kernel
theorem d_Rd_takeLine_40 : decode (mB Y_Rd_takeLine) 40 = .ok (.dup, 1) := by decide +kernel
theorem d_Rd_takeLine_41 : decode (mB Y_Rd_takeLine) 41 = .ok (.getfield 64, 3) := by decide +kernel
theorem d_Rd_takeLine_44 : decode (mB Y_Rd_takeLine) 44 = .ok (.iconst 1, 1) := by decide +kernel
theorem d_Rd_takeLine_45 : decode (mB Y_Rd_takeLine) 45 = .ok (.iadd, 1) := by decide +kernel
theorem d_Rd_takeLine_46 : decode (mB Y_Rd_takeLine) 46 = .ok (.putfield 64, 3) := by decide +kernel
theorem d_Rd_takeLine_49 : decode (mB Y_Rd_takeLine) 49 = .ok (.aload_n 0, 1) := by decide +kernel
theorem d_Rd_takeLine_50 : decode (mB Y_Rd_takeLine) 50 = .ok (.aload_n 0, 1) := by decide +kernel
theorem d_Rd_takeLine_51 : decode (mB Y_Rd_takeLine) 51 = .ok (.getfield 39, 3) := by decide +kernel
theorem d_Rd_takeLine_54 : decode (mB Y_Rd_takeLine) 54 = .ok (.iconst 4, 1) := by decide +kernel
theorem d_Rd_takeLine_55 : decode (mB Y_Rd_takeLine) 55 = .ok (.isub, 1) := by decide +kernel
theorem d_Rd_takeLine_56 : decode (mB Y_Rd_takeLine) 56 = .ok (.iconst 1, 1) := by decide +kernel
theorem d_Rd_takeLine_57 : decode (mB Y_Rd_takeLine) 57 = .ok (.iadd, 1) := by decide +kernel
theorem d_Rd_takeLine_58 : decode (mB Y_Rd_takeLine) 58 = .ok (.putfield 152, 3) := by decide +kernel
theorem d_Rd_takeLine_61 : decode (mB Y_Rd_takeLine) 61 = .ok (.aload_n 0, 1) := by decide +kernel
theorem d_Rd_takeLine_62 : decode (mB Y_Rd_takeLine) 62 = .ok (.aload_n 0, 1) := by decide +kernel
theorem d_Rd_takeLine_63 : decode (mB Y_Rd_takeLine) 63 = .ok (.getfield 67, 3) := by decide +kernel
theorem d_Rd_takeLine_66 : decode (mB Y_Rd_takeLine) 66 = .ok (.ifCond .eq 7, 3) := by decide +kernel
theorem d_Rd_takeLine_69 : decode (mB Y_Rd_takeLine) 69 = .ok (.iconst 1, 1) := by decide +kernel
theorem d_Rd_takeLine_70 : decode (mB Y_Rd_takeLine) 70 = .ok (.goto 4, 3) := by decide +kernel
theorem d_Rd_takeLine_73 : decode (mB Y_Rd_takeLine) 73 = .ok (.iconst 2, 1) := by decide +kernel
theorem d_Rd_takeLine_74 : decode (mB Y_Rd_takeLine) 74 = .ok (.putfield 42, 3) := by decide +kernel
theorem d_Rd_takeLine_77 : decode (mB Y_Rd_takeLine) 77 = .ok (.iconst 0, 1) := by decide +kernel
theorem d_Rd_takeLine_78 : decode (mB Y_Rd_takeLine) 78 = .ok (.ireturn, 1) := by decide +kernel
theorem ro_Rd_takeLine_B_within : roomy Y_Rd_takeLine Y_B_within := ⟨Nat.le_of_ble_eq_true rfl, Nat.le_of_ble_eq_true rfl⟩
def r_Rd_takeLine  (S : Sto) : Option (Int32 × Sto) :=
  jn (fun (v1 : Int32) =>
    if (r_B_within (S 29 6) 4 v1) = 0 then
      some (1, S)
    else
      if (S 29 11) < 12 then
        ltS (sw S 29 11 ((S 29 11) + 1)) (fun S2 =>
        ltS (sw S2 29 12 (((S2 29 6) - 4) + 1)) (fun S3 =>
        jn (fun (v4 : Int32) =>
          ltS (sw S3 29 9 v4) (fun S5 =>
          some (0, S5))) (fun j74 =>
        if (S3 29 4) = 0 then
          j74 (2)
        else
          j74 (1))))
      else
        some (3, S)) (fun j13 =>
  if (S 29 4) = 0 then
    j13 (6)
  else
    j13 (4))
set_option maxHeartbeats 4000000 in
set_option maxRecDepth 20000 in
theorem c_Rd_takeLine {G : Gl} {L : Shp} (hL : Ext L) (S : Sto)   : Ct Y_Rd_takeLine G [rf G 29] L S (fi L) (r_Rd_takeLine S) := by
  refine ct_of (by decide +kernel) (Nat.le_of_ble_eq_true rfl) (fun g C => ?_)
  show VO g Y_Rd_takeLine G (fun z => Qm g Y_Rd_takeLine G (fi L z)) 0 0 0 [(0, rf G 29)] [] L S (r_Rd_takeLine S) some
  unfold r_Rd_takeLine
  refine v_aload_n (pc := 0) C d_Rd_takeLine_0 rfl 0 rfl ?_
  refine v_getI (pc := 1) C fl_Rd_67 (sh_29 hL) rfl d_Rd_takeLine_1 ?_
  refine v_jn (fun j => ∀ (v1 : Int32), VO g Y_Rd_takeLine G (fun z => Qm g Y_Rd_takeLine G (fi L z)) 0 0 13 [(0, rf G 29)] [.int v1] L S (j (v1)) some) (fun v1 => ?_) (fun j13 hj13 => ?_)
  · refine v_istore_n (pc := 13) (lv' := [(1, .int v1), (0, rf G 29)]) C d_Rd_takeLine_13 rfl (by decide) rfl ?_
    refine v_aload_n (pc := 14) C d_Rd_takeLine_14 rfl 1 rfl ?_
    refine v_getI (pc := 15) C fl_Rd_39 (sh_29 hL) rfl d_Rd_takeLine_15 ?_
    refine v_iconst (pc := 18) C d_Rd_takeLine_18 ic_4 ?_
    refine v_iload_n (pc := 19) C d_Rd_takeLine_19 rfl 0 rfl ?_
    refine v_ct (pc := 20) (inv_SN (As := [.int (S 29 6), .int 4, .int v1]) (st := []) C mn_Rd_124 ms_B_within ro_Rd_takeLine_B_within rfl rfl (Nat.le_of_ble_eq_true rfl) d_Rd_takeLine_20) (c_B_within hL S (S 29 6) 4 v1) ⟨rfl, rfl⟩ ⟨Nat.zero_le _, Nat.zero_le _⟩ ?_
    refine v_if_ne (pc := 23) (tgt := 28) C d_Rd_takeLine_23 rfl (fun _ => ?_) (fun _ => ?_)
    · refine v_aload_n (pc := 28) C d_Rd_takeLine_28 rfl 1 rfl ?_
      refine v_getI (pc := 29) C fl_Rd_64 (sh_29 hL) rfl d_Rd_takeLine_29 ?_
      refine v_bipush (pc := 32) C d_Rd_takeLine_32 bp_12 ?_
      refine v_icmp_lt (pc := 34) (tgt := 39) C d_Rd_takeLine_34 rfl (fun _ => ?_) (fun _ => ?_)
      · refine v_aload_n (pc := 39) C d_Rd_takeLine_39 rfl 1 rfl ?_
        refine v_dup (pc := 40) C d_Rd_takeLine_40 rfl ?_
        refine v_getI (pc := 41) C fl_Rd_64 (sh_29 hL) rfl d_Rd_takeLine_41 ?_
        refine v_iconst (pc := 44) C d_Rd_takeLine_44 ic_1 ?_
        refine v_iadd (pc := 45) C d_Rd_takeLine_45 ?_
        refine v_putI (pc := 46) C fp_Rd_64 (sh_29 hL) rfl d_Rd_takeLine_46 (fun S2 => ?_)
        refine v_aload_n (pc := 49) C d_Rd_takeLine_49 rfl 1 rfl ?_
        refine v_aload_n (pc := 50) C d_Rd_takeLine_50 rfl 1 rfl ?_
        refine v_getI (pc := 51) C fl_Rd_39 (sh_29 hL) rfl d_Rd_takeLine_51 ?_
        refine v_iconst (pc := 54) C d_Rd_takeLine_54 ic_4 ?_
        refine v_isub (pc := 55) C d_Rd_takeLine_55 ?_
        refine v_iconst (pc := 56) C d_Rd_takeLine_56 ic_1 ?_
        refine v_iadd (pc := 57) C d_Rd_takeLine_57 ?_
        refine v_putI (pc := 58) C fp_Rd_152 (sh_29 hL) rfl d_Rd_takeLine_58 (fun S3 => ?_)
        refine v_aload_n (pc := 61) C d_Rd_takeLine_61 rfl 1 rfl ?_
        refine v_aload_n (pc := 62) C d_Rd_takeLine_62 rfl 1 rfl ?_
        refine v_getI (pc := 63) C fl_Rd_67 (sh_29 hL) rfl d_Rd_takeLine_63 ?_
        refine v_jn (fun j => ∀ (v4 : Int32), VO g Y_Rd_takeLine G (fun z => Qm g Y_Rd_takeLine G (fi L z)) 0 0 74 [] [.int v4, rf G 29] L S3 (j (v4)) some) (fun v4 => ?_) (fun j74 hj74 => ?_)
        · refine v_putI (pc := 74) C fp_Rd_42 (sh_29 hL) rfl d_Rd_takeLine_74 (fun S5 => ?_)
          refine v_iconst (pc := 77) C d_Rd_takeLine_77 ic_0 ?_
          exact v_iret (z := (0, S5)) C d_Rd_takeLine_78 rfl ⟨Nat.zero_le _, Nat.zero_le _⟩ (rfl) rfl
        · refine v_if_eq (pc := 66) (tgt := 73) C d_Rd_takeLine_66 rfl (fun _ => ?_) (fun _ => ?_)
          · refine v_iconst (pc := 73) C d_Rd_takeLine_73 ic_2 ?_
            refine v_sub [] rfl ?_
            exact hj74 2
          · refine v_iconst (pc := 69) C d_Rd_takeLine_69 ic_1 ?_
            refine v_goto (pc := 70) (tgt := 74) C d_Rd_takeLine_70 rfl ?_
            refine v_sub [] rfl ?_
            exact hj74 1
      · refine v_iconst (pc := 37) C d_Rd_takeLine_37 ic_3 ?_
        exact v_iret (z := (3, S)) C d_Rd_takeLine_38 rfl ⟨Nat.zero_le _, Nat.zero_le _⟩ (rfl) rfl
    · refine v_iconst (pc := 26) C d_Rd_takeLine_26 ic_1 ?_
      exact v_iret (z := (1, S)) C d_Rd_takeLine_27 rfl ⟨Nat.zero_le _, Nat.zero_le _⟩ (rfl) rfl
  · refine v_if_eq (pc := 4) (tgt := 11) C d_Rd_takeLine_4 rfl (fun _ => ?_) (fun _ => ?_)
    · refine v_bipush (pc := 11) C d_Rd_takeLine_11 bp_6 ?_
      exact hj13 6
    · refine v_iconst (pc := 7) C d_Rd_takeLine_7 ic_4 ?_
      refine v_goto (pc := 8) (tgt := 13) C d_Rd_takeLine_8 rfl ?_
      exact hj13 4
-- Rd_takeKind
theorem d_Rd_takeKind_0 : decode (mB Y_Rd_takeKind) 0 = .ok (.aload_n 0, 1) := by decide +kernel
theorem d_Rd_takeKind_1 : decode (mB Y_Rd_takeKind) 1 = .ok (.getfield 39, 3) := by decide +kernel
theorem d_Rd_takeKind_4 : decode (mB Y_Rd_takeKind) 4 = .ok (.iconst 5, 1) := by decide +kernel
theorem d_Rd_takeKind_5 : decode (mB Y_Rd_takeKind) 5 = .ok (.bipush 8, 2) := by decide +kernel
theorem d_Rd_takeKind_7 : decode (mB Y_Rd_takeKind) 7 = .ok (.invokestatic 124, 3) := by decide +kernel
theorem d_Rd_takeKind_10 : decode (mB Y_Rd_takeKind) 10 = .ok (.ifCond .ne 5, 3) := by decide +kernel
theorem d_Rd_takeKind_13 : decode (mB Y_Rd_takeKind) 13 = .ok (.iconst 1, 1) := by decide +kernel
theorem d_Rd_takeKind_14 : decode (mB Y_Rd_takeKind) 14 = .ok (.ireturn, 1) := by decide +kernel
theorem d_Rd_takeKind_15 : decode (mB Y_Rd_takeKind) 15 = .ok (.aload_n 0, 1) := by decide +kernel
theorem d_Rd_takeKind_16 : decode (mB Y_Rd_takeKind) 16 = .ok (.aload_n 0, 1) := by decide +kernel
theorem d_Rd_takeKind_17 : decode (mB Y_Rd_takeKind) 17 = .ok (.getfield 39, 3) := by decide +kernel
theorem d_Rd_takeKind_20 : decode (mB Y_Rd_takeKind) 20 = .ok (.iconst 5, 1) := by decide +kernel
theorem d_Rd_takeKind_21 : decode (mB Y_Rd_takeKind) 21 = .ok (.isub, 1) := by decide +kernel
theorem d_Rd_takeKind_22 : decode (mB Y_Rd_takeKind) 22 = .ok (.putfield 152, 3) := by decide +kernel
theorem d_Rd_takeKind_25 : decode (mB Y_Rd_takeKind) 25 = .ok (.aload_n 0, 1) := by decide +kernel
theorem d_Rd_takeKind_26 : decode (mB Y_Rd_takeKind) 26 = .ok (.iconst 2, 1) := by decide +kernel
theorem d_Rd_takeKind_27 : decode (mB Y_Rd_takeKind) 27 = .ok (.putfield 42, 3) := by decide +kernel
theorem d_Rd_takeKind_30 : decode (mB Y_Rd_takeKind) 30 = .ok (.iconst 0, 1) := by decide +kernel
theorem d_Rd_takeKind_31 : decode (mB Y_Rd_takeKind) 31 = .ok (.ireturn, 1) := by decide +kernel
theorem ro_Rd_takeKind_B_within : roomy Y_Rd_takeKind Y_B_within := ⟨Nat.le_of_ble_eq_true rfl, Nat.le_of_ble_eq_true rfl⟩
def r_Rd_takeKind  (S : Sto) : Option (Int32 × Sto) :=
  if (r_B_within (S 29 6) 5 8) = 0 then
    some (1, S)
  else
    ltS (sw S 29 12 ((S 29 6) - 5)) (fun S1 =>
    ltS (sw S1 29 9 2) (fun S2 =>
    some (0, S2)))
set_option maxHeartbeats 4000000 in
set_option maxRecDepth 20000 in
theorem c_Rd_takeKind {G : Gl} {L : Shp} (hL : Ext L) (S : Sto)   : Ct Y_Rd_takeKind G [rf G 29] L S (fi L) (r_Rd_takeKind S) := by
  refine ct_of (by decide +kernel) (Nat.le_of_ble_eq_true rfl) (fun g C => ?_)
  show VO g Y_Rd_takeKind G (fun z => Qm g Y_Rd_takeKind G (fi L z)) 0 0 0 [(0, rf G 29)] [] L S (r_Rd_takeKind S) some
  unfold r_Rd_takeKind
  refine v_aload_n (pc := 0) C d_Rd_takeKind_0 rfl 0 rfl ?_
  refine v_getI (pc := 1) C fl_Rd_39 (sh_29 hL) rfl d_Rd_takeKind_1 ?_
  refine v_iconst (pc := 4) C d_Rd_takeKind_4 ic_5 ?_
  refine v_bipush (pc := 5) C d_Rd_takeKind_5 bp_8 ?_
  refine v_ct (pc := 7) (inv_SN (As := [.int (S 29 6), .int 5, .int 8]) (st := []) C mn_Rd_124 ms_B_within ro_Rd_takeKind_B_within rfl rfl (Nat.le_of_ble_eq_true rfl) d_Rd_takeKind_7) (c_B_within hL S (S 29 6) 5 8) ⟨rfl, rfl⟩ ⟨Nat.zero_le _, Nat.zero_le _⟩ ?_
  refine v_if_ne (pc := 10) (tgt := 15) C d_Rd_takeKind_10 rfl (fun _ => ?_) (fun _ => ?_)
  · refine v_aload_n (pc := 15) C d_Rd_takeKind_15 rfl 0 rfl ?_
    refine v_aload_n (pc := 16) C d_Rd_takeKind_16 rfl 0 rfl ?_
    refine v_getI (pc := 17) C fl_Rd_39 (sh_29 hL) rfl d_Rd_takeKind_17 ?_
    refine v_iconst (pc := 20) C d_Rd_takeKind_20 ic_5 ?_
    refine v_isub (pc := 21) C d_Rd_takeKind_21 ?_
    refine v_putI (pc := 22) C fp_Rd_152 (sh_29 hL) rfl d_Rd_takeKind_22 (fun S1 => ?_)
    refine v_aload_n (pc := 25) C d_Rd_takeKind_25 rfl 0 rfl ?_
    refine v_iconst (pc := 26) C d_Rd_takeKind_26 ic_2 ?_
    refine v_putI (pc := 27) C fp_Rd_42 (sh_29 hL) rfl d_Rd_takeKind_27 (fun S2 => ?_)
    refine v_iconst (pc := 30) C d_Rd_takeKind_30 ic_0 ?_
    exact v_iret (z := (0, S2)) C d_Rd_takeKind_31 rfl ⟨Nat.zero_le _, Nat.zero_le _⟩ (rfl) rfl
  · refine v_iconst (pc := 13) C d_Rd_takeKind_13 ic_1 ?_
    exact v_iret (z := (1, S)) C d_Rd_takeKind_14 rfl ⟨Nat.zero_le _, Nat.zero_le _⟩ (rfl) rfl
-- Rd_takeWhen
theorem d_Rd_takeWhen_0 : decode (mB Y_Rd_takeWhen) 0 = .ok (.aload_n 0, 1) := by decide +kernel
theorem d_Rd_takeWhen_1 : decode (mB Y_Rd_takeWhen) 1 = .ok (.iconst 3, 1) := by decide +kernel
theorem d_Rd_takeWhen_2 : decode (mB Y_Rd_takeWhen) 2 = .ok (.putfield 42, 3) := by decide +kernel
theorem d_Rd_takeWhen_5 : decode (mB Y_Rd_takeWhen) 5 = .ok (.aload_n 0, 1) := by decide +kernel
theorem d_Rd_takeWhen_6 : decode (mB Y_Rd_takeWhen) 6 = .ok (.getfield 39, 3) := by decide +kernel
theorem d_Rd_takeWhen_9 : decode (mB Y_Rd_takeWhen) 9 = .ok (.ifCond .ne 7, 3) := by decide +kernel
theorem d_Rd_takeWhen_12 : decode (mB Y_Rd_takeWhen) 12 = .ok (.iconst 0, 1) := by decide +kernel
theorem d_Rd_takeWhen_13 : decode (mB Y_Rd_takeWhen) 13 = .ok (.goto 4, 3) := by decide +kernel
theorem d_Rd_takeWhen_16 : decode (mB Y_Rd_takeWhen) 16 = .ok (.iconst 1, 1) := by decide +kernel
theorem d_Rd_takeWhen_17 : decode (mB Y_Rd_takeWhen) 17 = .ok (.ireturn, 1) := by decide +kernel
def r_Rd_takeWhen  (S : Sto) : Option (Int32 × Sto) :=
  ltS (sw S 29 9 3) (fun S1 =>
  if (S1 29 6) = 0 then
    some (0, S1)
  else
    some (1, S1))
set_option maxHeartbeats 4000000 in
set_option maxRecDepth 20000 in
theorem c_Rd_takeWhen {G : Gl} {L : Shp} (hL : Ext L) (S : Sto)   : Ct Y_Rd_takeWhen G [rf G 29] L S (fi L) (r_Rd_takeWhen S) := by
  refine ct_of (by decide +kernel) (Nat.le_of_ble_eq_true rfl) (fun g C => ?_)
  show VO g Y_Rd_takeWhen G (fun z => Qm g Y_Rd_takeWhen G (fi L z)) 0 0 0 [(0, rf G 29)] [] L S (r_Rd_takeWhen S) some
  unfold r_Rd_takeWhen
  refine v_aload_n (pc := 0) C d_Rd_takeWhen_0 rfl 0 rfl ?_
  refine v_iconst (pc := 1) C d_Rd_takeWhen_1 ic_3 ?_
  refine v_putI (pc := 2) C fp_Rd_42 (sh_29 hL) rfl d_Rd_takeWhen_2 (fun S1 => ?_)
  refine v_aload_n (pc := 5) C d_Rd_takeWhen_5 rfl 0 rfl ?_
  refine v_getI (pc := 6) C fl_Rd_39 (sh_29 hL) rfl d_Rd_takeWhen_6 ?_
  refine v_if_ne (pc := 9) (tgt := 16) C d_Rd_takeWhen_9 rfl (fun _ => ?_) (fun _ => ?_)
  · refine v_iconst (pc := 16) C d_Rd_takeWhen_16 ic_1 ?_
    exact v_iret (z := (1, S1)) C d_Rd_takeWhen_17 rfl ⟨Nat.zero_le _, Nat.zero_le _⟩ (rfl) rfl
  · refine v_iconst (pc := 12) C d_Rd_takeWhen_12 ic_0 ?_
    refine v_goto (pc := 13) (tgt := 17) C d_Rd_takeWhen_13 rfl ?_
    exact v_iret (z := (0, S1)) C d_Rd_takeWhen_17 rfl ⟨Nat.zero_le _, Nat.zero_le _⟩ (rfl) rfl
-- Rd_emit
theorem d_Rd_emit_0 : decode (mB Y_Rd_emit) 0 = .ok (.aload_n 0, 1) := by decide +kernel
theorem d_Rd_emit_1 : decode (mB Y_Rd_emit) 1 = .ok (.getfield 52, 3) := by decide +kernel
theorem d_Rd_emit_4 : decode (mB Y_Rd_emit) 4 = .ok (.aload_n 0, 1) := by decide +kernel
theorem d_Rd_emit_5 : decode (mB Y_Rd_emit) 5 = .ok (.getfield 23, 3) := by decide +kernel
theorem d_Rd_emit_8 : decode (mB Y_Rd_emit) 8 = .ok (.arraylength, 1) := by decide +kernel
theorem d_Rd_emit_9 : decode (mB Y_Rd_emit) 9 = .ok (.if_icmp .ge 28, 3) := by decide +kernel
theorem d_Rd_emit_12 : decode (mB Y_Rd_emit) 12 = .ok (.aload_n 0, 1) := by decide +kernel
theorem d_Rd_emit_13 : decode (mB Y_Rd_emit) 13 = .ok (.getfield 23, 3) := by decide +kernel
theorem d_Rd_emit_16 : decode (mB Y_Rd_emit) 16 = .ok (.aload_n 0, 1) := by decide +kernel
theorem d_Rd_emit_17 : decode (mB Y_Rd_emit) 17 = .ok (.getfield 52, 3) := by decide +kernel
theorem d_Rd_emit_20 : decode (mB Y_Rd_emit) 20 = .ok (.iload_n 1, 1) := by decide +kernel
theorem d_Rd_emit_21 : decode (mB Y_Rd_emit) 21 = .ok (.bipush 17, 2) := by decide +kernel
theorem d_Rd_emit_23 : decode (mB Y_Rd_emit) 23 = .ok (.ishl, 1) := by decide +kernel
theorem d_Rd_emit_24 : decode (mB Y_Rd_emit) 24 = .ok (.iload_n 2, 1) := by decide +kernel
theorem d_Rd_emit_25 : decode (mB Y_Rd_emit) 25 = .ok (.ior, 1) := by decide +kernel
theorem d_Rd_emit_26 : decode (mB Y_Rd_emit) 26 = .ok (.iastore, 1) := by decide +kernel
theorem d_Rd_emit_27 : decode (mB Y_Rd_emit) 27 = .ok (.aload_n 0, 1) := by decide +kernel
theorem d_Rd_emit_28 : decode (mB Y_Rd_emit) 28 = .ok (.dup, 1) := by decide +kernel
theorem d_Rd_emit_29 : decode (mB Y_Rd_emit) 29 = .ok (.getfield 52, 3) := by decide +kernel
theorem d_Rd_emit_32 : decode (mB Y_Rd_emit) 32 = .ok (.iconst 1, 1) := by decide +kernel
theorem d_Rd_emit_33 : decode (mB Y_Rd_emit) 33 = .ok (.iadd, 1) := by decide +kernel
theorem d_Rd_emit_34 : decode (mB Y_Rd_emit) 34 = .ok (.putfield 52, 3) := by decide +kernel
theorem d_Rd_emit_37 : decode (mB Y_Rd_emit) 37 = .ok (.return_, 1) := by decide +kernel
def r_Rd_emit (x1 : Int32) (x2 : Int32) (S : Sto) : Option Sto :=
  if 400 ≤ (S 29 18) then
    some S
  else
    chk (inr (S 29 18) 400) (
    ltS (sw S 32 ((S 29 18).toNatClampNeg) ((x1 <<< (17 &&& 31)) ||| x2)) (fun S1 =>
    ltS (sw S1 29 18 ((S1 29 18) + 1)) (fun S2 =>
    some S2)))
set_option maxHeartbeats 4000000 in
set_option maxRecDepth 20000 in
theorem c_Rd_emit {G : Gl} {L : Shp} (hL : Ext L) (S : Sto) (x1 : Int32) (x2 : Int32)  : Ct Y_Rd_emit G [rf G 29, .int x1, .int x2] L S (fv L) (r_Rd_emit x1 x2 S) := by
  refine ct_of (by decide +kernel) (Nat.le_of_ble_eq_true rfl) (fun g C => ?_)
  show VO g Y_Rd_emit G (fun z => Qm g Y_Rd_emit G (fv L z)) 0 0 0 [(0, rf G 29), (1, .int x1), (2, .int x2)] [] L S (r_Rd_emit x1 x2 S) some
  unfold r_Rd_emit
  refine v_aload_n (pc := 0) C d_Rd_emit_0 rfl 0 rfl ?_
  refine v_getI (pc := 1) C fl_Rd_52 (sh_29 hL) rfl d_Rd_emit_1 ?_
  refine v_aload_n (pc := 4) C d_Rd_emit_4 rfl 0 rfl ?_
  refine v_getR (pc := 5) C fl_Rd_23 (sh_29 hL) rfl d_Rd_emit_5 ?_
  refine v_alen (pc := 8) (v := 400) (t := 0) C (sh_32 hL) rfl rfl rfl d_Rd_emit_8 ?_
  refine v_icmp_ge (pc := 9) (tgt := 37) C d_Rd_emit_9 rfl (fun _ => ?_) (fun _ => ?_)
  · exact v_vret C d_Rd_emit_37 rfl ⟨Nat.zero_le _, Nat.zero_le _⟩ rfl rfl
  · refine v_aload_n (pc := 12) C d_Rd_emit_12 rfl 0 rfl ?_
    refine v_getR (pc := 13) C fl_Rd_23 (sh_29 hL) rfl d_Rd_emit_13 ?_
    refine v_aload_n (pc := 16) C d_Rd_emit_16 rfl 0 rfl ?_
    refine v_getI (pc := 17) C fl_Rd_52 (sh_29 hL) rfl d_Rd_emit_17 ?_
    refine v_iload_n (pc := 20) C d_Rd_emit_20 rfl 1 rfl ?_
    refine v_bipush (pc := 21) C d_Rd_emit_21 bp_17 ?_
    refine v_ishl (pc := 23) C d_Rd_emit_23 ?_
    refine v_iload_n (pc := 24) C d_Rd_emit_24 rfl 2 rfl ?_
    refine v_ior (pc := 25) C d_Rd_emit_25 ?_
    refine v_iast (pc := 26) C (sh_32 hL) d_Rd_emit_26 (fun _ S1 => ?_)
    refine v_aload_n (pc := 27) C d_Rd_emit_27 rfl 0 rfl ?_
    refine v_dup (pc := 28) C d_Rd_emit_28 rfl ?_
    refine v_getI (pc := 29) C fl_Rd_52 (sh_29 hL) rfl d_Rd_emit_29 ?_
    refine v_iconst (pc := 32) C d_Rd_emit_32 ic_1 ?_
    refine v_iadd (pc := 33) C d_Rd_emit_33 ?_
    refine v_putI (pc := 34) C fp_Rd_52 (sh_29 hL) rfl d_Rd_emit_34 (fun S2 => ?_)
    exact v_vret C d_Rd_emit_37 rfl ⟨Nat.zero_le _, Nat.zero_le _⟩ rfl rfl
-- Rd_takeUnit
theorem d_Rd_takeUnit_0 : decode (mB Y_Rd_takeUnit) 0 = .ok (.aload_n 0, 1) := by decide +kernel
theorem d_Rd_takeUnit_1 : decode (mB Y_Rd_takeUnit) 1 = .ok (.bipush 6, 2) := by decide +kernel
theorem d_Rd_takeUnit_3 : decode (mB Y_Rd_takeUnit) 3 = .ok (.putfield 42, 3) := by decide +kernel
theorem d_Rd_takeUnit_6 : decode (mB Y_Rd_takeUnit) 6 = .ok (.aload_n 0, 1) := by decide +kernel
theorem d_Rd_takeUnit_7 : decode (mB Y_Rd_takeUnit) 7 = .ok (.getfield 67, 3) := by decide +kernel
theorem d_Rd_takeUnit_10 : decode (mB Y_Rd_takeUnit) 10 = .ok (.ifCond .eq 8, 3) := by decide +kernel
theorem d_Rd_takeUnit_13 : decode (mB Y_Rd_takeUnit) 13 = .ok (.bipush 6, 2) := by decide +kernel
theorem d_Rd_takeUnit_15 : decode (mB Y_Rd_takeUnit) 15 = .ok (.goto 5, 3) := by decide +kernel
theorem d_Rd_takeUnit_18 : decode (mB Y_Rd_takeUnit) 18 = .ok (.bipush 7, 2) := by decide +kernel
theorem d_Rd_takeUnit_20 : decode (mB Y_Rd_takeUnit) 20 = .ok (.istore_n 1, 1) := by decide +kernel
theorem d_Rd_takeUnit_21 : decode (mB Y_Rd_takeUnit) 21 = .ok (.aload_n 0, 1) := by decide +kernel
theorem d_Rd_takeUnit_22 : decode (mB Y_Rd_takeUnit) 22 = .ok (.getfield 39, 3) := by decide +kernel
theorem d_Rd_takeUnit_25 : decode (mB Y_Rd_takeUnit) 25 = .ok (.bipush 12, 2) := by decide +kernel
theorem d_Rd_takeUnit_27 : decode (mB Y_Rd_takeUnit) 27 = .ok (.if_icmp .ne 15, 3) := by decide +kernel
theorem d_Rd_takeUnit_30 : decode (mB Y_Rd_takeUnit) 30 = .ok (.aload_n 0, 1) := by decide +kernel
theorem d_Rd_takeUnit_31 : decode (mB Y_Rd_takeUnit) 31 = .ok (.bipush 12, 2) := by decide +kernel
theorem d_Rd_takeUnit_33 : decode (mB Y_Rd_takeUnit) 33 = .ok (.aload_n 0, 1) := by decide +kernel
theorem d_Rd_takeUnit_34 : decode (mB Y_Rd_takeUnit) 34 = .ok (.getfield 121, 3) := by decide +kernel
theorem d_Rd_takeUnit_37 : decode (mB Y_Rd_takeUnit) 37 = .ok (.invokevirtual 162, 3) := by decide +kernel
theorem d_Rd_takeUnit_40 : decode (mB Y_Rd_takeUnit) 40 = .ok (.iconst 0, 1) := by decide +kernel
theorem d_Rd_takeUnit_41 : decode (mB Y_Rd_takeUnit) 41 = .ok (.ireturn, 1) := by decide +kernel
theorem d_Rd_takeUnit_42 : decode (mB Y_Rd_takeUnit) 42 = .ok (.aload_n 0, 1) := by decide +kernel
theorem d_Rd_takeUnit_43 : decode (mB Y_Rd_takeUnit) 43 = .ok (.getfield 39, 3) := by decide +kernel
theorem d_Rd_takeUnit_46 : decode (mB Y_Rd_takeUnit) 46 = .ok (.iload_n 1, 1) := by decide +kernel
theorem d_Rd_takeUnit_47 : decode (mB Y_Rd_takeUnit) 47 = .ok (.bipush 11, 2) := by decide +kernel
theorem d_Rd_takeUnit_49 : decode (mB Y_Rd_takeUnit) 49 = .ok (.invokestatic 124, 3) := by decide +kernel
theorem d_Rd_takeUnit_52 : decode (mB Y_Rd_takeUnit) 52 = .ok (.ifCond .ne 5, 3) := by decide +kernel
theorem d_Rd_takeUnit_55 : decode (mB Y_Rd_takeUnit) 55 = .ok (.iconst 1, 1) := by decide +kernel
theorem d_Rd_takeUnit_56 : decode (mB Y_Rd_takeUnit) 56 = .ok (.ireturn, 1) := by decide +kernel
theorem d_Rd_takeUnit_57 : decode (mB Y_Rd_takeUnit) 57 = .ok (.aload_n 0, 1) := by decide +kernel
theorem d_Rd_takeUnit_58 : decode (mB Y_Rd_takeUnit) 58 = .ok (.bipush 13, 2) := by decide +kernel
theorem d_Rd_takeUnit_60 : decode (mB Y_Rd_takeUnit) 60 = .ok (.aload_n 0, 1) := by decide +kernel
theorem d_Rd_takeUnit_61 : decode (mB Y_Rd_takeUnit) 61 = .ok (.getfield 39, 3) := by decide +kernel
theorem d_Rd_takeUnit_64 : decode (mB Y_Rd_takeUnit) 64 = .ok (.iload_n 1, 1) := by decide +kernel
theorem d_Rd_takeUnit_65 : decode (mB Y_Rd_takeUnit) 65 = .ok (.isub, 1) := by decide +kernel
theorem d_Rd_takeUnit_66 : decode (mB Y_Rd_takeUnit) 66 = .ok (.invokevirtual 162, 3) := by decide +kernel
theorem d_Rd_takeUnit_69 : decode (mB Y_Rd_takeUnit) 69 = .ok (.iconst 0, 1) := by decide +kernel
theorem d_Rd_takeUnit_70 : decode (mB Y_Rd_takeUnit) 70 = .ok (.ireturn, 1) := by decide +kernel
theorem ro_Rd_takeUnit_B_within : roomy Y_Rd_takeUnit Y_B_within := ⟨Nat.le_of_ble_eq_true rfl, Nat.le_of_ble_eq_true rfl⟩
theorem ro_Rd_takeUnit_Rd_emit : roomy Y_Rd_takeUnit Y_Rd_emit := ⟨Nat.le_of_ble_eq_true rfl, Nat.le_of_ble_eq_true rfl⟩
def r_Rd_takeUnit  (S : Sto) : Option (Int32 × Sto) :=
  ltS (sw S 29 9 6) (fun S1 =>
  jn (fun (v2 : Int32) =>
    if (S1 29 6) = 12 then
      (r_Rd_emit 12 (S1 29 7) S1).bind (fun S4 =>
      some (0, S4))
    else
      if (r_B_within (S1 29 6) v2 11) = 0 then
        some (1, S1)
      else
        (r_Rd_emit 13 ((S1 29 6) - v2) S1).bind (fun S3 =>
        some (0, S3))) (fun j20 =>
  if (S1 29 4) = 0 then
    j20 (7)
  else
    j20 (6)))
set_option maxHeartbeats 4000000 in
set_option maxRecDepth 20000 in
theorem c_Rd_takeUnit {G : Gl} {L : Shp} (hL : Ext L) (S : Sto)   : Ct Y_Rd_takeUnit G [rf G 29] L S (fi L) (r_Rd_takeUnit S) := by
  refine ct_of (by decide +kernel) (Nat.le_of_ble_eq_true rfl) (fun g C => ?_)
  show VO g Y_Rd_takeUnit G (fun z => Qm g Y_Rd_takeUnit G (fi L z)) 0 0 0 [(0, rf G 29)] [] L S (r_Rd_takeUnit S) some
  unfold r_Rd_takeUnit
  refine v_aload_n (pc := 0) C d_Rd_takeUnit_0 rfl 0 rfl ?_
  refine v_bipush (pc := 1) C d_Rd_takeUnit_1 bp_6 ?_
  refine v_putI (pc := 3) C fp_Rd_42 (sh_29 hL) rfl d_Rd_takeUnit_3 (fun S1 => ?_)
  refine v_aload_n (pc := 6) C d_Rd_takeUnit_6 rfl 0 rfl ?_
  refine v_getI (pc := 7) C fl_Rd_67 (sh_29 hL) rfl d_Rd_takeUnit_7 ?_
  refine v_jn (fun j => ∀ (v2 : Int32), VO g Y_Rd_takeUnit G (fun z => Qm g Y_Rd_takeUnit G (fi L z)) 0 0 20 [(0, rf G 29)] [.int v2] L S1 (j (v2)) some) (fun v2 => ?_) (fun j20 hj20 => ?_)
  · refine v_istore_n (pc := 20) (lv' := [(1, .int v2), (0, rf G 29)]) C d_Rd_takeUnit_20 rfl (by decide) rfl ?_
    refine v_aload_n (pc := 21) C d_Rd_takeUnit_21 rfl 1 rfl ?_
    refine v_getI (pc := 22) C fl_Rd_39 (sh_29 hL) rfl d_Rd_takeUnit_22 ?_
    refine v_bipush (pc := 25) C d_Rd_takeUnit_25 bp_12 ?_
    refine v_icmp_ne (pc := 27) (tgt := 42) C d_Rd_takeUnit_27 rfl (fun _ => ?_) (fun _ => ?_)
    · refine v_aload_n (pc := 42) C d_Rd_takeUnit_42 rfl 1 rfl ?_
      refine v_getI (pc := 43) C fl_Rd_39 (sh_29 hL) rfl d_Rd_takeUnit_43 ?_
      refine v_iload_n (pc := 46) C d_Rd_takeUnit_46 rfl 0 rfl ?_
      refine v_bipush (pc := 47) C d_Rd_takeUnit_47 bp_11 ?_
      refine v_ct (pc := 49) (inv_SN (As := [.int (S1 29 6), .int v2, .int 11]) (st := []) C mn_Rd_124 ms_B_within ro_Rd_takeUnit_B_within rfl rfl (Nat.le_of_ble_eq_true rfl) d_Rd_takeUnit_49) (c_B_within hL S1 (S1 29 6) v2 11) ⟨rfl, rfl⟩ ⟨Nat.zero_le _, Nat.zero_le _⟩ ?_
      refine v_if_ne (pc := 52) (tgt := 57) C d_Rd_takeUnit_52 rfl (fun _ => ?_) (fun _ => ?_)
      · refine v_aload_n (pc := 57) C d_Rd_takeUnit_57 rfl 1 rfl ?_
        refine v_bipush (pc := 58) C d_Rd_takeUnit_58 bp_13 ?_
        refine v_aload_n (pc := 60) C d_Rd_takeUnit_60 rfl 1 rfl ?_
        refine v_getI (pc := 61) C fl_Rd_39 (sh_29 hL) rfl d_Rd_takeUnit_61 ?_
        refine v_iload_n (pc := 64) C d_Rd_takeUnit_64 rfl 0 rfl ?_
        refine v_isub (pc := 65) C d_Rd_takeUnit_65 ?_
        refine v_cv (pc := 66) (inv_V (As := [.int 13, .int ((S1 29 6) - v2)]) (st := []) C ml_Rd_162 mv_Rd_emit ro_Rd_takeUnit_Rd_emit (sh_29 hL) rfl rfl rfl rfl (Nat.le_of_ble_eq_true rfl) d_Rd_takeUnit_66) (c_Rd_emit hL S1 13 ((S1 29 6) - v2)) ⟨rfl, rfl⟩ ⟨Nat.zero_le _, Nat.zero_le _⟩ (fun S3 => ?_)
        refine v_iconst (pc := 69) C d_Rd_takeUnit_69 ic_0 ?_
        exact v_iret (z := (0, S3)) C d_Rd_takeUnit_70 rfl ⟨Nat.zero_le _, Nat.zero_le _⟩ (rfl) rfl
      · refine v_iconst (pc := 55) C d_Rd_takeUnit_55 ic_1 ?_
        exact v_iret (z := (1, S1)) C d_Rd_takeUnit_56 rfl ⟨Nat.zero_le _, Nat.zero_le _⟩ (rfl) rfl
    · refine v_aload_n (pc := 30) C d_Rd_takeUnit_30 rfl 1 rfl ?_
      refine v_bipush (pc := 31) C d_Rd_takeUnit_31 bp_12 ?_
      refine v_aload_n (pc := 33) C d_Rd_takeUnit_33 rfl 1 rfl ?_
      refine v_getI (pc := 34) C fl_Rd_121 (sh_29 hL) rfl d_Rd_takeUnit_34 ?_
      refine v_cv (pc := 37) (inv_V (As := [.int 12, .int (S1 29 7)]) (st := []) C ml_Rd_162 mv_Rd_emit ro_Rd_takeUnit_Rd_emit (sh_29 hL) rfl rfl rfl rfl (Nat.le_of_ble_eq_true rfl) d_Rd_takeUnit_37) (c_Rd_emit hL S1 12 (S1 29 7)) ⟨rfl, rfl⟩ ⟨Nat.zero_le _, Nat.zero_le _⟩ (fun S4 => ?_)
      refine v_iconst (pc := 40) C d_Rd_takeUnit_40 ic_0 ?_
      exact v_iret (z := (0, S4)) C d_Rd_takeUnit_41 rfl ⟨Nat.zero_le _, Nat.zero_le _⟩ (rfl) rfl
  · refine v_if_eq (pc := 10) (tgt := 18) C d_Rd_takeUnit_10 rfl (fun _ => ?_) (fun _ => ?_)
    · refine v_bipush (pc := 18) C d_Rd_takeUnit_18 bp_7 ?_
      exact hj20 7
    · refine v_bipush (pc := 13) C d_Rd_takeUnit_13 bp_6 ?_
      refine v_goto (pc := 15) (tgt := 20) C d_Rd_takeUnit_15 rfl ?_
      exact hj20 6
-- Rd_hold
theorem d_Rd_hold_0 : decode (mB Y_Rd_hold) 0 = .ok (.aload_n 0, 1) := by decide +kernel
theorem d_Rd_hold_1 : decode (mB Y_Rd_hold) 1 = .ok (.getfield 80, 3) := by decide +kernel
theorem d_Rd_hold_4 : decode (mB Y_Rd_hold) 4 = .ok (.aload_n 0, 1) := by decide +kernel
theorem d_Rd_hold_5 : decode (mB Y_Rd_hold) 5 = .ok (.getfield 19, 3) := by decide +kernel
theorem d_Rd_hold_8 : decode (mB Y_Rd_hold) 8 = .ok (.arraylength, 1) := by decide +kernel
theorem d_Rd_hold_9 : decode (mB Y_Rd_hold) 9 = .ok (.if_icmp .ge 23, 3) := by decide +kernel
theorem d_Rd_hold_12 : decode (mB Y_Rd_hold) 12 = .ok (.aload_n 0, 1) := by decide +kernel
theorem d_Rd_hold_13 : decode (mB Y_Rd_hold) 13 = .ok (.getfield 19, 3) := by decide +kernel
theorem d_Rd_hold_16 : decode (mB Y_Rd_hold) 16 = .ok (.aload_n 0, 1) := by decide +kernel
theorem d_Rd_hold_17 : decode (mB Y_Rd_hold) 17 = .ok (.getfield 80, 3) := by decide +kernel
theorem d_Rd_hold_20 : decode (mB Y_Rd_hold) 20 = .ok (.iload_n 1, 1) := by decide +kernel
theorem d_Rd_hold_21 : decode (mB Y_Rd_hold) 21 = .ok (.iastore, 1) := by decide +kernel
theorem d_Rd_hold_22 : decode (mB Y_Rd_hold) 22 = .ok (.aload_n 0, 1) := by decide +kernel
theorem d_Rd_hold_23 : decode (mB Y_Rd_hold) 23 = .ok (.dup, 1) := by decide +kernel
theorem d_Rd_hold_24 : decode (mB Y_Rd_hold) 24 = .ok (.getfield 80, 3) := by decide +kernel
theorem d_Rd_hold_27 : decode (mB Y_Rd_hold) 27 = .ok (.iconst 1, 1) := by decide +kernel
theorem d_Rd_hold_28 : decode (mB Y_Rd_hold) 28 = .ok (.iadd, 1) := by decide +kernel
theorem d_Rd_hold_29 : decode (mB Y_Rd_hold) 29 = .ok (.putfield 80, 3) := by decide +kernel
theorem d_Rd_hold_32 : decode (mB Y_Rd_hold) 32 = .ok (.return_, 1) := by decide +kernel
def r_Rd_hold (x1 : Int32) (S : Sto) : Option Sto :=
  if 40 ≤ (S 29 16) then
    some S
  else
    chk (inr (S 29 16) 40) (
    ltS (sw S 31 ((S 29 16).toNatClampNeg) x1) (fun S1 =>
    ltS (sw S1 29 16 ((S1 29 16) + 1)) (fun S2 =>
    some S2)))
set_option maxHeartbeats 4000000 in
set_option maxRecDepth 20000 in
theorem c_Rd_hold {G : Gl} {L : Shp} (hL : Ext L) (S : Sto) (x1 : Int32)  : Ct Y_Rd_hold G [rf G 29, .int x1] L S (fv L) (r_Rd_hold x1 S) := by
  refine ct_of (by decide +kernel) (Nat.le_of_ble_eq_true rfl) (fun g C => ?_)
  show VO g Y_Rd_hold G (fun z => Qm g Y_Rd_hold G (fv L z)) 0 0 0 [(0, rf G 29), (1, .int x1)] [] L S (r_Rd_hold x1 S) some
  unfold r_Rd_hold
  refine v_aload_n (pc := 0) C d_Rd_hold_0 rfl 0 rfl ?_
  refine v_getI (pc := 1) C fl_Rd_80 (sh_29 hL) rfl d_Rd_hold_1 ?_
  refine v_aload_n (pc := 4) C d_Rd_hold_4 rfl 0 rfl ?_
  refine v_getR (pc := 5) C fl_Rd_19 (sh_29 hL) rfl d_Rd_hold_5 ?_
  refine v_alen (pc := 8) (v := 40) (t := 0) C (sh_31 hL) rfl rfl rfl d_Rd_hold_8 ?_
  refine v_icmp_ge (pc := 9) (tgt := 32) C d_Rd_hold_9 rfl (fun _ => ?_) (fun _ => ?_)
  · exact v_vret C d_Rd_hold_32 rfl ⟨Nat.zero_le _, Nat.zero_le _⟩ rfl rfl
  · refine v_aload_n (pc := 12) C d_Rd_hold_12 rfl 0 rfl ?_
    refine v_getR (pc := 13) C fl_Rd_19 (sh_29 hL) rfl d_Rd_hold_13 ?_
    refine v_aload_n (pc := 16) C d_Rd_hold_16 rfl 0 rfl ?_
    refine v_getI (pc := 17) C fl_Rd_80 (sh_29 hL) rfl d_Rd_hold_17 ?_
    refine v_iload_n (pc := 20) C d_Rd_hold_20 rfl 1 rfl ?_
    refine v_iast (pc := 21) C (sh_31 hL) d_Rd_hold_21 (fun _ S1 => ?_)
    refine v_aload_n (pc := 22) C d_Rd_hold_22 rfl 0 rfl ?_
    refine v_dup (pc := 23) C d_Rd_hold_23 rfl ?_
    refine v_getI (pc := 24) C fl_Rd_80 (sh_29 hL) rfl d_Rd_hold_24 ?_
    refine v_iconst (pc := 27) C d_Rd_hold_27 ic_1 ?_
    refine v_iadd (pc := 28) C d_Rd_hold_28 ?_
    refine v_putI (pc := 29) C fp_Rd_80 (sh_29 hL) rfl d_Rd_hold_29 (fun S2 => ?_)
    exact v_vret C d_Rd_hold_32 rfl ⟨Nat.zero_le _, Nat.zero_le _⟩ rfl rfl
-- Rd_takeClaim
theorem d_Rd_takeClaim_0 : decode (mB Y_Rd_takeClaim) 0 = .ok (.aload_n 0, 1) := by decide +kernel
theorem d_Rd_takeClaim_1 : decode (mB Y_Rd_takeClaim) 1 = .ok (.iconst 0, 1) := by decide +kernel
theorem d_Rd_takeClaim_2 : decode (mB Y_Rd_takeClaim) 2 = .ok (.putfield 155, 3) := by decide +kernel
theorem d_Rd_takeClaim_5 : decode (mB Y_Rd_takeClaim) 5 = .ok (.aload_n 0, 1) := by decide +kernel
theorem d_Rd_takeClaim_6 : decode (mB Y_Rd_takeClaim) 6 = .ok (.getfield 39, 3) := by decide +kernel
theorem d_Rd_takeClaim_9 : decode (mB Y_Rd_takeClaim) 9 = .ok (.bipush 40, 2) := by decide +kernel
theorem d_Rd_takeClaim_11 : decode (mB Y_Rd_takeClaim) 11 = .ok (.if_icmp .eq 16, 3) := by decide +kernel
theorem d_Rd_takeClaim_14 : decode (mB Y_Rd_takeClaim) 14 = .ok (.aload_n 0, 1) := by decide +kernel
theorem d_Rd_takeClaim_15 : decode (mB Y_Rd_takeClaim) 15 = .ok (.getfield 39, 3) := by decide +kernel
theorem d_Rd_takeClaim_18 : decode (mB Y_Rd_takeClaim) 18 = .ok (.iconst 3, 1) := by decide +kernel
theorem d_Rd_takeClaim_19 : decode (mB Y_Rd_takeClaim) 19 = .ok (.if_icmp .eq 8, 3) := by decide +kernel
theorem d_Rd_takeClaim_22 : decode (mB Y_Rd_takeClaim) 22 = .ok (.aload_n 0, 1) := by decide +kernel
theorem d_Rd_takeClaim_23 : decode (mB Y_Rd_takeClaim) 23 = .ok (.invokevirtual 140, 3) := by decide +kernel
theorem d_Rd_takeClaim_26 : decode (mB Y_Rd_takeClaim) 26 = .ok (.ireturn, 1) := by decide +kernel
theorem d_Rd_takeClaim_27 : decode (mB Y_Rd_takeClaim) 27 = .ok (.aload_n 0, 1) := by decide +kernel
theorem d_Rd_takeClaim_28 : decode (mB Y_Rd_takeClaim) 28 = .ok (.getfield 74, 3) := by decide +kernel
theorem d_Rd_takeClaim_31 : decode (mB Y_Rd_takeClaim) 31 = .ok (.bipush 8, 2) := by decide +kernel
theorem d_Rd_takeClaim_33 : decode (mB Y_Rd_takeClaim) 33 = .ok (.if_icmp .lt 5, 3) := by decide +kernel
theorem d_Rd_takeClaim_36 : decode (mB Y_Rd_takeClaim) 36 = .ok (.iconst 3, 1) := by decide +kernel
theorem d_Rd_takeClaim_37 : decode (mB Y_Rd_takeClaim) 37 = .ok (.ireturn, 1) := by decide +kernel
theorem d_Rd_takeClaim_38 : decode (mB Y_Rd_takeClaim) 38 = .ok (.aload_n 0, 1) := by decide +kernel
theorem d_Rd_takeClaim_39 : decode (mB Y_Rd_takeClaim) 39 = .ok (.dup, 1) := by decide +kernel
theorem d_Rd_takeClaim_40 : decode (mB Y_Rd_takeClaim) 40 = .ok (.getfield 74, 3) := by decide +kernel
theorem d_Rd_takeClaim_43 : decode (mB Y_Rd_takeClaim) 43 = .ok (.iconst 1, 1) := by decide +kernel
theorem d_Rd_takeClaim_44 : decode (mB Y_Rd_takeClaim) 44 = .ok (.iadd, 1) := by decide +kernel
theorem d_Rd_takeClaim_45 : decode (mB Y_Rd_takeClaim) 45 = .ok (.putfield 74, 3) := by decide +kernel
theorem d_Rd_takeClaim_48 : decode (mB Y_Rd_takeClaim) 48 = .ok (.aload_n 0, 1) := by decide +kernel
theorem d_Rd_takeClaim_49 : decode (mB Y_Rd_takeClaim) 49 = .ok (.getfield 39, 3) := by decide +kernel
theorem d_Rd_takeClaim_52 : decode (mB Y_Rd_takeClaim) 52 = .ok (.bipush 40, 2) := by decide +kernel
theorem d_Rd_takeClaim_54 : decode (mB Y_Rd_takeClaim) 54 = .ok (.if_icmp .ne 13, 3) := by decide +kernel
theorem d_Rd_takeClaim_57 : decode (mB Y_Rd_takeClaim) 57 = .ok (.aload_n 0, 1) := by decide +kernel
theorem d_Rd_takeClaim_58 : decode (mB Y_Rd_takeClaim) 58 = .ok (.dup, 1) := by decide +kernel
theorem d_Rd_takeClaim_59 : decode (mB Y_Rd_takeClaim) 59 = .ok (.getfield 77, 3) := by decide +kernel
theorem d_Rd_takeClaim_62 : decode (mB Y_Rd_takeClaim) 62 = .ok (.iconst 1, 1) := by decide +kernel
theorem d_Rd_takeClaim_63 : decode (mB Y_Rd_takeClaim) 63 = .ok (.iadd, 1) := by decide +kernel
theorem d_Rd_takeClaim_64 : decode (mB Y_Rd_takeClaim) 64 = .ok (.putfield 77, 3) := by decide +kernel
theorem d_Rd_takeClaim_67 : decode (mB Y_Rd_takeClaim) 67 = .ok (.aload_n 0, 1) := by decide +kernel
theorem d_Rd_takeClaim_68 : decode (mB Y_Rd_takeClaim) 68 = .ok (.aload_n 0, 1) := by decide +kernel
theorem d_Rd_takeClaim_69 : decode (mB Y_Rd_takeClaim) 69 = .ok (.getfield 39, 3) := by decide +kernel
theorem d_Rd_takeClaim_72 : decode (mB Y_Rd_takeClaim) 72 = .ok (.invokevirtual 158, 3) := by decide +kernel
theorem d_Rd_takeClaim_75 : decode (mB Y_Rd_takeClaim) 75 = .ok (.iconst 0, 1) := by decide +kernel
theorem d_Rd_takeClaim_76 : decode (mB Y_Rd_takeClaim) 76 = .ok (.ireturn, 1) := by decide +kernel
theorem ro_Rd_takeClaim_Rd_hold : roomy Y_Rd_takeClaim Y_Rd_hold := ⟨Nat.le_of_ble_eq_true rfl, Nat.le_of_ble_eq_true rfl⟩
theorem ro_Rd_takeClaim_Rd_takeUnit : roomy Y_Rd_takeClaim Y_Rd_takeUnit := ⟨Nat.le_of_ble_eq_true rfl, Nat.le_of_ble_eq_true rfl⟩
def r_Rd_takeClaim  (S : Sto) : Option (Int32 × Sto) :=
  ltS (sw S 29 10 0) (fun S1 =>
  jn (fun (_ : Unit) =>
    if (S1 29 13) < 8 then
      ltS (sw S1 29 13 ((S1 29 13) + 1)) (fun S2 =>
      jn (fun (S3 : Sto) =>
        (r_Rd_hold (S3 29 6) S3).bind (fun S4 =>
        some (0, S4))) (fun j67 =>
      if (S2 29 6) = 40 then
        ltS (sw S2 29 14 ((S2 29 14) + 1)) (fun S5 =>
        j67 (S5))
      else
        j67 (S2)))
    else
      some (3, S1)) (fun j27 =>
  if (S1 29 6) = 40 then
    j27 ()
  else
    if (S1 29 6) = 3 then
      j27 ()
    else
      (r_Rd_takeUnit S1).bind (fun (r6, S7) =>
      some (r6, S7))))
set_option maxHeartbeats 4000000 in
set_option maxRecDepth 20000 in
theorem c_Rd_takeClaim {G : Gl} {L : Shp} (hL : Ext L) (S : Sto)   : Ct Y_Rd_takeClaim G [rf G 29] L S (fi L) (r_Rd_takeClaim S) := by
  refine ct_of (by decide +kernel) (Nat.le_of_ble_eq_true rfl) (fun g C => ?_)
  show VO g Y_Rd_takeClaim G (fun z => Qm g Y_Rd_takeClaim G (fi L z)) 0 0 0 [(0, rf G 29)] [] L S (r_Rd_takeClaim S) some
  unfold r_Rd_takeClaim
  refine v_aload_n (pc := 0) C d_Rd_takeClaim_0 rfl 0 rfl ?_
  refine v_iconst (pc := 1) C d_Rd_takeClaim_1 ic_0 ?_
  refine v_putZ (pc := 2) C fp_Rd_155 (sh_29 hL) rfl d_Rd_takeClaim_2 (by decide) (fun S1 => ?_)
  refine v_aload_n (pc := 5) C d_Rd_takeClaim_5 rfl 0 rfl ?_
  refine v_getI (pc := 6) C fl_Rd_39 (sh_29 hL) rfl d_Rd_takeClaim_6 ?_
  refine v_bipush (pc := 9) C d_Rd_takeClaim_9 bp_40 ?_
  refine v_jn (fun j => VO g Y_Rd_takeClaim G (fun z => Qm g Y_Rd_takeClaim G (fi L z)) 0 0 27 [(0, rf G 29)] [] L S1 (j ()) some) (?_) (fun j27 hj27 => ?_)
  · refine v_aload_n (pc := 27) C d_Rd_takeClaim_27 rfl 0 rfl ?_
    refine v_getI (pc := 28) C fl_Rd_74 (sh_29 hL) rfl d_Rd_takeClaim_28 ?_
    refine v_bipush (pc := 31) C d_Rd_takeClaim_31 bp_8 ?_
    refine v_icmp_lt (pc := 33) (tgt := 38) C d_Rd_takeClaim_33 rfl (fun _ => ?_) (fun _ => ?_)
    · refine v_aload_n (pc := 38) C d_Rd_takeClaim_38 rfl 0 rfl ?_
      refine v_dup (pc := 39) C d_Rd_takeClaim_39 rfl ?_
      refine v_getI (pc := 40) C fl_Rd_74 (sh_29 hL) rfl d_Rd_takeClaim_40 ?_
      refine v_iconst (pc := 43) C d_Rd_takeClaim_43 ic_1 ?_
      refine v_iadd (pc := 44) C d_Rd_takeClaim_44 ?_
      refine v_putI (pc := 45) C fp_Rd_74 (sh_29 hL) rfl d_Rd_takeClaim_45 (fun S2 => ?_)
      refine v_aload_n (pc := 48) C d_Rd_takeClaim_48 rfl 0 rfl ?_
      refine v_getI (pc := 49) C fl_Rd_39 (sh_29 hL) rfl d_Rd_takeClaim_49 ?_
      refine v_bipush (pc := 52) C d_Rd_takeClaim_52 bp_40 ?_
      refine v_jn (fun j => ∀ (S3 : Sto), VO g Y_Rd_takeClaim G (fun z => Qm g Y_Rd_takeClaim G (fi L z)) 0 0 67 [(0, rf G 29)] [] L S3 (j (S3)) some) (fun S3 => ?_) (fun j67 hj67 => ?_)
      · refine v_aload_n (pc := 67) C d_Rd_takeClaim_67 rfl 0 rfl ?_
        refine v_aload_n (pc := 68) C d_Rd_takeClaim_68 rfl 0 rfl ?_
        refine v_getI (pc := 69) C fl_Rd_39 (sh_29 hL) rfl d_Rd_takeClaim_69 ?_
        refine v_cv (pc := 72) (inv_V (As := [.int (S3 29 6)]) (st := []) C ml_Rd_158 mv_Rd_hold ro_Rd_takeClaim_Rd_hold (sh_29 hL) rfl rfl rfl rfl (Nat.le_of_ble_eq_true rfl) d_Rd_takeClaim_72) (c_Rd_hold hL S3 (S3 29 6)) ⟨rfl, rfl⟩ ⟨Nat.zero_le _, Nat.zero_le _⟩ (fun S4 => ?_)
        refine v_iconst (pc := 75) C d_Rd_takeClaim_75 ic_0 ?_
        exact v_iret (z := (0, S4)) C d_Rd_takeClaim_76 rfl ⟨Nat.zero_le _, Nat.zero_le _⟩ (rfl) rfl
      · refine v_icmp_ne (pc := 54) (tgt := 67) C d_Rd_takeClaim_54 rfl (fun _ => ?_) (fun _ => ?_)
        · exact hj67 S2
        · refine v_aload_n (pc := 57) C d_Rd_takeClaim_57 rfl 0 rfl ?_
          refine v_dup (pc := 58) C d_Rd_takeClaim_58 rfl ?_
          refine v_getI (pc := 59) C fl_Rd_77 (sh_29 hL) rfl d_Rd_takeClaim_59 ?_
          refine v_iconst (pc := 62) C d_Rd_takeClaim_62 ic_1 ?_
          refine v_iadd (pc := 63) C d_Rd_takeClaim_63 ?_
          refine v_putI (pc := 64) C fp_Rd_77 (sh_29 hL) rfl d_Rd_takeClaim_64 (fun S5 => ?_)
          exact hj67 S5
    · refine v_iconst (pc := 36) C d_Rd_takeClaim_36 ic_3 ?_
      exact v_iret (z := (3, S1)) C d_Rd_takeClaim_37 rfl ⟨Nat.zero_le _, Nat.zero_le _⟩ (rfl) rfl
  · refine v_icmp_eq (pc := 11) (tgt := 27) C d_Rd_takeClaim_11 rfl (fun _ => ?_) (fun _ => ?_)
    · exact hj27
    · refine v_aload_n (pc := 14) C d_Rd_takeClaim_14 rfl 0 rfl ?_
      refine v_getI (pc := 15) C fl_Rd_39 (sh_29 hL) rfl d_Rd_takeClaim_15 ?_
      refine v_iconst (pc := 18) C d_Rd_takeClaim_18 ic_3 ?_
      refine v_icmp_eq (pc := 19) (tgt := 27) C d_Rd_takeClaim_19 rfl (fun _ => ?_) (fun _ => ?_)
      · exact hj27
      · refine v_aload_n (pc := 22) C d_Rd_takeClaim_22 rfl 0 rfl ?_
        refine v_ci (pc := 23) (inv_V (As := []) (st := []) C ml_Rd_140 mv_Rd_takeUnit ro_Rd_takeClaim_Rd_takeUnit (sh_29 hL) rfl rfl rfl rfl (Nat.le_of_ble_eq_true rfl) d_Rd_takeClaim_23) (c_Rd_takeUnit hL S1) ⟨rfl, rfl⟩ ⟨Nat.zero_le _, Nat.zero_le _⟩ (fun r6 S7 => ?_)
        exact v_iret (z := (r6, S7)) C d_Rd_takeClaim_26 rfl ⟨Nat.zero_le _, Nat.zero_le _⟩ (rfl) rfl
-- Rd_takePart
theorem d_Rd_takePart_0 : decode (mB Y_Rd_takePart) 0 = .ok (.aload_n 0, 1) := by decide +kernel
theorem d_Rd_takePart_1 : decode (mB Y_Rd_takePart) 1 = .ok (.getfield 39, 3) := by decide +kernel
theorem d_Rd_takePart_4 : decode (mB Y_Rd_takePart) 4 = .ok (.bipush 12, 2) := by decide +kernel
theorem d_Rd_takePart_6 : decode (mB Y_Rd_takePart) 6 = .ok (.if_icmp .eq 5, 3) := by decide +kernel
theorem d_Rd_takePart_9 : decode (mB Y_Rd_takePart) 9 = .ok (.iconst 1, 1) := by decide +kernel
theorem d_Rd_takePart_10 : decode (mB Y_Rd_takePart) 10 = .ok (.ireturn, 1) := by decide +kernel
theorem d_Rd_takePart_11 : decode (mB Y_Rd_takePart) 11 = .ok (.aload_n 0, 1) := by decide +kernel
theorem d_Rd_takePart_12 : decode (mB Y_Rd_takePart) 12 = .ok (.getfield 121, 3) := by decide +kernel
theorem d_Rd_takePart_15 : decode (mB Y_Rd_takePart) 15 = .ok (.ifCond .ne 5, 3) := by decide +kernel
theorem d_Rd_takePart_18 : decode (mB Y_Rd_takePart) 18 = .ok (.iconst 2, 1) := by decide +kernel
theorem d_Rd_takePart_19 : decode (mB Y_Rd_takePart) 19 = .ok (.ireturn, 1) := by decide +kernel
theorem d_Rd_takePart_20 : decode (mB Y_Rd_takePart) 20 = .ok (.aload_n 0, 1) := by decide +kernel
theorem d_Rd_takePart_21 : decode (mB Y_Rd_takePart) 21 = .ok (.bipush 47, 2) := by decide +kernel
theorem d_Rd_takePart_23 : decode (mB Y_Rd_takePart) 23 = .ok (.aload_n 0, 1) := by decide +kernel
theorem d_Rd_takePart_24 : decode (mB Y_Rd_takePart) 24 = .ok (.getfield 121, 3) := by decide +kernel
theorem d_Rd_takePart_27 : decode (mB Y_Rd_takePart) 27 = .ok (.invokevirtual 162, 3) := by decide +kernel
theorem d_Rd_takePart_30 : decode (mB Y_Rd_takePart) 30 = .ok (.aload_n 0, 1) := by decide +kernel
theorem d_Rd_takePart_31 : decode (mB Y_Rd_takePart) 31 = .ok (.bipush 6, 2) := by decide +kernel
theorem d_Rd_takePart_33 : decode (mB Y_Rd_takePart) 33 = .ok (.putfield 42, 3) := by decide +kernel
theorem d_Rd_takePart_36 : decode (mB Y_Rd_takePart) 36 = .ok (.iconst 0, 1) := by decide +kernel
theorem d_Rd_takePart_37 : decode (mB Y_Rd_takePart) 37 = .ok (.ireturn, 1) := by decide +kernel
theorem ro_Rd_takePart_Rd_emit : roomy Y_Rd_takePart Y_Rd_emit := ⟨Nat.le_of_ble_eq_true rfl, Nat.le_of_ble_eq_true rfl⟩
def r_Rd_takePart  (S : Sto) : Option (Int32 × Sto) :=
  if (S 29 6) = 12 then
    if (S 29 7) = 0 then
      some (2, S)
    else
      (r_Rd_emit 47 (S 29 7) S).bind (fun S1 =>
      ltS (sw S1 29 9 6) (fun S2 =>
      some (0, S2)))
  else
    some (1, S)
set_option maxHeartbeats 4000000 in
set_option maxRecDepth 20000 in
theorem c_Rd_takePart {G : Gl} {L : Shp} (hL : Ext L) (S : Sto)   : Ct Y_Rd_takePart G [rf G 29] L S (fi L) (r_Rd_takePart S) := by
  refine ct_of (by decide +kernel) (Nat.le_of_ble_eq_true rfl) (fun g C => ?_)
  show VO g Y_Rd_takePart G (fun z => Qm g Y_Rd_takePart G (fi L z)) 0 0 0 [(0, rf G 29)] [] L S (r_Rd_takePart S) some
  unfold r_Rd_takePart
  refine v_aload_n (pc := 0) C d_Rd_takePart_0 rfl 0 rfl ?_
  refine v_getI (pc := 1) C fl_Rd_39 (sh_29 hL) rfl d_Rd_takePart_1 ?_
  refine v_bipush (pc := 4) C d_Rd_takePart_4 bp_12 ?_
  refine v_icmp_eq (pc := 6) (tgt := 11) C d_Rd_takePart_6 rfl (fun _ => ?_) (fun _ => ?_)
  · refine v_aload_n (pc := 11) C d_Rd_takePart_11 rfl 0 rfl ?_
    refine v_getI (pc := 12) C fl_Rd_121 (sh_29 hL) rfl d_Rd_takePart_12 ?_
    refine v_if_ne (pc := 15) (tgt := 20) C d_Rd_takePart_15 rfl (fun _ => ?_) (fun _ => ?_)
    · refine v_aload_n (pc := 20) C d_Rd_takePart_20 rfl 0 rfl ?_
      refine v_bipush (pc := 21) C d_Rd_takePart_21 bp_47 ?_
      refine v_aload_n (pc := 23) C d_Rd_takePart_23 rfl 0 rfl ?_
      refine v_getI (pc := 24) C fl_Rd_121 (sh_29 hL) rfl d_Rd_takePart_24 ?_
      refine v_cv (pc := 27) (inv_V (As := [.int 47, .int (S 29 7)]) (st := []) C ml_Rd_162 mv_Rd_emit ro_Rd_takePart_Rd_emit (sh_29 hL) rfl rfl rfl rfl (Nat.le_of_ble_eq_true rfl) d_Rd_takePart_27) (c_Rd_emit hL S 47 (S 29 7)) ⟨rfl, rfl⟩ ⟨Nat.zero_le _, Nat.zero_le _⟩ (fun S1 => ?_)
      refine v_aload_n (pc := 30) C d_Rd_takePart_30 rfl 0 rfl ?_
      refine v_bipush (pc := 31) C d_Rd_takePart_31 bp_6 ?_
      refine v_putI (pc := 33) C fp_Rd_42 (sh_29 hL) rfl d_Rd_takePart_33 (fun S2 => ?_)
      refine v_iconst (pc := 36) C d_Rd_takePart_36 ic_0 ?_
      exact v_iret (z := (0, S2)) C d_Rd_takePart_37 rfl ⟨Nat.zero_le _, Nat.zero_le _⟩ (rfl) rfl
    · refine v_iconst (pc := 18) C d_Rd_takePart_18 ic_2 ?_
      exact v_iret (z := (2, S)) C d_Rd_takePart_19 rfl ⟨Nat.zero_le _, Nat.zero_le _⟩ (rfl) rfl
  · refine v_iconst (pc := 9) C d_Rd_takePart_9 ic_1 ?_
    exact v_iret (z := (1, S)) C d_Rd_takePart_10 rfl ⟨Nat.zero_le _, Nat.zero_le _⟩ (rfl) rfl
-- Rd_rank
theorem d_Rd_rank_0 : decode (mB Y_Rd_rank) 0 = .ok (.iload_n 0, 1) := by decide +kernel
theorem d_Rd_rank_1 : decode (mB Y_Rd_rank) 1 = .ok (.lookupswitch 96 #[(1, 94), (2, 92), (3, 90), (42, 83), (43, 86), (45, 86), (60, 88), (61, 88), (62, 88)], 83) := by decide +kernel
theorem d_Rd_rank_84 : decode (mB Y_Rd_rank) 84 = .ok (.bipush 6, 2) := by decide +kernel
theorem d_Rd_rank_86 : decode (mB Y_Rd_rank) 86 = .ok (.ireturn, 1) := by decide +kernel
theorem d_Rd_rank_87 : decode (mB Y_Rd_rank) 87 = .ok (.iconst 5, 1) := by decide +kernel
theorem d_Rd_rank_88 : decode (mB Y_Rd_rank) 88 = .ok (.ireturn, 1) := by decide +kernel
theorem d_Rd_rank_89 : decode (mB Y_Rd_rank) 89 = .ok (.iconst 4, 1) := by decide +kernel
theorem d_Rd_rank_90 : decode (mB Y_Rd_rank) 90 = .ok (.ireturn, 1) := by decide +kernel
theorem d_Rd_rank_91 : decode (mB Y_Rd_rank) 91 = .ok (.iconst 3, 1) := by decide +kernel
theorem d_Rd_rank_92 : decode (mB Y_Rd_rank) 92 = .ok (.ireturn, 1) := by decide +kernel
theorem d_Rd_rank_93 : decode (mB Y_Rd_rank) 93 = .ok (.iconst 2, 1) := by decide +kernel
theorem d_Rd_rank_94 : decode (mB Y_Rd_rank) 94 = .ok (.ireturn, 1) := by decide +kernel
theorem d_Rd_rank_95 : decode (mB Y_Rd_rank) 95 = .ok (.iconst 1, 1) := by decide +kernel
theorem d_Rd_rank_96 : decode (mB Y_Rd_rank) 96 = .ok (.ireturn, 1) := by decide +kernel
theorem d_Rd_rank_97 : decode (mB Y_Rd_rank) 97 = .ok (.iconst 0, 1) := by decide +kernel
theorem d_Rd_rank_98 : decode (mB Y_Rd_rank) 98 = .ok (.ireturn, 1) := by decide +kernel
def r_Rd_rank (x0 : Int32) : Int32 := (if x0 = 1 then 1 else (if x0 = 2 then 2 else (if x0 = 3 then 3 else (if x0 = 42 then 6 else (if x0 = 43 then 5 else (if x0 = 45 then 5 else (if x0 = 60 then 4 else (if x0 = 61 then 4 else (if x0 = 62 then 4 else 0)))))))))
set_option maxHeartbeats 4000000 in
set_option maxRecDepth 20000 in
theorem c_Rd_rank {G : Gl} {L : Shp} (hL : Ext L) (S : Sto) (x0 : Int32)  : Ct Y_Rd_rank G [.int x0] L S (fp L S) (some (r_Rd_rank x0)) := by
  refine ct_of (by decide +kernel) (Nat.le_of_ble_eq_true rfl) (fun g C => ?_)
  have e : (some (r_Rd_rank x0) : Option Int32) =
      if x0 = 1 then
        some 1
      else
        if x0 = 2 then
          some 2
        else
          if x0 = 3 then
            some 3
          else
            if x0 = 42 then
              some 6
            else
              if x0 = 43 then
                some 5
              else
                if x0 = 45 then
                  some 5
                else
                  if x0 = 60 then
                    some 4
                  else
                    if x0 = 61 then
                      some 4
                    else
                      if x0 = 62 then
                        some 4
                      else
                        some 0 := by
    unfold r_Rd_rank
    simp only [some_ite, lt, ltJ]
  rw [e]
  show VO g Y_Rd_rank G (fun z => Qm g Y_Rd_rank G (fp L S z)) 0 0 0 [(0, .int x0)] [] L S _ some
  refine v_iload_n (pc := 0) C d_Rd_rank_0 rfl 0 rfl ?_
  refine v_case (x := x0) (c := 1) (fun hc1 => ?_) (fun hc1 => ?_)
  · refine v_lookup (pc := 1) (tgt := 95) C d_Rd_rank_1 (by decide) (by rw [hc1] <;> rfl) rfl ?_
    refine v_iconst (pc := 95) C d_Rd_rank_95 ic_1 ?_
    exact v_iret (z := 1) C d_Rd_rank_96 rfl ⟨Nat.zero_le _, Nat.zero_le _⟩ (rfl) rfl
  · refine v_case (x := x0) (c := 2) (fun hc2 => ?_) (fun hc2 => ?_)
    · refine v_lookup (pc := 1) (tgt := 93) C d_Rd_rank_1 (by decide) (by rw [hc2] <;> rfl) rfl ?_
      refine v_iconst (pc := 93) C d_Rd_rank_93 ic_2 ?_
      exact v_iret (z := 2) C d_Rd_rank_94 rfl ⟨Nat.zero_le _, Nat.zero_le _⟩ (rfl) rfl
    · refine v_case (x := x0) (c := 3) (fun hc3 => ?_) (fun hc3 => ?_)
      · refine v_lookup (pc := 1) (tgt := 91) C d_Rd_rank_1 (by decide) (by rw [hc3] <;> rfl) rfl ?_
        refine v_iconst (pc := 91) C d_Rd_rank_91 ic_3 ?_
        exact v_iret (z := 3) C d_Rd_rank_92 rfl ⟨Nat.zero_le _, Nat.zero_le _⟩ (rfl) rfl
      · refine v_case (x := x0) (c := 42) (fun hc4 => ?_) (fun hc4 => ?_)
        · refine v_lookup (pc := 1) (tgt := 84) C d_Rd_rank_1 (by decide) (by rw [hc4] <;> rfl) rfl ?_
          refine v_bipush (pc := 84) C d_Rd_rank_84 bp_6 ?_
          exact v_iret (z := 6) C d_Rd_rank_86 rfl ⟨Nat.zero_le _, Nat.zero_le _⟩ (rfl) rfl
        · refine v_case (x := x0) (c := 43) (fun hc5 => ?_) (fun hc5 => ?_)
          · refine v_lookup (pc := 1) (tgt := 87) C d_Rd_rank_1 (by decide) (by rw [hc5] <;> rfl) rfl ?_
            refine v_iconst (pc := 87) C d_Rd_rank_87 ic_5 ?_
            exact v_iret (z := 5) C d_Rd_rank_88 rfl ⟨Nat.zero_le _, Nat.zero_le _⟩ (rfl) rfl
          · refine v_case (x := x0) (c := 45) (fun hc6 => ?_) (fun hc6 => ?_)
            · refine v_lookup (pc := 1) (tgt := 87) C d_Rd_rank_1 (by decide) (by rw [hc6] <;> rfl) rfl ?_
              refine v_iconst (pc := 87) C d_Rd_rank_87 ic_5 ?_
              exact v_iret (z := 5) C d_Rd_rank_88 rfl ⟨Nat.zero_le _, Nat.zero_le _⟩ (rfl) rfl
            · refine v_case (x := x0) (c := 60) (fun hc7 => ?_) (fun hc7 => ?_)
              · refine v_lookup (pc := 1) (tgt := 89) C d_Rd_rank_1 (by decide) (by rw [hc7] <;> rfl) rfl ?_
                refine v_iconst (pc := 89) C d_Rd_rank_89 ic_4 ?_
                exact v_iret (z := 4) C d_Rd_rank_90 rfl ⟨Nat.zero_le _, Nat.zero_le _⟩ (rfl) rfl
              · refine v_case (x := x0) (c := 61) (fun hc8 => ?_) (fun hc8 => ?_)
                · refine v_lookup (pc := 1) (tgt := 89) C d_Rd_rank_1 (by decide) (by rw [hc8] <;> rfl) rfl ?_
                  refine v_iconst (pc := 89) C d_Rd_rank_89 ic_4 ?_
                  exact v_iret (z := 4) C d_Rd_rank_90 rfl ⟨Nat.zero_le _, Nat.zero_le _⟩ (rfl) rfl
                · refine v_case (x := x0) (c := 62) (fun hc9 => ?_) (fun hc9 => ?_)
                  · refine v_lookup (pc := 1) (tgt := 89) C d_Rd_rank_1 (by decide) (by rw [hc9] <;> rfl) rfl ?_
                    refine v_iconst (pc := 89) C d_Rd_rank_89 ic_4 ?_
                    exact v_iret (z := 4) C d_Rd_rank_90 rfl ⟨Nat.zero_le _, Nat.zero_le _⟩ (rfl) rfl
                  · refine v_lookup (pc := 1) (tgt := 97) C d_Rd_rank_1 (by decide) (by show Op.lookupswitch.offset [(1, 94), (2, 92), (3, 90), (42, 83), (43, 86), (45, 86), (60, 88), (61, 88), (62, 88)] _ _ = _; rw [lv_osw hc1 (by decide), lv_osw hc2 (by decide), lv_osw hc3 (by decide), lv_osw hc4 (by decide), lv_osw hc5 (by decide), lv_osw hc6 (by decide), lv_osw hc7 (by decide), lv_osw hc8 (by decide), lv_osw hc9 (by decide)] <;> rfl) rfl ?_
                    refine v_iconst (pc := 97) C d_Rd_rank_97 ic_0 ?_
                    exact v_iret (z := 0) C d_Rd_rank_98 rfl ⟨Nat.zero_le _, Nat.zero_le _⟩ (rfl) rfl
-- Rd_release
theorem d_Rd_release_0 : decode (mB Y_Rd_release) 0 = .ok (.aload_n 0, 1) := by decide +kernel
theorem d_Rd_release_1 : decode (mB Y_Rd_release) 1 = .ok (.getfield 80, 3) := by decide +kernel
theorem d_Rd_release_4 : decode (mB Y_Rd_release) 4 = .ok (.ifCond .le 71, 3) := by decide +kernel
theorem d_Rd_release_7 : decode (mB Y_Rd_release) 7 = .ok (.aload_n 0, 1) := by decide +kernel
theorem d_Rd_release_8 : decode (mB Y_Rd_release) 8 = .ok (.getfield 19, 3) := by decide +kernel
theorem d_Rd_release_11 : decode (mB Y_Rd_release) 11 = .ok (.aload_n 0, 1) := by decide +kernel
theorem d_Rd_release_12 : decode (mB Y_Rd_release) 12 = .ok (.getfield 80, 3) := by decide +kernel
theorem d_Rd_release_15 : decode (mB Y_Rd_release) 15 = .ok (.iconst 1, 1) := by decide +kernel
theorem d_Rd_release_16 : decode (mB Y_Rd_release) 16 = .ok (.isub, 1) := by decide +kernel
theorem d_Rd_release_17 : decode (mB Y_Rd_release) 17 = .ok (.iaload, 1) := by decide +kernel
theorem d_Rd_release_18 : decode (mB Y_Rd_release) 18 = .ok (.invokestatic 166, 3) := by decide +kernel
theorem d_Rd_release_21 : decode (mB Y_Rd_release) 21 = .ok (.iload_n 1, 1) := by decide +kernel
theorem d_Rd_release_22 : decode (mB Y_Rd_release) 22 = .ok (.if_icmp .lt 53, 3) := by decide +kernel
theorem d_Rd_release_25 : decode (mB Y_Rd_release) 25 = .ok (.aload_n 0, 1) := by decide +kernel
theorem d_Rd_release_26 : decode (mB Y_Rd_release) 26 = .ok (.dup, 1) := by decide +kernel
theorem d_Rd_release_27 : decode (mB Y_Rd_release) 27 = .ok (.getfield 80, 3) := by decide +kernel
theorem d_Rd_release_30 : decode (mB Y_Rd_release) 30 = .ok (.iconst 1, 1) := by decide +kernel
theorem d_Rd_release_31 : decode (mB Y_Rd_release) 31 = .ok (.isub, 1) := by decide +kernel
theorem d_Rd_release_32 : decode (mB Y_Rd_release) 32 = .ok (.putfield 80, 3) := by decide +kernel
theorem d_Rd_release_35 : decode (mB Y_Rd_release) 35 = .ok (.aload_n 0, 1) := by decide +kernel
theorem d_Rd_release_36 : decode (mB Y_Rd_release) 36 = .ok (.getfield 19, 3) := by decide +kernel
theorem d_Rd_release_39 : decode (mB Y_Rd_release) 39 = .ok (.aload_n 0, 1) := by decide +kernel
theorem d_Rd_release_40 : decode (mB Y_Rd_release) 40 = .ok (.getfield 80, 3) := by decide +kernel
theorem d_Rd_release_43 : decode (mB Y_Rd_release) 43 = .ok (.iaload, 1) := by decide +kernel
theorem d_Rd_release_44 : decode (mB Y_Rd_release) 44 = .ok (.iconst 3, 1) := by decide +kernel
theorem d_Rd_release_45 : decode (mB Y_Rd_release) 45 = .ok (.if_icmp .ne 13, 3) := by decide +kernel
theorem d_Rd_release_48 : decode (mB Y_Rd_release) 48 = .ok (.aload_n 0, 1) := by decide +kernel
theorem d_Rd_release_49 : decode (mB Y_Rd_release) 49 = .ok (.dup, 1) := by decide +kernel
theorem d_Rd_release_50 : decode (mB Y_Rd_release) 50 = .ok (.getfield 74, 3) := by decide +kernel
theorem d_Rd_release_53 : decode (mB Y_Rd_release) 53 = .ok (.iconst 1, 1) := by decide +kernel
theorem d_Rd_release_54 : decode (mB Y_Rd_release) 54 = .ok (.isub, 1) := by decide +kernel
theorem d_Rd_release_55 : decode (mB Y_Rd_release) 55 = .ok (.putfield 74, 3) := by decide +kernel
theorem d_Rd_release_58 : decode (mB Y_Rd_release) 58 = .ok (.aload_n 0, 1) := by decide +kernel
theorem d_Rd_release_59 : decode (mB Y_Rd_release) 59 = .ok (.aload_n 0, 1) := by decide +kernel
theorem d_Rd_release_60 : decode (mB Y_Rd_release) 60 = .ok (.getfield 19, 3) := by decide +kernel
theorem d_Rd_release_63 : decode (mB Y_Rd_release) 63 = .ok (.aload_n 0, 1) := by decide +kernel
theorem d_Rd_release_64 : decode (mB Y_Rd_release) 64 = .ok (.getfield 80, 3) := by decide +kernel
theorem d_Rd_release_67 : decode (mB Y_Rd_release) 67 = .ok (.iaload, 1) := by decide +kernel
theorem d_Rd_release_68 : decode (mB Y_Rd_release) 68 = .ok (.iconst 0, 1) := by decide +kernel
theorem d_Rd_release_69 : decode (mB Y_Rd_release) 69 = .ok (.invokevirtual 162, 3) := by decide +kernel
theorem d_Rd_release_72 : decode (mB Y_Rd_release) 72 = .ok (.goto (-72), 3) := by decide +kernel
theorem d_Rd_release_75 : decode (mB Y_Rd_release) 75 = .ok (.return_, 1) := by decide +kernel
theorem ro_Rd_release_Rd_emit : roomy Y_Rd_release Y_Rd_emit := ⟨Nat.le_of_ble_eq_true rfl, Nat.le_of_ble_eq_true rfl⟩
theorem ro_Rd_release_Rd_rank : roomy Y_Rd_release Y_Rd_rank := ⟨Nat.le_of_ble_eq_true rfl, Nat.le_of_ble_eq_true rfl⟩
def r_Rd_release_L0 (y1_ : Int32) : Nat → Sto → Option (Sto)
  | 0, _ => none
  | n + 1, S =>
    if (S 29 16) ≤ 0 then
      some (S)
    else
      chk (inr ((S 29 16) - 1) 40) (
      if (r_Rd_rank (S 31 (((S 29 16) - 1).toNatClampNeg))) < y1_ then
        some (S)
      else
        ltS (sw S 29 16 ((S 29 16) - 1)) (fun S1 =>
        chk (inr (S1 29 16) 40) (
        jn (fun (S2 : Sto) =>
          chk (inr (S2 29 16) 40) (
          (r_Rd_emit (S2 31 ((S2 29 16).toNatClampNeg)) 0 S2).bind (fun S3 =>
          r_Rd_release_L0 y1_ n S3))) (fun j58 =>
        if (S1 31 ((S1 29 16).toNatClampNeg)) = 3 then
          ltS (sw S1 29 13 ((S1 29 13) - 1)) (fun S4 =>
          j58 (S4))
        else
          j58 (S1)))))
set_option maxHeartbeats 4000000 in
set_option maxRecDepth 20000 in
theorem w_Rd_release_L0 {g : Gm} {G : Gl} {L : Shp} (C : Cx g Y_Rd_release G) (hL : Ext L) (y1_ : Int32)  :
    ∀ (n : Nat)  (S : Sto) (K : (Sto) → Option Sto), (∀ (S : Sto), VO g Y_Rd_release G (fun z => Qm g Y_Rd_release G (fv L z)) 0 0 75 [] [] L S (some (S)) K) → VO g Y_Rd_release G (fun z => Qm g Y_Rd_release G (fv L z)) 0 0 0 [(0, rf G 29), (1, .int y1_)] [] L S (r_Rd_release_L0 y1_ n S) K := by
  intro n
  induction n with
  | zero => intro S K; intros; exact v_none
  | succ n ih =>
    intro S K hK
    rw [r_Rd_release_L0]
    refine v_aload_n (pc := 0) C d_Rd_release_0 rfl 0 rfl ?_
    refine v_getI (pc := 1) C fl_Rd_80 (sh_29 hL) rfl d_Rd_release_1 ?_
    refine v_if_le (pc := 4) (tgt := 75) C d_Rd_release_4 rfl (fun _ => ?_) (fun _ => ?_)
    · refine v_sub [] rfl ?_
      exact hK S
    · refine v_aload_n (pc := 7) C d_Rd_release_7 rfl 0 rfl ?_
      refine v_getR (pc := 8) C fl_Rd_19 (sh_29 hL) rfl d_Rd_release_8 ?_
      refine v_aload_n (pc := 11) C d_Rd_release_11 rfl 0 rfl ?_
      refine v_getI (pc := 12) C fl_Rd_80 (sh_29 hL) rfl d_Rd_release_12 ?_
      refine v_iconst (pc := 15) C d_Rd_release_15 ic_1 ?_
      refine v_isub (pc := 16) C d_Rd_release_16 ?_
      refine v_iald (pc := 17) C (sh_31 hL) d_Rd_release_17 (fun _ => ?_)
      refine v_ct (pc := 18) (inv_S (As := [.int (S 31 (((S 29 16) - 1).toNatClampNeg))]) (st := []) C ml_Rd_166 ms_Rd_rank ro_Rd_release_Rd_rank rfl rfl (Nat.le_of_ble_eq_true rfl) d_Rd_release_18) (c_Rd_rank hL S (S 31 (((S 29 16) - 1).toNatClampNeg))) ⟨rfl, rfl⟩ ⟨Nat.zero_le _, Nat.zero_le _⟩ ?_
      refine v_iload_n (pc := 21) C d_Rd_release_21 rfl 1 rfl ?_
      refine v_icmp_lt (pc := 22) (tgt := 75) C d_Rd_release_22 rfl (fun _ => ?_) (fun _ => ?_)
      · refine v_sub [] rfl ?_
        exact hK S
      · refine v_aload_n (pc := 25) C d_Rd_release_25 rfl 0 rfl ?_
        refine v_dup (pc := 26) C d_Rd_release_26 rfl ?_
        refine v_getI (pc := 27) C fl_Rd_80 (sh_29 hL) rfl d_Rd_release_27 ?_
        refine v_iconst (pc := 30) C d_Rd_release_30 ic_1 ?_
        refine v_isub (pc := 31) C d_Rd_release_31 ?_
        refine v_putI (pc := 32) C fp_Rd_80 (sh_29 hL) rfl d_Rd_release_32 (fun S1 => ?_)
        refine v_aload_n (pc := 35) C d_Rd_release_35 rfl 0 rfl ?_
        refine v_getR (pc := 36) C fl_Rd_19 (sh_29 hL) rfl d_Rd_release_36 ?_
        refine v_aload_n (pc := 39) C d_Rd_release_39 rfl 0 rfl ?_
        refine v_getI (pc := 40) C fl_Rd_80 (sh_29 hL) rfl d_Rd_release_40 ?_
        refine v_iald (pc := 43) C (sh_31 hL) d_Rd_release_43 (fun _ => ?_)
        refine v_iconst (pc := 44) C d_Rd_release_44 ic_3 ?_
        refine v_jn (fun j => ∀ (S2 : Sto), VO g Y_Rd_release G (fun z => Qm g Y_Rd_release G (fv L z)) 0 0 58 [(0, rf G 29), (1, .int y1_)] [] L S2 (j (S2)) K) (fun S2 => ?_) (fun j58 hj58 => ?_)
        · refine v_aload_n (pc := 58) C d_Rd_release_58 rfl 0 rfl ?_
          refine v_aload_n (pc := 59) C d_Rd_release_59 rfl 0 rfl ?_
          refine v_getR (pc := 60) C fl_Rd_19 (sh_29 hL) rfl d_Rd_release_60 ?_
          refine v_aload_n (pc := 63) C d_Rd_release_63 rfl 0 rfl ?_
          refine v_getI (pc := 64) C fl_Rd_80 (sh_29 hL) rfl d_Rd_release_64 ?_
          refine v_iald (pc := 67) C (sh_31 hL) d_Rd_release_67 (fun _ => ?_)
          refine v_iconst (pc := 68) C d_Rd_release_68 ic_0 ?_
          refine v_cv (pc := 69) (inv_V (As := [.int (S2 31 ((S2 29 16).toNatClampNeg)), .int 0]) (st := []) C ml_Rd_162 mv_Rd_emit ro_Rd_release_Rd_emit (sh_29 hL) rfl rfl rfl rfl (Nat.le_of_ble_eq_true rfl) d_Rd_release_69) (c_Rd_emit hL S2 (S2 31 ((S2 29 16).toNatClampNeg)) 0) ⟨rfl, rfl⟩ ⟨Nat.zero_le _, Nat.zero_le _⟩ (fun S3 => ?_)
          refine v_goto (pc := 72) (tgt := 0) C d_Rd_release_72 rfl ?_
          exact ih S3 K hK
        · refine v_icmp_ne (pc := 45) (tgt := 58) C d_Rd_release_45 rfl (fun _ => ?_) (fun _ => ?_)
          · exact hj58 S1
          · refine v_aload_n (pc := 48) C d_Rd_release_48 rfl 0 rfl ?_
            refine v_dup (pc := 49) C d_Rd_release_49 rfl ?_
            refine v_getI (pc := 50) C fl_Rd_74 (sh_29 hL) rfl d_Rd_release_50 ?_
            refine v_iconst (pc := 53) C d_Rd_release_53 ic_1 ?_
            refine v_isub (pc := 54) C d_Rd_release_54 ?_
            refine v_putI (pc := 55) C fp_Rd_74 (sh_29 hL) rfl d_Rd_release_55 (fun S4 => ?_)
            exact hj58 S4
def r_Rd_release (x1 : Int32) (S : Sto) : Option Sto :=
  (r_Rd_release_L0 x1 fu S).bind (fun (S1) =>
  some S1)
set_option maxHeartbeats 4000000 in
set_option maxRecDepth 20000 in
theorem c_Rd_release {G : Gl} {L : Shp} (hL : Ext L) (S : Sto) (x1 : Int32)  : Ct Y_Rd_release G [rf G 29, .int x1] L S (fv L) (r_Rd_release x1 S) := by
  refine ct_of (by decide +kernel) (Nat.le_of_ble_eq_true rfl) (fun g C => ?_)
  show VO g Y_Rd_release G (fun z => Qm g Y_Rd_release G (fv L z)) 0 0 0 [(0, rf G 29), (1, .int x1)] [] L S (r_Rd_release x1 S) some
  unfold r_Rd_release
  refine v_bind ?_
  refine w_Rd_release_L0 C hL x1  fu S _ (fun S1 => ?_) 
  refine v_some ?_
  exact v_vret C d_Rd_release_75 rfl ⟨Nat.zero_le _, Nat.zero_le _⟩ rfl rfl
-- Rd_dropBracket
theorem d_Rd_dropBracket_0 : decode (mB Y_Rd_dropBracket) 0 = .ok (.aload_n 0, 1) := by decide +kernel
theorem d_Rd_dropBracket_1 : decode (mB Y_Rd_dropBracket) 1 = .ok (.dup, 1) := by decide +kernel
theorem d_Rd_dropBracket_2 : decode (mB Y_Rd_dropBracket) 2 = .ok (.getfield 77, 3) := by decide +kernel
theorem d_Rd_dropBracket_5 : decode (mB Y_Rd_dropBracket) 5 = .ok (.iconst 1, 1) := by decide +kernel
theorem d_Rd_dropBracket_6 : decode (mB Y_Rd_dropBracket) 6 = .ok (.isub, 1) := by decide +kernel
theorem d_Rd_dropBracket_7 : decode (mB Y_Rd_dropBracket) 7 = .ok (.putfield 77, 3) := by decide +kernel
theorem d_Rd_dropBracket_10 : decode (mB Y_Rd_dropBracket) 10 = .ok (.aload_n 0, 1) := by decide +kernel
theorem d_Rd_dropBracket_11 : decode (mB Y_Rd_dropBracket) 11 = .ok (.dup, 1) := by decide +kernel
theorem d_Rd_dropBracket_12 : decode (mB Y_Rd_dropBracket) 12 = .ok (.getfield 74, 3) := by decide +kernel
theorem d_Rd_dropBracket_15 : decode (mB Y_Rd_dropBracket) 15 = .ok (.iconst 1, 1) := by decide +kernel
theorem d_Rd_dropBracket_16 : decode (mB Y_Rd_dropBracket) 16 = .ok (.isub, 1) := by decide +kernel
theorem d_Rd_dropBracket_17 : decode (mB Y_Rd_dropBracket) 17 = .ok (.putfield 74, 3) := by decide +kernel
theorem d_Rd_dropBracket_20 : decode (mB Y_Rd_dropBracket) 20 = .ok (.aload_n 0, 1) := by decide +kernel
theorem d_Rd_dropBracket_21 : decode (mB Y_Rd_dropBracket) 21 = .ok (.getfield 80, 3) := by decide +kernel
theorem d_Rd_dropBracket_24 : decode (mB Y_Rd_dropBracket) 24 = .ok (.ifCond .le 13, 3) := by decide +kernel
theorem d_Rd_dropBracket_27 : decode (mB Y_Rd_dropBracket) 27 = .ok (.aload_n 0, 1) := by decide +kernel
theorem d_Rd_dropBracket_28 : decode (mB Y_Rd_dropBracket) 28 = .ok (.dup, 1) := by decide +kernel
theorem d_Rd_dropBracket_29 : decode (mB Y_Rd_dropBracket) 29 = .ok (.getfield 80, 3) := by decide +kernel
theorem d_Rd_dropBracket_32 : decode (mB Y_Rd_dropBracket) 32 = .ok (.iconst 1, 1) := by decide +kernel
theorem d_Rd_dropBracket_33 : decode (mB Y_Rd_dropBracket) 33 = .ok (.isub, 1) := by decide +kernel
theorem d_Rd_dropBracket_34 : decode (mB Y_Rd_dropBracket) 34 = .ok (.putfield 80, 3) := by decide +kernel
theorem d_Rd_dropBracket_37 : decode (mB Y_Rd_dropBracket) 37 = .ok (.return_, 1) := by decide +kernel
def r_Rd_dropBracket  (S : Sto) : Option Sto :=
  ltS (sw S 29 14 ((S 29 14) - 1)) (fun S1 =>
  ltS (sw S1 29 13 ((S1 29 13) - 1)) (fun S2 =>
  if (S2 29 16) ≤ 0 then
    some S2
  else
    ltS (sw S2 29 16 ((S2 29 16) - 1)) (fun S3 =>
    some S3)))
set_option maxHeartbeats 4000000 in
set_option maxRecDepth 20000 in
theorem c_Rd_dropBracket {G : Gl} {L : Shp} (hL : Ext L) (S : Sto)   : Ct Y_Rd_dropBracket G [rf G 29] L S (fv L) (r_Rd_dropBracket S) := by
  refine ct_of (by decide +kernel) (Nat.le_of_ble_eq_true rfl) (fun g C => ?_)
  show VO g Y_Rd_dropBracket G (fun z => Qm g Y_Rd_dropBracket G (fv L z)) 0 0 0 [(0, rf G 29)] [] L S (r_Rd_dropBracket S) some
  unfold r_Rd_dropBracket
  refine v_aload_n (pc := 0) C d_Rd_dropBracket_0 rfl 0 rfl ?_
  refine v_dup (pc := 1) C d_Rd_dropBracket_1 rfl ?_
  refine v_getI (pc := 2) C fl_Rd_77 (sh_29 hL) rfl d_Rd_dropBracket_2 ?_
  refine v_iconst (pc := 5) C d_Rd_dropBracket_5 ic_1 ?_
  refine v_isub (pc := 6) C d_Rd_dropBracket_6 ?_
  refine v_putI (pc := 7) C fp_Rd_77 (sh_29 hL) rfl d_Rd_dropBracket_7 (fun S1 => ?_)
  refine v_aload_n (pc := 10) C d_Rd_dropBracket_10 rfl 0 rfl ?_
  refine v_dup (pc := 11) C d_Rd_dropBracket_11 rfl ?_
  refine v_getI (pc := 12) C fl_Rd_74 (sh_29 hL) rfl d_Rd_dropBracket_12 ?_
  refine v_iconst (pc := 15) C d_Rd_dropBracket_15 ic_1 ?_
  refine v_isub (pc := 16) C d_Rd_dropBracket_16 ?_
  refine v_putI (pc := 17) C fp_Rd_74 (sh_29 hL) rfl d_Rd_dropBracket_17 (fun S2 => ?_)
  refine v_aload_n (pc := 20) C d_Rd_dropBracket_20 rfl 0 rfl ?_
  refine v_getI (pc := 21) C fl_Rd_80 (sh_29 hL) rfl d_Rd_dropBracket_21 ?_
  refine v_if_le (pc := 24) (tgt := 37) C d_Rd_dropBracket_24 rfl (fun _ => ?_) (fun _ => ?_)
  · exact v_vret C d_Rd_dropBracket_37 rfl ⟨Nat.zero_le _, Nat.zero_le _⟩ rfl rfl
  · refine v_aload_n (pc := 27) C d_Rd_dropBracket_27 rfl 0 rfl ?_
    refine v_dup (pc := 28) C d_Rd_dropBracket_28 rfl ?_
    refine v_getI (pc := 29) C fl_Rd_80 (sh_29 hL) rfl d_Rd_dropBracket_29 ?_
    refine v_iconst (pc := 32) C d_Rd_dropBracket_32 ic_1 ?_
    refine v_isub (pc := 33) C d_Rd_dropBracket_33 ?_
    refine v_putI (pc := 34) C fp_Rd_80 (sh_29 hL) rfl d_Rd_dropBracket_34 (fun S3 => ?_)
    exact v_vret C d_Rd_dropBracket_37 rfl ⟨Nat.zero_le _, Nat.zero_le _⟩ rfl rfl
