-- Hd_listenCrack
theorem d_Hd_listenCrack_0 : decode (mB Y_Hd_listenCrack) 0 = .ok (.aload_n 1, 1) := by decide +kernel
theorem d_Hd_listenCrack_1 : decode (mB Y_Hd_listenCrack) 1 = .ok (.getfield 25, 3) := by decide +kernel
theorem d_Hd_listenCrack_4 : decode (mB Y_Hd_listenCrack) 4 = .ok (.invokestatic 68, 3) := by decide +kernel
theorem d_Hd_listenCrack_7 : decode (mB Y_Hd_listenCrack) 7 = .ok (.istore_n 3, 1) := by decide +kernel
theorem d_Hd_listenCrack_8 : decode (mB Y_Hd_listenCrack) 8 = .ok (.aload_n 1, 1) := by decide +kernel
theorem d_Hd_listenCrack_9 : decode (mB Y_Hd_listenCrack) 9 = .ok (.getfield 25, 3) := by decide +kernel
theorem d_Hd_listenCrack_12 : decode (mB Y_Hd_listenCrack) 12 = .ok (.invokestatic 72, 3) := by decide +kernel
theorem d_Hd_listenCrack_15 : decode (mB Y_Hd_listenCrack) 15 = .ok (.istore 4, 2) := by decide +kernel
theorem d_Hd_listenCrack_17 : decode (mB Y_Hd_listenCrack) 17 = .ok (.aload_n 1, 1) := by decide +kernel
theorem d_Hd_listenCrack_18 : decode (mB Y_Hd_listenCrack) 18 = .ok (.getfield 58, 3) := by decide +kernel
theorem d_Hd_listenCrack_21 : decode (mB Y_Hd_listenCrack) 21 = .ok (.invokestatic 68, 3) := by decide +kernel
theorem d_Hd_listenCrack_24 : decode (mB Y_Hd_listenCrack) 24 = .ok (.iload_n 3, 1) := by decide +kernel
theorem d_Hd_listenCrack_25 : decode (mB Y_Hd_listenCrack) 25 = .ok (.isub, 1) := by decide +kernel
theorem d_Hd_listenCrack_26 : decode (mB Y_Hd_listenCrack) 26 = .ok (.istore 5, 2) := by decide +kernel
theorem d_Hd_listenCrack_28 : decode (mB Y_Hd_listenCrack) 28 = .ok (.aload_n 1, 1) := by decide +kernel
theorem d_Hd_listenCrack_29 : decode (mB Y_Hd_listenCrack) 29 = .ok (.getfield 58, 3) := by decide +kernel
theorem d_Hd_listenCrack_32 : decode (mB Y_Hd_listenCrack) 32 = .ok (.invokestatic 72, 3) := by decide +kernel
theorem d_Hd_listenCrack_35 : decode (mB Y_Hd_listenCrack) 35 = .ok (.iload 4, 2) := by decide +kernel
theorem d_Hd_listenCrack_37 : decode (mB Y_Hd_listenCrack) 37 = .ok (.isub, 1) := by decide +kernel
theorem d_Hd_listenCrack_38 : decode (mB Y_Hd_listenCrack) 38 = .ok (.istore 6, 2) := by decide +kernel
theorem d_Hd_listenCrack_40 : decode (mB Y_Hd_listenCrack) 40 = .ok (.iload 5, 2) := by decide +kernel
theorem d_Hd_listenCrack_42 : decode (mB Y_Hd_listenCrack) 42 = .ok (.invokestatic 75, 3) := by decide +kernel
theorem d_Hd_listenCrack_45 : decode (mB Y_Hd_listenCrack) 45 = .ok (.iload 6, 2) := by decide +kernel
theorem d_Hd_listenCrack_47 : decode (mB Y_Hd_listenCrack) 47 = .ok (.invokestatic 75, 3) := by decide +kernel
theorem d_Hd_listenCrack_50 : decode (mB Y_Hd_listenCrack) 50 = .ok (.invokestatic 80, 3) := by decide +kernel
theorem d_Hd_listenCrack_53 : decode (mB Y_Hd_listenCrack) 53 = .ok (.istore 7, 2) := by decide +kernel
theorem d_Hd_listenCrack_55 : decode (mB Y_Hd_listenCrack) 55 = .ok (.iload 7, 2) := by decide +kernel
theorem d_Hd_listenCrack_57 : decode (mB Y_Hd_listenCrack) 57 = .ok (.ifCond .ne 4, 3) := by decide +kernel
theorem d_Hd_listenCrack_60 : decode (mB Y_Hd_listenCrack) 60 = .ok (.return_, 1) := by decide +kernel
theorem d_Hd_listenCrack_61 : decode (mB Y_Hd_listenCrack) 61 = .ok (.iconst 0, 1) := by decide +kernel
theorem d_Hd_listenCrack_62 : decode (mB Y_Hd_listenCrack) 62 = .ok (.istore 8, 2) := by decide +kernel
theorem d_Hd_listenCrack_64 : decode (mB Y_Hd_listenCrack) 64 = .ok (.iload 8, 2) := by decide +kernel
theorem d_Hd_listenCrack_66 : decode (mB Y_Hd_listenCrack) 66 = .ok (.iload 7, 2) := by decide +kernel
theorem d_Hd_listenCrack_68 : decode (mB Y_Hd_listenCrack) 68 = .ok (.if_icmp .gt 105, 3) := by decide +kernel
theorem d_Hd_listenCrack_71 : decode (mB Y_Hd_listenCrack) 71 = .ok (.bipush 60, 2) := by decide +kernel
theorem d_Hd_listenCrack_73 : decode (mB Y_Hd_listenCrack) 73 = .ok (.iload 4, 2) := by decide +kernel
theorem d_Hd_listenCrack_75 : decode (mB Y_Hd_listenCrack) 75 = .ok (.iload 6, 2) := by decide +kernel
theorem d_Hd_listenCrack_77 : decode (mB Y_Hd_listenCrack) 77 = .ok (.iload 8, 2) := by decide +kernel
theorem d_Hd_listenCrack_79 : decode (mB Y_Hd_listenCrack) 79 = .ok (.imul, 1) := by decide +kernel
theorem d_Hd_listenCrack_80 : decode (mB Y_Hd_listenCrack) 80 = .ok (.iload 7, 2) := by decide +kernel
theorem d_Hd_listenCrack_82 : decode (mB Y_Hd_listenCrack) 82 = .ok (.invokestatic 83, 3) := by decide +kernel
theorem d_Hd_listenCrack_85 : decode (mB Y_Hd_listenCrack) 85 = .ok (.iadd, 1) := by decide +kernel
theorem d_Hd_listenCrack_86 : decode (mB Y_Hd_listenCrack) 86 = .ok (.imul, 1) := by decide +kernel
theorem d_Hd_listenCrack_87 : decode (mB Y_Hd_listenCrack) 87 = .ok (.iload_n 3, 1) := by decide +kernel
theorem d_Hd_listenCrack_88 : decode (mB Y_Hd_listenCrack) 88 = .ok (.iadd, 1) := by decide +kernel
theorem d_Hd_listenCrack_89 : decode (mB Y_Hd_listenCrack) 89 = .ok (.iload 5, 2) := by decide +kernel
theorem d_Hd_listenCrack_91 : decode (mB Y_Hd_listenCrack) 91 = .ok (.iload 8, 2) := by decide +kernel
theorem d_Hd_listenCrack_93 : decode (mB Y_Hd_listenCrack) 93 = .ok (.imul, 1) := by decide +kernel
theorem d_Hd_listenCrack_94 : decode (mB Y_Hd_listenCrack) 94 = .ok (.iload 7, 2) := by decide +kernel
theorem d_Hd_listenCrack_96 : decode (mB Y_Hd_listenCrack) 96 = .ok (.invokestatic 83, 3) := by decide +kernel
theorem d_Hd_listenCrack_99 : decode (mB Y_Hd_listenCrack) 99 = .ok (.iadd, 1) := by decide +kernel
theorem d_Hd_listenCrack_100 : decode (mB Y_Hd_listenCrack) 100 = .ok (.istore 9, 2) := by decide +kernel
theorem d_Hd_listenCrack_102 : decode (mB Y_Hd_listenCrack) 102 = .ok (.aload_n 1, 1) := by decide +kernel
theorem d_Hd_listenCrack_103 : decode (mB Y_Hd_listenCrack) 103 = .ok (.getfield 86, 3) := by decide +kernel
theorem d_Hd_listenCrack_106 : decode (mB Y_Hd_listenCrack) 106 = .ok (.aload_n 1, 1) := by decide +kernel
theorem d_Hd_listenCrack_107 : decode (mB Y_Hd_listenCrack) 107 = .ok (.getfield 25, 3) := by decide +kernel
theorem d_Hd_listenCrack_110 : decode (mB Y_Hd_listenCrack) 110 = .ok (.iload 9, 2) := by decide +kernel
theorem d_Hd_listenCrack_112 : decode (mB Y_Hd_listenCrack) 112 = .ok (.invokestatic 31, 3) := by decide +kernel
theorem d_Hd_listenCrack_115 : decode (mB Y_Hd_listenCrack) 115 = .ok (.imul, 1) := by decide +kernel
theorem d_Hd_listenCrack_116 : decode (mB Y_Hd_listenCrack) 116 = .ok (.bipush 10, 2) := by decide +kernel
theorem d_Hd_listenCrack_118 : decode (mB Y_Hd_listenCrack) 118 = .ok (.idiv, 1) := by decide +kernel
theorem d_Hd_listenCrack_119 : decode (mB Y_Hd_listenCrack) 119 = .ok (.istore 10, 2) := by decide +kernel
theorem d_Hd_listenCrack_121 : decode (mB Y_Hd_listenCrack) 121 = .ok (.aload_n 1, 1) := by decide +kernel
theorem d_Hd_listenCrack_122 : decode (mB Y_Hd_listenCrack) 122 = .ok (.getfield 38, 3) := by decide +kernel
theorem d_Hd_listenCrack_125 : decode (mB Y_Hd_listenCrack) 125 = .ok (.iload 10, 2) := by decide +kernel
theorem d_Hd_listenCrack_127 : decode (mB Y_Hd_listenCrack) 127 = .ok (.iadd, 1) := by decide +kernel
theorem d_Hd_listenCrack_128 : decode (mB Y_Hd_listenCrack) 128 = .ok (.aload_n 0, 1) := by decide +kernel
theorem d_Hd_listenCrack_129 : decode (mB Y_Hd_listenCrack) 129 = .ok (.getfield 9, 3) := by decide +kernel
theorem d_Hd_listenCrack_132 : decode (mB Y_Hd_listenCrack) 132 = .ok (.iload 9, 2) := by decide +kernel
theorem d_Hd_listenCrack_134 : decode (mB Y_Hd_listenCrack) 134 = .ok (.iload_n 2, 1) := by decide +kernel
theorem d_Hd_listenCrack_135 : decode (mB Y_Hd_listenCrack) 135 = .ok (.invokevirtual 41, 3) := by decide +kernel
theorem d_Hd_listenCrack_138 : decode (mB Y_Hd_listenCrack) 138 = .ok (.iadd, 1) := by decide +kernel
theorem d_Hd_listenCrack_139 : decode (mB Y_Hd_listenCrack) 139 = .ok (.istore 11, 2) := by decide +kernel
theorem d_Hd_listenCrack_141 : decode (mB Y_Hd_listenCrack) 141 = .ok (.iload 8, 2) := by decide +kernel
theorem d_Hd_listenCrack_143 : decode (mB Y_Hd_listenCrack) 143 = .ok (.ifCond .eq 12, 3) := by decide +kernel
theorem d_Hd_listenCrack_146 : decode (mB Y_Hd_listenCrack) 146 = .ok (.iload 11, 2) := by decide +kernel
theorem d_Hd_listenCrack_148 : decode (mB Y_Hd_listenCrack) 148 = .ok (.aload_n 0, 1) := by decide +kernel
theorem d_Hd_listenCrack_149 : decode (mB Y_Hd_listenCrack) 149 = .ok (.getfield 49, 3) := by decide +kernel
theorem d_Hd_listenCrack_152 : decode (mB Y_Hd_listenCrack) 152 = .ok (.if_icmp .ge 15, 3) := by decide +kernel
theorem d_Hd_listenCrack_155 : decode (mB Y_Hd_listenCrack) 155 = .ok (.aload_n 0, 1) := by decide +kernel
theorem d_Hd_listenCrack_156 : decode (mB Y_Hd_listenCrack) 156 = .ok (.iload 11, 2) := by decide +kernel
theorem d_Hd_listenCrack_158 : decode (mB Y_Hd_listenCrack) 158 = .ok (.putfield 49, 3) := by decide +kernel
theorem d_Hd_listenCrack_161 : decode (mB Y_Hd_listenCrack) 161 = .ok (.aload_n 0, 1) := by decide +kernel
theorem d_Hd_listenCrack_162 : decode (mB Y_Hd_listenCrack) 162 = .ok (.iload 9, 2) := by decide +kernel
theorem d_Hd_listenCrack_164 : decode (mB Y_Hd_listenCrack) 164 = .ok (.putfield 52, 3) := by decide +kernel
theorem d_Hd_listenCrack_167 : decode (mB Y_Hd_listenCrack) 167 = .ok (.iinc 8 1, 3) := by decide +kernel
theorem d_Hd_listenCrack_170 : decode (mB Y_Hd_listenCrack) 170 = .ok (.goto (-106), 3) := by decide +kernel
theorem d_Hd_listenCrack_173 : decode (mB Y_Hd_listenCrack) 173 = .ok (.aload_n 0, 1) := by decide +kernel
theorem d_Hd_listenCrack_174 : decode (mB Y_Hd_listenCrack) 174 = .ok (.iconst 2, 1) := by decide +kernel
theorem d_Hd_listenCrack_175 : decode (mB Y_Hd_listenCrack) 175 = .ok (.aload_n 0, 1) := by decide +kernel
theorem d_Hd_listenCrack_176 : decode (mB Y_Hd_listenCrack) 176 = .ok (.getfield 52, 3) := by decide +kernel
theorem d_Hd_listenCrack_179 : decode (mB Y_Hd_listenCrack) 179 = .ok (.iload_n 2, 1) := by decide +kernel
theorem d_Hd_listenCrack_180 : decode (mB Y_Hd_listenCrack) 180 = .ok (.invokestatic 31, 3) := by decide +kernel
theorem d_Hd_listenCrack_183 : decode (mB Y_Hd_listenCrack) 183 = .ok (.invokestatic 89, 3) := by decide +kernel
theorem d_Hd_listenCrack_186 : decode (mB Y_Hd_listenCrack) 186 = .ok (.imul, 1) := by decide +kernel
theorem d_Hd_listenCrack_187 : decode (mB Y_Hd_listenCrack) 187 = .ok (.putfield 55, 3) := by decide +kernel
theorem d_Hd_listenCrack_190 : decode (mB Y_Hd_listenCrack) 190 = .ok (.return_, 1) := by decide +kernel
theorem ro_Hd_listenCrack_B_between : roomy Y_Hd_listenCrack Y_B_between := ⟨Nat.le_of_ble_eq_true rfl, Nat.le_of_ble_eq_true rfl⟩
theorem ro_Hd_listenCrack_B_column : roomy Y_Hd_listenCrack Y_B_column := ⟨Nat.le_of_ble_eq_true rfl, Nat.le_of_ble_eq_true rfl⟩
theorem ro_Hd_listenCrack_B_loudness : roomy Y_Hd_listenCrack Y_B_loudness := ⟨Nat.le_of_ble_eq_true rfl, Nat.le_of_ble_eq_true rfl⟩
theorem ro_Hd_listenCrack_B_row : roomy Y_Hd_listenCrack Y_B_row := ⟨Nat.le_of_ble_eq_true rfl, Nat.le_of_ble_eq_true rfl⟩
theorem ro_Hd_listenCrack_Ma_abs : roomy Y_Hd_listenCrack Y_Ma_abs := ⟨Nat.le_of_ble_eq_true rfl, Nat.le_of_ble_eq_true rfl⟩
theorem ro_Hd_listenCrack_Ma_floorDiv : roomy Y_Hd_listenCrack Y_Ma_floorDiv := ⟨Nat.le_of_ble_eq_true rfl, Nat.le_of_ble_eq_true rfl⟩
theorem ro_Hd_listenCrack_Ma_max : roomy Y_Hd_listenCrack Y_Ma_max := ⟨Nat.le_of_ble_eq_true rfl, Nat.le_of_ble_eq_true rfl⟩
theorem ro_Hd_listenCrack_Sq_travel : roomy Y_Hd_listenCrack Y_Sq_travel := ⟨Nat.le_of_ble_eq_true rfl, Nat.le_of_ble_eq_true rfl⟩
def r_Hd_listenCrack_L64 (a1_ : Nat) (y2_ : Int32) (y3_ : Int32) (y4_ : Int32) (y5_ : Int32) (y6_ : Int32) (y7_ : Int32) : Nat → Int32 → Sto → Option (Int32 × Sto)
  | 0, _, _ => none
  | n + 1, x8_, S =>
    if y7_ < x8_ then
      some (x8_, S)
    else
      (r_Ma_floorDiv (y6_ * x8_) y7_).bind (fun r1 =>
      (r_Ma_floorDiv (y5_ * x8_) y7_).bind (fun r2 =>
      lt (((60 * (y4_ + r1)) + y3_) + r2) (fun v3 =>
      (r_B_between (S a1_ 0) v3).bind (fun r4 =>
      lt (((S a1_ 3) * r4) / 10) (fun v5 =>
      (r_Sq_travel v3 y2_ S).bind (fun r6 =>
      lt (((S a1_ 1) + v5) + r6) (fun v7 =>
      jn (fun (S8 : Sto) =>
        lt (x8_ + 1) (fun v9 =>
        r_Hd_listenCrack_L64 a1_ y2_ y3_ y4_ y5_ y6_ y7_ n v9 S8)) (fun j167 =>
      jn (fun (_ : Unit) =>
        ltS (sw S 13 3 v7) (fun S10 =>
        ltS (sw S10 13 4 v3) (fun S11 =>
        j167 (S11)))) (fun j155 =>
      if x8_ = 0 then
        j155 ()
      else
        if (S 13 3) ≤ v7 then
          j167 (S)
        else
          j155 ())))))))))
set_option maxHeartbeats 4000000 in
set_option maxRecDepth 20000 in
theorem w_Hd_listenCrack_L64 {g : Gm} {G : Gl} {L : Shp} (C : Cx g Y_Hd_listenCrack G) (hL : Ext L) (a1_ : Nat) (y2_ : Int32) (y3_ : Int32) (y4_ : Int32) (y5_ : Int32) (y6_ : Int32) (y7_ : Int32) (h1_ : isShot L a1_) :
    ∀ (n : Nat) (x8_ : Int32) (S : Sto) (K : (Int32 × Sto) → Option Sto), (∀ (x8_ : Int32) (S : Sto), VO g Y_Hd_listenCrack G (fun z => Qm g Y_Hd_listenCrack G (fv L z)) 0 0 173 [(0, rf G 13), (2, .int y2_)] [] L S (some (x8_, S)) K) → VO g Y_Hd_listenCrack G (fun z => Qm g Y_Hd_listenCrack G (fv L z)) 0 0 64 [(0, rf G 13), (1, rf G a1_), (2, .int y2_), (3, .int y3_), (4, .int y4_), (5, .int y5_), (6, .int y6_), (7, .int y7_), (8, .int x8_)] [] L S (r_Hd_listenCrack_L64 a1_ y2_ y3_ y4_ y5_ y6_ y7_ n x8_ S) K := by
  intro n
  induction n with
  | zero => intro x8_ S K; intros; exact v_none
  | succ n ih =>
    intro x8_ S K hK
    rw [r_Hd_listenCrack_L64]
    refine v_iload (pc := 64) C d_Hd_listenCrack_64 8 rfl ?_
    refine v_iload (pc := 66) C d_Hd_listenCrack_66 7 rfl ?_
    refine v_icmp_gt (pc := 68) (tgt := 173) C d_Hd_listenCrack_68 rfl (fun _ => ?_) (fun _ => ?_)
    · refine v_sub [0, 2] rfl ?_
      exact hK x8_ S
    · refine v_bipush (pc := 71) C d_Hd_listenCrack_71 bp_60 ?_
      refine v_iload (pc := 73) C d_Hd_listenCrack_73 4 rfl ?_
      refine v_iload (pc := 75) C d_Hd_listenCrack_75 6 rfl ?_
      refine v_iload (pc := 77) C d_Hd_listenCrack_77 8 rfl ?_
      refine v_imul (pc := 79) C d_Hd_listenCrack_79 ?_
      refine v_iload (pc := 80) C d_Hd_listenCrack_80 7 rfl ?_
      refine v_cp (pc := 82) (inv_S (As := [.int (y6_ * x8_), .int y7_]) (st := [.int y4_, .int 60]) C ml_Hd_83 ms_Ma_floorDiv ro_Hd_listenCrack_Ma_floorDiv rfl rfl (Nat.le_of_ble_eq_true rfl) d_Hd_listenCrack_82) (c_Ma_floorDiv hL S (y6_ * x8_) y7_) ⟨rfl, rfl⟩ ⟨Nat.zero_le _, Nat.zero_le _⟩ (fun r1 => ?_)
      refine v_iadd (pc := 85) C d_Hd_listenCrack_85 ?_
      refine v_imul (pc := 86) C d_Hd_listenCrack_86 ?_
      refine v_iload_n (pc := 87) C d_Hd_listenCrack_87 rfl 3 rfl ?_
      refine v_iadd (pc := 88) C d_Hd_listenCrack_88 ?_
      refine v_iload (pc := 89) C d_Hd_listenCrack_89 5 rfl ?_
      refine v_iload (pc := 91) C d_Hd_listenCrack_91 8 rfl ?_
      refine v_imul (pc := 93) C d_Hd_listenCrack_93 ?_
      refine v_iload (pc := 94) C d_Hd_listenCrack_94 7 rfl ?_
      refine v_cp (pc := 96) (inv_S (As := [.int (y5_ * x8_), .int y7_]) (st := [.int ((60 * (y4_ + r1)) + y3_)]) C ml_Hd_83 ms_Ma_floorDiv ro_Hd_listenCrack_Ma_floorDiv rfl rfl (Nat.le_of_ble_eq_true rfl) d_Hd_listenCrack_96) (c_Ma_floorDiv hL S (y5_ * x8_) y7_) ⟨rfl, rfl⟩ ⟨Nat.zero_le _, Nat.zero_le _⟩ (fun r2 => ?_)
      refine v_iadd (pc := 99) C d_Hd_listenCrack_99 ?_
      refine v_lt (fun v3 => ?_)
      refine v_istore (pc := 100) (lv' := [(9, .int v3), (0, rf G 13), (1, rf G a1_), (2, .int y2_), (3, .int y3_), (4, .int y4_), (5, .int y5_), (6, .int y6_), (7, .int y7_), (8, .int x8_)]) C d_Hd_listenCrack_100 (by decide) rfl ?_
      refine v_aload_n (pc := 102) C d_Hd_listenCrack_102 rfl 2 rfl ?_
      refine v_getI (pc := 103) C fl_Hd_86 h1_ rfl d_Hd_listenCrack_103 ?_
      refine v_aload_n (pc := 106) C d_Hd_listenCrack_106 rfl 2 rfl ?_
      refine v_getI (pc := 107) C fl_Hd_25 h1_ rfl d_Hd_listenCrack_107 ?_
      refine v_iload (pc := 110) C d_Hd_listenCrack_110 0 rfl ?_
      refine v_cp (pc := 112) (inv_SN (As := [.int (S a1_ 0), .int v3]) (st := [.int (S a1_ 3)]) C mn_Hd_31 ms_B_between ro_Hd_listenCrack_B_between rfl rfl (Nat.le_of_ble_eq_true rfl) d_Hd_listenCrack_112) (c_B_between hL S (S a1_ 0) v3) ⟨rfl, rfl⟩ ⟨Nat.zero_le _, Nat.zero_le _⟩ (fun r4 => ?_)
      refine v_imul (pc := 115) C d_Hd_listenCrack_115 ?_
      refine v_bipush (pc := 116) C d_Hd_listenCrack_116 bp_10 ?_
      refine v_idiv (pc := 118) C d_Hd_listenCrack_118 (by decide) ?_
      refine v_lt (fun v5 => ?_)
      refine v_istore (pc := 119) (lv' := [(10, .int v5), (9, .int v3), (0, rf G 13), (1, rf G a1_), (2, .int y2_), (3, .int y3_), (4, .int y4_), (5, .int y5_), (6, .int y6_), (7, .int y7_), (8, .int x8_)]) C d_Hd_listenCrack_119 (by decide) rfl ?_
      refine v_aload_n (pc := 121) C d_Hd_listenCrack_121 rfl 3 rfl ?_
      refine v_getI (pc := 122) C fl_Hd_38 h1_ rfl d_Hd_listenCrack_122 ?_
      refine v_iload (pc := 125) C d_Hd_listenCrack_125 0 rfl ?_
      refine v_iadd (pc := 127) C d_Hd_listenCrack_127 ?_
      refine v_aload_n (pc := 128) C d_Hd_listenCrack_128 rfl 2 rfl ?_
      refine v_getR (pc := 129) C fl_Hd_9 (sh_13 hL) rfl d_Hd_listenCrack_129 ?_
      refine v_iload (pc := 132) C d_Hd_listenCrack_132 1 rfl ?_
      refine v_iload_n (pc := 134) C d_Hd_listenCrack_134 rfl 4 rfl ?_
      refine v_cp (pc := 135) (inv_V (As := [.int v3, .int y2_]) (st := [.int ((S a1_ 1) + v5)]) C ml_Hd_41 mv_Sq_travel ro_Hd_listenCrack_Sq_travel (sh_1 hL) rfl rfl rfl rfl (Nat.le_of_ble_eq_true rfl) d_Hd_listenCrack_135) (c_Sq_travel hL S v3 y2_) ⟨rfl, rfl⟩ ⟨Nat.zero_le _, Nat.zero_le _⟩ (fun r6 => ?_)
      refine v_iadd (pc := 138) C d_Hd_listenCrack_138 ?_
      refine v_lt (fun v7 => ?_)
      refine v_istore (pc := 139) (lv' := [(11, .int v7), (10, .int v5), (9, .int v3), (0, rf G 13), (1, rf G a1_), (2, .int y2_), (3, .int y3_), (4, .int y4_), (5, .int y5_), (6, .int y6_), (7, .int y7_), (8, .int x8_)]) C d_Hd_listenCrack_139 (by decide) rfl ?_
      refine v_iload (pc := 141) C d_Hd_listenCrack_141 11 rfl ?_
      refine v_jn (fun j => ∀ (S8 : Sto), VO g Y_Hd_listenCrack G (fun z => Qm g Y_Hd_listenCrack G (fv L z)) 0 0 167 [(0, rf G 13), (1, rf G a1_), (2, .int y2_), (3, .int y3_), (4, .int y4_), (5, .int y5_), (6, .int y6_), (7, .int y7_), (8, .int x8_)] [] L S8 (j (S8)) K) (fun S8 => ?_) (fun j167 hj167 => ?_)
      · refine v_iinc (pc := 167) (p := 8) (c := 1) C d_Hd_listenCrack_167 rfl (by decide) (by decide) (fun v9 => [(8, .int v9), (0, rf G 13), (1, rf G a1_), (2, .int y2_), (3, .int y3_), (4, .int y4_), (5, .int y5_), (6, .int y6_), (7, .int y7_)]) (fun _ => rfl) (fun v9 => ?_)
        refine v_goto (pc := 170) (tgt := 64) C d_Hd_listenCrack_170 rfl ?_
        refine v_sub [1, 2, 3, 4, 5, 6, 7, 8, 0] rfl ?_
        exact ih v9 S8 K hK
      · refine v_jn (fun j => VO g Y_Hd_listenCrack G (fun z => Qm g Y_Hd_listenCrack G (fv L z)) 0 0 155 [(0, rf G 13), (1, rf G a1_), (2, .int y2_), (3, .int y3_), (4, .int y4_), (5, .int y5_), (6, .int y6_), (7, .int y7_), (8, .int x8_), (9, .int v3), (11, .int v7)] [] L S (j ()) K) (?_) (fun j155 hj155 => ?_)
        · refine v_aload_n (pc := 155) C d_Hd_listenCrack_155 rfl 0 rfl ?_
          refine v_iload (pc := 156) C d_Hd_listenCrack_156 10 rfl ?_
          refine v_putI (pc := 158) C fp_Hd_49 (sh_13 hL) rfl d_Hd_listenCrack_158 (fun S10 => ?_)
          refine v_aload_n (pc := 161) C d_Hd_listenCrack_161 rfl 0 rfl ?_
          refine v_iload (pc := 162) C d_Hd_listenCrack_162 9 rfl ?_
          refine v_putI (pc := 164) C fp_Hd_52 (sh_13 hL) rfl d_Hd_listenCrack_164 (fun S11 => ?_)
          refine v_sub [0, 1, 2, 3, 4, 5, 6, 7, 8] rfl ?_
          exact hj167 S11
        · refine v_if_eq (pc := 143) (tgt := 155) C d_Hd_listenCrack_143 rfl (fun _ => ?_) (fun _ => ?_)
          · refine v_sub [3, 4, 5, 6, 7, 8, 9, 10, 11, 2, 0] rfl ?_
            exact hj155
          · refine v_iload (pc := 146) C d_Hd_listenCrack_146 0 rfl ?_
            refine v_aload_n (pc := 148) C d_Hd_listenCrack_148 rfl 3 rfl ?_
            refine v_getI (pc := 149) C fl_Hd_49 (sh_13 hL) rfl d_Hd_listenCrack_149 ?_
            refine v_icmp_ge (pc := 152) (tgt := 167) C d_Hd_listenCrack_152 rfl (fun _ => ?_) (fun _ => ?_)
            · refine v_sub [3, 4, 5, 6, 7, 8, 9, 10, 11] rfl ?_
              exact hj167 S
            · refine v_sub [3, 4, 5, 6, 7, 8, 9, 10, 11, 2, 0] rfl ?_
              exact hj155
def r_Hd_listenCrack (a1 : Nat) (x2 : Int32) (S : Sto) : Option Sto :=
  lt (r_B_column (S a1 0)) (fun v1 =>
  lt (r_B_row (S a1 0)) (fun v2 =>
  lt ((r_B_column (S a1 2)) - v1) (fun v3 =>
  lt ((r_B_row (S a1 2)) - v2) (fun v4 =>
  lt (r_Ma_max (r_Ma_abs v3) (r_Ma_abs v4)) (fun v5 =>
  if v5 = 0 then
    some S
  else
    (r_Hd_listenCrack_L64 a1 x2 v1 v2 v3 v4 v5 fu 0 S).bind (fun (v6, S7) =>
    (r_B_between (S7 13 4) x2).bind (fun r8 =>
    (r_B_loudness r8).bind (fun r9 =>
    ltS (sw S7 13 5 (2 * r9)) (fun S10 =>
    some S10)))))))))
set_option maxHeartbeats 4000000 in
set_option maxRecDepth 20000 in
theorem c_Hd_listenCrack {G : Gl} {L : Shp} (hL : Ext L) (S : Sto) (a1 : Nat) (x2 : Int32) (h1 : isShot L a1) : Ct Y_Hd_listenCrack G [rf G 13, rf G a1, .int x2] L S (fv L) (r_Hd_listenCrack a1 x2 S) := by
  refine ct_of (by decide +kernel) (Nat.le_of_ble_eq_true rfl) (fun g C => ?_)
  show VO g Y_Hd_listenCrack G (fun z => Qm g Y_Hd_listenCrack G (fv L z)) 0 0 0 [(0, rf G 13), (1, rf G a1), (2, .int x2)] [] L S (r_Hd_listenCrack a1 x2 S) some
  unfold r_Hd_listenCrack
  refine v_aload_n (pc := 0) C d_Hd_listenCrack_0 rfl 1 rfl ?_
  refine v_getI (pc := 1) C fl_Hd_25 h1 rfl d_Hd_listenCrack_1 ?_
  refine v_ct (pc := 4) (inv_SN (As := [.int (S a1 0)]) (st := []) C mn_Hd_68 ms_B_column ro_Hd_listenCrack_B_column rfl rfl (Nat.le_of_ble_eq_true rfl) d_Hd_listenCrack_4) (c_B_column hL S (S a1 0)) ⟨rfl, rfl⟩ ⟨Nat.zero_le _, Nat.zero_le _⟩ ?_
  refine v_lt (fun v1 => ?_)
  refine v_istore_n (pc := 7) (lv' := [(3, .int v1), (0, rf G 13), (1, rf G a1), (2, .int x2)]) C d_Hd_listenCrack_7 rfl (by decide) rfl ?_
  refine v_aload_n (pc := 8) C d_Hd_listenCrack_8 rfl 2 rfl ?_
  refine v_getI (pc := 9) C fl_Hd_25 h1 rfl d_Hd_listenCrack_9 ?_
  refine v_ct (pc := 12) (inv_SN (As := [.int (S a1 0)]) (st := []) C mn_Hd_72 ms_B_row ro_Hd_listenCrack_B_row rfl rfl (Nat.le_of_ble_eq_true rfl) d_Hd_listenCrack_12) (c_B_row hL S (S a1 0)) ⟨rfl, rfl⟩ ⟨Nat.zero_le _, Nat.zero_le _⟩ ?_
  refine v_lt (fun v2 => ?_)
  refine v_istore (pc := 15) (lv' := [(4, .int v2), (3, .int v1), (0, rf G 13), (1, rf G a1), (2, .int x2)]) C d_Hd_listenCrack_15 (by decide) rfl ?_
  refine v_aload_n (pc := 17) C d_Hd_listenCrack_17 rfl 3 rfl ?_
  refine v_getI (pc := 18) C fl_Hd_58 h1 rfl d_Hd_listenCrack_18 ?_
  refine v_ct (pc := 21) (inv_SN (As := [.int (S a1 2)]) (st := []) C mn_Hd_68 ms_B_column ro_Hd_listenCrack_B_column rfl rfl (Nat.le_of_ble_eq_true rfl) d_Hd_listenCrack_21) (c_B_column hL S (S a1 2)) ⟨rfl, rfl⟩ ⟨Nat.zero_le _, Nat.zero_le _⟩ ?_
  refine v_iload_n (pc := 24) C d_Hd_listenCrack_24 rfl 1 rfl ?_
  refine v_isub (pc := 25) C d_Hd_listenCrack_25 ?_
  refine v_lt (fun v3 => ?_)
  refine v_istore (pc := 26) (lv' := [(5, .int v3), (4, .int v2), (3, .int v1), (0, rf G 13), (1, rf G a1), (2, .int x2)]) C d_Hd_listenCrack_26 (by decide) rfl ?_
  refine v_aload_n (pc := 28) C d_Hd_listenCrack_28 rfl 4 rfl ?_
  refine v_getI (pc := 29) C fl_Hd_58 h1 rfl d_Hd_listenCrack_29 ?_
  refine v_ct (pc := 32) (inv_SN (As := [.int (S a1 2)]) (st := []) C mn_Hd_72 ms_B_row ro_Hd_listenCrack_B_row rfl rfl (Nat.le_of_ble_eq_true rfl) d_Hd_listenCrack_32) (c_B_row hL S (S a1 2)) ⟨rfl, rfl⟩ ⟨Nat.zero_le _, Nat.zero_le _⟩ ?_
  refine v_iload (pc := 35) C d_Hd_listenCrack_35 1 rfl ?_
  refine v_isub (pc := 37) C d_Hd_listenCrack_37 ?_
  refine v_lt (fun v4 => ?_)
  refine v_istore (pc := 38) (lv' := [(6, .int v4), (5, .int v3), (4, .int v2), (3, .int v1), (0, rf G 13), (1, rf G a1), (2, .int x2)]) C d_Hd_listenCrack_38 (by decide) rfl ?_
  refine v_iload (pc := 40) C d_Hd_listenCrack_40 1 rfl ?_
  refine v_ct (pc := 42) (inv_S (As := [.int v3]) (st := []) C ml_Hd_75 ms_Ma_abs ro_Hd_listenCrack_Ma_abs rfl rfl (Nat.le_of_ble_eq_true rfl) d_Hd_listenCrack_42) (c_Ma_abs hL S v3) ⟨rfl, rfl⟩ ⟨Nat.zero_le _, Nat.zero_le _⟩ ?_
  refine v_iload (pc := 45) C d_Hd_listenCrack_45 0 rfl ?_
  refine v_ct (pc := 47) (inv_S (As := [.int v4]) (st := [.int (r_Ma_abs v3)]) C ml_Hd_75 ms_Ma_abs ro_Hd_listenCrack_Ma_abs rfl rfl (Nat.le_of_ble_eq_true rfl) d_Hd_listenCrack_47) (c_Ma_abs hL S v4) ⟨rfl, rfl⟩ ⟨Nat.zero_le _, Nat.zero_le _⟩ ?_
  refine v_ct (pc := 50) (inv_S (As := [.int (r_Ma_abs v3), .int (r_Ma_abs v4)]) (st := []) C ml_Hd_80 ms_Ma_max ro_Hd_listenCrack_Ma_max rfl rfl (Nat.le_of_ble_eq_true rfl) d_Hd_listenCrack_50) (c_Ma_max hL S (r_Ma_abs v3) (r_Ma_abs v4)) ⟨rfl, rfl⟩ ⟨Nat.zero_le _, Nat.zero_le _⟩ ?_
  refine v_lt (fun v5 => ?_)
  refine v_istore (pc := 53) (lv' := [(7, .int v5), (6, .int v4), (5, .int v3), (4, .int v2), (3, .int v1), (0, rf G 13), (1, rf G a1), (2, .int x2)]) C d_Hd_listenCrack_53 (by decide) rfl ?_
  refine v_iload (pc := 55) C d_Hd_listenCrack_55 0 rfl ?_
  refine v_if_ne (pc := 57) (tgt := 61) C d_Hd_listenCrack_57 rfl (fun _ => ?_) (fun _ => ?_)
  · refine v_iconst (pc := 61) C d_Hd_listenCrack_61 ic_0 ?_
    refine v_istore (pc := 62) (lv' := [(8, .int 0), (7, .int v5), (6, .int v4), (5, .int v3), (4, .int v2), (3, .int v1), (0, rf G 13), (1, rf G a1), (2, .int x2)]) C d_Hd_listenCrack_62 (by decide) rfl ?_
    refine v_sub [6, 7, 8, 5, 4, 3, 2, 1, 0] rfl ?_
    refine v_bind ?_
    refine w_Hd_listenCrack_L64 C hL a1 x2 v1 v2 v3 v4 v5 h1 fu 0 S _ (fun v6 S7 => ?_) 
    refine v_some ?_
    refine v_aload_n (pc := 173) C d_Hd_listenCrack_173 rfl 0 rfl ?_
    refine v_iconst (pc := 174) C d_Hd_listenCrack_174 ic_2 ?_
    refine v_aload_n (pc := 175) C d_Hd_listenCrack_175 rfl 0 rfl ?_
    refine v_getI (pc := 176) C fl_Hd_52 (sh_13 hL) rfl d_Hd_listenCrack_176 ?_
    refine v_iload_n (pc := 179) C d_Hd_listenCrack_179 rfl 1 rfl ?_
    refine v_cp (pc := 180) (inv_SN (As := [.int (S7 13 4), .int x2]) (st := [.int 2, rf G 13]) C mn_Hd_31 ms_B_between ro_Hd_listenCrack_B_between rfl rfl (Nat.le_of_ble_eq_true rfl) d_Hd_listenCrack_180) (c_B_between hL S7 (S7 13 4) x2) ⟨rfl, rfl⟩ ⟨Nat.zero_le _, Nat.zero_le _⟩ (fun r8 => ?_)
    refine v_cp (pc := 183) (inv_SN (As := [.int r8]) (st := [.int 2, rf G 13]) C mn_Hd_89 ms_B_loudness ro_Hd_listenCrack_B_loudness rfl rfl (Nat.le_of_ble_eq_true rfl) d_Hd_listenCrack_183) (c_B_loudness hL S7 r8) ⟨rfl, rfl⟩ ⟨Nat.zero_le _, Nat.zero_le _⟩ (fun r9 => ?_)
    refine v_imul (pc := 186) C d_Hd_listenCrack_186 ?_
    refine v_putI (pc := 187) C fp_Hd_55 (sh_13 hL) rfl d_Hd_listenCrack_187 (fun S10 => ?_)
    exact v_vret C d_Hd_listenCrack_190 rfl ⟨Nat.zero_le _, Nat.zero_le _⟩ rfl rfl
  · exact v_vret C d_Hd_listenCrack_60 rfl ⟨Nat.zero_le _, Nat.zero_le _⟩ rfl rfl
-- Wl_side
theorem d_Wl_side_0 : decode (mB Y_Wl_side) 0 = .ok (.aload_n 0, 1) := by decide +kernel
theorem d_Wl_side_1 : decode (mB Y_Wl_side) 1 = .ok (.getfield 9, 3) := by decide +kernel
theorem d_Wl_side_4 : decode (mB Y_Wl_side) 4 = .ok (.ifCond .eq 10, 3) := by decide +kernel
theorem d_Wl_side_7 : decode (mB Y_Wl_side) 7 = .ok (.iload_n 1, 1) := by decide +kernel
theorem d_Wl_side_8 : decode (mB Y_Wl_side) 8 = .ok (.invokestatic 28, 3) := by decide +kernel
theorem d_Wl_side_11 : decode (mB Y_Wl_side) 11 = .ok (.goto 7, 3) := by decide +kernel
theorem d_Wl_side_14 : decode (mB Y_Wl_side) 14 = .ok (.iload_n 1, 1) := by decide +kernel
theorem d_Wl_side_15 : decode (mB Y_Wl_side) 15 = .ok (.invokestatic 32, 3) := by decide +kernel
theorem d_Wl_side_18 : decode (mB Y_Wl_side) 18 = .ok (.aload_n 0, 1) := by decide +kernel
theorem d_Wl_side_19 : decode (mB Y_Wl_side) 19 = .ok (.getfield 15, 3) := by decide +kernel
theorem d_Wl_side_22 : decode (mB Y_Wl_side) 22 = .ok (.isub, 1) := by decide +kernel
theorem d_Wl_side_23 : decode (mB Y_Wl_side) 23 = .ok (.ireturn, 1) := by decide +kernel
theorem ro_Wl_side_B_column : roomy Y_Wl_side Y_B_column := ⟨Nat.le_of_ble_eq_true rfl, Nat.le_of_ble_eq_true rfl⟩
theorem ro_Wl_side_B_row : roomy Y_Wl_side Y_B_row := ⟨Nat.le_of_ble_eq_true rfl, Nat.le_of_ble_eq_true rfl⟩
def r_Wl_side (a0 : Nat) (x1 : Int32) (S : Sto) : Option Int32 :=
  jn (fun (v1 : Int32) =>
    some (v1 - (S a0 1))) (fun j18 =>
  if (S a0 0) = 0 then
    j18 ((r_B_row x1))
  else
    j18 ((r_B_column x1)))
set_option maxHeartbeats 4000000 in
set_option maxRecDepth 20000 in
theorem c_Wl_side {G : Gl} {L : Shp} (hL : Ext L) (S : Sto) (a0 : Nat) (x1 : Int32) (h0 : isWall L a0) : Ct Y_Wl_side G [rf G a0, .int x1] L S (fp L S) (r_Wl_side a0 x1 S) := by
  refine ct_of (by decide +kernel) (Nat.le_of_ble_eq_true rfl) (fun g C => ?_)
  show VO g Y_Wl_side G (fun z => Qm g Y_Wl_side G (fp L S z)) 0 0 0 [(0, rf G a0), (1, .int x1)] [] L S (r_Wl_side a0 x1 S) some
  unfold r_Wl_side
  refine v_aload_n (pc := 0) C d_Wl_side_0 rfl 0 rfl ?_
  refine v_getI (pc := 1) C fl_Wl_9 h0 rfl d_Wl_side_1 ?_
  refine v_jn (fun j => ∀ (v1 : Int32), VO g Y_Wl_side G (fun z => Qm g Y_Wl_side G (fp L S z)) 0 0 18 [(0, rf G a0)] [.int v1] L S (j (v1)) some) (fun v1 => ?_) (fun j18 hj18 => ?_)
  · refine v_aload_n (pc := 18) C d_Wl_side_18 rfl 0 rfl ?_
    refine v_getI (pc := 19) C fl_Wl_15 h0 rfl d_Wl_side_19 ?_
    refine v_isub (pc := 22) C d_Wl_side_22 ?_
    exact v_iret (z := (v1 - (S a0 1))) C d_Wl_side_23 rfl ⟨Nat.zero_le _, Nat.zero_le _⟩ (rfl) rfl
  · refine v_if_eq (pc := 4) (tgt := 14) C d_Wl_side_4 rfl (fun _ => ?_) (fun _ => ?_)
    · refine v_iload_n (pc := 14) C d_Wl_side_14 rfl 1 rfl ?_
      refine v_ct (pc := 15) (inv_SN (As := [.int x1]) (st := []) C mn_Wl_32 ms_B_row ro_Wl_side_B_row rfl rfl (Nat.le_of_ble_eq_true rfl) d_Wl_side_15) (c_B_row hL S x1) ⟨rfl, rfl⟩ ⟨Nat.zero_le _, Nat.zero_le _⟩ ?_
      refine v_sub [0] rfl ?_
      exact hj18 (r_B_row x1)
    · refine v_iload_n (pc := 7) C d_Wl_side_7 rfl 1 rfl ?_
      refine v_ct (pc := 8) (inv_SN (As := [.int x1]) (st := []) C mn_Wl_28 ms_B_column ro_Wl_side_B_column rfl rfl (Nat.le_of_ble_eq_true rfl) d_Wl_side_8) (c_B_column hL S x1) ⟨rfl, rfl⟩ ⟨Nat.zero_le _, Nat.zero_le _⟩ ?_
      refine v_goto (pc := 11) (tgt := 18) C d_Wl_side_11 rfl ?_
      refine v_sub [0] rfl ?_
      exact hj18 (r_B_column x1)
-- Wl_along
theorem d_Wl_along_0 : decode (mB Y_Wl_along) 0 = .ok (.aload_n 0, 1) := by decide +kernel
theorem d_Wl_along_1 : decode (mB Y_Wl_along) 1 = .ok (.getfield 9, 3) := by decide +kernel
theorem d_Wl_along_4 : decode (mB Y_Wl_along) 4 = .ok (.ifCond .eq 10, 3) := by decide +kernel
theorem d_Wl_along_7 : decode (mB Y_Wl_along) 7 = .ok (.iload_n 1, 1) := by decide +kernel
theorem d_Wl_along_8 : decode (mB Y_Wl_along) 8 = .ok (.invokestatic 32, 3) := by decide +kernel
theorem d_Wl_along_11 : decode (mB Y_Wl_along) 11 = .ok (.goto 7, 3) := by decide +kernel
theorem d_Wl_along_14 : decode (mB Y_Wl_along) 14 = .ok (.iload_n 1, 1) := by decide +kernel
theorem d_Wl_along_15 : decode (mB Y_Wl_along) 15 = .ok (.invokestatic 28, 3) := by decide +kernel
theorem d_Wl_along_18 : decode (mB Y_Wl_along) 18 = .ok (.ireturn, 1) := by decide +kernel
theorem ro_Wl_along_B_column : roomy Y_Wl_along Y_B_column := ⟨Nat.le_of_ble_eq_true rfl, Nat.le_of_ble_eq_true rfl⟩
theorem ro_Wl_along_B_row : roomy Y_Wl_along Y_B_row := ⟨Nat.le_of_ble_eq_true rfl, Nat.le_of_ble_eq_true rfl⟩
def r_Wl_along (a0 : Nat) (x1 : Int32) (S : Sto) : Int32 := (if (S a0 0) = 0 then (r_B_column x1) else (r_B_row x1))
set_option maxHeartbeats 4000000 in
set_option maxRecDepth 20000 in
theorem c_Wl_along {G : Gl} {L : Shp} (hL : Ext L) (S : Sto) (a0 : Nat) (x1 : Int32) (h0 : isWall L a0) : Ct Y_Wl_along G [rf G a0, .int x1] L S (fp L S) (some (r_Wl_along a0 x1 S)) := by
  refine ct_of (by decide +kernel) (Nat.le_of_ble_eq_true rfl) (fun g C => ?_)
  have e : (some (r_Wl_along a0 x1 S) : Option Int32) =
      if (S a0 0) = 0 then
        some (r_B_column x1)
      else
        some (r_B_row x1) := by
    unfold r_Wl_along
    simp only [some_ite, lt, ltJ]
  rw [e]
  show VO g Y_Wl_along G (fun z => Qm g Y_Wl_along G (fp L S z)) 0 0 0 [(0, rf G a0), (1, .int x1)] [] L S _ some
  refine v_aload_n (pc := 0) C d_Wl_along_0 rfl 0 rfl ?_
  refine v_getI (pc := 1) C fl_Wl_9 h0 rfl d_Wl_along_1 ?_
  refine v_if_eq (pc := 4) (tgt := 14) C d_Wl_along_4 rfl (fun _ => ?_) (fun _ => ?_)
  · refine v_iload_n (pc := 14) C d_Wl_along_14 rfl 1 rfl ?_
    refine v_ct (pc := 15) (inv_SN (As := [.int x1]) (st := []) C mn_Wl_28 ms_B_column ro_Wl_along_B_column rfl rfl (Nat.le_of_ble_eq_true rfl) d_Wl_along_15) (c_B_column hL S x1) ⟨rfl, rfl⟩ ⟨Nat.zero_le _, Nat.zero_le _⟩ ?_
    exact v_iret (z := (r_B_column x1)) C d_Wl_along_18 rfl ⟨Nat.zero_le _, Nat.zero_le _⟩ (rfl) rfl
  · refine v_iload_n (pc := 7) C d_Wl_along_7 rfl 1 rfl ?_
    refine v_ct (pc := 8) (inv_SN (As := [.int x1]) (st := []) C mn_Wl_32 ms_B_row ro_Wl_along_B_row rfl rfl (Nat.le_of_ble_eq_true rfl) d_Wl_along_8) (c_B_row hL S x1) ⟨rfl, rfl⟩ ⟨Nat.zero_le _, Nat.zero_le _⟩ ?_
    refine v_goto (pc := 11) (tgt := 18) C d_Wl_along_11 rfl ?_
    exact v_iret (z := (r_B_row x1)) C d_Wl_along_18 rfl ⟨Nat.zero_le _, Nat.zero_le _⟩ (rfl) rfl
-- Wl_crossing
theorem d_Wl_crossing_0 : decode (mB Y_Wl_crossing) 0 = .ok (.aload_n 0, 1) := by decide +kernel
theorem d_Wl_crossing_1 : decode (mB Y_Wl_crossing) 1 = .ok (.iload_n 1, 1) := by decide +kernel
theorem d_Wl_crossing_2 : decode (mB Y_Wl_crossing) 2 = .ok (.invokevirtual 35, 3) := by decide +kernel
theorem d_Wl_crossing_5 : decode (mB Y_Wl_crossing) 5 = .ok (.istore_n 3, 1) := by decide +kernel
theorem d_Wl_crossing_6 : decode (mB Y_Wl_crossing) 6 = .ok (.aload_n 0, 1) := by decide +kernel
theorem d_Wl_crossing_7 : decode (mB Y_Wl_crossing) 7 = .ok (.iload_n 2, 1) := by decide +kernel
theorem d_Wl_crossing_8 : decode (mB Y_Wl_crossing) 8 = .ok (.invokevirtual 35, 3) := by decide +kernel
theorem d_Wl_crossing_11 : decode (mB Y_Wl_crossing) 11 = .ok (.istore 4, 2) := by decide +kernel
theorem d_Wl_crossing_13 : decode (mB Y_Wl_crossing) 13 = .ok (.iload_n 3, 1) := by decide +kernel
theorem d_Wl_crossing_14 : decode (mB Y_Wl_crossing) 14 = .ok (.ifCond .eq 30, 3) := by decide +kernel
theorem d_Wl_crossing_17 : decode (mB Y_Wl_crossing) 17 = .ok (.iload 4, 2) := by decide +kernel
theorem d_Wl_crossing_19 : decode (mB Y_Wl_crossing) 19 = .ok (.ifCond .eq 25, 3) := by decide +kernel
theorem d_Wl_crossing_22 : decode (mB Y_Wl_crossing) 22 = .ok (.iload_n 3, 1) := by decide +kernel
theorem d_Wl_crossing_23 : decode (mB Y_Wl_crossing) 23 = .ok (.ifCond .ge 7, 3) := by decide +kernel
theorem d_Wl_crossing_26 : decode (mB Y_Wl_crossing) 26 = .ok (.iconst 1, 1) := by decide +kernel
theorem d_Wl_crossing_27 : decode (mB Y_Wl_crossing) 27 = .ok (.goto 4, 3) := by decide +kernel
theorem d_Wl_crossing_30 : decode (mB Y_Wl_crossing) 30 = .ok (.iconst 0, 1) := by decide +kernel
theorem d_Wl_crossing_31 : decode (mB Y_Wl_crossing) 31 = .ok (.iload 4, 2) := by decide +kernel
theorem d_Wl_crossing_33 : decode (mB Y_Wl_crossing) 33 = .ok (.ifCond .ge 7, 3) := by decide +kernel
theorem d_Wl_crossing_36 : decode (mB Y_Wl_crossing) 36 = .ok (.iconst 1, 1) := by decide +kernel
theorem d_Wl_crossing_37 : decode (mB Y_Wl_crossing) 37 = .ok (.goto 4, 3) := by decide +kernel
theorem d_Wl_crossing_40 : decode (mB Y_Wl_crossing) 40 = .ok (.iconst 0, 1) := by decide +kernel
theorem d_Wl_crossing_41 : decode (mB Y_Wl_crossing) 41 = .ok (.if_icmp .eq 5, 3) := by decide +kernel
theorem d_Wl_crossing_44 : decode (mB Y_Wl_crossing) 44 = .ok (.iconst (-1), 1) := by decide +kernel
theorem d_Wl_crossing_45 : decode (mB Y_Wl_crossing) 45 = .ok (.ireturn, 1) := by decide +kernel
theorem d_Wl_crossing_46 : decode (mB Y_Wl_crossing) 46 = .ok (.iload_n 3, 1) := by decide +kernel
theorem d_Wl_crossing_47 : decode (mB Y_Wl_crossing) 47 = .ok (.iload 4, 2) := by decide +kernel
theorem d_Wl_crossing_49 : decode (mB Y_Wl_crossing) 49 = .ok (.iadd, 1) := by decide +kernel
theorem d_Wl_crossing_50 : decode (mB Y_Wl_crossing) 50 = .ok (.invokestatic 38, 3) := by decide +kernel
theorem d_Wl_crossing_53 : decode (mB Y_Wl_crossing) 53 = .ok (.istore 5, 2) := by decide +kernel
theorem d_Wl_crossing_55 : decode (mB Y_Wl_crossing) 55 = .ok (.aload_n 0, 1) := by decide +kernel
theorem d_Wl_crossing_56 : decode (mB Y_Wl_crossing) 56 = .ok (.iload_n 1, 1) := by decide +kernel
theorem d_Wl_crossing_57 : decode (mB Y_Wl_crossing) 57 = .ok (.invokevirtual 43, 3) := by decide +kernel
theorem d_Wl_crossing_60 : decode (mB Y_Wl_crossing) 60 = .ok (.iload 4, 2) := by decide +kernel
theorem d_Wl_crossing_62 : decode (mB Y_Wl_crossing) 62 = .ok (.invokestatic 38, 3) := by decide +kernel
theorem d_Wl_crossing_65 : decode (mB Y_Wl_crossing) 65 = .ok (.imul, 1) := by decide +kernel
theorem d_Wl_crossing_66 : decode (mB Y_Wl_crossing) 66 = .ok (.aload_n 0, 1) := by decide +kernel
theorem d_Wl_crossing_67 : decode (mB Y_Wl_crossing) 67 = .ok (.iload_n 2, 1) := by decide +kernel
theorem d_Wl_crossing_68 : decode (mB Y_Wl_crossing) 68 = .ok (.invokevirtual 43, 3) := by decide +kernel
theorem d_Wl_crossing_71 : decode (mB Y_Wl_crossing) 71 = .ok (.iload_n 3, 1) := by decide +kernel
theorem d_Wl_crossing_72 : decode (mB Y_Wl_crossing) 72 = .ok (.invokestatic 38, 3) := by decide +kernel
theorem d_Wl_crossing_75 : decode (mB Y_Wl_crossing) 75 = .ok (.imul, 1) := by decide +kernel
theorem d_Wl_crossing_76 : decode (mB Y_Wl_crossing) 76 = .ok (.iadd, 1) := by decide +kernel
theorem d_Wl_crossing_77 : decode (mB Y_Wl_crossing) 77 = .ok (.istore 6, 2) := by decide +kernel
theorem d_Wl_crossing_79 : decode (mB Y_Wl_crossing) 79 = .ok (.iload 5, 2) := by decide +kernel
theorem d_Wl_crossing_81 : decode (mB Y_Wl_crossing) 81 = .ok (.ifCond .eq 27, 3) := by decide +kernel
theorem d_Wl_crossing_84 : decode (mB Y_Wl_crossing) 84 = .ok (.iload 6, 2) := by decide +kernel
theorem d_Wl_crossing_86 : decode (mB Y_Wl_crossing) 86 = .ok (.aload_n 0, 1) := by decide +kernel
theorem d_Wl_crossing_87 : decode (mB Y_Wl_crossing) 87 = .ok (.getfield 19, 3) := by decide +kernel
theorem d_Wl_crossing_90 : decode (mB Y_Wl_crossing) 90 = .ok (.iload 5, 2) := by decide +kernel
theorem d_Wl_crossing_92 : decode (mB Y_Wl_crossing) 92 = .ok (.imul, 1) := by decide +kernel
theorem d_Wl_crossing_93 : decode (mB Y_Wl_crossing) 93 = .ok (.if_icmp .lt 15, 3) := by decide +kernel
theorem d_Wl_crossing_96 : decode (mB Y_Wl_crossing) 96 = .ok (.iload 6, 2) := by decide +kernel
theorem d_Wl_crossing_98 : decode (mB Y_Wl_crossing) 98 = .ok (.aload_n 0, 1) := by decide +kernel
theorem d_Wl_crossing_99 : decode (mB Y_Wl_crossing) 99 = .ok (.getfield 22, 3) := by decide +kernel
theorem d_Wl_crossing_102 : decode (mB Y_Wl_crossing) 102 = .ok (.iload 5, 2) := by decide +kernel
theorem d_Wl_crossing_104 : decode (mB Y_Wl_crossing) 104 = .ok (.imul, 1) := by decide +kernel
theorem d_Wl_crossing_105 : decode (mB Y_Wl_crossing) 105 = .ok (.if_icmp .le 5, 3) := by decide +kernel
theorem d_Wl_crossing_108 : decode (mB Y_Wl_crossing) 108 = .ok (.iconst (-1), 1) := by decide +kernel
theorem d_Wl_crossing_109 : decode (mB Y_Wl_crossing) 109 = .ok (.ireturn, 1) := by decide +kernel
theorem d_Wl_crossing_110 : decode (mB Y_Wl_crossing) 110 = .ok (.iload 6, 2) := by decide +kernel
theorem d_Wl_crossing_112 : decode (mB Y_Wl_crossing) 112 = .ok (.iload 5, 2) := by decide +kernel
theorem d_Wl_crossing_114 : decode (mB Y_Wl_crossing) 114 = .ok (.idiv, 1) := by decide +kernel
theorem d_Wl_crossing_115 : decode (mB Y_Wl_crossing) 115 = .ok (.istore 7, 2) := by decide +kernel
theorem d_Wl_crossing_117 : decode (mB Y_Wl_crossing) 117 = .ok (.aload_n 0, 1) := by decide +kernel
theorem d_Wl_crossing_118 : decode (mB Y_Wl_crossing) 118 = .ok (.getfield 9, 3) := by decide +kernel
theorem d_Wl_crossing_121 : decode (mB Y_Wl_crossing) 121 = .ok (.ifCond .eq 16, 3) := by decide +kernel
theorem d_Wl_crossing_124 : decode (mB Y_Wl_crossing) 124 = .ok (.bipush 60, 2) := by decide +kernel
theorem d_Wl_crossing_126 : decode (mB Y_Wl_crossing) 126 = .ok (.iload 7, 2) := by decide +kernel
theorem d_Wl_crossing_128 : decode (mB Y_Wl_crossing) 128 = .ok (.imul, 1) := by decide +kernel
theorem d_Wl_crossing_129 : decode (mB Y_Wl_crossing) 129 = .ok (.aload_n 0, 1) := by decide +kernel
theorem d_Wl_crossing_130 : decode (mB Y_Wl_crossing) 130 = .ok (.getfield 15, 3) := by decide +kernel
theorem d_Wl_crossing_133 : decode (mB Y_Wl_crossing) 133 = .ok (.iadd, 1) := by decide +kernel
theorem d_Wl_crossing_134 : decode (mB Y_Wl_crossing) 134 = .ok (.goto 13, 3) := by decide +kernel
theorem d_Wl_crossing_137 : decode (mB Y_Wl_crossing) 137 = .ok (.bipush 60, 2) := by decide +kernel
theorem d_Wl_crossing_139 : decode (mB Y_Wl_crossing) 139 = .ok (.aload_n 0, 1) := by decide +kernel
theorem d_Wl_crossing_140 : decode (mB Y_Wl_crossing) 140 = .ok (.getfield 15, 3) := by decide +kernel
theorem d_Wl_crossing_143 : decode (mB Y_Wl_crossing) 143 = .ok (.imul, 1) := by decide +kernel
theorem d_Wl_crossing_144 : decode (mB Y_Wl_crossing) 144 = .ok (.iload 7, 2) := by decide +kernel
theorem d_Wl_crossing_146 : decode (mB Y_Wl_crossing) 146 = .ok (.iadd, 1) := by decide +kernel
theorem d_Wl_crossing_147 : decode (mB Y_Wl_crossing) 147 = .ok (.ireturn, 1) := by decide +kernel
theorem ro_Wl_crossing_Ma_abs : roomy Y_Wl_crossing Y_Ma_abs := ⟨Nat.le_of_ble_eq_true rfl, Nat.le_of_ble_eq_true rfl⟩
theorem ro_Wl_crossing_Wl_along : roomy Y_Wl_crossing Y_Wl_along := ⟨Nat.le_of_ble_eq_true rfl, Nat.le_of_ble_eq_true rfl⟩
theorem ro_Wl_crossing_Wl_side : roomy Y_Wl_crossing Y_Wl_side := ⟨Nat.le_of_ble_eq_true rfl, Nat.le_of_ble_eq_true rfl⟩
def r_Wl_crossing (a0 : Nat) (x1 : Int32) (x2 : Int32) (S : Sto) : Option Int32 :=
  (r_Wl_side a0 x1 S).bind (fun r1 =>
  (r_Wl_side a0 x2 S).bind (fun r2 =>
  if r1 = 0 then
    some (-1)
  else
    if r2 = 0 then
      some (-1)
    else
      jn (fun (v3 : Int32) =>
        jn (fun (v4 : Int32) =>
          if v3 = v4 then
            lt (r_Ma_abs (r1 + r2)) (fun v5 =>
            lt (((r_Wl_along a0 x1 S) * (r_Ma_abs r2)) + ((r_Wl_along a0 x2 S) * (r_Ma_abs r1))) (fun v6 =>
            if v5 = 0 then
              some (-1)
            else
              if v6 < ((S a0 2) * v5) then
                some (-1)
              else
                if v6 ≤ ((S a0 3) * v5) then
                  chk (nz v5) (
                  lt (v6 / v5) (fun v7 =>
                  if (S a0 0) = 0 then
                    some ((60 * (S a0 1)) + v7)
                  else
                    some ((60 * v7) + (S a0 1))))
                else
                  some (-1)))
          else
            some (-1)) (fun j41 =>
        if 0 ≤ r2 then
          j41 (0)
        else
          j41 (1))) (fun j31 =>
      if 0 ≤ r1 then
        j31 (0)
      else
        j31 (1))))
set_option maxHeartbeats 4000000 in
set_option maxRecDepth 20000 in
theorem c_Wl_crossing {G : Gl} {L : Shp} (hL : Ext L) (S : Sto) (a0 : Nat) (x1 : Int32) (x2 : Int32) (h0 : isWall L a0) : Ct Y_Wl_crossing G [rf G a0, .int x1, .int x2] L S (fp L S) (r_Wl_crossing a0 x1 x2 S) := by
  refine ct_of (by decide +kernel) (Nat.le_of_ble_eq_true rfl) (fun g C => ?_)
  show VO g Y_Wl_crossing G (fun z => Qm g Y_Wl_crossing G (fp L S z)) 0 0 0 [(0, rf G a0), (1, .int x1), (2, .int x2)] [] L S (r_Wl_crossing a0 x1 x2 S) some
  unfold r_Wl_crossing
  refine v_aload_n (pc := 0) C d_Wl_crossing_0 rfl 0 rfl ?_
  refine v_iload_n (pc := 1) C d_Wl_crossing_1 rfl 1 rfl ?_
  refine v_cp (pc := 2) (inv_V (As := [.int x1]) (st := []) C ml_Wl_35 mv_Wl_side ro_Wl_crossing_Wl_side h0 rfl rfl rfl rfl (Nat.le_of_ble_eq_true rfl) d_Wl_crossing_2) (c_Wl_side hL S a0 x1 h0) ⟨rfl, rfl⟩ ⟨Nat.zero_le _, Nat.zero_le _⟩ (fun r1 => ?_)
  refine v_istore_n (pc := 5) (lv' := [(3, .int r1), (0, rf G a0), (1, .int x1), (2, .int x2)]) C d_Wl_crossing_5 rfl (by decide) rfl ?_
  refine v_aload_n (pc := 6) C d_Wl_crossing_6 rfl 1 rfl ?_
  refine v_iload_n (pc := 7) C d_Wl_crossing_7 rfl 3 rfl ?_
  refine v_cp (pc := 8) (inv_V (As := [.int x2]) (st := []) C ml_Wl_35 mv_Wl_side ro_Wl_crossing_Wl_side h0 rfl rfl rfl rfl (Nat.le_of_ble_eq_true rfl) d_Wl_crossing_8) (c_Wl_side hL S a0 x2 h0) ⟨rfl, rfl⟩ ⟨Nat.zero_le _, Nat.zero_le _⟩ (fun r2 => ?_)
  refine v_istore (pc := 11) (lv' := [(4, .int r2), (3, .int r1), (0, rf G a0), (1, .int x1), (2, .int x2)]) C d_Wl_crossing_11 (by decide) rfl ?_
  refine v_iload_n (pc := 13) C d_Wl_crossing_13 rfl 1 rfl ?_
  refine v_if_eq (pc := 14) (tgt := 44) C d_Wl_crossing_14 rfl (fun _ => ?_) (fun _ => ?_)
  · refine v_iconst (pc := 44) C d_Wl_crossing_44 ic_m1 ?_
    exact v_iret (z := (-1)) C d_Wl_crossing_45 rfl ⟨Nat.zero_le _, Nat.zero_le _⟩ (rfl) rfl
  · refine v_iload (pc := 17) C d_Wl_crossing_17 0 rfl ?_
    refine v_if_eq (pc := 19) (tgt := 44) C d_Wl_crossing_19 rfl (fun _ => ?_) (fun _ => ?_)
    · refine v_iconst (pc := 44) C d_Wl_crossing_44 ic_m1 ?_
      exact v_iret (z := (-1)) C d_Wl_crossing_45 rfl ⟨Nat.zero_le _, Nat.zero_le _⟩ (rfl) rfl
    · refine v_iload_n (pc := 22) C d_Wl_crossing_22 rfl 1 rfl ?_
      refine v_jn (fun j => ∀ (v3 : Int32), VO g Y_Wl_crossing G (fun z => Qm g Y_Wl_crossing G (fp L S z)) 0 0 31 [(0, rf G a0), (1, .int x1), (2, .int x2), (3, .int r1), (4, .int r2)] [.int v3] L S (j (v3)) some) (fun v3 => ?_) (fun j31 hj31 => ?_)
      · refine v_iload (pc := 31) C d_Wl_crossing_31 4 rfl ?_
        refine v_jn (fun j => ∀ (v4 : Int32), VO g Y_Wl_crossing G (fun z => Qm g Y_Wl_crossing G (fp L S z)) 0 0 41 [(0, rf G a0), (1, .int x1), (2, .int x2), (3, .int r1), (4, .int r2)] [.int v4, .int v3] L S (j (v4)) some) (fun v4 => ?_) (fun j41 hj41 => ?_)
        · refine v_icmp_eq (pc := 41) (tgt := 46) C d_Wl_crossing_41 rfl (fun _ => ?_) (fun _ => ?_)
          · refine v_iload_n (pc := 46) C d_Wl_crossing_46 rfl 3 rfl ?_
            refine v_iload (pc := 47) C d_Wl_crossing_47 4 rfl ?_
            refine v_iadd (pc := 49) C d_Wl_crossing_49 ?_
            refine v_ct (pc := 50) (inv_S (As := [.int (r1 + r2)]) (st := []) C ml_Wl_38 ms_Ma_abs ro_Wl_crossing_Ma_abs rfl rfl (Nat.le_of_ble_eq_true rfl) d_Wl_crossing_50) (c_Ma_abs hL S (r1 + r2)) ⟨rfl, rfl⟩ ⟨Nat.zero_le _, Nat.zero_le _⟩ ?_
            refine v_lt (fun v5 => ?_)
            refine v_istore (pc := 53) (lv' := [(5, .int v5), (0, rf G a0), (1, .int x1), (2, .int x2), (3, .int r1), (4, .int r2)]) C d_Wl_crossing_53 (by decide) rfl ?_
            refine v_aload_n (pc := 55) C d_Wl_crossing_55 rfl 1 rfl ?_
            refine v_iload_n (pc := 56) C d_Wl_crossing_56 rfl 2 rfl ?_
            refine v_ct (pc := 57) (inv_V (As := [.int x1]) (st := []) C ml_Wl_43 mv_Wl_along ro_Wl_crossing_Wl_along h0 rfl rfl rfl rfl (Nat.le_of_ble_eq_true rfl) d_Wl_crossing_57) (c_Wl_along hL S a0 x1 h0) ⟨rfl, rfl⟩ ⟨Nat.zero_le _, Nat.zero_le _⟩ ?_
            refine v_iload (pc := 60) C d_Wl_crossing_60 5 rfl ?_
            refine v_ct (pc := 62) (inv_S (As := [.int r2]) (st := [.int (r_Wl_along a0 x1 S)]) C ml_Wl_38 ms_Ma_abs ro_Wl_crossing_Ma_abs rfl rfl (Nat.le_of_ble_eq_true rfl) d_Wl_crossing_62) (c_Ma_abs hL S r2) ⟨rfl, rfl⟩ ⟨Nat.zero_le _, Nat.zero_le _⟩ ?_
            refine v_imul (pc := 65) C d_Wl_crossing_65 ?_
            refine v_aload_n (pc := 66) C d_Wl_crossing_66 rfl 1 rfl ?_
            refine v_iload_n (pc := 67) C d_Wl_crossing_67 rfl 3 rfl ?_
            refine v_ct (pc := 68) (inv_V (As := [.int x2]) (st := [.int ((r_Wl_along a0 x1 S) * (r_Ma_abs r2))]) C ml_Wl_43 mv_Wl_along ro_Wl_crossing_Wl_along h0 rfl rfl rfl rfl (Nat.le_of_ble_eq_true rfl) d_Wl_crossing_68) (c_Wl_along hL S a0 x2 h0) ⟨rfl, rfl⟩ ⟨Nat.zero_le _, Nat.zero_le _⟩ ?_
            refine v_iload_n (pc := 71) C d_Wl_crossing_71 rfl 4 rfl ?_
            refine v_ct (pc := 72) (inv_S (As := [.int r1]) (st := [.int (r_Wl_along a0 x2 S), .int ((r_Wl_along a0 x1 S) * (r_Ma_abs r2))]) C ml_Wl_38 ms_Ma_abs ro_Wl_crossing_Ma_abs rfl rfl (Nat.le_of_ble_eq_true rfl) d_Wl_crossing_72) (c_Ma_abs hL S r1) ⟨rfl, rfl⟩ ⟨Nat.zero_le _, Nat.zero_le _⟩ ?_
            refine v_imul (pc := 75) C d_Wl_crossing_75 ?_
            refine v_iadd (pc := 76) C d_Wl_crossing_76 ?_
            refine v_lt (fun v6 => ?_)
            refine v_istore (pc := 77) (lv' := [(6, .int v6), (5, .int v5), (0, rf G a0), (1, .int x1), (2, .int x2), (3, .int r1), (4, .int r2)]) C d_Wl_crossing_77 (by decide) rfl ?_
            refine v_iload (pc := 79) C d_Wl_crossing_79 1 rfl ?_
            refine v_if_eq (pc := 81) (tgt := 108) C d_Wl_crossing_81 rfl (fun _ => ?_) (fun _ => ?_)
            · refine v_iconst (pc := 108) C d_Wl_crossing_108 ic_m1 ?_
              exact v_iret (z := (-1)) C d_Wl_crossing_109 rfl ⟨Nat.zero_le _, Nat.zero_le _⟩ (rfl) rfl
            · refine v_iload (pc := 84) C d_Wl_crossing_84 0 rfl ?_
              refine v_aload_n (pc := 86) C d_Wl_crossing_86 rfl 2 rfl ?_
              refine v_getI (pc := 87) C fl_Wl_19 h0 rfl d_Wl_crossing_87 ?_
              refine v_iload (pc := 90) C d_Wl_crossing_90 1 rfl ?_
              refine v_imul (pc := 92) C d_Wl_crossing_92 ?_
              refine v_icmp_lt (pc := 93) (tgt := 108) C d_Wl_crossing_93 rfl (fun _ => ?_) (fun _ => ?_)
              · refine v_iconst (pc := 108) C d_Wl_crossing_108 ic_m1 ?_
                exact v_iret (z := (-1)) C d_Wl_crossing_109 rfl ⟨Nat.zero_le _, Nat.zero_le _⟩ (rfl) rfl
              · refine v_iload (pc := 96) C d_Wl_crossing_96 0 rfl ?_
                refine v_aload_n (pc := 98) C d_Wl_crossing_98 rfl 2 rfl ?_
                refine v_getI (pc := 99) C fl_Wl_22 h0 rfl d_Wl_crossing_99 ?_
                refine v_iload (pc := 102) C d_Wl_crossing_102 1 rfl ?_
                refine v_imul (pc := 104) C d_Wl_crossing_104 ?_
                refine v_icmp_le (pc := 105) (tgt := 110) C d_Wl_crossing_105 rfl (fun _ => ?_) (fun _ => ?_)
                · refine v_iload (pc := 110) C d_Wl_crossing_110 0 rfl ?_
                  refine v_iload (pc := 112) C d_Wl_crossing_112 1 rfl ?_
                  refine v_chk (fun hne => ?_)
                  refine v_idiv (pc := 114) C d_Wl_crossing_114 (nz_ne hne) ?_
                  refine v_lt (fun v7 => ?_)
                  refine v_istore (pc := 115) (lv' := [(7, .int v7), (6, .int v6), (5, .int v5), (0, rf G a0), (1, .int x1), (2, .int x2), (3, .int r1), (4, .int r2)]) C d_Wl_crossing_115 (by decide) rfl ?_
                  refine v_aload_n (pc := 117) C d_Wl_crossing_117 rfl 3 rfl ?_
                  refine v_getI (pc := 118) C fl_Wl_9 h0 rfl d_Wl_crossing_118 ?_
                  refine v_if_eq (pc := 121) (tgt := 137) C d_Wl_crossing_121 rfl (fun _ => ?_) (fun _ => ?_)
                  · refine v_bipush (pc := 137) C d_Wl_crossing_137 bp_60 ?_
                    refine v_aload_n (pc := 139) C d_Wl_crossing_139 rfl 3 rfl ?_
                    refine v_getI (pc := 140) C fl_Wl_15 h0 rfl d_Wl_crossing_140 ?_
                    refine v_imul (pc := 143) C d_Wl_crossing_143 ?_
                    refine v_iload (pc := 144) C d_Wl_crossing_144 0 rfl ?_
                    refine v_iadd (pc := 146) C d_Wl_crossing_146 ?_
                    exact v_iret (z := ((60 * (S a0 1)) + v7)) C d_Wl_crossing_147 rfl ⟨Nat.zero_le _, Nat.zero_le _⟩ (rfl) rfl
                  · refine v_bipush (pc := 124) C d_Wl_crossing_124 bp_60 ?_
                    refine v_iload (pc := 126) C d_Wl_crossing_126 0 rfl ?_
                    refine v_imul (pc := 128) C d_Wl_crossing_128 ?_
                    refine v_aload_n (pc := 129) C d_Wl_crossing_129 rfl 3 rfl ?_
                    refine v_getI (pc := 130) C fl_Wl_15 h0 rfl d_Wl_crossing_130 ?_
                    refine v_iadd (pc := 133) C d_Wl_crossing_133 ?_
                    refine v_goto (pc := 134) (tgt := 147) C d_Wl_crossing_134 rfl ?_
                    exact v_iret (z := ((60 * v7) + (S a0 1))) C d_Wl_crossing_147 rfl ⟨Nat.zero_le _, Nat.zero_le _⟩ (rfl) rfl
                · refine v_iconst (pc := 108) C d_Wl_crossing_108 ic_m1 ?_
                  exact v_iret (z := (-1)) C d_Wl_crossing_109 rfl ⟨Nat.zero_le _, Nat.zero_le _⟩ (rfl) rfl
          · refine v_iconst (pc := 44) C d_Wl_crossing_44 ic_m1 ?_
            exact v_iret (z := (-1)) C d_Wl_crossing_45 rfl ⟨Nat.zero_le _, Nat.zero_le _⟩ (rfl) rfl
        · refine v_if_ge (pc := 33) (tgt := 40) C d_Wl_crossing_33 rfl (fun _ => ?_) (fun _ => ?_)
          · refine v_iconst (pc := 40) C d_Wl_crossing_40 ic_0 ?_
            exact hj41 0
          · refine v_iconst (pc := 36) C d_Wl_crossing_36 ic_1 ?_
            refine v_goto (pc := 37) (tgt := 41) C d_Wl_crossing_37 rfl ?_
            exact hj41 1
      · refine v_if_ge (pc := 23) (tgt := 30) C d_Wl_crossing_23 rfl (fun _ => ?_) (fun _ => ?_)
        · refine v_iconst (pc := 30) C d_Wl_crossing_30 ic_0 ?_
          refine v_sub [2, 3, 4, 1, 0] rfl ?_
          exact hj31 0
        · refine v_iconst (pc := 26) C d_Wl_crossing_26 ic_1 ?_
          refine v_goto (pc := 27) (tgt := 31) C d_Wl_crossing_27 rfl ?_
          refine v_sub [2, 3, 4, 1, 0] rfl ?_
          exact hj31 1
-- Wl_wayBack
theorem d_Wl_wayBack_0 : decode (mB Y_Wl_wayBack) 0 = .ok (.aload_n 0, 1) := by decide +kernel
theorem d_Wl_wayBack_1 : decode (mB Y_Wl_wayBack) 1 = .ok (.iload_n 1, 1) := by decide +kernel
theorem d_Wl_wayBack_2 : decode (mB Y_Wl_wayBack) 2 = .ok (.invokevirtual 35, 3) := by decide +kernel
theorem d_Wl_wayBack_5 : decode (mB Y_Wl_wayBack) 5 = .ok (.aload_n 0, 1) := by decide +kernel
theorem d_Wl_wayBack_6 : decode (mB Y_Wl_wayBack) 6 = .ok (.iload_n 2, 1) := by decide +kernel
theorem d_Wl_wayBack_7 : decode (mB Y_Wl_wayBack) 7 = .ok (.invokevirtual 35, 3) := by decide +kernel
theorem d_Wl_wayBack_10 : decode (mB Y_Wl_wayBack) 10 = .ok (.iadd, 1) := by decide +kernel
theorem d_Wl_wayBack_11 : decode (mB Y_Wl_wayBack) 11 = .ok (.aload_n 0, 1) := by decide +kernel
theorem d_Wl_wayBack_12 : decode (mB Y_Wl_wayBack) 12 = .ok (.iload_n 2, 1) := by decide +kernel
theorem d_Wl_wayBack_13 : decode (mB Y_Wl_wayBack) 13 = .ok (.invokevirtual 43, 3) := by decide +kernel
theorem d_Wl_wayBack_16 : decode (mB Y_Wl_wayBack) 16 = .ok (.aload_n 0, 1) := by decide +kernel
theorem d_Wl_wayBack_17 : decode (mB Y_Wl_wayBack) 17 = .ok (.iload_n 1, 1) := by decide +kernel
theorem d_Wl_wayBack_18 : decode (mB Y_Wl_wayBack) 18 = .ok (.invokevirtual 43, 3) := by decide +kernel
theorem d_Wl_wayBack_21 : decode (mB Y_Wl_wayBack) 21 = .ok (.isub, 1) := by decide +kernel
theorem d_Wl_wayBack_22 : decode (mB Y_Wl_wayBack) 22 = .ok (.invokestatic 46, 3) := by decide +kernel
theorem d_Wl_wayBack_25 : decode (mB Y_Wl_wayBack) 25 = .ok (.ireturn, 1) := by decide +kernel
theorem ro_Wl_wayBack_B_distance : roomy Y_Wl_wayBack Y_B_distance := ⟨Nat.le_of_ble_eq_true rfl, Nat.le_of_ble_eq_true rfl⟩
theorem ro_Wl_wayBack_Wl_along : roomy Y_Wl_wayBack Y_Wl_along := ⟨Nat.le_of_ble_eq_true rfl, Nat.le_of_ble_eq_true rfl⟩
theorem ro_Wl_wayBack_Wl_side : roomy Y_Wl_wayBack Y_Wl_side := ⟨Nat.le_of_ble_eq_true rfl, Nat.le_of_ble_eq_true rfl⟩
def r_Wl_wayBack (a0 : Nat) (x1 : Int32) (x2 : Int32) (S : Sto) : Option Int32 :=
  (r_Wl_side a0 x1 S).bind (fun r1 =>
  (r_Wl_side a0 x2 S).bind (fun r2 =>
  (r_B_distance (r1 + r2) ((r_Wl_along a0 x2 S) - (r_Wl_along a0 x1 S))).bind (fun r3 =>
  some r3)))
set_option maxHeartbeats 4000000 in
set_option maxRecDepth 20000 in
theorem c_Wl_wayBack {G : Gl} {L : Shp} (hL : Ext L) (S : Sto) (a0 : Nat) (x1 : Int32) (x2 : Int32) (h0 : isWall L a0) : Ct Y_Wl_wayBack G [rf G a0, .int x1, .int x2] L S (fp L S) (r_Wl_wayBack a0 x1 x2 S) := by
  refine ct_of (by decide +kernel) (Nat.le_of_ble_eq_true rfl) (fun g C => ?_)
  show VO g Y_Wl_wayBack G (fun z => Qm g Y_Wl_wayBack G (fp L S z)) 0 0 0 [(0, rf G a0), (1, .int x1), (2, .int x2)] [] L S (r_Wl_wayBack a0 x1 x2 S) some
  unfold r_Wl_wayBack
  refine v_aload_n (pc := 0) C d_Wl_wayBack_0 rfl 0 rfl ?_
  refine v_iload_n (pc := 1) C d_Wl_wayBack_1 rfl 1 rfl ?_
  refine v_cp (pc := 2) (inv_V (As := [.int x1]) (st := []) C ml_Wl_35 mv_Wl_side ro_Wl_wayBack_Wl_side h0 rfl rfl rfl rfl (Nat.le_of_ble_eq_true rfl) d_Wl_wayBack_2) (c_Wl_side hL S a0 x1 h0) ⟨rfl, rfl⟩ ⟨Nat.zero_le _, Nat.zero_le _⟩ (fun r1 => ?_)
  refine v_aload_n (pc := 5) C d_Wl_wayBack_5 rfl 0 rfl ?_
  refine v_iload_n (pc := 6) C d_Wl_wayBack_6 rfl 2 rfl ?_
  refine v_cp (pc := 7) (inv_V (As := [.int x2]) (st := [.int r1]) C ml_Wl_35 mv_Wl_side ro_Wl_wayBack_Wl_side h0 rfl rfl rfl rfl (Nat.le_of_ble_eq_true rfl) d_Wl_wayBack_7) (c_Wl_side hL S a0 x2 h0) ⟨rfl, rfl⟩ ⟨Nat.zero_le _, Nat.zero_le _⟩ (fun r2 => ?_)
  refine v_iadd (pc := 10) C d_Wl_wayBack_10 ?_
  refine v_aload_n (pc := 11) C d_Wl_wayBack_11 rfl 0 rfl ?_
  refine v_iload_n (pc := 12) C d_Wl_wayBack_12 rfl 2 rfl ?_
  refine v_ct (pc := 13) (inv_V (As := [.int x2]) (st := [.int (r1 + r2)]) C ml_Wl_43 mv_Wl_along ro_Wl_wayBack_Wl_along h0 rfl rfl rfl rfl (Nat.le_of_ble_eq_true rfl) d_Wl_wayBack_13) (c_Wl_along hL S a0 x2 h0) ⟨rfl, rfl⟩ ⟨Nat.zero_le _, Nat.zero_le _⟩ ?_
  refine v_aload_n (pc := 16) C d_Wl_wayBack_16 rfl 0 rfl ?_
  refine v_iload_n (pc := 17) C d_Wl_wayBack_17 rfl 1 rfl ?_
  refine v_ct (pc := 18) (inv_V (As := [.int x1]) (st := [.int (r_Wl_along a0 x2 S), .int (r1 + r2)]) C ml_Wl_43 mv_Wl_along ro_Wl_wayBack_Wl_along h0 rfl rfl rfl rfl (Nat.le_of_ble_eq_true rfl) d_Wl_wayBack_18) (c_Wl_along hL S a0 x1 h0) ⟨rfl, rfl⟩ ⟨Nat.zero_le _, Nat.zero_le _⟩ ?_
  refine v_isub (pc := 21) C d_Wl_wayBack_21 ?_
  refine v_cp (pc := 22) (inv_SN (As := [.int (r1 + r2), .int ((r_Wl_along a0 x2 S) - (r_Wl_along a0 x1 S))]) (st := []) C mn_Wl_46 ms_B_distance ro_Wl_wayBack_B_distance rfl rfl (Nat.le_of_ble_eq_true rfl) d_Wl_wayBack_22) (c_B_distance hL S (r1 + r2) ((r_Wl_along a0 x2 S) - (r_Wl_along a0 x1 S))) ⟨rfl, rfl⟩ ⟨Nat.zero_le _, Nat.zero_le _⟩ (fun r3 => ?_)
  exact v_iret (z := r3) C d_Wl_wayBack_25 rfl ⟨Nat.zero_le _, Nat.zero_le _⟩ (rfl) rfl
-- Hd_listenBack
theorem d_Hd_listenBack_0 : decode (mB Y_Hd_listenBack) 0 = .ok (.aload_n 0, 1) := by decide +kernel
theorem d_Hd_listenBack_1 : decode (mB Y_Hd_listenBack) 1 = .ok (.iconst 0, 1) := by decide +kernel
theorem d_Hd_listenBack_2 : decode (mB Y_Hd_listenBack) 2 = .ok (.putfield 92, 3) := by decide +kernel
theorem d_Hd_listenBack_5 : decode (mB Y_Hd_listenBack) 5 = .ok (.aload_n 0, 1) := by decide +kernel
theorem d_Hd_listenBack_6 : decode (mB Y_Hd_listenBack) 6 = .ok (.iconst (-1), 1) := by decide +kernel
theorem d_Hd_listenBack_7 : decode (mB Y_Hd_listenBack) 7 = .ok (.putfield 95, 3) := by decide +kernel
theorem d_Hd_listenBack_10 : decode (mB Y_Hd_listenBack) 10 = .ok (.iconst (-1), 1) := by decide +kernel
theorem d_Hd_listenBack_11 : decode (mB Y_Hd_listenBack) 11 = .ok (.istore_n 3, 1) := by decide +kernel
theorem d_Hd_listenBack_12 : decode (mB Y_Hd_listenBack) 12 = .ok (.iconst 0, 1) := by decide +kernel
theorem d_Hd_listenBack_13 : decode (mB Y_Hd_listenBack) 13 = .ok (.istore 4, 2) := by decide +kernel
theorem d_Hd_listenBack_15 : decode (mB Y_Hd_listenBack) 15 = .ok (.iload 4, 2) := by decide +kernel
theorem d_Hd_listenBack_17 : decode (mB Y_Hd_listenBack) 17 = .ok (.bipush 10, 2) := by decide +kernel
theorem d_Hd_listenBack_19 : decode (mB Y_Hd_listenBack) 19 = .ok (.if_icmp .ge 174, 3) := by decide +kernel
theorem d_Hd_listenBack_22 : decode (mB Y_Hd_listenBack) 22 = .ok (.aload_n 0, 1) := by decide +kernel
theorem d_Hd_listenBack_23 : decode (mB Y_Hd_listenBack) 23 = .ok (.getfield 9, 3) := by decide +kernel
theorem d_Hd_listenBack_26 : decode (mB Y_Hd_listenBack) 26 = .ok (.getfield 98, 3) := by decide +kernel
theorem d_Hd_listenBack_29 : decode (mB Y_Hd_listenBack) 29 = .ok (.iload 4, 2) := by decide +kernel
theorem d_Hd_listenBack_31 : decode (mB Y_Hd_listenBack) 31 = .ok (.aaload, 1) := by decide +kernel
theorem d_Hd_listenBack_32 : decode (mB Y_Hd_listenBack) 32 = .ok (.astore 5, 2) := by decide +kernel
theorem d_Hd_listenBack_34 : decode (mB Y_Hd_listenBack) 34 = .ok (.aload_n 0, 1) := by decide +kernel
theorem d_Hd_listenBack_35 : decode (mB Y_Hd_listenBack) 35 = .ok (.getfield 22, 3) := by decide +kernel
theorem d_Hd_listenBack_38 : decode (mB Y_Hd_listenBack) 38 = .ok (.iload 4, 2) := by decide +kernel
theorem d_Hd_listenBack_40 : decode (mB Y_Hd_listenBack) 40 = .ok (.iload 4, 2) := by decide +kernel
theorem d_Hd_listenBack_42 : decode (mB Y_Hd_listenBack) 42 = .ok (.aload_n 0, 1) := by decide +kernel
theorem d_Hd_listenBack_43 : decode (mB Y_Hd_listenBack) 43 = .ok (.getfield 9, 3) := by decide +kernel
theorem d_Hd_listenBack_46 : decode (mB Y_Hd_listenBack) 46 = .ok (.getfield 102, 3) := by decide +kernel
theorem d_Hd_listenBack_49 : decode (mB Y_Hd_listenBack) 49 = .ok (.if_icmp .ge 16, 3) := by decide +kernel
theorem d_Hd_listenBack_52 : decode (mB Y_Hd_listenBack) 52 = .ok (.aload 5, 2) := by decide +kernel
theorem d_Hd_listenBack_54 : decode (mB Y_Hd_listenBack) 54 = .ok (.aload_n 1, 1) := by decide +kernel
theorem d_Hd_listenBack_55 : decode (mB Y_Hd_listenBack) 55 = .ok (.getfield 25, 3) := by decide +kernel
theorem d_Hd_listenBack_58 : decode (mB Y_Hd_listenBack) 58 = .ok (.iload_n 2, 1) := by decide +kernel
theorem d_Hd_listenBack_59 : decode (mB Y_Hd_listenBack) 59 = .ok (.invokevirtual 105, 3) := by decide +kernel
theorem d_Hd_listenBack_62 : decode (mB Y_Hd_listenBack) 62 = .ok (.goto 4, 3) := by decide +kernel
theorem d_Hd_listenBack_65 : decode (mB Y_Hd_listenBack) 65 = .ok (.iconst (-1), 1) := by decide +kernel
theorem d_Hd_listenBack_66 : decode (mB Y_Hd_listenBack) 66 = .ok (.iastore, 1) := by decide +kernel
theorem d_Hd_listenBack_67 : decode (mB Y_Hd_listenBack) 67 = .ok (.aload_n 0, 1) := by decide +kernel
theorem d_Hd_listenBack_68 : decode (mB Y_Hd_listenBack) 68 = .ok (.getfield 15, 3) := by decide +kernel
theorem d_Hd_listenBack_71 : decode (mB Y_Hd_listenBack) 71 = .ok (.iload 4, 2) := by decide +kernel
theorem d_Hd_listenBack_73 : decode (mB Y_Hd_listenBack) 73 = .ok (.iconst (-1), 1) := by decide +kernel
theorem d_Hd_listenBack_74 : decode (mB Y_Hd_listenBack) 74 = .ok (.iastore, 1) := by decide +kernel
theorem d_Hd_listenBack_75 : decode (mB Y_Hd_listenBack) 75 = .ok (.aload_n 0, 1) := by decide +kernel
theorem d_Hd_listenBack_76 : decode (mB Y_Hd_listenBack) 76 = .ok (.getfield 19, 3) := by decide +kernel
theorem d_Hd_listenBack_79 : decode (mB Y_Hd_listenBack) 79 = .ok (.iload 4, 2) := by decide +kernel
theorem d_Hd_listenBack_81 : decode (mB Y_Hd_listenBack) 81 = .ok (.iconst (-1), 1) := by decide +kernel
theorem d_Hd_listenBack_82 : decode (mB Y_Hd_listenBack) 82 = .ok (.iastore, 1) := by decide +kernel
theorem d_Hd_listenBack_83 : decode (mB Y_Hd_listenBack) 83 = .ok (.aload_n 0, 1) := by decide +kernel
theorem d_Hd_listenBack_84 : decode (mB Y_Hd_listenBack) 84 = .ok (.getfield 22, 3) := by decide +kernel
theorem d_Hd_listenBack_87 : decode (mB Y_Hd_listenBack) 87 = .ok (.iload 4, 2) := by decide +kernel
theorem d_Hd_listenBack_89 : decode (mB Y_Hd_listenBack) 89 = .ok (.iaload, 1) := by decide +kernel
theorem d_Hd_listenBack_90 : decode (mB Y_Hd_listenBack) 90 = .ok (.iconst (-1), 1) := by decide +kernel
theorem d_Hd_listenBack_91 : decode (mB Y_Hd_listenBack) 91 = .ok (.if_icmp .eq 96, 3) := by decide +kernel
theorem d_Hd_listenBack_94 : decode (mB Y_Hd_listenBack) 94 = .ok (.aload 5, 2) := by decide +kernel
theorem d_Hd_listenBack_96 : decode (mB Y_Hd_listenBack) 96 = .ok (.aload_n 1, 1) := by decide +kernel
theorem d_Hd_listenBack_97 : decode (mB Y_Hd_listenBack) 97 = .ok (.getfield 25, 3) := by decide +kernel
theorem d_Hd_listenBack_100 : decode (mB Y_Hd_listenBack) 100 = .ok (.iload_n 2, 1) := by decide +kernel
theorem d_Hd_listenBack_101 : decode (mB Y_Hd_listenBack) 101 = .ok (.invokevirtual 110, 3) := by decide +kernel
theorem d_Hd_listenBack_104 : decode (mB Y_Hd_listenBack) 104 = .ok (.istore 6, 2) := by decide +kernel
theorem d_Hd_listenBack_106 : decode (mB Y_Hd_listenBack) 106 = .ok (.aload_n 0, 1) := by decide +kernel
theorem d_Hd_listenBack_107 : decode (mB Y_Hd_listenBack) 107 = .ok (.getfield 15, 3) := by decide +kernel
theorem d_Hd_listenBack_110 : decode (mB Y_Hd_listenBack) 110 = .ok (.iload 4, 2) := by decide +kernel
theorem d_Hd_listenBack_112 : decode (mB Y_Hd_listenBack) 112 = .ok (.aload_n 1, 1) := by decide +kernel
theorem d_Hd_listenBack_113 : decode (mB Y_Hd_listenBack) 113 = .ok (.getfield 38, 3) := by decide +kernel
theorem d_Hd_listenBack_116 : decode (mB Y_Hd_listenBack) 116 = .ok (.aload_n 0, 1) := by decide +kernel
theorem d_Hd_listenBack_117 : decode (mB Y_Hd_listenBack) 117 = .ok (.getfield 9, 3) := by decide +kernel
theorem d_Hd_listenBack_120 : decode (mB Y_Hd_listenBack) 120 = .ok (.getfield 113, 3) := by decide +kernel
theorem d_Hd_listenBack_123 : decode (mB Y_Hd_listenBack) 123 = .ok (.iload 6, 2) := by decide +kernel
theorem d_Hd_listenBack_125 : decode (mB Y_Hd_listenBack) 125 = .ok (.imul, 1) := by decide +kernel
theorem d_Hd_listenBack_126 : decode (mB Y_Hd_listenBack) 126 = .ok (.iadd, 1) := by decide +kernel
theorem d_Hd_listenBack_127 : decode (mB Y_Hd_listenBack) 127 = .ok (.iastore, 1) := by decide +kernel
theorem d_Hd_listenBack_128 : decode (mB Y_Hd_listenBack) 128 = .ok (.aload_n 0, 1) := by decide +kernel
theorem d_Hd_listenBack_129 : decode (mB Y_Hd_listenBack) 129 = .ok (.getfield 19, 3) := by decide +kernel
theorem d_Hd_listenBack_132 : decode (mB Y_Hd_listenBack) 132 = .ok (.iload 4, 2) := by decide +kernel
theorem d_Hd_listenBack_134 : decode (mB Y_Hd_listenBack) 134 = .ok (.bipush 100, 2) := by decide +kernel
theorem d_Hd_listenBack_136 : decode (mB Y_Hd_listenBack) 136 = .ok (.aload 5, 2) := by decide +kernel
theorem d_Hd_listenBack_138 : decode (mB Y_Hd_listenBack) 138 = .ok (.getfield 116, 3) := by decide +kernel
theorem d_Hd_listenBack_141 : decode (mB Y_Hd_listenBack) 141 = .ok (.isub, 1) := by decide +kernel
theorem d_Hd_listenBack_142 : decode (mB Y_Hd_listenBack) 142 = .ok (.iload 6, 2) := by decide +kernel
theorem d_Hd_listenBack_144 : decode (mB Y_Hd_listenBack) 144 = .ok (.invokestatic 89, 3) := by decide +kernel
theorem d_Hd_listenBack_147 : decode (mB Y_Hd_listenBack) 147 = .ok (.imul, 1) := by decide +kernel
theorem d_Hd_listenBack_148 : decode (mB Y_Hd_listenBack) 148 = .ok (.bipush 100, 2) := by decide +kernel
theorem d_Hd_listenBack_150 : decode (mB Y_Hd_listenBack) 150 = .ok (.idiv, 1) := by decide +kernel
theorem d_Hd_listenBack_151 : decode (mB Y_Hd_listenBack) 151 = .ok (.iastore, 1) := by decide +kernel
theorem d_Hd_listenBack_152 : decode (mB Y_Hd_listenBack) 152 = .ok (.aload_n 0, 1) := by decide +kernel
theorem d_Hd_listenBack_153 : decode (mB Y_Hd_listenBack) 153 = .ok (.dup, 1) := by decide +kernel
theorem d_Hd_listenBack_154 : decode (mB Y_Hd_listenBack) 154 = .ok (.getfield 92, 3) := by decide +kernel
theorem d_Hd_listenBack_157 : decode (mB Y_Hd_listenBack) 157 = .ok (.iconst 1, 1) := by decide +kernel
theorem d_Hd_listenBack_158 : decode (mB Y_Hd_listenBack) 158 = .ok (.iadd, 1) := by decide +kernel
theorem d_Hd_listenBack_159 : decode (mB Y_Hd_listenBack) 159 = .ok (.putfield 92, 3) := by decide +kernel
theorem d_Hd_listenBack_162 : decode (mB Y_Hd_listenBack) 162 = .ok (.aload_n 0, 1) := by decide +kernel
theorem d_Hd_listenBack_163 : decode (mB Y_Hd_listenBack) 163 = .ok (.getfield 19, 3) := by decide +kernel
theorem d_Hd_listenBack_166 : decode (mB Y_Hd_listenBack) 166 = .ok (.iload 4, 2) := by decide +kernel
theorem d_Hd_listenBack_168 : decode (mB Y_Hd_listenBack) 168 = .ok (.iaload, 1) := by decide +kernel
theorem d_Hd_listenBack_169 : decode (mB Y_Hd_listenBack) 169 = .ok (.iload_n 3, 1) := by decide +kernel
theorem d_Hd_listenBack_170 : decode (mB Y_Hd_listenBack) 170 = .ok (.if_icmp .le 17, 3) := by decide +kernel
theorem d_Hd_listenBack_173 : decode (mB Y_Hd_listenBack) 173 = .ok (.aload_n 0, 1) := by decide +kernel
theorem d_Hd_listenBack_174 : decode (mB Y_Hd_listenBack) 174 = .ok (.getfield 19, 3) := by decide +kernel
theorem d_Hd_listenBack_177 : decode (mB Y_Hd_listenBack) 177 = .ok (.iload 4, 2) := by decide +kernel
theorem d_Hd_listenBack_179 : decode (mB Y_Hd_listenBack) 179 = .ok (.iaload, 1) := by decide +kernel
theorem d_Hd_listenBack_180 : decode (mB Y_Hd_listenBack) 180 = .ok (.istore_n 3, 1) := by decide +kernel
theorem d_Hd_listenBack_181 : decode (mB Y_Hd_listenBack) 181 = .ok (.aload_n 0, 1) := by decide +kernel
theorem d_Hd_listenBack_182 : decode (mB Y_Hd_listenBack) 182 = .ok (.iload 4, 2) := by decide +kernel
theorem d_Hd_listenBack_184 : decode (mB Y_Hd_listenBack) 184 = .ok (.putfield 95, 3) := by decide +kernel
theorem d_Hd_listenBack_187 : decode (mB Y_Hd_listenBack) 187 = .ok (.iinc 4 1, 3) := by decide +kernel
theorem d_Hd_listenBack_190 : decode (mB Y_Hd_listenBack) 190 = .ok (.goto (-175), 3) := by decide +kernel
theorem d_Hd_listenBack_193 : decode (mB Y_Hd_listenBack) 193 = .ok (.return_, 1) := by decide +kernel
theorem ro_Hd_listenBack_B_loudness : roomy Y_Hd_listenBack Y_B_loudness := ⟨Nat.le_of_ble_eq_true rfl, Nat.le_of_ble_eq_true rfl⟩
theorem ro_Hd_listenBack_Wl_crossing : roomy Y_Hd_listenBack Y_Wl_crossing := ⟨Nat.le_of_ble_eq_true rfl, Nat.le_of_ble_eq_true rfl⟩
theorem ro_Hd_listenBack_Wl_wayBack : roomy Y_Hd_listenBack Y_Wl_wayBack := ⟨Nat.le_of_ble_eq_true rfl, Nat.le_of_ble_eq_true rfl⟩
def r_Hd_listenBack_L15 (a1_ : Nat) (y2_ : Int32) : Nat → Int32 → Int32 → Sto → Option (Int32 × Int32 × Sto)
  | 0, _, _, _ => none
  | n + 1, x3_, x4_, S =>
    if 10 ≤ x4_ then
      some (x3_, x4_, S)
    else
      chk (inr x4_ 10) (
      ltN x4_.toNatClampNeg (fun j1 =>
      jn (fun (v2 : Int32) =>
        chk (inr x4_ 10) (
        ltS (sw S 16 x4_.toNatClampNeg v2) (fun S3 =>
        chk (inr x4_ 10) (
        ltS (sw S3 14 x4_.toNatClampNeg (-1)) (fun S4 =>
        chk (inr x4_ 10) (
        ltS (sw S4 15 x4_.toNatClampNeg (-1)) (fun S5 =>
        chk (inr x4_ 10) (
        jn (fun ((v6, S7) : Int32 × Sto) =>
          lt (x4_ + 1) (fun v8 =>
          r_Hd_listenBack_L15 a1_ y2_ n v6 v8 S7)) (fun j187 =>
        if (S5 16 x4_.toNatClampNeg) = (-1) then
          j187 (x3_, S5)
        else
          (r_Wl_wayBack (3 + 1 * j1) (S5 a1_ 0) y2_ S5).bind (fun r9 =>
          chk (inr x4_ 10) (
          ltS (sw S5 14 x4_.toNatClampNeg ((S5 a1_ 1) + ((S5 1 0) * r9))) (fun S10 =>
          (r_B_loudness r9).bind (fun r11 =>
          chk (inr x4_ 10) (
          ltS (sw S10 15 x4_.toNatClampNeg (((100 - (S10 (3 + 1 * j1) 4)) * r11) / 100)) (fun S12 =>
          ltS (sw S12 13 6 ((S12 13 6) + 1)) (fun S13 =>
          chk (inr x4_ 10) (
          if (S13 15 x4_.toNatClampNeg) ≤ x3_ then
            j187 (x3_, S13)
          else
            chk (inr x4_ 10) (
            lt (S13 15 x4_.toNatClampNeg) (fun v14 =>
            ltS (sw S13 13 7 x4_) (fun S15 =>
            j187 (v14, S15))))))))))))))))))))) (fun j66 =>
      if (S 1 4) ≤ x4_ then
        j66 ((-1))
      else
        (r_Wl_crossing (3 + 1 * j1) (S a1_ 0) y2_ S).bind (fun r16 =>
        j66 (r16)))))
set_option maxHeartbeats 4000000 in
set_option maxRecDepth 20000 in
theorem w_Hd_listenBack_L15 {g : Gm} {G : Gl} {L : Shp} (C : Cx g Y_Hd_listenBack G) (hL : Ext L) (a1_ : Nat) (y2_ : Int32) (h1_ : isShot L a1_) :
    ∀ (n : Nat) (x3_ : Int32) (x4_ : Int32) (S : Sto) (K : (Int32 × Int32 × Sto) → Option Sto), (∀ (x3_ : Int32) (x4_ : Int32) (S : Sto), VO g Y_Hd_listenBack G (fun z => Qm g Y_Hd_listenBack G (fv L z)) 0 0 193 [] [] L S (some (x3_, x4_, S)) K) → VO g Y_Hd_listenBack G (fun z => Qm g Y_Hd_listenBack G (fv L z)) 0 0 15 [(0, rf G 13), (1, rf G a1_), (2, .int y2_), (3, .int x3_), (4, .int x4_)] [] L S (r_Hd_listenBack_L15 a1_ y2_ n x3_ x4_ S) K := by
  intro n
  induction n with
  | zero => intro x3_ x4_ S K; intros; exact v_none
  | succ n ih =>
    intro x3_ x4_ S K hK
    rw [r_Hd_listenBack_L15]
    refine v_iload (pc := 15) C d_Hd_listenBack_15 4 rfl ?_
    refine v_bipush (pc := 17) C d_Hd_listenBack_17 bp_10 ?_
    refine v_icmp_ge (pc := 19) (tgt := 193) C d_Hd_listenBack_19 rfl (fun _ => ?_) (fun _ => ?_)
    · refine v_sub [] rfl ?_
      exact hK x3_ x4_ S
    · refine v_aload_n (pc := 22) C d_Hd_listenBack_22 rfl 0 rfl ?_
      refine v_getR (pc := 23) C fl_Hd_9 (sh_13 hL) rfl d_Hd_listenBack_23 ?_
      refine v_getR (pc := 26) C fl_Hd_98 (sh_1 hL) rfl d_Hd_listenBack_26 ?_
      refine v_iload (pc := 29) C d_Hd_listenBack_29 4 rfl ?_
      refine v_aald (pc := 31) (c0 := 3) (e := 1) C (sh_2 hL) rfl (by decide) d_Hd_listenBack_31 (fun j1 hj1 => ?_)
      refine v_astore (pc := 32) (lv' := [(5, rf G (3 + 1 * j1)), (0, rf G 13), (1, rf G a1_), (2, .int y2_), (3, .int x3_), (4, .int x4_)]) C d_Hd_listenBack_32 (by decide) rfl ?_
      refine v_aload_n (pc := 34) C d_Hd_listenBack_34 rfl 1 rfl ?_
      refine v_getR (pc := 35) C fl_Hd_22 (sh_13 hL) rfl d_Hd_listenBack_35 ?_
      refine v_iload (pc := 38) C d_Hd_listenBack_38 5 rfl ?_
      refine v_iload (pc := 40) C d_Hd_listenBack_40 5 rfl ?_
      refine v_aload_n (pc := 42) C d_Hd_listenBack_42 rfl 1 rfl ?_
      refine v_getR (pc := 43) C fl_Hd_9 (sh_13 hL) rfl d_Hd_listenBack_43 ?_
      refine v_getI (pc := 46) C fl_Hd_102 (sh_1 hL) rfl d_Hd_listenBack_46 ?_
      refine v_jn (fun j => ∀ (v2 : Int32), VO g Y_Hd_listenBack G (fun z => Qm g Y_Hd_listenBack G (fv L z)) 0 0 66 [(0, rf G 13), (1, rf G a1_), (2, .int y2_), (3, .int x3_), (4, .int x4_), (5, rf G (3 + 1 * j1))] [.int v2, .int x4_, rf G 16] L S (j (v2)) K) (fun v2 => ?_) (fun j66 hj66 => ?_)
      · refine v_iast (pc := 66) C (sh_16 hL) d_Hd_listenBack_66 (fun _ S3 => ?_)
        refine v_aload_n (pc := 67) C d_Hd_listenBack_67 rfl 0 rfl ?_
        refine v_getR (pc := 68) C fl_Hd_15 (sh_13 hL) rfl d_Hd_listenBack_68 ?_
        refine v_iload (pc := 71) C d_Hd_listenBack_71 4 rfl ?_
        refine v_iconst (pc := 73) C d_Hd_listenBack_73 ic_m1 ?_
        refine v_iast (pc := 74) C (sh_14 hL) d_Hd_listenBack_74 (fun _ S4 => ?_)
        refine v_aload_n (pc := 75) C d_Hd_listenBack_75 rfl 0 rfl ?_
        refine v_getR (pc := 76) C fl_Hd_19 (sh_13 hL) rfl d_Hd_listenBack_76 ?_
        refine v_iload (pc := 79) C d_Hd_listenBack_79 4 rfl ?_
        refine v_iconst (pc := 81) C d_Hd_listenBack_81 ic_m1 ?_
        refine v_iast (pc := 82) C (sh_15 hL) d_Hd_listenBack_82 (fun _ S5 => ?_)
        refine v_aload_n (pc := 83) C d_Hd_listenBack_83 rfl 0 rfl ?_
        refine v_getR (pc := 84) C fl_Hd_22 (sh_13 hL) rfl d_Hd_listenBack_84 ?_
        refine v_iload (pc := 87) C d_Hd_listenBack_87 4 rfl ?_
        refine v_iald (pc := 89) C (sh_16 hL) d_Hd_listenBack_89 (fun _ => ?_)
        refine v_iconst (pc := 90) C d_Hd_listenBack_90 ic_m1 ?_
        refine v_jn (fun j => ∀ (v6 : Int32) (S7 : Sto), VO g Y_Hd_listenBack G (fun z => Qm g Y_Hd_listenBack G (fv L z)) 0 0 187 [(0, rf G 13), (1, rf G a1_), (2, .int y2_), (3, .int v6), (4, .int x4_)] [] L S7 (j (v6, S7)) K) (fun v6 S7 => ?_) (fun j187 hj187 => ?_)
        · refine v_iinc (pc := 187) (p := 4) (c := 1) C d_Hd_listenBack_187 rfl (by decide) (by decide) (fun v8 => [(4, .int v8), (0, rf G 13), (1, rf G a1_), (2, .int y2_), (3, .int v6)]) (fun _ => rfl) (fun v8 => ?_)
          refine v_goto (pc := 190) (tgt := 15) C d_Hd_listenBack_190 rfl ?_
          refine v_sub [1, 2, 3, 4, 0] rfl ?_
          exact ih v6 v8 S7 K hK
        · refine v_icmp_eq (pc := 91) (tgt := 187) C d_Hd_listenBack_91 rfl (fun _ => ?_) (fun _ => ?_)
          · refine v_sub [0, 1, 2, 3, 4] rfl ?_
            exact hj187 x3_ S5
          · refine v_aload (pc := 94) C d_Hd_listenBack_94 5 rfl ?_
            refine v_aload_n (pc := 96) C d_Hd_listenBack_96 rfl 1 rfl ?_
            refine v_getI (pc := 97) C fl_Hd_25 h1_ rfl d_Hd_listenBack_97 ?_
            refine v_iload_n (pc := 100) C d_Hd_listenBack_100 rfl 2 rfl ?_
            refine v_cp (pc := 101) (inv_V (As := [.int (S5 a1_ 0), .int y2_]) (st := []) C ml_Hd_110 mv_Wl_wayBack ro_Hd_listenBack_Wl_wayBack (wall_at hL hj1) rfl rfl rfl rfl (Nat.le_of_ble_eq_true rfl) d_Hd_listenBack_101) (c_Wl_wayBack hL S5 (3 + 1 * j1) (S5 a1_ 0) y2_ (wall_at hL hj1)) ⟨rfl, rfl⟩ ⟨Nat.zero_le _, Nat.zero_le _⟩ (fun r9 => ?_)
            refine v_istore (pc := 104) (lv' := [(6, .int r9), (0, rf G 13), (1, rf G a1_), (2, .int y2_), (3, .int x3_), (4, .int x4_), (5, rf G (3 + 1 * j1))]) C d_Hd_listenBack_104 (by decide) rfl ?_
            refine v_aload_n (pc := 106) C d_Hd_listenBack_106 rfl 1 rfl ?_
            refine v_getR (pc := 107) C fl_Hd_15 (sh_13 hL) rfl d_Hd_listenBack_107 ?_
            refine v_iload (pc := 110) C d_Hd_listenBack_110 5 rfl ?_
            refine v_aload_n (pc := 112) C d_Hd_listenBack_112 rfl 2 rfl ?_
            refine v_getI (pc := 113) C fl_Hd_38 h1_ rfl d_Hd_listenBack_113 ?_
            refine v_aload_n (pc := 116) C d_Hd_listenBack_116 rfl 1 rfl ?_
            refine v_getR (pc := 117) C fl_Hd_9 (sh_13 hL) rfl d_Hd_listenBack_117 ?_
            refine v_getI (pc := 120) C fl_Hd_113 (sh_1 hL) rfl d_Hd_listenBack_120 ?_
            refine v_iload (pc := 123) C d_Hd_listenBack_123 0 rfl ?_
            refine v_imul (pc := 125) C d_Hd_listenBack_125 ?_
            refine v_iadd (pc := 126) C d_Hd_listenBack_126 ?_
            refine v_iast (pc := 127) C (sh_14 hL) d_Hd_listenBack_127 (fun _ S10 => ?_)
            refine v_aload_n (pc := 128) C d_Hd_listenBack_128 rfl 1 rfl ?_
            refine v_getR (pc := 129) C fl_Hd_19 (sh_13 hL) rfl d_Hd_listenBack_129 ?_
            refine v_iload (pc := 132) C d_Hd_listenBack_132 5 rfl ?_
            refine v_bipush (pc := 134) C d_Hd_listenBack_134 bp_100 ?_
            refine v_aload (pc := 136) C d_Hd_listenBack_136 6 rfl ?_
            refine v_getI (pc := 138) C fl_Hd_116 (wall_at hL hj1) rfl d_Hd_listenBack_138 ?_
            refine v_isub (pc := 141) C d_Hd_listenBack_141 ?_
            refine v_iload (pc := 142) C d_Hd_listenBack_142 0 rfl ?_
            refine v_cp (pc := 144) (inv_SN (As := [.int r9]) (st := [.int (100 - (S10 (3 + 1 * j1) 4)), .int x4_, rf G 15]) C mn_Hd_89 ms_B_loudness ro_Hd_listenBack_B_loudness rfl rfl (Nat.le_of_ble_eq_true rfl) d_Hd_listenBack_144) (c_B_loudness hL S10 r9) ⟨rfl, rfl⟩ ⟨Nat.zero_le _, Nat.zero_le _⟩ (fun r11 => ?_)
            refine v_imul (pc := 147) C d_Hd_listenBack_147 ?_
            refine v_bipush (pc := 148) C d_Hd_listenBack_148 bp_100 ?_
            refine v_idiv (pc := 150) C d_Hd_listenBack_150 (by decide) ?_
            refine v_iast (pc := 151) C (sh_15 hL) d_Hd_listenBack_151 (fun _ S12 => ?_)
            refine v_aload_n (pc := 152) C d_Hd_listenBack_152 rfl 1 rfl ?_
            refine v_dup (pc := 153) C d_Hd_listenBack_153 rfl ?_
            refine v_getI (pc := 154) C fl_Hd_92 (sh_13 hL) rfl d_Hd_listenBack_154 ?_
            refine v_iconst (pc := 157) C d_Hd_listenBack_157 ic_1 ?_
            refine v_iadd (pc := 158) C d_Hd_listenBack_158 ?_
            refine v_putI (pc := 159) C fp_Hd_92 (sh_13 hL) rfl d_Hd_listenBack_159 (fun S13 => ?_)
            refine v_aload_n (pc := 162) C d_Hd_listenBack_162 rfl 1 rfl ?_
            refine v_getR (pc := 163) C fl_Hd_19 (sh_13 hL) rfl d_Hd_listenBack_163 ?_
            refine v_iload (pc := 166) C d_Hd_listenBack_166 5 rfl ?_
            refine v_iald (pc := 168) C (sh_15 hL) d_Hd_listenBack_168 (fun _ => ?_)
            refine v_iload_n (pc := 169) C d_Hd_listenBack_169 rfl 4 rfl ?_
            refine v_icmp_le (pc := 170) (tgt := 187) C d_Hd_listenBack_170 rfl (fun _ => ?_) (fun _ => ?_)
            · refine v_sub [1, 2, 3, 4, 5] rfl ?_
              exact hj187 x3_ S13
            · refine v_aload_n (pc := 173) C d_Hd_listenBack_173 rfl 1 rfl ?_
              refine v_getR (pc := 174) C fl_Hd_19 (sh_13 hL) rfl d_Hd_listenBack_174 ?_
              refine v_iload (pc := 177) C d_Hd_listenBack_177 5 rfl ?_
              refine v_iald (pc := 179) C (sh_15 hL) d_Hd_listenBack_179 (fun _ => ?_)
              refine v_lt (fun v14 => ?_)
              refine v_istore_n (pc := 180) (lv' := [(3, .int v14), (6, .int r9), (0, rf G 13), (1, rf G a1_), (2, .int y2_), (4, .int x4_), (5, rf G (3 + 1 * j1))]) C d_Hd_listenBack_180 rfl (by decide) rfl ?_
              refine v_aload_n (pc := 181) C d_Hd_listenBack_181 rfl 2 rfl ?_
              refine v_iload (pc := 182) C d_Hd_listenBack_182 5 rfl ?_
              refine v_putI (pc := 184) C fp_Hd_95 (sh_13 hL) rfl d_Hd_listenBack_184 (fun S15 => ?_)
              refine v_sub [2, 3, 4, 0, 5] rfl ?_
              exact hj187 v14 S15
      · refine v_icmp_ge (pc := 49) (tgt := 65) C d_Hd_listenBack_49 rfl (fun _ => ?_) (fun _ => ?_)
        · refine v_iconst (pc := 65) C d_Hd_listenBack_65 ic_m1 ?_
          refine v_sub [1, 2, 3, 4, 5, 0] rfl ?_
          exact hj66 (-1)
        · refine v_aload (pc := 52) C d_Hd_listenBack_52 0 rfl ?_
          refine v_aload_n (pc := 54) C d_Hd_listenBack_54 rfl 2 rfl ?_
          refine v_getI (pc := 55) C fl_Hd_25 h1_ rfl d_Hd_listenBack_55 ?_
          refine v_iload_n (pc := 58) C d_Hd_listenBack_58 rfl 3 rfl ?_
          refine v_cp (pc := 59) (inv_V (As := [.int (S a1_ 0), .int y2_]) (st := [.int x4_, rf G 16]) C ml_Hd_105 mv_Wl_crossing ro_Hd_listenBack_Wl_crossing (wall_at hL hj1) rfl rfl rfl rfl (Nat.le_of_ble_eq_true rfl) d_Hd_listenBack_59) (c_Wl_crossing hL S (3 + 1 * j1) (S a1_ 0) y2_ (wall_at hL hj1)) ⟨rfl, rfl⟩ ⟨Nat.zero_le _, Nat.zero_le _⟩ (fun r16 => ?_)
          refine v_goto (pc := 62) (tgt := 66) C d_Hd_listenBack_62 rfl ?_
          refine v_sub [1, 2, 3, 4, 5, 0] rfl ?_
          exact hj66 r16
def r_Hd_listenBack (a1 : Nat) (x2 : Int32) (S : Sto) : Option Sto :=
  ltS (sw S 13 6 0) (fun S1 =>
  ltS (sw S1 13 7 (-1)) (fun S2 =>
  (r_Hd_listenBack_L15 a1 x2 fu (-1) 0 S2).bind (fun (v3, v4, S5) =>
  some S5)))
set_option maxHeartbeats 4000000 in
set_option maxRecDepth 20000 in
theorem c_Hd_listenBack {G : Gl} {L : Shp} (hL : Ext L) (S : Sto) (a1 : Nat) (x2 : Int32) (h1 : isShot L a1) : Ct Y_Hd_listenBack G [rf G 13, rf G a1, .int x2] L S (fv L) (r_Hd_listenBack a1 x2 S) := by
  refine ct_of (by decide +kernel) (Nat.le_of_ble_eq_true rfl) (fun g C => ?_)
  show VO g Y_Hd_listenBack G (fun z => Qm g Y_Hd_listenBack G (fv L z)) 0 0 0 [(0, rf G 13), (1, rf G a1), (2, .int x2)] [] L S (r_Hd_listenBack a1 x2 S) some
  unfold r_Hd_listenBack
  refine v_aload_n (pc := 0) C d_Hd_listenBack_0 rfl 0 rfl ?_
  refine v_iconst (pc := 1) C d_Hd_listenBack_1 ic_0 ?_
  refine v_putI (pc := 2) C fp_Hd_92 (sh_13 hL) rfl d_Hd_listenBack_2 (fun S1 => ?_)
  refine v_aload_n (pc := 5) C d_Hd_listenBack_5 rfl 0 rfl ?_
  refine v_iconst (pc := 6) C d_Hd_listenBack_6 ic_m1 ?_
  refine v_putI (pc := 7) C fp_Hd_95 (sh_13 hL) rfl d_Hd_listenBack_7 (fun S2 => ?_)
  refine v_iconst (pc := 10) C d_Hd_listenBack_10 ic_m1 ?_
  refine v_istore_n (pc := 11) (lv' := [(3, .int (-1)), (0, rf G 13), (1, rf G a1), (2, .int x2)]) C d_Hd_listenBack_11 rfl (by decide) rfl ?_
  refine v_iconst (pc := 12) C d_Hd_listenBack_12 ic_0 ?_
  refine v_istore (pc := 13) (lv' := [(4, .int 0), (3, .int (-1)), (0, rf G 13), (1, rf G a1), (2, .int x2)]) C d_Hd_listenBack_13 (by decide) rfl ?_
  refine v_sub [2, 3, 4, 1, 0] rfl ?_
  refine v_bind ?_
  refine w_Hd_listenBack_L15 C hL a1 x2 h1 fu (-1) 0 S2 _ (fun v3 v4 S5 => ?_) 
  refine v_some ?_
  exact v_vret C d_Hd_listenBack_193 rfl ⟨Nat.zero_le _, Nat.zero_le _⟩ rfl rfl
