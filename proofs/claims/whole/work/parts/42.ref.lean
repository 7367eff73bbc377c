-- M_hears
theorem d_M_hears_0 : decode (mB Y_M_hears) 0 = .ok (.aload_n 0, 1) := by decide +kernel
theorem d_M_hears_1 : decode (mB Y_M_hears) 1 = .ok (.iload_n 2, 1) := by decide +kernel
theorem d_M_hears_2 : decode (mB Y_M_hears) 2 = .ok (.aload_n 0, 1) := by decide +kernel
theorem d_M_hears_3 : decode (mB Y_M_hears) 3 = .ok (.iload_n 1, 1) := by decide +kernel
theorem d_M_hears_4 : decode (mB Y_M_hears) 4 = .ok (.iload 5, 2) := by decide +kernel
theorem d_M_hears_6 : decode (mB Y_M_hears) 6 = .ok (.invokevirtual 184, 3) := by decide +kernel
theorem d_M_hears_9 : decode (mB Y_M_hears) 9 = .ok (.iadd, 1) := by decide +kernel
theorem d_M_hears_10 : decode (mB Y_M_hears) 10 = .ok (.putfield 221, 3) := by decide +kernel
theorem d_M_hears_13 : decode (mB Y_M_hears) 13 = .ok (.aload_n 0, 1) := by decide +kernel
theorem d_M_hears_14 : decode (mB Y_M_hears) 14 = .ok (.aload_n 0, 1) := by decide +kernel
theorem d_M_hears_15 : decode (mB Y_M_hears) 15 = .ok (.aload_n 0, 1) := by decide +kernel
theorem d_M_hears_16 : decode (mB Y_M_hears) 16 = .ok (.iload_n 1, 1) := by decide +kernel
theorem d_M_hears_17 : decode (mB Y_M_hears) 17 = .ok (.iload 5, 2) := by decide +kernel
theorem d_M_hears_19 : decode (mB Y_M_hears) 19 = .ok (.invokevirtual 187, 3) := by decide +kernel
theorem d_M_hears_22 : decode (mB Y_M_hears) 22 = .ok (.invokevirtual 190, 3) := by decide +kernel
theorem d_M_hears_25 : decode (mB Y_M_hears) 25 = .ok (.putfield 224, 3) := by decide +kernel
theorem d_M_hears_28 : decode (mB Y_M_hears) 28 = .ok (.aload_n 0, 1) := by decide +kernel
theorem d_M_hears_29 : decode (mB Y_M_hears) 29 = .ok (.iload_n 1, 1) := by decide +kernel
theorem d_M_hears_30 : decode (mB Y_M_hears) 30 = .ok (.iload_n 2, 1) := by decide +kernel
theorem d_M_hears_31 : decode (mB Y_M_hears) 31 = .ok (.iload_n 3, 1) := by decide +kernel
theorem d_M_hears_32 : decode (mB Y_M_hears) 32 = .ok (.iload 4, 2) := by decide +kernel
theorem d_M_hears_34 : decode (mB Y_M_hears) 34 = .ok (.iload 5, 2) := by decide +kernel
theorem d_M_hears_36 : decode (mB Y_M_hears) 36 = .ok (.invokevirtual 227, 3) := by decide +kernel
theorem d_M_hears_39 : decode (mB Y_M_hears) 39 = .ok (.aload_n 0, 1) := by decide +kernel
theorem d_M_hears_40 : decode (mB Y_M_hears) 40 = .ok (.iconst 0, 1) := by decide +kernel
theorem d_M_hears_41 : decode (mB Y_M_hears) 41 = .ok (.putfield 218, 3) := by decide +kernel
theorem d_M_hears_44 : decode (mB Y_M_hears) 44 = .ok (.iload_n 1, 1) := by decide +kernel
theorem d_M_hears_45 : decode (mB Y_M_hears) 45 = .ok (.bipush 60, 2) := by decide +kernel
theorem d_M_hears_47 : decode (mB Y_M_hears) 47 = .ok (.irem, 1) := by decide +kernel
theorem d_M_hears_48 : decode (mB Y_M_hears) 48 = .ok (.istore 6, 2) := by decide +kernel
theorem d_M_hears_50 : decode (mB Y_M_hears) 50 = .ok (.iload_n 1, 1) := by decide +kernel
theorem d_M_hears_51 : decode (mB Y_M_hears) 51 = .ok (.bipush 60, 2) := by decide +kernel
theorem d_M_hears_53 : decode (mB Y_M_hears) 53 = .ok (.idiv, 1) := by decide +kernel
theorem d_M_hears_54 : decode (mB Y_M_hears) 54 = .ok (.istore 7, 2) := by decide +kernel
theorem d_M_hears_56 : decode (mB Y_M_hears) 56 = .ok (.iload 5, 2) := by decide +kernel
theorem d_M_hears_58 : decode (mB Y_M_hears) 58 = .ok (.bipush 60, 2) := by decide +kernel
theorem d_M_hears_60 : decode (mB Y_M_hears) 60 = .ok (.irem, 1) := by decide +kernel
theorem d_M_hears_61 : decode (mB Y_M_hears) 61 = .ok (.istore 8, 2) := by decide +kernel
theorem d_M_hears_63 : decode (mB Y_M_hears) 63 = .ok (.iload 5, 2) := by decide +kernel
theorem d_M_hears_65 : decode (mB Y_M_hears) 65 = .ok (.bipush 60, 2) := by decide +kernel
theorem d_M_hears_67 : decode (mB Y_M_hears) 67 = .ok (.idiv, 1) := by decide +kernel
theorem d_M_hears_68 : decode (mB Y_M_hears) 68 = .ok (.istore 9, 2) := by decide +kernel
theorem d_M_hears_70 : decode (mB Y_M_hears) 70 = .ok (.iconst 0, 1) := by decide +kernel
theorem d_M_hears_71 : decode (mB Y_M_hears) 71 = .ok (.istore 10, 2) := by decide +kernel
theorem d_M_hears_73 : decode (mB Y_M_hears) 73 = .ok (.iload 10, 2) := by decide +kernel
theorem d_M_hears_75 : decode (mB Y_M_hears) 75 = .ok (.aload_n 0, 1) := by decide +kernel
theorem d_M_hears_76 : decode (mB Y_M_hears) 76 = .ok (.getfield 199, 3) := by decide +kernel
theorem d_M_hears_79 : decode (mB Y_M_hears) 79 = .ok (.if_icmp .ge 84, 3) := by decide +kernel
theorem d_M_hears_82 : decode (mB Y_M_hears) 82 = .ok (.aload_n 0, 1) := by decide +kernel
theorem d_M_hears_83 : decode (mB Y_M_hears) 83 = .ok (.getfield 16, 3) := by decide +kernel
theorem d_M_hears_86 : decode (mB Y_M_hears) 86 = .ok (.iload 10, 2) := by decide +kernel
theorem d_M_hears_88 : decode (mB Y_M_hears) 88 = .ok (.baload, 1) := by decide +kernel
theorem d_M_hears_89 : decode (mB Y_M_hears) 89 = .ok (.ifCond .eq 37, 3) := by decide +kernel
theorem d_M_hears_92 : decode (mB Y_M_hears) 92 = .ok (.aload_n 0, 1) := by decide +kernel
theorem d_M_hears_93 : decode (mB Y_M_hears) 93 = .ok (.iload 10, 2) := by decide +kernel
theorem d_M_hears_95 : decode (mB Y_M_hears) 95 = .ok (.iload_n 2, 1) := by decide +kernel
theorem d_M_hears_96 : decode (mB Y_M_hears) 96 = .ok (.iload 6, 2) := by decide +kernel
theorem d_M_hears_98 : decode (mB Y_M_hears) 98 = .ok (.aload_n 0, 1) := by decide +kernel
theorem d_M_hears_99 : decode (mB Y_M_hears) 99 = .ok (.getfield 20, 3) := by decide +kernel
theorem d_M_hears_102 : decode (mB Y_M_hears) 102 = .ok (.iload 10, 2) := by decide +kernel
theorem d_M_hears_104 : decode (mB Y_M_hears) 104 = .ok (.iaload, 1) := by decide +kernel
theorem d_M_hears_105 : decode (mB Y_M_hears) 105 = .ok (.isub, 1) := by decide +kernel
theorem d_M_hears_106 : decode (mB Y_M_hears) 106 = .ok (.iload 8, 2) := by decide +kernel
theorem d_M_hears_108 : decode (mB Y_M_hears) 108 = .ok (.aload_n 0, 1) := by decide +kernel
theorem d_M_hears_109 : decode (mB Y_M_hears) 109 = .ok (.getfield 20, 3) := by decide +kernel
theorem d_M_hears_112 : decode (mB Y_M_hears) 112 = .ok (.iload 10, 2) := by decide +kernel
theorem d_M_hears_114 : decode (mB Y_M_hears) 114 = .ok (.iaload, 1) := by decide +kernel
theorem d_M_hears_115 : decode (mB Y_M_hears) 115 = .ok (.isub, 1) := by decide +kernel
theorem d_M_hears_116 : decode (mB Y_M_hears) 116 = .ok (.iload 7, 2) := by decide +kernel
theorem d_M_hears_118 : decode (mB Y_M_hears) 118 = .ok (.iload 9, 2) := by decide +kernel
theorem d_M_hears_120 : decode (mB Y_M_hears) 120 = .ok (.invokevirtual 231, 3) := by decide +kernel
theorem d_M_hears_123 : decode (mB Y_M_hears) 123 = .ok (.goto 34, 3) := by decide +kernel
theorem d_M_hears_126 : decode (mB Y_M_hears) 126 = .ok (.aload_n 0, 1) := by decide +kernel
theorem d_M_hears_127 : decode (mB Y_M_hears) 127 = .ok (.iload 10, 2) := by decide +kernel
theorem d_M_hears_129 : decode (mB Y_M_hears) 129 = .ok (.iload_n 2, 1) := by decide +kernel
theorem d_M_hears_130 : decode (mB Y_M_hears) 130 = .ok (.iload 7, 2) := by decide +kernel
theorem d_M_hears_132 : decode (mB Y_M_hears) 132 = .ok (.aload_n 0, 1) := by decide +kernel
theorem d_M_hears_133 : decode (mB Y_M_hears) 133 = .ok (.getfield 20, 3) := by decide +kernel
theorem d_M_hears_136 : decode (mB Y_M_hears) 136 = .ok (.iload 10, 2) := by decide +kernel
theorem d_M_hears_138 : decode (mB Y_M_hears) 138 = .ok (.iaload, 1) := by decide +kernel
theorem d_M_hears_139 : decode (mB Y_M_hears) 139 = .ok (.isub, 1) := by decide +kernel
theorem d_M_hears_140 : decode (mB Y_M_hears) 140 = .ok (.iload 9, 2) := by decide +kernel
theorem d_M_hears_142 : decode (mB Y_M_hears) 142 = .ok (.aload_n 0, 1) := by decide +kernel
theorem d_M_hears_143 : decode (mB Y_M_hears) 143 = .ok (.getfield 20, 3) := by decide +kernel
theorem d_M_hears_146 : decode (mB Y_M_hears) 146 = .ok (.iload 10, 2) := by decide +kernel
theorem d_M_hears_148 : decode (mB Y_M_hears) 148 = .ok (.iaload, 1) := by decide +kernel
theorem d_M_hears_149 : decode (mB Y_M_hears) 149 = .ok (.isub, 1) := by decide +kernel
theorem d_M_hears_150 : decode (mB Y_M_hears) 150 = .ok (.iload 6, 2) := by decide +kernel
theorem d_M_hears_152 : decode (mB Y_M_hears) 152 = .ok (.iload 8, 2) := by decide +kernel
theorem d_M_hears_154 : decode (mB Y_M_hears) 154 = .ok (.invokevirtual 231, 3) := by decide +kernel
theorem d_M_hears_157 : decode (mB Y_M_hears) 157 = .ok (.iinc 10 1, 3) := by decide +kernel
theorem d_M_hears_160 : decode (mB Y_M_hears) 160 = .ok (.goto (-87), 3) := by decide +kernel
theorem d_M_hears_163 : decode (mB Y_M_hears) 163 = .ok (.return_, 1) := by decide +kernel
theorem ro_M_hears_M_apartOf : roomy Y_M_hears Y_M_apartOf := ⟨Nat.le_of_ble_eq_true rfl, Nat.le_of_ble_eq_true rfl⟩
theorem ro_M_hears_M_delay : roomy Y_M_hears Y_M_delay := ⟨Nat.le_of_ble_eq_true rfl, Nat.le_of_ble_eq_true rfl⟩
theorem ro_M_hears_M_findsBack : roomy Y_M_hears Y_M_findsBack := ⟨Nat.le_of_ble_eq_true rfl, Nat.le_of_ble_eq_true rfl⟩
theorem ro_M_hears_M_findsCrack : roomy Y_M_hears Y_M_findsCrack := ⟨Nat.le_of_ble_eq_true rfl, Nat.le_of_ble_eq_true rfl⟩
theorem ro_M_hears_M_loudBy : roomy Y_M_hears Y_M_loudBy := ⟨Nat.le_of_ble_eq_true rfl, Nat.le_of_ble_eq_true rfl⟩
def r_M_hears_L73 (y2_ : Int32) (y6_ : Int32) (y7_ : Int32) (y8_ : Int32) (y9_ : Int32) : Nat → Int32 → Sto → Option (Int32 × Sto)
  | 0, _, _ => none
  | n + 1, x10_, S =>
    if (S 104 5) ≤ x10_ then
      some (x10_, S)
    else
      chk (inr x10_ 10) (
      jn (fun (S1 : Sto) =>
        lt (x10_ + 1) (fun v2 =>
        r_M_hears_L73 y2_ y6_ y7_ y8_ y9_ n v2 S1)) (fun j157 =>
      if (S 105 x10_.toNatClampNeg) = 0 then
        chk (inr x10_ 10) (
        chk (inr x10_ 10) (
        (r_M_findsBack x10_ y2_ (y7_ - (S 106 x10_.toNatClampNeg)) (y9_ - (S 106 x10_.toNatClampNeg)) y6_ y8_ S).bind (fun S3 =>
        j157 (S3))))
      else
        chk (inr x10_ 10) (
        chk (inr x10_ 10) (
        (r_M_findsBack x10_ y2_ (y6_ - (S 106 x10_.toNatClampNeg)) (y8_ - (S 106 x10_.toNatClampNeg)) y7_ y9_ S).bind (fun S4 =>
        j157 (S4))))))
set_option maxHeartbeats 4000000 in
set_option maxRecDepth 20000 in
theorem w_M_hears_L73 {g : Gm} {G : Gl} {L : Shp} (C : Cx g Y_M_hears G) (hL : Ext L) (y2_ : Int32) (y6_ : Int32) (y7_ : Int32) (y8_ : Int32) (y9_ : Int32)  :
    ∀ (n : Nat) (x10_ : Int32) (S : Sto) (K : (Int32 × Sto) → Option Sto), (∀ (x10_ : Int32) (S : Sto), VO g Y_M_hears G (fun z => Qm g Y_M_hears G (fv L z)) 0 0 163 [] [] L S (some (x10_, S)) K) → VO g Y_M_hears G (fun z => Qm g Y_M_hears G (fv L z)) 0 0 73 [(0, rf G 104), (2, .int y2_), (6, .int y6_), (7, .int y7_), (8, .int y8_), (9, .int y9_), (10, .int x10_)] [] L S (r_M_hears_L73 y2_ y6_ y7_ y8_ y9_ n x10_ S) K := by
  intro n
  induction n with
  | zero => intro x10_ S K; intros; exact v_none
  | succ n ih =>
    intro x10_ S K hK
    rw [r_M_hears_L73]
    refine v_iload (pc := 73) C d_M_hears_73 6 rfl ?_
    refine v_aload_n (pc := 75) C d_M_hears_75 rfl 0 rfl ?_
    refine v_getI (pc := 76) C fl_M_199 (sh_104 hL) rfl d_M_hears_76 ?_
    refine v_icmp_ge (pc := 79) (tgt := 163) C d_M_hears_79 rfl (fun _ => ?_) (fun _ => ?_)
    · refine v_sub [] rfl ?_
      exact hK x10_ S
    · refine v_aload_n (pc := 82) C d_M_hears_82 rfl 0 rfl ?_
      refine v_getR (pc := 83) C fl_M_16 (sh_104 hL) rfl d_M_hears_83 ?_
      refine v_iload (pc := 86) C d_M_hears_86 6 rfl ?_
      refine v_zald (pc := 88) C (sh_105 hL) d_M_hears_88 (fun _ => ?_)
      refine v_jn (fun j => ∀ (S1 : Sto), VO g Y_M_hears G (fun z => Qm g Y_M_hears G (fv L z)) 0 0 157 [(0, rf G 104), (2, .int y2_), (6, .int y6_), (7, .int y7_), (8, .int y8_), (9, .int y9_), (10, .int x10_)] [] L S1 (j (S1)) K) (fun S1 => ?_) (fun j157 hj157 => ?_)
      · refine v_iinc (pc := 157) (p := 6) (c := 1) C d_M_hears_157 rfl (by decide) (by decide) (fun v2 => [(10, .int v2), (0, rf G 104), (2, .int y2_), (6, .int y6_), (7, .int y7_), (8, .int y8_), (9, .int y9_)]) (fun _ => rfl) (fun v2 => ?_)
        refine v_goto (pc := 160) (tgt := 73) C d_M_hears_160 rfl ?_
        refine v_sub [1, 2, 3, 4, 5, 6, 0] rfl ?_
        exact ih v2 S1 K hK
      · refine v_if_eq (pc := 89) (tgt := 126) C d_M_hears_89 rfl (fun _ => ?_) (fun _ => ?_)
        · refine v_aload_n (pc := 126) C d_M_hears_126 rfl 0 rfl ?_
          refine v_iload (pc := 127) C d_M_hears_127 6 rfl ?_
          refine v_iload_n (pc := 129) C d_M_hears_129 rfl 1 rfl ?_
          refine v_iload (pc := 130) C d_M_hears_130 3 rfl ?_
          refine v_aload_n (pc := 132) C d_M_hears_132 rfl 0 rfl ?_
          refine v_getR (pc := 133) C fl_M_20 (sh_104 hL) rfl d_M_hears_133 ?_
          refine v_iload (pc := 136) C d_M_hears_136 6 rfl ?_
          refine v_iald (pc := 138) C (sh_106 hL) d_M_hears_138 (fun _ => ?_)
          refine v_isub (pc := 139) C d_M_hears_139 ?_
          refine v_iload (pc := 140) C d_M_hears_140 5 rfl ?_
          refine v_aload_n (pc := 142) C d_M_hears_142 rfl 0 rfl ?_
          refine v_getR (pc := 143) C fl_M_20 (sh_104 hL) rfl d_M_hears_143 ?_
          refine v_iload (pc := 146) C d_M_hears_146 6 rfl ?_
          refine v_iald (pc := 148) C (sh_106 hL) d_M_hears_148 (fun _ => ?_)
          refine v_isub (pc := 149) C d_M_hears_149 ?_
          refine v_iload (pc := 150) C d_M_hears_150 2 rfl ?_
          refine v_iload (pc := 152) C d_M_hears_152 4 rfl ?_
          refine v_cv (pc := 154) (inv_V (As := [.int x10_, .int y2_, .int (y7_ - (S 106 x10_.toNatClampNeg)), .int (y9_ - (S 106 x10_.toNatClampNeg)), .int y6_, .int y8_]) (st := []) C ml_M_231 mv_M_findsBack ro_M_hears_M_findsBack (sh_104 hL) rfl rfl rfl rfl (Nat.le_of_ble_eq_true rfl) d_M_hears_154) (c_M_findsBack hL S x10_ y2_ (y7_ - (S 106 x10_.toNatClampNeg)) (y9_ - (S 106 x10_.toNatClampNeg)) y6_ y8_) ⟨rfl, rfl⟩ ⟨Nat.zero_le _, Nat.zero_le _⟩ (fun S3 => ?_)
          exact hj157 S3
        · refine v_aload_n (pc := 92) C d_M_hears_92 rfl 0 rfl ?_
          refine v_iload (pc := 93) C d_M_hears_93 6 rfl ?_
          refine v_iload_n (pc := 95) C d_M_hears_95 rfl 1 rfl ?_
          refine v_iload (pc := 96) C d_M_hears_96 2 rfl ?_
          refine v_aload_n (pc := 98) C d_M_hears_98 rfl 0 rfl ?_
          refine v_getR (pc := 99) C fl_M_20 (sh_104 hL) rfl d_M_hears_99 ?_
          refine v_iload (pc := 102) C d_M_hears_102 6 rfl ?_
          refine v_iald (pc := 104) C (sh_106 hL) d_M_hears_104 (fun _ => ?_)
          refine v_isub (pc := 105) C d_M_hears_105 ?_
          refine v_iload (pc := 106) C d_M_hears_106 4 rfl ?_
          refine v_aload_n (pc := 108) C d_M_hears_108 rfl 0 rfl ?_
          refine v_getR (pc := 109) C fl_M_20 (sh_104 hL) rfl d_M_hears_109 ?_
          refine v_iload (pc := 112) C d_M_hears_112 6 rfl ?_
          refine v_iald (pc := 114) C (sh_106 hL) d_M_hears_114 (fun _ => ?_)
          refine v_isub (pc := 115) C d_M_hears_115 ?_
          refine v_iload (pc := 116) C d_M_hears_116 3 rfl ?_
          refine v_iload (pc := 118) C d_M_hears_118 5 rfl ?_
          refine v_cv (pc := 120) (inv_V (As := [.int x10_, .int y2_, .int (y6_ - (S 106 x10_.toNatClampNeg)), .int (y8_ - (S 106 x10_.toNatClampNeg)), .int y7_, .int y9_]) (st := []) C ml_M_231 mv_M_findsBack ro_M_hears_M_findsBack (sh_104 hL) rfl rfl rfl rfl (Nat.le_of_ble_eq_true rfl) d_M_hears_120) (c_M_findsBack hL S x10_ y2_ (y6_ - (S 106 x10_.toNatClampNeg)) (y8_ - (S 106 x10_.toNatClampNeg)) y7_ y9_) ⟨rfl, rfl⟩ ⟨Nat.zero_le _, Nat.zero_le _⟩ (fun S4 => ?_)
          refine v_goto (pc := 123) (tgt := 157) C d_M_hears_123 rfl ?_
          exact hj157 S4
def r_M_hears (x1 : Int32) (x2 : Int32) (x3 : Int32) (x4 : Int32) (x5 : Int32) (S : Sto) : Option Sto :=
  (r_M_delay x1 x5 S).bind (fun r1 =>
  ltS (sw S 104 17 (x2 + r1)) (fun S2 =>
  (r_M_apartOf x1 x5).bind (fun r3 =>
  (r_M_loudBy r3).bind (fun r4 =>
  ltS (sw S2 104 18 r4) (fun S5 =>
  (r_M_findsCrack x1 x2 x3 x4 x5 S5).bind (fun S6 =>
  ltS (sw S6 104 22 0) (fun S7 =>
  lt (x1 - x1 / 60 * 60) (fun v8 =>
  lt (x1 / 60) (fun v9 =>
  lt (x5 - x5 / 60 * 60) (fun v10 =>
  lt (x5 / 60) (fun v11 =>
  (r_M_hears_L73 x2 v8 v9 v10 v11 fu 0 S7).bind (fun (v12, S13) =>
  some S13))))))))))))
set_option maxHeartbeats 4000000 in
set_option maxRecDepth 20000 in
theorem c_M_hears {G : Gl} {L : Shp} (hL : Ext L) (S : Sto) (x1 : Int32) (x2 : Int32) (x3 : Int32) (x4 : Int32) (x5 : Int32)  : Ct Y_M_hears G [rf G 104, .int x1, .int x2, .int x3, .int x4, .int x5] L S (fv L) (r_M_hears x1 x2 x3 x4 x5 S) := by
  refine ct_of (by decide +kernel) (Nat.le_of_ble_eq_true rfl) (fun g C => ?_)
  show VO g Y_M_hears G (fun z => Qm g Y_M_hears G (fv L z)) 0 0 0 [(0, rf G 104), (1, .int x1), (2, .int x2), (3, .int x3), (4, .int x4), (5, .int x5)] [] L S (r_M_hears x1 x2 x3 x4 x5 S) some
  unfold r_M_hears
  refine v_aload_n (pc := 0) C d_M_hears_0 rfl 0 rfl ?_
  refine v_iload_n (pc := 1) C d_M_hears_1 rfl 2 rfl ?_
  refine v_aload_n (pc := 2) C d_M_hears_2 rfl 0 rfl ?_
  refine v_iload_n (pc := 3) C d_M_hears_3 rfl 1 rfl ?_
  refine v_iload (pc := 4) C d_M_hears_4 5 rfl ?_
  refine v_cp (pc := 6) (inv_V (As := [.int x1, .int x5]) (st := [.int x2, rf G 104]) C ml_M_184 mv_M_delay ro_M_hears_M_delay (sh_104 hL) rfl rfl rfl rfl (Nat.le_of_ble_eq_true rfl) d_M_hears_6) (c_M_delay hL S x1 x5) ⟨rfl, rfl⟩ ⟨Nat.zero_le _, Nat.zero_le _⟩ (fun r1 => ?_)
  refine v_iadd (pc := 9) C d_M_hears_9 ?_
  refine v_putI (pc := 10) C fp_M_221 (sh_104 hL) rfl d_M_hears_10 (fun S2 => ?_)
  refine v_aload_n (pc := 13) C d_M_hears_13 rfl 0 rfl ?_
  refine v_aload_n (pc := 14) C d_M_hears_14 rfl 0 rfl ?_
  refine v_aload_n (pc := 15) C d_M_hears_15 rfl 0 rfl ?_
  refine v_iload_n (pc := 16) C d_M_hears_16 rfl 1 rfl ?_
  refine v_iload (pc := 17) C d_M_hears_17 5 rfl ?_
  refine v_cp (pc := 19) (inv_V (As := [.int x1, .int x5]) (st := [rf G 104, rf G 104]) C ml_M_187 mv_M_apartOf ro_M_hears_M_apartOf (sh_104 hL) rfl rfl rfl rfl (Nat.le_of_ble_eq_true rfl) d_M_hears_19) (c_M_apartOf hL S2 x1 x5) ⟨rfl, rfl⟩ ⟨Nat.zero_le _, Nat.zero_le _⟩ (fun r3 => ?_)
  refine v_cp (pc := 22) (inv_V (As := [.int r3]) (st := [rf G 104]) C ml_M_190 mv_M_loudBy ro_M_hears_M_loudBy (sh_104 hL) rfl rfl rfl rfl (Nat.le_of_ble_eq_true rfl) d_M_hears_22) (c_M_loudBy hL S2 r3) ⟨rfl, rfl⟩ ⟨Nat.zero_le _, Nat.zero_le _⟩ (fun r4 => ?_)
  refine v_putI (pc := 25) C fp_M_224 (sh_104 hL) rfl d_M_hears_25 (fun S5 => ?_)
  refine v_aload_n (pc := 28) C d_M_hears_28 rfl 0 rfl ?_
  refine v_iload_n (pc := 29) C d_M_hears_29 rfl 1 rfl ?_
  refine v_iload_n (pc := 30) C d_M_hears_30 rfl 2 rfl ?_
  refine v_iload_n (pc := 31) C d_M_hears_31 rfl 3 rfl ?_
  refine v_iload (pc := 32) C d_M_hears_32 4 rfl ?_
  refine v_iload (pc := 34) C d_M_hears_34 5 rfl ?_
  refine v_cv (pc := 36) (inv_V (As := [.int x1, .int x2, .int x3, .int x4, .int x5]) (st := []) C ml_M_227 mv_M_findsCrack ro_M_hears_M_findsCrack (sh_104 hL) rfl rfl rfl rfl (Nat.le_of_ble_eq_true rfl) d_M_hears_36) (c_M_findsCrack hL S5 x1 x2 x3 x4 x5) ⟨rfl, rfl⟩ ⟨Nat.zero_le _, Nat.zero_le _⟩ (fun S6 => ?_)
  refine v_aload_n (pc := 39) C d_M_hears_39 rfl 0 rfl ?_
  refine v_iconst (pc := 40) C d_M_hears_40 ic_0 ?_
  refine v_putI (pc := 41) C fp_M_218 (sh_104 hL) rfl d_M_hears_41 (fun S7 => ?_)
  refine v_iload_n (pc := 44) C d_M_hears_44 rfl 1 rfl ?_
  refine v_bipush (pc := 45) C d_M_hears_45 bp_60 ?_
  refine v_irem (pc := 47) C d_M_hears_47 (by decide) ?_
  refine v_lt (fun v8 => ?_)
  refine v_istore (pc := 48) (lv' := [(6, .int v8), (0, rf G 104), (1, .int x1), (2, .int x2), (3, .int x3), (4, .int x4), (5, .int x5)]) C d_M_hears_48 (by decide) rfl ?_
  refine v_iload_n (pc := 50) C d_M_hears_50 rfl 2 rfl ?_
  refine v_bipush (pc := 51) C d_M_hears_51 bp_60 ?_
  refine v_idiv (pc := 53) C d_M_hears_53 (by decide) ?_
  refine v_lt (fun v9 => ?_)
  refine v_istore (pc := 54) (lv' := [(7, .int v9), (6, .int v8), (0, rf G 104), (1, .int x1), (2, .int x2), (3, .int x3), (4, .int x4), (5, .int x5)]) C d_M_hears_54 (by decide) rfl ?_
  refine v_iload (pc := 56) C d_M_hears_56 7 rfl ?_
  refine v_bipush (pc := 58) C d_M_hears_58 bp_60 ?_
  refine v_irem (pc := 60) C d_M_hears_60 (by decide) ?_
  refine v_lt (fun v10 => ?_)
  refine v_istore (pc := 61) (lv' := [(8, .int v10), (7, .int v9), (6, .int v8), (0, rf G 104), (1, .int x1), (2, .int x2), (3, .int x3), (4, .int x4), (5, .int x5)]) C d_M_hears_61 (by decide) rfl ?_
  refine v_iload (pc := 63) C d_M_hears_63 8 rfl ?_
  refine v_bipush (pc := 65) C d_M_hears_65 bp_60 ?_
  refine v_idiv (pc := 67) C d_M_hears_67 (by decide) ?_
  refine v_lt (fun v11 => ?_)
  refine v_istore (pc := 68) (lv' := [(9, .int v11), (8, .int v10), (7, .int v9), (6, .int v8), (0, rf G 104), (1, .int x1), (2, .int x2), (3, .int x3), (4, .int x4), (5, .int x5)]) C d_M_hears_68 (by decide) rfl ?_
  refine v_iconst (pc := 70) C d_M_hears_70 ic_0 ?_
  refine v_istore (pc := 71) (lv' := [(10, .int 0), (9, .int v11), (8, .int v10), (7, .int v9), (6, .int v8), (0, rf G 104), (1, .int x1), (2, .int x2), (3, .int x3), (4, .int x4), (5, .int x5)]) C d_M_hears_71 (by decide) rfl ?_
  refine v_sub [5, 7, 4, 3, 2, 1, 0] rfl ?_
  refine v_bind ?_
  refine w_M_hears_L73 C hL x2 v8 v9 v10 v11  fu 0 S7 _ (fun v12 S13 => ?_) 
  refine v_some ?_
  exact v_vret C d_M_hears_163 rfl ⟨Nat.zero_le _, Nat.zero_le _⟩ rfl rfl
-- M_hearsShot
theorem d_M_hearsShot_0 : decode (mB Y_M_hearsShot) 0 = .ok (.aload_n 0, 1) := by decide +kernel
theorem d_M_hearsShot_1 : decode (mB Y_M_hearsShot) 1 = .ok (.aload_n 0, 1) := by decide +kernel
theorem d_M_hearsShot_2 : decode (mB Y_M_hearsShot) 2 = .ok (.getfield 36, 3) := by decide +kernel
theorem d_M_hearsShot_5 : decode (mB Y_M_hearsShot) 5 = .ok (.iload_n 1, 1) := by decide +kernel
theorem d_M_hearsShot_6 : decode (mB Y_M_hearsShot) 6 = .ok (.iaload, 1) := by decide +kernel
theorem d_M_hearsShot_7 : decode (mB Y_M_hearsShot) 7 = .ok (.aload_n 0, 1) := by decide +kernel
theorem d_M_hearsShot_8 : decode (mB Y_M_hearsShot) 8 = .ok (.getfield 39, 3) := by decide +kernel
theorem d_M_hearsShot_11 : decode (mB Y_M_hearsShot) 11 = .ok (.iload_n 1, 1) := by decide +kernel
theorem d_M_hearsShot_12 : decode (mB Y_M_hearsShot) 12 = .ok (.iaload, 1) := by decide +kernel
theorem d_M_hearsShot_13 : decode (mB Y_M_hearsShot) 13 = .ok (.aload_n 0, 1) := by decide +kernel
theorem d_M_hearsShot_14 : decode (mB Y_M_hearsShot) 14 = .ok (.getfield 42, 3) := by decide +kernel
theorem d_M_hearsShot_17 : decode (mB Y_M_hearsShot) 17 = .ok (.iload_n 1, 1) := by decide +kernel
theorem d_M_hearsShot_18 : decode (mB Y_M_hearsShot) 18 = .ok (.iaload, 1) := by decide +kernel
theorem d_M_hearsShot_19 : decode (mB Y_M_hearsShot) 19 = .ok (.aload_n 0, 1) := by decide +kernel
theorem d_M_hearsShot_20 : decode (mB Y_M_hearsShot) 20 = .ok (.getfield 45, 3) := by decide +kernel
theorem d_M_hearsShot_23 : decode (mB Y_M_hearsShot) 23 = .ok (.iload_n 1, 1) := by decide +kernel
theorem d_M_hearsShot_24 : decode (mB Y_M_hearsShot) 24 = .ok (.iaload, 1) := by decide +kernel
theorem d_M_hearsShot_25 : decode (mB Y_M_hearsShot) 25 = .ok (.iload_n 2, 1) := by decide +kernel
theorem d_M_hearsShot_26 : decode (mB Y_M_hearsShot) 26 = .ok (.invokevirtual 235, 3) := by decide +kernel
theorem d_M_hearsShot_29 : decode (mB Y_M_hearsShot) 29 = .ok (.return_, 1) := by decide +kernel
theorem ro_M_hearsShot_M_hears : roomy Y_M_hearsShot Y_M_hears := ⟨Nat.le_of_ble_eq_true rfl, Nat.le_of_ble_eq_true rfl⟩
def r_M_hearsShot (x1 : Int32) (x2 : Int32) (S : Sto) : Option Sto :=
  chk (inr x1 10) (
  chk (inr x1 10) (
  chk (inr x1 10) (
  chk (inr x1 10) (
  (r_M_hears (S 111 x1.toNatClampNeg) (S 112 x1.toNatClampNeg) (S 113 x1.toNatClampNeg) (S 114 x1.toNatClampNeg) x2 S).bind (fun S1 =>
  some S1)))))
set_option maxHeartbeats 4000000 in
set_option maxRecDepth 20000 in
theorem c_M_hearsShot {G : Gl} {L : Shp} (hL : Ext L) (S : Sto) (x1 : Int32) (x2 : Int32)  : Ct Y_M_hearsShot G [rf G 104, .int x1, .int x2] L S (fv L) (r_M_hearsShot x1 x2 S) := by
  refine ct_of (by decide +kernel) (Nat.le_of_ble_eq_true rfl) (fun g C => ?_)
  show VO g Y_M_hearsShot G (fun z => Qm g Y_M_hearsShot G (fv L z)) 0 0 0 [(0, rf G 104), (1, .int x1), (2, .int x2)] [] L S (r_M_hearsShot x1 x2 S) some
  unfold r_M_hearsShot
  refine v_aload_n (pc := 0) C d_M_hearsShot_0 rfl 0 rfl ?_
  refine v_aload_n (pc := 1) C d_M_hearsShot_1 rfl 0 rfl ?_
  refine v_getR (pc := 2) C fl_M_36 (sh_104 hL) rfl d_M_hearsShot_2 ?_
  refine v_iload_n (pc := 5) C d_M_hearsShot_5 rfl 1 rfl ?_
  refine v_iald (pc := 6) C (sh_111 hL) d_M_hearsShot_6 (fun _ => ?_)
  refine v_aload_n (pc := 7) C d_M_hearsShot_7 rfl 0 rfl ?_
  refine v_getR (pc := 8) C fl_M_39 (sh_104 hL) rfl d_M_hearsShot_8 ?_
  refine v_iload_n (pc := 11) C d_M_hearsShot_11 rfl 1 rfl ?_
  refine v_iald (pc := 12) C (sh_112 hL) d_M_hearsShot_12 (fun _ => ?_)
  refine v_aload_n (pc := 13) C d_M_hearsShot_13 rfl 0 rfl ?_
  refine v_getR (pc := 14) C fl_M_42 (sh_104 hL) rfl d_M_hearsShot_14 ?_
  refine v_iload_n (pc := 17) C d_M_hearsShot_17 rfl 1 rfl ?_
  refine v_iald (pc := 18) C (sh_113 hL) d_M_hearsShot_18 (fun _ => ?_)
  refine v_aload_n (pc := 19) C d_M_hearsShot_19 rfl 0 rfl ?_
  refine v_getR (pc := 20) C fl_M_45 (sh_104 hL) rfl d_M_hearsShot_20 ?_
  refine v_iload_n (pc := 23) C d_M_hearsShot_23 rfl 1 rfl ?_
  refine v_iald (pc := 24) C (sh_114 hL) d_M_hearsShot_24 (fun _ => ?_)
  refine v_iload_n (pc := 25) C d_M_hearsShot_25 rfl 2 rfl ?_
  refine v_cv (pc := 26) (inv_V (As := [.int (S 111 x1.toNatClampNeg), .int (S 112 x1.toNatClampNeg), .int (S 113 x1.toNatClampNeg), .int (S 114 x1.toNatClampNeg), .int x2]) (st := []) C ml_M_235 mv_M_hears ro_M_hearsShot_M_hears (sh_104 hL) rfl rfl rfl rfl (Nat.le_of_ble_eq_true rfl) d_M_hearsShot_26) (c_M_hears hL S (S 111 x1.toNatClampNeg) (S 112 x1.toNatClampNeg) (S 113 x1.toNatClampNeg) (S 114 x1.toNatClampNeg) x2) ⟨rfl, rfl⟩ ⟨Nat.zero_le _, Nat.zero_le _⟩ (fun S1 => ?_)
  exact v_vret C d_M_hearsShot_29 rfl ⟨Nat.zero_le _, Nat.zero_le _⟩ rfl rfl
-- M_gets
theorem d_M_gets_0 : decode (mB Y_M_gets) 0 = .ok (.aload_n 0, 1) := by decide +kernel
theorem d_M_gets_1 : decode (mB Y_M_gets) 1 = .ok (.iconst 0, 1) := by decide +kernel
theorem d_M_gets_2 : decode (mB Y_M_gets) 2 = .ok (.putfield 150, 3) := by decide +kernel
theorem d_M_gets_5 : decode (mB Y_M_gets) 5 = .ok (.aload_n 0, 1) := by decide +kernel
theorem d_M_gets_6 : decode (mB Y_M_gets) 6 = .ok (.iload_n 1, 1) := by decide +kernel
theorem d_M_gets_7 : decode (mB Y_M_gets) 7 = .ok (.invokevirtual 238, 3) := by decide +kernel
theorem d_M_gets_10 : decode (mB Y_M_gets) 10 = .ok (.ifCond .eq 11, 3) := by decide +kernel
theorem d_M_gets_13 : decode (mB Y_M_gets) 13 = .ok (.aload_n 0, 1) := by decide +kernel
theorem d_M_gets_14 : decode (mB Y_M_gets) 14 = .ok (.iload_n 2, 1) := by decide +kernel
theorem d_M_gets_15 : decode (mB Y_M_gets) 15 = .ok (.invokevirtual 180, 3) := by decide +kernel
theorem d_M_gets_18 : decode (mB Y_M_gets) 18 = .ok (.ifCond .ne 5, 3) := by decide +kernel
theorem d_M_gets_21 : decode (mB Y_M_gets) 21 = .ok (.iconst (-1), 1) := by decide +kernel
theorem d_M_gets_22 : decode (mB Y_M_gets) 22 = .ok (.ireturn, 1) := by decide +kernel
theorem d_M_gets_23 : decode (mB Y_M_gets) 23 = .ok (.aload_n 0, 1) := by decide +kernel
theorem d_M_gets_24 : decode (mB Y_M_gets) 24 = .ok (.iload_n 1, 1) := by decide +kernel
theorem d_M_gets_25 : decode (mB Y_M_gets) 25 = .ok (.iload_n 2, 1) := by decide +kernel
theorem d_M_gets_26 : decode (mB Y_M_gets) 26 = .ok (.invokevirtual 241, 3) := by decide +kernel
theorem d_M_gets_29 : decode (mB Y_M_gets) 29 = .ok (.iload_n 3, 1) := by decide +kernel
theorem d_M_gets_30 : decode (mB Y_M_gets) 30 = .ok (.ifCond .ne 8, 3) := by decide +kernel
theorem d_M_gets_33 : decode (mB Y_M_gets) 33 = .ok (.aload_n 0, 1) := by decide +kernel
theorem d_M_gets_34 : decode (mB Y_M_gets) 34 = .ok (.getfield 221, 3) := by decide +kernel
theorem d_M_gets_37 : decode (mB Y_M_gets) 37 = .ok (.ireturn, 1) := by decide +kernel
theorem d_M_gets_38 : decode (mB Y_M_gets) 38 = .ok (.iload_n 3, 1) := by decide +kernel
theorem d_M_gets_39 : decode (mB Y_M_gets) 39 = .ok (.iconst 1, 1) := by decide +kernel
theorem d_M_gets_40 : decode (mB Y_M_gets) 40 = .ok (.if_icmp .ne 8, 3) := by decide +kernel
theorem d_M_gets_43 : decode (mB Y_M_gets) 43 = .ok (.aload_n 0, 1) := by decide +kernel
theorem d_M_gets_44 : decode (mB Y_M_gets) 44 = .ok (.getfield 206, 3) := by decide +kernel
theorem d_M_gets_47 : decode (mB Y_M_gets) 47 = .ok (.ireturn, 1) := by decide +kernel
theorem d_M_gets_48 : decode (mB Y_M_gets) 48 = .ok (.iload_n 3, 1) := by decide +kernel
theorem d_M_gets_49 : decode (mB Y_M_gets) 49 = .ok (.iconst 2, 1) := by decide +kernel
theorem d_M_gets_50 : decode (mB Y_M_gets) 50 = .ok (.if_icmp .ne 8, 3) := by decide +kernel
theorem d_M_gets_53 : decode (mB Y_M_gets) 53 = .ok (.aload_n 0, 1) := by decide +kernel
theorem d_M_gets_54 : decode (mB Y_M_gets) 54 = .ok (.getfield 209, 3) := by decide +kernel
theorem d_M_gets_57 : decode (mB Y_M_gets) 57 = .ok (.ireturn, 1) := by decide +kernel
theorem d_M_gets_58 : decode (mB Y_M_gets) 58 = .ok (.iload_n 3, 1) := by decide +kernel
theorem d_M_gets_59 : decode (mB Y_M_gets) 59 = .ok (.iconst 3, 1) := by decide +kernel
theorem d_M_gets_60 : decode (mB Y_M_gets) 60 = .ok (.if_icmp .ne 20, 3) := by decide +kernel
theorem d_M_gets_63 : decode (mB Y_M_gets) 63 = .ok (.aload_n 0, 1) := by decide +kernel
theorem d_M_gets_64 : decode (mB Y_M_gets) 64 = .ok (.getfield 206, 3) := by decide +kernel
theorem d_M_gets_67 : decode (mB Y_M_gets) 67 = .ok (.iconst (-1), 1) := by decide +kernel
theorem d_M_gets_68 : decode (mB Y_M_gets) 68 = .ok (.if_icmp .ne 7, 3) := by decide +kernel
theorem d_M_gets_71 : decode (mB Y_M_gets) 71 = .ok (.iconst (-1), 1) := by decide +kernel
theorem d_M_gets_72 : decode (mB Y_M_gets) 72 = .ok (.goto 7, 3) := by decide +kernel
theorem d_M_gets_75 : decode (mB Y_M_gets) 75 = .ok (.aload_n 0, 1) := by decide +kernel
theorem d_M_gets_76 : decode (mB Y_M_gets) 76 = .ok (.getfield 212, 3) := by decide +kernel
theorem d_M_gets_79 : decode (mB Y_M_gets) 79 = .ok (.ireturn, 1) := by decide +kernel
theorem d_M_gets_80 : decode (mB Y_M_gets) 80 = .ok (.iload_n 3, 1) := by decide +kernel
theorem d_M_gets_81 : decode (mB Y_M_gets) 81 = .ok (.iconst 4, 1) := by decide +kernel
theorem d_M_gets_82 : decode (mB Y_M_gets) 82 = .ok (.if_icmp .ne 8, 3) := by decide +kernel
theorem d_M_gets_85 : decode (mB Y_M_gets) 85 = .ok (.aload_n 0, 1) := by decide +kernel
theorem d_M_gets_86 : decode (mB Y_M_gets) 86 = .ok (.getfield 218, 3) := by decide +kernel
theorem d_M_gets_89 : decode (mB Y_M_gets) 89 = .ok (.ireturn, 1) := by decide +kernel
theorem d_M_gets_90 : decode (mB Y_M_gets) 90 = .ok (.aload_n 0, 1) := by decide +kernel
theorem d_M_gets_91 : decode (mB Y_M_gets) 91 = .ok (.iload_n 3, 1) := by decide +kernel
theorem d_M_gets_92 : decode (mB Y_M_gets) 92 = .ok (.bipush 10, 2) := by decide +kernel
theorem d_M_gets_94 : decode (mB Y_M_gets) 94 = .ok (.bipush 9, 2) := by decide +kernel
theorem d_M_gets_96 : decode (mB Y_M_gets) 96 = .ok (.aload_n 0, 1) := by decide +kernel
theorem d_M_gets_97 : decode (mB Y_M_gets) 97 = .ok (.getfield 199, 3) := by decide +kernel
theorem d_M_gets_100 : decode (mB Y_M_gets) 100 = .ok (.iadd, 1) := by decide +kernel
theorem d_M_gets_101 : decode (mB Y_M_gets) 101 = .ok (.invokevirtual 153, 3) := by decide +kernel
theorem d_M_gets_104 : decode (mB Y_M_gets) 104 = .ok (.ifCond .eq 13, 3) := by decide +kernel
theorem d_M_gets_107 : decode (mB Y_M_gets) 107 = .ok (.aload_n 0, 1) := by decide +kernel
theorem d_M_gets_108 : decode (mB Y_M_gets) 108 = .ok (.getfield 48, 3) := by decide +kernel
theorem d_M_gets_111 : decode (mB Y_M_gets) 111 = .ok (.iload_n 3, 1) := by decide +kernel
theorem d_M_gets_112 : decode (mB Y_M_gets) 112 = .ok (.bipush 10, 2) := by decide +kernel
theorem d_M_gets_114 : decode (mB Y_M_gets) 114 = .ok (.isub, 1) := by decide +kernel
theorem d_M_gets_115 : decode (mB Y_M_gets) 115 = .ok (.iaload, 1) := by decide +kernel
theorem d_M_gets_116 : decode (mB Y_M_gets) 116 = .ok (.ireturn, 1) := by decide +kernel
theorem d_M_gets_117 : decode (mB Y_M_gets) 117 = .ok (.aload_n 0, 1) := by decide +kernel
theorem d_M_gets_118 : decode (mB Y_M_gets) 118 = .ok (.iload_n 3, 1) := by decide +kernel
theorem d_M_gets_119 : decode (mB Y_M_gets) 119 = .ok (.bipush 30, 2) := by decide +kernel
theorem d_M_gets_121 : decode (mB Y_M_gets) 121 = .ok (.bipush 29, 2) := by decide +kernel
theorem d_M_gets_123 : decode (mB Y_M_gets) 123 = .ok (.aload_n 0, 1) := by decide +kernel
theorem d_M_gets_124 : decode (mB Y_M_gets) 124 = .ok (.getfield 199, 3) := by decide +kernel
theorem d_M_gets_127 : decode (mB Y_M_gets) 127 = .ok (.iadd, 1) := by decide +kernel
theorem d_M_gets_128 : decode (mB Y_M_gets) 128 = .ok (.invokevirtual 153, 3) := by decide +kernel
theorem d_M_gets_131 : decode (mB Y_M_gets) 131 = .ok (.ifCond .eq 13, 3) := by decide +kernel
theorem d_M_gets_134 : decode (mB Y_M_gets) 134 = .ok (.aload_n 0, 1) := by decide +kernel
theorem d_M_gets_135 : decode (mB Y_M_gets) 135 = .ok (.getfield 51, 3) := by decide +kernel
theorem d_M_gets_138 : decode (mB Y_M_gets) 138 = .ok (.iload_n 3, 1) := by decide +kernel
theorem d_M_gets_139 : decode (mB Y_M_gets) 139 = .ok (.bipush 30, 2) := by decide +kernel
theorem d_M_gets_141 : decode (mB Y_M_gets) 141 = .ok (.isub, 1) := by decide +kernel
theorem d_M_gets_142 : decode (mB Y_M_gets) 142 = .ok (.iaload, 1) := by decide +kernel
theorem d_M_gets_143 : decode (mB Y_M_gets) 143 = .ok (.ireturn, 1) := by decide +kernel
theorem d_M_gets_144 : decode (mB Y_M_gets) 144 = .ok (.aload_n 0, 1) := by decide +kernel
theorem d_M_gets_145 : decode (mB Y_M_gets) 145 = .ok (.iload_n 3, 1) := by decide +kernel
theorem d_M_gets_146 : decode (mB Y_M_gets) 146 = .ok (.bipush 50, 2) := by decide +kernel
theorem d_M_gets_148 : decode (mB Y_M_gets) 148 = .ok (.bipush 49, 2) := by decide +kernel
theorem d_M_gets_150 : decode (mB Y_M_gets) 150 = .ok (.aload_n 0, 1) := by decide +kernel
theorem d_M_gets_151 : decode (mB Y_M_gets) 151 = .ok (.getfield 199, 3) := by decide +kernel
theorem d_M_gets_154 : decode (mB Y_M_gets) 154 = .ok (.iadd, 1) := by decide +kernel
theorem d_M_gets_155 : decode (mB Y_M_gets) 155 = .ok (.invokevirtual 153, 3) := by decide +kernel
theorem d_M_gets_158 : decode (mB Y_M_gets) 158 = .ok (.ifCond .eq 15, 3) := by decide +kernel
theorem d_M_gets_161 : decode (mB Y_M_gets) 161 = .ok (.aload_n 0, 1) := by decide +kernel
theorem d_M_gets_162 : decode (mB Y_M_gets) 162 = .ok (.getfield 54, 3) := by decide +kernel
theorem d_M_gets_165 : decode (mB Y_M_gets) 165 = .ok (.iload_n 3, 1) := by decide +kernel
theorem d_M_gets_166 : decode (mB Y_M_gets) 166 = .ok (.bipush 50, 2) := by decide +kernel
theorem d_M_gets_168 : decode (mB Y_M_gets) 168 = .ok (.isub, 1) := by decide +kernel
theorem d_M_gets_169 : decode (mB Y_M_gets) 169 = .ok (.iaload, 1) := by decide +kernel
theorem d_M_gets_170 : decode (mB Y_M_gets) 170 = .ok (.goto 4, 3) := by decide +kernel
theorem d_M_gets_173 : decode (mB Y_M_gets) 173 = .ok (.iconst (-1), 1) := by decide +kernel
theorem d_M_gets_174 : decode (mB Y_M_gets) 174 = .ok (.ireturn, 1) := by decide +kernel
theorem ro_M_gets_M_hearsShot : roomy Y_M_gets Y_M_hearsShot := ⟨Nat.le_of_ble_eq_true rfl, Nat.le_of_ble_eq_true rfl⟩
theorem ro_M_gets_M_isCell : roomy Y_M_gets Y_M_isCell := ⟨Nat.le_of_ble_eq_true rfl, Nat.le_of_ble_eq_true rfl⟩
theorem ro_M_gets_M_isIn : roomy Y_M_gets Y_M_isIn := ⟨Nat.le_of_ble_eq_true rfl, Nat.le_of_ble_eq_true rfl⟩
theorem ro_M_gets_M_isShot : roomy Y_M_gets Y_M_isShot := ⟨Nat.le_of_ble_eq_true rfl, Nat.le_of_ble_eq_true rfl⟩
def r_M_gets (x1 : Int32) (x2 : Int32) (x3 : Int32) (S : Sto) : Option (Int32 × Sto) :=
  ltS (sw S 104 0 0) (fun S1 =>
  if (r_M_isShot x1 S1) = 0 then
    some ((-1), S1)
  else
    if (r_M_isCell x2) = 0 then
      some ((-1), S1)
    else
      (r_M_hearsShot x1 x2 S1).bind (fun S2 =>
      if x3 = 0 then
        some (S2 104 17, S2)
      else
        if x3 = 1 then
          some (S2 104 19, S2)
        else
          if x3 = 2 then
            some (S2 104 20, S2)
          else
            if x3 = 3 then
              if (S2 104 19) = (-1) then
                some ((-1), S2)
              else
                some (S2 104 21, S2)
            else
              if x3 = 4 then
                some (S2 104 22, S2)
              else
                if (r_M_isIn x3 10 (9 + (S2 104 5))) = 0 then
                  if (r_M_isIn x3 30 (29 + (S2 104 5))) = 0 then
                    if (r_M_isIn x3 50 (49 + (S2 104 5))) = 0 then
                      some ((-1), S2)
                    else
                      chk (inr (x3 - 50) 10) (
                      some (S2 117 ((x3 - 50).toNatClampNeg), S2))
                  else
                    chk (inr (x3 - 30) 10) (
                    some (S2 116 ((x3 - 30).toNatClampNeg), S2))
                else
                  chk (inr (x3 - 10) 10) (
                  some (S2 115 ((x3 - 10).toNatClampNeg), S2))))
set_option maxHeartbeats 4000000 in
set_option maxRecDepth 20000 in
theorem c_M_gets {G : Gl} {L : Shp} (hL : Ext L) (S : Sto) (x1 : Int32) (x2 : Int32) (x3 : Int32)  : Ct Y_M_gets G [rf G 104, .int x1, .int x2, .int x3] L S (fi L) (r_M_gets x1 x2 x3 S) := by
  refine ct_of (by decide +kernel) (Nat.le_of_ble_eq_true rfl) (fun g C => ?_)
  show VO g Y_M_gets G (fun z => Qm g Y_M_gets G (fi L z)) 0 0 0 [(0, rf G 104), (1, .int x1), (2, .int x2), (3, .int x3)] [] L S (r_M_gets x1 x2 x3 S) some
  unfold r_M_gets
  refine v_aload_n (pc := 0) C d_M_gets_0 rfl 0 rfl ?_
  refine v_iconst (pc := 1) C d_M_gets_1 ic_0 ?_
  refine v_putI (pc := 2) C fp_M_150 (sh_104 hL) rfl d_M_gets_2 (fun S1 => ?_)
  refine v_aload_n (pc := 5) C d_M_gets_5 rfl 0 rfl ?_
  refine v_iload_n (pc := 6) C d_M_gets_6 rfl 1 rfl ?_
  refine v_ct (pc := 7) (inv_V (As := [.int x1]) (st := []) C ml_M_238 mv_M_isShot ro_M_gets_M_isShot (sh_104 hL) rfl rfl rfl rfl (Nat.le_of_ble_eq_true rfl) d_M_gets_7) (c_M_isShot hL S1 x1) ⟨rfl, rfl⟩ ⟨Nat.zero_le _, Nat.zero_le _⟩ ?_
  refine v_if_eq (pc := 10) (tgt := 21) C d_M_gets_10 rfl (fun _ => ?_) (fun _ => ?_)
  · refine v_iconst (pc := 21) C d_M_gets_21 ic_m1 ?_
    exact v_iret (z := ((-1), S1)) C d_M_gets_22 rfl ⟨Nat.zero_le _, Nat.zero_le _⟩ (rfl) rfl
  · refine v_aload_n (pc := 13) C d_M_gets_13 rfl 0 rfl ?_
    refine v_iload_n (pc := 14) C d_M_gets_14 rfl 2 rfl ?_
    refine v_ct (pc := 15) (inv_V (As := [.int x2]) (st := []) C ml_M_180 mv_M_isCell ro_M_gets_M_isCell (sh_104 hL) rfl rfl rfl rfl (Nat.le_of_ble_eq_true rfl) d_M_gets_15) (c_M_isCell hL S1 x2) ⟨rfl, rfl⟩ ⟨Nat.zero_le _, Nat.zero_le _⟩ ?_
    refine v_if_ne (pc := 18) (tgt := 23) C d_M_gets_18 rfl (fun _ => ?_) (fun _ => ?_)
    · refine v_aload_n (pc := 23) C d_M_gets_23 rfl 0 rfl ?_
      refine v_iload_n (pc := 24) C d_M_gets_24 rfl 1 rfl ?_
      refine v_iload_n (pc := 25) C d_M_gets_25 rfl 2 rfl ?_
      refine v_cv (pc := 26) (inv_V (As := [.int x1, .int x2]) (st := []) C ml_M_241 mv_M_hearsShot ro_M_gets_M_hearsShot (sh_104 hL) rfl rfl rfl rfl (Nat.le_of_ble_eq_true rfl) d_M_gets_26) (c_M_hearsShot hL S1 x1 x2) ⟨rfl, rfl⟩ ⟨Nat.zero_le _, Nat.zero_le _⟩ (fun S2 => ?_)
      refine v_iload_n (pc := 29) C d_M_gets_29 rfl 3 rfl ?_
      refine v_if_ne (pc := 30) (tgt := 38) C d_M_gets_30 rfl (fun _ => ?_) (fun _ => ?_)
      · refine v_iload_n (pc := 38) C d_M_gets_38 rfl 3 rfl ?_
        refine v_iconst (pc := 39) C d_M_gets_39 ic_1 ?_
        refine v_icmp_ne (pc := 40) (tgt := 48) C d_M_gets_40 rfl (fun _ => ?_) (fun _ => ?_)
        · refine v_iload_n (pc := 48) C d_M_gets_48 rfl 3 rfl ?_
          refine v_iconst (pc := 49) C d_M_gets_49 ic_2 ?_
          refine v_icmp_ne (pc := 50) (tgt := 58) C d_M_gets_50 rfl (fun _ => ?_) (fun _ => ?_)
          · refine v_iload_n (pc := 58) C d_M_gets_58 rfl 3 rfl ?_
            refine v_iconst (pc := 59) C d_M_gets_59 ic_3 ?_
            refine v_icmp_ne (pc := 60) (tgt := 80) C d_M_gets_60 rfl (fun _ => ?_) (fun _ => ?_)
            · refine v_iload_n (pc := 80) C d_M_gets_80 rfl 3 rfl ?_
              refine v_iconst (pc := 81) C d_M_gets_81 ic_4 ?_
              refine v_icmp_ne (pc := 82) (tgt := 90) C d_M_gets_82 rfl (fun _ => ?_) (fun _ => ?_)
              · refine v_aload_n (pc := 90) C d_M_gets_90 rfl 0 rfl ?_
                refine v_iload_n (pc := 91) C d_M_gets_91 rfl 3 rfl ?_
                refine v_bipush (pc := 92) C d_M_gets_92 bp_10 ?_
                refine v_bipush (pc := 94) C d_M_gets_94 bp_9 ?_
                refine v_aload_n (pc := 96) C d_M_gets_96 rfl 0 rfl ?_
                refine v_getI (pc := 97) C fl_M_199 (sh_104 hL) rfl d_M_gets_97 ?_
                refine v_iadd (pc := 100) C d_M_gets_100 ?_
                refine v_ct (pc := 101) (inv_V (As := [.int x3, .int 10, .int (9 + (S2 104 5))]) (st := []) C ml_M_153 mv_M_isIn ro_M_gets_M_isIn (sh_104 hL) rfl rfl rfl rfl (Nat.le_of_ble_eq_true rfl) d_M_gets_101) (c_M_isIn hL S2 x3 10 (9 + (S2 104 5))) ⟨rfl, rfl⟩ ⟨Nat.zero_le _, Nat.zero_le _⟩ ?_
                refine v_if_eq (pc := 104) (tgt := 117) C d_M_gets_104 rfl (fun _ => ?_) (fun _ => ?_)
                · refine v_aload_n (pc := 117) C d_M_gets_117 rfl 0 rfl ?_
                  refine v_iload_n (pc := 118) C d_M_gets_118 rfl 3 rfl ?_
                  refine v_bipush (pc := 119) C d_M_gets_119 bp_30 ?_
                  refine v_bipush (pc := 121) C d_M_gets_121 bp_29 ?_
                  refine v_aload_n (pc := 123) C d_M_gets_123 rfl 0 rfl ?_
                  refine v_getI (pc := 124) C fl_M_199 (sh_104 hL) rfl d_M_gets_124 ?_
                  refine v_iadd (pc := 127) C d_M_gets_127 ?_
                  refine v_ct (pc := 128) (inv_V (As := [.int x3, .int 30, .int (29 + (S2 104 5))]) (st := []) C ml_M_153 mv_M_isIn ro_M_gets_M_isIn (sh_104 hL) rfl rfl rfl rfl (Nat.le_of_ble_eq_true rfl) d_M_gets_128) (c_M_isIn hL S2 x3 30 (29 + (S2 104 5))) ⟨rfl, rfl⟩ ⟨Nat.zero_le _, Nat.zero_le _⟩ ?_
                  refine v_if_eq (pc := 131) (tgt := 144) C d_M_gets_131 rfl (fun _ => ?_) (fun _ => ?_)
                  · refine v_aload_n (pc := 144) C d_M_gets_144 rfl 0 rfl ?_
                    refine v_iload_n (pc := 145) C d_M_gets_145 rfl 3 rfl ?_
                    refine v_bipush (pc := 146) C d_M_gets_146 bp_50 ?_
                    refine v_bipush (pc := 148) C d_M_gets_148 bp_49 ?_
                    refine v_aload_n (pc := 150) C d_M_gets_150 rfl 0 rfl ?_
                    refine v_getI (pc := 151) C fl_M_199 (sh_104 hL) rfl d_M_gets_151 ?_
                    refine v_iadd (pc := 154) C d_M_gets_154 ?_
                    refine v_ct (pc := 155) (inv_V (As := [.int x3, .int 50, .int (49 + (S2 104 5))]) (st := []) C ml_M_153 mv_M_isIn ro_M_gets_M_isIn (sh_104 hL) rfl rfl rfl rfl (Nat.le_of_ble_eq_true rfl) d_M_gets_155) (c_M_isIn hL S2 x3 50 (49 + (S2 104 5))) ⟨rfl, rfl⟩ ⟨Nat.zero_le _, Nat.zero_le _⟩ ?_
                    refine v_if_eq (pc := 158) (tgt := 173) C d_M_gets_158 rfl (fun _ => ?_) (fun _ => ?_)
                    · refine v_iconst (pc := 173) C d_M_gets_173 ic_m1 ?_
                      exact v_iret (z := ((-1), S2)) C d_M_gets_174 rfl ⟨Nat.zero_le _, Nat.zero_le _⟩ (rfl) rfl
                    · refine v_aload_n (pc := 161) C d_M_gets_161 rfl 0 rfl ?_
                      refine v_getR (pc := 162) C fl_M_54 (sh_104 hL) rfl d_M_gets_162 ?_
                      refine v_iload_n (pc := 165) C d_M_gets_165 rfl 3 rfl ?_
                      refine v_bipush (pc := 166) C d_M_gets_166 bp_50 ?_
                      refine v_isub (pc := 168) C d_M_gets_168 ?_
                      refine v_iald (pc := 169) C (sh_117 hL) d_M_gets_169 (fun _ => ?_)
                      refine v_goto (pc := 170) (tgt := 174) C d_M_gets_170 rfl ?_
                      exact v_iret (z := (S2 117 ((x3 - 50).toNatClampNeg), S2)) C d_M_gets_174 rfl ⟨Nat.zero_le _, Nat.zero_le _⟩ (rfl) rfl
                  · refine v_aload_n (pc := 134) C d_M_gets_134 rfl 0 rfl ?_
                    refine v_getR (pc := 135) C fl_M_51 (sh_104 hL) rfl d_M_gets_135 ?_
                    refine v_iload_n (pc := 138) C d_M_gets_138 rfl 3 rfl ?_
                    refine v_bipush (pc := 139) C d_M_gets_139 bp_30 ?_
                    refine v_isub (pc := 141) C d_M_gets_141 ?_
                    refine v_iald (pc := 142) C (sh_116 hL) d_M_gets_142 (fun _ => ?_)
                    exact v_iret (z := (S2 116 ((x3 - 30).toNatClampNeg), S2)) C d_M_gets_143 rfl ⟨Nat.zero_le _, Nat.zero_le _⟩ (rfl) rfl
                · refine v_aload_n (pc := 107) C d_M_gets_107 rfl 0 rfl ?_
                  refine v_getR (pc := 108) C fl_M_48 (sh_104 hL) rfl d_M_gets_108 ?_
                  refine v_iload_n (pc := 111) C d_M_gets_111 rfl 3 rfl ?_
                  refine v_bipush (pc := 112) C d_M_gets_112 bp_10 ?_
                  refine v_isub (pc := 114) C d_M_gets_114 ?_
                  refine v_iald (pc := 115) C (sh_115 hL) d_M_gets_115 (fun _ => ?_)
                  exact v_iret (z := (S2 115 ((x3 - 10).toNatClampNeg), S2)) C d_M_gets_116 rfl ⟨Nat.zero_le _, Nat.zero_le _⟩ (rfl) rfl
              · refine v_aload_n (pc := 85) C d_M_gets_85 rfl 0 rfl ?_
                refine v_getI (pc := 86) C fl_M_218 (sh_104 hL) rfl d_M_gets_86 ?_
                exact v_iret (z := (S2 104 22, S2)) C d_M_gets_89 rfl ⟨Nat.zero_le _, Nat.zero_le _⟩ (rfl) rfl
            · refine v_aload_n (pc := 63) C d_M_gets_63 rfl 0 rfl ?_
              refine v_getI (pc := 64) C fl_M_206 (sh_104 hL) rfl d_M_gets_64 ?_
              refine v_iconst (pc := 67) C d_M_gets_67 ic_m1 ?_
              refine v_icmp_ne (pc := 68) (tgt := 75) C d_M_gets_68 rfl (fun _ => ?_) (fun _ => ?_)
              · refine v_aload_n (pc := 75) C d_M_gets_75 rfl 0 rfl ?_
                refine v_getI (pc := 76) C fl_M_212 (sh_104 hL) rfl d_M_gets_76 ?_
                exact v_iret (z := (S2 104 21, S2)) C d_M_gets_79 rfl ⟨Nat.zero_le _, Nat.zero_le _⟩ (rfl) rfl
              · refine v_iconst (pc := 71) C d_M_gets_71 ic_m1 ?_
                refine v_goto (pc := 72) (tgt := 79) C d_M_gets_72 rfl ?_
                exact v_iret (z := ((-1), S2)) C d_M_gets_79 rfl ⟨Nat.zero_le _, Nat.zero_le _⟩ (rfl) rfl
          · refine v_aload_n (pc := 53) C d_M_gets_53 rfl 0 rfl ?_
            refine v_getI (pc := 54) C fl_M_209 (sh_104 hL) rfl d_M_gets_54 ?_
            exact v_iret (z := (S2 104 20, S2)) C d_M_gets_57 rfl ⟨Nat.zero_le _, Nat.zero_le _⟩ (rfl) rfl
        · refine v_aload_n (pc := 43) C d_M_gets_43 rfl 0 rfl ?_
          refine v_getI (pc := 44) C fl_M_206 (sh_104 hL) rfl d_M_gets_44 ?_
          exact v_iret (z := (S2 104 19, S2)) C d_M_gets_47 rfl ⟨Nat.zero_le _, Nat.zero_le _⟩ (rfl) rfl
      · refine v_aload_n (pc := 33) C d_M_gets_33 rfl 0 rfl ?_
        refine v_getI (pc := 34) C fl_M_221 (sh_104 hL) rfl d_M_gets_34 ?_
        exact v_iret (z := (S2 104 17, S2)) C d_M_gets_37 rfl ⟨Nat.zero_le _, Nat.zero_le _⟩ (rfl) rfl
    · refine v_iconst (pc := 21) C d_M_gets_21 ic_m1 ?_
      exact v_iret (z := ((-1), S1)) C d_M_gets_22 rfl ⟨Nat.zero_le _, Nat.zero_le _⟩ (rfl) rfl
-- M_puts
theorem d_M_puts_0 : decode (mB Y_M_puts) 0 = .ok (.bipush 24, 2) := by decide +kernel
theorem d_M_puts_2 : decode (mB Y_M_puts) 2 = .ok (.istore_n 2, 1) := by decide +kernel
theorem d_M_puts_3 : decode (mB Y_M_puts) 3 = .ok (.iload_n 2, 1) := by decide +kernel
theorem d_M_puts_4 : decode (mB Y_M_puts) 4 = .ok (.ifCond .lt 35, 3) := by decide +kernel
theorem d_M_puts_7 : decode (mB Y_M_puts) 7 = .ok (.aload_n 0, 1) := by decide +kernel
theorem d_M_puts_8 : decode (mB Y_M_puts) 8 = .ok (.getfield 57, 3) := by decide +kernel
theorem d_M_puts_11 : decode (mB Y_M_puts) 11 = .ok (.aload_n 0, 1) := by decide +kernel
theorem d_M_puts_12 : decode (mB Y_M_puts) 12 = .ok (.getfield 245, 3) := by decide +kernel
theorem d_M_puts_15 : decode (mB Y_M_puts) 15 = .ok (.iload_n 1, 1) := by decide +kernel
theorem d_M_puts_16 : decode (mB Y_M_puts) 16 = .ok (.iload_n 2, 1) := by decide +kernel
theorem d_M_puts_17 : decode (mB Y_M_puts) 17 = .ok (.ishr, 1) := by decide +kernel
theorem d_M_puts_18 : decode (mB Y_M_puts) 18 = .ok (.sipush 255, 3) := by decide +kernel
theorem d_M_puts_21 : decode (mB Y_M_puts) 21 = .ok (.iand, 1) := by decide +kernel
theorem d_M_puts_22 : decode (mB Y_M_puts) 22 = .ok (.iastore, 1) := by decide +kernel
theorem d_M_puts_23 : decode (mB Y_M_puts) 23 = .ok (.aload_n 0, 1) := by decide +kernel
theorem d_M_puts_24 : decode (mB Y_M_puts) 24 = .ok (.aload_n 0, 1) := by decide +kernel
theorem d_M_puts_25 : decode (mB Y_M_puts) 25 = .ok (.getfield 245, 3) := by decide +kernel
theorem d_M_puts_28 : decode (mB Y_M_puts) 28 = .ok (.iconst 1, 1) := by decide +kernel
theorem d_M_puts_29 : decode (mB Y_M_puts) 29 = .ok (.iadd, 1) := by decide +kernel
theorem d_M_puts_30 : decode (mB Y_M_puts) 30 = .ok (.putfield 245, 3) := by decide +kernel
theorem d_M_puts_33 : decode (mB Y_M_puts) 33 = .ok (.iinc 2 (-8), 3) := by decide +kernel
theorem d_M_puts_36 : decode (mB Y_M_puts) 36 = .ok (.goto (-33), 3) := by decide +kernel
theorem d_M_puts_39 : decode (mB Y_M_puts) 39 = .ok (.return_, 1) := by decide +kernel
def r_M_puts_L3 (y1_ : Int32) : Nat → Int32 → Sto → Option (Int32 × Sto)
  | 0, _, _ => none
  | n + 1, x2_, S =>
    if x2_ < 0 then
      some (x2_, S)
    else
      chk (inr (S 104 27) 400) (
      ltS (sw S 118 ((S 104 27).toNatClampNeg) ((y1_ >>> (x2_ &&& 31)) &&& 255)) (fun S1 =>
      ltS (sw S1 104 27 ((S1 104 27) + 1)) (fun S2 =>
      lt (x2_ + (-8)) (fun v3 =>
      r_M_puts_L3 y1_ n v3 S2))))
set_option maxHeartbeats 4000000 in
set_option maxRecDepth 20000 in
theorem w_M_puts_L3 {g : Gm} {G : Gl} {L : Shp} (C : Cx g Y_M_puts G) (hL : Ext L) (y1_ : Int32)  :
    ∀ (n : Nat) (x2_ : Int32) (S : Sto) (K : (Int32 × Sto) → Option Sto), (∀ (x2_ : Int32) (S : Sto), VO g Y_M_puts G (fun z => Qm g Y_M_puts G (fv L z)) 0 0 39 [] [] L S (some (x2_, S)) K) → VO g Y_M_puts G (fun z => Qm g Y_M_puts G (fv L z)) 0 0 3 [(0, rf G 104), (1, .int y1_), (2, .int x2_)] [] L S (r_M_puts_L3 y1_ n x2_ S) K := by
  intro n
  induction n with
  | zero => intro x2_ S K; intros; exact v_none
  | succ n ih =>
    intro x2_ S K hK
    rw [r_M_puts_L3]
    refine v_iload_n (pc := 3) C d_M_puts_3 rfl 2 rfl ?_
    refine v_if_lt (pc := 4) (tgt := 39) C d_M_puts_4 rfl (fun _ => ?_) (fun _ => ?_)
    · refine v_sub [] rfl ?_
      exact hK x2_ S
    · refine v_aload_n (pc := 7) C d_M_puts_7 rfl 0 rfl ?_
      refine v_getR (pc := 8) C fl_M_57 (sh_104 hL) rfl d_M_puts_8 ?_
      refine v_aload_n (pc := 11) C d_M_puts_11 rfl 0 rfl ?_
      refine v_getI (pc := 12) C fl_M_245 (sh_104 hL) rfl d_M_puts_12 ?_
      refine v_iload_n (pc := 15) C d_M_puts_15 rfl 1 rfl ?_
      refine v_iload_n (pc := 16) C d_M_puts_16 rfl 2 rfl ?_
      refine v_ishr (pc := 17) C d_M_puts_17 ?_
      refine v_sipush (pc := 18) C d_M_puts_18 sp_255 ?_
      refine v_iand (pc := 21) C d_M_puts_21 ?_
      refine v_iast (pc := 22) C (sh_118 hL) d_M_puts_22 (fun _ S1 => ?_)
      refine v_aload_n (pc := 23) C d_M_puts_23 rfl 0 rfl ?_
      refine v_aload_n (pc := 24) C d_M_puts_24 rfl 0 rfl ?_
      refine v_getI (pc := 25) C fl_M_245 (sh_104 hL) rfl d_M_puts_25 ?_
      refine v_iconst (pc := 28) C d_M_puts_28 ic_1 ?_
      refine v_iadd (pc := 29) C d_M_puts_29 ?_
      refine v_putI (pc := 30) C fp_M_245 (sh_104 hL) rfl d_M_puts_30 (fun S2 => ?_)
      refine v_iinc (pc := 33) (p := 2) (c := (-8)) C d_M_puts_33 rfl (by decide) (by decide) (fun v3 => [(2, .int v3), (0, rf G 104), (1, .int y1_)]) (fun _ => rfl) (fun v3 => ?_)
      refine v_goto (pc := 36) (tgt := 3) C d_M_puts_36 rfl ?_
      refine v_sub [1, 2, 0] rfl ?_
      exact ih v3 S2 K hK
def r_M_puts (x1 : Int32) (S : Sto) : Option Sto :=
  (r_M_puts_L3 x1 fu 24 S).bind (fun (v1, S2) =>
  some S2)
set_option maxHeartbeats 4000000 in
set_option maxRecDepth 20000 in
theorem c_M_puts {G : Gl} {L : Shp} (hL : Ext L) (S : Sto) (x1 : Int32)  : Ct Y_M_puts G [rf G 104, .int x1] L S (fv L) (r_M_puts x1 S) := by
  refine ct_of (by decide +kernel) (Nat.le_of_ble_eq_true rfl) (fun g C => ?_)
  show VO g Y_M_puts G (fun z => Qm g Y_M_puts G (fv L z)) 0 0 0 [(0, rf G 104), (1, .int x1)] [] L S (r_M_puts x1 S) some
  unfold r_M_puts
  refine v_bipush (pc := 0) C d_M_puts_0 bp_24 ?_
  refine v_istore_n (pc := 2) (lv' := [(2, .int 24), (0, rf G 104), (1, .int x1)]) C d_M_puts_2 rfl (by decide) rfl ?_
  refine v_sub [1, 2, 0] rfl ?_
  refine v_bind ?_
  refine w_M_puts_L3 C hL x1  fu 24 S _ (fun v1 S2 => ?_) 
  refine v_some ?_
  exact v_vret C d_M_puts_39 rfl ⟨Nat.zero_le _, Nat.zero_le _⟩ rfl rfl
-- M_feed
theorem d_M_feed_0 : decode (mB Y_M_feed) 0 = .ok (.aload_n 0, 1) := by decide +kernel
theorem d_M_feed_1 : decode (mB Y_M_feed) 1 = .ok (.iconst 0, 1) := by decide +kernel
theorem d_M_feed_2 : decode (mB Y_M_feed) 2 = .ok (.putfield 150, 3) := by decide +kernel
theorem d_M_feed_5 : decode (mB Y_M_feed) 5 = .ok (.aload_n 0, 1) := by decide +kernel
theorem d_M_feed_6 : decode (mB Y_M_feed) 6 = .ok (.getfield 245, 3) := by decide +kernel
theorem d_M_feed_9 : decode (mB Y_M_feed) 9 = .ok (.sipush 380, 3) := by decide +kernel
theorem d_M_feed_12 : decode (mB Y_M_feed) 12 = .ok (.if_icmp .le 5, 3) := by decide +kernel
theorem d_M_feed_15 : decode (mB Y_M_feed) 15 = .ok (.iconst (-1), 1) := by decide +kernel
theorem d_M_feed_16 : decode (mB Y_M_feed) 16 = .ok (.ireturn, 1) := by decide +kernel
theorem d_M_feed_17 : decode (mB Y_M_feed) 17 = .ok (.aload_n 0, 1) := by decide +kernel
theorem d_M_feed_18 : decode (mB Y_M_feed) 18 = .ok (.iload_n 1, 1) := by decide +kernel
theorem d_M_feed_19 : decode (mB Y_M_feed) 19 = .ok (.invokevirtual 248, 3) := by decide +kernel
theorem d_M_feed_22 : decode (mB Y_M_feed) 22 = .ok (.aload_n 0, 1) := by decide +kernel
theorem d_M_feed_23 : decode (mB Y_M_feed) 23 = .ok (.iload_n 2, 1) := by decide +kernel
theorem d_M_feed_24 : decode (mB Y_M_feed) 24 = .ok (.invokevirtual 248, 3) := by decide +kernel
theorem d_M_feed_27 : decode (mB Y_M_feed) 27 = .ok (.aload_n 0, 1) := by decide +kernel
theorem d_M_feed_28 : decode (mB Y_M_feed) 28 = .ok (.iload_n 3, 1) := by decide +kernel
theorem d_M_feed_29 : decode (mB Y_M_feed) 29 = .ok (.invokevirtual 248, 3) := by decide +kernel
theorem d_M_feed_32 : decode (mB Y_M_feed) 32 = .ok (.aload_n 0, 1) := by decide +kernel
theorem d_M_feed_33 : decode (mB Y_M_feed) 33 = .ok (.iload 4, 2) := by decide +kernel
theorem d_M_feed_35 : decode (mB Y_M_feed) 35 = .ok (.invokevirtual 248, 3) := by decide +kernel
theorem d_M_feed_38 : decode (mB Y_M_feed) 38 = .ok (.aload_n 0, 1) := by decide +kernel
theorem d_M_feed_39 : decode (mB Y_M_feed) 39 = .ok (.iload 5, 2) := by decide +kernel
theorem d_M_feed_41 : decode (mB Y_M_feed) 41 = .ok (.invokevirtual 248, 3) := by decide +kernel
theorem d_M_feed_44 : decode (mB Y_M_feed) 44 = .ok (.aload_n 0, 1) := by decide +kernel
theorem d_M_feed_45 : decode (mB Y_M_feed) 45 = .ok (.getfield 245, 3) := by decide +kernel
theorem d_M_feed_48 : decode (mB Y_M_feed) 48 = .ok (.ireturn, 1) := by decide +kernel
theorem ro_M_feed_M_puts : roomy Y_M_feed Y_M_puts := ⟨Nat.le_of_ble_eq_true rfl, Nat.le_of_ble_eq_true rfl⟩
def r_M_feed (x1 : Int32) (x2 : Int32) (x3 : Int32) (x4 : Int32) (x5 : Int32) (S : Sto) : Option (Int32 × Sto) :=
  ltS (sw S 104 0 0) (fun S1 =>
  if (S1 104 27) ≤ 380 then
    (r_M_puts x1 S1).bind (fun S2 =>
    (r_M_puts x2 S2).bind (fun S3 =>
    (r_M_puts x3 S3).bind (fun S4 =>
    (r_M_puts x4 S4).bind (fun S5 =>
    (r_M_puts x5 S5).bind (fun S6 =>
    some (S6 104 27, S6))))))
  else
    some ((-1), S1))
set_option maxHeartbeats 4000000 in
set_option maxRecDepth 20000 in
theorem c_M_feed {G : Gl} {L : Shp} (hL : Ext L) (S : Sto) (x1 : Int32) (x2 : Int32) (x3 : Int32) (x4 : Int32) (x5 : Int32)  : Ct Y_M_feed G [rf G 104, .int x1, .int x2, .int x3, .int x4, .int x5] L S (fi L) (r_M_feed x1 x2 x3 x4 x5 S) := by
  refine ct_of (by decide +kernel) (Nat.le_of_ble_eq_true rfl) (fun g C => ?_)
  show VO g Y_M_feed G (fun z => Qm g Y_M_feed G (fi L z)) 0 0 0 [(0, rf G 104), (1, .int x1), (2, .int x2), (3, .int x3), (4, .int x4), (5, .int x5)] [] L S (r_M_feed x1 x2 x3 x4 x5 S) some
  unfold r_M_feed
  refine v_aload_n (pc := 0) C d_M_feed_0 rfl 0 rfl ?_
  refine v_iconst (pc := 1) C d_M_feed_1 ic_0 ?_
  refine v_putI (pc := 2) C fp_M_150 (sh_104 hL) rfl d_M_feed_2 (fun S1 => ?_)
  refine v_aload_n (pc := 5) C d_M_feed_5 rfl 0 rfl ?_
  refine v_getI (pc := 6) C fl_M_245 (sh_104 hL) rfl d_M_feed_6 ?_
  refine v_sipush (pc := 9) C d_M_feed_9 sp_380 ?_
  refine v_icmp_le (pc := 12) (tgt := 17) C d_M_feed_12 rfl (fun _ => ?_) (fun _ => ?_)
  · refine v_aload_n (pc := 17) C d_M_feed_17 rfl 0 rfl ?_
    refine v_iload_n (pc := 18) C d_M_feed_18 rfl 1 rfl ?_
    refine v_cv (pc := 19) (inv_V (As := [.int x1]) (st := []) C ml_M_248 mv_M_puts ro_M_feed_M_puts (sh_104 hL) rfl rfl rfl rfl (Nat.le_of_ble_eq_true rfl) d_M_feed_19) (c_M_puts hL S1 x1) ⟨rfl, rfl⟩ ⟨Nat.zero_le _, Nat.zero_le _⟩ (fun S2 => ?_)
    refine v_aload_n (pc := 22) C d_M_feed_22 rfl 0 rfl ?_
    refine v_iload_n (pc := 23) C d_M_feed_23 rfl 2 rfl ?_
    refine v_cv (pc := 24) (inv_V (As := [.int x2]) (st := []) C ml_M_248 mv_M_puts ro_M_feed_M_puts (sh_104 hL) rfl rfl rfl rfl (Nat.le_of_ble_eq_true rfl) d_M_feed_24) (c_M_puts hL S2 x2) ⟨rfl, rfl⟩ ⟨Nat.zero_le _, Nat.zero_le _⟩ (fun S3 => ?_)
    refine v_aload_n (pc := 27) C d_M_feed_27 rfl 0 rfl ?_
    refine v_iload_n (pc := 28) C d_M_feed_28 rfl 3 rfl ?_
    refine v_cv (pc := 29) (inv_V (As := [.int x3]) (st := []) C ml_M_248 mv_M_puts ro_M_feed_M_puts (sh_104 hL) rfl rfl rfl rfl (Nat.le_of_ble_eq_true rfl) d_M_feed_29) (c_M_puts hL S3 x3) ⟨rfl, rfl⟩ ⟨Nat.zero_le _, Nat.zero_le _⟩ (fun S4 => ?_)
    refine v_aload_n (pc := 32) C d_M_feed_32 rfl 0 rfl ?_
    refine v_iload (pc := 33) C d_M_feed_33 4 rfl ?_
    refine v_cv (pc := 35) (inv_V (As := [.int x4]) (st := []) C ml_M_248 mv_M_puts ro_M_feed_M_puts (sh_104 hL) rfl rfl rfl rfl (Nat.le_of_ble_eq_true rfl) d_M_feed_35) (c_M_puts hL S4 x4) ⟨rfl, rfl⟩ ⟨Nat.zero_le _, Nat.zero_le _⟩ (fun S5 => ?_)
    refine v_aload_n (pc := 38) C d_M_feed_38 rfl 0 rfl ?_
    refine v_iload (pc := 39) C d_M_feed_39 5 rfl ?_
    refine v_cv (pc := 41) (inv_V (As := [.int x5]) (st := []) C ml_M_248 mv_M_puts ro_M_feed_M_puts (sh_104 hL) rfl rfl rfl rfl (Nat.le_of_ble_eq_true rfl) d_M_feed_41) (c_M_puts hL S5 x5) ⟨rfl, rfl⟩ ⟨Nat.zero_le _, Nat.zero_le _⟩ (fun S6 => ?_)
    refine v_aload_n (pc := 44) C d_M_feed_44 rfl 0 rfl ?_
    refine v_getI (pc := 45) C fl_M_245 (sh_104 hL) rfl d_M_feed_45 ?_
    exact v_iret (z := (S6 104 27, S6)) C d_M_feed_48 rfl ⟨Nat.zero_le _, Nat.zero_le _⟩ (rfl) rfl
  · refine v_iconst (pc := 15) C d_M_feed_15 ic_m1 ?_
    exact v_iret (z := ((-1), S1)) C d_M_feed_16 rfl ⟨Nat.zero_le _, Nat.zero_le _⟩ (rfl) rfl
-- M_end
theorem d_M_end_0 : decode (mB Y_M_end) 0 = .ok (.aload_n 0, 1) := by decide +kernel
theorem d_M_end_1 : decode (mB Y_M_end) 1 = .ok (.iconst 0, 1) := by decide +kernel
theorem d_M_end_2 : decode (mB Y_M_end) 2 = .ok (.putfield 150, 3) := by decide +kernel
theorem d_M_end_5 : decode (mB Y_M_end) 5 = .ok (.aload_n 0, 1) := by decide +kernel
theorem d_M_end_6 : decode (mB Y_M_end) 6 = .ok (.iload_n 1, 1) := by decide +kernel
theorem d_M_end_7 : decode (mB Y_M_end) 7 = .ok (.iconst 0, 1) := by decide +kernel
theorem d_M_end_8 : decode (mB Y_M_end) 8 = .ok (.aload_n 0, 1) := by decide +kernel
theorem d_M_end_9 : decode (mB Y_M_end) 9 = .ok (.getfield 245, 3) := by decide +kernel
theorem d_M_end_12 : decode (mB Y_M_end) 12 = .ok (.invokevirtual 153, 3) := by decide +kernel
theorem d_M_end_15 : decode (mB Y_M_end) 15 = .ok (.ifCond .ne 5, 3) := by decide +kernel
theorem d_M_end_18 : decode (mB Y_M_end) 18 = .ok (.iconst 0, 1) := by decide +kernel
theorem d_M_end_19 : decode (mB Y_M_end) 19 = .ok (.ireturn, 1) := by decide +kernel
theorem d_M_end_20 : decode (mB Y_M_end) 20 = .ok (.aload_n 0, 1) := by decide +kernel
theorem d_M_end_21 : decode (mB Y_M_end) 21 = .ok (.iload_n 1, 1) := by decide +kernel
theorem d_M_end_22 : decode (mB Y_M_end) 22 = .ok (.putfield 245, 3) := by decide +kernel
theorem d_M_end_25 : decode (mB Y_M_end) 25 = .ok (.iconst 1, 1) := by decide +kernel
theorem d_M_end_26 : decode (mB Y_M_end) 26 = .ok (.ireturn, 1) := by decide +kernel
theorem ro_M_end_M_isIn : roomy Y_M_end Y_M_isIn := ⟨Nat.le_of_ble_eq_true rfl, Nat.le_of_ble_eq_true rfl⟩
def r_M_end (x1 : Int32) (S : Sto) : Option (Int32 × Sto) :=
  ltS (sw S 104 0 0) (fun S1 =>
  if (r_M_isIn x1 0 (S1 104 27)) = 0 then
    some (0, S1)
  else
    ltS (sw S1 104 27 x1) (fun S2 =>
    some (1, S2)))
set_option maxHeartbeats 4000000 in
set_option maxRecDepth 20000 in
theorem c_M_end {G : Gl} {L : Shp} (hL : Ext L) (S : Sto) (x1 : Int32)  : Ct Y_M_end G [rf G 104, .int x1] L S (fi L) (r_M_end x1 S) := by
  refine ct_of (by decide +kernel) (Nat.le_of_ble_eq_true rfl) (fun g C => ?_)
  show VO g Y_M_end G (fun z => Qm g Y_M_end G (fi L z)) 0 0 0 [(0, rf G 104), (1, .int x1)] [] L S (r_M_end x1 S) some
  unfold r_M_end
  refine v_aload_n (pc := 0) C d_M_end_0 rfl 0 rfl ?_
  refine v_iconst (pc := 1) C d_M_end_1 ic_0 ?_
  refine v_putI (pc := 2) C fp_M_150 (sh_104 hL) rfl d_M_end_2 (fun S1 => ?_)
  refine v_aload_n (pc := 5) C d_M_end_5 rfl 0 rfl ?_
  refine v_iload_n (pc := 6) C d_M_end_6 rfl 1 rfl ?_
  refine v_iconst (pc := 7) C d_M_end_7 ic_0 ?_
  refine v_aload_n (pc := 8) C d_M_end_8 rfl 0 rfl ?_
  refine v_getI (pc := 9) C fl_M_245 (sh_104 hL) rfl d_M_end_9 ?_
  refine v_ct (pc := 12) (inv_V (As := [.int x1, .int 0, .int (S1 104 27)]) (st := []) C ml_M_153 mv_M_isIn ro_M_end_M_isIn (sh_104 hL) rfl rfl rfl rfl (Nat.le_of_ble_eq_true rfl) d_M_end_12) (c_M_isIn hL S1 x1 0 (S1 104 27)) ⟨rfl, rfl⟩ ⟨Nat.zero_le _, Nat.zero_le _⟩ ?_
  refine v_if_ne (pc := 15) (tgt := 20) C d_M_end_15 rfl (fun _ => ?_) (fun _ => ?_)
  · refine v_aload_n (pc := 20) C d_M_end_20 rfl 0 rfl ?_
    refine v_iload_n (pc := 21) C d_M_end_21 rfl 1 rfl ?_
    refine v_putI (pc := 22) C fp_M_245 (sh_104 hL) rfl d_M_end_22 (fun S2 => ?_)
    refine v_iconst (pc := 25) C d_M_end_25 ic_1 ?_
    exact v_zret (z := (1, S2)) C d_M_end_26 rfl (b01_n (by decide)) ⟨Nat.zero_le _, Nat.zero_le _⟩ (rfl) rfl
  · refine v_iconst (pc := 18) C d_M_end_18 ic_0 ?_
    exact v_zret (z := (0, S1)) C d_M_end_19 rfl (b01_n (by decide)) ⟨Nat.zero_le _, Nat.zero_le _⟩ (rfl) rfl
-- M_raw
theorem d_M_raw_0 : decode (mB Y_M_raw) 0 = .ok (.iload_n 1, 1) := by decide +kernel
theorem d_M_raw_1 : decode (mB Y_M_raw) 1 = .ok (.aload_n 0, 1) := by decide +kernel
theorem d_M_raw_2 : decode (mB Y_M_raw) 2 = .ok (.getfield 245, 3) := by decide +kernel
theorem d_M_raw_5 : decode (mB Y_M_raw) 5 = .ok (.if_icmp .ge 12, 3) := by decide +kernel
theorem d_M_raw_8 : decode (mB Y_M_raw) 8 = .ok (.aload_n 0, 1) := by decide +kernel
theorem d_M_raw_9 : decode (mB Y_M_raw) 9 = .ok (.getfield 57, 3) := by decide +kernel
theorem d_M_raw_12 : decode (mB Y_M_raw) 12 = .ok (.iload_n 1, 1) := by decide +kernel
theorem d_M_raw_13 : decode (mB Y_M_raw) 13 = .ok (.iaload, 1) := by decide +kernel
theorem d_M_raw_14 : decode (mB Y_M_raw) 14 = .ok (.goto 4, 3) := by decide +kernel
theorem d_M_raw_17 : decode (mB Y_M_raw) 17 = .ok (.iconst (-1), 1) := by decide +kernel
theorem d_M_raw_18 : decode (mB Y_M_raw) 18 = .ok (.ireturn, 1) := by decide +kernel
def r_M_raw (x1 : Int32) (S : Sto) : Option Int32 :=
  if (S 104 27) ≤ x1 then
    some (-1)
  else
    chk (inr x1 400) (
    some (S 118 x1.toNatClampNeg))
set_option maxHeartbeats 4000000 in
set_option maxRecDepth 20000 in
theorem c_M_raw {G : Gl} {L : Shp} (hL : Ext L) (S : Sto) (x1 : Int32)  : Ct Y_M_raw G [rf G 104, .int x1] L S (fp L S) (r_M_raw x1 S) := by
  refine ct_of (by decide +kernel) (Nat.le_of_ble_eq_true rfl) (fun g C => ?_)
  show VO g Y_M_raw G (fun z => Qm g Y_M_raw G (fp L S z)) 0 0 0 [(0, rf G 104), (1, .int x1)] [] L S (r_M_raw x1 S) some
  unfold r_M_raw
  refine v_iload_n (pc := 0) C d_M_raw_0 rfl 1 rfl ?_
  refine v_aload_n (pc := 1) C d_M_raw_1 rfl 0 rfl ?_
  refine v_getI (pc := 2) C fl_M_245 (sh_104 hL) rfl d_M_raw_2 ?_
  refine v_icmp_ge (pc := 5) (tgt := 17) C d_M_raw_5 rfl (fun _ => ?_) (fun _ => ?_)
  · refine v_iconst (pc := 17) C d_M_raw_17 ic_m1 ?_
    exact v_iret (z := (-1)) C d_M_raw_18 rfl ⟨Nat.zero_le _, Nat.zero_le _⟩ (rfl) rfl
  · refine v_aload_n (pc := 8) C d_M_raw_8 rfl 0 rfl ?_
    refine v_getR (pc := 9) C fl_M_57 (sh_104 hL) rfl d_M_raw_9 ?_
    refine v_iload_n (pc := 12) C d_M_raw_12 rfl 1 rfl ?_
    refine v_iald (pc := 13) C (sh_118 hL) d_M_raw_13 (fun _ => ?_)
    refine v_goto (pc := 14) (tgt := 18) C d_M_raw_14 rfl ?_
    exact v_iret (z := (S 118 x1.toNatClampNeg)) C d_M_raw_18 rfl ⟨Nat.zero_le _, Nat.zero_le _⟩ (rfl) rfl
-- M_isLetter
theorem d_M_isLetter_0 : decode (mB Y_M_isLetter) 0 = .ok (.aload_n 0, 1) := by decide +kernel
theorem d_M_isLetter_1 : decode (mB Y_M_isLetter) 1 = .ok (.iload_n 1, 1) := by decide +kernel
theorem d_M_isLetter_2 : decode (mB Y_M_isLetter) 2 = .ok (.bipush 97, 2) := by decide +kernel
theorem d_M_isLetter_4 : decode (mB Y_M_isLetter) 4 = .ok (.bipush 122, 2) := by decide +kernel
theorem d_M_isLetter_6 : decode (mB Y_M_isLetter) 6 = .ok (.invokevirtual 153, 3) := by decide +kernel
theorem d_M_isLetter_9 : decode (mB Y_M_isLetter) 9 = .ok (.ifCond .ne 15, 3) := by decide +kernel
theorem d_M_isLetter_12 : decode (mB Y_M_isLetter) 12 = .ok (.aload_n 0, 1) := by decide +kernel
theorem d_M_isLetter_13 : decode (mB Y_M_isLetter) 13 = .ok (.iload_n 1, 1) := by decide +kernel
theorem d_M_isLetter_14 : decode (mB Y_M_isLetter) 14 = .ok (.bipush 65, 2) := by decide +kernel
theorem d_M_isLetter_16 : decode (mB Y_M_isLetter) 16 = .ok (.bipush 90, 2) := by decide +kernel
theorem d_M_isLetter_18 : decode (mB Y_M_isLetter) 18 = .ok (.invokevirtual 153, 3) := by decide +kernel
theorem d_M_isLetter_21 : decode (mB Y_M_isLetter) 21 = .ok (.ifCond .eq 7, 3) := by decide +kernel
theorem d_M_isLetter_24 : decode (mB Y_M_isLetter) 24 = .ok (.iconst 1, 1) := by decide +kernel
theorem d_M_isLetter_25 : decode (mB Y_M_isLetter) 25 = .ok (.goto 4, 3) := by decide +kernel
theorem d_M_isLetter_28 : decode (mB Y_M_isLetter) 28 = .ok (.iconst 0, 1) := by decide +kernel
theorem d_M_isLetter_29 : decode (mB Y_M_isLetter) 29 = .ok (.ireturn, 1) := by decide +kernel
theorem ro_M_isLetter_M_isIn : roomy Y_M_isLetter Y_M_isIn := ⟨Nat.le_of_ble_eq_true rfl, Nat.le_of_ble_eq_true rfl⟩
def r_M_isLetter (x1 : Int32) : Int32 := (if (r_M_isIn x1 97 122) = 0 then (if (r_M_isIn x1 65 90) = 0 then 0 else 1) else 1)
theorem z_M_isLetter (x1 : Int32) : b01 (r_M_isLetter x1) = true := by
  unfold r_M_isLetter
  (repeat' split) <;> first | rfl | decide | exact z_M_isIn .. | rfl
set_option maxHeartbeats 4000000 in
set_option maxRecDepth 20000 in
theorem c_M_isLetter {G : Gl} {L : Shp} (hL : Ext L) (S : Sto) (x1 : Int32)  : Ct Y_M_isLetter G [rf G 104, .int x1] L S (fp L S) (some (r_M_isLetter x1)) := by
  refine ct_of (by decide +kernel) (Nat.le_of_ble_eq_true rfl) (fun g C => ?_)
  have e : (some (r_M_isLetter x1) : Option Int32) =
      if (r_M_isIn x1 97 122) = 0 then
        if (r_M_isIn x1 65 90) = 0 then
          some 0
        else
          some 1
      else
        some 1 := by
    unfold r_M_isLetter
    simp only [some_ite, lt, ltJ]
  rw [e]
  show VO g Y_M_isLetter G (fun z => Qm g Y_M_isLetter G (fp L S z)) 0 0 0 [(0, rf G 104), (1, .int x1)] [] L S _ some
  refine v_aload_n (pc := 0) C d_M_isLetter_0 rfl 0 rfl ?_
  refine v_iload_n (pc := 1) C d_M_isLetter_1 rfl 1 rfl ?_
  refine v_bipush (pc := 2) C d_M_isLetter_2 bp_97 ?_
  refine v_bipush (pc := 4) C d_M_isLetter_4 bp_122 ?_
  refine v_ct (pc := 6) (inv_V (As := [.int x1, .int 97, .int 122]) (st := []) C ml_M_153 mv_M_isIn ro_M_isLetter_M_isIn (sh_104 hL) rfl rfl rfl rfl (Nat.le_of_ble_eq_true rfl) d_M_isLetter_6) (c_M_isIn hL S x1 97 122) ⟨rfl, rfl⟩ ⟨Nat.zero_le _, Nat.zero_le _⟩ ?_
  refine v_if_ne (pc := 9) (tgt := 24) C d_M_isLetter_9 rfl (fun _ => ?_) (fun _ => ?_)
  · refine v_iconst (pc := 24) C d_M_isLetter_24 ic_1 ?_
    refine v_goto (pc := 25) (tgt := 29) C d_M_isLetter_25 rfl ?_
    exact v_zret (z := 1) C d_M_isLetter_29 rfl (b01_n (by decide)) ⟨Nat.zero_le _, Nat.zero_le _⟩ (rfl) rfl
  · refine v_aload_n (pc := 12) C d_M_isLetter_12 rfl 0 rfl ?_
    refine v_iload_n (pc := 13) C d_M_isLetter_13 rfl 1 rfl ?_
    refine v_bipush (pc := 14) C d_M_isLetter_14 bp_65 ?_
    refine v_bipush (pc := 16) C d_M_isLetter_16 bp_90 ?_
    refine v_ct (pc := 18) (inv_V (As := [.int x1, .int 65, .int 90]) (st := []) C ml_M_153 mv_M_isIn ro_M_isLetter_M_isIn (sh_104 hL) rfl rfl rfl rfl (Nat.le_of_ble_eq_true rfl) d_M_isLetter_18) (c_M_isIn hL S x1 65 90) ⟨rfl, rfl⟩ ⟨Nat.zero_le _, Nat.zero_le _⟩ ?_
    refine v_if_eq (pc := 21) (tgt := 28) C d_M_isLetter_21 rfl (fun _ => ?_) (fun _ => ?_)
    · refine v_iconst (pc := 28) C d_M_isLetter_28 ic_0 ?_
      exact v_zret (z := 0) C d_M_isLetter_29 rfl (b01_n (by decide)) ⟨Nat.zero_le _, Nat.zero_le _⟩ (rfl) rfl
    · refine v_iconst (pc := 24) C d_M_isLetter_24 ic_1 ?_
      refine v_goto (pc := 25) (tgt := 29) C d_M_isLetter_25 rfl ?_
      exact v_zret (z := 1) C d_M_isLetter_29 rfl (b01_n (by decide)) ⟨Nat.zero_le _, Nat.zero_le _⟩ (rfl) rfl
-- M_wordAt
theorem d_M_wordAt_0 : decode (mB Y_M_wordAt) 0 = .ok (.iconst (-1), 1) := by decide +kernel
theorem d_M_wordAt_1 : decode (mB Y_M_wordAt) 1 = .ok (.istore_n 3, 1) := by decide +kernel
theorem d_M_wordAt_2 : decode (mB Y_M_wordAt) 2 = .ok (.iconst 0, 1) := by decide +kernel
theorem d_M_wordAt_3 : decode (mB Y_M_wordAt) 3 = .ok (.istore 4, 2) := by decide +kernel
theorem d_M_wordAt_5 : decode (mB Y_M_wordAt) 5 = .ok (.iload 4, 2) := by decide +kernel
theorem d_M_wordAt_7 : decode (mB Y_M_wordAt) 7 = .ok (.bipush 95, 2) := by decide +kernel
theorem d_M_wordAt_9 : decode (mB Y_M_wordAt) 9 = .ok (.if_icmp .ge 108, 3) := by decide +kernel
theorem d_M_wordAt_12 : decode (mB Y_M_wordAt) 12 = .ok (.iconst 0, 1) := by decide +kernel
theorem d_M_wordAt_13 : decode (mB Y_M_wordAt) 13 = .ok (.istore 5, 2) := by decide +kernel
theorem d_M_wordAt_15 : decode (mB Y_M_wordAt) 15 = .ok (.iload_n 3, 1) := by decide +kernel
theorem d_M_wordAt_16 : decode (mB Y_M_wordAt) 16 = .ok (.iconst 1, 1) := by decide +kernel
theorem d_M_wordAt_17 : decode (mB Y_M_wordAt) 17 = .ok (.iadd, 1) := by decide +kernel
theorem d_M_wordAt_18 : decode (mB Y_M_wordAt) 18 = .ok (.istore_n 3, 1) := by decide +kernel
theorem d_M_wordAt_19 : decode (mB Y_M_wordAt) 19 = .ok (.iload_n 1, 1) := by decide +kernel
theorem d_M_wordAt_20 : decode (mB Y_M_wordAt) 20 = .ok (.iload 5, 2) := by decide +kernel
theorem d_M_wordAt_22 : decode (mB Y_M_wordAt) 22 = .ok (.iadd, 1) := by decide +kernel
theorem d_M_wordAt_23 : decode (mB Y_M_wordAt) 23 = .ok (.iload_n 2, 1) := by decide +kernel
theorem d_M_wordAt_24 : decode (mB Y_M_wordAt) 24 = .ok (.if_icmp .ge 36, 3) := by decide +kernel
theorem d_M_wordAt_27 : decode (mB Y_M_wordAt) 27 = .ok (.aload_n 0, 1) := by decide +kernel
theorem d_M_wordAt_28 : decode (mB Y_M_wordAt) 28 = .ok (.getfield 60, 3) := by decide +kernel
theorem d_M_wordAt_31 : decode (mB Y_M_wordAt) 31 = .ok (.iload 4, 2) := by decide +kernel
theorem d_M_wordAt_33 : decode (mB Y_M_wordAt) 33 = .ok (.iconst 1, 1) := by decide +kernel
theorem d_M_wordAt_34 : decode (mB Y_M_wordAt) 34 = .ok (.iadd, 1) := by decide +kernel
theorem d_M_wordAt_35 : decode (mB Y_M_wordAt) 35 = .ok (.iload 5, 2) := by decide +kernel
theorem d_M_wordAt_37 : decode (mB Y_M_wordAt) 37 = .ok (.iadd, 1) := by decide +kernel
theorem d_M_wordAt_38 : decode (mB Y_M_wordAt) 38 = .ok (.iaload, 1) := by decide +kernel
theorem d_M_wordAt_39 : decode (mB Y_M_wordAt) 39 = .ok (.aload_n 0, 1) := by decide +kernel
theorem d_M_wordAt_40 : decode (mB Y_M_wordAt) 40 = .ok (.getfield 57, 3) := by decide +kernel
theorem d_M_wordAt_43 : decode (mB Y_M_wordAt) 43 = .ok (.iload_n 1, 1) := by decide +kernel
theorem d_M_wordAt_44 : decode (mB Y_M_wordAt) 44 = .ok (.iload 5, 2) := by decide +kernel
theorem d_M_wordAt_46 : decode (mB Y_M_wordAt) 46 = .ok (.iadd, 1) := by decide +kernel
theorem d_M_wordAt_47 : decode (mB Y_M_wordAt) 47 = .ok (.iaload, 1) := by decide +kernel
theorem d_M_wordAt_48 : decode (mB Y_M_wordAt) 48 = .ok (.if_icmp .ne 12, 3) := by decide +kernel
theorem d_M_wordAt_51 : decode (mB Y_M_wordAt) 51 = .ok (.iload 5, 2) := by decide +kernel
theorem d_M_wordAt_53 : decode (mB Y_M_wordAt) 53 = .ok (.iconst 1, 1) := by decide +kernel
theorem d_M_wordAt_54 : decode (mB Y_M_wordAt) 54 = .ok (.iadd, 1) := by decide +kernel
theorem d_M_wordAt_55 : decode (mB Y_M_wordAt) 55 = .ok (.istore 5, 2) := by decide +kernel
theorem d_M_wordAt_57 : decode (mB Y_M_wordAt) 57 = .ok (.goto (-38), 3) := by decide +kernel
theorem d_M_wordAt_60 : decode (mB Y_M_wordAt) 60 = .ok (.iload_n 1, 1) := by decide +kernel
theorem d_M_wordAt_61 : decode (mB Y_M_wordAt) 61 = .ok (.iload 5, 2) := by decide +kernel
theorem d_M_wordAt_63 : decode (mB Y_M_wordAt) 63 = .ok (.iadd, 1) := by decide +kernel
theorem d_M_wordAt_64 : decode (mB Y_M_wordAt) 64 = .ok (.iload_n 2, 1) := by decide +kernel
theorem d_M_wordAt_65 : decode (mB Y_M_wordAt) 65 = .ok (.if_icmp .ne 22, 3) := by decide +kernel
theorem d_M_wordAt_68 : decode (mB Y_M_wordAt) 68 = .ok (.aload_n 0, 1) := by decide +kernel
theorem d_M_wordAt_69 : decode (mB Y_M_wordAt) 69 = .ok (.getfield 60, 3) := by decide +kernel
theorem d_M_wordAt_72 : decode (mB Y_M_wordAt) 72 = .ok (.iload 4, 2) := by decide +kernel
theorem d_M_wordAt_74 : decode (mB Y_M_wordAt) 74 = .ok (.iconst 1, 1) := by decide +kernel
theorem d_M_wordAt_75 : decode (mB Y_M_wordAt) 75 = .ok (.iadd, 1) := by decide +kernel
theorem d_M_wordAt_76 : decode (mB Y_M_wordAt) 76 = .ok (.iload 5, 2) := by decide +kernel
theorem d_M_wordAt_78 : decode (mB Y_M_wordAt) 78 = .ok (.iadd, 1) := by decide +kernel
theorem d_M_wordAt_79 : decode (mB Y_M_wordAt) 79 = .ok (.iaload, 1) := by decide +kernel
theorem d_M_wordAt_80 : decode (mB Y_M_wordAt) 80 = .ok (.bipush 32, 2) := by decide +kernel
theorem d_M_wordAt_82 : decode (mB Y_M_wordAt) 82 = .ok (.if_icmp .ne 5, 3) := by decide +kernel
theorem d_M_wordAt_85 : decode (mB Y_M_wordAt) 85 = .ok (.iload_n 3, 1) := by decide +kernel
theorem d_M_wordAt_86 : decode (mB Y_M_wordAt) 86 = .ok (.ireturn, 1) := by decide +kernel
theorem d_M_wordAt_87 : decode (mB Y_M_wordAt) 87 = .ok (.iload 4, 2) := by decide +kernel
theorem d_M_wordAt_89 : decode (mB Y_M_wordAt) 89 = .ok (.iconst 1, 1) := by decide +kernel
theorem d_M_wordAt_90 : decode (mB Y_M_wordAt) 90 = .ok (.iadd, 1) := by decide +kernel
theorem d_M_wordAt_91 : decode (mB Y_M_wordAt) 91 = .ok (.istore 4, 2) := by decide +kernel
theorem d_M_wordAt_93 : decode (mB Y_M_wordAt) 93 = .ok (.aload_n 0, 1) := by decide +kernel
theorem d_M_wordAt_94 : decode (mB Y_M_wordAt) 94 = .ok (.getfield 60, 3) := by decide +kernel
theorem d_M_wordAt_97 : decode (mB Y_M_wordAt) 97 = .ok (.iload 4, 2) := by decide +kernel
theorem d_M_wordAt_99 : decode (mB Y_M_wordAt) 99 = .ok (.iaload, 1) := by decide +kernel
theorem d_M_wordAt_100 : decode (mB Y_M_wordAt) 100 = .ok (.bipush 32, 2) := by decide +kernel
theorem d_M_wordAt_102 : decode (mB Y_M_wordAt) 102 = .ok (.if_icmp .eq 12, 3) := by decide +kernel
theorem d_M_wordAt_105 : decode (mB Y_M_wordAt) 105 = .ok (.iload 4, 2) := by decide +kernel
theorem d_M_wordAt_107 : decode (mB Y_M_wordAt) 107 = .ok (.iconst 1, 1) := by decide +kernel
theorem d_M_wordAt_108 : decode (mB Y_M_wordAt) 108 = .ok (.iadd, 1) := by decide +kernel
theorem d_M_wordAt_109 : decode (mB Y_M_wordAt) 109 = .ok (.istore 4, 2) := by decide +kernel
theorem d_M_wordAt_111 : decode (mB Y_M_wordAt) 111 = .ok (.goto (-18), 3) := by decide +kernel
theorem d_M_wordAt_114 : decode (mB Y_M_wordAt) 114 = .ok (.goto (-109), 3) := by decide +kernel
theorem d_M_wordAt_117 : decode (mB Y_M_wordAt) 117 = .ok (.iconst (-1), 1) := by decide +kernel
theorem d_M_wordAt_118 : decode (mB Y_M_wordAt) 118 = .ok (.ireturn, 1) := by decide +kernel
def r_M_wordAt_L19 (y1_ : Int32) (y2_ : Int32) (y3_ : Int32) (y4_ : Int32) : Nat → Int32 → Sto → Option (Int32)
  | 0, _, _ => none
  | n + 1, x5_, S =>
    if y2_ ≤ (y1_ + x5_) then
      some (x5_)
    else
      chk (inr ((y4_ + 1) + x5_) 96) (
      chk (inr (y1_ + x5_) 400) (
      if (S 119 (((y4_ + 1) + x5_).toNatClampNeg)) = (S 118 ((y1_ + x5_).toNatClampNeg)) then
        lt (x5_ + 1) (fun v1 =>
        r_M_wordAt_L19 y1_ y2_ y3_ y4_ n v1 S)
      else
        some (x5_)))
def r_M_wordAt_L93 (y1_ : Int32) (y2_ : Int32) (y3_ : Int32) : Nat → Int32 → Sto → Option (Int32)
  | 0, _, _ => none
  | n + 1, x4_, S =>
    chk (inr x4_ 96) (
    if (S 119 x4_.toNatClampNeg) = 32 then
      some (x4_)
    else
      lt (x4_ + 1) (fun v1 =>
      r_M_wordAt_L93 y1_ y2_ y3_ n v1 S))
def r_M_wordAt_L5 (y1_ : Int32) (y2_ : Int32) : Nat → Int32 → Int32 → Sto → Option ((Int32 × Int32) ⊕ Int32)
  | 0, _, _, _ => none
  | n + 1, x3_, x4_, S =>
    if 95 ≤ x4_ then
      some (.inl (x3_, x4_))
    else
      lt (x3_ + 1) (fun v1 =>
      (r_M_wordAt_L19 y1_ y2_ v1 x4_ fu 0 S).bind (fun (v2) =>
      jn (fun (_ : Unit) =>
        lt (x4_ + 1) (fun v3 =>
        (r_M_wordAt_L93 y1_ y2_ v1 fu v3 S).bind (fun (v4) =>
        r_M_wordAt_L5 y1_ y2_ n v1 v4 S))) (fun j87 =>
      if (y1_ + v2) = y2_ then
        chk (inr ((x4_ + 1) + v2) 96) (
        if (S 119 (((x4_ + 1) + v2).toNatClampNeg)) = 32 then
          some (.inr v1)
        else
          j87 ())
      else
        j87 ())))
set_option maxHeartbeats 4000000 in
set_option maxRecDepth 20000 in
theorem w_M_wordAt_L19 {g : Gm} {G : Gl} {L : Shp} (C : Cx g Y_M_wordAt G) (hL : Ext L) (S : Sto) (y1_ : Int32) (y2_ : Int32) (y3_ : Int32) (y4_ : Int32)  :
    ∀ (n : Nat) (x5_ : Int32) (K : (Int32) → Option Int32), (∀ (x5_ : Int32), VO g Y_M_wordAt G (fun z => Qm g Y_M_wordAt G (fp L S z)) 0 0 60 [(0, rf G 104), (1, .int y1_), (2, .int y2_), (3, .int y3_), (4, .int y4_), (5, .int x5_)] [] L S (some (x5_)) K) → VO g Y_M_wordAt G (fun z => Qm g Y_M_wordAt G (fp L S z)) 0 0 19 [(0, rf G 104), (1, .int y1_), (2, .int y2_), (3, .int y3_), (4, .int y4_), (5, .int x5_)] [] L S (r_M_wordAt_L19 y1_ y2_ y3_ y4_ n x5_ S) K := by
  intro n
  induction n with
  | zero => intro x5_ K; intros; exact v_none
  | succ n ih =>
    intro x5_ K hK
    rw [r_M_wordAt_L19]
    refine v_iload_n (pc := 19) C d_M_wordAt_19 rfl 1 rfl ?_
    refine v_iload (pc := 20) C d_M_wordAt_20 5 rfl ?_
    refine v_iadd (pc := 22) C d_M_wordAt_22 ?_
    refine v_iload_n (pc := 23) C d_M_wordAt_23 rfl 2 rfl ?_
    refine v_icmp_ge (pc := 24) (tgt := 60) C d_M_wordAt_24 rfl (fun _ => ?_) (fun _ => ?_)
    · exact hK x5_
    · refine v_aload_n (pc := 27) C d_M_wordAt_27 rfl 0 rfl ?_
      refine v_getR (pc := 28) C fl_M_60 (sh_104 hL) rfl d_M_wordAt_28 ?_
      refine v_iload (pc := 31) C d_M_wordAt_31 4 rfl ?_
      refine v_iconst (pc := 33) C d_M_wordAt_33 ic_1 ?_
      refine v_iadd (pc := 34) C d_M_wordAt_34 ?_
      refine v_iload (pc := 35) C d_M_wordAt_35 5 rfl ?_
      refine v_iadd (pc := 37) C d_M_wordAt_37 ?_
      refine v_iald (pc := 38) C (sh_119 hL) d_M_wordAt_38 (fun _ => ?_)
      refine v_aload_n (pc := 39) C d_M_wordAt_39 rfl 0 rfl ?_
      refine v_getR (pc := 40) C fl_M_57 (sh_104 hL) rfl d_M_wordAt_40 ?_
      refine v_iload_n (pc := 43) C d_M_wordAt_43 rfl 1 rfl ?_
      refine v_iload (pc := 44) C d_M_wordAt_44 5 rfl ?_
      refine v_iadd (pc := 46) C d_M_wordAt_46 ?_
      refine v_iald (pc := 47) C (sh_118 hL) d_M_wordAt_47 (fun _ => ?_)
      refine v_icmp_ne (pc := 48) (tgt := 60) C d_M_wordAt_48 rfl (fun _ => ?_) (fun _ => ?_)
      · exact hK x5_
      · refine v_iload (pc := 51) C d_M_wordAt_51 5 rfl ?_
        refine v_iconst (pc := 53) C d_M_wordAt_53 ic_1 ?_
        refine v_iadd (pc := 54) C d_M_wordAt_54 ?_
        refine v_lt (fun v1 => ?_)
        refine v_istore (pc := 55) (lv' := [(5, .int v1), (0, rf G 104), (1, .int y1_), (2, .int y2_), (3, .int y3_), (4, .int y4_)]) C d_M_wordAt_55 (by decide) rfl ?_
        refine v_goto (pc := 57) (tgt := 19) C d_M_wordAt_57 rfl ?_
        refine v_sub [1, 2, 3, 4, 5, 0] rfl ?_
        exact ih v1 K hK
set_option maxHeartbeats 4000000 in
set_option maxRecDepth 20000 in
theorem w_M_wordAt_L93 {g : Gm} {G : Gl} {L : Shp} (C : Cx g Y_M_wordAt G) (hL : Ext L) (S : Sto) (y1_ : Int32) (y2_ : Int32) (y3_ : Int32)  :
    ∀ (n : Nat) (x4_ : Int32) (K : (Int32) → Option Int32), (∀ (x4_ : Int32), VO g Y_M_wordAt G (fun z => Qm g Y_M_wordAt G (fp L S z)) 0 0 114 [(0, rf G 104), (1, .int y1_), (2, .int y2_), (3, .int y3_), (4, .int x4_)] [] L S (some (x4_)) K) → VO g Y_M_wordAt G (fun z => Qm g Y_M_wordAt G (fp L S z)) 0 0 93 [(0, rf G 104), (1, .int y1_), (2, .int y2_), (3, .int y3_), (4, .int x4_)] [] L S (r_M_wordAt_L93 y1_ y2_ y3_ n x4_ S) K := by
  intro n
  induction n with
  | zero => intro x4_ K; intros; exact v_none
  | succ n ih =>
    intro x4_ K hK
    rw [r_M_wordAt_L93]
    refine v_aload_n (pc := 93) C d_M_wordAt_93 rfl 0 rfl ?_
    refine v_getR (pc := 94) C fl_M_60 (sh_104 hL) rfl d_M_wordAt_94 ?_
    refine v_iload (pc := 97) C d_M_wordAt_97 4 rfl ?_
    refine v_iald (pc := 99) C (sh_119 hL) d_M_wordAt_99 (fun _ => ?_)
    refine v_bipush (pc := 100) C d_M_wordAt_100 bp_32 ?_
    refine v_icmp_eq (pc := 102) (tgt := 114) C d_M_wordAt_102 rfl (fun _ => ?_) (fun _ => ?_)
    · exact hK x4_
    · refine v_iload (pc := 105) C d_M_wordAt_105 4 rfl ?_
      refine v_iconst (pc := 107) C d_M_wordAt_107 ic_1 ?_
      refine v_iadd (pc := 108) C d_M_wordAt_108 ?_
      refine v_lt (fun v1 => ?_)
      refine v_istore (pc := 109) (lv' := [(4, .int v1), (0, rf G 104), (1, .int y1_), (2, .int y2_), (3, .int y3_)]) C d_M_wordAt_109 (by decide) rfl ?_
      refine v_goto (pc := 111) (tgt := 93) C d_M_wordAt_111 rfl ?_
      refine v_sub [1, 2, 3, 4, 0] rfl ?_
      exact ih v1 K hK
set_option maxHeartbeats 4000000 in
set_option maxRecDepth 20000 in
theorem w_M_wordAt_L5 {g : Gm} {G : Gl} {L : Shp} (C : Cx g Y_M_wordAt G) (hL : Ext L) (S : Sto) (y1_ : Int32) (y2_ : Int32)  :
    ∀ (n : Nat) (x3_ : Int32) (x4_ : Int32) (K : ((Int32 × Int32) ⊕ Int32) → Option Int32), (∀ (x3_ : Int32) (x4_ : Int32), VO g Y_M_wordAt G (fun z => Qm g Y_M_wordAt G (fp L S z)) 0 0 117 [] [] L S (some (.inl (x3_, x4_))) K) → (∀ x, K (.inr x) = some x) → VO g Y_M_wordAt G (fun z => Qm g Y_M_wordAt G (fp L S z)) 0 0 5 [(0, rf G 104), (1, .int y1_), (2, .int y2_), (3, .int x3_), (4, .int x4_)] [] L S (r_M_wordAt_L5 y1_ y2_ n x3_ x4_ S) K := by
  intro n
  induction n with
  | zero => intro x3_ x4_ K; intros; exact v_none
  | succ n ih =>
    intro x3_ x4_ K hK hR
    rw [r_M_wordAt_L5]
    refine v_iload (pc := 5) C d_M_wordAt_5 4 rfl ?_
    refine v_bipush (pc := 7) C d_M_wordAt_7 bp_95 ?_
    refine v_icmp_ge (pc := 9) (tgt := 117) C d_M_wordAt_9 rfl (fun _ => ?_) (fun _ => ?_)
    · refine v_sub [] rfl ?_
      exact hK x3_ x4_
    · refine v_iconst (pc := 12) C d_M_wordAt_12 ic_0 ?_
      refine v_istore (pc := 13) (lv' := [(5, .int 0), (0, rf G 104), (1, .int y1_), (2, .int y2_), (3, .int x3_), (4, .int x4_)]) C d_M_wordAt_13 (by decide) rfl ?_
      refine v_iload_n (pc := 15) C d_M_wordAt_15 rfl 4 rfl ?_
      refine v_iconst (pc := 16) C d_M_wordAt_16 ic_1 ?_
      refine v_iadd (pc := 17) C d_M_wordAt_17 ?_
      refine v_lt (fun v1 => ?_)
      refine v_istore_n (pc := 18) (lv' := [(3, .int v1), (5, .int 0), (0, rf G 104), (1, .int y1_), (2, .int y2_), (4, .int x4_)]) C d_M_wordAt_18 rfl (by decide) rfl ?_
      refine v_sub [2, 3, 4, 0, 5, 1] rfl ?_
      refine v_bind ?_
      refine w_M_wordAt_L19 C hL S y1_ y2_ v1 x4_  fu 0 _ (fun v2 => ?_) 
      refine v_some ?_
      refine v_iload_n (pc := 60) C d_M_wordAt_60 rfl 1 rfl ?_
      refine v_iload (pc := 61) C d_M_wordAt_61 5 rfl ?_
      refine v_iadd (pc := 63) C d_M_wordAt_63 ?_
      refine v_iload_n (pc := 64) C d_M_wordAt_64 rfl 2 rfl ?_
      refine v_jn (fun j => VO g Y_M_wordAt G (fun z => Qm g Y_M_wordAt G (fp L S z)) 0 0 87 [(0, rf G 104), (1, .int y1_), (2, .int y2_), (3, .int v1), (4, .int x4_)] [] L S (j ()) K) (?_) (fun j87 hj87 => ?_)
      · refine v_iload (pc := 87) C d_M_wordAt_87 4 rfl ?_
        refine v_iconst (pc := 89) C d_M_wordAt_89 ic_1 ?_
        refine v_iadd (pc := 90) C d_M_wordAt_90 ?_
        refine v_lt (fun v3 => ?_)
        refine v_istore (pc := 91) (lv' := [(4, .int v3), (0, rf G 104), (1, .int y1_), (2, .int y2_), (3, .int v1)]) C d_M_wordAt_91 (by decide) rfl ?_
        refine v_sub [1, 2, 3, 4, 0] rfl ?_
        refine v_bind ?_
        refine w_M_wordAt_L93 C hL S y1_ y2_ v1  fu v3 _ (fun v4 => ?_) 
        refine v_some ?_
        refine v_goto (pc := 114) (tgt := 5) C d_M_wordAt_114 rfl ?_
        exact ih v1 v4 K hK hR
      · refine v_icmp_ne (pc := 65) (tgt := 87) C d_M_wordAt_65 rfl (fun _ => ?_) (fun _ => ?_)
        · refine v_sub [0, 1, 2, 3, 4] rfl ?_
          exact hj87
        · refine v_aload_n (pc := 68) C d_M_wordAt_68 rfl 0 rfl ?_
          refine v_getR (pc := 69) C fl_M_60 (sh_104 hL) rfl d_M_wordAt_69 ?_
          refine v_iload (pc := 72) C d_M_wordAt_72 4 rfl ?_
          refine v_iconst (pc := 74) C d_M_wordAt_74 ic_1 ?_
          refine v_iadd (pc := 75) C d_M_wordAt_75 ?_
          refine v_iload (pc := 76) C d_M_wordAt_76 5 rfl ?_
          refine v_iadd (pc := 78) C d_M_wordAt_78 ?_
          refine v_iald (pc := 79) C (sh_119 hL) d_M_wordAt_79 (fun _ => ?_)
          refine v_bipush (pc := 80) C d_M_wordAt_80 bp_32 ?_
          refine v_icmp_ne (pc := 82) (tgt := 87) C d_M_wordAt_82 rfl (fun _ => ?_) (fun _ => ?_)
          · refine v_sub [0, 1, 2, 3, 4] rfl ?_
            exact hj87
          · refine v_iload_n (pc := 85) C d_M_wordAt_85 rfl 3 rfl ?_
            exact v_iret (z := v1) C d_M_wordAt_86 rfl ⟨Nat.zero_le _, Nat.zero_le _⟩ (hR _) rfl
def r_M_wordAt (x1 : Int32) (x2 : Int32) (S : Sto) : Option Int32 :=
  (r_M_wordAt_L5 x1 x2 fu (-1) 0 S).bind (fun x => match x with
  | .inl (v1, v2) =>
    some (-1)
  | .inr r => some r)
set_option maxHeartbeats 4000000 in
set_option maxRecDepth 20000 in
theorem c_M_wordAt {G : Gl} {L : Shp} (hL : Ext L) (S : Sto) (x1 : Int32) (x2 : Int32)  : Ct Y_M_wordAt G [rf G 104, .int x1, .int x2] L S (fp L S) (r_M_wordAt x1 x2 S) := by
  refine ct_of (by decide +kernel) (Nat.le_of_ble_eq_true rfl) (fun g C => ?_)
  show VO g Y_M_wordAt G (fun z => Qm g Y_M_wordAt G (fp L S z)) 0 0 0 [(0, rf G 104), (1, .int x1), (2, .int x2)] [] L S (r_M_wordAt x1 x2 S) some
  unfold r_M_wordAt
  refine v_iconst (pc := 0) C d_M_wordAt_0 ic_m1 ?_
  refine v_istore_n (pc := 1) (lv' := [(3, .int (-1)), (0, rf G 104), (1, .int x1), (2, .int x2)]) C d_M_wordAt_1 rfl (by decide) rfl ?_
  refine v_iconst (pc := 2) C d_M_wordAt_2 ic_0 ?_
  refine v_istore (pc := 3) (lv' := [(4, .int 0), (3, .int (-1)), (0, rf G 104), (1, .int x1), (2, .int x2)]) C d_M_wordAt_3 (by decide) rfl ?_
  refine v_sub [2, 3, 4, 1, 0] rfl ?_
  refine v_bind ?_
  refine w_M_wordAt_L5 C hL S x1 x2  fu (-1) 0 _ (fun v1 v2 => ?_) (fun z => rfl)
  refine v_some ?_
  refine v_iconst (pc := 117) C d_M_wordAt_117 ic_m1 ?_
  exact v_iret (z := (-1)) C d_M_wordAt_118 rfl ⟨Nat.zero_le _, Nat.zero_le _⟩ (rfl) rfl
-- M_isDigit
theorem d_M_isDigit_0 : decode (mB Y_M_isDigit) 0 = .ok (.aload_n 0, 1) := by decide +kernel
theorem d_M_isDigit_1 : decode (mB Y_M_isDigit) 1 = .ok (.iload_n 1, 1) := by decide +kernel
theorem d_M_isDigit_2 : decode (mB Y_M_isDigit) 2 = .ok (.bipush 48, 2) := by decide +kernel
theorem d_M_isDigit_4 : decode (mB Y_M_isDigit) 4 = .ok (.bipush 57, 2) := by decide +kernel
theorem d_M_isDigit_6 : decode (mB Y_M_isDigit) 6 = .ok (.invokevirtual 153, 3) := by decide +kernel
theorem d_M_isDigit_9 : decode (mB Y_M_isDigit) 9 = .ok (.ireturn, 1) := by decide +kernel
theorem ro_M_isDigit_M_isIn : roomy Y_M_isDigit Y_M_isIn := ⟨Nat.le_of_ble_eq_true rfl, Nat.le_of_ble_eq_true rfl⟩
def r_M_isDigit (x1 : Int32) : Int32 := (r_M_isIn x1 48 57)
theorem z_M_isDigit (x1 : Int32) : b01 (r_M_isDigit x1) = true := by
  unfold r_M_isDigit
  (repeat' split) <;> first | rfl | decide | exact z_M_isIn .. | rfl
set_option maxHeartbeats 4000000 in
set_option maxRecDepth 20000 in
theorem c_M_isDigit {G : Gl} {L : Shp} (hL : Ext L) (S : Sto) (x1 : Int32)  : Ct Y_M_isDigit G [rf G 104, .int x1] L S (fp L S) (some (r_M_isDigit x1)) := by
  refine ct_of (by decide +kernel) (Nat.le_of_ble_eq_true rfl) (fun g C => ?_)
  have e : (some (r_M_isDigit x1) : Option Int32) = some (r_M_isIn x1 48 57) := rfl
  rw [e]
  show VO g Y_M_isDigit G (fun z => Qm g Y_M_isDigit G (fp L S z)) 0 0 0 [(0, rf G 104), (1, .int x1)] [] L S _ some
  refine v_aload_n (pc := 0) C d_M_isDigit_0 rfl 0 rfl ?_
  refine v_iload_n (pc := 1) C d_M_isDigit_1 rfl 1 rfl ?_
  refine v_bipush (pc := 2) C d_M_isDigit_2 bp_48 ?_
  refine v_bipush (pc := 4) C d_M_isDigit_4 bp_57 ?_
  refine v_ct (pc := 6) (inv_V (As := [.int x1, .int 48, .int 57]) (st := []) C ml_M_153 mv_M_isIn ro_M_isDigit_M_isIn (sh_104 hL) rfl rfl rfl rfl (Nat.le_of_ble_eq_true rfl) d_M_isDigit_6) (c_M_isIn hL S x1 48 57) ⟨rfl, rfl⟩ ⟨Nat.zero_le _, Nat.zero_le _⟩ ?_
  exact v_zret (z := (r_M_isIn x1 48 57)) C d_M_isDigit_9 rfl (b01_n (z_M_isIn x1 48 57)) ⟨Nat.zero_le _, Nat.zero_le _⟩ (rfl) rfl
