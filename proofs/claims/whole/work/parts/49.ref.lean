-- M_explained
theorem d_M_explained_0 : decode (mB Y_M_explained) 0 = .ok (.iconst 0, 1) := by decide +kernel
theorem d_M_explained_1 : decode (mB Y_M_explained) 1 = .ok (.istore_n 3, 1) := by decide +kernel
theorem d_M_explained_2 : decode (mB Y_M_explained) 2 = .ok (.bipush 20, 2) := by decide +kernel
theorem d_M_explained_4 : decode (mB Y_M_explained) 4 = .ok (.iload_n 1, 1) := by decide +kernel
theorem d_M_explained_5 : decode (mB Y_M_explained) 5 = .ok (.imul, 1) := by decide +kernel
theorem d_M_explained_6 : decode (mB Y_M_explained) 6 = .ok (.istore 4, 2) := by decide +kernel
theorem d_M_explained_8 : decode (mB Y_M_explained) 8 = .ok (.iload 4, 2) := by decide +kernel
theorem d_M_explained_10 : decode (mB Y_M_explained) 10 = .ok (.bipush 20, 2) := by decide +kernel
theorem d_M_explained_12 : decode (mB Y_M_explained) 12 = .ok (.iload_n 1, 1) := by decide +kernel
theorem d_M_explained_13 : decode (mB Y_M_explained) 13 = .ok (.imul, 1) := by decide +kernel
theorem d_M_explained_14 : decode (mB Y_M_explained) 14 = .ok (.aload_n 0, 1) := by decide +kernel
theorem d_M_explained_15 : decode (mB Y_M_explained) 15 = .ok (.getfield 111, 3) := by decide +kernel
theorem d_M_explained_18 : decode (mB Y_M_explained) 18 = .ok (.iload_n 1, 1) := by decide +kernel
theorem d_M_explained_19 : decode (mB Y_M_explained) 19 = .ok (.iaload, 1) := by decide +kernel
theorem d_M_explained_20 : decode (mB Y_M_explained) 20 = .ok (.iadd, 1) := by decide +kernel
theorem d_M_explained_21 : decode (mB Y_M_explained) 21 = .ok (.if_icmp .ge 127, 3) := by decide +kernel
theorem d_M_explained_24 : decode (mB Y_M_explained) 24 = .ok (.aload_n 0, 1) := by decide +kernel
theorem d_M_explained_25 : decode (mB Y_M_explained) 25 = .ok (.aload_n 0, 1) := by decide +kernel
theorem d_M_explained_26 : decode (mB Y_M_explained) 26 = .ok (.getfield 114, 3) := by decide +kernel
theorem d_M_explained_29 : decode (mB Y_M_explained) 29 = .ok (.iload 4, 2) := by decide +kernel
theorem d_M_explained_31 : decode (mB Y_M_explained) 31 = .ok (.iaload, 1) := by decide +kernel
theorem d_M_explained_32 : decode (mB Y_M_explained) 32 = .ok (.aload_n 0, 1) := by decide +kernel
theorem d_M_explained_33 : decode (mB Y_M_explained) 33 = .ok (.getfield 114, 3) := by decide +kernel
theorem d_M_explained_36 : decode (mB Y_M_explained) 36 = .ok (.bipush 20, 2) := by decide +kernel
theorem d_M_explained_38 : decode (mB Y_M_explained) 38 = .ok (.iload_n 1, 1) := by decide +kernel
theorem d_M_explained_39 : decode (mB Y_M_explained) 39 = .ok (.imul, 1) := by decide +kernel
theorem d_M_explained_40 : decode (mB Y_M_explained) 40 = .ok (.iaload, 1) := by decide +kernel
theorem d_M_explained_41 : decode (mB Y_M_explained) 41 = .ok (.invokevirtual 393, 3) := by decide +kernel
theorem d_M_explained_44 : decode (mB Y_M_explained) 44 = .ok (.istore 5, 2) := by decide +kernel
theorem d_M_explained_46 : decode (mB Y_M_explained) 46 = .ok (.iconst 0, 1) := by decide +kernel
theorem d_M_explained_47 : decode (mB Y_M_explained) 47 = .ok (.istore 6, 2) := by decide +kernel
theorem d_M_explained_49 : decode (mB Y_M_explained) 49 = .ok (.iload 6, 2) := by decide +kernel
theorem d_M_explained_51 : decode (mB Y_M_explained) 51 = .ok (.aload_n 0, 1) := by decide +kernel
theorem d_M_explained_52 : decode (mB Y_M_explained) 52 = .ok (.getfield 199, 3) := by decide +kernel
theorem d_M_explained_55 : decode (mB Y_M_explained) 55 = .ok (.if_icmp .ge 78, 3) := by decide +kernel
theorem d_M_explained_58 : decode (mB Y_M_explained) 58 = .ok (.iload 5, 2) := by decide +kernel
theorem d_M_explained_60 : decode (mB Y_M_explained) 60 = .ok (.ifCond .ne 60, 3) := by decide +kernel
theorem d_M_explained_63 : decode (mB Y_M_explained) 63 = .ok (.iload_n 2, 1) := by decide +kernel
theorem d_M_explained_64 : decode (mB Y_M_explained) 64 = .ok (.iload 6, 2) := by decide +kernel
theorem d_M_explained_66 : decode (mB Y_M_explained) 66 = .ok (.ishr, 1) := by decide +kernel
theorem d_M_explained_67 : decode (mB Y_M_explained) 67 = .ok (.iconst 1, 1) := by decide +kernel
theorem d_M_explained_68 : decode (mB Y_M_explained) 68 = .ok (.iand, 1) := by decide +kernel
theorem d_M_explained_69 : decode (mB Y_M_explained) 69 = .ok (.iconst 1, 1) := by decide +kernel
theorem d_M_explained_70 : decode (mB Y_M_explained) 70 = .ok (.if_icmp .ne 54, 3) := by decide +kernel
theorem d_M_explained_73 : decode (mB Y_M_explained) 73 = .ok (.aload_n 0, 1) := by decide +kernel
theorem d_M_explained_74 : decode (mB Y_M_explained) 74 = .ok (.getfield 54, 3) := by decide +kernel
theorem d_M_explained_77 : decode (mB Y_M_explained) 77 = .ok (.iload 6, 2) := by decide +kernel
theorem d_M_explained_79 : decode (mB Y_M_explained) 79 = .ok (.iaload, 1) := by decide +kernel
theorem d_M_explained_80 : decode (mB Y_M_explained) 80 = .ok (.iconst (-1), 1) := by decide +kernel
theorem d_M_explained_81 : decode (mB Y_M_explained) 81 = .ok (.if_icmp .eq 43, 3) := by decide +kernel
theorem d_M_explained_84 : decode (mB Y_M_explained) 84 = .ok (.aload_n 0, 1) := by decide +kernel
theorem d_M_explained_85 : decode (mB Y_M_explained) 85 = .ok (.aload_n 0, 1) := by decide +kernel
theorem d_M_explained_86 : decode (mB Y_M_explained) 86 = .ok (.getfield 114, 3) := by decide +kernel
theorem d_M_explained_89 : decode (mB Y_M_explained) 89 = .ok (.iload 4, 2) := by decide +kernel
theorem d_M_explained_91 : decode (mB Y_M_explained) 91 = .ok (.iaload, 1) := by decide +kernel
theorem d_M_explained_92 : decode (mB Y_M_explained) 92 = .ok (.aload_n 0, 1) := by decide +kernel
theorem d_M_explained_93 : decode (mB Y_M_explained) 93 = .ok (.getfield 114, 3) := by decide +kernel
theorem d_M_explained_96 : decode (mB Y_M_explained) 96 = .ok (.bipush 20, 2) := by decide +kernel
theorem d_M_explained_98 : decode (mB Y_M_explained) 98 = .ok (.iload_n 1, 1) := by decide +kernel
theorem d_M_explained_99 : decode (mB Y_M_explained) 99 = .ok (.imul, 1) := by decide +kernel
theorem d_M_explained_100 : decode (mB Y_M_explained) 100 = .ok (.iaload, 1) := by decide +kernel
theorem d_M_explained_101 : decode (mB Y_M_explained) 101 = .ok (.aload_n 0, 1) := by decide +kernel
theorem d_M_explained_102 : decode (mB Y_M_explained) 102 = .ok (.getfield 48, 3) := by decide +kernel
theorem d_M_explained_105 : decode (mB Y_M_explained) 105 = .ok (.iload 6, 2) := by decide +kernel
theorem d_M_explained_107 : decode (mB Y_M_explained) 107 = .ok (.iaload, 1) := by decide +kernel
theorem d_M_explained_108 : decode (mB Y_M_explained) 108 = .ok (.iadd, 1) := by decide +kernel
theorem d_M_explained_109 : decode (mB Y_M_explained) 109 = .ok (.aload_n 0, 1) := by decide +kernel
theorem d_M_explained_110 : decode (mB Y_M_explained) 110 = .ok (.getfield 221, 3) := by decide +kernel
theorem d_M_explained_113 : decode (mB Y_M_explained) 113 = .ok (.isub, 1) := by decide +kernel
theorem d_M_explained_114 : decode (mB Y_M_explained) 114 = .ok (.invokevirtual 393, 3) := by decide +kernel
theorem d_M_explained_117 : decode (mB Y_M_explained) 117 = .ok (.ifCond .eq 7, 3) := by decide +kernel
theorem d_M_explained_120 : decode (mB Y_M_explained) 120 = .ok (.iconst 1, 1) := by decide +kernel
theorem d_M_explained_121 : decode (mB Y_M_explained) 121 = .ok (.goto 4, 3) := by decide +kernel
theorem d_M_explained_124 : decode (mB Y_M_explained) 124 = .ok (.iconst 0, 1) := by decide +kernel
theorem d_M_explained_125 : decode (mB Y_M_explained) 125 = .ok (.istore 5, 2) := by decide +kernel
theorem d_M_explained_127 : decode (mB Y_M_explained) 127 = .ok (.iinc 6 1, 3) := by decide +kernel
theorem d_M_explained_130 : decode (mB Y_M_explained) 130 = .ok (.goto (-81), 3) := by decide +kernel
theorem d_M_explained_133 : decode (mB Y_M_explained) 133 = .ok (.iload 5, 2) := by decide +kernel
theorem d_M_explained_135 : decode (mB Y_M_explained) 135 = .ok (.ifCond .eq 7, 3) := by decide +kernel
theorem d_M_explained_138 : decode (mB Y_M_explained) 138 = .ok (.iload_n 3, 1) := by decide +kernel
theorem d_M_explained_139 : decode (mB Y_M_explained) 139 = .ok (.iconst 1, 1) := by decide +kernel
theorem d_M_explained_140 : decode (mB Y_M_explained) 140 = .ok (.iadd, 1) := by decide +kernel
theorem d_M_explained_141 : decode (mB Y_M_explained) 141 = .ok (.istore_n 3, 1) := by decide +kernel
theorem d_M_explained_142 : decode (mB Y_M_explained) 142 = .ok (.iinc 4 1, 3) := by decide +kernel
theorem d_M_explained_145 : decode (mB Y_M_explained) 145 = .ok (.goto (-137), 3) := by decide +kernel
theorem d_M_explained_148 : decode (mB Y_M_explained) 148 = .ok (.iload_n 3, 1) := by decide +kernel
theorem d_M_explained_149 : decode (mB Y_M_explained) 149 = .ok (.ireturn, 1) := by decide +kernel
theorem ro_M_explained_M_isNear : roomy Y_M_explained Y_M_isNear := ⟨Nat.le_of_ble_eq_true rfl, Nat.le_of_ble_eq_true rfl⟩
def r_M_explained_L49 (y1_ : Int32) (y2_ : Int32) (y3_ : Int32) (y4_ : Int32) : Nat → Int32 → Int32 → Sto → Option (Int32 × Int32)
  | 0, _, _, _ => none
  | n + 1, x5_, x6_, S =>
    if (S 104 5) ≤ x6_ then
      some (x5_, x6_)
    else
      jn (fun (v1 : Int32) =>
        lt (x6_ + 1) (fun v2 =>
        r_M_explained_L49 y1_ y2_ y3_ y4_ n v1 v2 S)) (fun j125 =>
      if x5_ = 0 then
        if ((y2_ >>> (x6_ &&& 31)) &&& 1) = 1 then
          chk (inr x6_ 10) (
          if (S 117 x6_.toNatClampNeg) = (-1) then
            j125 (0)
          else
            chk (inr y4_ 80) (
            chk (inr (20 * y1_) 80) (
            chk (inr x6_ 10) (
            if (r_M_isNear (S 136 y4_.toNatClampNeg) (((S 136 ((20 * y1_).toNatClampNeg)) + (S 115 x6_.toNatClampNeg)) - (S 104 17)) S) = 0 then
              j125 (0)
            else
              j125 (1)))))
        else
          j125 (0)
      else
        j125 (1))
def r_M_explained_L8 (y1_ : Int32) (y2_ : Int32) : Nat → Int32 → Int32 → Sto → Option (Int32 × Int32)
  | 0, _, _, _ => none
  | n + 1, x3_, x4_, S =>
    chk (inr y1_ 4) (
    if ((20 * y1_) + (S 135 y1_.toNatClampNeg)) ≤ x4_ then
      some (x3_, x4_)
    else
      chk (inr x4_ 80) (
      chk (inr (20 * y1_) 80) (
      lt (r_M_isNear (S 136 x4_.toNatClampNeg) (S 136 ((20 * y1_).toNatClampNeg)) S) (fun v1 =>
      (r_M_explained_L49 y1_ y2_ x3_ x4_ fu v1 0 S).bind (fun (v2, v3) =>
      jn (fun (v4 : Int32) =>
        lt (x4_ + 1) (fun v5 =>
        r_M_explained_L8 y1_ y2_ n v4 v5 S)) (fun j142 =>
      if v2 = 0 then
        j142 (x3_)
      else
        lt (x3_ + 1) (fun v6 =>
        j142 (v6))))))))
set_option maxHeartbeats 4000000 in
set_option maxRecDepth 20000 in
theorem w_M_explained_L49 {g : Gm} {G : Gl} {L : Shp} (C : Cx g Y_M_explained G) (hL : Ext L) (S : Sto) (y1_ : Int32) (y2_ : Int32) (y3_ : Int32) (y4_ : Int32)  :
    ∀ (n : Nat) (x5_ : Int32) (x6_ : Int32) (K : (Int32 × Int32) → Option Int32), (∀ (x5_ : Int32) (x6_ : Int32), VO g Y_M_explained G (fun z => Qm g Y_M_explained G (fp L S z)) 0 0 133 [(0, rf G 104), (1, .int y1_), (2, .int y2_), (3, .int y3_), (4, .int y4_), (5, .int x5_)] [] L S (some (x5_, x6_)) K) → VO g Y_M_explained G (fun z => Qm g Y_M_explained G (fp L S z)) 0 0 49 [(0, rf G 104), (1, .int y1_), (2, .int y2_), (3, .int y3_), (4, .int y4_), (5, .int x5_), (6, .int x6_)] [] L S (r_M_explained_L49 y1_ y2_ y3_ y4_ n x5_ x6_ S) K := by
  intro n
  induction n with
  | zero => intro x5_ x6_ K; intros; exact v_none
  | succ n ih =>
    intro x5_ x6_ K hK
    rw [r_M_explained_L49]
    refine v_iload (pc := 49) C d_M_explained_49 6 rfl ?_
    refine v_aload_n (pc := 51) C d_M_explained_51 rfl 0 rfl ?_
    refine v_getI (pc := 52) C fl_M_199 (sh_104 hL) rfl d_M_explained_52 ?_
    refine v_icmp_ge (pc := 55) (tgt := 133) C d_M_explained_55 rfl (fun _ => ?_) (fun _ => ?_)
    · refine v_sub [0, 1, 2, 3, 4, 5] rfl ?_
      exact hK x5_ x6_
    · refine v_iload (pc := 58) C d_M_explained_58 5 rfl ?_
      refine v_jn (fun j => ∀ (v1 : Int32), VO g Y_M_explained G (fun z => Qm g Y_M_explained G (fp L S z)) 0 0 125 [(0, rf G 104), (1, .int y1_), (2, .int y2_), (3, .int y3_), (4, .int y4_), (6, .int x6_)] [.int v1] L S (j (v1)) K) (fun v1 => ?_) (fun j125 hj125 => ?_)
      · refine v_istore (pc := 125) (lv' := [(5, .int v1), (0, rf G 104), (1, .int y1_), (2, .int y2_), (3, .int y3_), (4, .int y4_), (6, .int x6_)]) C d_M_explained_125 (by decide) rfl ?_
        refine v_iinc (pc := 127) (p := 6) (c := 1) C d_M_explained_127 rfl (by decide) (by decide) (fun v2 => [(6, .int v2), (5, .int v1), (0, rf G 104), (1, .int y1_), (2, .int y2_), (3, .int y3_), (4, .int y4_)]) (fun _ => rfl) (fun v2 => ?_)
        refine v_goto (pc := 130) (tgt := 49) C d_M_explained_130 rfl ?_
        refine v_sub [2, 3, 4, 5, 6, 1, 0] rfl ?_
        exact ih v1 v2 K hK
      · refine v_if_ne (pc := 60) (tgt := 120) C d_M_explained_60 rfl (fun _ => ?_) (fun _ => ?_)
        · refine v_iconst (pc := 120) C d_M_explained_120 ic_1 ?_
          refine v_goto (pc := 121) (tgt := 125) C d_M_explained_121 rfl ?_
          refine v_sub [0, 1, 2, 3, 4, 6] rfl ?_
          exact hj125 1
        · refine v_iload_n (pc := 63) C d_M_explained_63 rfl 2 rfl ?_
          refine v_iload (pc := 64) C d_M_explained_64 6 rfl ?_
          refine v_ishr (pc := 66) C d_M_explained_66 ?_
          refine v_iconst (pc := 67) C d_M_explained_67 ic_1 ?_
          refine v_iand (pc := 68) C d_M_explained_68 ?_
          refine v_iconst (pc := 69) C d_M_explained_69 ic_1 ?_
          refine v_icmp_ne (pc := 70) (tgt := 124) C d_M_explained_70 rfl (fun _ => ?_) (fun _ => ?_)
          · refine v_iconst (pc := 124) C d_M_explained_124 ic_0 ?_
            refine v_sub [0, 1, 2, 3, 4, 6] rfl ?_
            exact hj125 0
          · refine v_aload_n (pc := 73) C d_M_explained_73 rfl 0 rfl ?_
            refine v_getR (pc := 74) C fl_M_54 (sh_104 hL) rfl d_M_explained_74 ?_
            refine v_iload (pc := 77) C d_M_explained_77 6 rfl ?_
            refine v_iald (pc := 79) C (sh_117 hL) d_M_explained_79 (fun _ => ?_)
            refine v_iconst (pc := 80) C d_M_explained_80 ic_m1 ?_
            refine v_icmp_eq (pc := 81) (tgt := 124) C d_M_explained_81 rfl (fun _ => ?_) (fun _ => ?_)
            · refine v_iconst (pc := 124) C d_M_explained_124 ic_0 ?_
              refine v_sub [0, 1, 2, 3, 4, 6] rfl ?_
              exact hj125 0
            · refine v_aload_n (pc := 84) C d_M_explained_84 rfl 0 rfl ?_
              refine v_aload_n (pc := 85) C d_M_explained_85 rfl 0 rfl ?_
              refine v_getR (pc := 86) C fl_M_114 (sh_104 hL) rfl d_M_explained_86 ?_
              refine v_iload (pc := 89) C d_M_explained_89 4 rfl ?_
              refine v_iald (pc := 91) C (sh_136 hL) d_M_explained_91 (fun _ => ?_)
              refine v_aload_n (pc := 92) C d_M_explained_92 rfl 0 rfl ?_
              refine v_getR (pc := 93) C fl_M_114 (sh_104 hL) rfl d_M_explained_93 ?_
              refine v_bipush (pc := 96) C d_M_explained_96 bp_20 ?_
              refine v_iload_n (pc := 98) C d_M_explained_98 rfl 1 rfl ?_
              refine v_imul (pc := 99) C d_M_explained_99 ?_
              refine v_iald (pc := 100) C (sh_136 hL) d_M_explained_100 (fun _ => ?_)
              refine v_aload_n (pc := 101) C d_M_explained_101 rfl 0 rfl ?_
              refine v_getR (pc := 102) C fl_M_48 (sh_104 hL) rfl d_M_explained_102 ?_
              refine v_iload (pc := 105) C d_M_explained_105 6 rfl ?_
              refine v_iald (pc := 107) C (sh_115 hL) d_M_explained_107 (fun _ => ?_)
              refine v_iadd (pc := 108) C d_M_explained_108 ?_
              refine v_aload_n (pc := 109) C d_M_explained_109 rfl 0 rfl ?_
              refine v_getI (pc := 110) C fl_M_221 (sh_104 hL) rfl d_M_explained_110 ?_
              refine v_isub (pc := 113) C d_M_explained_113 ?_
              refine v_ct (pc := 114) (inv_V (As := [.int (S 136 y4_.toNatClampNeg), .int (((S 136 ((20 * y1_).toNatClampNeg)) + (S 115 x6_.toNatClampNeg)) - (S 104 17))]) (st := []) C ml_M_393 mv_M_isNear ro_M_explained_M_isNear (sh_104 hL) rfl rfl rfl rfl (Nat.le_of_ble_eq_true rfl) d_M_explained_114) (c_M_isNear hL S (S 136 y4_.toNatClampNeg) (((S 136 ((20 * y1_).toNatClampNeg)) + (S 115 x6_.toNatClampNeg)) - (S 104 17))) ⟨rfl, rfl⟩ ⟨Nat.zero_le _, Nat.zero_le _⟩ ?_
              refine v_if_eq (pc := 117) (tgt := 124) C d_M_explained_117 rfl (fun _ => ?_) (fun _ => ?_)
              · refine v_iconst (pc := 124) C d_M_explained_124 ic_0 ?_
                refine v_sub [0, 1, 2, 3, 4, 6] rfl ?_
                exact hj125 0
              · refine v_iconst (pc := 120) C d_M_explained_120 ic_1 ?_
                refine v_goto (pc := 121) (tgt := 125) C d_M_explained_121 rfl ?_
                refine v_sub [0, 1, 2, 3, 4, 6] rfl ?_
                exact hj125 1
set_option maxHeartbeats 4000000 in
set_option maxRecDepth 20000 in
theorem w_M_explained_L8 {g : Gm} {G : Gl} {L : Shp} (C : Cx g Y_M_explained G) (hL : Ext L) (S : Sto) (y1_ : Int32) (y2_ : Int32)  :
    ∀ (n : Nat) (x3_ : Int32) (x4_ : Int32) (K : (Int32 × Int32) → Option Int32), (∀ (x3_ : Int32) (x4_ : Int32), VO g Y_M_explained G (fun z => Qm g Y_M_explained G (fp L S z)) 0 0 148 [(3, .int x3_)] [] L S (some (x3_, x4_)) K) → VO g Y_M_explained G (fun z => Qm g Y_M_explained G (fp L S z)) 0 0 8 [(0, rf G 104), (1, .int y1_), (2, .int y2_), (3, .int x3_), (4, .int x4_)] [] L S (r_M_explained_L8 y1_ y2_ n x3_ x4_ S) K := by
  intro n
  induction n with
  | zero => intro x3_ x4_ K; intros; exact v_none
  | succ n ih =>
    intro x3_ x4_ K hK
    rw [r_M_explained_L8]
    refine v_iload (pc := 8) C d_M_explained_8 4 rfl ?_
    refine v_bipush (pc := 10) C d_M_explained_10 bp_20 ?_
    refine v_iload_n (pc := 12) C d_M_explained_12 rfl 1 rfl ?_
    refine v_imul (pc := 13) C d_M_explained_13 ?_
    refine v_aload_n (pc := 14) C d_M_explained_14 rfl 0 rfl ?_
    refine v_getR (pc := 15) C fl_M_111 (sh_104 hL) rfl d_M_explained_15 ?_
    refine v_iload_n (pc := 18) C d_M_explained_18 rfl 1 rfl ?_
    refine v_iald (pc := 19) C (sh_135 hL) d_M_explained_19 (fun _ => ?_)
    refine v_iadd (pc := 20) C d_M_explained_20 ?_
    refine v_icmp_ge (pc := 21) (tgt := 148) C d_M_explained_21 rfl (fun _ => ?_) (fun _ => ?_)
    · refine v_sub [3] rfl ?_
      exact hK x3_ x4_
    · refine v_aload_n (pc := 24) C d_M_explained_24 rfl 0 rfl ?_
      refine v_aload_n (pc := 25) C d_M_explained_25 rfl 0 rfl ?_
      refine v_getR (pc := 26) C fl_M_114 (sh_104 hL) rfl d_M_explained_26 ?_
      refine v_iload (pc := 29) C d_M_explained_29 4 rfl ?_
      refine v_iald (pc := 31) C (sh_136 hL) d_M_explained_31 (fun _ => ?_)
      refine v_aload_n (pc := 32) C d_M_explained_32 rfl 0 rfl ?_
      refine v_getR (pc := 33) C fl_M_114 (sh_104 hL) rfl d_M_explained_33 ?_
      refine v_bipush (pc := 36) C d_M_explained_36 bp_20 ?_
      refine v_iload_n (pc := 38) C d_M_explained_38 rfl 1 rfl ?_
      refine v_imul (pc := 39) C d_M_explained_39 ?_
      refine v_iald (pc := 40) C (sh_136 hL) d_M_explained_40 (fun _ => ?_)
      refine v_ct (pc := 41) (inv_V (As := [.int (S 136 x4_.toNatClampNeg), .int (S 136 ((20 * y1_).toNatClampNeg))]) (st := []) C ml_M_393 mv_M_isNear ro_M_explained_M_isNear (sh_104 hL) rfl rfl rfl rfl (Nat.le_of_ble_eq_true rfl) d_M_explained_41) (c_M_isNear hL S (S 136 x4_.toNatClampNeg) (S 136 ((20 * y1_).toNatClampNeg))) ⟨rfl, rfl⟩ ⟨Nat.zero_le _, Nat.zero_le _⟩ ?_
      refine v_lt (fun v1 => ?_)
      refine v_istore (pc := 44) (lv' := [(5, .int v1), (0, rf G 104), (1, .int y1_), (2, .int y2_), (3, .int x3_), (4, .int x4_)]) C d_M_explained_44 (by decide) rfl ?_
      refine v_iconst (pc := 46) C d_M_explained_46 ic_0 ?_
      refine v_istore (pc := 47) (lv' := [(6, .int 0), (5, .int v1), (0, rf G 104), (1, .int y1_), (2, .int y2_), (3, .int x3_), (4, .int x4_)]) C d_M_explained_47 (by decide) rfl ?_
      refine v_sub [2, 3, 4, 5, 6, 1, 0] rfl ?_
      refine v_bind ?_
      refine w_M_explained_L49 C hL S y1_ y2_ x3_ x4_  fu v1 0 _ (fun v2 v3 => ?_) 
      refine v_some ?_
      refine v_iload (pc := 133) C d_M_explained_133 5 rfl ?_
      refine v_jn (fun j => ∀ (v4 : Int32), VO g Y_M_explained G (fun z => Qm g Y_M_explained G (fp L S z)) 0 0 142 [(0, rf G 104), (1, .int y1_), (2, .int y2_), (3, .int v4), (4, .int x4_)] [] L S (j (v4)) K) (fun v4 => ?_) (fun j142 hj142 => ?_)
      · refine v_iinc (pc := 142) (p := 4) (c := 1) C d_M_explained_142 rfl (by decide) (by decide) (fun v5 => [(4, .int v5), (0, rf G 104), (1, .int y1_), (2, .int y2_), (3, .int v4)]) (fun _ => rfl) (fun v5 => ?_)
        refine v_goto (pc := 145) (tgt := 8) C d_M_explained_145 rfl ?_
        refine v_sub [1, 2, 3, 4, 0] rfl ?_
        exact ih v4 v5 K hK
      · refine v_if_eq (pc := 135) (tgt := 142) C d_M_explained_135 rfl (fun _ => ?_) (fun _ => ?_)
        · refine v_sub [0, 1, 2, 3, 4] rfl ?_
          exact hj142 x3_
        · refine v_iload_n (pc := 138) C d_M_explained_138 rfl 3 rfl ?_
          refine v_iconst (pc := 139) C d_M_explained_139 ic_1 ?_
          refine v_iadd (pc := 140) C d_M_explained_140 ?_
          refine v_lt (fun v6 => ?_)
          refine v_istore_n (pc := 141) (lv' := [(3, .int v6), (0, rf G 104), (1, .int y1_), (2, .int y2_), (4, .int x4_), (5, .int v2)]) C d_M_explained_141 rfl (by decide) rfl ?_
          refine v_sub [1, 2, 3, 0, 4] rfl ?_
          exact hj142 v6
def r_M_explained (x1 : Int32) (x2 : Int32) (S : Sto) : Option Int32 :=
  lt (20 * x1) (fun v1 =>
  (r_M_explained_L8 x1 x2 fu 0 v1 S).bind (fun (v2, v3) =>
  some v2))
set_option maxHeartbeats 4000000 in
set_option maxRecDepth 20000 in
theorem c_M_explained {G : Gl} {L : Shp} (hL : Ext L) (S : Sto) (x1 : Int32) (x2 : Int32)  : Ct Y_M_explained G [rf G 104, .int x1, .int x2] L S (fp L S) (r_M_explained x1 x2 S) := by
  refine ct_of (by decide +kernel) (Nat.le_of_ble_eq_true rfl) (fun g C => ?_)
  show VO g Y_M_explained G (fun z => Qm g Y_M_explained G (fp L S z)) 0 0 0 [(0, rf G 104), (1, .int x1), (2, .int x2)] [] L S (r_M_explained x1 x2 S) some
  unfold r_M_explained
  refine v_iconst (pc := 0) C d_M_explained_0 ic_0 ?_
  refine v_istore_n (pc := 1) (lv' := [(3, .int 0), (0, rf G 104), (1, .int x1), (2, .int x2)]) C d_M_explained_1 rfl (by decide) rfl ?_
  refine v_bipush (pc := 2) C d_M_explained_2 bp_20 ?_
  refine v_iload_n (pc := 4) C d_M_explained_4 rfl 2 rfl ?_
  refine v_imul (pc := 5) C d_M_explained_5 ?_
  refine v_lt (fun v1 => ?_)
  refine v_istore (pc := 6) (lv' := [(4, .int v1), (3, .int 0), (0, rf G 104), (1, .int x1), (2, .int x2)]) C d_M_explained_6 (by decide) rfl ?_
  refine v_sub [2, 3, 4, 1, 0] rfl ?_
  refine v_bind ?_
  refine w_M_explained_L8 C hL S x1 x2  fu 0 v1 _ (fun v2 v3 => ?_) 
  refine v_some ?_
  refine v_iload_n (pc := 148) C d_M_explained_148 rfl 0 rfl ?_
  exact v_iret (z := v2) C d_M_explained_149 rfl ⟨Nat.zero_le _, Nat.zero_le _⟩ (rfl) rfl
-- M_ones
theorem d_M_ones_0 : decode (mB Y_M_ones) 0 = .ok (.iconst 0, 1) := by decide +kernel
theorem d_M_ones_1 : decode (mB Y_M_ones) 1 = .ok (.istore_n 2, 1) := by decide +kernel
theorem d_M_ones_2 : decode (mB Y_M_ones) 2 = .ok (.iload_n 1, 1) := by decide +kernel
theorem d_M_ones_3 : decode (mB Y_M_ones) 3 = .ok (.istore_n 3, 1) := by decide +kernel
theorem d_M_ones_4 : decode (mB Y_M_ones) 4 = .ok (.iload_n 3, 1) := by decide +kernel
theorem d_M_ones_5 : decode (mB Y_M_ones) 5 = .ok (.ifCond .eq 16, 3) := by decide +kernel
theorem d_M_ones_8 : decode (mB Y_M_ones) 8 = .ok (.iload_n 2, 1) := by decide +kernel
theorem d_M_ones_9 : decode (mB Y_M_ones) 9 = .ok (.iconst 1, 1) := by decide +kernel
theorem d_M_ones_10 : decode (mB Y_M_ones) 10 = .ok (.iadd, 1) := by decide +kernel
theorem d_M_ones_11 : decode (mB Y_M_ones) 11 = .ok (.istore_n 2, 1) := by decide +kernel
theorem d_M_ones_12 : decode (mB Y_M_ones) 12 = .ok (.iload_n 3, 1) := by decide +kernel
theorem d_M_ones_13 : decode (mB Y_M_ones) 13 = .ok (.iload_n 3, 1) := by decide +kernel
theorem d_M_ones_14 : decode (mB Y_M_ones) 14 = .ok (.iconst 1, 1) := by decide +kernel
theorem d_M_ones_15 : decode (mB Y_M_ones) 15 = .ok (.isub, 1) := by decide +kernel
theorem d_M_ones_16 : decode (mB Y_M_ones) 16 = .ok (.iand, 1) := by decide +kernel
theorem d_M_ones_17 : decode (mB Y_M_ones) 17 = .ok (.istore_n 3, 1) := by decide +kernel
theorem d_M_ones_18 : decode (mB Y_M_ones) 18 = .ok (.goto (-14), 3) := by decide +kernel
theorem d_M_ones_21 : decode (mB Y_M_ones) 21 = .ok (.iload_n 2, 1) := by decide +kernel
theorem d_M_ones_22 : decode (mB Y_M_ones) 22 = .ok (.ireturn, 1) := by decide +kernel
def r_M_ones_L4  : Nat → Int32 → Int32 → Option (Int32 × Int32)
  | 0, _, _ => none
  | n + 1, x2_, x3_ =>
    if x3_ = 0 then
      some (x2_, x3_)
    else
      lt (x2_ + 1) (fun v1 =>
      lt (x3_ &&& (x3_ - 1)) (fun v2 =>
      r_M_ones_L4 n v1 v2))
set_option maxHeartbeats 4000000 in
set_option maxRecDepth 20000 in
theorem w_M_ones_L4 {g : Gm} {G : Gl} {L : Shp} (C : Cx g Y_M_ones G) (hL : Ext L) (S : Sto)  :
    ∀ (n : Nat) (x2_ : Int32) (x3_ : Int32) (K : (Int32 × Int32) → Option Int32), (∀ (x2_ : Int32) (x3_ : Int32), VO g Y_M_ones G (fun z => Qm g Y_M_ones G (fp L S z)) 0 0 21 [(2, .int x2_)] [] L S (some (x2_, x3_)) K) → VO g Y_M_ones G (fun z => Qm g Y_M_ones G (fp L S z)) 0 0 4 [(2, .int x2_), (3, .int x3_)] [] L S (r_M_ones_L4 n x2_ x3_) K := by
  intro n
  induction n with
  | zero => intro x2_ x3_ K; intros; exact v_none
  | succ n ih =>
    intro x2_ x3_ K hK
    rw [r_M_ones_L4]
    refine v_iload_n (pc := 4) C d_M_ones_4 rfl 1 rfl ?_
    refine v_if_eq (pc := 5) (tgt := 21) C d_M_ones_5 rfl (fun _ => ?_) (fun _ => ?_)
    · refine v_sub [0] rfl ?_
      exact hK x2_ x3_
    · refine v_iload_n (pc := 8) C d_M_ones_8 rfl 0 rfl ?_
      refine v_iconst (pc := 9) C d_M_ones_9 ic_1 ?_
      refine v_iadd (pc := 10) C d_M_ones_10 ?_
      refine v_lt (fun v1 => ?_)
      refine v_istore_n (pc := 11) (lv' := [(2, .int v1), (3, .int x3_)]) C d_M_ones_11 rfl (by decide) rfl ?_
      refine v_iload_n (pc := 12) C d_M_ones_12 rfl 1 rfl ?_
      refine v_iload_n (pc := 13) C d_M_ones_13 rfl 1 rfl ?_
      refine v_iconst (pc := 14) C d_M_ones_14 ic_1 ?_
      refine v_isub (pc := 15) C d_M_ones_15 ?_
      refine v_iand (pc := 16) C d_M_ones_16 ?_
      refine v_lt (fun v2 => ?_)
      refine v_istore_n (pc := 17) (lv' := [(3, .int v2), (2, .int v1)]) C d_M_ones_17 rfl (by decide) rfl ?_
      refine v_goto (pc := 18) (tgt := 4) C d_M_ones_18 rfl ?_
      refine v_sub [1, 0] rfl ?_
      exact ih v1 v2 K hK
def r_M_ones (x1 : Int32) : Option Int32 :=
  (r_M_ones_L4 fu 0 x1).bind (fun (v1, v2) =>
  some v1)
set_option maxHeartbeats 4000000 in
set_option maxRecDepth 20000 in
theorem c_M_ones {G : Gl} {L : Shp} (hL : Ext L) (S : Sto) (x1 : Int32)  : Ct Y_M_ones G [rf G 104, .int x1] L S (fp L S) (r_M_ones x1) := by
  refine ct_of (by decide +kernel) (Nat.le_of_ble_eq_true rfl) (fun g C => ?_)
  show VO g Y_M_ones G (fun z => Qm g Y_M_ones G (fp L S z)) 0 0 0 [(0, rf G 104), (1, .int x1)] [] L S (r_M_ones x1) some
  unfold r_M_ones
  refine v_iconst (pc := 0) C d_M_ones_0 ic_0 ?_
  refine v_istore_n (pc := 1) (lv' := [(2, .int 0), (0, rf G 104), (1, .int x1)]) C d_M_ones_1 rfl (by decide) rfl ?_
  refine v_iload_n (pc := 2) C d_M_ones_2 rfl 2 rfl ?_
  refine v_istore_n (pc := 3) (lv' := [(3, .int x1), (2, .int 0), (0, rf G 104), (1, .int x1)]) C d_M_ones_3 rfl (by decide) rfl ?_
  refine v_sub [1, 0] rfl ?_
  refine v_bind ?_
  refine w_M_ones_L4 C hL S  fu 0 x1 _ (fun v1 v2 => ?_) 
  refine v_some ?_
  refine v_iload_n (pc := 21) C d_M_ones_21 rfl 0 rfl ?_
  exact v_iret (z := v1) C d_M_ones_22 rfl ⟨Nat.zero_le _, Nat.zero_le _⟩ (rfl) rfl
-- M_must
theorem d_M_must_0 : decode (mB Y_M_must) 0 = .ok (.aload_n 0, 1) := by decide +kernel
theorem d_M_must_1 : decode (mB Y_M_must) 1 = .ok (.iconst 0, 1) := by decide +kernel
theorem d_M_must_2 : decode (mB Y_M_must) 2 = .ok (.putfield 150, 3) := by decide +kernel
theorem d_M_must_5 : decode (mB Y_M_must) 5 = .ok (.aload_n 0, 1) := by decide +kernel
theorem d_M_must_6 : decode (mB Y_M_must) 6 = .ok (.iload_n 1, 1) := by decide +kernel
theorem d_M_must_7 : decode (mB Y_M_must) 7 = .ok (.iload_n 2, 1) := by decide +kernel
theorem d_M_must_8 : decode (mB Y_M_must) 8 = .ok (.iload_n 3, 1) := by decide +kernel
theorem d_M_must_9 : decode (mB Y_M_must) 9 = .ok (.invokevirtual 409, 3) := by decide +kernel
theorem d_M_must_12 : decode (mB Y_M_must) 12 = .ok (.ifCond .ne 5, 3) := by decide +kernel
theorem d_M_must_15 : decode (mB Y_M_must) 15 = .ok (.iconst (-1), 1) := by decide +kernel
theorem d_M_must_16 : decode (mB Y_M_must) 16 = .ok (.ireturn, 1) := by decide +kernel
theorem d_M_must_17 : decode (mB Y_M_must) 17 = .ok (.aload_n 0, 1) := by decide +kernel
theorem d_M_must_18 : decode (mB Y_M_must) 18 = .ok (.aload_n 0, 1) := by decide +kernel
theorem d_M_must_19 : decode (mB Y_M_must) 19 = .ok (.getfield 33, 3) := by decide +kernel
theorem d_M_must_22 : decode (mB Y_M_must) 22 = .ok (.iload_n 2, 1) := by decide +kernel
theorem d_M_must_23 : decode (mB Y_M_must) 23 = .ok (.iaload, 1) := by decide +kernel
theorem d_M_must_24 : decode (mB Y_M_must) 24 = .ok (.iconst 0, 1) := by decide +kernel
theorem d_M_must_25 : decode (mB Y_M_must) 25 = .ok (.iconst (-1), 1) := by decide +kernel
theorem d_M_must_26 : decode (mB Y_M_must) 26 = .ok (.iconst 1, 1) := by decide +kernel
theorem d_M_must_27 : decode (mB Y_M_must) 27 = .ok (.aload_n 0, 1) := by decide +kernel
theorem d_M_must_28 : decode (mB Y_M_must) 28 = .ok (.getfield 33, 3) := by decide +kernel
theorem d_M_must_31 : decode (mB Y_M_must) 31 = .ok (.iload_n 3, 1) := by decide +kernel
theorem d_M_must_32 : decode (mB Y_M_must) 32 = .ok (.iaload, 1) := by decide +kernel
theorem d_M_must_33 : decode (mB Y_M_must) 33 = .ok (.invokevirtual 235, 3) := by decide +kernel
theorem d_M_must_36 : decode (mB Y_M_must) 36 = .ok (.aload_n 0, 1) := by decide +kernel
theorem d_M_must_37 : decode (mB Y_M_must) 37 = .ok (.iload_n 1, 1) := by decide +kernel
theorem d_M_must_38 : decode (mB Y_M_must) 38 = .ok (.iconst 1, 1) := by decide +kernel
theorem d_M_must_39 : decode (mB Y_M_must) 39 = .ok (.aload_n 0, 1) := by decide +kernel
theorem d_M_must_40 : decode (mB Y_M_must) 40 = .ok (.getfield 199, 3) := by decide +kernel
theorem d_M_must_43 : decode (mB Y_M_must) 43 = .ok (.ishl, 1) := by decide +kernel
theorem d_M_must_44 : decode (mB Y_M_must) 44 = .ok (.iconst 1, 1) := by decide +kernel
theorem d_M_must_45 : decode (mB Y_M_must) 45 = .ok (.isub, 1) := by decide +kernel
theorem d_M_must_46 : decode (mB Y_M_must) 46 = .ok (.invokevirtual 416, 3) := by decide +kernel
theorem d_M_must_49 : decode (mB Y_M_must) 49 = .ok (.istore 4, 2) := by decide +kernel
theorem d_M_must_51 : decode (mB Y_M_must) 51 = .ok (.iconst (-1), 1) := by decide +kernel
theorem d_M_must_52 : decode (mB Y_M_must) 52 = .ok (.istore 5, 2) := by decide +kernel
theorem d_M_must_54 : decode (mB Y_M_must) 54 = .ok (.iconst 0, 1) := by decide +kernel
theorem d_M_must_55 : decode (mB Y_M_must) 55 = .ok (.istore 6, 2) := by decide +kernel
theorem d_M_must_57 : decode (mB Y_M_must) 57 = .ok (.iload 6, 2) := by decide +kernel
theorem d_M_must_59 : decode (mB Y_M_must) 59 = .ok (.iconst 1, 1) := by decide +kernel
theorem d_M_must_60 : decode (mB Y_M_must) 60 = .ok (.aload_n 0, 1) := by decide +kernel
theorem d_M_must_61 : decode (mB Y_M_must) 61 = .ok (.getfield 199, 3) := by decide +kernel
theorem d_M_must_64 : decode (mB Y_M_must) 64 = .ok (.ishl, 1) := by decide +kernel
theorem d_M_must_65 : decode (mB Y_M_must) 65 = .ok (.if_icmp .ge 46, 3) := by decide +kernel
theorem d_M_must_68 : decode (mB Y_M_must) 68 = .ok (.iload 5, 2) := by decide +kernel
theorem d_M_must_70 : decode (mB Y_M_must) 70 = .ok (.iconst (-1), 1) := by decide +kernel
theorem d_M_must_71 : decode (mB Y_M_must) 71 = .ok (.if_icmp .eq 18, 3) := by decide +kernel
theorem d_M_must_74 : decode (mB Y_M_must) 74 = .ok (.aload_n 0, 1) := by decide +kernel
theorem d_M_must_75 : decode (mB Y_M_must) 75 = .ok (.iload 6, 2) := by decide +kernel
theorem d_M_must_77 : decode (mB Y_M_must) 77 = .ok (.invokevirtual 419, 3) := by decide +kernel
theorem d_M_must_80 : decode (mB Y_M_must) 80 = .ok (.aload_n 0, 1) := by decide +kernel
theorem d_M_must_81 : decode (mB Y_M_must) 81 = .ok (.iload 5, 2) := by decide +kernel
theorem d_M_must_83 : decode (mB Y_M_must) 83 = .ok (.invokevirtual 419, 3) := by decide +kernel
theorem d_M_must_86 : decode (mB Y_M_must) 86 = .ok (.if_icmp .ge 19, 3) := by decide +kernel
theorem d_M_must_89 : decode (mB Y_M_must) 89 = .ok (.aload_n 0, 1) := by decide +kernel
theorem d_M_must_90 : decode (mB Y_M_must) 90 = .ok (.iload_n 1, 1) := by decide +kernel
theorem d_M_must_91 : decode (mB Y_M_must) 91 = .ok (.iload 6, 2) := by decide +kernel
theorem d_M_must_93 : decode (mB Y_M_must) 93 = .ok (.invokevirtual 416, 3) := by decide +kernel
theorem d_M_must_96 : decode (mB Y_M_must) 96 = .ok (.iload 4, 2) := by decide +kernel
theorem d_M_must_98 : decode (mB Y_M_must) 98 = .ok (.if_icmp .ne 7, 3) := by decide +kernel
theorem d_M_must_101 : decode (mB Y_M_must) 101 = .ok (.iload 6, 2) := by decide +kernel
theorem d_M_must_103 : decode (mB Y_M_must) 103 = .ok (.istore 5, 2) := by decide +kernel
theorem d_M_must_105 : decode (mB Y_M_must) 105 = .ok (.iinc 6 1, 3) := by decide +kernel
theorem d_M_must_108 : decode (mB Y_M_must) 108 = .ok (.goto (-51), 3) := by decide +kernel
theorem d_M_must_111 : decode (mB Y_M_must) 111 = .ok (.iload 5, 2) := by decide +kernel
theorem d_M_must_113 : decode (mB Y_M_must) 113 = .ok (.ireturn, 1) := by decide +kernel
theorem ro_M_must_M_explained : roomy Y_M_must Y_M_explained := ⟨Nat.le_of_ble_eq_true rfl, Nat.le_of_ble_eq_true rfl⟩
theorem ro_M_must_M_hears : roomy Y_M_must Y_M_hears := ⟨Nat.le_of_ble_eq_true rfl, Nat.le_of_ble_eq_true rfl⟩
theorem ro_M_must_M_isCouple : roomy Y_M_must Y_M_isCouple := ⟨Nat.le_of_ble_eq_true rfl, Nat.le_of_ble_eq_true rfl⟩
theorem ro_M_must_M_ones : roomy Y_M_must Y_M_ones := ⟨Nat.le_of_ble_eq_true rfl, Nat.le_of_ble_eq_true rfl⟩
def r_M_must_L57 (y1_ : Int32) (y4_ : Int32) : Nat → Int32 → Int32 → Sto → Option (Int32 × Int32)
  | 0, _, _, _ => none
  | n + 1, x5_, x6_, S =>
    if (1 <<< ((S 104 5) &&& 31)) ≤ x6_ then
      some (x5_, x6_)
    else
      jn (fun (v1 : Int32) =>
        lt (x6_ + 1) (fun v2 =>
        r_M_must_L57 y1_ y4_ n v1 v2 S)) (fun j105 =>
      jn (fun (_ : Unit) =>
        (r_M_explained y1_ x6_ S).bind (fun r3 =>
        if r3 = y4_ then
          j105 (x6_)
        else
          j105 (x5_))) (fun j89 =>
      if x5_ = (-1) then
        j89 ()
      else
        (r_M_ones x6_).bind (fun r4 =>
        (r_M_ones x5_).bind (fun r5 =>
        if r5 ≤ r4 then
          j105 (x5_)
        else
          j89 ()))))
set_option maxHeartbeats 4000000 in
set_option maxRecDepth 20000 in
theorem w_M_must_L57 {g : Gm} {G : Gl} {L : Shp} (C : Cx g Y_M_must G) (hL : Ext L) (S : Sto) (y1_ : Int32) (y4_ : Int32)  :
    ∀ (n : Nat) (x5_ : Int32) (x6_ : Int32) (K : (Int32 × Int32) → Option (Int32 × Sto)), (∀ (x5_ : Int32) (x6_ : Int32), VO g Y_M_must G (fun z => Qm g Y_M_must G (fi L z)) 0 0 111 [(5, .int x5_)] [] L S (some (x5_, x6_)) K) → VO g Y_M_must G (fun z => Qm g Y_M_must G (fi L z)) 0 0 57 [(0, rf G 104), (1, .int y1_), (4, .int y4_), (5, .int x5_), (6, .int x6_)] [] L S (r_M_must_L57 y1_ y4_ n x5_ x6_ S) K := by
  intro n
  induction n with
  | zero => intro x5_ x6_ K; intros; exact v_none
  | succ n ih =>
    intro x5_ x6_ K hK
    rw [r_M_must_L57]
    refine v_iload (pc := 57) C d_M_must_57 4 rfl ?_
    refine v_iconst (pc := 59) C d_M_must_59 ic_1 ?_
    refine v_aload_n (pc := 60) C d_M_must_60 rfl 0 rfl ?_
    refine v_getI (pc := 61) C fl_M_199 (sh_104 hL) rfl d_M_must_61 ?_
    refine v_ishl (pc := 64) C d_M_must_64 ?_
    refine v_icmp_ge (pc := 65) (tgt := 111) C d_M_must_65 rfl (fun _ => ?_) (fun _ => ?_)
    · refine v_sub [3] rfl ?_
      exact hK x5_ x6_
    · refine v_iload (pc := 68) C d_M_must_68 3 rfl ?_
      refine v_iconst (pc := 70) C d_M_must_70 ic_m1 ?_
      refine v_jn (fun j => ∀ (v1 : Int32), VO g Y_M_must G (fun z => Qm g Y_M_must G (fi L z)) 0 0 105 [(0, rf G 104), (1, .int y1_), (4, .int y4_), (5, .int v1), (6, .int x6_)] [] L S (j (v1)) K) (fun v1 => ?_) (fun j105 hj105 => ?_)
      · refine v_iinc (pc := 105) (p := 4) (c := 1) C d_M_must_105 rfl (by decide) (by decide) (fun v2 => [(6, .int v2), (0, rf G 104), (1, .int y1_), (4, .int y4_), (5, .int v1)]) (fun _ => rfl) (fun v2 => ?_)
        refine v_goto (pc := 108) (tgt := 57) C d_M_must_108 rfl ?_
        refine v_sub [1, 2, 3, 4, 0] rfl ?_
        exact ih v1 v2 K hK
      · refine v_jn (fun j => VO g Y_M_must G (fun z => Qm g Y_M_must G (fi L z)) 0 0 89 [(0, rf G 104), (1, .int y1_), (4, .int y4_), (5, .int x5_), (6, .int x6_)] [] L S (j ()) K) (?_) (fun j89 hj89 => ?_)
        · refine v_aload_n (pc := 89) C d_M_must_89 rfl 0 rfl ?_
          refine v_iload_n (pc := 90) C d_M_must_90 rfl 1 rfl ?_
          refine v_iload (pc := 91) C d_M_must_91 4 rfl ?_
          refine v_cp (pc := 93) (inv_V (As := [.int y1_, .int x6_]) (st := []) C ml_M_416 mv_M_explained ro_M_must_M_explained (sh_104 hL) rfl rfl rfl rfl (Nat.le_of_ble_eq_true rfl) d_M_must_93) (c_M_explained hL S y1_ x6_) ⟨rfl, rfl⟩ ⟨Nat.zero_le _, Nat.zero_le _⟩ (fun r3 => ?_)
          refine v_iload (pc := 96) C d_M_must_96 2 rfl ?_
          refine v_icmp_ne (pc := 98) (tgt := 105) C d_M_must_98 rfl (fun _ => ?_) (fun _ => ?_)
          · exact hj105 x5_
          · refine v_iload (pc := 101) C d_M_must_101 4 rfl ?_
            refine v_istore (pc := 103) (lv' := [(5, .int x6_), (0, rf G 104), (1, .int y1_), (4, .int y4_), (6, .int x6_)]) C d_M_must_103 (by decide) rfl ?_
            refine v_sub [1, 2, 3, 0, 4] rfl ?_
            exact hj105 x6_
        · refine v_icmp_eq (pc := 71) (tgt := 89) C d_M_must_71 rfl (fun _ => ?_) (fun _ => ?_)
          · exact hj89
          · refine v_aload_n (pc := 74) C d_M_must_74 rfl 0 rfl ?_
            refine v_iload (pc := 75) C d_M_must_75 4 rfl ?_
            refine v_cp (pc := 77) (inv_V (As := [.int x6_]) (st := []) C ml_M_419 mv_M_ones ro_M_must_M_ones (sh_104 hL) rfl rfl rfl rfl (Nat.le_of_ble_eq_true rfl) d_M_must_77) (c_M_ones hL S x6_) ⟨rfl, rfl⟩ ⟨Nat.zero_le _, Nat.zero_le _⟩ (fun r4 => ?_)
            refine v_aload_n (pc := 80) C d_M_must_80 rfl 0 rfl ?_
            refine v_iload (pc := 81) C d_M_must_81 3 rfl ?_
            refine v_cp (pc := 83) (inv_V (As := [.int x5_]) (st := [.int r4]) C ml_M_419 mv_M_ones ro_M_must_M_ones (sh_104 hL) rfl rfl rfl rfl (Nat.le_of_ble_eq_true rfl) d_M_must_83) (c_M_ones hL S x5_) ⟨rfl, rfl⟩ ⟨Nat.zero_le _, Nat.zero_le _⟩ (fun r5 => ?_)
            refine v_icmp_ge (pc := 86) (tgt := 105) C d_M_must_86 rfl (fun _ => ?_) (fun _ => ?_)
            · exact hj105 x5_
            · exact hj89
def r_M_must (x1 : Int32) (x2 : Int32) (x3 : Int32) (S : Sto) : Option (Int32 × Sto) :=
  ltS (sw S 104 0 0) (fun S1 =>
  (r_M_isCouple x1 x2 x3 S1).bind (fun r2 =>
  if r2 = 0 then
    some ((-1), S1)
  else
    chk (inr x2 10) (
    chk (inr x3 10) (
    (r_M_hears (S1 110 x2.toNatClampNeg) 0 (-1) 1 (S1 110 x3.toNatClampNeg) S1).bind (fun S3 =>
    (r_M_explained x1 ((1 <<< ((S3 104 5) &&& 31)) - 1) S3).bind (fun r4 =>
    (r_M_must_L57 x1 r4 fu (-1) 0 S3).bind (fun (v5, v6) =>
    some (v5, S3))))))))
set_option maxHeartbeats 4000000 in
set_option maxRecDepth 20000 in
theorem c_M_must {G : Gl} {L : Shp} (hL : Ext L) (S : Sto) (x1 : Int32) (x2 : Int32) (x3 : Int32)  : Ct Y_M_must G [rf G 104, .int x1, .int x2, .int x3] L S (fi L) (r_M_must x1 x2 x3 S) := by
  refine ct_of (by decide +kernel) (Nat.le_of_ble_eq_true rfl) (fun g C => ?_)
  show VO g Y_M_must G (fun z => Qm g Y_M_must G (fi L z)) 0 0 0 [(0, rf G 104), (1, .int x1), (2, .int x2), (3, .int x3)] [] L S (r_M_must x1 x2 x3 S) some
  unfold r_M_must
  refine v_aload_n (pc := 0) C d_M_must_0 rfl 0 rfl ?_
  refine v_iconst (pc := 1) C d_M_must_1 ic_0 ?_
  refine v_putI (pc := 2) C fp_M_150 (sh_104 hL) rfl d_M_must_2 (fun S1 => ?_)
  refine v_aload_n (pc := 5) C d_M_must_5 rfl 0 rfl ?_
  refine v_iload_n (pc := 6) C d_M_must_6 rfl 1 rfl ?_
  refine v_iload_n (pc := 7) C d_M_must_7 rfl 2 rfl ?_
  refine v_iload_n (pc := 8) C d_M_must_8 rfl 3 rfl ?_
  refine v_cp (pc := 9) (inv_V (As := [.int x1, .int x2, .int x3]) (st := []) C ml_M_409 mv_M_isCouple ro_M_must_M_isCouple (sh_104 hL) rfl rfl rfl rfl (Nat.le_of_ble_eq_true rfl) d_M_must_9) (c_M_isCouple hL S1 x1 x2 x3) ⟨rfl, rfl⟩ ⟨Nat.zero_le _, Nat.zero_le _⟩ (fun r2 => ?_)
  refine v_if_ne (pc := 12) (tgt := 17) C d_M_must_12 rfl (fun _ => ?_) (fun _ => ?_)
  · refine v_aload_n (pc := 17) C d_M_must_17 rfl 0 rfl ?_
    refine v_aload_n (pc := 18) C d_M_must_18 rfl 0 rfl ?_
    refine v_getR (pc := 19) C fl_M_33 (sh_104 hL) rfl d_M_must_19 ?_
    refine v_iload_n (pc := 22) C d_M_must_22 rfl 2 rfl ?_
    refine v_iald (pc := 23) C (sh_110 hL) d_M_must_23 (fun _ => ?_)
    refine v_iconst (pc := 24) C d_M_must_24 ic_0 ?_
    refine v_iconst (pc := 25) C d_M_must_25 ic_m1 ?_
    refine v_iconst (pc := 26) C d_M_must_26 ic_1 ?_
    refine v_aload_n (pc := 27) C d_M_must_27 rfl 0 rfl ?_
    refine v_getR (pc := 28) C fl_M_33 (sh_104 hL) rfl d_M_must_28 ?_
    refine v_iload_n (pc := 31) C d_M_must_31 rfl 3 rfl ?_
    refine v_iald (pc := 32) C (sh_110 hL) d_M_must_32 (fun _ => ?_)
    refine v_cv (pc := 33) (inv_V (As := [.int (S1 110 x2.toNatClampNeg), .int 0, .int (-1), .int 1, .int (S1 110 x3.toNatClampNeg)]) (st := []) C ml_M_235 mv_M_hears ro_M_must_M_hears (sh_104 hL) rfl rfl rfl rfl (Nat.le_of_ble_eq_true rfl) d_M_must_33) (c_M_hears hL S1 (S1 110 x2.toNatClampNeg) 0 (-1) 1 (S1 110 x3.toNatClampNeg)) ⟨rfl, rfl⟩ ⟨Nat.zero_le _, Nat.zero_le _⟩ (fun S3 => ?_)
    refine v_aload_n (pc := 36) C d_M_must_36 rfl 0 rfl ?_
    refine v_iload_n (pc := 37) C d_M_must_37 rfl 1 rfl ?_
    refine v_iconst (pc := 38) C d_M_must_38 ic_1 ?_
    refine v_aload_n (pc := 39) C d_M_must_39 rfl 0 rfl ?_
    refine v_getI (pc := 40) C fl_M_199 (sh_104 hL) rfl d_M_must_40 ?_
    refine v_ishl (pc := 43) C d_M_must_43 ?_
    refine v_iconst (pc := 44) C d_M_must_44 ic_1 ?_
    refine v_isub (pc := 45) C d_M_must_45 ?_
    refine v_cp (pc := 46) (inv_V (As := [.int x1, .int ((1 <<< ((S3 104 5) &&& 31)) - 1)]) (st := []) C ml_M_416 mv_M_explained ro_M_must_M_explained (sh_104 hL) rfl rfl rfl rfl (Nat.le_of_ble_eq_true rfl) d_M_must_46) (c_M_explained hL S3 x1 ((1 <<< ((S3 104 5) &&& 31)) - 1)) ⟨rfl, rfl⟩ ⟨Nat.zero_le _, Nat.zero_le _⟩ (fun r4 => ?_)
    refine v_istore (pc := 49) (lv' := [(4, .int r4), (0, rf G 104), (1, .int x1), (2, .int x2), (3, .int x3)]) C d_M_must_49 (by decide) rfl ?_
    refine v_iconst (pc := 51) C d_M_must_51 ic_m1 ?_
    refine v_istore (pc := 52) (lv' := [(5, .int (-1)), (4, .int r4), (0, rf G 104), (1, .int x1), (2, .int x2), (3, .int x3)]) C d_M_must_52 (by decide) rfl ?_
    refine v_iconst (pc := 54) C d_M_must_54 ic_0 ?_
    refine v_istore (pc := 55) (lv' := [(6, .int 0), (5, .int (-1)), (4, .int r4), (0, rf G 104), (1, .int x1), (2, .int x2), (3, .int x3)]) C d_M_must_55 (by decide) rfl ?_
    refine v_sub [3, 4, 2, 1, 0] rfl ?_
    refine v_bind ?_
    refine w_M_must_L57 C hL S3 x1 r4  fu (-1) 0 _ (fun v5 v6 => ?_) 
    refine v_some ?_
    refine v_iload (pc := 111) C d_M_must_111 0 rfl ?_
    exact v_iret (z := (v5, S3)) C d_M_must_113 rfl ⟨Nat.zero_le _, Nat.zero_le _⟩ (rfl) rfl
  · refine v_iconst (pc := 15) C d_M_must_15 ic_m1 ?_
    exact v_iret (z := ((-1), S1)) C d_M_must_16 rfl ⟨Nat.zero_le _, Nat.zero_le _⟩ (rfl) rfl
-- M_voice
theorem d_M_voice_0 : decode (mB Y_M_voice) 0 = .ok (.aload_n 0, 1) := by decide +kernel
theorem d_M_voice_1 : decode (mB Y_M_voice) 1 = .ok (.iconst 0, 1) := by decide +kernel
theorem d_M_voice_2 : decode (mB Y_M_voice) 2 = .ok (.putfield 150, 3) := by decide +kernel
theorem d_M_voice_5 : decode (mB Y_M_voice) 5 = .ok (.aload_n 0, 1) := by decide +kernel
theorem d_M_voice_6 : decode (mB Y_M_voice) 6 = .ok (.iload_n 1, 1) := by decide +kernel
theorem d_M_voice_7 : decode (mB Y_M_voice) 7 = .ok (.invokevirtual 390, 3) := by decide +kernel
theorem d_M_voice_10 : decode (mB Y_M_voice) 10 = .ok (.ifCond .eq 51, 3) := by decide +kernel
theorem d_M_voice_13 : decode (mB Y_M_voice) 13 = .ok (.aload_n 0, 1) := by decide +kernel
theorem d_M_voice_14 : decode (mB Y_M_voice) 14 = .ok (.iload_n 2, 1) := by decide +kernel
theorem d_M_voice_15 : decode (mB Y_M_voice) 15 = .ok (.iconst 0, 1) := by decide +kernel
theorem d_M_voice_16 : decode (mB Y_M_voice) 16 = .ok (.ldc_w 384, 3) := by decide +kernel
theorem d_M_voice_19 : decode (mB Y_M_voice) 19 = .ok (.invokevirtual 153, 3) := by decide +kernel
theorem d_M_voice_22 : decode (mB Y_M_voice) 22 = .ok (.ifCond .eq 39, 3) := by decide +kernel
theorem d_M_voice_25 : decode (mB Y_M_voice) 25 = .ok (.aload_n 0, 1) := by decide +kernel
theorem d_M_voice_26 : decode (mB Y_M_voice) 26 = .ok (.iload_n 3, 1) := by decide +kernel
theorem d_M_voice_27 : decode (mB Y_M_voice) 27 = .ok (.iconst 0, 1) := by decide +kernel
theorem d_M_voice_28 : decode (mB Y_M_voice) 28 = .ok (.ldc_w 422, 3) := by decide +kernel
theorem d_M_voice_31 : decode (mB Y_M_voice) 31 = .ok (.invokevirtual 153, 3) := by decide +kernel
theorem d_M_voice_34 : decode (mB Y_M_voice) 34 = .ok (.ifCond .eq 27, 3) := by decide +kernel
theorem d_M_voice_37 : decode (mB Y_M_voice) 37 = .ok (.aload_n 0, 1) := by decide +kernel
theorem d_M_voice_38 : decode (mB Y_M_voice) 38 = .ok (.iload 4, 2) := by decide +kernel
theorem d_M_voice_40 : decode (mB Y_M_voice) 40 = .ok (.iload_n 3, 1) := by decide +kernel
theorem d_M_voice_41 : decode (mB Y_M_voice) 41 = .ok (.ldc_w 422, 3) := by decide +kernel
theorem d_M_voice_44 : decode (mB Y_M_voice) 44 = .ok (.invokevirtual 153, 3) := by decide +kernel
theorem d_M_voice_47 : decode (mB Y_M_voice) 47 = .ok (.ifCond .eq 14, 3) := by decide +kernel
theorem d_M_voice_50 : decode (mB Y_M_voice) 50 = .ok (.aload_n 0, 1) := by decide +kernel
theorem d_M_voice_51 : decode (mB Y_M_voice) 51 = .ok (.getfield 117, 3) := by decide +kernel
theorem d_M_voice_54 : decode (mB Y_M_voice) 54 = .ok (.iload_n 1, 1) := by decide +kernel
theorem d_M_voice_55 : decode (mB Y_M_voice) 55 = .ok (.iaload, 1) := by decide +kernel
theorem d_M_voice_56 : decode (mB Y_M_voice) 56 = .ok (.bipush 10, 2) := by decide +kernel
theorem d_M_voice_58 : decode (mB Y_M_voice) 58 = .ok (.if_icmp .ne 5, 3) := by decide +kernel
theorem d_M_voice_61 : decode (mB Y_M_voice) 61 = .ok (.iconst (-1), 1) := by decide +kernel
theorem d_M_voice_62 : decode (mB Y_M_voice) 62 = .ok (.ireturn, 1) := by decide +kernel
theorem d_M_voice_63 : decode (mB Y_M_voice) 63 = .ok (.aload_n 0, 1) := by decide +kernel
theorem d_M_voice_64 : decode (mB Y_M_voice) 64 = .ok (.getfield 120, 3) := by decide +kernel
theorem d_M_voice_67 : decode (mB Y_M_voice) 67 = .ok (.bipush 10, 2) := by decide +kernel
theorem d_M_voice_69 : decode (mB Y_M_voice) 69 = .ok (.iload_n 1, 1) := by decide +kernel
theorem d_M_voice_70 : decode (mB Y_M_voice) 70 = .ok (.imul, 1) := by decide +kernel
theorem d_M_voice_71 : decode (mB Y_M_voice) 71 = .ok (.aload_n 0, 1) := by decide +kernel
theorem d_M_voice_72 : decode (mB Y_M_voice) 72 = .ok (.getfield 117, 3) := by decide +kernel
theorem d_M_voice_75 : decode (mB Y_M_voice) 75 = .ok (.iload_n 1, 1) := by decide +kernel
theorem d_M_voice_76 : decode (mB Y_M_voice) 76 = .ok (.iaload, 1) := by decide +kernel
theorem d_M_voice_77 : decode (mB Y_M_voice) 77 = .ok (.iadd, 1) := by decide +kernel
theorem d_M_voice_78 : decode (mB Y_M_voice) 78 = .ok (.iload_n 3, 1) := by decide +kernel
theorem d_M_voice_79 : decode (mB Y_M_voice) 79 = .ok (.iload_n 2, 1) := by decide +kernel
theorem d_M_voice_80 : decode (mB Y_M_voice) 80 = .ok (.isub, 1) := by decide +kernel
theorem d_M_voice_81 : decode (mB Y_M_voice) 81 = .ok (.iastore, 1) := by decide +kernel
theorem d_M_voice_82 : decode (mB Y_M_voice) 82 = .ok (.aload_n 0, 1) := by decide +kernel
theorem d_M_voice_83 : decode (mB Y_M_voice) 83 = .ok (.getfield 123, 3) := by decide +kernel
theorem d_M_voice_86 : decode (mB Y_M_voice) 86 = .ok (.bipush 10, 2) := by decide +kernel
theorem d_M_voice_88 : decode (mB Y_M_voice) 88 = .ok (.iload_n 1, 1) := by decide +kernel
theorem d_M_voice_89 : decode (mB Y_M_voice) 89 = .ok (.imul, 1) := by decide +kernel
theorem d_M_voice_90 : decode (mB Y_M_voice) 90 = .ok (.aload_n 0, 1) := by decide +kernel
theorem d_M_voice_91 : decode (mB Y_M_voice) 91 = .ok (.getfield 117, 3) := by decide +kernel
theorem d_M_voice_94 : decode (mB Y_M_voice) 94 = .ok (.iload_n 1, 1) := by decide +kernel
theorem d_M_voice_95 : decode (mB Y_M_voice) 95 = .ok (.iaload, 1) := by decide +kernel
theorem d_M_voice_96 : decode (mB Y_M_voice) 96 = .ok (.iadd, 1) := by decide +kernel
theorem d_M_voice_97 : decode (mB Y_M_voice) 97 = .ok (.iload 4, 2) := by decide +kernel
theorem d_M_voice_99 : decode (mB Y_M_voice) 99 = .ok (.iload_n 2, 1) := by decide +kernel
theorem d_M_voice_100 : decode (mB Y_M_voice) 100 = .ok (.isub, 1) := by decide +kernel
theorem d_M_voice_101 : decode (mB Y_M_voice) 101 = .ok (.iastore, 1) := by decide +kernel
theorem d_M_voice_102 : decode (mB Y_M_voice) 102 = .ok (.aload_n 0, 1) := by decide +kernel
theorem d_M_voice_103 : decode (mB Y_M_voice) 103 = .ok (.getfield 117, 3) := by decide +kernel
theorem d_M_voice_106 : decode (mB Y_M_voice) 106 = .ok (.iload_n 1, 1) := by decide +kernel
theorem d_M_voice_107 : decode (mB Y_M_voice) 107 = .ok (.aload_n 0, 1) := by decide +kernel
theorem d_M_voice_108 : decode (mB Y_M_voice) 108 = .ok (.getfield 117, 3) := by decide +kernel
theorem d_M_voice_111 : decode (mB Y_M_voice) 111 = .ok (.iload_n 1, 1) := by decide +kernel
theorem d_M_voice_112 : decode (mB Y_M_voice) 112 = .ok (.iaload, 1) := by decide +kernel
theorem d_M_voice_113 : decode (mB Y_M_voice) 113 = .ok (.iconst 1, 1) := by decide +kernel
theorem d_M_voice_114 : decode (mB Y_M_voice) 114 = .ok (.iadd, 1) := by decide +kernel
theorem d_M_voice_115 : decode (mB Y_M_voice) 115 = .ok (.iastore, 1) := by decide +kernel
theorem d_M_voice_116 : decode (mB Y_M_voice) 116 = .ok (.aload_n 0, 1) := by decide +kernel
theorem d_M_voice_117 : decode (mB Y_M_voice) 117 = .ok (.getfield 117, 3) := by decide +kernel
theorem d_M_voice_120 : decode (mB Y_M_voice) 120 = .ok (.iload_n 1, 1) := by decide +kernel
theorem d_M_voice_121 : decode (mB Y_M_voice) 121 = .ok (.iaload, 1) := by decide +kernel
theorem d_M_voice_122 : decode (mB Y_M_voice) 122 = .ok (.iconst 1, 1) := by decide +kernel
theorem d_M_voice_123 : decode (mB Y_M_voice) 123 = .ok (.isub, 1) := by decide +kernel
theorem d_M_voice_124 : decode (mB Y_M_voice) 124 = .ok (.ireturn, 1) := by decide +kernel
theorem ro_M_voice_M_isIn : roomy Y_M_voice Y_M_isIn := ⟨Nat.le_of_ble_eq_true rfl, Nat.le_of_ble_eq_true rfl⟩
theorem ro_M_voice_M_isTape : roomy Y_M_voice Y_M_isTape := ⟨Nat.le_of_ble_eq_true rfl, Nat.le_of_ble_eq_true rfl⟩
def r_M_voice (x1 : Int32) (x2 : Int32) (x3 : Int32) (x4 : Int32) (S : Sto) : Option (Int32 × Sto) :=
  ltS (sw S 104 0 0) (fun S1 =>
  if (r_M_isTape x1) = 0 then
    some ((-1), S1)
  else
    if (r_M_isIn x2 0 199999) = 0 then
      some ((-1), S1)
    else
      if (r_M_isIn x3 0 9999999) = 0 then
        some ((-1), S1)
      else
        if (r_M_isIn x4 x3 9999999) = 0 then
          some ((-1), S1)
        else
          chk (inr x1 4) (
          if (S1 137 x1.toNatClampNeg) = 10 then
            some ((-1), S1)
          else
            chk (inr x1 4) (
            chk (inr ((10 * x1) + (S1 137 x1.toNatClampNeg)) 40) (
            ltS (sw S1 138 (((10 * x1) + (S1 137 x1.toNatClampNeg)).toNatClampNeg) (x3 - x2)) (fun S2 =>
            chk (inr x1 4) (
            chk (inr ((10 * x1) + (S2 137 x1.toNatClampNeg)) 40) (
            ltS (sw S2 139 (((10 * x1) + (S2 137 x1.toNatClampNeg)).toNatClampNeg) (x4 - x2)) (fun S3 =>
            chk (inr x1 4) (
            chk (inr x1 4) (
            ltS (sw S3 137 x1.toNatClampNeg ((S3 137 x1.toNatClampNeg) + 1)) (fun S4 =>
            chk (inr x1 4) (
            some ((S4 137 x1.toNatClampNeg) - 1, S4)))))))))))))
set_option maxHeartbeats 4000000 in
set_option maxRecDepth 20000 in
theorem c_M_voice {G : Gl} {L : Shp} (hL : Ext L) (S : Sto) (x1 : Int32) (x2 : Int32) (x3 : Int32) (x4 : Int32)  : Ct Y_M_voice G [rf G 104, .int x1, .int x2, .int x3, .int x4] L S (fi L) (r_M_voice x1 x2 x3 x4 S) := by
  refine ct_of (by decide +kernel) (Nat.le_of_ble_eq_true rfl) (fun g C => ?_)
  show VO g Y_M_voice G (fun z => Qm g Y_M_voice G (fi L z)) 0 0 0 [(0, rf G 104), (1, .int x1), (2, .int x2), (3, .int x3), (4, .int x4)] [] L S (r_M_voice x1 x2 x3 x4 S) some
  unfold r_M_voice
  refine v_aload_n (pc := 0) C d_M_voice_0 rfl 0 rfl ?_
  refine v_iconst (pc := 1) C d_M_voice_1 ic_0 ?_
  refine v_putI (pc := 2) C fp_M_150 (sh_104 hL) rfl d_M_voice_2 (fun S1 => ?_)
  refine v_aload_n (pc := 5) C d_M_voice_5 rfl 0 rfl ?_
  refine v_iload_n (pc := 6) C d_M_voice_6 rfl 1 rfl ?_
  refine v_ct (pc := 7) (inv_V (As := [.int x1]) (st := []) C ml_M_390 mv_M_isTape ro_M_voice_M_isTape (sh_104 hL) rfl rfl rfl rfl (Nat.le_of_ble_eq_true rfl) d_M_voice_7) (c_M_isTape hL S1 x1) ⟨rfl, rfl⟩ ⟨Nat.zero_le _, Nat.zero_le _⟩ ?_
  refine v_if_eq (pc := 10) (tgt := 61) C d_M_voice_10 rfl (fun _ => ?_) (fun _ => ?_)
  · refine v_iconst (pc := 61) C d_M_voice_61 ic_m1 ?_
    exact v_iret (z := ((-1), S1)) C d_M_voice_62 rfl ⟨Nat.zero_le _, Nat.zero_le _⟩ (rfl) rfl
  · refine v_aload_n (pc := 13) C d_M_voice_13 rfl 0 rfl ?_
    refine v_iload_n (pc := 14) C d_M_voice_14 rfl 2 rfl ?_
    refine v_iconst (pc := 15) C d_M_voice_15 ic_0 ?_
    refine v_ldc_w (pc := 16) C d_M_voice_16 kc_M_384 ?_
    refine v_ct (pc := 19) (inv_V (As := [.int x2, .int 0, .int 199999]) (st := []) C ml_M_153 mv_M_isIn ro_M_voice_M_isIn (sh_104 hL) rfl rfl rfl rfl (Nat.le_of_ble_eq_true rfl) d_M_voice_19) (c_M_isIn hL S1 x2 0 199999) ⟨rfl, rfl⟩ ⟨Nat.zero_le _, Nat.zero_le _⟩ ?_
    refine v_if_eq (pc := 22) (tgt := 61) C d_M_voice_22 rfl (fun _ => ?_) (fun _ => ?_)
    · refine v_iconst (pc := 61) C d_M_voice_61 ic_m1 ?_
      exact v_iret (z := ((-1), S1)) C d_M_voice_62 rfl ⟨Nat.zero_le _, Nat.zero_le _⟩ (rfl) rfl
    · refine v_aload_n (pc := 25) C d_M_voice_25 rfl 0 rfl ?_
      refine v_iload_n (pc := 26) C d_M_voice_26 rfl 3 rfl ?_
      refine v_iconst (pc := 27) C d_M_voice_27 ic_0 ?_
      refine v_ldc_w (pc := 28) C d_M_voice_28 kc_M_422 ?_
      refine v_ct (pc := 31) (inv_V (As := [.int x3, .int 0, .int 9999999]) (st := []) C ml_M_153 mv_M_isIn ro_M_voice_M_isIn (sh_104 hL) rfl rfl rfl rfl (Nat.le_of_ble_eq_true rfl) d_M_voice_31) (c_M_isIn hL S1 x3 0 9999999) ⟨rfl, rfl⟩ ⟨Nat.zero_le _, Nat.zero_le _⟩ ?_
      refine v_if_eq (pc := 34) (tgt := 61) C d_M_voice_34 rfl (fun _ => ?_) (fun _ => ?_)
      · refine v_iconst (pc := 61) C d_M_voice_61 ic_m1 ?_
        exact v_iret (z := ((-1), S1)) C d_M_voice_62 rfl ⟨Nat.zero_le _, Nat.zero_le _⟩ (rfl) rfl
      · refine v_aload_n (pc := 37) C d_M_voice_37 rfl 0 rfl ?_
        refine v_iload (pc := 38) C d_M_voice_38 4 rfl ?_
        refine v_iload_n (pc := 40) C d_M_voice_40 rfl 3 rfl ?_
        refine v_ldc_w (pc := 41) C d_M_voice_41 kc_M_422 ?_
        refine v_ct (pc := 44) (inv_V (As := [.int x4, .int x3, .int 9999999]) (st := []) C ml_M_153 mv_M_isIn ro_M_voice_M_isIn (sh_104 hL) rfl rfl rfl rfl (Nat.le_of_ble_eq_true rfl) d_M_voice_44) (c_M_isIn hL S1 x4 x3 9999999) ⟨rfl, rfl⟩ ⟨Nat.zero_le _, Nat.zero_le _⟩ ?_
        refine v_if_eq (pc := 47) (tgt := 61) C d_M_voice_47 rfl (fun _ => ?_) (fun _ => ?_)
        · refine v_iconst (pc := 61) C d_M_voice_61 ic_m1 ?_
          exact v_iret (z := ((-1), S1)) C d_M_voice_62 rfl ⟨Nat.zero_le _, Nat.zero_le _⟩ (rfl) rfl
        · refine v_aload_n (pc := 50) C d_M_voice_50 rfl 0 rfl ?_
          refine v_getR (pc := 51) C fl_M_117 (sh_104 hL) rfl d_M_voice_51 ?_
          refine v_iload_n (pc := 54) C d_M_voice_54 rfl 1 rfl ?_
          refine v_iald (pc := 55) C (sh_137 hL) d_M_voice_55 (fun _ => ?_)
          refine v_bipush (pc := 56) C d_M_voice_56 bp_10 ?_
          refine v_icmp_ne (pc := 58) (tgt := 63) C d_M_voice_58 rfl (fun _ => ?_) (fun _ => ?_)
          · refine v_aload_n (pc := 63) C d_M_voice_63 rfl 0 rfl ?_
            refine v_getR (pc := 64) C fl_M_120 (sh_104 hL) rfl d_M_voice_64 ?_
            refine v_bipush (pc := 67) C d_M_voice_67 bp_10 ?_
            refine v_iload_n (pc := 69) C d_M_voice_69 rfl 1 rfl ?_
            refine v_imul (pc := 70) C d_M_voice_70 ?_
            refine v_aload_n (pc := 71) C d_M_voice_71 rfl 0 rfl ?_
            refine v_getR (pc := 72) C fl_M_117 (sh_104 hL) rfl d_M_voice_72 ?_
            refine v_iload_n (pc := 75) C d_M_voice_75 rfl 1 rfl ?_
            refine v_iald (pc := 76) C (sh_137 hL) d_M_voice_76 (fun _ => ?_)
            refine v_iadd (pc := 77) C d_M_voice_77 ?_
            refine v_iload_n (pc := 78) C d_M_voice_78 rfl 3 rfl ?_
            refine v_iload_n (pc := 79) C d_M_voice_79 rfl 2 rfl ?_
            refine v_isub (pc := 80) C d_M_voice_80 ?_
            refine v_iast (pc := 81) C (sh_138 hL) d_M_voice_81 (fun _ S2 => ?_)
            refine v_aload_n (pc := 82) C d_M_voice_82 rfl 0 rfl ?_
            refine v_getR (pc := 83) C fl_M_123 (sh_104 hL) rfl d_M_voice_83 ?_
            refine v_bipush (pc := 86) C d_M_voice_86 bp_10 ?_
            refine v_iload_n (pc := 88) C d_M_voice_88 rfl 1 rfl ?_
            refine v_imul (pc := 89) C d_M_voice_89 ?_
            refine v_aload_n (pc := 90) C d_M_voice_90 rfl 0 rfl ?_
            refine v_getR (pc := 91) C fl_M_117 (sh_104 hL) rfl d_M_voice_91 ?_
            refine v_iload_n (pc := 94) C d_M_voice_94 rfl 1 rfl ?_
            refine v_iald (pc := 95) C (sh_137 hL) d_M_voice_95 (fun _ => ?_)
            refine v_iadd (pc := 96) C d_M_voice_96 ?_
            refine v_iload (pc := 97) C d_M_voice_97 4 rfl ?_
            refine v_iload_n (pc := 99) C d_M_voice_99 rfl 2 rfl ?_
            refine v_isub (pc := 100) C d_M_voice_100 ?_
            refine v_iast (pc := 101) C (sh_139 hL) d_M_voice_101 (fun _ S3 => ?_)
            refine v_aload_n (pc := 102) C d_M_voice_102 rfl 0 rfl ?_
            refine v_getR (pc := 103) C fl_M_117 (sh_104 hL) rfl d_M_voice_103 ?_
            refine v_iload_n (pc := 106) C d_M_voice_106 rfl 1 rfl ?_
            refine v_aload_n (pc := 107) C d_M_voice_107 rfl 0 rfl ?_
            refine v_getR (pc := 108) C fl_M_117 (sh_104 hL) rfl d_M_voice_108 ?_
            refine v_iload_n (pc := 111) C d_M_voice_111 rfl 1 rfl ?_
            refine v_iald (pc := 112) C (sh_137 hL) d_M_voice_112 (fun _ => ?_)
            refine v_iconst (pc := 113) C d_M_voice_113 ic_1 ?_
            refine v_iadd (pc := 114) C d_M_voice_114 ?_
            refine v_iast (pc := 115) C (sh_137 hL) d_M_voice_115 (fun _ S4 => ?_)
            refine v_aload_n (pc := 116) C d_M_voice_116 rfl 0 rfl ?_
            refine v_getR (pc := 117) C fl_M_117 (sh_104 hL) rfl d_M_voice_117 ?_
            refine v_iload_n (pc := 120) C d_M_voice_120 rfl 1 rfl ?_
            refine v_iald (pc := 121) C (sh_137 hL) d_M_voice_121 (fun _ => ?_)
            refine v_iconst (pc := 122) C d_M_voice_122 ic_1 ?_
            refine v_isub (pc := 123) C d_M_voice_123 ?_
            exact v_iret (z := ((S4 137 x1.toNatClampNeg) - 1, S4)) C d_M_voice_124 rfl ⟨Nat.zero_le _, Nat.zero_le _⟩ (rfl) rfl
          · refine v_iconst (pc := 61) C d_M_voice_61 ic_m1 ?_
            exact v_iret (z := ((-1), S1)) C d_M_voice_62 rfl ⟨Nat.zero_le _, Nat.zero_le _⟩ (rfl) rfl
-- M_canBe
theorem d_M_canBe_0 : decode (mB Y_M_canBe) 0 = .ok (.ldc_w 385, 3) := by decide +kernel
theorem d_M_canBe_3 : decode (mB Y_M_canBe) 3 = .ok (.istore_n 3, 1) := by decide +kernel
theorem d_M_canBe_4 : decode (mB Y_M_canBe) 4 = .ok (.ldc_w 386, 3) := by decide +kernel
theorem d_M_canBe_7 : decode (mB Y_M_canBe) 7 = .ok (.istore 4, 2) := by decide +kernel
theorem d_M_canBe_9 : decode (mB Y_M_canBe) 9 = .ok (.iconst 0, 1) := by decide +kernel
theorem d_M_canBe_10 : decode (mB Y_M_canBe) 10 = .ok (.istore 5, 2) := by decide +kernel
theorem d_M_canBe_12 : decode (mB Y_M_canBe) 12 = .ok (.iload 5, 2) := by decide +kernel
theorem d_M_canBe_14 : decode (mB Y_M_canBe) 14 = .ok (.aload_n 0, 1) := by decide +kernel
theorem d_M_canBe_15 : decode (mB Y_M_canBe) 15 = .ok (.getfield 117, 3) := by decide +kernel
theorem d_M_canBe_18 : decode (mB Y_M_canBe) 18 = .ok (.iload_n 1, 1) := by decide +kernel
theorem d_M_canBe_19 : decode (mB Y_M_canBe) 19 = .ok (.iaload, 1) := by decide +kernel
theorem d_M_canBe_20 : decode (mB Y_M_canBe) 20 = .ok (.if_icmp .ge 87, 3) := by decide +kernel
theorem d_M_canBe_23 : decode (mB Y_M_canBe) 23 = .ok (.iload 5, 2) := by decide +kernel
theorem d_M_canBe_25 : decode (mB Y_M_canBe) 25 = .ok (.iload_n 2, 1) := by decide +kernel
theorem d_M_canBe_26 : decode (mB Y_M_canBe) 26 = .ok (.if_icmp .ne 6, 3) := by decide +kernel
theorem d_M_canBe_29 : decode (mB Y_M_canBe) 29 = .ok (.goto 72, 3) := by decide +kernel
theorem d_M_canBe_32 : decode (mB Y_M_canBe) 32 = .ok (.aload_n 0, 1) := by decide +kernel
theorem d_M_canBe_33 : decode (mB Y_M_canBe) 33 = .ok (.getfield 120, 3) := by decide +kernel
theorem d_M_canBe_36 : decode (mB Y_M_canBe) 36 = .ok (.bipush 10, 2) := by decide +kernel
theorem d_M_canBe_38 : decode (mB Y_M_canBe) 38 = .ok (.iload_n 1, 1) := by decide +kernel
theorem d_M_canBe_39 : decode (mB Y_M_canBe) 39 = .ok (.imul, 1) := by decide +kernel
theorem d_M_canBe_40 : decode (mB Y_M_canBe) 40 = .ok (.iload 5, 2) := by decide +kernel
theorem d_M_canBe_42 : decode (mB Y_M_canBe) 42 = .ok (.iadd, 1) := by decide +kernel
theorem d_M_canBe_43 : decode (mB Y_M_canBe) 43 = .ok (.iaload, 1) := by decide +kernel
theorem d_M_canBe_44 : decode (mB Y_M_canBe) 44 = .ok (.iload_n 3, 1) := by decide +kernel
theorem d_M_canBe_45 : decode (mB Y_M_canBe) 45 = .ok (.if_icmp .le 18, 3) := by decide +kernel
theorem d_M_canBe_48 : decode (mB Y_M_canBe) 48 = .ok (.aload_n 0, 1) := by decide +kernel
theorem d_M_canBe_49 : decode (mB Y_M_canBe) 49 = .ok (.getfield 120, 3) := by decide +kernel
theorem d_M_canBe_52 : decode (mB Y_M_canBe) 52 = .ok (.bipush 10, 2) := by decide +kernel
theorem d_M_canBe_54 : decode (mB Y_M_canBe) 54 = .ok (.iload_n 1, 1) := by decide +kernel
theorem d_M_canBe_55 : decode (mB Y_M_canBe) 55 = .ok (.imul, 1) := by decide +kernel
theorem d_M_canBe_56 : decode (mB Y_M_canBe) 56 = .ok (.iload 5, 2) := by decide +kernel
theorem d_M_canBe_58 : decode (mB Y_M_canBe) 58 = .ok (.iadd, 1) := by decide +kernel
theorem d_M_canBe_59 : decode (mB Y_M_canBe) 59 = .ok (.iaload, 1) := by decide +kernel
theorem d_M_canBe_60 : decode (mB Y_M_canBe) 60 = .ok (.goto 4, 3) := by decide +kernel
theorem d_M_canBe_63 : decode (mB Y_M_canBe) 63 = .ok (.iload_n 3, 1) := by decide +kernel
theorem d_M_canBe_64 : decode (mB Y_M_canBe) 64 = .ok (.istore_n 3, 1) := by decide +kernel
theorem d_M_canBe_65 : decode (mB Y_M_canBe) 65 = .ok (.aload_n 0, 1) := by decide +kernel
theorem d_M_canBe_66 : decode (mB Y_M_canBe) 66 = .ok (.getfield 123, 3) := by decide +kernel
theorem d_M_canBe_69 : decode (mB Y_M_canBe) 69 = .ok (.bipush 10, 2) := by decide +kernel
theorem d_M_canBe_71 : decode (mB Y_M_canBe) 71 = .ok (.iload_n 1, 1) := by decide +kernel
theorem d_M_canBe_72 : decode (mB Y_M_canBe) 72 = .ok (.imul, 1) := by decide +kernel
theorem d_M_canBe_73 : decode (mB Y_M_canBe) 73 = .ok (.iload 5, 2) := by decide +kernel
theorem d_M_canBe_75 : decode (mB Y_M_canBe) 75 = .ok (.iadd, 1) := by decide +kernel
theorem d_M_canBe_76 : decode (mB Y_M_canBe) 76 = .ok (.iaload, 1) := by decide +kernel
theorem d_M_canBe_77 : decode (mB Y_M_canBe) 77 = .ok (.iload 4, 2) := by decide +kernel
theorem d_M_canBe_79 : decode (mB Y_M_canBe) 79 = .ok (.if_icmp .ge 18, 3) := by decide +kernel
theorem d_M_canBe_82 : decode (mB Y_M_canBe) 82 = .ok (.aload_n 0, 1) := by decide +kernel
theorem d_M_canBe_83 : decode (mB Y_M_canBe) 83 = .ok (.getfield 123, 3) := by decide +kernel
theorem d_M_canBe_86 : decode (mB Y_M_canBe) 86 = .ok (.bipush 10, 2) := by decide +kernel
theorem d_M_canBe_88 : decode (mB Y_M_canBe) 88 = .ok (.iload_n 1, 1) := by decide +kernel
theorem d_M_canBe_89 : decode (mB Y_M_canBe) 89 = .ok (.imul, 1) := by decide +kernel
theorem d_M_canBe_90 : decode (mB Y_M_canBe) 90 = .ok (.iload 5, 2) := by decide +kernel
theorem d_M_canBe_92 : decode (mB Y_M_canBe) 92 = .ok (.iadd, 1) := by decide +kernel
theorem d_M_canBe_93 : decode (mB Y_M_canBe) 93 = .ok (.iaload, 1) := by decide +kernel
theorem d_M_canBe_94 : decode (mB Y_M_canBe) 94 = .ok (.goto 5, 3) := by decide +kernel
theorem d_M_canBe_97 : decode (mB Y_M_canBe) 97 = .ok (.iload 4, 2) := by decide +kernel
theorem d_M_canBe_99 : decode (mB Y_M_canBe) 99 = .ok (.istore 4, 2) := by decide +kernel
theorem d_M_canBe_101 : decode (mB Y_M_canBe) 101 = .ok (.iinc 5 1, 3) := by decide +kernel
theorem d_M_canBe_104 : decode (mB Y_M_canBe) 104 = .ok (.goto (-92), 3) := by decide +kernel
theorem d_M_canBe_107 : decode (mB Y_M_canBe) 107 = .ok (.iload_n 3, 1) := by decide +kernel
theorem d_M_canBe_108 : decode (mB Y_M_canBe) 108 = .ok (.iload 4, 2) := by decide +kernel
theorem d_M_canBe_110 : decode (mB Y_M_canBe) 110 = .ok (.if_icmp .gt 7, 3) := by decide +kernel
theorem d_M_canBe_113 : decode (mB Y_M_canBe) 113 = .ok (.iconst 1, 1) := by decide +kernel
theorem d_M_canBe_114 : decode (mB Y_M_canBe) 114 = .ok (.goto 4, 3) := by decide +kernel
theorem d_M_canBe_117 : decode (mB Y_M_canBe) 117 = .ok (.iconst 0, 1) := by decide +kernel
theorem d_M_canBe_118 : decode (mB Y_M_canBe) 118 = .ok (.ireturn, 1) := by decide +kernel
def r_M_canBe_L12 (y1_ : Int32) (y2_ : Int32) : Nat → Int32 → Int32 → Int32 → Sto → Option (Int32 × Int32 × Int32)
  | 0, _, _, _, _ => none
  | n + 1, x3_, x4_, x5_, S =>
    chk (inr y1_ 4) (
    if (S 137 y1_.toNatClampNeg) ≤ x5_ then
      some (x3_, x4_, x5_)
    else
      jn (fun ((v1, v2) : Int32 × Int32) =>
        lt (x5_ + 1) (fun v3 =>
        r_M_canBe_L12 y1_ y2_ n v1 v2 v3 S)) (fun j101 =>
      if x5_ = y2_ then
        j101 (x3_, x4_)
      else
        chk (inr ((10 * y1_) + x5_) 40) (
        jn (fun (v4 : Int32) =>
          chk (inr ((10 * y1_) + x5_) 40) (
          jn (fun (v5 : Int32) =>
            j101 (v4, v5)) (fun j99 =>
          if x4_ ≤ (S 139 (((10 * y1_) + x5_).toNatClampNeg)) then
            j99 (x4_)
          else
            chk (inr ((10 * y1_) + x5_) 40) (
            j99 (S 139 (((10 * y1_) + x5_).toNatClampNeg)))))) (fun j64 =>
        if (S 138 (((10 * y1_) + x5_).toNatClampNeg)) ≤ x3_ then
          j64 (x3_)
        else
          chk (inr ((10 * y1_) + x5_) 40) (
          j64 (S 138 (((10 * y1_) + x5_).toNatClampNeg)))))))
set_option maxHeartbeats 4000000 in
set_option maxRecDepth 20000 in
theorem w_M_canBe_L12 {g : Gm} {G : Gl} {L : Shp} (C : Cx g Y_M_canBe G) (hL : Ext L) (S : Sto) (y1_ : Int32) (y2_ : Int32)  :
    ∀ (n : Nat) (x3_ : Int32) (x4_ : Int32) (x5_ : Int32) (K : (Int32 × Int32 × Int32) → Option Int32), (∀ (x3_ : Int32) (x4_ : Int32) (x5_ : Int32), VO g Y_M_canBe G (fun z => Qm g Y_M_canBe G (fp L S z)) 0 0 107 [(3, .int x3_), (4, .int x4_)] [] L S (some (x3_, x4_, x5_)) K) → VO g Y_M_canBe G (fun z => Qm g Y_M_canBe G (fp L S z)) 0 0 12 [(0, rf G 104), (1, .int y1_), (2, .int y2_), (3, .int x3_), (4, .int x4_), (5, .int x5_)] [] L S (r_M_canBe_L12 y1_ y2_ n x3_ x4_ x5_ S) K := by
  intro n
  induction n with
  | zero => intro x3_ x4_ x5_ K; intros; exact v_none
  | succ n ih =>
    intro x3_ x4_ x5_ K hK
    rw [r_M_canBe_L12]
    refine v_iload (pc := 12) C d_M_canBe_12 5 rfl ?_
    refine v_aload_n (pc := 14) C d_M_canBe_14 rfl 0 rfl ?_
    refine v_getR (pc := 15) C fl_M_117 (sh_104 hL) rfl d_M_canBe_15 ?_
    refine v_iload_n (pc := 18) C d_M_canBe_18 rfl 1 rfl ?_
    refine v_iald (pc := 19) C (sh_137 hL) d_M_canBe_19 (fun _ => ?_)
    refine v_icmp_ge (pc := 20) (tgt := 107) C d_M_canBe_20 rfl (fun _ => ?_) (fun _ => ?_)
    · refine v_sub [3, 4] rfl ?_
      exact hK x3_ x4_ x5_
    · refine v_iload (pc := 23) C d_M_canBe_23 5 rfl ?_
      refine v_iload_n (pc := 25) C d_M_canBe_25 rfl 2 rfl ?_
      refine v_jn (fun j => ∀ (v1 : Int32) (v2 : Int32), VO g Y_M_canBe G (fun z => Qm g Y_M_canBe G (fp L S z)) 0 0 101 [(0, rf G 104), (1, .int y1_), (2, .int y2_), (3, .int v1), (4, .int v2), (5, .int x5_)] [] L S (j (v1, v2)) K) (fun v1 v2 => ?_) (fun j101 hj101 => ?_)
      · refine v_iinc (pc := 101) (p := 5) (c := 1) C d_M_canBe_101 rfl (by decide) (by decide) (fun v3 => [(5, .int v3), (0, rf G 104), (1, .int y1_), (2, .int y2_), (3, .int v1), (4, .int v2)]) (fun _ => rfl) (fun v3 => ?_)
        refine v_goto (pc := 104) (tgt := 12) C d_M_canBe_104 rfl ?_
        refine v_sub [1, 2, 3, 4, 5, 0] rfl ?_
        exact ih v1 v2 v3 K hK
      · refine v_icmp_ne (pc := 26) (tgt := 32) C d_M_canBe_26 rfl (fun _ => ?_) (fun _ => ?_)
        · refine v_aload_n (pc := 32) C d_M_canBe_32 rfl 0 rfl ?_
          refine v_getR (pc := 33) C fl_M_120 (sh_104 hL) rfl d_M_canBe_33 ?_
          refine v_bipush (pc := 36) C d_M_canBe_36 bp_10 ?_
          refine v_iload_n (pc := 38) C d_M_canBe_38 rfl 1 rfl ?_
          refine v_imul (pc := 39) C d_M_canBe_39 ?_
          refine v_iload (pc := 40) C d_M_canBe_40 5 rfl ?_
          refine v_iadd (pc := 42) C d_M_canBe_42 ?_
          refine v_iald (pc := 43) C (sh_138 hL) d_M_canBe_43 (fun _ => ?_)
          refine v_iload_n (pc := 44) C d_M_canBe_44 rfl 3 rfl ?_
          refine v_jn (fun j => ∀ (v4 : Int32), VO g Y_M_canBe G (fun z => Qm g Y_M_canBe G (fp L S z)) 0 0 64 [(0, rf G 104), (1, .int y1_), (2, .int y2_), (4, .int x4_), (5, .int x5_)] [.int v4] L S (j (v4)) K) (fun v4 => ?_) (fun j64 hj64 => ?_)
          · refine v_istore_n (pc := 64) (lv' := [(3, .int v4), (0, rf G 104), (1, .int y1_), (2, .int y2_), (4, .int x4_), (5, .int x5_)]) C d_M_canBe_64 rfl (by decide) rfl ?_
            refine v_aload_n (pc := 65) C d_M_canBe_65 rfl 1 rfl ?_
            refine v_getR (pc := 66) C fl_M_123 (sh_104 hL) rfl d_M_canBe_66 ?_
            refine v_bipush (pc := 69) C d_M_canBe_69 bp_10 ?_
            refine v_iload_n (pc := 71) C d_M_canBe_71 rfl 2 rfl ?_
            refine v_imul (pc := 72) C d_M_canBe_72 ?_
            refine v_iload (pc := 73) C d_M_canBe_73 5 rfl ?_
            refine v_iadd (pc := 75) C d_M_canBe_75 ?_
            refine v_iald (pc := 76) C (sh_139 hL) d_M_canBe_76 (fun _ => ?_)
            refine v_iload (pc := 77) C d_M_canBe_77 4 rfl ?_
            refine v_jn (fun j => ∀ (v5 : Int32), VO g Y_M_canBe G (fun z => Qm g Y_M_canBe G (fp L S z)) 0 0 99 [(0, rf G 104), (1, .int y1_), (2, .int y2_), (3, .int v4), (5, .int x5_)] [.int v5] L S (j (v5)) K) (fun v5 => ?_) (fun j99 hj99 => ?_)
            · refine v_istore (pc := 99) (lv' := [(4, .int v5), (0, rf G 104), (1, .int y1_), (2, .int y2_), (3, .int v4), (5, .int x5_)]) C d_M_canBe_99 (by decide) rfl ?_
              refine v_sub [1, 2, 3, 4, 0, 5] rfl ?_
              exact hj101 v4 v5
            · refine v_icmp_ge (pc := 79) (tgt := 97) C d_M_canBe_79 rfl (fun _ => ?_) (fun _ => ?_)
              · refine v_iload (pc := 97) C d_M_canBe_97 4 rfl ?_
                refine v_sub [1, 2, 3, 0, 5] rfl ?_
                exact hj99 x4_
              · refine v_aload_n (pc := 82) C d_M_canBe_82 rfl 1 rfl ?_
                refine v_getR (pc := 83) C fl_M_123 (sh_104 hL) rfl d_M_canBe_83 ?_
                refine v_bipush (pc := 86) C d_M_canBe_86 bp_10 ?_
                refine v_iload_n (pc := 88) C d_M_canBe_88 rfl 2 rfl ?_
                refine v_imul (pc := 89) C d_M_canBe_89 ?_
                refine v_iload (pc := 90) C d_M_canBe_90 5 rfl ?_
                refine v_iadd (pc := 92) C d_M_canBe_92 ?_
                refine v_iald (pc := 93) C (sh_139 hL) d_M_canBe_93 (fun _ => ?_)
                refine v_goto (pc := 94) (tgt := 99) C d_M_canBe_94 rfl ?_
                refine v_sub [1, 2, 3, 0, 5] rfl ?_
                exact hj99 (S 139 (((10 * y1_) + x5_).toNatClampNeg))
          · refine v_icmp_le (pc := 45) (tgt := 63) C d_M_canBe_45 rfl (fun _ => ?_) (fun _ => ?_)
            · refine v_iload_n (pc := 63) C d_M_canBe_63 rfl 3 rfl ?_
              refine v_sub [0, 1, 2, 4, 5] rfl ?_
              exact hj64 x3_
            · refine v_aload_n (pc := 48) C d_M_canBe_48 rfl 0 rfl ?_
              refine v_getR (pc := 49) C fl_M_120 (sh_104 hL) rfl d_M_canBe_49 ?_
              refine v_bipush (pc := 52) C d_M_canBe_52 bp_10 ?_
              refine v_iload_n (pc := 54) C d_M_canBe_54 rfl 1 rfl ?_
              refine v_imul (pc := 55) C d_M_canBe_55 ?_
              refine v_iload (pc := 56) C d_M_canBe_56 5 rfl ?_
              refine v_iadd (pc := 58) C d_M_canBe_58 ?_
              refine v_iald (pc := 59) C (sh_138 hL) d_M_canBe_59 (fun _ => ?_)
              refine v_goto (pc := 60) (tgt := 64) C d_M_canBe_60 rfl ?_
              refine v_sub [0, 1, 2, 4, 5] rfl ?_
              exact hj64 (S 138 (((10 * y1_) + x5_).toNatClampNeg))
        · refine v_goto (pc := 29) (tgt := 101) C d_M_canBe_29 rfl ?_
          exact hj101 x3_ x4_
def r_M_canBe (x1 : Int32) (x2 : Int32) (S : Sto) : Option Int32 :=
  (r_M_canBe_L12 x1 x2 fu (-10000000) 10000000 0 S).bind (fun (v1, v2, v3) =>
  if v2 < v1 then
    some 0
  else
    some 1)
set_option maxHeartbeats 4000000 in
set_option maxRecDepth 20000 in
theorem c_M_canBe {G : Gl} {L : Shp} (hL : Ext L) (S : Sto) (x1 : Int32) (x2 : Int32)  : Ct Y_M_canBe G [rf G 104, .int x1, .int x2] L S (fp L S) (r_M_canBe x1 x2 S) := by
  refine ct_of (by decide +kernel) (Nat.le_of_ble_eq_true rfl) (fun g C => ?_)
  show VO g Y_M_canBe G (fun z => Qm g Y_M_canBe G (fp L S z)) 0 0 0 [(0, rf G 104), (1, .int x1), (2, .int x2)] [] L S (r_M_canBe x1 x2 S) some
  unfold r_M_canBe
  refine v_ldc_w (pc := 0) C d_M_canBe_0 kc_M_385 ?_
  refine v_istore_n (pc := 3) (lv' := [(3, .int (-10000000)), (0, rf G 104), (1, .int x1), (2, .int x2)]) C d_M_canBe_3 rfl (by decide) rfl ?_
  refine v_ldc_w (pc := 4) C d_M_canBe_4 kc_M_386 ?_
  refine v_istore (pc := 7) (lv' := [(4, .int 10000000), (3, .int (-10000000)), (0, rf G 104), (1, .int x1), (2, .int x2)]) C d_M_canBe_7 (by decide) rfl ?_
  refine v_iconst (pc := 9) C d_M_canBe_9 ic_0 ?_
  refine v_istore (pc := 10) (lv' := [(5, .int 0), (4, .int 10000000), (3, .int (-10000000)), (0, rf G 104), (1, .int x1), (2, .int x2)]) C d_M_canBe_10 (by decide) rfl ?_
  refine v_sub [3, 4, 5, 2, 1, 0] rfl ?_
  refine v_bind ?_
  refine w_M_canBe_L12 C hL S x1 x2  fu (-10000000) 10000000 0 _ (fun v1 v2 v3 => ?_) 
  refine v_some ?_
  refine v_iload_n (pc := 107) C d_M_canBe_107 rfl 0 rfl ?_
  refine v_iload (pc := 108) C d_M_canBe_108 1 rfl ?_
  refine v_icmp_gt (pc := 110) (tgt := 117) C d_M_canBe_110 rfl (fun _ => ?_) (fun _ => ?_)
  · refine v_iconst (pc := 117) C d_M_canBe_117 ic_0 ?_
    exact v_zret (z := 0) C d_M_canBe_118 rfl (b01_n (by decide)) ⟨Nat.zero_le _, Nat.zero_le _⟩ (rfl) rfl
  · refine v_iconst (pc := 113) C d_M_canBe_113 ic_1 ?_
    refine v_goto (pc := 114) (tgt := 118) C d_M_canBe_114 rfl ?_
    exact v_zret (z := 1) C d_M_canBe_118 rfl (b01_n (by decide)) ⟨Nat.zero_le _, Nat.zero_le _⟩ (rfl) rfl
-- M_over
theorem d_M_over_0 : decode (mB Y_M_over) 0 = .ok (.aload_n 0, 1) := by decide +kernel
theorem d_M_over_1 : decode (mB Y_M_over) 1 = .ok (.iconst 0, 1) := by decide +kernel
theorem d_M_over_2 : decode (mB Y_M_over) 2 = .ok (.putfield 150, 3) := by decide +kernel
theorem d_M_over_5 : decode (mB Y_M_over) 5 = .ok (.aload_n 0, 1) := by decide +kernel
theorem d_M_over_6 : decode (mB Y_M_over) 6 = .ok (.iload_n 1, 1) := by decide +kernel
theorem d_M_over_7 : decode (mB Y_M_over) 7 = .ok (.invokevirtual 390, 3) := by decide +kernel
theorem d_M_over_10 : decode (mB Y_M_over) 10 = .ok (.ifCond .eq 13, 3) := by decide +kernel
theorem d_M_over_13 : decode (mB Y_M_over) 13 = .ok (.aload_n 0, 1) := by decide +kernel
theorem d_M_over_14 : decode (mB Y_M_over) 14 = .ok (.iload_n 2, 1) := by decide +kernel
theorem d_M_over_15 : decode (mB Y_M_over) 15 = .ok (.iconst 0, 1) := by decide +kernel
theorem d_M_over_16 : decode (mB Y_M_over) 16 = .ok (.iconst 1, 1) := by decide +kernel
theorem d_M_over_17 : decode (mB Y_M_over) 17 = .ok (.invokevirtual 153, 3) := by decide +kernel
theorem d_M_over_20 : decode (mB Y_M_over) 20 = .ok (.ifCond .ne 5, 3) := by decide +kernel
theorem d_M_over_23 : decode (mB Y_M_over) 23 = .ok (.iconst (-1), 1) := by decide +kernel
theorem d_M_over_24 : decode (mB Y_M_over) 24 = .ok (.ireturn, 1) := by decide +kernel
theorem d_M_over_25 : decode (mB Y_M_over) 25 = .ok (.aload_n 0, 1) := by decide +kernel
theorem d_M_over_26 : decode (mB Y_M_over) 26 = .ok (.iload_n 1, 1) := by decide +kernel
theorem d_M_over_27 : decode (mB Y_M_over) 27 = .ok (.iconst (-1), 1) := by decide +kernel
theorem d_M_over_28 : decode (mB Y_M_over) 28 = .ok (.invokevirtual 423, 3) := by decide +kernel
theorem d_M_over_31 : decode (mB Y_M_over) 31 = .ok (.istore_n 3, 1) := by decide +kernel
theorem d_M_over_32 : decode (mB Y_M_over) 32 = .ok (.iload_n 2, 1) := by decide +kernel
theorem d_M_over_33 : decode (mB Y_M_over) 33 = .ok (.ifCond .ne 13, 3) := by decide +kernel
theorem d_M_over_36 : decode (mB Y_M_over) 36 = .ok (.iload_n 3, 1) := by decide +kernel
theorem d_M_over_37 : decode (mB Y_M_over) 37 = .ok (.ifCond .eq 7, 3) := by decide +kernel
theorem d_M_over_40 : decode (mB Y_M_over) 40 = .ok (.iconst 1, 1) := by decide +kernel
theorem d_M_over_41 : decode (mB Y_M_over) 41 = .ok (.goto 4, 3) := by decide +kernel
theorem d_M_over_44 : decode (mB Y_M_over) 44 = .ok (.iconst 0, 1) := by decide +kernel
theorem d_M_over_45 : decode (mB Y_M_over) 45 = .ok (.ireturn, 1) := by decide +kernel
theorem d_M_over_46 : decode (mB Y_M_over) 46 = .ok (.iconst (-1), 1) := by decide +kernel
theorem d_M_over_47 : decode (mB Y_M_over) 47 = .ok (.istore 4, 2) := by decide +kernel
theorem d_M_over_49 : decode (mB Y_M_over) 49 = .ok (.iconst 0, 1) := by decide +kernel
theorem d_M_over_50 : decode (mB Y_M_over) 50 = .ok (.istore 5, 2) := by decide +kernel
theorem d_M_over_52 : decode (mB Y_M_over) 52 = .ok (.iload 5, 2) := by decide +kernel
theorem d_M_over_54 : decode (mB Y_M_over) 54 = .ok (.aload_n 0, 1) := by decide +kernel
theorem d_M_over_55 : decode (mB Y_M_over) 55 = .ok (.getfield 117, 3) := by decide +kernel
theorem d_M_over_58 : decode (mB Y_M_over) 58 = .ok (.iload_n 1, 1) := by decide +kernel
theorem d_M_over_59 : decode (mB Y_M_over) 59 = .ok (.iaload, 1) := by decide +kernel
theorem d_M_over_60 : decode (mB Y_M_over) 60 = .ok (.if_icmp .ge 38, 3) := by decide +kernel
theorem d_M_over_63 : decode (mB Y_M_over) 63 = .ok (.iload_n 3, 1) := by decide +kernel
theorem d_M_over_64 : decode (mB Y_M_over) 64 = .ok (.ifCond .ne 34, 3) := by decide +kernel
theorem d_M_over_67 : decode (mB Y_M_over) 67 = .ok (.aload_n 0, 1) := by decide +kernel
theorem d_M_over_68 : decode (mB Y_M_over) 68 = .ok (.iload_n 1, 1) := by decide +kernel
theorem d_M_over_69 : decode (mB Y_M_over) 69 = .ok (.iload 5, 2) := by decide +kernel
theorem d_M_over_71 : decode (mB Y_M_over) 71 = .ok (.invokevirtual 423, 3) := by decide +kernel
theorem d_M_over_74 : decode (mB Y_M_over) 74 = .ok (.ifCond .ne 6, 3) := by decide +kernel
theorem d_M_over_77 : decode (mB Y_M_over) 77 = .ok (.goto 15, 3) := by decide +kernel
theorem d_M_over_80 : decode (mB Y_M_over) 80 = .ok (.iload 4, 2) := by decide +kernel
theorem d_M_over_82 : decode (mB Y_M_over) 82 = .ok (.iconst (-1), 1) := by decide +kernel
theorem d_M_over_83 : decode (mB Y_M_over) 83 = .ok (.if_icmp .eq 5, 3) := by decide +kernel
theorem d_M_over_86 : decode (mB Y_M_over) 86 = .ok (.iconst (-1), 1) := by decide +kernel
theorem d_M_over_87 : decode (mB Y_M_over) 87 = .ok (.ireturn, 1) := by decide +kernel
theorem d_M_over_88 : decode (mB Y_M_over) 88 = .ok (.iload 5, 2) := by decide +kernel
theorem d_M_over_90 : decode (mB Y_M_over) 90 = .ok (.istore 4, 2) := by decide +kernel
theorem d_M_over_92 : decode (mB Y_M_over) 92 = .ok (.iinc 5 1, 3) := by decide +kernel
theorem d_M_over_95 : decode (mB Y_M_over) 95 = .ok (.goto (-43), 3) := by decide +kernel
theorem d_M_over_98 : decode (mB Y_M_over) 98 = .ok (.iload 4, 2) := by decide +kernel
theorem d_M_over_100 : decode (mB Y_M_over) 100 = .ok (.ireturn, 1) := by decide +kernel
theorem ro_M_over_M_canBe : roomy Y_M_over Y_M_canBe := ⟨Nat.le_of_ble_eq_true rfl, Nat.le_of_ble_eq_true rfl⟩
theorem ro_M_over_M_isIn : roomy Y_M_over Y_M_isIn := ⟨Nat.le_of_ble_eq_true rfl, Nat.le_of_ble_eq_true rfl⟩
theorem ro_M_over_M_isTape : roomy Y_M_over Y_M_isTape := ⟨Nat.le_of_ble_eq_true rfl, Nat.le_of_ble_eq_true rfl⟩
def r_M_over_L52 (y1_ : Int32) (y3_ : Int32) : Nat → Int32 → Int32 → Sto → Option ((Int32 × Int32) ⊕ (Int32 × Sto))
  | 0, _, _, _ => none
  | n + 1, x4_, x5_, S =>
    chk (inr y1_ 4) (
    if (S 137 y1_.toNatClampNeg) ≤ x5_ then
      some (.inl (x4_, x5_))
    else
      if y3_ = 0 then
        (r_M_canBe y1_ x5_ S).bind (fun r1 =>
        jn (fun (v2 : Int32) =>
          lt (x5_ + 1) (fun v3 =>
          r_M_over_L52 y1_ y3_ n v2 v3 S)) (fun j92 =>
        if r1 = 0 then
          j92 (x4_)
        else
          if x4_ = (-1) then
            j92 (x5_)
          else
            some (.inr ((-1), S))))
      else
        some (.inl (x4_, x5_)))
set_option maxHeartbeats 4000000 in
set_option maxRecDepth 20000 in
theorem w_M_over_L52 {g : Gm} {G : Gl} {L : Shp} (C : Cx g Y_M_over G) (hL : Ext L) (S : Sto) (y1_ : Int32) (y3_ : Int32)  :
    ∀ (n : Nat) (x4_ : Int32) (x5_ : Int32) (K : ((Int32 × Int32) ⊕ (Int32 × Sto)) → Option (Int32 × Sto)), (∀ (x4_ : Int32) (x5_ : Int32), VO g Y_M_over G (fun z => Qm g Y_M_over G (fi L z)) 0 0 98 [(4, .int x4_)] [] L S (some (.inl (x4_, x5_))) K) → (∀ x, K (.inr x) = some x) → VO g Y_M_over G (fun z => Qm g Y_M_over G (fi L z)) 0 0 52 [(0, rf G 104), (1, .int y1_), (3, .int y3_), (4, .int x4_), (5, .int x5_)] [] L S (r_M_over_L52 y1_ y3_ n x4_ x5_ S) K := by
  intro n
  induction n with
  | zero => intro x4_ x5_ K; intros; exact v_none
  | succ n ih =>
    intro x4_ x5_ K hK hR
    rw [r_M_over_L52]
    refine v_iload (pc := 52) C d_M_over_52 4 rfl ?_
    refine v_aload_n (pc := 54) C d_M_over_54 rfl 0 rfl ?_
    refine v_getR (pc := 55) C fl_M_117 (sh_104 hL) rfl d_M_over_55 ?_
    refine v_iload_n (pc := 58) C d_M_over_58 rfl 1 rfl ?_
    refine v_iald (pc := 59) C (sh_137 hL) d_M_over_59 (fun _ => ?_)
    refine v_icmp_ge (pc := 60) (tgt := 98) C d_M_over_60 rfl (fun _ => ?_) (fun _ => ?_)
    · refine v_sub [3] rfl ?_
      exact hK x4_ x5_
    · refine v_iload_n (pc := 63) C d_M_over_63 rfl 2 rfl ?_
      refine v_if_ne (pc := 64) (tgt := 98) C d_M_over_64 rfl (fun _ => ?_) (fun _ => ?_)
      · refine v_sub [3] rfl ?_
        exact hK x4_ x5_
      · refine v_aload_n (pc := 67) C d_M_over_67 rfl 0 rfl ?_
        refine v_iload_n (pc := 68) C d_M_over_68 rfl 1 rfl ?_
        refine v_iload (pc := 69) C d_M_over_69 4 rfl ?_
        refine v_cp (pc := 71) (inv_V (As := [.int y1_, .int x5_]) (st := []) C ml_M_423 mv_M_canBe ro_M_over_M_canBe (sh_104 hL) rfl rfl rfl rfl (Nat.le_of_ble_eq_true rfl) d_M_over_71) (c_M_canBe hL S y1_ x5_) ⟨rfl, rfl⟩ ⟨Nat.zero_le _, Nat.zero_le _⟩ (fun r1 => ?_)
        refine v_jn (fun j => ∀ (v2 : Int32), VO g Y_M_over G (fun z => Qm g Y_M_over G (fi L z)) 0 0 92 [(0, rf G 104), (1, .int y1_), (3, .int y3_), (4, .int v2), (5, .int x5_)] [] L S (j (v2)) K) (fun v2 => ?_) (fun j92 hj92 => ?_)
        · refine v_iinc (pc := 92) (p := 4) (c := 1) C d_M_over_92 rfl (by decide) (by decide) (fun v3 => [(5, .int v3), (0, rf G 104), (1, .int y1_), (3, .int y3_), (4, .int v2)]) (fun _ => rfl) (fun v3 => ?_)
          refine v_goto (pc := 95) (tgt := 52) C d_M_over_95 rfl ?_
          refine v_sub [1, 2, 3, 4, 0] rfl ?_
          exact ih v2 v3 K hK hR
        · refine v_if_ne (pc := 74) (tgt := 80) C d_M_over_74 rfl (fun _ => ?_) (fun _ => ?_)
          · refine v_iload (pc := 80) C d_M_over_80 3 rfl ?_
            refine v_iconst (pc := 82) C d_M_over_82 ic_m1 ?_
            refine v_icmp_eq (pc := 83) (tgt := 88) C d_M_over_83 rfl (fun _ => ?_) (fun _ => ?_)
            · refine v_iload (pc := 88) C d_M_over_88 4 rfl ?_
              refine v_istore (pc := 90) (lv' := [(4, .int x5_), (0, rf G 104), (1, .int y1_), (3, .int y3_), (5, .int x5_)]) C d_M_over_90 (by decide) rfl ?_
              refine v_sub [1, 2, 3, 0, 4] rfl ?_
              exact hj92 x5_
            · refine v_iconst (pc := 86) C d_M_over_86 ic_m1 ?_
              exact v_iret (z := ((-1), S)) C d_M_over_87 rfl ⟨Nat.zero_le _, Nat.zero_le _⟩ (hR _) rfl
          · refine v_goto (pc := 77) (tgt := 92) C d_M_over_77 rfl ?_
            exact hj92 x4_
def r_M_over (x1 : Int32) (x2 : Int32) (S : Sto) : Option (Int32 × Sto) :=
  ltS (sw S 104 0 0) (fun S1 =>
  if (r_M_isTape x1) = 0 then
    some ((-1), S1)
  else
    if (r_M_isIn x2 0 1) = 0 then
      some ((-1), S1)
    else
      (r_M_canBe x1 (-1) S1).bind (fun r2 =>
      if x2 = 0 then
        if r2 = 0 then
          some (0, S1)
        else
          some (1, S1)
      else
        (r_M_over_L52 x1 r2 fu (-1) 0 S1).bind (fun x => match x with
        | .inl (v3, v4) =>
          some (v3, S1)
        | .inr r => some r)))
set_option maxHeartbeats 4000000 in
set_option maxRecDepth 20000 in
theorem c_M_over {G : Gl} {L : Shp} (hL : Ext L) (S : Sto) (x1 : Int32) (x2 : Int32)  : Ct Y_M_over G [rf G 104, .int x1, .int x2] L S (fi L) (r_M_over x1 x2 S) := by
  refine ct_of (by decide +kernel) (Nat.le_of_ble_eq_true rfl) (fun g C => ?_)
  show VO g Y_M_over G (fun z => Qm g Y_M_over G (fi L z)) 0 0 0 [(0, rf G 104), (1, .int x1), (2, .int x2)] [] L S (r_M_over x1 x2 S) some
  unfold r_M_over
  refine v_aload_n (pc := 0) C d_M_over_0 rfl 0 rfl ?_
  refine v_iconst (pc := 1) C d_M_over_1 ic_0 ?_
  refine v_putI (pc := 2) C fp_M_150 (sh_104 hL) rfl d_M_over_2 (fun S1 => ?_)
  refine v_aload_n (pc := 5) C d_M_over_5 rfl 0 rfl ?_
  refine v_iload_n (pc := 6) C d_M_over_6 rfl 1 rfl ?_
  refine v_ct (pc := 7) (inv_V (As := [.int x1]) (st := []) C ml_M_390 mv_M_isTape ro_M_over_M_isTape (sh_104 hL) rfl rfl rfl rfl (Nat.le_of_ble_eq_true rfl) d_M_over_7) (c_M_isTape hL S1 x1) ⟨rfl, rfl⟩ ⟨Nat.zero_le _, Nat.zero_le _⟩ ?_
  refine v_if_eq (pc := 10) (tgt := 23) C d_M_over_10 rfl (fun _ => ?_) (fun _ => ?_)
  · refine v_iconst (pc := 23) C d_M_over_23 ic_m1 ?_
    exact v_iret (z := ((-1), S1)) C d_M_over_24 rfl ⟨Nat.zero_le _, Nat.zero_le _⟩ (rfl) rfl
  · refine v_aload_n (pc := 13) C d_M_over_13 rfl 0 rfl ?_
    refine v_iload_n (pc := 14) C d_M_over_14 rfl 2 rfl ?_
    refine v_iconst (pc := 15) C d_M_over_15 ic_0 ?_
    refine v_iconst (pc := 16) C d_M_over_16 ic_1 ?_
    refine v_ct (pc := 17) (inv_V (As := [.int x2, .int 0, .int 1]) (st := []) C ml_M_153 mv_M_isIn ro_M_over_M_isIn (sh_104 hL) rfl rfl rfl rfl (Nat.le_of_ble_eq_true rfl) d_M_over_17) (c_M_isIn hL S1 x2 0 1) ⟨rfl, rfl⟩ ⟨Nat.zero_le _, Nat.zero_le _⟩ ?_
    refine v_if_ne (pc := 20) (tgt := 25) C d_M_over_20 rfl (fun _ => ?_) (fun _ => ?_)
    · refine v_aload_n (pc := 25) C d_M_over_25 rfl 0 rfl ?_
      refine v_iload_n (pc := 26) C d_M_over_26 rfl 1 rfl ?_
      refine v_iconst (pc := 27) C d_M_over_27 ic_m1 ?_
      refine v_cp (pc := 28) (inv_V (As := [.int x1, .int (-1)]) (st := []) C ml_M_423 mv_M_canBe ro_M_over_M_canBe (sh_104 hL) rfl rfl rfl rfl (Nat.le_of_ble_eq_true rfl) d_M_over_28) (c_M_canBe hL S1 x1 (-1)) ⟨rfl, rfl⟩ ⟨Nat.zero_le _, Nat.zero_le _⟩ (fun r2 => ?_)
      refine v_istore_n (pc := 31) (lv' := [(3, .int r2), (0, rf G 104), (1, .int x1), (2, .int x2)]) C d_M_over_31 rfl (by decide) rfl ?_
      refine v_iload_n (pc := 32) C d_M_over_32 rfl 3 rfl ?_
      refine v_if_ne (pc := 33) (tgt := 46) C d_M_over_33 rfl (fun _ => ?_) (fun _ => ?_)
      · refine v_iconst (pc := 46) C d_M_over_46 ic_m1 ?_
        refine v_istore (pc := 47) (lv' := [(4, .int (-1)), (3, .int r2), (0, rf G 104), (1, .int x1), (2, .int x2)]) C d_M_over_47 (by decide) rfl ?_
        refine v_iconst (pc := 49) C d_M_over_49 ic_0 ?_
        refine v_istore (pc := 50) (lv' := [(5, .int 0), (4, .int (-1)), (3, .int r2), (0, rf G 104), (1, .int x1), (2, .int x2)]) C d_M_over_50 (by decide) rfl ?_
        refine v_sub [3, 4, 2, 1, 0] rfl ?_
        refine v_bind ?_
        refine w_M_over_L52 C hL S1 x1 r2  fu (-1) 0 _ (fun v3 v4 => ?_) (fun z => rfl)
        refine v_some ?_
        refine v_iload (pc := 98) C d_M_over_98 0 rfl ?_
        exact v_iret (z := (v3, S1)) C d_M_over_100 rfl ⟨Nat.zero_le _, Nat.zero_le _⟩ (rfl) rfl
      · refine v_iload_n (pc := 36) C d_M_over_36 rfl 0 rfl ?_
        refine v_if_eq (pc := 37) (tgt := 44) C d_M_over_37 rfl (fun _ => ?_) (fun _ => ?_)
        · refine v_iconst (pc := 44) C d_M_over_44 ic_0 ?_
          exact v_iret (z := (0, S1)) C d_M_over_45 rfl ⟨Nat.zero_le _, Nat.zero_le _⟩ (rfl) rfl
        · refine v_iconst (pc := 40) C d_M_over_40 ic_1 ?_
          refine v_goto (pc := 41) (tgt := 45) C d_M_over_41 rfl ?_
          exact v_iret (z := (1, S1)) C d_M_over_45 rfl ⟨Nat.zero_le _, Nat.zero_le _⟩ (rfl) rfl
    · refine v_iconst (pc := 23) C d_M_over_23 ic_m1 ?_
      exact v_iret (z := ((-1), S1)) C d_M_over_24 rfl ⟨Nat.zero_le _, Nat.zero_le _⟩ (rfl) rfl
