-- Tp_searchCouple
theorem d_Tp_searchCouple_0 : decode (mB Y_Tp_searchCouple) 0 = .ok (.aload_n 0, 1) := by decide +kernel
theorem d_Tp_searchCouple_1 : decode (mB Y_Tp_searchCouple) 1 = .ok (.iconst (-1), 1) := by decide +kernel
theorem d_Tp_searchCouple_2 : decode (mB Y_Tp_searchCouple) 2 = .ok (.putfield 86, 3) := by decide +kernel
theorem d_Tp_searchCouple_5 : decode (mB Y_Tp_searchCouple) 5 = .ok (.aload_n 0, 1) := by decide +kernel
theorem d_Tp_searchCouple_6 : decode (mB Y_Tp_searchCouple) 6 = .ok (.iconst 0, 1) := by decide +kernel
theorem d_Tp_searchCouple_7 : decode (mB Y_Tp_searchCouple) 7 = .ok (.putfield 89, 3) := by decide +kernel
theorem d_Tp_searchCouple_10 : decode (mB Y_Tp_searchCouple) 10 = .ok (.aload_n 0, 1) := by decide +kernel
theorem d_Tp_searchCouple_11 : decode (mB Y_Tp_searchCouple) 11 = .ok (.iconst 0, 1) := by decide +kernel
theorem d_Tp_searchCouple_12 : decode (mB Y_Tp_searchCouple) 12 = .ok (.putfield 92, 3) := by decide +kernel
theorem d_Tp_searchCouple_15 : decode (mB Y_Tp_searchCouple) 15 = .ok (.iconst 0, 1) := by decide +kernel
theorem d_Tp_searchCouple_16 : decode (mB Y_Tp_searchCouple) 16 = .ok (.istore_n 2, 1) := by decide +kernel
theorem d_Tp_searchCouple_17 : decode (mB Y_Tp_searchCouple) 17 = .ok (.iconst 0, 1) := by decide +kernel
theorem d_Tp_searchCouple_18 : decode (mB Y_Tp_searchCouple) 18 = .ok (.istore_n 3, 1) := by decide +kernel
theorem d_Tp_searchCouple_19 : decode (mB Y_Tp_searchCouple) 19 = .ok (.iload_n 3, 1) := by decide +kernel
theorem d_Tp_searchCouple_20 : decode (mB Y_Tp_searchCouple) 20 = .ok (.bipush 10, 2) := by decide +kernel
theorem d_Tp_searchCouple_22 : decode (mB Y_Tp_searchCouple) 22 = .ok (.if_icmp .ge 158, 3) := by decide +kernel
theorem d_Tp_searchCouple_25 : decode (mB Y_Tp_searchCouple) 25 = .ok (.iconst 0, 1) := by decide +kernel
theorem d_Tp_searchCouple_26 : decode (mB Y_Tp_searchCouple) 26 = .ok (.istore 4, 2) := by decide +kernel
theorem d_Tp_searchCouple_28 : decode (mB Y_Tp_searchCouple) 28 = .ok (.iload 4, 2) := by decide +kernel
theorem d_Tp_searchCouple_30 : decode (mB Y_Tp_searchCouple) 30 = .ok (.bipush 10, 2) := by decide +kernel
theorem d_Tp_searchCouple_32 : decode (mB Y_Tp_searchCouple) 32 = .ok (.if_icmp .ge 142, 3) := by decide +kernel
theorem d_Tp_searchCouple_35 : decode (mB Y_Tp_searchCouple) 35 = .ok (.iload_n 3, 1) := by decide +kernel
theorem d_Tp_searchCouple_36 : decode (mB Y_Tp_searchCouple) 36 = .ok (.iload 4, 2) := by decide +kernel
theorem d_Tp_searchCouple_38 : decode (mB Y_Tp_searchCouple) 38 = .ok (.if_icmp .eq 130, 3) := by decide +kernel
theorem d_Tp_searchCouple_41 : decode (mB Y_Tp_searchCouple) 41 = .ok (.aload_n 0, 1) := by decide +kernel
theorem d_Tp_searchCouple_42 : decode (mB Y_Tp_searchCouple) 42 = .ok (.getfield 15, 3) := by decide +kernel
theorem d_Tp_searchCouple_45 : decode (mB Y_Tp_searchCouple) 45 = .ok (.iload_n 3, 1) := by decide +kernel
theorem d_Tp_searchCouple_46 : decode (mB Y_Tp_searchCouple) 46 = .ok (.iaload, 1) := by decide +kernel
theorem d_Tp_searchCouple_47 : decode (mB Y_Tp_searchCouple) 47 = .ok (.iconst (-1), 1) := by decide +kernel
theorem d_Tp_searchCouple_48 : decode (mB Y_Tp_searchCouple) 48 = .ok (.if_icmp .eq 120, 3) := by decide +kernel
theorem d_Tp_searchCouple_51 : decode (mB Y_Tp_searchCouple) 51 = .ok (.aload_n 0, 1) := by decide +kernel
theorem d_Tp_searchCouple_52 : decode (mB Y_Tp_searchCouple) 52 = .ok (.getfield 15, 3) := by decide +kernel
theorem d_Tp_searchCouple_55 : decode (mB Y_Tp_searchCouple) 55 = .ok (.iload 4, 2) := by decide +kernel
theorem d_Tp_searchCouple_57 : decode (mB Y_Tp_searchCouple) 57 = .ok (.iaload, 1) := by decide +kernel
theorem d_Tp_searchCouple_58 : decode (mB Y_Tp_searchCouple) 58 = .ok (.iconst (-1), 1) := by decide +kernel
theorem d_Tp_searchCouple_59 : decode (mB Y_Tp_searchCouple) 59 = .ok (.if_icmp .eq 109, 3) := by decide +kernel
theorem d_Tp_searchCouple_62 : decode (mB Y_Tp_searchCouple) 62 = .ok (.aload_n 0, 1) := by decide +kernel
theorem d_Tp_searchCouple_63 : decode (mB Y_Tp_searchCouple) 63 = .ok (.iload_n 3, 1) := by decide +kernel
theorem d_Tp_searchCouple_64 : decode (mB Y_Tp_searchCouple) 64 = .ok (.iload 4, 2) := by decide +kernel
theorem d_Tp_searchCouple_66 : decode (mB Y_Tp_searchCouple) 66 = .ok (.iload_n 1, 1) := by decide +kernel
theorem d_Tp_searchCouple_67 : decode (mB Y_Tp_searchCouple) 67 = .ok (.invokevirtual 95, 3) := by decide +kernel
theorem d_Tp_searchCouple_70 : decode (mB Y_Tp_searchCouple) 70 = .ok (.aload_n 0, 1) := by decide +kernel
theorem d_Tp_searchCouple_71 : decode (mB Y_Tp_searchCouple) 71 = .ok (.getfield 73, 3) := by decide +kernel
theorem d_Tp_searchCouple_74 : decode (mB Y_Tp_searchCouple) 74 = .ok (.aload_n 0, 1) := by decide +kernel
theorem d_Tp_searchCouple_75 : decode (mB Y_Tp_searchCouple) 75 = .ok (.getfield 67, 3) := by decide +kernel
theorem d_Tp_searchCouple_78 : decode (mB Y_Tp_searchCouple) 78 = .ok (.isub, 1) := by decide +kernel
theorem d_Tp_searchCouple_79 : decode (mB Y_Tp_searchCouple) 79 = .ok (.istore 5, 2) := by decide +kernel
theorem d_Tp_searchCouple_81 : decode (mB Y_Tp_searchCouple) 81 = .ok (.aload_n 0, 1) := by decide +kernel
theorem d_Tp_searchCouple_82 : decode (mB Y_Tp_searchCouple) 82 = .ok (.getfield 67, 3) := by decide +kernel
theorem d_Tp_searchCouple_85 : decode (mB Y_Tp_searchCouple) 85 = .ok (.aload_n 0, 1) := by decide +kernel
theorem d_Tp_searchCouple_86 : decode (mB Y_Tp_searchCouple) 86 = .ok (.getfield 89, 3) := by decide +kernel
theorem d_Tp_searchCouple_89 : decode (mB Y_Tp_searchCouple) 89 = .ok (.if_icmp .le 8, 3) := by decide +kernel
theorem d_Tp_searchCouple_92 : decode (mB Y_Tp_searchCouple) 92 = .ok (.aload_n 0, 1) := by decide +kernel
theorem d_Tp_searchCouple_93 : decode (mB Y_Tp_searchCouple) 93 = .ok (.iconst 0, 1) := by decide +kernel
theorem d_Tp_searchCouple_94 : decode (mB Y_Tp_searchCouple) 94 = .ok (.putfield 92, 3) := by decide +kernel
theorem d_Tp_searchCouple_97 : decode (mB Y_Tp_searchCouple) 97 = .ok (.aload_n 0, 1) := by decide +kernel
theorem d_Tp_searchCouple_98 : decode (mB Y_Tp_searchCouple) 98 = .ok (.getfield 67, 3) := by decide +kernel
theorem d_Tp_searchCouple_101 : decode (mB Y_Tp_searchCouple) 101 = .ok (.aload_n 0, 1) := by decide +kernel
theorem d_Tp_searchCouple_102 : decode (mB Y_Tp_searchCouple) 102 = .ok (.getfield 89, 3) := by decide +kernel
theorem d_Tp_searchCouple_105 : decode (mB Y_Tp_searchCouple) 105 = .ok (.if_icmp .gt 20, 3) := by decide +kernel
theorem d_Tp_searchCouple_108 : decode (mB Y_Tp_searchCouple) 108 = .ok (.aload_n 0, 1) := by decide +kernel
theorem d_Tp_searchCouple_109 : decode (mB Y_Tp_searchCouple) 109 = .ok (.getfield 67, 3) := by decide +kernel
theorem d_Tp_searchCouple_112 : decode (mB Y_Tp_searchCouple) 112 = .ok (.aload_n 0, 1) := by decide +kernel
theorem d_Tp_searchCouple_113 : decode (mB Y_Tp_searchCouple) 113 = .ok (.getfield 89, 3) := by decide +kernel
theorem d_Tp_searchCouple_116 : decode (mB Y_Tp_searchCouple) 116 = .ok (.if_icmp .ne 31, 3) := by decide +kernel
theorem d_Tp_searchCouple_119 : decode (mB Y_Tp_searchCouple) 119 = .ok (.iload 5, 2) := by decide +kernel
theorem d_Tp_searchCouple_121 : decode (mB Y_Tp_searchCouple) 121 = .ok (.iload_n 2, 1) := by decide +kernel
theorem d_Tp_searchCouple_122 : decode (mB Y_Tp_searchCouple) 122 = .ok (.if_icmp .ge 25, 3) := by decide +kernel
theorem d_Tp_searchCouple_125 : decode (mB Y_Tp_searchCouple) 125 = .ok (.aload_n 0, 1) := by decide +kernel
theorem d_Tp_searchCouple_126 : decode (mB Y_Tp_searchCouple) 126 = .ok (.bipush 10, 2) := by decide +kernel
theorem d_Tp_searchCouple_128 : decode (mB Y_Tp_searchCouple) 128 = .ok (.iload_n 3, 1) := by decide +kernel
theorem d_Tp_searchCouple_129 : decode (mB Y_Tp_searchCouple) 129 = .ok (.imul, 1) := by decide +kernel
theorem d_Tp_searchCouple_130 : decode (mB Y_Tp_searchCouple) 130 = .ok (.iload 4, 2) := by decide +kernel
theorem d_Tp_searchCouple_132 : decode (mB Y_Tp_searchCouple) 132 = .ok (.iadd, 1) := by decide +kernel
theorem d_Tp_searchCouple_133 : decode (mB Y_Tp_searchCouple) 133 = .ok (.putfield 86, 3) := by decide +kernel
theorem d_Tp_searchCouple_136 : decode (mB Y_Tp_searchCouple) 136 = .ok (.aload_n 0, 1) := by decide +kernel
theorem d_Tp_searchCouple_137 : decode (mB Y_Tp_searchCouple) 137 = .ok (.aload_n 0, 1) := by decide +kernel
theorem d_Tp_searchCouple_138 : decode (mB Y_Tp_searchCouple) 138 = .ok (.getfield 67, 3) := by decide +kernel
theorem d_Tp_searchCouple_141 : decode (mB Y_Tp_searchCouple) 141 = .ok (.putfield 89, 3) := by decide +kernel
theorem d_Tp_searchCouple_144 : decode (mB Y_Tp_searchCouple) 144 = .ok (.iload 5, 2) := by decide +kernel
theorem d_Tp_searchCouple_146 : decode (mB Y_Tp_searchCouple) 146 = .ok (.istore_n 2, 1) := by decide +kernel
theorem d_Tp_searchCouple_147 : decode (mB Y_Tp_searchCouple) 147 = .ok (.aload_n 0, 1) := by decide +kernel
theorem d_Tp_searchCouple_148 : decode (mB Y_Tp_searchCouple) 148 = .ok (.getfield 67, 3) := by decide +kernel
theorem d_Tp_searchCouple_151 : decode (mB Y_Tp_searchCouple) 151 = .ok (.aload_n 0, 1) := by decide +kernel
theorem d_Tp_searchCouple_152 : decode (mB Y_Tp_searchCouple) 152 = .ok (.getfield 89, 3) := by decide +kernel
theorem d_Tp_searchCouple_155 : decode (mB Y_Tp_searchCouple) 155 = .ok (.if_icmp .ne 13, 3) := by decide +kernel
theorem d_Tp_searchCouple_158 : decode (mB Y_Tp_searchCouple) 158 = .ok (.aload_n 0, 1) := by decide +kernel
theorem d_Tp_searchCouple_159 : decode (mB Y_Tp_searchCouple) 159 = .ok (.dup, 1) := by decide +kernel
theorem d_Tp_searchCouple_160 : decode (mB Y_Tp_searchCouple) 160 = .ok (.getfield 92, 3) := by decide +kernel
theorem d_Tp_searchCouple_163 : decode (mB Y_Tp_searchCouple) 163 = .ok (.iconst 1, 1) := by decide +kernel
theorem d_Tp_searchCouple_164 : decode (mB Y_Tp_searchCouple) 164 = .ok (.iadd, 1) := by decide +kernel
theorem d_Tp_searchCouple_165 : decode (mB Y_Tp_searchCouple) 165 = .ok (.putfield 92, 3) := by decide +kernel
theorem d_Tp_searchCouple_168 : decode (mB Y_Tp_searchCouple) 168 = .ok (.iinc 4 1, 3) := by decide +kernel
theorem d_Tp_searchCouple_171 : decode (mB Y_Tp_searchCouple) 171 = .ok (.goto (-143), 3) := by decide +kernel
theorem d_Tp_searchCouple_174 : decode (mB Y_Tp_searchCouple) 174 = .ok (.iinc 3 1, 3) := by decide +kernel
theorem d_Tp_searchCouple_177 : decode (mB Y_Tp_searchCouple) 177 = .ok (.goto (-158), 3) := by decide +kernel
theorem d_Tp_searchCouple_180 : decode (mB Y_Tp_searchCouple) 180 = .ok (.return_, 1) := by decide +kernel
theorem ro_Tp_searchCouple_Tp_lay : roomy Y_Tp_searchCouple Y_Tp_lay := ⟨Nat.le_of_ble_eq_true rfl, Nat.le_of_ble_eq_true rfl⟩
def r_Tp_searchCouple_L28 (a0_ : Nat) (y1_ : Int32) (y3_ : Int32) : Nat → Int32 → Int32 → Sto → Option (Int32 × Int32 × Sto)
  | 0, _, _, _ => none
  | n + 1, x2_, x4_, S =>
    if 10 ≤ x4_ then
      some (x2_, x4_, S)
    else
      jn (fun ((v1, S2) : Int32 × Sto) =>
        lt (x4_ + 1) (fun v3 =>
        r_Tp_searchCouple_L28 a0_ y1_ y3_ n v1 v3 S2)) (fun j168 =>
      if y3_ = x4_ then
        j168 (x2_, S)
      else
        chk (inr y3_ 10) (
        if (S 17 y3_.toNatClampNeg) = (-1) then
          j168 (x2_, S)
        else
          chk (inr x4_ 10) (
          if (S 17 x4_.toNatClampNeg) = (-1) then
            j168 (x2_, S)
          else
            (r_Tp_lay a0_ y3_ x4_ y1_ S).bind (fun S4 =>
            lt ((S4 a0_ 8) - (S4 a0_ 7)) (fun v5 =>
            jn (fun (S6 : Sto) =>
              jn (fun ((v7, S8) : Int32 × Sto) =>
                if (S8 a0_ 7) = (S8 a0_ 10) then
                  ltS (sw S8 a0_ 11 ((S8 a0_ 11) + 1)) (fun S9 =>
                  j168 (v7, S9))
                else
                  j168 (v7, S8)) (fun j147 =>
              jn (fun (_ : Unit) =>
                ltS (sw S6 a0_ 9 ((10 * y3_) + x4_)) (fun S10 =>
                ltS (sw S10 a0_ 10 (S10 a0_ 7)) (fun S11 =>
                j147 (v5, S11)))) (fun j125 =>
              if (S6 a0_ 10) < (S6 a0_ 7) then
                j125 ()
              else
                if (S6 a0_ 7) = (S6 a0_ 10) then
                  if x2_ ≤ v5 then
                    j147 (x2_, S6)
                  else
                    j125 ()
                else
                  j147 (x2_, S6)))) (fun j97 =>
            if (S4 a0_ 7) ≤ (S4 a0_ 10) then
              j97 (S4)
            else
              ltS (sw S4 a0_ 11 0) (fun S12 =>
              j97 (S12))))))))
def r_Tp_searchCouple_L19 (a0_ : Nat) (y1_ : Int32) : Nat → Int32 → Int32 → Sto → Option (Int32 × Int32 × Sto)
  | 0, _, _, _ => none
  | n + 1, x2_, x3_, S =>
    if 10 ≤ x3_ then
      some (x2_, x3_, S)
    else
      (r_Tp_searchCouple_L28 a0_ y1_ x3_ fu x2_ 0 S).bind (fun (v1, v2, S3) =>
      lt (x3_ + 1) (fun v4 =>
      r_Tp_searchCouple_L19 a0_ y1_ n v1 v4 S3))
set_option maxHeartbeats 4000000 in
set_option maxRecDepth 20000 in
theorem w_Tp_searchCouple_L28 {g : Gm} {G : Gl} {L : Shp} (C : Cx g Y_Tp_searchCouple G) (hL : Ext L) (a0_ : Nat) (y1_ : Int32) (y3_ : Int32) (h0_ : isTape L a0_) :
    ∀ (n : Nat) (x2_ : Int32) (x4_ : Int32) (S : Sto) (K : (Int32 × Int32 × Sto) → Option Sto), (∀ (x2_ : Int32) (x4_ : Int32) (S : Sto), VO g Y_Tp_searchCouple G (fun z => Qm g Y_Tp_searchCouple G (fv L z)) 0 0 174 [(0, rf G a0_), (1, .int y1_), (2, .int x2_), (3, .int y3_)] [] L S (some (x2_, x4_, S)) K) → VO g Y_Tp_searchCouple G (fun z => Qm g Y_Tp_searchCouple G (fv L z)) 0 0 28 [(0, rf G a0_), (1, .int y1_), (2, .int x2_), (3, .int y3_), (4, .int x4_)] [] L S (r_Tp_searchCouple_L28 a0_ y1_ y3_ n x2_ x4_ S) K := by
  intro n
  induction n with
  | zero => intro x2_ x4_ S K; intros; exact v_none
  | succ n ih =>
    intro x2_ x4_ S K hK
    rw [r_Tp_searchCouple_L28]
    refine v_iload (pc := 28) C d_Tp_searchCouple_28 4 rfl ?_
    refine v_bipush (pc := 30) C d_Tp_searchCouple_30 bp_10 ?_
    refine v_icmp_ge (pc := 32) (tgt := 174) C d_Tp_searchCouple_32 rfl (fun _ => ?_) (fun _ => ?_)
    · refine v_sub [0, 1, 2, 3] rfl ?_
      exact hK x2_ x4_ S
    · refine v_iload_n (pc := 35) C d_Tp_searchCouple_35 rfl 3 rfl ?_
      refine v_iload (pc := 36) C d_Tp_searchCouple_36 4 rfl ?_
      refine v_jn (fun j => ∀ (v1 : Int32) (S2 : Sto), VO g Y_Tp_searchCouple G (fun z => Qm g Y_Tp_searchCouple G (fv L z)) 0 0 168 [(0, rf G a0_), (1, .int y1_), (2, .int v1), (3, .int y3_), (4, .int x4_)] [] L S2 (j (v1, S2)) K) (fun v1 S2 => ?_) (fun j168 hj168 => ?_)
      · refine v_iinc (pc := 168) (p := 4) (c := 1) C d_Tp_searchCouple_168 rfl (by decide) (by decide) (fun v3 => [(4, .int v3), (0, rf G a0_), (1, .int y1_), (2, .int v1), (3, .int y3_)]) (fun _ => rfl) (fun v3 => ?_)
        refine v_goto (pc := 171) (tgt := 28) C d_Tp_searchCouple_171 rfl ?_
        refine v_sub [1, 2, 3, 4, 0] rfl ?_
        exact ih v1 v3 S2 K hK
      · refine v_icmp_eq (pc := 38) (tgt := 168) C d_Tp_searchCouple_38 rfl (fun _ => ?_) (fun _ => ?_)
        · exact hj168 x2_ S
        · refine v_aload_n (pc := 41) C d_Tp_searchCouple_41 rfl 0 rfl ?_
          refine v_getR (pc := 42) C fl_Tp_15 h0_.1 rfl d_Tp_searchCouple_42 ?_
          refine v_iload_n (pc := 45) C d_Tp_searchCouple_45 rfl 3 rfl ?_
          refine v_iald (pc := 46) C (sh_17 hL) d_Tp_searchCouple_46 (fun _ => ?_)
          refine v_iconst (pc := 47) C d_Tp_searchCouple_47 ic_m1 ?_
          refine v_icmp_eq (pc := 48) (tgt := 168) C d_Tp_searchCouple_48 rfl (fun _ => ?_) (fun _ => ?_)
          · exact hj168 x2_ S
          · refine v_aload_n (pc := 51) C d_Tp_searchCouple_51 rfl 0 rfl ?_
            refine v_getR (pc := 52) C fl_Tp_15 h0_.1 rfl d_Tp_searchCouple_52 ?_
            refine v_iload (pc := 55) C d_Tp_searchCouple_55 4 rfl ?_
            refine v_iald (pc := 57) C (sh_17 hL) d_Tp_searchCouple_57 (fun _ => ?_)
            refine v_iconst (pc := 58) C d_Tp_searchCouple_58 ic_m1 ?_
            refine v_icmp_eq (pc := 59) (tgt := 168) C d_Tp_searchCouple_59 rfl (fun _ => ?_) (fun _ => ?_)
            · exact hj168 x2_ S
            · refine v_aload_n (pc := 62) C d_Tp_searchCouple_62 rfl 0 rfl ?_
              refine v_iload_n (pc := 63) C d_Tp_searchCouple_63 rfl 3 rfl ?_
              refine v_iload (pc := 64) C d_Tp_searchCouple_64 4 rfl ?_
              refine v_iload_n (pc := 66) C d_Tp_searchCouple_66 rfl 1 rfl ?_
              refine v_cv (pc := 67) (inv_V (As := [.int y3_, .int x4_, .int y1_]) (st := []) C ml_Tp_95 mv_Tp_lay ro_Tp_searchCouple_Tp_lay h0_.1 rfl rfl rfl rfl (Nat.le_of_ble_eq_true rfl) d_Tp_searchCouple_67) (c_Tp_lay hL S a0_ y3_ x4_ y1_ h0_) ⟨rfl, rfl⟩ ⟨Nat.zero_le _, Nat.zero_le _⟩ (fun S4 => ?_)
              refine v_aload_n (pc := 70) C d_Tp_searchCouple_70 rfl 0 rfl ?_
              refine v_getI (pc := 71) C fl_Tp_73 h0_.1 rfl d_Tp_searchCouple_71 ?_
              refine v_aload_n (pc := 74) C d_Tp_searchCouple_74 rfl 0 rfl ?_
              refine v_getI (pc := 75) C fl_Tp_67 h0_.1 rfl d_Tp_searchCouple_75 ?_
              refine v_isub (pc := 78) C d_Tp_searchCouple_78 ?_
              refine v_lt (fun v5 => ?_)
              refine v_istore (pc := 79) (lv' := [(5, .int v5), (0, rf G a0_), (1, .int y1_), (2, .int x2_), (3, .int y3_), (4, .int x4_)]) C d_Tp_searchCouple_79 (by decide) rfl ?_
              refine v_aload_n (pc := 81) C d_Tp_searchCouple_81 rfl 1 rfl ?_
              refine v_getI (pc := 82) C fl_Tp_67 h0_.1 rfl d_Tp_searchCouple_82 ?_
              refine v_aload_n (pc := 85) C d_Tp_searchCouple_85 rfl 1 rfl ?_
              refine v_getI (pc := 86) C fl_Tp_89 h0_.1 rfl d_Tp_searchCouple_86 ?_
              refine v_jn (fun j => ∀ (S6 : Sto), VO g Y_Tp_searchCouple G (fun z => Qm g Y_Tp_searchCouple G (fv L z)) 0 0 97 [(0, rf G a0_), (1, .int y1_), (2, .int x2_), (3, .int y3_), (4, .int x4_), (5, .int v5)] [] L S6 (j (S6)) K) (fun S6 => ?_) (fun j97 hj97 => ?_)
              · refine v_aload_n (pc := 97) C d_Tp_searchCouple_97 rfl 0 rfl ?_
                refine v_getI (pc := 98) C fl_Tp_67 h0_.1 rfl d_Tp_searchCouple_98 ?_
                refine v_aload_n (pc := 101) C d_Tp_searchCouple_101 rfl 0 rfl ?_
                refine v_getI (pc := 102) C fl_Tp_89 h0_.1 rfl d_Tp_searchCouple_102 ?_
                refine v_jn (fun j => ∀ (v7 : Int32) (S8 : Sto), VO g Y_Tp_searchCouple G (fun z => Qm g Y_Tp_searchCouple G (fv L z)) 0 0 147 [(0, rf G a0_), (1, .int y1_), (2, .int v7), (3, .int y3_), (4, .int x4_)] [] L S8 (j (v7, S8)) K) (fun v7 S8 => ?_) (fun j147 hj147 => ?_)
                · refine v_aload_n (pc := 147) C d_Tp_searchCouple_147 rfl 0 rfl ?_
                  refine v_getI (pc := 148) C fl_Tp_67 h0_.1 rfl d_Tp_searchCouple_148 ?_
                  refine v_aload_n (pc := 151) C d_Tp_searchCouple_151 rfl 0 rfl ?_
                  refine v_getI (pc := 152) C fl_Tp_89 h0_.1 rfl d_Tp_searchCouple_152 ?_
                  refine v_icmp_ne (pc := 155) (tgt := 168) C d_Tp_searchCouple_155 rfl (fun _ => ?_) (fun _ => ?_)
                  · exact hj168 v7 S8
                  · refine v_aload_n (pc := 158) C d_Tp_searchCouple_158 rfl 0 rfl ?_
                    refine v_dup (pc := 159) C d_Tp_searchCouple_159 rfl ?_
                    refine v_getI (pc := 160) C fl_Tp_92 h0_.1 rfl d_Tp_searchCouple_160 ?_
                    refine v_iconst (pc := 163) C d_Tp_searchCouple_163 ic_1 ?_
                    refine v_iadd (pc := 164) C d_Tp_searchCouple_164 ?_
                    refine v_putI (pc := 165) C fp_Tp_92 h0_.1 rfl d_Tp_searchCouple_165 (fun S9 => ?_)
                    exact hj168 v7 S9
                · refine v_jn (fun j => VO g Y_Tp_searchCouple G (fun z => Qm g Y_Tp_searchCouple G (fv L z)) 0 0 125 [(0, rf G a0_), (1, .int y1_), (3, .int y3_), (4, .int x4_), (5, .int v5)] [] L S6 (j ()) K) (?_) (fun j125 hj125 => ?_)
                  · refine v_aload_n (pc := 125) C d_Tp_searchCouple_125 rfl 0 rfl ?_
                    refine v_bipush (pc := 126) C d_Tp_searchCouple_126 bp_10 ?_
                    refine v_iload_n (pc := 128) C d_Tp_searchCouple_128 rfl 2 rfl ?_
                    refine v_imul (pc := 129) C d_Tp_searchCouple_129 ?_
                    refine v_iload (pc := 130) C d_Tp_searchCouple_130 3 rfl ?_
                    refine v_iadd (pc := 132) C d_Tp_searchCouple_132 ?_
                    refine v_putI (pc := 133) C fp_Tp_86 h0_.1 rfl d_Tp_searchCouple_133 (fun S10 => ?_)
                    refine v_aload_n (pc := 136) C d_Tp_searchCouple_136 rfl 0 rfl ?_
                    refine v_aload_n (pc := 137) C d_Tp_searchCouple_137 rfl 0 rfl ?_
                    refine v_getI (pc := 138) C fl_Tp_67 h0_.1 rfl d_Tp_searchCouple_138 ?_
                    refine v_putI (pc := 141) C fp_Tp_89 h0_.1 rfl d_Tp_searchCouple_141 (fun S11 => ?_)
                    refine v_iload (pc := 144) C d_Tp_searchCouple_144 4 rfl ?_
                    refine v_istore_n (pc := 146) (lv' := [(2, .int v5), (0, rf G a0_), (1, .int y1_), (3, .int y3_), (4, .int x4_), (5, .int v5)]) C d_Tp_searchCouple_146 rfl (by decide) rfl ?_
                    refine v_sub [1, 2, 0, 3, 4] rfl ?_
                    exact hj147 v5 S11
                  · refine v_icmp_gt (pc := 105) (tgt := 125) C d_Tp_searchCouple_105 rfl (fun _ => ?_) (fun _ => ?_)
                    · refine v_sub [0, 1, 3, 4, 5] rfl ?_
                      exact hj125
                    · refine v_aload_n (pc := 108) C d_Tp_searchCouple_108 rfl 0 rfl ?_
                      refine v_getI (pc := 109) C fl_Tp_67 h0_.1 rfl d_Tp_searchCouple_109 ?_
                      refine v_aload_n (pc := 112) C d_Tp_searchCouple_112 rfl 0 rfl ?_
                      refine v_getI (pc := 113) C fl_Tp_89 h0_.1 rfl d_Tp_searchCouple_113 ?_
                      refine v_icmp_ne (pc := 116) (tgt := 147) C d_Tp_searchCouple_116 rfl (fun _ => ?_) (fun _ => ?_)
                      · refine v_sub [0, 1, 2, 3, 4] rfl ?_
                        exact hj147 x2_ S6
                      · refine v_iload (pc := 119) C d_Tp_searchCouple_119 5 rfl ?_
                        refine v_iload_n (pc := 121) C d_Tp_searchCouple_121 rfl 2 rfl ?_
                        refine v_icmp_ge (pc := 122) (tgt := 147) C d_Tp_searchCouple_122 rfl (fun _ => ?_) (fun _ => ?_)
                        · refine v_sub [0, 1, 2, 3, 4] rfl ?_
                          exact hj147 x2_ S6
                        · refine v_sub [0, 1, 3, 4, 5] rfl ?_
                          exact hj125
              · refine v_icmp_le (pc := 89) (tgt := 97) C d_Tp_searchCouple_89 rfl (fun _ => ?_) (fun _ => ?_)
                · refine v_sub [1, 2, 3, 4, 5, 0] rfl ?_
                  exact hj97 S4
                · refine v_aload_n (pc := 92) C d_Tp_searchCouple_92 rfl 1 rfl ?_
                  refine v_iconst (pc := 93) C d_Tp_searchCouple_93 ic_0 ?_
                  refine v_putI (pc := 94) C fp_Tp_92 h0_.1 rfl d_Tp_searchCouple_94 (fun S12 => ?_)
                  refine v_sub [1, 2, 3, 4, 5, 0] rfl ?_
                  exact hj97 S12
set_option maxHeartbeats 4000000 in
set_option maxRecDepth 20000 in
theorem w_Tp_searchCouple_L19 {g : Gm} {G : Gl} {L : Shp} (C : Cx g Y_Tp_searchCouple G) (hL : Ext L) (a0_ : Nat) (y1_ : Int32) (h0_ : isTape L a0_) :
    ∀ (n : Nat) (x2_ : Int32) (x3_ : Int32) (S : Sto) (K : (Int32 × Int32 × Sto) → Option Sto), (∀ (x2_ : Int32) (x3_ : Int32) (S : Sto), VO g Y_Tp_searchCouple G (fun z => Qm g Y_Tp_searchCouple G (fv L z)) 0 0 180 [] [] L S (some (x2_, x3_, S)) K) → VO g Y_Tp_searchCouple G (fun z => Qm g Y_Tp_searchCouple G (fv L z)) 0 0 19 [(0, rf G a0_), (1, .int y1_), (2, .int x2_), (3, .int x3_)] [] L S (r_Tp_searchCouple_L19 a0_ y1_ n x2_ x3_ S) K := by
  intro n
  induction n with
  | zero => intro x2_ x3_ S K; intros; exact v_none
  | succ n ih =>
    intro x2_ x3_ S K hK
    rw [r_Tp_searchCouple_L19]
    refine v_iload_n (pc := 19) C d_Tp_searchCouple_19 rfl 3 rfl ?_
    refine v_bipush (pc := 20) C d_Tp_searchCouple_20 bp_10 ?_
    refine v_icmp_ge (pc := 22) (tgt := 180) C d_Tp_searchCouple_22 rfl (fun _ => ?_) (fun _ => ?_)
    · refine v_sub [] rfl ?_
      exact hK x2_ x3_ S
    · refine v_iconst (pc := 25) C d_Tp_searchCouple_25 ic_0 ?_
      refine v_istore (pc := 26) (lv' := [(4, .int 0), (0, rf G a0_), (1, .int y1_), (2, .int x2_), (3, .int x3_)]) C d_Tp_searchCouple_26 (by decide) rfl ?_
      refine v_sub [1, 2, 3, 4, 0] rfl ?_
      refine v_bind ?_
      refine w_Tp_searchCouple_L28 C hL a0_ y1_ x3_ h0_ fu x2_ 0 S _ (fun v1 v2 S3 => ?_) 
      refine v_some ?_
      refine v_iinc (pc := 174) (p := 3) (c := 1) C d_Tp_searchCouple_174 rfl (by decide) (by decide) (fun v4 => [(3, .int v4), (0, rf G a0_), (1, .int y1_), (2, .int v1)]) (fun _ => rfl) (fun v4 => ?_)
      refine v_goto (pc := 177) (tgt := 19) C d_Tp_searchCouple_177 rfl ?_
      refine v_sub [1, 2, 3, 0] rfl ?_
      exact ih v1 v4 S3 K hK
def r_Tp_searchCouple (a0 : Nat) (x1 : Int32) (S : Sto) : Option Sto :=
  ltS (sw S a0 9 (-1)) (fun S1 =>
  ltS (sw S1 a0 10 0) (fun S2 =>
  ltS (sw S2 a0 11 0) (fun S3 =>
  (r_Tp_searchCouple_L19 a0 x1 fu 0 0 S3).bind (fun (v4, v5, S6) =>
  some S6))))
set_option maxHeartbeats 4000000 in
set_option maxRecDepth 20000 in
theorem c_Tp_searchCouple {G : Gl} {L : Shp} (hL : Ext L) (S : Sto) (a0 : Nat) (x1 : Int32) (h0 : isTape L a0) : Ct Y_Tp_searchCouple G [rf G a0, .int x1] L S (fv L) (r_Tp_searchCouple a0 x1 S) := by
  refine ct_of (by decide +kernel) (Nat.le_of_ble_eq_true rfl) (fun g C => ?_)
  show VO g Y_Tp_searchCouple G (fun z => Qm g Y_Tp_searchCouple G (fv L z)) 0 0 0 [(0, rf G a0), (1, .int x1)] [] L S (r_Tp_searchCouple a0 x1 S) some
  unfold r_Tp_searchCouple
  refine v_aload_n (pc := 0) C d_Tp_searchCouple_0 rfl 0 rfl ?_
  refine v_iconst (pc := 1) C d_Tp_searchCouple_1 ic_m1 ?_
  refine v_putI (pc := 2) C fp_Tp_86 h0.1 rfl d_Tp_searchCouple_2 (fun S1 => ?_)
  refine v_aload_n (pc := 5) C d_Tp_searchCouple_5 rfl 0 rfl ?_
  refine v_iconst (pc := 6) C d_Tp_searchCouple_6 ic_0 ?_
  refine v_putI (pc := 7) C fp_Tp_89 h0.1 rfl d_Tp_searchCouple_7 (fun S2 => ?_)
  refine v_aload_n (pc := 10) C d_Tp_searchCouple_10 rfl 0 rfl ?_
  refine v_iconst (pc := 11) C d_Tp_searchCouple_11 ic_0 ?_
  refine v_putI (pc := 12) C fp_Tp_92 h0.1 rfl d_Tp_searchCouple_12 (fun S3 => ?_)
  refine v_iconst (pc := 15) C d_Tp_searchCouple_15 ic_0 ?_
  refine v_istore_n (pc := 16) (lv' := [(2, .int 0), (0, rf G a0), (1, .int x1)]) C d_Tp_searchCouple_16 rfl (by decide) rfl ?_
  refine v_iconst (pc := 17) C d_Tp_searchCouple_17 ic_0 ?_
  refine v_istore_n (pc := 18) (lv' := [(3, .int 0), (2, .int 0), (0, rf G a0), (1, .int x1)]) C d_Tp_searchCouple_18 rfl (by decide) rfl ?_
  refine v_sub [2, 3, 1, 0] rfl ?_
  refine v_bind ?_
  refine w_Tp_searchCouple_L19 C hL a0 x1 h0 fu 0 0 S3 _ (fun v4 v5 S6 => ?_) 
  refine v_some ?_
  exact v_vret C d_Tp_searchCouple_180 rfl ⟨Nat.zero_le _, Nat.zero_le _⟩ rfl rfl
-- B_unionOf
theorem d_B_unionOf_0 : decode (mB Y_B_unionOf) 0 = .ok (.iconst 0, 1) := by decide +kernel
theorem d_B_unionOf_1 : decode (mB Y_B_unionOf) 1 = .ok (.istore_n 2, 1) := by decide +kernel
theorem d_B_unionOf_2 : decode (mB Y_B_unionOf) 2 = .ok (.iconst 0, 1) := by decide +kernel
theorem d_B_unionOf_3 : decode (mB Y_B_unionOf) 3 = .ok (.istore_n 3, 1) := by decide +kernel
theorem d_B_unionOf_4 : decode (mB Y_B_unionOf) 4 = .ok (.iload_n 3, 1) := by decide +kernel
theorem d_B_unionOf_5 : decode (mB Y_B_unionOf) 5 = .ok (.aload_n 0, 1) := by decide +kernel
theorem d_B_unionOf_6 : decode (mB Y_B_unionOf) 6 = .ok (.arraylength, 1) := by decide +kernel
theorem d_B_unionOf_7 : decode (mB Y_B_unionOf) 7 = .ok (.if_icmp .ge 23, 3) := by decide +kernel
theorem d_B_unionOf_10 : decode (mB Y_B_unionOf) 10 = .ok (.iload_n 1, 1) := by decide +kernel
theorem d_B_unionOf_11 : decode (mB Y_B_unionOf) 11 = .ok (.iload_n 3, 1) := by decide +kernel
theorem d_B_unionOf_12 : decode (mB Y_B_unionOf) 12 = .ok (.ishr, 1) := by decide +kernel
theorem d_B_unionOf_13 : decode (mB Y_B_unionOf) 13 = .ok (.iconst 1, 1) := by decide +kernel
theorem d_B_unionOf_14 : decode (mB Y_B_unionOf) 14 = .ok (.iand, 1) := by decide +kernel
theorem d_B_unionOf_15 : decode (mB Y_B_unionOf) 15 = .ok (.ifCond .eq 9, 3) := by decide +kernel
theorem d_B_unionOf_18 : decode (mB Y_B_unionOf) 18 = .ok (.iload_n 2, 1) := by decide +kernel
theorem d_B_unionOf_19 : decode (mB Y_B_unionOf) 19 = .ok (.aload_n 0, 1) := by decide +kernel
theorem d_B_unionOf_20 : decode (mB Y_B_unionOf) 20 = .ok (.iload_n 3, 1) := by decide +kernel
theorem d_B_unionOf_21 : decode (mB Y_B_unionOf) 21 = .ok (.iaload, 1) := by decide +kernel
theorem d_B_unionOf_22 : decode (mB Y_B_unionOf) 22 = .ok (.ior, 1) := by decide +kernel
theorem d_B_unionOf_23 : decode (mB Y_B_unionOf) 23 = .ok (.istore_n 2, 1) := by decide +kernel
theorem d_B_unionOf_24 : decode (mB Y_B_unionOf) 24 = .ok (.iinc 3 1, 3) := by decide +kernel
theorem d_B_unionOf_27 : decode (mB Y_B_unionOf) 27 = .ok (.goto (-23), 3) := by decide +kernel
theorem d_B_unionOf_30 : decode (mB Y_B_unionOf) 30 = .ok (.iload_n 2, 1) := by decide +kernel
theorem d_B_unionOf_31 : decode (mB Y_B_unionOf) 31 = .ok (.ireturn, 1) := by decide +kernel
def r_B_unionOf_L4 (a0_ : Nat) (m0_ : Nat) (y1_ : Int32) : Nat → Int32 → Int32 → Sto → Option (Int32 × Int32)
  | 0, _, _, _ => none
  | n + 1, x2_, x3_, S =>
    if (nI m0_) ≤ x3_ then
      some (x2_, x3_)
    else
      jn (fun (v1 : Int32) =>
        lt (x3_ + 1) (fun v2 =>
        r_B_unionOf_L4 a0_ m0_ y1_ n v1 v2 S)) (fun j24 =>
      if ((y1_ >>> (x3_ &&& 31)) &&& 1) = 0 then
        j24 (x2_)
      else
        chk (inr x3_ m0_) (
        lt (x2_ ||| (S a0_ x3_.toNatClampNeg)) (fun v3 =>
        j24 (v3))))
set_option maxHeartbeats 4000000 in
set_option maxRecDepth 20000 in
theorem w_B_unionOf_L4 {g : Gm} {G : Gl} {L : Shp} (C : Cx g Y_B_unionOf G) (hL : Ext L) (S : Sto) (a0_ : Nat) (m0_ : Nat) (y1_ : Int32) (h0_ : isInts L a0_ m0_) :
    ∀ (n : Nat) (x2_ : Int32) (x3_ : Int32) (K : (Int32 × Int32) → Option Int32), (∀ (x2_ : Int32) (x3_ : Int32), VO g Y_B_unionOf G (fun z => Qm g Y_B_unionOf G (fp L S z)) 0 0 30 [(2, .int x2_)] [] L S (some (x2_, x3_)) K) → VO g Y_B_unionOf G (fun z => Qm g Y_B_unionOf G (fp L S z)) 0 0 4 [(0, rf G a0_), (1, .int y1_), (2, .int x2_), (3, .int x3_)] [] L S (r_B_unionOf_L4 a0_ m0_ y1_ n x2_ x3_ S) K := by
  intro n
  induction n with
  | zero => intro x2_ x3_ K; intros; exact v_none
  | succ n ih =>
    intro x2_ x3_ K hK
    rw [r_B_unionOf_L4]
    refine v_iload_n (pc := 4) C d_B_unionOf_4 rfl 3 rfl ?_
    refine v_aload_n (pc := 5) C d_B_unionOf_5 rfl 0 rfl ?_
    refine v_alen (pc := 6) (v := nI m0_) (t := 0) C h0_ rfl rfl rfl d_B_unionOf_6 ?_
    refine v_icmp_ge (pc := 7) (tgt := 30) C d_B_unionOf_7 rfl (fun _ => ?_) (fun _ => ?_)
    · refine v_sub [2] rfl ?_
      exact hK x2_ x3_
    · refine v_iload_n (pc := 10) C d_B_unionOf_10 rfl 1 rfl ?_
      refine v_iload_n (pc := 11) C d_B_unionOf_11 rfl 3 rfl ?_
      refine v_ishr (pc := 12) C d_B_unionOf_12 ?_
      refine v_iconst (pc := 13) C d_B_unionOf_13 ic_1 ?_
      refine v_iand (pc := 14) C d_B_unionOf_14 ?_
      refine v_jn (fun j => ∀ (v1 : Int32), VO g Y_B_unionOf G (fun z => Qm g Y_B_unionOf G (fp L S z)) 0 0 24 [(0, rf G a0_), (1, .int y1_), (2, .int v1), (3, .int x3_)] [] L S (j (v1)) K) (fun v1 => ?_) (fun j24 hj24 => ?_)
      · refine v_iinc (pc := 24) (p := 3) (c := 1) C d_B_unionOf_24 rfl (by decide) (by decide) (fun v2 => [(3, .int v2), (0, rf G a0_), (1, .int y1_), (2, .int v1)]) (fun _ => rfl) (fun v2 => ?_)
        refine v_goto (pc := 27) (tgt := 4) C d_B_unionOf_27 rfl ?_
        refine v_sub [1, 2, 3, 0] rfl ?_
        exact ih v1 v2 K hK
      · refine v_if_eq (pc := 15) (tgt := 24) C d_B_unionOf_15 rfl (fun _ => ?_) (fun _ => ?_)
        · exact hj24 x2_
        · refine v_iload_n (pc := 18) C d_B_unionOf_18 rfl 2 rfl ?_
          refine v_aload_n (pc := 19) C d_B_unionOf_19 rfl 0 rfl ?_
          refine v_iload_n (pc := 20) C d_B_unionOf_20 rfl 3 rfl ?_
          refine v_iald (pc := 21) C h0_ d_B_unionOf_21 (fun _ => ?_)
          refine v_ior (pc := 22) C d_B_unionOf_22 ?_
          refine v_lt (fun v3 => ?_)
          refine v_istore_n (pc := 23) (lv' := [(2, .int v3), (0, rf G a0_), (1, .int y1_), (3, .int x3_)]) C d_B_unionOf_23 rfl (by decide) rfl ?_
          refine v_sub [1, 2, 0, 3] rfl ?_
          exact hj24 v3
def r_B_unionOf (a0 : Nat) (m0 : Nat) (x1 : Int32) (S : Sto) : Option Int32 :=
  (r_B_unionOf_L4 a0 m0 x1 fu 0 0 S).bind (fun (v1, v2) =>
  some v1)
set_option maxHeartbeats 4000000 in
set_option maxRecDepth 20000 in
theorem c_B_unionOf {G : Gl} {L : Shp} (hL : Ext L) (S : Sto) (a0 : Nat) (m0 : Nat) (x1 : Int32) (h0 : isInts L a0 m0) : Ct Y_B_unionOf G [rf G a0, .int x1] L S (fp L S) (r_B_unionOf a0 m0 x1 S) := by
  refine ct_of (by decide +kernel) (Nat.le_of_ble_eq_true rfl) (fun g C => ?_)
  show VO g Y_B_unionOf G (fun z => Qm g Y_B_unionOf G (fp L S z)) 0 0 0 [(0, rf G a0), (1, .int x1)] [] L S (r_B_unionOf a0 m0 x1 S) some
  unfold r_B_unionOf
  refine v_iconst (pc := 0) C d_B_unionOf_0 ic_0 ?_
  refine v_istore_n (pc := 1) (lv' := [(2, .int 0), (0, rf G a0), (1, .int x1)]) C d_B_unionOf_1 rfl (by decide) rfl ?_
  refine v_iconst (pc := 2) C d_B_unionOf_2 ic_0 ?_
  refine v_istore_n (pc := 3) (lv' := [(3, .int 0), (2, .int 0), (0, rf G a0), (1, .int x1)]) C d_B_unionOf_3 rfl (by decide) rfl ?_
  refine v_sub [2, 3, 1, 0] rfl ?_
  refine v_bind ?_
  refine w_B_unionOf_L4 C hL S a0 m0 x1 h0 fu 0 0 _ (fun v1 v2 => ?_) 
  refine v_some ?_
  refine v_iload_n (pc := 30) C d_B_unionOf_30 rfl 0 rfl ?_
  exact v_iret (z := v1) C d_B_unionOf_31 rfl ⟨Nat.zero_le _, Nat.zero_le _⟩ (rfl) rfl
-- B_isFewer
theorem d_B_isFewer_0 : decode (mB Y_B_isFewer) 0 = .ok (.iload_n 1, 1) := by decide +kernel
theorem d_B_isFewer_1 : decode (mB Y_B_isFewer) 1 = .ok (.iconst (-1), 1) := by decide +kernel
theorem d_B_isFewer_2 : decode (mB Y_B_isFewer) 2 = .ok (.if_icmp .eq 14, 3) := by decide +kernel
theorem d_B_isFewer_5 : decode (mB Y_B_isFewer) 5 = .ok (.iload_n 0, 1) := by decide +kernel
theorem d_B_isFewer_6 : decode (mB Y_B_isFewer) 6 = .ok (.invokestatic 351, 3) := by decide +kernel
theorem d_B_isFewer_9 : decode (mB Y_B_isFewer) 9 = .ok (.iload_n 1, 1) := by decide +kernel
theorem d_B_isFewer_10 : decode (mB Y_B_isFewer) 10 = .ok (.invokestatic 351, 3) := by decide +kernel
theorem d_B_isFewer_13 : decode (mB Y_B_isFewer) 13 = .ok (.if_icmp .ge 7, 3) := by decide +kernel
theorem d_B_isFewer_16 : decode (mB Y_B_isFewer) 16 = .ok (.iconst 1, 1) := by decide +kernel
theorem d_B_isFewer_17 : decode (mB Y_B_isFewer) 17 = .ok (.goto 4, 3) := by decide +kernel
theorem d_B_isFewer_20 : decode (mB Y_B_isFewer) 20 = .ok (.iconst 0, 1) := by decide +kernel
theorem d_B_isFewer_21 : decode (mB Y_B_isFewer) 21 = .ok (.ireturn, 1) := by decide +kernel
theorem ro_B_isFewer_Ig_bitCount : roomy Y_B_isFewer Y_Ig_bitCount := ⟨Nat.le_of_ble_eq_true rfl, Nat.le_of_ble_eq_true rfl⟩
def r_B_isFewer (x0 : Int32) (x1 : Int32) : Int32 := (if x1 = (-1) then 1 else (if (r_Ig_bitCount x1) ≤ (r_Ig_bitCount x0) then 0 else 1))
theorem z_B_isFewer (x0 : Int32) (x1 : Int32) : b01 (r_B_isFewer x0 x1) = true := by
  unfold r_B_isFewer
  (repeat' split) <;> first | rfl | decide | rfl
set_option maxHeartbeats 4000000 in
set_option maxRecDepth 20000 in
theorem c_B_isFewer {G : Gl} {L : Shp} (hL : Ext L) (S : Sto) (x0 : Int32) (x1 : Int32)  : Ct Y_B_isFewer G [.int x0, .int x1] L S (fp L S) (some (r_B_isFewer x0 x1)) := by
  refine ct_of (by decide +kernel) (Nat.le_of_ble_eq_true rfl) (fun g C => ?_)
  have e : (some (r_B_isFewer x0 x1) : Option Int32) =
      if x1 = (-1) then
        some 1
      else
        if (r_Ig_bitCount x1) ≤ (r_Ig_bitCount x0) then
          some 0
        else
          some 1 := by
    unfold r_B_isFewer
    simp only [some_ite, lt, ltJ]
  rw [e]
  show VO g Y_B_isFewer G (fun z => Qm g Y_B_isFewer G (fp L S z)) 0 0 0 [(0, .int x0), (1, .int x1)] [] L S _ some
  refine v_iload_n (pc := 0) C d_B_isFewer_0 rfl 1 rfl ?_
  refine v_iconst (pc := 1) C d_B_isFewer_1 ic_m1 ?_
  refine v_icmp_eq (pc := 2) (tgt := 16) C d_B_isFewer_2 rfl (fun _ => ?_) (fun _ => ?_)
  · refine v_iconst (pc := 16) C d_B_isFewer_16 ic_1 ?_
    refine v_goto (pc := 17) (tgt := 21) C d_B_isFewer_17 rfl ?_
    exact v_zret (z := 1) C d_B_isFewer_21 rfl (b01_n (by decide)) ⟨Nat.zero_le _, Nat.zero_le _⟩ (rfl) rfl
  · refine v_iload_n (pc := 5) C d_B_isFewer_5 rfl 0 rfl ?_
    refine v_ct (pc := 6) (inv_S (As := [.int x0]) (st := []) C ml_B_351 ms_Ig_bitCount ro_B_isFewer_Ig_bitCount rfl rfl (Nat.le_of_ble_eq_true rfl) d_B_isFewer_6) (c_Ig_bitCount hL S x0) ⟨rfl, rfl⟩ ⟨Nat.zero_le _, Nat.zero_le _⟩ ?_
    refine v_iload_n (pc := 9) C d_B_isFewer_9 rfl 1 rfl ?_
    refine v_ct (pc := 10) (inv_S (As := [.int x1]) (st := [.int (r_Ig_bitCount x0)]) C ml_B_351 ms_Ig_bitCount ro_B_isFewer_Ig_bitCount rfl rfl (Nat.le_of_ble_eq_true rfl) d_B_isFewer_10) (c_Ig_bitCount hL S x1) ⟨rfl, rfl⟩ ⟨Nat.zero_le _, Nat.zero_le _⟩ ?_
    refine v_icmp_ge (pc := 13) (tgt := 20) C d_B_isFewer_13 rfl (fun _ => ?_) (fun _ => ?_)
    · refine v_iconst (pc := 20) C d_B_isFewer_20 ic_0 ?_
      exact v_zret (z := 0) C d_B_isFewer_21 rfl (b01_n (by decide)) ⟨Nat.zero_le _, Nat.zero_le _⟩ (rfl) rfl
    · refine v_iconst (pc := 16) C d_B_isFewer_16 ic_1 ?_
      refine v_goto (pc := 17) (tgt := 21) C d_B_isFewer_17 rfl ?_
      exact v_zret (z := 1) C d_B_isFewer_21 rfl (b01_n (by decide)) ⟨Nat.zero_le _, Nat.zero_le _⟩ (rfl) rfl
-- Tp_fewestWalls
theorem d_Tp_fewestWalls_0 : decode (mB Y_Tp_fewestWalls) 0 = .ok (.aload_n 0, 1) := by decide +kernel
theorem d_Tp_fewestWalls_1 : decode (mB Y_Tp_fewestWalls) 1 = .ok (.iload_n 1, 1) := by decide +kernel
theorem d_Tp_fewestWalls_2 : decode (mB Y_Tp_fewestWalls) 2 = .ok (.iload_n 2, 1) := by decide +kernel
theorem d_Tp_fewestWalls_3 : decode (mB Y_Tp_fewestWalls) 3 = .ok (.iload_n 3, 1) := by decide +kernel
theorem d_Tp_fewestWalls_4 : decode (mB Y_Tp_fewestWalls) 4 = .ok (.invokevirtual 95, 3) := by decide +kernel
theorem d_Tp_fewestWalls_7 : decode (mB Y_Tp_fewestWalls) 7 = .ok (.aload_n 0, 1) := by decide +kernel
theorem d_Tp_fewestWalls_8 : decode (mB Y_Tp_fewestWalls) 8 = .ok (.aload_n 0, 1) := by decide +kernel
theorem d_Tp_fewestWalls_9 : decode (mB Y_Tp_fewestWalls) 9 = .ok (.getfield 19, 3) := by decide +kernel
theorem d_Tp_fewestWalls_12 : decode (mB Y_Tp_fewestWalls) 12 = .ok (.iconst 0, 1) := by decide +kernel
theorem d_Tp_fewestWalls_13 : decode (mB Y_Tp_fewestWalls) 13 = .ok (.iaload, 1) := by decide +kernel
theorem d_Tp_fewestWalls_14 : decode (mB Y_Tp_fewestWalls) 14 = .ok (.iload_n 3, 1) := by decide +kernel
theorem d_Tp_fewestWalls_15 : decode (mB Y_Tp_fewestWalls) 15 = .ok (.invokevirtual 82, 3) := by decide +kernel
theorem d_Tp_fewestWalls_18 : decode (mB Y_Tp_fewestWalls) 18 = .ok (.istore 5, 2) := by decide +kernel
theorem d_Tp_fewestWalls_20 : decode (mB Y_Tp_fewestWalls) 20 = .ok (.iload 5, 2) := by decide +kernel
theorem d_Tp_fewestWalls_22 : decode (mB Y_Tp_fewestWalls) 22 = .ok (.aload_n 0, 1) := by decide +kernel
theorem d_Tp_fewestWalls_23 : decode (mB Y_Tp_fewestWalls) 23 = .ok (.getfield 38, 3) := by decide +kernel
theorem d_Tp_fewestWalls_26 : decode (mB Y_Tp_fewestWalls) 26 = .ok (.sipush 1023, 3) := by decide +kernel
theorem d_Tp_fewestWalls_29 : decode (mB Y_Tp_fewestWalls) 29 = .ok (.invokestatic 99, 3) := by decide +kernel
theorem d_Tp_fewestWalls_32 : decode (mB Y_Tp_fewestWalls) 32 = .ok (.ior, 1) := by decide +kernel
theorem d_Tp_fewestWalls_33 : decode (mB Y_Tp_fewestWalls) 33 = .ok (.istore 6, 2) := by decide +kernel
theorem d_Tp_fewestWalls_35 : decode (mB Y_Tp_fewestWalls) 35 = .ok (.iconst (-1), 1) := by decide +kernel
theorem d_Tp_fewestWalls_36 : decode (mB Y_Tp_fewestWalls) 36 = .ok (.istore 7, 2) := by decide +kernel
theorem d_Tp_fewestWalls_38 : decode (mB Y_Tp_fewestWalls) 38 = .ok (.iconst 0, 1) := by decide +kernel
theorem d_Tp_fewestWalls_39 : decode (mB Y_Tp_fewestWalls) 39 = .ok (.istore 8, 2) := by decide +kernel
theorem d_Tp_fewestWalls_41 : decode (mB Y_Tp_fewestWalls) 41 = .ok (.iload 8, 2) := by decide +kernel
theorem d_Tp_fewestWalls_43 : decode (mB Y_Tp_fewestWalls) 43 = .ok (.iconst 1, 1) := by decide +kernel
theorem d_Tp_fewestWalls_44 : decode (mB Y_Tp_fewestWalls) 44 = .ok (.iload 4, 2) := by decide +kernel
theorem d_Tp_fewestWalls_46 : decode (mB Y_Tp_fewestWalls) 46 = .ok (.ishl, 1) := by decide +kernel
theorem d_Tp_fewestWalls_47 : decode (mB Y_Tp_fewestWalls) 47 = .ok (.if_icmp .ge 40, 3) := by decide +kernel
theorem d_Tp_fewestWalls_50 : decode (mB Y_Tp_fewestWalls) 50 = .ok (.iload 5, 2) := by decide +kernel
theorem d_Tp_fewestWalls_52 : decode (mB Y_Tp_fewestWalls) 52 = .ok (.aload_n 0, 1) := by decide +kernel
theorem d_Tp_fewestWalls_53 : decode (mB Y_Tp_fewestWalls) 53 = .ok (.getfield 38, 3) := by decide +kernel
theorem d_Tp_fewestWalls_56 : decode (mB Y_Tp_fewestWalls) 56 = .ok (.iload 8, 2) := by decide +kernel
theorem d_Tp_fewestWalls_58 : decode (mB Y_Tp_fewestWalls) 58 = .ok (.invokestatic 99, 3) := by decide +kernel
theorem d_Tp_fewestWalls_61 : decode (mB Y_Tp_fewestWalls) 61 = .ok (.ior, 1) := by decide +kernel
theorem d_Tp_fewestWalls_62 : decode (mB Y_Tp_fewestWalls) 62 = .ok (.iload 6, 2) := by decide +kernel
theorem d_Tp_fewestWalls_64 : decode (mB Y_Tp_fewestWalls) 64 = .ok (.if_icmp .ne 17, 3) := by decide +kernel
theorem d_Tp_fewestWalls_67 : decode (mB Y_Tp_fewestWalls) 67 = .ok (.iload 8, 2) := by decide +kernel
theorem d_Tp_fewestWalls_69 : decode (mB Y_Tp_fewestWalls) 69 = .ok (.iload 7, 2) := by decide +kernel
theorem d_Tp_fewestWalls_71 : decode (mB Y_Tp_fewestWalls) 71 = .ok (.invokestatic 103, 3) := by decide +kernel
theorem d_Tp_fewestWalls_74 : decode (mB Y_Tp_fewestWalls) 74 = .ok (.ifCond .eq 7, 3) := by decide +kernel
theorem d_Tp_fewestWalls_77 : decode (mB Y_Tp_fewestWalls) 77 = .ok (.iload 8, 2) := by decide +kernel
theorem d_Tp_fewestWalls_79 : decode (mB Y_Tp_fewestWalls) 79 = .ok (.istore 7, 2) := by decide +kernel
theorem d_Tp_fewestWalls_81 : decode (mB Y_Tp_fewestWalls) 81 = .ok (.iinc 8 1, 3) := by decide +kernel
theorem d_Tp_fewestWalls_84 : decode (mB Y_Tp_fewestWalls) 84 = .ok (.goto (-43), 3) := by decide +kernel
theorem d_Tp_fewestWalls_87 : decode (mB Y_Tp_fewestWalls) 87 = .ok (.iload 7, 2) := by decide +kernel
theorem d_Tp_fewestWalls_89 : decode (mB Y_Tp_fewestWalls) 89 = .ok (.ireturn, 1) := by decide +kernel
theorem ro_Tp_fewestWalls_B_isFewer : roomy Y_Tp_fewestWalls Y_B_isFewer := ⟨Nat.le_of_ble_eq_true rfl, Nat.le_of_ble_eq_true rfl⟩
theorem ro_Tp_fewestWalls_B_unionOf : roomy Y_Tp_fewestWalls Y_B_unionOf := ⟨Nat.le_of_ble_eq_true rfl, Nat.le_of_ble_eq_true rfl⟩
theorem ro_Tp_fewestWalls_Tp_clicksNear : roomy Y_Tp_fewestWalls Y_Tp_clicksNear := ⟨Nat.le_of_ble_eq_true rfl, Nat.le_of_ble_eq_true rfl⟩
theorem ro_Tp_fewestWalls_Tp_lay : roomy Y_Tp_fewestWalls Y_Tp_lay := ⟨Nat.le_of_ble_eq_true rfl, Nat.le_of_ble_eq_true rfl⟩
def r_Tp_fewestWalls_L41 (a0_ : Nat) (y4_ : Int32) (y5_ : Int32) (y6_ : Int32) : Nat → Int32 → Int32 → Sto → Option (Int32 × Int32)
  | 0, _, _, _ => none
  | n + 1, x7_, x8_, S =>
    if (1 <<< (y4_ &&& 31)) ≤ x8_ then
      some (x7_, x8_)
    else
      (r_B_unionOf (a0_ + 7) 10 x8_ S).bind (fun r1 =>
      jn (fun (v2 : Int32) =>
        lt (x8_ + 1) (fun v3 =>
        r_Tp_fewestWalls_L41 a0_ y4_ y5_ y6_ n v2 v3 S)) (fun j81 =>
      if (y5_ ||| r1) = y6_ then
        if (r_B_isFewer x8_ x7_) = 0 then
          j81 (x7_)
        else
          j81 (x8_)
      else
        j81 (x7_)))
set_option maxHeartbeats 4000000 in
set_option maxRecDepth 20000 in
theorem w_Tp_fewestWalls_L41 {g : Gm} {G : Gl} {L : Shp} (C : Cx g Y_Tp_fewestWalls G) (hL : Ext L) (S : Sto) (a0_ : Nat) (y4_ : Int32) (y5_ : Int32) (y6_ : Int32) (h0_ : isTape L a0_) :
    ∀ (n : Nat) (x7_ : Int32) (x8_ : Int32) (K : (Int32 × Int32) → Option (Int32 × Sto)), (∀ (x7_ : Int32) (x8_ : Int32), VO g Y_Tp_fewestWalls G (fun z => Qm g Y_Tp_fewestWalls G (fi L z)) 0 0 87 [(7, .int x7_)] [] L S (some (x7_, x8_)) K) → VO g Y_Tp_fewestWalls G (fun z => Qm g Y_Tp_fewestWalls G (fi L z)) 0 0 41 [(0, rf G a0_), (4, .int y4_), (5, .int y5_), (6, .int y6_), (7, .int x7_), (8, .int x8_)] [] L S (r_Tp_fewestWalls_L41 a0_ y4_ y5_ y6_ n x7_ x8_ S) K := by
  intro n
  induction n with
  | zero => intro x7_ x8_ K; intros; exact v_none
  | succ n ih =>
    intro x7_ x8_ K hK
    rw [r_Tp_fewestWalls_L41]
    refine v_iload (pc := 41) C d_Tp_fewestWalls_41 5 rfl ?_
    refine v_iconst (pc := 43) C d_Tp_fewestWalls_43 ic_1 ?_
    refine v_iload (pc := 44) C d_Tp_fewestWalls_44 1 rfl ?_
    refine v_ishl (pc := 46) C d_Tp_fewestWalls_46 ?_
    refine v_icmp_ge (pc := 47) (tgt := 87) C d_Tp_fewestWalls_47 rfl (fun _ => ?_) (fun _ => ?_)
    · refine v_sub [4] rfl ?_
      exact hK x7_ x8_
    · refine v_iload (pc := 50) C d_Tp_fewestWalls_50 2 rfl ?_
      refine v_aload_n (pc := 52) C d_Tp_fewestWalls_52 rfl 0 rfl ?_
      refine v_getR (pc := 53) C fl_Tp_38 h0_.1 rfl d_Tp_fewestWalls_53 ?_
      refine v_iload (pc := 56) C d_Tp_fewestWalls_56 5 rfl ?_
      refine v_cp (pc := 58) (inv_SN (As := [rf G (a0_ + 7), .int x8_]) (st := [.int y5_]) C mn_Tp_99 ms_B_unionOf ro_Tp_fewestWalls_B_unionOf rfl rfl (Nat.le_of_ble_eq_true rfl) d_Tp_fewestWalls_58) (c_B_unionOf hL S (a0_ + 7) 10 x8_ h0_.2.2.2.2) ⟨rfl, rfl⟩ ⟨Nat.zero_le _, Nat.zero_le _⟩ (fun r1 => ?_)
      refine v_ior (pc := 61) C d_Tp_fewestWalls_61 ?_
      refine v_iload (pc := 62) C d_Tp_fewestWalls_62 3 rfl ?_
      refine v_jn (fun j => ∀ (v2 : Int32), VO g Y_Tp_fewestWalls G (fun z => Qm g Y_Tp_fewestWalls G (fi L z)) 0 0 81 [(0, rf G a0_), (4, .int y4_), (5, .int y5_), (6, .int y6_), (7, .int v2), (8, .int x8_)] [] L S (j (v2)) K) (fun v2 => ?_) (fun j81 hj81 => ?_)
      · refine v_iinc (pc := 81) (p := 5) (c := 1) C d_Tp_fewestWalls_81 rfl (by decide) (by decide) (fun v3 => [(8, .int v3), (0, rf G a0_), (4, .int y4_), (5, .int y5_), (6, .int y6_), (7, .int v2)]) (fun _ => rfl) (fun v3 => ?_)
        refine v_goto (pc := 84) (tgt := 41) C d_Tp_fewestWalls_84 rfl ?_
        refine v_sub [1, 2, 3, 4, 5, 0] rfl ?_
        exact ih v2 v3 K hK
      · refine v_icmp_ne (pc := 64) (tgt := 81) C d_Tp_fewestWalls_64 rfl (fun _ => ?_) (fun _ => ?_)
        · exact hj81 x7_
        · refine v_iload (pc := 67) C d_Tp_fewestWalls_67 5 rfl ?_
          refine v_iload (pc := 69) C d_Tp_fewestWalls_69 4 rfl ?_
          refine v_ct (pc := 71) (inv_SN (As := [.int x8_, .int x7_]) (st := []) C mn_Tp_103 ms_B_isFewer ro_Tp_fewestWalls_B_isFewer rfl rfl (Nat.le_of_ble_eq_true rfl) d_Tp_fewestWalls_71) (c_B_isFewer hL S x8_ x7_) ⟨rfl, rfl⟩ ⟨Nat.zero_le _, Nat.zero_le _⟩ ?_
          refine v_if_eq (pc := 74) (tgt := 81) C d_Tp_fewestWalls_74 rfl (fun _ => ?_) (fun _ => ?_)
          · exact hj81 x7_
          · refine v_iload (pc := 77) C d_Tp_fewestWalls_77 5 rfl ?_
            refine v_istore (pc := 79) (lv' := [(7, .int x8_), (0, rf G a0_), (4, .int y4_), (5, .int y5_), (6, .int y6_), (8, .int x8_)]) C d_Tp_fewestWalls_79 (by decide) rfl ?_
            refine v_sub [1, 2, 3, 4, 0, 5] rfl ?_
            exact hj81 x8_
def r_Tp_fewestWalls (a0 : Nat) (x1 : Int32) (x2 : Int32) (x3 : Int32) (x4 : Int32) (S : Sto) : Option (Int32 × Sto) :=
  (r_Tp_lay a0 x1 x2 x3 S).bind (fun S1 =>
  (r_Tp_clicksNear a0 (S1 (a0 + 1) ((0 : Int32).toNatClampNeg)) x3 S1).bind (fun r2 =>
  (r_B_unionOf (a0 + 7) 10 1023 S1).bind (fun r3 =>
  lt (r2 ||| r3) (fun v4 =>
  (r_Tp_fewestWalls_L41 a0 x4 r2 v4 fu (-1) 0 S1).bind (fun (v5, v6) =>
  some (v5, S1))))))
set_option maxHeartbeats 4000000 in
set_option maxRecDepth 20000 in
theorem c_Tp_fewestWalls {G : Gl} {L : Shp} (hL : Ext L) (S : Sto) (a0 : Nat) (x1 : Int32) (x2 : Int32) (x3 : Int32) (x4 : Int32) (h0 : isTape L a0) : Ct Y_Tp_fewestWalls G [rf G a0, .int x1, .int x2, .int x3, .int x4] L S (fi L) (r_Tp_fewestWalls a0 x1 x2 x3 x4 S) := by
  refine ct_of (by decide +kernel) (Nat.le_of_ble_eq_true rfl) (fun g C => ?_)
  show VO g Y_Tp_fewestWalls G (fun z => Qm g Y_Tp_fewestWalls G (fi L z)) 0 0 0 [(0, rf G a0), (1, .int x1), (2, .int x2), (3, .int x3), (4, .int x4)] [] L S (r_Tp_fewestWalls a0 x1 x2 x3 x4 S) some
  unfold r_Tp_fewestWalls
  refine v_aload_n (pc := 0) C d_Tp_fewestWalls_0 rfl 0 rfl ?_
  refine v_iload_n (pc := 1) C d_Tp_fewestWalls_1 rfl 1 rfl ?_
  refine v_iload_n (pc := 2) C d_Tp_fewestWalls_2 rfl 2 rfl ?_
  refine v_iload_n (pc := 3) C d_Tp_fewestWalls_3 rfl 3 rfl ?_
  refine v_cv (pc := 4) (inv_V (As := [.int x1, .int x2, .int x3]) (st := []) C ml_Tp_95 mv_Tp_lay ro_Tp_fewestWalls_Tp_lay h0.1 rfl rfl rfl rfl (Nat.le_of_ble_eq_true rfl) d_Tp_fewestWalls_4) (c_Tp_lay hL S a0 x1 x2 x3 h0) ⟨rfl, rfl⟩ ⟨Nat.zero_le _, Nat.zero_le _⟩ (fun S1 => ?_)
  refine v_aload_n (pc := 7) C d_Tp_fewestWalls_7 rfl 0 rfl ?_
  refine v_aload_n (pc := 8) C d_Tp_fewestWalls_8 rfl 0 rfl ?_
  refine v_getR (pc := 9) C fl_Tp_19 h0.1 rfl d_Tp_fewestWalls_9 ?_
  refine v_iconst (pc := 12) C d_Tp_fewestWalls_12 ic_0 ?_
  refine v_ialdT (pc := 13) C h0.2.1 d_Tp_fewestWalls_13 (by decide) ?_
  refine v_iload_n (pc := 14) C d_Tp_fewestWalls_14 rfl 3 rfl ?_
  refine v_cp (pc := 15) (inv_V (As := [.int (S1 (a0 + 1) ((0 : Int32).toNatClampNeg)), .int x3]) (st := []) C ml_Tp_82 mv_Tp_clicksNear ro_Tp_fewestWalls_Tp_clicksNear h0.1 rfl rfl rfl rfl (Nat.le_of_ble_eq_true rfl) d_Tp_fewestWalls_15) (c_Tp_clicksNear hL S1 a0 (S1 (a0 + 1) ((0 : Int32).toNatClampNeg)) x3 h0) ⟨rfl, rfl⟩ ⟨Nat.zero_le _, Nat.zero_le _⟩ (fun r2 => ?_)
  refine v_istore (pc := 18) (lv' := [(5, .int r2), (0, rf G a0), (1, .int x1), (2, .int x2), (3, .int x3), (4, .int x4)]) C d_Tp_fewestWalls_18 (by decide) rfl ?_
  refine v_iload (pc := 20) C d_Tp_fewestWalls_20 0 rfl ?_
  refine v_aload_n (pc := 22) C d_Tp_fewestWalls_22 rfl 1 rfl ?_
  refine v_getR (pc := 23) C fl_Tp_38 h0.1 rfl d_Tp_fewestWalls_23 ?_
  refine v_sipush (pc := 26) C d_Tp_fewestWalls_26 sp_1023 ?_
  refine v_cp (pc := 29) (inv_SN (As := [rf G (a0 + 7), .int 1023]) (st := [.int r2]) C mn_Tp_99 ms_B_unionOf ro_Tp_fewestWalls_B_unionOf rfl rfl (Nat.le_of_ble_eq_true rfl) d_Tp_fewestWalls_29) (c_B_unionOf hL S1 (a0 + 7) 10 1023 h0.2.2.2.2) ⟨rfl, rfl⟩ ⟨Nat.zero_le _, Nat.zero_le _⟩ (fun r3 => ?_)
  refine v_ior (pc := 32) C d_Tp_fewestWalls_32 ?_
  refine v_lt (fun v4 => ?_)
  refine v_istore (pc := 33) (lv' := [(6, .int v4), (5, .int r2), (0, rf G a0), (1, .int x1), (2, .int x2), (3, .int x3), (4, .int x4)]) C d_Tp_fewestWalls_33 (by decide) rfl ?_
  refine v_iconst (pc := 35) C d_Tp_fewestWalls_35 ic_m1 ?_
  refine v_istore (pc := 36) (lv' := [(7, .int (-1)), (6, .int v4), (5, .int r2), (0, rf G a0), (1, .int x1), (2, .int x2), (3, .int x3), (4, .int x4)]) C d_Tp_fewestWalls_36 (by decide) rfl ?_
  refine v_iconst (pc := 38) C d_Tp_fewestWalls_38 ic_0 ?_
  refine v_istore (pc := 39) (lv' := [(8, .int 0), (7, .int (-1)), (6, .int v4), (5, .int r2), (0, rf G a0), (1, .int x1), (2, .int x2), (3, .int x3), (4, .int x4)]) C d_Tp_fewestWalls_39 (by decide) rfl ?_
  refine v_sub [4, 8, 3, 2, 1, 0] rfl ?_
  refine v_bind ?_
  refine w_Tp_fewestWalls_L41 C hL S1 a0 x4 r2 v4 h0 fu (-1) 0 _ (fun v5 v6 => ?_) 
  refine v_some ?_
  refine v_iload (pc := 87) C d_Tp_fewestWalls_87 0 rfl ?_
  exact v_iret (z := (v5, S1)) C d_Tp_fewestWalls_89 rfl ⟨Nat.zero_le _, Nat.zero_le _⟩ (rfl) rfl
-- Sp_overAlone
theorem d_Sp_overAlone_0 : decode (mB Y_Sp_overAlone) 0 = .ok (.aload_n 0, 1) := by decide +kernel
theorem d_Sp_overAlone_1 : decode (mB Y_Sp_overAlone) 1 = .ok (.iconst (-1), 1) := by decide +kernel
theorem d_Sp_overAlone_2 : decode (mB Y_Sp_overAlone) 2 = .ok (.invokevirtual 36, 3) := by decide +kernel
theorem d_Sp_overAlone_5 : decode (mB Y_Sp_overAlone) 5 = .ok (.ifCond .eq 5, 3) := by decide +kernel
theorem d_Sp_overAlone_8 : decode (mB Y_Sp_overAlone) 8 = .ok (.iconst (-1), 1) := by decide +kernel
theorem d_Sp_overAlone_9 : decode (mB Y_Sp_overAlone) 9 = .ok (.ireturn, 1) := by decide +kernel
theorem d_Sp_overAlone_10 : decode (mB Y_Sp_overAlone) 10 = .ok (.iconst (-1), 1) := by decide +kernel
theorem d_Sp_overAlone_11 : decode (mB Y_Sp_overAlone) 11 = .ok (.istore_n 1, 1) := by decide +kernel
theorem d_Sp_overAlone_12 : decode (mB Y_Sp_overAlone) 12 = .ok (.iconst 0, 1) := by decide +kernel
theorem d_Sp_overAlone_13 : decode (mB Y_Sp_overAlone) 13 = .ok (.istore_n 2, 1) := by decide +kernel
theorem d_Sp_overAlone_14 : decode (mB Y_Sp_overAlone) 14 = .ok (.iload_n 2, 1) := by decide +kernel
theorem d_Sp_overAlone_15 : decode (mB Y_Sp_overAlone) 15 = .ok (.aload_n 0, 1) := by decide +kernel
theorem d_Sp_overAlone_16 : decode (mB Y_Sp_overAlone) 16 = .ok (.getfield 27, 3) := by decide +kernel
theorem d_Sp_overAlone_19 : decode (mB Y_Sp_overAlone) 19 = .ok (.if_icmp .ge 26, 3) := by decide +kernel
theorem d_Sp_overAlone_22 : decode (mB Y_Sp_overAlone) 22 = .ok (.aload_n 0, 1) := by decide +kernel
theorem d_Sp_overAlone_23 : decode (mB Y_Sp_overAlone) 23 = .ok (.iload_n 2, 1) := by decide +kernel
theorem d_Sp_overAlone_24 : decode (mB Y_Sp_overAlone) 24 = .ok (.invokevirtual 36, 3) := by decide +kernel
theorem d_Sp_overAlone_27 : decode (mB Y_Sp_overAlone) 27 = .ok (.ifCond .eq 12, 3) := by decide +kernel
theorem d_Sp_overAlone_30 : decode (mB Y_Sp_overAlone) 30 = .ok (.iload_n 1, 1) := by decide +kernel
theorem d_Sp_overAlone_31 : decode (mB Y_Sp_overAlone) 31 = .ok (.iconst (-1), 1) := by decide +kernel
theorem d_Sp_overAlone_32 : decode (mB Y_Sp_overAlone) 32 = .ok (.if_icmp .eq 5, 3) := by decide +kernel
theorem d_Sp_overAlone_35 : decode (mB Y_Sp_overAlone) 35 = .ok (.iconst (-1), 1) := by decide +kernel
theorem d_Sp_overAlone_36 : decode (mB Y_Sp_overAlone) 36 = .ok (.ireturn, 1) := by decide +kernel
theorem d_Sp_overAlone_37 : decode (mB Y_Sp_overAlone) 37 = .ok (.iload_n 2, 1) := by decide +kernel
theorem d_Sp_overAlone_38 : decode (mB Y_Sp_overAlone) 38 = .ok (.istore_n 1, 1) := by decide +kernel
theorem d_Sp_overAlone_39 : decode (mB Y_Sp_overAlone) 39 = .ok (.iinc 2 1, 3) := by decide +kernel
theorem d_Sp_overAlone_42 : decode (mB Y_Sp_overAlone) 42 = .ok (.goto (-28), 3) := by decide +kernel
theorem d_Sp_overAlone_45 : decode (mB Y_Sp_overAlone) 45 = .ok (.iload_n 1, 1) := by decide +kernel
theorem d_Sp_overAlone_46 : decode (mB Y_Sp_overAlone) 46 = .ok (.ireturn, 1) := by decide +kernel
theorem ro_Sp_overAlone_Sp_agreeWithout : roomy Y_Sp_overAlone Y_Sp_agreeWithout := ⟨Nat.le_of_ble_eq_true rfl, Nat.le_of_ble_eq_true rfl⟩
def r_Sp_overAlone_L14 (a0_ : Nat) (m0_ : Nat) : Nat → Int32 → Int32 → Sto → Option ((Int32 × Int32) ⊕ Int32)
  | 0, _, _, _ => none
  | n + 1, x1_, x2_, S =>
    if (S a0_ 3) ≤ x2_ then
      some (.inl (x1_, x2_))
    else
      (r_Sp_agreeWithout a0_ m0_ x2_ S).bind (fun r1 =>
      jn (fun (v2 : Int32) =>
        lt (x2_ + 1) (fun v3 =>
        r_Sp_overAlone_L14 a0_ m0_ n v2 v3 S)) (fun j39 =>
      if r1 = 0 then
        j39 (x1_)
      else
        if x1_ = (-1) then
          j39 (x2_)
        else
          some (.inr (-1))))
set_option maxHeartbeats 4000000 in
set_option maxRecDepth 20000 in
theorem w_Sp_overAlone_L14 {g : Gm} {G : Gl} {L : Shp} (C : Cx g Y_Sp_overAlone G) (hL : Ext L) (S : Sto) (a0_ : Nat) (m0_ : Nat) (h0_ : isSpans L a0_ m0_) :
    ∀ (n : Nat) (x1_ : Int32) (x2_ : Int32) (K : ((Int32 × Int32) ⊕ Int32) → Option Int32), (∀ (x1_ : Int32) (x2_ : Int32), VO g Y_Sp_overAlone G (fun z => Qm g Y_Sp_overAlone G (fp L S z)) 0 0 45 [(1, .int x1_)] [] L S (some (.inl (x1_, x2_))) K) → (∀ x, K (.inr x) = some x) → VO g Y_Sp_overAlone G (fun z => Qm g Y_Sp_overAlone G (fp L S z)) 0 0 14 [(0, rf G a0_), (1, .int x1_), (2, .int x2_)] [] L S (r_Sp_overAlone_L14 a0_ m0_ n x1_ x2_ S) K := by
  intro n
  induction n with
  | zero => intro x1_ x2_ K; intros; exact v_none
  | succ n ih =>
    intro x1_ x2_ K hK hR
    rw [r_Sp_overAlone_L14]
    refine v_iload_n (pc := 14) C d_Sp_overAlone_14 rfl 2 rfl ?_
    refine v_aload_n (pc := 15) C d_Sp_overAlone_15 rfl 0 rfl ?_
    refine v_getI (pc := 16) C fl_Sp_27 h0_.1 rfl d_Sp_overAlone_16 ?_
    refine v_icmp_ge (pc := 19) (tgt := 45) C d_Sp_overAlone_19 rfl (fun _ => ?_) (fun _ => ?_)
    · refine v_sub [1] rfl ?_
      exact hK x1_ x2_
    · refine v_aload_n (pc := 22) C d_Sp_overAlone_22 rfl 0 rfl ?_
      refine v_iload_n (pc := 23) C d_Sp_overAlone_23 rfl 2 rfl ?_
      refine v_cp (pc := 24) (inv_V (As := [.int x2_]) (st := []) C ml_Sp_36 mv_Sp_agreeWithout ro_Sp_overAlone_Sp_agreeWithout h0_.1 rfl rfl rfl rfl (Nat.le_of_ble_eq_true rfl) d_Sp_overAlone_24) (c_Sp_agreeWithout hL S a0_ m0_ x2_ h0_) ⟨rfl, rfl⟩ ⟨Nat.zero_le _, Nat.zero_le _⟩ (fun r1 => ?_)
      refine v_jn (fun j => ∀ (v2 : Int32), VO g Y_Sp_overAlone G (fun z => Qm g Y_Sp_overAlone G (fp L S z)) 0 0 39 [(0, rf G a0_), (1, .int v2), (2, .int x2_)] [] L S (j (v2)) K) (fun v2 => ?_) (fun j39 hj39 => ?_)
      · refine v_iinc (pc := 39) (p := 2) (c := 1) C d_Sp_overAlone_39 rfl (by decide) (by decide) (fun v3 => [(2, .int v3), (0, rf G a0_), (1, .int v2)]) (fun _ => rfl) (fun v3 => ?_)
        refine v_goto (pc := 42) (tgt := 14) C d_Sp_overAlone_42 rfl ?_
        refine v_sub [1, 2, 0] rfl ?_
        exact ih v2 v3 K hK hR
      · refine v_if_eq (pc := 27) (tgt := 39) C d_Sp_overAlone_27 rfl (fun _ => ?_) (fun _ => ?_)
        · exact hj39 x1_
        · refine v_iload_n (pc := 30) C d_Sp_overAlone_30 rfl 1 rfl ?_
          refine v_iconst (pc := 31) C d_Sp_overAlone_31 ic_m1 ?_
          refine v_icmp_eq (pc := 32) (tgt := 37) C d_Sp_overAlone_32 rfl (fun _ => ?_) (fun _ => ?_)
          · refine v_iload_n (pc := 37) C d_Sp_overAlone_37 rfl 2 rfl ?_
            refine v_istore_n (pc := 38) (lv' := [(1, .int x2_), (0, rf G a0_), (2, .int x2_)]) C d_Sp_overAlone_38 rfl (by decide) rfl ?_
            refine v_sub [1, 0, 2] rfl ?_
            exact hj39 x2_
          · refine v_iconst (pc := 35) C d_Sp_overAlone_35 ic_m1 ?_
            exact v_iret (z := (-1)) C d_Sp_overAlone_36 rfl ⟨Nat.zero_le _, Nat.zero_le _⟩ (hR _) rfl
def r_Sp_overAlone (a0 : Nat) (m0 : Nat) (S : Sto) : Option Int32 :=
  (r_Sp_agreeWithout a0 m0 (-1) S).bind (fun r1 =>
  if r1 = 0 then
    (r_Sp_overAlone_L14 a0 m0 fu (-1) 0 S).bind (fun x => match x with
    | .inl (v2, v3) =>
      some v2
    | .inr r => some r)
  else
    some (-1))
set_option maxHeartbeats 4000000 in
set_option maxRecDepth 20000 in
theorem c_Sp_overAlone {G : Gl} {L : Shp} (hL : Ext L) (S : Sto) (a0 : Nat) (m0 : Nat) (h0 : isSpans L a0 m0) : Ct Y_Sp_overAlone G [rf G a0] L S (fp L S) (r_Sp_overAlone a0 m0 S) := by
  refine ct_of (by decide +kernel) (Nat.le_of_ble_eq_true rfl) (fun g C => ?_)
  show VO g Y_Sp_overAlone G (fun z => Qm g Y_Sp_overAlone G (fp L S z)) 0 0 0 [(0, rf G a0)] [] L S (r_Sp_overAlone a0 m0 S) some
  unfold r_Sp_overAlone
  refine v_aload_n (pc := 0) C d_Sp_overAlone_0 rfl 0 rfl ?_
  refine v_iconst (pc := 1) C d_Sp_overAlone_1 ic_m1 ?_
  refine v_cp (pc := 2) (inv_V (As := [.int (-1)]) (st := []) C ml_Sp_36 mv_Sp_agreeWithout ro_Sp_overAlone_Sp_agreeWithout h0.1 rfl rfl rfl rfl (Nat.le_of_ble_eq_true rfl) d_Sp_overAlone_2) (c_Sp_agreeWithout hL S a0 m0 (-1) h0) ⟨rfl, rfl⟩ ⟨Nat.zero_le _, Nat.zero_le _⟩ (fun r1 => ?_)
  refine v_if_eq (pc := 5) (tgt := 10) C d_Sp_overAlone_5 rfl (fun _ => ?_) (fun _ => ?_)
  · refine v_iconst (pc := 10) C d_Sp_overAlone_10 ic_m1 ?_
    refine v_istore_n (pc := 11) (lv' := [(1, .int (-1)), (0, rf G a0)]) C d_Sp_overAlone_11 rfl (by decide) rfl ?_
    refine v_iconst (pc := 12) C d_Sp_overAlone_12 ic_0 ?_
    refine v_istore_n (pc := 13) (lv' := [(2, .int 0), (1, .int (-1)), (0, rf G a0)]) C d_Sp_overAlone_13 rfl (by decide) rfl ?_
    refine v_sub [2, 1, 0] rfl ?_
    refine v_bind ?_
    refine w_Sp_overAlone_L14 C hL S a0 m0 h0 fu (-1) 0 _ (fun v2 v3 => ?_) (fun z => rfl)
    refine v_some ?_
    refine v_iload_n (pc := 45) C d_Sp_overAlone_45 rfl 0 rfl ?_
    exact v_iret (z := v2) C d_Sp_overAlone_46 rfl ⟨Nat.zero_le _, Nat.zero_le _⟩ (rfl) rfl
  · refine v_iconst (pc := 8) C d_Sp_overAlone_8 ic_m1 ?_
    exact v_iret (z := (-1)) C d_Sp_overAlone_9 rfl ⟨Nat.zero_le _, Nat.zero_le _⟩ (rfl) rfl
-- Ns_add
theorem d_Ns_add_0 : decode (mB Y_Ns_add) 0 = .ok (.aload_n 0, 1) := by decide +kernel
theorem d_Ns_add_1 : decode (mB Y_Ns_add) 1 = .ok (.getfield 34, 3) := by decide +kernel
theorem d_Ns_add_4 : decode (mB Y_Ns_add) 4 = .ok (.bipush 20, 2) := by decide +kernel
theorem d_Ns_add_6 : decode (mB Y_Ns_add) 6 = .ok (.if_icmp .lt 5, 3) := by decide +kernel
theorem d_Ns_add_9 : decode (mB Y_Ns_add) 9 = .ok (.iconst (-1), 1) := by decide +kernel
theorem d_Ns_add_10 : decode (mB Y_Ns_add) 10 = .ok (.ireturn, 1) := by decide +kernel
theorem d_Ns_add_11 : decode (mB Y_Ns_add) 11 = .ok (.aload_n 0, 1) := by decide +kernel
theorem d_Ns_add_12 : decode (mB Y_Ns_add) 12 = .ok (.getfield 18, 3) := by decide +kernel
theorem d_Ns_add_15 : decode (mB Y_Ns_add) 15 = .ok (.aload_n 0, 1) := by decide +kernel
theorem d_Ns_add_16 : decode (mB Y_Ns_add) 16 = .ok (.getfield 34, 3) := by decide +kernel
theorem d_Ns_add_19 : decode (mB Y_Ns_add) 19 = .ok (.iload_n 1, 1) := by decide +kernel
theorem d_Ns_add_20 : decode (mB Y_Ns_add) 20 = .ok (.iastore, 1) := by decide +kernel
theorem d_Ns_add_21 : decode (mB Y_Ns_add) 21 = .ok (.aload_n 0, 1) := by decide +kernel
theorem d_Ns_add_22 : decode (mB Y_Ns_add) 22 = .ok (.getfield 22, 3) := by decide +kernel
theorem d_Ns_add_25 : decode (mB Y_Ns_add) 25 = .ok (.aload_n 0, 1) := by decide +kernel
theorem d_Ns_add_26 : decode (mB Y_Ns_add) 26 = .ok (.getfield 34, 3) := by decide +kernel
theorem d_Ns_add_29 : decode (mB Y_Ns_add) 29 = .ok (.iload_n 2, 1) := by decide +kernel
theorem d_Ns_add_30 : decode (mB Y_Ns_add) 30 = .ok (.iastore, 1) := by decide +kernel
theorem d_Ns_add_31 : decode (mB Y_Ns_add) 31 = .ok (.aload_n 0, 1) := by decide +kernel
theorem d_Ns_add_32 : decode (mB Y_Ns_add) 32 = .ok (.getfield 25, 3) := by decide +kernel
theorem d_Ns_add_35 : decode (mB Y_Ns_add) 35 = .ok (.aload_n 0, 1) := by decide +kernel
theorem d_Ns_add_36 : decode (mB Y_Ns_add) 36 = .ok (.getfield 34, 3) := by decide +kernel
theorem d_Ns_add_39 : decode (mB Y_Ns_add) 39 = .ok (.iload_n 3, 1) := by decide +kernel
theorem d_Ns_add_40 : decode (mB Y_Ns_add) 40 = .ok (.iastore, 1) := by decide +kernel
theorem d_Ns_add_41 : decode (mB Y_Ns_add) 41 = .ok (.aload_n 0, 1) := by decide +kernel
theorem d_Ns_add_42 : decode (mB Y_Ns_add) 42 = .ok (.getfield 28, 3) := by decide +kernel
theorem d_Ns_add_45 : decode (mB Y_Ns_add) 45 = .ok (.aload_n 0, 1) := by decide +kernel
theorem d_Ns_add_46 : decode (mB Y_Ns_add) 46 = .ok (.getfield 34, 3) := by decide +kernel
theorem d_Ns_add_49 : decode (mB Y_Ns_add) 49 = .ok (.iload 4, 2) := by decide +kernel
theorem d_Ns_add_51 : decode (mB Y_Ns_add) 51 = .ok (.iastore, 1) := by decide +kernel
theorem d_Ns_add_52 : decode (mB Y_Ns_add) 52 = .ok (.aload_n 0, 1) := by decide +kernel
theorem d_Ns_add_53 : decode (mB Y_Ns_add) 53 = .ok (.dup, 1) := by decide +kernel
theorem d_Ns_add_54 : decode (mB Y_Ns_add) 54 = .ok (.getfield 34, 3) := by decide +kernel
theorem d_Ns_add_57 : decode (mB Y_Ns_add) 57 = .ok (.iconst 1, 1) := by decide +kernel
theorem d_Ns_add_58 : decode (mB Y_Ns_add) 58 = .ok (.iadd, 1) := by decide +kernel
theorem d_Ns_add_59 : decode (mB Y_Ns_add) 59 = .ok (.putfield 34, 3) := by decide +kernel
theorem d_Ns_add_62 : decode (mB Y_Ns_add) 62 = .ok (.aload_n 0, 1) := by decide +kernel
theorem d_Ns_add_63 : decode (mB Y_Ns_add) 63 = .ok (.getfield 34, 3) := by decide +kernel
theorem d_Ns_add_66 : decode (mB Y_Ns_add) 66 = .ok (.iconst 1, 1) := by decide +kernel
theorem d_Ns_add_67 : decode (mB Y_Ns_add) 67 = .ok (.isub, 1) := by decide +kernel
theorem d_Ns_add_68 : decode (mB Y_Ns_add) 68 = .ok (.ireturn, 1) := by decide +kernel
def r_Ns_add (x1 : Int32) (x2 : Int32) (x3 : Int32) (x4 : Int32) (S : Sto) : Option (Int32 × Sto) :=
  if (S 90 5) < 20 then
    chk (inr (S 90 5) 20) (
    ltS (sw S 94 ((S 90 5).toNatClampNeg) x1) (fun S1 =>
    chk (inr (S1 90 5) 20) (
    ltS (sw S1 95 ((S1 90 5).toNatClampNeg) x2) (fun S2 =>
    chk (inr (S2 90 5) 20) (
    ltS (sw S2 96 ((S2 90 5).toNatClampNeg) x3) (fun S3 =>
    chk (inr (S3 90 5) 20) (
    ltS (sw S3 97 ((S3 90 5).toNatClampNeg) x4) (fun S4 =>
    ltS (sw S4 90 5 ((S4 90 5) + 1)) (fun S5 =>
    some ((S5 90 5) - 1, S5))))))))))
  else
    some ((-1), S)
set_option maxHeartbeats 4000000 in
set_option maxRecDepth 20000 in
theorem c_Ns_add {G : Gl} {L : Shp} (hL : Ext L) (S : Sto) (x1 : Int32) (x2 : Int32) (x3 : Int32) (x4 : Int32)  : Ct Y_Ns_add G [rf G 90, .int x1, .int x2, .int x3, .int x4] L S (fi L) (r_Ns_add x1 x2 x3 x4 S) := by
  refine ct_of (by decide +kernel) (Nat.le_of_ble_eq_true rfl) (fun g C => ?_)
  show VO g Y_Ns_add G (fun z => Qm g Y_Ns_add G (fi L z)) 0 0 0 [(0, rf G 90), (1, .int x1), (2, .int x2), (3, .int x3), (4, .int x4)] [] L S (r_Ns_add x1 x2 x3 x4 S) some
  unfold r_Ns_add
  refine v_aload_n (pc := 0) C d_Ns_add_0 rfl 0 rfl ?_
  refine v_getI (pc := 1) C fl_Ns_34 (sh_90 hL) rfl d_Ns_add_1 ?_
  refine v_bipush (pc := 4) C d_Ns_add_4 bp_20 ?_
  refine v_icmp_lt (pc := 6) (tgt := 11) C d_Ns_add_6 rfl (fun _ => ?_) (fun _ => ?_)
  · refine v_aload_n (pc := 11) C d_Ns_add_11 rfl 0 rfl ?_
    refine v_getR (pc := 12) C fl_Ns_18 (sh_90 hL) rfl d_Ns_add_12 ?_
    refine v_aload_n (pc := 15) C d_Ns_add_15 rfl 0 rfl ?_
    refine v_getI (pc := 16) C fl_Ns_34 (sh_90 hL) rfl d_Ns_add_16 ?_
    refine v_iload_n (pc := 19) C d_Ns_add_19 rfl 1 rfl ?_
    refine v_iast (pc := 20) C (sh_94 hL) d_Ns_add_20 (fun _ S1 => ?_)
    refine v_aload_n (pc := 21) C d_Ns_add_21 rfl 0 rfl ?_
    refine v_getR (pc := 22) C fl_Ns_22 (sh_90 hL) rfl d_Ns_add_22 ?_
    refine v_aload_n (pc := 25) C d_Ns_add_25 rfl 0 rfl ?_
    refine v_getI (pc := 26) C fl_Ns_34 (sh_90 hL) rfl d_Ns_add_26 ?_
    refine v_iload_n (pc := 29) C d_Ns_add_29 rfl 2 rfl ?_
    refine v_iast (pc := 30) C (sh_95 hL) d_Ns_add_30 (fun _ S2 => ?_)
    refine v_aload_n (pc := 31) C d_Ns_add_31 rfl 0 rfl ?_
    refine v_getR (pc := 32) C fl_Ns_25 (sh_90 hL) rfl d_Ns_add_32 ?_
    refine v_aload_n (pc := 35) C d_Ns_add_35 rfl 0 rfl ?_
    refine v_getI (pc := 36) C fl_Ns_34 (sh_90 hL) rfl d_Ns_add_36 ?_
    refine v_iload_n (pc := 39) C d_Ns_add_39 rfl 3 rfl ?_
    refine v_iast (pc := 40) C (sh_96 hL) d_Ns_add_40 (fun _ S3 => ?_)
    refine v_aload_n (pc := 41) C d_Ns_add_41 rfl 0 rfl ?_
    refine v_getR (pc := 42) C fl_Ns_28 (sh_90 hL) rfl d_Ns_add_42 ?_
    refine v_aload_n (pc := 45) C d_Ns_add_45 rfl 0 rfl ?_
    refine v_getI (pc := 46) C fl_Ns_34 (sh_90 hL) rfl d_Ns_add_46 ?_
    refine v_iload (pc := 49) C d_Ns_add_49 4 rfl ?_
    refine v_iast (pc := 51) C (sh_97 hL) d_Ns_add_51 (fun _ S4 => ?_)
    refine v_aload_n (pc := 52) C d_Ns_add_52 rfl 0 rfl ?_
    refine v_dup (pc := 53) C d_Ns_add_53 rfl ?_
    refine v_getI (pc := 54) C fl_Ns_34 (sh_90 hL) rfl d_Ns_add_54 ?_
    refine v_iconst (pc := 57) C d_Ns_add_57 ic_1 ?_
    refine v_iadd (pc := 58) C d_Ns_add_58 ?_
    refine v_putI (pc := 59) C fp_Ns_34 (sh_90 hL) rfl d_Ns_add_59 (fun S5 => ?_)
    refine v_aload_n (pc := 62) C d_Ns_add_62 rfl 0 rfl ?_
    refine v_getI (pc := 63) C fl_Ns_34 (sh_90 hL) rfl d_Ns_add_63 ?_
    refine v_iconst (pc := 66) C d_Ns_add_66 ic_1 ?_
    refine v_isub (pc := 67) C d_Ns_add_67 ?_
    exact v_iret (z := ((S5 90 5) - 1, S5)) C d_Ns_add_68 rfl ⟨Nat.zero_le _, Nat.zero_le _⟩ (rfl) rfl
  · refine v_iconst (pc := 9) C d_Ns_add_9 ic_m1 ?_
    exact v_iret (z := ((-1), S)) C d_Ns_add_10 rfl ⟨Nat.zero_le _, Nat.zero_le _⟩ (rfl) rfl
-- Ns_isAhead
theorem d_Ns_isAhead_0 : decode (mB Y_Ns_isAhead) 0 = .ok (.aload_n 0, 1) := by decide +kernel
theorem d_Ns_isAhead_1 : decode (mB Y_Ns_isAhead) 1 = .ok (.getfield 25, 3) := by decide +kernel
theorem d_Ns_isAhead_4 : decode (mB Y_Ns_isAhead) 4 = .ok (.iload_n 1, 1) := by decide +kernel
theorem d_Ns_isAhead_5 : decode (mB Y_Ns_isAhead) 5 = .ok (.iaload, 1) := by decide +kernel
theorem d_Ns_isAhead_6 : decode (mB Y_Ns_isAhead) 6 = .ok (.aload_n 0, 1) := by decide +kernel
theorem d_Ns_isAhead_7 : decode (mB Y_Ns_isAhead) 7 = .ok (.getfield 25, 3) := by decide +kernel
theorem d_Ns_isAhead_10 : decode (mB Y_Ns_isAhead) 10 = .ok (.iload_n 2, 1) := by decide +kernel
theorem d_Ns_isAhead_11 : decode (mB Y_Ns_isAhead) 11 = .ok (.iaload, 1) := by decide +kernel
theorem d_Ns_isAhead_12 : decode (mB Y_Ns_isAhead) 12 = .ok (.if_icmp .lt 23, 3) := by decide +kernel
theorem d_Ns_isAhead_15 : decode (mB Y_Ns_isAhead) 15 = .ok (.aload_n 0, 1) := by decide +kernel
theorem d_Ns_isAhead_16 : decode (mB Y_Ns_isAhead) 16 = .ok (.getfield 25, 3) := by decide +kernel
theorem d_Ns_isAhead_19 : decode (mB Y_Ns_isAhead) 19 = .ok (.iload_n 1, 1) := by decide +kernel
theorem d_Ns_isAhead_20 : decode (mB Y_Ns_isAhead) 20 = .ok (.iaload, 1) := by decide +kernel
theorem d_Ns_isAhead_21 : decode (mB Y_Ns_isAhead) 21 = .ok (.aload_n 0, 1) := by decide +kernel
theorem d_Ns_isAhead_22 : decode (mB Y_Ns_isAhead) 22 = .ok (.getfield 25, 3) := by decide +kernel
theorem d_Ns_isAhead_25 : decode (mB Y_Ns_isAhead) 25 = .ok (.iload_n 2, 1) := by decide +kernel
theorem d_Ns_isAhead_26 : decode (mB Y_Ns_isAhead) 26 = .ok (.iaload, 1) := by decide +kernel
theorem d_Ns_isAhead_27 : decode (mB Y_Ns_isAhead) 27 = .ok (.if_icmp .ne 12, 3) := by decide +kernel
theorem d_Ns_isAhead_30 : decode (mB Y_Ns_isAhead) 30 = .ok (.iload_n 1, 1) := by decide +kernel
theorem d_Ns_isAhead_31 : decode (mB Y_Ns_isAhead) 31 = .ok (.iload_n 2, 1) := by decide +kernel
theorem d_Ns_isAhead_32 : decode (mB Y_Ns_isAhead) 32 = .ok (.if_icmp .ge 7, 3) := by decide +kernel
theorem d_Ns_isAhead_35 : decode (mB Y_Ns_isAhead) 35 = .ok (.iconst 1, 1) := by decide +kernel
theorem d_Ns_isAhead_36 : decode (mB Y_Ns_isAhead) 36 = .ok (.goto 4, 3) := by decide +kernel
theorem d_Ns_isAhead_39 : decode (mB Y_Ns_isAhead) 39 = .ok (.iconst 0, 1) := by decide +kernel
theorem d_Ns_isAhead_40 : decode (mB Y_Ns_isAhead) 40 = .ok (.ireturn, 1) := by decide +kernel
def r_Ns_isAhead (x1 : Int32) (x2 : Int32) (S : Sto) : Option Int32 :=
  chk (inr x1 20) (
  chk (inr x2 20) (
  if (S 96 x1.toNatClampNeg) < (S 96 x2.toNatClampNeg) then
    some 1
  else
    chk (inr x1 20) (
    chk (inr x2 20) (
    if (S 96 x1.toNatClampNeg) = (S 96 x2.toNatClampNeg) then
      if x2 ≤ x1 then
        some 0
      else
        some 1
    else
      some 0))))
set_option maxHeartbeats 4000000 in
set_option maxRecDepth 20000 in
theorem c_Ns_isAhead {G : Gl} {L : Shp} (hL : Ext L) (S : Sto) (x1 : Int32) (x2 : Int32)  : Ct Y_Ns_isAhead G [rf G 90, .int x1, .int x2] L S (fp L S) (r_Ns_isAhead x1 x2 S) := by
  refine ct_of (by decide +kernel) (Nat.le_of_ble_eq_true rfl) (fun g C => ?_)
  show VO g Y_Ns_isAhead G (fun z => Qm g Y_Ns_isAhead G (fp L S z)) 0 0 0 [(0, rf G 90), (1, .int x1), (2, .int x2)] [] L S (r_Ns_isAhead x1 x2 S) some
  unfold r_Ns_isAhead
  refine v_aload_n (pc := 0) C d_Ns_isAhead_0 rfl 0 rfl ?_
  refine v_getR (pc := 1) C fl_Ns_25 (sh_90 hL) rfl d_Ns_isAhead_1 ?_
  refine v_iload_n (pc := 4) C d_Ns_isAhead_4 rfl 1 rfl ?_
  refine v_iald (pc := 5) C (sh_96 hL) d_Ns_isAhead_5 (fun _ => ?_)
  refine v_aload_n (pc := 6) C d_Ns_isAhead_6 rfl 0 rfl ?_
  refine v_getR (pc := 7) C fl_Ns_25 (sh_90 hL) rfl d_Ns_isAhead_7 ?_
  refine v_iload_n (pc := 10) C d_Ns_isAhead_10 rfl 2 rfl ?_
  refine v_iald (pc := 11) C (sh_96 hL) d_Ns_isAhead_11 (fun _ => ?_)
  refine v_icmp_lt (pc := 12) (tgt := 35) C d_Ns_isAhead_12 rfl (fun _ => ?_) (fun _ => ?_)
  · refine v_iconst (pc := 35) C d_Ns_isAhead_35 ic_1 ?_
    refine v_goto (pc := 36) (tgt := 40) C d_Ns_isAhead_36 rfl ?_
    exact v_zret (z := 1) C d_Ns_isAhead_40 rfl (b01_n (by decide)) ⟨Nat.zero_le _, Nat.zero_le _⟩ (rfl) rfl
  · refine v_aload_n (pc := 15) C d_Ns_isAhead_15 rfl 0 rfl ?_
    refine v_getR (pc := 16) C fl_Ns_25 (sh_90 hL) rfl d_Ns_isAhead_16 ?_
    refine v_iload_n (pc := 19) C d_Ns_isAhead_19 rfl 1 rfl ?_
    refine v_iald (pc := 20) C (sh_96 hL) d_Ns_isAhead_20 (fun _ => ?_)
    refine v_aload_n (pc := 21) C d_Ns_isAhead_21 rfl 0 rfl ?_
    refine v_getR (pc := 22) C fl_Ns_25 (sh_90 hL) rfl d_Ns_isAhead_22 ?_
    refine v_iload_n (pc := 25) C d_Ns_isAhead_25 rfl 2 rfl ?_
    refine v_iald (pc := 26) C (sh_96 hL) d_Ns_isAhead_26 (fun _ => ?_)
    refine v_icmp_ne (pc := 27) (tgt := 39) C d_Ns_isAhead_27 rfl (fun _ => ?_) (fun _ => ?_)
    · refine v_iconst (pc := 39) C d_Ns_isAhead_39 ic_0 ?_
      exact v_zret (z := 0) C d_Ns_isAhead_40 rfl (b01_n (by decide)) ⟨Nat.zero_le _, Nat.zero_le _⟩ (rfl) rfl
    · refine v_iload_n (pc := 30) C d_Ns_isAhead_30 rfl 1 rfl ?_
      refine v_iload_n (pc := 31) C d_Ns_isAhead_31 rfl 2 rfl ?_
      refine v_icmp_ge (pc := 32) (tgt := 39) C d_Ns_isAhead_32 rfl (fun _ => ?_) (fun _ => ?_)
      · refine v_iconst (pc := 39) C d_Ns_isAhead_39 ic_0 ?_
        exact v_zret (z := 0) C d_Ns_isAhead_40 rfl (b01_n (by decide)) ⟨Nat.zero_le _, Nat.zero_le _⟩ (rfl) rfl
      · refine v_iconst (pc := 35) C d_Ns_isAhead_35 ic_1 ?_
        refine v_goto (pc := 36) (tgt := 40) C d_Ns_isAhead_36 rfl ?_
        exact v_zret (z := 1) C d_Ns_isAhead_40 rfl (b01_n (by decide)) ⟨Nat.zero_le _, Nat.zero_le _⟩ (rfl) rfl
-- Ns_sort
theorem d_Ns_sort_0 : decode (mB Y_Ns_sort) 0 = .ok (.sipush 9999, 3) := by decide +kernel
theorem d_Ns_sort_3 : decode (mB Y_Ns_sort) 3 = .ok (.istore_n 2, 1) := by decide +kernel
theorem d_Ns_sort_4 : decode (mB Y_Ns_sort) 4 = .ok (.sipush 9999, 3) := by decide +kernel
theorem d_Ns_sort_7 : decode (mB Y_Ns_sort) 7 = .ok (.istore_n 3, 1) := by decide +kernel
theorem d_Ns_sort_8 : decode (mB Y_Ns_sort) 8 = .ok (.iconst 0, 1) := by decide +kernel
theorem d_Ns_sort_9 : decode (mB Y_Ns_sort) 9 = .ok (.istore 4, 2) := by decide +kernel
theorem d_Ns_sort_11 : decode (mB Y_Ns_sort) 11 = .ok (.iload 4, 2) := by decide +kernel
theorem d_Ns_sort_13 : decode (mB Y_Ns_sort) 13 = .ok (.aload_n 0, 1) := by decide +kernel
theorem d_Ns_sort_14 : decode (mB Y_Ns_sort) 14 = .ok (.getfield 34, 3) := by decide +kernel
theorem d_Ns_sort_17 : decode (mB Y_Ns_sort) 17 = .ok (.if_icmp .ge 61, 3) := by decide +kernel
theorem d_Ns_sort_20 : decode (mB Y_Ns_sort) 20 = .ok (.aload_n 0, 1) := by decide +kernel
theorem d_Ns_sort_21 : decode (mB Y_Ns_sort) 21 = .ok (.getfield 25, 3) := by decide +kernel
theorem d_Ns_sort_24 : decode (mB Y_Ns_sort) 24 = .ok (.iload 4, 2) := by decide +kernel
theorem d_Ns_sort_26 : decode (mB Y_Ns_sort) 26 = .ok (.iaload, 1) := by decide +kernel
theorem d_Ns_sort_27 : decode (mB Y_Ns_sort) 27 = .ok (.aload_n 0, 1) := by decide +kernel
theorem d_Ns_sort_28 : decode (mB Y_Ns_sort) 28 = .ok (.getfield 25, 3) := by decide +kernel
theorem d_Ns_sort_31 : decode (mB Y_Ns_sort) 31 = .ok (.iload_n 1, 1) := by decide +kernel
theorem d_Ns_sort_32 : decode (mB Y_Ns_sort) 32 = .ok (.iaload, 1) := by decide +kernel
theorem d_Ns_sort_33 : decode (mB Y_Ns_sort) 33 = .ok (.isub, 1) := by decide +kernel
theorem d_Ns_sort_34 : decode (mB Y_Ns_sort) 34 = .ok (.invokestatic 38, 3) := by decide +kernel
theorem d_Ns_sort_37 : decode (mB Y_Ns_sort) 37 = .ok (.istore 5, 2) := by decide +kernel
theorem d_Ns_sort_39 : decode (mB Y_Ns_sort) 39 = .ok (.aload_n 0, 1) := by decide +kernel
theorem d_Ns_sort_40 : decode (mB Y_Ns_sort) 40 = .ok (.iload 4, 2) := by decide +kernel
theorem d_Ns_sort_42 : decode (mB Y_Ns_sort) 42 = .ok (.iload_n 1, 1) := by decide +kernel
theorem d_Ns_sort_43 : decode (mB Y_Ns_sort) 43 = .ok (.invokevirtual 44, 3) := by decide +kernel
theorem d_Ns_sort_46 : decode (mB Y_Ns_sort) 46 = .ok (.ifCond .eq 13, 3) := by decide +kernel
theorem d_Ns_sort_49 : decode (mB Y_Ns_sort) 49 = .ok (.iload_n 2, 1) := by decide +kernel
theorem d_Ns_sort_50 : decode (mB Y_Ns_sort) 50 = .ok (.iload 5, 2) := by decide +kernel
theorem d_Ns_sort_52 : decode (mB Y_Ns_sort) 52 = .ok (.invokestatic 48, 3) := by decide +kernel
theorem d_Ns_sort_55 : decode (mB Y_Ns_sort) 55 = .ok (.istore_n 2, 1) := by decide +kernel
theorem d_Ns_sort_56 : decode (mB Y_Ns_sort) 56 = .ok (.goto 16, 3) := by decide +kernel
theorem d_Ns_sort_59 : decode (mB Y_Ns_sort) 59 = .ok (.iload 4, 2) := by decide +kernel
theorem d_Ns_sort_61 : decode (mB Y_Ns_sort) 61 = .ok (.iload_n 1, 1) := by decide +kernel
theorem d_Ns_sort_62 : decode (mB Y_Ns_sort) 62 = .ok (.if_icmp .eq 10, 3) := by decide +kernel
theorem d_Ns_sort_65 : decode (mB Y_Ns_sort) 65 = .ok (.iload_n 3, 1) := by decide +kernel
theorem d_Ns_sort_66 : decode (mB Y_Ns_sort) 66 = .ok (.iload 5, 2) := by decide +kernel
theorem d_Ns_sort_68 : decode (mB Y_Ns_sort) 68 = .ok (.invokestatic 48, 3) := by decide +kernel
theorem d_Ns_sort_71 : decode (mB Y_Ns_sort) 71 = .ok (.istore_n 3, 1) := by decide +kernel
theorem d_Ns_sort_72 : decode (mB Y_Ns_sort) 72 = .ok (.iinc 4 1, 3) := by decide +kernel
theorem d_Ns_sort_75 : decode (mB Y_Ns_sort) 75 = .ok (.goto (-64), 3) := by decide +kernel
theorem d_Ns_sort_78 : decode (mB Y_Ns_sort) 78 = .ok (.aload_n 0, 1) := by decide +kernel
theorem d_Ns_sort_79 : decode (mB Y_Ns_sort) 79 = .ok (.getfield 31, 3) := by decide +kernel
theorem d_Ns_sort_82 : decode (mB Y_Ns_sort) 82 = .ok (.iconst 0, 1) := by decide +kernel
theorem d_Ns_sort_83 : decode (mB Y_Ns_sort) 83 = .ok (.aload_n 0, 1) := by decide +kernel
theorem d_Ns_sort_84 : decode (mB Y_Ns_sort) 84 = .ok (.getfield 18, 3) := by decide +kernel
theorem d_Ns_sort_87 : decode (mB Y_Ns_sort) 87 = .ok (.iload_n 1, 1) := by decide +kernel
theorem d_Ns_sort_88 : decode (mB Y_Ns_sort) 88 = .ok (.iaload, 1) := by decide +kernel
theorem d_Ns_sort_89 : decode (mB Y_Ns_sort) 89 = .ok (.iastore, 1) := by decide +kernel
theorem d_Ns_sort_90 : decode (mB Y_Ns_sort) 90 = .ok (.aload_n 0, 1) := by decide +kernel
theorem d_Ns_sort_91 : decode (mB Y_Ns_sort) 91 = .ok (.getfield 31, 3) := by decide +kernel
theorem d_Ns_sort_94 : decode (mB Y_Ns_sort) 94 = .ok (.iconst 1, 1) := by decide +kernel
theorem d_Ns_sort_95 : decode (mB Y_Ns_sort) 95 = .ok (.aload_n 0, 1) := by decide +kernel
theorem d_Ns_sort_96 : decode (mB Y_Ns_sort) 96 = .ok (.getfield 22, 3) := by decide +kernel
theorem d_Ns_sort_99 : decode (mB Y_Ns_sort) 99 = .ok (.iload_n 1, 1) := by decide +kernel
theorem d_Ns_sort_100 : decode (mB Y_Ns_sort) 100 = .ok (.iaload, 1) := by decide +kernel
theorem d_Ns_sort_101 : decode (mB Y_Ns_sort) 101 = .ok (.iastore, 1) := by decide +kernel
theorem d_Ns_sort_102 : decode (mB Y_Ns_sort) 102 = .ok (.aload_n 0, 1) := by decide +kernel
theorem d_Ns_sort_103 : decode (mB Y_Ns_sort) 103 = .ok (.getfield 31, 3) := by decide +kernel
theorem d_Ns_sort_106 : decode (mB Y_Ns_sort) 106 = .ok (.iconst 2, 1) := by decide +kernel
theorem d_Ns_sort_107 : decode (mB Y_Ns_sort) 107 = .ok (.iload_n 2, 1) := by decide +kernel
theorem d_Ns_sort_108 : decode (mB Y_Ns_sort) 108 = .ok (.iastore, 1) := by decide +kernel
theorem d_Ns_sort_109 : decode (mB Y_Ns_sort) 109 = .ok (.aload_n 0, 1) := by decide +kernel
theorem d_Ns_sort_110 : decode (mB Y_Ns_sort) 110 = .ok (.getfield 31, 3) := by decide +kernel
theorem d_Ns_sort_113 : decode (mB Y_Ns_sort) 113 = .ok (.iconst 3, 1) := by decide +kernel
theorem d_Ns_sort_114 : decode (mB Y_Ns_sort) 114 = .ok (.iload_n 3, 1) := by decide +kernel
theorem d_Ns_sort_115 : decode (mB Y_Ns_sort) 115 = .ok (.iastore, 1) := by decide +kernel
theorem d_Ns_sort_116 : decode (mB Y_Ns_sort) 116 = .ok (.aload_n 0, 1) := by decide +kernel
theorem d_Ns_sort_117 : decode (mB Y_Ns_sort) 117 = .ok (.getfield 12, 3) := by decide +kernel
theorem d_Ns_sort_120 : decode (mB Y_Ns_sort) 120 = .ok (.aload_n 0, 1) := by decide +kernel
theorem d_Ns_sort_121 : decode (mB Y_Ns_sort) 121 = .ok (.getfield 31, 3) := by decide +kernel
theorem d_Ns_sort_124 : decode (mB Y_Ns_sort) 124 = .ok (.invokevirtual 52, 3) := by decide +kernel
theorem d_Ns_sort_127 : decode (mB Y_Ns_sort) 127 = .ok (.ireturn, 1) := by decide +kernel
theorem ro_Ns_sort_Ma_abs : roomy Y_Ns_sort Y_Ma_abs := ⟨Nat.le_of_ble_eq_true rfl, Nat.le_of_ble_eq_true rfl⟩
theorem ro_Ns_sort_Ma_min : roomy Y_Ns_sort Y_Ma_min := ⟨Nat.le_of_ble_eq_true rfl, Nat.le_of_ble_eq_true rfl⟩
theorem ro_Ns_sort_Ns_isAhead : roomy Y_Ns_sort Y_Ns_isAhead := ⟨Nat.le_of_ble_eq_true rfl, Nat.le_of_ble_eq_true rfl⟩
theorem ro_Ns_sort_Sc_decide : roomy Y_Ns_sort Y_Sc_decide := ⟨Nat.le_of_ble_eq_true rfl, Nat.le_of_ble_eq_true rfl⟩
def r_Ns_sort_L11 (y1_ : Int32) : Nat → Int32 → Int32 → Int32 → Sto → Option (Int32 × Int32 × Int32)
  | 0, _, _, _, _ => none
  | n + 1, x2_, x3_, x4_, S =>
    if (S 90 5) ≤ x4_ then
      some (x2_, x3_, x4_)
    else
      chk (inr x4_ 20) (
      chk (inr y1_ 20) (
      lt (r_Ma_abs ((S 96 x4_.toNatClampNeg) - (S 96 y1_.toNatClampNeg))) (fun v1 =>
      (r_Ns_isAhead x4_ y1_ S).bind (fun r2 =>
      jn (fun ((v3, v4) : Int32 × Int32) =>
        lt (x4_ + 1) (fun v5 =>
        r_Ns_sort_L11 y1_ n v3 v4 v5 S)) (fun j72 =>
      if r2 = 0 then
        if x4_ = y1_ then
          j72 (x2_, x3_)
        else
          lt (r_Ma_min x3_ v1) (fun v6 =>
          j72 (x2_, v6))
      else
        lt (r_Ma_min x2_ v1) (fun v7 =>
        j72 (v7, x3_)))))))
set_option maxHeartbeats 4000000 in
set_option maxRecDepth 20000 in
theorem w_Ns_sort_L11 {g : Gm} {G : Gl} {L : Shp} (C : Cx g Y_Ns_sort G) (hL : Ext L) (S : Sto) (y1_ : Int32)  :
    ∀ (n : Nat) (x2_ : Int32) (x3_ : Int32) (x4_ : Int32) (K : (Int32 × Int32 × Int32) → Option (Int32 × Sto)), (∀ (x2_ : Int32) (x3_ : Int32) (x4_ : Int32), VO g Y_Ns_sort G (fun z => Qm g Y_Ns_sort G (fi L z)) 0 0 78 [(0, rf G 90), (1, .int y1_), (2, .int x2_), (3, .int x3_)] [] L S (some (x2_, x3_, x4_)) K) → VO g Y_Ns_sort G (fun z => Qm g Y_Ns_sort G (fi L z)) 0 0 11 [(0, rf G 90), (1, .int y1_), (2, .int x2_), (3, .int x3_), (4, .int x4_)] [] L S (r_Ns_sort_L11 y1_ n x2_ x3_ x4_ S) K := by
  intro n
  induction n with
  | zero => intro x2_ x3_ x4_ K; intros; exact v_none
  | succ n ih =>
    intro x2_ x3_ x4_ K hK
    rw [r_Ns_sort_L11]
    refine v_iload (pc := 11) C d_Ns_sort_11 4 rfl ?_
    refine v_aload_n (pc := 13) C d_Ns_sort_13 rfl 0 rfl ?_
    refine v_getI (pc := 14) C fl_Ns_34 (sh_90 hL) rfl d_Ns_sort_14 ?_
    refine v_icmp_ge (pc := 17) (tgt := 78) C d_Ns_sort_17 rfl (fun _ => ?_) (fun _ => ?_)
    · refine v_sub [0, 1, 2, 3] rfl ?_
      exact hK x2_ x3_ x4_
    · refine v_aload_n (pc := 20) C d_Ns_sort_20 rfl 0 rfl ?_
      refine v_getR (pc := 21) C fl_Ns_25 (sh_90 hL) rfl d_Ns_sort_21 ?_
      refine v_iload (pc := 24) C d_Ns_sort_24 4 rfl ?_
      refine v_iald (pc := 26) C (sh_96 hL) d_Ns_sort_26 (fun _ => ?_)
      refine v_aload_n (pc := 27) C d_Ns_sort_27 rfl 0 rfl ?_
      refine v_getR (pc := 28) C fl_Ns_25 (sh_90 hL) rfl d_Ns_sort_28 ?_
      refine v_iload_n (pc := 31) C d_Ns_sort_31 rfl 1 rfl ?_
      refine v_iald (pc := 32) C (sh_96 hL) d_Ns_sort_32 (fun _ => ?_)
      refine v_isub (pc := 33) C d_Ns_sort_33 ?_
      refine v_ct (pc := 34) (inv_S (As := [.int ((S 96 x4_.toNatClampNeg) - (S 96 y1_.toNatClampNeg))]) (st := []) C ml_Ns_38 ms_Ma_abs ro_Ns_sort_Ma_abs rfl rfl (Nat.le_of_ble_eq_true rfl) d_Ns_sort_34) (c_Ma_abs hL S ((S 96 x4_.toNatClampNeg) - (S 96 y1_.toNatClampNeg))) ⟨rfl, rfl⟩ ⟨Nat.zero_le _, Nat.zero_le _⟩ ?_
      refine v_lt (fun v1 => ?_)
      refine v_istore (pc := 37) (lv' := [(5, .int v1), (0, rf G 90), (1, .int y1_), (2, .int x2_), (3, .int x3_), (4, .int x4_)]) C d_Ns_sort_37 (by decide) rfl ?_
      refine v_aload_n (pc := 39) C d_Ns_sort_39 rfl 1 rfl ?_
      refine v_iload (pc := 40) C d_Ns_sort_40 5 rfl ?_
      refine v_iload_n (pc := 42) C d_Ns_sort_42 rfl 2 rfl ?_
      refine v_cp (pc := 43) (inv_V (As := [.int x4_, .int y1_]) (st := []) C ml_Ns_44 mv_Ns_isAhead ro_Ns_sort_Ns_isAhead (sh_90 hL) rfl rfl rfl rfl (Nat.le_of_ble_eq_true rfl) d_Ns_sort_43) (c_Ns_isAhead hL S x4_ y1_) ⟨rfl, rfl⟩ ⟨Nat.zero_le _, Nat.zero_le _⟩ (fun r2 => ?_)
      refine v_jn (fun j => ∀ (v3 : Int32) (v4 : Int32), VO g Y_Ns_sort G (fun z => Qm g Y_Ns_sort G (fi L z)) 0 0 72 [(0, rf G 90), (1, .int y1_), (2, .int v3), (3, .int v4), (4, .int x4_)] [] L S (j (v3, v4)) K) (fun v3 v4 => ?_) (fun j72 hj72 => ?_)
      · refine v_iinc (pc := 72) (p := 4) (c := 1) C d_Ns_sort_72 rfl (by decide) (by decide) (fun v5 => [(4, .int v5), (0, rf G 90), (1, .int y1_), (2, .int v3), (3, .int v4)]) (fun _ => rfl) (fun v5 => ?_)
        refine v_goto (pc := 75) (tgt := 11) C d_Ns_sort_75 rfl ?_
        refine v_sub [1, 2, 3, 4, 0] rfl ?_
        exact ih v3 v4 v5 K hK
      · refine v_if_eq (pc := 46) (tgt := 59) C d_Ns_sort_46 rfl (fun _ => ?_) (fun _ => ?_)
        · refine v_iload (pc := 59) C d_Ns_sort_59 5 rfl ?_
          refine v_iload_n (pc := 61) C d_Ns_sort_61 rfl 2 rfl ?_
          refine v_icmp_eq (pc := 62) (tgt := 72) C d_Ns_sort_62 rfl (fun _ => ?_) (fun _ => ?_)
          · refine v_sub [1, 2, 3, 4, 5] rfl ?_
            exact hj72 x2_ x3_
          · refine v_iload_n (pc := 65) C d_Ns_sort_65 rfl 4 rfl ?_
            refine v_iload (pc := 66) C d_Ns_sort_66 0 rfl ?_
            refine v_ct (pc := 68) (inv_S (As := [.int x3_, .int v1]) (st := []) C ml_Ns_48 ms_Ma_min ro_Ns_sort_Ma_min rfl rfl (Nat.le_of_ble_eq_true rfl) d_Ns_sort_68) (c_Ma_min hL S x3_ v1) ⟨rfl, rfl⟩ ⟨Nat.zero_le _, Nat.zero_le _⟩ ?_
            refine v_lt (fun v6 => ?_)
            refine v_istore_n (pc := 71) (lv' := [(3, .int v6), (5, .int v1), (0, rf G 90), (1, .int y1_), (2, .int x2_), (4, .int x4_)]) C d_Ns_sort_71 rfl (by decide) rfl ?_
            refine v_sub [2, 3, 4, 0, 5] rfl ?_
            exact hj72 x2_ v6
        · refine v_iload_n (pc := 49) C d_Ns_sort_49 rfl 3 rfl ?_
          refine v_iload (pc := 50) C d_Ns_sort_50 0 rfl ?_
          refine v_ct (pc := 52) (inv_S (As := [.int x2_, .int v1]) (st := []) C ml_Ns_48 ms_Ma_min ro_Ns_sort_Ma_min rfl rfl (Nat.le_of_ble_eq_true rfl) d_Ns_sort_52) (c_Ma_min hL S x2_ v1) ⟨rfl, rfl⟩ ⟨Nat.zero_le _, Nat.zero_le _⟩ ?_
          refine v_lt (fun v7 => ?_)
          refine v_istore_n (pc := 55) (lv' := [(2, .int v7), (5, .int v1), (0, rf G 90), (1, .int y1_), (3, .int x3_), (4, .int x4_)]) C d_Ns_sort_55 rfl (by decide) rfl ?_
          refine v_goto (pc := 56) (tgt := 72) C d_Ns_sort_56 rfl ?_
          refine v_sub [2, 3, 0, 4, 5] rfl ?_
          exact hj72 v7 x3_
def r_Ns_sort (x1 : Int32) (S : Sto) : Option (Int32 × Sto) :=
  (r_Ns_sort_L11 x1 fu 9999 9999 0 S).bind (fun (v1, v2, v3) =>
  chk (inr x1 20) (
  chk (inr (0 : Int32) 4) (
  ltS (sw S 98 ((0 : Int32).toNatClampNeg) (S 94 x1.toNatClampNeg)) (fun S4 =>
  chk (inr x1 20) (
  chk (inr (1 : Int32) 4) (
  ltS (sw S4 98 ((1 : Int32).toNatClampNeg) (S4 95 x1.toNatClampNeg)) (fun S5 =>
  chk (inr (2 : Int32) 4) (
  ltS (sw S5 98 ((2 : Int32).toNatClampNeg) v1) (fun S6 =>
  chk (inr (3 : Int32) 4) (
  ltS (sw S6 98 ((3 : Int32).toNatClampNeg) v2) (fun S7 =>
  (r_Sc_decide 91 98 4 S7).bind (fun (r8, S9) =>
  some (r8, S9)))))))))))))
set_option maxHeartbeats 4000000 in
set_option maxRecDepth 20000 in
theorem c_Ns_sort {G : Gl} {L : Shp} (hL : Ext L) (S : Sto) (x1 : Int32)  : Ct Y_Ns_sort G [rf G 90, .int x1] L S (fi L) (r_Ns_sort x1 S) := by
  refine ct_of (by decide +kernel) (Nat.le_of_ble_eq_true rfl) (fun g C => ?_)
  show VO g Y_Ns_sort G (fun z => Qm g Y_Ns_sort G (fi L z)) 0 0 0 [(0, rf G 90), (1, .int x1)] [] L S (r_Ns_sort x1 S) some
  unfold r_Ns_sort
  refine v_sipush (pc := 0) C d_Ns_sort_0 sp_9999 ?_
  refine v_istore_n (pc := 3) (lv' := [(2, .int 9999), (0, rf G 90), (1, .int x1)]) C d_Ns_sort_3 rfl (by decide) rfl ?_
  refine v_sipush (pc := 4) C d_Ns_sort_4 sp_9999 ?_
  refine v_istore_n (pc := 7) (lv' := [(3, .int 9999), (2, .int 9999), (0, rf G 90), (1, .int x1)]) C d_Ns_sort_7 rfl (by decide) rfl ?_
  refine v_iconst (pc := 8) C d_Ns_sort_8 ic_0 ?_
  refine v_istore (pc := 9) (lv' := [(4, .int 0), (3, .int 9999), (2, .int 9999), (0, rf G 90), (1, .int x1)]) C d_Ns_sort_9 (by decide) rfl ?_
  refine v_sub [3, 4, 2, 1, 0] rfl ?_
  refine v_bind ?_
  refine w_Ns_sort_L11 C hL S x1  fu 9999 9999 0 _ (fun v1 v2 v3 => ?_) 
  refine v_some ?_
  refine v_aload_n (pc := 78) C d_Ns_sort_78 rfl 0 rfl ?_
  refine v_getR (pc := 79) C fl_Ns_31 (sh_90 hL) rfl d_Ns_sort_79 ?_
  refine v_iconst (pc := 82) C d_Ns_sort_82 ic_0 ?_
  refine v_aload_n (pc := 83) C d_Ns_sort_83 rfl 0 rfl ?_
  refine v_getR (pc := 84) C fl_Ns_18 (sh_90 hL) rfl d_Ns_sort_84 ?_
  refine v_iload_n (pc := 87) C d_Ns_sort_87 rfl 1 rfl ?_
  refine v_iald (pc := 88) C (sh_94 hL) d_Ns_sort_88 (fun _ => ?_)
  refine v_iast (pc := 89) C (sh_98 hL) d_Ns_sort_89 (fun _ S4 => ?_)
  refine v_aload_n (pc := 90) C d_Ns_sort_90 rfl 0 rfl ?_
  refine v_getR (pc := 91) C fl_Ns_31 (sh_90 hL) rfl d_Ns_sort_91 ?_
  refine v_iconst (pc := 94) C d_Ns_sort_94 ic_1 ?_
  refine v_aload_n (pc := 95) C d_Ns_sort_95 rfl 0 rfl ?_
  refine v_getR (pc := 96) C fl_Ns_22 (sh_90 hL) rfl d_Ns_sort_96 ?_
  refine v_iload_n (pc := 99) C d_Ns_sort_99 rfl 1 rfl ?_
  refine v_iald (pc := 100) C (sh_95 hL) d_Ns_sort_100 (fun _ => ?_)
  refine v_iast (pc := 101) C (sh_98 hL) d_Ns_sort_101 (fun _ S5 => ?_)
  refine v_aload_n (pc := 102) C d_Ns_sort_102 rfl 0 rfl ?_
  refine v_getR (pc := 103) C fl_Ns_31 (sh_90 hL) rfl d_Ns_sort_103 ?_
  refine v_iconst (pc := 106) C d_Ns_sort_106 ic_2 ?_
  refine v_iload_n (pc := 107) C d_Ns_sort_107 rfl 2 rfl ?_
  refine v_iast (pc := 108) C (sh_98 hL) d_Ns_sort_108 (fun _ S6 => ?_)
  refine v_aload_n (pc := 109) C d_Ns_sort_109 rfl 0 rfl ?_
  refine v_getR (pc := 110) C fl_Ns_31 (sh_90 hL) rfl d_Ns_sort_110 ?_
  refine v_iconst (pc := 113) C d_Ns_sort_113 ic_3 ?_
  refine v_iload_n (pc := 114) C d_Ns_sort_114 rfl 3 rfl ?_
  refine v_iast (pc := 115) C (sh_98 hL) d_Ns_sort_115 (fun _ S7 => ?_)
  refine v_aload_n (pc := 116) C d_Ns_sort_116 rfl 0 rfl ?_
  refine v_getR (pc := 117) C fl_Ns_12 (sh_90 hL) rfl d_Ns_sort_117 ?_
  refine v_aload_n (pc := 120) C d_Ns_sort_120 rfl 0 rfl ?_
  refine v_getR (pc := 121) C fl_Ns_31 (sh_90 hL) rfl d_Ns_sort_121 ?_
  refine v_ci (pc := 124) (inv_V (As := [rf G 98]) (st := []) C ml_Ns_52 mv_Sc_decide ro_Ns_sort_Sc_decide (sh_91 hL) rfl rfl rfl rfl (Nat.le_of_ble_eq_true rfl) d_Ns_sort_124) (c_Sc_decide hL S7 91 98 4 (rules_at hL) (sh_98 hL)) ⟨rfl, rfl⟩ ⟨Nat.zero_le _, Nat.zero_le _⟩ (fun r8 S9 => ?_)
  exact v_iret (z := (r8, S9)) C d_Ns_sort_127 rfl ⟨Nat.zero_le _, Nat.zero_le _⟩ (rfl) rfl
