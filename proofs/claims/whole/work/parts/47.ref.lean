-- M_fitted
theorem d_M_fitted_0 : decode (mB Y_M_fitted) 0 = .ok (.iconst 0, 1) := by decide +kernel
theorem d_M_fitted_1 : decode (mB Y_M_fitted) 1 = .ok (.istore_n 3, 1) := by decide +kernel
theorem d_M_fitted_2 : decode (mB Y_M_fitted) 2 = .ok (.iconst 0, 1) := by decide +kernel
theorem d_M_fitted_3 : decode (mB Y_M_fitted) 3 = .ok (.istore 4, 2) := by decide +kernel
theorem d_M_fitted_5 : decode (mB Y_M_fitted) 5 = .ok (.iload 4, 2) := by decide +kernel
theorem d_M_fitted_7 : decode (mB Y_M_fitted) 7 = .ok (.aload_n 0, 1) := by decide +kernel
theorem d_M_fitted_8 : decode (mB Y_M_fitted) 8 = .ok (.getfield 359, 3) := by decide +kernel
theorem d_M_fitted_11 : decode (mB Y_M_fitted) 11 = .ok (.if_icmp .ge 85, 3) := by decide +kernel
theorem d_M_fitted_14 : decode (mB Y_M_fitted) 14 = .ok (.iconst 0, 1) := by decide +kernel
theorem d_M_fitted_15 : decode (mB Y_M_fitted) 15 = .ok (.istore 5, 2) := by decide +kernel
theorem d_M_fitted_17 : decode (mB Y_M_fitted) 17 = .ok (.iconst 0, 1) := by decide +kernel
theorem d_M_fitted_18 : decode (mB Y_M_fitted) 18 = .ok (.istore 6, 2) := by decide +kernel
theorem d_M_fitted_20 : decode (mB Y_M_fitted) 20 = .ok (.iload 6, 2) := by decide +kernel
theorem d_M_fitted_22 : decode (mB Y_M_fitted) 22 = .ok (.aload_n 0, 1) := by decide +kernel
theorem d_M_fitted_23 : decode (mB Y_M_fitted) 23 = .ok (.getfield 202, 3) := by decide +kernel
theorem d_M_fitted_26 : decode (mB Y_M_fitted) 26 = .ok (.if_icmp .ge 55, 3) := by decide +kernel
theorem d_M_fitted_29 : decode (mB Y_M_fitted) 29 = .ok (.iload 5, 2) := by decide +kernel
theorem d_M_fitted_31 : decode (mB Y_M_fitted) 31 = .ok (.ifCond .ne 37, 3) := by decide +kernel
theorem d_M_fitted_34 : decode (mB Y_M_fitted) 34 = .ok (.aload_n 0, 1) := by decide +kernel
theorem d_M_fitted_35 : decode (mB Y_M_fitted) 35 = .ok (.getfield 99, 3) := by decide +kernel
theorem d_M_fitted_38 : decode (mB Y_M_fitted) 38 = .ok (.iload_n 2, 1) := by decide +kernel
theorem d_M_fitted_39 : decode (mB Y_M_fitted) 39 = .ok (.iaload, 1) := by decide +kernel
theorem d_M_fitted_40 : decode (mB Y_M_fitted) 40 = .ok (.iload 6, 2) := by decide +kernel
theorem d_M_fitted_42 : decode (mB Y_M_fitted) 42 = .ok (.ishr, 1) := by decide +kernel
theorem d_M_fitted_43 : decode (mB Y_M_fitted) 43 = .ok (.iconst 1, 1) := by decide +kernel
theorem d_M_fitted_44 : decode (mB Y_M_fitted) 44 = .ok (.iand, 1) := by decide +kernel
theorem d_M_fitted_45 : decode (mB Y_M_fitted) 45 = .ok (.iconst 1, 1) := by decide +kernel
theorem d_M_fitted_46 : decode (mB Y_M_fitted) 46 = .ok (.if_icmp .ne 26, 3) := by decide +kernel
theorem d_M_fitted_49 : decode (mB Y_M_fitted) 49 = .ok (.aload_n 0, 1) := by decide +kernel
theorem d_M_fitted_50 : decode (mB Y_M_fitted) 50 = .ok (.iload_n 1, 1) := by decide +kernel
theorem d_M_fitted_51 : decode (mB Y_M_fitted) 51 = .ok (.iload 4, 2) := by decide +kernel
theorem d_M_fitted_53 : decode (mB Y_M_fitted) 53 = .ok (.iload 6, 2) := by decide +kernel
theorem d_M_fitted_55 : decode (mB Y_M_fitted) 55 = .ok (.invokevirtual 375, 3) := by decide +kernel
theorem d_M_fitted_58 : decode (mB Y_M_fitted) 58 = .ok (.aload_n 0, 1) := by decide +kernel
theorem d_M_fitted_59 : decode (mB Y_M_fitted) 59 = .ok (.getfield 96, 3) := by decide +kernel
theorem d_M_fitted_62 : decode (mB Y_M_fitted) 62 = .ok (.iload 4, 2) := by decide +kernel
theorem d_M_fitted_64 : decode (mB Y_M_fitted) 64 = .ok (.iaload, 1) := by decide +kernel
theorem d_M_fitted_65 : decode (mB Y_M_fitted) 65 = .ok (.if_icmp .ne 7, 3) := by decide +kernel
theorem d_M_fitted_68 : decode (mB Y_M_fitted) 68 = .ok (.iconst 1, 1) := by decide +kernel
theorem d_M_fitted_69 : decode (mB Y_M_fitted) 69 = .ok (.goto 4, 3) := by decide +kernel
theorem d_M_fitted_72 : decode (mB Y_M_fitted) 72 = .ok (.iconst 0, 1) := by decide +kernel
theorem d_M_fitted_73 : decode (mB Y_M_fitted) 73 = .ok (.istore 5, 2) := by decide +kernel
theorem d_M_fitted_75 : decode (mB Y_M_fitted) 75 = .ok (.iinc 6 1, 3) := by decide +kernel
theorem d_M_fitted_78 : decode (mB Y_M_fitted) 78 = .ok (.goto (-58), 3) := by decide +kernel
theorem d_M_fitted_81 : decode (mB Y_M_fitted) 81 = .ok (.iload 5, 2) := by decide +kernel
theorem d_M_fitted_83 : decode (mB Y_M_fitted) 83 = .ok (.ifCond .eq 7, 3) := by decide +kernel
theorem d_M_fitted_86 : decode (mB Y_M_fitted) 86 = .ok (.iload_n 3, 1) := by decide +kernel
theorem d_M_fitted_87 : decode (mB Y_M_fitted) 87 = .ok (.iconst 1, 1) := by decide +kernel
theorem d_M_fitted_88 : decode (mB Y_M_fitted) 88 = .ok (.iadd, 1) := by decide +kernel
theorem d_M_fitted_89 : decode (mB Y_M_fitted) 89 = .ok (.istore_n 3, 1) := by decide +kernel
theorem d_M_fitted_90 : decode (mB Y_M_fitted) 90 = .ok (.iinc 4 1, 3) := by decide +kernel
theorem d_M_fitted_93 : decode (mB Y_M_fitted) 93 = .ok (.goto (-88), 3) := by decide +kernel
theorem d_M_fitted_96 : decode (mB Y_M_fitted) 96 = .ok (.iload_n 3, 1) := by decide +kernel
theorem d_M_fitted_97 : decode (mB Y_M_fitted) 97 = .ok (.ireturn, 1) := by decide +kernel
theorem ro_M_fitted_M_turnsOf : roomy Y_M_fitted Y_M_turnsOf := ⟨Nat.le_of_ble_eq_true rfl, Nat.le_of_ble_eq_true rfl⟩
def r_M_fitted_L20 (y1_ : Int32) (y2_ : Int32) (y3_ : Int32) (y4_ : Int32) : Nat → Int32 → Int32 → Sto → Option (Int32 × Int32 × Sto)
  | 0, _, _, _ => none
  | n + 1, x5_, x6_, S =>
    if (S 104 12) ≤ x6_ then
      some (x5_, x6_, S)
    else
      jn (fun ((v1, S2) : Int32 × Sto) =>
        lt (x6_ + 1) (fun v3 =>
        r_M_fitted_L20 y1_ y2_ y3_ y4_ n v1 v3 S2)) (fun j73 =>
      if x5_ = 0 then
        chk (inr y2_ 6) (
        if (((S 131 y2_.toNatClampNeg) >>> (x6_ &&& 31)) &&& 1) = 1 then
          (r_M_turnsOf y1_ y4_ x6_ S).bind (fun (r4, S5) =>
          chk (inr y4_ 20) (
          if r4 = (S5 130 y4_.toNatClampNeg) then
            j73 (1, S5)
          else
            j73 (0, S5)))
        else
          j73 (0, S))
      else
        j73 (1, S))
def r_M_fitted_L5 (y1_ : Int32) (y2_ : Int32) : Nat → Int32 → Int32 → Sto → Option (Int32 × Int32 × Sto)
  | 0, _, _, _ => none
  | n + 1, x3_, x4_, S =>
    if (S 104 50) ≤ x4_ then
      some (x3_, x4_, S)
    else
      (r_M_fitted_L20 y1_ y2_ x3_ x4_ fu 0 0 S).bind (fun (v1, v2, S3) =>
      jn (fun (v4 : Int32) =>
        lt (x4_ + 1) (fun v5 =>
        r_M_fitted_L5 y1_ y2_ n v4 v5 S3)) (fun j90 =>
      if v1 = 0 then
        j90 (x3_)
      else
        lt (x3_ + 1) (fun v6 =>
        j90 (v6))))
set_option maxHeartbeats 4000000 in
set_option maxRecDepth 20000 in
theorem w_M_fitted_L20 {g : Gm} {G : Gl} {L : Shp} (C : Cx g Y_M_fitted G) (hL : Ext L) (y1_ : Int32) (y2_ : Int32) (y3_ : Int32) (y4_ : Int32)  :
    ∀ (n : Nat) (x5_ : Int32) (x6_ : Int32) (S : Sto) (K : (Int32 × Int32 × Sto) → Option (Int32 × Sto)), (∀ (x5_ : Int32) (x6_ : Int32) (S : Sto), VO g Y_M_fitted G (fun z => Qm g Y_M_fitted G (fi L z)) 0 0 81 [(0, rf G 104), (1, .int y1_), (2, .int y2_), (3, .int y3_), (4, .int y4_), (5, .int x5_)] [] L S (some (x5_, x6_, S)) K) → VO g Y_M_fitted G (fun z => Qm g Y_M_fitted G (fi L z)) 0 0 20 [(0, rf G 104), (1, .int y1_), (2, .int y2_), (3, .int y3_), (4, .int y4_), (5, .int x5_), (6, .int x6_)] [] L S (r_M_fitted_L20 y1_ y2_ y3_ y4_ n x5_ x6_ S) K := by
  intro n
  induction n with
  | zero => intro x5_ x6_ S K; intros; exact v_none
  | succ n ih =>
    intro x5_ x6_ S K hK
    rw [r_M_fitted_L20]
    refine v_iload (pc := 20) C d_M_fitted_20 6 rfl ?_
    refine v_aload_n (pc := 22) C d_M_fitted_22 rfl 0 rfl ?_
    refine v_getI (pc := 23) C fl_M_202 (sh_104 hL) rfl d_M_fitted_23 ?_
    refine v_icmp_ge (pc := 26) (tgt := 81) C d_M_fitted_26 rfl (fun _ => ?_) (fun _ => ?_)
    · refine v_sub [0, 1, 2, 3, 4, 5] rfl ?_
      exact hK x5_ x6_ S
    · refine v_iload (pc := 29) C d_M_fitted_29 5 rfl ?_
      refine v_jn (fun j => ∀ (v1 : Int32) (S2 : Sto), VO g Y_M_fitted G (fun z => Qm g Y_M_fitted G (fi L z)) 0 0 73 [(0, rf G 104), (1, .int y1_), (2, .int y2_), (3, .int y3_), (4, .int y4_), (6, .int x6_)] [.int v1] L S2 (j (v1, S2)) K) (fun v1 S2 => ?_) (fun j73 hj73 => ?_)
      · refine v_istore (pc := 73) (lv' := [(5, .int v1), (0, rf G 104), (1, .int y1_), (2, .int y2_), (3, .int y3_), (4, .int y4_), (6, .int x6_)]) C d_M_fitted_73 (by decide) rfl ?_
        refine v_iinc (pc := 75) (p := 6) (c := 1) C d_M_fitted_75 rfl (by decide) (by decide) (fun v3 => [(6, .int v3), (5, .int v1), (0, rf G 104), (1, .int y1_), (2, .int y2_), (3, .int y3_), (4, .int y4_)]) (fun _ => rfl) (fun v3 => ?_)
        refine v_goto (pc := 78) (tgt := 20) C d_M_fitted_78 rfl ?_
        refine v_sub [2, 3, 4, 5, 6, 1, 0] rfl ?_
        exact ih v1 v3 S2 K hK
      · refine v_if_ne (pc := 31) (tgt := 68) C d_M_fitted_31 rfl (fun _ => ?_) (fun _ => ?_)
        · refine v_iconst (pc := 68) C d_M_fitted_68 ic_1 ?_
          refine v_goto (pc := 69) (tgt := 73) C d_M_fitted_69 rfl ?_
          refine v_sub [0, 1, 2, 3, 4, 6] rfl ?_
          exact hj73 1 S
        · refine v_aload_n (pc := 34) C d_M_fitted_34 rfl 0 rfl ?_
          refine v_getR (pc := 35) C fl_M_99 (sh_104 hL) rfl d_M_fitted_35 ?_
          refine v_iload_n (pc := 38) C d_M_fitted_38 rfl 2 rfl ?_
          refine v_iald (pc := 39) C (sh_131 hL) d_M_fitted_39 (fun _ => ?_)
          refine v_iload (pc := 40) C d_M_fitted_40 6 rfl ?_
          refine v_ishr (pc := 42) C d_M_fitted_42 ?_
          refine v_iconst (pc := 43) C d_M_fitted_43 ic_1 ?_
          refine v_iand (pc := 44) C d_M_fitted_44 ?_
          refine v_iconst (pc := 45) C d_M_fitted_45 ic_1 ?_
          refine v_icmp_ne (pc := 46) (tgt := 72) C d_M_fitted_46 rfl (fun _ => ?_) (fun _ => ?_)
          · refine v_iconst (pc := 72) C d_M_fitted_72 ic_0 ?_
            refine v_sub [0, 1, 2, 3, 4, 6] rfl ?_
            exact hj73 0 S
          · refine v_aload_n (pc := 49) C d_M_fitted_49 rfl 0 rfl ?_
            refine v_iload_n (pc := 50) C d_M_fitted_50 rfl 1 rfl ?_
            refine v_iload (pc := 51) C d_M_fitted_51 4 rfl ?_
            refine v_iload (pc := 53) C d_M_fitted_53 6 rfl ?_
            refine v_ci (pc := 55) (inv_V (As := [.int y1_, .int y4_, .int x6_]) (st := []) C ml_M_375 mv_M_turnsOf ro_M_fitted_M_turnsOf (sh_104 hL) rfl rfl rfl rfl (Nat.le_of_ble_eq_true rfl) d_M_fitted_55) (c_M_turnsOf hL S y1_ y4_ x6_) ⟨rfl, rfl⟩ ⟨Nat.zero_le _, Nat.zero_le _⟩ (fun r4 S5 => ?_)
            refine v_aload_n (pc := 58) C d_M_fitted_58 rfl 0 rfl ?_
            refine v_getR (pc := 59) C fl_M_96 (sh_104 hL) rfl d_M_fitted_59 ?_
            refine v_iload (pc := 62) C d_M_fitted_62 4 rfl ?_
            refine v_iald (pc := 64) C (sh_130 hL) d_M_fitted_64 (fun _ => ?_)
            refine v_icmp_ne (pc := 65) (tgt := 72) C d_M_fitted_65 rfl (fun _ => ?_) (fun _ => ?_)
            · refine v_iconst (pc := 72) C d_M_fitted_72 ic_0 ?_
              refine v_sub [0, 1, 2, 3, 4, 6] rfl ?_
              exact hj73 0 S5
            · refine v_iconst (pc := 68) C d_M_fitted_68 ic_1 ?_
              refine v_goto (pc := 69) (tgt := 73) C d_M_fitted_69 rfl ?_
              refine v_sub [0, 1, 2, 3, 4, 6] rfl ?_
              exact hj73 1 S5
set_option maxHeartbeats 4000000 in
set_option maxRecDepth 20000 in
theorem w_M_fitted_L5 {g : Gm} {G : Gl} {L : Shp} (C : Cx g Y_M_fitted G) (hL : Ext L) (y1_ : Int32) (y2_ : Int32)  :
    ∀ (n : Nat) (x3_ : Int32) (x4_ : Int32) (S : Sto) (K : (Int32 × Int32 × Sto) → Option (Int32 × Sto)), (∀ (x3_ : Int32) (x4_ : Int32) (S : Sto), VO g Y_M_fitted G (fun z => Qm g Y_M_fitted G (fi L z)) 0 0 96 [(3, .int x3_)] [] L S (some (x3_, x4_, S)) K) → VO g Y_M_fitted G (fun z => Qm g Y_M_fitted G (fi L z)) 0 0 5 [(0, rf G 104), (1, .int y1_), (2, .int y2_), (3, .int x3_), (4, .int x4_)] [] L S (r_M_fitted_L5 y1_ y2_ n x3_ x4_ S) K := by
  intro n
  induction n with
  | zero => intro x3_ x4_ S K; intros; exact v_none
  | succ n ih =>
    intro x3_ x4_ S K hK
    rw [r_M_fitted_L5]
    refine v_iload (pc := 5) C d_M_fitted_5 4 rfl ?_
    refine v_aload_n (pc := 7) C d_M_fitted_7 rfl 0 rfl ?_
    refine v_getI (pc := 8) C fl_M_359 (sh_104 hL) rfl d_M_fitted_8 ?_
    refine v_icmp_ge (pc := 11) (tgt := 96) C d_M_fitted_11 rfl (fun _ => ?_) (fun _ => ?_)
    · refine v_sub [3] rfl ?_
      exact hK x3_ x4_ S
    · refine v_iconst (pc := 14) C d_M_fitted_14 ic_0 ?_
      refine v_istore (pc := 15) (lv' := [(5, .int 0), (0, rf G 104), (1, .int y1_), (2, .int y2_), (3, .int x3_), (4, .int x4_)]) C d_M_fitted_15 (by decide) rfl ?_
      refine v_iconst (pc := 17) C d_M_fitted_17 ic_0 ?_
      refine v_istore (pc := 18) (lv' := [(6, .int 0), (5, .int 0), (0, rf G 104), (1, .int y1_), (2, .int y2_), (3, .int x3_), (4, .int x4_)]) C d_M_fitted_18 (by decide) rfl ?_
      refine v_sub [2, 3, 4, 5, 6, 1, 0] rfl ?_
      refine v_bind ?_
      refine w_M_fitted_L20 C hL y1_ y2_ x3_ x4_  fu 0 0 S _ (fun v1 v2 S3 => ?_) 
      refine v_some ?_
      refine v_iload (pc := 81) C d_M_fitted_81 5 rfl ?_
      refine v_jn (fun j => ∀ (v4 : Int32), VO g Y_M_fitted G (fun z => Qm g Y_M_fitted G (fi L z)) 0 0 90 [(0, rf G 104), (1, .int y1_), (2, .int y2_), (3, .int v4), (4, .int x4_)] [] L S3 (j (v4)) K) (fun v4 => ?_) (fun j90 hj90 => ?_)
      · refine v_iinc (pc := 90) (p := 4) (c := 1) C d_M_fitted_90 rfl (by decide) (by decide) (fun v5 => [(4, .int v5), (0, rf G 104), (1, .int y1_), (2, .int y2_), (3, .int v4)]) (fun _ => rfl) (fun v5 => ?_)
        refine v_goto (pc := 93) (tgt := 5) C d_M_fitted_93 rfl ?_
        refine v_sub [1, 2, 3, 4, 0] rfl ?_
        exact ih v4 v5 S3 K hK
      · refine v_if_eq (pc := 83) (tgt := 90) C d_M_fitted_83 rfl (fun _ => ?_) (fun _ => ?_)
        · refine v_sub [0, 1, 2, 3, 4] rfl ?_
          exact hj90 x3_
        · refine v_iload_n (pc := 86) C d_M_fitted_86 rfl 3 rfl ?_
          refine v_iconst (pc := 87) C d_M_fitted_87 ic_1 ?_
          refine v_iadd (pc := 88) C d_M_fitted_88 ?_
          refine v_lt (fun v6 => ?_)
          refine v_istore_n (pc := 89) (lv' := [(3, .int v6), (0, rf G 104), (1, .int y1_), (2, .int y2_), (4, .int x4_), (5, .int v1)]) C d_M_fitted_89 rfl (by decide) rfl ?_
          refine v_sub [1, 2, 3, 0, 4] rfl ?_
          exact hj90 v6
def r_M_fitted (x1 : Int32) (x2 : Int32) (S : Sto) : Option (Int32 × Sto) :=
  (r_M_fitted_L5 x1 x2 fu 0 0 S).bind (fun (v1, v2, S3) =>
  some (v1, S3))
set_option maxHeartbeats 4000000 in
set_option maxRecDepth 20000 in
theorem c_M_fitted {G : Gl} {L : Shp} (hL : Ext L) (S : Sto) (x1 : Int32) (x2 : Int32)  : Ct Y_M_fitted G [rf G 104, .int x1, .int x2] L S (fi L) (r_M_fitted x1 x2 S) := by
  refine ct_of (by decide +kernel) (Nat.le_of_ble_eq_true rfl) (fun g C => ?_)
  show VO g Y_M_fitted G (fun z => Qm g Y_M_fitted G (fi L z)) 0 0 0 [(0, rf G 104), (1, .int x1), (2, .int x2)] [] L S (r_M_fitted x1 x2 S) some
  unfold r_M_fitted
  refine v_iconst (pc := 0) C d_M_fitted_0 ic_0 ?_
  refine v_istore_n (pc := 1) (lv' := [(3, .int 0), (0, rf G 104), (1, .int x1), (2, .int x2)]) C d_M_fitted_1 rfl (by decide) rfl ?_
  refine v_iconst (pc := 2) C d_M_fitted_2 ic_0 ?_
  refine v_istore (pc := 3) (lv' := [(4, .int 0), (3, .int 0), (0, rf G 104), (1, .int x1), (2, .int x2)]) C d_M_fitted_3 (by decide) rfl ?_
  refine v_sub [2, 3, 4, 1, 0] rfl ?_
  refine v_bind ?_
  refine w_M_fitted_L5 C hL x1 x2  fu 0 0 S _ (fun v1 v2 S3 => ?_) 
  refine v_some ?_
  refine v_iload_n (pc := 96) C d_M_fitted_96 rfl 0 rfl ?_
  exact v_iret (z := (v1, S3)) C d_M_fitted_97 rfl ⟨Nat.zero_le _, Nat.zero_le _⟩ (rfl) rfl
-- M_stories
theorem d_M_stories_0 : decode (mB Y_M_stories) 0 = .ok (.aload_n 0, 1) := by decide +kernel
theorem d_M_stories_1 : decode (mB Y_M_stories) 1 = .ok (.iconst 0, 1) := by decide +kernel
theorem d_M_stories_2 : decode (mB Y_M_stories) 2 = .ok (.putfield 150, 3) := by decide +kernel
theorem d_M_stories_5 : decode (mB Y_M_stories) 5 = .ok (.aload_n 0, 1) := by decide +kernel
theorem d_M_stories_6 : decode (mB Y_M_stories) 6 = .ok (.iload_n 1, 1) := by decide +kernel
theorem d_M_stories_7 : decode (mB Y_M_stories) 7 = .ok (.invokevirtual 372, 3) := by decide +kernel
theorem d_M_stories_10 : decode (mB Y_M_stories) 10 = .ok (.ifCond .eq 14, 3) := by decide +kernel
theorem d_M_stories_13 : decode (mB Y_M_stories) 13 = .ok (.aload_n 0, 1) := by decide +kernel
theorem d_M_stories_14 : decode (mB Y_M_stories) 14 = .ok (.iload_n 2, 1) := by decide +kernel
theorem d_M_stories_15 : decode (mB Y_M_stories) 15 = .ok (.iconst 0, 1) := by decide +kernel
theorem d_M_stories_16 : decode (mB Y_M_stories) 16 = .ok (.bipush 6, 2) := by decide +kernel
theorem d_M_stories_18 : decode (mB Y_M_stories) 18 = .ok (.invokevirtual 153, 3) := by decide +kernel
theorem d_M_stories_21 : decode (mB Y_M_stories) 21 = .ok (.ifCond .ne 5, 3) := by decide +kernel
theorem d_M_stories_24 : decode (mB Y_M_stories) 24 = .ok (.iconst (-1), 1) := by decide +kernel
theorem d_M_stories_25 : decode (mB Y_M_stories) 25 = .ok (.ireturn, 1) := by decide +kernel
theorem d_M_stories_26 : decode (mB Y_M_stories) 26 = .ok (.iload_n 2, 1) := by decide +kernel
theorem d_M_stories_27 : decode (mB Y_M_stories) 27 = .ok (.bipush 6, 2) := by decide +kernel
theorem d_M_stories_29 : decode (mB Y_M_stories) 29 = .ok (.if_icmp .ge 10, 3) := by decide +kernel
theorem d_M_stories_32 : decode (mB Y_M_stories) 32 = .ok (.aload_n 0, 1) := by decide +kernel
theorem d_M_stories_33 : decode (mB Y_M_stories) 33 = .ok (.iload_n 1, 1) := by decide +kernel
theorem d_M_stories_34 : decode (mB Y_M_stories) 34 = .ok (.iload_n 2, 1) := by decide +kernel
theorem d_M_stories_35 : decode (mB Y_M_stories) 35 = .ok (.invokevirtual 378, 3) := by decide +kernel
theorem d_M_stories_38 : decode (mB Y_M_stories) 38 = .ok (.ireturn, 1) := by decide +kernel
theorem d_M_stories_39 : decode (mB Y_M_stories) 39 = .ok (.iconst (-1), 1) := by decide +kernel
theorem d_M_stories_40 : decode (mB Y_M_stories) 40 = .ok (.istore_n 3, 1) := by decide +kernel
theorem d_M_stories_41 : decode (mB Y_M_stories) 41 = .ok (.iconst (-1), 1) := by decide +kernel
theorem d_M_stories_42 : decode (mB Y_M_stories) 42 = .ok (.istore 4, 2) := by decide +kernel
theorem d_M_stories_44 : decode (mB Y_M_stories) 44 = .ok (.iconst 0, 1) := by decide +kernel
theorem d_M_stories_45 : decode (mB Y_M_stories) 45 = .ok (.istore 5, 2) := by decide +kernel
theorem d_M_stories_47 : decode (mB Y_M_stories) 47 = .ok (.iload 5, 2) := by decide +kernel
theorem d_M_stories_49 : decode (mB Y_M_stories) 49 = .ok (.bipush 6, 2) := by decide +kernel
theorem d_M_stories_51 : decode (mB Y_M_stories) 51 = .ok (.if_icmp .ge 48, 3) := by decide +kernel
theorem d_M_stories_54 : decode (mB Y_M_stories) 54 = .ok (.aload_n 0, 1) := by decide +kernel
theorem d_M_stories_55 : decode (mB Y_M_stories) 55 = .ok (.getfield 99, 3) := by decide +kernel
theorem d_M_stories_58 : decode (mB Y_M_stories) 58 = .ok (.iload 5, 2) := by decide +kernel
theorem d_M_stories_60 : decode (mB Y_M_stories) 60 = .ok (.iaload, 1) := by decide +kernel
theorem d_M_stories_61 : decode (mB Y_M_stories) 61 = .ok (.ifCond .ne 6, 3) := by decide +kernel
theorem d_M_stories_64 : decode (mB Y_M_stories) 64 = .ok (.goto 29, 3) := by decide +kernel
theorem d_M_stories_67 : decode (mB Y_M_stories) 67 = .ok (.aload_n 0, 1) := by decide +kernel
theorem d_M_stories_68 : decode (mB Y_M_stories) 68 = .ok (.iload_n 1, 1) := by decide +kernel
theorem d_M_stories_69 : decode (mB Y_M_stories) 69 = .ok (.iload 5, 2) := by decide +kernel
theorem d_M_stories_71 : decode (mB Y_M_stories) 71 = .ok (.invokevirtual 378, 3) := by decide +kernel
theorem d_M_stories_74 : decode (mB Y_M_stories) 74 = .ok (.istore 6, 2) := by decide +kernel
theorem d_M_stories_76 : decode (mB Y_M_stories) 76 = .ok (.iload 6, 2) := by decide +kernel
theorem d_M_stories_78 : decode (mB Y_M_stories) 78 = .ok (.iload 4, 2) := by decide +kernel
theorem d_M_stories_80 : decode (mB Y_M_stories) 80 = .ok (.if_icmp .gt 6, 3) := by decide +kernel
theorem d_M_stories_83 : decode (mB Y_M_stories) 83 = .ok (.goto 10, 3) := by decide +kernel
theorem d_M_stories_86 : decode (mB Y_M_stories) 86 = .ok (.iload 5, 2) := by decide +kernel
theorem d_M_stories_88 : decode (mB Y_M_stories) 88 = .ok (.istore_n 3, 1) := by decide +kernel
theorem d_M_stories_89 : decode (mB Y_M_stories) 89 = .ok (.iload 6, 2) := by decide +kernel
theorem d_M_stories_91 : decode (mB Y_M_stories) 91 = .ok (.istore 4, 2) := by decide +kernel
theorem d_M_stories_93 : decode (mB Y_M_stories) 93 = .ok (.iinc 5 1, 3) := by decide +kernel
theorem d_M_stories_96 : decode (mB Y_M_stories) 96 = .ok (.goto (-49), 3) := by decide +kernel
theorem d_M_stories_99 : decode (mB Y_M_stories) 99 = .ok (.iload_n 3, 1) := by decide +kernel
theorem d_M_stories_100 : decode (mB Y_M_stories) 100 = .ok (.ireturn, 1) := by decide +kernel
theorem ro_M_stories_M_fitted : roomy Y_M_stories Y_M_fitted := ⟨Nat.le_of_ble_eq_true rfl, Nat.le_of_ble_eq_true rfl⟩
theorem ro_M_stories_M_isIn : roomy Y_M_stories Y_M_isIn := ⟨Nat.le_of_ble_eq_true rfl, Nat.le_of_ble_eq_true rfl⟩
theorem ro_M_stories_M_isLaw : roomy Y_M_stories Y_M_isLaw := ⟨Nat.le_of_ble_eq_true rfl, Nat.le_of_ble_eq_true rfl⟩
def r_M_stories_L47 (y1_ : Int32) : Nat → Int32 → Int32 → Int32 → Sto → Option (Int32 × Int32 × Int32 × Sto)
  | 0, _, _, _, _ => none
  | n + 1, x3_, x4_, x5_, S =>
    if 6 ≤ x5_ then
      some (x3_, x4_, x5_, S)
    else
      chk (inr x5_ 6) (
      jn (fun ((v1, v2, S3) : Int32 × Int32 × Sto) =>
        lt (x5_ + 1) (fun v4 =>
        r_M_stories_L47 y1_ n v1 v2 v4 S3)) (fun j93 =>
      if (S 131 x5_.toNatClampNeg) = 0 then
        j93 (x3_, x4_, S)
      else
        (r_M_fitted y1_ x5_ S).bind (fun (r5, S6) =>
        if x4_ < r5 then
          j93 (x5_, r5, S6)
        else
          j93 (x3_, x4_, S6))))
set_option maxHeartbeats 4000000 in
set_option maxRecDepth 20000 in
theorem w_M_stories_L47 {g : Gm} {G : Gl} {L : Shp} (C : Cx g Y_M_stories G) (hL : Ext L) (y1_ : Int32)  :
    ∀ (n : Nat) (x3_ : Int32) (x4_ : Int32) (x5_ : Int32) (S : Sto) (K : (Int32 × Int32 × Int32 × Sto) → Option (Int32 × Sto)), (∀ (x3_ : Int32) (x4_ : Int32) (x5_ : Int32) (S : Sto), VO g Y_M_stories G (fun z => Qm g Y_M_stories G (fi L z)) 0 0 99 [(3, .int x3_)] [] L S (some (x3_, x4_, x5_, S)) K) → VO g Y_M_stories G (fun z => Qm g Y_M_stories G (fi L z)) 0 0 47 [(0, rf G 104), (1, .int y1_), (3, .int x3_), (4, .int x4_), (5, .int x5_)] [] L S (r_M_stories_L47 y1_ n x3_ x4_ x5_ S) K := by
  intro n
  induction n with
  | zero => intro x3_ x4_ x5_ S K; intros; exact v_none
  | succ n ih =>
    intro x3_ x4_ x5_ S K hK
    rw [r_M_stories_L47]
    refine v_iload (pc := 47) C d_M_stories_47 4 rfl ?_
    refine v_bipush (pc := 49) C d_M_stories_49 bp_6 ?_
    refine v_icmp_ge (pc := 51) (tgt := 99) C d_M_stories_51 rfl (fun _ => ?_) (fun _ => ?_)
    · refine v_sub [2] rfl ?_
      exact hK x3_ x4_ x5_ S
    · refine v_aload_n (pc := 54) C d_M_stories_54 rfl 0 rfl ?_
      refine v_getR (pc := 55) C fl_M_99 (sh_104 hL) rfl d_M_stories_55 ?_
      refine v_iload (pc := 58) C d_M_stories_58 4 rfl ?_
      refine v_iald (pc := 60) C (sh_131 hL) d_M_stories_60 (fun _ => ?_)
      refine v_jn (fun j => ∀ (v1 : Int32) (v2 : Int32) (S3 : Sto), VO g Y_M_stories G (fun z => Qm g Y_M_stories G (fi L z)) 0 0 93 [(0, rf G 104), (1, .int y1_), (3, .int v1), (4, .int v2), (5, .int x5_)] [] L S3 (j (v1, v2, S3)) K) (fun v1 v2 S3 => ?_) (fun j93 hj93 => ?_)
      · refine v_iinc (pc := 93) (p := 4) (c := 1) C d_M_stories_93 rfl (by decide) (by decide) (fun v4 => [(5, .int v4), (0, rf G 104), (1, .int y1_), (3, .int v1), (4, .int v2)]) (fun _ => rfl) (fun v4 => ?_)
        refine v_goto (pc := 96) (tgt := 47) C d_M_stories_96 rfl ?_
        refine v_sub [1, 2, 3, 4, 0] rfl ?_
        exact ih v1 v2 v4 S3 K hK
      · refine v_if_ne (pc := 61) (tgt := 67) C d_M_stories_61 rfl (fun _ => ?_) (fun _ => ?_)
        · refine v_aload_n (pc := 67) C d_M_stories_67 rfl 0 rfl ?_
          refine v_iload_n (pc := 68) C d_M_stories_68 rfl 1 rfl ?_
          refine v_iload (pc := 69) C d_M_stories_69 4 rfl ?_
          refine v_ci (pc := 71) (inv_V (As := [.int y1_, .int x5_]) (st := []) C ml_M_378 mv_M_fitted ro_M_stories_M_fitted (sh_104 hL) rfl rfl rfl rfl (Nat.le_of_ble_eq_true rfl) d_M_stories_71) (c_M_fitted hL S y1_ x5_) ⟨rfl, rfl⟩ ⟨Nat.zero_le _, Nat.zero_le _⟩ (fun r5 S6 => ?_)
          refine v_istore (pc := 74) (lv' := [(6, .int r5), (0, rf G 104), (1, .int y1_), (3, .int x3_), (4, .int x4_), (5, .int x5_)]) C d_M_stories_74 (by decide) rfl ?_
          refine v_iload (pc := 76) C d_M_stories_76 0 rfl ?_
          refine v_iload (pc := 78) C d_M_stories_78 4 rfl ?_
          refine v_icmp_gt (pc := 80) (tgt := 86) C d_M_stories_80 rfl (fun _ => ?_) (fun _ => ?_)
          · refine v_iload (pc := 86) C d_M_stories_86 5 rfl ?_
            refine v_istore_n (pc := 88) (lv' := [(3, .int x5_), (6, .int r5), (0, rf G 104), (1, .int y1_), (4, .int x4_), (5, .int x5_)]) C d_M_stories_88 rfl (by decide) rfl ?_
            refine v_iload (pc := 89) C d_M_stories_89 1 rfl ?_
            refine v_istore (pc := 91) (lv' := [(4, .int r5), (3, .int x5_), (6, .int r5), (0, rf G 104), (1, .int y1_), (5, .int x5_)]) C d_M_stories_91 (by decide) rfl ?_
            refine v_sub [3, 4, 1, 0, 5] rfl ?_
            exact hj93 x5_ r5 S6
          · refine v_goto (pc := 83) (tgt := 93) C d_M_stories_83 rfl ?_
            refine v_sub [1, 2, 3, 4, 5] rfl ?_
            exact hj93 x3_ x4_ S6
        · refine v_goto (pc := 64) (tgt := 93) C d_M_stories_64 rfl ?_
          exact hj93 x3_ x4_ S
def r_M_stories (x1 : Int32) (x2 : Int32) (S : Sto) : Option (Int32 × Sto) :=
  ltS (sw S 104 0 0) (fun S1 =>
  if (r_M_isLaw x1) = 0 then
    some ((-1), S1)
  else
    if (r_M_isIn x2 0 6) = 0 then
      some ((-1), S1)
    else
      if 6 ≤ x2 then
        (r_M_stories_L47 x1 fu (-1) (-1) 0 S1).bind (fun (v2, v3, v4, S5) =>
        some (v2, S5))
      else
        (r_M_fitted x1 x2 S1).bind (fun (r6, S7) =>
        some (r6, S7)))
set_option maxHeartbeats 4000000 in
set_option maxRecDepth 20000 in
theorem c_M_stories {G : Gl} {L : Shp} (hL : Ext L) (S : Sto) (x1 : Int32) (x2 : Int32)  : Ct Y_M_stories G [rf G 104, .int x1, .int x2] L S (fi L) (r_M_stories x1 x2 S) := by
  refine ct_of (by decide +kernel) (Nat.le_of_ble_eq_true rfl) (fun g C => ?_)
  show VO g Y_M_stories G (fun z => Qm g Y_M_stories G (fi L z)) 0 0 0 [(0, rf G 104), (1, .int x1), (2, .int x2)] [] L S (r_M_stories x1 x2 S) some
  unfold r_M_stories
  refine v_aload_n (pc := 0) C d_M_stories_0 rfl 0 rfl ?_
  refine v_iconst (pc := 1) C d_M_stories_1 ic_0 ?_
  refine v_putI (pc := 2) C fp_M_150 (sh_104 hL) rfl d_M_stories_2 (fun S1 => ?_)
  refine v_aload_n (pc := 5) C d_M_stories_5 rfl 0 rfl ?_
  refine v_iload_n (pc := 6) C d_M_stories_6 rfl 1 rfl ?_
  refine v_ct (pc := 7) (inv_V (As := [.int x1]) (st := []) C ml_M_372 mv_M_isLaw ro_M_stories_M_isLaw (sh_104 hL) rfl rfl rfl rfl (Nat.le_of_ble_eq_true rfl) d_M_stories_7) (c_M_isLaw hL S1 x1) ⟨rfl, rfl⟩ ⟨Nat.zero_le _, Nat.zero_le _⟩ ?_
  refine v_if_eq (pc := 10) (tgt := 24) C d_M_stories_10 rfl (fun _ => ?_) (fun _ => ?_)
  · refine v_iconst (pc := 24) C d_M_stories_24 ic_m1 ?_
    exact v_iret (z := ((-1), S1)) C d_M_stories_25 rfl ⟨Nat.zero_le _, Nat.zero_le _⟩ (rfl) rfl
  · refine v_aload_n (pc := 13) C d_M_stories_13 rfl 0 rfl ?_
    refine v_iload_n (pc := 14) C d_M_stories_14 rfl 2 rfl ?_
    refine v_iconst (pc := 15) C d_M_stories_15 ic_0 ?_
    refine v_bipush (pc := 16) C d_M_stories_16 bp_6 ?_
    refine v_ct (pc := 18) (inv_V (As := [.int x2, .int 0, .int 6]) (st := []) C ml_M_153 mv_M_isIn ro_M_stories_M_isIn (sh_104 hL) rfl rfl rfl rfl (Nat.le_of_ble_eq_true rfl) d_M_stories_18) (c_M_isIn hL S1 x2 0 6) ⟨rfl, rfl⟩ ⟨Nat.zero_le _, Nat.zero_le _⟩ ?_
    refine v_if_ne (pc := 21) (tgt := 26) C d_M_stories_21 rfl (fun _ => ?_) (fun _ => ?_)
    · refine v_iload_n (pc := 26) C d_M_stories_26 rfl 2 rfl ?_
      refine v_bipush (pc := 27) C d_M_stories_27 bp_6 ?_
      refine v_icmp_ge (pc := 29) (tgt := 39) C d_M_stories_29 rfl (fun _ => ?_) (fun _ => ?_)
      · refine v_iconst (pc := 39) C d_M_stories_39 ic_m1 ?_
        refine v_istore_n (pc := 40) (lv' := [(3, .int (-1)), (0, rf G 104), (1, .int x1), (2, .int x2)]) C d_M_stories_40 rfl (by decide) rfl ?_
        refine v_iconst (pc := 41) C d_M_stories_41 ic_m1 ?_
        refine v_istore (pc := 42) (lv' := [(4, .int (-1)), (3, .int (-1)), (0, rf G 104), (1, .int x1), (2, .int x2)]) C d_M_stories_42 (by decide) rfl ?_
        refine v_iconst (pc := 44) C d_M_stories_44 ic_0 ?_
        refine v_istore (pc := 45) (lv' := [(5, .int 0), (4, .int (-1)), (3, .int (-1)), (0, rf G 104), (1, .int x1), (2, .int x2)]) C d_M_stories_45 (by decide) rfl ?_
        refine v_sub [3, 4, 2, 1, 0] rfl ?_
        refine v_bind ?_
        refine w_M_stories_L47 C hL x1  fu (-1) (-1) 0 S1 _ (fun v2 v3 v4 S5 => ?_) 
        refine v_some ?_
        refine v_iload_n (pc := 99) C d_M_stories_99 rfl 0 rfl ?_
        exact v_iret (z := (v2, S5)) C d_M_stories_100 rfl ⟨Nat.zero_le _, Nat.zero_le _⟩ (rfl) rfl
      · refine v_aload_n (pc := 32) C d_M_stories_32 rfl 0 rfl ?_
        refine v_iload_n (pc := 33) C d_M_stories_33 rfl 1 rfl ?_
        refine v_iload_n (pc := 34) C d_M_stories_34 rfl 2 rfl ?_
        refine v_ci (pc := 35) (inv_V (As := [.int x1, .int x2]) (st := []) C ml_M_378 mv_M_fitted ro_M_stories_M_fitted (sh_104 hL) rfl rfl rfl rfl (Nat.le_of_ble_eq_true rfl) d_M_stories_35) (c_M_fitted hL S1 x1 x2) ⟨rfl, rfl⟩ ⟨Nat.zero_le _, Nat.zero_le _⟩ (fun r6 S7 => ?_)
        exact v_iret (z := (r6, S7)) C d_M_stories_38 rfl ⟨Nat.zero_le _, Nat.zero_le _⟩ (rfl) rfl
    · refine v_iconst (pc := 24) C d_M_stories_24 ic_m1 ?_
      exact v_iret (z := ((-1), S1)) C d_M_stories_25 rfl ⟨Nat.zero_le _, Nat.zero_le _⟩ (rfl) rfl
-- M_ear
theorem d_M_ear_0 : decode (mB Y_M_ear) 0 = .ok (.aload_n 0, 1) := by decide +kernel
theorem d_M_ear_1 : decode (mB Y_M_ear) 1 = .ok (.iconst 0, 1) := by decide +kernel
theorem d_M_ear_2 : decode (mB Y_M_ear) 2 = .ok (.putfield 150, 3) := by decide +kernel
theorem d_M_ear_5 : decode (mB Y_M_ear) 5 = .ok (.aload_n 0, 1) := by decide +kernel
theorem d_M_ear_6 : decode (mB Y_M_ear) 6 = .ok (.iload_n 1, 1) := by decide +kernel
theorem d_M_ear_7 : decode (mB Y_M_ear) 7 = .ok (.invokevirtual 180, 3) := by decide +kernel
theorem d_M_ear_10 : decode (mB Y_M_ear) 10 = .ok (.ifCond .eq 12, 3) := by decide +kernel
theorem d_M_ear_13 : decode (mB Y_M_ear) 13 = .ok (.aload_n 0, 1) := by decide +kernel
theorem d_M_ear_14 : decode (mB Y_M_ear) 14 = .ok (.getfield 381, 3) := by decide +kernel
theorem d_M_ear_17 : decode (mB Y_M_ear) 17 = .ok (.bipush 8, 2) := by decide +kernel
theorem d_M_ear_19 : decode (mB Y_M_ear) 19 = .ok (.if_icmp .ne 5, 3) := by decide +kernel
theorem d_M_ear_22 : decode (mB Y_M_ear) 22 = .ok (.iconst (-1), 1) := by decide +kernel
theorem d_M_ear_23 : decode (mB Y_M_ear) 23 = .ok (.ireturn, 1) := by decide +kernel
theorem d_M_ear_24 : decode (mB Y_M_ear) 24 = .ok (.aload_n 0, 1) := by decide +kernel
theorem d_M_ear_25 : decode (mB Y_M_ear) 25 = .ok (.getfield 102, 3) := by decide +kernel
theorem d_M_ear_28 : decode (mB Y_M_ear) 28 = .ok (.aload_n 0, 1) := by decide +kernel
theorem d_M_ear_29 : decode (mB Y_M_ear) 29 = .ok (.getfield 381, 3) := by decide +kernel
theorem d_M_ear_32 : decode (mB Y_M_ear) 32 = .ok (.iload_n 1, 1) := by decide +kernel
theorem d_M_ear_33 : decode (mB Y_M_ear) 33 = .ok (.iastore, 1) := by decide +kernel
theorem d_M_ear_34 : decode (mB Y_M_ear) 34 = .ok (.aload_n 0, 1) := by decide +kernel
theorem d_M_ear_35 : decode (mB Y_M_ear) 35 = .ok (.aload_n 0, 1) := by decide +kernel
theorem d_M_ear_36 : decode (mB Y_M_ear) 36 = .ok (.getfield 381, 3) := by decide +kernel
theorem d_M_ear_39 : decode (mB Y_M_ear) 39 = .ok (.iconst 1, 1) := by decide +kernel
theorem d_M_ear_40 : decode (mB Y_M_ear) 40 = .ok (.iadd, 1) := by decide +kernel
theorem d_M_ear_41 : decode (mB Y_M_ear) 41 = .ok (.putfield 381, 3) := by decide +kernel
theorem d_M_ear_44 : decode (mB Y_M_ear) 44 = .ok (.aload_n 0, 1) := by decide +kernel
theorem d_M_ear_45 : decode (mB Y_M_ear) 45 = .ok (.getfield 381, 3) := by decide +kernel
theorem d_M_ear_48 : decode (mB Y_M_ear) 48 = .ok (.iconst 1, 1) := by decide +kernel
theorem d_M_ear_49 : decode (mB Y_M_ear) 49 = .ok (.isub, 1) := by decide +kernel
theorem d_M_ear_50 : decode (mB Y_M_ear) 50 = .ok (.ireturn, 1) := by decide +kernel
theorem ro_M_ear_M_isCell : roomy Y_M_ear Y_M_isCell := ⟨Nat.le_of_ble_eq_true rfl, Nat.le_of_ble_eq_true rfl⟩
def r_M_ear (x1 : Int32) (S : Sto) : Option (Int32 × Sto) :=
  ltS (sw S 104 0 0) (fun S1 =>
  if (r_M_isCell x1) = 0 then
    some ((-1), S1)
  else
    if (S1 104 54) = 8 then
      some ((-1), S1)
    else
      chk (inr (S1 104 54) 8) (
      ltS (sw S1 132 ((S1 104 54).toNatClampNeg) x1) (fun S2 =>
      ltS (sw S2 104 54 ((S2 104 54) + 1)) (fun S3 =>
      some ((S3 104 54) - 1, S3)))))
set_option maxHeartbeats 4000000 in
set_option maxRecDepth 20000 in
theorem c_M_ear {G : Gl} {L : Shp} (hL : Ext L) (S : Sto) (x1 : Int32)  : Ct Y_M_ear G [rf G 104, .int x1] L S (fi L) (r_M_ear x1 S) := by
  refine ct_of (by decide +kernel) (Nat.le_of_ble_eq_true rfl) (fun g C => ?_)
  show VO g Y_M_ear G (fun z => Qm g Y_M_ear G (fi L z)) 0 0 0 [(0, rf G 104), (1, .int x1)] [] L S (r_M_ear x1 S) some
  unfold r_M_ear
  refine v_aload_n (pc := 0) C d_M_ear_0 rfl 0 rfl ?_
  refine v_iconst (pc := 1) C d_M_ear_1 ic_0 ?_
  refine v_putI (pc := 2) C fp_M_150 (sh_104 hL) rfl d_M_ear_2 (fun S1 => ?_)
  refine v_aload_n (pc := 5) C d_M_ear_5 rfl 0 rfl ?_
  refine v_iload_n (pc := 6) C d_M_ear_6 rfl 1 rfl ?_
  refine v_ct (pc := 7) (inv_V (As := [.int x1]) (st := []) C ml_M_180 mv_M_isCell ro_M_ear_M_isCell (sh_104 hL) rfl rfl rfl rfl (Nat.le_of_ble_eq_true rfl) d_M_ear_7) (c_M_isCell hL S1 x1) ⟨rfl, rfl⟩ ⟨Nat.zero_le _, Nat.zero_le _⟩ ?_
  refine v_if_eq (pc := 10) (tgt := 22) C d_M_ear_10 rfl (fun _ => ?_) (fun _ => ?_)
  · refine v_iconst (pc := 22) C d_M_ear_22 ic_m1 ?_
    exact v_iret (z := ((-1), S1)) C d_M_ear_23 rfl ⟨Nat.zero_le _, Nat.zero_le _⟩ (rfl) rfl
  · refine v_aload_n (pc := 13) C d_M_ear_13 rfl 0 rfl ?_
    refine v_getI (pc := 14) C fl_M_381 (sh_104 hL) rfl d_M_ear_14 ?_
    refine v_bipush (pc := 17) C d_M_ear_17 bp_8 ?_
    refine v_icmp_ne (pc := 19) (tgt := 24) C d_M_ear_19 rfl (fun _ => ?_) (fun _ => ?_)
    · refine v_aload_n (pc := 24) C d_M_ear_24 rfl 0 rfl ?_
      refine v_getR (pc := 25) C fl_M_102 (sh_104 hL) rfl d_M_ear_25 ?_
      refine v_aload_n (pc := 28) C d_M_ear_28 rfl 0 rfl ?_
      refine v_getI (pc := 29) C fl_M_381 (sh_104 hL) rfl d_M_ear_29 ?_
      refine v_iload_n (pc := 32) C d_M_ear_32 rfl 1 rfl ?_
      refine v_iast (pc := 33) C (sh_132 hL) d_M_ear_33 (fun _ S2 => ?_)
      refine v_aload_n (pc := 34) C d_M_ear_34 rfl 0 rfl ?_
      refine v_aload_n (pc := 35) C d_M_ear_35 rfl 0 rfl ?_
      refine v_getI (pc := 36) C fl_M_381 (sh_104 hL) rfl d_M_ear_36 ?_
      refine v_iconst (pc := 39) C d_M_ear_39 ic_1 ?_
      refine v_iadd (pc := 40) C d_M_ear_40 ?_
      refine v_putI (pc := 41) C fp_M_381 (sh_104 hL) rfl d_M_ear_41 (fun S3 => ?_)
      refine v_aload_n (pc := 44) C d_M_ear_44 rfl 0 rfl ?_
      refine v_getI (pc := 45) C fl_M_381 (sh_104 hL) rfl d_M_ear_45 ?_
      refine v_iconst (pc := 48) C d_M_ear_48 ic_1 ?_
      refine v_isub (pc := 49) C d_M_ear_49 ?_
      exact v_iret (z := ((S3 104 54) - 1, S3)) C d_M_ear_50 rfl ⟨Nat.zero_le _, Nat.zero_le _⟩ (rfl) rfl
    · refine v_iconst (pc := 22) C d_M_ear_22 ic_m1 ?_
      exact v_iret (z := ((-1), S1)) C d_M_ear_23 rfl ⟨Nat.zero_le _, Nat.zero_le _⟩ (rfl) rfl
-- M_got
theorem d_M_got_0 : decode (mB Y_M_got) 0 = .ok (.aload_n 0, 1) := by decide +kernel
theorem d_M_got_1 : decode (mB Y_M_got) 1 = .ok (.iconst 0, 1) := by decide +kernel
theorem d_M_got_2 : decode (mB Y_M_got) 2 = .ok (.putfield 150, 3) := by decide +kernel
theorem d_M_got_5 : decode (mB Y_M_got) 5 = .ok (.aload_n 0, 1) := by decide +kernel
theorem d_M_got_6 : decode (mB Y_M_got) 6 = .ok (.iload_n 1, 1) := by decide +kernel
theorem d_M_got_7 : decode (mB Y_M_got) 7 = .ok (.iconst 0, 1) := by decide +kernel
theorem d_M_got_8 : decode (mB Y_M_got) 8 = .ok (.aload_n 0, 1) := by decide +kernel
theorem d_M_got_9 : decode (mB Y_M_got) 9 = .ok (.getfield 381, 3) := by decide +kernel
theorem d_M_got_12 : decode (mB Y_M_got) 12 = .ok (.iconst 1, 1) := by decide +kernel
theorem d_M_got_13 : decode (mB Y_M_got) 13 = .ok (.isub, 1) := by decide +kernel
theorem d_M_got_14 : decode (mB Y_M_got) 14 = .ok (.invokevirtual 153, 3) := by decide +kernel
theorem d_M_got_17 : decode (mB Y_M_got) 17 = .ok (.ifCond .eq 32, 3) := by decide +kernel
theorem d_M_got_20 : decode (mB Y_M_got) 20 = .ok (.iload_n 2, 1) := by decide +kernel
theorem d_M_got_21 : decode (mB Y_M_got) 21 = .ok (.iconst (-1), 1) := by decide +kernel
theorem d_M_got_22 : decode (mB Y_M_got) 22 = .ok (.if_icmp .eq 29, 3) := by decide +kernel
theorem d_M_got_25 : decode (mB Y_M_got) 25 = .ok (.aload_n 0, 1) := by decide +kernel
theorem d_M_got_26 : decode (mB Y_M_got) 26 = .ok (.iload_n 2, 1) := by decide +kernel
theorem d_M_got_27 : decode (mB Y_M_got) 27 = .ok (.iconst 0, 1) := by decide +kernel
theorem d_M_got_28 : decode (mB Y_M_got) 28 = .ok (.ldc_w 384, 3) := by decide +kernel
theorem d_M_got_31 : decode (mB Y_M_got) 31 = .ok (.invokevirtual 153, 3) := by decide +kernel
theorem d_M_got_34 : decode (mB Y_M_got) 34 = .ok (.ifCond .eq 15, 3) := by decide +kernel
theorem d_M_got_37 : decode (mB Y_M_got) 37 = .ok (.aload_n 0, 1) := by decide +kernel
theorem d_M_got_38 : decode (mB Y_M_got) 38 = .ok (.iload_n 3, 1) := by decide +kernel
theorem d_M_got_39 : decode (mB Y_M_got) 39 = .ok (.iload_n 2, 1) := by decide +kernel
theorem d_M_got_40 : decode (mB Y_M_got) 40 = .ok (.ldc_w 384, 3) := by decide +kernel
theorem d_M_got_43 : decode (mB Y_M_got) 43 = .ok (.invokevirtual 153, 3) := by decide +kernel
theorem d_M_got_46 : decode (mB Y_M_got) 46 = .ok (.ifCond .ne 5, 3) := by decide +kernel
theorem d_M_got_49 : decode (mB Y_M_got) 49 = .ok (.iconst 0, 1) := by decide +kernel
theorem d_M_got_50 : decode (mB Y_M_got) 50 = .ok (.ireturn, 1) := by decide +kernel
theorem d_M_got_51 : decode (mB Y_M_got) 51 = .ok (.aload_n 0, 1) := by decide +kernel
theorem d_M_got_52 : decode (mB Y_M_got) 52 = .ok (.getfield 105, 3) := by decide +kernel
theorem d_M_got_55 : decode (mB Y_M_got) 55 = .ok (.iload_n 1, 1) := by decide +kernel
theorem d_M_got_56 : decode (mB Y_M_got) 56 = .ok (.iload_n 2, 1) := by decide +kernel
theorem d_M_got_57 : decode (mB Y_M_got) 57 = .ok (.iastore, 1) := by decide +kernel
theorem d_M_got_58 : decode (mB Y_M_got) 58 = .ok (.aload_n 0, 1) := by decide +kernel
theorem d_M_got_59 : decode (mB Y_M_got) 59 = .ok (.getfield 108, 3) := by decide +kernel
theorem d_M_got_62 : decode (mB Y_M_got) 62 = .ok (.iload_n 1, 1) := by decide +kernel
theorem d_M_got_63 : decode (mB Y_M_got) 63 = .ok (.iload_n 3, 1) := by decide +kernel
theorem d_M_got_64 : decode (mB Y_M_got) 64 = .ok (.iastore, 1) := by decide +kernel
theorem d_M_got_65 : decode (mB Y_M_got) 65 = .ok (.iconst 1, 1) := by decide +kernel
theorem d_M_got_66 : decode (mB Y_M_got) 66 = .ok (.ireturn, 1) := by decide +kernel
theorem ro_M_got_M_isIn : roomy Y_M_got Y_M_isIn := ⟨Nat.le_of_ble_eq_true rfl, Nat.le_of_ble_eq_true rfl⟩
def r_M_got (x1 : Int32) (x2 : Int32) (x3 : Int32) (S : Sto) : Option (Int32 × Sto) :=
  ltS (sw S 104 0 0) (fun S1 =>
  if (r_M_isIn x1 0 ((S1 104 54) - 1)) = 0 then
    some (0, S1)
  else
    jn (fun (_ : Unit) =>
      chk (inr x1 8) (
      ltS (sw S1 133 x1.toNatClampNeg x2) (fun S2 =>
      chk (inr x1 8) (
      ltS (sw S2 134 x1.toNatClampNeg x3) (fun S3 =>
      some (1, S3)))))) (fun j51 =>
    if x2 = (-1) then
      j51 ()
    else
      if (r_M_isIn x2 0 199999) = 0 then
        some (0, S1)
      else
        if (r_M_isIn x3 x2 199999) = 0 then
          some (0, S1)
        else
          j51 ()))
set_option maxHeartbeats 4000000 in
set_option maxRecDepth 20000 in
theorem c_M_got {G : Gl} {L : Shp} (hL : Ext L) (S : Sto) (x1 : Int32) (x2 : Int32) (x3 : Int32)  : Ct Y_M_got G [rf G 104, .int x1, .int x2, .int x3] L S (fi L) (r_M_got x1 x2 x3 S) := by
  refine ct_of (by decide +kernel) (Nat.le_of_ble_eq_true rfl) (fun g C => ?_)
  show VO g Y_M_got G (fun z => Qm g Y_M_got G (fi L z)) 0 0 0 [(0, rf G 104), (1, .int x1), (2, .int x2), (3, .int x3)] [] L S (r_M_got x1 x2 x3 S) some
  unfold r_M_got
  refine v_aload_n (pc := 0) C d_M_got_0 rfl 0 rfl ?_
  refine v_iconst (pc := 1) C d_M_got_1 ic_0 ?_
  refine v_putI (pc := 2) C fp_M_150 (sh_104 hL) rfl d_M_got_2 (fun S1 => ?_)
  refine v_aload_n (pc := 5) C d_M_got_5 rfl 0 rfl ?_
  refine v_iload_n (pc := 6) C d_M_got_6 rfl 1 rfl ?_
  refine v_iconst (pc := 7) C d_M_got_7 ic_0 ?_
  refine v_aload_n (pc := 8) C d_M_got_8 rfl 0 rfl ?_
  refine v_getI (pc := 9) C fl_M_381 (sh_104 hL) rfl d_M_got_9 ?_
  refine v_iconst (pc := 12) C d_M_got_12 ic_1 ?_
  refine v_isub (pc := 13) C d_M_got_13 ?_
  refine v_ct (pc := 14) (inv_V (As := [.int x1, .int 0, .int ((S1 104 54) - 1)]) (st := []) C ml_M_153 mv_M_isIn ro_M_got_M_isIn (sh_104 hL) rfl rfl rfl rfl (Nat.le_of_ble_eq_true rfl) d_M_got_14) (c_M_isIn hL S1 x1 0 ((S1 104 54) - 1)) ⟨rfl, rfl⟩ ⟨Nat.zero_le _, Nat.zero_le _⟩ ?_
  refine v_if_eq (pc := 17) (tgt := 49) C d_M_got_17 rfl (fun _ => ?_) (fun _ => ?_)
  · refine v_iconst (pc := 49) C d_M_got_49 ic_0 ?_
    exact v_zret (z := (0, S1)) C d_M_got_50 rfl (b01_n (by decide)) ⟨Nat.zero_le _, Nat.zero_le _⟩ (rfl) rfl
  · refine v_iload_n (pc := 20) C d_M_got_20 rfl 2 rfl ?_
    refine v_iconst (pc := 21) C d_M_got_21 ic_m1 ?_
    refine v_jn (fun j => VO g Y_M_got G (fun z => Qm g Y_M_got G (fi L z)) 0 0 51 [(0, rf G 104), (1, .int x1), (2, .int x2), (3, .int x3)] [] L S1 (j ()) some) (?_) (fun j51 hj51 => ?_)
    · refine v_aload_n (pc := 51) C d_M_got_51 rfl 0 rfl ?_
      refine v_getR (pc := 52) C fl_M_105 (sh_104 hL) rfl d_M_got_52 ?_
      refine v_iload_n (pc := 55) C d_M_got_55 rfl 1 rfl ?_
      refine v_iload_n (pc := 56) C d_M_got_56 rfl 2 rfl ?_
      refine v_iast (pc := 57) C (sh_133 hL) d_M_got_57 (fun _ S2 => ?_)
      refine v_aload_n (pc := 58) C d_M_got_58 rfl 0 rfl ?_
      refine v_getR (pc := 59) C fl_M_108 (sh_104 hL) rfl d_M_got_59 ?_
      refine v_iload_n (pc := 62) C d_M_got_62 rfl 1 rfl ?_
      refine v_iload_n (pc := 63) C d_M_got_63 rfl 3 rfl ?_
      refine v_iast (pc := 64) C (sh_134 hL) d_M_got_64 (fun _ S3 => ?_)
      refine v_iconst (pc := 65) C d_M_got_65 ic_1 ?_
      exact v_zret (z := (1, S3)) C d_M_got_66 rfl (b01_n (by decide)) ⟨Nat.zero_le _, Nat.zero_le _⟩ (rfl) rfl
    · refine v_icmp_eq (pc := 22) (tgt := 51) C d_M_got_22 rfl (fun _ => ?_) (fun _ => ?_)
      · exact hj51
      · refine v_aload_n (pc := 25) C d_M_got_25 rfl 0 rfl ?_
        refine v_iload_n (pc := 26) C d_M_got_26 rfl 2 rfl ?_
        refine v_iconst (pc := 27) C d_M_got_27 ic_0 ?_
        refine v_ldc_w (pc := 28) C d_M_got_28 kc_M_384 ?_
        refine v_ct (pc := 31) (inv_V (As := [.int x2, .int 0, .int 199999]) (st := []) C ml_M_153 mv_M_isIn ro_M_got_M_isIn (sh_104 hL) rfl rfl rfl rfl (Nat.le_of_ble_eq_true rfl) d_M_got_31) (c_M_isIn hL S1 x2 0 199999) ⟨rfl, rfl⟩ ⟨Nat.zero_le _, Nat.zero_le _⟩ ?_
        refine v_if_eq (pc := 34) (tgt := 49) C d_M_got_34 rfl (fun _ => ?_) (fun _ => ?_)
        · refine v_iconst (pc := 49) C d_M_got_49 ic_0 ?_
          exact v_zret (z := (0, S1)) C d_M_got_50 rfl (b01_n (by decide)) ⟨Nat.zero_le _, Nat.zero_le _⟩ (rfl) rfl
        · refine v_aload_n (pc := 37) C d_M_got_37 rfl 0 rfl ?_
          refine v_iload_n (pc := 38) C d_M_got_38 rfl 3 rfl ?_
          refine v_iload_n (pc := 39) C d_M_got_39 rfl 2 rfl ?_
          refine v_ldc_w (pc := 40) C d_M_got_40 kc_M_384 ?_
          refine v_ct (pc := 43) (inv_V (As := [.int x3, .int x2, .int 199999]) (st := []) C ml_M_153 mv_M_isIn ro_M_got_M_isIn (sh_104 hL) rfl rfl rfl rfl (Nat.le_of_ble_eq_true rfl) d_M_got_43) (c_M_isIn hL S1 x3 x2 199999) ⟨rfl, rfl⟩ ⟨Nat.zero_le _, Nat.zero_le _⟩ ?_
          refine v_if_ne (pc := 46) (tgt := 51) C d_M_got_46 rfl (fun _ => ?_) (fun _ => ?_)
          · exact hj51
          · refine v_iconst (pc := 49) C d_M_got_49 ic_0 ?_
            exact v_zret (z := (0, S1)) C d_M_got_50 rfl (b01_n (by decide)) ⟨Nat.zero_le _, Nat.zero_le _⟩ (rfl) rfl
-- M_isFrom
theorem d_M_isFrom_0 : decode (mB Y_M_isFrom) 0 = .ok (.ldc_w 385, 3) := by decide +kernel
theorem d_M_isFrom_3 : decode (mB Y_M_isFrom) 3 = .ok (.istore_n 2, 1) := by decide +kernel
theorem d_M_isFrom_4 : decode (mB Y_M_isFrom) 4 = .ok (.ldc_w 386, 3) := by decide +kernel
theorem d_M_isFrom_7 : decode (mB Y_M_isFrom) 7 = .ok (.istore_n 3, 1) := by decide +kernel
theorem d_M_isFrom_8 : decode (mB Y_M_isFrom) 8 = .ok (.iconst 0, 1) := by decide +kernel
theorem d_M_isFrom_9 : decode (mB Y_M_isFrom) 9 = .ok (.istore 4, 2) := by decide +kernel
theorem d_M_isFrom_11 : decode (mB Y_M_isFrom) 11 = .ok (.iload 4, 2) := by decide +kernel
theorem d_M_isFrom_13 : decode (mB Y_M_isFrom) 13 = .ok (.aload_n 0, 1) := by decide +kernel
theorem d_M_isFrom_14 : decode (mB Y_M_isFrom) 14 = .ok (.getfield 381, 3) := by decide +kernel
theorem d_M_isFrom_17 : decode (mB Y_M_isFrom) 17 = .ok (.if_icmp .ge 95, 3) := by decide +kernel
theorem d_M_isFrom_20 : decode (mB Y_M_isFrom) 20 = .ok (.aload_n 0, 1) := by decide +kernel
theorem d_M_isFrom_21 : decode (mB Y_M_isFrom) 21 = .ok (.getfield 105, 3) := by decide +kernel
theorem d_M_isFrom_24 : decode (mB Y_M_isFrom) 24 = .ok (.iload 4, 2) := by decide +kernel
theorem d_M_isFrom_26 : decode (mB Y_M_isFrom) 26 = .ok (.iaload, 1) := by decide +kernel
theorem d_M_isFrom_27 : decode (mB Y_M_isFrom) 27 = .ok (.iconst (-1), 1) := by decide +kernel
theorem d_M_isFrom_28 : decode (mB Y_M_isFrom) 28 = .ok (.if_icmp .ne 6, 3) := by decide +kernel
theorem d_M_isFrom_31 : decode (mB Y_M_isFrom) 31 = .ok (.goto 75, 3) := by decide +kernel
theorem d_M_isFrom_34 : decode (mB Y_M_isFrom) 34 = .ok (.aload_n 0, 1) := by decide +kernel
theorem d_M_isFrom_35 : decode (mB Y_M_isFrom) 35 = .ok (.iload_n 1, 1) := by decide +kernel
theorem d_M_isFrom_36 : decode (mB Y_M_isFrom) 36 = .ok (.aload_n 0, 1) := by decide +kernel
theorem d_M_isFrom_37 : decode (mB Y_M_isFrom) 37 = .ok (.getfield 102, 3) := by decide +kernel
theorem d_M_isFrom_40 : decode (mB Y_M_isFrom) 40 = .ok (.iload 4, 2) := by decide +kernel
theorem d_M_isFrom_42 : decode (mB Y_M_isFrom) 42 = .ok (.iaload, 1) := by decide +kernel
theorem d_M_isFrom_43 : decode (mB Y_M_isFrom) 43 = .ok (.invokevirtual 184, 3) := by decide +kernel
theorem d_M_isFrom_46 : decode (mB Y_M_isFrom) 46 = .ok (.istore 5, 2) := by decide +kernel
theorem d_M_isFrom_48 : decode (mB Y_M_isFrom) 48 = .ok (.aload_n 0, 1) := by decide +kernel
theorem d_M_isFrom_49 : decode (mB Y_M_isFrom) 49 = .ok (.getfield 105, 3) := by decide +kernel
theorem d_M_isFrom_52 : decode (mB Y_M_isFrom) 52 = .ok (.iload 4, 2) := by decide +kernel
theorem d_M_isFrom_54 : decode (mB Y_M_isFrom) 54 = .ok (.iaload, 1) := by decide +kernel
theorem d_M_isFrom_55 : decode (mB Y_M_isFrom) 55 = .ok (.iload 5, 2) := by decide +kernel
theorem d_M_isFrom_57 : decode (mB Y_M_isFrom) 57 = .ok (.isub, 1) := by decide +kernel
theorem d_M_isFrom_58 : decode (mB Y_M_isFrom) 58 = .ok (.iload_n 2, 1) := by decide +kernel
theorem d_M_isFrom_59 : decode (mB Y_M_isFrom) 59 = .ok (.if_icmp .le 16, 3) := by decide +kernel
theorem d_M_isFrom_62 : decode (mB Y_M_isFrom) 62 = .ok (.aload_n 0, 1) := by decide +kernel
theorem d_M_isFrom_63 : decode (mB Y_M_isFrom) 63 = .ok (.getfield 105, 3) := by decide +kernel
theorem d_M_isFrom_66 : decode (mB Y_M_isFrom) 66 = .ok (.iload 4, 2) := by decide +kernel
theorem d_M_isFrom_68 : decode (mB Y_M_isFrom) 68 = .ok (.iaload, 1) := by decide +kernel
theorem d_M_isFrom_69 : decode (mB Y_M_isFrom) 69 = .ok (.iload 5, 2) := by decide +kernel
theorem d_M_isFrom_71 : decode (mB Y_M_isFrom) 71 = .ok (.isub, 1) := by decide +kernel
theorem d_M_isFrom_72 : decode (mB Y_M_isFrom) 72 = .ok (.goto 4, 3) := by decide +kernel
theorem d_M_isFrom_75 : decode (mB Y_M_isFrom) 75 = .ok (.iload_n 2, 1) := by decide +kernel
theorem d_M_isFrom_76 : decode (mB Y_M_isFrom) 76 = .ok (.istore_n 2, 1) := by decide +kernel
theorem d_M_isFrom_77 : decode (mB Y_M_isFrom) 77 = .ok (.aload_n 0, 1) := by decide +kernel
theorem d_M_isFrom_78 : decode (mB Y_M_isFrom) 78 = .ok (.getfield 108, 3) := by decide +kernel
theorem d_M_isFrom_81 : decode (mB Y_M_isFrom) 81 = .ok (.iload 4, 2) := by decide +kernel
theorem d_M_isFrom_83 : decode (mB Y_M_isFrom) 83 = .ok (.iaload, 1) := by decide +kernel
theorem d_M_isFrom_84 : decode (mB Y_M_isFrom) 84 = .ok (.iload 5, 2) := by decide +kernel
theorem d_M_isFrom_86 : decode (mB Y_M_isFrom) 86 = .ok (.isub, 1) := by decide +kernel
theorem d_M_isFrom_87 : decode (mB Y_M_isFrom) 87 = .ok (.iload_n 3, 1) := by decide +kernel
theorem d_M_isFrom_88 : decode (mB Y_M_isFrom) 88 = .ok (.if_icmp .ge 16, 3) := by decide +kernel
theorem d_M_isFrom_91 : decode (mB Y_M_isFrom) 91 = .ok (.aload_n 0, 1) := by decide +kernel
theorem d_M_isFrom_92 : decode (mB Y_M_isFrom) 92 = .ok (.getfield 108, 3) := by decide +kernel
theorem d_M_isFrom_95 : decode (mB Y_M_isFrom) 95 = .ok (.iload 4, 2) := by decide +kernel
theorem d_M_isFrom_97 : decode (mB Y_M_isFrom) 97 = .ok (.iaload, 1) := by decide +kernel
theorem d_M_isFrom_98 : decode (mB Y_M_isFrom) 98 = .ok (.iload 5, 2) := by decide +kernel
theorem d_M_isFrom_100 : decode (mB Y_M_isFrom) 100 = .ok (.isub, 1) := by decide +kernel
theorem d_M_isFrom_101 : decode (mB Y_M_isFrom) 101 = .ok (.goto 4, 3) := by decide +kernel
theorem d_M_isFrom_104 : decode (mB Y_M_isFrom) 104 = .ok (.iload_n 3, 1) := by decide +kernel
theorem d_M_isFrom_105 : decode (mB Y_M_isFrom) 105 = .ok (.istore_n 3, 1) := by decide +kernel
theorem d_M_isFrom_106 : decode (mB Y_M_isFrom) 106 = .ok (.iinc 4 1, 3) := by decide +kernel
theorem d_M_isFrom_109 : decode (mB Y_M_isFrom) 109 = .ok (.goto (-98), 3) := by decide +kernel
theorem d_M_isFrom_112 : decode (mB Y_M_isFrom) 112 = .ok (.iload_n 2, 1) := by decide +kernel
theorem d_M_isFrom_113 : decode (mB Y_M_isFrom) 113 = .ok (.iload_n 3, 1) := by decide +kernel
theorem d_M_isFrom_114 : decode (mB Y_M_isFrom) 114 = .ok (.if_icmp .gt 7, 3) := by decide +kernel
theorem d_M_isFrom_117 : decode (mB Y_M_isFrom) 117 = .ok (.iconst 1, 1) := by decide +kernel
theorem d_M_isFrom_118 : decode (mB Y_M_isFrom) 118 = .ok (.goto 4, 3) := by decide +kernel
theorem d_M_isFrom_121 : decode (mB Y_M_isFrom) 121 = .ok (.iconst 0, 1) := by decide +kernel
theorem d_M_isFrom_122 : decode (mB Y_M_isFrom) 122 = .ok (.ireturn, 1) := by decide +kernel
theorem ro_M_isFrom_M_delay : roomy Y_M_isFrom Y_M_delay := ⟨Nat.le_of_ble_eq_true rfl, Nat.le_of_ble_eq_true rfl⟩
def r_M_isFrom_L11 (y1_ : Int32) : Nat → Int32 → Int32 → Int32 → Sto → Option (Int32 × Int32 × Int32)
  | 0, _, _, _, _ => none
  | n + 1, x2_, x3_, x4_, S =>
    if (S 104 54) ≤ x4_ then
      some (x2_, x3_, x4_)
    else
      chk (inr x4_ 8) (
      jn (fun ((v1, v2) : Int32 × Int32) =>
        lt (x4_ + 1) (fun v3 =>
        r_M_isFrom_L11 y1_ n v1 v2 v3 S)) (fun j106 =>
      if (S 133 x4_.toNatClampNeg) = (-1) then
        j106 (x2_, x3_)
      else
        chk (inr x4_ 8) (
        (r_M_delay y1_ (S 132 x4_.toNatClampNeg) S).bind (fun r4 =>
        chk (inr x4_ 8) (
        jn (fun (v5 : Int32) =>
          chk (inr x4_ 8) (
          jn (fun (v6 : Int32) =>
            j106 (v5, v6)) (fun j105 =>
          if x3_ ≤ ((S 134 x4_.toNatClampNeg) - r4) then
            j105 (x3_)
          else
            chk (inr x4_ 8) (
            j105 ((S 134 x4_.toNatClampNeg) - r4))))) (fun j76 =>
        if ((S 133 x4_.toNatClampNeg) - r4) ≤ x2_ then
          j76 (x2_)
        else
          chk (inr x4_ 8) (
          j76 ((S 133 x4_.toNatClampNeg) - r4))))))))
set_option maxHeartbeats 4000000 in
set_option maxRecDepth 20000 in
theorem w_M_isFrom_L11 {g : Gm} {G : Gl} {L : Shp} (C : Cx g Y_M_isFrom G) (hL : Ext L) (S : Sto) (y1_ : Int32)  :
    ∀ (n : Nat) (x2_ : Int32) (x3_ : Int32) (x4_ : Int32) (K : (Int32 × Int32 × Int32) → Option Int32), (∀ (x2_ : Int32) (x3_ : Int32) (x4_ : Int32), VO g Y_M_isFrom G (fun z => Qm g Y_M_isFrom G (fp L S z)) 0 0 112 [(2, .int x2_), (3, .int x3_)] [] L S (some (x2_, x3_, x4_)) K) → VO g Y_M_isFrom G (fun z => Qm g Y_M_isFrom G (fp L S z)) 0 0 11 [(0, rf G 104), (1, .int y1_), (2, .int x2_), (3, .int x3_), (4, .int x4_)] [] L S (r_M_isFrom_L11 y1_ n x2_ x3_ x4_ S) K := by
  intro n
  induction n with
  | zero => intro x2_ x3_ x4_ K; intros; exact v_none
  | succ n ih =>
    intro x2_ x3_ x4_ K hK
    rw [r_M_isFrom_L11]
    refine v_iload (pc := 11) C d_M_isFrom_11 4 rfl ?_
    refine v_aload_n (pc := 13) C d_M_isFrom_13 rfl 0 rfl ?_
    refine v_getI (pc := 14) C fl_M_381 (sh_104 hL) rfl d_M_isFrom_14 ?_
    refine v_icmp_ge (pc := 17) (tgt := 112) C d_M_isFrom_17 rfl (fun _ => ?_) (fun _ => ?_)
    · refine v_sub [2, 3] rfl ?_
      exact hK x2_ x3_ x4_
    · refine v_aload_n (pc := 20) C d_M_isFrom_20 rfl 0 rfl ?_
      refine v_getR (pc := 21) C fl_M_105 (sh_104 hL) rfl d_M_isFrom_21 ?_
      refine v_iload (pc := 24) C d_M_isFrom_24 4 rfl ?_
      refine v_iald (pc := 26) C (sh_133 hL) d_M_isFrom_26 (fun _ => ?_)
      refine v_iconst (pc := 27) C d_M_isFrom_27 ic_m1 ?_
      refine v_jn (fun j => ∀ (v1 : Int32) (v2 : Int32), VO g Y_M_isFrom G (fun z => Qm g Y_M_isFrom G (fp L S z)) 0 0 106 [(0, rf G 104), (1, .int y1_), (2, .int v1), (3, .int v2), (4, .int x4_)] [] L S (j (v1, v2)) K) (fun v1 v2 => ?_) (fun j106 hj106 => ?_)
      · refine v_iinc (pc := 106) (p := 4) (c := 1) C d_M_isFrom_106 rfl (by decide) (by decide) (fun v3 => [(4, .int v3), (0, rf G 104), (1, .int y1_), (2, .int v1), (3, .int v2)]) (fun _ => rfl) (fun v3 => ?_)
        refine v_goto (pc := 109) (tgt := 11) C d_M_isFrom_109 rfl ?_
        refine v_sub [1, 2, 3, 4, 0] rfl ?_
        exact ih v1 v2 v3 K hK
      · refine v_icmp_ne (pc := 28) (tgt := 34) C d_M_isFrom_28 rfl (fun _ => ?_) (fun _ => ?_)
        · refine v_aload_n (pc := 34) C d_M_isFrom_34 rfl 0 rfl ?_
          refine v_iload_n (pc := 35) C d_M_isFrom_35 rfl 1 rfl ?_
          refine v_aload_n (pc := 36) C d_M_isFrom_36 rfl 0 rfl ?_
          refine v_getR (pc := 37) C fl_M_102 (sh_104 hL) rfl d_M_isFrom_37 ?_
          refine v_iload (pc := 40) C d_M_isFrom_40 4 rfl ?_
          refine v_iald (pc := 42) C (sh_132 hL) d_M_isFrom_42 (fun _ => ?_)
          refine v_cp (pc := 43) (inv_V (As := [.int y1_, .int (S 132 x4_.toNatClampNeg)]) (st := []) C ml_M_184 mv_M_delay ro_M_isFrom_M_delay (sh_104 hL) rfl rfl rfl rfl (Nat.le_of_ble_eq_true rfl) d_M_isFrom_43) (c_M_delay hL S y1_ (S 132 x4_.toNatClampNeg)) ⟨rfl, rfl⟩ ⟨Nat.zero_le _, Nat.zero_le _⟩ (fun r4 => ?_)
          refine v_istore (pc := 46) (lv' := [(5, .int r4), (0, rf G 104), (1, .int y1_), (2, .int x2_), (3, .int x3_), (4, .int x4_)]) C d_M_isFrom_46 (by decide) rfl ?_
          refine v_aload_n (pc := 48) C d_M_isFrom_48 rfl 1 rfl ?_
          refine v_getR (pc := 49) C fl_M_105 (sh_104 hL) rfl d_M_isFrom_49 ?_
          refine v_iload (pc := 52) C d_M_isFrom_52 5 rfl ?_
          refine v_iald (pc := 54) C (sh_133 hL) d_M_isFrom_54 (fun _ => ?_)
          refine v_iload (pc := 55) C d_M_isFrom_55 0 rfl ?_
          refine v_isub (pc := 57) C d_M_isFrom_57 ?_
          refine v_iload_n (pc := 58) C d_M_isFrom_58 rfl 3 rfl ?_
          refine v_jn (fun j => ∀ (v5 : Int32), VO g Y_M_isFrom G (fun z => Qm g Y_M_isFrom G (fp L S z)) 0 0 76 [(0, rf G 104), (1, .int y1_), (3, .int x3_), (4, .int x4_), (5, .int r4)] [.int v5] L S (j (v5)) K) (fun v5 => ?_) (fun j76 hj76 => ?_)
          · refine v_istore_n (pc := 76) (lv' := [(2, .int v5), (0, rf G 104), (1, .int y1_), (3, .int x3_), (4, .int x4_), (5, .int r4)]) C d_M_isFrom_76 rfl (by decide) rfl ?_
            refine v_aload_n (pc := 77) C d_M_isFrom_77 rfl 1 rfl ?_
            refine v_getR (pc := 78) C fl_M_108 (sh_104 hL) rfl d_M_isFrom_78 ?_
            refine v_iload (pc := 81) C d_M_isFrom_81 4 rfl ?_
            refine v_iald (pc := 83) C (sh_134 hL) d_M_isFrom_83 (fun _ => ?_)
            refine v_iload (pc := 84) C d_M_isFrom_84 5 rfl ?_
            refine v_isub (pc := 86) C d_M_isFrom_86 ?_
            refine v_iload_n (pc := 87) C d_M_isFrom_87 rfl 3 rfl ?_
            refine v_jn (fun j => ∀ (v6 : Int32), VO g Y_M_isFrom G (fun z => Qm g Y_M_isFrom G (fp L S z)) 0 0 105 [(0, rf G 104), (1, .int y1_), (2, .int v5), (4, .int x4_)] [.int v6] L S (j (v6)) K) (fun v6 => ?_) (fun j105 hj105 => ?_)
            · refine v_istore_n (pc := 105) (lv' := [(3, .int v6), (0, rf G 104), (1, .int y1_), (2, .int v5), (4, .int x4_)]) C d_M_isFrom_105 rfl (by decide) rfl ?_
              refine v_sub [1, 2, 3, 0, 4] rfl ?_
              exact hj106 v5 v6
            · refine v_icmp_ge (pc := 88) (tgt := 104) C d_M_isFrom_88 rfl (fun _ => ?_) (fun _ => ?_)
              · refine v_iload_n (pc := 104) C d_M_isFrom_104 rfl 3 rfl ?_
                refine v_sub [1, 2, 0, 4] rfl ?_
                exact hj105 x3_
              · refine v_aload_n (pc := 91) C d_M_isFrom_91 rfl 1 rfl ?_
                refine v_getR (pc := 92) C fl_M_108 (sh_104 hL) rfl d_M_isFrom_92 ?_
                refine v_iload (pc := 95) C d_M_isFrom_95 4 rfl ?_
                refine v_iald (pc := 97) C (sh_134 hL) d_M_isFrom_97 (fun _ => ?_)
                refine v_iload (pc := 98) C d_M_isFrom_98 5 rfl ?_
                refine v_isub (pc := 100) C d_M_isFrom_100 ?_
                refine v_goto (pc := 101) (tgt := 105) C d_M_isFrom_101 rfl ?_
                refine v_sub [1, 2, 0, 4] rfl ?_
                exact hj105 ((S 134 x4_.toNatClampNeg) - r4)
          · refine v_icmp_le (pc := 59) (tgt := 75) C d_M_isFrom_59 rfl (fun _ => ?_) (fun _ => ?_)
            · refine v_iload_n (pc := 75) C d_M_isFrom_75 rfl 3 rfl ?_
              refine v_sub [1, 2, 4, 5, 0] rfl ?_
              exact hj76 x2_
            · refine v_aload_n (pc := 62) C d_M_isFrom_62 rfl 1 rfl ?_
              refine v_getR (pc := 63) C fl_M_105 (sh_104 hL) rfl d_M_isFrom_63 ?_
              refine v_iload (pc := 66) C d_M_isFrom_66 5 rfl ?_
              refine v_iald (pc := 68) C (sh_133 hL) d_M_isFrom_68 (fun _ => ?_)
              refine v_iload (pc := 69) C d_M_isFrom_69 0 rfl ?_
              refine v_isub (pc := 71) C d_M_isFrom_71 ?_
              refine v_goto (pc := 72) (tgt := 76) C d_M_isFrom_72 rfl ?_
              refine v_sub [1, 2, 4, 5, 0] rfl ?_
              exact hj76 ((S 133 x4_.toNatClampNeg) - r4)
        · refine v_goto (pc := 31) (tgt := 106) C d_M_isFrom_31 rfl ?_
          exact hj106 x2_ x3_
def r_M_isFrom (x1 : Int32) (S : Sto) : Option Int32 :=
  (r_M_isFrom_L11 x1 fu (-10000000) 10000000 0 S).bind (fun (v1, v2, v3) =>
  if v2 < v1 then
    some 0
  else
    some 1)
set_option maxHeartbeats 4000000 in
set_option maxRecDepth 20000 in
theorem c_M_isFrom {G : Gl} {L : Shp} (hL : Ext L) (S : Sto) (x1 : Int32)  : Ct Y_M_isFrom G [rf G 104, .int x1] L S (fp L S) (r_M_isFrom x1 S) := by
  refine ct_of (by decide +kernel) (Nat.le_of_ble_eq_true rfl) (fun g C => ?_)
  show VO g Y_M_isFrom G (fun z => Qm g Y_M_isFrom G (fp L S z)) 0 0 0 [(0, rf G 104), (1, .int x1)] [] L S (r_M_isFrom x1 S) some
  unfold r_M_isFrom
  refine v_ldc_w (pc := 0) C d_M_isFrom_0 kc_M_385 ?_
  refine v_istore_n (pc := 3) (lv' := [(2, .int (-10000000)), (0, rf G 104), (1, .int x1)]) C d_M_isFrom_3 rfl (by decide) rfl ?_
  refine v_ldc_w (pc := 4) C d_M_isFrom_4 kc_M_386 ?_
  refine v_istore_n (pc := 7) (lv' := [(3, .int 10000000), (2, .int (-10000000)), (0, rf G 104), (1, .int x1)]) C d_M_isFrom_7 rfl (by decide) rfl ?_
  refine v_iconst (pc := 8) C d_M_isFrom_8 ic_0 ?_
  refine v_istore (pc := 9) (lv' := [(4, .int 0), (3, .int 10000000), (2, .int (-10000000)), (0, rf G 104), (1, .int x1)]) C d_M_isFrom_9 (by decide) rfl ?_
  refine v_sub [3, 4, 2, 1, 0] rfl ?_
  refine v_bind ?_
  refine w_M_isFrom_L11 C hL S x1  fu (-10000000) 10000000 0 _ (fun v1 v2 v3 => ?_) 
  refine v_some ?_
  refine v_iload_n (pc := 112) C d_M_isFrom_112 rfl 0 rfl ?_
  refine v_iload_n (pc := 113) C d_M_isFrom_113 rfl 1 rfl ?_
  refine v_icmp_gt (pc := 114) (tgt := 121) C d_M_isFrom_114 rfl (fun _ => ?_) (fun _ => ?_)
  · refine v_iconst (pc := 121) C d_M_isFrom_121 ic_0 ?_
    exact v_zret (z := 0) C d_M_isFrom_122 rfl (b01_n (by decide)) ⟨Nat.zero_le _, Nat.zero_le _⟩ (rfl) rfl
  · refine v_iconst (pc := 117) C d_M_isFrom_117 ic_1 ?_
    refine v_goto (pc := 118) (tgt := 122) C d_M_isFrom_118 rfl ?_
    exact v_zret (z := 1) C d_M_isFrom_122 rfl (b01_n (by decide)) ⟨Nat.zero_le _, Nat.zero_le _⟩ (rfl) rfl
-- M_from
theorem d_M_from_0 : decode (mB Y_M_from) 0 = .ok (.aload_n 0, 1) := by decide +kernel
theorem d_M_from_1 : decode (mB Y_M_from) 1 = .ok (.iconst 0, 1) := by decide +kernel
theorem d_M_from_2 : decode (mB Y_M_from) 2 = .ok (.putfield 150, 3) := by decide +kernel
theorem d_M_from_5 : decode (mB Y_M_from) 5 = .ok (.aload_n 0, 1) := by decide +kernel
theorem d_M_from_6 : decode (mB Y_M_from) 6 = .ok (.iload_n 1, 1) := by decide +kernel
theorem d_M_from_7 : decode (mB Y_M_from) 7 = .ok (.iconst 0, 1) := by decide +kernel
theorem d_M_from_8 : decode (mB Y_M_from) 8 = .ok (.iconst 2, 1) := by decide +kernel
theorem d_M_from_9 : decode (mB Y_M_from) 9 = .ok (.invokevirtual 153, 3) := by decide +kernel
theorem d_M_from_12 : decode (mB Y_M_from) 12 = .ok (.ifCond .ne 5, 3) := by decide +kernel
theorem d_M_from_15 : decode (mB Y_M_from) 15 = .ok (.iconst (-1), 1) := by decide +kernel
theorem d_M_from_16 : decode (mB Y_M_from) 16 = .ok (.ireturn, 1) := by decide +kernel
theorem d_M_from_17 : decode (mB Y_M_from) 17 = .ok (.iconst 0, 1) := by decide +kernel
theorem d_M_from_18 : decode (mB Y_M_from) 18 = .ok (.istore_n 2, 1) := by decide +kernel
theorem d_M_from_19 : decode (mB Y_M_from) 19 = .ok (.iconst (-1), 1) := by decide +kernel
theorem d_M_from_20 : decode (mB Y_M_from) 20 = .ok (.istore_n 3, 1) := by decide +kernel
theorem d_M_from_21 : decode (mB Y_M_from) 21 = .ok (.iconst (-1), 1) := by decide +kernel
theorem d_M_from_22 : decode (mB Y_M_from) 22 = .ok (.istore 4, 2) := by decide +kernel
theorem d_M_from_24 : decode (mB Y_M_from) 24 = .ok (.iconst 0, 1) := by decide +kernel
theorem d_M_from_25 : decode (mB Y_M_from) 25 = .ok (.istore 5, 2) := by decide +kernel
theorem d_M_from_27 : decode (mB Y_M_from) 27 = .ok (.iload 5, 2) := by decide +kernel
theorem d_M_from_29 : decode (mB Y_M_from) 29 = .ok (.sipush 3600, 3) := by decide +kernel
theorem d_M_from_32 : decode (mB Y_M_from) 32 = .ok (.if_icmp .ge 36, 3) := by decide +kernel
theorem d_M_from_35 : decode (mB Y_M_from) 35 = .ok (.aload_n 0, 1) := by decide +kernel
theorem d_M_from_36 : decode (mB Y_M_from) 36 = .ok (.iload 5, 2) := by decide +kernel
theorem d_M_from_38 : decode (mB Y_M_from) 38 = .ok (.invokevirtual 387, 3) := by decide +kernel
theorem d_M_from_41 : decode (mB Y_M_from) 41 = .ok (.ifCond .ne 6, 3) := by decide +kernel
theorem d_M_from_44 : decode (mB Y_M_from) 44 = .ok (.goto 18, 3) := by decide +kernel
theorem d_M_from_47 : decode (mB Y_M_from) 47 = .ok (.iload_n 2, 1) := by decide +kernel
theorem d_M_from_48 : decode (mB Y_M_from) 48 = .ok (.ifCond .ne 6, 3) := by decide +kernel
theorem d_M_from_51 : decode (mB Y_M_from) 51 = .ok (.iload 5, 2) := by decide +kernel
theorem d_M_from_53 : decode (mB Y_M_from) 53 = .ok (.istore_n 3, 1) := by decide +kernel
theorem d_M_from_54 : decode (mB Y_M_from) 54 = .ok (.iload 5, 2) := by decide +kernel
theorem d_M_from_56 : decode (mB Y_M_from) 56 = .ok (.istore 4, 2) := by decide +kernel
theorem d_M_from_58 : decode (mB Y_M_from) 58 = .ok (.iload_n 2, 1) := by decide +kernel
theorem d_M_from_59 : decode (mB Y_M_from) 59 = .ok (.iconst 1, 1) := by decide +kernel
theorem d_M_from_60 : decode (mB Y_M_from) 60 = .ok (.iadd, 1) := by decide +kernel
theorem d_M_from_61 : decode (mB Y_M_from) 61 = .ok (.istore_n 2, 1) := by decide +kernel
theorem d_M_from_62 : decode (mB Y_M_from) 62 = .ok (.iinc 5 1, 3) := by decide +kernel
theorem d_M_from_65 : decode (mB Y_M_from) 65 = .ok (.goto (-38), 3) := by decide +kernel
theorem d_M_from_68 : decode (mB Y_M_from) 68 = .ok (.iload_n 1, 1) := by decide +kernel
theorem d_M_from_69 : decode (mB Y_M_from) 69 = .ok (.ifCond .ne 7, 3) := by decide +kernel
theorem d_M_from_72 : decode (mB Y_M_from) 72 = .ok (.iload_n 2, 1) := by decide +kernel
theorem d_M_from_73 : decode (mB Y_M_from) 73 = .ok (.goto 14, 3) := by decide +kernel
theorem d_M_from_76 : decode (mB Y_M_from) 76 = .ok (.iload_n 1, 1) := by decide +kernel
theorem d_M_from_77 : decode (mB Y_M_from) 77 = .ok (.iconst 1, 1) := by decide +kernel
theorem d_M_from_78 : decode (mB Y_M_from) 78 = .ok (.if_icmp .ne 7, 3) := by decide +kernel
theorem d_M_from_81 : decode (mB Y_M_from) 81 = .ok (.iload_n 3, 1) := by decide +kernel
theorem d_M_from_82 : decode (mB Y_M_from) 82 = .ok (.goto 5, 3) := by decide +kernel
theorem d_M_from_85 : decode (mB Y_M_from) 85 = .ok (.iload 4, 2) := by decide +kernel
theorem d_M_from_87 : decode (mB Y_M_from) 87 = .ok (.ireturn, 1) := by decide +kernel
theorem ro_M_from_M_isFrom : roomy Y_M_from Y_M_isFrom := ⟨Nat.le_of_ble_eq_true rfl, Nat.le_of_ble_eq_true rfl⟩
theorem ro_M_from_M_isIn : roomy Y_M_from Y_M_isIn := ⟨Nat.le_of_ble_eq_true rfl, Nat.le_of_ble_eq_true rfl⟩
def r_M_from_L27 (y1_ : Int32) : Nat → Int32 → Int32 → Int32 → Int32 → Sto → Option (Int32 × Int32 × Int32 × Int32)
  | 0, _, _, _, _, _ => none
  | n + 1, x2_, x3_, x4_, x5_, S =>
    if 3600 ≤ x5_ then
      some (x2_, x3_, x4_, x5_)
    else
      (r_M_isFrom x5_ S).bind (fun r1 =>
      jn (fun ((v2, v3, v4) : Int32 × Int32 × Int32) =>
        lt (x5_ + 1) (fun v5 =>
        r_M_from_L27 y1_ n v2 v3 v4 v5 S)) (fun j62 =>
      if r1 = 0 then
        j62 (x2_, x3_, x4_)
      else
        jn (fun (v6 : Int32) =>
          lt (x2_ + 1) (fun v7 =>
          j62 (v7, v6, x5_))) (fun j54 =>
        if x2_ = 0 then
          j54 (x5_)
        else
          j54 (x3_))))
set_option maxHeartbeats 4000000 in
set_option maxRecDepth 20000 in
theorem w_M_from_L27 {g : Gm} {G : Gl} {L : Shp} (C : Cx g Y_M_from G) (hL : Ext L) (S : Sto) (y1_ : Int32)  :
    ∀ (n : Nat) (x2_ : Int32) (x3_ : Int32) (x4_ : Int32) (x5_ : Int32) (K : (Int32 × Int32 × Int32 × Int32) → Option (Int32 × Sto)), (∀ (x2_ : Int32) (x3_ : Int32) (x4_ : Int32) (x5_ : Int32), VO g Y_M_from G (fun z => Qm g Y_M_from G (fi L z)) 0 0 68 [(1, .int y1_), (2, .int x2_), (3, .int x3_), (4, .int x4_)] [] L S (some (x2_, x3_, x4_, x5_)) K) → VO g Y_M_from G (fun z => Qm g Y_M_from G (fi L z)) 0 0 27 [(0, rf G 104), (1, .int y1_), (2, .int x2_), (3, .int x3_), (4, .int x4_), (5, .int x5_)] [] L S (r_M_from_L27 y1_ n x2_ x3_ x4_ x5_ S) K := by
  intro n
  induction n with
  | zero => intro x2_ x3_ x4_ x5_ K; intros; exact v_none
  | succ n ih =>
    intro x2_ x3_ x4_ x5_ K hK
    rw [r_M_from_L27]
    refine v_iload (pc := 27) C d_M_from_27 5 rfl ?_
    refine v_sipush (pc := 29) C d_M_from_29 sp_3600 ?_
    refine v_icmp_ge (pc := 32) (tgt := 68) C d_M_from_32 rfl (fun _ => ?_) (fun _ => ?_)
    · refine v_sub [1, 2, 3, 4] rfl ?_
      exact hK x2_ x3_ x4_ x5_
    · refine v_aload_n (pc := 35) C d_M_from_35 rfl 0 rfl ?_
      refine v_iload (pc := 36) C d_M_from_36 5 rfl ?_
      refine v_cp (pc := 38) (inv_V (As := [.int x5_]) (st := []) C ml_M_387 mv_M_isFrom ro_M_from_M_isFrom (sh_104 hL) rfl rfl rfl rfl (Nat.le_of_ble_eq_true rfl) d_M_from_38) (c_M_isFrom hL S x5_) ⟨rfl, rfl⟩ ⟨Nat.zero_le _, Nat.zero_le _⟩ (fun r1 => ?_)
      refine v_jn (fun j => ∀ (v2 : Int32) (v3 : Int32) (v4 : Int32), VO g Y_M_from G (fun z => Qm g Y_M_from G (fi L z)) 0 0 62 [(0, rf G 104), (1, .int y1_), (2, .int v2), (3, .int v3), (4, .int v4), (5, .int x5_)] [] L S (j (v2, v3, v4)) K) (fun v2 v3 v4 => ?_) (fun j62 hj62 => ?_)
      · refine v_iinc (pc := 62) (p := 5) (c := 1) C d_M_from_62 rfl (by decide) (by decide) (fun v5 => [(5, .int v5), (0, rf G 104), (1, .int y1_), (2, .int v2), (3, .int v3), (4, .int v4)]) (fun _ => rfl) (fun v5 => ?_)
        refine v_goto (pc := 65) (tgt := 27) C d_M_from_65 rfl ?_
        refine v_sub [1, 2, 3, 4, 5, 0] rfl ?_
        exact ih v2 v3 v4 v5 K hK
      · refine v_if_ne (pc := 41) (tgt := 47) C d_M_from_41 rfl (fun _ => ?_) (fun _ => ?_)
        · refine v_iload_n (pc := 47) C d_M_from_47 rfl 2 rfl ?_
          refine v_jn (fun j => ∀ (v6 : Int32), VO g Y_M_from G (fun z => Qm g Y_M_from G (fi L z)) 0 0 54 [(0, rf G 104), (1, .int y1_), (2, .int x2_), (3, .int v6), (5, .int x5_)] [] L S (j (v6)) K) (fun v6 => ?_) (fun j54 hj54 => ?_)
          · refine v_iload (pc := 54) C d_M_from_54 4 rfl ?_
            refine v_istore (pc := 56) (lv' := [(4, .int x5_), (0, rf G 104), (1, .int y1_), (2, .int x2_), (3, .int v6), (5, .int x5_)]) C d_M_from_56 (by decide) rfl ?_
            refine v_iload_n (pc := 58) C d_M_from_58 rfl 3 rfl ?_
            refine v_iconst (pc := 59) C d_M_from_59 ic_1 ?_
            refine v_iadd (pc := 60) C d_M_from_60 ?_
            refine v_lt (fun v7 => ?_)
            refine v_istore_n (pc := 61) (lv' := [(2, .int v7), (4, .int x5_), (0, rf G 104), (1, .int y1_), (3, .int v6), (5, .int x5_)]) C d_M_from_61 rfl (by decide) rfl ?_
            refine v_sub [2, 3, 0, 4, 1, 5] rfl ?_
            exact hj62 v7 v6 x5_
          · refine v_if_ne (pc := 48) (tgt := 54) C d_M_from_48 rfl (fun _ => ?_) (fun _ => ?_)
            · refine v_sub [0, 1, 2, 3, 5] rfl ?_
              exact hj54 x3_
            · refine v_iload (pc := 51) C d_M_from_51 5 rfl ?_
              refine v_istore_n (pc := 53) (lv' := [(3, .int x5_), (0, rf G 104), (1, .int y1_), (2, .int x2_), (4, .int x4_), (5, .int x5_)]) C d_M_from_53 rfl (by decide) rfl ?_
              refine v_sub [1, 2, 3, 0, 5] rfl ?_
              exact hj54 x5_
        · refine v_goto (pc := 44) (tgt := 62) C d_M_from_44 rfl ?_
          exact hj62 x2_ x3_ x4_
def r_M_from (x1 : Int32) (S : Sto) : Option (Int32 × Sto) :=
  ltS (sw S 104 0 0) (fun S1 =>
  if (r_M_isIn x1 0 2) = 0 then
    some ((-1), S1)
  else
    (r_M_from_L27 x1 fu 0 (-1) (-1) 0 S1).bind (fun (v2, v3, v4, v5) =>
    if x1 = 0 then
      some (v2, S1)
    else
      if x1 = 1 then
        some (v3, S1)
      else
        some (v4, S1)))
set_option maxHeartbeats 4000000 in
set_option maxRecDepth 20000 in
theorem c_M_from {G : Gl} {L : Shp} (hL : Ext L) (S : Sto) (x1 : Int32)  : Ct Y_M_from G [rf G 104, .int x1] L S (fi L) (r_M_from x1 S) := by
  refine ct_of (by decide +kernel) (Nat.le_of_ble_eq_true rfl) (fun g C => ?_)
  show VO g Y_M_from G (fun z => Qm g Y_M_from G (fi L z)) 0 0 0 [(0, rf G 104), (1, .int x1)] [] L S (r_M_from x1 S) some
  unfold r_M_from
  refine v_aload_n (pc := 0) C d_M_from_0 rfl 0 rfl ?_
  refine v_iconst (pc := 1) C d_M_from_1 ic_0 ?_
  refine v_putI (pc := 2) C fp_M_150 (sh_104 hL) rfl d_M_from_2 (fun S1 => ?_)
  refine v_aload_n (pc := 5) C d_M_from_5 rfl 0 rfl ?_
  refine v_iload_n (pc := 6) C d_M_from_6 rfl 1 rfl ?_
  refine v_iconst (pc := 7) C d_M_from_7 ic_0 ?_
  refine v_iconst (pc := 8) C d_M_from_8 ic_2 ?_
  refine v_ct (pc := 9) (inv_V (As := [.int x1, .int 0, .int 2]) (st := []) C ml_M_153 mv_M_isIn ro_M_from_M_isIn (sh_104 hL) rfl rfl rfl rfl (Nat.le_of_ble_eq_true rfl) d_M_from_9) (c_M_isIn hL S1 x1 0 2) ⟨rfl, rfl⟩ ⟨Nat.zero_le _, Nat.zero_le _⟩ ?_
  refine v_if_ne (pc := 12) (tgt := 17) C d_M_from_12 rfl (fun _ => ?_) (fun _ => ?_)
  · refine v_iconst (pc := 17) C d_M_from_17 ic_0 ?_
    refine v_istore_n (pc := 18) (lv' := [(2, .int 0), (0, rf G 104), (1, .int x1)]) C d_M_from_18 rfl (by decide) rfl ?_
    refine v_iconst (pc := 19) C d_M_from_19 ic_m1 ?_
    refine v_istore_n (pc := 20) (lv' := [(3, .int (-1)), (2, .int 0), (0, rf G 104), (1, .int x1)]) C d_M_from_20 rfl (by decide) rfl ?_
    refine v_iconst (pc := 21) C d_M_from_21 ic_m1 ?_
    refine v_istore (pc := 22) (lv' := [(4, .int (-1)), (3, .int (-1)), (2, .int 0), (0, rf G 104), (1, .int x1)]) C d_M_from_22 (by decide) rfl ?_
    refine v_iconst (pc := 24) C d_M_from_24 ic_0 ?_
    refine v_istore (pc := 25) (lv' := [(5, .int 0), (4, .int (-1)), (3, .int (-1)), (2, .int 0), (0, rf G 104), (1, .int x1)]) C d_M_from_25 (by decide) rfl ?_
    refine v_sub [4, 5, 3, 2, 1, 0] rfl ?_
    refine v_bind ?_
    refine w_M_from_L27 C hL S1 x1  fu 0 (-1) (-1) 0 _ (fun v2 v3 v4 v5 => ?_) 
    refine v_some ?_
    refine v_iload_n (pc := 68) C d_M_from_68 rfl 0 rfl ?_
    refine v_if_ne (pc := 69) (tgt := 76) C d_M_from_69 rfl (fun _ => ?_) (fun _ => ?_)
    · refine v_iload_n (pc := 76) C d_M_from_76 rfl 0 rfl ?_
      refine v_iconst (pc := 77) C d_M_from_77 ic_1 ?_
      refine v_icmp_ne (pc := 78) (tgt := 85) C d_M_from_78 rfl (fun _ => ?_) (fun _ => ?_)
      · refine v_iload (pc := 85) C d_M_from_85 3 rfl ?_
        exact v_iret (z := (v4, S1)) C d_M_from_87 rfl ⟨Nat.zero_le _, Nat.zero_le _⟩ (rfl) rfl
      · refine v_iload_n (pc := 81) C d_M_from_81 rfl 2 rfl ?_
        refine v_goto (pc := 82) (tgt := 87) C d_M_from_82 rfl ?_
        exact v_iret (z := (v3, S1)) C d_M_from_87 rfl ⟨Nat.zero_le _, Nat.zero_le _⟩ (rfl) rfl
    · refine v_iload_n (pc := 72) C d_M_from_72 rfl 1 rfl ?_
      refine v_goto (pc := 73) (tgt := 87) C d_M_from_73 rfl ?_
      exact v_iret (z := (v2, S1)) C d_M_from_87 rfl ⟨Nat.zero_le _, Nat.zero_le _⟩ (rfl) rfl
  · refine v_iconst (pc := 15) C d_M_from_15 ic_m1 ?_
    exact v_iret (z := ((-1), S1)) C d_M_from_16 rfl ⟨Nat.zero_le _, Nat.zero_le _⟩ (rfl) rfl
-- M_isTape
theorem d_M_isTape_0 : decode (mB Y_M_isTape) 0 = .ok (.aload_n 0, 1) := by decide +kernel
theorem d_M_isTape_1 : decode (mB Y_M_isTape) 1 = .ok (.iload_n 1, 1) := by decide +kernel
theorem d_M_isTape_2 : decode (mB Y_M_isTape) 2 = .ok (.iconst 0, 1) := by decide +kernel
theorem d_M_isTape_3 : decode (mB Y_M_isTape) 3 = .ok (.iconst 3, 1) := by decide +kernel
theorem d_M_isTape_4 : decode (mB Y_M_isTape) 4 = .ok (.invokevirtual 153, 3) := by decide +kernel
theorem d_M_isTape_7 : decode (mB Y_M_isTape) 7 = .ok (.ireturn, 1) := by decide +kernel
theorem ro_M_isTape_M_isIn : roomy Y_M_isTape Y_M_isIn := ⟨Nat.le_of_ble_eq_true rfl, Nat.le_of_ble_eq_true rfl⟩
def r_M_isTape (x1 : Int32) : Int32 := (r_M_isIn x1 0 3)
theorem z_M_isTape (x1 : Int32) : b01 (r_M_isTape x1) = true := by
  unfold r_M_isTape
  (repeat' split) <;> first | rfl | decide | exact z_M_isIn .. | rfl
set_option maxHeartbeats 4000000 in
set_option maxRecDepth 20000 in
theorem c_M_isTape {G : Gl} {L : Shp} (hL : Ext L) (S : Sto) (x1 : Int32)  : Ct Y_M_isTape G [rf G 104, .int x1] L S (fp L S) (some (r_M_isTape x1)) := by
  refine ct_of (by decide +kernel) (Nat.le_of_ble_eq_true rfl) (fun g C => ?_)
  have e : (some (r_M_isTape x1) : Option Int32) = some (r_M_isIn x1 0 3) := rfl
  rw [e]
  show VO g Y_M_isTape G (fun z => Qm g Y_M_isTape G (fp L S z)) 0 0 0 [(0, rf G 104), (1, .int x1)] [] L S _ some
  refine v_aload_n (pc := 0) C d_M_isTape_0 rfl 0 rfl ?_
  refine v_iload_n (pc := 1) C d_M_isTape_1 rfl 1 rfl ?_
  refine v_iconst (pc := 2) C d_M_isTape_2 ic_0 ?_
  refine v_iconst (pc := 3) C d_M_isTape_3 ic_3 ?_
  refine v_ct (pc := 4) (inv_V (As := [.int x1, .int 0, .int 3]) (st := []) C ml_M_153 mv_M_isIn ro_M_isTape_M_isIn (sh_104 hL) rfl rfl rfl rfl (Nat.le_of_ble_eq_true rfl) d_M_isTape_4) (c_M_isIn hL S x1 0 3) ⟨rfl, rfl⟩ ⟨Nat.zero_le _, Nat.zero_le _⟩ ?_
  exact v_zret (z := (r_M_isIn x1 0 3)) C d_M_isTape_7 rfl (b01_n (z_M_isIn x1 0 3)) ⟨Nat.zero_le _, Nat.zero_le _⟩ (rfl) rfl
-- M_click
theorem d_M_click_0 : decode (mB Y_M_click) 0 = .ok (.aload_n 0, 1) := by decide +kernel
theorem d_M_click_1 : decode (mB Y_M_click) 1 = .ok (.iconst 0, 1) := by decide +kernel
theorem d_M_click_2 : decode (mB Y_M_click) 2 = .ok (.putfield 150, 3) := by decide +kernel
theorem d_M_click_5 : decode (mB Y_M_click) 5 = .ok (.aload_n 0, 1) := by decide +kernel
theorem d_M_click_6 : decode (mB Y_M_click) 6 = .ok (.iload_n 1, 1) := by decide +kernel
theorem d_M_click_7 : decode (mB Y_M_click) 7 = .ok (.invokevirtual 390, 3) := by decide +kernel
theorem d_M_click_10 : decode (mB Y_M_click) 10 = .ok (.ifCond .eq 26, 3) := by decide +kernel
theorem d_M_click_13 : decode (mB Y_M_click) 13 = .ok (.aload_n 0, 1) := by decide +kernel
theorem d_M_click_14 : decode (mB Y_M_click) 14 = .ok (.iload_n 2, 1) := by decide +kernel
theorem d_M_click_15 : decode (mB Y_M_click) 15 = .ok (.iconst 0, 1) := by decide +kernel
theorem d_M_click_16 : decode (mB Y_M_click) 16 = .ok (.ldc_w 384, 3) := by decide +kernel
theorem d_M_click_19 : decode (mB Y_M_click) 19 = .ok (.invokevirtual 153, 3) := by decide +kernel
theorem d_M_click_22 : decode (mB Y_M_click) 22 = .ok (.ifCond .eq 14, 3) := by decide +kernel
theorem d_M_click_25 : decode (mB Y_M_click) 25 = .ok (.aload_n 0, 1) := by decide +kernel
theorem d_M_click_26 : decode (mB Y_M_click) 26 = .ok (.getfield 111, 3) := by decide +kernel
theorem d_M_click_29 : decode (mB Y_M_click) 29 = .ok (.iload_n 1, 1) := by decide +kernel
theorem d_M_click_30 : decode (mB Y_M_click) 30 = .ok (.iaload, 1) := by decide +kernel
theorem d_M_click_31 : decode (mB Y_M_click) 31 = .ok (.bipush 20, 2) := by decide +kernel
theorem d_M_click_33 : decode (mB Y_M_click) 33 = .ok (.if_icmp .ne 5, 3) := by decide +kernel
theorem d_M_click_36 : decode (mB Y_M_click) 36 = .ok (.iconst (-1), 1) := by decide +kernel
theorem d_M_click_37 : decode (mB Y_M_click) 37 = .ok (.ireturn, 1) := by decide +kernel
theorem d_M_click_38 : decode (mB Y_M_click) 38 = .ok (.aload_n 0, 1) := by decide +kernel
theorem d_M_click_39 : decode (mB Y_M_click) 39 = .ok (.getfield 111, 3) := by decide +kernel
theorem d_M_click_42 : decode (mB Y_M_click) 42 = .ok (.iload_n 1, 1) := by decide +kernel
theorem d_M_click_43 : decode (mB Y_M_click) 43 = .ok (.iaload, 1) := by decide +kernel
theorem d_M_click_44 : decode (mB Y_M_click) 44 = .ok (.ifCond .le 27, 3) := by decide +kernel
theorem d_M_click_47 : decode (mB Y_M_click) 47 = .ok (.iload_n 2, 1) := by decide +kernel
theorem d_M_click_48 : decode (mB Y_M_click) 48 = .ok (.aload_n 0, 1) := by decide +kernel
theorem d_M_click_49 : decode (mB Y_M_click) 49 = .ok (.getfield 114, 3) := by decide +kernel
theorem d_M_click_52 : decode (mB Y_M_click) 52 = .ok (.bipush 20, 2) := by decide +kernel
theorem d_M_click_54 : decode (mB Y_M_click) 54 = .ok (.iload_n 1, 1) := by decide +kernel
theorem d_M_click_55 : decode (mB Y_M_click) 55 = .ok (.imul, 1) := by decide +kernel
theorem d_M_click_56 : decode (mB Y_M_click) 56 = .ok (.aload_n 0, 1) := by decide +kernel
theorem d_M_click_57 : decode (mB Y_M_click) 57 = .ok (.getfield 111, 3) := by decide +kernel
theorem d_M_click_60 : decode (mB Y_M_click) 60 = .ok (.iload_n 1, 1) := by decide +kernel
theorem d_M_click_61 : decode (mB Y_M_click) 61 = .ok (.iaload, 1) := by decide +kernel
theorem d_M_click_62 : decode (mB Y_M_click) 62 = .ok (.iadd, 1) := by decide +kernel
theorem d_M_click_63 : decode (mB Y_M_click) 63 = .ok (.iconst 1, 1) := by decide +kernel
theorem d_M_click_64 : decode (mB Y_M_click) 64 = .ok (.isub, 1) := by decide +kernel
theorem d_M_click_65 : decode (mB Y_M_click) 65 = .ok (.iaload, 1) := by decide +kernel
theorem d_M_click_66 : decode (mB Y_M_click) 66 = .ok (.if_icmp .gt 5, 3) := by decide +kernel
theorem d_M_click_69 : decode (mB Y_M_click) 69 = .ok (.iconst (-1), 1) := by decide +kernel
theorem d_M_click_70 : decode (mB Y_M_click) 70 = .ok (.ireturn, 1) := by decide +kernel
theorem d_M_click_71 : decode (mB Y_M_click) 71 = .ok (.aload_n 0, 1) := by decide +kernel
theorem d_M_click_72 : decode (mB Y_M_click) 72 = .ok (.getfield 114, 3) := by decide +kernel
theorem d_M_click_75 : decode (mB Y_M_click) 75 = .ok (.bipush 20, 2) := by decide +kernel
theorem d_M_click_77 : decode (mB Y_M_click) 77 = .ok (.iload_n 1, 1) := by decide +kernel
theorem d_M_click_78 : decode (mB Y_M_click) 78 = .ok (.imul, 1) := by decide +kernel
theorem d_M_click_79 : decode (mB Y_M_click) 79 = .ok (.aload_n 0, 1) := by decide +kernel
theorem d_M_click_80 : decode (mB Y_M_click) 80 = .ok (.getfield 111, 3) := by decide +kernel
theorem d_M_click_83 : decode (mB Y_M_click) 83 = .ok (.iload_n 1, 1) := by decide +kernel
theorem d_M_click_84 : decode (mB Y_M_click) 84 = .ok (.iaload, 1) := by decide +kernel
theorem d_M_click_85 : decode (mB Y_M_click) 85 = .ok (.iadd, 1) := by decide +kernel
theorem d_M_click_86 : decode (mB Y_M_click) 86 = .ok (.iload_n 2, 1) := by decide +kernel
theorem d_M_click_87 : decode (mB Y_M_click) 87 = .ok (.iastore, 1) := by decide +kernel
theorem d_M_click_88 : decode (mB Y_M_click) 88 = .ok (.aload_n 0, 1) := by decide +kernel
theorem d_M_click_89 : decode (mB Y_M_click) 89 = .ok (.getfield 111, 3) := by decide +kernel
theorem d_M_click_92 : decode (mB Y_M_click) 92 = .ok (.iload_n 1, 1) := by decide +kernel
theorem d_M_click_93 : decode (mB Y_M_click) 93 = .ok (.aload_n 0, 1) := by decide +kernel
theorem d_M_click_94 : decode (mB Y_M_click) 94 = .ok (.getfield 111, 3) := by decide +kernel
theorem d_M_click_97 : decode (mB Y_M_click) 97 = .ok (.iload_n 1, 1) := by decide +kernel
theorem d_M_click_98 : decode (mB Y_M_click) 98 = .ok (.iaload, 1) := by decide +kernel
theorem d_M_click_99 : decode (mB Y_M_click) 99 = .ok (.iconst 1, 1) := by decide +kernel
theorem d_M_click_100 : decode (mB Y_M_click) 100 = .ok (.iadd, 1) := by decide +kernel
theorem d_M_click_101 : decode (mB Y_M_click) 101 = .ok (.iastore, 1) := by decide +kernel
theorem d_M_click_102 : decode (mB Y_M_click) 102 = .ok (.aload_n 0, 1) := by decide +kernel
theorem d_M_click_103 : decode (mB Y_M_click) 103 = .ok (.getfield 111, 3) := by decide +kernel
theorem d_M_click_106 : decode (mB Y_M_click) 106 = .ok (.iload_n 1, 1) := by decide +kernel
theorem d_M_click_107 : decode (mB Y_M_click) 107 = .ok (.iaload, 1) := by decide +kernel
theorem d_M_click_108 : decode (mB Y_M_click) 108 = .ok (.ireturn, 1) := by decide +kernel
theorem ro_M_click_M_isIn : roomy Y_M_click Y_M_isIn := ⟨Nat.le_of_ble_eq_true rfl, Nat.le_of_ble_eq_true rfl⟩
theorem ro_M_click_M_isTape : roomy Y_M_click Y_M_isTape := ⟨Nat.le_of_ble_eq_true rfl, Nat.le_of_ble_eq_true rfl⟩
def r_M_click (x1 : Int32) (x2 : Int32) (S : Sto) : Option (Int32 × Sto) :=
  ltS (sw S 104 0 0) (fun S1 =>
  if (r_M_isTape x1) = 0 then
    some ((-1), S1)
  else
    if (r_M_isIn x2 0 199999) = 0 then
      some ((-1), S1)
    else
      chk (inr x1 4) (
      if (S1 135 x1.toNatClampNeg) = 20 then
        some ((-1), S1)
      else
        chk (inr x1 4) (
        jn (fun (_ : Unit) =>
          chk (inr x1 4) (
          chk (inr ((20 * x1) + (S1 135 x1.toNatClampNeg)) 80) (
          ltS (sw S1 136 (((20 * x1) + (S1 135 x1.toNatClampNeg)).toNatClampNeg) x2) (fun S2 =>
          chk (inr x1 4) (
          chk (inr x1 4) (
          ltS (sw S2 135 x1.toNatClampNeg ((S2 135 x1.toNatClampNeg) + 1)) (fun S3 =>
          chk (inr x1 4) (
          some (S3 135 x1.toNatClampNeg, S3))))))))) (fun j71 =>
        if (S1 135 x1.toNatClampNeg) ≤ 0 then
          j71 ()
        else
          chk (inr x1 4) (
          chk (inr (((20 * x1) + (S1 135 x1.toNatClampNeg)) - 1) 80) (
          if (S1 136 ((((20 * x1) + (S1 135 x1.toNatClampNeg)) - 1).toNatClampNeg)) < x2 then
            j71 ()
          else
            some ((-1), S1)))))))
set_option maxHeartbeats 4000000 in
set_option maxRecDepth 20000 in
theorem c_M_click {G : Gl} {L : Shp} (hL : Ext L) (S : Sto) (x1 : Int32) (x2 : Int32)  : Ct Y_M_click G [rf G 104, .int x1, .int x2] L S (fi L) (r_M_click x1 x2 S) := by
  refine ct_of (by decide +kernel) (Nat.le_of_ble_eq_true rfl) (fun g C => ?_)
  show VO g Y_M_click G (fun z => Qm g Y_M_click G (fi L z)) 0 0 0 [(0, rf G 104), (1, .int x1), (2, .int x2)] [] L S (r_M_click x1 x2 S) some
  unfold r_M_click
  refine v_aload_n (pc := 0) C d_M_click_0 rfl 0 rfl ?_
  refine v_iconst (pc := 1) C d_M_click_1 ic_0 ?_
  refine v_putI (pc := 2) C fp_M_150 (sh_104 hL) rfl d_M_click_2 (fun S1 => ?_)
  refine v_aload_n (pc := 5) C d_M_click_5 rfl 0 rfl ?_
  refine v_iload_n (pc := 6) C d_M_click_6 rfl 1 rfl ?_
  refine v_ct (pc := 7) (inv_V (As := [.int x1]) (st := []) C ml_M_390 mv_M_isTape ro_M_click_M_isTape (sh_104 hL) rfl rfl rfl rfl (Nat.le_of_ble_eq_true rfl) d_M_click_7) (c_M_isTape hL S1 x1) ⟨rfl, rfl⟩ ⟨Nat.zero_le _, Nat.zero_le _⟩ ?_
  refine v_if_eq (pc := 10) (tgt := 36) C d_M_click_10 rfl (fun _ => ?_) (fun _ => ?_)
  · refine v_iconst (pc := 36) C d_M_click_36 ic_m1 ?_
    exact v_iret (z := ((-1), S1)) C d_M_click_37 rfl ⟨Nat.zero_le _, Nat.zero_le _⟩ (rfl) rfl
  · refine v_aload_n (pc := 13) C d_M_click_13 rfl 0 rfl ?_
    refine v_iload_n (pc := 14) C d_M_click_14 rfl 2 rfl ?_
    refine v_iconst (pc := 15) C d_M_click_15 ic_0 ?_
    refine v_ldc_w (pc := 16) C d_M_click_16 kc_M_384 ?_
    refine v_ct (pc := 19) (inv_V (As := [.int x2, .int 0, .int 199999]) (st := []) C ml_M_153 mv_M_isIn ro_M_click_M_isIn (sh_104 hL) rfl rfl rfl rfl (Nat.le_of_ble_eq_true rfl) d_M_click_19) (c_M_isIn hL S1 x2 0 199999) ⟨rfl, rfl⟩ ⟨Nat.zero_le _, Nat.zero_le _⟩ ?_
    refine v_if_eq (pc := 22) (tgt := 36) C d_M_click_22 rfl (fun _ => ?_) (fun _ => ?_)
    · refine v_iconst (pc := 36) C d_M_click_36 ic_m1 ?_
      exact v_iret (z := ((-1), S1)) C d_M_click_37 rfl ⟨Nat.zero_le _, Nat.zero_le _⟩ (rfl) rfl
    · refine v_aload_n (pc := 25) C d_M_click_25 rfl 0 rfl ?_
      refine v_getR (pc := 26) C fl_M_111 (sh_104 hL) rfl d_M_click_26 ?_
      refine v_iload_n (pc := 29) C d_M_click_29 rfl 1 rfl ?_
      refine v_iald (pc := 30) C (sh_135 hL) d_M_click_30 (fun _ => ?_)
      refine v_bipush (pc := 31) C d_M_click_31 bp_20 ?_
      refine v_icmp_ne (pc := 33) (tgt := 38) C d_M_click_33 rfl (fun _ => ?_) (fun _ => ?_)
      · refine v_aload_n (pc := 38) C d_M_click_38 rfl 0 rfl ?_
        refine v_getR (pc := 39) C fl_M_111 (sh_104 hL) rfl d_M_click_39 ?_
        refine v_iload_n (pc := 42) C d_M_click_42 rfl 1 rfl ?_
        refine v_iald (pc := 43) C (sh_135 hL) d_M_click_43 (fun _ => ?_)
        refine v_jn (fun j => VO g Y_M_click G (fun z => Qm g Y_M_click G (fi L z)) 0 0 71 [(0, rf G 104), (1, .int x1), (2, .int x2)] [] L S1 (j ()) some) (?_) (fun j71 hj71 => ?_)
        · refine v_aload_n (pc := 71) C d_M_click_71 rfl 0 rfl ?_
          refine v_getR (pc := 72) C fl_M_114 (sh_104 hL) rfl d_M_click_72 ?_
          refine v_bipush (pc := 75) C d_M_click_75 bp_20 ?_
          refine v_iload_n (pc := 77) C d_M_click_77 rfl 1 rfl ?_
          refine v_imul (pc := 78) C d_M_click_78 ?_
          refine v_aload_n (pc := 79) C d_M_click_79 rfl 0 rfl ?_
          refine v_getR (pc := 80) C fl_M_111 (sh_104 hL) rfl d_M_click_80 ?_
          refine v_iload_n (pc := 83) C d_M_click_83 rfl 1 rfl ?_
          refine v_iald (pc := 84) C (sh_135 hL) d_M_click_84 (fun _ => ?_)
          refine v_iadd (pc := 85) C d_M_click_85 ?_
          refine v_iload_n (pc := 86) C d_M_click_86 rfl 2 rfl ?_
          refine v_iast (pc := 87) C (sh_136 hL) d_M_click_87 (fun _ S2 => ?_)
          refine v_aload_n (pc := 88) C d_M_click_88 rfl 0 rfl ?_
          refine v_getR (pc := 89) C fl_M_111 (sh_104 hL) rfl d_M_click_89 ?_
          refine v_iload_n (pc := 92) C d_M_click_92 rfl 1 rfl ?_
          refine v_aload_n (pc := 93) C d_M_click_93 rfl 0 rfl ?_
          refine v_getR (pc := 94) C fl_M_111 (sh_104 hL) rfl d_M_click_94 ?_
          refine v_iload_n (pc := 97) C d_M_click_97 rfl 1 rfl ?_
          refine v_iald (pc := 98) C (sh_135 hL) d_M_click_98 (fun _ => ?_)
          refine v_iconst (pc := 99) C d_M_click_99 ic_1 ?_
          refine v_iadd (pc := 100) C d_M_click_100 ?_
          refine v_iast (pc := 101) C (sh_135 hL) d_M_click_101 (fun _ S3 => ?_)
          refine v_aload_n (pc := 102) C d_M_click_102 rfl 0 rfl ?_
          refine v_getR (pc := 103) C fl_M_111 (sh_104 hL) rfl d_M_click_103 ?_
          refine v_iload_n (pc := 106) C d_M_click_106 rfl 1 rfl ?_
          refine v_iald (pc := 107) C (sh_135 hL) d_M_click_107 (fun _ => ?_)
          exact v_iret (z := (S3 135 x1.toNatClampNeg, S3)) C d_M_click_108 rfl ⟨Nat.zero_le _, Nat.zero_le _⟩ (rfl) rfl
        · refine v_if_le (pc := 44) (tgt := 71) C d_M_click_44 rfl (fun _ => ?_) (fun _ => ?_)
          · exact hj71
          · refine v_iload_n (pc := 47) C d_M_click_47 rfl 2 rfl ?_
            refine v_aload_n (pc := 48) C d_M_click_48 rfl 0 rfl ?_
            refine v_getR (pc := 49) C fl_M_114 (sh_104 hL) rfl d_M_click_49 ?_
            refine v_bipush (pc := 52) C d_M_click_52 bp_20 ?_
            refine v_iload_n (pc := 54) C d_M_click_54 rfl 1 rfl ?_
            refine v_imul (pc := 55) C d_M_click_55 ?_
            refine v_aload_n (pc := 56) C d_M_click_56 rfl 0 rfl ?_
            refine v_getR (pc := 57) C fl_M_111 (sh_104 hL) rfl d_M_click_57 ?_
            refine v_iload_n (pc := 60) C d_M_click_60 rfl 1 rfl ?_
            refine v_iald (pc := 61) C (sh_135 hL) d_M_click_61 (fun _ => ?_)
            refine v_iadd (pc := 62) C d_M_click_62 ?_
            refine v_iconst (pc := 63) C d_M_click_63 ic_1 ?_
            refine v_isub (pc := 64) C d_M_click_64 ?_
            refine v_iald (pc := 65) C (sh_136 hL) d_M_click_65 (fun _ => ?_)
            refine v_icmp_gt (pc := 66) (tgt := 71) C d_M_click_66 rfl (fun _ => ?_) (fun _ => ?_)
            · exact hj71
            · refine v_iconst (pc := 69) C d_M_click_69 ic_m1 ?_
              exact v_iret (z := ((-1), S1)) C d_M_click_70 rfl ⟨Nat.zero_le _, Nat.zero_le _⟩ (rfl) rfl
      · refine v_iconst (pc := 36) C d_M_click_36 ic_m1 ?_
        exact v_iret (z := ((-1), S1)) C d_M_click_37 rfl ⟨Nat.zero_le _, Nat.zero_le _⟩ (rfl) rfl
