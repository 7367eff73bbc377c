-- Cw_countFitting
theorem d_Cw_countFitting_0 : decode (mB Y_Cw_countFitting) 0 = .ok (.iconst 0, 1) := by decide +kernel
theorem d_Cw_countFitting_1 : decode (mB Y_Cw_countFitting) 1 = .ok (.istore 4, 2) := by decide +kernel
theorem d_Cw_countFitting_3 : decode (mB Y_Cw_countFitting) 3 = .ok (.iconst 0, 1) := by decide +kernel
theorem d_Cw_countFitting_4 : decode (mB Y_Cw_countFitting) 4 = .ok (.istore 5, 2) := by decide +kernel
theorem d_Cw_countFitting_6 : decode (mB Y_Cw_countFitting) 6 = .ok (.iload 5, 2) := by decide +kernel
theorem d_Cw_countFitting_8 : decode (mB Y_Cw_countFitting) 8 = .ok (.aload_n 0, 1) := by decide +kernel
theorem d_Cw_countFitting_9 : decode (mB Y_Cw_countFitting) 9 = .ok (.getfield 95, 3) := by decide +kernel
theorem d_Cw_countFitting_12 : decode (mB Y_Cw_countFitting) 12 = .ok (.if_icmp .ge 82, 3) := by decide +kernel
theorem d_Cw_countFitting_15 : decode (mB Y_Cw_countFitting) 15 = .ok (.iconst 0, 1) := by decide +kernel
theorem d_Cw_countFitting_16 : decode (mB Y_Cw_countFitting) 16 = .ok (.istore 6, 2) := by decide +kernel
theorem d_Cw_countFitting_18 : decode (mB Y_Cw_countFitting) 18 = .ok (.iconst 0, 1) := by decide +kernel
theorem d_Cw_countFitting_19 : decode (mB Y_Cw_countFitting) 19 = .ok (.istore 7, 2) := by decide +kernel
theorem d_Cw_countFitting_21 : decode (mB Y_Cw_countFitting) 21 = .ok (.iload 7, 2) := by decide +kernel
theorem d_Cw_countFitting_23 : decode (mB Y_Cw_countFitting) 23 = .ok (.aload_n 2, 1) := by decide +kernel
theorem d_Cw_countFitting_24 : decode (mB Y_Cw_countFitting) 24 = .ok (.arraylength, 1) := by decide +kernel
theorem d_Cw_countFitting_25 : decode (mB Y_Cw_countFitting) 25 = .ok (.if_icmp .ge 55, 3) := by decide +kernel
theorem d_Cw_countFitting_28 : decode (mB Y_Cw_countFitting) 28 = .ok (.iload 6, 2) := by decide +kernel
theorem d_Cw_countFitting_30 : decode (mB Y_Cw_countFitting) 30 = .ok (.ifCond .ne 50, 3) := by decide +kernel
theorem d_Cw_countFitting_33 : decode (mB Y_Cw_countFitting) 33 = .ok (.iload_n 3, 1) := by decide +kernel
theorem d_Cw_countFitting_34 : decode (mB Y_Cw_countFitting) 34 = .ok (.iload 7, 2) := by decide +kernel
theorem d_Cw_countFitting_36 : decode (mB Y_Cw_countFitting) 36 = .ok (.ishr, 1) := by decide +kernel
theorem d_Cw_countFitting_37 : decode (mB Y_Cw_countFitting) 37 = .ok (.iconst 1, 1) := by decide +kernel
theorem d_Cw_countFitting_38 : decode (mB Y_Cw_countFitting) 38 = .ok (.iand, 1) := by decide +kernel
theorem d_Cw_countFitting_39 : decode (mB Y_Cw_countFitting) 39 = .ok (.ifCond .eq 35, 3) := by decide +kernel
theorem d_Cw_countFitting_42 : decode (mB Y_Cw_countFitting) 42 = .ok (.aload_n 0, 1) := by decide +kernel
theorem d_Cw_countFitting_43 : decode (mB Y_Cw_countFitting) 43 = .ok (.iload 5, 2) := by decide +kernel
theorem d_Cw_countFitting_45 : decode (mB Y_Cw_countFitting) 45 = .ok (.aload_n 2, 1) := by decide +kernel
theorem d_Cw_countFitting_46 : decode (mB Y_Cw_countFitting) 46 = .ok (.iload 7, 2) := by decide +kernel
theorem d_Cw_countFitting_48 : decode (mB Y_Cw_countFitting) 48 = .ok (.aaload, 1) := by decide +kernel
theorem d_Cw_countFitting_49 : decode (mB Y_Cw_countFitting) 49 = .ok (.invokevirtual 98, 3) := by decide +kernel
theorem d_Cw_countFitting_52 : decode (mB Y_Cw_countFitting) 52 = .ok (.aload_n 0, 1) := by decide +kernel
theorem d_Cw_countFitting_53 : decode (mB Y_Cw_countFitting) 53 = .ok (.iload_n 1, 1) := by decide +kernel
theorem d_Cw_countFitting_54 : decode (mB Y_Cw_countFitting) 54 = .ok (.invokevirtual 102, 3) := by decide +kernel
theorem d_Cw_countFitting_57 : decode (mB Y_Cw_countFitting) 57 = .ok (.aload_n 0, 1) := by decide +kernel
theorem d_Cw_countFitting_58 : decode (mB Y_Cw_countFitting) 58 = .ok (.getfield 26, 3) := by decide +kernel
theorem d_Cw_countFitting_61 : decode (mB Y_Cw_countFitting) 61 = .ok (.iload 5, 2) := by decide +kernel
theorem d_Cw_countFitting_63 : decode (mB Y_Cw_countFitting) 63 = .ok (.iaload, 1) := by decide +kernel
theorem d_Cw_countFitting_64 : decode (mB Y_Cw_countFitting) 64 = .ok (.if_icmp .ne 7, 3) := by decide +kernel
theorem d_Cw_countFitting_67 : decode (mB Y_Cw_countFitting) 67 = .ok (.iconst 1, 1) := by decide +kernel
theorem d_Cw_countFitting_68 : decode (mB Y_Cw_countFitting) 68 = .ok (.goto 4, 3) := by decide +kernel
theorem d_Cw_countFitting_71 : decode (mB Y_Cw_countFitting) 71 = .ok (.iconst 0, 1) := by decide +kernel
theorem d_Cw_countFitting_72 : decode (mB Y_Cw_countFitting) 72 = .ok (.istore 6, 2) := by decide +kernel
theorem d_Cw_countFitting_74 : decode (mB Y_Cw_countFitting) 74 = .ok (.iinc 7 1, 3) := by decide +kernel
theorem d_Cw_countFitting_77 : decode (mB Y_Cw_countFitting) 77 = .ok (.goto (-56), 3) := by decide +kernel
theorem d_Cw_countFitting_80 : decode (mB Y_Cw_countFitting) 80 = .ok (.iload 6, 2) := by decide +kernel
theorem d_Cw_countFitting_82 : decode (mB Y_Cw_countFitting) 82 = .ok (.ifCond .eq 6, 3) := by decide +kernel
theorem d_Cw_countFitting_85 : decode (mB Y_Cw_countFitting) 85 = .ok (.iinc 4 1, 3) := by decide +kernel
theorem d_Cw_countFitting_88 : decode (mB Y_Cw_countFitting) 88 = .ok (.iinc 5 1, 3) := by decide +kernel
theorem d_Cw_countFitting_91 : decode (mB Y_Cw_countFitting) 91 = .ok (.goto (-85), 3) := by decide +kernel
theorem d_Cw_countFitting_94 : decode (mB Y_Cw_countFitting) 94 = .ok (.iload 4, 2) := by decide +kernel
theorem d_Cw_countFitting_96 : decode (mB Y_Cw_countFitting) 96 = .ok (.ireturn, 1) := by decide +kernel
theorem ro_Cw_countFitting_Cw_attend : roomy Y_Cw_countFitting Y_Cw_attend := ⟨Nat.le_of_ble_eq_true rfl, Nat.le_of_ble_eq_true rfl⟩
theorem ro_Cw_countFitting_Cw_sectorBy : roomy Y_Cw_countFitting Y_Cw_sectorBy := ⟨Nat.le_of_ble_eq_true rfl, Nat.le_of_ble_eq_true rfl⟩
def r_Cw_countFitting_L21 (y1_ : Int32) (y3_ : Int32) (y4_ : Int32) (y5_ : Int32) : Nat → Int32 → Int32 → Sto → Option (Int32 × Int32 × Sto)
  | 0, _, _, _ => none
  | n + 1, x6_, x7_, S =>
    if 10 ≤ x7_ then
      some (x6_, x7_, S)
    else
      if x6_ = 0 then
        jn (fun ((v1, S2) : Int32 × Sto) =>
          lt (x7_ + 1) (fun v3 =>
          r_Cw_countFitting_L21 y1_ y3_ y4_ y5_ n v1 v3 S2)) (fun j74 =>
        if ((y3_ >>> (x7_ &&& 31)) &&& 1) = 0 then
          j74 (x6_, S)
        else
          chk (inr x7_ 10) (
          ltN x7_.toNatClampNeg (fun j4 =>
          (r_Cw_attend y5_ (19 + 1 * j4) S).bind (fun S5 =>
          (r_Cw_sectorBy y1_ S5).bind (fun (r6, S7) =>
          chk (inr y5_ 20) (
          jn (fun (v8 : Int32) =>
            j74 (v8, S7)) (fun j72 =>
          if r6 = (S7 48 y5_.toNatClampNeg) then
            j72 (1)
          else
            j72 (0))))))))
      else
        some (x6_, x7_, S)
def r_Cw_countFitting_L6 (y1_ : Int32) (y3_ : Int32) : Nat → Int32 → Int32 → Sto → Option (Int32 × Int32 × Sto)
  | 0, _, _, _ => none
  | n + 1, x4_, x5_, S =>
    if (S 33 4) ≤ x5_ then
      some (x4_, x5_, S)
    else
      (r_Cw_countFitting_L21 y1_ y3_ x4_ x5_ fu 0 0 S).bind (fun (v1, v2, S3) =>
      jn (fun (v4 : Int32) =>
        lt (x5_ + 1) (fun v5 =>
        r_Cw_countFitting_L6 y1_ y3_ n v4 v5 S3)) (fun j88 =>
      if v1 = 0 then
        j88 (x4_)
      else
        lt (x4_ + 1) (fun v6 =>
        j88 (v6))))
set_option maxHeartbeats 4000000 in
set_option maxRecDepth 20000 in
theorem w_Cw_countFitting_L21 {g : Gm} {G : Gl} {L : Shp} (C : Cx g Y_Cw_countFitting G) (hL : Ext L) (y1_ : Int32) (y3_ : Int32) (y4_ : Int32) (y5_ : Int32)  :
    ∀ (n : Nat) (x6_ : Int32) (x7_ : Int32) (S : Sto) (K : (Int32 × Int32 × Sto) → Option (Int32 × Sto)), (∀ (x6_ : Int32) (x7_ : Int32) (S : Sto), VO g Y_Cw_countFitting G (fun z => Qm g Y_Cw_countFitting G (fi L z)) 0 0 80 [(0, rf G 33), (1, .int y1_), (2, rf G 18), (3, .int y3_), (4, .int y4_), (5, .int y5_), (6, .int x6_)] [] L S (some (x6_, x7_, S)) K) → VO g Y_Cw_countFitting G (fun z => Qm g Y_Cw_countFitting G (fi L z)) 0 0 21 [(0, rf G 33), (1, .int y1_), (2, rf G 18), (3, .int y3_), (4, .int y4_), (5, .int y5_), (6, .int x6_), (7, .int x7_)] [] L S (r_Cw_countFitting_L21 y1_ y3_ y4_ y5_ n x6_ x7_ S) K := by
  intro n
  induction n with
  | zero => intro x6_ x7_ S K; intros; exact v_none
  | succ n ih =>
    intro x6_ x7_ S K hK
    rw [r_Cw_countFitting_L21]
    refine v_iload (pc := 21) C d_Cw_countFitting_21 7 rfl ?_
    refine v_aload_n (pc := 23) C d_Cw_countFitting_23 rfl 2 rfl ?_
    refine v_alen (pc := 24) (v := 10) (t := 5) C (sh_18 hL) rfl rfl rfl d_Cw_countFitting_24 ?_
    refine v_icmp_ge (pc := 25) (tgt := 80) C d_Cw_countFitting_25 rfl (fun _ => ?_) (fun _ => ?_)
    · refine v_sub [0, 1, 2, 3, 4, 5, 6] rfl ?_
      exact hK x6_ x7_ S
    · refine v_iload (pc := 28) C d_Cw_countFitting_28 6 rfl ?_
      refine v_if_ne (pc := 30) (tgt := 80) C d_Cw_countFitting_30 rfl (fun _ => ?_) (fun _ => ?_)
      · refine v_sub [0, 1, 2, 3, 4, 5, 6] rfl ?_
        exact hK x6_ x7_ S
      · refine v_iload_n (pc := 33) C d_Cw_countFitting_33 rfl 3 rfl ?_
        refine v_iload (pc := 34) C d_Cw_countFitting_34 7 rfl ?_
        refine v_ishr (pc := 36) C d_Cw_countFitting_36 ?_
        refine v_iconst (pc := 37) C d_Cw_countFitting_37 ic_1 ?_
        refine v_iand (pc := 38) C d_Cw_countFitting_38 ?_
        refine v_jn (fun j => ∀ (v1 : Int32) (S2 : Sto), VO g Y_Cw_countFitting G (fun z => Qm g Y_Cw_countFitting G (fi L z)) 0 0 74 [(0, rf G 33), (1, .int y1_), (2, rf G 18), (3, .int y3_), (4, .int y4_), (5, .int y5_), (6, .int v1), (7, .int x7_)] [] L S2 (j (v1, S2)) K) (fun v1 S2 => ?_) (fun j74 hj74 => ?_)
        · refine v_iinc (pc := 74) (p := 7) (c := 1) C d_Cw_countFitting_74 rfl (by decide) (by decide) (fun v3 => [(7, .int v3), (0, rf G 33), (1, .int y1_), (2, rf G 18), (3, .int y3_), (4, .int y4_), (5, .int y5_), (6, .int v1)]) (fun _ => rfl) (fun v3 => ?_)
          refine v_goto (pc := 77) (tgt := 21) C d_Cw_countFitting_77 rfl ?_
          refine v_sub [1, 2, 3, 4, 5, 6, 7, 0] rfl ?_
          exact ih v1 v3 S2 K hK
        · refine v_if_eq (pc := 39) (tgt := 74) C d_Cw_countFitting_39 rfl (fun _ => ?_) (fun _ => ?_)
          · exact hj74 x6_ S
          · refine v_aload_n (pc := 42) C d_Cw_countFitting_42 rfl 0 rfl ?_
            refine v_iload (pc := 43) C d_Cw_countFitting_43 5 rfl ?_
            refine v_aload_n (pc := 45) C d_Cw_countFitting_45 rfl 2 rfl ?_
            refine v_iload (pc := 46) C d_Cw_countFitting_46 7 rfl ?_
            refine v_aald (pc := 48) (c0 := 19) (e := 1) C (sh_18 hL) rfl (by decide) d_Cw_countFitting_48 (fun j4 hj4 => ?_)
            refine v_cv (pc := 49) (inv_V (As := [.int y5_, rf G (19 + 1 * j4)]) (st := []) C ml_Cw_98 mv_Cw_attend ro_Cw_countFitting_Cw_attend (sh_33 hL) rfl rfl rfl rfl (Nat.le_of_ble_eq_true rfl) d_Cw_countFitting_49) (c_Cw_attend hL S y5_ (19 + 1 * j4) (shot_at hL hj4)) ⟨rfl, rfl⟩ ⟨Nat.zero_le _, Nat.zero_le _⟩ (fun S5 => ?_)
            refine v_aload_n (pc := 52) C d_Cw_countFitting_52 rfl 0 rfl ?_
            refine v_iload_n (pc := 53) C d_Cw_countFitting_53 rfl 1 rfl ?_
            refine v_ci (pc := 54) (inv_V (As := [.int y1_]) (st := []) C ml_Cw_102 mv_Cw_sectorBy ro_Cw_countFitting_Cw_sectorBy (sh_33 hL) rfl rfl rfl rfl (Nat.le_of_ble_eq_true rfl) d_Cw_countFitting_54) (c_Cw_sectorBy hL S5 y1_) ⟨rfl, rfl⟩ ⟨Nat.zero_le _, Nat.zero_le _⟩ (fun r6 S7 => ?_)
            refine v_aload_n (pc := 57) C d_Cw_countFitting_57 rfl 0 rfl ?_
            refine v_getR (pc := 58) C fl_Cw_26 (sh_33 hL) rfl d_Cw_countFitting_58 ?_
            refine v_iload (pc := 61) C d_Cw_countFitting_61 5 rfl ?_
            refine v_iald (pc := 63) C (sh_48 hL) d_Cw_countFitting_63 (fun _ => ?_)
            refine v_jn (fun j => ∀ (v8 : Int32), VO g Y_Cw_countFitting G (fun z => Qm g Y_Cw_countFitting G (fi L z)) 0 0 72 [(0, rf G 33), (1, .int y1_), (2, rf G 18), (3, .int y3_), (4, .int y4_), (5, .int y5_), (7, .int x7_)] [.int v8] L S7 (j (v8)) K) (fun v8 => ?_) (fun j72 hj72 => ?_)
            · refine v_istore (pc := 72) (lv' := [(6, .int v8), (0, rf G 33), (1, .int y1_), (2, rf G 18), (3, .int y3_), (4, .int y4_), (5, .int y5_), (7, .int x7_)]) C d_Cw_countFitting_72 (by decide) rfl ?_
              refine v_sub [1, 2, 3, 4, 5, 6, 0, 7] rfl ?_
              exact hj74 v8 S7
            · refine v_icmp_ne (pc := 64) (tgt := 71) C d_Cw_countFitting_64 rfl (fun _ => ?_) (fun _ => ?_)
              · refine v_iconst (pc := 71) C d_Cw_countFitting_71 ic_0 ?_
                refine v_sub [0, 1, 2, 3, 4, 5, 7] rfl ?_
                exact hj72 0
              · refine v_iconst (pc := 67) C d_Cw_countFitting_67 ic_1 ?_
                refine v_goto (pc := 68) (tgt := 72) C d_Cw_countFitting_68 rfl ?_
                refine v_sub [0, 1, 2, 3, 4, 5, 7] rfl ?_
                exact hj72 1
set_option maxHeartbeats 4000000 in
set_option maxRecDepth 20000 in
theorem w_Cw_countFitting_L6 {g : Gm} {G : Gl} {L : Shp} (C : Cx g Y_Cw_countFitting G) (hL : Ext L) (y1_ : Int32) (y3_ : Int32)  :
    ∀ (n : Nat) (x4_ : Int32) (x5_ : Int32) (S : Sto) (K : (Int32 × Int32 × Sto) → Option (Int32 × Sto)), (∀ (x4_ : Int32) (x5_ : Int32) (S : Sto), VO g Y_Cw_countFitting G (fun z => Qm g Y_Cw_countFitting G (fi L z)) 0 0 94 [(4, .int x4_)] [] L S (some (x4_, x5_, S)) K) → VO g Y_Cw_countFitting G (fun z => Qm g Y_Cw_countFitting G (fi L z)) 0 0 6 [(0, rf G 33), (1, .int y1_), (2, rf G 18), (3, .int y3_), (4, .int x4_), (5, .int x5_)] [] L S (r_Cw_countFitting_L6 y1_ y3_ n x4_ x5_ S) K := by
  intro n
  induction n with
  | zero => intro x4_ x5_ S K; intros; exact v_none
  | succ n ih =>
    intro x4_ x5_ S K hK
    rw [r_Cw_countFitting_L6]
    refine v_iload (pc := 6) C d_Cw_countFitting_6 5 rfl ?_
    refine v_aload_n (pc := 8) C d_Cw_countFitting_8 rfl 0 rfl ?_
    refine v_getI (pc := 9) C fl_Cw_95 (sh_33 hL) rfl d_Cw_countFitting_9 ?_
    refine v_icmp_ge (pc := 12) (tgt := 94) C d_Cw_countFitting_12 rfl (fun _ => ?_) (fun _ => ?_)
    · refine v_sub [4] rfl ?_
      exact hK x4_ x5_ S
    · refine v_iconst (pc := 15) C d_Cw_countFitting_15 ic_0 ?_
      refine v_istore (pc := 16) (lv' := [(6, .int 0), (0, rf G 33), (1, .int y1_), (2, rf G 18), (3, .int y3_), (4, .int x4_), (5, .int x5_)]) C d_Cw_countFitting_16 (by decide) rfl ?_
      refine v_iconst (pc := 18) C d_Cw_countFitting_18 ic_0 ?_
      refine v_istore (pc := 19) (lv' := [(7, .int 0), (6, .int 0), (0, rf G 33), (1, .int y1_), (2, rf G 18), (3, .int y3_), (4, .int x4_), (5, .int x5_)]) C d_Cw_countFitting_19 (by decide) rfl ?_
      refine v_sub [2, 3, 4, 5, 6, 7, 1, 0] rfl ?_
      refine v_bind ?_
      refine w_Cw_countFitting_L21 C hL y1_ y3_ x4_ x5_  fu 0 0 S _ (fun v1 v2 S3 => ?_) 
      refine v_some ?_
      refine v_iload (pc := 80) C d_Cw_countFitting_80 6 rfl ?_
      refine v_jn (fun j => ∀ (v4 : Int32), VO g Y_Cw_countFitting G (fun z => Qm g Y_Cw_countFitting G (fi L z)) 0 0 88 [(0, rf G 33), (1, .int y1_), (2, rf G 18), (3, .int y3_), (4, .int v4), (5, .int x5_)] [] L S3 (j (v4)) K) (fun v4 => ?_) (fun j88 hj88 => ?_)
      · refine v_iinc (pc := 88) (p := 5) (c := 1) C d_Cw_countFitting_88 rfl (by decide) (by decide) (fun v5 => [(5, .int v5), (0, rf G 33), (1, .int y1_), (2, rf G 18), (3, .int y3_), (4, .int v4)]) (fun _ => rfl) (fun v5 => ?_)
        refine v_goto (pc := 91) (tgt := 6) C d_Cw_countFitting_91 rfl ?_
        refine v_sub [1, 2, 3, 4, 5, 0] rfl ?_
        exact ih v4 v5 S3 K hK
      · refine v_if_eq (pc := 82) (tgt := 88) C d_Cw_countFitting_82 rfl (fun _ => ?_) (fun _ => ?_)
        · refine v_sub [0, 1, 2, 3, 4, 5] rfl ?_
          exact hj88 x4_
        · refine v_iinc (pc := 85) (p := 4) (c := 1) C d_Cw_countFitting_85 rfl (by decide) (by decide) (fun v6 => [(4, .int v6), (0, rf G 33), (1, .int y1_), (2, rf G 18), (3, .int y3_), (5, .int x5_), (6, .int v1)]) (fun _ => rfl) (fun v6 => ?_)
          refine v_sub [1, 2, 3, 4, 0, 5] rfl ?_
          exact hj88 v6
def r_Cw_countFitting (x1 : Int32) (x3 : Int32) (S : Sto) : Option (Int32 × Sto) :=
  (r_Cw_countFitting_L6 x1 x3 fu 0 0 S).bind (fun (v1, v2, S3) =>
  some (v1, S3))
set_option maxHeartbeats 4000000 in
set_option maxRecDepth 20000 in
theorem c_Cw_countFitting {G : Gl} {L : Shp} (hL : Ext L) (S : Sto) (x1 : Int32) (x3 : Int32)  : Ct Y_Cw_countFitting G [rf G 33, .int x1, rf G 18, .int x3] L S (fi L) (r_Cw_countFitting x1 x3 S) := by
  refine ct_of (by decide +kernel) (Nat.le_of_ble_eq_true rfl) (fun g C => ?_)
  show VO g Y_Cw_countFitting G (fun z => Qm g Y_Cw_countFitting G (fi L z)) 0 0 0 [(0, rf G 33), (1, .int x1), (2, rf G 18), (3, .int x3)] [] L S (r_Cw_countFitting x1 x3 S) some
  unfold r_Cw_countFitting
  refine v_iconst (pc := 0) C d_Cw_countFitting_0 ic_0 ?_
  refine v_istore (pc := 1) (lv' := [(4, .int 0), (0, rf G 33), (1, .int x1), (2, rf G 18), (3, .int x3)]) C d_Cw_countFitting_1 (by decide) rfl ?_
  refine v_iconst (pc := 3) C d_Cw_countFitting_3 ic_0 ?_
  refine v_istore (pc := 4) (lv' := [(5, .int 0), (4, .int 0), (0, rf G 33), (1, .int x1), (2, rf G 18), (3, .int x3)]) C d_Cw_countFitting_4 (by decide) rfl ?_
  refine v_sub [2, 3, 4, 5, 1, 0] rfl ?_
  refine v_bind ?_
  refine w_Cw_countFitting_L6 C hL x1 x3  fu 0 0 S _ (fun v1 v2 S3 => ?_) 
  refine v_some ?_
  refine v_iload (pc := 94) C d_Cw_countFitting_94 0 rfl ?_
  exact v_iret (z := (v1, S3)) C d_Cw_countFitting_96 rfl ⟨Nat.zero_le _, Nat.zero_le _⟩ (rfl) rfl
-- Sp_add
theorem d_Sp_add_0 : decode (mB Y_Sp_add) 0 = .ok (.aload_n 0, 1) := by decide +kernel
theorem d_Sp_add_1 : decode (mB Y_Sp_add) 1 = .ok (.getfield 27, 3) := by decide +kernel
theorem d_Sp_add_4 : decode (mB Y_Sp_add) 4 = .ok (.aload_n 0, 1) := by decide +kernel
theorem d_Sp_add_5 : decode (mB Y_Sp_add) 5 = .ok (.getfield 15, 3) := by decide +kernel
theorem d_Sp_add_8 : decode (mB Y_Sp_add) 8 = .ok (.arraylength, 1) := by decide +kernel
theorem d_Sp_add_9 : decode (mB Y_Sp_add) 9 = .ok (.if_icmp .lt 5, 3) := by decide +kernel
theorem d_Sp_add_12 : decode (mB Y_Sp_add) 12 = .ok (.iconst (-1), 1) := by decide +kernel
theorem d_Sp_add_13 : decode (mB Y_Sp_add) 13 = .ok (.ireturn, 1) := by decide +kernel
theorem d_Sp_add_14 : decode (mB Y_Sp_add) 14 = .ok (.aload_n 0, 1) := by decide +kernel
theorem d_Sp_add_15 : decode (mB Y_Sp_add) 15 = .ok (.getfield 15, 3) := by decide +kernel
theorem d_Sp_add_18 : decode (mB Y_Sp_add) 18 = .ok (.aload_n 0, 1) := by decide +kernel
theorem d_Sp_add_19 : decode (mB Y_Sp_add) 19 = .ok (.getfield 27, 3) := by decide +kernel
theorem d_Sp_add_22 : decode (mB Y_Sp_add) 22 = .ok (.iload_n 1, 1) := by decide +kernel
theorem d_Sp_add_23 : decode (mB Y_Sp_add) 23 = .ok (.iastore, 1) := by decide +kernel
theorem d_Sp_add_24 : decode (mB Y_Sp_add) 24 = .ok (.aload_n 0, 1) := by decide +kernel
theorem d_Sp_add_25 : decode (mB Y_Sp_add) 25 = .ok (.getfield 21, 3) := by decide +kernel
theorem d_Sp_add_28 : decode (mB Y_Sp_add) 28 = .ok (.aload_n 0, 1) := by decide +kernel
theorem d_Sp_add_29 : decode (mB Y_Sp_add) 29 = .ok (.getfield 27, 3) := by decide +kernel
theorem d_Sp_add_32 : decode (mB Y_Sp_add) 32 = .ok (.iload_n 2, 1) := by decide +kernel
theorem d_Sp_add_33 : decode (mB Y_Sp_add) 33 = .ok (.iastore, 1) := by decide +kernel
theorem d_Sp_add_34 : decode (mB Y_Sp_add) 34 = .ok (.aload_n 0, 1) := by decide +kernel
theorem d_Sp_add_35 : decode (mB Y_Sp_add) 35 = .ok (.getfield 24, 3) := by decide +kernel
theorem d_Sp_add_38 : decode (mB Y_Sp_add) 38 = .ok (.aload_n 0, 1) := by decide +kernel
theorem d_Sp_add_39 : decode (mB Y_Sp_add) 39 = .ok (.getfield 27, 3) := by decide +kernel
theorem d_Sp_add_42 : decode (mB Y_Sp_add) 42 = .ok (.iload_n 3, 1) := by decide +kernel
theorem d_Sp_add_43 : decode (mB Y_Sp_add) 43 = .ok (.iastore, 1) := by decide +kernel
theorem d_Sp_add_44 : decode (mB Y_Sp_add) 44 = .ok (.aload_n 0, 1) := by decide +kernel
theorem d_Sp_add_45 : decode (mB Y_Sp_add) 45 = .ok (.dup, 1) := by decide +kernel
theorem d_Sp_add_46 : decode (mB Y_Sp_add) 46 = .ok (.getfield 27, 3) := by decide +kernel
theorem d_Sp_add_49 : decode (mB Y_Sp_add) 49 = .ok (.iconst 1, 1) := by decide +kernel
theorem d_Sp_add_50 : decode (mB Y_Sp_add) 50 = .ok (.iadd, 1) := by decide +kernel
theorem d_Sp_add_51 : decode (mB Y_Sp_add) 51 = .ok (.putfield 27, 3) := by decide +kernel
theorem d_Sp_add_54 : decode (mB Y_Sp_add) 54 = .ok (.aload_n 0, 1) := by decide +kernel
theorem d_Sp_add_55 : decode (mB Y_Sp_add) 55 = .ok (.getfield 27, 3) := by decide +kernel
theorem d_Sp_add_58 : decode (mB Y_Sp_add) 58 = .ok (.iconst 1, 1) := by decide +kernel
theorem d_Sp_add_59 : decode (mB Y_Sp_add) 59 = .ok (.isub, 1) := by decide +kernel
theorem d_Sp_add_60 : decode (mB Y_Sp_add) 60 = .ok (.ireturn, 1) := by decide +kernel
def r_Sp_add (a0 : Nat) (m0 : Nat) (x1 : Int32) (x2 : Int32) (x3 : Int32) (S : Sto) : Option (Int32 × Sto) :=
  if (S a0 3) < (nI m0) then
    chk (inr (S a0 3) m0) (
    ltS (sw S (a0 + 1) ((S a0 3).toNatClampNeg) x1) (fun S1 =>
    chk (inr (S1 a0 3) m0) (
    ltS (sw S1 (a0 + 2) ((S1 a0 3).toNatClampNeg) x2) (fun S2 =>
    chk (inr (S2 a0 3) m0) (
    ltS (sw S2 (a0 + 3) ((S2 a0 3).toNatClampNeg) x3) (fun S3 =>
    ltS (sw S3 a0 3 ((S3 a0 3) + 1)) (fun S4 =>
    some ((S4 a0 3) - 1, S4))))))))
  else
    some ((-1), S)
set_option maxHeartbeats 4000000 in
set_option maxRecDepth 20000 in
theorem c_Sp_add {G : Gl} {L : Shp} (hL : Ext L) (S : Sto) (a0 : Nat) (m0 : Nat) (x1 : Int32) (x2 : Int32) (x3 : Int32) (h0 : isSpans L a0 m0) : Ct Y_Sp_add G [rf G a0, .int x1, .int x2, .int x3] L S (fi L) (r_Sp_add a0 m0 x1 x2 x3 S) := by
  refine ct_of (by decide +kernel) (Nat.le_of_ble_eq_true rfl) (fun g C => ?_)
  show VO g Y_Sp_add G (fun z => Qm g Y_Sp_add G (fi L z)) 0 0 0 [(0, rf G a0), (1, .int x1), (2, .int x2), (3, .int x3)] [] L S (r_Sp_add a0 m0 x1 x2 x3 S) some
  unfold r_Sp_add
  refine v_aload_n (pc := 0) C d_Sp_add_0 rfl 0 rfl ?_
  refine v_getI (pc := 1) C fl_Sp_27 h0.1 rfl d_Sp_add_1 ?_
  refine v_aload_n (pc := 4) C d_Sp_add_4 rfl 0 rfl ?_
  refine v_getR (pc := 5) C fl_Sp_15 h0.1 rfl d_Sp_add_5 ?_
  refine v_alen (pc := 8) (v := nI m0) (t := 0) C h0.2.1 rfl rfl rfl d_Sp_add_8 ?_
  refine v_icmp_lt (pc := 9) (tgt := 14) C d_Sp_add_9 rfl (fun _ => ?_) (fun _ => ?_)
  · refine v_aload_n (pc := 14) C d_Sp_add_14 rfl 0 rfl ?_
    refine v_getR (pc := 15) C fl_Sp_15 h0.1 rfl d_Sp_add_15 ?_
    refine v_aload_n (pc := 18) C d_Sp_add_18 rfl 0 rfl ?_
    refine v_getI (pc := 19) C fl_Sp_27 h0.1 rfl d_Sp_add_19 ?_
    refine v_iload_n (pc := 22) C d_Sp_add_22 rfl 1 rfl ?_
    refine v_iast (pc := 23) C h0.2.1 d_Sp_add_23 (fun _ S1 => ?_)
    refine v_aload_n (pc := 24) C d_Sp_add_24 rfl 0 rfl ?_
    refine v_getR (pc := 25) C fl_Sp_21 h0.1 rfl d_Sp_add_25 ?_
    refine v_aload_n (pc := 28) C d_Sp_add_28 rfl 0 rfl ?_
    refine v_getI (pc := 29) C fl_Sp_27 h0.1 rfl d_Sp_add_29 ?_
    refine v_iload_n (pc := 32) C d_Sp_add_32 rfl 2 rfl ?_
    refine v_iast (pc := 33) C h0.2.2.1 d_Sp_add_33 (fun _ S2 => ?_)
    refine v_aload_n (pc := 34) C d_Sp_add_34 rfl 0 rfl ?_
    refine v_getR (pc := 35) C fl_Sp_24 h0.1 rfl d_Sp_add_35 ?_
    refine v_aload_n (pc := 38) C d_Sp_add_38 rfl 0 rfl ?_
    refine v_getI (pc := 39) C fl_Sp_27 h0.1 rfl d_Sp_add_39 ?_
    refine v_iload_n (pc := 42) C d_Sp_add_42 rfl 3 rfl ?_
    refine v_iast (pc := 43) C h0.2.2.2 d_Sp_add_43 (fun _ S3 => ?_)
    refine v_aload_n (pc := 44) C d_Sp_add_44 rfl 0 rfl ?_
    refine v_dup (pc := 45) C d_Sp_add_45 rfl ?_
    refine v_getI (pc := 46) C fl_Sp_27 h0.1 rfl d_Sp_add_46 ?_
    refine v_iconst (pc := 49) C d_Sp_add_49 ic_1 ?_
    refine v_iadd (pc := 50) C d_Sp_add_50 ?_
    refine v_putI (pc := 51) C fp_Sp_27 h0.1 rfl d_Sp_add_51 (fun S4 => ?_)
    refine v_aload_n (pc := 54) C d_Sp_add_54 rfl 0 rfl ?_
    refine v_getI (pc := 55) C fl_Sp_27 h0.1 rfl d_Sp_add_55 ?_
    refine v_iconst (pc := 58) C d_Sp_add_58 ic_1 ?_
    refine v_isub (pc := 59) C d_Sp_add_59 ?_
    exact v_iret (z := ((S4 a0 3) - 1, S4)) C d_Sp_add_60 rfl ⟨Nat.zero_le _, Nat.zero_le _⟩ (rfl) rfl
  · refine v_iconst (pc := 12) C d_Sp_add_12 ic_m1 ?_
    exact v_iret (z := ((-1), S)) C d_Sp_add_13 rfl ⟨Nat.zero_le _, Nat.zero_le _⟩ (rfl) rfl
-- Sp_agreeWithout
theorem d_Sp_agreeWithout_0 : decode (mB Y_Sp_agreeWithout) 0 = .ok (.ldc 31, 2) := by decide +kernel
theorem d_Sp_agreeWithout_2 : decode (mB Y_Sp_agreeWithout) 2 = .ok (.istore_n 2, 1) := by decide +kernel
theorem d_Sp_agreeWithout_3 : decode (mB Y_Sp_agreeWithout) 3 = .ok (.ldc 32, 2) := by decide +kernel
theorem d_Sp_agreeWithout_5 : decode (mB Y_Sp_agreeWithout) 5 = .ok (.istore_n 3, 1) := by decide +kernel
theorem d_Sp_agreeWithout_6 : decode (mB Y_Sp_agreeWithout) 6 = .ok (.iconst 0, 1) := by decide +kernel
theorem d_Sp_agreeWithout_7 : decode (mB Y_Sp_agreeWithout) 7 = .ok (.istore 4, 2) := by decide +kernel
theorem d_Sp_agreeWithout_9 : decode (mB Y_Sp_agreeWithout) 9 = .ok (.iload 4, 2) := by decide +kernel
theorem d_Sp_agreeWithout_11 : decode (mB Y_Sp_agreeWithout) 11 = .ok (.aload_n 0, 1) := by decide +kernel
theorem d_Sp_agreeWithout_12 : decode (mB Y_Sp_agreeWithout) 12 = .ok (.getfield 27, 3) := by decide +kernel
theorem d_Sp_agreeWithout_15 : decode (mB Y_Sp_agreeWithout) 15 = .ok (.if_icmp .ge 66, 3) := by decide +kernel
theorem d_Sp_agreeWithout_18 : decode (mB Y_Sp_agreeWithout) 18 = .ok (.iload 4, 2) := by decide +kernel
theorem d_Sp_agreeWithout_20 : decode (mB Y_Sp_agreeWithout) 20 = .ok (.iload_n 1, 1) := by decide +kernel
theorem d_Sp_agreeWithout_21 : decode (mB Y_Sp_agreeWithout) 21 = .ok (.if_icmp .eq 54, 3) := by decide +kernel
theorem d_Sp_agreeWithout_24 : decode (mB Y_Sp_agreeWithout) 24 = .ok (.aload_n 0, 1) := by decide +kernel
theorem d_Sp_agreeWithout_25 : decode (mB Y_Sp_agreeWithout) 25 = .ok (.getfield 21, 3) := by decide +kernel
theorem d_Sp_agreeWithout_28 : decode (mB Y_Sp_agreeWithout) 28 = .ok (.iload 4, 2) := by decide +kernel
theorem d_Sp_agreeWithout_30 : decode (mB Y_Sp_agreeWithout) 30 = .ok (.iaload, 1) := by decide +kernel
theorem d_Sp_agreeWithout_31 : decode (mB Y_Sp_agreeWithout) 31 = .ok (.iconst (-1), 1) := by decide +kernel
theorem d_Sp_agreeWithout_32 : decode (mB Y_Sp_agreeWithout) 32 = .ok (.if_icmp .eq 43, 3) := by decide +kernel
theorem d_Sp_agreeWithout_35 : decode (mB Y_Sp_agreeWithout) 35 = .ok (.iload_n 2, 1) := by decide +kernel
theorem d_Sp_agreeWithout_36 : decode (mB Y_Sp_agreeWithout) 36 = .ok (.aload_n 0, 1) := by decide +kernel
theorem d_Sp_agreeWithout_37 : decode (mB Y_Sp_agreeWithout) 37 = .ok (.getfield 21, 3) := by decide +kernel
theorem d_Sp_agreeWithout_40 : decode (mB Y_Sp_agreeWithout) 40 = .ok (.iload 4, 2) := by decide +kernel
theorem d_Sp_agreeWithout_42 : decode (mB Y_Sp_agreeWithout) 42 = .ok (.iaload, 1) := by decide +kernel
theorem d_Sp_agreeWithout_43 : decode (mB Y_Sp_agreeWithout) 43 = .ok (.aload_n 0, 1) := by decide +kernel
theorem d_Sp_agreeWithout_44 : decode (mB Y_Sp_agreeWithout) 44 = .ok (.getfield 15, 3) := by decide +kernel
theorem d_Sp_agreeWithout_47 : decode (mB Y_Sp_agreeWithout) 47 = .ok (.iload 4, 2) := by decide +kernel
theorem d_Sp_agreeWithout_49 : decode (mB Y_Sp_agreeWithout) 49 = .ok (.iaload, 1) := by decide +kernel
theorem d_Sp_agreeWithout_50 : decode (mB Y_Sp_agreeWithout) 50 = .ok (.isub, 1) := by decide +kernel
theorem d_Sp_agreeWithout_51 : decode (mB Y_Sp_agreeWithout) 51 = .ok (.invokestatic 9, 3) := by decide +kernel
theorem d_Sp_agreeWithout_54 : decode (mB Y_Sp_agreeWithout) 54 = .ok (.istore_n 2, 1) := by decide +kernel
theorem d_Sp_agreeWithout_55 : decode (mB Y_Sp_agreeWithout) 55 = .ok (.iload_n 3, 1) := by decide +kernel
theorem d_Sp_agreeWithout_56 : decode (mB Y_Sp_agreeWithout) 56 = .ok (.aload_n 0, 1) := by decide +kernel
theorem d_Sp_agreeWithout_57 : decode (mB Y_Sp_agreeWithout) 57 = .ok (.getfield 24, 3) := by decide +kernel
theorem d_Sp_agreeWithout_60 : decode (mB Y_Sp_agreeWithout) 60 = .ok (.iload 4, 2) := by decide +kernel
theorem d_Sp_agreeWithout_62 : decode (mB Y_Sp_agreeWithout) 62 = .ok (.iaload, 1) := by decide +kernel
theorem d_Sp_agreeWithout_63 : decode (mB Y_Sp_agreeWithout) 63 = .ok (.aload_n 0, 1) := by decide +kernel
theorem d_Sp_agreeWithout_64 : decode (mB Y_Sp_agreeWithout) 64 = .ok (.getfield 15, 3) := by decide +kernel
theorem d_Sp_agreeWithout_67 : decode (mB Y_Sp_agreeWithout) 67 = .ok (.iload 4, 2) := by decide +kernel
theorem d_Sp_agreeWithout_69 : decode (mB Y_Sp_agreeWithout) 69 = .ok (.iaload, 1) := by decide +kernel
theorem d_Sp_agreeWithout_70 : decode (mB Y_Sp_agreeWithout) 70 = .ok (.isub, 1) := by decide +kernel
theorem d_Sp_agreeWithout_71 : decode (mB Y_Sp_agreeWithout) 71 = .ok (.invokestatic 33, 3) := by decide +kernel
theorem d_Sp_agreeWithout_74 : decode (mB Y_Sp_agreeWithout) 74 = .ok (.istore_n 3, 1) := by decide +kernel
theorem d_Sp_agreeWithout_75 : decode (mB Y_Sp_agreeWithout) 75 = .ok (.iinc 4 1, 3) := by decide +kernel
theorem d_Sp_agreeWithout_78 : decode (mB Y_Sp_agreeWithout) 78 = .ok (.goto (-69), 3) := by decide +kernel
theorem d_Sp_agreeWithout_81 : decode (mB Y_Sp_agreeWithout) 81 = .ok (.iload_n 2, 1) := by decide +kernel
theorem d_Sp_agreeWithout_82 : decode (mB Y_Sp_agreeWithout) 82 = .ok (.iload_n 3, 1) := by decide +kernel
theorem d_Sp_agreeWithout_83 : decode (mB Y_Sp_agreeWithout) 83 = .ok (.if_icmp .gt 7, 3) := by decide +kernel
theorem d_Sp_agreeWithout_86 : decode (mB Y_Sp_agreeWithout) 86 = .ok (.iconst 1, 1) := by decide +kernel
theorem d_Sp_agreeWithout_87 : decode (mB Y_Sp_agreeWithout) 87 = .ok (.goto 4, 3) := by decide +kernel
theorem d_Sp_agreeWithout_90 : decode (mB Y_Sp_agreeWithout) 90 = .ok (.iconst 0, 1) := by decide +kernel
theorem d_Sp_agreeWithout_91 : decode (mB Y_Sp_agreeWithout) 91 = .ok (.ireturn, 1) := by decide +kernel
theorem ro_Sp_agreeWithout_Ma_max : roomy Y_Sp_agreeWithout Y_Ma_max := ⟨Nat.le_of_ble_eq_true rfl, Nat.le_of_ble_eq_true rfl⟩
theorem ro_Sp_agreeWithout_Ma_min : roomy Y_Sp_agreeWithout Y_Ma_min := ⟨Nat.le_of_ble_eq_true rfl, Nat.le_of_ble_eq_true rfl⟩
def r_Sp_agreeWithout_L9 (a0_ : Nat) (m0_ : Nat) (y1_ : Int32) : Nat → Int32 → Int32 → Int32 → Sto → Option (Int32 × Int32 × Int32)
  | 0, _, _, _, _ => none
  | n + 1, x2_, x3_, x4_, S =>
    if (S a0_ 3) ≤ x4_ then
      some (x2_, x3_, x4_)
    else
      jn (fun ((v1, v2) : Int32 × Int32) =>
        lt (x4_ + 1) (fun v3 =>
        r_Sp_agreeWithout_L9 a0_ m0_ y1_ n v1 v2 v3 S)) (fun j75 =>
      if x4_ = y1_ then
        j75 (x2_, x3_)
      else
        chk (inr x4_ m0_) (
        if (S (a0_ + 2) x4_.toNatClampNeg) = (-1) then
          j75 (x2_, x3_)
        else
          chk (inr x4_ m0_) (
          chk (inr x4_ m0_) (
          lt (r_Ma_max x2_ ((S (a0_ + 2) x4_.toNatClampNeg) - (S (a0_ + 1) x4_.toNatClampNeg))) (fun v4 =>
          chk (inr x4_ m0_) (
          chk (inr x4_ m0_) (
          lt (r_Ma_min x3_ ((S (a0_ + 3) x4_.toNatClampNeg) - (S (a0_ + 1) x4_.toNatClampNeg))) (fun v5 =>
          j75 (v4, v5)))))))))
set_option maxHeartbeats 4000000 in
set_option maxRecDepth 20000 in
theorem w_Sp_agreeWithout_L9 {g : Gm} {G : Gl} {L : Shp} (C : Cx g Y_Sp_agreeWithout G) (hL : Ext L) (S : Sto) (a0_ : Nat) (m0_ : Nat) (y1_ : Int32) (h0_ : isSpans L a0_ m0_) :
    ∀ (n : Nat) (x2_ : Int32) (x3_ : Int32) (x4_ : Int32) (K : (Int32 × Int32 × Int32) → Option Int32), (∀ (x2_ : Int32) (x3_ : Int32) (x4_ : Int32), VO g Y_Sp_agreeWithout G (fun z => Qm g Y_Sp_agreeWithout G (fp L S z)) 0 0 81 [(2, .int x2_), (3, .int x3_)] [] L S (some (x2_, x3_, x4_)) K) → VO g Y_Sp_agreeWithout G (fun z => Qm g Y_Sp_agreeWithout G (fp L S z)) 0 0 9 [(0, rf G a0_), (1, .int y1_), (2, .int x2_), (3, .int x3_), (4, .int x4_)] [] L S (r_Sp_agreeWithout_L9 a0_ m0_ y1_ n x2_ x3_ x4_ S) K := by
  intro n
  induction n with
  | zero => intro x2_ x3_ x4_ K; intros; exact v_none
  | succ n ih =>
    intro x2_ x3_ x4_ K hK
    rw [r_Sp_agreeWithout_L9]
    refine v_iload (pc := 9) C d_Sp_agreeWithout_9 4 rfl ?_
    refine v_aload_n (pc := 11) C d_Sp_agreeWithout_11 rfl 0 rfl ?_
    refine v_getI (pc := 12) C fl_Sp_27 h0_.1 rfl d_Sp_agreeWithout_12 ?_
    refine v_icmp_ge (pc := 15) (tgt := 81) C d_Sp_agreeWithout_15 rfl (fun _ => ?_) (fun _ => ?_)
    · refine v_sub [2, 3] rfl ?_
      exact hK x2_ x3_ x4_
    · refine v_iload (pc := 18) C d_Sp_agreeWithout_18 4 rfl ?_
      refine v_iload_n (pc := 20) C d_Sp_agreeWithout_20 rfl 1 rfl ?_
      refine v_jn (fun j => ∀ (v1 : Int32) (v2 : Int32), VO g Y_Sp_agreeWithout G (fun z => Qm g Y_Sp_agreeWithout G (fp L S z)) 0 0 75 [(0, rf G a0_), (1, .int y1_), (2, .int v1), (3, .int v2), (4, .int x4_)] [] L S (j (v1, v2)) K) (fun v1 v2 => ?_) (fun j75 hj75 => ?_)
      · refine v_iinc (pc := 75) (p := 4) (c := 1) C d_Sp_agreeWithout_75 rfl (by decide) (by decide) (fun v3 => [(4, .int v3), (0, rf G a0_), (1, .int y1_), (2, .int v1), (3, .int v2)]) (fun _ => rfl) (fun v3 => ?_)
        refine v_goto (pc := 78) (tgt := 9) C d_Sp_agreeWithout_78 rfl ?_
        refine v_sub [1, 2, 3, 4, 0] rfl ?_
        exact ih v1 v2 v3 K hK
      · refine v_icmp_eq (pc := 21) (tgt := 75) C d_Sp_agreeWithout_21 rfl (fun _ => ?_) (fun _ => ?_)
        · exact hj75 x2_ x3_
        · refine v_aload_n (pc := 24) C d_Sp_agreeWithout_24 rfl 0 rfl ?_
          refine v_getR (pc := 25) C fl_Sp_21 h0_.1 rfl d_Sp_agreeWithout_25 ?_
          refine v_iload (pc := 28) C d_Sp_agreeWithout_28 4 rfl ?_
          refine v_iald (pc := 30) C h0_.2.2.1 d_Sp_agreeWithout_30 (fun _ => ?_)
          refine v_iconst (pc := 31) C d_Sp_agreeWithout_31 ic_m1 ?_
          refine v_icmp_eq (pc := 32) (tgt := 75) C d_Sp_agreeWithout_32 rfl (fun _ => ?_) (fun _ => ?_)
          · exact hj75 x2_ x3_
          · refine v_iload_n (pc := 35) C d_Sp_agreeWithout_35 rfl 2 rfl ?_
            refine v_aload_n (pc := 36) C d_Sp_agreeWithout_36 rfl 0 rfl ?_
            refine v_getR (pc := 37) C fl_Sp_21 h0_.1 rfl d_Sp_agreeWithout_37 ?_
            refine v_iload (pc := 40) C d_Sp_agreeWithout_40 4 rfl ?_
            refine v_iald (pc := 42) C h0_.2.2.1 d_Sp_agreeWithout_42 (fun _ => ?_)
            refine v_aload_n (pc := 43) C d_Sp_agreeWithout_43 rfl 0 rfl ?_
            refine v_getR (pc := 44) C fl_Sp_15 h0_.1 rfl d_Sp_agreeWithout_44 ?_
            refine v_iload (pc := 47) C d_Sp_agreeWithout_47 4 rfl ?_
            refine v_iald (pc := 49) C h0_.2.1 d_Sp_agreeWithout_49 (fun _ => ?_)
            refine v_isub (pc := 50) C d_Sp_agreeWithout_50 ?_
            refine v_ct (pc := 51) (inv_S (As := [.int x2_, .int ((S (a0_ + 2) x4_.toNatClampNeg) - (S (a0_ + 1) x4_.toNatClampNeg))]) (st := []) C ml_Sp_9 ms_Ma_max ro_Sp_agreeWithout_Ma_max rfl rfl (Nat.le_of_ble_eq_true rfl) d_Sp_agreeWithout_51) (c_Ma_max hL S x2_ ((S (a0_ + 2) x4_.toNatClampNeg) - (S (a0_ + 1) x4_.toNatClampNeg))) ⟨rfl, rfl⟩ ⟨Nat.zero_le _, Nat.zero_le _⟩ ?_
            refine v_lt (fun v4 => ?_)
            refine v_istore_n (pc := 54) (lv' := [(2, .int v4), (0, rf G a0_), (1, .int y1_), (3, .int x3_), (4, .int x4_)]) C d_Sp_agreeWithout_54 rfl (by decide) rfl ?_
            refine v_iload_n (pc := 55) C d_Sp_agreeWithout_55 rfl 3 rfl ?_
            refine v_aload_n (pc := 56) C d_Sp_agreeWithout_56 rfl 1 rfl ?_
            refine v_getR (pc := 57) C fl_Sp_24 h0_.1 rfl d_Sp_agreeWithout_57 ?_
            refine v_iload (pc := 60) C d_Sp_agreeWithout_60 4 rfl ?_
            refine v_iald (pc := 62) C h0_.2.2.2 d_Sp_agreeWithout_62 (fun _ => ?_)
            refine v_aload_n (pc := 63) C d_Sp_agreeWithout_63 rfl 1 rfl ?_
            refine v_getR (pc := 64) C fl_Sp_15 h0_.1 rfl d_Sp_agreeWithout_64 ?_
            refine v_iload (pc := 67) C d_Sp_agreeWithout_67 4 rfl ?_
            refine v_iald (pc := 69) C h0_.2.1 d_Sp_agreeWithout_69 (fun _ => ?_)
            refine v_isub (pc := 70) C d_Sp_agreeWithout_70 ?_
            refine v_ct (pc := 71) (inv_S (As := [.int x3_, .int ((S (a0_ + 3) x4_.toNatClampNeg) - (S (a0_ + 1) x4_.toNatClampNeg))]) (st := []) C ml_Sp_33 ms_Ma_min ro_Sp_agreeWithout_Ma_min rfl rfl (Nat.le_of_ble_eq_true rfl) d_Sp_agreeWithout_71) (c_Ma_min hL S x3_ ((S (a0_ + 3) x4_.toNatClampNeg) - (S (a0_ + 1) x4_.toNatClampNeg))) ⟨rfl, rfl⟩ ⟨Nat.zero_le _, Nat.zero_le _⟩ ?_
            refine v_lt (fun v5 => ?_)
            refine v_istore_n (pc := 74) (lv' := [(3, .int v5), (2, .int v4), (0, rf G a0_), (1, .int y1_), (4, .int x4_)]) C d_Sp_agreeWithout_74 rfl (by decide) rfl ?_
            refine v_sub [2, 3, 1, 0, 4] rfl ?_
            exact hj75 v4 v5
def r_Sp_agreeWithout (a0 : Nat) (m0 : Nat) (x1 : Int32) (S : Sto) : Option Int32 :=
  (r_Sp_agreeWithout_L9 a0 m0 x1 fu (-1000000000) 1000000000 0 S).bind (fun (v1, v2, v3) =>
  if v2 < v1 then
    some 0
  else
    some 1)
set_option maxHeartbeats 4000000 in
set_option maxRecDepth 20000 in
theorem c_Sp_agreeWithout {G : Gl} {L : Shp} (hL : Ext L) (S : Sto) (a0 : Nat) (m0 : Nat) (x1 : Int32) (h0 : isSpans L a0 m0) : Ct Y_Sp_agreeWithout G [rf G a0, .int x1] L S (fp L S) (r_Sp_agreeWithout a0 m0 x1 S) := by
  refine ct_of (by decide +kernel) (Nat.le_of_ble_eq_true rfl) (fun g C => ?_)
  show VO g Y_Sp_agreeWithout G (fun z => Qm g Y_Sp_agreeWithout G (fp L S z)) 0 0 0 [(0, rf G a0), (1, .int x1)] [] L S (r_Sp_agreeWithout a0 m0 x1 S) some
  unfold r_Sp_agreeWithout
  refine v_ldc (pc := 0) C d_Sp_agreeWithout_0 kc_Sp_31 ?_
  refine v_istore_n (pc := 2) (lv' := [(2, .int (-1000000000)), (0, rf G a0), (1, .int x1)]) C d_Sp_agreeWithout_2 rfl (by decide) rfl ?_
  refine v_ldc (pc := 3) C d_Sp_agreeWithout_3 kc_Sp_32 ?_
  refine v_istore_n (pc := 5) (lv' := [(3, .int 1000000000), (2, .int (-1000000000)), (0, rf G a0), (1, .int x1)]) C d_Sp_agreeWithout_5 rfl (by decide) rfl ?_
  refine v_iconst (pc := 6) C d_Sp_agreeWithout_6 ic_0 ?_
  refine v_istore (pc := 7) (lv' := [(4, .int 0), (3, .int 1000000000), (2, .int (-1000000000)), (0, rf G a0), (1, .int x1)]) C d_Sp_agreeWithout_7 (by decide) rfl ?_
  refine v_sub [3, 4, 2, 1, 0] rfl ?_
  refine v_bind ?_
  refine w_Sp_agreeWithout_L9 C hL S a0 m0 x1 h0 fu (-1000000000) 1000000000 0 _ (fun v1 v2 v3 => ?_) 
  refine v_some ?_
  refine v_iload_n (pc := 81) C d_Sp_agreeWithout_81 rfl 0 rfl ?_
  refine v_iload_n (pc := 82) C d_Sp_agreeWithout_82 rfl 1 rfl ?_
  refine v_icmp_gt (pc := 83) (tgt := 90) C d_Sp_agreeWithout_83 rfl (fun _ => ?_) (fun _ => ?_)
  · refine v_iconst (pc := 90) C d_Sp_agreeWithout_90 ic_0 ?_
    exact v_zret (z := 0) C d_Sp_agreeWithout_91 rfl (b01_n (by decide)) ⟨Nat.zero_le _, Nat.zero_le _⟩ (rfl) rfl
  · refine v_iconst (pc := 86) C d_Sp_agreeWithout_86 ic_1 ?_
    refine v_goto (pc := 87) (tgt := 91) C d_Sp_agreeWithout_87 rfl ?_
    exact v_zret (z := 1) C d_Sp_agreeWithout_91 rfl (b01_n (by decide)) ⟨Nat.zero_le _, Nat.zero_le _⟩ (rfl) rfl
-- Tp_addClick
theorem d_Tp_addClick_0 : decode (mB Y_Tp_addClick) 0 = .ok (.aload_n 0, 1) := by decide +kernel
theorem d_Tp_addClick_1 : decode (mB Y_Tp_addClick) 1 = .ok (.getfield 41, 3) := by decide +kernel
theorem d_Tp_addClick_4 : decode (mB Y_Tp_addClick) 4 = .ok (.ifCond .eq 18, 3) := by decide +kernel
theorem d_Tp_addClick_7 : decode (mB Y_Tp_addClick) 7 = .ok (.iload_n 1, 1) := by decide +kernel
theorem d_Tp_addClick_8 : decode (mB Y_Tp_addClick) 8 = .ok (.aload_n 0, 1) := by decide +kernel
theorem d_Tp_addClick_9 : decode (mB Y_Tp_addClick) 9 = .ok (.getfield 19, 3) := by decide +kernel
theorem d_Tp_addClick_12 : decode (mB Y_Tp_addClick) 12 = .ok (.aload_n 0, 1) := by decide +kernel
theorem d_Tp_addClick_13 : decode (mB Y_Tp_addClick) 13 = .ok (.getfield 41, 3) := by decide +kernel
theorem d_Tp_addClick_16 : decode (mB Y_Tp_addClick) 16 = .ok (.iconst 1, 1) := by decide +kernel
theorem d_Tp_addClick_17 : decode (mB Y_Tp_addClick) 17 = .ok (.isub, 1) := by decide +kernel
theorem d_Tp_addClick_18 : decode (mB Y_Tp_addClick) 18 = .ok (.iaload, 1) := by decide +kernel
theorem d_Tp_addClick_19 : decode (mB Y_Tp_addClick) 19 = .ok (.if_icmp .le 7, 3) := by decide +kernel
theorem d_Tp_addClick_22 : decode (mB Y_Tp_addClick) 22 = .ok (.iconst 1, 1) := by decide +kernel
theorem d_Tp_addClick_23 : decode (mB Y_Tp_addClick) 23 = .ok (.goto 4, 3) := by decide +kernel
theorem d_Tp_addClick_26 : decode (mB Y_Tp_addClick) 26 = .ok (.iconst 0, 1) := by decide +kernel
theorem d_Tp_addClick_27 : decode (mB Y_Tp_addClick) 27 = .ok (.istore_n 2, 1) := by decide +kernel
theorem d_Tp_addClick_28 : decode (mB Y_Tp_addClick) 28 = .ok (.iload_n 2, 1) := by decide +kernel
theorem d_Tp_addClick_29 : decode (mB Y_Tp_addClick) 29 = .ok (.ifCond .eq 12, 3) := by decide +kernel
theorem d_Tp_addClick_32 : decode (mB Y_Tp_addClick) 32 = .ok (.aload_n 0, 1) := by decide +kernel
theorem d_Tp_addClick_33 : decode (mB Y_Tp_addClick) 33 = .ok (.getfield 41, 3) := by decide +kernel
theorem d_Tp_addClick_36 : decode (mB Y_Tp_addClick) 36 = .ok (.bipush 20, 2) := by decide +kernel
theorem d_Tp_addClick_38 : decode (mB Y_Tp_addClick) 38 = .ok (.if_icmp .lt 5, 3) := by decide +kernel
theorem d_Tp_addClick_41 : decode (mB Y_Tp_addClick) 41 = .ok (.iconst (-1), 1) := by decide +kernel
theorem d_Tp_addClick_42 : decode (mB Y_Tp_addClick) 42 = .ok (.ireturn, 1) := by decide +kernel
theorem d_Tp_addClick_43 : decode (mB Y_Tp_addClick) 43 = .ok (.aload_n 0, 1) := by decide +kernel
theorem d_Tp_addClick_44 : decode (mB Y_Tp_addClick) 44 = .ok (.getfield 19, 3) := by decide +kernel
theorem d_Tp_addClick_47 : decode (mB Y_Tp_addClick) 47 = .ok (.aload_n 0, 1) := by decide +kernel
theorem d_Tp_addClick_48 : decode (mB Y_Tp_addClick) 48 = .ok (.getfield 41, 3) := by decide +kernel
theorem d_Tp_addClick_51 : decode (mB Y_Tp_addClick) 51 = .ok (.iload_n 1, 1) := by decide +kernel
theorem d_Tp_addClick_52 : decode (mB Y_Tp_addClick) 52 = .ok (.iastore, 1) := by decide +kernel
theorem d_Tp_addClick_53 : decode (mB Y_Tp_addClick) 53 = .ok (.aload_n 0, 1) := by decide +kernel
theorem d_Tp_addClick_54 : decode (mB Y_Tp_addClick) 54 = .ok (.dup, 1) := by decide +kernel
theorem d_Tp_addClick_55 : decode (mB Y_Tp_addClick) 55 = .ok (.getfield 41, 3) := by decide +kernel
theorem d_Tp_addClick_58 : decode (mB Y_Tp_addClick) 58 = .ok (.iconst 1, 1) := by decide +kernel
theorem d_Tp_addClick_59 : decode (mB Y_Tp_addClick) 59 = .ok (.iadd, 1) := by decide +kernel
theorem d_Tp_addClick_60 : decode (mB Y_Tp_addClick) 60 = .ok (.putfield 41, 3) := by decide +kernel
theorem d_Tp_addClick_63 : decode (mB Y_Tp_addClick) 63 = .ok (.aload_n 0, 1) := by decide +kernel
theorem d_Tp_addClick_64 : decode (mB Y_Tp_addClick) 64 = .ok (.getfield 41, 3) := by decide +kernel
theorem d_Tp_addClick_67 : decode (mB Y_Tp_addClick) 67 = .ok (.ireturn, 1) := by decide +kernel
def r_Tp_addClick (a0 : Nat) (x1 : Int32) (S : Sto) : Option (Int32 × Sto) :=
  jn (fun (v1 : Int32) =>
    if v1 = 0 then
      some ((-1), S)
    else
      if (S a0 3) < 20 then
        chk (inr (S a0 3) 20) (
        ltS (sw S (a0 + 1) ((S a0 3).toNatClampNeg) x1) (fun S2 =>
        ltS (sw S2 a0 3 ((S2 a0 3) + 1)) (fun S3 =>
        some (S3 a0 3, S3))))
      else
        some ((-1), S)) (fun j27 =>
  if (S a0 3) = 0 then
    j27 (1)
  else
    chk (inr ((S a0 3) - 1) 20) (
    if x1 ≤ (S (a0 + 1) (((S a0 3) - 1).toNatClampNeg)) then
      j27 (0)
    else
      j27 (1)))
set_option maxHeartbeats 4000000 in
set_option maxRecDepth 20000 in
theorem c_Tp_addClick {G : Gl} {L : Shp} (hL : Ext L) (S : Sto) (a0 : Nat) (x1 : Int32) (h0 : isTape L a0) : Ct Y_Tp_addClick G [rf G a0, .int x1] L S (fi L) (r_Tp_addClick a0 x1 S) := by
  refine ct_of (by decide +kernel) (Nat.le_of_ble_eq_true rfl) (fun g C => ?_)
  show VO g Y_Tp_addClick G (fun z => Qm g Y_Tp_addClick G (fi L z)) 0 0 0 [(0, rf G a0), (1, .int x1)] [] L S (r_Tp_addClick a0 x1 S) some
  unfold r_Tp_addClick
  refine v_aload_n (pc := 0) C d_Tp_addClick_0 rfl 0 rfl ?_
  refine v_getI (pc := 1) C fl_Tp_41 h0.1 rfl d_Tp_addClick_1 ?_
  refine v_jn (fun j => ∀ (v1 : Int32), VO g Y_Tp_addClick G (fun z => Qm g Y_Tp_addClick G (fi L z)) 0 0 27 [(0, rf G a0), (1, .int x1)] [.int v1] L S (j (v1)) some) (fun v1 => ?_) (fun j27 hj27 => ?_)
  · refine v_istore_n (pc := 27) (lv' := [(2, .int v1), (0, rf G a0), (1, .int x1)]) C d_Tp_addClick_27 rfl (by decide) rfl ?_
    refine v_iload_n (pc := 28) C d_Tp_addClick_28 rfl 0 rfl ?_
    refine v_if_eq (pc := 29) (tgt := 41) C d_Tp_addClick_29 rfl (fun _ => ?_) (fun _ => ?_)
    · refine v_iconst (pc := 41) C d_Tp_addClick_41 ic_m1 ?_
      exact v_iret (z := ((-1), S)) C d_Tp_addClick_42 rfl ⟨Nat.zero_le _, Nat.zero_le _⟩ (rfl) rfl
    · refine v_aload_n (pc := 32) C d_Tp_addClick_32 rfl 1 rfl ?_
      refine v_getI (pc := 33) C fl_Tp_41 h0.1 rfl d_Tp_addClick_33 ?_
      refine v_bipush (pc := 36) C d_Tp_addClick_36 bp_20 ?_
      refine v_icmp_lt (pc := 38) (tgt := 43) C d_Tp_addClick_38 rfl (fun _ => ?_) (fun _ => ?_)
      · refine v_aload_n (pc := 43) C d_Tp_addClick_43 rfl 1 rfl ?_
        refine v_getR (pc := 44) C fl_Tp_19 h0.1 rfl d_Tp_addClick_44 ?_
        refine v_aload_n (pc := 47) C d_Tp_addClick_47 rfl 1 rfl ?_
        refine v_getI (pc := 48) C fl_Tp_41 h0.1 rfl d_Tp_addClick_48 ?_
        refine v_iload_n (pc := 51) C d_Tp_addClick_51 rfl 2 rfl ?_
        refine v_iast (pc := 52) C h0.2.1 d_Tp_addClick_52 (fun _ S2 => ?_)
        refine v_aload_n (pc := 53) C d_Tp_addClick_53 rfl 1 rfl ?_
        refine v_dup (pc := 54) C d_Tp_addClick_54 rfl ?_
        refine v_getI (pc := 55) C fl_Tp_41 h0.1 rfl d_Tp_addClick_55 ?_
        refine v_iconst (pc := 58) C d_Tp_addClick_58 ic_1 ?_
        refine v_iadd (pc := 59) C d_Tp_addClick_59 ?_
        refine v_putI (pc := 60) C fp_Tp_41 h0.1 rfl d_Tp_addClick_60 (fun S3 => ?_)
        refine v_aload_n (pc := 63) C d_Tp_addClick_63 rfl 1 rfl ?_
        refine v_getI (pc := 64) C fl_Tp_41 h0.1 rfl d_Tp_addClick_64 ?_
        exact v_iret (z := (S3 a0 3, S3)) C d_Tp_addClick_67 rfl ⟨Nat.zero_le _, Nat.zero_le _⟩ (rfl) rfl
      · refine v_iconst (pc := 41) C d_Tp_addClick_41 ic_m1 ?_
        exact v_iret (z := ((-1), S)) C d_Tp_addClick_42 rfl ⟨Nat.zero_le _, Nat.zero_le _⟩ (rfl) rfl
  · refine v_if_eq (pc := 4) (tgt := 22) C d_Tp_addClick_4 rfl (fun _ => ?_) (fun _ => ?_)
    · refine v_iconst (pc := 22) C d_Tp_addClick_22 ic_1 ?_
      refine v_goto (pc := 23) (tgt := 27) C d_Tp_addClick_23 rfl ?_
      exact hj27 1
    · refine v_iload_n (pc := 7) C d_Tp_addClick_7 rfl 1 rfl ?_
      refine v_aload_n (pc := 8) C d_Tp_addClick_8 rfl 0 rfl ?_
      refine v_getR (pc := 9) C fl_Tp_19 h0.1 rfl d_Tp_addClick_9 ?_
      refine v_aload_n (pc := 12) C d_Tp_addClick_12 rfl 0 rfl ?_
      refine v_getI (pc := 13) C fl_Tp_41 h0.1 rfl d_Tp_addClick_13 ?_
      refine v_iconst (pc := 16) C d_Tp_addClick_16 ic_1 ?_
      refine v_isub (pc := 17) C d_Tp_addClick_17 ?_
      refine v_iald (pc := 18) C h0.2.1 d_Tp_addClick_18 (fun _ => ?_)
      refine v_icmp_le (pc := 19) (tgt := 26) C d_Tp_addClick_19 rfl (fun _ => ?_) (fun _ => ?_)
      · refine v_iconst (pc := 26) C d_Tp_addClick_26 ic_0 ?_
        exact hj27 0
      · refine v_iconst (pc := 22) C d_Tp_addClick_22 ic_1 ?_
        refine v_goto (pc := 23) (tgt := 27) C d_Tp_addClick_23 rfl ?_
        exact hj27 1
-- Tp_backPlace
theorem d_Tp_backPlace_0 : decode (mB Y_Tp_backPlace) 0 = .ok (.aload_n 0, 1) := by decide +kernel
theorem d_Tp_backPlace_1 : decode (mB Y_Tp_backPlace) 1 = .ok (.getfield 19, 3) := by decide +kernel
theorem d_Tp_backPlace_4 : decode (mB Y_Tp_backPlace) 4 = .ok (.iconst 0, 1) := by decide +kernel
theorem d_Tp_backPlace_5 : decode (mB Y_Tp_backPlace) 5 = .ok (.iaload, 1) := by decide +kernel
theorem d_Tp_backPlace_6 : decode (mB Y_Tp_backPlace) 6 = .ok (.aload_n 0, 1) := by decide +kernel
theorem d_Tp_backPlace_7 : decode (mB Y_Tp_backPlace) 7 = .ok (.getfield 9, 3) := by decide +kernel
theorem d_Tp_backPlace_10 : decode (mB Y_Tp_backPlace) 10 = .ok (.getfield 51, 3) := by decide +kernel
theorem d_Tp_backPlace_13 : decode (mB Y_Tp_backPlace) 13 = .ok (.iload_n 1, 1) := by decide +kernel
theorem d_Tp_backPlace_14 : decode (mB Y_Tp_backPlace) 14 = .ok (.iaload, 1) := by decide +kernel
theorem d_Tp_backPlace_15 : decode (mB Y_Tp_backPlace) 15 = .ok (.iadd, 1) := by decide +kernel
theorem d_Tp_backPlace_16 : decode (mB Y_Tp_backPlace) 16 = .ok (.aload_n 0, 1) := by decide +kernel
theorem d_Tp_backPlace_17 : decode (mB Y_Tp_backPlace) 17 = .ok (.getfield 9, 3) := by decide +kernel
theorem d_Tp_backPlace_20 : decode (mB Y_Tp_backPlace) 20 = .ok (.getfield 56, 3) := by decide +kernel
theorem d_Tp_backPlace_23 : decode (mB Y_Tp_backPlace) 23 = .ok (.isub, 1) := by decide +kernel
theorem d_Tp_backPlace_24 : decode (mB Y_Tp_backPlace) 24 = .ok (.ireturn, 1) := by decide +kernel
def r_Tp_backPlace (a0 : Nat) (x1 : Int32) (S : Sto) : Option Int32 :=
  chk (inr x1 10) (
  some (((S (a0 + 1) ((0 : Int32).toNatClampNeg)) + (S 14 x1.toNatClampNeg)) - (S 13 2)))
set_option maxHeartbeats 4000000 in
set_option maxRecDepth 20000 in
theorem c_Tp_backPlace {G : Gl} {L : Shp} (hL : Ext L) (S : Sto) (a0 : Nat) (x1 : Int32) (h0 : isTape L a0) : Ct Y_Tp_backPlace G [rf G a0, .int x1] L S (fp L S) (r_Tp_backPlace a0 x1 S) := by
  refine ct_of (by decide +kernel) (Nat.le_of_ble_eq_true rfl) (fun g C => ?_)
  show VO g Y_Tp_backPlace G (fun z => Qm g Y_Tp_backPlace G (fp L S z)) 0 0 0 [(0, rf G a0), (1, .int x1)] [] L S (r_Tp_backPlace a0 x1 S) some
  unfold r_Tp_backPlace
  refine v_aload_n (pc := 0) C d_Tp_backPlace_0 rfl 0 rfl ?_
  refine v_getR (pc := 1) C fl_Tp_19 h0.1 rfl d_Tp_backPlace_1 ?_
  refine v_iconst (pc := 4) C d_Tp_backPlace_4 ic_0 ?_
  refine v_ialdT (pc := 5) C h0.2.1 d_Tp_backPlace_5 (by decide) ?_
  refine v_aload_n (pc := 6) C d_Tp_backPlace_6 rfl 0 rfl ?_
  refine v_getR (pc := 7) C fl_Tp_9 h0.1 rfl d_Tp_backPlace_7 ?_
  refine v_getR (pc := 10) C fl_Tp_51 (sh_13 hL) rfl d_Tp_backPlace_10 ?_
  refine v_iload_n (pc := 13) C d_Tp_backPlace_13 rfl 1 rfl ?_
  refine v_iald (pc := 14) C (sh_14 hL) d_Tp_backPlace_14 (fun _ => ?_)
  refine v_iadd (pc := 15) C d_Tp_backPlace_15 ?_
  refine v_aload_n (pc := 16) C d_Tp_backPlace_16 rfl 0 rfl ?_
  refine v_getR (pc := 17) C fl_Tp_9 h0.1 rfl d_Tp_backPlace_17 ?_
  refine v_getI (pc := 20) C fl_Tp_56 (sh_13 hL) rfl d_Tp_backPlace_20 ?_
  refine v_isub (pc := 23) C d_Tp_backPlace_23 ?_
  exact v_iret (z := (((S (a0 + 1) ((0 : Int32).toNatClampNeg)) + (S 14 x1.toNatClampNeg)) - (S 13 2))) C d_Tp_backPlace_24 rfl ⟨Nat.zero_le _, Nat.zero_le _⟩ (rfl) rfl
-- Tp_clicksNear
theorem d_Tp_clicksNear_0 : decode (mB Y_Tp_clicksNear) 0 = .ok (.iconst 0, 1) := by decide +kernel
theorem d_Tp_clicksNear_1 : decode (mB Y_Tp_clicksNear) 1 = .ok (.istore_n 3, 1) := by decide +kernel
theorem d_Tp_clicksNear_2 : decode (mB Y_Tp_clicksNear) 2 = .ok (.iconst 0, 1) := by decide +kernel
theorem d_Tp_clicksNear_3 : decode (mB Y_Tp_clicksNear) 3 = .ok (.istore 4, 2) := by decide +kernel
theorem d_Tp_clicksNear_5 : decode (mB Y_Tp_clicksNear) 5 = .ok (.iload 4, 2) := by decide +kernel
theorem d_Tp_clicksNear_7 : decode (mB Y_Tp_clicksNear) 7 = .ok (.aload_n 0, 1) := by decide +kernel
theorem d_Tp_clicksNear_8 : decode (mB Y_Tp_clicksNear) 8 = .ok (.getfield 41, 3) := by decide +kernel
theorem d_Tp_clicksNear_11 : decode (mB Y_Tp_clicksNear) 11 = .ok (.if_icmp .ge 32, 3) := by decide +kernel
theorem d_Tp_clicksNear_14 : decode (mB Y_Tp_clicksNear) 14 = .ok (.aload_n 0, 1) := by decide +kernel
theorem d_Tp_clicksNear_15 : decode (mB Y_Tp_clicksNear) 15 = .ok (.getfield 19, 3) := by decide +kernel
theorem d_Tp_clicksNear_18 : decode (mB Y_Tp_clicksNear) 18 = .ok (.iload 4, 2) := by decide +kernel
theorem d_Tp_clicksNear_20 : decode (mB Y_Tp_clicksNear) 20 = .ok (.iaload, 1) := by decide +kernel
theorem d_Tp_clicksNear_21 : decode (mB Y_Tp_clicksNear) 21 = .ok (.iload_n 1, 1) := by decide +kernel
theorem d_Tp_clicksNear_22 : decode (mB Y_Tp_clicksNear) 22 = .ok (.isub, 1) := by decide +kernel
theorem d_Tp_clicksNear_23 : decode (mB Y_Tp_clicksNear) 23 = .ok (.invokestatic 45, 3) := by decide +kernel
theorem d_Tp_clicksNear_26 : decode (mB Y_Tp_clicksNear) 26 = .ok (.iload_n 2, 1) := by decide +kernel
theorem d_Tp_clicksNear_27 : decode (mB Y_Tp_clicksNear) 27 = .ok (.if_icmp .gt 10, 3) := by decide +kernel
theorem d_Tp_clicksNear_30 : decode (mB Y_Tp_clicksNear) 30 = .ok (.iload_n 3, 1) := by decide +kernel
theorem d_Tp_clicksNear_31 : decode (mB Y_Tp_clicksNear) 31 = .ok (.iconst 1, 1) := by decide +kernel
theorem d_Tp_clicksNear_32 : decode (mB Y_Tp_clicksNear) 32 = .ok (.iload 4, 2) := by decide +kernel
theorem d_Tp_clicksNear_34 : decode (mB Y_Tp_clicksNear) 34 = .ok (.ishl, 1) := by decide +kernel
theorem d_Tp_clicksNear_35 : decode (mB Y_Tp_clicksNear) 35 = .ok (.ior, 1) := by decide +kernel
theorem d_Tp_clicksNear_36 : decode (mB Y_Tp_clicksNear) 36 = .ok (.istore_n 3, 1) := by decide +kernel
theorem d_Tp_clicksNear_37 : decode (mB Y_Tp_clicksNear) 37 = .ok (.iinc 4 1, 3) := by decide +kernel
theorem d_Tp_clicksNear_40 : decode (mB Y_Tp_clicksNear) 40 = .ok (.goto (-35), 3) := by decide +kernel
theorem d_Tp_clicksNear_43 : decode (mB Y_Tp_clicksNear) 43 = .ok (.iload_n 3, 1) := by decide +kernel
theorem d_Tp_clicksNear_44 : decode (mB Y_Tp_clicksNear) 44 = .ok (.ireturn, 1) := by decide +kernel
theorem ro_Tp_clicksNear_Ma_abs : roomy Y_Tp_clicksNear Y_Ma_abs := ⟨Nat.le_of_ble_eq_true rfl, Nat.le_of_ble_eq_true rfl⟩
def r_Tp_clicksNear_L5 (a0_ : Nat) (y1_ : Int32) (y2_ : Int32) : Nat → Int32 → Int32 → Sto → Option (Int32 × Int32)
  | 0, _, _, _ => none
  | n + 1, x3_, x4_, S =>
    if (S a0_ 3) ≤ x4_ then
      some (x3_, x4_)
    else
      chk (inr x4_ 20) (
      jn (fun (v1 : Int32) =>
        lt (x4_ + 1) (fun v2 =>
        r_Tp_clicksNear_L5 a0_ y1_ y2_ n v1 v2 S)) (fun j37 =>
      if y2_ < (r_Ma_abs ((S (a0_ + 1) x4_.toNatClampNeg) - y1_)) then
        j37 (x3_)
      else
        lt (x3_ ||| (1 <<< (x4_ &&& 31))) (fun v3 =>
        j37 (v3))))
set_option maxHeartbeats 4000000 in
set_option maxRecDepth 20000 in
theorem w_Tp_clicksNear_L5 {g : Gm} {G : Gl} {L : Shp} (C : Cx g Y_Tp_clicksNear G) (hL : Ext L) (S : Sto) (a0_ : Nat) (y1_ : Int32) (y2_ : Int32) (h0_ : isTape L a0_) :
    ∀ (n : Nat) (x3_ : Int32) (x4_ : Int32) (K : (Int32 × Int32) → Option Int32), (∀ (x3_ : Int32) (x4_ : Int32), VO g Y_Tp_clicksNear G (fun z => Qm g Y_Tp_clicksNear G (fp L S z)) 0 0 43 [(3, .int x3_)] [] L S (some (x3_, x4_)) K) → VO g Y_Tp_clicksNear G (fun z => Qm g Y_Tp_clicksNear G (fp L S z)) 0 0 5 [(0, rf G a0_), (1, .int y1_), (2, .int y2_), (3, .int x3_), (4, .int x4_)] [] L S (r_Tp_clicksNear_L5 a0_ y1_ y2_ n x3_ x4_ S) K := by
  intro n
  induction n with
  | zero => intro x3_ x4_ K; intros; exact v_none
  | succ n ih =>
    intro x3_ x4_ K hK
    rw [r_Tp_clicksNear_L5]
    refine v_iload (pc := 5) C d_Tp_clicksNear_5 4 rfl ?_
    refine v_aload_n (pc := 7) C d_Tp_clicksNear_7 rfl 0 rfl ?_
    refine v_getI (pc := 8) C fl_Tp_41 h0_.1 rfl d_Tp_clicksNear_8 ?_
    refine v_icmp_ge (pc := 11) (tgt := 43) C d_Tp_clicksNear_11 rfl (fun _ => ?_) (fun _ => ?_)
    · refine v_sub [3] rfl ?_
      exact hK x3_ x4_
    · refine v_aload_n (pc := 14) C d_Tp_clicksNear_14 rfl 0 rfl ?_
      refine v_getR (pc := 15) C fl_Tp_19 h0_.1 rfl d_Tp_clicksNear_15 ?_
      refine v_iload (pc := 18) C d_Tp_clicksNear_18 4 rfl ?_
      refine v_iald (pc := 20) C h0_.2.1 d_Tp_clicksNear_20 (fun _ => ?_)
      refine v_iload_n (pc := 21) C d_Tp_clicksNear_21 rfl 1 rfl ?_
      refine v_isub (pc := 22) C d_Tp_clicksNear_22 ?_
      refine v_ct (pc := 23) (inv_S (As := [.int ((S (a0_ + 1) x4_.toNatClampNeg) - y1_)]) (st := []) C ml_Tp_45 ms_Ma_abs ro_Tp_clicksNear_Ma_abs rfl rfl (Nat.le_of_ble_eq_true rfl) d_Tp_clicksNear_23) (c_Ma_abs hL S ((S (a0_ + 1) x4_.toNatClampNeg) - y1_)) ⟨rfl, rfl⟩ ⟨Nat.zero_le _, Nat.zero_le _⟩ ?_
      refine v_iload_n (pc := 26) C d_Tp_clicksNear_26 rfl 2 rfl ?_
      refine v_jn (fun j => ∀ (v1 : Int32), VO g Y_Tp_clicksNear G (fun z => Qm g Y_Tp_clicksNear G (fp L S z)) 0 0 37 [(0, rf G a0_), (1, .int y1_), (2, .int y2_), (3, .int v1), (4, .int x4_)] [] L S (j (v1)) K) (fun v1 => ?_) (fun j37 hj37 => ?_)
      · refine v_iinc (pc := 37) (p := 4) (c := 1) C d_Tp_clicksNear_37 rfl (by decide) (by decide) (fun v2 => [(4, .int v2), (0, rf G a0_), (1, .int y1_), (2, .int y2_), (3, .int v1)]) (fun _ => rfl) (fun v2 => ?_)
        refine v_goto (pc := 40) (tgt := 5) C d_Tp_clicksNear_40 rfl ?_
        refine v_sub [1, 2, 3, 4, 0] rfl ?_
        exact ih v1 v2 K hK
      · refine v_icmp_gt (pc := 27) (tgt := 37) C d_Tp_clicksNear_27 rfl (fun _ => ?_) (fun _ => ?_)
        · exact hj37 x3_
        · refine v_iload_n (pc := 30) C d_Tp_clicksNear_30 rfl 3 rfl ?_
          refine v_iconst (pc := 31) C d_Tp_clicksNear_31 ic_1 ?_
          refine v_iload (pc := 32) C d_Tp_clicksNear_32 4 rfl ?_
          refine v_ishl (pc := 34) C d_Tp_clicksNear_34 ?_
          refine v_ior (pc := 35) C d_Tp_clicksNear_35 ?_
          refine v_lt (fun v3 => ?_)
          refine v_istore_n (pc := 36) (lv' := [(3, .int v3), (0, rf G a0_), (1, .int y1_), (2, .int y2_), (4, .int x4_)]) C d_Tp_clicksNear_36 rfl (by decide) rfl ?_
          refine v_sub [1, 2, 3, 0, 4] rfl ?_
          exact hj37 v3
def r_Tp_clicksNear (a0 : Nat) (x1 : Int32) (x2 : Int32) (S : Sto) : Option Int32 :=
  (r_Tp_clicksNear_L5 a0 x1 x2 fu 0 0 S).bind (fun (v1, v2) =>
  some v1)
set_option maxHeartbeats 4000000 in
set_option maxRecDepth 20000 in
theorem c_Tp_clicksNear {G : Gl} {L : Shp} (hL : Ext L) (S : Sto) (a0 : Nat) (x1 : Int32) (x2 : Int32) (h0 : isTape L a0) : Ct Y_Tp_clicksNear G [rf G a0, .int x1, .int x2] L S (fp L S) (r_Tp_clicksNear a0 x1 x2 S) := by
  refine ct_of (by decide +kernel) (Nat.le_of_ble_eq_true rfl) (fun g C => ?_)
  show VO g Y_Tp_clicksNear G (fun z => Qm g Y_Tp_clicksNear G (fp L S z)) 0 0 0 [(0, rf G a0), (1, .int x1), (2, .int x2)] [] L S (r_Tp_clicksNear a0 x1 x2 S) some
  unfold r_Tp_clicksNear
  refine v_iconst (pc := 0) C d_Tp_clicksNear_0 ic_0 ?_
  refine v_istore_n (pc := 1) (lv' := [(3, .int 0), (0, rf G a0), (1, .int x1), (2, .int x2)]) C d_Tp_clicksNear_1 rfl (by decide) rfl ?_
  refine v_iconst (pc := 2) C d_Tp_clicksNear_2 ic_0 ?_
  refine v_istore (pc := 3) (lv' := [(4, .int 0), (3, .int 0), (0, rf G a0), (1, .int x1), (2, .int x2)]) C d_Tp_clicksNear_3 (by decide) rfl ?_
  refine v_sub [2, 3, 4, 1, 0] rfl ?_
  refine v_bind ?_
  refine w_Tp_clicksNear_L5 C hL S a0 x1 x2 h0 fu 0 0 _ (fun v1 v2 => ?_) 
  refine v_some ?_
  refine v_iload_n (pc := 43) C d_Tp_clicksNear_43 rfl 0 rfl ?_
  exact v_iret (z := v1) C d_Tp_clicksNear_44 rfl ⟨Nat.zero_le _, Nat.zero_le _⟩ (rfl) rfl
-- Tp_lay
theorem d_Tp_lay_0 : decode (mB Y_Tp_lay) 0 = .ok (.aload_n 0, 1) := by decide +kernel
theorem d_Tp_lay_1 : decode (mB Y_Tp_lay) 1 = .ok (.getfield 34, 3) := by decide +kernel
theorem d_Tp_lay_4 : decode (mB Y_Tp_lay) 4 = .ok (.aload_n 0, 1) := by decide +kernel
theorem d_Tp_lay_5 : decode (mB Y_Tp_lay) 5 = .ok (.getfield 15, 3) := by decide +kernel
theorem d_Tp_lay_8 : decode (mB Y_Tp_lay) 8 = .ok (.iload_n 1, 1) := by decide +kernel
theorem d_Tp_lay_9 : decode (mB Y_Tp_lay) 9 = .ok (.iaload, 1) := by decide +kernel
theorem d_Tp_lay_10 : decode (mB Y_Tp_lay) 10 = .ok (.iconst 0, 1) := by decide +kernel
theorem d_Tp_lay_11 : decode (mB Y_Tp_lay) 11 = .ok (.iconst (-1), 1) := by decide +kernel
theorem d_Tp_lay_12 : decode (mB Y_Tp_lay) 12 = .ok (.iconst 0, 1) := by decide +kernel
theorem d_Tp_lay_13 : decode (mB Y_Tp_lay) 13 = .ok (.invokevirtual 59, 3) := by decide +kernel
theorem d_Tp_lay_16 : decode (mB Y_Tp_lay) 16 = .ok (.aload_n 0, 1) := by decide +kernel
theorem d_Tp_lay_17 : decode (mB Y_Tp_lay) 17 = .ok (.getfield 9, 3) := by decide +kernel
theorem d_Tp_lay_20 : decode (mB Y_Tp_lay) 20 = .ok (.aload_n 0, 1) := by decide +kernel
theorem d_Tp_lay_21 : decode (mB Y_Tp_lay) 21 = .ok (.getfield 34, 3) := by decide +kernel
theorem d_Tp_lay_24 : decode (mB Y_Tp_lay) 24 = .ok (.aload_n 0, 1) := by decide +kernel
theorem d_Tp_lay_25 : decode (mB Y_Tp_lay) 25 = .ok (.getfield 15, 3) := by decide +kernel
theorem d_Tp_lay_28 : decode (mB Y_Tp_lay) 28 = .ok (.iload_n 2, 1) := by decide +kernel
theorem d_Tp_lay_29 : decode (mB Y_Tp_lay) 29 = .ok (.iaload, 1) := by decide +kernel
theorem d_Tp_lay_30 : decode (mB Y_Tp_lay) 30 = .ok (.invokevirtual 63, 3) := by decide +kernel
theorem d_Tp_lay_33 : decode (mB Y_Tp_lay) 33 = .ok (.aload_n 0, 1) := by decide +kernel
theorem d_Tp_lay_34 : decode (mB Y_Tp_lay) 34 = .ok (.iconst 1, 1) := by decide +kernel
theorem d_Tp_lay_35 : decode (mB Y_Tp_lay) 35 = .ok (.putfield 67, 3) := by decide +kernel
theorem d_Tp_lay_38 : decode (mB Y_Tp_lay) 38 = .ok (.aload_n 0, 1) := by decide +kernel
theorem d_Tp_lay_39 : decode (mB Y_Tp_lay) 39 = .ok (.iconst 1, 1) := by decide +kernel
theorem d_Tp_lay_40 : decode (mB Y_Tp_lay) 40 = .ok (.aload_n 0, 1) := by decide +kernel
theorem d_Tp_lay_41 : decode (mB Y_Tp_lay) 41 = .ok (.getfield 9, 3) := by decide +kernel
theorem d_Tp_lay_44 : decode (mB Y_Tp_lay) 44 = .ok (.getfield 70, 3) := by decide +kernel
theorem d_Tp_lay_47 : decode (mB Y_Tp_lay) 47 = .ok (.iadd, 1) := by decide +kernel
theorem d_Tp_lay_48 : decode (mB Y_Tp_lay) 48 = .ok (.putfield 73, 3) := by decide +kernel
theorem d_Tp_lay_51 : decode (mB Y_Tp_lay) 51 = .ok (.iconst 0, 1) := by decide +kernel
theorem d_Tp_lay_52 : decode (mB Y_Tp_lay) 52 = .ok (.istore 4, 2) := by decide +kernel
theorem d_Tp_lay_54 : decode (mB Y_Tp_lay) 54 = .ok (.iload 4, 2) := by decide +kernel
theorem d_Tp_lay_56 : decode (mB Y_Tp_lay) 56 = .ok (.bipush 10, 2) := by decide +kernel
theorem d_Tp_lay_58 : decode (mB Y_Tp_lay) 58 = .ok (.if_icmp .ge 65, 3) := by decide +kernel
theorem d_Tp_lay_61 : decode (mB Y_Tp_lay) 61 = .ok (.aload_n 0, 1) := by decide +kernel
theorem d_Tp_lay_62 : decode (mB Y_Tp_lay) 62 = .ok (.getfield 38, 3) := by decide +kernel
theorem d_Tp_lay_65 : decode (mB Y_Tp_lay) 65 = .ok (.iload 4, 2) := by decide +kernel
theorem d_Tp_lay_67 : decode (mB Y_Tp_lay) 67 = .ok (.aload_n 0, 1) := by decide +kernel
theorem d_Tp_lay_68 : decode (mB Y_Tp_lay) 68 = .ok (.getfield 9, 3) := by decide +kernel
theorem d_Tp_lay_71 : decode (mB Y_Tp_lay) 71 = .ok (.getfield 76, 3) := by decide +kernel
theorem d_Tp_lay_74 : decode (mB Y_Tp_lay) 74 = .ok (.iload 4, 2) := by decide +kernel
theorem d_Tp_lay_76 : decode (mB Y_Tp_lay) 76 = .ok (.iaload, 1) := by decide +kernel
theorem d_Tp_lay_77 : decode (mB Y_Tp_lay) 77 = .ok (.iconst (-1), 1) := by decide +kernel
theorem d_Tp_lay_78 : decode (mB Y_Tp_lay) 78 = .ok (.if_icmp .ne 7, 3) := by decide +kernel
theorem d_Tp_lay_81 : decode (mB Y_Tp_lay) 81 = .ok (.iconst 0, 1) := by decide +kernel
theorem d_Tp_lay_82 : decode (mB Y_Tp_lay) 82 = .ok (.goto 14, 3) := by decide +kernel
theorem d_Tp_lay_85 : decode (mB Y_Tp_lay) 85 = .ok (.aload_n 0, 1) := by decide +kernel
theorem d_Tp_lay_86 : decode (mB Y_Tp_lay) 86 = .ok (.aload_n 0, 1) := by decide +kernel
theorem d_Tp_lay_87 : decode (mB Y_Tp_lay) 87 = .ok (.iload 4, 2) := by decide +kernel
theorem d_Tp_lay_89 : decode (mB Y_Tp_lay) 89 = .ok (.invokevirtual 79, 3) := by decide +kernel
theorem d_Tp_lay_92 : decode (mB Y_Tp_lay) 92 = .ok (.iload_n 3, 1) := by decide +kernel
theorem d_Tp_lay_93 : decode (mB Y_Tp_lay) 93 = .ok (.invokevirtual 82, 3) := by decide +kernel
theorem d_Tp_lay_96 : decode (mB Y_Tp_lay) 96 = .ok (.iastore, 1) := by decide +kernel
theorem d_Tp_lay_97 : decode (mB Y_Tp_lay) 97 = .ok (.aload_n 0, 1) := by decide +kernel
theorem d_Tp_lay_98 : decode (mB Y_Tp_lay) 98 = .ok (.getfield 38, 3) := by decide +kernel
theorem d_Tp_lay_101 : decode (mB Y_Tp_lay) 101 = .ok (.iload 4, 2) := by decide +kernel
theorem d_Tp_lay_103 : decode (mB Y_Tp_lay) 103 = .ok (.iaload, 1) := by decide +kernel
theorem d_Tp_lay_104 : decode (mB Y_Tp_lay) 104 = .ok (.ifCond .eq 13, 3) := by decide +kernel
theorem d_Tp_lay_107 : decode (mB Y_Tp_lay) 107 = .ok (.aload_n 0, 1) := by decide +kernel
theorem d_Tp_lay_108 : decode (mB Y_Tp_lay) 108 = .ok (.dup, 1) := by decide +kernel
theorem d_Tp_lay_109 : decode (mB Y_Tp_lay) 109 = .ok (.getfield 67, 3) := by decide +kernel
theorem d_Tp_lay_112 : decode (mB Y_Tp_lay) 112 = .ok (.iconst 1, 1) := by decide +kernel
theorem d_Tp_lay_113 : decode (mB Y_Tp_lay) 113 = .ok (.iadd, 1) := by decide +kernel
theorem d_Tp_lay_114 : decode (mB Y_Tp_lay) 114 = .ok (.putfield 67, 3) := by decide +kernel
theorem d_Tp_lay_117 : decode (mB Y_Tp_lay) 117 = .ok (.iinc 4 1, 3) := by decide +kernel
theorem d_Tp_lay_120 : decode (mB Y_Tp_lay) 120 = .ok (.goto (-66), 3) := by decide +kernel
theorem d_Tp_lay_123 : decode (mB Y_Tp_lay) 123 = .ok (.return_, 1) := by decide +kernel
theorem ro_Tp_lay_Hd_listen : roomy Y_Tp_lay Y_Hd_listen := ⟨Nat.le_of_ble_eq_true rfl, Nat.le_of_ble_eq_true rfl⟩
theorem ro_Tp_lay_Sh_fire : roomy Y_Tp_lay Y_Sh_fire := ⟨Nat.le_of_ble_eq_true rfl, Nat.le_of_ble_eq_true rfl⟩
theorem ro_Tp_lay_Tp_backPlace : roomy Y_Tp_lay Y_Tp_backPlace := ⟨Nat.le_of_ble_eq_true rfl, Nat.le_of_ble_eq_true rfl⟩
theorem ro_Tp_lay_Tp_clicksNear : roomy Y_Tp_lay Y_Tp_clicksNear := ⟨Nat.le_of_ble_eq_true rfl, Nat.le_of_ble_eq_true rfl⟩
def r_Tp_lay_L54 (a0_ : Nat) (y3_ : Int32) : Nat → Int32 → Sto → Option (Int32 × Sto)
  | 0, _, _ => none
  | n + 1, x4_, S =>
    if 10 ≤ x4_ then
      some (x4_, S)
    else
      chk (inr x4_ 10) (
      jn (fun (v1 : Int32) =>
        chk (inr x4_ 10) (
        ltS (sw S (a0_ + 7) x4_.toNatClampNeg v1) (fun S2 =>
        chk (inr x4_ 10) (
        jn (fun (S3 : Sto) =>
          lt (x4_ + 1) (fun v4 =>
          r_Tp_lay_L54 a0_ y3_ n v4 S3)) (fun j117 =>
        if (S2 (a0_ + 7) x4_.toNatClampNeg) = 0 then
          j117 (S2)
        else
          ltS (sw S2 a0_ 7 ((S2 a0_ 7) + 1)) (fun S5 =>
          j117 (S5))))))) (fun j96 =>
      if (S 16 x4_.toNatClampNeg) = (-1) then
        j96 (0)
      else
        (r_Tp_backPlace a0_ x4_ S).bind (fun r6 =>
        (r_Tp_clicksNear a0_ r6 y3_ S).bind (fun r7 =>
        j96 (r7)))))
set_option maxHeartbeats 4000000 in
set_option maxRecDepth 20000 in
theorem w_Tp_lay_L54 {g : Gm} {G : Gl} {L : Shp} (C : Cx g Y_Tp_lay G) (hL : Ext L) (a0_ : Nat) (y3_ : Int32) (h0_ : isTape L a0_) :
    ∀ (n : Nat) (x4_ : Int32) (S : Sto) (K : (Int32 × Sto) → Option Sto), (∀ (x4_ : Int32) (S : Sto), VO g Y_Tp_lay G (fun z => Qm g Y_Tp_lay G (fv L z)) 0 0 123 [] [] L S (some (x4_, S)) K) → VO g Y_Tp_lay G (fun z => Qm g Y_Tp_lay G (fv L z)) 0 0 54 [(0, rf G a0_), (3, .int y3_), (4, .int x4_)] [] L S (r_Tp_lay_L54 a0_ y3_ n x4_ S) K := by
  intro n
  induction n with
  | zero => intro x4_ S K; intros; exact v_none
  | succ n ih =>
    intro x4_ S K hK
    rw [r_Tp_lay_L54]
    refine v_iload (pc := 54) C d_Tp_lay_54 2 rfl ?_
    refine v_bipush (pc := 56) C d_Tp_lay_56 bp_10 ?_
    refine v_icmp_ge (pc := 58) (tgt := 123) C d_Tp_lay_58 rfl (fun _ => ?_) (fun _ => ?_)
    · refine v_sub [] rfl ?_
      exact hK x4_ S
    · refine v_aload_n (pc := 61) C d_Tp_lay_61 rfl 0 rfl ?_
      refine v_getR (pc := 62) C fl_Tp_38 h0_.1 rfl d_Tp_lay_62 ?_
      refine v_iload (pc := 65) C d_Tp_lay_65 2 rfl ?_
      refine v_aload_n (pc := 67) C d_Tp_lay_67 rfl 0 rfl ?_
      refine v_getR (pc := 68) C fl_Tp_9 h0_.1 rfl d_Tp_lay_68 ?_
      refine v_getR (pc := 71) C fl_Tp_76 (sh_13 hL) rfl d_Tp_lay_71 ?_
      refine v_iload (pc := 74) C d_Tp_lay_74 2 rfl ?_
      refine v_iald (pc := 76) C (sh_16 hL) d_Tp_lay_76 (fun _ => ?_)
      refine v_iconst (pc := 77) C d_Tp_lay_77 ic_m1 ?_
      refine v_jn (fun j => ∀ (v1 : Int32), VO g Y_Tp_lay G (fun z => Qm g Y_Tp_lay G (fv L z)) 0 0 96 [(0, rf G a0_), (3, .int y3_), (4, .int x4_)] [.int v1, .int x4_, rf G (a0_ + 7)] L S (j (v1)) K) (fun v1 => ?_) (fun j96 hj96 => ?_)
      · refine v_iast (pc := 96) C h0_.2.2.2.2 d_Tp_lay_96 (fun _ S2 => ?_)
        refine v_aload_n (pc := 97) C d_Tp_lay_97 rfl 0 rfl ?_
        refine v_getR (pc := 98) C fl_Tp_38 h0_.1 rfl d_Tp_lay_98 ?_
        refine v_iload (pc := 101) C d_Tp_lay_101 2 rfl ?_
        refine v_iald (pc := 103) C h0_.2.2.2.2 d_Tp_lay_103 (fun _ => ?_)
        refine v_jn (fun j => ∀ (S3 : Sto), VO g Y_Tp_lay G (fun z => Qm g Y_Tp_lay G (fv L z)) 0 0 117 [(0, rf G a0_), (3, .int y3_), (4, .int x4_)] [] L S3 (j (S3)) K) (fun S3 => ?_) (fun j117 hj117 => ?_)
        · refine v_iinc (pc := 117) (p := 2) (c := 1) C d_Tp_lay_117 rfl (by decide) (by decide) (fun v4 => [(4, .int v4), (0, rf G a0_), (3, .int y3_)]) (fun _ => rfl) (fun v4 => ?_)
          refine v_goto (pc := 120) (tgt := 54) C d_Tp_lay_120 rfl ?_
          refine v_sub [1, 2, 0] rfl ?_
          exact ih v4 S3 K hK
        · refine v_if_eq (pc := 104) (tgt := 117) C d_Tp_lay_104 rfl (fun _ => ?_) (fun _ => ?_)
          · exact hj117 S2
          · refine v_aload_n (pc := 107) C d_Tp_lay_107 rfl 0 rfl ?_
            refine v_dup (pc := 108) C d_Tp_lay_108 rfl ?_
            refine v_getI (pc := 109) C fl_Tp_67 h0_.1 rfl d_Tp_lay_109 ?_
            refine v_iconst (pc := 112) C d_Tp_lay_112 ic_1 ?_
            refine v_iadd (pc := 113) C d_Tp_lay_113 ?_
            refine v_putI (pc := 114) C fp_Tp_67 h0_.1 rfl d_Tp_lay_114 (fun S5 => ?_)
            exact hj117 S5
      · refine v_icmp_ne (pc := 78) (tgt := 85) C d_Tp_lay_78 rfl (fun _ => ?_) (fun _ => ?_)
        · refine v_aload_n (pc := 85) C d_Tp_lay_85 rfl 0 rfl ?_
          refine v_aload_n (pc := 86) C d_Tp_lay_86 rfl 0 rfl ?_
          refine v_iload (pc := 87) C d_Tp_lay_87 2 rfl ?_
          refine v_cp (pc := 89) (inv_V (As := [.int x4_]) (st := [rf G a0_, .int x4_, rf G (a0_ + 7)]) C ml_Tp_79 mv_Tp_backPlace ro_Tp_lay_Tp_backPlace h0_.1 rfl rfl rfl rfl (Nat.le_of_ble_eq_true rfl) d_Tp_lay_89) (c_Tp_backPlace hL S a0_ x4_ h0_) ⟨rfl, rfl⟩ ⟨Nat.zero_le _, Nat.zero_le _⟩ (fun r6 => ?_)
          refine v_iload_n (pc := 92) C d_Tp_lay_92 rfl 1 rfl ?_
          refine v_cp (pc := 93) (inv_V (As := [.int r6, .int y3_]) (st := [.int x4_, rf G (a0_ + 7)]) C ml_Tp_82 mv_Tp_clicksNear ro_Tp_lay_Tp_clicksNear h0_.1 rfl rfl rfl rfl (Nat.le_of_ble_eq_true rfl) d_Tp_lay_93) (c_Tp_clicksNear hL S a0_ r6 y3_ h0_) ⟨rfl, rfl⟩ ⟨Nat.zero_le _, Nat.zero_le _⟩ (fun r7 => ?_)
          exact hj96 r7
        · refine v_iconst (pc := 81) C d_Tp_lay_81 ic_0 ?_
          refine v_goto (pc := 82) (tgt := 96) C d_Tp_lay_82 rfl ?_
          exact hj96 0
def r_Tp_lay (a0 : Nat) (x1 : Int32) (x2 : Int32) (x3 : Int32) (S : Sto) : Option Sto :=
  chk (inr x1 10) (
  (r_Sh_fire (a0 + 6) (S 17 x1.toNatClampNeg) 0 (-1) 0 S).bind (fun S1 =>
  chk (inr x2 10) (
  (r_Hd_listen (a0 + 6) (S1 17 x2.toNatClampNeg) S1).bind (fun S2 =>
  ltS (sw S2 a0 7 1) (fun S3 =>
  ltS (sw S3 a0 8 (1 + (S3 13 6))) (fun S4 =>
  (r_Tp_lay_L54 a0 x3 fu 0 S4).bind (fun (v5, S6) =>
  some S6)))))))
set_option maxHeartbeats 4000000 in
set_option maxRecDepth 20000 in
theorem c_Tp_lay {G : Gl} {L : Shp} (hL : Ext L) (S : Sto) (a0 : Nat) (x1 : Int32) (x2 : Int32) (x3 : Int32) (h0 : isTape L a0) : Ct Y_Tp_lay G [rf G a0, .int x1, .int x2, .int x3] L S (fv L) (r_Tp_lay a0 x1 x2 x3 S) := by
  refine ct_of (by decide +kernel) (Nat.le_of_ble_eq_true rfl) (fun g C => ?_)
  show VO g Y_Tp_lay G (fun z => Qm g Y_Tp_lay G (fv L z)) 0 0 0 [(0, rf G a0), (1, .int x1), (2, .int x2), (3, .int x3)] [] L S (r_Tp_lay a0 x1 x2 x3 S) some
  unfold r_Tp_lay
  refine v_aload_n (pc := 0) C d_Tp_lay_0 rfl 0 rfl ?_
  refine v_getR (pc := 1) C fl_Tp_34 h0.1 rfl d_Tp_lay_1 ?_
  refine v_aload_n (pc := 4) C d_Tp_lay_4 rfl 0 rfl ?_
  refine v_getR (pc := 5) C fl_Tp_15 h0.1 rfl d_Tp_lay_5 ?_
  refine v_iload_n (pc := 8) C d_Tp_lay_8 rfl 1 rfl ?_
  refine v_iald (pc := 9) C (sh_17 hL) d_Tp_lay_9 (fun _ => ?_)
  refine v_iconst (pc := 10) C d_Tp_lay_10 ic_0 ?_
  refine v_iconst (pc := 11) C d_Tp_lay_11 ic_m1 ?_
  refine v_iconst (pc := 12) C d_Tp_lay_12 ic_0 ?_
  refine v_cv (pc := 13) (inv_V (As := [.int (S 17 x1.toNatClampNeg), .int 0, .int (-1), .int 0]) (st := []) C ml_Tp_59 mv_Sh_fire ro_Tp_lay_Sh_fire h0.2.2.2.1 rfl rfl rfl rfl (Nat.le_of_ble_eq_true rfl) d_Tp_lay_13) (c_Sh_fire hL S (a0 + 6) (S 17 x1.toNatClampNeg) 0 (-1) 0 h0.2.2.2.1) ⟨rfl, rfl⟩ ⟨Nat.zero_le _, Nat.zero_le _⟩ (fun S1 => ?_)
  refine v_aload_n (pc := 16) C d_Tp_lay_16 rfl 0 rfl ?_
  refine v_getR (pc := 17) C fl_Tp_9 h0.1 rfl d_Tp_lay_17 ?_
  refine v_aload_n (pc := 20) C d_Tp_lay_20 rfl 0 rfl ?_
  refine v_getR (pc := 21) C fl_Tp_34 h0.1 rfl d_Tp_lay_21 ?_
  refine v_aload_n (pc := 24) C d_Tp_lay_24 rfl 0 rfl ?_
  refine v_getR (pc := 25) C fl_Tp_15 h0.1 rfl d_Tp_lay_25 ?_
  refine v_iload_n (pc := 28) C d_Tp_lay_28 rfl 2 rfl ?_
  refine v_iald (pc := 29) C (sh_17 hL) d_Tp_lay_29 (fun _ => ?_)
  refine v_cv (pc := 30) (inv_V (As := [rf G (a0 + 6), .int (S1 17 x2.toNatClampNeg)]) (st := []) C ml_Tp_63 mv_Hd_listen ro_Tp_lay_Hd_listen (sh_13 hL) rfl rfl rfl rfl (Nat.le_of_ble_eq_true rfl) d_Tp_lay_30) (c_Hd_listen hL S1 (a0 + 6) (S1 17 x2.toNatClampNeg) h0.2.2.2.1) ⟨rfl, rfl⟩ ⟨Nat.zero_le _, Nat.zero_le _⟩ (fun S2 => ?_)
  refine v_aload_n (pc := 33) C d_Tp_lay_33 rfl 0 rfl ?_
  refine v_iconst (pc := 34) C d_Tp_lay_34 ic_1 ?_
  refine v_putI (pc := 35) C fp_Tp_67 h0.1 rfl d_Tp_lay_35 (fun S3 => ?_)
  refine v_aload_n (pc := 38) C d_Tp_lay_38 rfl 0 rfl ?_
  refine v_iconst (pc := 39) C d_Tp_lay_39 ic_1 ?_
  refine v_aload_n (pc := 40) C d_Tp_lay_40 rfl 0 rfl ?_
  refine v_getR (pc := 41) C fl_Tp_9 h0.1 rfl d_Tp_lay_41 ?_
  refine v_getI (pc := 44) C fl_Tp_70 (sh_13 hL) rfl d_Tp_lay_44 ?_
  refine v_iadd (pc := 47) C d_Tp_lay_47 ?_
  refine v_putI (pc := 48) C fp_Tp_73 h0.1 rfl d_Tp_lay_48 (fun S4 => ?_)
  refine v_iconst (pc := 51) C d_Tp_lay_51 ic_0 ?_
  refine v_istore (pc := 52) (lv' := [(4, .int 0), (0, rf G a0), (1, .int x1), (2, .int x2), (3, .int x3)]) C d_Tp_lay_52 (by decide) rfl ?_
  refine v_sub [1, 4, 0] rfl ?_
  refine v_bind ?_
  refine w_Tp_lay_L54 C hL a0 x3 h0 fu 0 S4 _ (fun v5 S6 => ?_) 
  refine v_some ?_
  exact v_vret C d_Tp_lay_123 rfl ⟨Nat.zero_le _, Nat.zero_le _⟩ rfl rfl
