-- Rf_countApart
theorem d_Rf_countApart_0 : decode (mB Y_Rf_countApart) 0 = .ok (.lconst 0, 1) := by decide +kernel
theorem d_Rf_countApart_1 : decode (mB Y_Rf_countApart) 1 = .ok (.lstore_n 2, 1) := by decide +kernel
theorem d_Rf_countApart_2 : decode (mB Y_Rf_countApart) 2 = .ok (.iconst 0, 1) := by decide +kernel
theorem d_Rf_countApart_3 : decode (mB Y_Rf_countApart) 3 = .ok (.istore 4, 2) := by decide +kernel
theorem d_Rf_countApart_5 : decode (mB Y_Rf_countApart) 5 = .ok (.iload 4, 2) := by decide +kernel
theorem d_Rf_countApart_7 : decode (mB Y_Rf_countApart) 7 = .ok (.bipush 10, 2) := by decide +kernel
theorem d_Rf_countApart_9 : decode (mB Y_Rf_countApart) 9 = .ok (.if_icmp .ge 62, 3) := by decide +kernel
theorem d_Rf_countApart_12 : decode (mB Y_Rf_countApart) 12 = .ok (.iload 4, 2) := by decide +kernel
theorem d_Rf_countApart_14 : decode (mB Y_Rf_countApart) 14 = .ok (.iconst 1, 1) := by decide +kernel
theorem d_Rf_countApart_15 : decode (mB Y_Rf_countApart) 15 = .ok (.iadd, 1) := by decide +kernel
theorem d_Rf_countApart_16 : decode (mB Y_Rf_countApart) 16 = .ok (.istore 5, 2) := by decide +kernel
theorem d_Rf_countApart_18 : decode (mB Y_Rf_countApart) 18 = .ok (.iload 5, 2) := by decide +kernel
theorem d_Rf_countApart_20 : decode (mB Y_Rf_countApart) 20 = .ok (.bipush 10, 2) := by decide +kernel
theorem d_Rf_countApart_22 : decode (mB Y_Rf_countApart) 22 = .ok (.if_icmp .ge 43, 3) := by decide +kernel
theorem d_Rf_countApart_25 : decode (mB Y_Rf_countApart) 25 = .ok (.iload_n 1, 1) := by decide +kernel
theorem d_Rf_countApart_26 : decode (mB Y_Rf_countApart) 26 = .ok (.iload 4, 2) := by decide +kernel
theorem d_Rf_countApart_28 : decode (mB Y_Rf_countApart) 28 = .ok (.ishr, 1) := by decide +kernel
theorem d_Rf_countApart_29 : decode (mB Y_Rf_countApart) 29 = .ok (.iconst 1, 1) := by decide +kernel
theorem d_Rf_countApart_30 : decode (mB Y_Rf_countApart) 30 = .ok (.iand, 1) := by decide +kernel
theorem d_Rf_countApart_31 : decode (mB Y_Rf_countApart) 31 = .ok (.ifCond .eq 28, 3) := by decide +kernel
theorem d_Rf_countApart_34 : decode (mB Y_Rf_countApart) 34 = .ok (.iload_n 1, 1) := by decide +kernel
theorem d_Rf_countApart_35 : decode (mB Y_Rf_countApart) 35 = .ok (.iload 5, 2) := by decide +kernel
theorem d_Rf_countApart_37 : decode (mB Y_Rf_countApart) 37 = .ok (.ishr, 1) := by decide +kernel
theorem d_Rf_countApart_38 : decode (mB Y_Rf_countApart) 38 = .ok (.iconst 1, 1) := by decide +kernel
theorem d_Rf_countApart_39 : decode (mB Y_Rf_countApart) 39 = .ok (.iand, 1) := by decide +kernel
theorem d_Rf_countApart_40 : decode (mB Y_Rf_countApart) 40 = .ok (.ifCond .eq 19, 3) := by decide +kernel
theorem d_Rf_countApart_43 : decode (mB Y_Rf_countApart) 43 = .ok (.lload_n 2, 1) := by decide +kernel
theorem d_Rf_countApart_44 : decode (mB Y_Rf_countApart) 44 = .ok (.aload_n 0, 1) := by decide +kernel
theorem d_Rf_countApart_45 : decode (mB Y_Rf_countApart) 45 = .ok (.getfield 22, 3) := by decide +kernel
theorem d_Rf_countApart_48 : decode (mB Y_Rf_countApart) 48 = .ok (.bipush 10, 2) := by decide +kernel
theorem d_Rf_countApart_50 : decode (mB Y_Rf_countApart) 50 = .ok (.iload 4, 2) := by decide +kernel
theorem d_Rf_countApart_52 : decode (mB Y_Rf_countApart) 52 = .ok (.imul, 1) := by decide +kernel
theorem d_Rf_countApart_53 : decode (mB Y_Rf_countApart) 53 = .ok (.iload 5, 2) := by decide +kernel
theorem d_Rf_countApart_55 : decode (mB Y_Rf_countApart) 55 = .ok (.iadd, 1) := by decide +kernel
theorem d_Rf_countApart_56 : decode (mB Y_Rf_countApart) 56 = .ok (.laload, 1) := by decide +kernel
theorem d_Rf_countApart_57 : decode (mB Y_Rf_countApart) 57 = .ok (.lor, 1) := by decide +kernel
theorem d_Rf_countApart_58 : decode (mB Y_Rf_countApart) 58 = .ok (.lstore_n 2, 1) := by decide +kernel
theorem d_Rf_countApart_59 : decode (mB Y_Rf_countApart) 59 = .ok (.iinc 5 1, 3) := by decide +kernel
theorem d_Rf_countApart_62 : decode (mB Y_Rf_countApart) 62 = .ok (.goto (-44), 3) := by decide +kernel
theorem d_Rf_countApart_65 : decode (mB Y_Rf_countApart) 65 = .ok (.iinc 4 1, 3) := by decide +kernel
theorem d_Rf_countApart_68 : decode (mB Y_Rf_countApart) 68 = .ok (.goto (-63), 3) := by decide +kernel
theorem d_Rf_countApart_71 : decode (mB Y_Rf_countApart) 71 = .ok (.lload_n 2, 1) := by decide +kernel
theorem d_Rf_countApart_72 : decode (mB Y_Rf_countApart) 72 = .ok (.invokestatic 46, 3) := by decide +kernel
theorem d_Rf_countApart_75 : decode (mB Y_Rf_countApart) 75 = .ok (.ireturn, 1) := by decide +kernel
theorem ro_Rf_countApart_Lg_bitCount : roomy Y_Rf_countApart Y_Lg_bitCount := ⟨Nat.le_of_ble_eq_true rfl, Nat.le_of_ble_eq_true rfl⟩
def r_Rf_countApart_L18 (y1_ : Int32) (y4_ : Int32) : Nat → Int64 → Int32 → Sto → Option (Int64 × Int32)
  | 0, _, _, _ => none
  | n + 1, x2_, x5_, S =>
    if 10 ≤ x5_ then
      some (x2_, x5_)
    else
      jn (fun (v1 : Int64) =>
        lt (x5_ + 1) (fun v2 =>
        r_Rf_countApart_L18 y1_ y4_ n v1 v2 S)) (fun j59 =>
      if ((y1_ >>> (y4_ &&& 31)) &&& 1) = 0 then
        j59 (x2_)
      else
        if ((y1_ >>> (x5_ &&& 31)) &&& 1) = 0 then
          j59 (x2_)
        else
          chk (inr ((10 * y4_) + x5_) 100) (
          ltJ (x2_ ||| (jl (S 103 (2 * ((10 * y4_) + x5_).toNatClampNeg)) (S 103 (2 * ((10 * y4_) + x5_).toNatClampNeg + 1)))) (fun v3 =>
          j59 (v3))))
def r_Rf_countApart_L5 (y1_ : Int32) : Nat → Int64 → Int32 → Sto → Option (Int64 × Int32)
  | 0, _, _, _ => none
  | n + 1, x2_, x4_, S =>
    if 10 ≤ x4_ then
      some (x2_, x4_)
    else
      lt (x4_ + 1) (fun v1 =>
      (r_Rf_countApart_L18 y1_ x4_ fu x2_ v1 S).bind (fun (v2, v3) =>
      lt (x4_ + 1) (fun v4 =>
      r_Rf_countApart_L5 y1_ n v2 v4 S)))
set_option maxHeartbeats 4000000 in
set_option maxRecDepth 20000 in
theorem w_Rf_countApart_L18 {g : Gm} {G : Gl} {L : Shp} (C : Cx g Y_Rf_countApart G) (hL : Ext L) (S : Sto) (y1_ : Int32) (y4_ : Int32)  :
    ∀ (n : Nat) (x2_ : Int64) (x5_ : Int32) (K : (Int64 × Int32) → Option Int32), (∀ (x2_ : Int64) (x5_ : Int32), VO g Y_Rf_countApart G (fun z => Qm g Y_Rf_countApart G (fp L S z)) 0 0 65 [(0, rf G 101), (1, .int y1_), (2, .long x2_), (4, .int y4_)] [] L S (some (x2_, x5_)) K) → VO g Y_Rf_countApart G (fun z => Qm g Y_Rf_countApart G (fp L S z)) 0 0 18 [(0, rf G 101), (1, .int y1_), (2, .long x2_), (4, .int y4_), (5, .int x5_)] [] L S (r_Rf_countApart_L18 y1_ y4_ n x2_ x5_ S) K := by
  intro n
  induction n with
  | zero => intro x2_ x5_ K; intros; exact v_none
  | succ n ih =>
    intro x2_ x5_ K hK
    rw [r_Rf_countApart_L18]
    refine v_iload (pc := 18) C d_Rf_countApart_18 4 rfl ?_
    refine v_bipush (pc := 20) C d_Rf_countApart_20 bp_10 ?_
    refine v_icmp_ge (pc := 22) (tgt := 65) C d_Rf_countApart_22 rfl (fun _ => ?_) (fun _ => ?_)
    · refine v_sub [0, 1, 2, 3] rfl ?_
      exact hK x2_ x5_
    · refine v_iload_n (pc := 25) C d_Rf_countApart_25 rfl 1 rfl ?_
      refine v_iload (pc := 26) C d_Rf_countApart_26 3 rfl ?_
      refine v_ishr (pc := 28) C d_Rf_countApart_28 ?_
      refine v_iconst (pc := 29) C d_Rf_countApart_29 ic_1 ?_
      refine v_iand (pc := 30) C d_Rf_countApart_30 ?_
      refine v_jn (fun j => ∀ (v1 : Int64), VO g Y_Rf_countApart G (fun z => Qm g Y_Rf_countApart G (fp L S z)) 0 0 59 [(0, rf G 101), (1, .int y1_), (2, .long v1), (4, .int y4_), (5, .int x5_)] [] L S (j (v1)) K) (fun v1 => ?_) (fun j59 hj59 => ?_)
      · refine v_iinc (pc := 59) (p := 4) (c := 1) C d_Rf_countApart_59 rfl (by decide) (by decide) (fun v2 => [(5, .int v2), (0, rf G 101), (1, .int y1_), (2, .long v1), (4, .int y4_)]) (fun _ => rfl) (fun v2 => ?_)
        refine v_goto (pc := 62) (tgt := 18) C d_Rf_countApart_62 rfl ?_
        refine v_sub [1, 2, 3, 4, 0] rfl ?_
        exact ih v1 v2 K hK
      · refine v_if_eq (pc := 31) (tgt := 59) C d_Rf_countApart_31 rfl (fun _ => ?_) (fun _ => ?_)
        · exact hj59 x2_
        · refine v_iload_n (pc := 34) C d_Rf_countApart_34 rfl 1 rfl ?_
          refine v_iload (pc := 35) C d_Rf_countApart_35 4 rfl ?_
          refine v_ishr (pc := 37) C d_Rf_countApart_37 ?_
          refine v_iconst (pc := 38) C d_Rf_countApart_38 ic_1 ?_
          refine v_iand (pc := 39) C d_Rf_countApart_39 ?_
          refine v_if_eq (pc := 40) (tgt := 59) C d_Rf_countApart_40 rfl (fun _ => ?_) (fun _ => ?_)
          · exact hj59 x2_
          · refine v_lload_n (pc := 43) C d_Rf_countApart_43 rfl 2 rfl ?_
            refine v_aload_n (pc := 44) C d_Rf_countApart_44 rfl 0 rfl ?_
            refine v_getR (pc := 45) C fl_Rf_22 (sh_101 hL) rfl d_Rf_countApart_45 ?_
            refine v_bipush (pc := 48) C d_Rf_countApart_48 bp_10 ?_
            refine v_iload (pc := 50) C d_Rf_countApart_50 3 rfl ?_
            refine v_imul (pc := 52) C d_Rf_countApart_52 ?_
            refine v_iload (pc := 53) C d_Rf_countApart_53 4 rfl ?_
            refine v_iadd (pc := 55) C d_Rf_countApart_55 ?_
            refine v_lald (pc := 56) C (sh_103 hL) d_Rf_countApart_56 (fun _ => ?_)
            refine v_lor (pc := 57) C d_Rf_countApart_57 ?_
            refine v_ltJ (fun v3 => ?_)
            refine v_lstore_n (pc := 58) (lv' := [(2, .long v3), (0, rf G 101), (1, .int y1_), (4, .int y4_), (5, .int x5_)]) C d_Rf_countApart_58 rfl (by decide) rfl ?_
            refine v_sub [1, 2, 0, 3, 4] rfl ?_
            exact hj59 v3
set_option maxHeartbeats 4000000 in
set_option maxRecDepth 20000 in
theorem w_Rf_countApart_L5 {g : Gm} {G : Gl} {L : Shp} (C : Cx g Y_Rf_countApart G) (hL : Ext L) (S : Sto) (y1_ : Int32)  :
    ∀ (n : Nat) (x2_ : Int64) (x4_ : Int32) (K : (Int64 × Int32) → Option Int32), (∀ (x2_ : Int64) (x4_ : Int32), VO g Y_Rf_countApart G (fun z => Qm g Y_Rf_countApart G (fp L S z)) 0 0 71 [(2, .long x2_)] [] L S (some (x2_, x4_)) K) → VO g Y_Rf_countApart G (fun z => Qm g Y_Rf_countApart G (fp L S z)) 0 0 5 [(0, rf G 101), (1, .int y1_), (2, .long x2_), (4, .int x4_)] [] L S (r_Rf_countApart_L5 y1_ n x2_ x4_ S) K := by
  intro n
  induction n with
  | zero => intro x2_ x4_ K; intros; exact v_none
  | succ n ih =>
    intro x2_ x4_ K hK
    rw [r_Rf_countApart_L5]
    refine v_iload (pc := 5) C d_Rf_countApart_5 3 rfl ?_
    refine v_bipush (pc := 7) C d_Rf_countApart_7 bp_10 ?_
    refine v_icmp_ge (pc := 9) (tgt := 71) C d_Rf_countApart_9 rfl (fun _ => ?_) (fun _ => ?_)
    · refine v_sub [2] rfl ?_
      exact hK x2_ x4_
    · refine v_iload (pc := 12) C d_Rf_countApart_12 3 rfl ?_
      refine v_iconst (pc := 14) C d_Rf_countApart_14 ic_1 ?_
      refine v_iadd (pc := 15) C d_Rf_countApart_15 ?_
      refine v_lt (fun v1 => ?_)
      refine v_istore (pc := 16) (lv' := [(5, .int v1), (0, rf G 101), (1, .int y1_), (2, .long x2_), (4, .int x4_)]) C d_Rf_countApart_16 (by decide) rfl ?_
      refine v_sub [1, 2, 3, 4, 0] rfl ?_
      refine v_bind ?_
      refine w_Rf_countApart_L18 C hL S y1_ x4_  fu x2_ v1 _ (fun v2 v3 => ?_) 
      refine v_some ?_
      refine v_iinc (pc := 65) (p := 3) (c := 1) C d_Rf_countApart_65 rfl (by decide) (by decide) (fun v4 => [(4, .int v4), (0, rf G 101), (1, .int y1_), (2, .long v2)]) (fun _ => rfl) (fun v4 => ?_)
      refine v_goto (pc := 68) (tgt := 5) C d_Rf_countApart_68 rfl ?_
      refine v_sub [1, 2, 3, 0] rfl ?_
      exact ih v2 v4 K hK
def r_Rf_countApart (x1 : Int32) (S : Sto) : Option Int32 :=
  (r_Rf_countApart_L5 x1 fu 0 0 S).bind (fun (v1, v2) =>
  some (r_Lg_bitCount v1))
set_option maxHeartbeats 4000000 in
set_option maxRecDepth 20000 in
theorem c_Rf_countApart {G : Gl} {L : Shp} (hL : Ext L) (S : Sto) (x1 : Int32)  : Ct Y_Rf_countApart G [rf G 101, .int x1] L S (fp L S) (r_Rf_countApart x1 S) := by
  refine ct_of (by decide +kernel) (Nat.le_of_ble_eq_true rfl) (fun g C => ?_)
  show VO g Y_Rf_countApart G (fun z => Qm g Y_Rf_countApart G (fp L S z)) 0 0 0 [(0, rf G 101), (1, .int x1)] [] L S (r_Rf_countApart x1 S) some
  unfold r_Rf_countApart
  refine v_lconst (pc := 0) (v := 0) C d_Rf_countApart_0 (by decide) ?_
  refine v_lstore_n (pc := 1) (lv' := [(2, .long 0), (0, rf G 101), (1, .int x1)]) C d_Rf_countApart_1 rfl (by decide) rfl ?_
  refine v_iconst (pc := 2) C d_Rf_countApart_2 ic_0 ?_
  refine v_istore (pc := 3) (lv' := [(4, .int 0), (2, .long 0), (0, rf G 101), (1, .int x1)]) C d_Rf_countApart_3 (by decide) rfl ?_
  refine v_sub [2, 3, 1, 0] rfl ?_
  refine v_bind ?_
  refine w_Rf_countApart_L5 C hL S x1  fu 0 0 _ (fun v1 v2 => ?_) 
  refine v_some ?_
  refine v_lload_n (pc := 71) C d_Rf_countApart_71 rfl 0 rfl ?_
  refine v_ct (pc := 72) (inv_S (As := [.long v1]) (st := []) C ml_Rf_46 ms_Lg_bitCount ro_Rf_countApart_Lg_bitCount rfl rfl (Nat.le_of_ble_eq_true rfl) d_Rf_countApart_72) (c_Lg_bitCount hL S v1) ⟨rfl, rfl⟩ ⟨Nat.zero_le _, Nat.zero_le _⟩ ?_
  exact v_iret (z := (r_Lg_bitCount v1)) C d_Rf_countApart_75 rfl ⟨Nat.zero_le _, Nat.zero_le _⟩ (rfl) rfl
-- B_set
theorem d_B_set_0 : decode (mB Y_B_set) 0 = .ok (.iload_n 1, 1) := by decide +kernel
theorem d_B_set_1 : decode (mB Y_B_set) 1 = .ok (.ifCond .ne 23, 3) := by decide +kernel
theorem d_B_set_4 : decode (mB Y_B_set) 4 = .ok (.iload_n 2, 1) := by decide +kernel
theorem d_B_set_5 : decode (mB Y_B_set) 5 = .ok (.iconst 1, 1) := by decide +kernel
theorem d_B_set_6 : decode (mB Y_B_set) 6 = .ok (.bipush 9, 2) := by decide +kernel
theorem d_B_set_8 : decode (mB Y_B_set) 8 = .ok (.invokestatic 112, 3) := by decide +kernel
theorem d_B_set_11 : decode (mB Y_B_set) 11 = .ok (.ifCond .eq 13, 3) := by decide +kernel
theorem d_B_set_14 : decode (mB Y_B_set) 14 = .ok (.aload_n 0, 1) := by decide +kernel
theorem d_B_set_15 : decode (mB Y_B_set) 15 = .ok (.getfield 12, 3) := by decide +kernel
theorem d_B_set_18 : decode (mB Y_B_set) 18 = .ok (.iload_n 2, 1) := by decide +kernel
theorem d_B_set_19 : decode (mB Y_B_set) 19 = .ok (.putfield 116, 3) := by decide +kernel
theorem d_B_set_22 : decode (mB Y_B_set) 22 = .ok (.iconst 1, 1) := by decide +kernel
theorem d_B_set_23 : decode (mB Y_B_set) 23 = .ok (.ireturn, 1) := by decide +kernel
theorem d_B_set_24 : decode (mB Y_B_set) 24 = .ok (.iload_n 1, 1) := by decide +kernel
theorem d_B_set_25 : decode (mB Y_B_set) 25 = .ok (.iconst 1, 1) := by decide +kernel
theorem d_B_set_26 : decode (mB Y_B_set) 26 = .ok (.if_icmp .ne 24, 3) := by decide +kernel
theorem d_B_set_29 : decode (mB Y_B_set) 29 = .ok (.iload_n 2, 1) := by decide +kernel
theorem d_B_set_30 : decode (mB Y_B_set) 30 = .ok (.bipush (-9), 2) := by decide +kernel
theorem d_B_set_32 : decode (mB Y_B_set) 32 = .ok (.bipush 9, 2) := by decide +kernel
theorem d_B_set_34 : decode (mB Y_B_set) 34 = .ok (.invokestatic 112, 3) := by decide +kernel
theorem d_B_set_37 : decode (mB Y_B_set) 37 = .ok (.ifCond .eq 13, 3) := by decide +kernel
theorem d_B_set_40 : decode (mB Y_B_set) 40 = .ok (.aload_n 0, 1) := by decide +kernel
theorem d_B_set_41 : decode (mB Y_B_set) 41 = .ok (.getfield 12, 3) := by decide +kernel
theorem d_B_set_44 : decode (mB Y_B_set) 44 = .ok (.iload_n 2, 1) := by decide +kernel
theorem d_B_set_45 : decode (mB Y_B_set) 45 = .ok (.putfield 119, 3) := by decide +kernel
theorem d_B_set_48 : decode (mB Y_B_set) 48 = .ok (.iconst 1, 1) := by decide +kernel
theorem d_B_set_49 : decode (mB Y_B_set) 49 = .ok (.ireturn, 1) := by decide +kernel
theorem d_B_set_50 : decode (mB Y_B_set) 50 = .ok (.iload_n 1, 1) := by decide +kernel
theorem d_B_set_51 : decode (mB Y_B_set) 51 = .ok (.iconst 2, 1) := by decide +kernel
theorem d_B_set_52 : decode (mB Y_B_set) 52 = .ok (.if_icmp .ne 24, 3) := by decide +kernel
theorem d_B_set_55 : decode (mB Y_B_set) 55 = .ok (.iload_n 2, 1) := by decide +kernel
theorem d_B_set_56 : decode (mB Y_B_set) 56 = .ok (.bipush (-9), 2) := by decide +kernel
theorem d_B_set_58 : decode (mB Y_B_set) 58 = .ok (.bipush 9, 2) := by decide +kernel
theorem d_B_set_60 : decode (mB Y_B_set) 60 = .ok (.invokestatic 112, 3) := by decide +kernel
theorem d_B_set_63 : decode (mB Y_B_set) 63 = .ok (.ifCond .eq 13, 3) := by decide +kernel
theorem d_B_set_66 : decode (mB Y_B_set) 66 = .ok (.aload_n 0, 1) := by decide +kernel
theorem d_B_set_67 : decode (mB Y_B_set) 67 = .ok (.getfield 12, 3) := by decide +kernel
theorem d_B_set_70 : decode (mB Y_B_set) 70 = .ok (.iload_n 2, 1) := by decide +kernel
theorem d_B_set_71 : decode (mB Y_B_set) 71 = .ok (.putfield 122, 3) := by decide +kernel
theorem d_B_set_74 : decode (mB Y_B_set) 74 = .ok (.iconst 1, 1) := by decide +kernel
theorem d_B_set_75 : decode (mB Y_B_set) 75 = .ok (.ireturn, 1) := by decide +kernel
theorem d_B_set_76 : decode (mB Y_B_set) 76 = .ok (.iload_n 1, 1) := by decide +kernel
theorem d_B_set_77 : decode (mB Y_B_set) 77 = .ok (.iconst 3, 1) := by decide +kernel
theorem d_B_set_78 : decode (mB Y_B_set) 78 = .ok (.if_icmp .ne 20, 3) := by decide +kernel
theorem d_B_set_81 : decode (mB Y_B_set) 81 = .ok (.iload_n 2, 1) := by decide +kernel
theorem d_B_set_82 : decode (mB Y_B_set) 82 = .ok (.iconst 0, 1) := by decide +kernel
theorem d_B_set_83 : decode (mB Y_B_set) 83 = .ok (.bipush 99, 2) := by decide +kernel
theorem d_B_set_85 : decode (mB Y_B_set) 85 = .ok (.invokestatic 112, 3) := by decide +kernel
theorem d_B_set_88 : decode (mB Y_B_set) 88 = .ok (.ifCond .eq 10, 3) := by decide +kernel
theorem d_B_set_91 : decode (mB Y_B_set) 91 = .ok (.aload_n 0, 1) := by decide +kernel
theorem d_B_set_92 : decode (mB Y_B_set) 92 = .ok (.iload_n 2, 1) := by decide +kernel
theorem d_B_set_93 : decode (mB Y_B_set) 93 = .ok (.putfield 82, 3) := by decide +kernel
theorem d_B_set_96 : decode (mB Y_B_set) 96 = .ok (.iconst 1, 1) := by decide +kernel
theorem d_B_set_97 : decode (mB Y_B_set) 97 = .ok (.ireturn, 1) := by decide +kernel
theorem d_B_set_98 : decode (mB Y_B_set) 98 = .ok (.iconst 0, 1) := by decide +kernel
theorem d_B_set_99 : decode (mB Y_B_set) 99 = .ok (.ireturn, 1) := by decide +kernel
theorem ro_B_set_B_within : roomy Y_B_set Y_B_within := ⟨Nat.le_of_ble_eq_true rfl, Nat.le_of_ble_eq_true rfl⟩
def r_B_set (x1 : Int32) (x2 : Int32) (S : Sto) : Option (Int32 × Sto) :=
  jn (fun (_ : Unit) =>
    jn (fun (_ : Unit) =>
      jn (fun (_ : Unit) =>
        if x1 = 3 then
          if (r_B_within x2 0 99) = 0 then
            some (0, S)
          else
            ltS (sw S 0 11 x2) (fun S1 =>
            some (1, S1))
        else
          some (0, S)) (fun j76 =>
      if x1 = 2 then
        if (r_B_within x2 (-9) 9) = 0 then
          j76 ()
        else
          ltS (sw S 1 2 x2) (fun S2 =>
          some (1, S2))
      else
        j76 ())) (fun j50 =>
    if x1 = 1 then
      if (r_B_within x2 (-9) 9) = 0 then
        j50 ()
      else
        ltS (sw S 1 1 x2) (fun S3 =>
        some (1, S3))
    else
      j50 ())) (fun j24 =>
  if x1 = 0 then
    if (r_B_within x2 1 9) = 0 then
      j24 ()
    else
      ltS (sw S 1 0 x2) (fun S4 =>
      some (1, S4))
  else
    j24 ())
set_option maxHeartbeats 4000000 in
set_option maxRecDepth 20000 in
theorem c_B_set {G : Gl} {L : Shp} (hL : Ext L) (S : Sto) (x1 : Int32) (x2 : Int32)  : Ct Y_B_set G [rf G 0, .int x1, .int x2] L S (fi L) (r_B_set x1 x2 S) := by
  refine ct_of (by decide +kernel) (Nat.le_of_ble_eq_true rfl) (fun g C => ?_)
  show VO g Y_B_set G (fun z => Qm g Y_B_set G (fi L z)) 0 0 0 [(0, rf G 0), (1, .int x1), (2, .int x2)] [] L S (r_B_set x1 x2 S) some
  unfold r_B_set
  refine v_iload_n (pc := 0) C d_B_set_0 rfl 1 rfl ?_
  refine v_jn (fun j => VO g Y_B_set G (fun z => Qm g Y_B_set G (fi L z)) 0 0 24 [(0, rf G 0), (1, .int x1), (2, .int x2)] [] L S (j ()) some) (?_) (fun j24 hj24 => ?_)
  · refine v_iload_n (pc := 24) C d_B_set_24 rfl 1 rfl ?_
    refine v_iconst (pc := 25) C d_B_set_25 ic_1 ?_
    refine v_jn (fun j => VO g Y_B_set G (fun z => Qm g Y_B_set G (fi L z)) 0 0 50 [(0, rf G 0), (1, .int x1), (2, .int x2)] [] L S (j ()) some) (?_) (fun j50 hj50 => ?_)
    · refine v_iload_n (pc := 50) C d_B_set_50 rfl 1 rfl ?_
      refine v_iconst (pc := 51) C d_B_set_51 ic_2 ?_
      refine v_jn (fun j => VO g Y_B_set G (fun z => Qm g Y_B_set G (fi L z)) 0 0 76 [(0, rf G 0), (1, .int x1), (2, .int x2)] [] L S (j ()) some) (?_) (fun j76 hj76 => ?_)
      · refine v_iload_n (pc := 76) C d_B_set_76 rfl 1 rfl ?_
        refine v_iconst (pc := 77) C d_B_set_77 ic_3 ?_
        refine v_icmp_ne (pc := 78) (tgt := 98) C d_B_set_78 rfl (fun _ => ?_) (fun _ => ?_)
        · refine v_iconst (pc := 98) C d_B_set_98 ic_0 ?_
          exact v_zret (z := (0, S)) C d_B_set_99 rfl (b01_n (by decide)) ⟨Nat.zero_le _, Nat.zero_le _⟩ (rfl) rfl
        · refine v_iload_n (pc := 81) C d_B_set_81 rfl 2 rfl ?_
          refine v_iconst (pc := 82) C d_B_set_82 ic_0 ?_
          refine v_bipush (pc := 83) C d_B_set_83 bp_99 ?_
          refine v_ct (pc := 85) (inv_S (As := [.int x2, .int 0, .int 99]) (st := []) C ml_B_112 ms_B_within ro_B_set_B_within rfl rfl (Nat.le_of_ble_eq_true rfl) d_B_set_85) (c_B_within hL S x2 0 99) ⟨rfl, rfl⟩ ⟨Nat.zero_le _, Nat.zero_le _⟩ ?_
          refine v_if_eq (pc := 88) (tgt := 98) C d_B_set_88 rfl (fun _ => ?_) (fun _ => ?_)
          · refine v_iconst (pc := 98) C d_B_set_98 ic_0 ?_
            exact v_zret (z := (0, S)) C d_B_set_99 rfl (b01_n (by decide)) ⟨Nat.zero_le _, Nat.zero_le _⟩ (rfl) rfl
          · refine v_aload_n (pc := 91) C d_B_set_91 rfl 0 rfl ?_
            refine v_iload_n (pc := 92) C d_B_set_92 rfl 2 rfl ?_
            refine v_putI (pc := 93) C fp_B_82 (sh_0 hL) rfl d_B_set_93 (fun S1 => ?_)
            refine v_iconst (pc := 96) C d_B_set_96 ic_1 ?_
            exact v_zret (z := (1, S1)) C d_B_set_97 rfl (b01_n (by decide)) ⟨Nat.zero_le _, Nat.zero_le _⟩ (rfl) rfl
      · refine v_icmp_ne (pc := 52) (tgt := 76) C d_B_set_52 rfl (fun _ => ?_) (fun _ => ?_)
        · exact hj76
        · refine v_iload_n (pc := 55) C d_B_set_55 rfl 2 rfl ?_
          refine v_bipush (pc := 56) C d_B_set_56 bp_m9 ?_
          refine v_bipush (pc := 58) C d_B_set_58 bp_9 ?_
          refine v_ct (pc := 60) (inv_S (As := [.int x2, .int (-9), .int 9]) (st := []) C ml_B_112 ms_B_within ro_B_set_B_within rfl rfl (Nat.le_of_ble_eq_true rfl) d_B_set_60) (c_B_within hL S x2 (-9) 9) ⟨rfl, rfl⟩ ⟨Nat.zero_le _, Nat.zero_le _⟩ ?_
          refine v_if_eq (pc := 63) (tgt := 76) C d_B_set_63 rfl (fun _ => ?_) (fun _ => ?_)
          · exact hj76
          · refine v_aload_n (pc := 66) C d_B_set_66 rfl 0 rfl ?_
            refine v_getR (pc := 67) C fl_B_12 (sh_0 hL) rfl d_B_set_67 ?_
            refine v_iload_n (pc := 70) C d_B_set_70 rfl 2 rfl ?_
            refine v_putI (pc := 71) C fp_B_122 (sh_1 hL) rfl d_B_set_71 (fun S2 => ?_)
            refine v_iconst (pc := 74) C d_B_set_74 ic_1 ?_
            exact v_zret (z := (1, S2)) C d_B_set_75 rfl (b01_n (by decide)) ⟨Nat.zero_le _, Nat.zero_le _⟩ (rfl) rfl
    · refine v_icmp_ne (pc := 26) (tgt := 50) C d_B_set_26 rfl (fun _ => ?_) (fun _ => ?_)
      · exact hj50
      · refine v_iload_n (pc := 29) C d_B_set_29 rfl 2 rfl ?_
        refine v_bipush (pc := 30) C d_B_set_30 bp_m9 ?_
        refine v_bipush (pc := 32) C d_B_set_32 bp_9 ?_
        refine v_ct (pc := 34) (inv_S (As := [.int x2, .int (-9), .int 9]) (st := []) C ml_B_112 ms_B_within ro_B_set_B_within rfl rfl (Nat.le_of_ble_eq_true rfl) d_B_set_34) (c_B_within hL S x2 (-9) 9) ⟨rfl, rfl⟩ ⟨Nat.zero_le _, Nat.zero_le _⟩ ?_
        refine v_if_eq (pc := 37) (tgt := 50) C d_B_set_37 rfl (fun _ => ?_) (fun _ => ?_)
        · exact hj50
        · refine v_aload_n (pc := 40) C d_B_set_40 rfl 0 rfl ?_
          refine v_getR (pc := 41) C fl_B_12 (sh_0 hL) rfl d_B_set_41 ?_
          refine v_iload_n (pc := 44) C d_B_set_44 rfl 2 rfl ?_
          refine v_putI (pc := 45) C fp_B_119 (sh_1 hL) rfl d_B_set_45 (fun S3 => ?_)
          refine v_iconst (pc := 48) C d_B_set_48 ic_1 ?_
          exact v_zret (z := (1, S3)) C d_B_set_49 rfl (b01_n (by decide)) ⟨Nat.zero_le _, Nat.zero_le _⟩ (rfl) rfl
  · refine v_if_ne (pc := 1) (tgt := 24) C d_B_set_1 rfl (fun _ => ?_) (fun _ => ?_)
    · exact hj24
    · refine v_iload_n (pc := 4) C d_B_set_4 rfl 2 rfl ?_
      refine v_iconst (pc := 5) C d_B_set_5 ic_1 ?_
      refine v_bipush (pc := 6) C d_B_set_6 bp_9 ?_
      refine v_ct (pc := 8) (inv_S (As := [.int x2, .int 1, .int 9]) (st := []) C ml_B_112 ms_B_within ro_B_set_B_within rfl rfl (Nat.le_of_ble_eq_true rfl) d_B_set_8) (c_B_within hL S x2 1 9) ⟨rfl, rfl⟩ ⟨Nat.zero_le _, Nat.zero_le _⟩ ?_
      refine v_if_eq (pc := 11) (tgt := 24) C d_B_set_11 rfl (fun _ => ?_) (fun _ => ?_)
      · exact hj24
      · refine v_aload_n (pc := 14) C d_B_set_14 rfl 0 rfl ?_
        refine v_getR (pc := 15) C fl_B_12 (sh_0 hL) rfl d_B_set_15 ?_
        refine v_iload_n (pc := 18) C d_B_set_18 rfl 2 rfl ?_
        refine v_putI (pc := 19) C fp_B_116 (sh_1 hL) rfl d_B_set_19 (fun S4 => ?_)
        refine v_iconst (pc := 22) C d_B_set_22 ic_1 ?_
        exact v_zret (z := (1, S4)) C d_B_set_23 rfl (b01_n (by decide)) ⟨Nat.zero_le _, Nat.zero_le _⟩ (rfl) rfl
-- B_isCell
theorem d_B_isCell_0 : decode (mB Y_B_isCell) 0 = .ok (.iload_n 0, 1) := by decide +kernel
theorem d_B_isCell_1 : decode (mB Y_B_isCell) 1 = .ok (.iconst 0, 1) := by decide +kernel
theorem d_B_isCell_2 : decode (mB Y_B_isCell) 2 = .ok (.sipush 3599, 3) := by decide +kernel
theorem d_B_isCell_5 : decode (mB Y_B_isCell) 5 = .ok (.invokestatic 112, 3) := by decide +kernel
theorem d_B_isCell_8 : decode (mB Y_B_isCell) 8 = .ok (.ireturn, 1) := by decide +kernel
theorem ro_B_isCell_B_within : roomy Y_B_isCell Y_B_within := ⟨Nat.le_of_ble_eq_true rfl, Nat.le_of_ble_eq_true rfl⟩
def r_B_isCell (x0 : Int32) : Int32 := (r_B_within x0 0 3599)
theorem z_B_isCell (x0 : Int32) : b01 (r_B_isCell x0) = true := by
  unfold r_B_isCell
  (repeat' split) <;> first | rfl | decide | exact z_B_within .. | rfl
set_option maxHeartbeats 4000000 in
set_option maxRecDepth 20000 in
theorem c_B_isCell {G : Gl} {L : Shp} (hL : Ext L) (S : Sto) (x0 : Int32)  : Ct Y_B_isCell G [.int x0] L S (fp L S) (some (r_B_isCell x0)) := by
  refine ct_of (by decide +kernel) (Nat.le_of_ble_eq_true rfl) (fun g C => ?_)
  have e : (some (r_B_isCell x0) : Option Int32) = some (r_B_within x0 0 3599) := rfl
  rw [e]
  show VO g Y_B_isCell G (fun z => Qm g Y_B_isCell G (fp L S z)) 0 0 0 [(0, .int x0)] [] L S _ some
  refine v_iload_n (pc := 0) C d_B_isCell_0 rfl 0 rfl ?_
  refine v_iconst (pc := 1) C d_B_isCell_1 ic_0 ?_
  refine v_sipush (pc := 2) C d_B_isCell_2 sp_3599 ?_
  refine v_ct (pc := 5) (inv_S (As := [.int x0, .int 0, .int 3599]) (st := []) C ml_B_112 ms_B_within ro_B_isCell_B_within rfl rfl (Nat.le_of_ble_eq_true rfl) d_B_isCell_5) (c_B_within hL S x0 0 3599) ⟨rfl, rfl⟩ ⟨Nat.zero_le _, Nat.zero_le _⟩ ?_
  exact v_zret (z := (r_B_within x0 0 3599)) C d_B_isCell_8 rfl (b01_n (z_B_within x0 0 3599)) ⟨Nat.zero_le _, Nat.zero_le _⟩ (rfl) rfl
-- B_comes
theorem d_B_comes_0 : decode (mB Y_B_comes) 0 = .ok (.iload_n 1, 1) := by decide +kernel
theorem d_B_comes_1 : decode (mB Y_B_comes) 1 = .ok (.invokestatic 125, 3) := by decide +kernel
theorem d_B_comes_4 : decode (mB Y_B_comes) 4 = .ok (.ifCond .eq 10, 3) := by decide +kernel
theorem d_B_comes_7 : decode (mB Y_B_comes) 7 = .ok (.iload_n 2, 1) := by decide +kernel
theorem d_B_comes_8 : decode (mB Y_B_comes) 8 = .ok (.invokestatic 125, 3) := by decide +kernel
theorem d_B_comes_11 : decode (mB Y_B_comes) 11 = .ok (.ifCond .ne 5, 3) := by decide +kernel
theorem d_B_comes_14 : decode (mB Y_B_comes) 14 = .ok (.iconst (-1), 1) := by decide +kernel
theorem d_B_comes_15 : decode (mB Y_B_comes) 15 = .ok (.ireturn, 1) := by decide +kernel
theorem d_B_comes_16 : decode (mB Y_B_comes) 16 = .ok (.iload_n 3, 1) := by decide +kernel
theorem d_B_comes_17 : decode (mB Y_B_comes) 17 = .ok (.tableswitch 52 0 2 #[27, 37, 46], 27) := by decide +kernel
theorem d_B_comes_44 : decode (mB Y_B_comes) 44 = .ok (.aload_n 0, 1) := by decide +kernel
theorem d_B_comes_45 : decode (mB Y_B_comes) 45 = .ok (.getfield 12, 3) := by decide +kernel
theorem d_B_comes_48 : decode (mB Y_B_comes) 48 = .ok (.iload_n 1, 1) := by decide +kernel
theorem d_B_comes_49 : decode (mB Y_B_comes) 49 = .ok (.iload_n 2, 1) := by decide +kernel
theorem d_B_comes_50 : decode (mB Y_B_comes) 50 = .ok (.invokevirtual 129, 3) := by decide +kernel
theorem d_B_comes_53 : decode (mB Y_B_comes) 53 = .ok (.ireturn, 1) := by decide +kernel
theorem d_B_comes_54 : decode (mB Y_B_comes) 54 = .ok (.iload_n 1, 1) := by decide +kernel
theorem d_B_comes_55 : decode (mB Y_B_comes) 55 = .ok (.iload_n 2, 1) := by decide +kernel
theorem d_B_comes_56 : decode (mB Y_B_comes) 56 = .ok (.invokestatic 133, 3) := by decide +kernel
theorem d_B_comes_59 : decode (mB Y_B_comes) 59 = .ok (.invokestatic 136, 3) := by decide +kernel
theorem d_B_comes_62 : decode (mB Y_B_comes) 62 = .ok (.ireturn, 1) := by decide +kernel
theorem d_B_comes_63 : decode (mB Y_B_comes) 63 = .ok (.iload_n 1, 1) := by decide +kernel
theorem d_B_comes_64 : decode (mB Y_B_comes) 64 = .ok (.iload_n 2, 1) := by decide +kernel
theorem d_B_comes_65 : decode (mB Y_B_comes) 65 = .ok (.invokestatic 140, 3) := by decide +kernel
theorem d_B_comes_68 : decode (mB Y_B_comes) 68 = .ok (.ireturn, 1) := by decide +kernel
theorem d_B_comes_69 : decode (mB Y_B_comes) 69 = .ok (.iconst (-1), 1) := by decide +kernel
theorem d_B_comes_70 : decode (mB Y_B_comes) 70 = .ok (.ireturn, 1) := by decide +kernel
theorem ro_B_comes_B_between : roomy Y_B_comes Y_B_between := ⟨Nat.le_of_ble_eq_true rfl, Nat.le_of_ble_eq_true rfl⟩
theorem ro_B_comes_B_isCell : roomy Y_B_comes Y_B_isCell := ⟨Nat.le_of_ble_eq_true rfl, Nat.le_of_ble_eq_true rfl⟩
theorem ro_B_comes_B_loudness : roomy Y_B_comes Y_B_loudness := ⟨Nat.le_of_ble_eq_true rfl, Nat.le_of_ble_eq_true rfl⟩
theorem ro_B_comes_B_sectorOf : roomy Y_B_comes Y_B_sectorOf := ⟨Nat.le_of_ble_eq_true rfl, Nat.le_of_ble_eq_true rfl⟩
theorem ro_B_comes_Sq_travel : roomy Y_B_comes Y_Sq_travel := ⟨Nat.le_of_ble_eq_true rfl, Nat.le_of_ble_eq_true rfl⟩
def r_B_comes (x1 : Int32) (x2 : Int32) (x3 : Int32) (S : Sto) : Option Int32 :=
  if (r_B_isCell x1) = 0 then
    some (-1)
  else
    if (r_B_isCell x2) = 0 then
      some (-1)
    else
      if x3 = 0 then
        (r_Sq_travel x1 x2 S).bind (fun r2 =>
        some r2)
      else
        if x3 = 1 then
          (r_B_between x1 x2).bind (fun r4 =>
          (r_B_loudness r4).bind (fun r5 =>
          some r5))
        else
          if x3 = 2 then
            (r_B_sectorOf x1 x2).bind (fun r7 =>
            some r7)
          else
            some (-1)
set_option maxHeartbeats 4000000 in
set_option maxRecDepth 20000 in
theorem c_B_comes {G : Gl} {L : Shp} (hL : Ext L) (S : Sto) (x1 : Int32) (x2 : Int32) (x3 : Int32)  : Ct Y_B_comes G [rf G 0, .int x1, .int x2, .int x3] L S (fp L S) (r_B_comes x1 x2 x3 S) := by
  refine ct_of (by decide +kernel) (Nat.le_of_ble_eq_true rfl) (fun g C => ?_)
  show VO g Y_B_comes G (fun z => Qm g Y_B_comes G (fp L S z)) 0 0 0 [(0, rf G 0), (1, .int x1), (2, .int x2), (3, .int x3)] [] L S (r_B_comes x1 x2 x3 S) some
  unfold r_B_comes
  refine v_iload_n (pc := 0) C d_B_comes_0 rfl 1 rfl ?_
  refine v_ct (pc := 1) (inv_S (As := [.int x1]) (st := []) C ml_B_125 ms_B_isCell ro_B_comes_B_isCell rfl rfl (Nat.le_of_ble_eq_true rfl) d_B_comes_1) (c_B_isCell hL S x1) ⟨rfl, rfl⟩ ⟨Nat.zero_le _, Nat.zero_le _⟩ ?_
  refine v_if_eq (pc := 4) (tgt := 14) C d_B_comes_4 rfl (fun _ => ?_) (fun _ => ?_)
  · refine v_iconst (pc := 14) C d_B_comes_14 ic_m1 ?_
    exact v_iret (z := (-1)) C d_B_comes_15 rfl ⟨Nat.zero_le _, Nat.zero_le _⟩ (rfl) rfl
  · refine v_iload_n (pc := 7) C d_B_comes_7 rfl 2 rfl ?_
    refine v_ct (pc := 8) (inv_S (As := [.int x2]) (st := []) C ml_B_125 ms_B_isCell ro_B_comes_B_isCell rfl rfl (Nat.le_of_ble_eq_true rfl) d_B_comes_8) (c_B_isCell hL S x2) ⟨rfl, rfl⟩ ⟨Nat.zero_le _, Nat.zero_le _⟩ ?_
    refine v_if_ne (pc := 11) (tgt := 16) C d_B_comes_11 rfl (fun _ => ?_) (fun _ => ?_)
    · refine v_iload_n (pc := 16) C d_B_comes_16 rfl 3 rfl ?_
      refine v_case (x := x3) (c := 0) (fun hc1 => ?_) (fun hc1 => ?_)
      · refine v_tableIn (pc := 17) (tgt := 44) C d_B_comes_17 (by rw [hc1]; decide) (by rw [hc1]; decide) (by rw [hc1] <;> rfl) rfl ?_
        refine v_aload_n (pc := 44) C d_B_comes_44 rfl 0 rfl ?_
        refine v_getR (pc := 45) C fl_B_12 (sh_0 hL) rfl d_B_comes_45 ?_
        refine v_iload_n (pc := 48) C d_B_comes_48 rfl 1 rfl ?_
        refine v_iload_n (pc := 49) C d_B_comes_49 rfl 2 rfl ?_
        refine v_cp (pc := 50) (inv_V (As := [.int x1, .int x2]) (st := []) C ml_B_129 mv_Sq_travel ro_B_comes_Sq_travel (sh_1 hL) rfl rfl rfl rfl (Nat.le_of_ble_eq_true rfl) d_B_comes_50) (c_Sq_travel hL S x1 x2) ⟨rfl, rfl⟩ ⟨Nat.zero_le _, Nat.zero_le _⟩ (fun r2 => ?_)
        exact v_iret (z := r2) C d_B_comes_53 rfl ⟨Nat.zero_le _, Nat.zero_le _⟩ (rfl) rfl
      · refine v_case (x := x3) (c := 1) (fun hc3 => ?_) (fun hc3 => ?_)
        · refine v_tableIn (pc := 17) (tgt := 54) C d_B_comes_17 (by rw [hc3]; decide) (by rw [hc3]; decide) (by rw [hc3] <;> rfl) rfl ?_
          refine v_iload_n (pc := 54) C d_B_comes_54 rfl 1 rfl ?_
          refine v_iload_n (pc := 55) C d_B_comes_55 rfl 2 rfl ?_
          refine v_cp (pc := 56) (inv_S (As := [.int x1, .int x2]) (st := []) C ml_B_133 ms_B_between ro_B_comes_B_between rfl rfl (Nat.le_of_ble_eq_true rfl) d_B_comes_56) (c_B_between hL S x1 x2) ⟨rfl, rfl⟩ ⟨Nat.zero_le _, Nat.zero_le _⟩ (fun r4 => ?_)
          refine v_cp (pc := 59) (inv_S (As := [.int r4]) (st := []) C ml_B_136 ms_B_loudness ro_B_comes_B_loudness rfl rfl (Nat.le_of_ble_eq_true rfl) d_B_comes_59) (c_B_loudness hL S r4) ⟨rfl, rfl⟩ ⟨Nat.zero_le _, Nat.zero_le _⟩ (fun r5 => ?_)
          exact v_iret (z := r5) C d_B_comes_62 rfl ⟨Nat.zero_le _, Nat.zero_le _⟩ (rfl) rfl
        · refine v_case (x := x3) (c := 2) (fun hc6 => ?_) (fun hc6 => ?_)
          · refine v_tableIn (pc := 17) (tgt := 63) C d_B_comes_17 (by rw [hc6]; decide) (by rw [hc6]; decide) (by rw [hc6] <;> rfl) rfl ?_
            refine v_iload_n (pc := 63) C d_B_comes_63 rfl 1 rfl ?_
            refine v_iload_n (pc := 64) C d_B_comes_64 rfl 2 rfl ?_
            refine v_cp (pc := 65) (inv_S (As := [.int x1, .int x2]) (st := []) C ml_B_140 ms_B_sectorOf ro_B_comes_B_sectorOf rfl rfl (Nat.le_of_ble_eq_true rfl) d_B_comes_65) (c_B_sectorOf hL S x1 x2) ⟨rfl, rfl⟩ ⟨Nat.zero_le _, Nat.zero_le _⟩ (fun r7 => ?_)
            exact v_iret (z := r7) C d_B_comes_68 rfl ⟨Nat.zero_le _, Nat.zero_le _⟩ (rfl) rfl
          · refine v_tableOut (pc := 17) (tgt := 69) C d_B_comes_17 (by have q0 := lv_neT (a := 0) hc1 (by decide); have q1 := lv_neT (a := 1) hc3 (by decide); have q2 := lv_neT (a := 2) hc6 (by decide); omega) rfl ?_
            refine v_iconst (pc := 69) C d_B_comes_69 ic_m1 ?_
            exact v_iret (z := (-1)) C d_B_comes_70 rfl ⟨Nat.zero_le _, Nat.zero_le _⟩ (rfl) rfl
    · refine v_iconst (pc := 14) C d_B_comes_14 ic_m1 ?_
      exact v_iret (z := (-1)) C d_B_comes_15 rfl ⟨Nat.zero_le _, Nat.zero_le _⟩ (rfl) rfl
-- B_wall
theorem d_B_wall_0 : decode (mB Y_B_wall) 0 = .ok (.iload_n 2, 1) := by decide +kernel
theorem d_B_wall_1 : decode (mB Y_B_wall) 1 = .ok (.iconst 0, 1) := by decide +kernel
theorem d_B_wall_2 : decode (mB Y_B_wall) 2 = .ok (.bipush 59, 2) := by decide +kernel
theorem d_B_wall_4 : decode (mB Y_B_wall) 4 = .ok (.invokestatic 112, 3) := by decide +kernel
theorem d_B_wall_7 : decode (mB Y_B_wall) 7 = .ok (.ifCond .eq 28, 3) := by decide +kernel
theorem d_B_wall_10 : decode (mB Y_B_wall) 10 = .ok (.iload_n 3, 1) := by decide +kernel
theorem d_B_wall_11 : decode (mB Y_B_wall) 11 = .ok (.iconst 0, 1) := by decide +kernel
theorem d_B_wall_12 : decode (mB Y_B_wall) 12 = .ok (.bipush 59, 2) := by decide +kernel
theorem d_B_wall_14 : decode (mB Y_B_wall) 14 = .ok (.invokestatic 112, 3) := by decide +kernel
theorem d_B_wall_17 : decode (mB Y_B_wall) 17 = .ok (.ifCond .eq 18, 3) := by decide +kernel
theorem d_B_wall_20 : decode (mB Y_B_wall) 20 = .ok (.iload 4, 2) := by decide +kernel
theorem d_B_wall_22 : decode (mB Y_B_wall) 22 = .ok (.iload_n 3, 1) := by decide +kernel
theorem d_B_wall_23 : decode (mB Y_B_wall) 23 = .ok (.bipush 59, 2) := by decide +kernel
theorem d_B_wall_25 : decode (mB Y_B_wall) 25 = .ok (.invokestatic 112, 3) := by decide +kernel
theorem d_B_wall_28 : decode (mB Y_B_wall) 28 = .ok (.ifCond .eq 7, 3) := by decide +kernel
theorem d_B_wall_31 : decode (mB Y_B_wall) 31 = .ok (.iconst 1, 1) := by decide +kernel
theorem d_B_wall_32 : decode (mB Y_B_wall) 32 = .ok (.goto 4, 3) := by decide +kernel
theorem d_B_wall_35 : decode (mB Y_B_wall) 35 = .ok (.iconst 0, 1) := by decide +kernel
theorem d_B_wall_36 : decode (mB Y_B_wall) 36 = .ok (.istore 6, 2) := by decide +kernel
theorem d_B_wall_38 : decode (mB Y_B_wall) 38 = .ok (.iload 6, 2) := by decide +kernel
theorem d_B_wall_40 : decode (mB Y_B_wall) 40 = .ok (.ifCond .eq 26, 3) := by decide +kernel
theorem d_B_wall_43 : decode (mB Y_B_wall) 43 = .ok (.iload 5, 2) := by decide +kernel
theorem d_B_wall_45 : decode (mB Y_B_wall) 45 = .ok (.iconst 0, 1) := by decide +kernel
theorem d_B_wall_46 : decode (mB Y_B_wall) 46 = .ok (.bipush 100, 2) := by decide +kernel
theorem d_B_wall_48 : decode (mB Y_B_wall) 48 = .ok (.invokestatic 112, 3) := by decide +kernel
theorem d_B_wall_51 : decode (mB Y_B_wall) 51 = .ok (.ifCond .eq 15, 3) := by decide +kernel
theorem d_B_wall_54 : decode (mB Y_B_wall) 54 = .ok (.aload_n 0, 1) := by decide +kernel
theorem d_B_wall_55 : decode (mB Y_B_wall) 55 = .ok (.getfield 12, 3) := by decide +kernel
theorem d_B_wall_58 : decode (mB Y_B_wall) 58 = .ok (.getfield 143, 3) := by decide +kernel
theorem d_B_wall_61 : decode (mB Y_B_wall) 61 = .ok (.bipush 10, 2) := by decide +kernel
theorem d_B_wall_63 : decode (mB Y_B_wall) 63 = .ok (.if_icmp .lt 5, 3) := by decide +kernel
theorem d_B_wall_66 : decode (mB Y_B_wall) 66 = .ok (.iconst (-1), 1) := by decide +kernel
theorem d_B_wall_67 : decode (mB Y_B_wall) 67 = .ok (.ireturn, 1) := by decide +kernel
theorem d_B_wall_68 : decode (mB Y_B_wall) 68 = .ok (.aload_n 0, 1) := by decide +kernel
theorem d_B_wall_69 : decode (mB Y_B_wall) 69 = .ok (.getfield 12, 3) := by decide +kernel
theorem d_B_wall_72 : decode (mB Y_B_wall) 72 = .ok (.getfield 146, 3) := by decide +kernel
theorem d_B_wall_75 : decode (mB Y_B_wall) 75 = .ok (.aload_n 0, 1) := by decide +kernel
theorem d_B_wall_76 : decode (mB Y_B_wall) 76 = .ok (.getfield 12, 3) := by decide +kernel
theorem d_B_wall_79 : decode (mB Y_B_wall) 79 = .ok (.getfield 143, 3) := by decide +kernel
theorem d_B_wall_82 : decode (mB Y_B_wall) 82 = .ok (.aaload, 1) := by decide +kernel
theorem d_B_wall_83 : decode (mB Y_B_wall) 83 = .ok (.iload_n 1, 1) := by decide +kernel
theorem d_B_wall_84 : decode (mB Y_B_wall) 84 = .ok (.iload_n 2, 1) := by decide +kernel
theorem d_B_wall_85 : decode (mB Y_B_wall) 85 = .ok (.iload_n 3, 1) := by decide +kernel
theorem d_B_wall_86 : decode (mB Y_B_wall) 86 = .ok (.iload 4, 2) := by decide +kernel
theorem d_B_wall_88 : decode (mB Y_B_wall) 88 = .ok (.iload 5, 2) := by decide +kernel
theorem d_B_wall_90 : decode (mB Y_B_wall) 90 = .ok (.invokevirtual 150, 3) := by decide +kernel
theorem d_B_wall_93 : decode (mB Y_B_wall) 93 = .ok (.aload_n 0, 1) := by decide +kernel
theorem d_B_wall_94 : decode (mB Y_B_wall) 94 = .ok (.getfield 12, 3) := by decide +kernel
theorem d_B_wall_97 : decode (mB Y_B_wall) 97 = .ok (.dup, 1) := by decide +kernel
theorem d_B_wall_98 : decode (mB Y_B_wall) 98 = .ok (.getfield 143, 3) := by decide +kernel
theorem d_B_wall_101 : decode (mB Y_B_wall) 101 = .ok (.iconst 1, 1) := by decide +kernel
theorem d_B_wall_102 : decode (mB Y_B_wall) 102 = .ok (.iadd, 1) := by decide +kernel
theorem d_B_wall_103 : decode (mB Y_B_wall) 103 = .ok (.putfield 143, 3) := by decide +kernel
theorem d_B_wall_106 : decode (mB Y_B_wall) 106 = .ok (.aload_n 0, 1) := by decide +kernel
theorem d_B_wall_107 : decode (mB Y_B_wall) 107 = .ok (.getfield 12, 3) := by decide +kernel
theorem d_B_wall_110 : decode (mB Y_B_wall) 110 = .ok (.getfield 143, 3) := by decide +kernel
theorem d_B_wall_113 : decode (mB Y_B_wall) 113 = .ok (.iconst 1, 1) := by decide +kernel
theorem d_B_wall_114 : decode (mB Y_B_wall) 114 = .ok (.isub, 1) := by decide +kernel
theorem d_B_wall_115 : decode (mB Y_B_wall) 115 = .ok (.ireturn, 1) := by decide +kernel
theorem ro_B_wall_B_within : roomy Y_B_wall Y_B_within := ⟨Nat.le_of_ble_eq_true rfl, Nat.le_of_ble_eq_true rfl⟩
theorem ro_B_wall_Wl_build : roomy Y_B_wall Y_Wl_build := ⟨Nat.le_of_ble_eq_true rfl, Nat.le_of_ble_eq_true rfl⟩
def r_B_wall (x1 : Int32) (x2 : Int32) (x3 : Int32) (x4 : Int32) (x5 : Int32) (S : Sto) : Option (Int32 × Sto) :=
  jn (fun (v1 : Int32) =>
    if v1 = 0 then
      some ((-1), S)
    else
      if (r_B_within x5 0 100) = 0 then
        some ((-1), S)
      else
        if (S 1 4) < 10 then
          chk (inr (S 1 4) 10) (
          ltN ((S 1 4).toNatClampNeg) (fun j2 =>
          (r_Wl_build (3 + 1 * j2) x1 x2 x3 x4 x5 S).bind (fun S3 =>
          ltS (sw S3 1 4 ((S3 1 4) + 1)) (fun S4 =>
          some ((S4 1 4) - 1, S4)))))
        else
          some ((-1), S)) (fun j36 =>
  if (r_B_within x2 0 59) = 0 then
    j36 (0)
  else
    if (r_B_within x3 0 59) = 0 then
      j36 (0)
    else
      if (r_B_within x4 x3 59) = 0 then
        j36 (0)
      else
        j36 (1))
set_option maxHeartbeats 4000000 in
set_option maxRecDepth 20000 in
theorem c_B_wall {G : Gl} {L : Shp} (hL : Ext L) (S : Sto) (x1 : Int32) (x2 : Int32) (x3 : Int32) (x4 : Int32) (x5 : Int32)  : Ct Y_B_wall G [rf G 0, .int x1, .int x2, .int x3, .int x4, .int x5] L S (fi L) (r_B_wall x1 x2 x3 x4 x5 S) := by
  refine ct_of (by decide +kernel) (Nat.le_of_ble_eq_true rfl) (fun g C => ?_)
  show VO g Y_B_wall G (fun z => Qm g Y_B_wall G (fi L z)) 0 0 0 [(0, rf G 0), (1, .int x1), (2, .int x2), (3, .int x3), (4, .int x4), (5, .int x5)] [] L S (r_B_wall x1 x2 x3 x4 x5 S) some
  unfold r_B_wall
  refine v_iload_n (pc := 0) C d_B_wall_0 rfl 2 rfl ?_
  refine v_iconst (pc := 1) C d_B_wall_1 ic_0 ?_
  refine v_bipush (pc := 2) C d_B_wall_2 bp_59 ?_
  refine v_ct (pc := 4) (inv_S (As := [.int x2, .int 0, .int 59]) (st := []) C ml_B_112 ms_B_within ro_B_wall_B_within rfl rfl (Nat.le_of_ble_eq_true rfl) d_B_wall_4) (c_B_within hL S x2 0 59) ⟨rfl, rfl⟩ ⟨Nat.zero_le _, Nat.zero_le _⟩ ?_
  refine v_jn (fun j => ∀ (v1 : Int32), VO g Y_B_wall G (fun z => Qm g Y_B_wall G (fi L z)) 0 0 36 [(0, rf G 0), (1, .int x1), (2, .int x2), (3, .int x3), (4, .int x4), (5, .int x5)] [.int v1] L S (j (v1)) some) (fun v1 => ?_) (fun j36 hj36 => ?_)
  · refine v_istore (pc := 36) (lv' := [(6, .int v1), (0, rf G 0), (1, .int x1), (2, .int x2), (3, .int x3), (4, .int x4), (5, .int x5)]) C d_B_wall_36 (by decide) rfl ?_
    refine v_iload (pc := 38) C d_B_wall_38 0 rfl ?_
    refine v_if_eq (pc := 40) (tgt := 66) C d_B_wall_40 rfl (fun _ => ?_) (fun _ => ?_)
    · refine v_iconst (pc := 66) C d_B_wall_66 ic_m1 ?_
      exact v_iret (z := ((-1), S)) C d_B_wall_67 rfl ⟨Nat.zero_le _, Nat.zero_le _⟩ (rfl) rfl
    · refine v_iload (pc := 43) C d_B_wall_43 6 rfl ?_
      refine v_iconst (pc := 45) C d_B_wall_45 ic_0 ?_
      refine v_bipush (pc := 46) C d_B_wall_46 bp_100 ?_
      refine v_ct (pc := 48) (inv_S (As := [.int x5, .int 0, .int 100]) (st := []) C ml_B_112 ms_B_within ro_B_wall_B_within rfl rfl (Nat.le_of_ble_eq_true rfl) d_B_wall_48) (c_B_within hL S x5 0 100) ⟨rfl, rfl⟩ ⟨Nat.zero_le _, Nat.zero_le _⟩ ?_
      refine v_if_eq (pc := 51) (tgt := 66) C d_B_wall_51 rfl (fun _ => ?_) (fun _ => ?_)
      · refine v_iconst (pc := 66) C d_B_wall_66 ic_m1 ?_
        exact v_iret (z := ((-1), S)) C d_B_wall_67 rfl ⟨Nat.zero_le _, Nat.zero_le _⟩ (rfl) rfl
      · refine v_aload_n (pc := 54) C d_B_wall_54 rfl 1 rfl ?_
        refine v_getR (pc := 55) C fl_B_12 (sh_0 hL) rfl d_B_wall_55 ?_
        refine v_getI (pc := 58) C fl_B_143 (sh_1 hL) rfl d_B_wall_58 ?_
        refine v_bipush (pc := 61) C d_B_wall_61 bp_10 ?_
        refine v_icmp_lt (pc := 63) (tgt := 68) C d_B_wall_63 rfl (fun _ => ?_) (fun _ => ?_)
        · refine v_aload_n (pc := 68) C d_B_wall_68 rfl 1 rfl ?_
          refine v_getR (pc := 69) C fl_B_12 (sh_0 hL) rfl d_B_wall_69 ?_
          refine v_getR (pc := 72) C fl_B_146 (sh_1 hL) rfl d_B_wall_72 ?_
          refine v_aload_n (pc := 75) C d_B_wall_75 rfl 1 rfl ?_
          refine v_getR (pc := 76) C fl_B_12 (sh_0 hL) rfl d_B_wall_76 ?_
          refine v_getI (pc := 79) C fl_B_143 (sh_1 hL) rfl d_B_wall_79 ?_
          refine v_aald (pc := 82) (c0 := 3) (e := 1) C (sh_2 hL) rfl (by decide) d_B_wall_82 (fun j2 hj2 => ?_)
          refine v_iload_n (pc := 83) C d_B_wall_83 rfl 2 rfl ?_
          refine v_iload_n (pc := 84) C d_B_wall_84 rfl 3 rfl ?_
          refine v_iload_n (pc := 85) C d_B_wall_85 rfl 4 rfl ?_
          refine v_iload (pc := 86) C d_B_wall_86 5 rfl ?_
          refine v_iload (pc := 88) C d_B_wall_88 6 rfl ?_
          refine v_cv (pc := 90) (inv_V (As := [.int x1, .int x2, .int x3, .int x4, .int x5]) (st := []) C ml_B_150 mv_Wl_build ro_B_wall_Wl_build (wall_at hL hj2) rfl rfl rfl rfl (Nat.le_of_ble_eq_true rfl) d_B_wall_90) (c_Wl_build hL S (3 + 1 * j2) x1 x2 x3 x4 x5 (wall_at hL hj2)) ⟨rfl, rfl⟩ ⟨Nat.zero_le _, Nat.zero_le _⟩ (fun S3 => ?_)
          refine v_aload_n (pc := 93) C d_B_wall_93 rfl 1 rfl ?_
          refine v_getR (pc := 94) C fl_B_12 (sh_0 hL) rfl d_B_wall_94 ?_
          refine v_dup (pc := 97) C d_B_wall_97 rfl ?_
          refine v_getI (pc := 98) C fl_B_143 (sh_1 hL) rfl d_B_wall_98 ?_
          refine v_iconst (pc := 101) C d_B_wall_101 ic_1 ?_
          refine v_iadd (pc := 102) C d_B_wall_102 ?_
          refine v_putI (pc := 103) C fp_B_143 (sh_1 hL) rfl d_B_wall_103 (fun S4 => ?_)
          refine v_aload_n (pc := 106) C d_B_wall_106 rfl 1 rfl ?_
          refine v_getR (pc := 107) C fl_B_12 (sh_0 hL) rfl d_B_wall_107 ?_
          refine v_getI (pc := 110) C fl_B_143 (sh_1 hL) rfl d_B_wall_110 ?_
          refine v_iconst (pc := 113) C d_B_wall_113 ic_1 ?_
          refine v_isub (pc := 114) C d_B_wall_114 ?_
          exact v_iret (z := ((S4 1 4) - 1, S4)) C d_B_wall_115 rfl ⟨Nat.zero_le _, Nat.zero_le _⟩ (rfl) rfl
        · refine v_iconst (pc := 66) C d_B_wall_66 ic_m1 ?_
          exact v_iret (z := ((-1), S)) C d_B_wall_67 rfl ⟨Nat.zero_le _, Nat.zero_le _⟩ (rfl) rfl
  · refine v_if_eq (pc := 7) (tgt := 35) C d_B_wall_7 rfl (fun _ => ?_) (fun _ => ?_)
    · refine v_iconst (pc := 35) C d_B_wall_35 ic_0 ?_
      exact hj36 0
    · refine v_iload_n (pc := 10) C d_B_wall_10 rfl 3 rfl ?_
      refine v_iconst (pc := 11) C d_B_wall_11 ic_0 ?_
      refine v_bipush (pc := 12) C d_B_wall_12 bp_59 ?_
      refine v_ct (pc := 14) (inv_S (As := [.int x3, .int 0, .int 59]) (st := []) C ml_B_112 ms_B_within ro_B_wall_B_within rfl rfl (Nat.le_of_ble_eq_true rfl) d_B_wall_14) (c_B_within hL S x3 0 59) ⟨rfl, rfl⟩ ⟨Nat.zero_le _, Nat.zero_le _⟩ ?_
      refine v_if_eq (pc := 17) (tgt := 35) C d_B_wall_17 rfl (fun _ => ?_) (fun _ => ?_)
      · refine v_iconst (pc := 35) C d_B_wall_35 ic_0 ?_
        exact hj36 0
      · refine v_iload (pc := 20) C d_B_wall_20 4 rfl ?_
        refine v_iload_n (pc := 22) C d_B_wall_22 rfl 3 rfl ?_
        refine v_bipush (pc := 23) C d_B_wall_23 bp_59 ?_
        refine v_ct (pc := 25) (inv_S (As := [.int x4, .int x3, .int 59]) (st := []) C ml_B_112 ms_B_within ro_B_wall_B_within rfl rfl (Nat.le_of_ble_eq_true rfl) d_B_wall_25) (c_B_within hL S x4 x3 59) ⟨rfl, rfl⟩ ⟨Nat.zero_le _, Nat.zero_le _⟩ ?_
        refine v_if_eq (pc := 28) (tgt := 35) C d_B_wall_28 rfl (fun _ => ?_) (fun _ => ?_)
        · refine v_iconst (pc := 35) C d_B_wall_35 ic_0 ?_
          exact hj36 0
        · refine v_iconst (pc := 31) C d_B_wall_31 ic_1 ?_
          refine v_goto (pc := 32) (tgt := 36) C d_B_wall_32 rfl ?_
          exact hj36 1
-- B_spot
theorem d_B_spot_0 : decode (mB Y_B_spot) 0 = .ok (.iload_n 1, 1) := by decide +kernel
theorem d_B_spot_1 : decode (mB Y_B_spot) 1 = .ok (.iconst 0, 1) := by decide +kernel
theorem d_B_spot_2 : decode (mB Y_B_spot) 2 = .ok (.bipush 9, 2) := by decide +kernel
theorem d_B_spot_4 : decode (mB Y_B_spot) 4 = .ok (.invokestatic 112, 3) := by decide +kernel
theorem d_B_spot_7 : decode (mB Y_B_spot) 7 = .ok (.ifCond .eq 10, 3) := by decide +kernel
theorem d_B_spot_10 : decode (mB Y_B_spot) 10 = .ok (.iload_n 2, 1) := by decide +kernel
theorem d_B_spot_11 : decode (mB Y_B_spot) 11 = .ok (.invokestatic 125, 3) := by decide +kernel
theorem d_B_spot_14 : decode (mB Y_B_spot) 14 = .ok (.ifCond .ne 5, 3) := by decide +kernel
theorem d_B_spot_17 : decode (mB Y_B_spot) 17 = .ok (.iconst 0, 1) := by decide +kernel
theorem d_B_spot_18 : decode (mB Y_B_spot) 18 = .ok (.ireturn, 1) := by decide +kernel
theorem d_B_spot_19 : decode (mB Y_B_spot) 19 = .ok (.aload_n 0, 1) := by decide +kernel
theorem d_B_spot_20 : decode (mB Y_B_spot) 20 = .ok (.getfield 25, 3) := by decide +kernel
theorem d_B_spot_23 : decode (mB Y_B_spot) 23 = .ok (.iload_n 1, 1) := by decide +kernel
theorem d_B_spot_24 : decode (mB Y_B_spot) 24 = .ok (.iload_n 2, 1) := by decide +kernel
theorem d_B_spot_25 : decode (mB Y_B_spot) 25 = .ok (.iastore, 1) := by decide +kernel
theorem d_B_spot_26 : decode (mB Y_B_spot) 26 = .ok (.iconst 1, 1) := by decide +kernel
theorem d_B_spot_27 : decode (mB Y_B_spot) 27 = .ok (.ireturn, 1) := by decide +kernel
theorem ro_B_spot_B_isCell : roomy Y_B_spot Y_B_isCell := ⟨Nat.le_of_ble_eq_true rfl, Nat.le_of_ble_eq_true rfl⟩
theorem ro_B_spot_B_within : roomy Y_B_spot Y_B_within := ⟨Nat.le_of_ble_eq_true rfl, Nat.le_of_ble_eq_true rfl⟩
def r_B_spot (x1 : Int32) (x2 : Int32) (S : Sto) : Option (Int32 × Sto) :=
  if (r_B_within x1 0 9) = 0 then
    some (0, S)
  else
    if (r_B_isCell x2) = 0 then
      some (0, S)
    else
      chk (inr x1 10) (
      ltS (sw S 17 x1.toNatClampNeg x2) (fun S1 =>
      some (1, S1)))
set_option maxHeartbeats 4000000 in
set_option maxRecDepth 20000 in
theorem c_B_spot {G : Gl} {L : Shp} (hL : Ext L) (S : Sto) (x1 : Int32) (x2 : Int32)  : Ct Y_B_spot G [rf G 0, .int x1, .int x2] L S (fi L) (r_B_spot x1 x2 S) := by
  refine ct_of (by decide +kernel) (Nat.le_of_ble_eq_true rfl) (fun g C => ?_)
  show VO g Y_B_spot G (fun z => Qm g Y_B_spot G (fi L z)) 0 0 0 [(0, rf G 0), (1, .int x1), (2, .int x2)] [] L S (r_B_spot x1 x2 S) some
  unfold r_B_spot
  refine v_iload_n (pc := 0) C d_B_spot_0 rfl 1 rfl ?_
  refine v_iconst (pc := 1) C d_B_spot_1 ic_0 ?_
  refine v_bipush (pc := 2) C d_B_spot_2 bp_9 ?_
  refine v_ct (pc := 4) (inv_S (As := [.int x1, .int 0, .int 9]) (st := []) C ml_B_112 ms_B_within ro_B_spot_B_within rfl rfl (Nat.le_of_ble_eq_true rfl) d_B_spot_4) (c_B_within hL S x1 0 9) ⟨rfl, rfl⟩ ⟨Nat.zero_le _, Nat.zero_le _⟩ ?_
  refine v_if_eq (pc := 7) (tgt := 17) C d_B_spot_7 rfl (fun _ => ?_) (fun _ => ?_)
  · refine v_iconst (pc := 17) C d_B_spot_17 ic_0 ?_
    exact v_zret (z := (0, S)) C d_B_spot_18 rfl (b01_n (by decide)) ⟨Nat.zero_le _, Nat.zero_le _⟩ (rfl) rfl
  · refine v_iload_n (pc := 10) C d_B_spot_10 rfl 2 rfl ?_
    refine v_ct (pc := 11) (inv_S (As := [.int x2]) (st := []) C ml_B_125 ms_B_isCell ro_B_spot_B_isCell rfl rfl (Nat.le_of_ble_eq_true rfl) d_B_spot_11) (c_B_isCell hL S x2) ⟨rfl, rfl⟩ ⟨Nat.zero_le _, Nat.zero_le _⟩ ?_
    refine v_if_ne (pc := 14) (tgt := 19) C d_B_spot_14 rfl (fun _ => ?_) (fun _ => ?_)
    · refine v_aload_n (pc := 19) C d_B_spot_19 rfl 0 rfl ?_
      refine v_getR (pc := 20) C fl_B_25 (sh_0 hL) rfl d_B_spot_20 ?_
      refine v_iload_n (pc := 23) C d_B_spot_23 rfl 1 rfl ?_
      refine v_iload_n (pc := 24) C d_B_spot_24 rfl 2 rfl ?_
      refine v_iast (pc := 25) C (sh_17 hL) d_B_spot_25 (fun _ S1 => ?_)
      refine v_iconst (pc := 26) C d_B_spot_26 ic_1 ?_
      exact v_zret (z := (1, S1)) C d_B_spot_27 rfl (b01_n (by decide)) ⟨Nat.zero_le _, Nat.zero_le _⟩ (rfl) rfl
    · refine v_iconst (pc := 17) C d_B_spot_17 ic_0 ?_
      exact v_zret (z := (0, S)) C d_B_spot_18 rfl (b01_n (by decide)) ⟨Nat.zero_le _, Nat.zero_le _⟩ (rfl) rfl
-- B_isBall
theorem d_B_isBall_0 : decode (mB Y_B_isBall) 0 = .ok (.iload_n 0, 1) := by decide +kernel
theorem d_B_isBall_1 : decode (mB Y_B_isBall) 1 = .ok (.iconst (-1), 1) := by decide +kernel
theorem d_B_isBall_2 : decode (mB Y_B_isBall) 2 = .ok (.if_icmp .eq 20, 3) := by decide +kernel
theorem d_B_isBall_5 : decode (mB Y_B_isBall) 5 = .ok (.iload_n 0, 1) := by decide +kernel
theorem d_B_isBall_6 : decode (mB Y_B_isBall) 6 = .ok (.invokestatic 125, 3) := by decide +kernel
theorem d_B_isBall_9 : decode (mB Y_B_isBall) 9 = .ok (.ifCond .eq 17, 3) := by decide +kernel
theorem d_B_isBall_12 : decode (mB Y_B_isBall) 12 = .ok (.iload_n 1, 1) := by decide +kernel
theorem d_B_isBall_13 : decode (mB Y_B_isBall) 13 = .ok (.iconst 1, 1) := by decide +kernel
theorem d_B_isBall_14 : decode (mB Y_B_isBall) 14 = .ok (.bipush 99, 2) := by decide +kernel
theorem d_B_isBall_16 : decode (mB Y_B_isBall) 16 = .ok (.invokestatic 112, 3) := by decide +kernel
theorem d_B_isBall_19 : decode (mB Y_B_isBall) 19 = .ok (.ifCond .eq 7, 3) := by decide +kernel
theorem d_B_isBall_22 : decode (mB Y_B_isBall) 22 = .ok (.iconst 1, 1) := by decide +kernel
theorem d_B_isBall_23 : decode (mB Y_B_isBall) 23 = .ok (.goto 4, 3) := by decide +kernel
theorem d_B_isBall_26 : decode (mB Y_B_isBall) 26 = .ok (.iconst 0, 1) := by decide +kernel
theorem d_B_isBall_27 : decode (mB Y_B_isBall) 27 = .ok (.ireturn, 1) := by decide +kernel
theorem ro_B_isBall_B_isCell : roomy Y_B_isBall Y_B_isCell := ⟨Nat.le_of_ble_eq_true rfl, Nat.le_of_ble_eq_true rfl⟩
theorem ro_B_isBall_B_within : roomy Y_B_isBall Y_B_within := ⟨Nat.le_of_ble_eq_true rfl, Nat.le_of_ble_eq_true rfl⟩
def r_B_isBall (x0 : Int32) (x1 : Int32) : Int32 := (if x0 = (-1) then 1 else (if (r_B_isCell x0) = 0 then 0 else (if (r_B_within x1 1 99) = 0 then 0 else 1)))
theorem z_B_isBall (x0 : Int32) (x1 : Int32) : b01 (r_B_isBall x0 x1) = true := by
  unfold r_B_isBall
  (repeat' split) <;> first | rfl | decide | exact z_B_isCell .. | exact z_B_within .. | rfl
set_option maxHeartbeats 4000000 in
set_option maxRecDepth 20000 in
theorem c_B_isBall {G : Gl} {L : Shp} (hL : Ext L) (S : Sto) (x0 : Int32) (x1 : Int32)  : Ct Y_B_isBall G [.int x0, .int x1] L S (fp L S) (some (r_B_isBall x0 x1)) := by
  refine ct_of (by decide +kernel) (Nat.le_of_ble_eq_true rfl) (fun g C => ?_)
  have e : (some (r_B_isBall x0 x1) : Option Int32) =
      if x0 = (-1) then
        some 1
      else
        if (r_B_isCell x0) = 0 then
          some 0
        else
          if (r_B_within x1 1 99) = 0 then
            some 0
          else
            some 1 := by
    unfold r_B_isBall
    simp only [some_ite, lt, ltJ]
  rw [e]
  show VO g Y_B_isBall G (fun z => Qm g Y_B_isBall G (fp L S z)) 0 0 0 [(0, .int x0), (1, .int x1)] [] L S _ some
  refine v_iload_n (pc := 0) C d_B_isBall_0 rfl 0 rfl ?_
  refine v_iconst (pc := 1) C d_B_isBall_1 ic_m1 ?_
  refine v_icmp_eq (pc := 2) (tgt := 22) C d_B_isBall_2 rfl (fun _ => ?_) (fun _ => ?_)
  · refine v_iconst (pc := 22) C d_B_isBall_22 ic_1 ?_
    refine v_goto (pc := 23) (tgt := 27) C d_B_isBall_23 rfl ?_
    exact v_zret (z := 1) C d_B_isBall_27 rfl (b01_n (by decide)) ⟨Nat.zero_le _, Nat.zero_le _⟩ (rfl) rfl
  · refine v_iload_n (pc := 5) C d_B_isBall_5 rfl 0 rfl ?_
    refine v_ct (pc := 6) (inv_S (As := [.int x0]) (st := []) C ml_B_125 ms_B_isCell ro_B_isBall_B_isCell rfl rfl (Nat.le_of_ble_eq_true rfl) d_B_isBall_6) (c_B_isCell hL S x0) ⟨rfl, rfl⟩ ⟨Nat.zero_le _, Nat.zero_le _⟩ ?_
    refine v_if_eq (pc := 9) (tgt := 26) C d_B_isBall_9 rfl (fun _ => ?_) (fun _ => ?_)
    · refine v_iconst (pc := 26) C d_B_isBall_26 ic_0 ?_
      exact v_zret (z := 0) C d_B_isBall_27 rfl (b01_n (by decide)) ⟨Nat.zero_le _, Nat.zero_le _⟩ (rfl) rfl
    · refine v_iload_n (pc := 12) C d_B_isBall_12 rfl 1 rfl ?_
      refine v_iconst (pc := 13) C d_B_isBall_13 ic_1 ?_
      refine v_bipush (pc := 14) C d_B_isBall_14 bp_99 ?_
      refine v_ct (pc := 16) (inv_S (As := [.int x1, .int 1, .int 99]) (st := []) C ml_B_112 ms_B_within ro_B_isBall_B_within rfl rfl (Nat.le_of_ble_eq_true rfl) d_B_isBall_16) (c_B_within hL S x1 1 99) ⟨rfl, rfl⟩ ⟨Nat.zero_le _, Nat.zero_le _⟩ ?_
      refine v_if_eq (pc := 19) (tgt := 26) C d_B_isBall_19 rfl (fun _ => ?_) (fun _ => ?_)
      · refine v_iconst (pc := 26) C d_B_isBall_26 ic_0 ?_
        exact v_zret (z := 0) C d_B_isBall_27 rfl (b01_n (by decide)) ⟨Nat.zero_le _, Nat.zero_le _⟩ (rfl) rfl
      · refine v_iconst (pc := 22) C d_B_isBall_22 ic_1 ?_
        refine v_goto (pc := 23) (tgt := 27) C d_B_isBall_23 rfl ?_
        exact v_zret (z := 1) C d_B_isBall_27 rfl (b01_n (by decide)) ⟨Nat.zero_le _, Nat.zero_le _⟩ (rfl) rfl
-- B_shot
theorem d_B_shot_0 : decode (mB Y_B_shot) 0 = .ok (.iload_n 1, 1) := by decide +kernel
theorem d_B_shot_1 : decode (mB Y_B_shot) 1 = .ok (.invokestatic 125, 3) := by decide +kernel
theorem d_B_shot_4 : decode (mB Y_B_shot) 4 = .ok (.ifCond .eq 22, 3) := by decide +kernel
theorem d_B_shot_7 : decode (mB Y_B_shot) 7 = .ok (.iload_n 2, 1) := by decide +kernel
theorem d_B_shot_8 : decode (mB Y_B_shot) 8 = .ok (.iconst 0, 1) := by decide +kernel
theorem d_B_shot_9 : decode (mB Y_B_shot) 9 = .ok (.ldc 156, 2) := by decide +kernel
theorem d_B_shot_11 : decode (mB Y_B_shot) 11 = .ok (.invokestatic 112, 3) := by decide +kernel
theorem d_B_shot_14 : decode (mB Y_B_shot) 14 = .ok (.ifCond .eq 12, 3) := by decide +kernel
theorem d_B_shot_17 : decode (mB Y_B_shot) 17 = .ok (.aload_n 0, 1) := by decide +kernel
theorem d_B_shot_18 : decode (mB Y_B_shot) 18 = .ok (.getfield 157, 3) := by decide +kernel
theorem d_B_shot_21 : decode (mB Y_B_shot) 21 = .ok (.bipush 10, 2) := by decide +kernel
theorem d_B_shot_23 : decode (mB Y_B_shot) 23 = .ok (.if_icmp .lt 5, 3) := by decide +kernel
theorem d_B_shot_26 : decode (mB Y_B_shot) 26 = .ok (.iconst (-1), 1) := by decide +kernel
theorem d_B_shot_27 : decode (mB Y_B_shot) 27 = .ok (.ireturn, 1) := by decide +kernel
theorem d_B_shot_28 : decode (mB Y_B_shot) 28 = .ok (.iload_n 3, 1) := by decide +kernel
theorem d_B_shot_29 : decode (mB Y_B_shot) 29 = .ok (.iload_n 1, 1) := by decide +kernel
theorem d_B_shot_30 : decode (mB Y_B_shot) 30 = .ok (.if_icmp .eq 12, 3) := by decide +kernel
theorem d_B_shot_33 : decode (mB Y_B_shot) 33 = .ok (.iload_n 3, 1) := by decide +kernel
theorem d_B_shot_34 : decode (mB Y_B_shot) 34 = .ok (.iload 4, 2) := by decide +kernel
theorem d_B_shot_36 : decode (mB Y_B_shot) 36 = .ok (.invokestatic 160, 3) := by decide +kernel
theorem d_B_shot_39 : decode (mB Y_B_shot) 39 = .ok (.ifCond .ne 5, 3) := by decide +kernel
theorem d_B_shot_42 : decode (mB Y_B_shot) 42 = .ok (.iconst (-1), 1) := by decide +kernel
theorem d_B_shot_43 : decode (mB Y_B_shot) 43 = .ok (.ireturn, 1) := by decide +kernel
theorem d_B_shot_44 : decode (mB Y_B_shot) 44 = .ok (.aload_n 0, 1) := by decide +kernel
theorem d_B_shot_45 : decode (mB Y_B_shot) 45 = .ok (.getfield 37, 3) := by decide +kernel
theorem d_B_shot_48 : decode (mB Y_B_shot) 48 = .ok (.aload_n 0, 1) := by decide +kernel
theorem d_B_shot_49 : decode (mB Y_B_shot) 49 = .ok (.getfield 157, 3) := by decide +kernel
theorem d_B_shot_52 : decode (mB Y_B_shot) 52 = .ok (.aaload, 1) := by decide +kernel
theorem d_B_shot_53 : decode (mB Y_B_shot) 53 = .ok (.iload_n 1, 1) := by decide +kernel
theorem d_B_shot_54 : decode (mB Y_B_shot) 54 = .ok (.iload_n 2, 1) := by decide +kernel
theorem d_B_shot_55 : decode (mB Y_B_shot) 55 = .ok (.iload_n 3, 1) := by decide +kernel
theorem d_B_shot_56 : decode (mB Y_B_shot) 56 = .ok (.iload 4, 2) := by decide +kernel
theorem d_B_shot_58 : decode (mB Y_B_shot) 58 = .ok (.invokevirtual 164, 3) := by decide +kernel
theorem d_B_shot_61 : decode (mB Y_B_shot) 61 = .ok (.aload_n 0, 1) := by decide +kernel
theorem d_B_shot_62 : decode (mB Y_B_shot) 62 = .ok (.dup, 1) := by decide +kernel
theorem d_B_shot_63 : decode (mB Y_B_shot) 63 = .ok (.getfield 157, 3) := by decide +kernel
theorem d_B_shot_66 : decode (mB Y_B_shot) 66 = .ok (.iconst 1, 1) := by decide +kernel
theorem d_B_shot_67 : decode (mB Y_B_shot) 67 = .ok (.iadd, 1) := by decide +kernel
theorem d_B_shot_68 : decode (mB Y_B_shot) 68 = .ok (.putfield 157, 3) := by decide +kernel
theorem d_B_shot_71 : decode (mB Y_B_shot) 71 = .ok (.aload_n 0, 1) := by decide +kernel
theorem d_B_shot_72 : decode (mB Y_B_shot) 72 = .ok (.getfield 157, 3) := by decide +kernel
theorem d_B_shot_75 : decode (mB Y_B_shot) 75 = .ok (.iconst 1, 1) := by decide +kernel
theorem d_B_shot_76 : decode (mB Y_B_shot) 76 = .ok (.isub, 1) := by decide +kernel
theorem d_B_shot_77 : decode (mB Y_B_shot) 77 = .ok (.ireturn, 1) := by decide +kernel
theorem ro_B_shot_B_isBall : roomy Y_B_shot Y_B_isBall := ⟨Nat.le_of_ble_eq_true rfl, Nat.le_of_ble_eq_true rfl⟩
theorem ro_B_shot_B_isCell : roomy Y_B_shot Y_B_isCell := ⟨Nat.le_of_ble_eq_true rfl, Nat.le_of_ble_eq_true rfl⟩
theorem ro_B_shot_B_within : roomy Y_B_shot Y_B_within := ⟨Nat.le_of_ble_eq_true rfl, Nat.le_of_ble_eq_true rfl⟩
theorem ro_B_shot_Sh_fire : roomy Y_B_shot Y_Sh_fire := ⟨Nat.le_of_ble_eq_true rfl, Nat.le_of_ble_eq_true rfl⟩
def r_B_shot (x1 : Int32) (x2 : Int32) (x3 : Int32) (x4 : Int32) (S : Sto) : Option (Int32 × Sto) :=
  if (r_B_isCell x1) = 0 then
    some ((-1), S)
  else
    if (r_B_within x2 0 99999) = 0 then
      some ((-1), S)
    else
      if (S 0 4) < 10 then
        if x3 = x1 then
          some ((-1), S)
        else
          if (r_B_isBall x3 x4) = 0 then
            some ((-1), S)
          else
            chk (inr (S 0 4) 10) (
            ltN ((S 0 4).toNatClampNeg) (fun j1 =>
            (r_Sh_fire (19 + 1 * j1) x1 x2 x3 x4 S).bind (fun S2 =>
            ltS (sw S2 0 4 ((S2 0 4) + 1)) (fun S3 =>
            some ((S3 0 4) - 1, S3)))))
      else
        some ((-1), S)
set_option maxHeartbeats 4000000 in
set_option maxRecDepth 20000 in
theorem c_B_shot {G : Gl} {L : Shp} (hL : Ext L) (S : Sto) (x1 : Int32) (x2 : Int32) (x3 : Int32) (x4 : Int32)  : Ct Y_B_shot G [rf G 0, .int x1, .int x2, .int x3, .int x4] L S (fi L) (r_B_shot x1 x2 x3 x4 S) := by
  refine ct_of (by decide +kernel) (Nat.le_of_ble_eq_true rfl) (fun g C => ?_)
  show VO g Y_B_shot G (fun z => Qm g Y_B_shot G (fi L z)) 0 0 0 [(0, rf G 0), (1, .int x1), (2, .int x2), (3, .int x3), (4, .int x4)] [] L S (r_B_shot x1 x2 x3 x4 S) some
  unfold r_B_shot
  refine v_iload_n (pc := 0) C d_B_shot_0 rfl 1 rfl ?_
  refine v_ct (pc := 1) (inv_S (As := [.int x1]) (st := []) C ml_B_125 ms_B_isCell ro_B_shot_B_isCell rfl rfl (Nat.le_of_ble_eq_true rfl) d_B_shot_1) (c_B_isCell hL S x1) ⟨rfl, rfl⟩ ⟨Nat.zero_le _, Nat.zero_le _⟩ ?_
  refine v_if_eq (pc := 4) (tgt := 26) C d_B_shot_4 rfl (fun _ => ?_) (fun _ => ?_)
  · refine v_iconst (pc := 26) C d_B_shot_26 ic_m1 ?_
    exact v_iret (z := ((-1), S)) C d_B_shot_27 rfl ⟨Nat.zero_le _, Nat.zero_le _⟩ (rfl) rfl
  · refine v_iload_n (pc := 7) C d_B_shot_7 rfl 2 rfl ?_
    refine v_iconst (pc := 8) C d_B_shot_8 ic_0 ?_
    refine v_ldc (pc := 9) C d_B_shot_9 kc_B_156 ?_
    refine v_ct (pc := 11) (inv_S (As := [.int x2, .int 0, .int 99999]) (st := []) C ml_B_112 ms_B_within ro_B_shot_B_within rfl rfl (Nat.le_of_ble_eq_true rfl) d_B_shot_11) (c_B_within hL S x2 0 99999) ⟨rfl, rfl⟩ ⟨Nat.zero_le _, Nat.zero_le _⟩ ?_
    refine v_if_eq (pc := 14) (tgt := 26) C d_B_shot_14 rfl (fun _ => ?_) (fun _ => ?_)
    · refine v_iconst (pc := 26) C d_B_shot_26 ic_m1 ?_
      exact v_iret (z := ((-1), S)) C d_B_shot_27 rfl ⟨Nat.zero_le _, Nat.zero_le _⟩ (rfl) rfl
    · refine v_aload_n (pc := 17) C d_B_shot_17 rfl 0 rfl ?_
      refine v_getI (pc := 18) C fl_B_157 (sh_0 hL) rfl d_B_shot_18 ?_
      refine v_bipush (pc := 21) C d_B_shot_21 bp_10 ?_
      refine v_icmp_lt (pc := 23) (tgt := 28) C d_B_shot_23 rfl (fun _ => ?_) (fun _ => ?_)
      · refine v_iload_n (pc := 28) C d_B_shot_28 rfl 3 rfl ?_
        refine v_iload_n (pc := 29) C d_B_shot_29 rfl 1 rfl ?_
        refine v_icmp_eq (pc := 30) (tgt := 42) C d_B_shot_30 rfl (fun _ => ?_) (fun _ => ?_)
        · refine v_iconst (pc := 42) C d_B_shot_42 ic_m1 ?_
          exact v_iret (z := ((-1), S)) C d_B_shot_43 rfl ⟨Nat.zero_le _, Nat.zero_le _⟩ (rfl) rfl
        · refine v_iload_n (pc := 33) C d_B_shot_33 rfl 3 rfl ?_
          refine v_iload (pc := 34) C d_B_shot_34 4 rfl ?_
          refine v_ct (pc := 36) (inv_S (As := [.int x3, .int x4]) (st := []) C ml_B_160 ms_B_isBall ro_B_shot_B_isBall rfl rfl (Nat.le_of_ble_eq_true rfl) d_B_shot_36) (c_B_isBall hL S x3 x4) ⟨rfl, rfl⟩ ⟨Nat.zero_le _, Nat.zero_le _⟩ ?_
          refine v_if_ne (pc := 39) (tgt := 44) C d_B_shot_39 rfl (fun _ => ?_) (fun _ => ?_)
          · refine v_aload_n (pc := 44) C d_B_shot_44 rfl 0 rfl ?_
            refine v_getR (pc := 45) C fl_B_37 (sh_0 hL) rfl d_B_shot_45 ?_
            refine v_aload_n (pc := 48) C d_B_shot_48 rfl 0 rfl ?_
            refine v_getI (pc := 49) C fl_B_157 (sh_0 hL) rfl d_B_shot_49 ?_
            refine v_aald (pc := 52) (c0 := 19) (e := 1) C (sh_18 hL) rfl (by decide) d_B_shot_52 (fun j1 hj1 => ?_)
            refine v_iload_n (pc := 53) C d_B_shot_53 rfl 1 rfl ?_
            refine v_iload_n (pc := 54) C d_B_shot_54 rfl 2 rfl ?_
            refine v_iload_n (pc := 55) C d_B_shot_55 rfl 3 rfl ?_
            refine v_iload (pc := 56) C d_B_shot_56 4 rfl ?_
            refine v_cv (pc := 58) (inv_V (As := [.int x1, .int x2, .int x3, .int x4]) (st := []) C ml_B_164 mv_Sh_fire ro_B_shot_Sh_fire (shot_at hL hj1) rfl rfl rfl rfl (Nat.le_of_ble_eq_true rfl) d_B_shot_58) (c_Sh_fire hL S (19 + 1 * j1) x1 x2 x3 x4 (shot_at hL hj1)) ⟨rfl, rfl⟩ ⟨Nat.zero_le _, Nat.zero_le _⟩ (fun S2 => ?_)
            refine v_aload_n (pc := 61) C d_B_shot_61 rfl 0 rfl ?_
            refine v_dup (pc := 62) C d_B_shot_62 rfl ?_
            refine v_getI (pc := 63) C fl_B_157 (sh_0 hL) rfl d_B_shot_63 ?_
            refine v_iconst (pc := 66) C d_B_shot_66 ic_1 ?_
            refine v_iadd (pc := 67) C d_B_shot_67 ?_
            refine v_putI (pc := 68) C fp_B_157 (sh_0 hL) rfl d_B_shot_68 (fun S3 => ?_)
            refine v_aload_n (pc := 71) C d_B_shot_71 rfl 0 rfl ?_
            refine v_getI (pc := 72) C fl_B_157 (sh_0 hL) rfl d_B_shot_72 ?_
            refine v_iconst (pc := 75) C d_B_shot_75 ic_1 ?_
            refine v_isub (pc := 76) C d_B_shot_76 ?_
            exact v_iret (z := ((S3 0 4) - 1, S3)) C d_B_shot_77 rfl ⟨Nat.zero_le _, Nat.zero_le _⟩ (rfl) rfl
          · refine v_iconst (pc := 42) C d_B_shot_42 ic_m1 ?_
            exact v_iret (z := ((-1), S)) C d_B_shot_43 rfl ⟨Nat.zero_le _, Nat.zero_le _⟩ (rfl) rfl
      · refine v_iconst (pc := 26) C d_B_shot_26 ic_m1 ?_
        exact v_iret (z := ((-1), S)) C d_B_shot_27 rfl ⟨Nat.zero_le _, Nat.zero_le _⟩ (rfl) rfl
-- B_getsBack
theorem d_B_getsBack_0 : decode (mB Y_B_getsBack) 0 = .ok (.iload_n 1, 1) := by decide +kernel
theorem d_B_getsBack_1 : decode (mB Y_B_getsBack) 1 = .ok (.bipush 10, 2) := by decide +kernel
theorem d_B_getsBack_3 : decode (mB Y_B_getsBack) 3 = .ok (.bipush 19, 2) := by decide +kernel
theorem d_B_getsBack_5 : decode (mB Y_B_getsBack) 5 = .ok (.invokestatic 112, 3) := by decide +kernel
theorem d_B_getsBack_8 : decode (mB Y_B_getsBack) 8 = .ok (.ifCond .eq 16, 3) := by decide +kernel
theorem d_B_getsBack_11 : decode (mB Y_B_getsBack) 11 = .ok (.aload_n 0, 1) := by decide +kernel
theorem d_B_getsBack_12 : decode (mB Y_B_getsBack) 12 = .ok (.getfield 21, 3) := by decide +kernel
theorem d_B_getsBack_15 : decode (mB Y_B_getsBack) 15 = .ok (.getfield 190, 3) := by decide +kernel
theorem d_B_getsBack_18 : decode (mB Y_B_getsBack) 18 = .ok (.iload_n 1, 1) := by decide +kernel
theorem d_B_getsBack_19 : decode (mB Y_B_getsBack) 19 = .ok (.bipush 10, 2) := by decide +kernel
theorem d_B_getsBack_21 : decode (mB Y_B_getsBack) 21 = .ok (.isub, 1) := by decide +kernel
theorem d_B_getsBack_22 : decode (mB Y_B_getsBack) 22 = .ok (.iaload, 1) := by decide +kernel
theorem d_B_getsBack_23 : decode (mB Y_B_getsBack) 23 = .ok (.ireturn, 1) := by decide +kernel
theorem d_B_getsBack_24 : decode (mB Y_B_getsBack) 24 = .ok (.iload_n 1, 1) := by decide +kernel
theorem d_B_getsBack_25 : decode (mB Y_B_getsBack) 25 = .ok (.bipush 30, 2) := by decide +kernel
theorem d_B_getsBack_27 : decode (mB Y_B_getsBack) 27 = .ok (.bipush 39, 2) := by decide +kernel
theorem d_B_getsBack_29 : decode (mB Y_B_getsBack) 29 = .ok (.invokestatic 112, 3) := by decide +kernel
theorem d_B_getsBack_32 : decode (mB Y_B_getsBack) 32 = .ok (.ifCond .eq 16, 3) := by decide +kernel
theorem d_B_getsBack_35 : decode (mB Y_B_getsBack) 35 = .ok (.aload_n 0, 1) := by decide +kernel
theorem d_B_getsBack_36 : decode (mB Y_B_getsBack) 36 = .ok (.getfield 21, 3) := by decide +kernel
theorem d_B_getsBack_39 : decode (mB Y_B_getsBack) 39 = .ok (.getfield 193, 3) := by decide +kernel
theorem d_B_getsBack_42 : decode (mB Y_B_getsBack) 42 = .ok (.iload_n 1, 1) := by decide +kernel
theorem d_B_getsBack_43 : decode (mB Y_B_getsBack) 43 = .ok (.bipush 30, 2) := by decide +kernel
theorem d_B_getsBack_45 : decode (mB Y_B_getsBack) 45 = .ok (.isub, 1) := by decide +kernel
theorem d_B_getsBack_46 : decode (mB Y_B_getsBack) 46 = .ok (.iaload, 1) := by decide +kernel
theorem d_B_getsBack_47 : decode (mB Y_B_getsBack) 47 = .ok (.ireturn, 1) := by decide +kernel
theorem d_B_getsBack_48 : decode (mB Y_B_getsBack) 48 = .ok (.iload_n 1, 1) := by decide +kernel
theorem d_B_getsBack_49 : decode (mB Y_B_getsBack) 49 = .ok (.bipush 50, 2) := by decide +kernel
theorem d_B_getsBack_51 : decode (mB Y_B_getsBack) 51 = .ok (.bipush 59, 2) := by decide +kernel
theorem d_B_getsBack_53 : decode (mB Y_B_getsBack) 53 = .ok (.invokestatic 112, 3) := by decide +kernel
theorem d_B_getsBack_56 : decode (mB Y_B_getsBack) 56 = .ok (.ifCond .eq 16, 3) := by decide +kernel
theorem d_B_getsBack_59 : decode (mB Y_B_getsBack) 59 = .ok (.aload_n 0, 1) := by decide +kernel
theorem d_B_getsBack_60 : decode (mB Y_B_getsBack) 60 = .ok (.getfield 21, 3) := by decide +kernel
theorem d_B_getsBack_63 : decode (mB Y_B_getsBack) 63 = .ok (.getfield 196, 3) := by decide +kernel
theorem d_B_getsBack_66 : decode (mB Y_B_getsBack) 66 = .ok (.iload_n 1, 1) := by decide +kernel
theorem d_B_getsBack_67 : decode (mB Y_B_getsBack) 67 = .ok (.bipush 50, 2) := by decide +kernel
theorem d_B_getsBack_69 : decode (mB Y_B_getsBack) 69 = .ok (.isub, 1) := by decide +kernel
theorem d_B_getsBack_70 : decode (mB Y_B_getsBack) 70 = .ok (.iaload, 1) := by decide +kernel
theorem d_B_getsBack_71 : decode (mB Y_B_getsBack) 71 = .ok (.ireturn, 1) := by decide +kernel
theorem d_B_getsBack_72 : decode (mB Y_B_getsBack) 72 = .ok (.iconst (-1), 1) := by decide +kernel
theorem d_B_getsBack_73 : decode (mB Y_B_getsBack) 73 = .ok (.ireturn, 1) := by decide +kernel
theorem ro_B_getsBack_B_within : roomy Y_B_getsBack Y_B_within := ⟨Nat.le_of_ble_eq_true rfl, Nat.le_of_ble_eq_true rfl⟩
def r_B_getsBack (x1 : Int32) (S : Sto) : Option Int32 :=
  if (r_B_within x1 10 19) = 0 then
    if (r_B_within x1 30 39) = 0 then
      if (r_B_within x1 50 59) = 0 then
        some (-1)
      else
        chk (inr (x1 - 50) 10) (
        some (S 16 ((x1 - 50).toNatClampNeg)))
    else
      chk (inr (x1 - 30) 10) (
      some (S 15 ((x1 - 30).toNatClampNeg)))
  else
    chk (inr (x1 - 10) 10) (
    some (S 14 ((x1 - 10).toNatClampNeg)))
set_option maxHeartbeats 4000000 in
set_option maxRecDepth 20000 in
theorem c_B_getsBack {G : Gl} {L : Shp} (hL : Ext L) (S : Sto) (x1 : Int32)  : Ct Y_B_getsBack G [rf G 0, .int x1] L S (fp L S) (r_B_getsBack x1 S) := by
  refine ct_of (by decide +kernel) (Nat.le_of_ble_eq_true rfl) (fun g C => ?_)
  show VO g Y_B_getsBack G (fun z => Qm g Y_B_getsBack G (fp L S z)) 0 0 0 [(0, rf G 0), (1, .int x1)] [] L S (r_B_getsBack x1 S) some
  unfold r_B_getsBack
  refine v_iload_n (pc := 0) C d_B_getsBack_0 rfl 1 rfl ?_
  refine v_bipush (pc := 1) C d_B_getsBack_1 bp_10 ?_
  refine v_bipush (pc := 3) C d_B_getsBack_3 bp_19 ?_
  refine v_ct (pc := 5) (inv_S (As := [.int x1, .int 10, .int 19]) (st := []) C ml_B_112 ms_B_within ro_B_getsBack_B_within rfl rfl (Nat.le_of_ble_eq_true rfl) d_B_getsBack_5) (c_B_within hL S x1 10 19) ⟨rfl, rfl⟩ ⟨Nat.zero_le _, Nat.zero_le _⟩ ?_
  refine v_if_eq (pc := 8) (tgt := 24) C d_B_getsBack_8 rfl (fun _ => ?_) (fun _ => ?_)
  · refine v_iload_n (pc := 24) C d_B_getsBack_24 rfl 1 rfl ?_
    refine v_bipush (pc := 25) C d_B_getsBack_25 bp_30 ?_
    refine v_bipush (pc := 27) C d_B_getsBack_27 bp_39 ?_
    refine v_ct (pc := 29) (inv_S (As := [.int x1, .int 30, .int 39]) (st := []) C ml_B_112 ms_B_within ro_B_getsBack_B_within rfl rfl (Nat.le_of_ble_eq_true rfl) d_B_getsBack_29) (c_B_within hL S x1 30 39) ⟨rfl, rfl⟩ ⟨Nat.zero_le _, Nat.zero_le _⟩ ?_
    refine v_if_eq (pc := 32) (tgt := 48) C d_B_getsBack_32 rfl (fun _ => ?_) (fun _ => ?_)
    · refine v_iload_n (pc := 48) C d_B_getsBack_48 rfl 1 rfl ?_
      refine v_bipush (pc := 49) C d_B_getsBack_49 bp_50 ?_
      refine v_bipush (pc := 51) C d_B_getsBack_51 bp_59 ?_
      refine v_ct (pc := 53) (inv_S (As := [.int x1, .int 50, .int 59]) (st := []) C ml_B_112 ms_B_within ro_B_getsBack_B_within rfl rfl (Nat.le_of_ble_eq_true rfl) d_B_getsBack_53) (c_B_within hL S x1 50 59) ⟨rfl, rfl⟩ ⟨Nat.zero_le _, Nat.zero_le _⟩ ?_
      refine v_if_eq (pc := 56) (tgt := 72) C d_B_getsBack_56 rfl (fun _ => ?_) (fun _ => ?_)
      · refine v_iconst (pc := 72) C d_B_getsBack_72 ic_m1 ?_
        exact v_iret (z := (-1)) C d_B_getsBack_73 rfl ⟨Nat.zero_le _, Nat.zero_le _⟩ (rfl) rfl
      · refine v_aload_n (pc := 59) C d_B_getsBack_59 rfl 0 rfl ?_
        refine v_getR (pc := 60) C fl_B_21 (sh_0 hL) rfl d_B_getsBack_60 ?_
        refine v_getR (pc := 63) C fl_B_196 (sh_13 hL) rfl d_B_getsBack_63 ?_
        refine v_iload_n (pc := 66) C d_B_getsBack_66 rfl 1 rfl ?_
        refine v_bipush (pc := 67) C d_B_getsBack_67 bp_50 ?_
        refine v_isub (pc := 69) C d_B_getsBack_69 ?_
        refine v_iald (pc := 70) C (sh_16 hL) d_B_getsBack_70 (fun _ => ?_)
        exact v_iret (z := (S 16 ((x1 - 50).toNatClampNeg))) C d_B_getsBack_71 rfl ⟨Nat.zero_le _, Nat.zero_le _⟩ (rfl) rfl
    · refine v_aload_n (pc := 35) C d_B_getsBack_35 rfl 0 rfl ?_
      refine v_getR (pc := 36) C fl_B_21 (sh_0 hL) rfl d_B_getsBack_36 ?_
      refine v_getR (pc := 39) C fl_B_193 (sh_13 hL) rfl d_B_getsBack_39 ?_
      refine v_iload_n (pc := 42) C d_B_getsBack_42 rfl 1 rfl ?_
      refine v_bipush (pc := 43) C d_B_getsBack_43 bp_30 ?_
      refine v_isub (pc := 45) C d_B_getsBack_45 ?_
      refine v_iald (pc := 46) C (sh_15 hL) d_B_getsBack_46 (fun _ => ?_)
      exact v_iret (z := (S 15 ((x1 - 30).toNatClampNeg))) C d_B_getsBack_47 rfl ⟨Nat.zero_le _, Nat.zero_le _⟩ (rfl) rfl
  · refine v_aload_n (pc := 11) C d_B_getsBack_11 rfl 0 rfl ?_
    refine v_getR (pc := 12) C fl_B_21 (sh_0 hL) rfl d_B_getsBack_12 ?_
    refine v_getR (pc := 15) C fl_B_190 (sh_13 hL) rfl d_B_getsBack_15 ?_
    refine v_iload_n (pc := 18) C d_B_getsBack_18 rfl 1 rfl ?_
    refine v_bipush (pc := 19) C d_B_getsBack_19 bp_10 ?_
    refine v_isub (pc := 21) C d_B_getsBack_21 ?_
    refine v_iald (pc := 22) C (sh_14 hL) d_B_getsBack_22 (fun _ => ?_)
    exact v_iret (z := (S 14 ((x1 - 10).toNatClampNeg))) C d_B_getsBack_23 rfl ⟨Nat.zero_le _, Nat.zero_le _⟩ (rfl) rfl
-- B_gets
theorem d_B_gets_0 : decode (mB Y_B_gets) 0 = .ok (.iload_n 1, 1) := by decide +kernel
theorem d_B_gets_1 : decode (mB Y_B_gets) 1 = .ok (.iconst 0, 1) := by decide +kernel
theorem d_B_gets_2 : decode (mB Y_B_gets) 2 = .ok (.aload_n 0, 1) := by decide +kernel
theorem d_B_gets_3 : decode (mB Y_B_gets) 3 = .ok (.getfield 157, 3) := by decide +kernel
theorem d_B_gets_6 : decode (mB Y_B_gets) 6 = .ok (.iconst 1, 1) := by decide +kernel
theorem d_B_gets_7 : decode (mB Y_B_gets) 7 = .ok (.isub, 1) := by decide +kernel
theorem d_B_gets_8 : decode (mB Y_B_gets) 8 = .ok (.invokestatic 112, 3) := by decide +kernel
theorem d_B_gets_11 : decode (mB Y_B_gets) 11 = .ok (.ifCond .eq 10, 3) := by decide +kernel
theorem d_B_gets_14 : decode (mB Y_B_gets) 14 = .ok (.iload_n 2, 1) := by decide +kernel
theorem d_B_gets_15 : decode (mB Y_B_gets) 15 = .ok (.invokestatic 125, 3) := by decide +kernel
theorem d_B_gets_18 : decode (mB Y_B_gets) 18 = .ok (.ifCond .ne 5, 3) := by decide +kernel
theorem d_B_gets_21 : decode (mB Y_B_gets) 21 = .ok (.iconst (-1), 1) := by decide +kernel
theorem d_B_gets_22 : decode (mB Y_B_gets) 22 = .ok (.ireturn, 1) := by decide +kernel
theorem d_B_gets_23 : decode (mB Y_B_gets) 23 = .ok (.aload_n 0, 1) := by decide +kernel
theorem d_B_gets_24 : decode (mB Y_B_gets) 24 = .ok (.getfield 21, 3) := by decide +kernel
theorem d_B_gets_27 : decode (mB Y_B_gets) 27 = .ok (.aload_n 0, 1) := by decide +kernel
theorem d_B_gets_28 : decode (mB Y_B_gets) 28 = .ok (.getfield 37, 3) := by decide +kernel
theorem d_B_gets_31 : decode (mB Y_B_gets) 31 = .ok (.iload_n 1, 1) := by decide +kernel
theorem d_B_gets_32 : decode (mB Y_B_gets) 32 = .ok (.aaload, 1) := by decide +kernel
theorem d_B_gets_33 : decode (mB Y_B_gets) 33 = .ok (.iload_n 2, 1) := by decide +kernel
theorem d_B_gets_34 : decode (mB Y_B_gets) 34 = .ok (.invokevirtual 168, 3) := by decide +kernel
theorem d_B_gets_37 : decode (mB Y_B_gets) 37 = .ok (.iload_n 3, 1) := by decide +kernel
theorem d_B_gets_38 : decode (mB Y_B_gets) 38 = .ok (.tableswitch 74 0 4 #[34, 42, 50, 58, 66], 34) := by decide +kernel
theorem d_B_gets_72 : decode (mB Y_B_gets) 72 = .ok (.aload_n 0, 1) := by decide +kernel
theorem d_B_gets_73 : decode (mB Y_B_gets) 73 = .ok (.getfield 21, 3) := by decide +kernel
theorem d_B_gets_76 : decode (mB Y_B_gets) 76 = .ok (.getfield 172, 3) := by decide +kernel
theorem d_B_gets_79 : decode (mB Y_B_gets) 79 = .ok (.ireturn, 1) := by decide +kernel
theorem d_B_gets_80 : decode (mB Y_B_gets) 80 = .ok (.aload_n 0, 1) := by decide +kernel
theorem d_B_gets_81 : decode (mB Y_B_gets) 81 = .ok (.getfield 21, 3) := by decide +kernel
theorem d_B_gets_84 : decode (mB Y_B_gets) 84 = .ok (.getfield 175, 3) := by decide +kernel
theorem d_B_gets_87 : decode (mB Y_B_gets) 87 = .ok (.ireturn, 1) := by decide +kernel
theorem d_B_gets_88 : decode (mB Y_B_gets) 88 = .ok (.aload_n 0, 1) := by decide +kernel
theorem d_B_gets_89 : decode (mB Y_B_gets) 89 = .ok (.getfield 21, 3) := by decide +kernel
theorem d_B_gets_92 : decode (mB Y_B_gets) 92 = .ok (.getfield 178, 3) := by decide +kernel
theorem d_B_gets_95 : decode (mB Y_B_gets) 95 = .ok (.ireturn, 1) := by decide +kernel
theorem d_B_gets_96 : decode (mB Y_B_gets) 96 = .ok (.aload_n 0, 1) := by decide +kernel
theorem d_B_gets_97 : decode (mB Y_B_gets) 97 = .ok (.getfield 21, 3) := by decide +kernel
theorem d_B_gets_100 : decode (mB Y_B_gets) 100 = .ok (.getfield 181, 3) := by decide +kernel
theorem d_B_gets_103 : decode (mB Y_B_gets) 103 = .ok (.ireturn, 1) := by decide +kernel
theorem d_B_gets_104 : decode (mB Y_B_gets) 104 = .ok (.aload_n 0, 1) := by decide +kernel
theorem d_B_gets_105 : decode (mB Y_B_gets) 105 = .ok (.getfield 21, 3) := by decide +kernel
theorem d_B_gets_108 : decode (mB Y_B_gets) 108 = .ok (.getfield 184, 3) := by decide +kernel
theorem d_B_gets_111 : decode (mB Y_B_gets) 111 = .ok (.ireturn, 1) := by decide +kernel
theorem d_B_gets_112 : decode (mB Y_B_gets) 112 = .ok (.aload_n 0, 1) := by decide +kernel
theorem d_B_gets_113 : decode (mB Y_B_gets) 113 = .ok (.iload_n 3, 1) := by decide +kernel
theorem d_B_gets_114 : decode (mB Y_B_gets) 114 = .ok (.invokevirtual 187, 3) := by decide +kernel
theorem d_B_gets_117 : decode (mB Y_B_gets) 117 = .ok (.ireturn, 1) := by decide +kernel
theorem ro_B_gets_B_getsBack : roomy Y_B_gets Y_B_getsBack := ⟨Nat.le_of_ble_eq_true rfl, Nat.le_of_ble_eq_true rfl⟩
theorem ro_B_gets_B_isCell : roomy Y_B_gets Y_B_isCell := ⟨Nat.le_of_ble_eq_true rfl, Nat.le_of_ble_eq_true rfl⟩
theorem ro_B_gets_B_within : roomy Y_B_gets Y_B_within := ⟨Nat.le_of_ble_eq_true rfl, Nat.le_of_ble_eq_true rfl⟩
theorem ro_B_gets_Hd_listen : roomy Y_B_gets Y_Hd_listen := ⟨Nat.le_of_ble_eq_true rfl, Nat.le_of_ble_eq_true rfl⟩
def r_B_gets (x1 : Int32) (x2 : Int32) (x3 : Int32) (S : Sto) : Option (Int32 × Sto) :=
  if (r_B_within x1 0 ((S 0 4) - 1)) = 0 then
    some ((-1), S)
  else
    if (r_B_isCell x2) = 0 then
      some ((-1), S)
    else
      chk (inr x1 10) (
      ltN x1.toNatClampNeg (fun j1 =>
      (r_Hd_listen (19 + 1 * j1) x2 S).bind (fun S2 =>
      if x3 = 0 then
        some (S2 13 2, S2)
      else
        if x3 = 1 then
          some (S2 13 3, S2)
        else
          if x3 = 2 then
            some (S2 13 4, S2)
          else
            if x3 = 3 then
              some (S2 13 5, S2)
            else
              if x3 = 4 then
                some (S2 13 6, S2)
              else
                (r_B_getsBack x3 S2).bind (fun r8 =>
                some (r8, S2)))))
set_option maxHeartbeats 4000000 in
set_option maxRecDepth 20000 in
theorem c_B_gets {G : Gl} {L : Shp} (hL : Ext L) (S : Sto) (x1 : Int32) (x2 : Int32) (x3 : Int32)  : Ct Y_B_gets G [rf G 0, .int x1, .int x2, .int x3] L S (fi L) (r_B_gets x1 x2 x3 S) := by
  refine ct_of (by decide +kernel) (Nat.le_of_ble_eq_true rfl) (fun g C => ?_)
  show VO g Y_B_gets G (fun z => Qm g Y_B_gets G (fi L z)) 0 0 0 [(0, rf G 0), (1, .int x1), (2, .int x2), (3, .int x3)] [] L S (r_B_gets x1 x2 x3 S) some
  unfold r_B_gets
  refine v_iload_n (pc := 0) C d_B_gets_0 rfl 1 rfl ?_
  refine v_iconst (pc := 1) C d_B_gets_1 ic_0 ?_
  refine v_aload_n (pc := 2) C d_B_gets_2 rfl 0 rfl ?_
  refine v_getI (pc := 3) C fl_B_157 (sh_0 hL) rfl d_B_gets_3 ?_
  refine v_iconst (pc := 6) C d_B_gets_6 ic_1 ?_
  refine v_isub (pc := 7) C d_B_gets_7 ?_
  refine v_ct (pc := 8) (inv_S (As := [.int x1, .int 0, .int ((S 0 4) - 1)]) (st := []) C ml_B_112 ms_B_within ro_B_gets_B_within rfl rfl (Nat.le_of_ble_eq_true rfl) d_B_gets_8) (c_B_within hL S x1 0 ((S 0 4) - 1)) ⟨rfl, rfl⟩ ⟨Nat.zero_le _, Nat.zero_le _⟩ ?_
  refine v_if_eq (pc := 11) (tgt := 21) C d_B_gets_11 rfl (fun _ => ?_) (fun _ => ?_)
  · refine v_iconst (pc := 21) C d_B_gets_21 ic_m1 ?_
    exact v_iret (z := ((-1), S)) C d_B_gets_22 rfl ⟨Nat.zero_le _, Nat.zero_le _⟩ (rfl) rfl
  · refine v_iload_n (pc := 14) C d_B_gets_14 rfl 2 rfl ?_
    refine v_ct (pc := 15) (inv_S (As := [.int x2]) (st := []) C ml_B_125 ms_B_isCell ro_B_gets_B_isCell rfl rfl (Nat.le_of_ble_eq_true rfl) d_B_gets_15) (c_B_isCell hL S x2) ⟨rfl, rfl⟩ ⟨Nat.zero_le _, Nat.zero_le _⟩ ?_
    refine v_if_ne (pc := 18) (tgt := 23) C d_B_gets_18 rfl (fun _ => ?_) (fun _ => ?_)
    · refine v_aload_n (pc := 23) C d_B_gets_23 rfl 0 rfl ?_
      refine v_getR (pc := 24) C fl_B_21 (sh_0 hL) rfl d_B_gets_24 ?_
      refine v_aload_n (pc := 27) C d_B_gets_27 rfl 0 rfl ?_
      refine v_getR (pc := 28) C fl_B_37 (sh_0 hL) rfl d_B_gets_28 ?_
      refine v_iload_n (pc := 31) C d_B_gets_31 rfl 1 rfl ?_
      refine v_aald (pc := 32) (c0 := 19) (e := 1) C (sh_18 hL) rfl (by decide) d_B_gets_32 (fun j1 hj1 => ?_)
      refine v_iload_n (pc := 33) C d_B_gets_33 rfl 2 rfl ?_
      refine v_cv (pc := 34) (inv_V (As := [rf G (19 + 1 * j1), .int x2]) (st := []) C ml_B_168 mv_Hd_listen ro_B_gets_Hd_listen (sh_13 hL) rfl rfl rfl rfl (Nat.le_of_ble_eq_true rfl) d_B_gets_34) (c_Hd_listen hL S (19 + 1 * j1) x2 (shot_at hL hj1)) ⟨rfl, rfl⟩ ⟨Nat.zero_le _, Nat.zero_le _⟩ (fun S2 => ?_)
      refine v_iload_n (pc := 37) C d_B_gets_37 rfl 3 rfl ?_
      refine v_case (x := x3) (c := 0) (fun hc3 => ?_) (fun hc3 => ?_)
      · refine v_tableIn (pc := 38) (tgt := 72) C d_B_gets_38 (by rw [hc3]; decide) (by rw [hc3]; decide) (by rw [hc3] <;> rfl) rfl ?_
        refine v_aload_n (pc := 72) C d_B_gets_72 rfl 0 rfl ?_
        refine v_getR (pc := 73) C fl_B_21 (sh_0 hL) rfl d_B_gets_73 ?_
        refine v_getI (pc := 76) C fl_B_172 (sh_13 hL) rfl d_B_gets_76 ?_
        exact v_iret (z := (S2 13 2, S2)) C d_B_gets_79 rfl ⟨Nat.zero_le _, Nat.zero_le _⟩ (rfl) rfl
      · refine v_case (x := x3) (c := 1) (fun hc4 => ?_) (fun hc4 => ?_)
        · refine v_tableIn (pc := 38) (tgt := 80) C d_B_gets_38 (by rw [hc4]; decide) (by rw [hc4]; decide) (by rw [hc4] <;> rfl) rfl ?_
          refine v_aload_n (pc := 80) C d_B_gets_80 rfl 0 rfl ?_
          refine v_getR (pc := 81) C fl_B_21 (sh_0 hL) rfl d_B_gets_81 ?_
          refine v_getI (pc := 84) C fl_B_175 (sh_13 hL) rfl d_B_gets_84 ?_
          exact v_iret (z := (S2 13 3, S2)) C d_B_gets_87 rfl ⟨Nat.zero_le _, Nat.zero_le _⟩ (rfl) rfl
        · refine v_case (x := x3) (c := 2) (fun hc5 => ?_) (fun hc5 => ?_)
          · refine v_tableIn (pc := 38) (tgt := 88) C d_B_gets_38 (by rw [hc5]; decide) (by rw [hc5]; decide) (by rw [hc5] <;> rfl) rfl ?_
            refine v_aload_n (pc := 88) C d_B_gets_88 rfl 0 rfl ?_
            refine v_getR (pc := 89) C fl_B_21 (sh_0 hL) rfl d_B_gets_89 ?_
            refine v_getI (pc := 92) C fl_B_178 (sh_13 hL) rfl d_B_gets_92 ?_
            exact v_iret (z := (S2 13 4, S2)) C d_B_gets_95 rfl ⟨Nat.zero_le _, Nat.zero_le _⟩ (rfl) rfl
          · refine v_case (x := x3) (c := 3) (fun hc6 => ?_) (fun hc6 => ?_)
            · refine v_tableIn (pc := 38) (tgt := 96) C d_B_gets_38 (by rw [hc6]; decide) (by rw [hc6]; decide) (by rw [hc6] <;> rfl) rfl ?_
              refine v_aload_n (pc := 96) C d_B_gets_96 rfl 0 rfl ?_
              refine v_getR (pc := 97) C fl_B_21 (sh_0 hL) rfl d_B_gets_97 ?_
              refine v_getI (pc := 100) C fl_B_181 (sh_13 hL) rfl d_B_gets_100 ?_
              exact v_iret (z := (S2 13 5, S2)) C d_B_gets_103 rfl ⟨Nat.zero_le _, Nat.zero_le _⟩ (rfl) rfl
            · refine v_case (x := x3) (c := 4) (fun hc7 => ?_) (fun hc7 => ?_)
              · refine v_tableIn (pc := 38) (tgt := 104) C d_B_gets_38 (by rw [hc7]; decide) (by rw [hc7]; decide) (by rw [hc7] <;> rfl) rfl ?_
                refine v_aload_n (pc := 104) C d_B_gets_104 rfl 0 rfl ?_
                refine v_getR (pc := 105) C fl_B_21 (sh_0 hL) rfl d_B_gets_105 ?_
                refine v_getI (pc := 108) C fl_B_184 (sh_13 hL) rfl d_B_gets_108 ?_
                exact v_iret (z := (S2 13 6, S2)) C d_B_gets_111 rfl ⟨Nat.zero_le _, Nat.zero_le _⟩ (rfl) rfl
              · refine v_tableOut (pc := 38) (tgt := 112) C d_B_gets_38 (by have q0 := lv_neT (a := 0) hc3 (by decide); have q1 := lv_neT (a := 1) hc4 (by decide); have q2 := lv_neT (a := 2) hc5 (by decide); have q3 := lv_neT (a := 3) hc6 (by decide); have q4 := lv_neT (a := 4) hc7 (by decide); omega) rfl ?_
                refine v_aload_n (pc := 112) C d_B_gets_112 rfl 0 rfl ?_
                refine v_iload_n (pc := 113) C d_B_gets_113 rfl 3 rfl ?_
                refine v_cp (pc := 114) (inv_V (As := [.int x3]) (st := []) C ml_B_187 mv_B_getsBack ro_B_gets_B_getsBack (sh_0 hL) rfl rfl rfl rfl (Nat.le_of_ble_eq_true rfl) d_B_gets_114) (c_B_getsBack hL S2 x3) ⟨rfl, rfl⟩ ⟨Nat.zero_le _, Nat.zero_le _⟩ (fun r8 => ?_)
                exact v_iret (z := (r8, S2)) C d_B_gets_117 rfl ⟨Nat.zero_le _, Nat.zero_le _⟩ (rfl) rfl
    · refine v_iconst (pc := 21) C d_B_gets_21 ic_m1 ?_
      exact v_iret (z := ((-1), S)) C d_B_gets_22 rfl ⟨Nat.zero_le _, Nat.zero_le _⟩ (rfl) rfl
