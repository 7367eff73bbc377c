-- M_areParted
theorem d_M_areParted_0 : decode (mB Y_M_areParted) 0 = .ok (.iconst 0, 1) := by decide +kernel
theorem d_M_areParted_1 : decode (mB Y_M_areParted) 1 = .ok (.istore_n 3, 1) := by decide +kernel
theorem d_M_areParted_2 : decode (mB Y_M_areParted) 2 = .ok (.iload_n 3, 1) := by decide +kernel
theorem d_M_areParted_3 : decode (mB Y_M_areParted) 3 = .ok (.bipush 16, 2) := by decide +kernel
theorem d_M_areParted_5 : decode (mB Y_M_areParted) 5 = .ok (.if_icmp .ge 53, 3) := by decide +kernel
theorem d_M_areParted_8 : decode (mB Y_M_areParted) 8 = .ok (.iload_n 3, 1) := by decide +kernel
theorem d_M_areParted_9 : decode (mB Y_M_areParted) 9 = .ok (.iconst 4, 1) := by decide +kernel
theorem d_M_areParted_10 : decode (mB Y_M_areParted) 10 = .ok (.idiv, 1) := by decide +kernel
theorem d_M_areParted_11 : decode (mB Y_M_areParted) 11 = .ok (.iload_n 3, 1) := by decide +kernel
theorem d_M_areParted_12 : decode (mB Y_M_areParted) 12 = .ok (.iconst 4, 1) := by decide +kernel
theorem d_M_areParted_13 : decode (mB Y_M_areParted) 13 = .ok (.irem, 1) := by decide +kernel
theorem d_M_areParted_14 : decode (mB Y_M_areParted) 14 = .ok (.if_icmp .ge 38, 3) := by decide +kernel
theorem d_M_areParted_17 : decode (mB Y_M_areParted) 17 = .ok (.iload_n 1, 1) := by decide +kernel
theorem d_M_areParted_18 : decode (mB Y_M_areParted) 18 = .ok (.iload_n 3, 1) := by decide +kernel
theorem d_M_areParted_19 : decode (mB Y_M_areParted) 19 = .ok (.iconst 4, 1) := by decide +kernel
theorem d_M_areParted_20 : decode (mB Y_M_areParted) 20 = .ok (.idiv, 1) := by decide +kernel
theorem d_M_areParted_21 : decode (mB Y_M_areParted) 21 = .ok (.ishr, 1) := by decide +kernel
theorem d_M_areParted_22 : decode (mB Y_M_areParted) 22 = .ok (.iconst 1, 1) := by decide +kernel
theorem d_M_areParted_23 : decode (mB Y_M_areParted) 23 = .ok (.iand, 1) := by decide +kernel
theorem d_M_areParted_24 : decode (mB Y_M_areParted) 24 = .ok (.iconst 1, 1) := by decide +kernel
theorem d_M_areParted_25 : decode (mB Y_M_areParted) 25 = .ok (.if_icmp .ne 27, 3) := by decide +kernel
theorem d_M_areParted_28 : decode (mB Y_M_areParted) 28 = .ok (.iload_n 1, 1) := by decide +kernel
theorem d_M_areParted_29 : decode (mB Y_M_areParted) 29 = .ok (.iload_n 3, 1) := by decide +kernel
theorem d_M_areParted_30 : decode (mB Y_M_areParted) 30 = .ok (.iconst 4, 1) := by decide +kernel
theorem d_M_areParted_31 : decode (mB Y_M_areParted) 31 = .ok (.irem, 1) := by decide +kernel
theorem d_M_areParted_32 : decode (mB Y_M_areParted) 32 = .ok (.ishr, 1) := by decide +kernel
theorem d_M_areParted_33 : decode (mB Y_M_areParted) 33 = .ok (.iconst 1, 1) := by decide +kernel
theorem d_M_areParted_34 : decode (mB Y_M_areParted) 34 = .ok (.iand, 1) := by decide +kernel
theorem d_M_areParted_35 : decode (mB Y_M_areParted) 35 = .ok (.iconst 1, 1) := by decide +kernel
theorem d_M_areParted_36 : decode (mB Y_M_areParted) 36 = .ok (.if_icmp .ne 16, 3) := by decide +kernel
theorem d_M_areParted_39 : decode (mB Y_M_areParted) 39 = .ok (.aload_n 0, 1) := by decide +kernel
theorem d_M_areParted_40 : decode (mB Y_M_areParted) 40 = .ok (.getfield 144, 3) := by decide +kernel
theorem d_M_areParted_43 : decode (mB Y_M_areParted) 43 = .ok (.iload_n 3, 1) := by decide +kernel
theorem d_M_areParted_44 : decode (mB Y_M_areParted) 44 = .ok (.iaload, 1) := by decide +kernel
theorem d_M_areParted_45 : decode (mB Y_M_areParted) 45 = .ok (.iload_n 2, 1) := by decide +kernel
theorem d_M_areParted_46 : decode (mB Y_M_areParted) 46 = .ok (.iand, 1) := by decide +kernel
theorem d_M_areParted_47 : decode (mB Y_M_areParted) 47 = .ok (.ifCond .ne 5, 3) := by decide +kernel
theorem d_M_areParted_50 : decode (mB Y_M_areParted) 50 = .ok (.iconst 0, 1) := by decide +kernel
theorem d_M_areParted_51 : decode (mB Y_M_areParted) 51 = .ok (.ireturn, 1) := by decide +kernel
theorem d_M_areParted_52 : decode (mB Y_M_areParted) 52 = .ok (.iinc 3 1, 3) := by decide +kernel
theorem d_M_areParted_55 : decode (mB Y_M_areParted) 55 = .ok (.goto (-53), 3) := by decide +kernel
theorem d_M_areParted_58 : decode (mB Y_M_areParted) 58 = .ok (.iconst 1, 1) := by decide +kernel
theorem d_M_areParted_59 : decode (mB Y_M_areParted) 59 = .ok (.ireturn, 1) := by decide +kernel
def r_M_areParted_L2 (y1_ : Int32) (y2_ : Int32) : Nat → Int32 → Sto → Option ((Int32) ⊕ Int32)
  | 0, _, _ => none
  | n + 1, x3_, S =>
    if 16 ≤ x3_ then
      some (.inl (x3_))
    else
      jn (fun (_ : Unit) =>
        lt (x3_ + 1) (fun v1 =>
        r_M_areParted_L2 y1_ y2_ n v1 S)) (fun j52 =>
      if (x3_ - x3_ / 4 * 4) ≤ (x3_ / 4) then
        j52 ()
      else
        if ((y1_ >>> ((x3_ / 4) &&& 31)) &&& 1) = 1 then
          if ((y1_ >>> ((x3_ - x3_ / 4 * 4) &&& 31)) &&& 1) = 1 then
            chk (inr x3_ 16) (
            if ((S 144 x3_.toNatClampNeg) &&& y2_) = 0 then
              some (.inr 0)
            else
              j52 ())
          else
            j52 ()
        else
          j52 ())
set_option maxHeartbeats 4000000 in
set_option maxRecDepth 20000 in
theorem w_M_areParted_L2 {g : Gm} {G : Gl} {L : Shp} (C : Cx g Y_M_areParted G) (hL : Ext L) (S : Sto) (y1_ : Int32) (y2_ : Int32)  :
    ∀ (n : Nat) (x3_ : Int32) (K : ((Int32) ⊕ Int32) → Option Int32), (∀ (x3_ : Int32), VO g Y_M_areParted G (fun z => Qm g Y_M_areParted G (fp L S z)) 0 0 58 [] [] L S (some (.inl (x3_))) K) → (∀ x, K (.inr x) = some x) → VO g Y_M_areParted G (fun z => Qm g Y_M_areParted G (fp L S z)) 0 0 2 [(0, rf G 104), (1, .int y1_), (2, .int y2_), (3, .int x3_)] [] L S (r_M_areParted_L2 y1_ y2_ n x3_ S) K := by
  intro n
  induction n with
  | zero => intro x3_ K; intros; exact v_none
  | succ n ih =>
    intro x3_ K hK hR
    rw [r_M_areParted_L2]
    refine v_iload_n (pc := 2) C d_M_areParted_2 rfl 3 rfl ?_
    refine v_bipush (pc := 3) C d_M_areParted_3 bp_16 ?_
    refine v_icmp_ge (pc := 5) (tgt := 58) C d_M_areParted_5 rfl (fun _ => ?_) (fun _ => ?_)
    · refine v_sub [] rfl ?_
      exact hK x3_
    · refine v_iload_n (pc := 8) C d_M_areParted_8 rfl 3 rfl ?_
      refine v_iconst (pc := 9) C d_M_areParted_9 ic_4 ?_
      refine v_idiv (pc := 10) C d_M_areParted_10 (by decide) ?_
      refine v_iload_n (pc := 11) C d_M_areParted_11 rfl 3 rfl ?_
      refine v_iconst (pc := 12) C d_M_areParted_12 ic_4 ?_
      refine v_irem (pc := 13) C d_M_areParted_13 (by decide) ?_
      refine v_jn (fun j => VO g Y_M_areParted G (fun z => Qm g Y_M_areParted G (fp L S z)) 0 0 52 [(0, rf G 104), (1, .int y1_), (2, .int y2_), (3, .int x3_)] [] L S (j ()) K) (?_) (fun j52 hj52 => ?_)
      · refine v_iinc (pc := 52) (p := 3) (c := 1) C d_M_areParted_52 rfl (by decide) (by decide) (fun v1 => [(3, .int v1), (0, rf G 104), (1, .int y1_), (2, .int y2_)]) (fun _ => rfl) (fun v1 => ?_)
        refine v_goto (pc := 55) (tgt := 2) C d_M_areParted_55 rfl ?_
        refine v_sub [1, 2, 3, 0] rfl ?_
        exact ih v1 K hK hR
      · refine v_icmp_ge (pc := 14) (tgt := 52) C d_M_areParted_14 rfl (fun _ => ?_) (fun _ => ?_)
        · exact hj52
        · refine v_iload_n (pc := 17) C d_M_areParted_17 rfl 1 rfl ?_
          refine v_iload_n (pc := 18) C d_M_areParted_18 rfl 3 rfl ?_
          refine v_iconst (pc := 19) C d_M_areParted_19 ic_4 ?_
          refine v_idiv (pc := 20) C d_M_areParted_20 (by decide) ?_
          refine v_ishr (pc := 21) C d_M_areParted_21 ?_
          refine v_iconst (pc := 22) C d_M_areParted_22 ic_1 ?_
          refine v_iand (pc := 23) C d_M_areParted_23 ?_
          refine v_iconst (pc := 24) C d_M_areParted_24 ic_1 ?_
          refine v_icmp_ne (pc := 25) (tgt := 52) C d_M_areParted_25 rfl (fun _ => ?_) (fun _ => ?_)
          · exact hj52
          · refine v_iload_n (pc := 28) C d_M_areParted_28 rfl 1 rfl ?_
            refine v_iload_n (pc := 29) C d_M_areParted_29 rfl 3 rfl ?_
            refine v_iconst (pc := 30) C d_M_areParted_30 ic_4 ?_
            refine v_irem (pc := 31) C d_M_areParted_31 (by decide) ?_
            refine v_ishr (pc := 32) C d_M_areParted_32 ?_
            refine v_iconst (pc := 33) C d_M_areParted_33 ic_1 ?_
            refine v_iand (pc := 34) C d_M_areParted_34 ?_
            refine v_iconst (pc := 35) C d_M_areParted_35 ic_1 ?_
            refine v_icmp_ne (pc := 36) (tgt := 52) C d_M_areParted_36 rfl (fun _ => ?_) (fun _ => ?_)
            · exact hj52
            · refine v_aload_n (pc := 39) C d_M_areParted_39 rfl 0 rfl ?_
              refine v_getR (pc := 40) C fl_M_144 (sh_104 hL) rfl d_M_areParted_40 ?_
              refine v_iload_n (pc := 43) C d_M_areParted_43 rfl 3 rfl ?_
              refine v_iald (pc := 44) C (sh_144 hL) d_M_areParted_44 (fun _ => ?_)
              refine v_iload_n (pc := 45) C d_M_areParted_45 rfl 2 rfl ?_
              refine v_iand (pc := 46) C d_M_areParted_46 ?_
              refine v_if_ne (pc := 47) (tgt := 52) C d_M_areParted_47 rfl (fun _ => ?_) (fun _ => ?_)
              · exact hj52
              · refine v_iconst (pc := 50) C d_M_areParted_50 ic_0 ?_
                exact v_zret (z := 0) C d_M_areParted_51 rfl (b01_n (by decide)) ⟨Nat.zero_le _, Nat.zero_le _⟩ (hR _) rfl
def r_M_areParted (x1 : Int32) (x2 : Int32) (S : Sto) : Option Int32 :=
  (r_M_areParted_L2 x1 x2 fu 0 S).bind (fun x => match x with
  | .inl (v1) =>
    some 1
  | .inr r => some r)
set_option maxHeartbeats 4000000 in
set_option maxRecDepth 20000 in
theorem c_M_areParted {G : Gl} {L : Shp} (hL : Ext L) (S : Sto) (x1 : Int32) (x2 : Int32)  : Ct Y_M_areParted G [rf G 104, .int x1, .int x2] L S (fp L S) (r_M_areParted x1 x2 S) := by
  refine ct_of (by decide +kernel) (Nat.le_of_ble_eq_true rfl) (fun g C => ?_)
  show VO g Y_M_areParted G (fun z => Qm g Y_M_areParted G (fp L S z)) 0 0 0 [(0, rf G 104), (1, .int x1), (2, .int x2)] [] L S (r_M_areParted x1 x2 S) some
  unfold r_M_areParted
  refine v_iconst (pc := 0) C d_M_areParted_0 ic_0 ?_
  refine v_istore_n (pc := 1) (lv' := [(3, .int 0), (0, rf G 104), (1, .int x1), (2, .int x2)]) C d_M_areParted_1 rfl (by decide) rfl ?_
  refine v_sub [1, 2, 3, 0] rfl ?_
  refine v_bind ?_
  refine w_M_areParted_L2 C hL S x1 x2  fu 0 _ (fun v1 => ?_) (fun z => rfl)
  refine v_some ?_
  refine v_iconst (pc := 58) C d_M_areParted_58 ic_1 ?_
  exact v_zret (z := 1) C d_M_areParted_59 rfl (b01_n (by decide)) ⟨Nat.zero_le _, Nat.zero_le _⟩ (rfl) rfl
-- M_trials
theorem d_M_trials_0 : decode (mB Y_M_trials) 0 = .ok (.aload_n 0, 1) := by decide +kernel
theorem d_M_trials_1 : decode (mB Y_M_trials) 1 = .ok (.iconst 0, 1) := by decide +kernel
theorem d_M_trials_2 : decode (mB Y_M_trials) 2 = .ok (.putfield 150, 3) := by decide +kernel
theorem d_M_trials_5 : decode (mB Y_M_trials) 5 = .ok (.aload_n 0, 1) := by decide +kernel
theorem d_M_trials_6 : decode (mB Y_M_trials) 6 = .ok (.iload_n 1, 1) := by decide +kernel
theorem d_M_trials_7 : decode (mB Y_M_trials) 7 = .ok (.iconst 1, 1) := by decide +kernel
theorem d_M_trials_8 : decode (mB Y_M_trials) 8 = .ok (.bipush 15, 2) := by decide +kernel
theorem d_M_trials_10 : decode (mB Y_M_trials) 10 = .ok (.invokevirtual 153, 3) := by decide +kernel
theorem d_M_trials_13 : decode (mB Y_M_trials) 13 = .ok (.ifCond .ne 5, 3) := by decide +kernel
theorem d_M_trials_16 : decode (mB Y_M_trials) 16 = .ok (.iconst (-1), 1) := by decide +kernel
theorem d_M_trials_17 : decode (mB Y_M_trials) 17 = .ok (.ireturn, 1) := by decide +kernel
theorem d_M_trials_18 : decode (mB Y_M_trials) 18 = .ok (.iconst 0, 1) := by decide +kernel
theorem d_M_trials_19 : decode (mB Y_M_trials) 19 = .ok (.istore_n 2, 1) := by decide +kernel
theorem d_M_trials_20 : decode (mB Y_M_trials) 20 = .ok (.iload_n 2, 1) := by decide +kernel
theorem d_M_trials_21 : decode (mB Y_M_trials) 21 = .ok (.bipush 16, 2) := by decide +kernel
theorem d_M_trials_23 : decode (mB Y_M_trials) 23 = .ok (.if_icmp .ge 77, 3) := by decide +kernel
theorem d_M_trials_26 : decode (mB Y_M_trials) 26 = .ok (.aload_n 0, 1) := by decide +kernel
theorem d_M_trials_27 : decode (mB Y_M_trials) 27 = .ok (.getfield 144, 3) := by decide +kernel
theorem d_M_trials_30 : decode (mB Y_M_trials) 30 = .ok (.iload_n 2, 1) := by decide +kernel
theorem d_M_trials_31 : decode (mB Y_M_trials) 31 = .ok (.iconst 0, 1) := by decide +kernel
theorem d_M_trials_32 : decode (mB Y_M_trials) 32 = .ok (.iastore, 1) := by decide +kernel
theorem d_M_trials_33 : decode (mB Y_M_trials) 33 = .ok (.iconst 0, 1) := by decide +kernel
theorem d_M_trials_34 : decode (mB Y_M_trials) 34 = .ok (.istore_n 3, 1) := by decide +kernel
theorem d_M_trials_35 : decode (mB Y_M_trials) 35 = .ok (.iload_n 3, 1) := by decide +kernel
theorem d_M_trials_36 : decode (mB Y_M_trials) 36 = .ok (.bipush 10, 2) := by decide +kernel
theorem d_M_trials_38 : decode (mB Y_M_trials) 38 = .ok (.if_icmp .ge 56, 3) := by decide +kernel
theorem d_M_trials_41 : decode (mB Y_M_trials) 41 = .ok (.iload_n 2, 1) := by decide +kernel
theorem d_M_trials_42 : decode (mB Y_M_trials) 42 = .ok (.iconst 4, 1) := by decide +kernel
theorem d_M_trials_43 : decode (mB Y_M_trials) 43 = .ok (.idiv, 1) := by decide +kernel
theorem d_M_trials_44 : decode (mB Y_M_trials) 44 = .ok (.iload_n 2, 1) := by decide +kernel
theorem d_M_trials_45 : decode (mB Y_M_trials) 45 = .ok (.iconst 4, 1) := by decide +kernel
theorem d_M_trials_46 : decode (mB Y_M_trials) 46 = .ok (.irem, 1) := by decide +kernel
theorem d_M_trials_47 : decode (mB Y_M_trials) 47 = .ok (.if_icmp .ge 47, 3) := by decide +kernel
theorem d_M_trials_50 : decode (mB Y_M_trials) 50 = .ok (.aload_n 0, 1) := by decide +kernel
theorem d_M_trials_51 : decode (mB Y_M_trials) 51 = .ok (.iload_n 3, 1) := by decide +kernel
theorem d_M_trials_52 : decode (mB Y_M_trials) 52 = .ok (.invokevirtual 406, 3) := by decide +kernel
theorem d_M_trials_55 : decode (mB Y_M_trials) 55 = .ok (.ifCond .eq 33, 3) := by decide +kernel
theorem d_M_trials_58 : decode (mB Y_M_trials) 58 = .ok (.aload_n 0, 1) := by decide +kernel
theorem d_M_trials_59 : decode (mB Y_M_trials) 59 = .ok (.iload_n 3, 1) := by decide +kernel
theorem d_M_trials_60 : decode (mB Y_M_trials) 60 = .ok (.iload_n 2, 1) := by decide +kernel
theorem d_M_trials_61 : decode (mB Y_M_trials) 61 = .ok (.iconst 4, 1) := by decide +kernel
theorem d_M_trials_62 : decode (mB Y_M_trials) 62 = .ok (.idiv, 1) := by decide +kernel
theorem d_M_trials_63 : decode (mB Y_M_trials) 63 = .ok (.iload_n 2, 1) := by decide +kernel
theorem d_M_trials_64 : decode (mB Y_M_trials) 64 = .ok (.iconst 4, 1) := by decide +kernel
theorem d_M_trials_65 : decode (mB Y_M_trials) 65 = .ok (.irem, 1) := by decide +kernel
theorem d_M_trials_66 : decode (mB Y_M_trials) 66 = .ok (.invokevirtual 432, 3) := by decide +kernel
theorem d_M_trials_69 : decode (mB Y_M_trials) 69 = .ok (.ifCond .eq 19, 3) := by decide +kernel
theorem d_M_trials_72 : decode (mB Y_M_trials) 72 = .ok (.aload_n 0, 1) := by decide +kernel
theorem d_M_trials_73 : decode (mB Y_M_trials) 73 = .ok (.getfield 144, 3) := by decide +kernel
theorem d_M_trials_76 : decode (mB Y_M_trials) 76 = .ok (.iload_n 2, 1) := by decide +kernel
theorem d_M_trials_77 : decode (mB Y_M_trials) 77 = .ok (.aload_n 0, 1) := by decide +kernel
theorem d_M_trials_78 : decode (mB Y_M_trials) 78 = .ok (.getfield 144, 3) := by decide +kernel
theorem d_M_trials_81 : decode (mB Y_M_trials) 81 = .ok (.iload_n 2, 1) := by decide +kernel
theorem d_M_trials_82 : decode (mB Y_M_trials) 82 = .ok (.iaload, 1) := by decide +kernel
theorem d_M_trials_83 : decode (mB Y_M_trials) 83 = .ok (.iconst 1, 1) := by decide +kernel
theorem d_M_trials_84 : decode (mB Y_M_trials) 84 = .ok (.iload_n 3, 1) := by decide +kernel
theorem d_M_trials_85 : decode (mB Y_M_trials) 85 = .ok (.ishl, 1) := by decide +kernel
theorem d_M_trials_86 : decode (mB Y_M_trials) 86 = .ok (.ior, 1) := by decide +kernel
theorem d_M_trials_87 : decode (mB Y_M_trials) 87 = .ok (.iastore, 1) := by decide +kernel
theorem d_M_trials_88 : decode (mB Y_M_trials) 88 = .ok (.iinc 3 1, 3) := by decide +kernel
theorem d_M_trials_91 : decode (mB Y_M_trials) 91 = .ok (.goto (-56), 3) := by decide +kernel
theorem d_M_trials_94 : decode (mB Y_M_trials) 94 = .ok (.iinc 2 1, 3) := by decide +kernel
theorem d_M_trials_97 : decode (mB Y_M_trials) 97 = .ok (.goto (-77), 3) := by decide +kernel
theorem d_M_trials_100 : decode (mB Y_M_trials) 100 = .ok (.iconst (-1), 1) := by decide +kernel
theorem d_M_trials_101 : decode (mB Y_M_trials) 101 = .ok (.istore_n 2, 1) := by decide +kernel
theorem d_M_trials_102 : decode (mB Y_M_trials) 102 = .ok (.iconst 0, 1) := by decide +kernel
theorem d_M_trials_103 : decode (mB Y_M_trials) 103 = .ok (.istore_n 3, 1) := by decide +kernel
theorem d_M_trials_104 : decode (mB Y_M_trials) 104 = .ok (.iload_n 3, 1) := by decide +kernel
theorem d_M_trials_105 : decode (mB Y_M_trials) 105 = .ok (.sipush 1024, 3) := by decide +kernel
theorem d_M_trials_108 : decode (mB Y_M_trials) 108 = .ok (.if_icmp .ge 49, 3) := by decide +kernel
theorem d_M_trials_111 : decode (mB Y_M_trials) 111 = .ok (.iload_n 3, 1) := by decide +kernel
theorem d_M_trials_112 : decode (mB Y_M_trials) 112 = .ok (.aload_n 0, 1) := by decide +kernel
theorem d_M_trials_113 : decode (mB Y_M_trials) 113 = .ok (.invokevirtual 435, 3) := by decide +kernel
theorem d_M_trials_116 : decode (mB Y_M_trials) 116 = .ok (.iconst (-1), 1) := by decide +kernel
theorem d_M_trials_117 : decode (mB Y_M_trials) 117 = .ok (.ixor, 1) := by decide +kernel
theorem d_M_trials_118 : decode (mB Y_M_trials) 118 = .ok (.iand, 1) := by decide +kernel
theorem d_M_trials_119 : decode (mB Y_M_trials) 119 = .ok (.ifCond .ne 32, 3) := by decide +kernel
theorem d_M_trials_122 : decode (mB Y_M_trials) 122 = .ok (.iload_n 2, 1) := by decide +kernel
theorem d_M_trials_123 : decode (mB Y_M_trials) 123 = .ok (.iconst (-1), 1) := by decide +kernel
theorem d_M_trials_124 : decode (mB Y_M_trials) 124 = .ok (.if_icmp .eq 16, 3) := by decide +kernel
theorem d_M_trials_127 : decode (mB Y_M_trials) 127 = .ok (.aload_n 0, 1) := by decide +kernel
theorem d_M_trials_128 : decode (mB Y_M_trials) 128 = .ok (.iload_n 3, 1) := by decide +kernel
theorem d_M_trials_129 : decode (mB Y_M_trials) 129 = .ok (.invokevirtual 419, 3) := by decide +kernel
theorem d_M_trials_132 : decode (mB Y_M_trials) 132 = .ok (.aload_n 0, 1) := by decide +kernel
theorem d_M_trials_133 : decode (mB Y_M_trials) 133 = .ok (.iload_n 2, 1) := by decide +kernel
theorem d_M_trials_134 : decode (mB Y_M_trials) 134 = .ok (.invokevirtual 419, 3) := by decide +kernel
theorem d_M_trials_137 : decode (mB Y_M_trials) 137 = .ok (.if_icmp .ge 14, 3) := by decide +kernel
theorem d_M_trials_140 : decode (mB Y_M_trials) 140 = .ok (.aload_n 0, 1) := by decide +kernel
theorem d_M_trials_141 : decode (mB Y_M_trials) 141 = .ok (.iload_n 1, 1) := by decide +kernel
theorem d_M_trials_142 : decode (mB Y_M_trials) 142 = .ok (.iload_n 3, 1) := by decide +kernel
theorem d_M_trials_143 : decode (mB Y_M_trials) 143 = .ok (.invokevirtual 438, 3) := by decide +kernel
theorem d_M_trials_146 : decode (mB Y_M_trials) 146 = .ok (.ifCond .eq 5, 3) := by decide +kernel
theorem d_M_trials_149 : decode (mB Y_M_trials) 149 = .ok (.iload_n 3, 1) := by decide +kernel
theorem d_M_trials_150 : decode (mB Y_M_trials) 150 = .ok (.istore_n 2, 1) := by decide +kernel
theorem d_M_trials_151 : decode (mB Y_M_trials) 151 = .ok (.iinc 3 1, 3) := by decide +kernel
theorem d_M_trials_154 : decode (mB Y_M_trials) 154 = .ok (.goto (-50), 3) := by decide +kernel
theorem d_M_trials_157 : decode (mB Y_M_trials) 157 = .ok (.iload_n 2, 1) := by decide +kernel
theorem d_M_trials_158 : decode (mB Y_M_trials) 158 = .ok (.ireturn, 1) := by decide +kernel
theorem ro_M_trials_M_areParted : roomy Y_M_trials Y_M_areParted := ⟨Nat.le_of_ble_eq_true rfl, Nat.le_of_ble_eq_true rfl⟩
theorem ro_M_trials_M_isIn : roomy Y_M_trials Y_M_isIn := ⟨Nat.le_of_ble_eq_true rfl, Nat.le_of_ble_eq_true rfl⟩
theorem ro_M_trials_M_isSpot : roomy Y_M_trials Y_M_isSpot := ⟨Nat.le_of_ble_eq_true rfl, Nat.le_of_ble_eq_true rfl⟩
theorem ro_M_trials_M_ones : roomy Y_M_trials Y_M_ones := ⟨Nat.le_of_ble_eq_true rfl, Nat.le_of_ble_eq_true rfl⟩
theorem ro_M_trials_M_parts : roomy Y_M_trials Y_M_parts := ⟨Nat.le_of_ble_eq_true rfl, Nat.le_of_ble_eq_true rfl⟩
theorem ro_M_trials_M_there : roomy Y_M_trials Y_M_there := ⟨Nat.le_of_ble_eq_true rfl, Nat.le_of_ble_eq_true rfl⟩
def r_M_trials_L35 (y1_ : Int32) (y2_ : Int32) : Nat → Int32 → Sto → Option (Int32 × Sto)
  | 0, _, _ => none
  | n + 1, x3_, S =>
    if 10 ≤ x3_ then
      some (x3_, S)
    else
      if (y2_ - y2_ / 4 * 4) ≤ (y2_ / 4) then
        some (x3_, S)
      else
        (r_M_isSpot x3_ S).bind (fun r1 =>
        jn (fun (S2 : Sto) =>
          lt (x3_ + 1) (fun v3 =>
          r_M_trials_L35 y1_ y2_ n v3 S2)) (fun j88 =>
        if r1 = 0 then
          j88 (S)
        else
          (r_M_parts x3_ (y2_ / 4) (y2_ - y2_ / 4 * 4) S).bind (fun (r4, S5) =>
          if r4 = 0 then
            j88 (S5)
          else
            chk (inr y2_ 16) (
            chk (inr y2_ 16) (
            ltS (sw S5 144 y2_.toNatClampNeg ((S5 144 y2_.toNatClampNeg) ||| (1 <<< (x3_ &&& 31)))) (fun S6 =>
            j88 (S6)))))))
def r_M_trials_L20 (y1_ : Int32) : Nat → Int32 → Sto → Option (Int32 × Sto)
  | 0, _, _ => none
  | n + 1, x2_, S =>
    if 16 ≤ x2_ then
      some (x2_, S)
    else
      chk (inr x2_ 16) (
      ltS (sw S 144 x2_.toNatClampNeg 0) (fun S1 =>
      (r_M_trials_L35 y1_ x2_ fu 0 S1).bind (fun (v2, S3) =>
      lt (x2_ + 1) (fun v4 =>
      r_M_trials_L20 y1_ n v4 S3))))
def r_M_trials_L104 (y1_ : Int32) : Nat → Int32 → Int32 → Sto → Option (Int32 × Int32)
  | 0, _, _, _ => none
  | n + 1, x2_, x3_, S =>
    if 1024 ≤ x3_ then
      some (x2_, x3_)
    else
      (r_M_there S).bind (fun r1 =>
      jn (fun (v2 : Int32) =>
        lt (x3_ + 1) (fun v3 =>
        r_M_trials_L104 y1_ n v2 v3 S)) (fun j151 =>
      if (x3_ &&& (r1 ^^^ (-1))) = 0 then
        jn (fun (_ : Unit) =>
          (r_M_areParted y1_ x3_ S).bind (fun r4 =>
          if r4 = 0 then
            j151 (x2_)
          else
            j151 (x3_))) (fun j140 =>
        if x2_ = (-1) then
          j140 ()
        else
          (r_M_ones x3_).bind (fun r5 =>
          (r_M_ones x2_).bind (fun r6 =>
          if r6 ≤ r5 then
            j151 (x2_)
          else
            j140 ())))
      else
        j151 (x2_)))
set_option maxHeartbeats 4000000 in
set_option maxRecDepth 20000 in
theorem w_M_trials_L35 {g : Gm} {G : Gl} {L : Shp} (C : Cx g Y_M_trials G) (hL : Ext L) (y1_ : Int32) (y2_ : Int32)  :
    ∀ (n : Nat) (x3_ : Int32) (S : Sto) (K : (Int32 × Sto) → Option (Int32 × Sto)), (∀ (x3_ : Int32) (S : Sto), VO g Y_M_trials G (fun z => Qm g Y_M_trials G (fi L z)) 0 0 94 [(0, rf G 104), (1, .int y1_), (2, .int y2_)] [] L S (some (x3_, S)) K) → VO g Y_M_trials G (fun z => Qm g Y_M_trials G (fi L z)) 0 0 35 [(0, rf G 104), (1, .int y1_), (2, .int y2_), (3, .int x3_)] [] L S (r_M_trials_L35 y1_ y2_ n x3_ S) K := by
  intro n
  induction n with
  | zero => intro x3_ S K; intros; exact v_none
  | succ n ih =>
    intro x3_ S K hK
    rw [r_M_trials_L35]
    refine v_iload_n (pc := 35) C d_M_trials_35 rfl 3 rfl ?_
    refine v_bipush (pc := 36) C d_M_trials_36 bp_10 ?_
    refine v_icmp_ge (pc := 38) (tgt := 94) C d_M_trials_38 rfl (fun _ => ?_) (fun _ => ?_)
    · refine v_sub [0, 1, 2] rfl ?_
      exact hK x3_ S
    · refine v_iload_n (pc := 41) C d_M_trials_41 rfl 2 rfl ?_
      refine v_iconst (pc := 42) C d_M_trials_42 ic_4 ?_
      refine v_idiv (pc := 43) C d_M_trials_43 (by decide) ?_
      refine v_iload_n (pc := 44) C d_M_trials_44 rfl 2 rfl ?_
      refine v_iconst (pc := 45) C d_M_trials_45 ic_4 ?_
      refine v_irem (pc := 46) C d_M_trials_46 (by decide) ?_
      refine v_icmp_ge (pc := 47) (tgt := 94) C d_M_trials_47 rfl (fun _ => ?_) (fun _ => ?_)
      · refine v_sub [0, 1, 2] rfl ?_
        exact hK x3_ S
      · refine v_aload_n (pc := 50) C d_M_trials_50 rfl 0 rfl ?_
        refine v_iload_n (pc := 51) C d_M_trials_51 rfl 3 rfl ?_
        refine v_cp (pc := 52) (inv_V (As := [.int x3_]) (st := []) C ml_M_406 mv_M_isSpot ro_M_trials_M_isSpot (sh_104 hL) rfl rfl rfl rfl (Nat.le_of_ble_eq_true rfl) d_M_trials_52) (c_M_isSpot hL S x3_) ⟨rfl, rfl⟩ ⟨Nat.zero_le _, Nat.zero_le _⟩ (fun r1 => ?_)
        refine v_jn (fun j => ∀ (S2 : Sto), VO g Y_M_trials G (fun z => Qm g Y_M_trials G (fi L z)) 0 0 88 [(0, rf G 104), (1, .int y1_), (2, .int y2_), (3, .int x3_)] [] L S2 (j (S2)) K) (fun S2 => ?_) (fun j88 hj88 => ?_)
        · refine v_iinc (pc := 88) (p := 3) (c := 1) C d_M_trials_88 rfl (by decide) (by decide) (fun v3 => [(3, .int v3), (0, rf G 104), (1, .int y1_), (2, .int y2_)]) (fun _ => rfl) (fun v3 => ?_)
          refine v_goto (pc := 91) (tgt := 35) C d_M_trials_91 rfl ?_
          refine v_sub [1, 2, 3, 0] rfl ?_
          exact ih v3 S2 K hK
        · refine v_if_eq (pc := 55) (tgt := 88) C d_M_trials_55 rfl (fun _ => ?_) (fun _ => ?_)
          · exact hj88 S
          · refine v_aload_n (pc := 58) C d_M_trials_58 rfl 0 rfl ?_
            refine v_iload_n (pc := 59) C d_M_trials_59 rfl 3 rfl ?_
            refine v_iload_n (pc := 60) C d_M_trials_60 rfl 2 rfl ?_
            refine v_iconst (pc := 61) C d_M_trials_61 ic_4 ?_
            refine v_idiv (pc := 62) C d_M_trials_62 (by decide) ?_
            refine v_iload_n (pc := 63) C d_M_trials_63 rfl 2 rfl ?_
            refine v_iconst (pc := 64) C d_M_trials_64 ic_4 ?_
            refine v_irem (pc := 65) C d_M_trials_65 (by decide) ?_
            refine v_ci (pc := 66) (inv_V (As := [.int x3_, .int (y2_ / 4), .int (y2_ - y2_ / 4 * 4)]) (st := []) C ml_M_432 mv_M_parts ro_M_trials_M_parts (sh_104 hL) rfl rfl rfl rfl (Nat.le_of_ble_eq_true rfl) d_M_trials_66) (c_M_parts hL S x3_ (y2_ / 4) (y2_ - y2_ / 4 * 4)) ⟨rfl, rfl⟩ ⟨Nat.zero_le _, Nat.zero_le _⟩ (fun r4 S5 => ?_)
            refine v_if_eq (pc := 69) (tgt := 88) C d_M_trials_69 rfl (fun _ => ?_) (fun _ => ?_)
            · exact hj88 S5
            · refine v_aload_n (pc := 72) C d_M_trials_72 rfl 0 rfl ?_
              refine v_getR (pc := 73) C fl_M_144 (sh_104 hL) rfl d_M_trials_73 ?_
              refine v_iload_n (pc := 76) C d_M_trials_76 rfl 2 rfl ?_
              refine v_aload_n (pc := 77) C d_M_trials_77 rfl 0 rfl ?_
              refine v_getR (pc := 78) C fl_M_144 (sh_104 hL) rfl d_M_trials_78 ?_
              refine v_iload_n (pc := 81) C d_M_trials_81 rfl 2 rfl ?_
              refine v_iald (pc := 82) C (sh_144 hL) d_M_trials_82 (fun _ => ?_)
              refine v_iconst (pc := 83) C d_M_trials_83 ic_1 ?_
              refine v_iload_n (pc := 84) C d_M_trials_84 rfl 3 rfl ?_
              refine v_ishl (pc := 85) C d_M_trials_85 ?_
              refine v_ior (pc := 86) C d_M_trials_86 ?_
              refine v_iast (pc := 87) C (sh_144 hL) d_M_trials_87 (fun _ S6 => ?_)
              exact hj88 S6
set_option maxHeartbeats 4000000 in
set_option maxRecDepth 20000 in
theorem w_M_trials_L20 {g : Gm} {G : Gl} {L : Shp} (C : Cx g Y_M_trials G) (hL : Ext L) (y1_ : Int32)  :
    ∀ (n : Nat) (x2_ : Int32) (S : Sto) (K : (Int32 × Sto) → Option (Int32 × Sto)), (∀ (x2_ : Int32) (S : Sto), VO g Y_M_trials G (fun z => Qm g Y_M_trials G (fi L z)) 0 0 100 [(0, rf G 104), (1, .int y1_)] [] L S (some (x2_, S)) K) → VO g Y_M_trials G (fun z => Qm g Y_M_trials G (fi L z)) 0 0 20 [(0, rf G 104), (1, .int y1_), (2, .int x2_)] [] L S (r_M_trials_L20 y1_ n x2_ S) K := by
  intro n
  induction n with
  | zero => intro x2_ S K; intros; exact v_none
  | succ n ih =>
    intro x2_ S K hK
    rw [r_M_trials_L20]
    refine v_iload_n (pc := 20) C d_M_trials_20 rfl 2 rfl ?_
    refine v_bipush (pc := 21) C d_M_trials_21 bp_16 ?_
    refine v_icmp_ge (pc := 23) (tgt := 100) C d_M_trials_23 rfl (fun _ => ?_) (fun _ => ?_)
    · refine v_sub [0, 1] rfl ?_
      exact hK x2_ S
    · refine v_aload_n (pc := 26) C d_M_trials_26 rfl 0 rfl ?_
      refine v_getR (pc := 27) C fl_M_144 (sh_104 hL) rfl d_M_trials_27 ?_
      refine v_iload_n (pc := 30) C d_M_trials_30 rfl 2 rfl ?_
      refine v_iconst (pc := 31) C d_M_trials_31 ic_0 ?_
      refine v_iast (pc := 32) C (sh_144 hL) d_M_trials_32 (fun _ S1 => ?_)
      refine v_iconst (pc := 33) C d_M_trials_33 ic_0 ?_
      refine v_istore_n (pc := 34) (lv' := [(3, .int 0), (0, rf G 104), (1, .int y1_), (2, .int x2_)]) C d_M_trials_34 rfl (by decide) rfl ?_
      refine v_sub [1, 2, 3, 0] rfl ?_
      refine v_bind ?_
      refine w_M_trials_L35 C hL y1_ x2_  fu 0 S1 _ (fun v2 S3 => ?_) 
      refine v_some ?_
      refine v_iinc (pc := 94) (p := 2) (c := 1) C d_M_trials_94 rfl (by decide) (by decide) (fun v4 => [(2, .int v4), (0, rf G 104), (1, .int y1_)]) (fun _ => rfl) (fun v4 => ?_)
      refine v_goto (pc := 97) (tgt := 20) C d_M_trials_97 rfl ?_
      refine v_sub [1, 2, 0] rfl ?_
      exact ih v4 S3 K hK
set_option maxHeartbeats 4000000 in
set_option maxRecDepth 20000 in
theorem w_M_trials_L104 {g : Gm} {G : Gl} {L : Shp} (C : Cx g Y_M_trials G) (hL : Ext L) (S : Sto) (y1_ : Int32)  :
    ∀ (n : Nat) (x2_ : Int32) (x3_ : Int32) (K : (Int32 × Int32) → Option (Int32 × Sto)), (∀ (x2_ : Int32) (x3_ : Int32), VO g Y_M_trials G (fun z => Qm g Y_M_trials G (fi L z)) 0 0 157 [(2, .int x2_)] [] L S (some (x2_, x3_)) K) → VO g Y_M_trials G (fun z => Qm g Y_M_trials G (fi L z)) 0 0 104 [(0, rf G 104), (1, .int y1_), (2, .int x2_), (3, .int x3_)] [] L S (r_M_trials_L104 y1_ n x2_ x3_ S) K := by
  intro n
  induction n with
  | zero => intro x2_ x3_ K; intros; exact v_none
  | succ n ih =>
    intro x2_ x3_ K hK
    rw [r_M_trials_L104]
    refine v_iload_n (pc := 104) C d_M_trials_104 rfl 3 rfl ?_
    refine v_sipush (pc := 105) C d_M_trials_105 sp_1024 ?_
    refine v_icmp_ge (pc := 108) (tgt := 157) C d_M_trials_108 rfl (fun _ => ?_) (fun _ => ?_)
    · refine v_sub [2] rfl ?_
      exact hK x2_ x3_
    · refine v_iload_n (pc := 111) C d_M_trials_111 rfl 3 rfl ?_
      refine v_aload_n (pc := 112) C d_M_trials_112 rfl 0 rfl ?_
      refine v_cp (pc := 113) (inv_V (As := []) (st := [.int x3_]) C ml_M_435 mv_M_there ro_M_trials_M_there (sh_104 hL) rfl rfl rfl rfl (Nat.le_of_ble_eq_true rfl) d_M_trials_113) (c_M_there hL S) ⟨rfl, rfl⟩ ⟨Nat.zero_le _, Nat.zero_le _⟩ (fun r1 => ?_)
      refine v_iconst (pc := 116) C d_M_trials_116 ic_m1 ?_
      refine v_ixor (pc := 117) C d_M_trials_117 ?_
      refine v_iand (pc := 118) C d_M_trials_118 ?_
      refine v_jn (fun j => ∀ (v2 : Int32), VO g Y_M_trials G (fun z => Qm g Y_M_trials G (fi L z)) 0 0 151 [(0, rf G 104), (1, .int y1_), (2, .int v2), (3, .int x3_)] [] L S (j (v2)) K) (fun v2 => ?_) (fun j151 hj151 => ?_)
      · refine v_iinc (pc := 151) (p := 3) (c := 1) C d_M_trials_151 rfl (by decide) (by decide) (fun v3 => [(3, .int v3), (0, rf G 104), (1, .int y1_), (2, .int v2)]) (fun _ => rfl) (fun v3 => ?_)
        refine v_goto (pc := 154) (tgt := 104) C d_M_trials_154 rfl ?_
        refine v_sub [1, 2, 3, 0] rfl ?_
        exact ih v2 v3 K hK
      · refine v_if_ne (pc := 119) (tgt := 151) C d_M_trials_119 rfl (fun _ => ?_) (fun _ => ?_)
        · exact hj151 x2_
        · refine v_iload_n (pc := 122) C d_M_trials_122 rfl 2 rfl ?_
          refine v_iconst (pc := 123) C d_M_trials_123 ic_m1 ?_
          refine v_jn (fun j => VO g Y_M_trials G (fun z => Qm g Y_M_trials G (fi L z)) 0 0 140 [(0, rf G 104), (1, .int y1_), (2, .int x2_), (3, .int x3_)] [] L S (j ()) K) (?_) (fun j140 hj140 => ?_)
          · refine v_aload_n (pc := 140) C d_M_trials_140 rfl 0 rfl ?_
            refine v_iload_n (pc := 141) C d_M_trials_141 rfl 1 rfl ?_
            refine v_iload_n (pc := 142) C d_M_trials_142 rfl 3 rfl ?_
            refine v_cp (pc := 143) (inv_V (As := [.int y1_, .int x3_]) (st := []) C ml_M_438 mv_M_areParted ro_M_trials_M_areParted (sh_104 hL) rfl rfl rfl rfl (Nat.le_of_ble_eq_true rfl) d_M_trials_143) (c_M_areParted hL S y1_ x3_) ⟨rfl, rfl⟩ ⟨Nat.zero_le _, Nat.zero_le _⟩ (fun r4 => ?_)
            refine v_if_eq (pc := 146) (tgt := 151) C d_M_trials_146 rfl (fun _ => ?_) (fun _ => ?_)
            · exact hj151 x2_
            · refine v_iload_n (pc := 149) C d_M_trials_149 rfl 3 rfl ?_
              refine v_istore_n (pc := 150) (lv' := [(2, .int x3_), (0, rf G 104), (1, .int y1_), (3, .int x3_)]) C d_M_trials_150 rfl (by decide) rfl ?_
              refine v_sub [1, 2, 0, 3] rfl ?_
              exact hj151 x3_
          · refine v_icmp_eq (pc := 124) (tgt := 140) C d_M_trials_124 rfl (fun _ => ?_) (fun _ => ?_)
            · exact hj140
            · refine v_aload_n (pc := 127) C d_M_trials_127 rfl 0 rfl ?_
              refine v_iload_n (pc := 128) C d_M_trials_128 rfl 3 rfl ?_
              refine v_cp (pc := 129) (inv_V (As := [.int x3_]) (st := []) C ml_M_419 mv_M_ones ro_M_trials_M_ones (sh_104 hL) rfl rfl rfl rfl (Nat.le_of_ble_eq_true rfl) d_M_trials_129) (c_M_ones hL S x3_) ⟨rfl, rfl⟩ ⟨Nat.zero_le _, Nat.zero_le _⟩ (fun r5 => ?_)
              refine v_aload_n (pc := 132) C d_M_trials_132 rfl 0 rfl ?_
              refine v_iload_n (pc := 133) C d_M_trials_133 rfl 2 rfl ?_
              refine v_cp (pc := 134) (inv_V (As := [.int x2_]) (st := [.int r5]) C ml_M_419 mv_M_ones ro_M_trials_M_ones (sh_104 hL) rfl rfl rfl rfl (Nat.le_of_ble_eq_true rfl) d_M_trials_134) (c_M_ones hL S x2_) ⟨rfl, rfl⟩ ⟨Nat.zero_le _, Nat.zero_le _⟩ (fun r6 => ?_)
              refine v_icmp_ge (pc := 137) (tgt := 151) C d_M_trials_137 rfl (fun _ => ?_) (fun _ => ?_)
              · exact hj151 x2_
              · exact hj140
def r_M_trials (x1 : Int32) (S : Sto) : Option (Int32 × Sto) :=
  ltS (sw S 104 0 0) (fun S1 =>
  if (r_M_isIn x1 1 15) = 0 then
    some ((-1), S1)
  else
    (r_M_trials_L20 x1 fu 0 S1).bind (fun (v2, S3) =>
    (r_M_trials_L104 x1 fu (-1) 0 S3).bind (fun (v4, v5) =>
    some (v4, S3))))
set_option maxHeartbeats 4000000 in
set_option maxRecDepth 20000 in
theorem c_M_trials {G : Gl} {L : Shp} (hL : Ext L) (S : Sto) (x1 : Int32)  : Ct Y_M_trials G [rf G 104, .int x1] L S (fi L) (r_M_trials x1 S) := by
  refine ct_of (by decide +kernel) (Nat.le_of_ble_eq_true rfl) (fun g C => ?_)
  show VO g Y_M_trials G (fun z => Qm g Y_M_trials G (fi L z)) 0 0 0 [(0, rf G 104), (1, .int x1)] [] L S (r_M_trials x1 S) some
  unfold r_M_trials
  refine v_aload_n (pc := 0) C d_M_trials_0 rfl 0 rfl ?_
  refine v_iconst (pc := 1) C d_M_trials_1 ic_0 ?_
  refine v_putI (pc := 2) C fp_M_150 (sh_104 hL) rfl d_M_trials_2 (fun S1 => ?_)
  refine v_aload_n (pc := 5) C d_M_trials_5 rfl 0 rfl ?_
  refine v_iload_n (pc := 6) C d_M_trials_6 rfl 1 rfl ?_
  refine v_iconst (pc := 7) C d_M_trials_7 ic_1 ?_
  refine v_bipush (pc := 8) C d_M_trials_8 bp_15 ?_
  refine v_ct (pc := 10) (inv_V (As := [.int x1, .int 1, .int 15]) (st := []) C ml_M_153 mv_M_isIn ro_M_trials_M_isIn (sh_104 hL) rfl rfl rfl rfl (Nat.le_of_ble_eq_true rfl) d_M_trials_10) (c_M_isIn hL S1 x1 1 15) ⟨rfl, rfl⟩ ⟨Nat.zero_le _, Nat.zero_le _⟩ ?_
  refine v_if_ne (pc := 13) (tgt := 18) C d_M_trials_13 rfl (fun _ => ?_) (fun _ => ?_)
  · refine v_iconst (pc := 18) C d_M_trials_18 ic_0 ?_
    refine v_istore_n (pc := 19) (lv' := [(2, .int 0), (0, rf G 104), (1, .int x1)]) C d_M_trials_19 rfl (by decide) rfl ?_
    refine v_sub [1, 2, 0] rfl ?_
    refine v_bind ?_
    refine w_M_trials_L20 C hL x1  fu 0 S1 _ (fun v2 S3 => ?_) 
    refine v_some ?_
    refine v_iconst (pc := 100) C d_M_trials_100 ic_m1 ?_
    refine v_istore_n (pc := 101) (lv' := [(2, .int (-1)), (0, rf G 104), (1, .int x1)]) C d_M_trials_101 rfl (by decide) rfl ?_
    refine v_iconst (pc := 102) C d_M_trials_102 ic_0 ?_
    refine v_istore_n (pc := 103) (lv' := [(3, .int 0), (2, .int (-1)), (0, rf G 104), (1, .int x1)]) C d_M_trials_103 rfl (by decide) rfl ?_
    refine v_sub [2, 3, 1, 0] rfl ?_
    refine v_bind ?_
    refine w_M_trials_L104 C hL S3 x1  fu (-1) 0 _ (fun v4 v5 => ?_) 
    refine v_some ?_
    refine v_iload_n (pc := 157) C d_M_trials_157 rfl 0 rfl ?_
    exact v_iret (z := (v4, S3)) C d_M_trials_158 rfl ⟨Nat.zero_le _, Nat.zero_le _⟩ (rfl) rfl
  · refine v_iconst (pc := 16) C d_M_trials_16 ic_m1 ?_
    exact v_iret (z := ((-1), S1)) C d_M_trials_17 rfl ⟨Nat.zero_le _, Nat.zero_le _⟩ (rfl) rfl
-- M_findsTable
theorem d_M_findsTable_0 : decode (mB Y_M_findsTable) 0 = .ok (.iconst 0, 1) := by decide +kernel
theorem d_M_findsTable_1 : decode (mB Y_M_findsTable) 1 = .ok (.istore_n 1, 1) := by decide +kernel
theorem d_M_findsTable_2 : decode (mB Y_M_findsTable) 2 = .ok (.iload_n 1, 1) := by decide +kernel
theorem d_M_findsTable_3 : decode (mB Y_M_findsTable) 3 = .ok (.bipush 100, 2) := by decide +kernel
theorem d_M_findsTable_5 : decode (mB Y_M_findsTable) 5 = .ok (.if_icmp .ge 59, 3) := by decide +kernel
theorem d_M_findsTable_8 : decode (mB Y_M_findsTable) 8 = .ok (.aload_n 0, 1) := by decide +kernel
theorem d_M_findsTable_9 : decode (mB Y_M_findsTable) 9 = .ok (.iload_n 1, 1) := by decide +kernel
theorem d_M_findsTable_10 : decode (mB Y_M_findsTable) 10 = .ok (.bipush 10, 2) := by decide +kernel
theorem d_M_findsTable_12 : decode (mB Y_M_findsTable) 12 = .ok (.idiv, 1) := by decide +kernel
theorem d_M_findsTable_13 : decode (mB Y_M_findsTable) 13 = .ok (.invokevirtual 406, 3) := by decide +kernel
theorem d_M_findsTable_16 : decode (mB Y_M_findsTable) 16 = .ok (.ifCond .eq 42, 3) := by decide +kernel
theorem d_M_findsTable_19 : decode (mB Y_M_findsTable) 19 = .ok (.aload_n 0, 1) := by decide +kernel
theorem d_M_findsTable_20 : decode (mB Y_M_findsTable) 20 = .ok (.iload_n 1, 1) := by decide +kernel
theorem d_M_findsTable_21 : decode (mB Y_M_findsTable) 21 = .ok (.bipush 10, 2) := by decide +kernel
theorem d_M_findsTable_23 : decode (mB Y_M_findsTable) 23 = .ok (.irem, 1) := by decide +kernel
theorem d_M_findsTable_24 : decode (mB Y_M_findsTable) 24 = .ok (.invokevirtual 406, 3) := by decide +kernel
theorem d_M_findsTable_27 : decode (mB Y_M_findsTable) 27 = .ok (.ifCond .eq 31, 3) := by decide +kernel
theorem d_M_findsTable_30 : decode (mB Y_M_findsTable) 30 = .ok (.aload_n 0, 1) := by decide +kernel
theorem d_M_findsTable_31 : decode (mB Y_M_findsTable) 31 = .ok (.getfield 147, 3) := by decide +kernel
theorem d_M_findsTable_34 : decode (mB Y_M_findsTable) 34 = .ok (.iload_n 1, 1) := by decide +kernel
theorem d_M_findsTable_35 : decode (mB Y_M_findsTable) 35 = .ok (.aload_n 0, 1) := by decide +kernel
theorem d_M_findsTable_36 : decode (mB Y_M_findsTable) 36 = .ok (.aload_n 0, 1) := by decide +kernel
theorem d_M_findsTable_37 : decode (mB Y_M_findsTable) 37 = .ok (.getfield 33, 3) := by decide +kernel
theorem d_M_findsTable_40 : decode (mB Y_M_findsTable) 40 = .ok (.iload_n 1, 1) := by decide +kernel
theorem d_M_findsTable_41 : decode (mB Y_M_findsTable) 41 = .ok (.bipush 10, 2) := by decide +kernel
theorem d_M_findsTable_43 : decode (mB Y_M_findsTable) 43 = .ok (.idiv, 1) := by decide +kernel
theorem d_M_findsTable_44 : decode (mB Y_M_findsTable) 44 = .ok (.iaload, 1) := by decide +kernel
theorem d_M_findsTable_45 : decode (mB Y_M_findsTable) 45 = .ok (.aload_n 0, 1) := by decide +kernel
theorem d_M_findsTable_46 : decode (mB Y_M_findsTable) 46 = .ok (.getfield 33, 3) := by decide +kernel
theorem d_M_findsTable_49 : decode (mB Y_M_findsTable) 49 = .ok (.iload_n 1, 1) := by decide +kernel
theorem d_M_findsTable_50 : decode (mB Y_M_findsTable) 50 = .ok (.bipush 10, 2) := by decide +kernel
theorem d_M_findsTable_52 : decode (mB Y_M_findsTable) 52 = .ok (.irem, 1) := by decide +kernel
theorem d_M_findsTable_53 : decode (mB Y_M_findsTable) 53 = .ok (.iaload, 1) := by decide +kernel
theorem d_M_findsTable_54 : decode (mB Y_M_findsTable) 54 = .ok (.invokevirtual 184, 3) := by decide +kernel
theorem d_M_findsTable_57 : decode (mB Y_M_findsTable) 57 = .ok (.iastore, 1) := by decide +kernel
theorem d_M_findsTable_58 : decode (mB Y_M_findsTable) 58 = .ok (.iinc 1 1, 3) := by decide +kernel
theorem d_M_findsTable_61 : decode (mB Y_M_findsTable) 61 = .ok (.goto (-59), 3) := by decide +kernel
theorem d_M_findsTable_64 : decode (mB Y_M_findsTable) 64 = .ok (.return_, 1) := by decide +kernel
theorem ro_M_findsTable_M_delay : roomy Y_M_findsTable Y_M_delay := ⟨Nat.le_of_ble_eq_true rfl, Nat.le_of_ble_eq_true rfl⟩
theorem ro_M_findsTable_M_isSpot : roomy Y_M_findsTable Y_M_isSpot := ⟨Nat.le_of_ble_eq_true rfl, Nat.le_of_ble_eq_true rfl⟩
def r_M_findsTable_L2  : Nat → Int32 → Sto → Option (Int32 × Sto)
  | 0, _, _ => none
  | n + 1, x1_, S =>
    if 100 ≤ x1_ then
      some (x1_, S)
    else
      (r_M_isSpot (x1_ / 10) S).bind (fun r1 =>
      jn (fun (S2 : Sto) =>
        lt (x1_ + 1) (fun v3 =>
        r_M_findsTable_L2 n v3 S2)) (fun j58 =>
      if r1 = 0 then
        j58 (S)
      else
        (r_M_isSpot (x1_ - x1_ / 10 * 10) S).bind (fun r4 =>
        if r4 = 0 then
          j58 (S)
        else
          chk (inr (x1_ / 10) 10) (
          chk (inr (x1_ - x1_ / 10 * 10) 10) (
          (r_M_delay (S 110 ((x1_ / 10).toNatClampNeg)) (S 110 ((x1_ - x1_ / 10 * 10).toNatClampNeg)) S).bind (fun r5 =>
          chk (inr x1_ 100) (
          ltS (sw S 145 x1_.toNatClampNeg r5) (fun S6 =>
          j58 (S6)))))))))
set_option maxHeartbeats 4000000 in
set_option maxRecDepth 20000 in
theorem w_M_findsTable_L2 {g : Gm} {G : Gl} {L : Shp} (C : Cx g Y_M_findsTable G) (hL : Ext L)  :
    ∀ (n : Nat) (x1_ : Int32) (S : Sto) (K : (Int32 × Sto) → Option Sto), (∀ (x1_ : Int32) (S : Sto), VO g Y_M_findsTable G (fun z => Qm g Y_M_findsTable G (fv L z)) 0 0 64 [] [] L S (some (x1_, S)) K) → VO g Y_M_findsTable G (fun z => Qm g Y_M_findsTable G (fv L z)) 0 0 2 [(0, rf G 104), (1, .int x1_)] [] L S (r_M_findsTable_L2 n x1_ S) K := by
  intro n
  induction n with
  | zero => intro x1_ S K; intros; exact v_none
  | succ n ih =>
    intro x1_ S K hK
    rw [r_M_findsTable_L2]
    refine v_iload_n (pc := 2) C d_M_findsTable_2 rfl 1 rfl ?_
    refine v_bipush (pc := 3) C d_M_findsTable_3 bp_100 ?_
    refine v_icmp_ge (pc := 5) (tgt := 64) C d_M_findsTable_5 rfl (fun _ => ?_) (fun _ => ?_)
    · refine v_sub [] rfl ?_
      exact hK x1_ S
    · refine v_aload_n (pc := 8) C d_M_findsTable_8 rfl 0 rfl ?_
      refine v_iload_n (pc := 9) C d_M_findsTable_9 rfl 1 rfl ?_
      refine v_bipush (pc := 10) C d_M_findsTable_10 bp_10 ?_
      refine v_idiv (pc := 12) C d_M_findsTable_12 (by decide) ?_
      refine v_cp (pc := 13) (inv_V (As := [.int (x1_ / 10)]) (st := []) C ml_M_406 mv_M_isSpot ro_M_findsTable_M_isSpot (sh_104 hL) rfl rfl rfl rfl (Nat.le_of_ble_eq_true rfl) d_M_findsTable_13) (c_M_isSpot hL S (x1_ / 10)) ⟨rfl, rfl⟩ ⟨Nat.zero_le _, Nat.zero_le _⟩ (fun r1 => ?_)
      refine v_jn (fun j => ∀ (S2 : Sto), VO g Y_M_findsTable G (fun z => Qm g Y_M_findsTable G (fv L z)) 0 0 58 [(0, rf G 104), (1, .int x1_)] [] L S2 (j (S2)) K) (fun S2 => ?_) (fun j58 hj58 => ?_)
      · refine v_iinc (pc := 58) (p := 1) (c := 1) C d_M_findsTable_58 rfl (by decide) (by decide) (fun v3 => [(1, .int v3), (0, rf G 104)]) (fun _ => rfl) (fun v3 => ?_)
        refine v_goto (pc := 61) (tgt := 2) C d_M_findsTable_61 rfl ?_
        refine v_sub [1, 0] rfl ?_
        exact ih v3 S2 K hK
      · refine v_if_eq (pc := 16) (tgt := 58) C d_M_findsTable_16 rfl (fun _ => ?_) (fun _ => ?_)
        · exact hj58 S
        · refine v_aload_n (pc := 19) C d_M_findsTable_19 rfl 0 rfl ?_
          refine v_iload_n (pc := 20) C d_M_findsTable_20 rfl 1 rfl ?_
          refine v_bipush (pc := 21) C d_M_findsTable_21 bp_10 ?_
          refine v_irem (pc := 23) C d_M_findsTable_23 (by decide) ?_
          refine v_cp (pc := 24) (inv_V (As := [.int (x1_ - x1_ / 10 * 10)]) (st := []) C ml_M_406 mv_M_isSpot ro_M_findsTable_M_isSpot (sh_104 hL) rfl rfl rfl rfl (Nat.le_of_ble_eq_true rfl) d_M_findsTable_24) (c_M_isSpot hL S (x1_ - x1_ / 10 * 10)) ⟨rfl, rfl⟩ ⟨Nat.zero_le _, Nat.zero_le _⟩ (fun r4 => ?_)
          refine v_if_eq (pc := 27) (tgt := 58) C d_M_findsTable_27 rfl (fun _ => ?_) (fun _ => ?_)
          · exact hj58 S
          · refine v_aload_n (pc := 30) C d_M_findsTable_30 rfl 0 rfl ?_
            refine v_getR (pc := 31) C fl_M_147 (sh_104 hL) rfl d_M_findsTable_31 ?_
            refine v_iload_n (pc := 34) C d_M_findsTable_34 rfl 1 rfl ?_
            refine v_aload_n (pc := 35) C d_M_findsTable_35 rfl 0 rfl ?_
            refine v_aload_n (pc := 36) C d_M_findsTable_36 rfl 0 rfl ?_
            refine v_getR (pc := 37) C fl_M_33 (sh_104 hL) rfl d_M_findsTable_37 ?_
            refine v_iload_n (pc := 40) C d_M_findsTable_40 rfl 1 rfl ?_
            refine v_bipush (pc := 41) C d_M_findsTable_41 bp_10 ?_
            refine v_idiv (pc := 43) C d_M_findsTable_43 (by decide) ?_
            refine v_iald (pc := 44) C (sh_110 hL) d_M_findsTable_44 (fun _ => ?_)
            refine v_aload_n (pc := 45) C d_M_findsTable_45 rfl 0 rfl ?_
            refine v_getR (pc := 46) C fl_M_33 (sh_104 hL) rfl d_M_findsTable_46 ?_
            refine v_iload_n (pc := 49) C d_M_findsTable_49 rfl 1 rfl ?_
            refine v_bipush (pc := 50) C d_M_findsTable_50 bp_10 ?_
            refine v_irem (pc := 52) C d_M_findsTable_52 (by decide) ?_
            refine v_iald (pc := 53) C (sh_110 hL) d_M_findsTable_53 (fun _ => ?_)
            refine v_cp (pc := 54) (inv_V (As := [.int (S 110 ((x1_ / 10).toNatClampNeg)), .int (S 110 ((x1_ - x1_ / 10 * 10).toNatClampNeg))]) (st := [.int x1_, rf G 145]) C ml_M_184 mv_M_delay ro_M_findsTable_M_delay (sh_104 hL) rfl rfl rfl rfl (Nat.le_of_ble_eq_true rfl) d_M_findsTable_54) (c_M_delay hL S (S 110 ((x1_ / 10).toNatClampNeg)) (S 110 ((x1_ - x1_ / 10 * 10).toNatClampNeg))) ⟨rfl, rfl⟩ ⟨Nat.zero_le _, Nat.zero_le _⟩ (fun r5 => ?_)
            refine v_iast (pc := 57) C (sh_145 hL) d_M_findsTable_57 (fun _ S6 => ?_)
            exact hj58 S6
def r_M_findsTable  (S : Sto) : Option Sto :=
  (r_M_findsTable_L2 fu 0 S).bind (fun (v1, S2) =>
  some S2)
set_option maxHeartbeats 4000000 in
set_option maxRecDepth 20000 in
theorem c_M_findsTable {G : Gl} {L : Shp} (hL : Ext L) (S : Sto)   : Ct Y_M_findsTable G [rf G 104] L S (fv L) (r_M_findsTable S) := by
  refine ct_of (by decide +kernel) (Nat.le_of_ble_eq_true rfl) (fun g C => ?_)
  show VO g Y_M_findsTable G (fun z => Qm g Y_M_findsTable G (fv L z)) 0 0 0 [(0, rf G 104)] [] L S (r_M_findsTable S) some
  unfold r_M_findsTable
  refine v_iconst (pc := 0) C d_M_findsTable_0 ic_0 ?_
  refine v_istore_n (pc := 1) (lv' := [(1, .int 0), (0, rf G 104)]) C d_M_findsTable_1 rfl (by decide) rfl ?_
  refine v_sub [1, 0] rfl ?_
  refine v_bind ?_
  refine w_M_findsTable_L2 C hL  fu 0 S _ (fun v1 S2 => ?_) 
  refine v_some ?_
  exact v_vret C d_M_findsTable_64 rfl ⟨Nat.zero_le _, Nat.zero_le _⟩ rfl rfl
-- M_tellsApart
theorem d_M_tellsApart_0 : decode (mB Y_M_tellsApart) 0 = .ok (.iconst 0, 1) := by decide +kernel
theorem d_M_tellsApart_1 : decode (mB Y_M_tellsApart) 1 = .ok (.istore 5, 2) := by decide +kernel
theorem d_M_tellsApart_3 : decode (mB Y_M_tellsApart) 3 = .ok (.iload 5, 2) := by decide +kernel
theorem d_M_tellsApart_5 : decode (mB Y_M_tellsApart) 5 = .ok (.bipush 10, 2) := by decide +kernel
theorem d_M_tellsApart_7 : decode (mB Y_M_tellsApart) 7 = .ok (.if_icmp .ge 119, 3) := by decide +kernel
theorem d_M_tellsApart_10 : decode (mB Y_M_tellsApart) 10 = .ok (.iload 5, 2) := by decide +kernel
theorem d_M_tellsApart_12 : decode (mB Y_M_tellsApart) 12 = .ok (.iconst 1, 1) := by decide +kernel
theorem d_M_tellsApart_13 : decode (mB Y_M_tellsApart) 13 = .ok (.iadd, 1) := by decide +kernel
theorem d_M_tellsApart_14 : decode (mB Y_M_tellsApart) 14 = .ok (.istore 6, 2) := by decide +kernel
theorem d_M_tellsApart_16 : decode (mB Y_M_tellsApart) 16 = .ok (.iload 6, 2) := by decide +kernel
theorem d_M_tellsApart_18 : decode (mB Y_M_tellsApart) 18 = .ok (.bipush 10, 2) := by decide +kernel
theorem d_M_tellsApart_20 : decode (mB Y_M_tellsApart) 20 = .ok (.if_icmp .ge 100, 3) := by decide +kernel
theorem d_M_tellsApart_23 : decode (mB Y_M_tellsApart) 23 = .ok (.iload_n 1, 1) := by decide +kernel
theorem d_M_tellsApart_24 : decode (mB Y_M_tellsApart) 24 = .ok (.iload 5, 2) := by decide +kernel
theorem d_M_tellsApart_26 : decode (mB Y_M_tellsApart) 26 = .ok (.ishr, 1) := by decide +kernel
theorem d_M_tellsApart_27 : decode (mB Y_M_tellsApart) 27 = .ok (.iconst 1, 1) := by decide +kernel
theorem d_M_tellsApart_28 : decode (mB Y_M_tellsApart) 28 = .ok (.iand, 1) := by decide +kernel
theorem d_M_tellsApart_29 : decode (mB Y_M_tellsApart) 29 = .ok (.ifCond .eq 85, 3) := by decide +kernel
theorem d_M_tellsApart_32 : decode (mB Y_M_tellsApart) 32 = .ok (.iload_n 1, 1) := by decide +kernel
theorem d_M_tellsApart_33 : decode (mB Y_M_tellsApart) 33 = .ok (.iload 6, 2) := by decide +kernel
theorem d_M_tellsApart_35 : decode (mB Y_M_tellsApart) 35 = .ok (.ishr, 1) := by decide +kernel
theorem d_M_tellsApart_36 : decode (mB Y_M_tellsApart) 36 = .ok (.iconst 1, 1) := by decide +kernel
theorem d_M_tellsApart_37 : decode (mB Y_M_tellsApart) 37 = .ok (.iand, 1) := by decide +kernel
theorem d_M_tellsApart_38 : decode (mB Y_M_tellsApart) 38 = .ok (.ifCond .ne 6, 3) := by decide +kernel
theorem d_M_tellsApart_41 : decode (mB Y_M_tellsApart) 41 = .ok (.goto 73, 3) := by decide +kernel
theorem d_M_tellsApart_44 : decode (mB Y_M_tellsApart) 44 = .ok (.aload_n 0, 1) := by decide +kernel
theorem d_M_tellsApart_45 : decode (mB Y_M_tellsApart) 45 = .ok (.getfield 147, 3) := by decide +kernel
theorem d_M_tellsApart_48 : decode (mB Y_M_tellsApart) 48 = .ok (.bipush 10, 2) := by decide +kernel
theorem d_M_tellsApart_50 : decode (mB Y_M_tellsApart) 50 = .ok (.iload_n 2, 1) := by decide +kernel
theorem d_M_tellsApart_51 : decode (mB Y_M_tellsApart) 51 = .ok (.imul, 1) := by decide +kernel
theorem d_M_tellsApart_52 : decode (mB Y_M_tellsApart) 52 = .ok (.iload 5, 2) := by decide +kernel
theorem d_M_tellsApart_54 : decode (mB Y_M_tellsApart) 54 = .ok (.iadd, 1) := by decide +kernel
theorem d_M_tellsApart_55 : decode (mB Y_M_tellsApart) 55 = .ok (.iaload, 1) := by decide +kernel
theorem d_M_tellsApart_56 : decode (mB Y_M_tellsApart) 56 = .ok (.aload_n 0, 1) := by decide +kernel
theorem d_M_tellsApart_57 : decode (mB Y_M_tellsApart) 57 = .ok (.getfield 147, 3) := by decide +kernel
theorem d_M_tellsApart_60 : decode (mB Y_M_tellsApart) 60 = .ok (.bipush 10, 2) := by decide +kernel
theorem d_M_tellsApart_62 : decode (mB Y_M_tellsApart) 62 = .ok (.iload_n 2, 1) := by decide +kernel
theorem d_M_tellsApart_63 : decode (mB Y_M_tellsApart) 63 = .ok (.imul, 1) := by decide +kernel
theorem d_M_tellsApart_64 : decode (mB Y_M_tellsApart) 64 = .ok (.iload 6, 2) := by decide +kernel
theorem d_M_tellsApart_66 : decode (mB Y_M_tellsApart) 66 = .ok (.iadd, 1) := by decide +kernel
theorem d_M_tellsApart_67 : decode (mB Y_M_tellsApart) 67 = .ok (.iaload, 1) := by decide +kernel
theorem d_M_tellsApart_68 : decode (mB Y_M_tellsApart) 68 = .ok (.isub, 1) := by decide +kernel
theorem d_M_tellsApart_69 : decode (mB Y_M_tellsApart) 69 = .ok (.istore 7, 2) := by decide +kernel
theorem d_M_tellsApart_71 : decode (mB Y_M_tellsApart) 71 = .ok (.aload_n 0, 1) := by decide +kernel
theorem d_M_tellsApart_72 : decode (mB Y_M_tellsApart) 72 = .ok (.getfield 147, 3) := by decide +kernel
theorem d_M_tellsApart_75 : decode (mB Y_M_tellsApart) 75 = .ok (.bipush 10, 2) := by decide +kernel
theorem d_M_tellsApart_77 : decode (mB Y_M_tellsApart) 77 = .ok (.iload_n 3, 1) := by decide +kernel
theorem d_M_tellsApart_78 : decode (mB Y_M_tellsApart) 78 = .ok (.imul, 1) := by decide +kernel
theorem d_M_tellsApart_79 : decode (mB Y_M_tellsApart) 79 = .ok (.iload 5, 2) := by decide +kernel
theorem d_M_tellsApart_81 : decode (mB Y_M_tellsApart) 81 = .ok (.iadd, 1) := by decide +kernel
theorem d_M_tellsApart_82 : decode (mB Y_M_tellsApart) 82 = .ok (.iaload, 1) := by decide +kernel
theorem d_M_tellsApart_83 : decode (mB Y_M_tellsApart) 83 = .ok (.aload_n 0, 1) := by decide +kernel
theorem d_M_tellsApart_84 : decode (mB Y_M_tellsApart) 84 = .ok (.getfield 147, 3) := by decide +kernel
theorem d_M_tellsApart_87 : decode (mB Y_M_tellsApart) 87 = .ok (.bipush 10, 2) := by decide +kernel
theorem d_M_tellsApart_89 : decode (mB Y_M_tellsApart) 89 = .ok (.iload_n 3, 1) := by decide +kernel
theorem d_M_tellsApart_90 : decode (mB Y_M_tellsApart) 90 = .ok (.imul, 1) := by decide +kernel
theorem d_M_tellsApart_91 : decode (mB Y_M_tellsApart) 91 = .ok (.iload 6, 2) := by decide +kernel
theorem d_M_tellsApart_93 : decode (mB Y_M_tellsApart) 93 = .ok (.iadd, 1) := by decide +kernel
theorem d_M_tellsApart_94 : decode (mB Y_M_tellsApart) 94 = .ok (.iaload, 1) := by decide +kernel
theorem d_M_tellsApart_95 : decode (mB Y_M_tellsApart) 95 = .ok (.isub, 1) := by decide +kernel
theorem d_M_tellsApart_96 : decode (mB Y_M_tellsApart) 96 = .ok (.istore 8, 2) := by decide +kernel
theorem d_M_tellsApart_98 : decode (mB Y_M_tellsApart) 98 = .ok (.aload_n 0, 1) := by decide +kernel
theorem d_M_tellsApart_99 : decode (mB Y_M_tellsApart) 99 = .ok (.iload 7, 2) := by decide +kernel
theorem d_M_tellsApart_101 : decode (mB Y_M_tellsApart) 101 = .ok (.iload 8, 2) := by decide +kernel
theorem d_M_tellsApart_103 : decode (mB Y_M_tellsApart) 103 = .ok (.isub, 1) := by decide +kernel
theorem d_M_tellsApart_104 : decode (mB Y_M_tellsApart) 104 = .ok (.invokevirtual 215, 3) := by decide +kernel
theorem d_M_tellsApart_107 : decode (mB Y_M_tellsApart) 107 = .ok (.iload 4, 2) := by decide +kernel
theorem d_M_tellsApart_109 : decode (mB Y_M_tellsApart) 109 = .ok (.if_icmp .le 5, 3) := by decide +kernel
theorem d_M_tellsApart_112 : decode (mB Y_M_tellsApart) 112 = .ok (.iconst 1, 1) := by decide +kernel
theorem d_M_tellsApart_113 : decode (mB Y_M_tellsApart) 113 = .ok (.ireturn, 1) := by decide +kernel
theorem d_M_tellsApart_114 : decode (mB Y_M_tellsApart) 114 = .ok (.iinc 6 1, 3) := by decide +kernel
theorem d_M_tellsApart_117 : decode (mB Y_M_tellsApart) 117 = .ok (.goto (-101), 3) := by decide +kernel
theorem d_M_tellsApart_120 : decode (mB Y_M_tellsApart) 120 = .ok (.iinc 5 1, 3) := by decide +kernel
theorem d_M_tellsApart_123 : decode (mB Y_M_tellsApart) 123 = .ok (.goto (-120), 3) := by decide +kernel
theorem d_M_tellsApart_126 : decode (mB Y_M_tellsApart) 126 = .ok (.iconst 0, 1) := by decide +kernel
theorem d_M_tellsApart_127 : decode (mB Y_M_tellsApart) 127 = .ok (.ireturn, 1) := by decide +kernel
theorem ro_M_tellsApart_M_size : roomy Y_M_tellsApart Y_M_size := ⟨Nat.le_of_ble_eq_true rfl, Nat.le_of_ble_eq_true rfl⟩
def r_M_tellsApart_L16 (y1_ : Int32) (y2_ : Int32) (y3_ : Int32) (y4_ : Int32) (y5_ : Int32) : Nat → Int32 → Sto → Option ((Int32) ⊕ Int32)
  | 0, _, _ => none
  | n + 1, x6_, S =>
    if 10 ≤ x6_ then
      some (.inl (x6_))
    else
      jn (fun (_ : Unit) =>
        lt (x6_ + 1) (fun v1 =>
        r_M_tellsApart_L16 y1_ y2_ y3_ y4_ y5_ n v1 S)) (fun j114 =>
      if ((y1_ >>> (y5_ &&& 31)) &&& 1) = 0 then
        j114 ()
      else
        if ((y1_ >>> (x6_ &&& 31)) &&& 1) = 0 then
          j114 ()
        else
          chk (inr ((10 * y2_) + y5_) 100) (
          chk (inr ((10 * y2_) + x6_) 100) (
          lt ((S 145 (((10 * y2_) + y5_).toNatClampNeg)) - (S 145 (((10 * y2_) + x6_).toNatClampNeg))) (fun v2 =>
          chk (inr ((10 * y3_) + y5_) 100) (
          chk (inr ((10 * y3_) + x6_) 100) (
          lt ((S 145 (((10 * y3_) + y5_).toNatClampNeg)) - (S 145 (((10 * y3_) + x6_).toNatClampNeg))) (fun v3 =>
          if (r_M_size (v2 - v3)) ≤ y4_ then
            j114 ()
          else
            some (.inr 1))))))))
def r_M_tellsApart_L3 (y1_ : Int32) (y2_ : Int32) (y3_ : Int32) (y4_ : Int32) : Nat → Int32 → Sto → Option ((Int32) ⊕ Int32)
  | 0, _, _ => none
  | n + 1, x5_, S =>
    if 10 ≤ x5_ then
      some (.inl (x5_))
    else
      lt (x5_ + 1) (fun v1 =>
      (r_M_tellsApart_L16 y1_ y2_ y3_ y4_ x5_ fu v1 S).bind (fun x => match x with
      | .inl (v2) =>
        lt (x5_ + 1) (fun v3 =>
        r_M_tellsApart_L3 y1_ y2_ y3_ y4_ n v3 S)
      | .inr r => some (.inr r)))
set_option maxHeartbeats 4000000 in
set_option maxRecDepth 20000 in
theorem w_M_tellsApart_L16 {g : Gm} {G : Gl} {L : Shp} (C : Cx g Y_M_tellsApart G) (hL : Ext L) (S : Sto) (y1_ : Int32) (y2_ : Int32) (y3_ : Int32) (y4_ : Int32) (y5_ : Int32)  :
    ∀ (n : Nat) (x6_ : Int32) (K : ((Int32) ⊕ Int32) → Option Int32), (∀ (x6_ : Int32), VO g Y_M_tellsApart G (fun z => Qm g Y_M_tellsApart G (fp L S z)) 0 0 120 [(0, rf G 104), (1, .int y1_), (2, .int y2_), (3, .int y3_), (4, .int y4_), (5, .int y5_)] [] L S (some (.inl (x6_))) K) → (∀ x, K (.inr x) = some x) → VO g Y_M_tellsApart G (fun z => Qm g Y_M_tellsApart G (fp L S z)) 0 0 16 [(0, rf G 104), (1, .int y1_), (2, .int y2_), (3, .int y3_), (4, .int y4_), (5, .int y5_), (6, .int x6_)] [] L S (r_M_tellsApart_L16 y1_ y2_ y3_ y4_ y5_ n x6_ S) K := by
  intro n
  induction n with
  | zero => intro x6_ K; intros; exact v_none
  | succ n ih =>
    intro x6_ K hK hR
    rw [r_M_tellsApart_L16]
    refine v_iload (pc := 16) C d_M_tellsApart_16 6 rfl ?_
    refine v_bipush (pc := 18) C d_M_tellsApart_18 bp_10 ?_
    refine v_icmp_ge (pc := 20) (tgt := 120) C d_M_tellsApart_20 rfl (fun _ => ?_) (fun _ => ?_)
    · refine v_sub [0, 1, 2, 3, 4, 5] rfl ?_
      exact hK x6_
    · refine v_iload_n (pc := 23) C d_M_tellsApart_23 rfl 1 rfl ?_
      refine v_iload (pc := 24) C d_M_tellsApart_24 5 rfl ?_
      refine v_ishr (pc := 26) C d_M_tellsApart_26 ?_
      refine v_iconst (pc := 27) C d_M_tellsApart_27 ic_1 ?_
      refine v_iand (pc := 28) C d_M_tellsApart_28 ?_
      refine v_jn (fun j => VO g Y_M_tellsApart G (fun z => Qm g Y_M_tellsApart G (fp L S z)) 0 0 114 [(0, rf G 104), (1, .int y1_), (2, .int y2_), (3, .int y3_), (4, .int y4_), (5, .int y5_), (6, .int x6_)] [] L S (j ()) K) (?_) (fun j114 hj114 => ?_)
      · refine v_iinc (pc := 114) (p := 6) (c := 1) C d_M_tellsApart_114 rfl (by decide) (by decide) (fun v1 => [(6, .int v1), (0, rf G 104), (1, .int y1_), (2, .int y2_), (3, .int y3_), (4, .int y4_), (5, .int y5_)]) (fun _ => rfl) (fun v1 => ?_)
        refine v_goto (pc := 117) (tgt := 16) C d_M_tellsApart_117 rfl ?_
        refine v_sub [1, 2, 3, 4, 5, 6, 0] rfl ?_
        exact ih v1 K hK hR
      · refine v_if_eq (pc := 29) (tgt := 114) C d_M_tellsApart_29 rfl (fun _ => ?_) (fun _ => ?_)
        · exact hj114
        · refine v_iload_n (pc := 32) C d_M_tellsApart_32 rfl 1 rfl ?_
          refine v_iload (pc := 33) C d_M_tellsApart_33 6 rfl ?_
          refine v_ishr (pc := 35) C d_M_tellsApart_35 ?_
          refine v_iconst (pc := 36) C d_M_tellsApart_36 ic_1 ?_
          refine v_iand (pc := 37) C d_M_tellsApart_37 ?_
          refine v_if_ne (pc := 38) (tgt := 44) C d_M_tellsApart_38 rfl (fun _ => ?_) (fun _ => ?_)
          · refine v_aload_n (pc := 44) C d_M_tellsApart_44 rfl 0 rfl ?_
            refine v_getR (pc := 45) C fl_M_147 (sh_104 hL) rfl d_M_tellsApart_45 ?_
            refine v_bipush (pc := 48) C d_M_tellsApart_48 bp_10 ?_
            refine v_iload_n (pc := 50) C d_M_tellsApart_50 rfl 2 rfl ?_
            refine v_imul (pc := 51) C d_M_tellsApart_51 ?_
            refine v_iload (pc := 52) C d_M_tellsApart_52 5 rfl ?_
            refine v_iadd (pc := 54) C d_M_tellsApart_54 ?_
            refine v_iald (pc := 55) C (sh_145 hL) d_M_tellsApart_55 (fun _ => ?_)
            refine v_aload_n (pc := 56) C d_M_tellsApart_56 rfl 0 rfl ?_
            refine v_getR (pc := 57) C fl_M_147 (sh_104 hL) rfl d_M_tellsApart_57 ?_
            refine v_bipush (pc := 60) C d_M_tellsApart_60 bp_10 ?_
            refine v_iload_n (pc := 62) C d_M_tellsApart_62 rfl 2 rfl ?_
            refine v_imul (pc := 63) C d_M_tellsApart_63 ?_
            refine v_iload (pc := 64) C d_M_tellsApart_64 6 rfl ?_
            refine v_iadd (pc := 66) C d_M_tellsApart_66 ?_
            refine v_iald (pc := 67) C (sh_145 hL) d_M_tellsApart_67 (fun _ => ?_)
            refine v_isub (pc := 68) C d_M_tellsApart_68 ?_
            refine v_lt (fun v2 => ?_)
            refine v_istore (pc := 69) (lv' := [(7, .int v2), (0, rf G 104), (1, .int y1_), (2, .int y2_), (3, .int y3_), (4, .int y4_), (5, .int y5_), (6, .int x6_)]) C d_M_tellsApart_69 (by decide) rfl ?_
            refine v_aload_n (pc := 71) C d_M_tellsApart_71 rfl 1 rfl ?_
            refine v_getR (pc := 72) C fl_M_147 (sh_104 hL) rfl d_M_tellsApart_72 ?_
            refine v_bipush (pc := 75) C d_M_tellsApart_75 bp_10 ?_
            refine v_iload_n (pc := 77) C d_M_tellsApart_77 rfl 4 rfl ?_
            refine v_imul (pc := 78) C d_M_tellsApart_78 ?_
            refine v_iload (pc := 79) C d_M_tellsApart_79 6 rfl ?_
            refine v_iadd (pc := 81) C d_M_tellsApart_81 ?_
            refine v_iald (pc := 82) C (sh_145 hL) d_M_tellsApart_82 (fun _ => ?_)
            refine v_aload_n (pc := 83) C d_M_tellsApart_83 rfl 1 rfl ?_
            refine v_getR (pc := 84) C fl_M_147 (sh_104 hL) rfl d_M_tellsApart_84 ?_
            refine v_bipush (pc := 87) C d_M_tellsApart_87 bp_10 ?_
            refine v_iload_n (pc := 89) C d_M_tellsApart_89 rfl 4 rfl ?_
            refine v_imul (pc := 90) C d_M_tellsApart_90 ?_
            refine v_iload (pc := 91) C d_M_tellsApart_91 7 rfl ?_
            refine v_iadd (pc := 93) C d_M_tellsApart_93 ?_
            refine v_iald (pc := 94) C (sh_145 hL) d_M_tellsApart_94 (fun _ => ?_)
            refine v_isub (pc := 95) C d_M_tellsApart_95 ?_
            refine v_lt (fun v3 => ?_)
            refine v_istore (pc := 96) (lv' := [(8, .int v3), (7, .int v2), (0, rf G 104), (1, .int y1_), (2, .int y2_), (3, .int y3_), (4, .int y4_), (5, .int y5_), (6, .int x6_)]) C d_M_tellsApart_96 (by decide) rfl ?_
            refine v_aload_n (pc := 98) C d_M_tellsApart_98 rfl 2 rfl ?_
            refine v_iload (pc := 99) C d_M_tellsApart_99 1 rfl ?_
            refine v_iload (pc := 101) C d_M_tellsApart_101 0 rfl ?_
            refine v_isub (pc := 103) C d_M_tellsApart_103 ?_
            refine v_ct (pc := 104) (inv_V (As := [.int (v2 - v3)]) (st := []) C ml_M_215 mv_M_size ro_M_tellsApart_M_size (sh_104 hL) rfl rfl rfl rfl (Nat.le_of_ble_eq_true rfl) d_M_tellsApart_104) (c_M_size hL S (v2 - v3)) ⟨rfl, rfl⟩ ⟨Nat.zero_le _, Nat.zero_le _⟩ ?_
            refine v_iload (pc := 107) C d_M_tellsApart_107 6 rfl ?_
            refine v_icmp_le (pc := 109) (tgt := 114) C d_M_tellsApart_109 rfl (fun _ => ?_) (fun _ => ?_)
            · refine v_sub [2, 3, 4, 5, 6, 7, 8] rfl ?_
              exact hj114
            · refine v_iconst (pc := 112) C d_M_tellsApart_112 ic_1 ?_
              exact v_zret (z := 1) C d_M_tellsApart_113 rfl (b01_n (by decide)) ⟨Nat.zero_le _, Nat.zero_le _⟩ (hR _) rfl
          · refine v_goto (pc := 41) (tgt := 114) C d_M_tellsApart_41 rfl ?_
            exact hj114
set_option maxHeartbeats 4000000 in
set_option maxRecDepth 20000 in
theorem w_M_tellsApart_L3 {g : Gm} {G : Gl} {L : Shp} (C : Cx g Y_M_tellsApart G) (hL : Ext L) (S : Sto) (y1_ : Int32) (y2_ : Int32) (y3_ : Int32) (y4_ : Int32)  :
    ∀ (n : Nat) (x5_ : Int32) (K : ((Int32) ⊕ Int32) → Option Int32), (∀ (x5_ : Int32), VO g Y_M_tellsApart G (fun z => Qm g Y_M_tellsApart G (fp L S z)) 0 0 126 [] [] L S (some (.inl (x5_))) K) → (∀ x, K (.inr x) = some x) → VO g Y_M_tellsApart G (fun z => Qm g Y_M_tellsApart G (fp L S z)) 0 0 3 [(0, rf G 104), (1, .int y1_), (2, .int y2_), (3, .int y3_), (4, .int y4_), (5, .int x5_)] [] L S (r_M_tellsApart_L3 y1_ y2_ y3_ y4_ n x5_ S) K := by
  intro n
  induction n with
  | zero => intro x5_ K; intros; exact v_none
  | succ n ih =>
    intro x5_ K hK hR
    rw [r_M_tellsApart_L3]
    refine v_iload (pc := 3) C d_M_tellsApart_3 5 rfl ?_
    refine v_bipush (pc := 5) C d_M_tellsApart_5 bp_10 ?_
    refine v_icmp_ge (pc := 7) (tgt := 126) C d_M_tellsApart_7 rfl (fun _ => ?_) (fun _ => ?_)
    · refine v_sub [] rfl ?_
      exact hK x5_
    · refine v_iload (pc := 10) C d_M_tellsApart_10 5 rfl ?_
      refine v_iconst (pc := 12) C d_M_tellsApart_12 ic_1 ?_
      refine v_iadd (pc := 13) C d_M_tellsApart_13 ?_
      refine v_lt (fun v1 => ?_)
      refine v_istore (pc := 14) (lv' := [(6, .int v1), (0, rf G 104), (1, .int y1_), (2, .int y2_), (3, .int y3_), (4, .int y4_), (5, .int x5_)]) C d_M_tellsApart_14 (by decide) rfl ?_
      refine v_sub [1, 2, 3, 4, 5, 6, 0] rfl ?_
      refine v_bind ?_
      refine w_M_tellsApart_L16 C hL S y1_ y2_ y3_ y4_ x5_  fu v1 _ (fun v2 => ?_) (fun z => hR z)
      refine v_some ?_
      refine v_iinc (pc := 120) (p := 5) (c := 1) C d_M_tellsApart_120 rfl (by decide) (by decide) (fun v3 => [(5, .int v3), (0, rf G 104), (1, .int y1_), (2, .int y2_), (3, .int y3_), (4, .int y4_)]) (fun _ => rfl) (fun v3 => ?_)
      refine v_goto (pc := 123) (tgt := 3) C d_M_tellsApart_123 rfl ?_
      refine v_sub [1, 2, 3, 4, 5, 0] rfl ?_
      exact ih v3 K hK hR
def r_M_tellsApart (x1 : Int32) (x2 : Int32) (x3 : Int32) (x4 : Int32) (S : Sto) : Option Int32 :=
  (r_M_tellsApart_L3 x1 x2 x3 x4 fu 0 S).bind (fun x => match x with
  | .inl (v1) =>
    some 0
  | .inr r => some r)
set_option maxHeartbeats 4000000 in
set_option maxRecDepth 20000 in
theorem c_M_tellsApart {G : Gl} {L : Shp} (hL : Ext L) (S : Sto) (x1 : Int32) (x2 : Int32) (x3 : Int32) (x4 : Int32)  : Ct Y_M_tellsApart G [rf G 104, .int x1, .int x2, .int x3, .int x4] L S (fp L S) (r_M_tellsApart x1 x2 x3 x4 S) := by
  refine ct_of (by decide +kernel) (Nat.le_of_ble_eq_true rfl) (fun g C => ?_)
  show VO g Y_M_tellsApart G (fun z => Qm g Y_M_tellsApart G (fp L S z)) 0 0 0 [(0, rf G 104), (1, .int x1), (2, .int x2), (3, .int x3), (4, .int x4)] [] L S (r_M_tellsApart x1 x2 x3 x4 S) some
  unfold r_M_tellsApart
  refine v_iconst (pc := 0) C d_M_tellsApart_0 ic_0 ?_
  refine v_istore (pc := 1) (lv' := [(5, .int 0), (0, rf G 104), (1, .int x1), (2, .int x2), (3, .int x3), (4, .int x4)]) C d_M_tellsApart_1 (by decide) rfl ?_
  refine v_sub [1, 2, 3, 4, 5, 0] rfl ?_
  refine v_bind ?_
  refine w_M_tellsApart_L3 C hL S x1 x2 x3 x4  fu 0 _ (fun v1 => ?_) (fun z => rfl)
  refine v_some ?_
  refine v_iconst (pc := 126) C d_M_tellsApart_126 ic_0 ?_
  exact v_zret (z := 0) C d_M_tellsApart_127 rfl (b01_n (by decide)) ⟨Nat.zero_le _, Nat.zero_le _⟩ (rfl) rfl
-- M_apartBy
theorem d_M_apartBy_0 : decode (mB Y_M_apartBy) 0 = .ok (.iconst 0, 1) := by decide +kernel
theorem d_M_apartBy_1 : decode (mB Y_M_apartBy) 1 = .ok (.istore_n 3, 1) := by decide +kernel
theorem d_M_apartBy_2 : decode (mB Y_M_apartBy) 2 = .ok (.iconst 0, 1) := by decide +kernel
theorem d_M_apartBy_3 : decode (mB Y_M_apartBy) 3 = .ok (.istore 4, 2) := by decide +kernel
theorem d_M_apartBy_5 : decode (mB Y_M_apartBy) 5 = .ok (.iload 4, 2) := by decide +kernel
theorem d_M_apartBy_7 : decode (mB Y_M_apartBy) 7 = .ok (.bipush 10, 2) := by decide +kernel
theorem d_M_apartBy_9 : decode (mB Y_M_apartBy) 9 = .ok (.if_icmp .ge 63, 3) := by decide +kernel
theorem d_M_apartBy_12 : decode (mB Y_M_apartBy) 12 = .ok (.iload 4, 2) := by decide +kernel
theorem d_M_apartBy_14 : decode (mB Y_M_apartBy) 14 = .ok (.iconst 1, 1) := by decide +kernel
theorem d_M_apartBy_15 : decode (mB Y_M_apartBy) 15 = .ok (.iadd, 1) := by decide +kernel
theorem d_M_apartBy_16 : decode (mB Y_M_apartBy) 16 = .ok (.istore 5, 2) := by decide +kernel
theorem d_M_apartBy_18 : decode (mB Y_M_apartBy) 18 = .ok (.iload 5, 2) := by decide +kernel
theorem d_M_apartBy_20 : decode (mB Y_M_apartBy) 20 = .ok (.bipush 10, 2) := by decide +kernel
theorem d_M_apartBy_22 : decode (mB Y_M_apartBy) 22 = .ok (.if_icmp .ge 44, 3) := by decide +kernel
theorem d_M_apartBy_25 : decode (mB Y_M_apartBy) 25 = .ok (.aload_n 0, 1) := by decide +kernel
theorem d_M_apartBy_26 : decode (mB Y_M_apartBy) 26 = .ok (.iload 4, 2) := by decide +kernel
theorem d_M_apartBy_28 : decode (mB Y_M_apartBy) 28 = .ok (.invokevirtual 406, 3) := by decide +kernel
theorem d_M_apartBy_31 : decode (mB Y_M_apartBy) 31 = .ok (.ifCond .eq 29, 3) := by decide +kernel
theorem d_M_apartBy_34 : decode (mB Y_M_apartBy) 34 = .ok (.aload_n 0, 1) := by decide +kernel
theorem d_M_apartBy_35 : decode (mB Y_M_apartBy) 35 = .ok (.iload 5, 2) := by decide +kernel
theorem d_M_apartBy_37 : decode (mB Y_M_apartBy) 37 = .ok (.invokevirtual 406, 3) := by decide +kernel
theorem d_M_apartBy_40 : decode (mB Y_M_apartBy) 40 = .ok (.ifCond .eq 20, 3) := by decide +kernel
theorem d_M_apartBy_43 : decode (mB Y_M_apartBy) 43 = .ok (.aload_n 0, 1) := by decide +kernel
theorem d_M_apartBy_44 : decode (mB Y_M_apartBy) 44 = .ok (.iload_n 1, 1) := by decide +kernel
theorem d_M_apartBy_45 : decode (mB Y_M_apartBy) 45 = .ok (.iload 4, 2) := by decide +kernel
theorem d_M_apartBy_47 : decode (mB Y_M_apartBy) 47 = .ok (.iload 5, 2) := by decide +kernel
theorem d_M_apartBy_49 : decode (mB Y_M_apartBy) 49 = .ok (.iload_n 2, 1) := by decide +kernel
theorem d_M_apartBy_50 : decode (mB Y_M_apartBy) 50 = .ok (.invokevirtual 441, 3) := by decide +kernel
theorem d_M_apartBy_53 : decode (mB Y_M_apartBy) 53 = .ok (.ifCond .eq 7, 3) := by decide +kernel
theorem d_M_apartBy_56 : decode (mB Y_M_apartBy) 56 = .ok (.iload_n 3, 1) := by decide +kernel
theorem d_M_apartBy_57 : decode (mB Y_M_apartBy) 57 = .ok (.iconst 1, 1) := by decide +kernel
theorem d_M_apartBy_58 : decode (mB Y_M_apartBy) 58 = .ok (.iadd, 1) := by decide +kernel
theorem d_M_apartBy_59 : decode (mB Y_M_apartBy) 59 = .ok (.istore_n 3, 1) := by decide +kernel
theorem d_M_apartBy_60 : decode (mB Y_M_apartBy) 60 = .ok (.iinc 5 1, 3) := by decide +kernel
theorem d_M_apartBy_63 : decode (mB Y_M_apartBy) 63 = .ok (.goto (-45), 3) := by decide +kernel
theorem d_M_apartBy_66 : decode (mB Y_M_apartBy) 66 = .ok (.iinc 4 1, 3) := by decide +kernel
theorem d_M_apartBy_69 : decode (mB Y_M_apartBy) 69 = .ok (.goto (-64), 3) := by decide +kernel
theorem d_M_apartBy_72 : decode (mB Y_M_apartBy) 72 = .ok (.iload_n 3, 1) := by decide +kernel
theorem d_M_apartBy_73 : decode (mB Y_M_apartBy) 73 = .ok (.ireturn, 1) := by decide +kernel
theorem ro_M_apartBy_M_isSpot : roomy Y_M_apartBy Y_M_isSpot := ⟨Nat.le_of_ble_eq_true rfl, Nat.le_of_ble_eq_true rfl⟩
theorem ro_M_apartBy_M_tellsApart : roomy Y_M_apartBy Y_M_tellsApart := ⟨Nat.le_of_ble_eq_true rfl, Nat.le_of_ble_eq_true rfl⟩
def r_M_apartBy_L18 (y1_ : Int32) (y2_ : Int32) (y4_ : Int32) : Nat → Int32 → Int32 → Sto → Option (Int32 × Int32)
  | 0, _, _, _ => none
  | n + 1, x3_, x5_, S =>
    if 10 ≤ x5_ then
      some (x3_, x5_)
    else
      (r_M_isSpot y4_ S).bind (fun r1 =>
      jn (fun (v2 : Int32) =>
        lt (x5_ + 1) (fun v3 =>
        r_M_apartBy_L18 y1_ y2_ y4_ n v2 v3 S)) (fun j60 =>
      if r1 = 0 then
        j60 (x3_)
      else
        (r_M_isSpot x5_ S).bind (fun r4 =>
        if r4 = 0 then
          j60 (x3_)
        else
          (r_M_tellsApart y1_ y4_ x5_ y2_ S).bind (fun r5 =>
          if r5 = 0 then
            j60 (x3_)
          else
            lt (x3_ + 1) (fun v6 =>
            j60 (v6))))))
def r_M_apartBy_L5 (y1_ : Int32) (y2_ : Int32) : Nat → Int32 → Int32 → Sto → Option (Int32 × Int32)
  | 0, _, _, _ => none
  | n + 1, x3_, x4_, S =>
    if 10 ≤ x4_ then
      some (x3_, x4_)
    else
      lt (x4_ + 1) (fun v1 =>
      (r_M_apartBy_L18 y1_ y2_ x4_ fu x3_ v1 S).bind (fun (v2, v3) =>
      lt (x4_ + 1) (fun v4 =>
      r_M_apartBy_L5 y1_ y2_ n v2 v4 S)))
set_option maxHeartbeats 4000000 in
set_option maxRecDepth 20000 in
theorem w_M_apartBy_L18 {g : Gm} {G : Gl} {L : Shp} (C : Cx g Y_M_apartBy G) (hL : Ext L) (S : Sto) (y1_ : Int32) (y2_ : Int32) (y4_ : Int32)  :
    ∀ (n : Nat) (x3_ : Int32) (x5_ : Int32) (K : (Int32 × Int32) → Option Int32), (∀ (x3_ : Int32) (x5_ : Int32), VO g Y_M_apartBy G (fun z => Qm g Y_M_apartBy G (fp L S z)) 0 0 66 [(0, rf G 104), (1, .int y1_), (2, .int y2_), (3, .int x3_), (4, .int y4_)] [] L S (some (x3_, x5_)) K) → VO g Y_M_apartBy G (fun z => Qm g Y_M_apartBy G (fp L S z)) 0 0 18 [(0, rf G 104), (1, .int y1_), (2, .int y2_), (3, .int x3_), (4, .int y4_), (5, .int x5_)] [] L S (r_M_apartBy_L18 y1_ y2_ y4_ n x3_ x5_ S) K := by
  intro n
  induction n with
  | zero => intro x3_ x5_ K; intros; exact v_none
  | succ n ih =>
    intro x3_ x5_ K hK
    rw [r_M_apartBy_L18]
    refine v_iload (pc := 18) C d_M_apartBy_18 5 rfl ?_
    refine v_bipush (pc := 20) C d_M_apartBy_20 bp_10 ?_
    refine v_icmp_ge (pc := 22) (tgt := 66) C d_M_apartBy_22 rfl (fun _ => ?_) (fun _ => ?_)
    · refine v_sub [0, 1, 2, 3, 4] rfl ?_
      exact hK x3_ x5_
    · refine v_aload_n (pc := 25) C d_M_apartBy_25 rfl 0 rfl ?_
      refine v_iload (pc := 26) C d_M_apartBy_26 4 rfl ?_
      refine v_cp (pc := 28) (inv_V (As := [.int y4_]) (st := []) C ml_M_406 mv_M_isSpot ro_M_apartBy_M_isSpot (sh_104 hL) rfl rfl rfl rfl (Nat.le_of_ble_eq_true rfl) d_M_apartBy_28) (c_M_isSpot hL S y4_) ⟨rfl, rfl⟩ ⟨Nat.zero_le _, Nat.zero_le _⟩ (fun r1 => ?_)
      refine v_jn (fun j => ∀ (v2 : Int32), VO g Y_M_apartBy G (fun z => Qm g Y_M_apartBy G (fp L S z)) 0 0 60 [(0, rf G 104), (1, .int y1_), (2, .int y2_), (3, .int v2), (4, .int y4_), (5, .int x5_)] [] L S (j (v2)) K) (fun v2 => ?_) (fun j60 hj60 => ?_)
      · refine v_iinc (pc := 60) (p := 5) (c := 1) C d_M_apartBy_60 rfl (by decide) (by decide) (fun v3 => [(5, .int v3), (0, rf G 104), (1, .int y1_), (2, .int y2_), (3, .int v2), (4, .int y4_)]) (fun _ => rfl) (fun v3 => ?_)
        refine v_goto (pc := 63) (tgt := 18) C d_M_apartBy_63 rfl ?_
        refine v_sub [1, 2, 3, 4, 5, 0] rfl ?_
        exact ih v2 v3 K hK
      · refine v_if_eq (pc := 31) (tgt := 60) C d_M_apartBy_31 rfl (fun _ => ?_) (fun _ => ?_)
        · exact hj60 x3_
        · refine v_aload_n (pc := 34) C d_M_apartBy_34 rfl 0 rfl ?_
          refine v_iload (pc := 35) C d_M_apartBy_35 5 rfl ?_
          refine v_cp (pc := 37) (inv_V (As := [.int x5_]) (st := []) C ml_M_406 mv_M_isSpot ro_M_apartBy_M_isSpot (sh_104 hL) rfl rfl rfl rfl (Nat.le_of_ble_eq_true rfl) d_M_apartBy_37) (c_M_isSpot hL S x5_) ⟨rfl, rfl⟩ ⟨Nat.zero_le _, Nat.zero_le _⟩ (fun r4 => ?_)
          refine v_if_eq (pc := 40) (tgt := 60) C d_M_apartBy_40 rfl (fun _ => ?_) (fun _ => ?_)
          · exact hj60 x3_
          · refine v_aload_n (pc := 43) C d_M_apartBy_43 rfl 0 rfl ?_
            refine v_iload_n (pc := 44) C d_M_apartBy_44 rfl 1 rfl ?_
            refine v_iload (pc := 45) C d_M_apartBy_45 4 rfl ?_
            refine v_iload (pc := 47) C d_M_apartBy_47 5 rfl ?_
            refine v_iload_n (pc := 49) C d_M_apartBy_49 rfl 2 rfl ?_
            refine v_cp (pc := 50) (inv_V (As := [.int y1_, .int y4_, .int x5_, .int y2_]) (st := []) C ml_M_441 mv_M_tellsApart ro_M_apartBy_M_tellsApart (sh_104 hL) rfl rfl rfl rfl (Nat.le_of_ble_eq_true rfl) d_M_apartBy_50) (c_M_tellsApart hL S y1_ y4_ x5_ y2_) ⟨rfl, rfl⟩ ⟨Nat.zero_le _, Nat.zero_le _⟩ (fun r5 => ?_)
            refine v_if_eq (pc := 53) (tgt := 60) C d_M_apartBy_53 rfl (fun _ => ?_) (fun _ => ?_)
            · exact hj60 x3_
            · refine v_iload_n (pc := 56) C d_M_apartBy_56 rfl 3 rfl ?_
              refine v_iconst (pc := 57) C d_M_apartBy_57 ic_1 ?_
              refine v_iadd (pc := 58) C d_M_apartBy_58 ?_
              refine v_lt (fun v6 => ?_)
              refine v_istore_n (pc := 59) (lv' := [(3, .int v6), (0, rf G 104), (1, .int y1_), (2, .int y2_), (4, .int y4_), (5, .int x5_)]) C d_M_apartBy_59 rfl (by decide) rfl ?_
              refine v_sub [1, 2, 3, 0, 4, 5] rfl ?_
              exact hj60 v6
set_option maxHeartbeats 4000000 in
set_option maxRecDepth 20000 in
theorem w_M_apartBy_L5 {g : Gm} {G : Gl} {L : Shp} (C : Cx g Y_M_apartBy G) (hL : Ext L) (S : Sto) (y1_ : Int32) (y2_ : Int32)  :
    ∀ (n : Nat) (x3_ : Int32) (x4_ : Int32) (K : (Int32 × Int32) → Option Int32), (∀ (x3_ : Int32) (x4_ : Int32), VO g Y_M_apartBy G (fun z => Qm g Y_M_apartBy G (fp L S z)) 0 0 72 [(3, .int x3_)] [] L S (some (x3_, x4_)) K) → VO g Y_M_apartBy G (fun z => Qm g Y_M_apartBy G (fp L S z)) 0 0 5 [(0, rf G 104), (1, .int y1_), (2, .int y2_), (3, .int x3_), (4, .int x4_)] [] L S (r_M_apartBy_L5 y1_ y2_ n x3_ x4_ S) K := by
  intro n
  induction n with
  | zero => intro x3_ x4_ K; intros; exact v_none
  | succ n ih =>
    intro x3_ x4_ K hK
    rw [r_M_apartBy_L5]
    refine v_iload (pc := 5) C d_M_apartBy_5 4 rfl ?_
    refine v_bipush (pc := 7) C d_M_apartBy_7 bp_10 ?_
    refine v_icmp_ge (pc := 9) (tgt := 72) C d_M_apartBy_9 rfl (fun _ => ?_) (fun _ => ?_)
    · refine v_sub [3] rfl ?_
      exact hK x3_ x4_
    · refine v_iload (pc := 12) C d_M_apartBy_12 4 rfl ?_
      refine v_iconst (pc := 14) C d_M_apartBy_14 ic_1 ?_
      refine v_iadd (pc := 15) C d_M_apartBy_15 ?_
      refine v_lt (fun v1 => ?_)
      refine v_istore (pc := 16) (lv' := [(5, .int v1), (0, rf G 104), (1, .int y1_), (2, .int y2_), (3, .int x3_), (4, .int x4_)]) C d_M_apartBy_16 (by decide) rfl ?_
      refine v_sub [1, 2, 3, 4, 5, 0] rfl ?_
      refine v_bind ?_
      refine w_M_apartBy_L18 C hL S y1_ y2_ x4_  fu x3_ v1 _ (fun v2 v3 => ?_) 
      refine v_some ?_
      refine v_iinc (pc := 66) (p := 4) (c := 1) C d_M_apartBy_66 rfl (by decide) (by decide) (fun v4 => [(4, .int v4), (0, rf G 104), (1, .int y1_), (2, .int y2_), (3, .int v2)]) (fun _ => rfl) (fun v4 => ?_)
      refine v_goto (pc := 69) (tgt := 5) C d_M_apartBy_69 rfl ?_
      refine v_sub [1, 2, 3, 4, 0] rfl ?_
      exact ih v2 v4 K hK
def r_M_apartBy (x1 : Int32) (x2 : Int32) (S : Sto) : Option Int32 :=
  (r_M_apartBy_L5 x1 x2 fu 0 0 S).bind (fun (v1, v2) =>
  some v1)
set_option maxHeartbeats 4000000 in
set_option maxRecDepth 20000 in
theorem c_M_apartBy {G : Gl} {L : Shp} (hL : Ext L) (S : Sto) (x1 : Int32) (x2 : Int32)  : Ct Y_M_apartBy G [rf G 104, .int x1, .int x2] L S (fp L S) (r_M_apartBy x1 x2 S) := by
  refine ct_of (by decide +kernel) (Nat.le_of_ble_eq_true rfl) (fun g C => ?_)
  show VO g Y_M_apartBy G (fun z => Qm g Y_M_apartBy G (fp L S z)) 0 0 0 [(0, rf G 104), (1, .int x1), (2, .int x2)] [] L S (r_M_apartBy x1 x2 S) some
  unfold r_M_apartBy
  refine v_iconst (pc := 0) C d_M_apartBy_0 ic_0 ?_
  refine v_istore_n (pc := 1) (lv' := [(3, .int 0), (0, rf G 104), (1, .int x1), (2, .int x2)]) C d_M_apartBy_1 rfl (by decide) rfl ?_
  refine v_iconst (pc := 2) C d_M_apartBy_2 ic_0 ?_
  refine v_istore (pc := 3) (lv' := [(4, .int 0), (3, .int 0), (0, rf G 104), (1, .int x1), (2, .int x2)]) C d_M_apartBy_3 (by decide) rfl ?_
  refine v_sub [2, 3, 4, 1, 0] rfl ?_
  refine v_bind ?_
  refine w_M_apartBy_L5 C hL S x1 x2  fu 0 0 _ (fun v1 v2 => ?_) 
  refine v_some ?_
  refine v_iload_n (pc := 72) C d_M_apartBy_72 rfl 0 rfl ?_
  exact v_iret (z := v1) C d_M_apartBy_73 rfl ⟨Nat.zero_le _, Nat.zero_le _⟩ (rfl) rfl
-- M_apart
theorem d_M_apart_0 : decode (mB Y_M_apart) 0 = .ok (.aload_n 0, 1) := by decide +kernel
theorem d_M_apart_1 : decode (mB Y_M_apart) 1 = .ok (.iconst 0, 1) := by decide +kernel
theorem d_M_apart_2 : decode (mB Y_M_apart) 2 = .ok (.putfield 150, 3) := by decide +kernel
theorem d_M_apart_5 : decode (mB Y_M_apart) 5 = .ok (.aload_n 0, 1) := by decide +kernel
theorem d_M_apart_6 : decode (mB Y_M_apart) 6 = .ok (.iload_n 1, 1) := by decide +kernel
theorem d_M_apart_7 : decode (mB Y_M_apart) 7 = .ok (.iconst 0, 1) := by decide +kernel
theorem d_M_apart_8 : decode (mB Y_M_apart) 8 = .ok (.sipush 1023, 3) := by decide +kernel
theorem d_M_apart_11 : decode (mB Y_M_apart) 11 = .ok (.invokevirtual 153, 3) := by decide +kernel
theorem d_M_apart_14 : decode (mB Y_M_apart) 14 = .ok (.ifCond .eq 26, 3) := by decide +kernel
theorem d_M_apart_17 : decode (mB Y_M_apart) 17 = .ok (.iload_n 1, 1) := by decide +kernel
theorem d_M_apart_18 : decode (mB Y_M_apart) 18 = .ok (.aload_n 0, 1) := by decide +kernel
theorem d_M_apart_19 : decode (mB Y_M_apart) 19 = .ok (.invokevirtual 435, 3) := by decide +kernel
theorem d_M_apart_22 : decode (mB Y_M_apart) 22 = .ok (.iconst (-1), 1) := by decide +kernel
theorem d_M_apart_23 : decode (mB Y_M_apart) 23 = .ok (.ixor, 1) := by decide +kernel
theorem d_M_apart_24 : decode (mB Y_M_apart) 24 = .ok (.iand, 1) := by decide +kernel
theorem d_M_apart_25 : decode (mB Y_M_apart) 25 = .ok (.ifCond .ne 15, 3) := by decide +kernel
theorem d_M_apart_28 : decode (mB Y_M_apart) 28 = .ok (.aload_n 0, 1) := by decide +kernel
theorem d_M_apart_29 : decode (mB Y_M_apart) 29 = .ok (.iload_n 2, 1) := by decide +kernel
theorem d_M_apart_30 : decode (mB Y_M_apart) 30 = .ok (.iconst 0, 1) := by decide +kernel
theorem d_M_apart_31 : decode (mB Y_M_apart) 31 = .ok (.sipush 999, 3) := by decide +kernel
theorem d_M_apart_34 : decode (mB Y_M_apart) 34 = .ok (.invokevirtual 153, 3) := by decide +kernel
theorem d_M_apart_37 : decode (mB Y_M_apart) 37 = .ok (.ifCond .ne 5, 3) := by decide +kernel
theorem d_M_apart_40 : decode (mB Y_M_apart) 40 = .ok (.iconst (-1), 1) := by decide +kernel
theorem d_M_apart_41 : decode (mB Y_M_apart) 41 = .ok (.ireturn, 1) := by decide +kernel
theorem d_M_apart_42 : decode (mB Y_M_apart) 42 = .ok (.aload_n 0, 1) := by decide +kernel
theorem d_M_apart_43 : decode (mB Y_M_apart) 43 = .ok (.invokevirtual 445, 3) := by decide +kernel
theorem d_M_apart_46 : decode (mB Y_M_apart) 46 = .ok (.aload_n 0, 1) := by decide +kernel
theorem d_M_apart_47 : decode (mB Y_M_apart) 47 = .ok (.iload_n 1, 1) := by decide +kernel
theorem d_M_apart_48 : decode (mB Y_M_apart) 48 = .ok (.iload_n 2, 1) := by decide +kernel
theorem d_M_apart_49 : decode (mB Y_M_apart) 49 = .ok (.invokevirtual 448, 3) := by decide +kernel
theorem d_M_apart_52 : decode (mB Y_M_apart) 52 = .ok (.ireturn, 1) := by decide +kernel
theorem ro_M_apart_M_apartBy : roomy Y_M_apart Y_M_apartBy := ⟨Nat.le_of_ble_eq_true rfl, Nat.le_of_ble_eq_true rfl⟩
theorem ro_M_apart_M_findsTable : roomy Y_M_apart Y_M_findsTable := ⟨Nat.le_of_ble_eq_true rfl, Nat.le_of_ble_eq_true rfl⟩
theorem ro_M_apart_M_isIn : roomy Y_M_apart Y_M_isIn := ⟨Nat.le_of_ble_eq_true rfl, Nat.le_of_ble_eq_true rfl⟩
theorem ro_M_apart_M_there : roomy Y_M_apart Y_M_there := ⟨Nat.le_of_ble_eq_true rfl, Nat.le_of_ble_eq_true rfl⟩
def r_M_apart (x1 : Int32) (x2 : Int32) (S : Sto) : Option (Int32 × Sto) :=
  ltS (sw S 104 0 0) (fun S1 =>
  if (r_M_isIn x1 0 1023) = 0 then
    some ((-1), S1)
  else
    (r_M_there S1).bind (fun r2 =>
    if (x1 &&& (r2 ^^^ (-1))) = 0 then
      if (r_M_isIn x2 0 999) = 0 then
        some ((-1), S1)
      else
        (r_M_findsTable S1).bind (fun S3 =>
        (r_M_apartBy x1 x2 S3).bind (fun r4 =>
        some (r4, S3)))
    else
      some ((-1), S1)))
set_option maxHeartbeats 4000000 in
set_option maxRecDepth 20000 in
theorem c_M_apart {G : Gl} {L : Shp} (hL : Ext L) (S : Sto) (x1 : Int32) (x2 : Int32)  : Ct Y_M_apart G [rf G 104, .int x1, .int x2] L S (fi L) (r_M_apart x1 x2 S) := by
  refine ct_of (by decide +kernel) (Nat.le_of_ble_eq_true rfl) (fun g C => ?_)
  show VO g Y_M_apart G (fun z => Qm g Y_M_apart G (fi L z)) 0 0 0 [(0, rf G 104), (1, .int x1), (2, .int x2)] [] L S (r_M_apart x1 x2 S) some
  unfold r_M_apart
  refine v_aload_n (pc := 0) C d_M_apart_0 rfl 0 rfl ?_
  refine v_iconst (pc := 1) C d_M_apart_1 ic_0 ?_
  refine v_putI (pc := 2) C fp_M_150 (sh_104 hL) rfl d_M_apart_2 (fun S1 => ?_)
  refine v_aload_n (pc := 5) C d_M_apart_5 rfl 0 rfl ?_
  refine v_iload_n (pc := 6) C d_M_apart_6 rfl 1 rfl ?_
  refine v_iconst (pc := 7) C d_M_apart_7 ic_0 ?_
  refine v_sipush (pc := 8) C d_M_apart_8 sp_1023 ?_
  refine v_ct (pc := 11) (inv_V (As := [.int x1, .int 0, .int 1023]) (st := []) C ml_M_153 mv_M_isIn ro_M_apart_M_isIn (sh_104 hL) rfl rfl rfl rfl (Nat.le_of_ble_eq_true rfl) d_M_apart_11) (c_M_isIn hL S1 x1 0 1023) ⟨rfl, rfl⟩ ⟨Nat.zero_le _, Nat.zero_le _⟩ ?_
  refine v_if_eq (pc := 14) (tgt := 40) C d_M_apart_14 rfl (fun _ => ?_) (fun _ => ?_)
  · refine v_iconst (pc := 40) C d_M_apart_40 ic_m1 ?_
    exact v_iret (z := ((-1), S1)) C d_M_apart_41 rfl ⟨Nat.zero_le _, Nat.zero_le _⟩ (rfl) rfl
  · refine v_iload_n (pc := 17) C d_M_apart_17 rfl 1 rfl ?_
    refine v_aload_n (pc := 18) C d_M_apart_18 rfl 0 rfl ?_
    refine v_cp (pc := 19) (inv_V (As := []) (st := [.int x1]) C ml_M_435 mv_M_there ro_M_apart_M_there (sh_104 hL) rfl rfl rfl rfl (Nat.le_of_ble_eq_true rfl) d_M_apart_19) (c_M_there hL S1) ⟨rfl, rfl⟩ ⟨Nat.zero_le _, Nat.zero_le _⟩ (fun r2 => ?_)
    refine v_iconst (pc := 22) C d_M_apart_22 ic_m1 ?_
    refine v_ixor (pc := 23) C d_M_apart_23 ?_
    refine v_iand (pc := 24) C d_M_apart_24 ?_
    refine v_if_ne (pc := 25) (tgt := 40) C d_M_apart_25 rfl (fun _ => ?_) (fun _ => ?_)
    · refine v_iconst (pc := 40) C d_M_apart_40 ic_m1 ?_
      exact v_iret (z := ((-1), S1)) C d_M_apart_41 rfl ⟨Nat.zero_le _, Nat.zero_le _⟩ (rfl) rfl
    · refine v_aload_n (pc := 28) C d_M_apart_28 rfl 0 rfl ?_
      refine v_iload_n (pc := 29) C d_M_apart_29 rfl 2 rfl ?_
      refine v_iconst (pc := 30) C d_M_apart_30 ic_0 ?_
      refine v_sipush (pc := 31) C d_M_apart_31 sp_999 ?_
      refine v_ct (pc := 34) (inv_V (As := [.int x2, .int 0, .int 999]) (st := []) C ml_M_153 mv_M_isIn ro_M_apart_M_isIn (sh_104 hL) rfl rfl rfl rfl (Nat.le_of_ble_eq_true rfl) d_M_apart_34) (c_M_isIn hL S1 x2 0 999) ⟨rfl, rfl⟩ ⟨Nat.zero_le _, Nat.zero_le _⟩ ?_
      refine v_if_ne (pc := 37) (tgt := 42) C d_M_apart_37 rfl (fun _ => ?_) (fun _ => ?_)
      · refine v_aload_n (pc := 42) C d_M_apart_42 rfl 0 rfl ?_
        refine v_cv (pc := 43) (inv_V (As := []) (st := []) C ml_M_445 mv_M_findsTable ro_M_apart_M_findsTable (sh_104 hL) rfl rfl rfl rfl (Nat.le_of_ble_eq_true rfl) d_M_apart_43) (c_M_findsTable hL S1) ⟨rfl, rfl⟩ ⟨Nat.zero_le _, Nat.zero_le _⟩ (fun S3 => ?_)
        refine v_aload_n (pc := 46) C d_M_apart_46 rfl 0 rfl ?_
        refine v_iload_n (pc := 47) C d_M_apart_47 rfl 1 rfl ?_
        refine v_iload_n (pc := 48) C d_M_apart_48 rfl 2 rfl ?_
        refine v_cp (pc := 49) (inv_V (As := [.int x1, .int x2]) (st := []) C ml_M_448 mv_M_apartBy ro_M_apart_M_apartBy (sh_104 hL) rfl rfl rfl rfl (Nat.le_of_ble_eq_true rfl) d_M_apart_49) (c_M_apartBy hL S3 x1 x2) ⟨rfl, rfl⟩ ⟨Nat.zero_le _, Nat.zero_le _⟩ (fun r4 => ?_)
        exact v_iret (z := (r4, S3)) C d_M_apart_52 rfl ⟨Nat.zero_le _, Nat.zero_le _⟩ (rfl) rfl
      · refine v_iconst (pc := 40) C d_M_apart_40 ic_m1 ?_
        exact v_iret (z := ((-1), S1)) C d_M_apart_41 rfl ⟨Nat.zero_le _, Nat.zero_le _⟩ (rfl) rfl
