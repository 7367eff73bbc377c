-- B_toldSpots
theorem d_B_toldSpots_0 : decode (mB Y_B_toldSpots) 0 = .ok (.iconst 0, 1) := by decide +kernel
theorem d_B_toldSpots_1 : decode (mB Y_B_toldSpots) 1 = .ok (.istore_n 1, 1) := by decide +kernel
theorem d_B_toldSpots_2 : decode (mB Y_B_toldSpots) 2 = .ok (.iconst 0, 1) := by decide +kernel
theorem d_B_toldSpots_3 : decode (mB Y_B_toldSpots) 3 = .ok (.istore_n 2, 1) := by decide +kernel
theorem d_B_toldSpots_4 : decode (mB Y_B_toldSpots) 4 = .ok (.iload_n 2, 1) := by decide +kernel
theorem d_B_toldSpots_5 : decode (mB Y_B_toldSpots) 5 = .ok (.bipush 10, 2) := by decide +kernel
theorem d_B_toldSpots_7 : decode (mB Y_B_toldSpots) 7 = .ok (.if_icmp .ge 25, 3) := by decide +kernel
theorem d_B_toldSpots_10 : decode (mB Y_B_toldSpots) 10 = .ok (.aload_n 0, 1) := by decide +kernel
theorem d_B_toldSpots_11 : decode (mB Y_B_toldSpots) 11 = .ok (.getfield 25, 3) := by decide +kernel
theorem d_B_toldSpots_14 : decode (mB Y_B_toldSpots) 14 = .ok (.iload_n 2, 1) := by decide +kernel
theorem d_B_toldSpots_15 : decode (mB Y_B_toldSpots) 15 = .ok (.iaload, 1) := by decide +kernel
theorem d_B_toldSpots_16 : decode (mB Y_B_toldSpots) 16 = .ok (.iconst (-1), 1) := by decide +kernel
theorem d_B_toldSpots_17 : decode (mB Y_B_toldSpots) 17 = .ok (.if_icmp .eq 9, 3) := by decide +kernel
theorem d_B_toldSpots_20 : decode (mB Y_B_toldSpots) 20 = .ok (.iload_n 1, 1) := by decide +kernel
theorem d_B_toldSpots_21 : decode (mB Y_B_toldSpots) 21 = .ok (.iconst 1, 1) := by decide +kernel
theorem d_B_toldSpots_22 : decode (mB Y_B_toldSpots) 22 = .ok (.iload_n 2, 1) := by decide +kernel
theorem d_B_toldSpots_23 : decode (mB Y_B_toldSpots) 23 = .ok (.ishl, 1) := by decide +kernel
theorem d_B_toldSpots_24 : decode (mB Y_B_toldSpots) 24 = .ok (.ior, 1) := by decide +kernel
theorem d_B_toldSpots_25 : decode (mB Y_B_toldSpots) 25 = .ok (.istore_n 1, 1) := by decide +kernel
theorem d_B_toldSpots_26 : decode (mB Y_B_toldSpots) 26 = .ok (.iinc 2 1, 3) := by decide +kernel
theorem d_B_toldSpots_29 : decode (mB Y_B_toldSpots) 29 = .ok (.goto (-25), 3) := by decide +kernel
theorem d_B_toldSpots_32 : decode (mB Y_B_toldSpots) 32 = .ok (.iload_n 1, 1) := by decide +kernel
theorem d_B_toldSpots_33 : decode (mB Y_B_toldSpots) 33 = .ok (.ireturn, 1) := by decide +kernel
def r_B_toldSpots_L4  : Nat → Int32 → Int32 → Sto → Option (Int32 × Int32)
  | 0, _, _, _ => none
  | n + 1, x1_, x2_, S =>
    if 10 ≤ x2_ then
      some (x1_, x2_)
    else
      chk (inr x2_ 10) (
      jn (fun (v1 : Int32) =>
        lt (x2_ + 1) (fun v2 =>
        r_B_toldSpots_L4 n v1 v2 S)) (fun j26 =>
      if (S 17 x2_.toNatClampNeg) = (-1) then
        j26 (x1_)
      else
        lt (x1_ ||| (1 <<< (x2_ &&& 31))) (fun v3 =>
        j26 (v3))))
set_option maxHeartbeats 4000000 in
set_option maxRecDepth 20000 in
theorem w_B_toldSpots_L4 {g : Gm} {G : Gl} {L : Shp} (C : Cx g Y_B_toldSpots G) (hL : Ext L) (S : Sto)  :
    ∀ (n : Nat) (x1_ : Int32) (x2_ : Int32) (K : (Int32 × Int32) → Option Int32), (∀ (x1_ : Int32) (x2_ : Int32), VO g Y_B_toldSpots G (fun z => Qm g Y_B_toldSpots G (fp L S z)) 0 0 32 [(1, .int x1_)] [] L S (some (x1_, x2_)) K) → VO g Y_B_toldSpots G (fun z => Qm g Y_B_toldSpots G (fp L S z)) 0 0 4 [(0, rf G 0), (1, .int x1_), (2, .int x2_)] [] L S (r_B_toldSpots_L4 n x1_ x2_ S) K := by
  intro n
  induction n with
  | zero => intro x1_ x2_ K; intros; exact v_none
  | succ n ih =>
    intro x1_ x2_ K hK
    rw [r_B_toldSpots_L4]
    refine v_iload_n (pc := 4) C d_B_toldSpots_4 rfl 2 rfl ?_
    refine v_bipush (pc := 5) C d_B_toldSpots_5 bp_10 ?_
    refine v_icmp_ge (pc := 7) (tgt := 32) C d_B_toldSpots_7 rfl (fun _ => ?_) (fun _ => ?_)
    · refine v_sub [1] rfl ?_
      exact hK x1_ x2_
    · refine v_aload_n (pc := 10) C d_B_toldSpots_10 rfl 0 rfl ?_
      refine v_getR (pc := 11) C fl_B_25 (sh_0 hL) rfl d_B_toldSpots_11 ?_
      refine v_iload_n (pc := 14) C d_B_toldSpots_14 rfl 2 rfl ?_
      refine v_iald (pc := 15) C (sh_17 hL) d_B_toldSpots_15 (fun _ => ?_)
      refine v_iconst (pc := 16) C d_B_toldSpots_16 ic_m1 ?_
      refine v_jn (fun j => ∀ (v1 : Int32), VO g Y_B_toldSpots G (fun z => Qm g Y_B_toldSpots G (fp L S z)) 0 0 26 [(0, rf G 0), (1, .int v1), (2, .int x2_)] [] L S (j (v1)) K) (fun v1 => ?_) (fun j26 hj26 => ?_)
      · refine v_iinc (pc := 26) (p := 2) (c := 1) C d_B_toldSpots_26 rfl (by decide) (by decide) (fun v2 => [(2, .int v2), (0, rf G 0), (1, .int v1)]) (fun _ => rfl) (fun v2 => ?_)
        refine v_goto (pc := 29) (tgt := 4) C d_B_toldSpots_29 rfl ?_
        refine v_sub [1, 2, 0] rfl ?_
        exact ih v1 v2 K hK
      · refine v_icmp_eq (pc := 17) (tgt := 26) C d_B_toldSpots_17 rfl (fun _ => ?_) (fun _ => ?_)
        · exact hj26 x1_
        · refine v_iload_n (pc := 20) C d_B_toldSpots_20 rfl 1 rfl ?_
          refine v_iconst (pc := 21) C d_B_toldSpots_21 ic_1 ?_
          refine v_iload_n (pc := 22) C d_B_toldSpots_22 rfl 2 rfl ?_
          refine v_ishl (pc := 23) C d_B_toldSpots_23 ?_
          refine v_ior (pc := 24) C d_B_toldSpots_24 ?_
          refine v_lt (fun v3 => ?_)
          refine v_istore_n (pc := 25) (lv' := [(1, .int v3), (0, rf G 0), (2, .int x2_)]) C d_B_toldSpots_25 rfl (by decide) rfl ?_
          refine v_sub [1, 0, 2] rfl ?_
          exact hj26 v3
def r_B_toldSpots  (S : Sto) : Option Int32 :=
  (r_B_toldSpots_L4 fu 0 0 S).bind (fun (v1, v2) =>
  some v1)
set_option maxHeartbeats 4000000 in
set_option maxRecDepth 20000 in
theorem c_B_toldSpots {G : Gl} {L : Shp} (hL : Ext L) (S : Sto)   : Ct Y_B_toldSpots G [rf G 0] L S (fp L S) (r_B_toldSpots S) := by
  refine ct_of (by decide +kernel) (Nat.le_of_ble_eq_true rfl) (fun g C => ?_)
  show VO g Y_B_toldSpots G (fun z => Qm g Y_B_toldSpots G (fp L S z)) 0 0 0 [(0, rf G 0)] [] L S (r_B_toldSpots S) some
  unfold r_B_toldSpots
  refine v_iconst (pc := 0) C d_B_toldSpots_0 ic_0 ?_
  refine v_istore_n (pc := 1) (lv' := [(1, .int 0), (0, rf G 0)]) C d_B_toldSpots_1 rfl (by decide) rfl ?_
  refine v_iconst (pc := 2) C d_B_toldSpots_2 ic_0 ?_
  refine v_istore_n (pc := 3) (lv' := [(2, .int 0), (1, .int 0), (0, rf G 0)]) C d_B_toldSpots_3 rfl (by decide) rfl ?_
  refine v_sub [2, 1, 0] rfl ?_
  refine v_bind ?_
  refine w_B_toldSpots_L4 C hL S  fu 0 0 _ (fun v1 v2 => ?_) 
  refine v_some ?_
  refine v_iload_n (pc := 32) C d_B_toldSpots_32 rfl 0 rfl ?_
  exact v_iret (z := v1) C d_B_toldSpots_33 rfl ⟨Nat.zero_le _, Nat.zero_le _⟩ (rfl) rfl
-- B_trials
theorem d_B_trials_0 : decode (mB Y_B_trials) 0 = .ok (.iload_n 1, 1) := by decide +kernel
theorem d_B_trials_1 : decode (mB Y_B_trials) 1 = .ok (.iconst 1, 1) := by decide +kernel
theorem d_B_trials_2 : decode (mB Y_B_trials) 2 = .ok (.bipush 15, 2) := by decide +kernel
theorem d_B_trials_4 : decode (mB Y_B_trials) 4 = .ok (.invokestatic 112, 3) := by decide +kernel
theorem d_B_trials_7 : decode (mB Y_B_trials) 7 = .ok (.ifCond .ne 5, 3) := by decide +kernel
theorem d_B_trials_10 : decode (mB Y_B_trials) 10 = .ok (.iconst (-1), 1) := by decide +kernel
theorem d_B_trials_11 : decode (mB Y_B_trials) 11 = .ok (.ireturn, 1) := by decide +kernel
theorem d_B_trials_12 : decode (mB Y_B_trials) 12 = .ok (.aload_n 0, 1) := by decide +kernel
theorem d_B_trials_13 : decode (mB Y_B_trials) 13 = .ok (.invokevirtual 328, 3) := by decide +kernel
theorem d_B_trials_16 : decode (mB Y_B_trials) 16 = .ok (.istore_n 2, 1) := by decide +kernel
theorem d_B_trials_17 : decode (mB Y_B_trials) 17 = .ok (.iload_n 1, 1) := by decide +kernel
theorem d_B_trials_18 : decode (mB Y_B_trials) 18 = .ok (.invokestatic 331, 3) := by decide +kernel
theorem d_B_trials_21 : decode (mB Y_B_trials) 21 = .ok (.istore_n 3, 1) := by decide +kernel
theorem d_B_trials_22 : decode (mB Y_B_trials) 22 = .ok (.iconst 0, 1) := by decide +kernel
theorem d_B_trials_23 : decode (mB Y_B_trials) 23 = .ok (.istore 4, 2) := by decide +kernel
theorem d_B_trials_25 : decode (mB Y_B_trials) 25 = .ok (.iload 4, 2) := by decide +kernel
theorem d_B_trials_27 : decode (mB Y_B_trials) 27 = .ok (.bipush 10, 2) := by decide +kernel
theorem d_B_trials_29 : decode (mB Y_B_trials) 29 = .ok (.if_icmp .ge 89, 3) := by decide +kernel
theorem d_B_trials_32 : decode (mB Y_B_trials) 32 = .ok (.aload_n 0, 1) := by decide +kernel
theorem d_B_trials_33 : decode (mB Y_B_trials) 33 = .ok (.getfield 100, 3) := by decide +kernel
theorem d_B_trials_36 : decode (mB Y_B_trials) 36 = .ok (.iload 4, 2) := by decide +kernel
theorem d_B_trials_38 : decode (mB Y_B_trials) 38 = .ok (.iconst 0, 1) := by decide +kernel
theorem d_B_trials_39 : decode (mB Y_B_trials) 39 = .ok (.iastore, 1) := by decide +kernel
theorem d_B_trials_40 : decode (mB Y_B_trials) 40 = .ok (.aload_n 0, 1) := by decide +kernel
theorem d_B_trials_41 : decode (mB Y_B_trials) 41 = .ok (.getfield 25, 3) := by decide +kernel
theorem d_B_trials_44 : decode (mB Y_B_trials) 44 = .ok (.iload 4, 2) := by decide +kernel
theorem d_B_trials_46 : decode (mB Y_B_trials) 46 = .ok (.iaload, 1) := by decide +kernel
theorem d_B_trials_47 : decode (mB Y_B_trials) 47 = .ok (.iconst (-1), 1) := by decide +kernel
theorem d_B_trials_48 : decode (mB Y_B_trials) 48 = .ok (.if_icmp .eq 64, 3) := by decide +kernel
theorem d_B_trials_51 : decode (mB Y_B_trials) 51 = .ok (.aload_n 0, 1) := by decide +kernel
theorem d_B_trials_52 : decode (mB Y_B_trials) 52 = .ok (.getfield 93, 3) := by decide +kernel
theorem d_B_trials_55 : decode (mB Y_B_trials) 55 = .ok (.aload_n 0, 1) := by decide +kernel
theorem d_B_trials_56 : decode (mB Y_B_trials) 56 = .ok (.getfield 25, 3) := by decide +kernel
theorem d_B_trials_59 : decode (mB Y_B_trials) 59 = .ok (.iload 4, 2) := by decide +kernel
theorem d_B_trials_61 : decode (mB Y_B_trials) 61 = .ok (.iaload, 1) := by decide +kernel
theorem d_B_trials_62 : decode (mB Y_B_trials) 62 = .ok (.iconst 0, 1) := by decide +kernel
theorem d_B_trials_63 : decode (mB Y_B_trials) 63 = .ok (.aload_n 0, 1) := by decide +kernel
theorem d_B_trials_64 : decode (mB Y_B_trials) 64 = .ok (.getfield 25, 3) := by decide +kernel
theorem d_B_trials_67 : decode (mB Y_B_trials) 67 = .ok (.iload 4, 2) := by decide +kernel
theorem d_B_trials_69 : decode (mB Y_B_trials) 69 = .ok (.iaload, 1) := by decide +kernel
theorem d_B_trials_70 : decode (mB Y_B_trials) 70 = .ok (.aload_n 0, 1) := by decide +kernel
theorem d_B_trials_71 : decode (mB Y_B_trials) 71 = .ok (.getfield 97, 3) := by decide +kernel
theorem d_B_trials_74 : decode (mB Y_B_trials) 74 = .ok (.if_icmp .ne 7, 3) := by decide +kernel
theorem d_B_trials_77 : decode (mB Y_B_trials) 77 = .ok (.iconst (-1), 1) := by decide +kernel
theorem d_B_trials_78 : decode (mB Y_B_trials) 78 = .ok (.goto 7, 3) := by decide +kernel
theorem d_B_trials_81 : decode (mB Y_B_trials) 81 = .ok (.aload_n 0, 1) := by decide +kernel
theorem d_B_trials_82 : decode (mB Y_B_trials) 82 = .ok (.getfield 97, 3) := by decide +kernel
theorem d_B_trials_85 : decode (mB Y_B_trials) 85 = .ok (.aload_n 0, 1) := by decide +kernel
theorem d_B_trials_86 : decode (mB Y_B_trials) 86 = .ok (.getfield 325, 3) := by decide +kernel
theorem d_B_trials_89 : decode (mB Y_B_trials) 89 = .ok (.invokevirtual 164, 3) := by decide +kernel
theorem d_B_trials_92 : decode (mB Y_B_trials) 92 = .ok (.aload_n 0, 1) := by decide +kernel
theorem d_B_trials_93 : decode (mB Y_B_trials) 93 = .ok (.getfield 100, 3) := by decide +kernel
theorem d_B_trials_96 : decode (mB Y_B_trials) 96 = .ok (.iload 4, 2) := by decide +kernel
theorem d_B_trials_98 : decode (mB Y_B_trials) 98 = .ok (.aload_n 0, 1) := by decide +kernel
theorem d_B_trials_99 : decode (mB Y_B_trials) 99 = .ok (.getfield 54, 3) := by decide +kernel
theorem d_B_trials_102 : decode (mB Y_B_trials) 102 = .ok (.aload_n 0, 1) := by decide +kernel
theorem d_B_trials_103 : decode (mB Y_B_trials) 103 = .ok (.getfield 93, 3) := by decide +kernel
theorem d_B_trials_106 : decode (mB Y_B_trials) 106 = .ok (.invokevirtual 334, 3) := by decide +kernel
theorem d_B_trials_109 : decode (mB Y_B_trials) 109 = .ok (.iload_n 3, 1) := by decide +kernel
theorem d_B_trials_110 : decode (mB Y_B_trials) 110 = .ok (.iand, 1) := by decide +kernel
theorem d_B_trials_111 : decode (mB Y_B_trials) 111 = .ok (.iastore, 1) := by decide +kernel
theorem d_B_trials_112 : decode (mB Y_B_trials) 112 = .ok (.iinc 4 1, 3) := by decide +kernel
theorem d_B_trials_115 : decode (mB Y_B_trials) 115 = .ok (.goto (-90), 3) := by decide +kernel
theorem d_B_trials_118 : decode (mB Y_B_trials) 118 = .ok (.iconst (-1), 1) := by decide +kernel
theorem d_B_trials_119 : decode (mB Y_B_trials) 119 = .ok (.istore 4, 2) := by decide +kernel
theorem d_B_trials_121 : decode (mB Y_B_trials) 121 = .ok (.iconst 0, 1) := by decide +kernel
theorem d_B_trials_122 : decode (mB Y_B_trials) 122 = .ok (.istore 5, 2) := by decide +kernel
theorem d_B_trials_124 : decode (mB Y_B_trials) 124 = .ok (.iload 5, 2) := by decide +kernel
theorem d_B_trials_126 : decode (mB Y_B_trials) 126 = .ok (.sipush 1024, 3) := by decide +kernel
theorem d_B_trials_129 : decode (mB Y_B_trials) 129 = .ok (.if_icmp .ge 57, 3) := by decide +kernel
theorem d_B_trials_132 : decode (mB Y_B_trials) 132 = .ok (.iload 5, 2) := by decide +kernel
theorem d_B_trials_134 : decode (mB Y_B_trials) 134 = .ok (.iload_n 2, 1) := by decide +kernel
theorem d_B_trials_135 : decode (mB Y_B_trials) 135 = .ok (.iconst (-1), 1) := by decide +kernel
theorem d_B_trials_136 : decode (mB Y_B_trials) 136 = .ok (.ixor, 1) := by decide +kernel
theorem d_B_trials_137 : decode (mB Y_B_trials) 137 = .ok (.iand, 1) := by decide +kernel
theorem d_B_trials_138 : decode (mB Y_B_trials) 138 = .ok (.ifCond .ne 20, 3) := by decide +kernel
theorem d_B_trials_141 : decode (mB Y_B_trials) 141 = .ok (.aload_n 0, 1) := by decide +kernel
theorem d_B_trials_142 : decode (mB Y_B_trials) 142 = .ok (.getfield 100, 3) := by decide +kernel
theorem d_B_trials_145 : decode (mB Y_B_trials) 145 = .ok (.iload 5, 2) := by decide +kernel
theorem d_B_trials_147 : decode (mB Y_B_trials) 147 = .ok (.invokestatic 338, 3) := by decide +kernel
theorem d_B_trials_150 : decode (mB Y_B_trials) 150 = .ok (.iload_n 3, 1) := by decide +kernel
theorem d_B_trials_151 : decode (mB Y_B_trials) 151 = .ok (.if_icmp .ne 7, 3) := by decide +kernel
theorem d_B_trials_154 : decode (mB Y_B_trials) 154 = .ok (.iconst 1, 1) := by decide +kernel
theorem d_B_trials_155 : decode (mB Y_B_trials) 155 = .ok (.goto 4, 3) := by decide +kernel
theorem d_B_trials_158 : decode (mB Y_B_trials) 158 = .ok (.iconst 0, 1) := by decide +kernel
theorem d_B_trials_159 : decode (mB Y_B_trials) 159 = .ok (.istore 6, 2) := by decide +kernel
theorem d_B_trials_161 : decode (mB Y_B_trials) 161 = .ok (.iload 6, 2) := by decide +kernel
theorem d_B_trials_163 : decode (mB Y_B_trials) 163 = .ok (.ifCond .eq 17, 3) := by decide +kernel
theorem d_B_trials_166 : decode (mB Y_B_trials) 166 = .ok (.iload 5, 2) := by decide +kernel
theorem d_B_trials_168 : decode (mB Y_B_trials) 168 = .ok (.iload 4, 2) := by decide +kernel
theorem d_B_trials_170 : decode (mB Y_B_trials) 170 = .ok (.invokestatic 342, 3) := by decide +kernel
theorem d_B_trials_173 : decode (mB Y_B_trials) 173 = .ok (.ifCond .eq 7, 3) := by decide +kernel
theorem d_B_trials_176 : decode (mB Y_B_trials) 176 = .ok (.iload 5, 2) := by decide +kernel
theorem d_B_trials_178 : decode (mB Y_B_trials) 178 = .ok (.istore 4, 2) := by decide +kernel
theorem d_B_trials_180 : decode (mB Y_B_trials) 180 = .ok (.iinc 5 1, 3) := by decide +kernel
theorem d_B_trials_183 : decode (mB Y_B_trials) 183 = .ok (.goto (-59), 3) := by decide +kernel
theorem d_B_trials_186 : decode (mB Y_B_trials) 186 = .ok (.iload 4, 2) := by decide +kernel
theorem d_B_trials_188 : decode (mB Y_B_trials) 188 = .ok (.ireturn, 1) := by decide +kernel
theorem ro_B_trials_B_isFewer : roomy Y_B_trials Y_B_isFewer := ⟨Nat.le_of_ble_eq_true rfl, Nat.le_of_ble_eq_true rfl⟩
theorem ro_B_trials_B_toldSpots : roomy Y_B_trials Y_B_toldSpots := ⟨Nat.le_of_ble_eq_true rfl, Nat.le_of_ble_eq_true rfl⟩
theorem ro_B_trials_B_unionOf : roomy Y_B_trials Y_B_unionOf := ⟨Nat.le_of_ble_eq_true rfl, Nat.le_of_ble_eq_true rfl⟩
theorem ro_B_trials_B_within : roomy Y_B_trials Y_B_within := ⟨Nat.le_of_ble_eq_true rfl, Nat.le_of_ble_eq_true rfl⟩
theorem ro_B_trials_Cw_couplesOf : roomy Y_B_trials Y_Cw_couplesOf := ⟨Nat.le_of_ble_eq_true rfl, Nat.le_of_ble_eq_true rfl⟩
theorem ro_B_trials_Cw_partedBy : roomy Y_B_trials Y_Cw_partedBy := ⟨Nat.le_of_ble_eq_true rfl, Nat.le_of_ble_eq_true rfl⟩
theorem ro_B_trials_Sh_fire : roomy Y_B_trials Y_Sh_fire := ⟨Nat.le_of_ble_eq_true rfl, Nat.le_of_ble_eq_true rfl⟩
def r_B_trials_L25 (y2_ : Int32) (y3_ : Int32) : Nat → Int32 → Sto → Option (Int32 × Sto)
  | 0, _, _ => none
  | n + 1, x4_, S =>
    if 10 ≤ x4_ then
      some (x4_, S)
    else
      chk (inr x4_ 10) (
      ltS (sw S 100 x4_.toNatClampNeg 0) (fun S1 =>
      chk (inr x4_ 10) (
      jn (fun (S2 : Sto) =>
        lt (x4_ + 1) (fun v3 =>
        r_B_trials_L25 y2_ y3_ n v3 S2)) (fun j112 =>
      if (S1 17 x4_.toNatClampNeg) = (-1) then
        j112 (S1)
      else
        chk (inr x4_ 10) (
        chk (inr x4_ 10) (
        jn (fun (v4 : Int32) =>
          (r_Sh_fire 99 (S1 17 x4_.toNatClampNeg) 0 v4 (S1 0 15) S1).bind (fun S5 =>
          (r_Cw_partedBy 99 S5).bind (fun (r6, S7) =>
          chk (inr x4_ 10) (
          ltS (sw S7 100 x4_.toNatClampNeg (r6 &&& y3_)) (fun S8 =>
          j112 (S8)))))) (fun j85 =>
        if (S1 17 x4_.toNatClampNeg) = (S1 0 14) then
          j85 ((-1))
        else
          j85 (S1 0 14))))))))
def r_B_trials_L124 (y2_ : Int32) (y3_ : Int32) : Nat → Int32 → Int32 → Sto → Option (Int32 × Int32)
  | 0, _, _, _ => none
  | n + 1, x4_, x5_, S =>
    if 1024 ≤ x5_ then
      some (x4_, x5_)
    else
      jn (fun (v1 : Int32) =>
        jn (fun (v2 : Int32) =>
          lt (x5_ + 1) (fun v3 =>
          r_B_trials_L124 y2_ y3_ n v2 v3 S)) (fun j180 =>
        if v1 = 0 then
          j180 (x4_)
        else
          if (r_B_isFewer x5_ x4_) = 0 then
            j180 (x4_)
          else
            j180 (x5_))) (fun j159 =>
      if (x5_ &&& (y2_ ^^^ (-1))) = 0 then
        (r_B_unionOf 100 10 x5_ S).bind (fun r4 =>
        if r4 = y3_ then
          j159 (1)
        else
          j159 (0))
      else
        j159 (0))
set_option maxHeartbeats 4000000 in
set_option maxRecDepth 20000 in
theorem w_B_trials_L25 {g : Gm} {G : Gl} {L : Shp} (C : Cx g Y_B_trials G) (hL : Ext L) (y2_ : Int32) (y3_ : Int32)  :
    ∀ (n : Nat) (x4_ : Int32) (S : Sto) (K : (Int32 × Sto) → Option (Int32 × Sto)), (∀ (x4_ : Int32) (S : Sto), VO g Y_B_trials G (fun z => Qm g Y_B_trials G (fi L z)) 0 0 118 [(0, rf G 0), (2, .int y2_), (3, .int y3_)] [] L S (some (x4_, S)) K) → VO g Y_B_trials G (fun z => Qm g Y_B_trials G (fi L z)) 0 0 25 [(0, rf G 0), (2, .int y2_), (3, .int y3_), (4, .int x4_)] [] L S (r_B_trials_L25 y2_ y3_ n x4_ S) K := by
  intro n
  induction n with
  | zero => intro x4_ S K; intros; exact v_none
  | succ n ih =>
    intro x4_ S K hK
    rw [r_B_trials_L25]
    refine v_iload (pc := 25) C d_B_trials_25 3 rfl ?_
    refine v_bipush (pc := 27) C d_B_trials_27 bp_10 ?_
    refine v_icmp_ge (pc := 29) (tgt := 118) C d_B_trials_29 rfl (fun _ => ?_) (fun _ => ?_)
    · refine v_sub [0, 1, 2] rfl ?_
      exact hK x4_ S
    · refine v_aload_n (pc := 32) C d_B_trials_32 rfl 0 rfl ?_
      refine v_getR (pc := 33) C fl_B_100 (sh_0 hL) rfl d_B_trials_33 ?_
      refine v_iload (pc := 36) C d_B_trials_36 3 rfl ?_
      refine v_iconst (pc := 38) C d_B_trials_38 ic_0 ?_
      refine v_iast (pc := 39) C (sh_100 hL) d_B_trials_39 (fun _ S1 => ?_)
      refine v_aload_n (pc := 40) C d_B_trials_40 rfl 0 rfl ?_
      refine v_getR (pc := 41) C fl_B_25 (sh_0 hL) rfl d_B_trials_41 ?_
      refine v_iload (pc := 44) C d_B_trials_44 3 rfl ?_
      refine v_iald (pc := 46) C (sh_17 hL) d_B_trials_46 (fun _ => ?_)
      refine v_iconst (pc := 47) C d_B_trials_47 ic_m1 ?_
      refine v_jn (fun j => ∀ (S2 : Sto), VO g Y_B_trials G (fun z => Qm g Y_B_trials G (fi L z)) 0 0 112 [(0, rf G 0), (2, .int y2_), (3, .int y3_), (4, .int x4_)] [] L S2 (j (S2)) K) (fun S2 => ?_) (fun j112 hj112 => ?_)
      · refine v_iinc (pc := 112) (p := 3) (c := 1) C d_B_trials_112 rfl (by decide) (by decide) (fun v3 => [(4, .int v3), (0, rf G 0), (2, .int y2_), (3, .int y3_)]) (fun _ => rfl) (fun v3 => ?_)
        refine v_goto (pc := 115) (tgt := 25) C d_B_trials_115 rfl ?_
        refine v_sub [1, 2, 3, 0] rfl ?_
        exact ih v3 S2 K hK
      · refine v_icmp_eq (pc := 48) (tgt := 112) C d_B_trials_48 rfl (fun _ => ?_) (fun _ => ?_)
        · exact hj112 S1
        · refine v_aload_n (pc := 51) C d_B_trials_51 rfl 0 rfl ?_
          refine v_getR (pc := 52) C fl_B_93 (sh_0 hL) rfl d_B_trials_52 ?_
          refine v_aload_n (pc := 55) C d_B_trials_55 rfl 0 rfl ?_
          refine v_getR (pc := 56) C fl_B_25 (sh_0 hL) rfl d_B_trials_56 ?_
          refine v_iload (pc := 59) C d_B_trials_59 3 rfl ?_
          refine v_iald (pc := 61) C (sh_17 hL) d_B_trials_61 (fun _ => ?_)
          refine v_iconst (pc := 62) C d_B_trials_62 ic_0 ?_
          refine v_aload_n (pc := 63) C d_B_trials_63 rfl 0 rfl ?_
          refine v_getR (pc := 64) C fl_B_25 (sh_0 hL) rfl d_B_trials_64 ?_
          refine v_iload (pc := 67) C d_B_trials_67 3 rfl ?_
          refine v_iald (pc := 69) C (sh_17 hL) d_B_trials_69 (fun _ => ?_)
          refine v_aload_n (pc := 70) C d_B_trials_70 rfl 0 rfl ?_
          refine v_getI (pc := 71) C fl_B_97 (sh_0 hL) rfl d_B_trials_71 ?_
          refine v_jn (fun j => ∀ (v4 : Int32), VO g Y_B_trials G (fun z => Qm g Y_B_trials G (fi L z)) 0 0 85 [(0, rf G 0), (2, .int y2_), (3, .int y3_), (4, .int x4_)] [.int v4, .int 0, .int (S1 17 x4_.toNatClampNeg), rf G 99] L S1 (j (v4)) K) (fun v4 => ?_) (fun j85 hj85 => ?_)
          · refine v_aload_n (pc := 85) C d_B_trials_85 rfl 0 rfl ?_
            refine v_getI (pc := 86) C fl_B_325 (sh_0 hL) rfl d_B_trials_86 ?_
            refine v_cv (pc := 89) (inv_V (As := [.int (S1 17 x4_.toNatClampNeg), .int 0, .int v4, .int (S1 0 15)]) (st := []) C ml_B_164 mv_Sh_fire ro_B_trials_Sh_fire (sh_99 hL) rfl rfl rfl rfl (Nat.le_of_ble_eq_true rfl) d_B_trials_89) (c_Sh_fire hL S1 99 (S1 17 x4_.toNatClampNeg) 0 v4 (S1 0 15) (trial_at hL)) ⟨rfl, rfl⟩ ⟨Nat.zero_le _, Nat.zero_le _⟩ (fun S5 => ?_)
            refine v_aload_n (pc := 92) C d_B_trials_92 rfl 0 rfl ?_
            refine v_getR (pc := 93) C fl_B_100 (sh_0 hL) rfl d_B_trials_93 ?_
            refine v_iload (pc := 96) C d_B_trials_96 3 rfl ?_
            refine v_aload_n (pc := 98) C d_B_trials_98 rfl 0 rfl ?_
            refine v_getR (pc := 99) C fl_B_54 (sh_0 hL) rfl d_B_trials_99 ?_
            refine v_aload_n (pc := 102) C d_B_trials_102 rfl 0 rfl ?_
            refine v_getR (pc := 103) C fl_B_93 (sh_0 hL) rfl d_B_trials_103 ?_
            refine v_ci (pc := 106) (inv_V (As := [rf G 99]) (st := [.int x4_, rf G 100]) C ml_B_334 mv_Cw_partedBy ro_B_trials_Cw_partedBy (sh_33 hL) rfl rfl rfl rfl (Nat.le_of_ble_eq_true rfl) d_B_trials_106) (c_Cw_partedBy hL S5 99 (trial_at hL)) ⟨rfl, rfl⟩ ⟨Nat.zero_le _, Nat.zero_le _⟩ (fun r6 S7 => ?_)
            refine v_iload_n (pc := 109) C d_B_trials_109 rfl 2 rfl ?_
            refine v_iand (pc := 110) C d_B_trials_110 ?_
            refine v_iast (pc := 111) C (sh_100 hL) d_B_trials_111 (fun _ S8 => ?_)
            exact hj112 S8
          · refine v_icmp_ne (pc := 74) (tgt := 81) C d_B_trials_74 rfl (fun _ => ?_) (fun _ => ?_)
            · refine v_aload_n (pc := 81) C d_B_trials_81 rfl 0 rfl ?_
              refine v_getI (pc := 82) C fl_B_97 (sh_0 hL) rfl d_B_trials_82 ?_
              exact hj85 (S1 0 14)
            · refine v_iconst (pc := 77) C d_B_trials_77 ic_m1 ?_
              refine v_goto (pc := 78) (tgt := 85) C d_B_trials_78 rfl ?_
              exact hj85 (-1)
set_option maxHeartbeats 4000000 in
set_option maxRecDepth 20000 in
theorem w_B_trials_L124 {g : Gm} {G : Gl} {L : Shp} (C : Cx g Y_B_trials G) (hL : Ext L) (S : Sto) (y2_ : Int32) (y3_ : Int32)  :
    ∀ (n : Nat) (x4_ : Int32) (x5_ : Int32) (K : (Int32 × Int32) → Option (Int32 × Sto)), (∀ (x4_ : Int32) (x5_ : Int32), VO g Y_B_trials G (fun z => Qm g Y_B_trials G (fi L z)) 0 0 186 [(4, .int x4_)] [] L S (some (x4_, x5_)) K) → VO g Y_B_trials G (fun z => Qm g Y_B_trials G (fi L z)) 0 0 124 [(0, rf G 0), (2, .int y2_), (3, .int y3_), (4, .int x4_), (5, .int x5_)] [] L S (r_B_trials_L124 y2_ y3_ n x4_ x5_ S) K := by
  intro n
  induction n with
  | zero => intro x4_ x5_ K; intros; exact v_none
  | succ n ih =>
    intro x4_ x5_ K hK
    rw [r_B_trials_L124]
    refine v_iload (pc := 124) C d_B_trials_124 4 rfl ?_
    refine v_sipush (pc := 126) C d_B_trials_126 sp_1024 ?_
    refine v_icmp_ge (pc := 129) (tgt := 186) C d_B_trials_129 rfl (fun _ => ?_) (fun _ => ?_)
    · refine v_sub [3] rfl ?_
      exact hK x4_ x5_
    · refine v_iload (pc := 132) C d_B_trials_132 4 rfl ?_
      refine v_iload_n (pc := 134) C d_B_trials_134 rfl 1 rfl ?_
      refine v_iconst (pc := 135) C d_B_trials_135 ic_m1 ?_
      refine v_ixor (pc := 136) C d_B_trials_136 ?_
      refine v_iand (pc := 137) C d_B_trials_137 ?_
      refine v_jn (fun j => ∀ (v1 : Int32), VO g Y_B_trials G (fun z => Qm g Y_B_trials G (fi L z)) 0 0 159 [(0, rf G 0), (2, .int y2_), (3, .int y3_), (4, .int x4_), (5, .int x5_)] [.int v1] L S (j (v1)) K) (fun v1 => ?_) (fun j159 hj159 => ?_)
      · refine v_istore (pc := 159) (lv' := [(6, .int v1), (0, rf G 0), (2, .int y2_), (3, .int y3_), (4, .int x4_), (5, .int x5_)]) C d_B_trials_159 (by decide) rfl ?_
        refine v_iload (pc := 161) C d_B_trials_161 0 rfl ?_
        refine v_jn (fun j => ∀ (v2 : Int32), VO g Y_B_trials G (fun z => Qm g Y_B_trials G (fi L z)) 0 0 180 [(0, rf G 0), (2, .int y2_), (3, .int y3_), (4, .int v2), (5, .int x5_)] [] L S (j (v2)) K) (fun v2 => ?_) (fun j180 hj180 => ?_)
        · refine v_iinc (pc := 180) (p := 4) (c := 1) C d_B_trials_180 rfl (by decide) (by decide) (fun v3 => [(5, .int v3), (0, rf G 0), (2, .int y2_), (3, .int y3_), (4, .int v2)]) (fun _ => rfl) (fun v3 => ?_)
          refine v_goto (pc := 183) (tgt := 124) C d_B_trials_183 rfl ?_
          refine v_sub [1, 2, 3, 4, 0] rfl ?_
          exact ih v2 v3 K hK
        · refine v_if_eq (pc := 163) (tgt := 180) C d_B_trials_163 rfl (fun _ => ?_) (fun _ => ?_)
          · refine v_sub [1, 2, 3, 4, 5] rfl ?_
            exact hj180 x4_
          · refine v_iload (pc := 166) C d_B_trials_166 5 rfl ?_
            refine v_iload (pc := 168) C d_B_trials_168 4 rfl ?_
            refine v_ct (pc := 170) (inv_S (As := [.int x5_, .int x4_]) (st := []) C ml_B_342 ms_B_isFewer ro_B_trials_B_isFewer rfl rfl (Nat.le_of_ble_eq_true rfl) d_B_trials_170) (c_B_isFewer hL S x5_ x4_) ⟨rfl, rfl⟩ ⟨Nat.zero_le _, Nat.zero_le _⟩ ?_
            refine v_if_eq (pc := 173) (tgt := 180) C d_B_trials_173 rfl (fun _ => ?_) (fun _ => ?_)
            · refine v_sub [1, 2, 3, 4, 5] rfl ?_
              exact hj180 x4_
            · refine v_iload (pc := 176) C d_B_trials_176 5 rfl ?_
              refine v_istore (pc := 178) (lv' := [(4, .int x5_), (6, .int v1), (0, rf G 0), (2, .int y2_), (3, .int y3_), (5, .int x5_)]) C d_B_trials_178 (by decide) rfl ?_
              refine v_sub [2, 3, 4, 0, 5] rfl ?_
              exact hj180 x5_
      · refine v_if_ne (pc := 138) (tgt := 158) C d_B_trials_138 rfl (fun _ => ?_) (fun _ => ?_)
        · refine v_iconst (pc := 158) C d_B_trials_158 ic_0 ?_
          exact hj159 0
        · refine v_aload_n (pc := 141) C d_B_trials_141 rfl 0 rfl ?_
          refine v_getR (pc := 142) C fl_B_100 (sh_0 hL) rfl d_B_trials_142 ?_
          refine v_iload (pc := 145) C d_B_trials_145 4 rfl ?_
          refine v_cp (pc := 147) (inv_S (As := [rf G 100, .int x5_]) (st := []) C ml_B_338 ms_B_unionOf ro_B_trials_B_unionOf rfl rfl (Nat.le_of_ble_eq_true rfl) d_B_trials_147) (c_B_unionOf hL S 100 10 x5_ (sh_100 hL)) ⟨rfl, rfl⟩ ⟨Nat.zero_le _, Nat.zero_le _⟩ (fun r4 => ?_)
          refine v_iload_n (pc := 150) C d_B_trials_150 rfl 2 rfl ?_
          refine v_icmp_ne (pc := 151) (tgt := 158) C d_B_trials_151 rfl (fun _ => ?_) (fun _ => ?_)
          · refine v_iconst (pc := 158) C d_B_trials_158 ic_0 ?_
            exact hj159 0
          · refine v_iconst (pc := 154) C d_B_trials_154 ic_1 ?_
            refine v_goto (pc := 155) (tgt := 159) C d_B_trials_155 rfl ?_
            exact hj159 1
def r_B_trials (x1 : Int32) (S : Sto) : Option (Int32 × Sto) :=
  if (r_B_within x1 1 15) = 0 then
    some ((-1), S)
  else
    (r_B_toldSpots S).bind (fun r1 =>
    (r_Cw_couplesOf x1).bind (fun r2 =>
    (r_B_trials_L25 r1 r2 fu 0 S).bind (fun (v3, S4) =>
    (r_B_trials_L124 r1 r2 fu (-1) 0 S4).bind (fun (v5, v6) =>
    some (v5, S4)))))
set_option maxHeartbeats 4000000 in
set_option maxRecDepth 20000 in
theorem c_B_trials {G : Gl} {L : Shp} (hL : Ext L) (S : Sto) (x1 : Int32)  : Ct Y_B_trials G [rf G 0, .int x1] L S (fi L) (r_B_trials x1 S) := by
  refine ct_of (by decide +kernel) (Nat.le_of_ble_eq_true rfl) (fun g C => ?_)
  show VO g Y_B_trials G (fun z => Qm g Y_B_trials G (fi L z)) 0 0 0 [(0, rf G 0), (1, .int x1)] [] L S (r_B_trials x1 S) some
  unfold r_B_trials
  refine v_iload_n (pc := 0) C d_B_trials_0 rfl 1 rfl ?_
  refine v_iconst (pc := 1) C d_B_trials_1 ic_1 ?_
  refine v_bipush (pc := 2) C d_B_trials_2 bp_15 ?_
  refine v_ct (pc := 4) (inv_S (As := [.int x1, .int 1, .int 15]) (st := []) C ml_B_112 ms_B_within ro_B_trials_B_within rfl rfl (Nat.le_of_ble_eq_true rfl) d_B_trials_4) (c_B_within hL S x1 1 15) ⟨rfl, rfl⟩ ⟨Nat.zero_le _, Nat.zero_le _⟩ ?_
  refine v_if_ne (pc := 7) (tgt := 12) C d_B_trials_7 rfl (fun _ => ?_) (fun _ => ?_)
  · refine v_aload_n (pc := 12) C d_B_trials_12 rfl 0 rfl ?_
    refine v_cp (pc := 13) (inv_V (As := []) (st := []) C ml_B_328 mv_B_toldSpots ro_B_trials_B_toldSpots (sh_0 hL) rfl rfl rfl rfl (Nat.le_of_ble_eq_true rfl) d_B_trials_13) (c_B_toldSpots hL S) ⟨rfl, rfl⟩ ⟨Nat.zero_le _, Nat.zero_le _⟩ (fun r1 => ?_)
    refine v_istore_n (pc := 16) (lv' := [(2, .int r1), (0, rf G 0), (1, .int x1)]) C d_B_trials_16 rfl (by decide) rfl ?_
    refine v_iload_n (pc := 17) C d_B_trials_17 rfl 2 rfl ?_
    refine v_cp (pc := 18) (inv_S (As := [.int x1]) (st := []) C ml_B_331 ms_Cw_couplesOf ro_B_trials_Cw_couplesOf rfl rfl (Nat.le_of_ble_eq_true rfl) d_B_trials_18) (c_Cw_couplesOf hL S x1) ⟨rfl, rfl⟩ ⟨Nat.zero_le _, Nat.zero_le _⟩ (fun r2 => ?_)
    refine v_istore_n (pc := 21) (lv' := [(3, .int r2), (2, .int r1), (0, rf G 0), (1, .int x1)]) C d_B_trials_21 rfl (by decide) rfl ?_
    refine v_iconst (pc := 22) C d_B_trials_22 ic_0 ?_
    refine v_istore (pc := 23) (lv' := [(4, .int 0), (3, .int r2), (2, .int r1), (0, rf G 0), (1, .int x1)]) C d_B_trials_23 (by decide) rfl ?_
    refine v_sub [3, 2, 1, 0] rfl ?_
    refine v_bind ?_
    refine w_B_trials_L25 C hL r1 r2  fu 0 S _ (fun v3 S4 => ?_) 
    refine v_some ?_
    refine v_iconst (pc := 118) C d_B_trials_118 ic_m1 ?_
    refine v_istore (pc := 119) (lv' := [(4, .int (-1)), (0, rf G 0), (2, .int r1), (3, .int r2)]) C d_B_trials_119 (by decide) rfl ?_
    refine v_iconst (pc := 121) C d_B_trials_121 ic_0 ?_
    refine v_istore (pc := 122) (lv' := [(5, .int 0), (4, .int (-1)), (0, rf G 0), (2, .int r1), (3, .int r2)]) C d_B_trials_122 (by decide) rfl ?_
    refine v_sub [2, 3, 4, 1, 0] rfl ?_
    refine v_bind ?_
    refine w_B_trials_L124 C hL S4 r1 r2  fu (-1) 0 _ (fun v5 v6 => ?_) 
    refine v_some ?_
    refine v_iload (pc := 186) C d_B_trials_186 0 rfl ?_
    exact v_iret (z := (v5, S4)) C d_B_trials_188 rfl ⟨Nat.zero_le _, Nat.zero_le _⟩ (rfl) rfl
  · refine v_iconst (pc := 10) C d_B_trials_10 ic_m1 ?_
    exact v_iret (z := ((-1), S)) C d_B_trials_11 rfl ⟨Nat.zero_le _, Nat.zero_le _⟩ (rfl) rfl
-- B_apart
theorem d_B_apart_0 : decode (mB Y_B_apart) 0 = .ok (.iload_n 1, 1) := by decide +kernel
theorem d_B_apart_1 : decode (mB Y_B_apart) 1 = .ok (.iconst 0, 1) := by decide +kernel
theorem d_B_apart_2 : decode (mB Y_B_apart) 2 = .ok (.sipush 1023, 3) := by decide +kernel
theorem d_B_apart_5 : decode (mB Y_B_apart) 5 = .ok (.invokestatic 112, 3) := by decide +kernel
theorem d_B_apart_8 : decode (mB Y_B_apart) 8 = .ok (.ifCond .eq 25, 3) := by decide +kernel
theorem d_B_apart_11 : decode (mB Y_B_apart) 11 = .ok (.iload_n 1, 1) := by decide +kernel
theorem d_B_apart_12 : decode (mB Y_B_apart) 12 = .ok (.aload_n 0, 1) := by decide +kernel
theorem d_B_apart_13 : decode (mB Y_B_apart) 13 = .ok (.invokevirtual 328, 3) := by decide +kernel
theorem d_B_apart_16 : decode (mB Y_B_apart) 16 = .ok (.iconst (-1), 1) := by decide +kernel
theorem d_B_apart_17 : decode (mB Y_B_apart) 17 = .ok (.ixor, 1) := by decide +kernel
theorem d_B_apart_18 : decode (mB Y_B_apart) 18 = .ok (.iand, 1) := by decide +kernel
theorem d_B_apart_19 : decode (mB Y_B_apart) 19 = .ok (.ifCond .ne 14, 3) := by decide +kernel
theorem d_B_apart_22 : decode (mB Y_B_apart) 22 = .ok (.iload_n 2, 1) := by decide +kernel
theorem d_B_apart_23 : decode (mB Y_B_apart) 23 = .ok (.iconst 0, 1) := by decide +kernel
theorem d_B_apart_24 : decode (mB Y_B_apart) 24 = .ok (.sipush 999, 3) := by decide +kernel
theorem d_B_apart_27 : decode (mB Y_B_apart) 27 = .ok (.invokestatic 112, 3) := by decide +kernel
theorem d_B_apart_30 : decode (mB Y_B_apart) 30 = .ok (.ifCond .ne 5, 3) := by decide +kernel
theorem d_B_apart_33 : decode (mB Y_B_apart) 33 = .ok (.iconst (-1), 1) := by decide +kernel
theorem d_B_apart_34 : decode (mB Y_B_apart) 34 = .ok (.ireturn, 1) := by decide +kernel
theorem d_B_apart_35 : decode (mB Y_B_apart) 35 = .ok (.aload_n 0, 1) := by decide +kernel
theorem d_B_apart_36 : decode (mB Y_B_apart) 36 = .ok (.getfield 108, 3) := by decide +kernel
theorem d_B_apart_39 : decode (mB Y_B_apart) 39 = .ok (.iload_n 2, 1) := by decide +kernel
theorem d_B_apart_40 : decode (mB Y_B_apart) 40 = .ok (.invokevirtual 345, 3) := by decide +kernel
theorem d_B_apart_43 : decode (mB Y_B_apart) 43 = .ok (.aload_n 0, 1) := by decide +kernel
theorem d_B_apart_44 : decode (mB Y_B_apart) 44 = .ok (.getfield 108, 3) := by decide +kernel
theorem d_B_apart_47 : decode (mB Y_B_apart) 47 = .ok (.iload_n 1, 1) := by decide +kernel
theorem d_B_apart_48 : decode (mB Y_B_apart) 48 = .ok (.invokevirtual 348, 3) := by decide +kernel
theorem d_B_apart_51 : decode (mB Y_B_apart) 51 = .ok (.ireturn, 1) := by decide +kernel
theorem ro_B_apart_B_toldSpots : roomy Y_B_apart Y_B_toldSpots := ⟨Nat.le_of_ble_eq_true rfl, Nat.le_of_ble_eq_true rfl⟩
theorem ro_B_apart_B_within : roomy Y_B_apart Y_B_within := ⟨Nat.le_of_ble_eq_true rfl, Nat.le_of_ble_eq_true rfl⟩
theorem ro_B_apart_Rf_countApart : roomy Y_B_apart Y_Rf_countApart := ⟨Nat.le_of_ble_eq_true rfl, Nat.le_of_ble_eq_true rfl⟩
theorem ro_B_apart_Rf_prepare : roomy Y_B_apart Y_Rf_prepare := ⟨Nat.le_of_ble_eq_true rfl, Nat.le_of_ble_eq_true rfl⟩
def r_B_apart (x1 : Int32) (x2 : Int32) (S : Sto) : Option (Int32 × Sto) :=
  if (r_B_within x1 0 1023) = 0 then
    some ((-1), S)
  else
    (r_B_toldSpots S).bind (fun r1 =>
    if (x1 &&& (r1 ^^^ (-1))) = 0 then
      if (r_B_within x2 0 999) = 0 then
        some ((-1), S)
      else
        (r_Rf_prepare x2 S).bind (fun S2 =>
        (r_Rf_countApart x1 S2).bind (fun r3 =>
        some (r3, S2)))
    else
      some ((-1), S))
set_option maxHeartbeats 4000000 in
set_option maxRecDepth 20000 in
theorem c_B_apart {G : Gl} {L : Shp} (hL : Ext L) (S : Sto) (x1 : Int32) (x2 : Int32)  : Ct Y_B_apart G [rf G 0, .int x1, .int x2] L S (fi L) (r_B_apart x1 x2 S) := by
  refine ct_of (by decide +kernel) (Nat.le_of_ble_eq_true rfl) (fun g C => ?_)
  show VO g Y_B_apart G (fun z => Qm g Y_B_apart G (fi L z)) 0 0 0 [(0, rf G 0), (1, .int x1), (2, .int x2)] [] L S (r_B_apart x1 x2 S) some
  unfold r_B_apart
  refine v_iload_n (pc := 0) C d_B_apart_0 rfl 1 rfl ?_
  refine v_iconst (pc := 1) C d_B_apart_1 ic_0 ?_
  refine v_sipush (pc := 2) C d_B_apart_2 sp_1023 ?_
  refine v_ct (pc := 5) (inv_S (As := [.int x1, .int 0, .int 1023]) (st := []) C ml_B_112 ms_B_within ro_B_apart_B_within rfl rfl (Nat.le_of_ble_eq_true rfl) d_B_apart_5) (c_B_within hL S x1 0 1023) ⟨rfl, rfl⟩ ⟨Nat.zero_le _, Nat.zero_le _⟩ ?_
  refine v_if_eq (pc := 8) (tgt := 33) C d_B_apart_8 rfl (fun _ => ?_) (fun _ => ?_)
  · refine v_iconst (pc := 33) C d_B_apart_33 ic_m1 ?_
    exact v_iret (z := ((-1), S)) C d_B_apart_34 rfl ⟨Nat.zero_le _, Nat.zero_le _⟩ (rfl) rfl
  · refine v_iload_n (pc := 11) C d_B_apart_11 rfl 1 rfl ?_
    refine v_aload_n (pc := 12) C d_B_apart_12 rfl 0 rfl ?_
    refine v_cp (pc := 13) (inv_V (As := []) (st := [.int x1]) C ml_B_328 mv_B_toldSpots ro_B_apart_B_toldSpots (sh_0 hL) rfl rfl rfl rfl (Nat.le_of_ble_eq_true rfl) d_B_apart_13) (c_B_toldSpots hL S) ⟨rfl, rfl⟩ ⟨Nat.zero_le _, Nat.zero_le _⟩ (fun r1 => ?_)
    refine v_iconst (pc := 16) C d_B_apart_16 ic_m1 ?_
    refine v_ixor (pc := 17) C d_B_apart_17 ?_
    refine v_iand (pc := 18) C d_B_apart_18 ?_
    refine v_if_ne (pc := 19) (tgt := 33) C d_B_apart_19 rfl (fun _ => ?_) (fun _ => ?_)
    · refine v_iconst (pc := 33) C d_B_apart_33 ic_m1 ?_
      exact v_iret (z := ((-1), S)) C d_B_apart_34 rfl ⟨Nat.zero_le _, Nat.zero_le _⟩ (rfl) rfl
    · refine v_iload_n (pc := 22) C d_B_apart_22 rfl 2 rfl ?_
      refine v_iconst (pc := 23) C d_B_apart_23 ic_0 ?_
      refine v_sipush (pc := 24) C d_B_apart_24 sp_999 ?_
      refine v_ct (pc := 27) (inv_S (As := [.int x2, .int 0, .int 999]) (st := []) C ml_B_112 ms_B_within ro_B_apart_B_within rfl rfl (Nat.le_of_ble_eq_true rfl) d_B_apart_27) (c_B_within hL S x2 0 999) ⟨rfl, rfl⟩ ⟨Nat.zero_le _, Nat.zero_le _⟩ ?_
      refine v_if_ne (pc := 30) (tgt := 35) C d_B_apart_30 rfl (fun _ => ?_) (fun _ => ?_)
      · refine v_aload_n (pc := 35) C d_B_apart_35 rfl 0 rfl ?_
        refine v_getR (pc := 36) C fl_B_108 (sh_0 hL) rfl d_B_apart_36 ?_
        refine v_iload_n (pc := 39) C d_B_apart_39 rfl 2 rfl ?_
        refine v_cv (pc := 40) (inv_V (As := [.int x2]) (st := []) C ml_B_345 mv_Rf_prepare ro_B_apart_Rf_prepare (sh_101 hL) rfl rfl rfl rfl (Nat.le_of_ble_eq_true rfl) d_B_apart_40) (c_Rf_prepare hL S x2) ⟨rfl, rfl⟩ ⟨Nat.zero_le _, Nat.zero_le _⟩ (fun S2 => ?_)
        refine v_aload_n (pc := 43) C d_B_apart_43 rfl 0 rfl ?_
        refine v_getR (pc := 44) C fl_B_108 (sh_0 hL) rfl d_B_apart_44 ?_
        refine v_iload_n (pc := 47) C d_B_apart_47 rfl 1 rfl ?_
        refine v_cp (pc := 48) (inv_V (As := [.int x1]) (st := []) C ml_B_348 mv_Rf_countApart ro_B_apart_Rf_countApart (sh_101 hL) rfl rfl rfl rfl (Nat.le_of_ble_eq_true rfl) d_B_apart_48) (c_Rf_countApart hL S2 x1) ⟨rfl, rfl⟩ ⟨Nat.zero_le _, Nat.zero_le _⟩ (fun r3 => ?_)
        exact v_iret (z := (r3, S2)) C d_B_apart_51 rfl ⟨Nat.zero_le _, Nat.zero_le _⟩ (rfl) rfl
      · refine v_iconst (pc := 33) C d_B_apart_33 ic_m1 ?_
        exact v_iret (z := ((-1), S)) C d_B_apart_34 rfl ⟨Nat.zero_le _, Nat.zero_le _⟩ (rfl) rfl
-- B_roofs
theorem d_B_roofs_0 : decode (mB Y_B_roofs) 0 = .ok (.aload_n 0, 1) := by decide +kernel
theorem d_B_roofs_1 : decode (mB Y_B_roofs) 1 = .ok (.invokevirtual 328, 3) := by decide +kernel
theorem d_B_roofs_4 : decode (mB Y_B_roofs) 4 = .ok (.istore_n 3, 1) := by decide +kernel
theorem d_B_roofs_5 : decode (mB Y_B_roofs) 5 = .ok (.iload_n 1, 1) := by decide +kernel
theorem d_B_roofs_6 : decode (mB Y_B_roofs) 6 = .ok (.iconst 2, 1) := by decide +kernel
theorem d_B_roofs_7 : decode (mB Y_B_roofs) 7 = .ok (.bipush 6, 2) := by decide +kernel
theorem d_B_roofs_9 : decode (mB Y_B_roofs) 9 = .ok (.invokestatic 112, 3) := by decide +kernel
theorem d_B_roofs_12 : decode (mB Y_B_roofs) 12 = .ok (.ifCond .eq 22, 3) := by decide +kernel
theorem d_B_roofs_15 : decode (mB Y_B_roofs) 15 = .ok (.iload_n 1, 1) := by decide +kernel
theorem d_B_roofs_16 : decode (mB Y_B_roofs) 16 = .ok (.iload_n 3, 1) := by decide +kernel
theorem d_B_roofs_17 : decode (mB Y_B_roofs) 17 = .ok (.invokestatic 351, 3) := by decide +kernel
theorem d_B_roofs_20 : decode (mB Y_B_roofs) 20 = .ok (.if_icmp .gt 14, 3) := by decide +kernel
theorem d_B_roofs_23 : decode (mB Y_B_roofs) 23 = .ok (.iload_n 2, 1) := by decide +kernel
theorem d_B_roofs_24 : decode (mB Y_B_roofs) 24 = .ok (.iconst 0, 1) := by decide +kernel
theorem d_B_roofs_25 : decode (mB Y_B_roofs) 25 = .ok (.sipush 999, 3) := by decide +kernel
theorem d_B_roofs_28 : decode (mB Y_B_roofs) 28 = .ok (.invokestatic 112, 3) := by decide +kernel
theorem d_B_roofs_31 : decode (mB Y_B_roofs) 31 = .ok (.ifCond .ne 5, 3) := by decide +kernel
theorem d_B_roofs_34 : decode (mB Y_B_roofs) 34 = .ok (.iconst (-1), 1) := by decide +kernel
theorem d_B_roofs_35 : decode (mB Y_B_roofs) 35 = .ok (.ireturn, 1) := by decide +kernel
theorem d_B_roofs_36 : decode (mB Y_B_roofs) 36 = .ok (.aload_n 0, 1) := by decide +kernel
theorem d_B_roofs_37 : decode (mB Y_B_roofs) 37 = .ok (.getfield 108, 3) := by decide +kernel
theorem d_B_roofs_40 : decode (mB Y_B_roofs) 40 = .ok (.iload_n 2, 1) := by decide +kernel
theorem d_B_roofs_41 : decode (mB Y_B_roofs) 41 = .ok (.invokevirtual 345, 3) := by decide +kernel
theorem d_B_roofs_44 : decode (mB Y_B_roofs) 44 = .ok (.iconst (-1), 1) := by decide +kernel
theorem d_B_roofs_45 : decode (mB Y_B_roofs) 45 = .ok (.istore 4, 2) := by decide +kernel
theorem d_B_roofs_47 : decode (mB Y_B_roofs) 47 = .ok (.iconst (-1), 1) := by decide +kernel
theorem d_B_roofs_48 : decode (mB Y_B_roofs) 48 = .ok (.istore 5, 2) := by decide +kernel
theorem d_B_roofs_50 : decode (mB Y_B_roofs) 50 = .ok (.iconst 0, 1) := by decide +kernel
theorem d_B_roofs_51 : decode (mB Y_B_roofs) 51 = .ok (.istore 6, 2) := by decide +kernel
theorem d_B_roofs_53 : decode (mB Y_B_roofs) 53 = .ok (.iload 6, 2) := by decide +kernel
theorem d_B_roofs_55 : decode (mB Y_B_roofs) 55 = .ok (.sipush 1024, 3) := by decide +kernel
theorem d_B_roofs_58 : decode (mB Y_B_roofs) 58 = .ok (.if_icmp .ge 53, 3) := by decide +kernel
theorem d_B_roofs_61 : decode (mB Y_B_roofs) 61 = .ok (.iload 6, 2) := by decide +kernel
theorem d_B_roofs_63 : decode (mB Y_B_roofs) 63 = .ok (.invokestatic 351, 3) := by decide +kernel
theorem d_B_roofs_66 : decode (mB Y_B_roofs) 66 = .ok (.iload_n 1, 1) := by decide +kernel
theorem d_B_roofs_67 : decode (mB Y_B_roofs) 67 = .ok (.if_icmp .ne 38, 3) := by decide +kernel
theorem d_B_roofs_70 : decode (mB Y_B_roofs) 70 = .ok (.iload 6, 2) := by decide +kernel
theorem d_B_roofs_72 : decode (mB Y_B_roofs) 72 = .ok (.iload_n 3, 1) := by decide +kernel
theorem d_B_roofs_73 : decode (mB Y_B_roofs) 73 = .ok (.iconst (-1), 1) := by decide +kernel
theorem d_B_roofs_74 : decode (mB Y_B_roofs) 74 = .ok (.ixor, 1) := by decide +kernel
theorem d_B_roofs_75 : decode (mB Y_B_roofs) 75 = .ok (.iand, 1) := by decide +kernel
theorem d_B_roofs_76 : decode (mB Y_B_roofs) 76 = .ok (.ifCond .ne 29, 3) := by decide +kernel
theorem d_B_roofs_79 : decode (mB Y_B_roofs) 79 = .ok (.aload_n 0, 1) := by decide +kernel
theorem d_B_roofs_80 : decode (mB Y_B_roofs) 80 = .ok (.getfield 108, 3) := by decide +kernel
theorem d_B_roofs_83 : decode (mB Y_B_roofs) 83 = .ok (.iload 6, 2) := by decide +kernel
theorem d_B_roofs_85 : decode (mB Y_B_roofs) 85 = .ok (.invokevirtual 348, 3) := by decide +kernel
theorem d_B_roofs_88 : decode (mB Y_B_roofs) 88 = .ok (.istore 7, 2) := by decide +kernel
theorem d_B_roofs_90 : decode (mB Y_B_roofs) 90 = .ok (.iload 7, 2) := by decide +kernel
theorem d_B_roofs_92 : decode (mB Y_B_roofs) 92 = .ok (.iload 5, 2) := by decide +kernel
theorem d_B_roofs_94 : decode (mB Y_B_roofs) 94 = .ok (.if_icmp .le 11, 3) := by decide +kernel
theorem d_B_roofs_97 : decode (mB Y_B_roofs) 97 = .ok (.iload 7, 2) := by decide +kernel
theorem d_B_roofs_99 : decode (mB Y_B_roofs) 99 = .ok (.istore 5, 2) := by decide +kernel
theorem d_B_roofs_101 : decode (mB Y_B_roofs) 101 = .ok (.iload 6, 2) := by decide +kernel
theorem d_B_roofs_103 : decode (mB Y_B_roofs) 103 = .ok (.istore 4, 2) := by decide +kernel
theorem d_B_roofs_105 : decode (mB Y_B_roofs) 105 = .ok (.iinc 6 1, 3) := by decide +kernel
theorem d_B_roofs_108 : decode (mB Y_B_roofs) 108 = .ok (.goto (-55), 3) := by decide +kernel
theorem d_B_roofs_111 : decode (mB Y_B_roofs) 111 = .ok (.iload 4, 2) := by decide +kernel
theorem d_B_roofs_113 : decode (mB Y_B_roofs) 113 = .ok (.ireturn, 1) := by decide +kernel
theorem ro_B_roofs_B_toldSpots : roomy Y_B_roofs Y_B_toldSpots := ⟨Nat.le_of_ble_eq_true rfl, Nat.le_of_ble_eq_true rfl⟩
theorem ro_B_roofs_B_within : roomy Y_B_roofs Y_B_within := ⟨Nat.le_of_ble_eq_true rfl, Nat.le_of_ble_eq_true rfl⟩
theorem ro_B_roofs_Ig_bitCount : roomy Y_B_roofs Y_Ig_bitCount := ⟨Nat.le_of_ble_eq_true rfl, Nat.le_of_ble_eq_true rfl⟩
theorem ro_B_roofs_Rf_countApart : roomy Y_B_roofs Y_Rf_countApart := ⟨Nat.le_of_ble_eq_true rfl, Nat.le_of_ble_eq_true rfl⟩
theorem ro_B_roofs_Rf_prepare : roomy Y_B_roofs Y_Rf_prepare := ⟨Nat.le_of_ble_eq_true rfl, Nat.le_of_ble_eq_true rfl⟩
def r_B_roofs_L53 (y1_ : Int32) (y3_ : Int32) : Nat → Int32 → Int32 → Int32 → Sto → Option (Int32 × Int32 × Int32)
  | 0, _, _, _, _ => none
  | n + 1, x4_, x5_, x6_, S =>
    if 1024 ≤ x6_ then
      some (x4_, x5_, x6_)
    else
      jn (fun ((v1, v2) : Int32 × Int32) =>
        lt (x6_ + 1) (fun v3 =>
        r_B_roofs_L53 y1_ y3_ n v1 v2 v3 S)) (fun j105 =>
      if (r_Ig_bitCount x6_) = y1_ then
        if (x6_ &&& (y3_ ^^^ (-1))) = 0 then
          (r_Rf_countApart x6_ S).bind (fun r4 =>
          if r4 ≤ x5_ then
            j105 (x4_, x5_)
          else
            j105 (x6_, r4))
        else
          j105 (x4_, x5_)
      else
        j105 (x4_, x5_))
set_option maxHeartbeats 4000000 in
set_option maxRecDepth 20000 in
theorem w_B_roofs_L53 {g : Gm} {G : Gl} {L : Shp} (C : Cx g Y_B_roofs G) (hL : Ext L) (S : Sto) (y1_ : Int32) (y3_ : Int32)  :
    ∀ (n : Nat) (x4_ : Int32) (x5_ : Int32) (x6_ : Int32) (K : (Int32 × Int32 × Int32) → Option (Int32 × Sto)), (∀ (x4_ : Int32) (x5_ : Int32) (x6_ : Int32), VO g Y_B_roofs G (fun z => Qm g Y_B_roofs G (fi L z)) 0 0 111 [(4, .int x4_)] [] L S (some (x4_, x5_, x6_)) K) → VO g Y_B_roofs G (fun z => Qm g Y_B_roofs G (fi L z)) 0 0 53 [(0, rf G 0), (1, .int y1_), (3, .int y3_), (4, .int x4_), (5, .int x5_), (6, .int x6_)] [] L S (r_B_roofs_L53 y1_ y3_ n x4_ x5_ x6_ S) K := by
  intro n
  induction n with
  | zero => intro x4_ x5_ x6_ K; intros; exact v_none
  | succ n ih =>
    intro x4_ x5_ x6_ K hK
    rw [r_B_roofs_L53]
    refine v_iload (pc := 53) C d_B_roofs_53 5 rfl ?_
    refine v_sipush (pc := 55) C d_B_roofs_55 sp_1024 ?_
    refine v_icmp_ge (pc := 58) (tgt := 111) C d_B_roofs_58 rfl (fun _ => ?_) (fun _ => ?_)
    · refine v_sub [3] rfl ?_
      exact hK x4_ x5_ x6_
    · refine v_iload (pc := 61) C d_B_roofs_61 5 rfl ?_
      refine v_ct (pc := 63) (inv_S (As := [.int x6_]) (st := []) C ml_B_351 ms_Ig_bitCount ro_B_roofs_Ig_bitCount rfl rfl (Nat.le_of_ble_eq_true rfl) d_B_roofs_63) (c_Ig_bitCount hL S x6_) ⟨rfl, rfl⟩ ⟨Nat.zero_le _, Nat.zero_le _⟩ ?_
      refine v_iload_n (pc := 66) C d_B_roofs_66 rfl 1 rfl ?_
      refine v_jn (fun j => ∀ (v1 : Int32) (v2 : Int32), VO g Y_B_roofs G (fun z => Qm g Y_B_roofs G (fi L z)) 0 0 105 [(0, rf G 0), (1, .int y1_), (3, .int y3_), (4, .int v1), (5, .int v2), (6, .int x6_)] [] L S (j (v1, v2)) K) (fun v1 v2 => ?_) (fun j105 hj105 => ?_)
      · refine v_iinc (pc := 105) (p := 5) (c := 1) C d_B_roofs_105 rfl (by decide) (by decide) (fun v3 => [(6, .int v3), (0, rf G 0), (1, .int y1_), (3, .int y3_), (4, .int v1), (5, .int v2)]) (fun _ => rfl) (fun v3 => ?_)
        refine v_goto (pc := 108) (tgt := 53) C d_B_roofs_108 rfl ?_
        refine v_sub [1, 2, 3, 4, 5, 0] rfl ?_
        exact ih v1 v2 v3 K hK
      · refine v_icmp_ne (pc := 67) (tgt := 105) C d_B_roofs_67 rfl (fun _ => ?_) (fun _ => ?_)
        · exact hj105 x4_ x5_
        · refine v_iload (pc := 70) C d_B_roofs_70 5 rfl ?_
          refine v_iload_n (pc := 72) C d_B_roofs_72 rfl 2 rfl ?_
          refine v_iconst (pc := 73) C d_B_roofs_73 ic_m1 ?_
          refine v_ixor (pc := 74) C d_B_roofs_74 ?_
          refine v_iand (pc := 75) C d_B_roofs_75 ?_
          refine v_if_ne (pc := 76) (tgt := 105) C d_B_roofs_76 rfl (fun _ => ?_) (fun _ => ?_)
          · exact hj105 x4_ x5_
          · refine v_aload_n (pc := 79) C d_B_roofs_79 rfl 0 rfl ?_
            refine v_getR (pc := 80) C fl_B_108 (sh_0 hL) rfl d_B_roofs_80 ?_
            refine v_iload (pc := 83) C d_B_roofs_83 5 rfl ?_
            refine v_cp (pc := 85) (inv_V (As := [.int x6_]) (st := []) C ml_B_348 mv_Rf_countApart ro_B_roofs_Rf_countApart (sh_101 hL) rfl rfl rfl rfl (Nat.le_of_ble_eq_true rfl) d_B_roofs_85) (c_Rf_countApart hL S x6_) ⟨rfl, rfl⟩ ⟨Nat.zero_le _, Nat.zero_le _⟩ (fun r4 => ?_)
            refine v_istore (pc := 88) (lv' := [(7, .int r4), (0, rf G 0), (1, .int y1_), (3, .int y3_), (4, .int x4_), (5, .int x5_), (6, .int x6_)]) C d_B_roofs_88 (by decide) rfl ?_
            refine v_iload (pc := 90) C d_B_roofs_90 0 rfl ?_
            refine v_iload (pc := 92) C d_B_roofs_92 5 rfl ?_
            refine v_icmp_le (pc := 94) (tgt := 105) C d_B_roofs_94 rfl (fun _ => ?_) (fun _ => ?_)
            · refine v_sub [1, 2, 3, 4, 5, 6] rfl ?_
              exact hj105 x4_ x5_
            · refine v_iload (pc := 97) C d_B_roofs_97 0 rfl ?_
              refine v_istore (pc := 99) (lv' := [(5, .int r4), (7, .int r4), (0, rf G 0), (1, .int y1_), (3, .int y3_), (4, .int x4_), (6, .int x6_)]) C d_B_roofs_99 (by decide) rfl ?_
              refine v_iload (pc := 101) C d_B_roofs_101 6 rfl ?_
              refine v_istore (pc := 103) (lv' := [(4, .int x6_), (5, .int r4), (7, .int r4), (0, rf G 0), (1, .int y1_), (3, .int y3_), (6, .int x6_)]) C d_B_roofs_103 (by decide) rfl ?_
              refine v_sub [3, 4, 5, 0, 1, 6] rfl ?_
              exact hj105 x6_ r4
def r_B_roofs (x1 : Int32) (x2 : Int32) (S : Sto) : Option (Int32 × Sto) :=
  (r_B_toldSpots S).bind (fun r1 =>
  if (r_B_within x1 2 6) = 0 then
    some ((-1), S)
  else
    if (r_Ig_bitCount r1) < x1 then
      some ((-1), S)
    else
      if (r_B_within x2 0 999) = 0 then
        some ((-1), S)
      else
        (r_Rf_prepare x2 S).bind (fun S2 =>
        (r_B_roofs_L53 x1 r1 fu (-1) (-1) 0 S2).bind (fun (v3, v4, v5) =>
        some (v3, S2))))
set_option maxHeartbeats 4000000 in
set_option maxRecDepth 20000 in
theorem c_B_roofs {G : Gl} {L : Shp} (hL : Ext L) (S : Sto) (x1 : Int32) (x2 : Int32)  : Ct Y_B_roofs G [rf G 0, .int x1, .int x2] L S (fi L) (r_B_roofs x1 x2 S) := by
  refine ct_of (by decide +kernel) (Nat.le_of_ble_eq_true rfl) (fun g C => ?_)
  show VO g Y_B_roofs G (fun z => Qm g Y_B_roofs G (fi L z)) 0 0 0 [(0, rf G 0), (1, .int x1), (2, .int x2)] [] L S (r_B_roofs x1 x2 S) some
  unfold r_B_roofs
  refine v_aload_n (pc := 0) C d_B_roofs_0 rfl 0 rfl ?_
  refine v_cp (pc := 1) (inv_V (As := []) (st := []) C ml_B_328 mv_B_toldSpots ro_B_roofs_B_toldSpots (sh_0 hL) rfl rfl rfl rfl (Nat.le_of_ble_eq_true rfl) d_B_roofs_1) (c_B_toldSpots hL S) ⟨rfl, rfl⟩ ⟨Nat.zero_le _, Nat.zero_le _⟩ (fun r1 => ?_)
  refine v_istore_n (pc := 4) (lv' := [(3, .int r1), (0, rf G 0), (1, .int x1), (2, .int x2)]) C d_B_roofs_4 rfl (by decide) rfl ?_
  refine v_iload_n (pc := 5) C d_B_roofs_5 rfl 2 rfl ?_
  refine v_iconst (pc := 6) C d_B_roofs_6 ic_2 ?_
  refine v_bipush (pc := 7) C d_B_roofs_7 bp_6 ?_
  refine v_ct (pc := 9) (inv_S (As := [.int x1, .int 2, .int 6]) (st := []) C ml_B_112 ms_B_within ro_B_roofs_B_within rfl rfl (Nat.le_of_ble_eq_true rfl) d_B_roofs_9) (c_B_within hL S x1 2 6) ⟨rfl, rfl⟩ ⟨Nat.zero_le _, Nat.zero_le _⟩ ?_
  refine v_if_eq (pc := 12) (tgt := 34) C d_B_roofs_12 rfl (fun _ => ?_) (fun _ => ?_)
  · refine v_iconst (pc := 34) C d_B_roofs_34 ic_m1 ?_
    exact v_iret (z := ((-1), S)) C d_B_roofs_35 rfl ⟨Nat.zero_le _, Nat.zero_le _⟩ (rfl) rfl
  · refine v_iload_n (pc := 15) C d_B_roofs_15 rfl 2 rfl ?_
    refine v_iload_n (pc := 16) C d_B_roofs_16 rfl 0 rfl ?_
    refine v_ct (pc := 17) (inv_S (As := [.int r1]) (st := [.int x1]) C ml_B_351 ms_Ig_bitCount ro_B_roofs_Ig_bitCount rfl rfl (Nat.le_of_ble_eq_true rfl) d_B_roofs_17) (c_Ig_bitCount hL S r1) ⟨rfl, rfl⟩ ⟨Nat.zero_le _, Nat.zero_le _⟩ ?_
    refine v_icmp_gt (pc := 20) (tgt := 34) C d_B_roofs_20 rfl (fun _ => ?_) (fun _ => ?_)
    · refine v_iconst (pc := 34) C d_B_roofs_34 ic_m1 ?_
      exact v_iret (z := ((-1), S)) C d_B_roofs_35 rfl ⟨Nat.zero_le _, Nat.zero_le _⟩ (rfl) rfl
    · refine v_iload_n (pc := 23) C d_B_roofs_23 rfl 3 rfl ?_
      refine v_iconst (pc := 24) C d_B_roofs_24 ic_0 ?_
      refine v_sipush (pc := 25) C d_B_roofs_25 sp_999 ?_
      refine v_ct (pc := 28) (inv_S (As := [.int x2, .int 0, .int 999]) (st := []) C ml_B_112 ms_B_within ro_B_roofs_B_within rfl rfl (Nat.le_of_ble_eq_true rfl) d_B_roofs_28) (c_B_within hL S x2 0 999) ⟨rfl, rfl⟩ ⟨Nat.zero_le _, Nat.zero_le _⟩ ?_
      refine v_if_ne (pc := 31) (tgt := 36) C d_B_roofs_31 rfl (fun _ => ?_) (fun _ => ?_)
      · refine v_aload_n (pc := 36) C d_B_roofs_36 rfl 1 rfl ?_
        refine v_getR (pc := 37) C fl_B_108 (sh_0 hL) rfl d_B_roofs_37 ?_
        refine v_iload_n (pc := 40) C d_B_roofs_40 rfl 3 rfl ?_
        refine v_cv (pc := 41) (inv_V (As := [.int x2]) (st := []) C ml_B_345 mv_Rf_prepare ro_B_roofs_Rf_prepare (sh_101 hL) rfl rfl rfl rfl (Nat.le_of_ble_eq_true rfl) d_B_roofs_41) (c_Rf_prepare hL S x2) ⟨rfl, rfl⟩ ⟨Nat.zero_le _, Nat.zero_le _⟩ (fun S2 => ?_)
        refine v_iconst (pc := 44) C d_B_roofs_44 ic_m1 ?_
        refine v_istore (pc := 45) (lv' := [(4, .int (-1)), (3, .int r1), (0, rf G 0), (1, .int x1), (2, .int x2)]) C d_B_roofs_45 (by decide) rfl ?_
        refine v_iconst (pc := 47) C d_B_roofs_47 ic_m1 ?_
        refine v_istore (pc := 48) (lv' := [(5, .int (-1)), (4, .int (-1)), (3, .int r1), (0, rf G 0), (1, .int x1), (2, .int x2)]) C d_B_roofs_48 (by decide) rfl ?_
        refine v_iconst (pc := 50) C d_B_roofs_50 ic_0 ?_
        refine v_istore (pc := 51) (lv' := [(6, .int 0), (5, .int (-1)), (4, .int (-1)), (3, .int r1), (0, rf G 0), (1, .int x1), (2, .int x2)]) C d_B_roofs_51 (by decide) rfl ?_
        refine v_sub [4, 5, 3, 2, 1, 0] rfl ?_
        refine v_bind ?_
        refine w_B_roofs_L53 C hL S2 x1 r1  fu (-1) (-1) 0 _ (fun v3 v4 v5 => ?_) 
        refine v_some ?_
        refine v_iload (pc := 111) C d_B_roofs_111 0 rfl ?_
        exact v_iret (z := (v3, S2)) C d_B_roofs_113 rfl ⟨Nat.zero_le _, Nat.zero_le _⟩ (rfl) rfl
      · refine v_iconst (pc := 34) C d_B_roofs_34 ic_m1 ?_
        exact v_iret (z := ((-1), S)) C d_B_roofs_35 rfl ⟨Nat.zero_le _, Nat.zero_le _⟩ (rfl) rfl
-- B_look
theorem d_B_look_0 : decode (mB Y_B_look) 0 = .ok (.iload_n 1, 1) := by decide +kernel
theorem d_B_look_1 : decode (mB Y_B_look) 1 = .ok (.tableswitch 84 0 5 #[39, 47, 52, 60, 68, 76], 39) := by decide +kernel
theorem d_B_look_40 : decode (mB Y_B_look) 40 = .ok (.aload_n 0, 1) := by decide +kernel
theorem d_B_look_41 : decode (mB Y_B_look) 41 = .ok (.getfield 12, 3) := by decide +kernel
theorem d_B_look_44 : decode (mB Y_B_look) 44 = .ok (.getfield 143, 3) := by decide +kernel
theorem d_B_look_47 : decode (mB Y_B_look) 47 = .ok (.ireturn, 1) := by decide +kernel
theorem d_B_look_48 : decode (mB Y_B_look) 48 = .ok (.aload_n 0, 1) := by decide +kernel
theorem d_B_look_49 : decode (mB Y_B_look) 49 = .ok (.getfield 157, 3) := by decide +kernel
theorem d_B_look_52 : decode (mB Y_B_look) 52 = .ok (.ireturn, 1) := by decide +kernel
theorem d_B_look_53 : decode (mB Y_B_look) 53 = .ok (.aload_n 0, 1) := by decide +kernel
theorem d_B_look_54 : decode (mB Y_B_look) 54 = .ok (.getfield 54, 3) := by decide +kernel
theorem d_B_look_57 : decode (mB Y_B_look) 57 = .ok (.getfield 226, 3) := by decide +kernel
theorem d_B_look_60 : decode (mB Y_B_look) 60 = .ok (.ireturn, 1) := by decide +kernel
theorem d_B_look_61 : decode (mB Y_B_look) 61 = .ok (.aload_n 0, 1) := by decide +kernel
theorem d_B_look_62 : decode (mB Y_B_look) 62 = .ok (.getfield 69, 3) := by decide +kernel
theorem d_B_look_65 : decode (mB Y_B_look) 65 = .ok (.getfield 246, 3) := by decide +kernel
theorem d_B_look_68 : decode (mB Y_B_look) 68 = .ok (.ireturn, 1) := by decide +kernel
theorem d_B_look_69 : decode (mB Y_B_look) 69 = .ok (.aload_n 0, 1) := by decide +kernel
theorem d_B_look_70 : decode (mB Y_B_look) 70 = .ok (.getfield 89, 3) := by decide +kernel
theorem d_B_look_73 : decode (mB Y_B_look) 73 = .ok (.getfield 321, 3) := by decide +kernel
theorem d_B_look_76 : decode (mB Y_B_look) 76 = .ok (.ireturn, 1) := by decide +kernel
theorem d_B_look_77 : decode (mB Y_B_look) 77 = .ok (.aload_n 0, 1) := by decide +kernel
theorem d_B_look_78 : decode (mB Y_B_look) 78 = .ok (.invokevirtual 328, 3) := by decide +kernel
theorem d_B_look_81 : decode (mB Y_B_look) 81 = .ok (.invokestatic 351, 3) := by decide +kernel
theorem d_B_look_84 : decode (mB Y_B_look) 84 = .ok (.ireturn, 1) := by decide +kernel
theorem d_B_look_85 : decode (mB Y_B_look) 85 = .ok (.iconst (-1), 1) := by decide +kernel
theorem d_B_look_86 : decode (mB Y_B_look) 86 = .ok (.ireturn, 1) := by decide +kernel
theorem ro_B_look_B_toldSpots : roomy Y_B_look Y_B_toldSpots := ⟨Nat.le_of_ble_eq_true rfl, Nat.le_of_ble_eq_true rfl⟩
theorem ro_B_look_Ig_bitCount : roomy Y_B_look Y_Ig_bitCount := ⟨Nat.le_of_ble_eq_true rfl, Nat.le_of_ble_eq_true rfl⟩
def r_B_look (x1 : Int32) (S : Sto) : Option Int32 :=
  if x1 = 0 then
    some (S 1 4)
  else
    if x1 = 1 then
      some (S 0 4)
    else
      if x1 = 2 then
        some (S 33 4)
      else
        if x1 = 3 then
          some (S 53 3)
        else
          if x1 = 4 then
            some (S 90 5)
          else
            if x1 = 5 then
              (r_B_toldSpots S).bind (fun r7 =>
              some (r_Ig_bitCount r7))
            else
              some (-1)
set_option maxHeartbeats 4000000 in
set_option maxRecDepth 20000 in
theorem c_B_look {G : Gl} {L : Shp} (hL : Ext L) (S : Sto) (x1 : Int32)  : Ct Y_B_look G [rf G 0, .int x1] L S (fp L S) (r_B_look x1 S) := by
  refine ct_of (by decide +kernel) (Nat.le_of_ble_eq_true rfl) (fun g C => ?_)
  show VO g Y_B_look G (fun z => Qm g Y_B_look G (fp L S z)) 0 0 0 [(0, rf G 0), (1, .int x1)] [] L S (r_B_look x1 S) some
  unfold r_B_look
  refine v_iload_n (pc := 0) C d_B_look_0 rfl 1 rfl ?_
  refine v_case (x := x1) (c := 0) (fun hc1 => ?_) (fun hc1 => ?_)
  · refine v_tableIn (pc := 1) (tgt := 40) C d_B_look_1 (by rw [hc1]; decide) (by rw [hc1]; decide) (by rw [hc1] <;> rfl) rfl ?_
    refine v_aload_n (pc := 40) C d_B_look_40 rfl 0 rfl ?_
    refine v_getR (pc := 41) C fl_B_12 (sh_0 hL) rfl d_B_look_41 ?_
    refine v_getI (pc := 44) C fl_B_143 (sh_1 hL) rfl d_B_look_44 ?_
    exact v_iret (z := (S 1 4)) C d_B_look_47 rfl ⟨Nat.zero_le _, Nat.zero_le _⟩ (rfl) rfl
  · refine v_case (x := x1) (c := 1) (fun hc2 => ?_) (fun hc2 => ?_)
    · refine v_tableIn (pc := 1) (tgt := 48) C d_B_look_1 (by rw [hc2]; decide) (by rw [hc2]; decide) (by rw [hc2] <;> rfl) rfl ?_
      refine v_aload_n (pc := 48) C d_B_look_48 rfl 0 rfl ?_
      refine v_getI (pc := 49) C fl_B_157 (sh_0 hL) rfl d_B_look_49 ?_
      exact v_iret (z := (S 0 4)) C d_B_look_52 rfl ⟨Nat.zero_le _, Nat.zero_le _⟩ (rfl) rfl
    · refine v_case (x := x1) (c := 2) (fun hc3 => ?_) (fun hc3 => ?_)
      · refine v_tableIn (pc := 1) (tgt := 53) C d_B_look_1 (by rw [hc3]; decide) (by rw [hc3]; decide) (by rw [hc3] <;> rfl) rfl ?_
        refine v_aload_n (pc := 53) C d_B_look_53 rfl 0 rfl ?_
        refine v_getR (pc := 54) C fl_B_54 (sh_0 hL) rfl d_B_look_54 ?_
        refine v_getI (pc := 57) C fl_B_226 (sh_33 hL) rfl d_B_look_57 ?_
        exact v_iret (z := (S 33 4)) C d_B_look_60 rfl ⟨Nat.zero_le _, Nat.zero_le _⟩ (rfl) rfl
      · refine v_case (x := x1) (c := 3) (fun hc4 => ?_) (fun hc4 => ?_)
        · refine v_tableIn (pc := 1) (tgt := 61) C d_B_look_1 (by rw [hc4]; decide) (by rw [hc4]; decide) (by rw [hc4] <;> rfl) rfl ?_
          refine v_aload_n (pc := 61) C d_B_look_61 rfl 0 rfl ?_
          refine v_getR (pc := 62) C fl_B_69 (sh_0 hL) rfl d_B_look_62 ?_
          refine v_getI (pc := 65) C fl_B_246 (sh_53 hL) rfl d_B_look_65 ?_
          exact v_iret (z := (S 53 3)) C d_B_look_68 rfl ⟨Nat.zero_le _, Nat.zero_le _⟩ (rfl) rfl
        · refine v_case (x := x1) (c := 4) (fun hc5 => ?_) (fun hc5 => ?_)
          · refine v_tableIn (pc := 1) (tgt := 69) C d_B_look_1 (by rw [hc5]; decide) (by rw [hc5]; decide) (by rw [hc5] <;> rfl) rfl ?_
            refine v_aload_n (pc := 69) C d_B_look_69 rfl 0 rfl ?_
            refine v_getR (pc := 70) C fl_B_89 (sh_0 hL) rfl d_B_look_70 ?_
            refine v_getI (pc := 73) C fl_B_321 (sh_90 hL) rfl d_B_look_73 ?_
            exact v_iret (z := (S 90 5)) C d_B_look_76 rfl ⟨Nat.zero_le _, Nat.zero_le _⟩ (rfl) rfl
          · refine v_case (x := x1) (c := 5) (fun hc6 => ?_) (fun hc6 => ?_)
            · refine v_tableIn (pc := 1) (tgt := 77) C d_B_look_1 (by rw [hc6]; decide) (by rw [hc6]; decide) (by rw [hc6] <;> rfl) rfl ?_
              refine v_aload_n (pc := 77) C d_B_look_77 rfl 0 rfl ?_
              refine v_cp (pc := 78) (inv_V (As := []) (st := []) C ml_B_328 mv_B_toldSpots ro_B_look_B_toldSpots (sh_0 hL) rfl rfl rfl rfl (Nat.le_of_ble_eq_true rfl) d_B_look_78) (c_B_toldSpots hL S) ⟨rfl, rfl⟩ ⟨Nat.zero_le _, Nat.zero_le _⟩ (fun r7 => ?_)
              refine v_ct (pc := 81) (inv_S (As := [.int r7]) (st := []) C ml_B_351 ms_Ig_bitCount ro_B_look_Ig_bitCount rfl rfl (Nat.le_of_ble_eq_true rfl) d_B_look_81) (c_Ig_bitCount hL S r7) ⟨rfl, rfl⟩ ⟨Nat.zero_le _, Nat.zero_le _⟩ ?_
              exact v_iret (z := (r_Ig_bitCount r7)) C d_B_look_84 rfl ⟨Nat.zero_le _, Nat.zero_le _⟩ (rfl) rfl
            · refine v_tableOut (pc := 1) (tgt := 85) C d_B_look_1 (by have q0 := lv_neT (a := 0) hc1 (by decide); have q1 := lv_neT (a := 1) hc2 (by decide); have q2 := lv_neT (a := 2) hc3 (by decide); have q3 := lv_neT (a := 3) hc4 (by decide); have q4 := lv_neT (a := 4) hc5 (by decide); have q5 := lv_neT (a := 5) hc6 (by decide); omega) rfl ?_
              refine v_iconst (pc := 85) C d_B_look_85 ic_m1 ?_
              exact v_iret (z := (-1)) C d_B_look_86 rfl ⟨Nat.zero_le _, Nat.zero_le _⟩ (rfl) rfl
