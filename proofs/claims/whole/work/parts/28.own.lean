-- Ns_countSentWrongly
theorem d_Ns_countSentWrongly_0 : decode (mB Y_Ns_countSentWrongly) 0 = .ok (.iconst 0, 1) := by decide +kernel
theorem d_Ns_countSentWrongly_1 : decode (mB Y_Ns_countSentWrongly) 1 = .ok (.istore_n 1, 1) := by decide +kernel
theorem d_Ns_countSentWrongly_2 : decode (mB Y_Ns_countSentWrongly) 2 = .ok (.iconst 0, 1) := by decide +kernel
theorem d_Ns_countSentWrongly_3 : decode (mB Y_Ns_countSentWrongly) 3 = .ok (.istore_n 2, 1) := by decide +kernel
theorem d_Ns_countSentWrongly_4 : decode (mB Y_Ns_countSentWrongly) 4 = .ok (.iload_n 2, 1) := by decide +kernel
theorem d_Ns_countSentWrongly_5 : decode (mB Y_Ns_countSentWrongly) 5 = .ok (.aload_n 0, 1) := by decide +kernel
theorem d_Ns_countSentWrongly_6 : decode (mB Y_Ns_countSentWrongly) 6 = .ok (.getfield 34, 3) := by decide +kernel
theorem d_Ns_countSentWrongly_9 : decode (mB Y_Ns_countSentWrongly) 9 = .ok (.if_icmp .ge 31, 3) := by decide +kernel
theorem d_Ns_countSentWrongly_12 : decode (mB Y_Ns_countSentWrongly) 12 = .ok (.aload_n 0, 1) := by decide +kernel
theorem d_Ns_countSentWrongly_13 : decode (mB Y_Ns_countSentWrongly) 13 = .ok (.getfield 28, 3) := by decide +kernel
theorem d_Ns_countSentWrongly_16 : decode (mB Y_Ns_countSentWrongly) 16 = .ok (.iload_n 2, 1) := by decide +kernel
theorem d_Ns_countSentWrongly_17 : decode (mB Y_Ns_countSentWrongly) 17 = .ok (.iaload, 1) := by decide +kernel
theorem d_Ns_countSentWrongly_18 : decode (mB Y_Ns_countSentWrongly) 18 = .ok (.iconst 1, 1) := by decide +kernel
theorem d_Ns_countSentWrongly_19 : decode (mB Y_Ns_countSentWrongly) 19 = .ok (.if_icmp .eq 15, 3) := by decide +kernel
theorem d_Ns_countSentWrongly_22 : decode (mB Y_Ns_countSentWrongly) 22 = .ok (.aload_n 0, 1) := by decide +kernel
theorem d_Ns_countSentWrongly_23 : decode (mB Y_Ns_countSentWrongly) 23 = .ok (.iload_n 2, 1) := by decide +kernel
theorem d_Ns_countSentWrongly_24 : decode (mB Y_Ns_countSentWrongly) 24 = .ok (.invokevirtual 56, 3) := by decide +kernel
theorem d_Ns_countSentWrongly_27 : decode (mB Y_Ns_countSentWrongly) 27 = .ok (.iconst 1, 1) := by decide +kernel
theorem d_Ns_countSentWrongly_28 : decode (mB Y_Ns_countSentWrongly) 28 = .ok (.if_icmp .ne 6, 3) := by decide +kernel
theorem d_Ns_countSentWrongly_31 : decode (mB Y_Ns_countSentWrongly) 31 = .ok (.iinc 1 1, 3) := by decide +kernel
theorem d_Ns_countSentWrongly_34 : decode (mB Y_Ns_countSentWrongly) 34 = .ok (.iinc 2 1, 3) := by decide +kernel
theorem d_Ns_countSentWrongly_37 : decode (mB Y_Ns_countSentWrongly) 37 = .ok (.goto (-33), 3) := by decide +kernel
theorem d_Ns_countSentWrongly_40 : decode (mB Y_Ns_countSentWrongly) 40 = .ok (.iload_n 1, 1) := by decide +kernel
theorem d_Ns_countSentWrongly_41 : decode (mB Y_Ns_countSentWrongly) 41 = .ok (.ireturn, 1) := by decide +kernel
theorem ro_Ns_countSentWrongly_Ns_sort : roomy Y_Ns_countSentWrongly Y_Ns_sort := ⟨Nat.le_of_ble_eq_true rfl, Nat.le_of_ble_eq_true rfl⟩
def r_Ns_countSentWrongly_L4  : Nat → Int32 → Int32 → Sto → Option (Int32 × Int32 × Sto)
  | 0, _, _, _ => none
  | n + 1, x1_, x2_, S =>
    if (S 90 5) ≤ x2_ then
      some (x1_, x2_, S)
    else
      chk (inr x2_ 20) (
      jn (fun ((v1, S2) : Int32 × Sto) =>
        lt (x2_ + 1) (fun v3 =>
        r_Ns_countSentWrongly_L4 n v1 v3 S2)) (fun j34 =>
      if (S 97 x2_.toNatClampNeg) = 1 then
        j34 (x1_, S)
      else
        (r_Ns_sort x2_ S).bind (fun (r4, S5) =>
        if r4 = 1 then
          lt (x1_ + 1) (fun v6 =>
          j34 (v6, S5))
        else
          j34 (x1_, S5))))
set_option maxHeartbeats 4000000 in
set_option maxRecDepth 20000 in
theorem w_Ns_countSentWrongly_L4 {g : Gm} {G : Gl} {L : Shp} (C : Cx g Y_Ns_countSentWrongly G) (hL : Ext L)  :
    ∀ (n : Nat) (x1_ : Int32) (x2_ : Int32) (S : Sto) (K : (Int32 × Int32 × Sto) → Option (Int32 × Sto)), (∀ (x1_ : Int32) (x2_ : Int32) (S : Sto), VO g Y_Ns_countSentWrongly G (fun z => Qm g Y_Ns_countSentWrongly G (fi L z)) 0 0 40 [(1, .int x1_)] [] L S (some (x1_, x2_, S)) K) → VO g Y_Ns_countSentWrongly G (fun z => Qm g Y_Ns_countSentWrongly G (fi L z)) 0 0 4 [(0, rf G 90), (1, .int x1_), (2, .int x2_)] [] L S (r_Ns_countSentWrongly_L4 n x1_ x2_ S) K := by
  intro n
  induction n with
  | zero => intro x1_ x2_ S K; intros; exact v_none
  | succ n ih =>
    intro x1_ x2_ S K hK
    rw [r_Ns_countSentWrongly_L4]
    refine v_iload_n (pc := 4) C d_Ns_countSentWrongly_4 rfl 2 rfl ?_
    refine v_aload_n (pc := 5) C d_Ns_countSentWrongly_5 rfl 0 rfl ?_
    refine v_getI (pc := 6) C fl_Ns_34 (sh_90 hL) rfl d_Ns_countSentWrongly_6 ?_
    refine v_icmp_ge (pc := 9) (tgt := 40) C d_Ns_countSentWrongly_9 rfl (fun _ => ?_) (fun _ => ?_)
    · refine v_sub [1] rfl ?_
      exact hK x1_ x2_ S
    · refine v_aload_n (pc := 12) C d_Ns_countSentWrongly_12 rfl 0 rfl ?_
      refine v_getR (pc := 13) C fl_Ns_28 (sh_90 hL) rfl d_Ns_countSentWrongly_13 ?_
      refine v_iload_n (pc := 16) C d_Ns_countSentWrongly_16 rfl 2 rfl ?_
      refine v_iald (pc := 17) C (sh_97 hL) d_Ns_countSentWrongly_17 (fun _ => ?_)
      refine v_iconst (pc := 18) C d_Ns_countSentWrongly_18 ic_1 ?_
      refine v_jn (fun j => ∀ (v1 : Int32) (S2 : Sto), VO g Y_Ns_countSentWrongly G (fun z => Qm g Y_Ns_countSentWrongly G (fi L z)) 0 0 34 [(0, rf G 90), (1, .int v1), (2, .int x2_)] [] L S2 (j (v1, S2)) K) (fun v1 S2 => ?_) (fun j34 hj34 => ?_)
      · refine v_iinc (pc := 34) (p := 2) (c := 1) C d_Ns_countSentWrongly_34 rfl (by decide) (by decide) (fun v3 => [(2, .int v3), (0, rf G 90), (1, .int v1)]) (fun _ => rfl) (fun v3 => ?_)
        refine v_goto (pc := 37) (tgt := 4) C d_Ns_countSentWrongly_37 rfl ?_
        refine v_sub [1, 2, 0] rfl ?_
        exact ih v1 v3 S2 K hK
      · refine v_icmp_eq (pc := 19) (tgt := 34) C d_Ns_countSentWrongly_19 rfl (fun _ => ?_) (fun _ => ?_)
        · exact hj34 x1_ S
        · refine v_aload_n (pc := 22) C d_Ns_countSentWrongly_22 rfl 0 rfl ?_
          refine v_iload_n (pc := 23) C d_Ns_countSentWrongly_23 rfl 2 rfl ?_
          refine v_ci (pc := 24) (inv_V (As := [.int x2_]) (st := []) C ml_Ns_56 mv_Ns_sort ro_Ns_countSentWrongly_Ns_sort (sh_90 hL) rfl rfl rfl rfl (Nat.le_of_ble_eq_true rfl) d_Ns_countSentWrongly_24) (c_Ns_sort hL S x2_) ⟨rfl, rfl⟩ ⟨Nat.zero_le _, Nat.zero_le _⟩ (fun r4 S5 => ?_)
          refine v_iconst (pc := 27) C d_Ns_countSentWrongly_27 ic_1 ?_
          refine v_icmp_ne (pc := 28) (tgt := 34) C d_Ns_countSentWrongly_28 rfl (fun _ => ?_) (fun _ => ?_)
          · exact hj34 x1_ S5
          · refine v_iinc (pc := 31) (p := 1) (c := 1) C d_Ns_countSentWrongly_31 rfl (by decide) (by decide) (fun v6 => [(1, .int v6), (0, rf G 90), (2, .int x2_)]) (fun _ => rfl) (fun v6 => ?_)
            refine v_sub [1, 0, 2] rfl ?_
            exact hj34 v6 S5
def r_Ns_countSentWrongly  (S : Sto) : Option (Int32 × Sto) :=
  (r_Ns_countSentWrongly_L4 fu 0 0 S).bind (fun (v1, v2, S3) =>
  some (v1, S3))
set_option maxHeartbeats 4000000 in
set_option maxRecDepth 20000 in
theorem c_Ns_countSentWrongly {G : Gl} {L : Shp} (hL : Ext L) (S : Sto)   : Ct Y_Ns_countSentWrongly G [rf G 90] L S (fi L) (r_Ns_countSentWrongly S) := by
  refine ct_of (by decide +kernel) (Nat.le_of_ble_eq_true rfl) (fun g C => ?_)
  show VO g Y_Ns_countSentWrongly G (fun z => Qm g Y_Ns_countSentWrongly G (fi L z)) 0 0 0 [(0, rf G 90)] [] L S (r_Ns_countSentWrongly S) some
  unfold r_Ns_countSentWrongly
  refine v_iconst (pc := 0) C d_Ns_countSentWrongly_0 ic_0 ?_
  refine v_istore_n (pc := 1) (lv' := [(1, .int 0), (0, rf G 90)]) C d_Ns_countSentWrongly_1 rfl (by decide) rfl ?_
  refine v_iconst (pc := 2) C d_Ns_countSentWrongly_2 ic_0 ?_
  refine v_istore_n (pc := 3) (lv' := [(2, .int 0), (1, .int 0), (0, rf G 90)]) C d_Ns_countSentWrongly_3 rfl (by decide) rfl ?_
  refine v_sub [2, 1, 0] rfl ?_
  refine v_bind ?_
  refine w_Ns_countSentWrongly_L4 C hL  fu 0 0 S _ (fun v1 v2 S3 => ?_) 
  refine v_some ?_
  refine v_iload_n (pc := 40) C d_Ns_countSentWrongly_40 rfl 0 rfl ?_
  exact v_iret (z := (v1, S3)) C d_Ns_countSentWrongly_41 rfl ⟨Nat.zero_le _, Nat.zero_le _⟩ (rfl) rfl
-- Ns_countMissed
theorem d_Ns_countMissed_0 : decode (mB Y_Ns_countMissed) 0 = .ok (.iconst 0, 1) := by decide +kernel
theorem d_Ns_countMissed_1 : decode (mB Y_Ns_countMissed) 1 = .ok (.istore_n 1, 1) := by decide +kernel
theorem d_Ns_countMissed_2 : decode (mB Y_Ns_countMissed) 2 = .ok (.iconst 0, 1) := by decide +kernel
theorem d_Ns_countMissed_3 : decode (mB Y_Ns_countMissed) 3 = .ok (.istore_n 2, 1) := by decide +kernel
theorem d_Ns_countMissed_4 : decode (mB Y_Ns_countMissed) 4 = .ok (.iload_n 2, 1) := by decide +kernel
theorem d_Ns_countMissed_5 : decode (mB Y_Ns_countMissed) 5 = .ok (.aload_n 0, 1) := by decide +kernel
theorem d_Ns_countMissed_6 : decode (mB Y_Ns_countMissed) 6 = .ok (.getfield 34, 3) := by decide +kernel
theorem d_Ns_countMissed_9 : decode (mB Y_Ns_countMissed) 9 = .ok (.if_icmp .ge 31, 3) := by decide +kernel
theorem d_Ns_countMissed_12 : decode (mB Y_Ns_countMissed) 12 = .ok (.aload_n 0, 1) := by decide +kernel
theorem d_Ns_countMissed_13 : decode (mB Y_Ns_countMissed) 13 = .ok (.getfield 28, 3) := by decide +kernel
theorem d_Ns_countMissed_16 : decode (mB Y_Ns_countMissed) 16 = .ok (.iload_n 2, 1) := by decide +kernel
theorem d_Ns_countMissed_17 : decode (mB Y_Ns_countMissed) 17 = .ok (.iaload, 1) := by decide +kernel
theorem d_Ns_countMissed_18 : decode (mB Y_Ns_countMissed) 18 = .ok (.iconst 1, 1) := by decide +kernel
theorem d_Ns_countMissed_19 : decode (mB Y_Ns_countMissed) 19 = .ok (.if_icmp .ne 15, 3) := by decide +kernel
theorem d_Ns_countMissed_22 : decode (mB Y_Ns_countMissed) 22 = .ok (.aload_n 0, 1) := by decide +kernel
theorem d_Ns_countMissed_23 : decode (mB Y_Ns_countMissed) 23 = .ok (.iload_n 2, 1) := by decide +kernel
theorem d_Ns_countMissed_24 : decode (mB Y_Ns_countMissed) 24 = .ok (.invokevirtual 56, 3) := by decide +kernel
theorem d_Ns_countMissed_27 : decode (mB Y_Ns_countMissed) 27 = .ok (.iconst 1, 1) := by decide +kernel
theorem d_Ns_countMissed_28 : decode (mB Y_Ns_countMissed) 28 = .ok (.if_icmp .eq 6, 3) := by decide +kernel
theorem d_Ns_countMissed_31 : decode (mB Y_Ns_countMissed) 31 = .ok (.iinc 1 1, 3) := by decide +kernel
theorem d_Ns_countMissed_34 : decode (mB Y_Ns_countMissed) 34 = .ok (.iinc 2 1, 3) := by decide +kernel
theorem d_Ns_countMissed_37 : decode (mB Y_Ns_countMissed) 37 = .ok (.goto (-33), 3) := by decide +kernel
theorem d_Ns_countMissed_40 : decode (mB Y_Ns_countMissed) 40 = .ok (.iload_n 1, 1) := by decide +kernel
theorem d_Ns_countMissed_41 : decode (mB Y_Ns_countMissed) 41 = .ok (.ireturn, 1) := by decide +kernel
theorem ro_Ns_countMissed_Ns_sort : roomy Y_Ns_countMissed Y_Ns_sort := ⟨Nat.le_of_ble_eq_true rfl, Nat.le_of_ble_eq_true rfl⟩
def r_Ns_countMissed_L4  : Nat → Int32 → Int32 → Sto → Option (Int32 × Int32 × Sto)
  | 0, _, _, _ => none
  | n + 1, x1_, x2_, S =>
    if (S 90 5) ≤ x2_ then
      some (x1_, x2_, S)
    else
      chk (inr x2_ 20) (
      jn (fun ((v1, S2) : Int32 × Sto) =>
        lt (x2_ + 1) (fun v3 =>
        r_Ns_countMissed_L4 n v1 v3 S2)) (fun j34 =>
      if (S 97 x2_.toNatClampNeg) = 1 then
        (r_Ns_sort x2_ S).bind (fun (r4, S5) =>
        if r4 = 1 then
          j34 (x1_, S5)
        else
          lt (x1_ + 1) (fun v6 =>
          j34 (v6, S5)))
      else
        j34 (x1_, S)))
set_option maxHeartbeats 4000000 in
set_option maxRecDepth 20000 in
theorem w_Ns_countMissed_L4 {g : Gm} {G : Gl} {L : Shp} (C : Cx g Y_Ns_countMissed G) (hL : Ext L)  :
    ∀ (n : Nat) (x1_ : Int32) (x2_ : Int32) (S : Sto) (K : (Int32 × Int32 × Sto) → Option (Int32 × Sto)), (∀ (x1_ : Int32) (x2_ : Int32) (S : Sto), VO g Y_Ns_countMissed G (fun z => Qm g Y_Ns_countMissed G (fi L z)) 0 0 40 [(1, .int x1_)] [] L S (some (x1_, x2_, S)) K) → VO g Y_Ns_countMissed G (fun z => Qm g Y_Ns_countMissed G (fi L z)) 0 0 4 [(0, rf G 90), (1, .int x1_), (2, .int x2_)] [] L S (r_Ns_countMissed_L4 n x1_ x2_ S) K := by
  intro n
  induction n with
  | zero => intro x1_ x2_ S K; intros; exact v_none
  | succ n ih =>
    intro x1_ x2_ S K hK
    rw [r_Ns_countMissed_L4]
    refine v_iload_n (pc := 4) C d_Ns_countMissed_4 rfl 2 rfl ?_
    refine v_aload_n (pc := 5) C d_Ns_countMissed_5 rfl 0 rfl ?_
    refine v_getI (pc := 6) C fl_Ns_34 (sh_90 hL) rfl d_Ns_countMissed_6 ?_
    refine v_icmp_ge (pc := 9) (tgt := 40) C d_Ns_countMissed_9 rfl (fun _ => ?_) (fun _ => ?_)
    · refine v_sub [1] rfl ?_
      exact hK x1_ x2_ S
    · refine v_aload_n (pc := 12) C d_Ns_countMissed_12 rfl 0 rfl ?_
      refine v_getR (pc := 13) C fl_Ns_28 (sh_90 hL) rfl d_Ns_countMissed_13 ?_
      refine v_iload_n (pc := 16) C d_Ns_countMissed_16 rfl 2 rfl ?_
      refine v_iald (pc := 17) C (sh_97 hL) d_Ns_countMissed_17 (fun _ => ?_)
      refine v_iconst (pc := 18) C d_Ns_countMissed_18 ic_1 ?_
      refine v_jn (fun j => ∀ (v1 : Int32) (S2 : Sto), VO g Y_Ns_countMissed G (fun z => Qm g Y_Ns_countMissed G (fi L z)) 0 0 34 [(0, rf G 90), (1, .int v1), (2, .int x2_)] [] L S2 (j (v1, S2)) K) (fun v1 S2 => ?_) (fun j34 hj34 => ?_)
      · refine v_iinc (pc := 34) (p := 2) (c := 1) C d_Ns_countMissed_34 rfl (by decide) (by decide) (fun v3 => [(2, .int v3), (0, rf G 90), (1, .int v1)]) (fun _ => rfl) (fun v3 => ?_)
        refine v_goto (pc := 37) (tgt := 4) C d_Ns_countMissed_37 rfl ?_
        refine v_sub [1, 2, 0] rfl ?_
        exact ih v1 v3 S2 K hK
      · refine v_icmp_ne (pc := 19) (tgt := 34) C d_Ns_countMissed_19 rfl (fun _ => ?_) (fun _ => ?_)
        · exact hj34 x1_ S
        · refine v_aload_n (pc := 22) C d_Ns_countMissed_22 rfl 0 rfl ?_
          refine v_iload_n (pc := 23) C d_Ns_countMissed_23 rfl 2 rfl ?_
          refine v_ci (pc := 24) (inv_V (As := [.int x2_]) (st := []) C ml_Ns_56 mv_Ns_sort ro_Ns_countMissed_Ns_sort (sh_90 hL) rfl rfl rfl rfl (Nat.le_of_ble_eq_true rfl) d_Ns_countMissed_24) (c_Ns_sort hL S x2_) ⟨rfl, rfl⟩ ⟨Nat.zero_le _, Nat.zero_le _⟩ (fun r4 S5 => ?_)
          refine v_iconst (pc := 27) C d_Ns_countMissed_27 ic_1 ?_
          refine v_icmp_eq (pc := 28) (tgt := 34) C d_Ns_countMissed_28 rfl (fun _ => ?_) (fun _ => ?_)
          · exact hj34 x1_ S5
          · refine v_iinc (pc := 31) (p := 1) (c := 1) C d_Ns_countMissed_31 rfl (by decide) (by decide) (fun v6 => [(1, .int v6), (0, rf G 90), (2, .int x2_)]) (fun _ => rfl) (fun v6 => ?_)
            refine v_sub [1, 0, 2] rfl ?_
            exact hj34 v6 S5
def r_Ns_countMissed  (S : Sto) : Option (Int32 × Sto) :=
  (r_Ns_countMissed_L4 fu 0 0 S).bind (fun (v1, v2, S3) =>
  some (v1, S3))
set_option maxHeartbeats 4000000 in
set_option maxRecDepth 20000 in
theorem c_Ns_countMissed {G : Gl} {L : Shp} (hL : Ext L) (S : Sto)   : Ct Y_Ns_countMissed G [rf G 90] L S (fi L) (r_Ns_countMissed S) := by
  refine ct_of (by decide +kernel) (Nat.le_of_ble_eq_true rfl) (fun g C => ?_)
  show VO g Y_Ns_countMissed G (fun z => Qm g Y_Ns_countMissed G (fi L z)) 0 0 0 [(0, rf G 90)] [] L S (r_Ns_countMissed S) some
  unfold r_Ns_countMissed
  refine v_iconst (pc := 0) C d_Ns_countMissed_0 ic_0 ?_
  refine v_istore_n (pc := 1) (lv' := [(1, .int 0), (0, rf G 90)]) C d_Ns_countMissed_1 rfl (by decide) rfl ?_
  refine v_iconst (pc := 2) C d_Ns_countMissed_2 ic_0 ?_
  refine v_istore_n (pc := 3) (lv' := [(2, .int 0), (1, .int 0), (0, rf G 90)]) C d_Ns_countMissed_3 rfl (by decide) rfl ?_
  refine v_sub [2, 1, 0] rfl ?_
  refine v_bind ?_
  refine w_Ns_countMissed_L4 C hL  fu 0 0 S _ (fun v1 v2 S3 => ?_) 
  refine v_some ?_
  refine v_iload_n (pc := 40) C d_Ns_countMissed_40 rfl 0 rfl ?_
  exact v_iret (z := (v1, S3)) C d_Ns_countMissed_41 rfl ⟨Nat.zero_le _, Nat.zero_le _⟩ (rfl) rfl
-- Cw_coupleBit
theorem d_Cw_coupleBit_0 : decode (mB Y_Cw_coupleBit) 0 = .ok (.iconst 1, 1) := by decide +kernel
theorem d_Cw_coupleBit_1 : decode (mB Y_Cw_coupleBit) 1 = .ok (.iconst 4, 1) := by decide +kernel
theorem d_Cw_coupleBit_2 : decode (mB Y_Cw_coupleBit) 2 = .ok (.iload_n 0, 1) := by decide +kernel
theorem d_Cw_coupleBit_3 : decode (mB Y_Cw_coupleBit) 3 = .ok (.imul, 1) := by decide +kernel
theorem d_Cw_coupleBit_4 : decode (mB Y_Cw_coupleBit) 4 = .ok (.iload_n 1, 1) := by decide +kernel
theorem d_Cw_coupleBit_5 : decode (mB Y_Cw_coupleBit) 5 = .ok (.iadd, 1) := by decide +kernel
theorem d_Cw_coupleBit_6 : decode (mB Y_Cw_coupleBit) 6 = .ok (.ishl, 1) := by decide +kernel
theorem d_Cw_coupleBit_7 : decode (mB Y_Cw_coupleBit) 7 = .ok (.ireturn, 1) := by decide +kernel
def r_Cw_coupleBit (x0 : Int32) (x1 : Int32) : Int32 := 1 <<< (((4 * x0) + x1) &&& 31)
set_option maxHeartbeats 4000000 in
set_option maxRecDepth 20000 in
theorem c_Cw_coupleBit {G : Gl} {L : Shp} (hL : Ext L) (S : Sto) (x0 : Int32) (x1 : Int32)  : Ct Y_Cw_coupleBit G [.int x0, .int x1] L S (fp L S) (some (r_Cw_coupleBit x0 x1)) := by
  refine ct_of (by decide +kernel) (Nat.le_of_ble_eq_true rfl) (fun g C => ?_)
  have e : (some (r_Cw_coupleBit x0 x1) : Option Int32) = some (1 <<< (((4 * x0) + x1) &&& 31)) := rfl
  rw [e]
  show VO g Y_Cw_coupleBit G (fun z => Qm g Y_Cw_coupleBit G (fp L S z)) 0 0 0 [(0, .int x0), (1, .int x1)] [] L S _ some
  refine v_iconst (pc := 0) C d_Cw_coupleBit_0 ic_1 ?_
  refine v_iconst (pc := 1) C d_Cw_coupleBit_1 ic_4 ?_
  refine v_iload_n (pc := 2) C d_Cw_coupleBit_2 rfl 0 rfl ?_
  refine v_imul (pc := 3) C d_Cw_coupleBit_3 ?_
  refine v_iload_n (pc := 4) C d_Cw_coupleBit_4 rfl 1 rfl ?_
  refine v_iadd (pc := 5) C d_Cw_coupleBit_5 ?_
  refine v_ishl (pc := 6) C d_Cw_coupleBit_6 ?_
  exact v_iret (z := (1 <<< (((4 * x0) + x1) &&& 31))) C d_Cw_coupleBit_7 rfl ⟨Nat.zero_le _, Nat.zero_le _⟩ (rfl) rfl
-- Cw_couplesOf
theorem d_Cw_couplesOf_0 : decode (mB Y_Cw_couplesOf) 0 = .ok (.iconst 0, 1) := by decide +kernel
theorem d_Cw_couplesOf_1 : decode (mB Y_Cw_couplesOf) 1 = .ok (.istore_n 1, 1) := by decide +kernel
theorem d_Cw_couplesOf_2 : decode (mB Y_Cw_couplesOf) 2 = .ok (.iconst 0, 1) := by decide +kernel
theorem d_Cw_couplesOf_3 : decode (mB Y_Cw_couplesOf) 3 = .ok (.istore_n 2, 1) := by decide +kernel
theorem d_Cw_couplesOf_4 : decode (mB Y_Cw_couplesOf) 4 = .ok (.iload_n 2, 1) := by decide +kernel
theorem d_Cw_couplesOf_5 : decode (mB Y_Cw_couplesOf) 5 = .ok (.iconst 4, 1) := by decide +kernel
theorem d_Cw_couplesOf_6 : decode (mB Y_Cw_couplesOf) 6 = .ok (.if_icmp .ge 48, 3) := by decide +kernel
theorem d_Cw_couplesOf_9 : decode (mB Y_Cw_couplesOf) 9 = .ok (.iload_n 2, 1) := by decide +kernel
theorem d_Cw_couplesOf_10 : decode (mB Y_Cw_couplesOf) 10 = .ok (.iconst 1, 1) := by decide +kernel
theorem d_Cw_couplesOf_11 : decode (mB Y_Cw_couplesOf) 11 = .ok (.iadd, 1) := by decide +kernel
theorem d_Cw_couplesOf_12 : decode (mB Y_Cw_couplesOf) 12 = .ok (.istore_n 3, 1) := by decide +kernel
theorem d_Cw_couplesOf_13 : decode (mB Y_Cw_couplesOf) 13 = .ok (.iload_n 3, 1) := by decide +kernel
theorem d_Cw_couplesOf_14 : decode (mB Y_Cw_couplesOf) 14 = .ok (.iconst 4, 1) := by decide +kernel
theorem d_Cw_couplesOf_15 : decode (mB Y_Cw_couplesOf) 15 = .ok (.if_icmp .ge 33, 3) := by decide +kernel
theorem d_Cw_couplesOf_18 : decode (mB Y_Cw_couplesOf) 18 = .ok (.iload_n 0, 1) := by decide +kernel
theorem d_Cw_couplesOf_19 : decode (mB Y_Cw_couplesOf) 19 = .ok (.iload_n 2, 1) := by decide +kernel
theorem d_Cw_couplesOf_20 : decode (mB Y_Cw_couplesOf) 20 = .ok (.ishr, 1) := by decide +kernel
theorem d_Cw_couplesOf_21 : decode (mB Y_Cw_couplesOf) 21 = .ok (.iconst 1, 1) := by decide +kernel
theorem d_Cw_couplesOf_22 : decode (mB Y_Cw_couplesOf) 22 = .ok (.iand, 1) := by decide +kernel
theorem d_Cw_couplesOf_23 : decode (mB Y_Cw_couplesOf) 23 = .ok (.ifCond .eq 19, 3) := by decide +kernel
theorem d_Cw_couplesOf_26 : decode (mB Y_Cw_couplesOf) 26 = .ok (.iload_n 0, 1) := by decide +kernel
theorem d_Cw_couplesOf_27 : decode (mB Y_Cw_couplesOf) 27 = .ok (.iload_n 3, 1) := by decide +kernel
theorem d_Cw_couplesOf_28 : decode (mB Y_Cw_couplesOf) 28 = .ok (.ishr, 1) := by decide +kernel
theorem d_Cw_couplesOf_29 : decode (mB Y_Cw_couplesOf) 29 = .ok (.iconst 1, 1) := by decide +kernel
theorem d_Cw_couplesOf_30 : decode (mB Y_Cw_couplesOf) 30 = .ok (.iand, 1) := by decide +kernel
theorem d_Cw_couplesOf_31 : decode (mB Y_Cw_couplesOf) 31 = .ok (.ifCond .eq 11, 3) := by decide +kernel
theorem d_Cw_couplesOf_34 : decode (mB Y_Cw_couplesOf) 34 = .ok (.iload_n 1, 1) := by decide +kernel
theorem d_Cw_couplesOf_35 : decode (mB Y_Cw_couplesOf) 35 = .ok (.iload_n 2, 1) := by decide +kernel
theorem d_Cw_couplesOf_36 : decode (mB Y_Cw_couplesOf) 36 = .ok (.iload_n 3, 1) := by decide +kernel
theorem d_Cw_couplesOf_37 : decode (mB Y_Cw_couplesOf) 37 = .ok (.invokestatic 105, 3) := by decide +kernel
theorem d_Cw_couplesOf_40 : decode (mB Y_Cw_couplesOf) 40 = .ok (.ior, 1) := by decide +kernel
theorem d_Cw_couplesOf_41 : decode (mB Y_Cw_couplesOf) 41 = .ok (.istore_n 1, 1) := by decide +kernel
theorem d_Cw_couplesOf_42 : decode (mB Y_Cw_couplesOf) 42 = .ok (.iinc 3 1, 3) := by decide +kernel
theorem d_Cw_couplesOf_45 : decode (mB Y_Cw_couplesOf) 45 = .ok (.goto (-32), 3) := by decide +kernel
theorem d_Cw_couplesOf_48 : decode (mB Y_Cw_couplesOf) 48 = .ok (.iinc 2 1, 3) := by decide +kernel
theorem d_Cw_couplesOf_51 : decode (mB Y_Cw_couplesOf) 51 = .ok (.goto (-47), 3) := by decide +kernel
theorem d_Cw_couplesOf_54 : decode (mB Y_Cw_couplesOf) 54 = .ok (.iload_n 1, 1) := by decide +kernel
theorem d_Cw_couplesOf_55 : decode (mB Y_Cw_couplesOf) 55 = .ok (.ireturn, 1) := by decide +kernel
theorem ro_Cw_couplesOf_Cw_coupleBit : roomy Y_Cw_couplesOf Y_Cw_coupleBit := ⟨Nat.le_of_ble_eq_true rfl, Nat.le_of_ble_eq_true rfl⟩
def r_Cw_couplesOf_L13 (y0_ : Int32) (y2_ : Int32) : Nat → Int32 → Int32 → Option (Int32 × Int32)
  | 0, _, _ => none
  | n + 1, x1_, x3_ =>
    if 4 ≤ x3_ then
      some (x1_, x3_)
    else
      jn (fun (v1 : Int32) =>
        lt (x3_ + 1) (fun v2 =>
        r_Cw_couplesOf_L13 y0_ y2_ n v1 v2)) (fun j42 =>
      if ((y0_ >>> (y2_ &&& 31)) &&& 1) = 0 then
        j42 (x1_)
      else
        if ((y0_ >>> (x3_ &&& 31)) &&& 1) = 0 then
          j42 (x1_)
        else
          lt (x1_ ||| (r_Cw_coupleBit y2_ x3_)) (fun v3 =>
          j42 (v3)))
def r_Cw_couplesOf_L4 (y0_ : Int32) : Nat → Int32 → Int32 → Option (Int32 × Int32)
  | 0, _, _ => none
  | n + 1, x1_, x2_ =>
    if 4 ≤ x2_ then
      some (x1_, x2_)
    else
      lt (x2_ + 1) (fun v1 =>
      (r_Cw_couplesOf_L13 y0_ x2_ fu x1_ v1).bind (fun (v2, v3) =>
      lt (x2_ + 1) (fun v4 =>
      r_Cw_couplesOf_L4 y0_ n v2 v4)))
set_option maxHeartbeats 4000000 in
set_option maxRecDepth 20000 in
theorem w_Cw_couplesOf_L13 {g : Gm} {G : Gl} {L : Shp} (C : Cx g Y_Cw_couplesOf G) (hL : Ext L) (S : Sto) (y0_ : Int32) (y2_ : Int32)  :
    ∀ (n : Nat) (x1_ : Int32) (x3_ : Int32) (K : (Int32 × Int32) → Option Int32), (∀ (x1_ : Int32) (x3_ : Int32), VO g Y_Cw_couplesOf G (fun z => Qm g Y_Cw_couplesOf G (fp L S z)) 0 0 48 [(0, .int y0_), (1, .int x1_), (2, .int y2_)] [] L S (some (x1_, x3_)) K) → VO g Y_Cw_couplesOf G (fun z => Qm g Y_Cw_couplesOf G (fp L S z)) 0 0 13 [(0, .int y0_), (1, .int x1_), (2, .int y2_), (3, .int x3_)] [] L S (r_Cw_couplesOf_L13 y0_ y2_ n x1_ x3_) K := by
  intro n
  induction n with
  | zero => intro x1_ x3_ K; intros; exact v_none
  | succ n ih =>
    intro x1_ x3_ K hK
    rw [r_Cw_couplesOf_L13]
    refine v_iload_n (pc := 13) C d_Cw_couplesOf_13 rfl 3 rfl ?_
    refine v_iconst (pc := 14) C d_Cw_couplesOf_14 ic_4 ?_
    refine v_icmp_ge (pc := 15) (tgt := 48) C d_Cw_couplesOf_15 rfl (fun _ => ?_) (fun _ => ?_)
    · refine v_sub [0, 1, 2] rfl ?_
      exact hK x1_ x3_
    · refine v_iload_n (pc := 18) C d_Cw_couplesOf_18 rfl 0 rfl ?_
      refine v_iload_n (pc := 19) C d_Cw_couplesOf_19 rfl 2 rfl ?_
      refine v_ishr (pc := 20) C d_Cw_couplesOf_20 ?_
      refine v_iconst (pc := 21) C d_Cw_couplesOf_21 ic_1 ?_
      refine v_iand (pc := 22) C d_Cw_couplesOf_22 ?_
      refine v_jn (fun j => ∀ (v1 : Int32), VO g Y_Cw_couplesOf G (fun z => Qm g Y_Cw_couplesOf G (fp L S z)) 0 0 42 [(0, .int y0_), (1, .int v1), (2, .int y2_), (3, .int x3_)] [] L S (j (v1)) K) (fun v1 => ?_) (fun j42 hj42 => ?_)
      · refine v_iinc (pc := 42) (p := 3) (c := 1) C d_Cw_couplesOf_42 rfl (by decide) (by decide) (fun v2 => [(3, .int v2), (0, .int y0_), (1, .int v1), (2, .int y2_)]) (fun _ => rfl) (fun v2 => ?_)
        refine v_goto (pc := 45) (tgt := 13) C d_Cw_couplesOf_45 rfl ?_
        refine v_sub [1, 2, 3, 0] rfl ?_
        exact ih v1 v2 K hK
      · refine v_if_eq (pc := 23) (tgt := 42) C d_Cw_couplesOf_23 rfl (fun _ => ?_) (fun _ => ?_)
        · exact hj42 x1_
        · refine v_iload_n (pc := 26) C d_Cw_couplesOf_26 rfl 0 rfl ?_
          refine v_iload_n (pc := 27) C d_Cw_couplesOf_27 rfl 3 rfl ?_
          refine v_ishr (pc := 28) C d_Cw_couplesOf_28 ?_
          refine v_iconst (pc := 29) C d_Cw_couplesOf_29 ic_1 ?_
          refine v_iand (pc := 30) C d_Cw_couplesOf_30 ?_
          refine v_if_eq (pc := 31) (tgt := 42) C d_Cw_couplesOf_31 rfl (fun _ => ?_) (fun _ => ?_)
          · exact hj42 x1_
          · refine v_iload_n (pc := 34) C d_Cw_couplesOf_34 rfl 1 rfl ?_
            refine v_iload_n (pc := 35) C d_Cw_couplesOf_35 rfl 2 rfl ?_
            refine v_iload_n (pc := 36) C d_Cw_couplesOf_36 rfl 3 rfl ?_
            refine v_ct (pc := 37) (inv_S (As := [.int y2_, .int x3_]) (st := [.int x1_]) C ml_Cw_105 ms_Cw_coupleBit ro_Cw_couplesOf_Cw_coupleBit rfl rfl (Nat.le_of_ble_eq_true rfl) d_Cw_couplesOf_37) (c_Cw_coupleBit hL S y2_ x3_) ⟨rfl, rfl⟩ ⟨Nat.zero_le _, Nat.zero_le _⟩ ?_
            refine v_ior (pc := 40) C d_Cw_couplesOf_40 ?_
            refine v_lt (fun v3 => ?_)
            refine v_istore_n (pc := 41) (lv' := [(1, .int v3), (0, .int y0_), (2, .int y2_), (3, .int x3_)]) C d_Cw_couplesOf_41 rfl (by decide) rfl ?_
            refine v_sub [1, 0, 2, 3] rfl ?_
            exact hj42 v3
set_option maxHeartbeats 4000000 in
set_option maxRecDepth 20000 in
theorem w_Cw_couplesOf_L4 {g : Gm} {G : Gl} {L : Shp} (C : Cx g Y_Cw_couplesOf G) (hL : Ext L) (S : Sto) (y0_ : Int32)  :
    ∀ (n : Nat) (x1_ : Int32) (x2_ : Int32) (K : (Int32 × Int32) → Option Int32), (∀ (x1_ : Int32) (x2_ : Int32), VO g Y_Cw_couplesOf G (fun z => Qm g Y_Cw_couplesOf G (fp L S z)) 0 0 54 [(1, .int x1_)] [] L S (some (x1_, x2_)) K) → VO g Y_Cw_couplesOf G (fun z => Qm g Y_Cw_couplesOf G (fp L S z)) 0 0 4 [(0, .int y0_), (1, .int x1_), (2, .int x2_)] [] L S (r_Cw_couplesOf_L4 y0_ n x1_ x2_) K := by
  intro n
  induction n with
  | zero => intro x1_ x2_ K; intros; exact v_none
  | succ n ih =>
    intro x1_ x2_ K hK
    rw [r_Cw_couplesOf_L4]
    refine v_iload_n (pc := 4) C d_Cw_couplesOf_4 rfl 2 rfl ?_
    refine v_iconst (pc := 5) C d_Cw_couplesOf_5 ic_4 ?_
    refine v_icmp_ge (pc := 6) (tgt := 54) C d_Cw_couplesOf_6 rfl (fun _ => ?_) (fun _ => ?_)
    · refine v_sub [1] rfl ?_
      exact hK x1_ x2_
    · refine v_iload_n (pc := 9) C d_Cw_couplesOf_9 rfl 2 rfl ?_
      refine v_iconst (pc := 10) C d_Cw_couplesOf_10 ic_1 ?_
      refine v_iadd (pc := 11) C d_Cw_couplesOf_11 ?_
      refine v_lt (fun v1 => ?_)
      refine v_istore_n (pc := 12) (lv' := [(3, .int v1), (0, .int y0_), (1, .int x1_), (2, .int x2_)]) C d_Cw_couplesOf_12 rfl (by decide) rfl ?_
      refine v_sub [1, 2, 3, 0] rfl ?_
      refine v_bind ?_
      refine w_Cw_couplesOf_L13 C hL S y0_ x2_  fu x1_ v1 _ (fun v2 v3 => ?_) 
      refine v_some ?_
      refine v_iinc (pc := 48) (p := 2) (c := 1) C d_Cw_couplesOf_48 rfl (by decide) (by decide) (fun v4 => [(2, .int v4), (0, .int y0_), (1, .int v2)]) (fun _ => rfl) (fun v4 => ?_)
      refine v_goto (pc := 51) (tgt := 4) C d_Cw_couplesOf_51 rfl ?_
      refine v_sub [1, 2, 0] rfl ?_
      exact ih v2 v4 K hK
def r_Cw_couplesOf (x0 : Int32) : Option Int32 :=
  (r_Cw_couplesOf_L4 x0 fu 0 0).bind (fun (v1, v2) =>
  some v1)
set_option maxHeartbeats 4000000 in
set_option maxRecDepth 20000 in
theorem c_Cw_couplesOf {G : Gl} {L : Shp} (hL : Ext L) (S : Sto) (x0 : Int32)  : Ct Y_Cw_couplesOf G [.int x0] L S (fp L S) (r_Cw_couplesOf x0) := by
  refine ct_of (by decide +kernel) (Nat.le_of_ble_eq_true rfl) (fun g C => ?_)
  show VO g Y_Cw_couplesOf G (fun z => Qm g Y_Cw_couplesOf G (fp L S z)) 0 0 0 [(0, .int x0)] [] L S (r_Cw_couplesOf x0) some
  unfold r_Cw_couplesOf
  refine v_iconst (pc := 0) C d_Cw_couplesOf_0 ic_0 ?_
  refine v_istore_n (pc := 1) (lv' := [(1, .int 0), (0, .int x0)]) C d_Cw_couplesOf_1 rfl (by decide) rfl ?_
  refine v_iconst (pc := 2) C d_Cw_couplesOf_2 ic_0 ?_
  refine v_istore_n (pc := 3) (lv' := [(2, .int 0), (1, .int 0), (0, .int x0)]) C d_Cw_couplesOf_3 rfl (by decide) rfl ?_
  refine v_sub [2, 1, 0] rfl ?_
  refine v_bind ?_
  refine w_Cw_couplesOf_L4 C hL S x0  fu 0 0 _ (fun v1 v2 => ?_) 
  refine v_some ?_
  refine v_iload_n (pc := 54) C d_Cw_couplesOf_54 rfl 0 rfl ?_
  exact v_iret (z := v1) C d_Cw_couplesOf_55 rfl ⟨Nat.zero_le _, Nat.zero_le _⟩ (rfl) rfl
-- Cw_partedBy
theorem d_Cw_partedBy_0 : decode (mB Y_Cw_partedBy) 0 = .ok (.iconst 0, 1) := by decide +kernel
theorem d_Cw_partedBy_1 : decode (mB Y_Cw_partedBy) 1 = .ok (.istore_n 2, 1) := by decide +kernel
theorem d_Cw_partedBy_2 : decode (mB Y_Cw_partedBy) 2 = .ok (.iconst 0, 1) := by decide +kernel
theorem d_Cw_partedBy_3 : decode (mB Y_Cw_partedBy) 3 = .ok (.istore_n 3, 1) := by decide +kernel
theorem d_Cw_partedBy_4 : decode (mB Y_Cw_partedBy) 4 = .ok (.iload_n 3, 1) := by decide +kernel
theorem d_Cw_partedBy_5 : decode (mB Y_Cw_partedBy) 5 = .ok (.aload_n 0, 1) := by decide +kernel
theorem d_Cw_partedBy_6 : decode (mB Y_Cw_partedBy) 6 = .ok (.getfield 95, 3) := by decide +kernel
theorem d_Cw_partedBy_9 : decode (mB Y_Cw_partedBy) 9 = .ok (.if_icmp .ge 86, 3) := by decide +kernel
theorem d_Cw_partedBy_12 : decode (mB Y_Cw_partedBy) 12 = .ok (.aload_n 0, 1) := by decide +kernel
theorem d_Cw_partedBy_13 : decode (mB Y_Cw_partedBy) 13 = .ok (.iload_n 3, 1) := by decide +kernel
theorem d_Cw_partedBy_14 : decode (mB Y_Cw_partedBy) 14 = .ok (.aload_n 1, 1) := by decide +kernel
theorem d_Cw_partedBy_15 : decode (mB Y_Cw_partedBy) 15 = .ok (.invokevirtual 98, 3) := by decide +kernel
theorem d_Cw_partedBy_18 : decode (mB Y_Cw_partedBy) 18 = .ok (.iconst 0, 1) := by decide +kernel
theorem d_Cw_partedBy_19 : decode (mB Y_Cw_partedBy) 19 = .ok (.istore 4, 2) := by decide +kernel
theorem d_Cw_partedBy_21 : decode (mB Y_Cw_partedBy) 21 = .ok (.iload 4, 2) := by decide +kernel
theorem d_Cw_partedBy_23 : decode (mB Y_Cw_partedBy) 23 = .ok (.iconst 4, 1) := by decide +kernel
theorem d_Cw_partedBy_24 : decode (mB Y_Cw_partedBy) 24 = .ok (.if_icmp .ge 65, 3) := by decide +kernel
theorem d_Cw_partedBy_27 : decode (mB Y_Cw_partedBy) 27 = .ok (.aload_n 0, 1) := by decide +kernel
theorem d_Cw_partedBy_28 : decode (mB Y_Cw_partedBy) 28 = .ok (.getfield 32, 3) := by decide +kernel
theorem d_Cw_partedBy_31 : decode (mB Y_Cw_partedBy) 31 = .ok (.iload 4, 2) := by decide +kernel
theorem d_Cw_partedBy_33 : decode (mB Y_Cw_partedBy) 33 = .ok (.aload_n 0, 1) := by decide +kernel
theorem d_Cw_partedBy_34 : decode (mB Y_Cw_partedBy) 34 = .ok (.iload 4, 2) := by decide +kernel
theorem d_Cw_partedBy_36 : decode (mB Y_Cw_partedBy) 36 = .ok (.invokevirtual 102, 3) := by decide +kernel
theorem d_Cw_partedBy_39 : decode (mB Y_Cw_partedBy) 39 = .ok (.iastore, 1) := by decide +kernel
theorem d_Cw_partedBy_40 : decode (mB Y_Cw_partedBy) 40 = .ok (.iconst 0, 1) := by decide +kernel
theorem d_Cw_partedBy_41 : decode (mB Y_Cw_partedBy) 41 = .ok (.istore 5, 2) := by decide +kernel
theorem d_Cw_partedBy_43 : decode (mB Y_Cw_partedBy) 43 = .ok (.iload 5, 2) := by decide +kernel
theorem d_Cw_partedBy_45 : decode (mB Y_Cw_partedBy) 45 = .ok (.iload 4, 2) := by decide +kernel
theorem d_Cw_partedBy_47 : decode (mB Y_Cw_partedBy) 47 = .ok (.if_icmp .ge 36, 3) := by decide +kernel
theorem d_Cw_partedBy_50 : decode (mB Y_Cw_partedBy) 50 = .ok (.aload_n 0, 1) := by decide +kernel
theorem d_Cw_partedBy_51 : decode (mB Y_Cw_partedBy) 51 = .ok (.getfield 32, 3) := by decide +kernel
theorem d_Cw_partedBy_54 : decode (mB Y_Cw_partedBy) 54 = .ok (.iload 5, 2) := by decide +kernel
theorem d_Cw_partedBy_56 : decode (mB Y_Cw_partedBy) 56 = .ok (.iaload, 1) := by decide +kernel
theorem d_Cw_partedBy_57 : decode (mB Y_Cw_partedBy) 57 = .ok (.aload_n 0, 1) := by decide +kernel
theorem d_Cw_partedBy_58 : decode (mB Y_Cw_partedBy) 58 = .ok (.getfield 32, 3) := by decide +kernel
theorem d_Cw_partedBy_61 : decode (mB Y_Cw_partedBy) 61 = .ok (.iload 4, 2) := by decide +kernel
theorem d_Cw_partedBy_63 : decode (mB Y_Cw_partedBy) 63 = .ok (.iaload, 1) := by decide +kernel
theorem d_Cw_partedBy_64 : decode (mB Y_Cw_partedBy) 64 = .ok (.if_icmp .eq 13, 3) := by decide +kernel
theorem d_Cw_partedBy_67 : decode (mB Y_Cw_partedBy) 67 = .ok (.iload_n 2, 1) := by decide +kernel
theorem d_Cw_partedBy_68 : decode (mB Y_Cw_partedBy) 68 = .ok (.iload 5, 2) := by decide +kernel
theorem d_Cw_partedBy_70 : decode (mB Y_Cw_partedBy) 70 = .ok (.iload 4, 2) := by decide +kernel
theorem d_Cw_partedBy_72 : decode (mB Y_Cw_partedBy) 72 = .ok (.invokestatic 105, 3) := by decide +kernel
theorem d_Cw_partedBy_75 : decode (mB Y_Cw_partedBy) 75 = .ok (.ior, 1) := by decide +kernel
theorem d_Cw_partedBy_76 : decode (mB Y_Cw_partedBy) 76 = .ok (.istore_n 2, 1) := by decide +kernel
theorem d_Cw_partedBy_77 : decode (mB Y_Cw_partedBy) 77 = .ok (.iinc 5 1, 3) := by decide +kernel
theorem d_Cw_partedBy_80 : decode (mB Y_Cw_partedBy) 80 = .ok (.goto (-37), 3) := by decide +kernel
theorem d_Cw_partedBy_83 : decode (mB Y_Cw_partedBy) 83 = .ok (.iinc 4 1, 3) := by decide +kernel
theorem d_Cw_partedBy_86 : decode (mB Y_Cw_partedBy) 86 = .ok (.goto (-65), 3) := by decide +kernel
theorem d_Cw_partedBy_89 : decode (mB Y_Cw_partedBy) 89 = .ok (.iinc 3 1, 3) := by decide +kernel
theorem d_Cw_partedBy_92 : decode (mB Y_Cw_partedBy) 92 = .ok (.goto (-88), 3) := by decide +kernel
theorem d_Cw_partedBy_95 : decode (mB Y_Cw_partedBy) 95 = .ok (.iload_n 2, 1) := by decide +kernel
theorem d_Cw_partedBy_96 : decode (mB Y_Cw_partedBy) 96 = .ok (.ireturn, 1) := by decide +kernel
theorem ro_Cw_partedBy_Cw_attend : roomy Y_Cw_partedBy Y_Cw_attend := ⟨Nat.le_of_ble_eq_true rfl, Nat.le_of_ble_eq_true rfl⟩
theorem ro_Cw_partedBy_Cw_coupleBit : roomy Y_Cw_partedBy Y_Cw_coupleBit := ⟨Nat.le_of_ble_eq_true rfl, Nat.le_of_ble_eq_true rfl⟩
theorem ro_Cw_partedBy_Cw_sectorBy : roomy Y_Cw_partedBy Y_Cw_sectorBy := ⟨Nat.le_of_ble_eq_true rfl, Nat.le_of_ble_eq_true rfl⟩
def r_Cw_partedBy_L43 (a1_ : Nat) (y3_ : Int32) (y4_ : Int32) : Nat → Int32 → Int32 → Sto → Option (Int32 × Int32)
  | 0, _, _, _ => none
  | n + 1, x2_, x5_, S =>
    if y4_ ≤ x5_ then
      some (x2_, x5_)
    else
      chk (inr x5_ 4) (
      chk (inr y4_ 4) (
      jn (fun (v1 : Int32) =>
        lt (x5_ + 1) (fun v2 =>
        r_Cw_partedBy_L43 a1_ y3_ y4_ n v1 v2 S)) (fun j77 =>
      if (S 50 x5_.toNatClampNeg) = (S 50 y4_.toNatClampNeg) then
        j77 (x2_)
      else
        lt (x2_ ||| (r_Cw_coupleBit x5_ y4_)) (fun v3 =>
        j77 (v3)))))
def r_Cw_partedBy_L21 (a1_ : Nat) (y3_ : Int32) : Nat → Int32 → Int32 → Sto → Option (Int32 × Int32 × Sto)
  | 0, _, _, _ => none
  | n + 1, x2_, x4_, S =>
    if 4 ≤ x4_ then
      some (x2_, x4_, S)
    else
      (r_Cw_sectorBy x4_ S).bind (fun (r1, S2) =>
      chk (inr x4_ 4) (
      ltS (sw S2 50 x4_.toNatClampNeg r1) (fun S3 =>
      (r_Cw_partedBy_L43 a1_ y3_ x4_ fu x2_ 0 S3).bind (fun (v4, v5) =>
      lt (x4_ + 1) (fun v6 =>
      r_Cw_partedBy_L21 a1_ y3_ n v4 v6 S3)))))
def r_Cw_partedBy_L4 (a1_ : Nat) : Nat → Int32 → Int32 → Sto → Option (Int32 × Int32 × Sto)
  | 0, _, _, _ => none
  | n + 1, x2_, x3_, S =>
    if (S 33 4) ≤ x3_ then
      some (x2_, x3_, S)
    else
      (r_Cw_attend x3_ a1_ S).bind (fun S1 =>
      (r_Cw_partedBy_L21 a1_ x3_ fu x2_ 0 S1).bind (fun (v2, v3, S4) =>
      lt (x3_ + 1) (fun v5 =>
      r_Cw_partedBy_L4 a1_ n v2 v5 S4)))
set_option maxHeartbeats 4000000 in
set_option maxRecDepth 20000 in
theorem w_Cw_partedBy_L43 {g : Gm} {G : Gl} {L : Shp} (C : Cx g Y_Cw_partedBy G) (hL : Ext L) (S : Sto) (a1_ : Nat) (y3_ : Int32) (y4_ : Int32) (h1_ : isShot L a1_) :
    ∀ (n : Nat) (x2_ : Int32) (x5_ : Int32) (K : (Int32 × Int32) → Option (Int32 × Sto)), (∀ (x2_ : Int32) (x5_ : Int32), VO g Y_Cw_partedBy G (fun z => Qm g Y_Cw_partedBy G (fi L z)) 0 0 83 [(0, rf G 33), (1, rf G a1_), (2, .int x2_), (3, .int y3_), (4, .int y4_)] [] L S (some (x2_, x5_)) K) → VO g Y_Cw_partedBy G (fun z => Qm g Y_Cw_partedBy G (fi L z)) 0 0 43 [(0, rf G 33), (1, rf G a1_), (2, .int x2_), (3, .int y3_), (4, .int y4_), (5, .int x5_)] [] L S (r_Cw_partedBy_L43 a1_ y3_ y4_ n x2_ x5_ S) K := by
  intro n
  induction n with
  | zero => intro x2_ x5_ K; intros; exact v_none
  | succ n ih =>
    intro x2_ x5_ K hK
    rw [r_Cw_partedBy_L43]
    refine v_iload (pc := 43) C d_Cw_partedBy_43 5 rfl ?_
    refine v_iload (pc := 45) C d_Cw_partedBy_45 4 rfl ?_
    refine v_icmp_ge (pc := 47) (tgt := 83) C d_Cw_partedBy_47 rfl (fun _ => ?_) (fun _ => ?_)
    · refine v_sub [0, 1, 2, 3, 4] rfl ?_
      exact hK x2_ x5_
    · refine v_aload_n (pc := 50) C d_Cw_partedBy_50 rfl 0 rfl ?_
      refine v_getR (pc := 51) C fl_Cw_32 (sh_33 hL) rfl d_Cw_partedBy_51 ?_
      refine v_iload (pc := 54) C d_Cw_partedBy_54 5 rfl ?_
      refine v_iald (pc := 56) C (sh_50 hL) d_Cw_partedBy_56 (fun _ => ?_)
      refine v_aload_n (pc := 57) C d_Cw_partedBy_57 rfl 0 rfl ?_
      refine v_getR (pc := 58) C fl_Cw_32 (sh_33 hL) rfl d_Cw_partedBy_58 ?_
      refine v_iload (pc := 61) C d_Cw_partedBy_61 4 rfl ?_
      refine v_iald (pc := 63) C (sh_50 hL) d_Cw_partedBy_63 (fun _ => ?_)
      refine v_jn (fun j => ∀ (v1 : Int32), VO g Y_Cw_partedBy G (fun z => Qm g Y_Cw_partedBy G (fi L z)) 0 0 77 [(0, rf G 33), (1, rf G a1_), (2, .int v1), (3, .int y3_), (4, .int y4_), (5, .int x5_)] [] L S (j (v1)) K) (fun v1 => ?_) (fun j77 hj77 => ?_)
      · refine v_iinc (pc := 77) (p := 5) (c := 1) C d_Cw_partedBy_77 rfl (by decide) (by decide) (fun v2 => [(5, .int v2), (0, rf G 33), (1, rf G a1_), (2, .int v1), (3, .int y3_), (4, .int y4_)]) (fun _ => rfl) (fun v2 => ?_)
        refine v_goto (pc := 80) (tgt := 43) C d_Cw_partedBy_80 rfl ?_
        refine v_sub [1, 2, 3, 4, 5, 0] rfl ?_
        exact ih v1 v2 K hK
      · refine v_icmp_eq (pc := 64) (tgt := 77) C d_Cw_partedBy_64 rfl (fun _ => ?_) (fun _ => ?_)
        · exact hj77 x2_
        · refine v_iload_n (pc := 67) C d_Cw_partedBy_67 rfl 2 rfl ?_
          refine v_iload (pc := 68) C d_Cw_partedBy_68 5 rfl ?_
          refine v_iload (pc := 70) C d_Cw_partedBy_70 4 rfl ?_
          refine v_ct (pc := 72) (inv_S (As := [.int x5_, .int y4_]) (st := [.int x2_]) C ml_Cw_105 ms_Cw_coupleBit ro_Cw_partedBy_Cw_coupleBit rfl rfl (Nat.le_of_ble_eq_true rfl) d_Cw_partedBy_72) (c_Cw_coupleBit hL S x5_ y4_) ⟨rfl, rfl⟩ ⟨Nat.zero_le _, Nat.zero_le _⟩ ?_
          refine v_ior (pc := 75) C d_Cw_partedBy_75 ?_
          refine v_lt (fun v3 => ?_)
          refine v_istore_n (pc := 76) (lv' := [(2, .int v3), (0, rf G 33), (1, rf G a1_), (3, .int y3_), (4, .int y4_), (5, .int x5_)]) C d_Cw_partedBy_76 rfl (by decide) rfl ?_
          refine v_sub [1, 2, 0, 3, 4, 5] rfl ?_
          exact hj77 v3
set_option maxHeartbeats 4000000 in
set_option maxRecDepth 20000 in
theorem w_Cw_partedBy_L21 {g : Gm} {G : Gl} {L : Shp} (C : Cx g Y_Cw_partedBy G) (hL : Ext L) (a1_ : Nat) (y3_ : Int32) (h1_ : isShot L a1_) :
    ∀ (n : Nat) (x2_ : Int32) (x4_ : Int32) (S : Sto) (K : (Int32 × Int32 × Sto) → Option (Int32 × Sto)), (∀ (x2_ : Int32) (x4_ : Int32) (S : Sto), VO g Y_Cw_partedBy G (fun z => Qm g Y_Cw_partedBy G (fi L z)) 0 0 89 [(0, rf G 33), (1, rf G a1_), (2, .int x2_), (3, .int y3_)] [] L S (some (x2_, x4_, S)) K) → VO g Y_Cw_partedBy G (fun z => Qm g Y_Cw_partedBy G (fi L z)) 0 0 21 [(0, rf G 33), (1, rf G a1_), (2, .int x2_), (3, .int y3_), (4, .int x4_)] [] L S (r_Cw_partedBy_L21 a1_ y3_ n x2_ x4_ S) K := by
  intro n
  induction n with
  | zero => intro x2_ x4_ S K; intros; exact v_none
  | succ n ih =>
    intro x2_ x4_ S K hK
    rw [r_Cw_partedBy_L21]
    refine v_iload (pc := 21) C d_Cw_partedBy_21 4 rfl ?_
    refine v_iconst (pc := 23) C d_Cw_partedBy_23 ic_4 ?_
    refine v_icmp_ge (pc := 24) (tgt := 89) C d_Cw_partedBy_24 rfl (fun _ => ?_) (fun _ => ?_)
    · refine v_sub [0, 1, 2, 3] rfl ?_
      exact hK x2_ x4_ S
    · refine v_aload_n (pc := 27) C d_Cw_partedBy_27 rfl 0 rfl ?_
      refine v_getR (pc := 28) C fl_Cw_32 (sh_33 hL) rfl d_Cw_partedBy_28 ?_
      refine v_iload (pc := 31) C d_Cw_partedBy_31 4 rfl ?_
      refine v_aload_n (pc := 33) C d_Cw_partedBy_33 rfl 0 rfl ?_
      refine v_iload (pc := 34) C d_Cw_partedBy_34 4 rfl ?_
      refine v_ci (pc := 36) (inv_V (As := [.int x4_]) (st := [.int x4_, rf G 50]) C ml_Cw_102 mv_Cw_sectorBy ro_Cw_partedBy_Cw_sectorBy (sh_33 hL) rfl rfl rfl rfl (Nat.le_of_ble_eq_true rfl) d_Cw_partedBy_36) (c_Cw_sectorBy hL S x4_) ⟨rfl, rfl⟩ ⟨Nat.zero_le _, Nat.zero_le _⟩ (fun r1 S2 => ?_)
      refine v_iast (pc := 39) C (sh_50 hL) d_Cw_partedBy_39 (fun _ S3 => ?_)
      refine v_iconst (pc := 40) C d_Cw_partedBy_40 ic_0 ?_
      refine v_istore (pc := 41) (lv' := [(5, .int 0), (0, rf G 33), (1, rf G a1_), (2, .int x2_), (3, .int y3_), (4, .int x4_)]) C d_Cw_partedBy_41 (by decide) rfl ?_
      refine v_sub [1, 2, 3, 4, 5, 0] rfl ?_
      refine v_bind ?_
      refine w_Cw_partedBy_L43 C hL S3 a1_ y3_ x4_ h1_ fu x2_ 0 _ (fun v4 v5 => ?_) 
      refine v_some ?_
      refine v_iinc (pc := 83) (p := 4) (c := 1) C d_Cw_partedBy_83 rfl (by decide) (by decide) (fun v6 => [(4, .int v6), (0, rf G 33), (1, rf G a1_), (2, .int v4), (3, .int y3_)]) (fun _ => rfl) (fun v6 => ?_)
      refine v_goto (pc := 86) (tgt := 21) C d_Cw_partedBy_86 rfl ?_
      refine v_sub [1, 2, 3, 4, 0] rfl ?_
      exact ih v4 v6 S3 K hK
set_option maxHeartbeats 4000000 in
set_option maxRecDepth 20000 in
theorem w_Cw_partedBy_L4 {g : Gm} {G : Gl} {L : Shp} (C : Cx g Y_Cw_partedBy G) (hL : Ext L) (a1_ : Nat) (h1_ : isShot L a1_) :
    ∀ (n : Nat) (x2_ : Int32) (x3_ : Int32) (S : Sto) (K : (Int32 × Int32 × Sto) → Option (Int32 × Sto)), (∀ (x2_ : Int32) (x3_ : Int32) (S : Sto), VO g Y_Cw_partedBy G (fun z => Qm g Y_Cw_partedBy G (fi L z)) 0 0 95 [(2, .int x2_)] [] L S (some (x2_, x3_, S)) K) → VO g Y_Cw_partedBy G (fun z => Qm g Y_Cw_partedBy G (fi L z)) 0 0 4 [(0, rf G 33), (1, rf G a1_), (2, .int x2_), (3, .int x3_)] [] L S (r_Cw_partedBy_L4 a1_ n x2_ x3_ S) K := by
  intro n
  induction n with
  | zero => intro x2_ x3_ S K; intros; exact v_none
  | succ n ih =>
    intro x2_ x3_ S K hK
    rw [r_Cw_partedBy_L4]
    refine v_iload_n (pc := 4) C d_Cw_partedBy_4 rfl 3 rfl ?_
    refine v_aload_n (pc := 5) C d_Cw_partedBy_5 rfl 0 rfl ?_
    refine v_getI (pc := 6) C fl_Cw_95 (sh_33 hL) rfl d_Cw_partedBy_6 ?_
    refine v_icmp_ge (pc := 9) (tgt := 95) C d_Cw_partedBy_9 rfl (fun _ => ?_) (fun _ => ?_)
    · refine v_sub [2] rfl ?_
      exact hK x2_ x3_ S
    · refine v_aload_n (pc := 12) C d_Cw_partedBy_12 rfl 0 rfl ?_
      refine v_iload_n (pc := 13) C d_Cw_partedBy_13 rfl 3 rfl ?_
      refine v_aload_n (pc := 14) C d_Cw_partedBy_14 rfl 1 rfl ?_
      refine v_cv (pc := 15) (inv_V (As := [.int x3_, rf G a1_]) (st := []) C ml_Cw_98 mv_Cw_attend ro_Cw_partedBy_Cw_attend (sh_33 hL) rfl rfl rfl rfl (Nat.le_of_ble_eq_true rfl) d_Cw_partedBy_15) (c_Cw_attend hL S x3_ a1_ h1_) ⟨rfl, rfl⟩ ⟨Nat.zero_le _, Nat.zero_le _⟩ (fun S1 => ?_)
      refine v_iconst (pc := 18) C d_Cw_partedBy_18 ic_0 ?_
      refine v_istore (pc := 19) (lv' := [(4, .int 0), (0, rf G 33), (1, rf G a1_), (2, .int x2_), (3, .int x3_)]) C d_Cw_partedBy_19 (by decide) rfl ?_
      refine v_sub [1, 2, 3, 4, 0] rfl ?_
      refine v_bind ?_
      refine w_Cw_partedBy_L21 C hL a1_ x3_ h1_ fu x2_ 0 S1 _ (fun v2 v3 S4 => ?_) 
      refine v_some ?_
      refine v_iinc (pc := 89) (p := 3) (c := 1) C d_Cw_partedBy_89 rfl (by decide) (by decide) (fun v5 => [(3, .int v5), (0, rf G 33), (1, rf G a1_), (2, .int v2)]) (fun _ => rfl) (fun v5 => ?_)
      refine v_goto (pc := 92) (tgt := 4) C d_Cw_partedBy_92 rfl ?_
      refine v_sub [1, 2, 3, 0] rfl ?_
      exact ih v2 v5 S4 K hK
def r_Cw_partedBy (a1 : Nat) (S : Sto) : Option (Int32 × Sto) :=
  (r_Cw_partedBy_L4 a1 fu 0 0 S).bind (fun (v1, v2, S3) =>
  some (v1, S3))
set_option maxHeartbeats 4000000 in
set_option maxRecDepth 20000 in
theorem c_Cw_partedBy {G : Gl} {L : Shp} (hL : Ext L) (S : Sto) (a1 : Nat) (h1 : isShot L a1) : Ct Y_Cw_partedBy G [rf G 33, rf G a1] L S (fi L) (r_Cw_partedBy a1 S) := by
  refine ct_of (by decide +kernel) (Nat.le_of_ble_eq_true rfl) (fun g C => ?_)
  show VO g Y_Cw_partedBy G (fun z => Qm g Y_Cw_partedBy G (fi L z)) 0 0 0 [(0, rf G 33), (1, rf G a1)] [] L S (r_Cw_partedBy a1 S) some
  unfold r_Cw_partedBy
  refine v_iconst (pc := 0) C d_Cw_partedBy_0 ic_0 ?_
  refine v_istore_n (pc := 1) (lv' := [(2, .int 0), (0, rf G 33), (1, rf G a1)]) C d_Cw_partedBy_1 rfl (by decide) rfl ?_
  refine v_iconst (pc := 2) C d_Cw_partedBy_2 ic_0 ?_
  refine v_istore_n (pc := 3) (lv' := [(3, .int 0), (2, .int 0), (0, rf G 33), (1, rf G a1)]) C d_Cw_partedBy_3 rfl (by decide) rfl ?_
  refine v_sub [2, 3, 1, 0] rfl ?_
  refine v_bind ?_
  refine w_Cw_partedBy_L4 C hL a1 h1 fu 0 0 S _ (fun v1 v2 S3 => ?_) 
  refine v_some ?_
  refine v_iload_n (pc := 95) C d_Cw_partedBy_95 rfl 0 rfl ?_
  exact v_iret (z := (v1, S3)) C d_Cw_partedBy_96 rfl ⟨Nat.zero_le _, Nat.zero_le _⟩ (rfl) rfl
-- Rf_later
theorem d_Rf_later_0 : decode (mB Y_Rf_later) 0 = .ok (.aload_n 0, 1) := by decide +kernel
theorem d_Rf_later_1 : decode (mB Y_Rf_later) 1 = .ok (.getfield 19, 3) := by decide +kernel
theorem d_Rf_later_4 : decode (mB Y_Rf_later) 4 = .ok (.bipush 10, 2) := by decide +kernel
theorem d_Rf_later_6 : decode (mB Y_Rf_later) 6 = .ok (.iload_n 1, 1) := by decide +kernel
theorem d_Rf_later_7 : decode (mB Y_Rf_later) 7 = .ok (.imul, 1) := by decide +kernel
theorem d_Rf_later_8 : decode (mB Y_Rf_later) 8 = .ok (.iload_n 2, 1) := by decide +kernel
theorem d_Rf_later_9 : decode (mB Y_Rf_later) 9 = .ok (.iadd, 1) := by decide +kernel
theorem d_Rf_later_10 : decode (mB Y_Rf_later) 10 = .ok (.iaload, 1) := by decide +kernel
theorem d_Rf_later_11 : decode (mB Y_Rf_later) 11 = .ok (.aload_n 0, 1) := by decide +kernel
theorem d_Rf_later_12 : decode (mB Y_Rf_later) 12 = .ok (.getfield 19, 3) := by decide +kernel
theorem d_Rf_later_15 : decode (mB Y_Rf_later) 15 = .ok (.bipush 10, 2) := by decide +kernel
theorem d_Rf_later_17 : decode (mB Y_Rf_later) 17 = .ok (.iload_n 1, 1) := by decide +kernel
theorem d_Rf_later_18 : decode (mB Y_Rf_later) 18 = .ok (.imul, 1) := by decide +kernel
theorem d_Rf_later_19 : decode (mB Y_Rf_later) 19 = .ok (.iload_n 3, 1) := by decide +kernel
theorem d_Rf_later_20 : decode (mB Y_Rf_later) 20 = .ok (.iadd, 1) := by decide +kernel
theorem d_Rf_later_21 : decode (mB Y_Rf_later) 21 = .ok (.iaload, 1) := by decide +kernel
theorem d_Rf_later_22 : decode (mB Y_Rf_later) 22 = .ok (.isub, 1) := by decide +kernel
theorem d_Rf_later_23 : decode (mB Y_Rf_later) 23 = .ok (.ireturn, 1) := by decide +kernel
def r_Rf_later (x1 : Int32) (x2 : Int32) (x3 : Int32) (S : Sto) : Option Int32 :=
  chk (inr ((10 * x1) + x2) 100) (
  chk (inr ((10 * x1) + x3) 100) (
  some ((S 102 (((10 * x1) + x2).toNatClampNeg)) - (S 102 (((10 * x1) + x3).toNatClampNeg)))))
set_option maxHeartbeats 4000000 in
set_option maxRecDepth 20000 in
theorem c_Rf_later {G : Gl} {L : Shp} (hL : Ext L) (S : Sto) (x1 : Int32) (x2 : Int32) (x3 : Int32)  : Ct Y_Rf_later G [rf G 101, .int x1, .int x2, .int x3] L S (fp L S) (r_Rf_later x1 x2 x3 S) := by
  refine ct_of (by decide +kernel) (Nat.le_of_ble_eq_true rfl) (fun g C => ?_)
  show VO g Y_Rf_later G (fun z => Qm g Y_Rf_later G (fp L S z)) 0 0 0 [(0, rf G 101), (1, .int x1), (2, .int x2), (3, .int x3)] [] L S (r_Rf_later x1 x2 x3 S) some
  unfold r_Rf_later
  refine v_aload_n (pc := 0) C d_Rf_later_0 rfl 0 rfl ?_
  refine v_getR (pc := 1) C fl_Rf_19 (sh_101 hL) rfl d_Rf_later_1 ?_
  refine v_bipush (pc := 4) C d_Rf_later_4 bp_10 ?_
  refine v_iload_n (pc := 6) C d_Rf_later_6 rfl 1 rfl ?_
  refine v_imul (pc := 7) C d_Rf_later_7 ?_
  refine v_iload_n (pc := 8) C d_Rf_later_8 rfl 2 rfl ?_
  refine v_iadd (pc := 9) C d_Rf_later_9 ?_
  refine v_iald (pc := 10) C (sh_102 hL) d_Rf_later_10 (fun _ => ?_)
  refine v_aload_n (pc := 11) C d_Rf_later_11 rfl 0 rfl ?_
  refine v_getR (pc := 12) C fl_Rf_19 (sh_101 hL) rfl d_Rf_later_12 ?_
  refine v_bipush (pc := 15) C d_Rf_later_15 bp_10 ?_
  refine v_iload_n (pc := 17) C d_Rf_later_17 rfl 1 rfl ?_
  refine v_imul (pc := 18) C d_Rf_later_18 ?_
  refine v_iload_n (pc := 19) C d_Rf_later_19 rfl 3 rfl ?_
  refine v_iadd (pc := 20) C d_Rf_later_20 ?_
  refine v_iald (pc := 21) C (sh_102 hL) d_Rf_later_21 (fun _ => ?_)
  refine v_isub (pc := 22) C d_Rf_later_22 ?_
  exact v_iret (z := ((S 102 (((10 * x1) + x2).toNatClampNeg)) - (S 102 (((10 * x1) + x3).toNatClampNeg)))) C d_Rf_later_23 rfl ⟨Nat.zero_le _, Nat.zero_le _⟩ (rfl) rfl
-- Rf_apartBy
theorem d_Rf_apartBy_0 : decode (mB Y_Rf_apartBy) 0 = .ok (.lconst 0, 1) := by decide +kernel
theorem d_Rf_apartBy_1 : decode (mB Y_Rf_apartBy) 1 = .ok (.lstore 4, 2) := by decide +kernel
theorem d_Rf_apartBy_3 : decode (mB Y_Rf_apartBy) 3 = .ok (.iconst 0, 1) := by decide +kernel
theorem d_Rf_apartBy_4 : decode (mB Y_Rf_apartBy) 4 = .ok (.istore 6, 2) := by decide +kernel
theorem d_Rf_apartBy_6 : decode (mB Y_Rf_apartBy) 6 = .ok (.iconst 0, 1) := by decide +kernel
theorem d_Rf_apartBy_7 : decode (mB Y_Rf_apartBy) 7 = .ok (.istore 7, 2) := by decide +kernel
theorem d_Rf_apartBy_9 : decode (mB Y_Rf_apartBy) 9 = .ok (.iload 7, 2) := by decide +kernel
theorem d_Rf_apartBy_11 : decode (mB Y_Rf_apartBy) 11 = .ok (.bipush 10, 2) := by decide +kernel
theorem d_Rf_apartBy_13 : decode (mB Y_Rf_apartBy) 13 = .ok (.if_icmp .ge 98, 3) := by decide +kernel
theorem d_Rf_apartBy_16 : decode (mB Y_Rf_apartBy) 16 = .ok (.iload 7, 2) := by decide +kernel
theorem d_Rf_apartBy_18 : decode (mB Y_Rf_apartBy) 18 = .ok (.iconst 1, 1) := by decide +kernel
theorem d_Rf_apartBy_19 : decode (mB Y_Rf_apartBy) 19 = .ok (.iadd, 1) := by decide +kernel
theorem d_Rf_apartBy_20 : decode (mB Y_Rf_apartBy) 20 = .ok (.istore 8, 2) := by decide +kernel
theorem d_Rf_apartBy_22 : decode (mB Y_Rf_apartBy) 22 = .ok (.iload 8, 2) := by decide +kernel
theorem d_Rf_apartBy_24 : decode (mB Y_Rf_apartBy) 24 = .ok (.bipush 10, 2) := by decide +kernel
theorem d_Rf_apartBy_26 : decode (mB Y_Rf_apartBy) 26 = .ok (.if_icmp .ge 79, 3) := by decide +kernel
theorem d_Rf_apartBy_29 : decode (mB Y_Rf_apartBy) 29 = .ok (.aload_n 0, 1) := by decide +kernel
theorem d_Rf_apartBy_30 : decode (mB Y_Rf_apartBy) 30 = .ok (.getfield 15, 3) := by decide +kernel
theorem d_Rf_apartBy_33 : decode (mB Y_Rf_apartBy) 33 = .ok (.iload 7, 2) := by decide +kernel
theorem d_Rf_apartBy_35 : decode (mB Y_Rf_apartBy) 35 = .ok (.iaload, 1) := by decide +kernel
theorem d_Rf_apartBy_36 : decode (mB Y_Rf_apartBy) 36 = .ok (.iconst (-1), 1) := by decide +kernel
theorem d_Rf_apartBy_37 : decode (mB Y_Rf_apartBy) 37 = .ok (.if_icmp .eq 18, 3) := by decide +kernel
theorem d_Rf_apartBy_40 : decode (mB Y_Rf_apartBy) 40 = .ok (.aload_n 0, 1) := by decide +kernel
theorem d_Rf_apartBy_41 : decode (mB Y_Rf_apartBy) 41 = .ok (.getfield 15, 3) := by decide +kernel
theorem d_Rf_apartBy_44 : decode (mB Y_Rf_apartBy) 44 = .ok (.iload 8, 2) := by decide +kernel
theorem d_Rf_apartBy_46 : decode (mB Y_Rf_apartBy) 46 = .ok (.iaload, 1) := by decide +kernel
theorem d_Rf_apartBy_47 : decode (mB Y_Rf_apartBy) 47 = .ok (.iconst (-1), 1) := by decide +kernel
theorem d_Rf_apartBy_48 : decode (mB Y_Rf_apartBy) 48 = .ok (.if_icmp .eq 7, 3) := by decide +kernel
theorem d_Rf_apartBy_51 : decode (mB Y_Rf_apartBy) 51 = .ok (.iconst 1, 1) := by decide +kernel
theorem d_Rf_apartBy_52 : decode (mB Y_Rf_apartBy) 52 = .ok (.goto 4, 3) := by decide +kernel
theorem d_Rf_apartBy_55 : decode (mB Y_Rf_apartBy) 55 = .ok (.iconst 0, 1) := by decide +kernel
theorem d_Rf_apartBy_56 : decode (mB Y_Rf_apartBy) 56 = .ok (.istore 9, 2) := by decide +kernel
theorem d_Rf_apartBy_58 : decode (mB Y_Rf_apartBy) 58 = .ok (.iload 9, 2) := by decide +kernel
theorem d_Rf_apartBy_60 : decode (mB Y_Rf_apartBy) 60 = .ok (.ifCond .eq 36, 3) := by decide +kernel
theorem d_Rf_apartBy_63 : decode (mB Y_Rf_apartBy) 63 = .ok (.aload_n 0, 1) := by decide +kernel
theorem d_Rf_apartBy_64 : decode (mB Y_Rf_apartBy) 64 = .ok (.iload 7, 2) := by decide +kernel
theorem d_Rf_apartBy_66 : decode (mB Y_Rf_apartBy) 66 = .ok (.iload_n 1, 1) := by decide +kernel
theorem d_Rf_apartBy_67 : decode (mB Y_Rf_apartBy) 67 = .ok (.iload_n 2, 1) := by decide +kernel
theorem d_Rf_apartBy_68 : decode (mB Y_Rf_apartBy) 68 = .ok (.invokevirtual 36, 3) := by decide +kernel
theorem d_Rf_apartBy_71 : decode (mB Y_Rf_apartBy) 71 = .ok (.aload_n 0, 1) := by decide +kernel
theorem d_Rf_apartBy_72 : decode (mB Y_Rf_apartBy) 72 = .ok (.iload 8, 2) := by decide +kernel
theorem d_Rf_apartBy_74 : decode (mB Y_Rf_apartBy) 74 = .ok (.iload_n 1, 1) := by decide +kernel
theorem d_Rf_apartBy_75 : decode (mB Y_Rf_apartBy) 75 = .ok (.iload_n 2, 1) := by decide +kernel
theorem d_Rf_apartBy_76 : decode (mB Y_Rf_apartBy) 76 = .ok (.invokevirtual 36, 3) := by decide +kernel
theorem d_Rf_apartBy_79 : decode (mB Y_Rf_apartBy) 79 = .ok (.isub, 1) := by decide +kernel
theorem d_Rf_apartBy_80 : decode (mB Y_Rf_apartBy) 80 = .ok (.invokestatic 40, 3) := by decide +kernel
theorem d_Rf_apartBy_83 : decode (mB Y_Rf_apartBy) 83 = .ok (.iload_n 3, 1) := by decide +kernel
theorem d_Rf_apartBy_84 : decode (mB Y_Rf_apartBy) 84 = .ok (.if_icmp .le 12, 3) := by decide +kernel
theorem d_Rf_apartBy_87 : decode (mB Y_Rf_apartBy) 87 = .ok (.lload 4, 2) := by decide +kernel
theorem d_Rf_apartBy_89 : decode (mB Y_Rf_apartBy) 89 = .ok (.lconst 1, 1) := by decide +kernel
theorem d_Rf_apartBy_90 : decode (mB Y_Rf_apartBy) 90 = .ok (.iload 6, 2) := by decide +kernel
theorem d_Rf_apartBy_92 : decode (mB Y_Rf_apartBy) 92 = .ok (.lshl, 1) := by decide +kernel
theorem d_Rf_apartBy_93 : decode (mB Y_Rf_apartBy) 93 = .ok (.lor, 1) := by decide +kernel
theorem d_Rf_apartBy_94 : decode (mB Y_Rf_apartBy) 94 = .ok (.lstore 4, 2) := by decide +kernel
theorem d_Rf_apartBy_96 : decode (mB Y_Rf_apartBy) 96 = .ok (.iinc 6 1, 3) := by decide +kernel
theorem d_Rf_apartBy_99 : decode (mB Y_Rf_apartBy) 99 = .ok (.iinc 8 1, 3) := by decide +kernel
theorem d_Rf_apartBy_102 : decode (mB Y_Rf_apartBy) 102 = .ok (.goto (-80), 3) := by decide +kernel
theorem d_Rf_apartBy_105 : decode (mB Y_Rf_apartBy) 105 = .ok (.iinc 7 1, 3) := by decide +kernel
theorem d_Rf_apartBy_108 : decode (mB Y_Rf_apartBy) 108 = .ok (.goto (-99), 3) := by decide +kernel
theorem d_Rf_apartBy_111 : decode (mB Y_Rf_apartBy) 111 = .ok (.lload 4, 2) := by decide +kernel
theorem d_Rf_apartBy_113 : decode (mB Y_Rf_apartBy) 113 = .ok (.lreturn, 1) := by decide +kernel
theorem ro_Rf_apartBy_Ma_abs : roomy Y_Rf_apartBy Y_Ma_abs := ⟨Nat.le_of_ble_eq_true rfl, Nat.le_of_ble_eq_true rfl⟩
theorem ro_Rf_apartBy_Rf_later : roomy Y_Rf_apartBy Y_Rf_later := ⟨Nat.le_of_ble_eq_true rfl, Nat.le_of_ble_eq_true rfl⟩
def r_Rf_apartBy_L22 (y1_ : Int32) (y2_ : Int32) (y3_ : Int32) (y7_ : Int32) : Nat → Int64 → Int32 → Int32 → Sto → Option (Int64 × Int32 × Int32)
  | 0, _, _, _, _ => none
  | n + 1, x4_, x6_, x8_, S =>
    if 10 ≤ x8_ then
      some (x4_, x6_, x8_)
    else
      chk (inr y7_ 10) (
      jn (fun (v1 : Int32) =>
        jn (fun (v2 : Int64) =>
          lt (x6_ + 1) (fun v3 =>
          lt (x8_ + 1) (fun v4 =>
          r_Rf_apartBy_L22 y1_ y2_ y3_ y7_ n v2 v3 v4 S))) (fun j96 =>
        if v1 = 0 then
          j96 (x4_)
        else
          (r_Rf_later y7_ y1_ y2_ S).bind (fun r5 =>
          (r_Rf_later x8_ y1_ y2_ S).bind (fun r6 =>
          if (r_Ma_abs (r5 - r6)) ≤ y3_ then
            j96 (x4_)
          else
            ltJ (x4_ ||| (1 <<< (x6_.toInt64 &&& 63))) (fun v7 =>
            j96 (v7)))))) (fun j56 =>
      if (S 17 y7_.toNatClampNeg) = (-1) then
        j56 (0)
      else
        chk (inr x8_ 10) (
        if (S 17 x8_.toNatClampNeg) = (-1) then
          j56 (0)
        else
          j56 (1))))
def r_Rf_apartBy_L9 (y1_ : Int32) (y2_ : Int32) (y3_ : Int32) : Nat → Int64 → Int32 → Int32 → Sto → Option (Int64 × Int32 × Int32)
  | 0, _, _, _, _ => none
  | n + 1, x4_, x6_, x7_, S =>
    if 10 ≤ x7_ then
      some (x4_, x6_, x7_)
    else
      lt (x7_ + 1) (fun v1 =>
      (r_Rf_apartBy_L22 y1_ y2_ y3_ x7_ fu x4_ x6_ v1 S).bind (fun (v2, v3, v4) =>
      lt (x7_ + 1) (fun v5 =>
      r_Rf_apartBy_L9 y1_ y2_ y3_ n v2 v3 v5 S)))
set_option maxHeartbeats 4000000 in
set_option maxRecDepth 20000 in
theorem w_Rf_apartBy_L22 {g : Gm} {G : Gl} {L : Shp} (C : Cx g Y_Rf_apartBy G) (hL : Ext L) (S : Sto) (y1_ : Int32) (y2_ : Int32) (y3_ : Int32) (y7_ : Int32)  :
    ∀ (n : Nat) (x4_ : Int64) (x6_ : Int32) (x8_ : Int32) (K : (Int64 × Int32 × Int32) → Option Int64), (∀ (x4_ : Int64) (x6_ : Int32) (x8_ : Int32), VO g Y_Rf_apartBy G (fun z => Qm g Y_Rf_apartBy G (fpl L S z)) 0 0 105 [(0, rf G 101), (1, .int y1_), (2, .int y2_), (3, .int y3_), (4, .long x4_), (6, .int x6_), (7, .int y7_)] [] L S (some (x4_, x6_, x8_)) K) → VO g Y_Rf_apartBy G (fun z => Qm g Y_Rf_apartBy G (fpl L S z)) 0 0 22 [(0, rf G 101), (1, .int y1_), (2, .int y2_), (3, .int y3_), (4, .long x4_), (6, .int x6_), (7, .int y7_), (8, .int x8_)] [] L S (r_Rf_apartBy_L22 y1_ y2_ y3_ y7_ n x4_ x6_ x8_ S) K := by
  intro n
  induction n with
  | zero => intro x4_ x6_ x8_ K; intros; exact v_none
  | succ n ih =>
    intro x4_ x6_ x8_ K hK
    rw [r_Rf_apartBy_L22]
    refine v_iload (pc := 22) C d_Rf_apartBy_22 7 rfl ?_
    refine v_bipush (pc := 24) C d_Rf_apartBy_24 bp_10 ?_
    refine v_icmp_ge (pc := 26) (tgt := 105) C d_Rf_apartBy_26 rfl (fun _ => ?_) (fun _ => ?_)
    · refine v_sub [0, 1, 2, 3, 4, 5, 6] rfl ?_
      exact hK x4_ x6_ x8_
    · refine v_aload_n (pc := 29) C d_Rf_apartBy_29 rfl 0 rfl ?_
      refine v_getR (pc := 30) C fl_Rf_15 (sh_101 hL) rfl d_Rf_apartBy_30 ?_
      refine v_iload (pc := 33) C d_Rf_apartBy_33 6 rfl ?_
      refine v_iald (pc := 35) C (sh_17 hL) d_Rf_apartBy_35 (fun _ => ?_)
      refine v_iconst (pc := 36) C d_Rf_apartBy_36 ic_m1 ?_
      refine v_jn (fun j => ∀ (v1 : Int32), VO g Y_Rf_apartBy G (fun z => Qm g Y_Rf_apartBy G (fpl L S z)) 0 0 56 [(0, rf G 101), (1, .int y1_), (2, .int y2_), (3, .int y3_), (4, .long x4_), (6, .int x6_), (7, .int y7_), (8, .int x8_)] [.int v1] L S (j (v1)) K) (fun v1 => ?_) (fun j56 hj56 => ?_)
      · refine v_istore (pc := 56) (lv' := [(9, .int v1), (0, rf G 101), (1, .int y1_), (2, .int y2_), (3, .int y3_), (4, .long x4_), (6, .int x6_), (7, .int y7_), (8, .int x8_)]) C d_Rf_apartBy_56 (by decide) rfl ?_
        refine v_iload (pc := 58) C d_Rf_apartBy_58 0 rfl ?_
        refine v_jn (fun j => ∀ (v2 : Int64), VO g Y_Rf_apartBy G (fun z => Qm g Y_Rf_apartBy G (fpl L S z)) 0 0 96 [(0, rf G 101), (1, .int y1_), (2, .int y2_), (3, .int y3_), (4, .long v2), (6, .int x6_), (7, .int y7_), (8, .int x8_)] [] L S (j (v2)) K) (fun v2 => ?_) (fun j96 hj96 => ?_)
        · refine v_iinc (pc := 96) (p := 5) (c := 1) C d_Rf_apartBy_96 rfl (by decide) (by decide) (fun v3 => [(6, .int v3), (0, rf G 101), (1, .int y1_), (2, .int y2_), (3, .int y3_), (4, .long v2), (7, .int y7_), (8, .int x8_)]) (fun _ => rfl) (fun v3 => ?_)
          refine v_iinc (pc := 99) (p := 7) (c := 1) C d_Rf_apartBy_99 rfl (by decide) (by decide) (fun v4 => [(8, .int v4), (6, .int v3), (0, rf G 101), (1, .int y1_), (2, .int y2_), (3, .int y3_), (4, .long v2), (7, .int y7_)]) (fun _ => rfl) (fun v4 => ?_)
          refine v_goto (pc := 102) (tgt := 22) C d_Rf_apartBy_102 rfl ?_
          refine v_sub [2, 3, 4, 5, 6, 1, 7, 0] rfl ?_
          exact ih v2 v3 v4 K hK
        · refine v_if_eq (pc := 60) (tgt := 96) C d_Rf_apartBy_60 rfl (fun _ => ?_) (fun _ => ?_)
          · refine v_sub [1, 2, 3, 4, 5, 6, 7, 8] rfl ?_
            exact hj96 x4_
          · refine v_aload_n (pc := 63) C d_Rf_apartBy_63 rfl 1 rfl ?_
            refine v_iload (pc := 64) C d_Rf_apartBy_64 7 rfl ?_
            refine v_iload_n (pc := 66) C d_Rf_apartBy_66 rfl 2 rfl ?_
            refine v_iload_n (pc := 67) C d_Rf_apartBy_67 rfl 3 rfl ?_
            refine v_cp (pc := 68) (inv_V (As := [.int y7_, .int y1_, .int y2_]) (st := []) C ml_Rf_36 mv_Rf_later ro_Rf_apartBy_Rf_later (sh_101 hL) rfl rfl rfl rfl (Nat.le_of_ble_eq_true rfl) d_Rf_apartBy_68) (c_Rf_later hL S y7_ y1_ y2_) ⟨rfl, rfl⟩ ⟨Nat.zero_le _, Nat.zero_le _⟩ (fun r5 => ?_)
            refine v_aload_n (pc := 71) C d_Rf_apartBy_71 rfl 1 rfl ?_
            refine v_iload (pc := 72) C d_Rf_apartBy_72 8 rfl ?_
            refine v_iload_n (pc := 74) C d_Rf_apartBy_74 rfl 2 rfl ?_
            refine v_iload_n (pc := 75) C d_Rf_apartBy_75 rfl 3 rfl ?_
            refine v_cp (pc := 76) (inv_V (As := [.int x8_, .int y1_, .int y2_]) (st := [.int r5]) C ml_Rf_36 mv_Rf_later ro_Rf_apartBy_Rf_later (sh_101 hL) rfl rfl rfl rfl (Nat.le_of_ble_eq_true rfl) d_Rf_apartBy_76) (c_Rf_later hL S x8_ y1_ y2_) ⟨rfl, rfl⟩ ⟨Nat.zero_le _, Nat.zero_le _⟩ (fun r6 => ?_)
            refine v_isub (pc := 79) C d_Rf_apartBy_79 ?_
            refine v_ct (pc := 80) (inv_S (As := [.int (r5 - r6)]) (st := []) C ml_Rf_40 ms_Ma_abs ro_Rf_apartBy_Ma_abs rfl rfl (Nat.le_of_ble_eq_true rfl) d_Rf_apartBy_80) (c_Ma_abs hL S (r5 - r6)) ⟨rfl, rfl⟩ ⟨Nat.zero_le _, Nat.zero_le _⟩ ?_
            refine v_iload_n (pc := 83) C d_Rf_apartBy_83 rfl 4 rfl ?_
            refine v_icmp_le (pc := 84) (tgt := 96) C d_Rf_apartBy_84 rfl (fun _ => ?_) (fun _ => ?_)
            · refine v_sub [1, 2, 3, 4, 5, 6, 7, 8] rfl ?_
              exact hj96 x4_
            · refine v_lload (pc := 87) C d_Rf_apartBy_87 5 rfl ?_
              refine v_lconst (pc := 89) (v := 1) C d_Rf_apartBy_89 (by decide) ?_
              refine v_iload (pc := 90) C d_Rf_apartBy_90 6 rfl ?_
              refine v_lshl (pc := 92) C d_Rf_apartBy_92 ?_
              refine v_lor (pc := 93) C d_Rf_apartBy_93 ?_
              refine v_ltJ (fun v7 => ?_)
              refine v_lstore (pc := 94) (lv' := [(4, .long v7), (9, .int v1), (0, rf G 101), (1, .int y1_), (2, .int y2_), (3, .int y3_), (6, .int x6_), (7, .int y7_), (8, .int x8_)]) C d_Rf_apartBy_94 (by decide) rfl ?_
              refine v_sub [2, 3, 4, 5, 0, 6, 7, 8] rfl ?_
              exact hj96 v7
      · refine v_icmp_eq (pc := 37) (tgt := 55) C d_Rf_apartBy_37 rfl (fun _ => ?_) (fun _ => ?_)
        · refine v_iconst (pc := 55) C d_Rf_apartBy_55 ic_0 ?_
          exact hj56 0
        · refine v_aload_n (pc := 40) C d_Rf_apartBy_40 rfl 0 rfl ?_
          refine v_getR (pc := 41) C fl_Rf_15 (sh_101 hL) rfl d_Rf_apartBy_41 ?_
          refine v_iload (pc := 44) C d_Rf_apartBy_44 7 rfl ?_
          refine v_iald (pc := 46) C (sh_17 hL) d_Rf_apartBy_46 (fun _ => ?_)
          refine v_iconst (pc := 47) C d_Rf_apartBy_47 ic_m1 ?_
          refine v_icmp_eq (pc := 48) (tgt := 55) C d_Rf_apartBy_48 rfl (fun _ => ?_) (fun _ => ?_)
          · refine v_iconst (pc := 55) C d_Rf_apartBy_55 ic_0 ?_
            exact hj56 0
          · refine v_iconst (pc := 51) C d_Rf_apartBy_51 ic_1 ?_
            refine v_goto (pc := 52) (tgt := 56) C d_Rf_apartBy_52 rfl ?_
            exact hj56 1
set_option maxHeartbeats 4000000 in
set_option maxRecDepth 20000 in
theorem w_Rf_apartBy_L9 {g : Gm} {G : Gl} {L : Shp} (C : Cx g Y_Rf_apartBy G) (hL : Ext L) (S : Sto) (y1_ : Int32) (y2_ : Int32) (y3_ : Int32)  :
    ∀ (n : Nat) (x4_ : Int64) (x6_ : Int32) (x7_ : Int32) (K : (Int64 × Int32 × Int32) → Option Int64), (∀ (x4_ : Int64) (x6_ : Int32) (x7_ : Int32), VO g Y_Rf_apartBy G (fun z => Qm g Y_Rf_apartBy G (fpl L S z)) 0 0 111 [(4, .long x4_)] [] L S (some (x4_, x6_, x7_)) K) → VO g Y_Rf_apartBy G (fun z => Qm g Y_Rf_apartBy G (fpl L S z)) 0 0 9 [(0, rf G 101), (1, .int y1_), (2, .int y2_), (3, .int y3_), (4, .long x4_), (6, .int x6_), (7, .int x7_)] [] L S (r_Rf_apartBy_L9 y1_ y2_ y3_ n x4_ x6_ x7_ S) K := by
  intro n
  induction n with
  | zero => intro x4_ x6_ x7_ K; intros; exact v_none
  | succ n ih =>
    intro x4_ x6_ x7_ K hK
    rw [r_Rf_apartBy_L9]
    refine v_iload (pc := 9) C d_Rf_apartBy_9 6 rfl ?_
    refine v_bipush (pc := 11) C d_Rf_apartBy_11 bp_10 ?_
    refine v_icmp_ge (pc := 13) (tgt := 111) C d_Rf_apartBy_13 rfl (fun _ => ?_) (fun _ => ?_)
    · refine v_sub [4] rfl ?_
      exact hK x4_ x6_ x7_
    · refine v_iload (pc := 16) C d_Rf_apartBy_16 6 rfl ?_
      refine v_iconst (pc := 18) C d_Rf_apartBy_18 ic_1 ?_
      refine v_iadd (pc := 19) C d_Rf_apartBy_19 ?_
      refine v_lt (fun v1 => ?_)
      refine v_istore (pc := 20) (lv' := [(8, .int v1), (0, rf G 101), (1, .int y1_), (2, .int y2_), (3, .int y3_), (4, .long x4_), (6, .int x6_), (7, .int x7_)]) C d_Rf_apartBy_20 (by decide) rfl ?_
      refine v_sub [1, 2, 3, 4, 5, 6, 7, 0] rfl ?_
      refine v_bind ?_
      refine w_Rf_apartBy_L22 C hL S y1_ y2_ y3_ x7_  fu x4_ x6_ v1 _ (fun v2 v3 v4 => ?_) 
      refine v_some ?_
      refine v_iinc (pc := 105) (p := 6) (c := 1) C d_Rf_apartBy_105 rfl (by decide) (by decide) (fun v5 => [(7, .int v5), (0, rf G 101), (1, .int y1_), (2, .int y2_), (3, .int y3_), (4, .long v2), (6, .int v3)]) (fun _ => rfl) (fun v5 => ?_)
      refine v_goto (pc := 108) (tgt := 9) C d_Rf_apartBy_108 rfl ?_
      refine v_sub [1, 2, 3, 4, 5, 6, 0] rfl ?_
      exact ih v2 v3 v5 K hK
def r_Rf_apartBy (x1 : Int32) (x2 : Int32) (x3 : Int32) (S : Sto) : Option Int64 :=
  (r_Rf_apartBy_L9 x1 x2 x3 fu 0 0 0 S).bind (fun (v1, v2, v3) =>
  some v1)
set_option maxHeartbeats 4000000 in
set_option maxRecDepth 20000 in
theorem c_Rf_apartBy {G : Gl} {L : Shp} (hL : Ext L) (S : Sto) (x1 : Int32) (x2 : Int32) (x3 : Int32)  : Ct Y_Rf_apartBy G [rf G 101, .int x1, .int x2, .int x3] L S (fpl L S) (r_Rf_apartBy x1 x2 x3 S) := by
  refine ct_of (by decide +kernel) (Nat.le_of_ble_eq_true rfl) (fun g C => ?_)
  show VO g Y_Rf_apartBy G (fun z => Qm g Y_Rf_apartBy G (fpl L S z)) 0 0 0 [(0, rf G 101), (1, .int x1), (2, .int x2), (3, .int x3)] [] L S (r_Rf_apartBy x1 x2 x3 S) some
  unfold r_Rf_apartBy
  refine v_lconst (pc := 0) (v := 0) C d_Rf_apartBy_0 (by decide) ?_
  refine v_lstore (pc := 1) (lv' := [(4, .long 0), (0, rf G 101), (1, .int x1), (2, .int x2), (3, .int x3)]) C d_Rf_apartBy_1 (by decide) rfl ?_
  refine v_iconst (pc := 3) C d_Rf_apartBy_3 ic_0 ?_
  refine v_istore (pc := 4) (lv' := [(6, .int 0), (4, .long 0), (0, rf G 101), (1, .int x1), (2, .int x2), (3, .int x3)]) C d_Rf_apartBy_4 (by decide) rfl ?_
  refine v_iconst (pc := 6) C d_Rf_apartBy_6 ic_0 ?_
  refine v_istore (pc := 7) (lv' := [(7, .int 0), (6, .int 0), (4, .long 0), (0, rf G 101), (1, .int x1), (2, .int x2), (3, .int x3)]) C d_Rf_apartBy_7 (by decide) rfl ?_
  refine v_sub [3, 4, 5, 6, 2, 1, 0] rfl ?_
  refine v_bind ?_
  refine w_Rf_apartBy_L9 C hL S x1 x2 x3  fu 0 0 0 _ (fun v1 v2 v3 => ?_) 
  refine v_some ?_
  refine v_lload (pc := 111) C d_Rf_apartBy_111 0 rfl ?_
  exact v_lret (z := v1) C d_Rf_apartBy_113 rfl ⟨Nat.zero_le _, Nat.zero_le _⟩ (rfl) rfl
-- Rf_prepare
theorem d_Rf_prepare_0 : decode (mB Y_Rf_prepare) 0 = .ok (.iconst 0, 1) := by decide +kernel
theorem d_Rf_prepare_1 : decode (mB Y_Rf_prepare) 1 = .ok (.istore_n 2, 1) := by decide +kernel
theorem d_Rf_prepare_2 : decode (mB Y_Rf_prepare) 2 = .ok (.iload_n 2, 1) := by decide +kernel
theorem d_Rf_prepare_3 : decode (mB Y_Rf_prepare) 3 = .ok (.bipush 10, 2) := by decide +kernel
theorem d_Rf_prepare_5 : decode (mB Y_Rf_prepare) 5 = .ok (.if_icmp .ge 89, 3) := by decide +kernel
theorem d_Rf_prepare_8 : decode (mB Y_Rf_prepare) 8 = .ok (.iconst 0, 1) := by decide +kernel
theorem d_Rf_prepare_9 : decode (mB Y_Rf_prepare) 9 = .ok (.istore_n 3, 1) := by decide +kernel
theorem d_Rf_prepare_10 : decode (mB Y_Rf_prepare) 10 = .ok (.iload_n 3, 1) := by decide +kernel
theorem d_Rf_prepare_11 : decode (mB Y_Rf_prepare) 11 = .ok (.bipush 10, 2) := by decide +kernel
theorem d_Rf_prepare_13 : decode (mB Y_Rf_prepare) 13 = .ok (.if_icmp .ge 75, 3) := by decide +kernel
theorem d_Rf_prepare_16 : decode (mB Y_Rf_prepare) 16 = .ok (.aload_n 0, 1) := by decide +kernel
theorem d_Rf_prepare_17 : decode (mB Y_Rf_prepare) 17 = .ok (.getfield 15, 3) := by decide +kernel
theorem d_Rf_prepare_20 : decode (mB Y_Rf_prepare) 20 = .ok (.iload_n 2, 1) := by decide +kernel
theorem d_Rf_prepare_21 : decode (mB Y_Rf_prepare) 21 = .ok (.iaload, 1) := by decide +kernel
theorem d_Rf_prepare_22 : decode (mB Y_Rf_prepare) 22 = .ok (.iconst (-1), 1) := by decide +kernel
theorem d_Rf_prepare_23 : decode (mB Y_Rf_prepare) 23 = .ok (.if_icmp .eq 17, 3) := by decide +kernel
theorem d_Rf_prepare_26 : decode (mB Y_Rf_prepare) 26 = .ok (.aload_n 0, 1) := by decide +kernel
theorem d_Rf_prepare_27 : decode (mB Y_Rf_prepare) 27 = .ok (.getfield 15, 3) := by decide +kernel
theorem d_Rf_prepare_30 : decode (mB Y_Rf_prepare) 30 = .ok (.iload_n 3, 1) := by decide +kernel
theorem d_Rf_prepare_31 : decode (mB Y_Rf_prepare) 31 = .ok (.iaload, 1) := by decide +kernel
theorem d_Rf_prepare_32 : decode (mB Y_Rf_prepare) 32 = .ok (.iconst (-1), 1) := by decide +kernel
theorem d_Rf_prepare_33 : decode (mB Y_Rf_prepare) 33 = .ok (.if_icmp .eq 7, 3) := by decide +kernel
theorem d_Rf_prepare_36 : decode (mB Y_Rf_prepare) 36 = .ok (.iconst 1, 1) := by decide +kernel
theorem d_Rf_prepare_37 : decode (mB Y_Rf_prepare) 37 = .ok (.goto 4, 3) := by decide +kernel
theorem d_Rf_prepare_40 : decode (mB Y_Rf_prepare) 40 = .ok (.iconst 0, 1) := by decide +kernel
theorem d_Rf_prepare_41 : decode (mB Y_Rf_prepare) 41 = .ok (.istore 4, 2) := by decide +kernel
theorem d_Rf_prepare_43 : decode (mB Y_Rf_prepare) 43 = .ok (.aload_n 0, 1) := by decide +kernel
theorem d_Rf_prepare_44 : decode (mB Y_Rf_prepare) 44 = .ok (.getfield 19, 3) := by decide +kernel
theorem d_Rf_prepare_47 : decode (mB Y_Rf_prepare) 47 = .ok (.bipush 10, 2) := by decide +kernel
theorem d_Rf_prepare_49 : decode (mB Y_Rf_prepare) 49 = .ok (.iload_n 2, 1) := by decide +kernel
theorem d_Rf_prepare_50 : decode (mB Y_Rf_prepare) 50 = .ok (.imul, 1) := by decide +kernel
theorem d_Rf_prepare_51 : decode (mB Y_Rf_prepare) 51 = .ok (.iload_n 3, 1) := by decide +kernel
theorem d_Rf_prepare_52 : decode (mB Y_Rf_prepare) 52 = .ok (.iadd, 1) := by decide +kernel
theorem d_Rf_prepare_53 : decode (mB Y_Rf_prepare) 53 = .ok (.iload 4, 2) := by decide +kernel
theorem d_Rf_prepare_55 : decode (mB Y_Rf_prepare) 55 = .ok (.ifCond .eq 25, 3) := by decide +kernel
theorem d_Rf_prepare_58 : decode (mB Y_Rf_prepare) 58 = .ok (.aload_n 0, 1) := by decide +kernel
theorem d_Rf_prepare_59 : decode (mB Y_Rf_prepare) 59 = .ok (.getfield 9, 3) := by decide +kernel
theorem d_Rf_prepare_62 : decode (mB Y_Rf_prepare) 62 = .ok (.aload_n 0, 1) := by decide +kernel
theorem d_Rf_prepare_63 : decode (mB Y_Rf_prepare) 63 = .ok (.getfield 15, 3) := by decide +kernel
theorem d_Rf_prepare_66 : decode (mB Y_Rf_prepare) 66 = .ok (.iload_n 2, 1) := by decide +kernel
theorem d_Rf_prepare_67 : decode (mB Y_Rf_prepare) 67 = .ok (.iaload, 1) := by decide +kernel
theorem d_Rf_prepare_68 : decode (mB Y_Rf_prepare) 68 = .ok (.aload_n 0, 1) := by decide +kernel
theorem d_Rf_prepare_69 : decode (mB Y_Rf_prepare) 69 = .ok (.getfield 15, 3) := by decide +kernel
theorem d_Rf_prepare_72 : decode (mB Y_Rf_prepare) 72 = .ok (.iload_n 3, 1) := by decide +kernel
theorem d_Rf_prepare_73 : decode (mB Y_Rf_prepare) 73 = .ok (.iaload, 1) := by decide +kernel
theorem d_Rf_prepare_74 : decode (mB Y_Rf_prepare) 74 = .ok (.invokevirtual 26, 3) := by decide +kernel
theorem d_Rf_prepare_77 : decode (mB Y_Rf_prepare) 77 = .ok (.goto 4, 3) := by decide +kernel
theorem d_Rf_prepare_80 : decode (mB Y_Rf_prepare) 80 = .ok (.iconst 0, 1) := by decide +kernel
theorem d_Rf_prepare_81 : decode (mB Y_Rf_prepare) 81 = .ok (.iastore, 1) := by decide +kernel
theorem d_Rf_prepare_82 : decode (mB Y_Rf_prepare) 82 = .ok (.iinc 3 1, 3) := by decide +kernel
theorem d_Rf_prepare_85 : decode (mB Y_Rf_prepare) 85 = .ok (.goto (-75), 3) := by decide +kernel
theorem d_Rf_prepare_88 : decode (mB Y_Rf_prepare) 88 = .ok (.iinc 2 1, 3) := by decide +kernel
theorem d_Rf_prepare_91 : decode (mB Y_Rf_prepare) 91 = .ok (.goto (-89), 3) := by decide +kernel
theorem d_Rf_prepare_94 : decode (mB Y_Rf_prepare) 94 = .ok (.iconst 0, 1) := by decide +kernel
theorem d_Rf_prepare_95 : decode (mB Y_Rf_prepare) 95 = .ok (.istore_n 2, 1) := by decide +kernel
theorem d_Rf_prepare_96 : decode (mB Y_Rf_prepare) 96 = .ok (.iload_n 2, 1) := by decide +kernel
theorem d_Rf_prepare_97 : decode (mB Y_Rf_prepare) 97 = .ok (.bipush 10, 2) := by decide +kernel
theorem d_Rf_prepare_99 : decode (mB Y_Rf_prepare) 99 = .ok (.if_icmp .ge 43, 3) := by decide +kernel
theorem d_Rf_prepare_102 : decode (mB Y_Rf_prepare) 102 = .ok (.iload_n 2, 1) := by decide +kernel
theorem d_Rf_prepare_103 : decode (mB Y_Rf_prepare) 103 = .ok (.iconst 1, 1) := by decide +kernel
theorem d_Rf_prepare_104 : decode (mB Y_Rf_prepare) 104 = .ok (.iadd, 1) := by decide +kernel
theorem d_Rf_prepare_105 : decode (mB Y_Rf_prepare) 105 = .ok (.istore_n 3, 1) := by decide +kernel
theorem d_Rf_prepare_106 : decode (mB Y_Rf_prepare) 106 = .ok (.iload_n 3, 1) := by decide +kernel
theorem d_Rf_prepare_107 : decode (mB Y_Rf_prepare) 107 = .ok (.bipush 10, 2) := by decide +kernel
theorem d_Rf_prepare_109 : decode (mB Y_Rf_prepare) 109 = .ok (.if_icmp .ge 27, 3) := by decide +kernel
theorem d_Rf_prepare_112 : decode (mB Y_Rf_prepare) 112 = .ok (.aload_n 0, 1) := by decide +kernel
theorem d_Rf_prepare_113 : decode (mB Y_Rf_prepare) 113 = .ok (.getfield 22, 3) := by decide +kernel
theorem d_Rf_prepare_116 : decode (mB Y_Rf_prepare) 116 = .ok (.bipush 10, 2) := by decide +kernel
theorem d_Rf_prepare_118 : decode (mB Y_Rf_prepare) 118 = .ok (.iload_n 2, 1) := by decide +kernel
theorem d_Rf_prepare_119 : decode (mB Y_Rf_prepare) 119 = .ok (.imul, 1) := by decide +kernel
theorem d_Rf_prepare_120 : decode (mB Y_Rf_prepare) 120 = .ok (.iload_n 3, 1) := by decide +kernel
theorem d_Rf_prepare_121 : decode (mB Y_Rf_prepare) 121 = .ok (.iadd, 1) := by decide +kernel
theorem d_Rf_prepare_122 : decode (mB Y_Rf_prepare) 122 = .ok (.aload_n 0, 1) := by decide +kernel
theorem d_Rf_prepare_123 : decode (mB Y_Rf_prepare) 123 = .ok (.iload_n 2, 1) := by decide +kernel
theorem d_Rf_prepare_124 : decode (mB Y_Rf_prepare) 124 = .ok (.iload_n 3, 1) := by decide +kernel
theorem d_Rf_prepare_125 : decode (mB Y_Rf_prepare) 125 = .ok (.iload_n 1, 1) := by decide +kernel
theorem d_Rf_prepare_126 : decode (mB Y_Rf_prepare) 126 = .ok (.invokevirtual 32, 3) := by decide +kernel
theorem d_Rf_prepare_129 : decode (mB Y_Rf_prepare) 129 = .ok (.lastore, 1) := by decide +kernel
theorem d_Rf_prepare_130 : decode (mB Y_Rf_prepare) 130 = .ok (.iinc 3 1, 3) := by decide +kernel
theorem d_Rf_prepare_133 : decode (mB Y_Rf_prepare) 133 = .ok (.goto (-27), 3) := by decide +kernel
theorem d_Rf_prepare_136 : decode (mB Y_Rf_prepare) 136 = .ok (.iinc 2 1, 3) := by decide +kernel
theorem d_Rf_prepare_139 : decode (mB Y_Rf_prepare) 139 = .ok (.goto (-43), 3) := by decide +kernel
theorem d_Rf_prepare_142 : decode (mB Y_Rf_prepare) 142 = .ok (.return_, 1) := by decide +kernel
theorem ro_Rf_prepare_Rf_apartBy : roomy Y_Rf_prepare Y_Rf_apartBy := ⟨Nat.le_of_ble_eq_true rfl, Nat.le_of_ble_eq_true rfl⟩
theorem ro_Rf_prepare_Sq_travel : roomy Y_Rf_prepare Y_Sq_travel := ⟨Nat.le_of_ble_eq_true rfl, Nat.le_of_ble_eq_true rfl⟩
def r_Rf_prepare_L10 (y1_ : Int32) (y2_ : Int32) : Nat → Int32 → Sto → Option (Int32 × Sto)
  | 0, _, _ => none
  | n + 1, x3_, S =>
    if 10 ≤ x3_ then
      some (x3_, S)
    else
      chk (inr y2_ 10) (
      jn (fun (v1 : Int32) =>
        jn (fun (v2 : Int32) =>
          chk (inr ((10 * y2_) + x3_) 100) (
          ltS (sw S 102 (((10 * y2_) + x3_).toNatClampNeg) v2) (fun S3 =>
          lt (x3_ + 1) (fun v4 =>
          r_Rf_prepare_L10 y1_ y2_ n v4 S3)))) (fun j81 =>
        if v1 = 0 then
          j81 (0)
        else
          chk (inr y2_ 10) (
          chk (inr x3_ 10) (
          (r_Sq_travel (S 17 y2_.toNatClampNeg) (S 17 x3_.toNatClampNeg) S).bind (fun r5 =>
          j81 (r5)))))) (fun j41 =>
      if (S 17 y2_.toNatClampNeg) = (-1) then
        j41 (0)
      else
        chk (inr x3_ 10) (
        if (S 17 x3_.toNatClampNeg) = (-1) then
          j41 (0)
        else
          j41 (1))))
def r_Rf_prepare_L2 (y1_ : Int32) : Nat → Int32 → Sto → Option (Int32 × Sto)
  | 0, _, _ => none
  | n + 1, x2_, S =>
    if 10 ≤ x2_ then
      some (x2_, S)
    else
      (r_Rf_prepare_L10 y1_ x2_ fu 0 S).bind (fun (v1, S2) =>
      lt (x2_ + 1) (fun v3 =>
      r_Rf_prepare_L2 y1_ n v3 S2))
def r_Rf_prepare_L106 (y1_ : Int32) (y2_ : Int32) : Nat → Int32 → Sto → Option (Int32 × Sto)
  | 0, _, _ => none
  | n + 1, x3_, S =>
    if 10 ≤ x3_ then
      some (x3_, S)
    else
      (r_Rf_apartBy y2_ x3_ y1_ S).bind (fun r1 =>
      chk (inr ((10 * y2_) + x3_) 100) (
      ltS (sw (sw S 103 (2 * ((10 * y2_) + x3_).toNatClampNeg) (jhi r1)) 103 (2 * ((10 * y2_) + x3_).toNatClampNeg + 1) (jlo r1)) (fun S2 =>
      lt (x3_ + 1) (fun v3 =>
      r_Rf_prepare_L106 y1_ y2_ n v3 S2))))
def r_Rf_prepare_L96 (y1_ : Int32) : Nat → Int32 → Sto → Option (Int32 × Sto)
  | 0, _, _ => none
  | n + 1, x2_, S =>
    if 10 ≤ x2_ then
      some (x2_, S)
    else
      lt (x2_ + 1) (fun v1 =>
      (r_Rf_prepare_L106 y1_ x2_ fu v1 S).bind (fun (v2, S3) =>
      lt (x2_ + 1) (fun v4 =>
      r_Rf_prepare_L96 y1_ n v4 S3)))
set_option maxHeartbeats 4000000 in
set_option maxRecDepth 20000 in
theorem w_Rf_prepare_L10 {g : Gm} {G : Gl} {L : Shp} (C : Cx g Y_Rf_prepare G) (hL : Ext L) (y1_ : Int32) (y2_ : Int32)  :
    ∀ (n : Nat) (x3_ : Int32) (S : Sto) (K : (Int32 × Sto) → Option Sto), (∀ (x3_ : Int32) (S : Sto), VO g Y_Rf_prepare G (fun z => Qm g Y_Rf_prepare G (fv L z)) 0 0 88 [(0, rf G 101), (1, .int y1_), (2, .int y2_)] [] L S (some (x3_, S)) K) → VO g Y_Rf_prepare G (fun z => Qm g Y_Rf_prepare G (fv L z)) 0 0 10 [(0, rf G 101), (1, .int y1_), (2, .int y2_), (3, .int x3_)] [] L S (r_Rf_prepare_L10 y1_ y2_ n x3_ S) K := by
  intro n
  induction n with
  | zero => intro x3_ S K; intros; exact v_none
  | succ n ih =>
    intro x3_ S K hK
    rw [r_Rf_prepare_L10]
    refine v_iload_n (pc := 10) C d_Rf_prepare_10 rfl 3 rfl ?_
    refine v_bipush (pc := 11) C d_Rf_prepare_11 bp_10 ?_
    refine v_icmp_ge (pc := 13) (tgt := 88) C d_Rf_prepare_13 rfl (fun _ => ?_) (fun _ => ?_)
    · refine v_sub [0, 1, 2] rfl ?_
      exact hK x3_ S
    · refine v_aload_n (pc := 16) C d_Rf_prepare_16 rfl 0 rfl ?_
      refine v_getR (pc := 17) C fl_Rf_15 (sh_101 hL) rfl d_Rf_prepare_17 ?_
      refine v_iload_n (pc := 20) C d_Rf_prepare_20 rfl 2 rfl ?_
      refine v_iald (pc := 21) C (sh_17 hL) d_Rf_prepare_21 (fun _ => ?_)
      refine v_iconst (pc := 22) C d_Rf_prepare_22 ic_m1 ?_
      refine v_jn (fun j => ∀ (v1 : Int32), VO g Y_Rf_prepare G (fun z => Qm g Y_Rf_prepare G (fv L z)) 0 0 41 [(0, rf G 101), (1, .int y1_), (2, .int y2_), (3, .int x3_)] [.int v1] L S (j (v1)) K) (fun v1 => ?_) (fun j41 hj41 => ?_)
      · refine v_istore (pc := 41) (lv' := [(4, .int v1), (0, rf G 101), (1, .int y1_), (2, .int y2_), (3, .int x3_)]) C d_Rf_prepare_41 (by decide) rfl ?_
        refine v_aload_n (pc := 43) C d_Rf_prepare_43 rfl 1 rfl ?_
        refine v_getR (pc := 44) C fl_Rf_19 (sh_101 hL) rfl d_Rf_prepare_44 ?_
        refine v_bipush (pc := 47) C d_Rf_prepare_47 bp_10 ?_
        refine v_iload_n (pc := 49) C d_Rf_prepare_49 rfl 3 rfl ?_
        refine v_imul (pc := 50) C d_Rf_prepare_50 ?_
        refine v_iload_n (pc := 51) C d_Rf_prepare_51 rfl 4 rfl ?_
        refine v_iadd (pc := 52) C d_Rf_prepare_52 ?_
        refine v_iload (pc := 53) C d_Rf_prepare_53 0 rfl ?_
        refine v_jn (fun j => ∀ (v2 : Int32), VO g Y_Rf_prepare G (fun z => Qm g Y_Rf_prepare G (fv L z)) 0 0 81 [(0, rf G 101), (1, .int y1_), (2, .int y2_), (3, .int x3_)] [.int v2, .int ((10 * y2_) + x3_), rf G 102] L S (j (v2)) K) (fun v2 => ?_) (fun j81 hj81 => ?_)
        · refine v_iast (pc := 81) C (sh_102 hL) d_Rf_prepare_81 (fun _ S3 => ?_)
          refine v_iinc (pc := 82) (p := 3) (c := 1) C d_Rf_prepare_82 rfl (by decide) (by decide) (fun v4 => [(3, .int v4), (0, rf G 101), (1, .int y1_), (2, .int y2_)]) (fun _ => rfl) (fun v4 => ?_)
          refine v_goto (pc := 85) (tgt := 10) C d_Rf_prepare_85 rfl ?_
          refine v_sub [1, 2, 3, 0] rfl ?_
          exact ih v4 S3 K hK
        · refine v_if_eq (pc := 55) (tgt := 80) C d_Rf_prepare_55 rfl (fun _ => ?_) (fun _ => ?_)
          · refine v_iconst (pc := 80) C d_Rf_prepare_80 ic_0 ?_
            refine v_sub [1, 2, 3, 4] rfl ?_
            exact hj81 0
          · refine v_aload_n (pc := 58) C d_Rf_prepare_58 rfl 1 rfl ?_
            refine v_getR (pc := 59) C fl_Rf_9 (sh_101 hL) rfl d_Rf_prepare_59 ?_
            refine v_aload_n (pc := 62) C d_Rf_prepare_62 rfl 1 rfl ?_
            refine v_getR (pc := 63) C fl_Rf_15 (sh_101 hL) rfl d_Rf_prepare_63 ?_
            refine v_iload_n (pc := 66) C d_Rf_prepare_66 rfl 3 rfl ?_
            refine v_iald (pc := 67) C (sh_17 hL) d_Rf_prepare_67 (fun _ => ?_)
            refine v_aload_n (pc := 68) C d_Rf_prepare_68 rfl 1 rfl ?_
            refine v_getR (pc := 69) C fl_Rf_15 (sh_101 hL) rfl d_Rf_prepare_69 ?_
            refine v_iload_n (pc := 72) C d_Rf_prepare_72 rfl 4 rfl ?_
            refine v_iald (pc := 73) C (sh_17 hL) d_Rf_prepare_73 (fun _ => ?_)
            refine v_cp (pc := 74) (inv_V (As := [.int (S 17 y2_.toNatClampNeg), .int (S 17 x3_.toNatClampNeg)]) (st := [.int ((10 * y2_) + x3_), rf G 102]) C ml_Rf_26 mv_Sq_travel ro_Rf_prepare_Sq_travel (sh_1 hL) rfl rfl rfl rfl (Nat.le_of_ble_eq_true rfl) d_Rf_prepare_74) (c_Sq_travel hL S (S 17 y2_.toNatClampNeg) (S 17 x3_.toNatClampNeg)) ⟨rfl, rfl⟩ ⟨Nat.zero_le _, Nat.zero_le _⟩ (fun r5 => ?_)
            refine v_goto (pc := 77) (tgt := 81) C d_Rf_prepare_77 rfl ?_
            refine v_sub [1, 2, 3, 4] rfl ?_
            exact hj81 r5
      · refine v_icmp_eq (pc := 23) (tgt := 40) C d_Rf_prepare_23 rfl (fun _ => ?_) (fun _ => ?_)
        · refine v_iconst (pc := 40) C d_Rf_prepare_40 ic_0 ?_
          exact hj41 0
        · refine v_aload_n (pc := 26) C d_Rf_prepare_26 rfl 0 rfl ?_
          refine v_getR (pc := 27) C fl_Rf_15 (sh_101 hL) rfl d_Rf_prepare_27 ?_
          refine v_iload_n (pc := 30) C d_Rf_prepare_30 rfl 3 rfl ?_
          refine v_iald (pc := 31) C (sh_17 hL) d_Rf_prepare_31 (fun _ => ?_)
          refine v_iconst (pc := 32) C d_Rf_prepare_32 ic_m1 ?_
          refine v_icmp_eq (pc := 33) (tgt := 40) C d_Rf_prepare_33 rfl (fun _ => ?_) (fun _ => ?_)
          · refine v_iconst (pc := 40) C d_Rf_prepare_40 ic_0 ?_
            exact hj41 0
          · refine v_iconst (pc := 36) C d_Rf_prepare_36 ic_1 ?_
            refine v_goto (pc := 37) (tgt := 41) C d_Rf_prepare_37 rfl ?_
            exact hj41 1
set_option maxHeartbeats 4000000 in
set_option maxRecDepth 20000 in
theorem w_Rf_prepare_L2 {g : Gm} {G : Gl} {L : Shp} (C : Cx g Y_Rf_prepare G) (hL : Ext L) (y1_ : Int32)  :
    ∀ (n : Nat) (x2_ : Int32) (S : Sto) (K : (Int32 × Sto) → Option Sto), (∀ (x2_ : Int32) (S : Sto), VO g Y_Rf_prepare G (fun z => Qm g Y_Rf_prepare G (fv L z)) 0 0 94 [(0, rf G 101), (1, .int y1_)] [] L S (some (x2_, S)) K) → VO g Y_Rf_prepare G (fun z => Qm g Y_Rf_prepare G (fv L z)) 0 0 2 [(0, rf G 101), (1, .int y1_), (2, .int x2_)] [] L S (r_Rf_prepare_L2 y1_ n x2_ S) K := by
  intro n
  induction n with
  | zero => intro x2_ S K; intros; exact v_none
  | succ n ih =>
    intro x2_ S K hK
    rw [r_Rf_prepare_L2]
    refine v_iload_n (pc := 2) C d_Rf_prepare_2 rfl 2 rfl ?_
    refine v_bipush (pc := 3) C d_Rf_prepare_3 bp_10 ?_
    refine v_icmp_ge (pc := 5) (tgt := 94) C d_Rf_prepare_5 rfl (fun _ => ?_) (fun _ => ?_)
    · refine v_sub [0, 1] rfl ?_
      exact hK x2_ S
    · refine v_iconst (pc := 8) C d_Rf_prepare_8 ic_0 ?_
      refine v_istore_n (pc := 9) (lv' := [(3, .int 0), (0, rf G 101), (1, .int y1_), (2, .int x2_)]) C d_Rf_prepare_9 rfl (by decide) rfl ?_
      refine v_sub [1, 2, 3, 0] rfl ?_
      refine v_bind ?_
      refine w_Rf_prepare_L10 C hL y1_ x2_  fu 0 S _ (fun v1 S2 => ?_) 
      refine v_some ?_
      refine v_iinc (pc := 88) (p := 2) (c := 1) C d_Rf_prepare_88 rfl (by decide) (by decide) (fun v3 => [(2, .int v3), (0, rf G 101), (1, .int y1_)]) (fun _ => rfl) (fun v3 => ?_)
      refine v_goto (pc := 91) (tgt := 2) C d_Rf_prepare_91 rfl ?_
      refine v_sub [1, 2, 0] rfl ?_
      exact ih v3 S2 K hK
set_option maxHeartbeats 4000000 in
set_option maxRecDepth 20000 in
theorem w_Rf_prepare_L106 {g : Gm} {G : Gl} {L : Shp} (C : Cx g Y_Rf_prepare G) (hL : Ext L) (y1_ : Int32) (y2_ : Int32)  :
    ∀ (n : Nat) (x3_ : Int32) (S : Sto) (K : (Int32 × Sto) → Option Sto), (∀ (x3_ : Int32) (S : Sto), VO g Y_Rf_prepare G (fun z => Qm g Y_Rf_prepare G (fv L z)) 0 0 136 [(0, rf G 101), (1, .int y1_), (2, .int y2_)] [] L S (some (x3_, S)) K) → VO g Y_Rf_prepare G (fun z => Qm g Y_Rf_prepare G (fv L z)) 0 0 106 [(0, rf G 101), (1, .int y1_), (2, .int y2_), (3, .int x3_)] [] L S (r_Rf_prepare_L106 y1_ y2_ n x3_ S) K := by
  intro n
  induction n with
  | zero => intro x3_ S K; intros; exact v_none
  | succ n ih =>
    intro x3_ S K hK
    rw [r_Rf_prepare_L106]
    refine v_iload_n (pc := 106) C d_Rf_prepare_106 rfl 3 rfl ?_
    refine v_bipush (pc := 107) C d_Rf_prepare_107 bp_10 ?_
    refine v_icmp_ge (pc := 109) (tgt := 136) C d_Rf_prepare_109 rfl (fun _ => ?_) (fun _ => ?_)
    · refine v_sub [0, 1, 2] rfl ?_
      exact hK x3_ S
    · refine v_aload_n (pc := 112) C d_Rf_prepare_112 rfl 0 rfl ?_
      refine v_getR (pc := 113) C fl_Rf_22 (sh_101 hL) rfl d_Rf_prepare_113 ?_
      refine v_bipush (pc := 116) C d_Rf_prepare_116 bp_10 ?_
      refine v_iload_n (pc := 118) C d_Rf_prepare_118 rfl 2 rfl ?_
      refine v_imul (pc := 119) C d_Rf_prepare_119 ?_
      refine v_iload_n (pc := 120) C d_Rf_prepare_120 rfl 3 rfl ?_
      refine v_iadd (pc := 121) C d_Rf_prepare_121 ?_
      refine v_aload_n (pc := 122) C d_Rf_prepare_122 rfl 0 rfl ?_
      refine v_iload_n (pc := 123) C d_Rf_prepare_123 rfl 2 rfl ?_
      refine v_iload_n (pc := 124) C d_Rf_prepare_124 rfl 3 rfl ?_
      refine v_iload_n (pc := 125) C d_Rf_prepare_125 rfl 1 rfl ?_
      refine v_cpl (pc := 126) (inv_V (As := [.int y2_, .int x3_, .int y1_]) (st := [.int ((10 * y2_) + x3_), rf G 103]) C ml_Rf_32 mv_Rf_apartBy ro_Rf_prepare_Rf_apartBy (sh_101 hL) rfl rfl rfl rfl (Nat.le_of_ble_eq_true rfl) d_Rf_prepare_126) (c_Rf_apartBy hL S y2_ x3_ y1_) ⟨rfl, rfl⟩ ⟨Nat.zero_le _, Nat.zero_le _⟩ (fun r1 => ?_)
      refine v_last (pc := 129) C (sh_103 hL) d_Rf_prepare_129 (fun _ S2 => ?_)
      refine v_iinc (pc := 130) (p := 3) (c := 1) C d_Rf_prepare_130 rfl (by decide) (by decide) (fun v3 => [(3, .int v3), (0, rf G 101), (1, .int y1_), (2, .int y2_)]) (fun _ => rfl) (fun v3 => ?_)
      refine v_goto (pc := 133) (tgt := 106) C d_Rf_prepare_133 rfl ?_
      refine v_sub [1, 2, 3, 0] rfl ?_
      exact ih v3 S2 K hK
set_option maxHeartbeats 4000000 in
set_option maxRecDepth 20000 in
theorem w_Rf_prepare_L96 {g : Gm} {G : Gl} {L : Shp} (C : Cx g Y_Rf_prepare G) (hL : Ext L) (y1_ : Int32)  :
    ∀ (n : Nat) (x2_ : Int32) (S : Sto) (K : (Int32 × Sto) → Option Sto), (∀ (x2_ : Int32) (S : Sto), VO g Y_Rf_prepare G (fun z => Qm g Y_Rf_prepare G (fv L z)) 0 0 142 [] [] L S (some (x2_, S)) K) → VO g Y_Rf_prepare G (fun z => Qm g Y_Rf_prepare G (fv L z)) 0 0 96 [(0, rf G 101), (1, .int y1_), (2, .int x2_)] [] L S (r_Rf_prepare_L96 y1_ n x2_ S) K := by
  intro n
  induction n with
  | zero => intro x2_ S K; intros; exact v_none
  | succ n ih =>
    intro x2_ S K hK
    rw [r_Rf_prepare_L96]
    refine v_iload_n (pc := 96) C d_Rf_prepare_96 rfl 2 rfl ?_
    refine v_bipush (pc := 97) C d_Rf_prepare_97 bp_10 ?_
    refine v_icmp_ge (pc := 99) (tgt := 142) C d_Rf_prepare_99 rfl (fun _ => ?_) (fun _ => ?_)
    · refine v_sub [] rfl ?_
      exact hK x2_ S
    · refine v_iload_n (pc := 102) C d_Rf_prepare_102 rfl 2 rfl ?_
      refine v_iconst (pc := 103) C d_Rf_prepare_103 ic_1 ?_
      refine v_iadd (pc := 104) C d_Rf_prepare_104 ?_
      refine v_lt (fun v1 => ?_)
      refine v_istore_n (pc := 105) (lv' := [(3, .int v1), (0, rf G 101), (1, .int y1_), (2, .int x2_)]) C d_Rf_prepare_105 rfl (by decide) rfl ?_
      refine v_sub [1, 2, 3, 0] rfl ?_
      refine v_bind ?_
      refine w_Rf_prepare_L106 C hL y1_ x2_  fu v1 S _ (fun v2 S3 => ?_) 
      refine v_some ?_
      refine v_iinc (pc := 136) (p := 2) (c := 1) C d_Rf_prepare_136 rfl (by decide) (by decide) (fun v4 => [(2, .int v4), (0, rf G 101), (1, .int y1_)]) (fun _ => rfl) (fun v4 => ?_)
      refine v_goto (pc := 139) (tgt := 96) C d_Rf_prepare_139 rfl ?_
      refine v_sub [1, 2, 0] rfl ?_
      exact ih v4 S3 K hK
def r_Rf_prepare (x1 : Int32) (S : Sto) : Option Sto :=
  (r_Rf_prepare_L2 x1 fu 0 S).bind (fun (v1, S2) =>
  (r_Rf_prepare_L96 x1 fu 0 S2).bind (fun (v3, S4) =>
  some S4))
set_option maxHeartbeats 4000000 in
set_option maxRecDepth 20000 in
theorem c_Rf_prepare {G : Gl} {L : Shp} (hL : Ext L) (S : Sto) (x1 : Int32)  : Ct Y_Rf_prepare G [rf G 101, .int x1] L S (fv L) (r_Rf_prepare x1 S) := by
  refine ct_of (by decide +kernel) (Nat.le_of_ble_eq_true rfl) (fun g C => ?_)
  show VO g Y_Rf_prepare G (fun z => Qm g Y_Rf_prepare G (fv L z)) 0 0 0 [(0, rf G 101), (1, .int x1)] [] L S (r_Rf_prepare x1 S) some
  unfold r_Rf_prepare
  refine v_iconst (pc := 0) C d_Rf_prepare_0 ic_0 ?_
  refine v_istore_n (pc := 1) (lv' := [(2, .int 0), (0, rf G 101), (1, .int x1)]) C d_Rf_prepare_1 rfl (by decide) rfl ?_
  refine v_sub [1, 2, 0] rfl ?_
  refine v_bind ?_
  refine w_Rf_prepare_L2 C hL x1  fu 0 S _ (fun v1 S2 => ?_) 
  refine v_some ?_
  refine v_iconst (pc := 94) C d_Rf_prepare_94 ic_0 ?_
  refine v_istore_n (pc := 95) (lv' := [(2, .int 0), (0, rf G 101), (1, .int x1)]) C d_Rf_prepare_95 rfl (by decide) rfl ?_
  refine v_sub [1, 2, 0] rfl ?_
  refine v_bind ?_
  refine w_Rf_prepare_L96 C hL x1  fu 0 S2 _ (fun v3 S4 => ?_) 
  refine v_some ?_
  exact v_vret C d_Rf_prepare_142 rfl ⟨Nat.zero_le _, Nat.zero_le _⟩ rfl rfl
