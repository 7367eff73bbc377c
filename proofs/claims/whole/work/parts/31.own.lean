-- B_from
theorem d_B_from_0 : decode (mB Y_B_from) 0 = .ok (.iload_n 1, 1) := by decide +kernel
theorem d_B_from_1 : decode (mB Y_B_from) 1 = .ok (.iconst 0, 1) := by decide +kernel
theorem d_B_from_2 : decode (mB Y_B_from) 2 = .ok (.iconst 2, 1) := by decide +kernel
theorem d_B_from_3 : decode (mB Y_B_from) 3 = .ok (.invokestatic 112, 3) := by decide +kernel
theorem d_B_from_6 : decode (mB Y_B_from) 6 = .ok (.ifCond .ne 5, 3) := by decide +kernel
theorem d_B_from_9 : decode (mB Y_B_from) 9 = .ok (.iconst (-1), 1) := by decide +kernel
theorem d_B_from_10 : decode (mB Y_B_from) 10 = .ok (.ireturn, 1) := by decide +kernel
theorem d_B_from_11 : decode (mB Y_B_from) 11 = .ok (.iconst 0, 1) := by decide +kernel
theorem d_B_from_12 : decode (mB Y_B_from) 12 = .ok (.istore_n 2, 1) := by decide +kernel
theorem d_B_from_13 : decode (mB Y_B_from) 13 = .ok (.iconst 0, 1) := by decide +kernel
theorem d_B_from_14 : decode (mB Y_B_from) 14 = .ok (.istore_n 3, 1) := by decide +kernel
theorem d_B_from_15 : decode (mB Y_B_from) 15 = .ok (.iload_n 3, 1) := by decide +kernel
theorem d_B_from_16 : decode (mB Y_B_from) 16 = .ok (.sipush 3600, 3) := by decide +kernel
theorem d_B_from_19 : decode (mB Y_B_from) 19 = .ok (.if_icmp .ge 44, 3) := by decide +kernel
theorem d_B_from_22 : decode (mB Y_B_from) 22 = .ok (.iload_n 1, 1) := by decide +kernel
theorem d_B_from_23 : decode (mB Y_B_from) 23 = .ok (.iconst 2, 1) := by decide +kernel
theorem d_B_from_24 : decode (mB Y_B_from) 24 = .ok (.if_icmp .ne 11, 3) := by decide +kernel
theorem d_B_from_27 : decode (mB Y_B_from) 27 = .ok (.sipush 3599, 3) := by decide +kernel
theorem d_B_from_30 : decode (mB Y_B_from) 30 = .ok (.iload_n 3, 1) := by decide +kernel
theorem d_B_from_31 : decode (mB Y_B_from) 31 = .ok (.isub, 1) := by decide +kernel
theorem d_B_from_32 : decode (mB Y_B_from) 32 = .ok (.goto 4, 3) := by decide +kernel
theorem d_B_from_35 : decode (mB Y_B_from) 35 = .ok (.iload_n 3, 1) := by decide +kernel
theorem d_B_from_36 : decode (mB Y_B_from) 36 = .ok (.istore 4, 2) := by decide +kernel
theorem d_B_from_38 : decode (mB Y_B_from) 38 = .ok (.aload_n 0, 1) := by decide +kernel
theorem d_B_from_39 : decode (mB Y_B_from) 39 = .ok (.iload 4, 2) := by decide +kernel
theorem d_B_from_41 : decode (mB Y_B_from) 41 = .ok (.invokevirtual 258, 3) := by decide +kernel
theorem d_B_from_44 : decode (mB Y_B_from) 44 = .ok (.ifCond .eq 13, 3) := by decide +kernel
theorem d_B_from_47 : decode (mB Y_B_from) 47 = .ok (.iload_n 1, 1) := by decide +kernel
theorem d_B_from_48 : decode (mB Y_B_from) 48 = .ok (.ifCond .eq 6, 3) := by decide +kernel
theorem d_B_from_51 : decode (mB Y_B_from) 51 = .ok (.iload 4, 2) := by decide +kernel
theorem d_B_from_53 : decode (mB Y_B_from) 53 = .ok (.ireturn, 1) := by decide +kernel
theorem d_B_from_54 : decode (mB Y_B_from) 54 = .ok (.iinc 2 1, 3) := by decide +kernel
theorem d_B_from_57 : decode (mB Y_B_from) 57 = .ok (.iinc 3 1, 3) := by decide +kernel
theorem d_B_from_60 : decode (mB Y_B_from) 60 = .ok (.goto (-45), 3) := by decide +kernel
theorem d_B_from_63 : decode (mB Y_B_from) 63 = .ok (.iload_n 1, 1) := by decide +kernel
theorem d_B_from_64 : decode (mB Y_B_from) 64 = .ok (.ifCond .ne 7, 3) := by decide +kernel
theorem d_B_from_67 : decode (mB Y_B_from) 67 = .ok (.iload_n 2, 1) := by decide +kernel
theorem d_B_from_68 : decode (mB Y_B_from) 68 = .ok (.goto 4, 3) := by decide +kernel
theorem d_B_from_71 : decode (mB Y_B_from) 71 = .ok (.iconst (-1), 1) := by decide +kernel
theorem d_B_from_72 : decode (mB Y_B_from) 72 = .ok (.ireturn, 1) := by decide +kernel
theorem ro_B_from_B_mayBeFrom : roomy Y_B_from Y_B_mayBeFrom := ⟨Nat.le_of_ble_eq_true rfl, Nat.le_of_ble_eq_true rfl⟩
theorem ro_B_from_B_within : roomy Y_B_from Y_B_within := ⟨Nat.le_of_ble_eq_true rfl, Nat.le_of_ble_eq_true rfl⟩
def r_B_from_L15 (y1_ : Int32) : Nat → Int32 → Int32 → Sto → Option ((Int32 × Int32 × Sto) ⊕ (Int32 × Sto))
  | 0, _, _, _ => none
  | n + 1, x2_, x3_, S =>
    if 3600 ≤ x3_ then
      some (.inl (x2_, x3_, S))
    else
      jn (fun (v1 : Int32) =>
        (r_B_mayBeFrom v1 S).bind (fun (r2, S3) =>
        jn (fun (v4 : Int32) =>
          lt (x3_ + 1) (fun v5 =>
          r_B_from_L15 y1_ n v4 v5 S3)) (fun j57 =>
        if r2 = 0 then
          j57 (x2_)
        else
          if y1_ = 0 then
            lt (x2_ + 1) (fun v6 =>
            j57 (v6))
          else
            some (.inr (v1, S3))))) (fun j36 =>
      if y1_ = 2 then
        j36 (3599 - x3_)
      else
        j36 (x3_))
set_option maxHeartbeats 4000000 in
set_option maxRecDepth 20000 in
theorem w_B_from_L15 {g : Gm} {G : Gl} {L : Shp} (C : Cx g Y_B_from G) (hL : Ext L) (y1_ : Int32)  :
    ∀ (n : Nat) (x2_ : Int32) (x3_ : Int32) (S : Sto) (K : ((Int32 × Int32 × Sto) ⊕ (Int32 × Sto)) → Option (Int32 × Sto)), (∀ (x2_ : Int32) (x3_ : Int32) (S : Sto), VO g Y_B_from G (fun z => Qm g Y_B_from G (fi L z)) 0 0 63 [(1, .int y1_), (2, .int x2_)] [] L S (some (.inl (x2_, x3_, S))) K) → (∀ x, K (.inr x) = some x) → VO g Y_B_from G (fun z => Qm g Y_B_from G (fi L z)) 0 0 15 [(0, rf G 0), (1, .int y1_), (2, .int x2_), (3, .int x3_)] [] L S (r_B_from_L15 y1_ n x2_ x3_ S) K := by
  intro n
  induction n with
  | zero => intro x2_ x3_ S K; intros; exact v_none
  | succ n ih =>
    intro x2_ x3_ S K hK hR
    rw [r_B_from_L15]
    refine v_iload_n (pc := 15) C d_B_from_15 rfl 3 rfl ?_
    refine v_sipush (pc := 16) C d_B_from_16 sp_3600 ?_
    refine v_icmp_ge (pc := 19) (tgt := 63) C d_B_from_19 rfl (fun _ => ?_) (fun _ => ?_)
    · refine v_sub [1, 2] rfl ?_
      exact hK x2_ x3_ S
    · refine v_iload_n (pc := 22) C d_B_from_22 rfl 1 rfl ?_
      refine v_iconst (pc := 23) C d_B_from_23 ic_2 ?_
      refine v_jn (fun j => ∀ (v1 : Int32), VO g Y_B_from G (fun z => Qm g Y_B_from G (fi L z)) 0 0 36 [(0, rf G 0), (1, .int y1_), (2, .int x2_), (3, .int x3_)] [.int v1] L S (j (v1)) K) (fun v1 => ?_) (fun j36 hj36 => ?_)
      · refine v_istore (pc := 36) (lv' := [(4, .int v1), (0, rf G 0), (1, .int y1_), (2, .int x2_), (3, .int x3_)]) C d_B_from_36 (by decide) rfl ?_
        refine v_aload_n (pc := 38) C d_B_from_38 rfl 1 rfl ?_
        refine v_iload (pc := 39) C d_B_from_39 0 rfl ?_
        refine v_ci (pc := 41) (inv_V (As := [.int v1]) (st := []) C ml_B_258 mv_B_mayBeFrom ro_B_from_B_mayBeFrom (sh_0 hL) rfl rfl rfl rfl (Nat.le_of_ble_eq_true rfl) d_B_from_41) (c_B_mayBeFrom hL S v1) ⟨rfl, rfl⟩ ⟨Nat.zero_le _, Nat.zero_le _⟩ (fun r2 S3 => ?_)
        refine v_jn (fun j => ∀ (v4 : Int32), VO g Y_B_from G (fun z => Qm g Y_B_from G (fi L z)) 0 0 57 [(0, rf G 0), (1, .int y1_), (2, .int v4), (3, .int x3_)] [] L S3 (j (v4)) K) (fun v4 => ?_) (fun j57 hj57 => ?_)
        · refine v_iinc (pc := 57) (p := 3) (c := 1) C d_B_from_57 rfl (by decide) (by decide) (fun v5 => [(3, .int v5), (0, rf G 0), (1, .int y1_), (2, .int v4)]) (fun _ => rfl) (fun v5 => ?_)
          refine v_goto (pc := 60) (tgt := 15) C d_B_from_60 rfl ?_
          refine v_sub [1, 2, 3, 0] rfl ?_
          exact ih v4 v5 S3 K hK hR
        · refine v_if_eq (pc := 44) (tgt := 57) C d_B_from_44 rfl (fun _ => ?_) (fun _ => ?_)
          · refine v_sub [1, 2, 3, 4] rfl ?_
            exact hj57 x2_
          · refine v_iload_n (pc := 47) C d_B_from_47 rfl 2 rfl ?_
            refine v_if_eq (pc := 48) (tgt := 54) C d_B_from_48 rfl (fun _ => ?_) (fun _ => ?_)
            · refine v_iinc (pc := 54) (p := 3) (c := 1) C d_B_from_54 rfl (by decide) (by decide) (fun v6 => [(2, .int v6), (4, .int v1), (0, rf G 0), (1, .int y1_), (3, .int x3_)]) (fun _ => rfl) (fun v6 => ?_)
              refine v_sub [2, 3, 0, 4] rfl ?_
              exact hj57 v6
            · refine v_iload (pc := 51) C d_B_from_51 0 rfl ?_
              exact v_iret (z := (v1, S3)) C d_B_from_53 rfl ⟨Nat.zero_le _, Nat.zero_le _⟩ (hR _) rfl
      · refine v_icmp_ne (pc := 24) (tgt := 35) C d_B_from_24 rfl (fun _ => ?_) (fun _ => ?_)
        · refine v_iload_n (pc := 35) C d_B_from_35 rfl 3 rfl ?_
          exact hj36 x3_
        · refine v_sipush (pc := 27) C d_B_from_27 sp_3599 ?_
          refine v_iload_n (pc := 30) C d_B_from_30 rfl 3 rfl ?_
          refine v_isub (pc := 31) C d_B_from_31 ?_
          refine v_goto (pc := 32) (tgt := 36) C d_B_from_32 rfl ?_
          exact hj36 (3599 - x3_)
def r_B_from (x1 : Int32) (S : Sto) : Option (Int32 × Sto) :=
  if (r_B_within x1 0 2) = 0 then
    some ((-1), S)
  else
    (r_B_from_L15 x1 fu 0 0 S).bind (fun x => match x with
    | .inl (v1, v2, S3) =>
      if x1 = 0 then
        some (v1, S3)
      else
        some ((-1), S3)
    | .inr r => some r)
set_option maxHeartbeats 4000000 in
set_option maxRecDepth 20000 in
theorem c_B_from {G : Gl} {L : Shp} (hL : Ext L) (S : Sto) (x1 : Int32)  : Ct Y_B_from G [rf G 0, .int x1] L S (fi L) (r_B_from x1 S) := by
  refine ct_of (by decide +kernel) (Nat.le_of_ble_eq_true rfl) (fun g C => ?_)
  show VO g Y_B_from G (fun z => Qm g Y_B_from G (fi L z)) 0 0 0 [(0, rf G 0), (1, .int x1)] [] L S (r_B_from x1 S) some
  unfold r_B_from
  refine v_iload_n (pc := 0) C d_B_from_0 rfl 1 rfl ?_
  refine v_iconst (pc := 1) C d_B_from_1 ic_0 ?_
  refine v_iconst (pc := 2) C d_B_from_2 ic_2 ?_
  refine v_ct (pc := 3) (inv_S (As := [.int x1, .int 0, .int 2]) (st := []) C ml_B_112 ms_B_within ro_B_from_B_within rfl rfl (Nat.le_of_ble_eq_true rfl) d_B_from_3) (c_B_within hL S x1 0 2) ⟨rfl, rfl⟩ ⟨Nat.zero_le _, Nat.zero_le _⟩ ?_
  refine v_if_ne (pc := 6) (tgt := 11) C d_B_from_6 rfl (fun _ => ?_) (fun _ => ?_)
  · refine v_iconst (pc := 11) C d_B_from_11 ic_0 ?_
    refine v_istore_n (pc := 12) (lv' := [(2, .int 0), (0, rf G 0), (1, .int x1)]) C d_B_from_12 rfl (by decide) rfl ?_
    refine v_iconst (pc := 13) C d_B_from_13 ic_0 ?_
    refine v_istore_n (pc := 14) (lv' := [(3, .int 0), (2, .int 0), (0, rf G 0), (1, .int x1)]) C d_B_from_14 rfl (by decide) rfl ?_
    refine v_sub [2, 3, 1, 0] rfl ?_
    refine v_bind ?_
    refine w_B_from_L15 C hL x1  fu 0 0 S _ (fun v1 v2 S3 => ?_) (fun z => rfl)
    refine v_some ?_
    refine v_iload_n (pc := 63) C d_B_from_63 rfl 0 rfl ?_
    refine v_if_ne (pc := 64) (tgt := 71) C d_B_from_64 rfl (fun _ => ?_) (fun _ => ?_)
    · refine v_iconst (pc := 71) C d_B_from_71 ic_m1 ?_
      exact v_iret (z := ((-1), S3)) C d_B_from_72 rfl ⟨Nat.zero_le _, Nat.zero_le _⟩ (rfl) rfl
    · refine v_iload_n (pc := 67) C d_B_from_67 rfl 1 rfl ?_
      refine v_goto (pc := 68) (tgt := 72) C d_B_from_68 rfl ?_
      exact v_iret (z := (v1, S3)) C d_B_from_72 rfl ⟨Nat.zero_le _, Nat.zero_le _⟩ (rfl) rfl
  · refine v_iconst (pc := 9) C d_B_from_9 ic_m1 ?_
    exact v_iret (z := ((-1), S)) C d_B_from_10 rfl ⟨Nat.zero_le _, Nat.zero_le _⟩ (rfl) rfl
-- B_click
theorem d_B_click_0 : decode (mB Y_B_click) 0 = .ok (.iload_n 1, 1) := by decide +kernel
theorem d_B_click_1 : decode (mB Y_B_click) 1 = .ok (.iconst 0, 1) := by decide +kernel
theorem d_B_click_2 : decode (mB Y_B_click) 2 = .ok (.iconst 3, 1) := by decide +kernel
theorem d_B_click_3 : decode (mB Y_B_click) 3 = .ok (.invokestatic 112, 3) := by decide +kernel
theorem d_B_click_6 : decode (mB Y_B_click) 6 = .ok (.ifCond .eq 13, 3) := by decide +kernel
theorem d_B_click_9 : decode (mB Y_B_click) 9 = .ok (.iload_n 2, 1) := by decide +kernel
theorem d_B_click_10 : decode (mB Y_B_click) 10 = .ok (.iconst 0, 1) := by decide +kernel
theorem d_B_click_11 : decode (mB Y_B_click) 11 = .ok (.ldc 251, 2) := by decide +kernel
theorem d_B_click_13 : decode (mB Y_B_click) 13 = .ok (.invokestatic 112, 3) := by decide +kernel
theorem d_B_click_16 : decode (mB Y_B_click) 16 = .ok (.ifCond .ne 5, 3) := by decide +kernel
theorem d_B_click_19 : decode (mB Y_B_click) 19 = .ok (.iconst (-1), 1) := by decide +kernel
theorem d_B_click_20 : decode (mB Y_B_click) 20 = .ok (.ireturn, 1) := by decide +kernel
theorem d_B_click_21 : decode (mB Y_B_click) 21 = .ok (.aload_n 0, 1) := by decide +kernel
theorem d_B_click_22 : decode (mB Y_B_click) 22 = .ok (.getfield 75, 3) := by decide +kernel
theorem d_B_click_25 : decode (mB Y_B_click) 25 = .ok (.iload_n 1, 1) := by decide +kernel
theorem d_B_click_26 : decode (mB Y_B_click) 26 = .ok (.aaload, 1) := by decide +kernel
theorem d_B_click_27 : decode (mB Y_B_click) 27 = .ok (.iload_n 2, 1) := by decide +kernel
theorem d_B_click_28 : decode (mB Y_B_click) 28 = .ok (.invokevirtual 267, 3) := by decide +kernel
theorem d_B_click_31 : decode (mB Y_B_click) 31 = .ok (.ireturn, 1) := by decide +kernel
theorem ro_B_click_B_within : roomy Y_B_click Y_B_within := ⟨Nat.le_of_ble_eq_true rfl, Nat.le_of_ble_eq_true rfl⟩
theorem ro_B_click_Tp_addClick : roomy Y_B_click Y_Tp_addClick := ⟨Nat.le_of_ble_eq_true rfl, Nat.le_of_ble_eq_true rfl⟩
def r_B_click (x1 : Int32) (x2 : Int32) (S : Sto) : Option (Int32 × Sto) :=
  if (r_B_within x1 0 3) = 0 then
    some ((-1), S)
  else
    if (r_B_within x2 0 199999) = 0 then
      some ((-1), S)
    else
      chk (inr x1 4) (
      ltN x1.toNatClampNeg (fun j1 =>
      (r_Tp_addClick (58 + 8 * j1) x2 S).bind (fun (r2, S3) =>
      some (r2, S3))))
set_option maxHeartbeats 4000000 in
set_option maxRecDepth 20000 in
theorem c_B_click {G : Gl} {L : Shp} (hL : Ext L) (S : Sto) (x1 : Int32) (x2 : Int32)  : Ct Y_B_click G [rf G 0, .int x1, .int x2] L S (fi L) (r_B_click x1 x2 S) := by
  refine ct_of (by decide +kernel) (Nat.le_of_ble_eq_true rfl) (fun g C => ?_)
  show VO g Y_B_click G (fun z => Qm g Y_B_click G (fi L z)) 0 0 0 [(0, rf G 0), (1, .int x1), (2, .int x2)] [] L S (r_B_click x1 x2 S) some
  unfold r_B_click
  refine v_iload_n (pc := 0) C d_B_click_0 rfl 1 rfl ?_
  refine v_iconst (pc := 1) C d_B_click_1 ic_0 ?_
  refine v_iconst (pc := 2) C d_B_click_2 ic_3 ?_
  refine v_ct (pc := 3) (inv_S (As := [.int x1, .int 0, .int 3]) (st := []) C ml_B_112 ms_B_within ro_B_click_B_within rfl rfl (Nat.le_of_ble_eq_true rfl) d_B_click_3) (c_B_within hL S x1 0 3) ⟨rfl, rfl⟩ ⟨Nat.zero_le _, Nat.zero_le _⟩ ?_
  refine v_if_eq (pc := 6) (tgt := 19) C d_B_click_6 rfl (fun _ => ?_) (fun _ => ?_)
  · refine v_iconst (pc := 19) C d_B_click_19 ic_m1 ?_
    exact v_iret (z := ((-1), S)) C d_B_click_20 rfl ⟨Nat.zero_le _, Nat.zero_le _⟩ (rfl) rfl
  · refine v_iload_n (pc := 9) C d_B_click_9 rfl 2 rfl ?_
    refine v_iconst (pc := 10) C d_B_click_10 ic_0 ?_
    refine v_ldc (pc := 11) C d_B_click_11 kc_B_251 ?_
    refine v_ct (pc := 13) (inv_S (As := [.int x2, .int 0, .int 199999]) (st := []) C ml_B_112 ms_B_within ro_B_click_B_within rfl rfl (Nat.le_of_ble_eq_true rfl) d_B_click_13) (c_B_within hL S x2 0 199999) ⟨rfl, rfl⟩ ⟨Nat.zero_le _, Nat.zero_le _⟩ ?_
    refine v_if_ne (pc := 16) (tgt := 21) C d_B_click_16 rfl (fun _ => ?_) (fun _ => ?_)
    · refine v_aload_n (pc := 21) C d_B_click_21 rfl 0 rfl ?_
      refine v_getR (pc := 22) C fl_B_75 (sh_0 hL) rfl d_B_click_22 ?_
      refine v_iload_n (pc := 25) C d_B_click_25 rfl 1 rfl ?_
      refine v_aald (pc := 26) (c0 := 58) (e := 8) C (sh_57 hL) rfl (by decide) d_B_click_26 (fun j1 hj1 => ?_)
      refine v_iload_n (pc := 27) C d_B_click_27 rfl 2 rfl ?_
      refine v_ci (pc := 28) (inv_V (As := [.int x2]) (st := []) C ml_B_267 mv_Tp_addClick ro_B_click_Tp_addClick (tape_at hL hj1).1 rfl rfl rfl rfl (Nat.le_of_ble_eq_true rfl) d_B_click_28) (c_Tp_addClick hL S (58 + 8 * j1) x2 (tape_at hL hj1)) ⟨rfl, rfl⟩ ⟨Nat.zero_le _, Nat.zero_le _⟩ (fun r2 S3 => ?_)
      exact v_iret (z := (r2, S3)) C d_B_click_31 rfl ⟨Nat.zero_le _, Nat.zero_le _⟩ (rfl) rfl
    · refine v_iconst (pc := 19) C d_B_click_19 ic_m1 ?_
      exact v_iret (z := ((-1), S)) C d_B_click_20 rfl ⟨Nat.zero_le _, Nat.zero_le _⟩ (rfl) rfl
-- B_isTold
theorem d_B_isTold_0 : decode (mB Y_B_isTold) 0 = .ok (.iload_n 1, 1) := by decide +kernel
theorem d_B_isTold_1 : decode (mB Y_B_isTold) 1 = .ok (.iconst 0, 1) := by decide +kernel
theorem d_B_isTold_2 : decode (mB Y_B_isTold) 2 = .ok (.bipush 9, 2) := by decide +kernel
theorem d_B_isTold_4 : decode (mB Y_B_isTold) 4 = .ok (.invokestatic 112, 3) := by decide +kernel
theorem d_B_isTold_7 : decode (mB Y_B_isTold) 7 = .ok (.ifCond .eq 17, 3) := by decide +kernel
theorem d_B_isTold_10 : decode (mB Y_B_isTold) 10 = .ok (.aload_n 0, 1) := by decide +kernel
theorem d_B_isTold_11 : decode (mB Y_B_isTold) 11 = .ok (.getfield 25, 3) := by decide +kernel
theorem d_B_isTold_14 : decode (mB Y_B_isTold) 14 = .ok (.iload_n 1, 1) := by decide +kernel
theorem d_B_isTold_15 : decode (mB Y_B_isTold) 15 = .ok (.iaload, 1) := by decide +kernel
theorem d_B_isTold_16 : decode (mB Y_B_isTold) 16 = .ok (.iconst (-1), 1) := by decide +kernel
theorem d_B_isTold_17 : decode (mB Y_B_isTold) 17 = .ok (.if_icmp .eq 7, 3) := by decide +kernel
theorem d_B_isTold_20 : decode (mB Y_B_isTold) 20 = .ok (.iconst 1, 1) := by decide +kernel
theorem d_B_isTold_21 : decode (mB Y_B_isTold) 21 = .ok (.goto 4, 3) := by decide +kernel
theorem d_B_isTold_24 : decode (mB Y_B_isTold) 24 = .ok (.iconst 0, 1) := by decide +kernel
theorem d_B_isTold_25 : decode (mB Y_B_isTold) 25 = .ok (.ireturn, 1) := by decide +kernel
theorem ro_B_isTold_B_within : roomy Y_B_isTold Y_B_within := ⟨Nat.le_of_ble_eq_true rfl, Nat.le_of_ble_eq_true rfl⟩
def r_B_isTold (x1 : Int32) (S : Sto) : Option Int32 :=
  if (r_B_within x1 0 9) = 0 then
    some 0
  else
    chk (inr x1 10) (
    if (S 17 x1.toNatClampNeg) = (-1) then
      some 0
    else
      some 1)
set_option maxHeartbeats 4000000 in
set_option maxRecDepth 20000 in
theorem c_B_isTold {G : Gl} {L : Shp} (hL : Ext L) (S : Sto) (x1 : Int32)  : Ct Y_B_isTold G [rf G 0, .int x1] L S (fp L S) (r_B_isTold x1 S) := by
  refine ct_of (by decide +kernel) (Nat.le_of_ble_eq_true rfl) (fun g C => ?_)
  show VO g Y_B_isTold G (fun z => Qm g Y_B_isTold G (fp L S z)) 0 0 0 [(0, rf G 0), (1, .int x1)] [] L S (r_B_isTold x1 S) some
  unfold r_B_isTold
  refine v_iload_n (pc := 0) C d_B_isTold_0 rfl 1 rfl ?_
  refine v_iconst (pc := 1) C d_B_isTold_1 ic_0 ?_
  refine v_bipush (pc := 2) C d_B_isTold_2 bp_9 ?_
  refine v_ct (pc := 4) (inv_S (As := [.int x1, .int 0, .int 9]) (st := []) C ml_B_112 ms_B_within ro_B_isTold_B_within rfl rfl (Nat.le_of_ble_eq_true rfl) d_B_isTold_4) (c_B_within hL S x1 0 9) ⟨rfl, rfl⟩ ⟨Nat.zero_le _, Nat.zero_le _⟩ ?_
  refine v_if_eq (pc := 7) (tgt := 24) C d_B_isTold_7 rfl (fun _ => ?_) (fun _ => ?_)
  · refine v_iconst (pc := 24) C d_B_isTold_24 ic_0 ?_
    exact v_zret (z := 0) C d_B_isTold_25 rfl (b01_n (by decide)) ⟨Nat.zero_le _, Nat.zero_le _⟩ (rfl) rfl
  · refine v_aload_n (pc := 10) C d_B_isTold_10 rfl 0 rfl ?_
    refine v_getR (pc := 11) C fl_B_25 (sh_0 hL) rfl d_B_isTold_11 ?_
    refine v_iload_n (pc := 14) C d_B_isTold_14 rfl 1 rfl ?_
    refine v_iald (pc := 15) C (sh_17 hL) d_B_isTold_15 (fun _ => ?_)
    refine v_iconst (pc := 16) C d_B_isTold_16 ic_m1 ?_
    refine v_icmp_eq (pc := 17) (tgt := 24) C d_B_isTold_17 rfl (fun _ => ?_) (fun _ => ?_)
    · refine v_iconst (pc := 24) C d_B_isTold_24 ic_0 ?_
      exact v_zret (z := 0) C d_B_isTold_25 rfl (b01_n (by decide)) ⟨Nat.zero_le _, Nat.zero_le _⟩ (rfl) rfl
    · refine v_iconst (pc := 20) C d_B_isTold_20 ic_1 ?_
      refine v_goto (pc := 21) (tgt := 25) C d_B_isTold_21 rfl ?_
      exact v_zret (z := 1) C d_B_isTold_25 rfl (b01_n (by decide)) ⟨Nat.zero_le _, Nat.zero_le _⟩ (rfl) rfl
-- B_canLay
theorem d_B_canLay_0 : decode (mB Y_B_canLay) 0 = .ok (.iload_n 1, 1) := by decide +kernel
theorem d_B_canLay_1 : decode (mB Y_B_canLay) 1 = .ok (.iconst 0, 1) := by decide +kernel
theorem d_B_canLay_2 : decode (mB Y_B_canLay) 2 = .ok (.iconst 3, 1) := by decide +kernel
theorem d_B_canLay_3 : decode (mB Y_B_canLay) 3 = .ok (.invokestatic 112, 3) := by decide +kernel
theorem d_B_canLay_6 : decode (mB Y_B_canLay) 6 = .ok (.ifCond .eq 40, 3) := by decide +kernel
theorem d_B_canLay_9 : decode (mB Y_B_canLay) 9 = .ok (.aload_n 0, 1) := by decide +kernel
theorem d_B_canLay_10 : decode (mB Y_B_canLay) 10 = .ok (.getfield 75, 3) := by decide +kernel
theorem d_B_canLay_13 : decode (mB Y_B_canLay) 13 = .ok (.iload_n 1, 1) := by decide +kernel
theorem d_B_canLay_14 : decode (mB Y_B_canLay) 14 = .ok (.aaload, 1) := by decide +kernel
theorem d_B_canLay_15 : decode (mB Y_B_canLay) 15 = .ok (.getfield 283, 3) := by decide +kernel
theorem d_B_canLay_18 : decode (mB Y_B_canLay) 18 = .ok (.ifCond .le 28, 3) := by decide +kernel
theorem d_B_canLay_21 : decode (mB Y_B_canLay) 21 = .ok (.aload_n 0, 1) := by decide +kernel
theorem d_B_canLay_22 : decode (mB Y_B_canLay) 22 = .ok (.iload_n 2, 1) := by decide +kernel
theorem d_B_canLay_23 : decode (mB Y_B_canLay) 23 = .ok (.invokevirtual 302, 3) := by decide +kernel
theorem d_B_canLay_26 : decode (mB Y_B_canLay) 26 = .ok (.ifCond .eq 20, 3) := by decide +kernel
theorem d_B_canLay_29 : decode (mB Y_B_canLay) 29 = .ok (.aload_n 0, 1) := by decide +kernel
theorem d_B_canLay_30 : decode (mB Y_B_canLay) 30 = .ok (.iload_n 3, 1) := by decide +kernel
theorem d_B_canLay_31 : decode (mB Y_B_canLay) 31 = .ok (.invokevirtual 302, 3) := by decide +kernel
theorem d_B_canLay_34 : decode (mB Y_B_canLay) 34 = .ok (.ifCond .eq 12, 3) := by decide +kernel
theorem d_B_canLay_37 : decode (mB Y_B_canLay) 37 = .ok (.iload_n 2, 1) := by decide +kernel
theorem d_B_canLay_38 : decode (mB Y_B_canLay) 38 = .ok (.iload_n 3, 1) := by decide +kernel
theorem d_B_canLay_39 : decode (mB Y_B_canLay) 39 = .ok (.if_icmp .eq 7, 3) := by decide +kernel
theorem d_B_canLay_42 : decode (mB Y_B_canLay) 42 = .ok (.iconst 1, 1) := by decide +kernel
theorem d_B_canLay_43 : decode (mB Y_B_canLay) 43 = .ok (.goto 4, 3) := by decide +kernel
theorem d_B_canLay_46 : decode (mB Y_B_canLay) 46 = .ok (.iconst 0, 1) := by decide +kernel
theorem d_B_canLay_47 : decode (mB Y_B_canLay) 47 = .ok (.ireturn, 1) := by decide +kernel
theorem ro_B_canLay_B_isTold : roomy Y_B_canLay Y_B_isTold := ⟨Nat.le_of_ble_eq_true rfl, Nat.le_of_ble_eq_true rfl⟩
theorem ro_B_canLay_B_within : roomy Y_B_canLay Y_B_within := ⟨Nat.le_of_ble_eq_true rfl, Nat.le_of_ble_eq_true rfl⟩
def r_B_canLay (x1 : Int32) (x2 : Int32) (x3 : Int32) (S : Sto) : Option Int32 :=
  if (r_B_within x1 0 3) = 0 then
    some 0
  else
    chk (inr x1 4) (
    ltN x1.toNatClampNeg (fun j1 =>
    if (S (58 + 8 * j1) 3) ≤ 0 then
      some 0
    else
      (r_B_isTold x2 S).bind (fun r2 =>
      if r2 = 0 then
        some 0
      else
        (r_B_isTold x3 S).bind (fun r3 =>
        if r3 = 0 then
          some 0
        else
          if x2 = x3 then
            some 0
          else
            some 1))))
set_option maxHeartbeats 4000000 in
set_option maxRecDepth 20000 in
theorem c_B_canLay {G : Gl} {L : Shp} (hL : Ext L) (S : Sto) (x1 : Int32) (x2 : Int32) (x3 : Int32)  : Ct Y_B_canLay G [rf G 0, .int x1, .int x2, .int x3] L S (fp L S) (r_B_canLay x1 x2 x3 S) := by
  refine ct_of (by decide +kernel) (Nat.le_of_ble_eq_true rfl) (fun g C => ?_)
  show VO g Y_B_canLay G (fun z => Qm g Y_B_canLay G (fp L S z)) 0 0 0 [(0, rf G 0), (1, .int x1), (2, .int x2), (3, .int x3)] [] L S (r_B_canLay x1 x2 x3 S) some
  unfold r_B_canLay
  refine v_iload_n (pc := 0) C d_B_canLay_0 rfl 1 rfl ?_
  refine v_iconst (pc := 1) C d_B_canLay_1 ic_0 ?_
  refine v_iconst (pc := 2) C d_B_canLay_2 ic_3 ?_
  refine v_ct (pc := 3) (inv_S (As := [.int x1, .int 0, .int 3]) (st := []) C ml_B_112 ms_B_within ro_B_canLay_B_within rfl rfl (Nat.le_of_ble_eq_true rfl) d_B_canLay_3) (c_B_within hL S x1 0 3) ⟨rfl, rfl⟩ ⟨Nat.zero_le _, Nat.zero_le _⟩ ?_
  refine v_if_eq (pc := 6) (tgt := 46) C d_B_canLay_6 rfl (fun _ => ?_) (fun _ => ?_)
  · refine v_iconst (pc := 46) C d_B_canLay_46 ic_0 ?_
    exact v_zret (z := 0) C d_B_canLay_47 rfl (b01_n (by decide)) ⟨Nat.zero_le _, Nat.zero_le _⟩ (rfl) rfl
  · refine v_aload_n (pc := 9) C d_B_canLay_9 rfl 0 rfl ?_
    refine v_getR (pc := 10) C fl_B_75 (sh_0 hL) rfl d_B_canLay_10 ?_
    refine v_iload_n (pc := 13) C d_B_canLay_13 rfl 1 rfl ?_
    refine v_aald (pc := 14) (c0 := 58) (e := 8) C (sh_57 hL) rfl (by decide) d_B_canLay_14 (fun j1 hj1 => ?_)
    refine v_getI (pc := 15) C fl_B_283 (tape_at hL hj1).1 rfl d_B_canLay_15 ?_
    refine v_if_le (pc := 18) (tgt := 46) C d_B_canLay_18 rfl (fun _ => ?_) (fun _ => ?_)
    · refine v_iconst (pc := 46) C d_B_canLay_46 ic_0 ?_
      exact v_zret (z := 0) C d_B_canLay_47 rfl (b01_n (by decide)) ⟨Nat.zero_le _, Nat.zero_le _⟩ (rfl) rfl
    · refine v_aload_n (pc := 21) C d_B_canLay_21 rfl 0 rfl ?_
      refine v_iload_n (pc := 22) C d_B_canLay_22 rfl 2 rfl ?_
      refine v_cp (pc := 23) (inv_V (As := [.int x2]) (st := []) C ml_B_302 mv_B_isTold ro_B_canLay_B_isTold (sh_0 hL) rfl rfl rfl rfl (Nat.le_of_ble_eq_true rfl) d_B_canLay_23) (c_B_isTold hL S x2) ⟨rfl, rfl⟩ ⟨Nat.zero_le _, Nat.zero_le _⟩ (fun r2 => ?_)
      refine v_if_eq (pc := 26) (tgt := 46) C d_B_canLay_26 rfl (fun _ => ?_) (fun _ => ?_)
      · refine v_iconst (pc := 46) C d_B_canLay_46 ic_0 ?_
        exact v_zret (z := 0) C d_B_canLay_47 rfl (b01_n (by decide)) ⟨Nat.zero_le _, Nat.zero_le _⟩ (rfl) rfl
      · refine v_aload_n (pc := 29) C d_B_canLay_29 rfl 0 rfl ?_
        refine v_iload_n (pc := 30) C d_B_canLay_30 rfl 3 rfl ?_
        refine v_cp (pc := 31) (inv_V (As := [.int x3]) (st := []) C ml_B_302 mv_B_isTold ro_B_canLay_B_isTold (sh_0 hL) rfl rfl rfl rfl (Nat.le_of_ble_eq_true rfl) d_B_canLay_31) (c_B_isTold hL S x3) ⟨rfl, rfl⟩ ⟨Nat.zero_le _, Nat.zero_le _⟩ (fun r3 => ?_)
        refine v_if_eq (pc := 34) (tgt := 46) C d_B_canLay_34 rfl (fun _ => ?_) (fun _ => ?_)
        · refine v_iconst (pc := 46) C d_B_canLay_46 ic_0 ?_
          exact v_zret (z := 0) C d_B_canLay_47 rfl (b01_n (by decide)) ⟨Nat.zero_le _, Nat.zero_le _⟩ (rfl) rfl
        · refine v_iload_n (pc := 37) C d_B_canLay_37 rfl 2 rfl ?_
          refine v_iload_n (pc := 38) C d_B_canLay_38 rfl 3 rfl ?_
          refine v_icmp_eq (pc := 39) (tgt := 46) C d_B_canLay_39 rfl (fun _ => ?_) (fun _ => ?_)
          · refine v_iconst (pc := 46) C d_B_canLay_46 ic_0 ?_
            exact v_zret (z := 0) C d_B_canLay_47 rfl (b01_n (by decide)) ⟨Nat.zero_le _, Nat.zero_le _⟩ (rfl) rfl
          · refine v_iconst (pc := 42) C d_B_canLay_42 ic_1 ?_
            refine v_goto (pc := 43) (tgt := 47) C d_B_canLay_43 rfl ?_
            exact v_zret (z := 1) C d_B_canLay_47 rfl (b01_n (by decide)) ⟨Nat.zero_le _, Nat.zero_le _⟩ (rfl) rfl
-- B_fits
theorem d_B_fits_0 : decode (mB Y_B_fits) 0 = .ok (.aload_n 0, 1) := by decide +kernel
theorem d_B_fits_1 : decode (mB Y_B_fits) 1 = .ok (.iload_n 1, 1) := by decide +kernel
theorem d_B_fits_2 : decode (mB Y_B_fits) 2 = .ok (.iload_n 2, 1) := by decide +kernel
theorem d_B_fits_3 : decode (mB Y_B_fits) 3 = .ok (.iload_n 3, 1) := by decide +kernel
theorem d_B_fits_4 : decode (mB Y_B_fits) 4 = .ok (.invokevirtual 270, 3) := by decide +kernel
theorem d_B_fits_7 : decode (mB Y_B_fits) 7 = .ok (.ifCond .ne 5, 3) := by decide +kernel
theorem d_B_fits_10 : decode (mB Y_B_fits) 10 = .ok (.iconst (-1), 1) := by decide +kernel
theorem d_B_fits_11 : decode (mB Y_B_fits) 11 = .ok (.ireturn, 1) := by decide +kernel
theorem d_B_fits_12 : decode (mB Y_B_fits) 12 = .ok (.aload_n 0, 1) := by decide +kernel
theorem d_B_fits_13 : decode (mB Y_B_fits) 13 = .ok (.getfield 75, 3) := by decide +kernel
theorem d_B_fits_16 : decode (mB Y_B_fits) 16 = .ok (.iload_n 1, 1) := by decide +kernel
theorem d_B_fits_17 : decode (mB Y_B_fits) 17 = .ok (.aaload, 1) := by decide +kernel
theorem d_B_fits_18 : decode (mB Y_B_fits) 18 = .ok (.iload_n 2, 1) := by decide +kernel
theorem d_B_fits_19 : decode (mB Y_B_fits) 19 = .ok (.iload_n 3, 1) := by decide +kernel
theorem d_B_fits_20 : decode (mB Y_B_fits) 20 = .ok (.aload_n 0, 1) := by decide +kernel
theorem d_B_fits_21 : decode (mB Y_B_fits) 21 = .ok (.getfield 82, 3) := by decide +kernel
theorem d_B_fits_24 : decode (mB Y_B_fits) 24 = .ok (.invokevirtual 273, 3) := by decide +kernel
theorem d_B_fits_27 : decode (mB Y_B_fits) 27 = .ok (.iload 4, 2) := by decide +kernel
theorem d_B_fits_29 : decode (mB Y_B_fits) 29 = .ok (.lookupswitch 47 #[(0, 27), (1, 37)], 27) := by decide +kernel
theorem d_B_fits_56 : decode (mB Y_B_fits) 56 = .ok (.aload_n 0, 1) := by decide +kernel
theorem d_B_fits_57 : decode (mB Y_B_fits) 57 = .ok (.getfield 75, 3) := by decide +kernel
theorem d_B_fits_60 : decode (mB Y_B_fits) 60 = .ok (.iload_n 1, 1) := by decide +kernel
theorem d_B_fits_61 : decode (mB Y_B_fits) 61 = .ok (.aaload, 1) := by decide +kernel
theorem d_B_fits_62 : decode (mB Y_B_fits) 62 = .ok (.getfield 277, 3) := by decide +kernel
theorem d_B_fits_65 : decode (mB Y_B_fits) 65 = .ok (.ireturn, 1) := by decide +kernel
theorem d_B_fits_66 : decode (mB Y_B_fits) 66 = .ok (.aload_n 0, 1) := by decide +kernel
theorem d_B_fits_67 : decode (mB Y_B_fits) 67 = .ok (.getfield 75, 3) := by decide +kernel
theorem d_B_fits_70 : decode (mB Y_B_fits) 70 = .ok (.iload_n 1, 1) := by decide +kernel
theorem d_B_fits_71 : decode (mB Y_B_fits) 71 = .ok (.aaload, 1) := by decide +kernel
theorem d_B_fits_72 : decode (mB Y_B_fits) 72 = .ok (.getfield 280, 3) := by decide +kernel
theorem d_B_fits_75 : decode (mB Y_B_fits) 75 = .ok (.ireturn, 1) := by decide +kernel
theorem d_B_fits_76 : decode (mB Y_B_fits) 76 = .ok (.iconst (-1), 1) := by decide +kernel
theorem d_B_fits_77 : decode (mB Y_B_fits) 77 = .ok (.ireturn, 1) := by decide +kernel
theorem ro_B_fits_B_canLay : roomy Y_B_fits Y_B_canLay := ⟨Nat.le_of_ble_eq_true rfl, Nat.le_of_ble_eq_true rfl⟩
theorem ro_B_fits_Tp_lay : roomy Y_B_fits Y_Tp_lay := ⟨Nat.le_of_ble_eq_true rfl, Nat.le_of_ble_eq_true rfl⟩
def r_B_fits (x1 : Int32) (x2 : Int32) (x3 : Int32) (x4 : Int32) (S : Sto) : Option (Int32 × Sto) :=
  (r_B_canLay x1 x2 x3 S).bind (fun r1 =>
  if r1 = 0 then
    some ((-1), S)
  else
    chk (inr x1 4) (
    ltN x1.toNatClampNeg (fun j2 =>
    (r_Tp_lay (58 + 8 * j2) x2 x3 (S 0 11) S).bind (fun S3 =>
    if x4 = 0 then
      chk (inr x1 4) (
      ltN x1.toNatClampNeg (fun j5 =>
      some (S3 (58 + 8 * j5) 7, S3)))
    else
      if x4 = 1 then
        chk (inr x1 4) (
        ltN x1.toNatClampNeg (fun j7 =>
        some (S3 (58 + 8 * j7) 8, S3)))
      else
        some ((-1), S3)))))
set_option maxHeartbeats 4000000 in
set_option maxRecDepth 20000 in
theorem c_B_fits {G : Gl} {L : Shp} (hL : Ext L) (S : Sto) (x1 : Int32) (x2 : Int32) (x3 : Int32) (x4 : Int32)  : Ct Y_B_fits G [rf G 0, .int x1, .int x2, .int x3, .int x4] L S (fi L) (r_B_fits x1 x2 x3 x4 S) := by
  refine ct_of (by decide +kernel) (Nat.le_of_ble_eq_true rfl) (fun g C => ?_)
  show VO g Y_B_fits G (fun z => Qm g Y_B_fits G (fi L z)) 0 0 0 [(0, rf G 0), (1, .int x1), (2, .int x2), (3, .int x3), (4, .int x4)] [] L S (r_B_fits x1 x2 x3 x4 S) some
  unfold r_B_fits
  refine v_aload_n (pc := 0) C d_B_fits_0 rfl 0 rfl ?_
  refine v_iload_n (pc := 1) C d_B_fits_1 rfl 1 rfl ?_
  refine v_iload_n (pc := 2) C d_B_fits_2 rfl 2 rfl ?_
  refine v_iload_n (pc := 3) C d_B_fits_3 rfl 3 rfl ?_
  refine v_cp (pc := 4) (inv_V (As := [.int x1, .int x2, .int x3]) (st := []) C ml_B_270 mv_B_canLay ro_B_fits_B_canLay (sh_0 hL) rfl rfl rfl rfl (Nat.le_of_ble_eq_true rfl) d_B_fits_4) (c_B_canLay hL S x1 x2 x3) ⟨rfl, rfl⟩ ⟨Nat.zero_le _, Nat.zero_le _⟩ (fun r1 => ?_)
  refine v_if_ne (pc := 7) (tgt := 12) C d_B_fits_7 rfl (fun _ => ?_) (fun _ => ?_)
  · refine v_aload_n (pc := 12) C d_B_fits_12 rfl 0 rfl ?_
    refine v_getR (pc := 13) C fl_B_75 (sh_0 hL) rfl d_B_fits_13 ?_
    refine v_iload_n (pc := 16) C d_B_fits_16 rfl 1 rfl ?_
    refine v_aald (pc := 17) (c0 := 58) (e := 8) C (sh_57 hL) rfl (by decide) d_B_fits_17 (fun j2 hj2 => ?_)
    refine v_iload_n (pc := 18) C d_B_fits_18 rfl 2 rfl ?_
    refine v_iload_n (pc := 19) C d_B_fits_19 rfl 3 rfl ?_
    refine v_aload_n (pc := 20) C d_B_fits_20 rfl 0 rfl ?_
    refine v_getI (pc := 21) C fl_B_82 (sh_0 hL) rfl d_B_fits_21 ?_
    refine v_cv (pc := 24) (inv_V (As := [.int x2, .int x3, .int (S 0 11)]) (st := []) C ml_B_273 mv_Tp_lay ro_B_fits_Tp_lay (tape_at hL hj2).1 rfl rfl rfl rfl (Nat.le_of_ble_eq_true rfl) d_B_fits_24) (c_Tp_lay hL S (58 + 8 * j2) x2 x3 (S 0 11) (tape_at hL hj2)) ⟨rfl, rfl⟩ ⟨Nat.zero_le _, Nat.zero_le _⟩ (fun S3 => ?_)
    refine v_iload (pc := 27) C d_B_fits_27 4 rfl ?_
    refine v_case (x := x4) (c := 0) (fun hc4 => ?_) (fun hc4 => ?_)
    · refine v_lookup (pc := 29) (tgt := 56) C d_B_fits_29 (by decide) (by rw [hc4] <;> rfl) rfl ?_
      refine v_aload_n (pc := 56) C d_B_fits_56 rfl 0 rfl ?_
      refine v_getR (pc := 57) C fl_B_75 (sh_0 hL) rfl d_B_fits_57 ?_
      refine v_iload_n (pc := 60) C d_B_fits_60 rfl 1 rfl ?_
      refine v_aald (pc := 61) (c0 := 58) (e := 8) C (sh_57 hL) rfl (by decide) d_B_fits_61 (fun j5 hj5 => ?_)
      refine v_getI (pc := 62) C fl_B_277 (tape_at hL hj5).1 rfl d_B_fits_62 ?_
      exact v_iret (z := (S3 (58 + 8 * j5) 7, S3)) C d_B_fits_65 rfl ⟨Nat.zero_le _, Nat.zero_le _⟩ (rfl) rfl
    · refine v_case (x := x4) (c := 1) (fun hc6 => ?_) (fun hc6 => ?_)
      · refine v_lookup (pc := 29) (tgt := 66) C d_B_fits_29 (by decide) (by rw [hc6] <;> rfl) rfl ?_
        refine v_aload_n (pc := 66) C d_B_fits_66 rfl 0 rfl ?_
        refine v_getR (pc := 67) C fl_B_75 (sh_0 hL) rfl d_B_fits_67 ?_
        refine v_iload_n (pc := 70) C d_B_fits_70 rfl 1 rfl ?_
        refine v_aald (pc := 71) (c0 := 58) (e := 8) C (sh_57 hL) rfl (by decide) d_B_fits_71 (fun j7 hj7 => ?_)
        refine v_getI (pc := 72) C fl_B_280 (tape_at hL hj7).1 rfl d_B_fits_72 ?_
        exact v_iret (z := (S3 (58 + 8 * j7) 8, S3)) C d_B_fits_75 rfl ⟨Nat.zero_le _, Nat.zero_le _⟩ (rfl) rfl
      · refine v_lookup (pc := 29) (tgt := 76) C d_B_fits_29 (by decide) (by show Op.lookupswitch.offset [(0, 27), (1, 37)] _ _ = _; rw [lv_osw hc4 (by decide), lv_osw hc6 (by decide)] <;> rfl) rfl ?_
        refine v_iconst (pc := 76) C d_B_fits_76 ic_m1 ?_
        exact v_iret (z := ((-1), S3)) C d_B_fits_77 rfl ⟨Nat.zero_le _, Nat.zero_le _⟩ (rfl) rfl
  · refine v_iconst (pc := 10) C d_B_fits_10 ic_m1 ?_
    exact v_iret (z := ((-1), S)) C d_B_fits_11 rfl ⟨Nat.zero_le _, Nat.zero_le _⟩ (rfl) rfl
-- B_couple
theorem d_B_couple_0 : decode (mB Y_B_couple) 0 = .ok (.iload_n 1, 1) := by decide +kernel
theorem d_B_couple_1 : decode (mB Y_B_couple) 1 = .ok (.iconst 0, 1) := by decide +kernel
theorem d_B_couple_2 : decode (mB Y_B_couple) 2 = .ok (.iconst 3, 1) := by decide +kernel
theorem d_B_couple_3 : decode (mB Y_B_couple) 3 = .ok (.invokestatic 112, 3) := by decide +kernel
theorem d_B_couple_6 : decode (mB Y_B_couple) 6 = .ok (.ifCond .eq 15, 3) := by decide +kernel
theorem d_B_couple_9 : decode (mB Y_B_couple) 9 = .ok (.aload_n 0, 1) := by decide +kernel
theorem d_B_couple_10 : decode (mB Y_B_couple) 10 = .ok (.getfield 75, 3) := by decide +kernel
theorem d_B_couple_13 : decode (mB Y_B_couple) 13 = .ok (.iload_n 1, 1) := by decide +kernel
theorem d_B_couple_14 : decode (mB Y_B_couple) 14 = .ok (.aaload, 1) := by decide +kernel
theorem d_B_couple_15 : decode (mB Y_B_couple) 15 = .ok (.getfield 283, 3) := by decide +kernel
theorem d_B_couple_18 : decode (mB Y_B_couple) 18 = .ok (.ifCond .ne 5, 3) := by decide +kernel
theorem d_B_couple_21 : decode (mB Y_B_couple) 21 = .ok (.iconst (-1), 1) := by decide +kernel
theorem d_B_couple_22 : decode (mB Y_B_couple) 22 = .ok (.ireturn, 1) := by decide +kernel
theorem d_B_couple_23 : decode (mB Y_B_couple) 23 = .ok (.aload_n 0, 1) := by decide +kernel
theorem d_B_couple_24 : decode (mB Y_B_couple) 24 = .ok (.getfield 75, 3) := by decide +kernel
theorem d_B_couple_27 : decode (mB Y_B_couple) 27 = .ok (.iload_n 1, 1) := by decide +kernel
theorem d_B_couple_28 : decode (mB Y_B_couple) 28 = .ok (.aaload, 1) := by decide +kernel
theorem d_B_couple_29 : decode (mB Y_B_couple) 29 = .ok (.aload_n 0, 1) := by decide +kernel
theorem d_B_couple_30 : decode (mB Y_B_couple) 30 = .ok (.getfield 82, 3) := by decide +kernel
theorem d_B_couple_33 : decode (mB Y_B_couple) 33 = .ok (.invokevirtual 286, 3) := by decide +kernel
theorem d_B_couple_36 : decode (mB Y_B_couple) 36 = .ok (.aload_n 0, 1) := by decide +kernel
theorem d_B_couple_37 : decode (mB Y_B_couple) 37 = .ok (.getfield 75, 3) := by decide +kernel
theorem d_B_couple_40 : decode (mB Y_B_couple) 40 = .ok (.iload_n 1, 1) := by decide +kernel
theorem d_B_couple_41 : decode (mB Y_B_couple) 41 = .ok (.aaload, 1) := by decide +kernel
theorem d_B_couple_42 : decode (mB Y_B_couple) 42 = .ok (.getfield 289, 3) := by decide +kernel
theorem d_B_couple_45 : decode (mB Y_B_couple) 45 = .ok (.iconst (-1), 1) := by decide +kernel
theorem d_B_couple_46 : decode (mB Y_B_couple) 46 = .ok (.if_icmp .ne 5, 3) := by decide +kernel
theorem d_B_couple_49 : decode (mB Y_B_couple) 49 = .ok (.iconst (-1), 1) := by decide +kernel
theorem d_B_couple_50 : decode (mB Y_B_couple) 50 = .ok (.ireturn, 1) := by decide +kernel
theorem d_B_couple_51 : decode (mB Y_B_couple) 51 = .ok (.iload_n 2, 1) := by decide +kernel
theorem d_B_couple_52 : decode (mB Y_B_couple) 52 = .ok (.tableswitch 58 0 2 #[28, 38, 48], 28) := by decide +kernel
theorem d_B_couple_80 : decode (mB Y_B_couple) 80 = .ok (.aload_n 0, 1) := by decide +kernel
theorem d_B_couple_81 : decode (mB Y_B_couple) 81 = .ok (.getfield 75, 3) := by decide +kernel
theorem d_B_couple_84 : decode (mB Y_B_couple) 84 = .ok (.iload_n 1, 1) := by decide +kernel
theorem d_B_couple_85 : decode (mB Y_B_couple) 85 = .ok (.aaload, 1) := by decide +kernel
theorem d_B_couple_86 : decode (mB Y_B_couple) 86 = .ok (.getfield 289, 3) := by decide +kernel
theorem d_B_couple_89 : decode (mB Y_B_couple) 89 = .ok (.ireturn, 1) := by decide +kernel
theorem d_B_couple_90 : decode (mB Y_B_couple) 90 = .ok (.aload_n 0, 1) := by decide +kernel
theorem d_B_couple_91 : decode (mB Y_B_couple) 91 = .ok (.getfield 75, 3) := by decide +kernel
theorem d_B_couple_94 : decode (mB Y_B_couple) 94 = .ok (.iload_n 1, 1) := by decide +kernel
theorem d_B_couple_95 : decode (mB Y_B_couple) 95 = .ok (.aaload, 1) := by decide +kernel
theorem d_B_couple_96 : decode (mB Y_B_couple) 96 = .ok (.getfield 292, 3) := by decide +kernel
theorem d_B_couple_99 : decode (mB Y_B_couple) 99 = .ok (.ireturn, 1) := by decide +kernel
theorem d_B_couple_100 : decode (mB Y_B_couple) 100 = .ok (.aload_n 0, 1) := by decide +kernel
theorem d_B_couple_101 : decode (mB Y_B_couple) 101 = .ok (.getfield 75, 3) := by decide +kernel
theorem d_B_couple_104 : decode (mB Y_B_couple) 104 = .ok (.iload_n 1, 1) := by decide +kernel
theorem d_B_couple_105 : decode (mB Y_B_couple) 105 = .ok (.aaload, 1) := by decide +kernel
theorem d_B_couple_106 : decode (mB Y_B_couple) 106 = .ok (.getfield 295, 3) := by decide +kernel
theorem d_B_couple_109 : decode (mB Y_B_couple) 109 = .ok (.ireturn, 1) := by decide +kernel
theorem d_B_couple_110 : decode (mB Y_B_couple) 110 = .ok (.iconst (-1), 1) := by decide +kernel
theorem d_B_couple_111 : decode (mB Y_B_couple) 111 = .ok (.ireturn, 1) := by decide +kernel
theorem ro_B_couple_B_within : roomy Y_B_couple Y_B_within := ⟨Nat.le_of_ble_eq_true rfl, Nat.le_of_ble_eq_true rfl⟩
theorem ro_B_couple_Tp_searchCouple : roomy Y_B_couple Y_Tp_searchCouple := ⟨Nat.le_of_ble_eq_true rfl, Nat.le_of_ble_eq_true rfl⟩
def r_B_couple (x1 : Int32) (x2 : Int32) (S : Sto) : Option (Int32 × Sto) :=
  if (r_B_within x1 0 3) = 0 then
    some ((-1), S)
  else
    chk (inr x1 4) (
    ltN x1.toNatClampNeg (fun j1 =>
    if (S (58 + 8 * j1) 3) = 0 then
      some ((-1), S)
    else
      chk (inr x1 4) (
      ltN x1.toNatClampNeg (fun j2 =>
      (r_Tp_searchCouple (58 + 8 * j2) (S 0 11) S).bind (fun S3 =>
      chk (inr x1 4) (
      ltN x1.toNatClampNeg (fun j4 =>
      if (S3 (58 + 8 * j4) 9) = (-1) then
        some ((-1), S3)
      else
        if x2 = 0 then
          chk (inr x1 4) (
          ltN x1.toNatClampNeg (fun j6 =>
          some (S3 (58 + 8 * j6) 9, S3)))
        else
          if x2 = 1 then
            chk (inr x1 4) (
            ltN x1.toNatClampNeg (fun j8 =>
            some (S3 (58 + 8 * j8) 10, S3)))
          else
            if x2 = 2 then
              chk (inr x1 4) (
              ltN x1.toNatClampNeg (fun j10 =>
              some (S3 (58 + 8 * j10) 11, S3)))
            else
              some ((-1), S3))))))))
set_option maxHeartbeats 4000000 in
set_option maxRecDepth 20000 in
theorem c_B_couple {G : Gl} {L : Shp} (hL : Ext L) (S : Sto) (x1 : Int32) (x2 : Int32)  : Ct Y_B_couple G [rf G 0, .int x1, .int x2] L S (fi L) (r_B_couple x1 x2 S) := by
  refine ct_of (by decide +kernel) (Nat.le_of_ble_eq_true rfl) (fun g C => ?_)
  show VO g Y_B_couple G (fun z => Qm g Y_B_couple G (fi L z)) 0 0 0 [(0, rf G 0), (1, .int x1), (2, .int x2)] [] L S (r_B_couple x1 x2 S) some
  unfold r_B_couple
  refine v_iload_n (pc := 0) C d_B_couple_0 rfl 1 rfl ?_
  refine v_iconst (pc := 1) C d_B_couple_1 ic_0 ?_
  refine v_iconst (pc := 2) C d_B_couple_2 ic_3 ?_
  refine v_ct (pc := 3) (inv_S (As := [.int x1, .int 0, .int 3]) (st := []) C ml_B_112 ms_B_within ro_B_couple_B_within rfl rfl (Nat.le_of_ble_eq_true rfl) d_B_couple_3) (c_B_within hL S x1 0 3) ⟨rfl, rfl⟩ ⟨Nat.zero_le _, Nat.zero_le _⟩ ?_
  refine v_if_eq (pc := 6) (tgt := 21) C d_B_couple_6 rfl (fun _ => ?_) (fun _ => ?_)
  · refine v_iconst (pc := 21) C d_B_couple_21 ic_m1 ?_
    exact v_iret (z := ((-1), S)) C d_B_couple_22 rfl ⟨Nat.zero_le _, Nat.zero_le _⟩ (rfl) rfl
  · refine v_aload_n (pc := 9) C d_B_couple_9 rfl 0 rfl ?_
    refine v_getR (pc := 10) C fl_B_75 (sh_0 hL) rfl d_B_couple_10 ?_
    refine v_iload_n (pc := 13) C d_B_couple_13 rfl 1 rfl ?_
    refine v_aald (pc := 14) (c0 := 58) (e := 8) C (sh_57 hL) rfl (by decide) d_B_couple_14 (fun j1 hj1 => ?_)
    refine v_getI (pc := 15) C fl_B_283 (tape_at hL hj1).1 rfl d_B_couple_15 ?_
    refine v_if_ne (pc := 18) (tgt := 23) C d_B_couple_18 rfl (fun _ => ?_) (fun _ => ?_)
    · refine v_aload_n (pc := 23) C d_B_couple_23 rfl 0 rfl ?_
      refine v_getR (pc := 24) C fl_B_75 (sh_0 hL) rfl d_B_couple_24 ?_
      refine v_iload_n (pc := 27) C d_B_couple_27 rfl 1 rfl ?_
      refine v_aald (pc := 28) (c0 := 58) (e := 8) C (sh_57 hL) rfl (by decide) d_B_couple_28 (fun j2 hj2 => ?_)
      refine v_aload_n (pc := 29) C d_B_couple_29 rfl 0 rfl ?_
      refine v_getI (pc := 30) C fl_B_82 (sh_0 hL) rfl d_B_couple_30 ?_
      refine v_cv (pc := 33) (inv_V (As := [.int (S 0 11)]) (st := []) C ml_B_286 mv_Tp_searchCouple ro_B_couple_Tp_searchCouple (tape_at hL hj2).1 rfl rfl rfl rfl (Nat.le_of_ble_eq_true rfl) d_B_couple_33) (c_Tp_searchCouple hL S (58 + 8 * j2) (S 0 11) (tape_at hL hj2)) ⟨rfl, rfl⟩ ⟨Nat.zero_le _, Nat.zero_le _⟩ (fun S3 => ?_)
      refine v_aload_n (pc := 36) C d_B_couple_36 rfl 0 rfl ?_
      refine v_getR (pc := 37) C fl_B_75 (sh_0 hL) rfl d_B_couple_37 ?_
      refine v_iload_n (pc := 40) C d_B_couple_40 rfl 1 rfl ?_
      refine v_aald (pc := 41) (c0 := 58) (e := 8) C (sh_57 hL) rfl (by decide) d_B_couple_41 (fun j4 hj4 => ?_)
      refine v_getI (pc := 42) C fl_B_289 (tape_at hL hj4).1 rfl d_B_couple_42 ?_
      refine v_iconst (pc := 45) C d_B_couple_45 ic_m1 ?_
      refine v_icmp_ne (pc := 46) (tgt := 51) C d_B_couple_46 rfl (fun _ => ?_) (fun _ => ?_)
      · refine v_iload_n (pc := 51) C d_B_couple_51 rfl 2 rfl ?_
        refine v_case (x := x2) (c := 0) (fun hc5 => ?_) (fun hc5 => ?_)
        · refine v_tableIn (pc := 52) (tgt := 80) C d_B_couple_52 (by rw [hc5]; decide) (by rw [hc5]; decide) (by rw [hc5] <;> rfl) rfl ?_
          refine v_aload_n (pc := 80) C d_B_couple_80 rfl 0 rfl ?_
          refine v_getR (pc := 81) C fl_B_75 (sh_0 hL) rfl d_B_couple_81 ?_
          refine v_iload_n (pc := 84) C d_B_couple_84 rfl 1 rfl ?_
          refine v_aald (pc := 85) (c0 := 58) (e := 8) C (sh_57 hL) rfl (by decide) d_B_couple_85 (fun j6 hj6 => ?_)
          refine v_getI (pc := 86) C fl_B_289 (tape_at hL hj6).1 rfl d_B_couple_86 ?_
          exact v_iret (z := (S3 (58 + 8 * j6) 9, S3)) C d_B_couple_89 rfl ⟨Nat.zero_le _, Nat.zero_le _⟩ (rfl) rfl
        · refine v_case (x := x2) (c := 1) (fun hc7 => ?_) (fun hc7 => ?_)
          · refine v_tableIn (pc := 52) (tgt := 90) C d_B_couple_52 (by rw [hc7]; decide) (by rw [hc7]; decide) (by rw [hc7] <;> rfl) rfl ?_
            refine v_aload_n (pc := 90) C d_B_couple_90 rfl 0 rfl ?_
            refine v_getR (pc := 91) C fl_B_75 (sh_0 hL) rfl d_B_couple_91 ?_
            refine v_iload_n (pc := 94) C d_B_couple_94 rfl 1 rfl ?_
            refine v_aald (pc := 95) (c0 := 58) (e := 8) C (sh_57 hL) rfl (by decide) d_B_couple_95 (fun j8 hj8 => ?_)
            refine v_getI (pc := 96) C fl_B_292 (tape_at hL hj8).1 rfl d_B_couple_96 ?_
            exact v_iret (z := (S3 (58 + 8 * j8) 10, S3)) C d_B_couple_99 rfl ⟨Nat.zero_le _, Nat.zero_le _⟩ (rfl) rfl
          · refine v_case (x := x2) (c := 2) (fun hc9 => ?_) (fun hc9 => ?_)
            · refine v_tableIn (pc := 52) (tgt := 100) C d_B_couple_52 (by rw [hc9]; decide) (by rw [hc9]; decide) (by rw [hc9] <;> rfl) rfl ?_
              refine v_aload_n (pc := 100) C d_B_couple_100 rfl 0 rfl ?_
              refine v_getR (pc := 101) C fl_B_75 (sh_0 hL) rfl d_B_couple_101 ?_
              refine v_iload_n (pc := 104) C d_B_couple_104 rfl 1 rfl ?_
              refine v_aald (pc := 105) (c0 := 58) (e := 8) C (sh_57 hL) rfl (by decide) d_B_couple_105 (fun j10 hj10 => ?_)
              refine v_getI (pc := 106) C fl_B_295 (tape_at hL hj10).1 rfl d_B_couple_106 ?_
              exact v_iret (z := (S3 (58 + 8 * j10) 11, S3)) C d_B_couple_109 rfl ⟨Nat.zero_le _, Nat.zero_le _⟩ (rfl) rfl
            · refine v_tableOut (pc := 52) (tgt := 110) C d_B_couple_52 (by have q0 := lv_neT (a := 0) hc5 (by decide); have q1 := lv_neT (a := 1) hc7 (by decide); have q2 := lv_neT (a := 2) hc9 (by decide); omega) rfl ?_
              refine v_iconst (pc := 110) C d_B_couple_110 ic_m1 ?_
              exact v_iret (z := ((-1), S3)) C d_B_couple_111 rfl ⟨Nat.zero_le _, Nat.zero_le _⟩ (rfl) rfl
      · refine v_iconst (pc := 49) C d_B_couple_49 ic_m1 ?_
        exact v_iret (z := ((-1), S3)) C d_B_couple_50 rfl ⟨Nat.zero_le _, Nat.zero_le _⟩ (rfl) rfl
    · refine v_iconst (pc := 21) C d_B_couple_21 ic_m1 ?_
      exact v_iret (z := ((-1), S)) C d_B_couple_22 rfl ⟨Nat.zero_le _, Nat.zero_le _⟩ (rfl) rfl
-- B_must
theorem d_B_must_0 : decode (mB Y_B_must) 0 = .ok (.aload_n 0, 1) := by decide +kernel
theorem d_B_must_1 : decode (mB Y_B_must) 1 = .ok (.iload_n 1, 1) := by decide +kernel
theorem d_B_must_2 : decode (mB Y_B_must) 2 = .ok (.iload_n 2, 1) := by decide +kernel
theorem d_B_must_3 : decode (mB Y_B_must) 3 = .ok (.iload_n 3, 1) := by decide +kernel
theorem d_B_must_4 : decode (mB Y_B_must) 4 = .ok (.invokevirtual 270, 3) := by decide +kernel
theorem d_B_must_7 : decode (mB Y_B_must) 7 = .ok (.ifCond .ne 5, 3) := by decide +kernel
theorem d_B_must_10 : decode (mB Y_B_must) 10 = .ok (.iconst (-1), 1) := by decide +kernel
theorem d_B_must_11 : decode (mB Y_B_must) 11 = .ok (.ireturn, 1) := by decide +kernel
theorem d_B_must_12 : decode (mB Y_B_must) 12 = .ok (.aload_n 0, 1) := by decide +kernel
theorem d_B_must_13 : decode (mB Y_B_must) 13 = .ok (.getfield 75, 3) := by decide +kernel
theorem d_B_must_16 : decode (mB Y_B_must) 16 = .ok (.iload_n 1, 1) := by decide +kernel
theorem d_B_must_17 : decode (mB Y_B_must) 17 = .ok (.aaload, 1) := by decide +kernel
theorem d_B_must_18 : decode (mB Y_B_must) 18 = .ok (.iload_n 2, 1) := by decide +kernel
theorem d_B_must_19 : decode (mB Y_B_must) 19 = .ok (.iload_n 3, 1) := by decide +kernel
theorem d_B_must_20 : decode (mB Y_B_must) 20 = .ok (.aload_n 0, 1) := by decide +kernel
theorem d_B_must_21 : decode (mB Y_B_must) 21 = .ok (.getfield 82, 3) := by decide +kernel
theorem d_B_must_24 : decode (mB Y_B_must) 24 = .ok (.aload_n 0, 1) := by decide +kernel
theorem d_B_must_25 : decode (mB Y_B_must) 25 = .ok (.getfield 12, 3) := by decide +kernel
theorem d_B_must_28 : decode (mB Y_B_must) 28 = .ok (.getfield 143, 3) := by decide +kernel
theorem d_B_must_31 : decode (mB Y_B_must) 31 = .ok (.invokevirtual 298, 3) := by decide +kernel
theorem d_B_must_34 : decode (mB Y_B_must) 34 = .ok (.ireturn, 1) := by decide +kernel
theorem ro_B_must_B_canLay : roomy Y_B_must Y_B_canLay := ⟨Nat.le_of_ble_eq_true rfl, Nat.le_of_ble_eq_true rfl⟩
theorem ro_B_must_Tp_fewestWalls : roomy Y_B_must Y_Tp_fewestWalls := ⟨Nat.le_of_ble_eq_true rfl, Nat.le_of_ble_eq_true rfl⟩
def r_B_must (x1 : Int32) (x2 : Int32) (x3 : Int32) (S : Sto) : Option (Int32 × Sto) :=
  (r_B_canLay x1 x2 x3 S).bind (fun r1 =>
  if r1 = 0 then
    some ((-1), S)
  else
    chk (inr x1 4) (
    ltN x1.toNatClampNeg (fun j2 =>
    (r_Tp_fewestWalls (58 + 8 * j2) x2 x3 (S 0 11) (S 1 4) S).bind (fun (r3, S4) =>
    some (r3, S4)))))
set_option maxHeartbeats 4000000 in
set_option maxRecDepth 20000 in
theorem c_B_must {G : Gl} {L : Shp} (hL : Ext L) (S : Sto) (x1 : Int32) (x2 : Int32) (x3 : Int32)  : Ct Y_B_must G [rf G 0, .int x1, .int x2, .int x3] L S (fi L) (r_B_must x1 x2 x3 S) := by
  refine ct_of (by decide +kernel) (Nat.le_of_ble_eq_true rfl) (fun g C => ?_)
  show VO g Y_B_must G (fun z => Qm g Y_B_must G (fi L z)) 0 0 0 [(0, rf G 0), (1, .int x1), (2, .int x2), (3, .int x3)] [] L S (r_B_must x1 x2 x3 S) some
  unfold r_B_must
  refine v_aload_n (pc := 0) C d_B_must_0 rfl 0 rfl ?_
  refine v_iload_n (pc := 1) C d_B_must_1 rfl 1 rfl ?_
  refine v_iload_n (pc := 2) C d_B_must_2 rfl 2 rfl ?_
  refine v_iload_n (pc := 3) C d_B_must_3 rfl 3 rfl ?_
  refine v_cp (pc := 4) (inv_V (As := [.int x1, .int x2, .int x3]) (st := []) C ml_B_270 mv_B_canLay ro_B_must_B_canLay (sh_0 hL) rfl rfl rfl rfl (Nat.le_of_ble_eq_true rfl) d_B_must_4) (c_B_canLay hL S x1 x2 x3) ⟨rfl, rfl⟩ ⟨Nat.zero_le _, Nat.zero_le _⟩ (fun r1 => ?_)
  refine v_if_ne (pc := 7) (tgt := 12) C d_B_must_7 rfl (fun _ => ?_) (fun _ => ?_)
  · refine v_aload_n (pc := 12) C d_B_must_12 rfl 0 rfl ?_
    refine v_getR (pc := 13) C fl_B_75 (sh_0 hL) rfl d_B_must_13 ?_
    refine v_iload_n (pc := 16) C d_B_must_16 rfl 1 rfl ?_
    refine v_aald (pc := 17) (c0 := 58) (e := 8) C (sh_57 hL) rfl (by decide) d_B_must_17 (fun j2 hj2 => ?_)
    refine v_iload_n (pc := 18) C d_B_must_18 rfl 2 rfl ?_
    refine v_iload_n (pc := 19) C d_B_must_19 rfl 3 rfl ?_
    refine v_aload_n (pc := 20) C d_B_must_20 rfl 0 rfl ?_
    refine v_getI (pc := 21) C fl_B_82 (sh_0 hL) rfl d_B_must_21 ?_
    refine v_aload_n (pc := 24) C d_B_must_24 rfl 0 rfl ?_
    refine v_getR (pc := 25) C fl_B_12 (sh_0 hL) rfl d_B_must_25 ?_
    refine v_getI (pc := 28) C fl_B_143 (sh_1 hL) rfl d_B_must_28 ?_
    refine v_ci (pc := 31) (inv_V (As := [.int x2, .int x3, .int (S 0 11), .int (S 1 4)]) (st := []) C ml_B_298 mv_Tp_fewestWalls ro_B_must_Tp_fewestWalls (tape_at hL hj2).1 rfl rfl rfl rfl (Nat.le_of_ble_eq_true rfl) d_B_must_31) (c_Tp_fewestWalls hL S (58 + 8 * j2) x2 x3 (S 0 11) (S 1 4) (tape_at hL hj2)) ⟨rfl, rfl⟩ ⟨Nat.zero_le _, Nat.zero_le _⟩ (fun r3 S4 => ?_)
    exact v_iret (z := (r3, S4)) C d_B_must_34 rfl ⟨Nat.zero_le _, Nat.zero_le _⟩ (rfl) rfl
  · refine v_iconst (pc := 10) C d_B_must_10 ic_m1 ?_
    exact v_iret (z := ((-1), S)) C d_B_must_11 rfl ⟨Nat.zero_le _, Nat.zero_le _⟩ (rfl) rfl
-- B_voice
theorem d_B_voice_0 : decode (mB Y_B_voice) 0 = .ok (.iload_n 1, 1) := by decide +kernel
theorem d_B_voice_1 : decode (mB Y_B_voice) 1 = .ok (.iconst 0, 1) := by decide +kernel
theorem d_B_voice_2 : decode (mB Y_B_voice) 2 = .ok (.iconst 3, 1) := by decide +kernel
theorem d_B_voice_3 : decode (mB Y_B_voice) 3 = .ok (.invokestatic 112, 3) := by decide +kernel
theorem d_B_voice_6 : decode (mB Y_B_voice) 6 = .ok (.ifCond .eq 13, 3) := by decide +kernel
theorem d_B_voice_9 : decode (mB Y_B_voice) 9 = .ok (.iload_n 2, 1) := by decide +kernel
theorem d_B_voice_10 : decode (mB Y_B_voice) 10 = .ok (.iconst 0, 1) := by decide +kernel
theorem d_B_voice_11 : decode (mB Y_B_voice) 11 = .ok (.ldc 251, 2) := by decide +kernel
theorem d_B_voice_13 : decode (mB Y_B_voice) 13 = .ok (.invokestatic 112, 3) := by decide +kernel
theorem d_B_voice_16 : decode (mB Y_B_voice) 16 = .ok (.ifCond .ne 5, 3) := by decide +kernel
theorem d_B_voice_19 : decode (mB Y_B_voice) 19 = .ok (.iconst (-1), 1) := by decide +kernel
theorem d_B_voice_20 : decode (mB Y_B_voice) 20 = .ok (.ireturn, 1) := by decide +kernel
theorem d_B_voice_21 : decode (mB Y_B_voice) 21 = .ok (.iload_n 3, 1) := by decide +kernel
theorem d_B_voice_22 : decode (mB Y_B_voice) 22 = .ok (.iconst 0, 1) := by decide +kernel
theorem d_B_voice_23 : decode (mB Y_B_voice) 23 = .ok (.ldc_w 305, 3) := by decide +kernel
theorem d_B_voice_26 : decode (mB Y_B_voice) 26 = .ok (.invokestatic 112, 3) := by decide +kernel
theorem d_B_voice_29 : decode (mB Y_B_voice) 29 = .ok (.ifCond .eq 15, 3) := by decide +kernel
theorem d_B_voice_32 : decode (mB Y_B_voice) 32 = .ok (.iload 4, 2) := by decide +kernel
theorem d_B_voice_34 : decode (mB Y_B_voice) 34 = .ok (.iload_n 3, 1) := by decide +kernel
theorem d_B_voice_35 : decode (mB Y_B_voice) 35 = .ok (.ldc_w 305, 3) := by decide +kernel
theorem d_B_voice_38 : decode (mB Y_B_voice) 38 = .ok (.invokestatic 112, 3) := by decide +kernel
theorem d_B_voice_41 : decode (mB Y_B_voice) 41 = .ok (.ifCond .ne 5, 3) := by decide +kernel
theorem d_B_voice_44 : decode (mB Y_B_voice) 44 = .ok (.iconst (-1), 1) := by decide +kernel
theorem d_B_voice_45 : decode (mB Y_B_voice) 45 = .ok (.ireturn, 1) := by decide +kernel
theorem d_B_voice_46 : decode (mB Y_B_voice) 46 = .ok (.aload_n 0, 1) := by decide +kernel
theorem d_B_voice_47 : decode (mB Y_B_voice) 47 = .ok (.getfield 75, 3) := by decide +kernel
theorem d_B_voice_50 : decode (mB Y_B_voice) 50 = .ok (.iload_n 1, 1) := by decide +kernel
theorem d_B_voice_51 : decode (mB Y_B_voice) 51 = .ok (.aaload, 1) := by decide +kernel
theorem d_B_voice_52 : decode (mB Y_B_voice) 52 = .ok (.getfield 306, 3) := by decide +kernel
theorem d_B_voice_55 : decode (mB Y_B_voice) 55 = .ok (.iload_n 2, 1) := by decide +kernel
theorem d_B_voice_56 : decode (mB Y_B_voice) 56 = .ok (.iload_n 3, 1) := by decide +kernel
theorem d_B_voice_57 : decode (mB Y_B_voice) 57 = .ok (.iload 4, 2) := by decide +kernel
theorem d_B_voice_59 : decode (mB Y_B_voice) 59 = .ok (.invokevirtual 247, 3) := by decide +kernel
theorem d_B_voice_62 : decode (mB Y_B_voice) 62 = .ok (.ireturn, 1) := by decide +kernel
theorem ro_B_voice_B_within : roomy Y_B_voice Y_B_within := ⟨Nat.le_of_ble_eq_true rfl, Nat.le_of_ble_eq_true rfl⟩
theorem ro_B_voice_Sp_add : roomy Y_B_voice Y_Sp_add := ⟨Nat.le_of_ble_eq_true rfl, Nat.le_of_ble_eq_true rfl⟩
def r_B_voice (x1 : Int32) (x2 : Int32) (x3 : Int32) (x4 : Int32) (S : Sto) : Option (Int32 × Sto) :=
  if (r_B_within x1 0 3) = 0 then
    some ((-1), S)
  else
    if (r_B_within x2 0 199999) = 0 then
      some ((-1), S)
    else
      if (r_B_within x3 0 9999999) = 0 then
        some ((-1), S)
      else
        if (r_B_within x4 x3 9999999) = 0 then
          some ((-1), S)
        else
          chk (inr x1 4) (
          ltN x1.toNatClampNeg (fun j1 =>
          (r_Sp_add (58 + 8 * j1 + 2) 10 x2 x3 x4 S).bind (fun (r2, S3) =>
          some (r2, S3))))
set_option maxHeartbeats 4000000 in
set_option maxRecDepth 20000 in
theorem c_B_voice {G : Gl} {L : Shp} (hL : Ext L) (S : Sto) (x1 : Int32) (x2 : Int32) (x3 : Int32) (x4 : Int32)  : Ct Y_B_voice G [rf G 0, .int x1, .int x2, .int x3, .int x4] L S (fi L) (r_B_voice x1 x2 x3 x4 S) := by
  refine ct_of (by decide +kernel) (Nat.le_of_ble_eq_true rfl) (fun g C => ?_)
  show VO g Y_B_voice G (fun z => Qm g Y_B_voice G (fi L z)) 0 0 0 [(0, rf G 0), (1, .int x1), (2, .int x2), (3, .int x3), (4, .int x4)] [] L S (r_B_voice x1 x2 x3 x4 S) some
  unfold r_B_voice
  refine v_iload_n (pc := 0) C d_B_voice_0 rfl 1 rfl ?_
  refine v_iconst (pc := 1) C d_B_voice_1 ic_0 ?_
  refine v_iconst (pc := 2) C d_B_voice_2 ic_3 ?_
  refine v_ct (pc := 3) (inv_S (As := [.int x1, .int 0, .int 3]) (st := []) C ml_B_112 ms_B_within ro_B_voice_B_within rfl rfl (Nat.le_of_ble_eq_true rfl) d_B_voice_3) (c_B_within hL S x1 0 3) ⟨rfl, rfl⟩ ⟨Nat.zero_le _, Nat.zero_le _⟩ ?_
  refine v_if_eq (pc := 6) (tgt := 19) C d_B_voice_6 rfl (fun _ => ?_) (fun _ => ?_)
  · refine v_iconst (pc := 19) C d_B_voice_19 ic_m1 ?_
    exact v_iret (z := ((-1), S)) C d_B_voice_20 rfl ⟨Nat.zero_le _, Nat.zero_le _⟩ (rfl) rfl
  · refine v_iload_n (pc := 9) C d_B_voice_9 rfl 2 rfl ?_
    refine v_iconst (pc := 10) C d_B_voice_10 ic_0 ?_
    refine v_ldc (pc := 11) C d_B_voice_11 kc_B_251 ?_
    refine v_ct (pc := 13) (inv_S (As := [.int x2, .int 0, .int 199999]) (st := []) C ml_B_112 ms_B_within ro_B_voice_B_within rfl rfl (Nat.le_of_ble_eq_true rfl) d_B_voice_13) (c_B_within hL S x2 0 199999) ⟨rfl, rfl⟩ ⟨Nat.zero_le _, Nat.zero_le _⟩ ?_
    refine v_if_ne (pc := 16) (tgt := 21) C d_B_voice_16 rfl (fun _ => ?_) (fun _ => ?_)
    · refine v_iload_n (pc := 21) C d_B_voice_21 rfl 3 rfl ?_
      refine v_iconst (pc := 22) C d_B_voice_22 ic_0 ?_
      refine v_ldc_w (pc := 23) C d_B_voice_23 kc_B_305 ?_
      refine v_ct (pc := 26) (inv_S (As := [.int x3, .int 0, .int 9999999]) (st := []) C ml_B_112 ms_B_within ro_B_voice_B_within rfl rfl (Nat.le_of_ble_eq_true rfl) d_B_voice_26) (c_B_within hL S x3 0 9999999) ⟨rfl, rfl⟩ ⟨Nat.zero_le _, Nat.zero_le _⟩ ?_
      refine v_if_eq (pc := 29) (tgt := 44) C d_B_voice_29 rfl (fun _ => ?_) (fun _ => ?_)
      · refine v_iconst (pc := 44) C d_B_voice_44 ic_m1 ?_
        exact v_iret (z := ((-1), S)) C d_B_voice_45 rfl ⟨Nat.zero_le _, Nat.zero_le _⟩ (rfl) rfl
      · refine v_iload (pc := 32) C d_B_voice_32 4 rfl ?_
        refine v_iload_n (pc := 34) C d_B_voice_34 rfl 3 rfl ?_
        refine v_ldc_w (pc := 35) C d_B_voice_35 kc_B_305 ?_
        refine v_ct (pc := 38) (inv_S (As := [.int x4, .int x3, .int 9999999]) (st := []) C ml_B_112 ms_B_within ro_B_voice_B_within rfl rfl (Nat.le_of_ble_eq_true rfl) d_B_voice_38) (c_B_within hL S x4 x3 9999999) ⟨rfl, rfl⟩ ⟨Nat.zero_le _, Nat.zero_le _⟩ ?_
        refine v_if_ne (pc := 41) (tgt := 46) C d_B_voice_41 rfl (fun _ => ?_) (fun _ => ?_)
        · refine v_aload_n (pc := 46) C d_B_voice_46 rfl 0 rfl ?_
          refine v_getR (pc := 47) C fl_B_75 (sh_0 hL) rfl d_B_voice_47 ?_
          refine v_iload_n (pc := 50) C d_B_voice_50 rfl 1 rfl ?_
          refine v_aald (pc := 51) (c0 := 58) (e := 8) C (sh_57 hL) rfl (by decide) d_B_voice_51 (fun j1 hj1 => ?_)
          refine v_getR (pc := 52) C fl_B_306 (tape_at hL hj1).1 rfl d_B_voice_52 ?_
          refine v_iload_n (pc := 55) C d_B_voice_55 rfl 2 rfl ?_
          refine v_iload_n (pc := 56) C d_B_voice_56 rfl 3 rfl ?_
          refine v_iload (pc := 57) C d_B_voice_57 4 rfl ?_
          refine v_ci (pc := 59) (inv_V (As := [.int x2, .int x3, .int x4]) (st := []) C ml_B_247 mv_Sp_add ro_B_voice_Sp_add (tape_at hL hj1).2.2.1.1 rfl rfl rfl rfl (Nat.le_of_ble_eq_true rfl) d_B_voice_59) (c_Sp_add hL S (58 + 8 * j1 + 2) 10 x2 x3 x4 (tape_at hL hj1).2.2.1) ⟨rfl, rfl⟩ ⟨Nat.zero_le _, Nat.zero_le _⟩ (fun r2 S3 => ?_)
          exact v_iret (z := (r2, S3)) C d_B_voice_62 rfl ⟨Nat.zero_le _, Nat.zero_le _⟩ (rfl) rfl
        · refine v_iconst (pc := 44) C d_B_voice_44 ic_m1 ?_
          exact v_iret (z := ((-1), S)) C d_B_voice_45 rfl ⟨Nat.zero_le _, Nat.zero_le _⟩ (rfl) rfl
    · refine v_iconst (pc := 19) C d_B_voice_19 ic_m1 ?_
      exact v_iret (z := ((-1), S)) C d_B_voice_20 rfl ⟨Nat.zero_le _, Nat.zero_le _⟩ (rfl) rfl
-- B_over
theorem d_B_over_0 : decode (mB Y_B_over) 0 = .ok (.iload_n 1, 1) := by decide +kernel
theorem d_B_over_1 : decode (mB Y_B_over) 1 = .ok (.iconst 0, 1) := by decide +kernel
theorem d_B_over_2 : decode (mB Y_B_over) 2 = .ok (.iconst 3, 1) := by decide +kernel
theorem d_B_over_3 : decode (mB Y_B_over) 3 = .ok (.invokestatic 112, 3) := by decide +kernel
theorem d_B_over_6 : decode (mB Y_B_over) 6 = .ok (.ifCond .ne 5, 3) := by decide +kernel
theorem d_B_over_9 : decode (mB Y_B_over) 9 = .ok (.iconst (-1), 1) := by decide +kernel
theorem d_B_over_10 : decode (mB Y_B_over) 10 = .ok (.ireturn, 1) := by decide +kernel
theorem d_B_over_11 : decode (mB Y_B_over) 11 = .ok (.iload_n 2, 1) := by decide +kernel
theorem d_B_over_12 : decode (mB Y_B_over) 12 = .ok (.lookupswitch 63 #[(0, 28), (1, 50)], 28) := by decide +kernel
theorem d_B_over_40 : decode (mB Y_B_over) 40 = .ok (.aload_n 0, 1) := by decide +kernel
theorem d_B_over_41 : decode (mB Y_B_over) 41 = .ok (.getfield 75, 3) := by decide +kernel
theorem d_B_over_44 : decode (mB Y_B_over) 44 = .ok (.iload_n 1, 1) := by decide +kernel
theorem d_B_over_45 : decode (mB Y_B_over) 45 = .ok (.aaload, 1) := by decide +kernel
theorem d_B_over_46 : decode (mB Y_B_over) 46 = .ok (.getfield 306, 3) := by decide +kernel
theorem d_B_over_49 : decode (mB Y_B_over) 49 = .ok (.iconst (-1), 1) := by decide +kernel
theorem d_B_over_50 : decode (mB Y_B_over) 50 = .ok (.invokevirtual 264, 3) := by decide +kernel
theorem d_B_over_53 : decode (mB Y_B_over) 53 = .ok (.ifCond .eq 7, 3) := by decide +kernel
theorem d_B_over_56 : decode (mB Y_B_over) 56 = .ok (.iconst 1, 1) := by decide +kernel
theorem d_B_over_57 : decode (mB Y_B_over) 57 = .ok (.goto 4, 3) := by decide +kernel
theorem d_B_over_60 : decode (mB Y_B_over) 60 = .ok (.iconst 0, 1) := by decide +kernel
theorem d_B_over_61 : decode (mB Y_B_over) 61 = .ok (.ireturn, 1) := by decide +kernel
theorem d_B_over_62 : decode (mB Y_B_over) 62 = .ok (.aload_n 0, 1) := by decide +kernel
theorem d_B_over_63 : decode (mB Y_B_over) 63 = .ok (.getfield 75, 3) := by decide +kernel
theorem d_B_over_66 : decode (mB Y_B_over) 66 = .ok (.iload_n 1, 1) := by decide +kernel
theorem d_B_over_67 : decode (mB Y_B_over) 67 = .ok (.aaload, 1) := by decide +kernel
theorem d_B_over_68 : decode (mB Y_B_over) 68 = .ok (.getfield 306, 3) := by decide +kernel
theorem d_B_over_71 : decode (mB Y_B_over) 71 = .ok (.invokevirtual 309, 3) := by decide +kernel
theorem d_B_over_74 : decode (mB Y_B_over) 74 = .ok (.ireturn, 1) := by decide +kernel
theorem d_B_over_75 : decode (mB Y_B_over) 75 = .ok (.iconst (-1), 1) := by decide +kernel
theorem d_B_over_76 : decode (mB Y_B_over) 76 = .ok (.ireturn, 1) := by decide +kernel
theorem ro_B_over_B_within : roomy Y_B_over Y_B_within := ⟨Nat.le_of_ble_eq_true rfl, Nat.le_of_ble_eq_true rfl⟩
theorem ro_B_over_Sp_agreeWithout : roomy Y_B_over Y_Sp_agreeWithout := ⟨Nat.le_of_ble_eq_true rfl, Nat.le_of_ble_eq_true rfl⟩
theorem ro_B_over_Sp_overAlone : roomy Y_B_over Y_Sp_overAlone := ⟨Nat.le_of_ble_eq_true rfl, Nat.le_of_ble_eq_true rfl⟩
def r_B_over (x1 : Int32) (x2 : Int32) (S : Sto) : Option Int32 :=
  if (r_B_within x1 0 3) = 0 then
    some (-1)
  else
    if x2 = 0 then
      chk (inr x1 4) (
      ltN x1.toNatClampNeg (fun j2 =>
      (r_Sp_agreeWithout (58 + 8 * j2 + 2) 10 (-1) S).bind (fun r3 =>
      if r3 = 0 then
        some 0
      else
        some 1)))
    else
      if x2 = 1 then
        chk (inr x1 4) (
        ltN x1.toNatClampNeg (fun j5 =>
        (r_Sp_overAlone (58 + 8 * j5 + 2) 10 S).bind (fun r6 =>
        some r6)))
      else
        some (-1)
set_option maxHeartbeats 4000000 in
set_option maxRecDepth 20000 in
theorem c_B_over {G : Gl} {L : Shp} (hL : Ext L) (S : Sto) (x1 : Int32) (x2 : Int32)  : Ct Y_B_over G [rf G 0, .int x1, .int x2] L S (fp L S) (r_B_over x1 x2 S) := by
  refine ct_of (by decide +kernel) (Nat.le_of_ble_eq_true rfl) (fun g C => ?_)
  show VO g Y_B_over G (fun z => Qm g Y_B_over G (fp L S z)) 0 0 0 [(0, rf G 0), (1, .int x1), (2, .int x2)] [] L S (r_B_over x1 x2 S) some
  unfold r_B_over
  refine v_iload_n (pc := 0) C d_B_over_0 rfl 1 rfl ?_
  refine v_iconst (pc := 1) C d_B_over_1 ic_0 ?_
  refine v_iconst (pc := 2) C d_B_over_2 ic_3 ?_
  refine v_ct (pc := 3) (inv_S (As := [.int x1, .int 0, .int 3]) (st := []) C ml_B_112 ms_B_within ro_B_over_B_within rfl rfl (Nat.le_of_ble_eq_true rfl) d_B_over_3) (c_B_within hL S x1 0 3) ⟨rfl, rfl⟩ ⟨Nat.zero_le _, Nat.zero_le _⟩ ?_
  refine v_if_ne (pc := 6) (tgt := 11) C d_B_over_6 rfl (fun _ => ?_) (fun _ => ?_)
  · refine v_iload_n (pc := 11) C d_B_over_11 rfl 2 rfl ?_
    refine v_case (x := x2) (c := 0) (fun hc1 => ?_) (fun hc1 => ?_)
    · refine v_lookup (pc := 12) (tgt := 40) C d_B_over_12 (by decide) (by rw [hc1] <;> rfl) rfl ?_
      refine v_aload_n (pc := 40) C d_B_over_40 rfl 0 rfl ?_
      refine v_getR (pc := 41) C fl_B_75 (sh_0 hL) rfl d_B_over_41 ?_
      refine v_iload_n (pc := 44) C d_B_over_44 rfl 1 rfl ?_
      refine v_aald (pc := 45) (c0 := 58) (e := 8) C (sh_57 hL) rfl (by decide) d_B_over_45 (fun j2 hj2 => ?_)
      refine v_getR (pc := 46) C fl_B_306 (tape_at hL hj2).1 rfl d_B_over_46 ?_
      refine v_iconst (pc := 49) C d_B_over_49 ic_m1 ?_
      refine v_cp (pc := 50) (inv_V (As := [.int (-1)]) (st := []) C ml_B_264 mv_Sp_agreeWithout ro_B_over_Sp_agreeWithout (tape_at hL hj2).2.2.1.1 rfl rfl rfl rfl (Nat.le_of_ble_eq_true rfl) d_B_over_50) (c_Sp_agreeWithout hL S (58 + 8 * j2 + 2) 10 (-1) (tape_at hL hj2).2.2.1) ⟨rfl, rfl⟩ ⟨Nat.zero_le _, Nat.zero_le _⟩ (fun r3 => ?_)
      refine v_if_eq (pc := 53) (tgt := 60) C d_B_over_53 rfl (fun _ => ?_) (fun _ => ?_)
      · refine v_iconst (pc := 60) C d_B_over_60 ic_0 ?_
        exact v_iret (z := 0) C d_B_over_61 rfl ⟨Nat.zero_le _, Nat.zero_le _⟩ (rfl) rfl
      · refine v_iconst (pc := 56) C d_B_over_56 ic_1 ?_
        refine v_goto (pc := 57) (tgt := 61) C d_B_over_57 rfl ?_
        exact v_iret (z := 1) C d_B_over_61 rfl ⟨Nat.zero_le _, Nat.zero_le _⟩ (rfl) rfl
    · refine v_case (x := x2) (c := 1) (fun hc4 => ?_) (fun hc4 => ?_)
      · refine v_lookup (pc := 12) (tgt := 62) C d_B_over_12 (by decide) (by rw [hc4] <;> rfl) rfl ?_
        refine v_aload_n (pc := 62) C d_B_over_62 rfl 0 rfl ?_
        refine v_getR (pc := 63) C fl_B_75 (sh_0 hL) rfl d_B_over_63 ?_
        refine v_iload_n (pc := 66) C d_B_over_66 rfl 1 rfl ?_
        refine v_aald (pc := 67) (c0 := 58) (e := 8) C (sh_57 hL) rfl (by decide) d_B_over_67 (fun j5 hj5 => ?_)
        refine v_getR (pc := 68) C fl_B_306 (tape_at hL hj5).1 rfl d_B_over_68 ?_
        refine v_cp (pc := 71) (inv_V (As := []) (st := []) C ml_B_309 mv_Sp_overAlone ro_B_over_Sp_overAlone (tape_at hL hj5).2.2.1.1 rfl rfl rfl rfl (Nat.le_of_ble_eq_true rfl) d_B_over_71) (c_Sp_overAlone hL S (58 + 8 * j5 + 2) 10 (tape_at hL hj5).2.2.1) ⟨rfl, rfl⟩ ⟨Nat.zero_le _, Nat.zero_le _⟩ (fun r6 => ?_)
        exact v_iret (z := r6) C d_B_over_74 rfl ⟨Nat.zero_le _, Nat.zero_le _⟩ (rfl) rfl
      · refine v_lookup (pc := 12) (tgt := 75) C d_B_over_12 (by decide) (by show Op.lookupswitch.offset [(0, 28), (1, 50)] _ _ = _; rw [lv_osw hc1 (by decide), lv_osw hc4 (by decide)] <;> rfl) rfl ?_
        refine v_iconst (pc := 75) C d_B_over_75 ic_m1 ?_
        exact v_iret (z := (-1)) C d_B_over_76 rfl ⟨Nat.zero_le _, Nat.zero_le _⟩ (rfl) rfl
  · refine v_iconst (pc := 9) C d_B_over_9 ic_m1 ?_
    exact v_iret (z := (-1)) C d_B_over_10 rfl ⟨Nat.zero_le _, Nat.zero_le _⟩ (rfl) rfl
-- B_noise
theorem d_B_noise_0 : decode (mB Y_B_noise) 0 = .ok (.iload_n 1, 1) := by decide +kernel
theorem d_B_noise_1 : decode (mB Y_B_noise) 1 = .ok (.iconst 0, 1) := by decide +kernel
theorem d_B_noise_2 : decode (mB Y_B_noise) 2 = .ok (.sipush 9999, 3) := by decide +kernel
theorem d_B_noise_5 : decode (mB Y_B_noise) 5 = .ok (.invokestatic 112, 3) := by decide +kernel
theorem d_B_noise_8 : decode (mB Y_B_noise) 8 = .ok (.ifCond .eq 24, 3) := by decide +kernel
theorem d_B_noise_11 : decode (mB Y_B_noise) 11 = .ok (.iload_n 2, 1) := by decide +kernel
theorem d_B_noise_12 : decode (mB Y_B_noise) 12 = .ok (.iconst 0, 1) := by decide +kernel
theorem d_B_noise_13 : decode (mB Y_B_noise) 13 = .ok (.sipush 999, 3) := by decide +kernel
theorem d_B_noise_16 : decode (mB Y_B_noise) 16 = .ok (.invokestatic 112, 3) := by decide +kernel
theorem d_B_noise_19 : decode (mB Y_B_noise) 19 = .ok (.ifCond .eq 13, 3) := by decide +kernel
theorem d_B_noise_22 : decode (mB Y_B_noise) 22 = .ok (.iload_n 3, 1) := by decide +kernel
theorem d_B_noise_23 : decode (mB Y_B_noise) 23 = .ok (.iconst 0, 1) := by decide +kernel
theorem d_B_noise_24 : decode (mB Y_B_noise) 24 = .ok (.ldc 251, 2) := by decide +kernel
theorem d_B_noise_26 : decode (mB Y_B_noise) 26 = .ok (.invokestatic 112, 3) := by decide +kernel
theorem d_B_noise_29 : decode (mB Y_B_noise) 29 = .ok (.ifCond .ne 5, 3) := by decide +kernel
theorem d_B_noise_32 : decode (mB Y_B_noise) 32 = .ok (.iconst (-1), 1) := by decide +kernel
theorem d_B_noise_33 : decode (mB Y_B_noise) 33 = .ok (.ireturn, 1) := by decide +kernel
theorem d_B_noise_34 : decode (mB Y_B_noise) 34 = .ok (.iload 4, 2) := by decide +kernel
theorem d_B_noise_36 : decode (mB Y_B_noise) 36 = .ok (.iconst 1, 1) := by decide +kernel
theorem d_B_noise_37 : decode (mB Y_B_noise) 37 = .ok (.iconst 3, 1) := by decide +kernel
theorem d_B_noise_38 : decode (mB Y_B_noise) 38 = .ok (.invokestatic 112, 3) := by decide +kernel
theorem d_B_noise_41 : decode (mB Y_B_noise) 41 = .ok (.ifCond .ne 5, 3) := by decide +kernel
theorem d_B_noise_44 : decode (mB Y_B_noise) 44 = .ok (.iconst (-1), 1) := by decide +kernel
theorem d_B_noise_45 : decode (mB Y_B_noise) 45 = .ok (.ireturn, 1) := by decide +kernel
theorem d_B_noise_46 : decode (mB Y_B_noise) 46 = .ok (.aload_n 0, 1) := by decide +kernel
theorem d_B_noise_47 : decode (mB Y_B_noise) 47 = .ok (.getfield 89, 3) := by decide +kernel
theorem d_B_noise_50 : decode (mB Y_B_noise) 50 = .ok (.iload_n 1, 1) := by decide +kernel
theorem d_B_noise_51 : decode (mB Y_B_noise) 51 = .ok (.iload_n 2, 1) := by decide +kernel
theorem d_B_noise_52 : decode (mB Y_B_noise) 52 = .ok (.iload_n 3, 1) := by decide +kernel
theorem d_B_noise_53 : decode (mB Y_B_noise) 53 = .ok (.iload 4, 2) := by decide +kernel
theorem d_B_noise_55 : decode (mB Y_B_noise) 55 = .ok (.invokevirtual 313, 3) := by decide +kernel
theorem d_B_noise_58 : decode (mB Y_B_noise) 58 = .ok (.ireturn, 1) := by decide +kernel
theorem ro_B_noise_B_within : roomy Y_B_noise Y_B_within := ⟨Nat.le_of_ble_eq_true rfl, Nat.le_of_ble_eq_true rfl⟩
theorem ro_B_noise_Ns_add : roomy Y_B_noise Y_Ns_add := ⟨Nat.le_of_ble_eq_true rfl, Nat.le_of_ble_eq_true rfl⟩
def r_B_noise (x1 : Int32) (x2 : Int32) (x3 : Int32) (x4 : Int32) (S : Sto) : Option (Int32 × Sto) :=
  if (r_B_within x1 0 9999) = 0 then
    some ((-1), S)
  else
    if (r_B_within x2 0 999) = 0 then
      some ((-1), S)
    else
      if (r_B_within x3 0 199999) = 0 then
        some ((-1), S)
      else
        if (r_B_within x4 1 3) = 0 then
          some ((-1), S)
        else
          (r_Ns_add x1 x2 x3 x4 S).bind (fun (r1, S2) =>
          some (r1, S2))
set_option maxHeartbeats 4000000 in
set_option maxRecDepth 20000 in
theorem c_B_noise {G : Gl} {L : Shp} (hL : Ext L) (S : Sto) (x1 : Int32) (x2 : Int32) (x3 : Int32) (x4 : Int32)  : Ct Y_B_noise G [rf G 0, .int x1, .int x2, .int x3, .int x4] L S (fi L) (r_B_noise x1 x2 x3 x4 S) := by
  refine ct_of (by decide +kernel) (Nat.le_of_ble_eq_true rfl) (fun g C => ?_)
  show VO g Y_B_noise G (fun z => Qm g Y_B_noise G (fi L z)) 0 0 0 [(0, rf G 0), (1, .int x1), (2, .int x2), (3, .int x3), (4, .int x4)] [] L S (r_B_noise x1 x2 x3 x4 S) some
  unfold r_B_noise
  refine v_iload_n (pc := 0) C d_B_noise_0 rfl 1 rfl ?_
  refine v_iconst (pc := 1) C d_B_noise_1 ic_0 ?_
  refine v_sipush (pc := 2) C d_B_noise_2 sp_9999 ?_
  refine v_ct (pc := 5) (inv_S (As := [.int x1, .int 0, .int 9999]) (st := []) C ml_B_112 ms_B_within ro_B_noise_B_within rfl rfl (Nat.le_of_ble_eq_true rfl) d_B_noise_5) (c_B_within hL S x1 0 9999) ⟨rfl, rfl⟩ ⟨Nat.zero_le _, Nat.zero_le _⟩ ?_
  refine v_if_eq (pc := 8) (tgt := 32) C d_B_noise_8 rfl (fun _ => ?_) (fun _ => ?_)
  · refine v_iconst (pc := 32) C d_B_noise_32 ic_m1 ?_
    exact v_iret (z := ((-1), S)) C d_B_noise_33 rfl ⟨Nat.zero_le _, Nat.zero_le _⟩ (rfl) rfl
  · refine v_iload_n (pc := 11) C d_B_noise_11 rfl 2 rfl ?_
    refine v_iconst (pc := 12) C d_B_noise_12 ic_0 ?_
    refine v_sipush (pc := 13) C d_B_noise_13 sp_999 ?_
    refine v_ct (pc := 16) (inv_S (As := [.int x2, .int 0, .int 999]) (st := []) C ml_B_112 ms_B_within ro_B_noise_B_within rfl rfl (Nat.le_of_ble_eq_true rfl) d_B_noise_16) (c_B_within hL S x2 0 999) ⟨rfl, rfl⟩ ⟨Nat.zero_le _, Nat.zero_le _⟩ ?_
    refine v_if_eq (pc := 19) (tgt := 32) C d_B_noise_19 rfl (fun _ => ?_) (fun _ => ?_)
    · refine v_iconst (pc := 32) C d_B_noise_32 ic_m1 ?_
      exact v_iret (z := ((-1), S)) C d_B_noise_33 rfl ⟨Nat.zero_le _, Nat.zero_le _⟩ (rfl) rfl
    · refine v_iload_n (pc := 22) C d_B_noise_22 rfl 3 rfl ?_
      refine v_iconst (pc := 23) C d_B_noise_23 ic_0 ?_
      refine v_ldc (pc := 24) C d_B_noise_24 kc_B_251 ?_
      refine v_ct (pc := 26) (inv_S (As := [.int x3, .int 0, .int 199999]) (st := []) C ml_B_112 ms_B_within ro_B_noise_B_within rfl rfl (Nat.le_of_ble_eq_true rfl) d_B_noise_26) (c_B_within hL S x3 0 199999) ⟨rfl, rfl⟩ ⟨Nat.zero_le _, Nat.zero_le _⟩ ?_
      refine v_if_ne (pc := 29) (tgt := 34) C d_B_noise_29 rfl (fun _ => ?_) (fun _ => ?_)
      · refine v_iload (pc := 34) C d_B_noise_34 4 rfl ?_
        refine v_iconst (pc := 36) C d_B_noise_36 ic_1 ?_
        refine v_iconst (pc := 37) C d_B_noise_37 ic_3 ?_
        refine v_ct (pc := 38) (inv_S (As := [.int x4, .int 1, .int 3]) (st := []) C ml_B_112 ms_B_within ro_B_noise_B_within rfl rfl (Nat.le_of_ble_eq_true rfl) d_B_noise_38) (c_B_within hL S x4 1 3) ⟨rfl, rfl⟩ ⟨Nat.zero_le _, Nat.zero_le _⟩ ?_
        refine v_if_ne (pc := 41) (tgt := 46) C d_B_noise_41 rfl (fun _ => ?_) (fun _ => ?_)
        · refine v_aload_n (pc := 46) C d_B_noise_46 rfl 0 rfl ?_
          refine v_getR (pc := 47) C fl_B_89 (sh_0 hL) rfl d_B_noise_47 ?_
          refine v_iload_n (pc := 50) C d_B_noise_50 rfl 1 rfl ?_
          refine v_iload_n (pc := 51) C d_B_noise_51 rfl 2 rfl ?_
          refine v_iload_n (pc := 52) C d_B_noise_52 rfl 3 rfl ?_
          refine v_iload (pc := 53) C d_B_noise_53 4 rfl ?_
          refine v_ci (pc := 55) (inv_V (As := [.int x1, .int x2, .int x3, .int x4]) (st := []) C ml_B_313 mv_Ns_add ro_B_noise_Ns_add (sh_90 hL) rfl rfl rfl rfl (Nat.le_of_ble_eq_true rfl) d_B_noise_55) (c_Ns_add hL S x1 x2 x3 x4) ⟨rfl, rfl⟩ ⟨Nat.zero_le _, Nat.zero_le _⟩ (fun r1 S2 => ?_)
          exact v_iret (z := (r1, S2)) C d_B_noise_58 rfl ⟨Nat.zero_le _, Nat.zero_le _⟩ (rfl) rfl
        · refine v_iconst (pc := 44) C d_B_noise_44 ic_m1 ?_
          exact v_iret (z := ((-1), S)) C d_B_noise_45 rfl ⟨Nat.zero_le _, Nat.zero_le _⟩ (rfl) rfl
      · refine v_iconst (pc := 32) C d_B_noise_32 ic_m1 ?_
        exact v_iret (z := ((-1), S)) C d_B_noise_33 rfl ⟨Nat.zero_le _, Nat.zero_le _⟩ (rfl) rfl
-- B_noises
theorem d_B_noises_0 : decode (mB Y_B_noises) 0 = .ok (.iload_n 1, 1) := by decide +kernel
theorem d_B_noises_1 : decode (mB Y_B_noises) 1 = .ok (.ifCond .ne 11, 3) := by decide +kernel
theorem d_B_noises_4 : decode (mB Y_B_noises) 4 = .ok (.aload_n 0, 1) := by decide +kernel
theorem d_B_noises_5 : decode (mB Y_B_noises) 5 = .ok (.getfield 89, 3) := by decide +kernel
theorem d_B_noises_8 : decode (mB Y_B_noises) 8 = .ok (.invokevirtual 315, 3) := by decide +kernel
theorem d_B_noises_11 : decode (mB Y_B_noises) 11 = .ok (.ireturn, 1) := by decide +kernel
theorem d_B_noises_12 : decode (mB Y_B_noises) 12 = .ok (.iload_n 1, 1) := by decide +kernel
theorem d_B_noises_13 : decode (mB Y_B_noises) 13 = .ok (.iconst 1, 1) := by decide +kernel
theorem d_B_noises_14 : decode (mB Y_B_noises) 14 = .ok (.if_icmp .ne 11, 3) := by decide +kernel
theorem d_B_noises_17 : decode (mB Y_B_noises) 17 = .ok (.aload_n 0, 1) := by decide +kernel
theorem d_B_noises_18 : decode (mB Y_B_noises) 18 = .ok (.getfield 89, 3) := by decide +kernel
theorem d_B_noises_21 : decode (mB Y_B_noises) 21 = .ok (.invokevirtual 318, 3) := by decide +kernel
theorem d_B_noises_24 : decode (mB Y_B_noises) 24 = .ok (.ireturn, 1) := by decide +kernel
theorem d_B_noises_25 : decode (mB Y_B_noises) 25 = .ok (.iload_n 1, 1) := by decide +kernel
theorem d_B_noises_26 : decode (mB Y_B_noises) 26 = .ok (.bipush 10, 2) := by decide +kernel
theorem d_B_noises_28 : decode (mB Y_B_noises) 28 = .ok (.bipush 10, 2) := by decide +kernel
theorem d_B_noises_30 : decode (mB Y_B_noises) 30 = .ok (.aload_n 0, 1) := by decide +kernel
theorem d_B_noises_31 : decode (mB Y_B_noises) 31 = .ok (.getfield 89, 3) := by decide +kernel
theorem d_B_noises_34 : decode (mB Y_B_noises) 34 = .ok (.getfield 321, 3) := by decide +kernel
theorem d_B_noises_37 : decode (mB Y_B_noises) 37 = .ok (.iadd, 1) := by decide +kernel
theorem d_B_noises_38 : decode (mB Y_B_noises) 38 = .ok (.iconst 1, 1) := by decide +kernel
theorem d_B_noises_39 : decode (mB Y_B_noises) 39 = .ok (.isub, 1) := by decide +kernel
theorem d_B_noises_40 : decode (mB Y_B_noises) 40 = .ok (.invokestatic 112, 3) := by decide +kernel
theorem d_B_noises_43 : decode (mB Y_B_noises) 43 = .ok (.ifCond .eq 15, 3) := by decide +kernel
theorem d_B_noises_46 : decode (mB Y_B_noises) 46 = .ok (.aload_n 0, 1) := by decide +kernel
theorem d_B_noises_47 : decode (mB Y_B_noises) 47 = .ok (.getfield 89, 3) := by decide +kernel
theorem d_B_noises_50 : decode (mB Y_B_noises) 50 = .ok (.iload_n 1, 1) := by decide +kernel
theorem d_B_noises_51 : decode (mB Y_B_noises) 51 = .ok (.bipush 10, 2) := by decide +kernel
theorem d_B_noises_53 : decode (mB Y_B_noises) 53 = .ok (.isub, 1) := by decide +kernel
theorem d_B_noises_54 : decode (mB Y_B_noises) 54 = .ok (.invokevirtual 322, 3) := by decide +kernel
theorem d_B_noises_57 : decode (mB Y_B_noises) 57 = .ok (.ireturn, 1) := by decide +kernel
theorem d_B_noises_58 : decode (mB Y_B_noises) 58 = .ok (.iconst (-1), 1) := by decide +kernel
theorem d_B_noises_59 : decode (mB Y_B_noises) 59 = .ok (.ireturn, 1) := by decide +kernel
theorem ro_B_noises_B_within : roomy Y_B_noises Y_B_within := ⟨Nat.le_of_ble_eq_true rfl, Nat.le_of_ble_eq_true rfl⟩
theorem ro_B_noises_Ns_countMissed : roomy Y_B_noises Y_Ns_countMissed := ⟨Nat.le_of_ble_eq_true rfl, Nat.le_of_ble_eq_true rfl⟩
theorem ro_B_noises_Ns_countSentWrongly : roomy Y_B_noises Y_Ns_countSentWrongly := ⟨Nat.le_of_ble_eq_true rfl, Nat.le_of_ble_eq_true rfl⟩
theorem ro_B_noises_Ns_sort : roomy Y_B_noises Y_Ns_sort := ⟨Nat.le_of_ble_eq_true rfl, Nat.le_of_ble_eq_true rfl⟩
def r_B_noises (x1 : Int32) (S : Sto) : Option (Int32 × Sto) :=
  if x1 = 0 then
    (r_Ns_countSentWrongly S).bind (fun (r5, S6) =>
    some (r5, S6))
  else
    if x1 = 1 then
      (r_Ns_countMissed S).bind (fun (r3, S4) =>
      some (r3, S4))
    else
      if (r_B_within x1 10 ((10 + (S 90 5)) - 1)) = 0 then
        some ((-1), S)
      else
        (r_Ns_sort (x1 - 10) S).bind (fun (r1, S2) =>
        some (r1, S2))
set_option maxHeartbeats 4000000 in
set_option maxRecDepth 20000 in
theorem c_B_noises {G : Gl} {L : Shp} (hL : Ext L) (S : Sto) (x1 : Int32)  : Ct Y_B_noises G [rf G 0, .int x1] L S (fi L) (r_B_noises x1 S) := by
  refine ct_of (by decide +kernel) (Nat.le_of_ble_eq_true rfl) (fun g C => ?_)
  show VO g Y_B_noises G (fun z => Qm g Y_B_noises G (fi L z)) 0 0 0 [(0, rf G 0), (1, .int x1)] [] L S (r_B_noises x1 S) some
  unfold r_B_noises
  refine v_iload_n (pc := 0) C d_B_noises_0 rfl 1 rfl ?_
  refine v_if_ne (pc := 1) (tgt := 12) C d_B_noises_1 rfl (fun _ => ?_) (fun _ => ?_)
  · refine v_iload_n (pc := 12) C d_B_noises_12 rfl 1 rfl ?_
    refine v_iconst (pc := 13) C d_B_noises_13 ic_1 ?_
    refine v_icmp_ne (pc := 14) (tgt := 25) C d_B_noises_14 rfl (fun _ => ?_) (fun _ => ?_)
    · refine v_iload_n (pc := 25) C d_B_noises_25 rfl 1 rfl ?_
      refine v_bipush (pc := 26) C d_B_noises_26 bp_10 ?_
      refine v_bipush (pc := 28) C d_B_noises_28 bp_10 ?_
      refine v_aload_n (pc := 30) C d_B_noises_30 rfl 0 rfl ?_
      refine v_getR (pc := 31) C fl_B_89 (sh_0 hL) rfl d_B_noises_31 ?_
      refine v_getI (pc := 34) C fl_B_321 (sh_90 hL) rfl d_B_noises_34 ?_
      refine v_iadd (pc := 37) C d_B_noises_37 ?_
      refine v_iconst (pc := 38) C d_B_noises_38 ic_1 ?_
      refine v_isub (pc := 39) C d_B_noises_39 ?_
      refine v_ct (pc := 40) (inv_S (As := [.int x1, .int 10, .int ((10 + (S 90 5)) - 1)]) (st := []) C ml_B_112 ms_B_within ro_B_noises_B_within rfl rfl (Nat.le_of_ble_eq_true rfl) d_B_noises_40) (c_B_within hL S x1 10 ((10 + (S 90 5)) - 1)) ⟨rfl, rfl⟩ ⟨Nat.zero_le _, Nat.zero_le _⟩ ?_
      refine v_if_eq (pc := 43) (tgt := 58) C d_B_noises_43 rfl (fun _ => ?_) (fun _ => ?_)
      · refine v_iconst (pc := 58) C d_B_noises_58 ic_m1 ?_
        exact v_iret (z := ((-1), S)) C d_B_noises_59 rfl ⟨Nat.zero_le _, Nat.zero_le _⟩ (rfl) rfl
      · refine v_aload_n (pc := 46) C d_B_noises_46 rfl 0 rfl ?_
        refine v_getR (pc := 47) C fl_B_89 (sh_0 hL) rfl d_B_noises_47 ?_
        refine v_iload_n (pc := 50) C d_B_noises_50 rfl 1 rfl ?_
        refine v_bipush (pc := 51) C d_B_noises_51 bp_10 ?_
        refine v_isub (pc := 53) C d_B_noises_53 ?_
        refine v_ci (pc := 54) (inv_V (As := [.int (x1 - 10)]) (st := []) C ml_B_322 mv_Ns_sort ro_B_noises_Ns_sort (sh_90 hL) rfl rfl rfl rfl (Nat.le_of_ble_eq_true rfl) d_B_noises_54) (c_Ns_sort hL S (x1 - 10)) ⟨rfl, rfl⟩ ⟨Nat.zero_le _, Nat.zero_le _⟩ (fun r1 S2 => ?_)
        exact v_iret (z := (r1, S2)) C d_B_noises_57 rfl ⟨Nat.zero_le _, Nat.zero_le _⟩ (rfl) rfl
    · refine v_aload_n (pc := 17) C d_B_noises_17 rfl 0 rfl ?_
      refine v_getR (pc := 18) C fl_B_89 (sh_0 hL) rfl d_B_noises_18 ?_
      refine v_ci (pc := 21) (inv_V (As := []) (st := []) C ml_B_318 mv_Ns_countMissed ro_B_noises_Ns_countMissed (sh_90 hL) rfl rfl rfl rfl (Nat.le_of_ble_eq_true rfl) d_B_noises_21) (c_Ns_countMissed hL S) ⟨rfl, rfl⟩ ⟨Nat.zero_le _, Nat.zero_le _⟩ (fun r3 S4 => ?_)
      exact v_iret (z := (r3, S4)) C d_B_noises_24 rfl ⟨Nat.zero_le _, Nat.zero_le _⟩ (rfl) rfl
  · refine v_aload_n (pc := 4) C d_B_noises_4 rfl 0 rfl ?_
    refine v_getR (pc := 5) C fl_B_89 (sh_0 hL) rfl d_B_noises_5 ?_
    refine v_ci (pc := 8) (inv_V (As := []) (st := []) C ml_B_315 mv_Ns_countSentWrongly ro_B_noises_Ns_countSentWrongly (sh_90 hL) rfl rfl rfl rfl (Nat.le_of_ble_eq_true rfl) d_B_noises_8) (c_Ns_countSentWrongly hL S) ⟨rfl, rfl⟩ ⟨Nat.zero_le _, Nat.zero_le _⟩ (fun r5 S6 => ?_)
    exact v_iret (z := (r5, S6)) C d_B_noises_11 rfl ⟨Nat.zero_le _, Nat.zero_le _⟩ (rfl) rfl
-- B_ball
theorem d_B_ball_0 : decode (mB Y_B_ball) 0 = .ok (.iload_n 1, 1) := by decide +kernel
theorem d_B_ball_1 : decode (mB Y_B_ball) 1 = .ok (.iload_n 2, 1) := by decide +kernel
theorem d_B_ball_2 : decode (mB Y_B_ball) 2 = .ok (.invokestatic 160, 3) := by decide +kernel
theorem d_B_ball_5 : decode (mB Y_B_ball) 5 = .ok (.ifCond .ne 5, 3) := by decide +kernel
theorem d_B_ball_8 : decode (mB Y_B_ball) 8 = .ok (.iconst 0, 1) := by decide +kernel
theorem d_B_ball_9 : decode (mB Y_B_ball) 9 = .ok (.ireturn, 1) := by decide +kernel
theorem d_B_ball_10 : decode (mB Y_B_ball) 10 = .ok (.aload_n 0, 1) := by decide +kernel
theorem d_B_ball_11 : decode (mB Y_B_ball) 11 = .ok (.iload_n 1, 1) := by decide +kernel
theorem d_B_ball_12 : decode (mB Y_B_ball) 12 = .ok (.putfield 97, 3) := by decide +kernel
theorem d_B_ball_15 : decode (mB Y_B_ball) 15 = .ok (.aload_n 0, 1) := by decide +kernel
theorem d_B_ball_16 : decode (mB Y_B_ball) 16 = .ok (.iload_n 2, 1) := by decide +kernel
theorem d_B_ball_17 : decode (mB Y_B_ball) 17 = .ok (.putfield 325, 3) := by decide +kernel
theorem d_B_ball_20 : decode (mB Y_B_ball) 20 = .ok (.iconst 1, 1) := by decide +kernel
theorem d_B_ball_21 : decode (mB Y_B_ball) 21 = .ok (.ireturn, 1) := by decide +kernel
theorem ro_B_ball_B_isBall : roomy Y_B_ball Y_B_isBall := ⟨Nat.le_of_ble_eq_true rfl, Nat.le_of_ble_eq_true rfl⟩
def r_B_ball (x1 : Int32) (x2 : Int32) (S : Sto) : Option (Int32 × Sto) :=
  if (r_B_isBall x1 x2) = 0 then
    some (0, S)
  else
    ltS (sw S 0 14 x1) (fun S1 =>
    ltS (sw S1 0 15 x2) (fun S2 =>
    some (1, S2)))
set_option maxHeartbeats 4000000 in
set_option maxRecDepth 20000 in
theorem c_B_ball {G : Gl} {L : Shp} (hL : Ext L) (S : Sto) (x1 : Int32) (x2 : Int32)  : Ct Y_B_ball G [rf G 0, .int x1, .int x2] L S (fi L) (r_B_ball x1 x2 S) := by
  refine ct_of (by decide +kernel) (Nat.le_of_ble_eq_true rfl) (fun g C => ?_)
  show VO g Y_B_ball G (fun z => Qm g Y_B_ball G (fi L z)) 0 0 0 [(0, rf G 0), (1, .int x1), (2, .int x2)] [] L S (r_B_ball x1 x2 S) some
  unfold r_B_ball
  refine v_iload_n (pc := 0) C d_B_ball_0 rfl 1 rfl ?_
  refine v_iload_n (pc := 1) C d_B_ball_1 rfl 2 rfl ?_
  refine v_ct (pc := 2) (inv_S (As := [.int x1, .int x2]) (st := []) C ml_B_160 ms_B_isBall ro_B_ball_B_isBall rfl rfl (Nat.le_of_ble_eq_true rfl) d_B_ball_2) (c_B_isBall hL S x1 x2) ⟨rfl, rfl⟩ ⟨Nat.zero_le _, Nat.zero_le _⟩ ?_
  refine v_if_ne (pc := 5) (tgt := 10) C d_B_ball_5 rfl (fun _ => ?_) (fun _ => ?_)
  · refine v_aload_n (pc := 10) C d_B_ball_10 rfl 0 rfl ?_
    refine v_iload_n (pc := 11) C d_B_ball_11 rfl 1 rfl ?_
    refine v_putI (pc := 12) C fp_B_97 (sh_0 hL) rfl d_B_ball_12 (fun S1 => ?_)
    refine v_aload_n (pc := 15) C d_B_ball_15 rfl 0 rfl ?_
    refine v_iload_n (pc := 16) C d_B_ball_16 rfl 2 rfl ?_
    refine v_putI (pc := 17) C fp_B_325 (sh_0 hL) rfl d_B_ball_17 (fun S2 => ?_)
    refine v_iconst (pc := 20) C d_B_ball_20 ic_1 ?_
    exact v_zret (z := (1, S2)) C d_B_ball_21 rfl (b01_n (by decide)) ⟨Nat.zero_le _, Nat.zero_le _⟩ (rfl) rfl
  · refine v_iconst (pc := 8) C d_B_ball_8 ic_0 ?_
    exact v_zret (z := (0, S)) C d_B_ball_9 rfl (b01_n (by decide)) ⟨Nat.zero_le _, Nat.zero_le _⟩ (rfl) rfl
