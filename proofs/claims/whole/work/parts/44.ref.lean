-- M_readProduct
theorem d_M_readProduct_0 : decode (mB Y_M_readProduct) 0 = .ok (.aload_n 0, 1) := by decide +kernel
theorem d_M_readProduct_1 : decode (mB Y_M_readProduct) 1 = .ok (.invokevirtual 306, 3) := by decide +kernel
theorem d_M_readProduct_4 : decode (mB Y_M_readProduct) 4 = .ok (.iconst (-1), 1) := by decide +kernel
theorem d_M_readProduct_5 : decode (mB Y_M_readProduct) 5 = .ok (.if_icmp .ne 5, 3) := by decide +kernel
theorem d_M_readProduct_8 : decode (mB Y_M_readProduct) 8 = .ok (.iconst (-1), 1) := by decide +kernel
theorem d_M_readProduct_9 : decode (mB Y_M_readProduct) 9 = .ok (.ireturn, 1) := by decide +kernel
theorem d_M_readProduct_10 : decode (mB Y_M_readProduct) 10 = .ok (.aload_n 0, 1) := by decide +kernel
theorem d_M_readProduct_11 : decode (mB Y_M_readProduct) 11 = .ok (.bipush 42, 2) := by decide +kernel
theorem d_M_readProduct_13 : decode (mB Y_M_readProduct) 13 = .ok (.invokevirtual 309, 3) := by decide +kernel
theorem d_M_readProduct_16 : decode (mB Y_M_readProduct) 16 = .ok (.ifCond .ne 12, 3) := by decide +kernel
theorem d_M_readProduct_19 : decode (mB Y_M_readProduct) 19 = .ok (.aload_n 0, 1) := by decide +kernel
theorem d_M_readProduct_20 : decode (mB Y_M_readProduct) 20 = .ok (.bipush 47, 2) := by decide +kernel
theorem d_M_readProduct_22 : decode (mB Y_M_readProduct) 22 = .ok (.invokevirtual 309, 3) := by decide +kernel
theorem d_M_readProduct_25 : decode (mB Y_M_readProduct) 25 = .ok (.ifCond .eq 76, 3) := by decide +kernel
theorem d_M_readProduct_28 : decode (mB Y_M_readProduct) 28 = .ok (.aload_n 0, 1) := by decide +kernel
theorem d_M_readProduct_29 : decode (mB Y_M_readProduct) 29 = .ok (.bipush 42, 2) := by decide +kernel
theorem d_M_readProduct_31 : decode (mB Y_M_readProduct) 31 = .ok (.invokevirtual 309, 3) := by decide +kernel
theorem d_M_readProduct_34 : decode (mB Y_M_readProduct) 34 = .ok (.istore_n 1, 1) := by decide +kernel
theorem d_M_readProduct_35 : decode (mB Y_M_readProduct) 35 = .ok (.aload_n 0, 1) := by decide +kernel
theorem d_M_readProduct_36 : decode (mB Y_M_readProduct) 36 = .ok (.invokevirtual 303, 3) := by decide +kernel
theorem d_M_readProduct_39 : decode (mB Y_M_readProduct) 39 = .ok (.iload_n 1, 1) := by decide +kernel
theorem d_M_readProduct_40 : decode (mB Y_M_readProduct) 40 = .ok (.ifCond .ne 17, 3) := by decide +kernel
theorem d_M_readProduct_43 : decode (mB Y_M_readProduct) 43 = .ok (.aload_n 0, 1) := by decide +kernel
theorem d_M_readProduct_44 : decode (mB Y_M_readProduct) 44 = .ok (.getfield 261, 3) := by decide +kernel
theorem d_M_readProduct_47 : decode (mB Y_M_readProduct) 47 = .ok (.iconst 3, 1) := by decide +kernel
theorem d_M_readProduct_48 : decode (mB Y_M_readProduct) 48 = .ok (.if_icmp .eq 9, 3) := by decide +kernel
theorem d_M_readProduct_51 : decode (mB Y_M_readProduct) 51 = .ok (.aload_n 0, 1) := by decide +kernel
theorem d_M_readProduct_52 : decode (mB Y_M_readProduct) 52 = .ok (.iconst 1, 1) := by decide +kernel
theorem d_M_readProduct_53 : decode (mB Y_M_readProduct) 53 = .ok (.invokevirtual 297, 3) := by decide +kernel
theorem d_M_readProduct_56 : decode (mB Y_M_readProduct) 56 = .ok (.ireturn, 1) := by decide +kernel
theorem d_M_readProduct_57 : decode (mB Y_M_readProduct) 57 = .ok (.iload_n 1, 1) := by decide +kernel
theorem d_M_readProduct_58 : decode (mB Y_M_readProduct) 58 = .ok (.ifCond .ne 16, 3) := by decide +kernel
theorem d_M_readProduct_61 : decode (mB Y_M_readProduct) 61 = .ok (.aload_n 0, 1) := by decide +kernel
theorem d_M_readProduct_62 : decode (mB Y_M_readProduct) 62 = .ok (.getfield 264, 3) := by decide +kernel
theorem d_M_readProduct_65 : decode (mB Y_M_readProduct) 65 = .ok (.ifCond .ne 9, 3) := by decide +kernel
theorem d_M_readProduct_68 : decode (mB Y_M_readProduct) 68 = .ok (.aload_n 0, 1) := by decide +kernel
theorem d_M_readProduct_69 : decode (mB Y_M_readProduct) 69 = .ok (.iconst 2, 1) := by decide +kernel
theorem d_M_readProduct_70 : decode (mB Y_M_readProduct) 70 = .ok (.invokevirtual 297, 3) := by decide +kernel
theorem d_M_readProduct_73 : decode (mB Y_M_readProduct) 73 = .ok (.ireturn, 1) := by decide +kernel
theorem d_M_readProduct_74 : decode (mB Y_M_readProduct) 74 = .ok (.aload_n 0, 1) := by decide +kernel
theorem d_M_readProduct_75 : decode (mB Y_M_readProduct) 75 = .ok (.invokevirtual 306, 3) := by decide +kernel
theorem d_M_readProduct_78 : decode (mB Y_M_readProduct) 78 = .ok (.iconst (-1), 1) := by decide +kernel
theorem d_M_readProduct_79 : decode (mB Y_M_readProduct) 79 = .ok (.if_icmp .ne 5, 3) := by decide +kernel
theorem d_M_readProduct_82 : decode (mB Y_M_readProduct) 82 = .ok (.iconst (-1), 1) := by decide +kernel
theorem d_M_readProduct_83 : decode (mB Y_M_readProduct) 83 = .ok (.ireturn, 1) := by decide +kernel
theorem d_M_readProduct_84 : decode (mB Y_M_readProduct) 84 = .ok (.aload_n 0, 1) := by decide +kernel
theorem d_M_readProduct_85 : decode (mB Y_M_readProduct) 85 = .ok (.iload_n 1, 1) := by decide +kernel
theorem d_M_readProduct_86 : decode (mB Y_M_readProduct) 86 = .ok (.ifCond .eq 7, 3) := by decide +kernel
theorem d_M_readProduct_89 : decode (mB Y_M_readProduct) 89 = .ok (.iconst 4, 1) := by decide +kernel
theorem d_M_readProduct_90 : decode (mB Y_M_readProduct) 90 = .ok (.goto 4, 3) := by decide +kernel
theorem d_M_readProduct_93 : decode (mB Y_M_readProduct) 93 = .ok (.iconst 5, 1) := by decide +kernel
theorem d_M_readProduct_94 : decode (mB Y_M_readProduct) 94 = .ok (.iconst 0, 1) := by decide +kernel
theorem d_M_readProduct_95 : decode (mB Y_M_readProduct) 95 = .ok (.invokevirtual 300, 3) := by decide +kernel
theorem d_M_readProduct_98 : decode (mB Y_M_readProduct) 98 = .ok (.goto (-88), 3) := by decide +kernel
theorem d_M_readProduct_101 : decode (mB Y_M_readProduct) 101 = .ok (.iconst 0, 1) := by decide +kernel
theorem d_M_readProduct_102 : decode (mB Y_M_readProduct) 102 = .ok (.ireturn, 1) := by decide +kernel
theorem ro_M_readProduct_M_emits : roomy Y_M_readProduct Y_M_emits := ⟨Nat.le_of_ble_eq_true rfl, Nat.le_of_ble_eq_true rfl⟩
theorem ro_M_readProduct_M_fails : roomy Y_M_readProduct Y_M_fails := ⟨Nat.le_of_ble_eq_true rfl, Nat.le_of_ble_eq_true rfl⟩
theorem ro_M_readProduct_M_isSign : roomy Y_M_readProduct Y_M_isSign := ⟨Nat.le_of_ble_eq_true rfl, Nat.le_of_ble_eq_true rfl⟩
theorem ro_M_readProduct_M_readUnit : roomy Y_M_readProduct Y_M_readUnit := ⟨Nat.le_of_ble_eq_true rfl, Nat.le_of_ble_eq_true rfl⟩
theorem ro_M_readProduct_M_reads : roomy Y_M_readProduct Y_M_reads := ⟨Nat.le_of_ble_eq_true rfl, Nat.le_of_ble_eq_true rfl⟩
def r_M_readProduct_L10  : Nat → Sto → Option ((Sto) ⊕ (Int32 × Sto))
  | 0, _ => none
  | n + 1, S =>
    jn (fun (_ : Unit) =>
      lt (r_M_isSign 42 S) (fun v1 =>
      (r_M_reads S).bind (fun S2 =>
      jn (fun (_ : Unit) =>
        jn (fun (_ : Unit) =>
          (r_M_readUnit S2).bind (fun (r3, S4) =>
          if r3 = (-1) then
            some (.inr ((-1), S4))
          else
            jn (fun (v5 : Int32) =>
              (r_M_emits v5 0 S4).bind (fun S6 =>
              r_M_readProduct_L10 n S6)) (fun j94 =>
            if v1 = 0 then
              j94 (5)
            else
              j94 (4)))) (fun j74 =>
        if v1 = 0 then
          if (S2 104 31) = 0 then
            (r_M_fails 2 S2).bind (fun (r7, S8) =>
            some (.inr (r7, S8)))
          else
            j74 ()
        else
          j74 ())) (fun j57 =>
      if v1 = 0 then
        if (S2 104 30) = 3 then
          j57 ()
        else
          some (.inl (S2))
      else
        j57 ())))) (fun j28 =>
    if (r_M_isSign 42 S) = 0 then
      if (r_M_isSign 47 S) = 0 then
        some (.inr (0, S))
      else
        j28 ()
    else
      j28 ())
set_option maxHeartbeats 4000000 in
set_option maxRecDepth 20000 in
theorem w_M_readProduct_L10 {g : Gm} {G : Gl} {L : Shp} (C : Cx g Y_M_readProduct G) (hL : Ext L)  :
    ∀ (n : Nat)  (S : Sto) (K : ((Sto) ⊕ (Int32 × Sto)) → Option (Int32 × Sto)), (∀ (S : Sto), VO g Y_M_readProduct G (fun z => Qm g Y_M_readProduct G (fi L z)) 0 0 51 [(0, rf G 104)] [] L S (some (.inl (S))) K) → (∀ x, K (.inr x) = some x) → VO g Y_M_readProduct G (fun z => Qm g Y_M_readProduct G (fi L z)) 0 0 10 [(0, rf G 104)] [] L S (r_M_readProduct_L10 n S) K := by
  intro n
  induction n with
  | zero => intro S K; intros; exact v_none
  | succ n ih =>
    intro S K hK hR
    rw [r_M_readProduct_L10]
    refine v_aload_n (pc := 10) C d_M_readProduct_10 rfl 0 rfl ?_
    refine v_bipush (pc := 11) C d_M_readProduct_11 bp_42 ?_
    refine v_ct (pc := 13) (inv_V (As := [.int 42]) (st := []) C ml_M_309 mv_M_isSign ro_M_readProduct_M_isSign (sh_104 hL) rfl rfl rfl rfl (Nat.le_of_ble_eq_true rfl) d_M_readProduct_13) (c_M_isSign hL S 42) ⟨rfl, rfl⟩ ⟨Nat.zero_le _, Nat.zero_le _⟩ ?_
    refine v_jn (fun j => VO g Y_M_readProduct G (fun z => Qm g Y_M_readProduct G (fi L z)) 0 0 28 [(0, rf G 104)] [] L S (j ()) K) (?_) (fun j28 hj28 => ?_)
    · refine v_aload_n (pc := 28) C d_M_readProduct_28 rfl 0 rfl ?_
      refine v_bipush (pc := 29) C d_M_readProduct_29 bp_42 ?_
      refine v_ct (pc := 31) (inv_V (As := [.int 42]) (st := []) C ml_M_309 mv_M_isSign ro_M_readProduct_M_isSign (sh_104 hL) rfl rfl rfl rfl (Nat.le_of_ble_eq_true rfl) d_M_readProduct_31) (c_M_isSign hL S 42) ⟨rfl, rfl⟩ ⟨Nat.zero_le _, Nat.zero_le _⟩ ?_
      refine v_lt (fun v1 => ?_)
      refine v_istore_n (pc := 34) (lv' := [(1, .int v1), (0, rf G 104)]) C d_M_readProduct_34 rfl (by decide) rfl ?_
      refine v_aload_n (pc := 35) C d_M_readProduct_35 rfl 1 rfl ?_
      refine v_cv (pc := 36) (inv_V (As := []) (st := []) C ml_M_303 mv_M_reads ro_M_readProduct_M_reads (sh_104 hL) rfl rfl rfl rfl (Nat.le_of_ble_eq_true rfl) d_M_readProduct_36) (c_M_reads hL S) ⟨rfl, rfl⟩ ⟨Nat.zero_le _, Nat.zero_le _⟩ (fun S2 => ?_)
      refine v_iload_n (pc := 39) C d_M_readProduct_39 rfl 0 rfl ?_
      refine v_jn (fun j => VO g Y_M_readProduct G (fun z => Qm g Y_M_readProduct G (fi L z)) 0 0 57 [(0, rf G 104), (1, .int v1)] [] L S2 (j ()) K) (?_) (fun j57 hj57 => ?_)
      · refine v_iload_n (pc := 57) C d_M_readProduct_57 rfl 1 rfl ?_
        refine v_jn (fun j => VO g Y_M_readProduct G (fun z => Qm g Y_M_readProduct G (fi L z)) 0 0 74 [(0, rf G 104), (1, .int v1)] [] L S2 (j ()) K) (?_) (fun j74 hj74 => ?_)
        · refine v_aload_n (pc := 74) C d_M_readProduct_74 rfl 0 rfl ?_
          refine v_ci (pc := 75) (inv_V (As := []) (st := []) C ml_M_306 mv_M_readUnit ro_M_readProduct_M_readUnit (sh_104 hL) rfl rfl rfl rfl (Nat.le_of_ble_eq_true rfl) d_M_readProduct_75) (c_M_readUnit hL S2) ⟨rfl, rfl⟩ ⟨Nat.zero_le _, Nat.zero_le _⟩ (fun r3 S4 => ?_)
          refine v_iconst (pc := 78) C d_M_readProduct_78 ic_m1 ?_
          refine v_icmp_ne (pc := 79) (tgt := 84) C d_M_readProduct_79 rfl (fun _ => ?_) (fun _ => ?_)
          · refine v_aload_n (pc := 84) C d_M_readProduct_84 rfl 0 rfl ?_
            refine v_iload_n (pc := 85) C d_M_readProduct_85 rfl 1 rfl ?_
            refine v_jn (fun j => ∀ (v5 : Int32), VO g Y_M_readProduct G (fun z => Qm g Y_M_readProduct G (fi L z)) 0 0 94 [(0, rf G 104)] [.int v5, rf G 104] L S4 (j (v5)) K) (fun v5 => ?_) (fun j94 hj94 => ?_)
            · refine v_iconst (pc := 94) C d_M_readProduct_94 ic_0 ?_
              refine v_cv (pc := 95) (inv_V (As := [.int v5, .int 0]) (st := []) C ml_M_300 mv_M_emits ro_M_readProduct_M_emits (sh_104 hL) rfl rfl rfl rfl (Nat.le_of_ble_eq_true rfl) d_M_readProduct_95) (c_M_emits hL S4 v5 0) ⟨rfl, rfl⟩ ⟨Nat.zero_le _, Nat.zero_le _⟩ (fun S6 => ?_)
              refine v_goto (pc := 98) (tgt := 10) C d_M_readProduct_98 rfl ?_
              exact ih S6 K hK hR
            · refine v_if_eq (pc := 86) (tgt := 93) C d_M_readProduct_86 rfl (fun _ => ?_) (fun _ => ?_)
              · refine v_iconst (pc := 93) C d_M_readProduct_93 ic_5 ?_
                refine v_sub [0] rfl ?_
                exact hj94 5
              · refine v_iconst (pc := 89) C d_M_readProduct_89 ic_4 ?_
                refine v_goto (pc := 90) (tgt := 94) C d_M_readProduct_90 rfl ?_
                refine v_sub [0] rfl ?_
                exact hj94 4
          · refine v_iconst (pc := 82) C d_M_readProduct_82 ic_m1 ?_
            exact v_iret (z := ((-1), S4)) C d_M_readProduct_83 rfl ⟨Nat.zero_le _, Nat.zero_le _⟩ (hR _) rfl
        · refine v_if_ne (pc := 58) (tgt := 74) C d_M_readProduct_58 rfl (fun _ => ?_) (fun _ => ?_)
          · exact hj74
          · refine v_aload_n (pc := 61) C d_M_readProduct_61 rfl 0 rfl ?_
            refine v_getI (pc := 62) C fl_M_264 (sh_104 hL) rfl d_M_readProduct_62 ?_
            refine v_if_ne (pc := 65) (tgt := 74) C d_M_readProduct_65 rfl (fun _ => ?_) (fun _ => ?_)
            · exact hj74
            · refine v_aload_n (pc := 68) C d_M_readProduct_68 rfl 0 rfl ?_
              refine v_iconst (pc := 69) C d_M_readProduct_69 ic_2 ?_
              refine v_ci (pc := 70) (inv_V (As := [.int 2]) (st := []) C ml_M_297 mv_M_fails ro_M_readProduct_M_fails (sh_104 hL) rfl rfl rfl rfl (Nat.le_of_ble_eq_true rfl) d_M_readProduct_70) (c_M_fails hL S2 2) ⟨rfl, rfl⟩ ⟨Nat.zero_le _, Nat.zero_le _⟩ (fun r7 S8 => ?_)
              exact v_iret (z := (r7, S8)) C d_M_readProduct_73 rfl ⟨Nat.zero_le _, Nat.zero_le _⟩ (hR _) rfl
      · refine v_if_ne (pc := 40) (tgt := 57) C d_M_readProduct_40 rfl (fun _ => ?_) (fun _ => ?_)
        · refine v_sub [1, 0] rfl ?_
          exact hj57
        · refine v_aload_n (pc := 43) C d_M_readProduct_43 rfl 1 rfl ?_
          refine v_getI (pc := 44) C fl_M_261 (sh_104 hL) rfl d_M_readProduct_44 ?_
          refine v_iconst (pc := 47) C d_M_readProduct_47 ic_3 ?_
          refine v_icmp_eq (pc := 48) (tgt := 57) C d_M_readProduct_48 rfl (fun _ => ?_) (fun _ => ?_)
          · refine v_sub [1, 0] rfl ?_
            exact hj57
          · refine v_sub [1] rfl ?_
            exact hK S2
    · refine v_if_ne (pc := 16) (tgt := 28) C d_M_readProduct_16 rfl (fun _ => ?_) (fun _ => ?_)
      · exact hj28
      · refine v_aload_n (pc := 19) C d_M_readProduct_19 rfl 0 rfl ?_
        refine v_bipush (pc := 20) C d_M_readProduct_20 bp_47 ?_
        refine v_ct (pc := 22) (inv_V (As := [.int 47]) (st := []) C ml_M_309 mv_M_isSign ro_M_readProduct_M_isSign (sh_104 hL) rfl rfl rfl rfl (Nat.le_of_ble_eq_true rfl) d_M_readProduct_22) (c_M_isSign hL S 47) ⟨rfl, rfl⟩ ⟨Nat.zero_le _, Nat.zero_le _⟩ ?_
        refine v_if_eq (pc := 25) (tgt := 101) C d_M_readProduct_25 rfl (fun _ => ?_) (fun _ => ?_)
        · refine v_iconst (pc := 101) C d_M_readProduct_101 ic_0 ?_
          exact v_iret (z := (0, S)) C d_M_readProduct_102 rfl ⟨Nat.zero_le _, Nat.zero_le _⟩ (hR _) rfl
        · exact hj28
def r_M_readProduct  (S : Sto) : Option (Int32 × Sto) :=
  (r_M_readUnit S).bind (fun (r1, S2) =>
  if r1 = (-1) then
    some ((-1), S2)
  else
    (r_M_readProduct_L10 fu S2).bind (fun x => match x with
    | .inl (S3) =>
      (r_M_fails 1 S3).bind (fun (r4, S5) =>
      some (r4, S5))
    | .inr r => some r))
set_option maxHeartbeats 4000000 in
set_option maxRecDepth 20000 in
theorem c_M_readProduct {G : Gl} {L : Shp} (hL : Ext L) (S : Sto)   : Ct Y_M_readProduct G [rf G 104] L S (fi L) (r_M_readProduct S) := by
  refine ct_of (by decide +kernel) (Nat.le_of_ble_eq_true rfl) (fun g C => ?_)
  show VO g Y_M_readProduct G (fun z => Qm g Y_M_readProduct G (fi L z)) 0 0 0 [(0, rf G 104)] [] L S (r_M_readProduct S) some
  unfold r_M_readProduct
  refine v_aload_n (pc := 0) C d_M_readProduct_0 rfl 0 rfl ?_
  refine v_ci (pc := 1) (inv_V (As := []) (st := []) C ml_M_306 mv_M_readUnit ro_M_readProduct_M_readUnit (sh_104 hL) rfl rfl rfl rfl (Nat.le_of_ble_eq_true rfl) d_M_readProduct_1) (c_M_readUnit hL S) ⟨rfl, rfl⟩ ⟨Nat.zero_le _, Nat.zero_le _⟩ (fun r1 S2 => ?_)
  refine v_iconst (pc := 4) C d_M_readProduct_4 ic_m1 ?_
  refine v_icmp_ne (pc := 5) (tgt := 10) C d_M_readProduct_5 rfl (fun _ => ?_) (fun _ => ?_)
  · refine v_bind ?_
    refine w_M_readProduct_L10 C hL  fu S2 _ (fun S3 => ?_) (fun z => rfl)
    refine v_some ?_
    refine v_aload_n (pc := 51) C d_M_readProduct_51 rfl 0 rfl ?_
    refine v_iconst (pc := 52) C d_M_readProduct_52 ic_1 ?_
    refine v_ci (pc := 53) (inv_V (As := [.int 1]) (st := []) C ml_M_297 mv_M_fails ro_M_readProduct_M_fails (sh_104 hL) rfl rfl rfl rfl (Nat.le_of_ble_eq_true rfl) d_M_readProduct_53) (c_M_fails hL S3 1) ⟨rfl, rfl⟩ ⟨Nat.zero_le _, Nat.zero_le _⟩ (fun r4 S5 => ?_)
    exact v_iret (z := (r4, S5)) C d_M_readProduct_56 rfl ⟨Nat.zero_le _, Nat.zero_le _⟩ (rfl) rfl
  · refine v_iconst (pc := 8) C d_M_readProduct_8 ic_m1 ?_
    exact v_iret (z := ((-1), S2)) C d_M_readProduct_9 rfl ⟨Nat.zero_le _, Nat.zero_le _⟩ (rfl) rfl
-- M_readSum
theorem d_M_readSum_0 : decode (mB Y_M_readSum) 0 = .ok (.aload_n 0, 1) := by decide +kernel
theorem d_M_readSum_1 : decode (mB Y_M_readSum) 1 = .ok (.invokevirtual 312, 3) := by decide +kernel
theorem d_M_readSum_4 : decode (mB Y_M_readSum) 4 = .ok (.iconst (-1), 1) := by decide +kernel
theorem d_M_readSum_5 : decode (mB Y_M_readSum) 5 = .ok (.if_icmp .ne 5, 3) := by decide +kernel
theorem d_M_readSum_8 : decode (mB Y_M_readSum) 8 = .ok (.iconst (-1), 1) := by decide +kernel
theorem d_M_readSum_9 : decode (mB Y_M_readSum) 9 = .ok (.ireturn, 1) := by decide +kernel
theorem d_M_readSum_10 : decode (mB Y_M_readSum) 10 = .ok (.aload_n 0, 1) := by decide +kernel
theorem d_M_readSum_11 : decode (mB Y_M_readSum) 11 = .ok (.bipush 43, 2) := by decide +kernel
theorem d_M_readSum_13 : decode (mB Y_M_readSum) 13 = .ok (.invokevirtual 309, 3) := by decide +kernel
theorem d_M_readSum_16 : decode (mB Y_M_readSum) 16 = .ok (.ifCond .ne 12, 3) := by decide +kernel
theorem d_M_readSum_19 : decode (mB Y_M_readSum) 19 = .ok (.aload_n 0, 1) := by decide +kernel
theorem d_M_readSum_20 : decode (mB Y_M_readSum) 20 = .ok (.bipush 45, 2) := by decide +kernel
theorem d_M_readSum_22 : decode (mB Y_M_readSum) 22 = .ok (.invokevirtual 309, 3) := by decide +kernel
theorem d_M_readSum_25 : decode (mB Y_M_readSum) 25 = .ok (.ifCond .eq 41, 3) := by decide +kernel
theorem d_M_readSum_28 : decode (mB Y_M_readSum) 28 = .ok (.aload_n 0, 1) := by decide +kernel
theorem d_M_readSum_29 : decode (mB Y_M_readSum) 29 = .ok (.getfield 264, 3) := by decide +kernel
theorem d_M_readSum_32 : decode (mB Y_M_readSum) 32 = .ok (.bipush 43, 2) := by decide +kernel
theorem d_M_readSum_34 : decode (mB Y_M_readSum) 34 = .ok (.if_icmp .ne 7, 3) := by decide +kernel
theorem d_M_readSum_37 : decode (mB Y_M_readSum) 37 = .ok (.iconst 2, 1) := by decide +kernel
theorem d_M_readSum_38 : decode (mB Y_M_readSum) 38 = .ok (.goto 4, 3) := by decide +kernel
theorem d_M_readSum_41 : decode (mB Y_M_readSum) 41 = .ok (.iconst 3, 1) := by decide +kernel
theorem d_M_readSum_42 : decode (mB Y_M_readSum) 42 = .ok (.istore_n 1, 1) := by decide +kernel
theorem d_M_readSum_43 : decode (mB Y_M_readSum) 43 = .ok (.aload_n 0, 1) := by decide +kernel
theorem d_M_readSum_44 : decode (mB Y_M_readSum) 44 = .ok (.invokevirtual 303, 3) := by decide +kernel
theorem d_M_readSum_47 : decode (mB Y_M_readSum) 47 = .ok (.aload_n 0, 1) := by decide +kernel
theorem d_M_readSum_48 : decode (mB Y_M_readSum) 48 = .ok (.invokevirtual 312, 3) := by decide +kernel
theorem d_M_readSum_51 : decode (mB Y_M_readSum) 51 = .ok (.iconst (-1), 1) := by decide +kernel
theorem d_M_readSum_52 : decode (mB Y_M_readSum) 52 = .ok (.if_icmp .ne 5, 3) := by decide +kernel
theorem d_M_readSum_55 : decode (mB Y_M_readSum) 55 = .ok (.iconst (-1), 1) := by decide +kernel
theorem d_M_readSum_56 : decode (mB Y_M_readSum) 56 = .ok (.ireturn, 1) := by decide +kernel
theorem d_M_readSum_57 : decode (mB Y_M_readSum) 57 = .ok (.aload_n 0, 1) := by decide +kernel
theorem d_M_readSum_58 : decode (mB Y_M_readSum) 58 = .ok (.iload_n 1, 1) := by decide +kernel
theorem d_M_readSum_59 : decode (mB Y_M_readSum) 59 = .ok (.iconst 0, 1) := by decide +kernel
theorem d_M_readSum_60 : decode (mB Y_M_readSum) 60 = .ok (.invokevirtual 300, 3) := by decide +kernel
theorem d_M_readSum_63 : decode (mB Y_M_readSum) 63 = .ok (.goto (-53), 3) := by decide +kernel
theorem d_M_readSum_66 : decode (mB Y_M_readSum) 66 = .ok (.iconst 0, 1) := by decide +kernel
theorem d_M_readSum_67 : decode (mB Y_M_readSum) 67 = .ok (.ireturn, 1) := by decide +kernel
theorem ro_M_readSum_M_emits : roomy Y_M_readSum Y_M_emits := ⟨Nat.le_of_ble_eq_true rfl, Nat.le_of_ble_eq_true rfl⟩
theorem ro_M_readSum_M_isSign : roomy Y_M_readSum Y_M_isSign := ⟨Nat.le_of_ble_eq_true rfl, Nat.le_of_ble_eq_true rfl⟩
theorem ro_M_readSum_M_readProduct : roomy Y_M_readSum Y_M_readProduct := ⟨Nat.le_of_ble_eq_true rfl, Nat.le_of_ble_eq_true rfl⟩
theorem ro_M_readSum_M_reads : roomy Y_M_readSum Y_M_reads := ⟨Nat.le_of_ble_eq_true rfl, Nat.le_of_ble_eq_true rfl⟩
def r_M_readSum_L10  : Nat → Sto → Option ((Sto) ⊕ (Int32 × Sto))
  | 0, _ => none
  | n + 1, S =>
    jn (fun (_ : Unit) =>
      jn (fun (v1 : Int32) =>
        (r_M_reads S).bind (fun S2 =>
        (r_M_readProduct S2).bind (fun (r3, S4) =>
        if r3 = (-1) then
          some (.inr ((-1), S4))
        else
          (r_M_emits v1 0 S4).bind (fun S5 =>
          r_M_readSum_L10 n S5)))) (fun j42 =>
      if (S 104 31) = 43 then
        j42 (2)
      else
        j42 (3))) (fun j28 =>
    if (r_M_isSign 43 S) = 0 then
      if (r_M_isSign 45 S) = 0 then
        some (.inr (0, S))
      else
        j28 ()
    else
      j28 ())
set_option maxHeartbeats 4000000 in
set_option maxRecDepth 20000 in
theorem w_M_readSum_L10 {g : Gm} {G : Gl} {L : Shp} (C : Cx g Y_M_readSum G) (hL : Ext L)  :
    ∀ (n : Nat)  (S : Sto) (K : ((Sto) ⊕ (Int32 × Sto)) → Option (Int32 × Sto)), (True) → (∀ x, K (.inr x) = some x) → VO g Y_M_readSum G (fun z => Qm g Y_M_readSum G (fi L z)) 0 0 10 [(0, rf G 104)] [] L S (r_M_readSum_L10 n S) K := by
  intro n
  induction n with
  | zero => intro S K; intros; exact v_none
  | succ n ih =>
    intro S K hK hR
    rw [r_M_readSum_L10]
    refine v_aload_n (pc := 10) C d_M_readSum_10 rfl 0 rfl ?_
    refine v_bipush (pc := 11) C d_M_readSum_11 bp_43 ?_
    refine v_ct (pc := 13) (inv_V (As := [.int 43]) (st := []) C ml_M_309 mv_M_isSign ro_M_readSum_M_isSign (sh_104 hL) rfl rfl rfl rfl (Nat.le_of_ble_eq_true rfl) d_M_readSum_13) (c_M_isSign hL S 43) ⟨rfl, rfl⟩ ⟨Nat.zero_le _, Nat.zero_le _⟩ ?_
    refine v_jn (fun j => VO g Y_M_readSum G (fun z => Qm g Y_M_readSum G (fi L z)) 0 0 28 [(0, rf G 104)] [] L S (j ()) K) (?_) (fun j28 hj28 => ?_)
    · refine v_aload_n (pc := 28) C d_M_readSum_28 rfl 0 rfl ?_
      refine v_getI (pc := 29) C fl_M_264 (sh_104 hL) rfl d_M_readSum_29 ?_
      refine v_bipush (pc := 32) C d_M_readSum_32 bp_43 ?_
      refine v_jn (fun j => ∀ (v1 : Int32), VO g Y_M_readSum G (fun z => Qm g Y_M_readSum G (fi L z)) 0 0 42 [(0, rf G 104)] [.int v1] L S (j (v1)) K) (fun v1 => ?_) (fun j42 hj42 => ?_)
      · refine v_istore_n (pc := 42) (lv' := [(1, .int v1), (0, rf G 104)]) C d_M_readSum_42 rfl (by decide) rfl ?_
        refine v_aload_n (pc := 43) C d_M_readSum_43 rfl 1 rfl ?_
        refine v_cv (pc := 44) (inv_V (As := []) (st := []) C ml_M_303 mv_M_reads ro_M_readSum_M_reads (sh_104 hL) rfl rfl rfl rfl (Nat.le_of_ble_eq_true rfl) d_M_readSum_44) (c_M_reads hL S) ⟨rfl, rfl⟩ ⟨Nat.zero_le _, Nat.zero_le _⟩ (fun S2 => ?_)
        refine v_aload_n (pc := 47) C d_M_readSum_47 rfl 1 rfl ?_
        refine v_ci (pc := 48) (inv_V (As := []) (st := []) C ml_M_312 mv_M_readProduct ro_M_readSum_M_readProduct (sh_104 hL) rfl rfl rfl rfl (Nat.le_of_ble_eq_true rfl) d_M_readSum_48) (c_M_readProduct hL S2) ⟨rfl, rfl⟩ ⟨Nat.zero_le _, Nat.zero_le _⟩ (fun r3 S4 => ?_)
        refine v_iconst (pc := 51) C d_M_readSum_51 ic_m1 ?_
        refine v_icmp_ne (pc := 52) (tgt := 57) C d_M_readSum_52 rfl (fun _ => ?_) (fun _ => ?_)
        · refine v_aload_n (pc := 57) C d_M_readSum_57 rfl 1 rfl ?_
          refine v_iload_n (pc := 58) C d_M_readSum_58 rfl 0 rfl ?_
          refine v_iconst (pc := 59) C d_M_readSum_59 ic_0 ?_
          refine v_cv (pc := 60) (inv_V (As := [.int v1, .int 0]) (st := []) C ml_M_300 mv_M_emits ro_M_readSum_M_emits (sh_104 hL) rfl rfl rfl rfl (Nat.le_of_ble_eq_true rfl) d_M_readSum_60) (c_M_emits hL S4 v1 0) ⟨rfl, rfl⟩ ⟨Nat.zero_le _, Nat.zero_le _⟩ (fun S5 => ?_)
          refine v_goto (pc := 63) (tgt := 10) C d_M_readSum_63 rfl ?_
          refine v_sub [1] rfl ?_
          exact ih S5 K hK hR
        · refine v_iconst (pc := 55) C d_M_readSum_55 ic_m1 ?_
          exact v_iret (z := ((-1), S4)) C d_M_readSum_56 rfl ⟨Nat.zero_le _, Nat.zero_le _⟩ (hR _) rfl
      · refine v_icmp_ne (pc := 34) (tgt := 41) C d_M_readSum_34 rfl (fun _ => ?_) (fun _ => ?_)
        · refine v_iconst (pc := 41) C d_M_readSum_41 ic_3 ?_
          exact hj42 3
        · refine v_iconst (pc := 37) C d_M_readSum_37 ic_2 ?_
          refine v_goto (pc := 38) (tgt := 42) C d_M_readSum_38 rfl ?_
          exact hj42 2
    · refine v_if_ne (pc := 16) (tgt := 28) C d_M_readSum_16 rfl (fun _ => ?_) (fun _ => ?_)
      · exact hj28
      · refine v_aload_n (pc := 19) C d_M_readSum_19 rfl 0 rfl ?_
        refine v_bipush (pc := 20) C d_M_readSum_20 bp_45 ?_
        refine v_ct (pc := 22) (inv_V (As := [.int 45]) (st := []) C ml_M_309 mv_M_isSign ro_M_readSum_M_isSign (sh_104 hL) rfl rfl rfl rfl (Nat.le_of_ble_eq_true rfl) d_M_readSum_22) (c_M_isSign hL S 45) ⟨rfl, rfl⟩ ⟨Nat.zero_le _, Nat.zero_le _⟩ ?_
        refine v_if_eq (pc := 25) (tgt := 66) C d_M_readSum_25 rfl (fun _ => ?_) (fun _ => ?_)
        · refine v_iconst (pc := 66) C d_M_readSum_66 ic_0 ?_
          exact v_iret (z := (0, S)) C d_M_readSum_67 rfl ⟨Nat.zero_le _, Nat.zero_le _⟩ (hR _) rfl
        · exact hj28
def r_M_readSum  (S : Sto) : Option (Int32 × Sto) :=
  (r_M_readProduct S).bind (fun (r1, S2) =>
  if r1 = (-1) then
    some ((-1), S2)
  else
    (r_M_readSum_L10 fu S2).bind (fun x => match x with | .inl _ => none | .inr r => some r))
set_option maxHeartbeats 4000000 in
set_option maxRecDepth 20000 in
theorem c_M_readSum {G : Gl} {L : Shp} (hL : Ext L) (S : Sto)   : Ct Y_M_readSum G [rf G 104] L S (fi L) (r_M_readSum S) := by
  refine ct_of (by decide +kernel) (Nat.le_of_ble_eq_true rfl) (fun g C => ?_)
  show VO g Y_M_readSum G (fun z => Qm g Y_M_readSum G (fi L z)) 0 0 0 [(0, rf G 104)] [] L S (r_M_readSum S) some
  unfold r_M_readSum
  refine v_aload_n (pc := 0) C d_M_readSum_0 rfl 0 rfl ?_
  refine v_ci (pc := 1) (inv_V (As := []) (st := []) C ml_M_312 mv_M_readProduct ro_M_readSum_M_readProduct (sh_104 hL) rfl rfl rfl rfl (Nat.le_of_ble_eq_true rfl) d_M_readSum_1) (c_M_readProduct hL S) ⟨rfl, rfl⟩ ⟨Nat.zero_le _, Nat.zero_le _⟩ (fun r1 S2 => ?_)
  refine v_iconst (pc := 4) C d_M_readSum_4 ic_m1 ?_
  refine v_icmp_ne (pc := 5) (tgt := 10) C d_M_readSum_5 rfl (fun _ => ?_) (fun _ => ?_)
  · refine v_bind ?_
    exact w_M_readSum_L10 C hL  fu S2 _ trivial (fun z => rfl)
  · refine v_iconst (pc := 8) C d_M_readSum_8 ic_m1 ?_
    exact v_iret (z := ((-1), S2)) C d_M_readSum_9 rfl ⟨Nat.zero_le _, Nat.zero_le _⟩ (rfl) rfl
-- M_readCompared
theorem d_M_readCompared_0 : decode (mB Y_M_readCompared) 0 = .ok (.aload_n 0, 1) := by decide +kernel
theorem d_M_readCompared_1 : decode (mB Y_M_readCompared) 1 = .ok (.invokevirtual 315, 3) := by decide +kernel
theorem d_M_readCompared_4 : decode (mB Y_M_readCompared) 4 = .ok (.iconst (-1), 1) := by decide +kernel
theorem d_M_readCompared_5 : decode (mB Y_M_readCompared) 5 = .ok (.if_icmp .ne 5, 3) := by decide +kernel
theorem d_M_readCompared_8 : decode (mB Y_M_readCompared) 8 = .ok (.iconst (-1), 1) := by decide +kernel
theorem d_M_readCompared_9 : decode (mB Y_M_readCompared) 9 = .ok (.ireturn, 1) := by decide +kernel
theorem d_M_readCompared_10 : decode (mB Y_M_readCompared) 10 = .ok (.aload_n 0, 1) := by decide +kernel
theorem d_M_readCompared_11 : decode (mB Y_M_readCompared) 11 = .ok (.bipush 60, 2) := by decide +kernel
theorem d_M_readCompared_13 : decode (mB Y_M_readCompared) 13 = .ok (.invokevirtual 309, 3) := by decide +kernel
theorem d_M_readCompared_16 : decode (mB Y_M_readCompared) 16 = .ok (.ifCond .ne 27, 3) := by decide +kernel
theorem d_M_readCompared_19 : decode (mB Y_M_readCompared) 19 = .ok (.aload_n 0, 1) := by decide +kernel
theorem d_M_readCompared_20 : decode (mB Y_M_readCompared) 20 = .ok (.bipush 61, 2) := by decide +kernel
theorem d_M_readCompared_22 : decode (mB Y_M_readCompared) 22 = .ok (.invokevirtual 309, 3) := by decide +kernel
theorem d_M_readCompared_25 : decode (mB Y_M_readCompared) 25 = .ok (.ifCond .ne 18, 3) := by decide +kernel
theorem d_M_readCompared_28 : decode (mB Y_M_readCompared) 28 = .ok (.aload_n 0, 1) := by decide +kernel
theorem d_M_readCompared_29 : decode (mB Y_M_readCompared) 29 = .ok (.bipush 62, 2) := by decide +kernel
theorem d_M_readCompared_31 : decode (mB Y_M_readCompared) 31 = .ok (.invokevirtual 309, 3) := by decide +kernel
theorem d_M_readCompared_34 : decode (mB Y_M_readCompared) 34 = .ok (.ifCond .ne 9, 3) := by decide +kernel
theorem d_M_readCompared_37 : decode (mB Y_M_readCompared) 37 = .ok (.aload_n 0, 1) := by decide +kernel
theorem d_M_readCompared_38 : decode (mB Y_M_readCompared) 38 = .ok (.iconst 1, 1) := by decide +kernel
theorem d_M_readCompared_39 : decode (mB Y_M_readCompared) 39 = .ok (.invokevirtual 297, 3) := by decide +kernel
theorem d_M_readCompared_42 : decode (mB Y_M_readCompared) 42 = .ok (.ireturn, 1) := by decide +kernel
theorem d_M_readCompared_43 : decode (mB Y_M_readCompared) 43 = .ok (.aload_n 0, 1) := by decide +kernel
theorem d_M_readCompared_44 : decode (mB Y_M_readCompared) 44 = .ok (.getfield 264, 3) := by decide +kernel
theorem d_M_readCompared_47 : decode (mB Y_M_readCompared) 47 = .ok (.bipush 60, 2) := by decide +kernel
theorem d_M_readCompared_49 : decode (mB Y_M_readCompared) 49 = .ok (.if_icmp .ne 8, 3) := by decide +kernel
theorem d_M_readCompared_52 : decode (mB Y_M_readCompared) 52 = .ok (.bipush 6, 2) := by decide +kernel
theorem d_M_readCompared_54 : decode (mB Y_M_readCompared) 54 = .ok (.goto 19, 3) := by decide +kernel
theorem d_M_readCompared_57 : decode (mB Y_M_readCompared) 57 = .ok (.aload_n 0, 1) := by decide +kernel
theorem d_M_readCompared_58 : decode (mB Y_M_readCompared) 58 = .ok (.getfield 264, 3) := by decide +kernel
theorem d_M_readCompared_61 : decode (mB Y_M_readCompared) 61 = .ok (.bipush 61, 2) := by decide +kernel
theorem d_M_readCompared_63 : decode (mB Y_M_readCompared) 63 = .ok (.if_icmp .ne 8, 3) := by decide +kernel
theorem d_M_readCompared_66 : decode (mB Y_M_readCompared) 66 = .ok (.bipush 7, 2) := by decide +kernel
theorem d_M_readCompared_68 : decode (mB Y_M_readCompared) 68 = .ok (.goto 5, 3) := by decide +kernel
theorem d_M_readCompared_71 : decode (mB Y_M_readCompared) 71 = .ok (.bipush 8, 2) := by decide +kernel
theorem d_M_readCompared_73 : decode (mB Y_M_readCompared) 73 = .ok (.istore_n 1, 1) := by decide +kernel
theorem d_M_readCompared_74 : decode (mB Y_M_readCompared) 74 = .ok (.aload_n 0, 1) := by decide +kernel
theorem d_M_readCompared_75 : decode (mB Y_M_readCompared) 75 = .ok (.invokevirtual 303, 3) := by decide +kernel
theorem d_M_readCompared_78 : decode (mB Y_M_readCompared) 78 = .ok (.aload_n 0, 1) := by decide +kernel
theorem d_M_readCompared_79 : decode (mB Y_M_readCompared) 79 = .ok (.invokevirtual 315, 3) := by decide +kernel
theorem d_M_readCompared_82 : decode (mB Y_M_readCompared) 82 = .ok (.iconst (-1), 1) := by decide +kernel
theorem d_M_readCompared_83 : decode (mB Y_M_readCompared) 83 = .ok (.if_icmp .ne 5, 3) := by decide +kernel
theorem d_M_readCompared_86 : decode (mB Y_M_readCompared) 86 = .ok (.iconst (-1), 1) := by decide +kernel
theorem d_M_readCompared_87 : decode (mB Y_M_readCompared) 87 = .ok (.ireturn, 1) := by decide +kernel
theorem d_M_readCompared_88 : decode (mB Y_M_readCompared) 88 = .ok (.aload_n 0, 1) := by decide +kernel
theorem d_M_readCompared_89 : decode (mB Y_M_readCompared) 89 = .ok (.iload_n 1, 1) := by decide +kernel
theorem d_M_readCompared_90 : decode (mB Y_M_readCompared) 90 = .ok (.iconst 0, 1) := by decide +kernel
theorem d_M_readCompared_91 : decode (mB Y_M_readCompared) 91 = .ok (.invokevirtual 300, 3) := by decide +kernel
theorem d_M_readCompared_94 : decode (mB Y_M_readCompared) 94 = .ok (.iconst 0, 1) := by decide +kernel
theorem d_M_readCompared_95 : decode (mB Y_M_readCompared) 95 = .ok (.ireturn, 1) := by decide +kernel
theorem ro_M_readCompared_M_emits : roomy Y_M_readCompared Y_M_emits := ⟨Nat.le_of_ble_eq_true rfl, Nat.le_of_ble_eq_true rfl⟩
theorem ro_M_readCompared_M_fails : roomy Y_M_readCompared Y_M_fails := ⟨Nat.le_of_ble_eq_true rfl, Nat.le_of_ble_eq_true rfl⟩
theorem ro_M_readCompared_M_isSign : roomy Y_M_readCompared Y_M_isSign := ⟨Nat.le_of_ble_eq_true rfl, Nat.le_of_ble_eq_true rfl⟩
theorem ro_M_readCompared_M_readSum : roomy Y_M_readCompared Y_M_readSum := ⟨Nat.le_of_ble_eq_true rfl, Nat.le_of_ble_eq_true rfl⟩
theorem ro_M_readCompared_M_reads : roomy Y_M_readCompared Y_M_reads := ⟨Nat.le_of_ble_eq_true rfl, Nat.le_of_ble_eq_true rfl⟩
def r_M_readCompared  (S : Sto) : Option (Int32 × Sto) :=
  (r_M_readSum S).bind (fun (r1, S2) =>
  if r1 = (-1) then
    some ((-1), S2)
  else
    jn (fun (_ : Unit) =>
      jn (fun (v3 : Int32) =>
        (r_M_reads S2).bind (fun S4 =>
        (r_M_readSum S4).bind (fun (r5, S6) =>
        if r5 = (-1) then
          some ((-1), S6)
        else
          (r_M_emits v3 0 S6).bind (fun S7 =>
          some (0, S7))))) (fun j73 =>
      if (S2 104 31) = 60 then
        j73 (6)
      else
        if (S2 104 31) = 61 then
          j73 (7)
        else
          j73 (8))) (fun j43 =>
    if (r_M_isSign 60 S2) = 0 then
      if (r_M_isSign 61 S2) = 0 then
        if (r_M_isSign 62 S2) = 0 then
          (r_M_fails 1 S2).bind (fun (r8, S9) =>
          some (r8, S9))
        else
          j43 ()
      else
        j43 ()
    else
      j43 ()))
set_option maxHeartbeats 4000000 in
set_option maxRecDepth 20000 in
theorem c_M_readCompared {G : Gl} {L : Shp} (hL : Ext L) (S : Sto)   : Ct Y_M_readCompared G [rf G 104] L S (fi L) (r_M_readCompared S) := by
  refine ct_of (by decide +kernel) (Nat.le_of_ble_eq_true rfl) (fun g C => ?_)
  show VO g Y_M_readCompared G (fun z => Qm g Y_M_readCompared G (fi L z)) 0 0 0 [(0, rf G 104)] [] L S (r_M_readCompared S) some
  unfold r_M_readCompared
  refine v_aload_n (pc := 0) C d_M_readCompared_0 rfl 0 rfl ?_
  refine v_ci (pc := 1) (inv_V (As := []) (st := []) C ml_M_315 mv_M_readSum ro_M_readCompared_M_readSum (sh_104 hL) rfl rfl rfl rfl (Nat.le_of_ble_eq_true rfl) d_M_readCompared_1) (c_M_readSum hL S) ⟨rfl, rfl⟩ ⟨Nat.zero_le _, Nat.zero_le _⟩ (fun r1 S2 => ?_)
  refine v_iconst (pc := 4) C d_M_readCompared_4 ic_m1 ?_
  refine v_icmp_ne (pc := 5) (tgt := 10) C d_M_readCompared_5 rfl (fun _ => ?_) (fun _ => ?_)
  · refine v_aload_n (pc := 10) C d_M_readCompared_10 rfl 0 rfl ?_
    refine v_bipush (pc := 11) C d_M_readCompared_11 bp_60 ?_
    refine v_ct (pc := 13) (inv_V (As := [.int 60]) (st := []) C ml_M_309 mv_M_isSign ro_M_readCompared_M_isSign (sh_104 hL) rfl rfl rfl rfl (Nat.le_of_ble_eq_true rfl) d_M_readCompared_13) (c_M_isSign hL S2 60) ⟨rfl, rfl⟩ ⟨Nat.zero_le _, Nat.zero_le _⟩ ?_
    refine v_jn (fun j => VO g Y_M_readCompared G (fun z => Qm g Y_M_readCompared G (fi L z)) 0 0 43 [(0, rf G 104)] [] L S2 (j ()) some) (?_) (fun j43 hj43 => ?_)
    · refine v_aload_n (pc := 43) C d_M_readCompared_43 rfl 0 rfl ?_
      refine v_getI (pc := 44) C fl_M_264 (sh_104 hL) rfl d_M_readCompared_44 ?_
      refine v_bipush (pc := 47) C d_M_readCompared_47 bp_60 ?_
      refine v_jn (fun j => ∀ (v3 : Int32), VO g Y_M_readCompared G (fun z => Qm g Y_M_readCompared G (fi L z)) 0 0 73 [(0, rf G 104)] [.int v3] L S2 (j (v3)) some) (fun v3 => ?_) (fun j73 hj73 => ?_)
      · refine v_istore_n (pc := 73) (lv' := [(1, .int v3), (0, rf G 104)]) C d_M_readCompared_73 rfl (by decide) rfl ?_
        refine v_aload_n (pc := 74) C d_M_readCompared_74 rfl 1 rfl ?_
        refine v_cv (pc := 75) (inv_V (As := []) (st := []) C ml_M_303 mv_M_reads ro_M_readCompared_M_reads (sh_104 hL) rfl rfl rfl rfl (Nat.le_of_ble_eq_true rfl) d_M_readCompared_75) (c_M_reads hL S2) ⟨rfl, rfl⟩ ⟨Nat.zero_le _, Nat.zero_le _⟩ (fun S4 => ?_)
        refine v_aload_n (pc := 78) C d_M_readCompared_78 rfl 1 rfl ?_
        refine v_ci (pc := 79) (inv_V (As := []) (st := []) C ml_M_315 mv_M_readSum ro_M_readCompared_M_readSum (sh_104 hL) rfl rfl rfl rfl (Nat.le_of_ble_eq_true rfl) d_M_readCompared_79) (c_M_readSum hL S4) ⟨rfl, rfl⟩ ⟨Nat.zero_le _, Nat.zero_le _⟩ (fun r5 S6 => ?_)
        refine v_iconst (pc := 82) C d_M_readCompared_82 ic_m1 ?_
        refine v_icmp_ne (pc := 83) (tgt := 88) C d_M_readCompared_83 rfl (fun _ => ?_) (fun _ => ?_)
        · refine v_aload_n (pc := 88) C d_M_readCompared_88 rfl 1 rfl ?_
          refine v_iload_n (pc := 89) C d_M_readCompared_89 rfl 0 rfl ?_
          refine v_iconst (pc := 90) C d_M_readCompared_90 ic_0 ?_
          refine v_cv (pc := 91) (inv_V (As := [.int v3, .int 0]) (st := []) C ml_M_300 mv_M_emits ro_M_readCompared_M_emits (sh_104 hL) rfl rfl rfl rfl (Nat.le_of_ble_eq_true rfl) d_M_readCompared_91) (c_M_emits hL S6 v3 0) ⟨rfl, rfl⟩ ⟨Nat.zero_le _, Nat.zero_le _⟩ (fun S7 => ?_)
          refine v_iconst (pc := 94) C d_M_readCompared_94 ic_0 ?_
          exact v_iret (z := (0, S7)) C d_M_readCompared_95 rfl ⟨Nat.zero_le _, Nat.zero_le _⟩ (rfl) rfl
        · refine v_iconst (pc := 86) C d_M_readCompared_86 ic_m1 ?_
          exact v_iret (z := ((-1), S6)) C d_M_readCompared_87 rfl ⟨Nat.zero_le _, Nat.zero_le _⟩ (rfl) rfl
      · refine v_icmp_ne (pc := 49) (tgt := 57) C d_M_readCompared_49 rfl (fun _ => ?_) (fun _ => ?_)
        · refine v_aload_n (pc := 57) C d_M_readCompared_57 rfl 0 rfl ?_
          refine v_getI (pc := 58) C fl_M_264 (sh_104 hL) rfl d_M_readCompared_58 ?_
          refine v_bipush (pc := 61) C d_M_readCompared_61 bp_61 ?_
          refine v_icmp_ne (pc := 63) (tgt := 71) C d_M_readCompared_63 rfl (fun _ => ?_) (fun _ => ?_)
          · refine v_bipush (pc := 71) C d_M_readCompared_71 bp_8 ?_
            exact hj73 8
          · refine v_bipush (pc := 66) C d_M_readCompared_66 bp_7 ?_
            refine v_goto (pc := 68) (tgt := 73) C d_M_readCompared_68 rfl ?_
            exact hj73 7
        · refine v_bipush (pc := 52) C d_M_readCompared_52 bp_6 ?_
          refine v_goto (pc := 54) (tgt := 73) C d_M_readCompared_54 rfl ?_
          exact hj73 6
    · refine v_if_ne (pc := 16) (tgt := 43) C d_M_readCompared_16 rfl (fun _ => ?_) (fun _ => ?_)
      · exact hj43
      · refine v_aload_n (pc := 19) C d_M_readCompared_19 rfl 0 rfl ?_
        refine v_bipush (pc := 20) C d_M_readCompared_20 bp_61 ?_
        refine v_ct (pc := 22) (inv_V (As := [.int 61]) (st := []) C ml_M_309 mv_M_isSign ro_M_readCompared_M_isSign (sh_104 hL) rfl rfl rfl rfl (Nat.le_of_ble_eq_true rfl) d_M_readCompared_22) (c_M_isSign hL S2 61) ⟨rfl, rfl⟩ ⟨Nat.zero_le _, Nat.zero_le _⟩ ?_
        refine v_if_ne (pc := 25) (tgt := 43) C d_M_readCompared_25 rfl (fun _ => ?_) (fun _ => ?_)
        · exact hj43
        · refine v_aload_n (pc := 28) C d_M_readCompared_28 rfl 0 rfl ?_
          refine v_bipush (pc := 29) C d_M_readCompared_29 bp_62 ?_
          refine v_ct (pc := 31) (inv_V (As := [.int 62]) (st := []) C ml_M_309 mv_M_isSign ro_M_readCompared_M_isSign (sh_104 hL) rfl rfl rfl rfl (Nat.le_of_ble_eq_true rfl) d_M_readCompared_31) (c_M_isSign hL S2 62) ⟨rfl, rfl⟩ ⟨Nat.zero_le _, Nat.zero_le _⟩ ?_
          refine v_if_ne (pc := 34) (tgt := 43) C d_M_readCompared_34 rfl (fun _ => ?_) (fun _ => ?_)
          · exact hj43
          · refine v_aload_n (pc := 37) C d_M_readCompared_37 rfl 0 rfl ?_
            refine v_iconst (pc := 38) C d_M_readCompared_38 ic_1 ?_
            refine v_ci (pc := 39) (inv_V (As := [.int 1]) (st := []) C ml_M_297 mv_M_fails ro_M_readCompared_M_fails (sh_104 hL) rfl rfl rfl rfl (Nat.le_of_ble_eq_true rfl) d_M_readCompared_39) (c_M_fails hL S2 1) ⟨rfl, rfl⟩ ⟨Nat.zero_le _, Nat.zero_le _⟩ (fun r8 S9 => ?_)
            exact v_iret (z := (r8, S9)) C d_M_readCompared_42 rfl ⟨Nat.zero_le _, Nat.zero_le _⟩ (rfl) rfl
  · refine v_iconst (pc := 8) C d_M_readCompared_8 ic_m1 ?_
    exact v_iret (z := ((-1), S2)) C d_M_readCompared_9 rfl ⟨Nat.zero_le _, Nat.zero_le _⟩ (rfl) rfl
-- M_settles
theorem d_M_settles_0 : decode (mB Y_M_settles) 0 = .ok (.aload_n 0, 1) := by decide +kernel
theorem d_M_settles_1 : decode (mB Y_M_settles) 1 = .ok (.getfield 318, 3) := by decide +kernel
theorem d_M_settles_4 : decode (mB Y_M_settles) 4 = .ok (.ifCond .le 53, 3) := by decide +kernel
theorem d_M_settles_7 : decode (mB Y_M_settles) 7 = .ok (.aload_n 0, 1) := by decide +kernel
theorem d_M_settles_8 : decode (mB Y_M_settles) 8 = .ok (.getfield 81, 3) := by decide +kernel
theorem d_M_settles_11 : decode (mB Y_M_settles) 11 = .ok (.aload_n 0, 1) := by decide +kernel
theorem d_M_settles_12 : decode (mB Y_M_settles) 12 = .ok (.getfield 318, 3) := by decide +kernel
theorem d_M_settles_15 : decode (mB Y_M_settles) 15 = .ok (.iconst 1, 1) := by decide +kernel
theorem d_M_settles_16 : decode (mB Y_M_settles) 16 = .ok (.isub, 1) := by decide +kernel
theorem d_M_settles_17 : decode (mB Y_M_settles) 17 = .ok (.iaload, 1) := by decide +kernel
theorem d_M_settles_18 : decode (mB Y_M_settles) 18 = .ok (.iload_n 1, 1) := by decide +kernel
theorem d_M_settles_19 : decode (mB Y_M_settles) 19 = .ok (.if_icmp .ne 38, 3) := by decide +kernel
theorem d_M_settles_22 : decode (mB Y_M_settles) 22 = .ok (.aload_n 0, 1) := by decide +kernel
theorem d_M_settles_23 : decode (mB Y_M_settles) 23 = .ok (.aload_n 0, 1) := by decide +kernel
theorem d_M_settles_24 : decode (mB Y_M_settles) 24 = .ok (.getfield 318, 3) := by decide +kernel
theorem d_M_settles_27 : decode (mB Y_M_settles) 27 = .ok (.iconst 1, 1) := by decide +kernel
theorem d_M_settles_28 : decode (mB Y_M_settles) 28 = .ok (.isub, 1) := by decide +kernel
theorem d_M_settles_29 : decode (mB Y_M_settles) 29 = .ok (.putfield 318, 3) := by decide +kernel
theorem d_M_settles_32 : decode (mB Y_M_settles) 32 = .ok (.aload_n 0, 1) := by decide +kernel
theorem d_M_settles_33 : decode (mB Y_M_settles) 33 = .ok (.iload_n 1, 1) := by decide +kernel
theorem d_M_settles_34 : decode (mB Y_M_settles) 34 = .ok (.iconst 0, 1) := by decide +kernel
theorem d_M_settles_35 : decode (mB Y_M_settles) 35 = .ok (.invokevirtual 300, 3) := by decide +kernel
theorem d_M_settles_38 : decode (mB Y_M_settles) 38 = .ok (.iload_n 1, 1) := by decide +kernel
theorem d_M_settles_39 : decode (mB Y_M_settles) 39 = .ok (.bipush 9, 2) := by decide +kernel
theorem d_M_settles_41 : decode (mB Y_M_settles) 41 = .ok (.if_icmp .ne (-41), 3) := by decide +kernel
theorem d_M_settles_44 : decode (mB Y_M_settles) 44 = .ok (.aload_n 0, 1) := by decide +kernel
theorem d_M_settles_45 : decode (mB Y_M_settles) 45 = .ok (.aload_n 0, 1) := by decide +kernel
theorem d_M_settles_46 : decode (mB Y_M_settles) 46 = .ok (.getfield 321, 3) := by decide +kernel
theorem d_M_settles_49 : decode (mB Y_M_settles) 49 = .ok (.iconst 1, 1) := by decide +kernel
theorem d_M_settles_50 : decode (mB Y_M_settles) 50 = .ok (.isub, 1) := by decide +kernel
theorem d_M_settles_51 : decode (mB Y_M_settles) 51 = .ok (.putfield 321, 3) := by decide +kernel
theorem d_M_settles_54 : decode (mB Y_M_settles) 54 = .ok (.goto (-54), 3) := by decide +kernel
theorem d_M_settles_57 : decode (mB Y_M_settles) 57 = .ok (.return_, 1) := by decide +kernel
theorem ro_M_settles_M_emits : roomy Y_M_settles Y_M_emits := ⟨Nat.le_of_ble_eq_true rfl, Nat.le_of_ble_eq_true rfl⟩
def r_M_settles_L0 (y1_ : Int32) : Nat → Sto → Option (Sto)
  | 0, _ => none
  | n + 1, S =>
    if (S 104 43) ≤ 0 then
      some (S)
    else
      chk (inr ((S 104 43) - 1) 40) (
      if (S 126 (((S 104 43) - 1).toNatClampNeg)) = y1_ then
        ltS (sw S 104 43 ((S 104 43) - 1)) (fun S1 =>
        (r_M_emits y1_ 0 S1).bind (fun S2 =>
        if y1_ = 9 then
          ltS (sw S2 104 41 ((S2 104 41) - 1)) (fun S3 =>
          r_M_settles_L0 y1_ n S3)
        else
          r_M_settles_L0 y1_ n S2))
      else
        some (S))
set_option maxHeartbeats 4000000 in
set_option maxRecDepth 20000 in
theorem w_M_settles_L0 {g : Gm} {G : Gl} {L : Shp} (C : Cx g Y_M_settles G) (hL : Ext L) (y1_ : Int32)  :
    ∀ (n : Nat)  (S : Sto) (K : (Sto) → Option Sto), (∀ (S : Sto), VO g Y_M_settles G (fun z => Qm g Y_M_settles G (fv L z)) 0 0 57 [] [] L S (some (S)) K) → VO g Y_M_settles G (fun z => Qm g Y_M_settles G (fv L z)) 0 0 0 [(0, rf G 104), (1, .int y1_)] [] L S (r_M_settles_L0 y1_ n S) K := by
  intro n
  induction n with
  | zero => intro S K; intros; exact v_none
  | succ n ih =>
    intro S K hK
    rw [r_M_settles_L0]
    refine v_aload_n (pc := 0) C d_M_settles_0 rfl 0 rfl ?_
    refine v_getI (pc := 1) C fl_M_318 (sh_104 hL) rfl d_M_settles_1 ?_
    refine v_if_le (pc := 4) (tgt := 57) C d_M_settles_4 rfl (fun _ => ?_) (fun _ => ?_)
    · refine v_sub [] rfl ?_
      exact hK S
    · refine v_aload_n (pc := 7) C d_M_settles_7 rfl 0 rfl ?_
      refine v_getR (pc := 8) C fl_M_81 (sh_104 hL) rfl d_M_settles_8 ?_
      refine v_aload_n (pc := 11) C d_M_settles_11 rfl 0 rfl ?_
      refine v_getI (pc := 12) C fl_M_318 (sh_104 hL) rfl d_M_settles_12 ?_
      refine v_iconst (pc := 15) C d_M_settles_15 ic_1 ?_
      refine v_isub (pc := 16) C d_M_settles_16 ?_
      refine v_iald (pc := 17) C (sh_126 hL) d_M_settles_17 (fun _ => ?_)
      refine v_iload_n (pc := 18) C d_M_settles_18 rfl 1 rfl ?_
      refine v_icmp_ne (pc := 19) (tgt := 57) C d_M_settles_19 rfl (fun _ => ?_) (fun _ => ?_)
      · refine v_sub [] rfl ?_
        exact hK S
      · refine v_aload_n (pc := 22) C d_M_settles_22 rfl 0 rfl ?_
        refine v_aload_n (pc := 23) C d_M_settles_23 rfl 0 rfl ?_
        refine v_getI (pc := 24) C fl_M_318 (sh_104 hL) rfl d_M_settles_24 ?_
        refine v_iconst (pc := 27) C d_M_settles_27 ic_1 ?_
        refine v_isub (pc := 28) C d_M_settles_28 ?_
        refine v_putI (pc := 29) C fp_M_318 (sh_104 hL) rfl d_M_settles_29 (fun S1 => ?_)
        refine v_aload_n (pc := 32) C d_M_settles_32 rfl 0 rfl ?_
        refine v_iload_n (pc := 33) C d_M_settles_33 rfl 1 rfl ?_
        refine v_iconst (pc := 34) C d_M_settles_34 ic_0 ?_
        refine v_cv (pc := 35) (inv_V (As := [.int y1_, .int 0]) (st := []) C ml_M_300 mv_M_emits ro_M_settles_M_emits (sh_104 hL) rfl rfl rfl rfl (Nat.le_of_ble_eq_true rfl) d_M_settles_35) (c_M_emits hL S1 y1_ 0) ⟨rfl, rfl⟩ ⟨Nat.zero_le _, Nat.zero_le _⟩ (fun S2 => ?_)
        refine v_iload_n (pc := 38) C d_M_settles_38 rfl 1 rfl ?_
        refine v_bipush (pc := 39) C d_M_settles_39 bp_9 ?_
        refine v_icmp_ne (pc := 41) (tgt := 0) C d_M_settles_41 rfl (fun _ => ?_) (fun _ => ?_)
        · exact ih S2 K hK
        · refine v_aload_n (pc := 44) C d_M_settles_44 rfl 0 rfl ?_
          refine v_aload_n (pc := 45) C d_M_settles_45 rfl 0 rfl ?_
          refine v_getI (pc := 46) C fl_M_321 (sh_104 hL) rfl d_M_settles_46 ?_
          refine v_iconst (pc := 49) C d_M_settles_49 ic_1 ?_
          refine v_isub (pc := 50) C d_M_settles_50 ?_
          refine v_putI (pc := 51) C fp_M_321 (sh_104 hL) rfl d_M_settles_51 (fun S3 => ?_)
          refine v_goto (pc := 54) (tgt := 0) C d_M_settles_54 rfl ?_
          exact ih S3 K hK
def r_M_settles (x1 : Int32) (S : Sto) : Option Sto :=
  (r_M_settles_L0 x1 fu S).bind (fun (S1) =>
  some S1)
set_option maxHeartbeats 4000000 in
set_option maxRecDepth 20000 in
theorem c_M_settles {G : Gl} {L : Shp} (hL : Ext L) (S : Sto) (x1 : Int32)  : Ct Y_M_settles G [rf G 104, .int x1] L S (fv L) (r_M_settles x1 S) := by
  refine ct_of (by decide +kernel) (Nat.le_of_ble_eq_true rfl) (fun g C => ?_)
  show VO g Y_M_settles G (fun z => Qm g Y_M_settles G (fv L z)) 0 0 0 [(0, rf G 104), (1, .int x1)] [] L S (r_M_settles x1 S) some
  unfold r_M_settles
  refine v_bind ?_
  refine w_M_settles_L0 C hL x1  fu S _ (fun S1 => ?_) 
  refine v_some ?_
  exact v_vret C d_M_settles_57 rfl ⟨Nat.zero_le _, Nat.zero_le _⟩ rfl rfl
-- M_readAny
theorem d_M_readAny_0 : decode (mB Y_M_readAny) 0 = .ok (.iconst 0, 1) := by decide +kernel
theorem d_M_readAny_1 : decode (mB Y_M_readAny) 1 = .ok (.istore_n 1, 1) := by decide +kernel
theorem d_M_readAny_2 : decode (mB Y_M_readAny) 2 = .ok (.aload_n 0, 1) := by decide +kernel
theorem d_M_readAny_3 : decode (mB Y_M_readAny) 3 = .ok (.iconst 0, 1) := by decide +kernel
theorem d_M_readAny_4 : decode (mB Y_M_readAny) 4 = .ok (.putfield 318, 3) := by decide +kernel
theorem d_M_readAny_7 : decode (mB Y_M_readAny) 7 = .ok (.iconst 1, 1) := by decide +kernel
theorem d_M_readAny_8 : decode (mB Y_M_readAny) 8 = .ok (.istore_n 2, 1) := by decide +kernel
theorem d_M_readAny_9 : decode (mB Y_M_readAny) 9 = .ok (.iload_n 2, 1) := by decide +kernel
theorem d_M_readAny_10 : decode (mB Y_M_readAny) 10 = .ok (.ifCond .eq 99, 3) := by decide +kernel
theorem d_M_readAny_13 : decode (mB Y_M_readAny) 13 = .ok (.aload_n 0, 1) := by decide +kernel
theorem d_M_readAny_14 : decode (mB Y_M_readAny) 14 = .ok (.bipush 8, 2) := by decide +kernel
theorem d_M_readAny_16 : decode (mB Y_M_readAny) 16 = .ok (.invokevirtual 324, 3) := by decide +kernel
theorem d_M_readAny_19 : decode (mB Y_M_readAny) 19 = .ok (.istore_n 3, 1) := by decide +kernel
theorem d_M_readAny_20 : decode (mB Y_M_readAny) 20 = .ok (.iload_n 3, 1) := by decide +kernel
theorem d_M_readAny_21 : decode (mB Y_M_readAny) 21 = .ok (.ifCond .ne 12, 3) := by decide +kernel
theorem d_M_readAny_24 : decode (mB Y_M_readAny) 24 = .ok (.aload_n 0, 1) := by decide +kernel
theorem d_M_readAny_25 : decode (mB Y_M_readAny) 25 = .ok (.bipush 40, 2) := by decide +kernel
theorem d_M_readAny_27 : decode (mB Y_M_readAny) 27 = .ok (.invokevirtual 309, 3) := by decide +kernel
theorem d_M_readAny_30 : decode (mB Y_M_readAny) 30 = .ok (.ifCond .eq 58, 3) := by decide +kernel
theorem d_M_readAny_33 : decode (mB Y_M_readAny) 33 = .ok (.aload_n 0, 1) := by decide +kernel
theorem d_M_readAny_34 : decode (mB Y_M_readAny) 34 = .ok (.getfield 321, 3) := by decide +kernel
theorem d_M_readAny_37 : decode (mB Y_M_readAny) 37 = .ok (.bipush 8, 2) := by decide +kernel
theorem d_M_readAny_39 : decode (mB Y_M_readAny) 39 = .ok (.if_icmp .ne 9, 3) := by decide +kernel
theorem d_M_readAny_42 : decode (mB Y_M_readAny) 42 = .ok (.aload_n 0, 1) := by decide +kernel
theorem d_M_readAny_43 : decode (mB Y_M_readAny) 43 = .ok (.iconst 3, 1) := by decide +kernel
theorem d_M_readAny_44 : decode (mB Y_M_readAny) 44 = .ok (.invokevirtual 297, 3) := by decide +kernel
theorem d_M_readAny_47 : decode (mB Y_M_readAny) 47 = .ok (.ireturn, 1) := by decide +kernel
theorem d_M_readAny_48 : decode (mB Y_M_readAny) 48 = .ok (.aload_n 0, 1) := by decide +kernel
theorem d_M_readAny_49 : decode (mB Y_M_readAny) 49 = .ok (.aload_n 0, 1) := by decide +kernel
theorem d_M_readAny_50 : decode (mB Y_M_readAny) 50 = .ok (.getfield 321, 3) := by decide +kernel
theorem d_M_readAny_53 : decode (mB Y_M_readAny) 53 = .ok (.iconst 1, 1) := by decide +kernel
theorem d_M_readAny_54 : decode (mB Y_M_readAny) 54 = .ok (.iadd, 1) := by decide +kernel
theorem d_M_readAny_55 : decode (mB Y_M_readAny) 55 = .ok (.putfield 321, 3) := by decide +kernel
theorem d_M_readAny_58 : decode (mB Y_M_readAny) 58 = .ok (.iload_n 3, 1) := by decide +kernel
theorem d_M_readAny_59 : decode (mB Y_M_readAny) 59 = .ok (.ifCond .ne 7, 3) := by decide +kernel
theorem d_M_readAny_62 : decode (mB Y_M_readAny) 62 = .ok (.iload_n 1, 1) := by decide +kernel
theorem d_M_readAny_63 : decode (mB Y_M_readAny) 63 = .ok (.iconst 1, 1) := by decide +kernel
theorem d_M_readAny_64 : decode (mB Y_M_readAny) 64 = .ok (.iadd, 1) := by decide +kernel
theorem d_M_readAny_65 : decode (mB Y_M_readAny) 65 = .ok (.istore_n 1, 1) := by decide +kernel
theorem d_M_readAny_66 : decode (mB Y_M_readAny) 66 = .ok (.aload_n 0, 1) := by decide +kernel
theorem d_M_readAny_67 : decode (mB Y_M_readAny) 67 = .ok (.iload_n 3, 1) := by decide +kernel
theorem d_M_readAny_68 : decode (mB Y_M_readAny) 68 = .ok (.ifCond .eq 8, 3) := by decide +kernel
theorem d_M_readAny_71 : decode (mB Y_M_readAny) 71 = .ok (.bipush 9, 2) := by decide +kernel
theorem d_M_readAny_73 : decode (mB Y_M_readAny) 73 = .ok (.goto 5, 3) := by decide +kernel
theorem d_M_readAny_76 : decode (mB Y_M_readAny) 76 = .ok (.bipush 12, 2) := by decide +kernel
theorem d_M_readAny_78 : decode (mB Y_M_readAny) 78 = .ok (.invokevirtual 327, 3) := by decide +kernel
theorem d_M_readAny_81 : decode (mB Y_M_readAny) 81 = .ok (.aload_n 0, 1) := by decide +kernel
theorem d_M_readAny_82 : decode (mB Y_M_readAny) 82 = .ok (.invokevirtual 303, 3) := by decide +kernel
theorem d_M_readAny_85 : decode (mB Y_M_readAny) 85 = .ok (.goto (-76), 3) := by decide +kernel
theorem d_M_readAny_88 : decode (mB Y_M_readAny) 88 = .ok (.aload_n 0, 1) := by decide +kernel
theorem d_M_readAny_89 : decode (mB Y_M_readAny) 89 = .ok (.invokevirtual 330, 3) := by decide +kernel
theorem d_M_readAny_92 : decode (mB Y_M_readAny) 92 = .ok (.iconst (-1), 1) := by decide +kernel
theorem d_M_readAny_93 : decode (mB Y_M_readAny) 93 = .ok (.if_icmp .ne 5, 3) := by decide +kernel
theorem d_M_readAny_96 : decode (mB Y_M_readAny) 96 = .ok (.iconst (-1), 1) := by decide +kernel
theorem d_M_readAny_97 : decode (mB Y_M_readAny) 97 = .ok (.ireturn, 1) := by decide +kernel
theorem d_M_readAny_98 : decode (mB Y_M_readAny) 98 = .ok (.aload_n 0, 1) := by decide +kernel
theorem d_M_readAny_99 : decode (mB Y_M_readAny) 99 = .ok (.bipush 9, 2) := by decide +kernel
theorem d_M_readAny_101 : decode (mB Y_M_readAny) 101 = .ok (.invokevirtual 333, 3) := by decide +kernel
theorem d_M_readAny_104 : decode (mB Y_M_readAny) 104 = .ok (.iconst 0, 1) := by decide +kernel
theorem d_M_readAny_105 : decode (mB Y_M_readAny) 105 = .ok (.istore_n 2, 1) := by decide +kernel
theorem d_M_readAny_106 : decode (mB Y_M_readAny) 106 = .ok (.goto (-97), 3) := by decide +kernel
theorem d_M_readAny_109 : decode (mB Y_M_readAny) 109 = .ok (.aload_n 0, 1) := by decide +kernel
theorem d_M_readAny_110 : decode (mB Y_M_readAny) 110 = .ok (.bipush 7, 2) := by decide +kernel
theorem d_M_readAny_112 : decode (mB Y_M_readAny) 112 = .ok (.invokevirtual 324, 3) := by decide +kernel
theorem d_M_readAny_115 : decode (mB Y_M_readAny) 115 = .ok (.ifCond .eq 24, 3) := by decide +kernel
theorem d_M_readAny_118 : decode (mB Y_M_readAny) 118 = .ok (.aload_n 0, 1) := by decide +kernel
theorem d_M_readAny_119 : decode (mB Y_M_readAny) 119 = .ok (.bipush 10, 2) := by decide +kernel
theorem d_M_readAny_121 : decode (mB Y_M_readAny) 121 = .ok (.invokevirtual 333, 3) := by decide +kernel
theorem d_M_readAny_124 : decode (mB Y_M_readAny) 124 = .ok (.aload_n 0, 1) := by decide +kernel
theorem d_M_readAny_125 : decode (mB Y_M_readAny) 125 = .ok (.bipush 10, 2) := by decide +kernel
theorem d_M_readAny_127 : decode (mB Y_M_readAny) 127 = .ok (.invokevirtual 327, 3) := by decide +kernel
theorem d_M_readAny_130 : decode (mB Y_M_readAny) 130 = .ok (.aload_n 0, 1) := by decide +kernel
theorem d_M_readAny_131 : decode (mB Y_M_readAny) 131 = .ok (.invokevirtual 303, 3) := by decide +kernel
theorem d_M_readAny_134 : decode (mB Y_M_readAny) 134 = .ok (.iconst 1, 1) := by decide +kernel
theorem d_M_readAny_135 : decode (mB Y_M_readAny) 135 = .ok (.istore_n 2, 1) := by decide +kernel
theorem d_M_readAny_136 : decode (mB Y_M_readAny) 136 = .ok (.goto (-127), 3) := by decide +kernel
theorem d_M_readAny_139 : decode (mB Y_M_readAny) 139 = .ok (.aload_n 0, 1) := by decide +kernel
theorem d_M_readAny_140 : decode (mB Y_M_readAny) 140 = .ok (.bipush 6, 2) := by decide +kernel
theorem d_M_readAny_142 : decode (mB Y_M_readAny) 142 = .ok (.invokevirtual 324, 3) := by decide +kernel
theorem d_M_readAny_145 : decode (mB Y_M_readAny) 145 = .ok (.ifCond .eq 30, 3) := by decide +kernel
theorem d_M_readAny_148 : decode (mB Y_M_readAny) 148 = .ok (.aload_n 0, 1) := by decide +kernel
theorem d_M_readAny_149 : decode (mB Y_M_readAny) 149 = .ok (.bipush 10, 2) := by decide +kernel
theorem d_M_readAny_151 : decode (mB Y_M_readAny) 151 = .ok (.invokevirtual 333, 3) := by decide +kernel
theorem d_M_readAny_154 : decode (mB Y_M_readAny) 154 = .ok (.aload_n 0, 1) := by decide +kernel
theorem d_M_readAny_155 : decode (mB Y_M_readAny) 155 = .ok (.bipush 11, 2) := by decide +kernel
theorem d_M_readAny_157 : decode (mB Y_M_readAny) 157 = .ok (.invokevirtual 333, 3) := by decide +kernel
theorem d_M_readAny_160 : decode (mB Y_M_readAny) 160 = .ok (.aload_n 0, 1) := by decide +kernel
theorem d_M_readAny_161 : decode (mB Y_M_readAny) 161 = .ok (.bipush 11, 2) := by decide +kernel
theorem d_M_readAny_163 : decode (mB Y_M_readAny) 163 = .ok (.invokevirtual 327, 3) := by decide +kernel
theorem d_M_readAny_166 : decode (mB Y_M_readAny) 166 = .ok (.aload_n 0, 1) := by decide +kernel
theorem d_M_readAny_167 : decode (mB Y_M_readAny) 167 = .ok (.invokevirtual 303, 3) := by decide +kernel
theorem d_M_readAny_170 : decode (mB Y_M_readAny) 170 = .ok (.iconst 1, 1) := by decide +kernel
theorem d_M_readAny_171 : decode (mB Y_M_readAny) 171 = .ok (.istore_n 2, 1) := by decide +kernel
theorem d_M_readAny_172 : decode (mB Y_M_readAny) 172 = .ok (.goto (-163), 3) := by decide +kernel
theorem d_M_readAny_175 : decode (mB Y_M_readAny) 175 = .ok (.aload_n 0, 1) := by decide +kernel
theorem d_M_readAny_176 : decode (mB Y_M_readAny) 176 = .ok (.bipush 10, 2) := by decide +kernel
theorem d_M_readAny_178 : decode (mB Y_M_readAny) 178 = .ok (.invokevirtual 333, 3) := by decide +kernel
theorem d_M_readAny_181 : decode (mB Y_M_readAny) 181 = .ok (.aload_n 0, 1) := by decide +kernel
theorem d_M_readAny_182 : decode (mB Y_M_readAny) 182 = .ok (.bipush 11, 2) := by decide +kernel
theorem d_M_readAny_184 : decode (mB Y_M_readAny) 184 = .ok (.invokevirtual 333, 3) := by decide +kernel
theorem d_M_readAny_187 : decode (mB Y_M_readAny) 187 = .ok (.iload_n 1, 1) := by decide +kernel
theorem d_M_readAny_188 : decode (mB Y_M_readAny) 188 = .ok (.ifCond .ne 5, 3) := by decide +kernel
theorem d_M_readAny_191 : decode (mB Y_M_readAny) 191 = .ok (.iconst 0, 1) := by decide +kernel
theorem d_M_readAny_192 : decode (mB Y_M_readAny) 192 = .ok (.ireturn, 1) := by decide +kernel
theorem d_M_readAny_193 : decode (mB Y_M_readAny) 193 = .ok (.aload_n 0, 1) := by decide +kernel
theorem d_M_readAny_194 : decode (mB Y_M_readAny) 194 = .ok (.bipush 41, 2) := by decide +kernel
theorem d_M_readAny_196 : decode (mB Y_M_readAny) 196 = .ok (.invokevirtual 309, 3) := by decide +kernel
theorem d_M_readAny_199 : decode (mB Y_M_readAny) 199 = .ok (.ifCond .ne 9, 3) := by decide +kernel
theorem d_M_readAny_202 : decode (mB Y_M_readAny) 202 = .ok (.aload_n 0, 1) := by decide +kernel
theorem d_M_readAny_203 : decode (mB Y_M_readAny) 203 = .ok (.iconst 1, 1) := by decide +kernel
theorem d_M_readAny_204 : decode (mB Y_M_readAny) 204 = .ok (.invokevirtual 297, 3) := by decide +kernel
theorem d_M_readAny_207 : decode (mB Y_M_readAny) 207 = .ok (.ireturn, 1) := by decide +kernel
theorem d_M_readAny_208 : decode (mB Y_M_readAny) 208 = .ok (.aload_n 0, 1) := by decide +kernel
theorem d_M_readAny_209 : decode (mB Y_M_readAny) 209 = .ok (.aload_n 0, 1) := by decide +kernel
theorem d_M_readAny_210 : decode (mB Y_M_readAny) 210 = .ok (.getfield 318, 3) := by decide +kernel
theorem d_M_readAny_213 : decode (mB Y_M_readAny) 213 = .ok (.iconst 1, 1) := by decide +kernel
theorem d_M_readAny_214 : decode (mB Y_M_readAny) 214 = .ok (.isub, 1) := by decide +kernel
theorem d_M_readAny_215 : decode (mB Y_M_readAny) 215 = .ok (.putfield 318, 3) := by decide +kernel
theorem d_M_readAny_218 : decode (mB Y_M_readAny) 218 = .ok (.iload_n 1, 1) := by decide +kernel
theorem d_M_readAny_219 : decode (mB Y_M_readAny) 219 = .ok (.iconst 1, 1) := by decide +kernel
theorem d_M_readAny_220 : decode (mB Y_M_readAny) 220 = .ok (.isub, 1) := by decide +kernel
theorem d_M_readAny_221 : decode (mB Y_M_readAny) 221 = .ok (.istore_n 1, 1) := by decide +kernel
theorem d_M_readAny_222 : decode (mB Y_M_readAny) 222 = .ok (.aload_n 0, 1) := by decide +kernel
theorem d_M_readAny_223 : decode (mB Y_M_readAny) 223 = .ok (.aload_n 0, 1) := by decide +kernel
theorem d_M_readAny_224 : decode (mB Y_M_readAny) 224 = .ok (.getfield 321, 3) := by decide +kernel
theorem d_M_readAny_227 : decode (mB Y_M_readAny) 227 = .ok (.iconst 1, 1) := by decide +kernel
theorem d_M_readAny_228 : decode (mB Y_M_readAny) 228 = .ok (.isub, 1) := by decide +kernel
theorem d_M_readAny_229 : decode (mB Y_M_readAny) 229 = .ok (.putfield 321, 3) := by decide +kernel
theorem d_M_readAny_232 : decode (mB Y_M_readAny) 232 = .ok (.aload_n 0, 1) := by decide +kernel
theorem d_M_readAny_233 : decode (mB Y_M_readAny) 233 = .ok (.bipush 9, 2) := by decide +kernel
theorem d_M_readAny_235 : decode (mB Y_M_readAny) 235 = .ok (.invokevirtual 333, 3) := by decide +kernel
theorem d_M_readAny_238 : decode (mB Y_M_readAny) 238 = .ok (.aload_n 0, 1) := by decide +kernel
theorem d_M_readAny_239 : decode (mB Y_M_readAny) 239 = .ok (.invokevirtual 303, 3) := by decide +kernel
theorem d_M_readAny_242 : decode (mB Y_M_readAny) 242 = .ok (.goto (-233), 3) := by decide +kernel
theorem ro_M_readAny_M_fails : roomy Y_M_readAny Y_M_fails := ⟨Nat.le_of_ble_eq_true rfl, Nat.le_of_ble_eq_true rfl⟩
theorem ro_M_readAny_M_isSign : roomy Y_M_readAny Y_M_isSign := ⟨Nat.le_of_ble_eq_true rfl, Nat.le_of_ble_eq_true rfl⟩
theorem ro_M_readAny_M_isWord : roomy Y_M_readAny Y_M_isWord := ⟨Nat.le_of_ble_eq_true rfl, Nat.le_of_ble_eq_true rfl⟩
theorem ro_M_readAny_M_readCompared : roomy Y_M_readAny Y_M_readCompared := ⟨Nat.le_of_ble_eq_true rfl, Nat.le_of_ble_eq_true rfl⟩
theorem ro_M_readAny_M_reads : roomy Y_M_readAny Y_M_reads := ⟨Nat.le_of_ble_eq_true rfl, Nat.le_of_ble_eq_true rfl⟩
theorem ro_M_readAny_M_settles : roomy Y_M_readAny Y_M_settles := ⟨Nat.le_of_ble_eq_true rfl, Nat.le_of_ble_eq_true rfl⟩
theorem ro_M_readAny_M_waits : roomy Y_M_readAny Y_M_waits := ⟨Nat.le_of_ble_eq_true rfl, Nat.le_of_ble_eq_true rfl⟩
def r_M_readAny_L9  : Nat → Int32 → Int32 → Sto → Option ((Int32 × Int32 × Sto) ⊕ (Int32 × Sto))
  | 0, _, _, _ => none
  | n + 1, x1_, x2_, S =>
    if x2_ = 0 then
      if (r_M_isWord 7 S) = 0 then
        if (r_M_isWord 6 S) = 0 then
          (r_M_settles 10 S).bind (fun S1 =>
          (r_M_settles 11 S1).bind (fun S2 =>
          if x1_ = 0 then
            some (.inr (0, S2))
          else
            if (r_M_isSign 41 S2) = 0 then
              (r_M_fails 1 S2).bind (fun (r8, S9) =>
              some (.inr (r8, S9)))
            else
              ltS (sw S2 104 43 ((S2 104 43) - 1)) (fun S3 =>
              lt (x1_ - 1) (fun v4 =>
              ltS (sw S3 104 41 ((S3 104 41) - 1)) (fun S5 =>
              (r_M_settles 9 S5).bind (fun S6 =>
              (r_M_reads S6).bind (fun S7 =>
              r_M_readAny_L9 n v4 x2_ S7)))))))
        else
          (r_M_settles 10 S).bind (fun S10 =>
          (r_M_settles 11 S10).bind (fun S11 =>
          (r_M_waits 11 S11).bind (fun S12 =>
          (r_M_reads S12).bind (fun S13 =>
          r_M_readAny_L9 n x1_ 1 S13))))
      else
        (r_M_settles 10 S).bind (fun S14 =>
        (r_M_waits 10 S14).bind (fun S15 =>
        (r_M_reads S15).bind (fun S16 =>
        r_M_readAny_L9 n x1_ 1 S16)))
    else
      lt (r_M_isWord 8 S) (fun v17 =>
      jn (fun (_ : Unit) =>
        if (S 104 41) = 8 then
          some (.inl (x1_, x2_, S))
        else
          ltS (sw S 104 41 ((S 104 41) + 1)) (fun S18 =>
          jn (fun (v19 : Int32) =>
            jn (fun (v20 : Int32) =>
              (r_M_waits v20 S18).bind (fun S21 =>
              (r_M_reads S21).bind (fun S22 =>
              r_M_readAny_L9 n v19 x2_ S22))) (fun j78 =>
            if v17 = 0 then
              j78 (12)
            else
              j78 (9))) (fun j66 =>
          if v17 = 0 then
            lt (x1_ + 1) (fun v23 =>
            j66 (v23))
          else
            j66 (x1_)))) (fun j33 =>
      if v17 = 0 then
        if (r_M_isSign 40 S) = 0 then
          (r_M_readCompared S).bind (fun (r24, S25) =>
          if r24 = (-1) then
            some (.inr ((-1), S25))
          else
            (r_M_settles 9 S25).bind (fun S26 =>
            r_M_readAny_L9 n x1_ 0 S26))
        else
          j33 ()
      else
        j33 ()))
set_option maxHeartbeats 4000000 in
set_option maxRecDepth 20000 in
theorem w_M_readAny_L9 {g : Gm} {G : Gl} {L : Shp} (C : Cx g Y_M_readAny G) (hL : Ext L)  :
    ∀ (n : Nat) (x1_ : Int32) (x2_ : Int32) (S : Sto) (K : ((Int32 × Int32 × Sto) ⊕ (Int32 × Sto)) → Option (Int32 × Sto)), (∀ (x1_ : Int32) (x2_ : Int32) (S : Sto), VO g Y_M_readAny G (fun z => Qm g Y_M_readAny G (fi L z)) 0 0 42 [(0, rf G 104)] [] L S (some (.inl (x1_, x2_, S))) K) → (∀ x, K (.inr x) = some x) → VO g Y_M_readAny G (fun z => Qm g Y_M_readAny G (fi L z)) 0 0 9 [(0, rf G 104), (1, .int x1_), (2, .int x2_)] [] L S (r_M_readAny_L9 n x1_ x2_ S) K := by
  intro n
  induction n with
  | zero => intro x1_ x2_ S K; intros; exact v_none
  | succ n ih =>
    intro x1_ x2_ S K hK hR
    rw [r_M_readAny_L9]
    refine v_iload_n (pc := 9) C d_M_readAny_9 rfl 2 rfl ?_
    refine v_if_eq (pc := 10) (tgt := 109) C d_M_readAny_10 rfl (fun _ => ?_) (fun _ => ?_)
    · refine v_aload_n (pc := 109) C d_M_readAny_109 rfl 0 rfl ?_
      refine v_bipush (pc := 110) C d_M_readAny_110 bp_7 ?_
      refine v_ct (pc := 112) (inv_V (As := [.int 7]) (st := []) C ml_M_324 mv_M_isWord ro_M_readAny_M_isWord (sh_104 hL) rfl rfl rfl rfl (Nat.le_of_ble_eq_true rfl) d_M_readAny_112) (c_M_isWord hL S 7) ⟨rfl, rfl⟩ ⟨Nat.zero_le _, Nat.zero_le _⟩ ?_
      refine v_if_eq (pc := 115) (tgt := 139) C d_M_readAny_115 rfl (fun _ => ?_) (fun _ => ?_)
      · refine v_aload_n (pc := 139) C d_M_readAny_139 rfl 0 rfl ?_
        refine v_bipush (pc := 140) C d_M_readAny_140 bp_6 ?_
        refine v_ct (pc := 142) (inv_V (As := [.int 6]) (st := []) C ml_M_324 mv_M_isWord ro_M_readAny_M_isWord (sh_104 hL) rfl rfl rfl rfl (Nat.le_of_ble_eq_true rfl) d_M_readAny_142) (c_M_isWord hL S 6) ⟨rfl, rfl⟩ ⟨Nat.zero_le _, Nat.zero_le _⟩ ?_
        refine v_if_eq (pc := 145) (tgt := 175) C d_M_readAny_145 rfl (fun _ => ?_) (fun _ => ?_)
        · refine v_aload_n (pc := 175) C d_M_readAny_175 rfl 0 rfl ?_
          refine v_bipush (pc := 176) C d_M_readAny_176 bp_10 ?_
          refine v_cv (pc := 178) (inv_V (As := [.int 10]) (st := []) C ml_M_333 mv_M_settles ro_M_readAny_M_settles (sh_104 hL) rfl rfl rfl rfl (Nat.le_of_ble_eq_true rfl) d_M_readAny_178) (c_M_settles hL S 10) ⟨rfl, rfl⟩ ⟨Nat.zero_le _, Nat.zero_le _⟩ (fun S1 => ?_)
          refine v_aload_n (pc := 181) C d_M_readAny_181 rfl 0 rfl ?_
          refine v_bipush (pc := 182) C d_M_readAny_182 bp_11 ?_
          refine v_cv (pc := 184) (inv_V (As := [.int 11]) (st := []) C ml_M_333 mv_M_settles ro_M_readAny_M_settles (sh_104 hL) rfl rfl rfl rfl (Nat.le_of_ble_eq_true rfl) d_M_readAny_184) (c_M_settles hL S1 11) ⟨rfl, rfl⟩ ⟨Nat.zero_le _, Nat.zero_le _⟩ (fun S2 => ?_)
          refine v_iload_n (pc := 187) C d_M_readAny_187 rfl 1 rfl ?_
          refine v_if_ne (pc := 188) (tgt := 193) C d_M_readAny_188 rfl (fun _ => ?_) (fun _ => ?_)
          · refine v_aload_n (pc := 193) C d_M_readAny_193 rfl 0 rfl ?_
            refine v_bipush (pc := 194) C d_M_readAny_194 bp_41 ?_
            refine v_ct (pc := 196) (inv_V (As := [.int 41]) (st := []) C ml_M_309 mv_M_isSign ro_M_readAny_M_isSign (sh_104 hL) rfl rfl rfl rfl (Nat.le_of_ble_eq_true rfl) d_M_readAny_196) (c_M_isSign hL S2 41) ⟨rfl, rfl⟩ ⟨Nat.zero_le _, Nat.zero_le _⟩ ?_
            refine v_if_ne (pc := 199) (tgt := 208) C d_M_readAny_199 rfl (fun _ => ?_) (fun _ => ?_)
            · refine v_aload_n (pc := 208) C d_M_readAny_208 rfl 0 rfl ?_
              refine v_aload_n (pc := 209) C d_M_readAny_209 rfl 0 rfl ?_
              refine v_getI (pc := 210) C fl_M_318 (sh_104 hL) rfl d_M_readAny_210 ?_
              refine v_iconst (pc := 213) C d_M_readAny_213 ic_1 ?_
              refine v_isub (pc := 214) C d_M_readAny_214 ?_
              refine v_putI (pc := 215) C fp_M_318 (sh_104 hL) rfl d_M_readAny_215 (fun S3 => ?_)
              refine v_iload_n (pc := 218) C d_M_readAny_218 rfl 1 rfl ?_
              refine v_iconst (pc := 219) C d_M_readAny_219 ic_1 ?_
              refine v_isub (pc := 220) C d_M_readAny_220 ?_
              refine v_lt (fun v4 => ?_)
              refine v_istore_n (pc := 221) (lv' := [(1, .int v4), (0, rf G 104), (2, .int x2_)]) C d_M_readAny_221 rfl (by decide) rfl ?_
              refine v_aload_n (pc := 222) C d_M_readAny_222 rfl 1 rfl ?_
              refine v_aload_n (pc := 223) C d_M_readAny_223 rfl 1 rfl ?_
              refine v_getI (pc := 224) C fl_M_321 (sh_104 hL) rfl d_M_readAny_224 ?_
              refine v_iconst (pc := 227) C d_M_readAny_227 ic_1 ?_
              refine v_isub (pc := 228) C d_M_readAny_228 ?_
              refine v_putI (pc := 229) C fp_M_321 (sh_104 hL) rfl d_M_readAny_229 (fun S5 => ?_)
              refine v_aload_n (pc := 232) C d_M_readAny_232 rfl 1 rfl ?_
              refine v_bipush (pc := 233) C d_M_readAny_233 bp_9 ?_
              refine v_cv (pc := 235) (inv_V (As := [.int 9]) (st := []) C ml_M_333 mv_M_settles ro_M_readAny_M_settles (sh_104 hL) rfl rfl rfl rfl (Nat.le_of_ble_eq_true rfl) d_M_readAny_235) (c_M_settles hL S5 9) ⟨rfl, rfl⟩ ⟨Nat.zero_le _, Nat.zero_le _⟩ (fun S6 => ?_)
              refine v_aload_n (pc := 238) C d_M_readAny_238 rfl 1 rfl ?_
              refine v_cv (pc := 239) (inv_V (As := []) (st := []) C ml_M_303 mv_M_reads ro_M_readAny_M_reads (sh_104 hL) rfl rfl rfl rfl (Nat.le_of_ble_eq_true rfl) d_M_readAny_239) (c_M_reads hL S6) ⟨rfl, rfl⟩ ⟨Nat.zero_le _, Nat.zero_le _⟩ (fun S7 => ?_)
              refine v_goto (pc := 242) (tgt := 9) C d_M_readAny_242 rfl ?_
              refine v_sub [1, 0, 2] rfl ?_
              exact ih v4 x2_ S7 K hK hR
            · refine v_aload_n (pc := 202) C d_M_readAny_202 rfl 0 rfl ?_
              refine v_iconst (pc := 203) C d_M_readAny_203 ic_1 ?_
              refine v_ci (pc := 204) (inv_V (As := [.int 1]) (st := []) C ml_M_297 mv_M_fails ro_M_readAny_M_fails (sh_104 hL) rfl rfl rfl rfl (Nat.le_of_ble_eq_true rfl) d_M_readAny_204) (c_M_fails hL S2 1) ⟨rfl, rfl⟩ ⟨Nat.zero_le _, Nat.zero_le _⟩ (fun r8 S9 => ?_)
              exact v_iret (z := (r8, S9)) C d_M_readAny_207 rfl ⟨Nat.zero_le _, Nat.zero_le _⟩ (hR _) rfl
          · refine v_iconst (pc := 191) C d_M_readAny_191 ic_0 ?_
            exact v_iret (z := (0, S2)) C d_M_readAny_192 rfl ⟨Nat.zero_le _, Nat.zero_le _⟩ (hR _) rfl
        · refine v_aload_n (pc := 148) C d_M_readAny_148 rfl 0 rfl ?_
          refine v_bipush (pc := 149) C d_M_readAny_149 bp_10 ?_
          refine v_cv (pc := 151) (inv_V (As := [.int 10]) (st := []) C ml_M_333 mv_M_settles ro_M_readAny_M_settles (sh_104 hL) rfl rfl rfl rfl (Nat.le_of_ble_eq_true rfl) d_M_readAny_151) (c_M_settles hL S 10) ⟨rfl, rfl⟩ ⟨Nat.zero_le _, Nat.zero_le _⟩ (fun S10 => ?_)
          refine v_aload_n (pc := 154) C d_M_readAny_154 rfl 0 rfl ?_
          refine v_bipush (pc := 155) C d_M_readAny_155 bp_11 ?_
          refine v_cv (pc := 157) (inv_V (As := [.int 11]) (st := []) C ml_M_333 mv_M_settles ro_M_readAny_M_settles (sh_104 hL) rfl rfl rfl rfl (Nat.le_of_ble_eq_true rfl) d_M_readAny_157) (c_M_settles hL S10 11) ⟨rfl, rfl⟩ ⟨Nat.zero_le _, Nat.zero_le _⟩ (fun S11 => ?_)
          refine v_aload_n (pc := 160) C d_M_readAny_160 rfl 0 rfl ?_
          refine v_bipush (pc := 161) C d_M_readAny_161 bp_11 ?_
          refine v_cv (pc := 163) (inv_V (As := [.int 11]) (st := []) C ml_M_327 mv_M_waits ro_M_readAny_M_waits (sh_104 hL) rfl rfl rfl rfl (Nat.le_of_ble_eq_true rfl) d_M_readAny_163) (c_M_waits hL S11 11) ⟨rfl, rfl⟩ ⟨Nat.zero_le _, Nat.zero_le _⟩ (fun S12 => ?_)
          refine v_aload_n (pc := 166) C d_M_readAny_166 rfl 0 rfl ?_
          refine v_cv (pc := 167) (inv_V (As := []) (st := []) C ml_M_303 mv_M_reads ro_M_readAny_M_reads (sh_104 hL) rfl rfl rfl rfl (Nat.le_of_ble_eq_true rfl) d_M_readAny_167) (c_M_reads hL S12) ⟨rfl, rfl⟩ ⟨Nat.zero_le _, Nat.zero_le _⟩ (fun S13 => ?_)
          refine v_iconst (pc := 170) C d_M_readAny_170 ic_1 ?_
          refine v_istore_n (pc := 171) (lv' := [(2, .int 1), (0, rf G 104), (1, .int x1_)]) C d_M_readAny_171 rfl (by decide) rfl ?_
          refine v_goto (pc := 172) (tgt := 9) C d_M_readAny_172 rfl ?_
          refine v_sub [1, 2, 0] rfl ?_
          exact ih x1_ 1 S13 K hK hR
      · refine v_aload_n (pc := 118) C d_M_readAny_118 rfl 0 rfl ?_
        refine v_bipush (pc := 119) C d_M_readAny_119 bp_10 ?_
        refine v_cv (pc := 121) (inv_V (As := [.int 10]) (st := []) C ml_M_333 mv_M_settles ro_M_readAny_M_settles (sh_104 hL) rfl rfl rfl rfl (Nat.le_of_ble_eq_true rfl) d_M_readAny_121) (c_M_settles hL S 10) ⟨rfl, rfl⟩ ⟨Nat.zero_le _, Nat.zero_le _⟩ (fun S14 => ?_)
        refine v_aload_n (pc := 124) C d_M_readAny_124 rfl 0 rfl ?_
        refine v_bipush (pc := 125) C d_M_readAny_125 bp_10 ?_
        refine v_cv (pc := 127) (inv_V (As := [.int 10]) (st := []) C ml_M_327 mv_M_waits ro_M_readAny_M_waits (sh_104 hL) rfl rfl rfl rfl (Nat.le_of_ble_eq_true rfl) d_M_readAny_127) (c_M_waits hL S14 10) ⟨rfl, rfl⟩ ⟨Nat.zero_le _, Nat.zero_le _⟩ (fun S15 => ?_)
        refine v_aload_n (pc := 130) C d_M_readAny_130 rfl 0 rfl ?_
        refine v_cv (pc := 131) (inv_V (As := []) (st := []) C ml_M_303 mv_M_reads ro_M_readAny_M_reads (sh_104 hL) rfl rfl rfl rfl (Nat.le_of_ble_eq_true rfl) d_M_readAny_131) (c_M_reads hL S15) ⟨rfl, rfl⟩ ⟨Nat.zero_le _, Nat.zero_le _⟩ (fun S16 => ?_)
        refine v_iconst (pc := 134) C d_M_readAny_134 ic_1 ?_
        refine v_istore_n (pc := 135) (lv' := [(2, .int 1), (0, rf G 104), (1, .int x1_)]) C d_M_readAny_135 rfl (by decide) rfl ?_
        refine v_goto (pc := 136) (tgt := 9) C d_M_readAny_136 rfl ?_
        refine v_sub [1, 2, 0] rfl ?_
        exact ih x1_ 1 S16 K hK hR
    · refine v_aload_n (pc := 13) C d_M_readAny_13 rfl 0 rfl ?_
      refine v_bipush (pc := 14) C d_M_readAny_14 bp_8 ?_
      refine v_ct (pc := 16) (inv_V (As := [.int 8]) (st := []) C ml_M_324 mv_M_isWord ro_M_readAny_M_isWord (sh_104 hL) rfl rfl rfl rfl (Nat.le_of_ble_eq_true rfl) d_M_readAny_16) (c_M_isWord hL S 8) ⟨rfl, rfl⟩ ⟨Nat.zero_le _, Nat.zero_le _⟩ ?_
      refine v_lt (fun v17 => ?_)
      refine v_istore_n (pc := 19) (lv' := [(3, .int v17), (0, rf G 104), (1, .int x1_), (2, .int x2_)]) C d_M_readAny_19 rfl (by decide) rfl ?_
      refine v_iload_n (pc := 20) C d_M_readAny_20 rfl 0 rfl ?_
      refine v_jn (fun j => VO g Y_M_readAny G (fun z => Qm g Y_M_readAny G (fi L z)) 0 0 33 [(0, rf G 104), (1, .int x1_), (2, .int x2_), (3, .int v17)] [] L S (j ()) K) (?_) (fun j33 hj33 => ?_)
      · refine v_aload_n (pc := 33) C d_M_readAny_33 rfl 0 rfl ?_
        refine v_getI (pc := 34) C fl_M_321 (sh_104 hL) rfl d_M_readAny_34 ?_
        refine v_bipush (pc := 37) C d_M_readAny_37 bp_8 ?_
        refine v_icmp_ne (pc := 39) (tgt := 48) C d_M_readAny_39 rfl (fun _ => ?_) (fun _ => ?_)
        · refine v_aload_n (pc := 48) C d_M_readAny_48 rfl 0 rfl ?_
          refine v_aload_n (pc := 49) C d_M_readAny_49 rfl 0 rfl ?_
          refine v_getI (pc := 50) C fl_M_321 (sh_104 hL) rfl d_M_readAny_50 ?_
          refine v_iconst (pc := 53) C d_M_readAny_53 ic_1 ?_
          refine v_iadd (pc := 54) C d_M_readAny_54 ?_
          refine v_putI (pc := 55) C fp_M_321 (sh_104 hL) rfl d_M_readAny_55 (fun S18 => ?_)
          refine v_iload_n (pc := 58) C d_M_readAny_58 rfl 3 rfl ?_
          refine v_jn (fun j => ∀ (v19 : Int32), VO g Y_M_readAny G (fun z => Qm g Y_M_readAny G (fi L z)) 0 0 66 [(0, rf G 104), (1, .int v19), (2, .int x2_), (3, .int v17)] [] L S18 (j (v19)) K) (fun v19 => ?_) (fun j66 hj66 => ?_)
          · refine v_aload_n (pc := 66) C d_M_readAny_66 rfl 0 rfl ?_
            refine v_iload_n (pc := 67) C d_M_readAny_67 rfl 3 rfl ?_
            refine v_jn (fun j => ∀ (v20 : Int32), VO g Y_M_readAny G (fun z => Qm g Y_M_readAny G (fi L z)) 0 0 78 [(0, rf G 104), (1, .int v19), (2, .int x2_)] [.int v20, rf G 104] L S18 (j (v20)) K) (fun v20 => ?_) (fun j78 hj78 => ?_)
            · refine v_cv (pc := 78) (inv_V (As := [.int v20]) (st := []) C ml_M_327 mv_M_waits ro_M_readAny_M_waits (sh_104 hL) rfl rfl rfl rfl (Nat.le_of_ble_eq_true rfl) d_M_readAny_78) (c_M_waits hL S18 v20) ⟨rfl, rfl⟩ ⟨Nat.zero_le _, Nat.zero_le _⟩ (fun S21 => ?_)
              refine v_aload_n (pc := 81) C d_M_readAny_81 rfl 0 rfl ?_
              refine v_cv (pc := 82) (inv_V (As := []) (st := []) C ml_M_303 mv_M_reads ro_M_readAny_M_reads (sh_104 hL) rfl rfl rfl rfl (Nat.le_of_ble_eq_true rfl) d_M_readAny_82) (c_M_reads hL S21) ⟨rfl, rfl⟩ ⟨Nat.zero_le _, Nat.zero_le _⟩ (fun S22 => ?_)
              refine v_goto (pc := 85) (tgt := 9) C d_M_readAny_85 rfl ?_
              exact ih v19 x2_ S22 K hK hR
            · refine v_if_eq (pc := 68) (tgt := 76) C d_M_readAny_68 rfl (fun _ => ?_) (fun _ => ?_)
              · refine v_bipush (pc := 76) C d_M_readAny_76 bp_12 ?_
                refine v_sub [0, 1, 2] rfl ?_
                exact hj78 12
              · refine v_bipush (pc := 71) C d_M_readAny_71 bp_9 ?_
                refine v_goto (pc := 73) (tgt := 78) C d_M_readAny_73 rfl ?_
                refine v_sub [0, 1, 2] rfl ?_
                exact hj78 9
          · refine v_if_ne (pc := 59) (tgt := 66) C d_M_readAny_59 rfl (fun _ => ?_) (fun _ => ?_)
            · exact hj66 x1_
            · refine v_iload_n (pc := 62) C d_M_readAny_62 rfl 1 rfl ?_
              refine v_iconst (pc := 63) C d_M_readAny_63 ic_1 ?_
              refine v_iadd (pc := 64) C d_M_readAny_64 ?_
              refine v_lt (fun v23 => ?_)
              refine v_istore_n (pc := 65) (lv' := [(1, .int v23), (0, rf G 104), (2, .int x2_), (3, .int v17)]) C d_M_readAny_65 rfl (by decide) rfl ?_
              refine v_sub [1, 0, 2, 3] rfl ?_
              exact hj66 v23
        · refine v_sub [0] rfl ?_
          exact hK x1_ x2_ S
      · refine v_if_ne (pc := 21) (tgt := 33) C d_M_readAny_21 rfl (fun _ => ?_) (fun _ => ?_)
        · refine v_sub [1, 2, 3, 0] rfl ?_
          exact hj33
        · refine v_aload_n (pc := 24) C d_M_readAny_24 rfl 1 rfl ?_
          refine v_bipush (pc := 25) C d_M_readAny_25 bp_40 ?_
          refine v_ct (pc := 27) (inv_V (As := [.int 40]) (st := []) C ml_M_309 mv_M_isSign ro_M_readAny_M_isSign (sh_104 hL) rfl rfl rfl rfl (Nat.le_of_ble_eq_true rfl) d_M_readAny_27) (c_M_isSign hL S 40) ⟨rfl, rfl⟩ ⟨Nat.zero_le _, Nat.zero_le _⟩ ?_
          refine v_if_eq (pc := 30) (tgt := 88) C d_M_readAny_30 rfl (fun _ => ?_) (fun _ => ?_)
          · refine v_aload_n (pc := 88) C d_M_readAny_88 rfl 1 rfl ?_
            refine v_ci (pc := 89) (inv_V (As := []) (st := []) C ml_M_330 mv_M_readCompared ro_M_readAny_M_readCompared (sh_104 hL) rfl rfl rfl rfl (Nat.le_of_ble_eq_true rfl) d_M_readAny_89) (c_M_readCompared hL S) ⟨rfl, rfl⟩ ⟨Nat.zero_le _, Nat.zero_le _⟩ (fun r24 S25 => ?_)
            refine v_iconst (pc := 92) C d_M_readAny_92 ic_m1 ?_
            refine v_icmp_ne (pc := 93) (tgt := 98) C d_M_readAny_93 rfl (fun _ => ?_) (fun _ => ?_)
            · refine v_aload_n (pc := 98) C d_M_readAny_98 rfl 1 rfl ?_
              refine v_bipush (pc := 99) C d_M_readAny_99 bp_9 ?_
              refine v_cv (pc := 101) (inv_V (As := [.int 9]) (st := []) C ml_M_333 mv_M_settles ro_M_readAny_M_settles (sh_104 hL) rfl rfl rfl rfl (Nat.le_of_ble_eq_true rfl) d_M_readAny_101) (c_M_settles hL S25 9) ⟨rfl, rfl⟩ ⟨Nat.zero_le _, Nat.zero_le _⟩ (fun S26 => ?_)
              refine v_iconst (pc := 104) C d_M_readAny_104 ic_0 ?_
              refine v_istore_n (pc := 105) (lv' := [(2, .int 0), (3, .int v17), (0, rf G 104), (1, .int x1_)]) C d_M_readAny_105 rfl (by decide) rfl ?_
              refine v_goto (pc := 106) (tgt := 9) C d_M_readAny_106 rfl ?_
              refine v_sub [2, 3, 0] rfl ?_
              exact ih x1_ 0 S26 K hK hR
            · refine v_iconst (pc := 96) C d_M_readAny_96 ic_m1 ?_
              exact v_iret (z := ((-1), S25)) C d_M_readAny_97 rfl ⟨Nat.zero_le _, Nat.zero_le _⟩ (hR _) rfl
          · refine v_sub [1, 2, 3, 0] rfl ?_
            exact hj33
def r_M_readAny  (S : Sto) : Option (Int32 × Sto) :=
  ltS (sw S 104 43 0) (fun S1 =>
  (r_M_readAny_L9 fu 0 1 S1).bind (fun x => match x with
  | .inl (v2, v3, S4) =>
    (r_M_fails 3 S4).bind (fun (r5, S6) =>
    some (r5, S6))
  | .inr r => some r))
set_option maxHeartbeats 4000000 in
set_option maxRecDepth 20000 in
theorem c_M_readAny {G : Gl} {L : Shp} (hL : Ext L) (S : Sto)   : Ct Y_M_readAny G [rf G 104] L S (fi L) (r_M_readAny S) := by
  refine ct_of (by decide +kernel) (Nat.le_of_ble_eq_true rfl) (fun g C => ?_)
  show VO g Y_M_readAny G (fun z => Qm g Y_M_readAny G (fi L z)) 0 0 0 [(0, rf G 104)] [] L S (r_M_readAny S) some
  unfold r_M_readAny
  refine v_iconst (pc := 0) C d_M_readAny_0 ic_0 ?_
  refine v_istore_n (pc := 1) (lv' := [(1, .int 0), (0, rf G 104)]) C d_M_readAny_1 rfl (by decide) rfl ?_
  refine v_aload_n (pc := 2) C d_M_readAny_2 rfl 1 rfl ?_
  refine v_iconst (pc := 3) C d_M_readAny_3 ic_0 ?_
  refine v_putI (pc := 4) C fp_M_318 (sh_104 hL) rfl d_M_readAny_4 (fun S1 => ?_)
  refine v_iconst (pc := 7) C d_M_readAny_7 ic_1 ?_
  refine v_istore_n (pc := 8) (lv' := [(2, .int 1), (1, .int 0), (0, rf G 104)]) C d_M_readAny_8 rfl (by decide) rfl ?_
  refine v_sub [2, 1, 0] rfl ?_
  refine v_bind ?_
  refine w_M_readAny_L9 C hL  fu 0 1 S1 _ (fun v2 v3 S4 => ?_) (fun z => rfl)
  refine v_some ?_
  refine v_aload_n (pc := 42) C d_M_readAny_42 rfl 0 rfl ?_
  refine v_iconst (pc := 43) C d_M_readAny_43 ic_3 ?_
  refine v_ci (pc := 44) (inv_V (As := [.int 3]) (st := []) C ml_M_297 mv_M_fails ro_M_readAny_M_fails (sh_104 hL) rfl rfl rfl rfl (Nat.le_of_ble_eq_true rfl) d_M_readAny_44) (c_M_fails hL S4 3) ⟨rfl, rfl⟩ ⟨Nat.zero_le _, Nat.zero_le _⟩ (fun r5 S6 => ?_)
  exact v_iret (z := (r5, S6)) C d_M_readAny_47 rfl ⟨Nat.zero_le _, Nat.zero_le _⟩ (rfl) rfl
