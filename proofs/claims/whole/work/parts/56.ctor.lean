set_option maxRecDepth 20000 in
def ri_Rf_init_0 (S : Sto) : Option Sto :=
  ltS (sr S 102 (fun _ => 0)) (fun S1 =>
  ltS (sr S1 103 (fun _ => 0)) (fun S2 =>
  some S2))
set_option maxHeartbeats 4000000 in
set_option maxRecDepth 20000 in
theorem ci_Rf_init_0 {G : Gl} (S : Sto) : Ct Y_Rf_init G [rf G 101, rf G 1, rf G 17] LS211 S (fv LS217) (ri_Rf_init_0 S) := by
  refine ct_of (by decide +kernel) (Nat.le_of_ble_eq_true rfl) (fun g C => ?_)
  unfold ri_Rf_init_0
  refine v_aload_n (pc := 0) C d_Rf_init_0 rfl 0 rfl ?_
  refine v_oinit (pc := 1) C oi_Rf_3 oi_i oi_c (Nat.le_of_ble_eq_true rfl) (Nat.le_of_ble_eq_true rfl) d_Rf_init_1 ?_
  refine v_aload_n (pc := 4) C d_Rf_init_4 rfl 0 rfl ?_
  refine v_aload_n (pc := 5) C d_Rf_init_5 rfl 1 rfl ?_
  refine v_putR (pc := 6) (L2 := LS212) C (Or.inr ⟨ff_Rf_9, rfl⟩) rfl rfl (fun _ => rfl) (fun _ => rfl) rfl (by decide) d_Rf_init_6 ?_
  refine v_aload_n (pc := 9) C d_Rf_init_9 rfl 0 rfl ?_
  refine v_aload_n (pc := 10) C d_Rf_init_10 rfl 2 rfl ?_
  refine v_putR (pc := 11) (L2 := LS213) C (Or.inr ⟨ff_Rf_15, rfl⟩) rfl rfl (fun _ => rfl) (fun _ => rfl) rfl (by decide) d_Rf_init_11 ?_
  refine v_aload_n (pc := 14) C d_Rf_init_14 rfl 0 rfl ?_
  refine v_bipush (pc := 15) C d_Rf_init_15 bp_100 ?_
  refine v_newI (pc := 17) (a := 102) (m := 100) (L2 := LS214) (k2 := 1) (n2 := 100) C rfl rfl rfl rfl ⟨Nat.le_of_ble_eq_true rfl, Nat.le_of_ble_eq_true rfl⟩ (by decide) (by decide) (by decide) aw_I d_Rf_init_17 (fun S1 => ?_)
  refine v_putR (pc := 19) (L2 := LS215) C (Or.inr ⟨ff_Rf_19, rfl⟩) rfl rfl (fun _ => rfl) (fun _ => rfl) rfl (by decide) d_Rf_init_19 ?_
  refine v_aload_n (pc := 22) C d_Rf_init_22 rfl 0 rfl ?_
  refine v_bipush (pc := 23) C d_Rf_init_23 bp_100 ?_
  refine v_newJ (pc := 25) (a := 103) (m := 100) (L2 := LS216) (k2 := 2) (n2 := 200) C rfl rfl rfl rfl ⟨Nat.le_of_ble_eq_true rfl, Nat.le_of_ble_eq_true rfl⟩ (by decide) (by decide) (by decide) aw_J d_Rf_init_25 (fun S2 => ?_)
  refine v_putR (pc := 27) (L2 := LS217) C (Or.inr ⟨ff_Rf_22, rfl⟩) rfl rfl (fun _ => rfl) (fun _ => rfl) rfl (by decide) d_Rf_init_27 ?_
  exact v_vret C d_Rf_init_30 rfl ⟨Nat.le_of_ble_eq_true rfl, Nat.le_of_ble_eq_true rfl⟩ rfl rfl
set_option maxRecDepth 20000 in
def ri_B_init_0 (S : Sto) : Option Sto :=
  ltS (sr S 1 (fun _ => 0)) (fun S1 =>
  (ri_Sq_init_0 S1).bind (fun S2 =>
  ltS (sr S2 13 (fun _ => 0)) (fun S3 =>
  (ri_Hd_init_0 S3).bind (fun S4 =>
  ltS (sr S4 17 (fun _ => 0)) (fun S5 =>
  (r_Ar_fill 17 10 (-1) S5).bind (fun S6 =>
  ltS (sr S6 18 (fun _ => 0)) (fun S7 =>
  ltS (sr S7 19 (fun _ => 0)) (fun S8 =>
  (ri_Sh_init_0 S8).bind (fun S9 =>
  ltS (sr S9 20 (fun _ => 0)) (fun S10 =>
  (ri_Sh_init_1 S10).bind (fun S11 =>
  ltS (sr S11 21 (fun _ => 0)) (fun S12 =>
  (ri_Sh_init_2 S12).bind (fun S13 =>
  ltS (sr S13 22 (fun _ => 0)) (fun S14 =>
  (ri_Sh_init_3 S14).bind (fun S15 =>
  ltS (sr S15 23 (fun _ => 0)) (fun S16 =>
  (ri_Sh_init_4 S16).bind (fun S17 =>
  ltS (sr S17 24 (fun _ => 0)) (fun S18 =>
  (ri_Sh_init_5 S18).bind (fun S19 =>
  ltS (sr S19 25 (fun _ => 0)) (fun S20 =>
  (ri_Sh_init_6 S20).bind (fun S21 =>
  ltS (sr S21 26 (fun _ => 0)) (fun S22 =>
  (ri_Sh_init_7 S22).bind (fun S23 =>
  ltS (sr S23 27 (fun _ => 0)) (fun S24 =>
  (ri_Sh_init_8 S24).bind (fun S25 =>
  ltS (sr S25 28 (fun _ => 0)) (fun S26 =>
  (ri_Sh_init_9 S26).bind (fun S27 =>
  ltS (sr S27 29 (fun _ => 0)) (fun S28 =>
  (ri_Rd_init_0 S28).bind (fun S29 =>
  ltS (sr S29 33 (fun _ => 0)) (fun S30 =>
  (ri_Cw_init_0 S30).bind (fun S31 =>
  ltS (sr S31 51 (fun _ => 0)) (fun S32 =>
  ltS (sr S32 52 (fun _ => 0)) (fun S33 =>
  ltS (sr S33 53 (fun _ => 0)) (fun S34 =>
  (ri_Sp_init_0 S34).bind (fun S35 =>
  ltS (sr S35 57 (fun _ => 0)) (fun S36 =>
  ltS (sr S36 58 (fun _ => 0)) (fun S37 =>
  (ri_Tp_init_0 S37).bind (fun S38 =>
  ltS (sr S38 66 (fun _ => 0)) (fun S39 =>
  (ri_Tp_init_1 S39).bind (fun S40 =>
  ltS (sr S40 74 (fun _ => 0)) (fun S41 =>
  (ri_Tp_init_2 S41).bind (fun S42 =>
  ltS (sr S42 82 (fun _ => 0)) (fun S43 =>
  (ri_Tp_init_3 S43).bind (fun S44 =>
  ltS (sw S44 0 11 5) (fun S45 =>
  ltS (sr S45 90 (fun _ => 0)) (fun S46 =>
  (ri_Ns_init_0 S46).bind (fun S47 =>
  ltS (sr S47 99 (fun _ => 0)) (fun S48 =>
  (ri_Sh_init_14 S48).bind (fun S49 =>
  ltS (sw S49 0 14 (-1)) (fun S50 =>
  ltS (sr S50 100 (fun _ => 0)) (fun S51 =>
  ltS (sr S51 101 (fun _ => 0)) (fun S52 =>
  (ri_Rf_init_0 S52).bind (fun S53 =>
  some S53)))))))))))))))))))))))))))))))))))))))))))))))))))))
set_option maxHeartbeats 4000000 in
set_option maxRecDepth 20000 in
theorem ci_B_init_0 {G : Gl} (S : Sto) : Ct Y_B_init G [rf G 0] LS0 S (fv LS218) (ri_B_init_0 S) := by
  refine ct_of (by decide +kernel) (Nat.le_of_ble_eq_true rfl) (fun g C => ?_)
  unfold ri_B_init_0
  refine v_aload_n (pc := 0) C d_B_init_0 rfl 0 rfl ?_
  refine v_oinit (pc := 1) C oi_B_3 oi_i oi_c (Nat.le_of_ble_eq_true rfl) (Nat.le_of_ble_eq_true rfl) d_B_init_1 ?_
  refine v_aload_n (pc := 4) C d_B_init_4 rfl 0 rfl ?_
  refine v_new (pc := 5) (a := 1) (L2 := LS1) (k2 := 1) (n2 := 5) C cn_B_9 rfl rfl rfl rfl ⟨Nat.le_of_ble_eq_true rfl, Nat.le_of_ble_eq_true rfl⟩ d_B_init_5 (fun S1 => ?_)
  refine v_dup (pc := 8) C d_B_init_8 rfl ?_
  refine v_cc (pc := 9) (L2 := LS23) (k2 := 12) (n2 := 65) (inv_I (As := []) (st := [rf G 1, rf G 0]) C ml_B_11 mi_Sq_init ro_B_init_Sq_init rfl rfl (Nat.le_of_ble_eq_true rfl) d_B_init_9) (ci_Sq_init_0 S1) rfl rfl ⟨Nat.le_of_ble_eq_true rfl, Nat.le_of_ble_eq_true rfl⟩ (fun S2 => ?_)
  refine v_putR (pc := 12) (L2 := LS24) C (Or.inr ⟨ff_B_12, rfl⟩) rfl rfl (fun _ => rfl) (fun _ => rfl) rfl (by decide) d_B_init_12 ?_
  refine v_aload_n (pc := 15) C d_B_init_15 rfl 0 rfl ?_
  refine v_new (pc := 16) (a := 13) (L2 := LS25) (k2 := 13) (n2 := 76) C cn_B_16 rfl rfl rfl rfl ⟨Nat.le_of_ble_eq_true rfl, Nat.le_of_ble_eq_true rfl⟩ d_B_init_16 (fun S3 => ?_)
  refine v_dup (pc := 19) C d_B_init_19 rfl ?_
  refine v_aload_n (pc := 20) C d_B_init_20 rfl 0 rfl ?_
  refine v_getR (pc := 21) (r := 1) C fl_B_12 rfl rfl d_B_init_21 ?_
  refine v_cc (pc := 24) (L2 := LS32) (k2 := 16) (n2 := 106) (inv_I (As := [rf G 1]) (st := [rf G 13, rf G 0]) C ml_B_18 mi_Hd_init ro_B_init_Hd_init rfl rfl (Nat.le_of_ble_eq_true rfl) d_B_init_24) (ci_Hd_init_0 S3) rfl rfl ⟨Nat.le_of_ble_eq_true rfl, Nat.le_of_ble_eq_true rfl⟩ (fun S4 => ?_)
  refine v_putR (pc := 27) (L2 := LS33) C (Or.inr ⟨ff_B_21, rfl⟩) rfl rfl (fun _ => rfl) (fun _ => rfl) rfl (by decide) d_B_init_27 ?_
  refine v_aload_n (pc := 30) C d_B_init_30 rfl 0 rfl ?_
  refine v_bipush (pc := 31) C d_B_init_31 bp_10 ?_
  refine v_newI (pc := 33) (a := 17) (m := 10) (L2 := LS34) (k2 := 17) (n2 := 116) C rfl rfl rfl rfl ⟨Nat.le_of_ble_eq_true rfl, Nat.le_of_ble_eq_true rfl⟩ (by decide) (by decide) (by decide) aw_I d_B_init_33 (fun S5 => ?_)
  refine v_putR (pc := 35) (L2 := LS35) C (Or.inr ⟨ff_B_25, rfl⟩) rfl rfl (fun _ => rfl) (fun _ => rfl) rfl (by decide) d_B_init_35 ?_
  refine v_aload_n (pc := 38) C d_B_init_38 rfl 0 rfl ?_
  refine v_getR (pc := 39) (r := 17) C fl_B_25 rfl rfl d_B_init_39 ?_
  refine v_iconst (pc := 42) C d_B_init_42 ic_m1 ?_
  refine v_cv (pc := 43) (inv_S (As := [rf G 17, .int (-1)]) (st := []) C ml_B_29 ms_Ar_fill ro_B_init_Ar_fill rfl rfl (Nat.le_of_ble_eq_true rfl) d_B_init_43) (c0_Ar_fill S5 17 10 (-1) rfl) ⟨rfl, rfl⟩ ⟨Nat.le_of_ble_eq_true rfl, Nat.le_of_ble_eq_true rfl⟩ (fun S6 => ?_)
  refine v_aload_n (pc := 46) C d_B_init_46 rfl 0 rfl ?_
  refine v_bipush (pc := 47) C d_B_init_47 bp_10 ?_
  refine v_anew (pc := 49) (a := 18) (m := 10) (t := 1) (CN := "BangSquare$Shot") (L2 := LS36) (k2 := 18) (n2 := 126) C cl_B_35 (by decide) rfl rfl rfl rfl rfl rfl ⟨Nat.le_of_ble_eq_true rfl, Nat.le_of_ble_eq_true rfl⟩ (by decide) (by decide) (by decide) d_B_init_49 (fun S7 => ?_)
  refine v_putR (pc := 52) (L2 := LS37) C (Or.inr ⟨ff_B_37, rfl⟩) rfl rfl (fun _ => rfl) (fun _ => rfl) rfl (by decide) d_B_init_52 ?_
  refine v_iconst (pc := 55) C d_B_init_55 ic_0 ?_
  refine v_istore_n (pc := 56) (lv' := [(1, .int 0), (0, rf G 0)]) C d_B_init_56 rfl (by decide) rfl ?_
  refine v_iload_n (pc := 57) C d_B_init_57 rfl 0 rfl ?_
  refine v_bipush (pc := 58) C d_B_init_58 bp_10 ?_
  refine v_icmp_ge_f (pc := 60) (tgt := 82) C d_B_init_60 rfl (by decide) ?_
  refine v_aload_n (pc := 63) C d_B_init_63 rfl 1 rfl ?_
  refine v_getR (pc := 64) (r := 18) C fl_B_37 rfl rfl d_B_init_64 ?_
  refine v_iload_n (pc := 67) C d_B_init_67 rfl 0 rfl ?_
  refine v_new (pc := 68) (a := 19) (L2 := LS38) (k2 := 19) (n2 := 130) C cn_B_35 rfl rfl rfl rfl ⟨Nat.le_of_ble_eq_true rfl, Nat.le_of_ble_eq_true rfl⟩ d_B_init_68 (fun S8 => ?_)
  refine v_dup (pc := 71) C d_B_init_71 rfl ?_
  refine v_cc (pc := 72) (L2 := LS38) (k2 := 19) (n2 := 130) (inv_IN (As := []) (st := [rf G 19, .int 0, rf G 18]) C mn_B_41 mi_Sh_init ro_B_init_Sh_init rfl rfl (Nat.le_of_ble_eq_true rfl) d_B_init_72) (ci_Sh_init_0 S8) rfl rfl ⟨Nat.le_of_ble_eq_true rfl, Nat.le_of_ble_eq_true rfl⟩ (fun S9 => ?_)
  refine v_aast (pc := 75) (t := 1) (L2 := LS39) C rfl rfl rfl rfl (by decide) rfl rfl d_B_init_75 ?_
  refine v_iincT (pc := 76) (p := 0) (v := 1) (lv' := [(1, .int 1), (0, rf G 0)]) C d_B_init_76 rfl (by decide) (by decide) rfl ?_
  refine v_goto (pc := 79) (tgt := 57) C d_B_init_79 rfl ?_
  refine v_iload_n (pc := 57) C d_B_init_57 rfl 0 rfl ?_
  refine v_bipush (pc := 58) C d_B_init_58 bp_10 ?_
  refine v_icmp_ge_f (pc := 60) (tgt := 82) C d_B_init_60 rfl (by decide) ?_
  refine v_aload_n (pc := 63) C d_B_init_63 rfl 1 rfl ?_
  refine v_getR (pc := 64) (r := 18) C fl_B_37 rfl rfl d_B_init_64 ?_
  refine v_iload_n (pc := 67) C d_B_init_67 rfl 0 rfl ?_
  refine v_new (pc := 68) (a := 20) (L2 := LS40) (k2 := 20) (n2 := 134) C cn_B_35 rfl rfl rfl rfl ⟨Nat.le_of_ble_eq_true rfl, Nat.le_of_ble_eq_true rfl⟩ d_B_init_68 (fun S10 => ?_)
  refine v_dup (pc := 71) C d_B_init_71 rfl ?_
  refine v_cc (pc := 72) (L2 := LS40) (k2 := 20) (n2 := 134) (inv_IN (As := []) (st := [rf G 20, .int 1, rf G 18]) C mn_B_41 mi_Sh_init ro_B_init_Sh_init rfl rfl (Nat.le_of_ble_eq_true rfl) d_B_init_72) (ci_Sh_init_1 S10) rfl rfl ⟨Nat.le_of_ble_eq_true rfl, Nat.le_of_ble_eq_true rfl⟩ (fun S11 => ?_)
  refine v_aast (pc := 75) (t := 1) (L2 := LS41) C rfl rfl rfl rfl (by decide) rfl rfl d_B_init_75 ?_
  refine v_iincT (pc := 76) (p := 0) (v := 2) (lv' := [(1, .int 2), (0, rf G 0)]) C d_B_init_76 rfl (by decide) (by decide) rfl ?_
  refine v_goto (pc := 79) (tgt := 57) C d_B_init_79 rfl ?_
  refine v_iload_n (pc := 57) C d_B_init_57 rfl 0 rfl ?_
  refine v_bipush (pc := 58) C d_B_init_58 bp_10 ?_
  refine v_icmp_ge_f (pc := 60) (tgt := 82) C d_B_init_60 rfl (by decide) ?_
  refine v_aload_n (pc := 63) C d_B_init_63 rfl 1 rfl ?_
  refine v_getR (pc := 64) (r := 18) C fl_B_37 rfl rfl d_B_init_64 ?_
  refine v_iload_n (pc := 67) C d_B_init_67 rfl 0 rfl ?_
  refine v_new (pc := 68) (a := 21) (L2 := LS42) (k2 := 21) (n2 := 138) C cn_B_35 rfl rfl rfl rfl ⟨Nat.le_of_ble_eq_true rfl, Nat.le_of_ble_eq_true rfl⟩ d_B_init_68 (fun S12 => ?_)
  refine v_dup (pc := 71) C d_B_init_71 rfl ?_
  refine v_cc (pc := 72) (L2 := LS42) (k2 := 21) (n2 := 138) (inv_IN (As := []) (st := [rf G 21, .int 2, rf G 18]) C mn_B_41 mi_Sh_init ro_B_init_Sh_init rfl rfl (Nat.le_of_ble_eq_true rfl) d_B_init_72) (ci_Sh_init_2 S12) rfl rfl ⟨Nat.le_of_ble_eq_true rfl, Nat.le_of_ble_eq_true rfl⟩ (fun S13 => ?_)
  refine v_aast (pc := 75) (t := 1) (L2 := LS43) C rfl rfl rfl rfl (by decide) rfl rfl d_B_init_75 ?_
  refine v_iincT (pc := 76) (p := 0) (v := 3) (lv' := [(1, .int 3), (0, rf G 0)]) C d_B_init_76 rfl (by decide) (by decide) rfl ?_
  refine v_goto (pc := 79) (tgt := 57) C d_B_init_79 rfl ?_
  refine v_iload_n (pc := 57) C d_B_init_57 rfl 0 rfl ?_
  refine v_bipush (pc := 58) C d_B_init_58 bp_10 ?_
  refine v_icmp_ge_f (pc := 60) (tgt := 82) C d_B_init_60 rfl (by decide) ?_
  refine v_aload_n (pc := 63) C d_B_init_63 rfl 1 rfl ?_
  refine v_getR (pc := 64) (r := 18) C fl_B_37 rfl rfl d_B_init_64 ?_
  refine v_iload_n (pc := 67) C d_B_init_67 rfl 0 rfl ?_
  refine v_new (pc := 68) (a := 22) (L2 := LS44) (k2 := 22) (n2 := 142) C cn_B_35 rfl rfl rfl rfl ⟨Nat.le_of_ble_eq_true rfl, Nat.le_of_ble_eq_true rfl⟩ d_B_init_68 (fun S14 => ?_)
  refine v_dup (pc := 71) C d_B_init_71 rfl ?_
  refine v_cc (pc := 72) (L2 := LS44) (k2 := 22) (n2 := 142) (inv_IN (As := []) (st := [rf G 22, .int 3, rf G 18]) C mn_B_41 mi_Sh_init ro_B_init_Sh_init rfl rfl (Nat.le_of_ble_eq_true rfl) d_B_init_72) (ci_Sh_init_3 S14) rfl rfl ⟨Nat.le_of_ble_eq_true rfl, Nat.le_of_ble_eq_true rfl⟩ (fun S15 => ?_)
  refine v_aast (pc := 75) (t := 1) (L2 := LS45) C rfl rfl rfl rfl (by decide) rfl rfl d_B_init_75 ?_
  refine v_iincT (pc := 76) (p := 0) (v := 4) (lv' := [(1, .int 4), (0, rf G 0)]) C d_B_init_76 rfl (by decide) (by decide) rfl ?_
  refine v_goto (pc := 79) (tgt := 57) C d_B_init_79 rfl ?_
  refine v_iload_n (pc := 57) C d_B_init_57 rfl 0 rfl ?_
  refine v_bipush (pc := 58) C d_B_init_58 bp_10 ?_
  refine v_icmp_ge_f (pc := 60) (tgt := 82) C d_B_init_60 rfl (by decide) ?_
  refine v_aload_n (pc := 63) C d_B_init_63 rfl 1 rfl ?_
  refine v_getR (pc := 64) (r := 18) C fl_B_37 rfl rfl d_B_init_64 ?_
  refine v_iload_n (pc := 67) C d_B_init_67 rfl 0 rfl ?_
  refine v_new (pc := 68) (a := 23) (L2 := LS46) (k2 := 23) (n2 := 146) C cn_B_35 rfl rfl rfl rfl ⟨Nat.le_of_ble_eq_true rfl, Nat.le_of_ble_eq_true rfl⟩ d_B_init_68 (fun S16 => ?_)
  refine v_dup (pc := 71) C d_B_init_71 rfl ?_
  refine v_cc (pc := 72) (L2 := LS46) (k2 := 23) (n2 := 146) (inv_IN (As := []) (st := [rf G 23, .int 4, rf G 18]) C mn_B_41 mi_Sh_init ro_B_init_Sh_init rfl rfl (Nat.le_of_ble_eq_true rfl) d_B_init_72) (ci_Sh_init_4 S16) rfl rfl ⟨Nat.le_of_ble_eq_true rfl, Nat.le_of_ble_eq_true rfl⟩ (fun S17 => ?_)
  refine v_aast (pc := 75) (t := 1) (L2 := LS47) C rfl rfl rfl rfl (by decide) rfl rfl d_B_init_75 ?_
  refine v_iincT (pc := 76) (p := 0) (v := 5) (lv' := [(1, .int 5), (0, rf G 0)]) C d_B_init_76 rfl (by decide) (by decide) rfl ?_
  refine v_goto (pc := 79) (tgt := 57) C d_B_init_79 rfl ?_
  refine v_iload_n (pc := 57) C d_B_init_57 rfl 0 rfl ?_
  refine v_bipush (pc := 58) C d_B_init_58 bp_10 ?_
  refine v_icmp_ge_f (pc := 60) (tgt := 82) C d_B_init_60 rfl (by decide) ?_
  refine v_aload_n (pc := 63) C d_B_init_63 rfl 1 rfl ?_
  refine v_getR (pc := 64) (r := 18) C fl_B_37 rfl rfl d_B_init_64 ?_
  refine v_iload_n (pc := 67) C d_B_init_67 rfl 0 rfl ?_
  refine v_new (pc := 68) (a := 24) (L2 := LS48) (k2 := 24) (n2 := 150) C cn_B_35 rfl rfl rfl rfl ⟨Nat.le_of_ble_eq_true rfl, Nat.le_of_ble_eq_true rfl⟩ d_B_init_68 (fun S18 => ?_)
  refine v_dup (pc := 71) C d_B_init_71 rfl ?_
  refine v_cc (pc := 72) (L2 := LS48) (k2 := 24) (n2 := 150) (inv_IN (As := []) (st := [rf G 24, .int 5, rf G 18]) C mn_B_41 mi_Sh_init ro_B_init_Sh_init rfl rfl (Nat.le_of_ble_eq_true rfl) d_B_init_72) (ci_Sh_init_5 S18) rfl rfl ⟨Nat.le_of_ble_eq_true rfl, Nat.le_of_ble_eq_true rfl⟩ (fun S19 => ?_)
  refine v_aast (pc := 75) (t := 1) (L2 := LS49) C rfl rfl rfl rfl (by decide) rfl rfl d_B_init_75 ?_
  refine v_iincT (pc := 76) (p := 0) (v := 6) (lv' := [(1, .int 6), (0, rf G 0)]) C d_B_init_76 rfl (by decide) (by decide) rfl ?_
  refine v_goto (pc := 79) (tgt := 57) C d_B_init_79 rfl ?_
  refine v_iload_n (pc := 57) C d_B_init_57 rfl 0 rfl ?_
  refine v_bipush (pc := 58) C d_B_init_58 bp_10 ?_
  refine v_icmp_ge_f (pc := 60) (tgt := 82) C d_B_init_60 rfl (by decide) ?_
  refine v_aload_n (pc := 63) C d_B_init_63 rfl 1 rfl ?_
  refine v_getR (pc := 64) (r := 18) C fl_B_37 rfl rfl d_B_init_64 ?_
  refine v_iload_n (pc := 67) C d_B_init_67 rfl 0 rfl ?_
  refine v_new (pc := 68) (a := 25) (L2 := LS50) (k2 := 25) (n2 := 154) C cn_B_35 rfl rfl rfl rfl ⟨Nat.le_of_ble_eq_true rfl, Nat.le_of_ble_eq_true rfl⟩ d_B_init_68 (fun S20 => ?_)
  refine v_dup (pc := 71) C d_B_init_71 rfl ?_
  refine v_cc (pc := 72) (L2 := LS50) (k2 := 25) (n2 := 154) (inv_IN (As := []) (st := [rf G 25, .int 6, rf G 18]) C mn_B_41 mi_Sh_init ro_B_init_Sh_init rfl rfl (Nat.le_of_ble_eq_true rfl) d_B_init_72) (ci_Sh_init_6 S20) rfl rfl ⟨Nat.le_of_ble_eq_true rfl, Nat.le_of_ble_eq_true rfl⟩ (fun S21 => ?_)
  refine v_aast (pc := 75) (t := 1) (L2 := LS51) C rfl rfl rfl rfl (by decide) rfl rfl d_B_init_75 ?_
  refine v_iincT (pc := 76) (p := 0) (v := 7) (lv' := [(1, .int 7), (0, rf G 0)]) C d_B_init_76 rfl (by decide) (by decide) rfl ?_
  refine v_goto (pc := 79) (tgt := 57) C d_B_init_79 rfl ?_
  refine v_iload_n (pc := 57) C d_B_init_57 rfl 0 rfl ?_
  refine v_bipush (pc := 58) C d_B_init_58 bp_10 ?_
  refine v_icmp_ge_f (pc := 60) (tgt := 82) C d_B_init_60 rfl (by decide) ?_
  refine v_aload_n (pc := 63) C d_B_init_63 rfl 1 rfl ?_
  refine v_getR (pc := 64) (r := 18) C fl_B_37 rfl rfl d_B_init_64 ?_
  refine v_iload_n (pc := 67) C d_B_init_67 rfl 0 rfl ?_
  refine v_new (pc := 68) (a := 26) (L2 := LS52) (k2 := 26) (n2 := 158) C cn_B_35 rfl rfl rfl rfl ⟨Nat.le_of_ble_eq_true rfl, Nat.le_of_ble_eq_true rfl⟩ d_B_init_68 (fun S22 => ?_)
  refine v_dup (pc := 71) C d_B_init_71 rfl ?_
  refine v_cc (pc := 72) (L2 := LS52) (k2 := 26) (n2 := 158) (inv_IN (As := []) (st := [rf G 26, .int 7, rf G 18]) C mn_B_41 mi_Sh_init ro_B_init_Sh_init rfl rfl (Nat.le_of_ble_eq_true rfl) d_B_init_72) (ci_Sh_init_7 S22) rfl rfl ⟨Nat.le_of_ble_eq_true rfl, Nat.le_of_ble_eq_true rfl⟩ (fun S23 => ?_)
  refine v_aast (pc := 75) (t := 1) (L2 := LS53) C rfl rfl rfl rfl (by decide) rfl rfl d_B_init_75 ?_
  refine v_iincT (pc := 76) (p := 0) (v := 8) (lv' := [(1, .int 8), (0, rf G 0)]) C d_B_init_76 rfl (by decide) (by decide) rfl ?_
  refine v_goto (pc := 79) (tgt := 57) C d_B_init_79 rfl ?_
  refine v_iload_n (pc := 57) C d_B_init_57 rfl 0 rfl ?_
  refine v_bipush (pc := 58) C d_B_init_58 bp_10 ?_
  refine v_icmp_ge_f (pc := 60) (tgt := 82) C d_B_init_60 rfl (by decide) ?_
  refine v_aload_n (pc := 63) C d_B_init_63 rfl 1 rfl ?_
  refine v_getR (pc := 64) (r := 18) C fl_B_37 rfl rfl d_B_init_64 ?_
  refine v_iload_n (pc := 67) C d_B_init_67 rfl 0 rfl ?_
  refine v_new (pc := 68) (a := 27) (L2 := LS54) (k2 := 27) (n2 := 162) C cn_B_35 rfl rfl rfl rfl ⟨Nat.le_of_ble_eq_true rfl, Nat.le_of_ble_eq_true rfl⟩ d_B_init_68 (fun S24 => ?_)
  refine v_dup (pc := 71) C d_B_init_71 rfl ?_
  refine v_cc (pc := 72) (L2 := LS54) (k2 := 27) (n2 := 162) (inv_IN (As := []) (st := [rf G 27, .int 8, rf G 18]) C mn_B_41 mi_Sh_init ro_B_init_Sh_init rfl rfl (Nat.le_of_ble_eq_true rfl) d_B_init_72) (ci_Sh_init_8 S24) rfl rfl ⟨Nat.le_of_ble_eq_true rfl, Nat.le_of_ble_eq_true rfl⟩ (fun S25 => ?_)
  refine v_aast (pc := 75) (t := 1) (L2 := LS55) C rfl rfl rfl rfl (by decide) rfl rfl d_B_init_75 ?_
  refine v_iincT (pc := 76) (p := 0) (v := 9) (lv' := [(1, .int 9), (0, rf G 0)]) C d_B_init_76 rfl (by decide) (by decide) rfl ?_
  refine v_goto (pc := 79) (tgt := 57) C d_B_init_79 rfl ?_
  refine v_iload_n (pc := 57) C d_B_init_57 rfl 0 rfl ?_
  refine v_bipush (pc := 58) C d_B_init_58 bp_10 ?_
  refine v_icmp_ge_f (pc := 60) (tgt := 82) C d_B_init_60 rfl (by decide) ?_
  refine v_aload_n (pc := 63) C d_B_init_63 rfl 1 rfl ?_
  refine v_getR (pc := 64) (r := 18) C fl_B_37 rfl rfl d_B_init_64 ?_
  refine v_iload_n (pc := 67) C d_B_init_67 rfl 0 rfl ?_
  refine v_new (pc := 68) (a := 28) (L2 := LS56) (k2 := 28) (n2 := 166) C cn_B_35 rfl rfl rfl rfl ⟨Nat.le_of_ble_eq_true rfl, Nat.le_of_ble_eq_true rfl⟩ d_B_init_68 (fun S26 => ?_)
  refine v_dup (pc := 71) C d_B_init_71 rfl ?_
  refine v_cc (pc := 72) (L2 := LS56) (k2 := 28) (n2 := 166) (inv_IN (As := []) (st := [rf G 28, .int 9, rf G 18]) C mn_B_41 mi_Sh_init ro_B_init_Sh_init rfl rfl (Nat.le_of_ble_eq_true rfl) d_B_init_72) (ci_Sh_init_9 S26) rfl rfl ⟨Nat.le_of_ble_eq_true rfl, Nat.le_of_ble_eq_true rfl⟩ (fun S27 => ?_)
  refine v_aast (pc := 75) (t := 1) (L2 := LS57) C rfl rfl rfl rfl (by decide) rfl rfl d_B_init_75 ?_
  refine v_iincT (pc := 76) (p := 0) (v := 10) (lv' := [(1, .int 10), (0, rf G 0)]) C d_B_init_76 rfl (by decide) (by decide) rfl ?_
  refine v_goto (pc := 79) (tgt := 57) C d_B_init_79 rfl ?_
  refine v_iload_n (pc := 57) C d_B_init_57 rfl 0 rfl ?_
  refine v_bipush (pc := 58) C d_B_init_58 bp_10 ?_
  refine v_icmp_ge_t (pc := 60) (tgt := 82) C d_B_init_60 rfl (by decide) ?_
  refine v_aload_n (pc := 82) C d_B_init_82 rfl 1 rfl ?_
  refine v_new (pc := 83) (a := 29) (L2 := LS58) (k2 := 29) (n2 := 185) C cn_B_42 rfl rfl rfl rfl ⟨Nat.le_of_ble_eq_true rfl, Nat.le_of_ble_eq_true rfl⟩ d_B_init_83 (fun S28 => ?_)
  refine v_dup (pc := 86) C d_B_init_86 rfl ?_
  refine v_cc (pc := 87) (L2 := LS64) (k2 := 32) (n2 := 1025) (inv_IN (As := []) (st := [rf G 29, rf G 0]) C mn_B_44 mi_Rd_init ro_B_init_Rd_init rfl rfl (Nat.le_of_ble_eq_true rfl) d_B_init_87) (ci_Rd_init_0 S28) rfl rfl ⟨Nat.le_of_ble_eq_true rfl, Nat.le_of_ble_eq_true rfl⟩ (fun S29 => ?_)
  refine v_putR (pc := 90) (L2 := LS65) C (Or.inr ⟨ff_B_45, rfl⟩) rfl rfl (fun _ => rfl) (fun _ => rfl) rfl (by decide) d_B_init_90 ?_
  refine v_aload_n (pc := 93) C d_B_init_93 rfl 1 rfl ?_
  refine v_new (pc := 94) (a := 33) (L2 := LS66) (k2 := 33) (n2 := 1035) C cn_B_49 rfl rfl rfl rfl ⟨Nat.le_of_ble_eq_true rfl, Nat.le_of_ble_eq_true rfl⟩ d_B_init_94 (fun S30 => ?_)
  refine v_dup (pc := 97) C d_B_init_97 rfl ?_
  refine v_aload_n (pc := 98) C d_B_init_98 rfl 1 rfl ?_
  refine v_getR (pc := 99) (r := 13) C fl_B_21 rfl rfl d_B_init_99 ?_
  refine v_cc (pc := 102) (L2 := LS101) (k2 := 50) (n2 := 1229) (inv_I (As := [rf G 13]) (st := [rf G 33, rf G 0]) C ml_B_51 mi_Cw_init ro_B_init_Cw_init rfl rfl (Nat.le_of_ble_eq_true rfl) d_B_init_102) (ci_Cw_init_0 S30) rfl rfl ⟨Nat.le_of_ble_eq_true rfl, Nat.le_of_ble_eq_true rfl⟩ (fun S31 => ?_)
  refine v_putR (pc := 105) (L2 := LS102) C (Or.inr ⟨ff_B_54, rfl⟩) rfl rfl (fun _ => rfl) (fun _ => rfl) rfl (by decide) d_B_init_105 ?_
  refine v_aload_n (pc := 108) C d_B_init_108 rfl 1 rfl ?_
  refine v_bipush (pc := 109) C d_B_init_109 bp_6 ?_
  refine v_newI (pc := 111) (a := 51) (m := 6) (L2 := LS103) (k2 := 51) (n2 := 1235) C rfl rfl rfl rfl ⟨Nat.le_of_ble_eq_true rfl, Nat.le_of_ble_eq_true rfl⟩ (by decide) (by decide) (by decide) aw_I d_B_init_111 (fun S32 => ?_)
  refine v_putR (pc := 113) (L2 := LS104) C (Or.inr ⟨ff_B_58, rfl⟩) rfl rfl (fun _ => rfl) (fun _ => rfl) rfl (by decide) d_B_init_113 ?_
  refine v_aload_n (pc := 116) C d_B_init_116 rfl 1 rfl ?_
  refine v_bipush (pc := 117) C d_B_init_117 bp_8 ?_
  refine v_newI (pc := 119) (a := 52) (m := 8) (L2 := LS105) (k2 := 52) (n2 := 1243) C rfl rfl rfl rfl ⟨Nat.le_of_ble_eq_true rfl, Nat.le_of_ble_eq_true rfl⟩ (by decide) (by decide) (by decide) aw_I d_B_init_119 (fun S33 => ?_)
  refine v_putR (pc := 121) (L2 := LS106) C (Or.inr ⟨ff_B_61, rfl⟩) rfl rfl (fun _ => rfl) (fun _ => rfl) rfl (by decide) d_B_init_121 ?_
  refine v_aload_n (pc := 124) C d_B_init_124 rfl 1 rfl ?_
  refine v_new (pc := 125) (a := 53) (L2 := LS107) (k2 := 53) (n2 := 1247) C cn_B_64 rfl rfl rfl rfl ⟨Nat.le_of_ble_eq_true rfl, Nat.le_of_ble_eq_true rfl⟩ d_B_init_125 (fun S34 => ?_)
  refine v_dup (pc := 128) C d_B_init_128 rfl ?_
  refine v_bipush (pc := 129) C d_B_init_129 bp_8 ?_
  refine v_cc (pc := 131) (L2 := LS113) (k2 := 56) (n2 := 1277) (inv_I (As := [.int 8]) (st := [rf G 53, rf G 0]) C ml_B_66 mi_Sp_init ro_B_init_Sp_init rfl rfl (Nat.le_of_ble_eq_true rfl) d_B_init_131) (ci_Sp_init_0 S34) rfl rfl ⟨Nat.le_of_ble_eq_true rfl, Nat.le_of_ble_eq_true rfl⟩ (fun S35 => ?_)
  refine v_putR (pc := 134) (L2 := LS114) C (Or.inr ⟨ff_B_69, rfl⟩) rfl rfl (fun _ => rfl) (fun _ => rfl) rfl (by decide) d_B_init_134 ?_
  refine v_aload_n (pc := 137) C d_B_init_137 rfl 1 rfl ?_
  refine v_iconst (pc := 138) C d_B_init_138 ic_4 ?_
  refine v_anew (pc := 139) (a := 57) (m := 4) (t := 3) (CN := "BangSquare$Tape") (L2 := LS115) (k2 := 57) (n2 := 1281) C cl_B_73 (by decide) rfl rfl rfl rfl rfl rfl ⟨Nat.le_of_ble_eq_true rfl, Nat.le_of_ble_eq_true rfl⟩ (by decide) (by decide) (by decide) d_B_init_139 (fun S36 => ?_)
  refine v_putR (pc := 142) (L2 := LS116) C (Or.inr ⟨ff_B_75, rfl⟩) rfl rfl (fun _ => rfl) (fun _ => rfl) rfl (by decide) d_B_init_142 ?_
  refine v_iconst (pc := 145) C d_B_init_145 ic_0 ?_
  refine v_istore_n (pc := 146) (lv' := [(1, .int 0), (0, rf G 0)]) C d_B_init_146 rfl (by decide) rfl ?_
  refine v_iload_n (pc := 147) C d_B_init_147 rfl 0 rfl ?_
  refine v_iconst (pc := 148) C d_B_init_148 ic_4 ?_
  refine v_icmp_ge_f (pc := 149) (tgt := 179) C d_B_init_149 rfl (by decide) ?_
  refine v_aload_n (pc := 152) C d_B_init_152 rfl 1 rfl ?_
  refine v_getR (pc := 153) (r := 57) C fl_B_75 rfl rfl d_B_init_153 ?_
  refine v_iload_n (pc := 156) C d_B_init_156 rfl 0 rfl ?_
  refine v_new (pc := 157) (a := 58) (L2 := LS117) (k2 := 58) (n2 := 1293) C cn_B_73 rfl rfl rfl rfl ⟨Nat.le_of_ble_eq_true rfl, Nat.le_of_ble_eq_true rfl⟩ d_B_init_157 (fun S37 => ?_)
  refine v_dup (pc := 160) C d_B_init_160 rfl ?_
  refine v_aload_n (pc := 161) C d_B_init_161 rfl 1 rfl ?_
  refine v_getR (pc := 162) (r := 13) C fl_B_21 rfl rfl d_B_init_162 ?_
  refine v_aload_n (pc := 165) C d_B_init_165 rfl 1 rfl ?_
  refine v_getR (pc := 166) (r := 17) C fl_B_25 rfl rfl d_B_init_166 ?_
  refine v_cc (pc := 169) (L2 := LS133) (k2 := 65) (n2 := 1361) (inv_I (As := [rf G 13, rf G 17]) (st := [rf G 58, .int 0, rf G 57]) C ml_B_79 mi_Tp_init ro_B_init_Tp_init rfl rfl (Nat.le_of_ble_eq_true rfl) d_B_init_169) (ci_Tp_init_0 S37) rfl rfl ⟨Nat.le_of_ble_eq_true rfl, Nat.le_of_ble_eq_true rfl⟩ (fun S38 => ?_)
  refine v_aast (pc := 172) (t := 3) (L2 := LS134) C rfl rfl rfl rfl (by decide) rfl rfl d_B_init_172 ?_
  refine v_iincT (pc := 173) (p := 0) (v := 1) (lv' := [(1, .int 1), (0, rf G 0)]) C d_B_init_173 rfl (by decide) (by decide) rfl ?_
  refine v_goto (pc := 176) (tgt := 147) C d_B_init_176 rfl ?_
  refine v_iload_n (pc := 147) C d_B_init_147 rfl 0 rfl ?_
  refine v_iconst (pc := 148) C d_B_init_148 ic_4 ?_
  refine v_icmp_ge_f (pc := 149) (tgt := 179) C d_B_init_149 rfl (by decide) ?_
  refine v_aload_n (pc := 152) C d_B_init_152 rfl 1 rfl ?_
  refine v_getR (pc := 153) (r := 57) C fl_B_75 rfl rfl d_B_init_153 ?_
  refine v_iload_n (pc := 156) C d_B_init_156 rfl 0 rfl ?_
  refine v_new (pc := 157) (a := 66) (L2 := LS135) (k2 := 66) (n2 := 1373) C cn_B_73 rfl rfl rfl rfl ⟨Nat.le_of_ble_eq_true rfl, Nat.le_of_ble_eq_true rfl⟩ d_B_init_157 (fun S39 => ?_)
  refine v_dup (pc := 160) C d_B_init_160 rfl ?_
  refine v_aload_n (pc := 161) C d_B_init_161 rfl 1 rfl ?_
  refine v_getR (pc := 162) (r := 13) C fl_B_21 rfl rfl d_B_init_162 ?_
  refine v_aload_n (pc := 165) C d_B_init_165 rfl 1 rfl ?_
  refine v_getR (pc := 166) (r := 17) C fl_B_25 rfl rfl d_B_init_166 ?_
  refine v_cc (pc := 169) (L2 := LS151) (k2 := 73) (n2 := 1441) (inv_I (As := [rf G 13, rf G 17]) (st := [rf G 66, .int 1, rf G 57]) C ml_B_79 mi_Tp_init ro_B_init_Tp_init rfl rfl (Nat.le_of_ble_eq_true rfl) d_B_init_169) (ci_Tp_init_1 S39) rfl rfl ⟨Nat.le_of_ble_eq_true rfl, Nat.le_of_ble_eq_true rfl⟩ (fun S40 => ?_)
  refine v_aast (pc := 172) (t := 3) (L2 := LS152) C rfl rfl rfl rfl (by decide) rfl rfl d_B_init_172 ?_
  refine v_iincT (pc := 173) (p := 0) (v := 2) (lv' := [(1, .int 2), (0, rf G 0)]) C d_B_init_173 rfl (by decide) (by decide) rfl ?_
  refine v_goto (pc := 176) (tgt := 147) C d_B_init_176 rfl ?_
  refine v_iload_n (pc := 147) C d_B_init_147 rfl 0 rfl ?_
  refine v_iconst (pc := 148) C d_B_init_148 ic_4 ?_
  refine v_icmp_ge_f (pc := 149) (tgt := 179) C d_B_init_149 rfl (by decide) ?_
  refine v_aload_n (pc := 152) C d_B_init_152 rfl 1 rfl ?_
  refine v_getR (pc := 153) (r := 57) C fl_B_75 rfl rfl d_B_init_153 ?_
  refine v_iload_n (pc := 156) C d_B_init_156 rfl 0 rfl ?_
  refine v_new (pc := 157) (a := 74) (L2 := LS153) (k2 := 74) (n2 := 1453) C cn_B_73 rfl rfl rfl rfl ⟨Nat.le_of_ble_eq_true rfl, Nat.le_of_ble_eq_true rfl⟩ d_B_init_157 (fun S41 => ?_)
  refine v_dup (pc := 160) C d_B_init_160 rfl ?_
  refine v_aload_n (pc := 161) C d_B_init_161 rfl 1 rfl ?_
  refine v_getR (pc := 162) (r := 13) C fl_B_21 rfl rfl d_B_init_162 ?_
  refine v_aload_n (pc := 165) C d_B_init_165 rfl 1 rfl ?_
  refine v_getR (pc := 166) (r := 17) C fl_B_25 rfl rfl d_B_init_166 ?_
  refine v_cc (pc := 169) (L2 := LS169) (k2 := 81) (n2 := 1521) (inv_I (As := [rf G 13, rf G 17]) (st := [rf G 74, .int 2, rf G 57]) C ml_B_79 mi_Tp_init ro_B_init_Tp_init rfl rfl (Nat.le_of_ble_eq_true rfl) d_B_init_169) (ci_Tp_init_2 S41) rfl rfl ⟨Nat.le_of_ble_eq_true rfl, Nat.le_of_ble_eq_true rfl⟩ (fun S42 => ?_)
  refine v_aast (pc := 172) (t := 3) (L2 := LS170) C rfl rfl rfl rfl (by decide) rfl rfl d_B_init_172 ?_
  refine v_iincT (pc := 173) (p := 0) (v := 3) (lv' := [(1, .int 3), (0, rf G 0)]) C d_B_init_173 rfl (by decide) (by decide) rfl ?_
  refine v_goto (pc := 176) (tgt := 147) C d_B_init_176 rfl ?_
  refine v_iload_n (pc := 147) C d_B_init_147 rfl 0 rfl ?_
  refine v_iconst (pc := 148) C d_B_init_148 ic_4 ?_
  refine v_icmp_ge_f (pc := 149) (tgt := 179) C d_B_init_149 rfl (by decide) ?_
  refine v_aload_n (pc := 152) C d_B_init_152 rfl 1 rfl ?_
  refine v_getR (pc := 153) (r := 57) C fl_B_75 rfl rfl d_B_init_153 ?_
  refine v_iload_n (pc := 156) C d_B_init_156 rfl 0 rfl ?_
  refine v_new (pc := 157) (a := 82) (L2 := LS171) (k2 := 82) (n2 := 1533) C cn_B_73 rfl rfl rfl rfl ⟨Nat.le_of_ble_eq_true rfl, Nat.le_of_ble_eq_true rfl⟩ d_B_init_157 (fun S43 => ?_)
  refine v_dup (pc := 160) C d_B_init_160 rfl ?_
  refine v_aload_n (pc := 161) C d_B_init_161 rfl 1 rfl ?_
  refine v_getR (pc := 162) (r := 13) C fl_B_21 rfl rfl d_B_init_162 ?_
  refine v_aload_n (pc := 165) C d_B_init_165 rfl 1 rfl ?_
  refine v_getR (pc := 166) (r := 17) C fl_B_25 rfl rfl d_B_init_166 ?_
  refine v_cc (pc := 169) (L2 := LS187) (k2 := 89) (n2 := 1601) (inv_I (As := [rf G 13, rf G 17]) (st := [rf G 82, .int 3, rf G 57]) C ml_B_79 mi_Tp_init ro_B_init_Tp_init rfl rfl (Nat.le_of_ble_eq_true rfl) d_B_init_169) (ci_Tp_init_3 S43) rfl rfl ⟨Nat.le_of_ble_eq_true rfl, Nat.le_of_ble_eq_true rfl⟩ (fun S44 => ?_)
  refine v_aast (pc := 172) (t := 3) (L2 := LS188) C rfl rfl rfl rfl (by decide) rfl rfl d_B_init_172 ?_
  refine v_iincT (pc := 173) (p := 0) (v := 4) (lv' := [(1, .int 4), (0, rf G 0)]) C d_B_init_173 rfl (by decide) (by decide) rfl ?_
  refine v_goto (pc := 176) (tgt := 147) C d_B_init_176 rfl ?_
  refine v_iload_n (pc := 147) C d_B_init_147 rfl 0 rfl ?_
  refine v_iconst (pc := 148) C d_B_init_148 ic_4 ?_
  refine v_icmp_ge_t (pc := 149) (tgt := 179) C d_B_init_149 rfl (by decide) ?_
  refine v_aload_n (pc := 179) C d_B_init_179 rfl 1 rfl ?_
  refine v_iconst (pc := 180) C d_B_init_180 ic_5 ?_
  refine v_putI (pc := 181) C fp_B_82 rfl rfl d_B_init_181 (fun S45 => ?_)
  refine v_aload_n (pc := 184) C d_B_init_184 rfl 1 rfl ?_
  refine v_new (pc := 185) (a := 90) (L2 := LS189) (k2 := 90) (n2 := 1608) C cn_B_86 rfl rfl rfl rfl ⟨Nat.le_of_ble_eq_true rfl, Nat.le_of_ble_eq_true rfl⟩ d_B_init_185 (fun S46 => ?_)
  refine v_dup (pc := 188) C d_B_init_188 rfl ?_
  refine v_cc (pc := 189) (L2 := LS205) (k2 := 98) (n2 := 1727) (inv_I (As := []) (st := [rf G 90, rf G 0]) C ml_B_88 mi_Ns_init ro_B_init_Ns_init rfl rfl (Nat.le_of_ble_eq_true rfl) d_B_init_189) (ci_Ns_init_0 S46) rfl rfl ⟨Nat.le_of_ble_eq_true rfl, Nat.le_of_ble_eq_true rfl⟩ (fun S47 => ?_)
  refine v_putR (pc := 192) (L2 := LS206) C (Or.inr ⟨ff_B_89, rfl⟩) rfl rfl (fun _ => rfl) (fun _ => rfl) rfl (by decide) d_B_init_192 ?_
  refine v_aload_n (pc := 195) C d_B_init_195 rfl 1 rfl ?_
  refine v_new (pc := 196) (a := 99) (L2 := LS207) (k2 := 99) (n2 := 1731) C cn_B_35 rfl rfl rfl rfl ⟨Nat.le_of_ble_eq_true rfl, Nat.le_of_ble_eq_true rfl⟩ d_B_init_196 (fun S48 => ?_)
  refine v_dup (pc := 199) C d_B_init_199 rfl ?_
  refine v_cc (pc := 200) (L2 := LS207) (k2 := 99) (n2 := 1731) (inv_IN (As := []) (st := [rf G 99, rf G 0]) C mn_B_41 mi_Sh_init ro_B_init_Sh_init rfl rfl (Nat.le_of_ble_eq_true rfl) d_B_init_200) (ci_Sh_init_14 S48) rfl rfl ⟨Nat.le_of_ble_eq_true rfl, Nat.le_of_ble_eq_true rfl⟩ (fun S49 => ?_)
  refine v_putR (pc := 203) (L2 := LS208) C (Or.inr ⟨ff_B_93, rfl⟩) rfl rfl (fun _ => rfl) (fun _ => rfl) rfl (by decide) d_B_init_203 ?_
  refine v_aload_n (pc := 206) C d_B_init_206 rfl 1 rfl ?_
  refine v_iconst (pc := 207) C d_B_init_207 ic_m1 ?_
  refine v_putI (pc := 208) C fp_B_97 rfl rfl d_B_init_208 (fun S50 => ?_)
  refine v_aload_n (pc := 211) C d_B_init_211 rfl 1 rfl ?_
  refine v_bipush (pc := 212) C d_B_init_212 bp_10 ?_
  refine v_newI (pc := 214) (a := 100) (m := 10) (L2 := LS209) (k2 := 100) (n2 := 1741) C rfl rfl rfl rfl ⟨Nat.le_of_ble_eq_true rfl, Nat.le_of_ble_eq_true rfl⟩ (by decide) (by decide) (by decide) aw_I d_B_init_214 (fun S51 => ?_)
  refine v_putR (pc := 216) (L2 := LS210) C (Or.inr ⟨ff_B_100, rfl⟩) rfl rfl (fun _ => rfl) (fun _ => rfl) rfl (by decide) d_B_init_216 ?_
  refine v_aload_n (pc := 219) C d_B_init_219 rfl 1 rfl ?_
  refine v_new (pc := 220) (a := 101) (L2 := LS211) (k2 := 101) (n2 := 1745) C cn_B_103 rfl rfl rfl rfl ⟨Nat.le_of_ble_eq_true rfl, Nat.le_of_ble_eq_true rfl⟩ d_B_init_220 (fun S52 => ?_)
  refine v_dup (pc := 223) C d_B_init_223 rfl ?_
  refine v_aload_n (pc := 224) C d_B_init_224 rfl 1 rfl ?_
  refine v_getR (pc := 225) (r := 1) C fl_B_12 rfl rfl d_B_init_225 ?_
  refine v_aload_n (pc := 228) C d_B_init_228 rfl 1 rfl ?_
  refine v_getR (pc := 229) (r := 17) C fl_B_25 rfl rfl d_B_init_229 ?_
  refine v_cc (pc := 232) (L2 := LS217) (k2 := 103) (n2 := 1945) (inv_I (As := [rf G 1, rf G 17]) (st := [rf G 101, rf G 0]) C ml_B_105 mi_Rf_init ro_B_init_Rf_init rfl rfl (Nat.le_of_ble_eq_true rfl) d_B_init_232) (ci_Rf_init_0 S52) rfl rfl ⟨Nat.le_of_ble_eq_true rfl, Nat.le_of_ble_eq_true rfl⟩ (fun S53 => ?_)
  refine v_putR (pc := 235) (L2 := LS218) C (Or.inr ⟨ff_B_108, rfl⟩) rfl rfl (fun _ => rfl) (fun _ => rfl) rfl (by decide) d_B_init_235 ?_
  exact v_vret C d_B_init_238 rfl ⟨Nat.le_of_ble_eq_true rfl, Nat.le_of_ble_eq_true rfl⟩ rfl rfl
set_option maxRecDepth 20000 in
def ri_M_init_0 (S : Sto) : Option Sto :=
  ltS (sw S 104 1 3) (fun S1 =>
  ltS (sw S1 104 4 5) (fun S2 =>
  ltS (sr S2 105 (fun _ => 0)) (fun S3 =>
  ltS (sr S3 106 (fun _ => 0)) (fun S4 =>
  ltS (sr S4 107 (fun _ => 0)) (fun S5 =>
  ltS (sr S5 108 (fun _ => 0)) (fun S6 =>
  ltS (sr S6 109 (fun _ => 0)) (fun S7 =>
  ltS (sr S7 110 (fun _ => 0)) (fun S8 =>
  chk (inr 0 10) (ltS (sw S8 110 (0 : Int32).toNatClampNeg (-1)) (fun S9 =>
  chk (inr 1 10) (ltS (sw S9 110 (1 : Int32).toNatClampNeg (-1)) (fun S10 =>
  chk (inr 2 10) (ltS (sw S10 110 (2 : Int32).toNatClampNeg (-1)) (fun S11 =>
  chk (inr 3 10) (ltS (sw S11 110 (3 : Int32).toNatClampNeg (-1)) (fun S12 =>
  chk (inr 4 10) (ltS (sw S12 110 (4 : Int32).toNatClampNeg (-1)) (fun S13 =>
  chk (inr 5 10) (ltS (sw S13 110 (5 : Int32).toNatClampNeg (-1)) (fun S14 =>
  chk (inr 6 10) (ltS (sw S14 110 (6 : Int32).toNatClampNeg (-1)) (fun S15 =>
  chk (inr 7 10) (ltS (sw S15 110 (7 : Int32).toNatClampNeg (-1)) (fun S16 =>
  chk (inr 8 10) (ltS (sw S16 110 (8 : Int32).toNatClampNeg (-1)) (fun S17 =>
  chk (inr 9 10) (ltS (sw S17 110 (9 : Int32).toNatClampNeg (-1)) (fun S18 =>
  ltS (sr S18 111 (fun _ => 0)) (fun S19 =>
  ltS (sr S19 112 (fun _ => 0)) (fun S20 =>
  ltS (sr S20 113 (fun _ => 0)) (fun S21 =>
  ltS (sr S21 114 (fun _ => 0)) (fun S22 =>
  ltS (sr S22 115 (fun _ => 0)) (fun S23 =>
  ltS (sr S23 116 (fun _ => 0)) (fun S24 =>
  ltS (sr S24 117 (fun _ => 0)) (fun S25 =>
  ltS (sr S25 118 (fun _ => 0)) (fun S26 =>
  ltS (sr S26 119 (fun _ => 0)) (fun S27 =>
  chk (inr 0 96) (ltS (sw S27 119 (0 : Int32).toNatClampNeg 32) (fun S28 =>
  chk (inr 1 96) (ltS (sw S28 119 (1 : Int32).toNatClampNeg 116) (fun S29 =>
  chk (inr 2 96) (ltS (sw S29 119 (2 : Int32).toNatClampNeg 117) (fun S30 =>
  chk (inr 3 96) (ltS (sw S30 119 (3 : Int32).toNatClampNeg 114) (fun S31 =>
  chk (inr 4 96) (ltS (sw S31 119 (4 : Int32).toNatClampNeg 110) (fun S32 =>
  chk (inr 5 96) (ltS (sw S32 119 (5 : Int32).toNatClampNeg 32) (fun S33 =>
  chk (inr 6 96) (ltS (sw S33 119 (6 : Int32).toNatClampNeg 98) (fun S34 =>
  chk (inr 7 96) (ltS (sw S34 119 (7 : Int32).toNatClampNeg 97) (fun S35 =>
  chk (inr 8 96) (ltS (sw S35 119 (8 : Int32).toNatClampNeg 110) (fun S36 =>
  chk (inr 9 96) (ltS (sw S36 119 (9 : Int32).toNatClampNeg 103) (fun S37 =>
  chk (inr 10 96) (ltS (sw S37 119 (10 : Int32).toNatClampNeg 32) (fun S38 =>
  chk (inr 11 96) (ltS (sw S38 119 (11 : Int32).toNatClampNeg 99) (fun S39 =>
  chk (inr 12 96) (ltS (sw S39 119 (12 : Int32).toNatClampNeg 114) (fun S40 =>
  chk (inr 13 96) (ltS (sw S40 119 (13 : Int32).toNatClampNeg 97) (fun S41 =>
  chk (inr 14 96) (ltS (sw S41 119 (14 : Int32).toNatClampNeg 99) (fun S42 =>
  chk (inr 15 96) (ltS (sw S42 119 (15 : Int32).toNatClampNeg 107) (fun S43 =>
  chk (inr 16 96) (ltS (sw S43 119 (16 : Int32).toNatClampNeg 32) (fun S44 =>
  chk (inr 17 96) (ltS (sw S44 119 (17 : Int32).toNatClampNeg 119) (fun S45 =>
  chk (inr 18 96) (ltS (sw S45 119 (18 : Int32).toNatClampNeg 97) (fun S46 =>
  chk (inr 19 96) (ltS (sw S46 119 (19 : Int32).toNatClampNeg 108) (fun S47 =>
  chk (inr 20 96) (ltS (sw S47 119 (20 : Int32).toNatClampNeg 108) (fun S48 =>
  chk (inr 21 96) (ltS (sw S48 119 (21 : Int32).toNatClampNeg 32) (fun S49 =>
  chk (inr 22 96) (ltS (sw S49 119 (22 : Int32).toNatClampNeg 110) (fun S50 =>
  chk (inr 23 96) (ltS (sw S50 119 (23 : Int32).toNatClampNeg 111) (fun S51 =>
  chk (inr 24 96) (ltS (sw S51 119 (24 : Int32).toNatClampNeg 32) (fun S52 =>
  chk (inr 25 96) (ltS (sw S52 119 (25 : Int32).toNatClampNeg 119) (fun S53 =>
  chk (inr 26 96) (ltS (sw S53 119 (26 : Int32).toNatClampNeg 104) (fun S54 =>
  chk (inr 27 96) (ltS (sw S54 119 (27 : Int32).toNatClampNeg 101) (fun S55 =>
  chk (inr 28 96) (ltS (sw S55 119 (28 : Int32).toNatClampNeg 110) (fun S56 =>
  chk (inr 29 96) (ltS (sw S56 119 (29 : Int32).toNatClampNeg 32) (fun S57 =>
  chk (inr 30 96) (ltS (sw S57 119 (30 : Int32).toNatClampNeg 111) (fun S58 =>
  chk (inr 31 96) (ltS (sw S58 119 (31 : Int32).toNatClampNeg 114) (fun S59 =>
  chk (inr 32 96) (ltS (sw S59 119 (32 : Int32).toNatClampNeg 32) (fun S60 =>
  chk (inr 33 96) (ltS (sw S60 119 (33 : Int32).toNatClampNeg 97) (fun S61 =>
  chk (inr 34 96) (ltS (sw S61 119 (34 : Int32).toNatClampNeg 110) (fun S62 =>
  chk (inr 35 96) (ltS (sw S62 119 (35 : Int32).toNatClampNeg 100) (fun S63 =>
  chk (inr 36 96) (ltS (sw S63 119 (36 : Int32).toNatClampNeg 32) (fun S64 =>
  chk (inr 37 96) (ltS (sw S64 119 (37 : Int32).toNatClampNeg 110) (fun S65 =>
  chk (inr 38 96) (ltS (sw S65 119 (38 : Int32).toNatClampNeg 111) (fun S66 =>
  chk (inr 39 96) (ltS (sw S66 119 (39 : Int32).toNatClampNeg 116) (fun S67 =>
  chk (inr 40 96) (ltS (sw S67 119 (40 : Int32).toNatClampNeg 32) (fun S68 =>
  chk (inr 41 96) (ltS (sw S68 119 (41 : Int32).toNatClampNeg 103) (fun S69 =>
  chk (inr 42 96) (ltS (sw S69 119 (42 : Int32).toNatClampNeg 97) (fun S70 =>
  chk (inr 43 96) (ltS (sw S70 119 (43 : Int32).toNatClampNeg 112) (fun S71 =>
  chk (inr 44 96) (ltS (sw S71 119 (44 : Int32).toNatClampNeg 32) (fun S72 =>
  chk (inr 45 96) (ltS (sw S72 119 (45 : Int32).toNatClampNeg 119) (fun S73 =>
  chk (inr 46 96) (ltS (sw S73 119 (46 : Int32).toNatClampNeg 97) (fun S74 =>
  chk (inr 47 96) (ltS (sw S74 119 (47 : Int32).toNatClampNeg 108) (fun S75 =>
  chk (inr 48 96) (ltS (sw S75 119 (48 : Int32).toNatClampNeg 108) (fun S76 =>
  chk (inr 49 96) (ltS (sw S76 119 (49 : Int32).toNatClampNeg 115) (fun S77 =>
  chk (inr 50 96) (ltS (sw S77 119 (50 : Int32).toNatClampNeg 32) (fun S78 =>
  chk (inr 51 96) (ltS (sw S78 119 (51 : Int32).toNatClampNeg 110) (fun S79 =>
  chk (inr 52 96) (ltS (sw S79 119 (52 : Int32).toNatClampNeg 101) (fun S80 =>
  chk (inr 53 96) (ltS (sw S80 119 (53 : Int32).toNatClampNeg 97) (fun S81 =>
  chk (inr 54 96) (ltS (sw S81 119 (54 : Int32).toNatClampNeg 114) (fun S82 =>
  chk (inr 55 96) (ltS (sw S82 119 (55 : Int32).toNatClampNeg 32) (fun S83 =>
  chk (inr 56 96) (ltS (sw S83 119 (56 : Int32).toNatClampNeg 115) (fun S84 =>
  chk (inr 57 96) (ltS (sw S84 119 (57 : Int32).toNatClampNeg 104) (fun S85 =>
  chk (inr 58 96) (ltS (sw S85 119 (58 : Int32).toNatClampNeg 111) (fun S86 =>
  chk (inr 59 96) (ltS (sw S86 119 (59 : Int32).toNatClampNeg 116) (fun S87 =>
  chk (inr 60 96) (ltS (sw S87 119 (60 : Int32).toNatClampNeg 32) (fun S88 =>
  chk (inr 61 96) (ltS (sw S88 119 (61 : Int32).toNatClampNeg 116) (fun S89 =>
  chk (inr 62 96) (ltS (sw S89 119 (62 : Int32).toNatClampNeg 114) (fun S90 =>
  chk (inr 63 96) (ltS (sw S90 119 (63 : Int32).toNatClampNeg 117) (fun S91 =>
  chk (inr 64 96) (ltS (sw S91 119 (64 : Int32).toNatClampNeg 99) (fun S92 =>
  chk (inr 65 96) (ltS (sw S92 119 (65 : Int32).toNatClampNeg 107) (fun S93 =>
  chk (inr 66 96) (ltS (sw S93 119 (66 : Int32).toNatClampNeg 32) (fun S94 =>
  chk (inr 67 96) (ltS (sw S94 119 (67 : Int32).toNatClampNeg 98) (fun S95 =>
  chk (inr 68 96) (ltS (sw S95 119 (68 : Int32).toNatClampNeg 111) (fun S96 =>
  chk (inr 69 96) (ltS (sw S96 119 (69 : Int32).toNatClampNeg 97) (fun S97 =>
  chk (inr 70 96) (ltS (sw S97 119 (70 : Int32).toNatClampNeg 114) (fun S98 =>
  chk (inr 71 96) (ltS (sw S98 119 (71 : Int32).toNatClampNeg 100) (fun S99 =>
  chk (inr 72 96) (ltS (sw S99 119 (72 : Int32).toNatClampNeg 32) (fun S100 =>
  chk (inr 73 96) (ltS (sw S100 119 (73 : Int32).toNatClampNeg 108) (fun S101 =>
  chk (inr 74 96) (ltS (sw S101 119 (74 : Int32).toNatClampNeg 111) (fun S102 =>
  chk (inr 75 96) (ltS (sw S102 119 (75 : Int32).toNatClampNeg 117) (fun S103 =>
  chk (inr 76 96) (ltS (sw S103 119 (76 : Int32).toNatClampNeg 100) (fun S104 =>
  chk (inr 77 96) (ltS (sw S104 119 (77 : Int32).toNatClampNeg 32) (fun S105 =>
  chk (inr 78 96) (ltS (sw S105 119 (78 : Int32).toNatClampNeg 108) (fun S106 =>
  chk (inr 79 96) (ltS (sw S106 119 (79 : Int32).toNatClampNeg 111) (fun S107 =>
  chk (inr 80 96) (ltS (sw S107 119 (80 : Int32).toNatClampNeg 110) (fun S108 =>
  chk (inr 81 96) (ltS (sw S108 119 (81 : Int32).toNatClampNeg 103) (fun S109 =>
  chk (inr 82 96) (ltS (sw S109 119 (82 : Int32).toNatClampNeg 32) (fun S110 =>
  chk (inr 83 96) (ltS (sw S110 119 (83 : Int32).toNatClampNeg 97) (fun S111 =>
  chk (inr 84 96) (ltS (sw S111 119 (84 : Int32).toNatClampNeg 104) (fun S112 =>
  chk (inr 85 96) (ltS (sw S112 119 (85 : Int32).toNatClampNeg 101) (fun S113 =>
  chk (inr 86 96) (ltS (sw S113 119 (86 : Int32).toNatClampNeg 97) (fun S114 =>
  chk (inr 87 96) (ltS (sw S114 119 (87 : Int32).toNatClampNeg 100) (fun S115 =>
  chk (inr 88 96) (ltS (sw S115 119 (88 : Int32).toNatClampNeg 32) (fun S116 =>
  chk (inr 89 96) (ltS (sw S116 119 (89 : Int32).toNatClampNeg 98) (fun S117 =>
  chk (inr 90 96) (ltS (sw S117 119 (90 : Int32).toNatClampNeg 101) (fun S118 =>
  chk (inr 91 96) (ltS (sw S118 119 (91 : Int32).toNatClampNeg 104) (fun S119 =>
  chk (inr 92 96) (ltS (sw S119 119 (92 : Int32).toNatClampNeg 105) (fun S120 =>
  chk (inr 93 96) (ltS (sw S120 119 (93 : Int32).toNatClampNeg 110) (fun S121 =>
  chk (inr 94 96) (ltS (sw S121 119 (94 : Int32).toNatClampNeg 100) (fun S122 =>
  chk (inr 95 96) (ltS (sw S122 119 (95 : Int32).toNatClampNeg 32) (fun S123 =>
  ltS (sr S123 120 (fun _ => 0)) (fun S124 =>
  ltS (sr S124 121 (fun _ => 0)) (fun S125 =>
  ltS (sr S125 122 (fun _ => 0)) (fun S126 =>
  ltS (sr S126 123 (fun _ => 0)) (fun S127 =>
  ltS (sr S127 124 (fun _ => 0)) (fun S128 =>
  ltS (sr S128 125 (fun _ => 0)) (fun S129 =>
  ltS (sr S129 126 (fun _ => 0)) (fun S130 =>
  ltS (sw S130 104 47 (-1)) (fun S131 =>
  ltS (sr S131 127 (fun _ => 0)) (fun S132 =>
  ltS (sr S132 128 (fun _ => 0)) (fun S133 =>
  ltS (sr S133 129 (fun _ => 0)) (fun S134 =>
  ltS (sr S134 130 (fun _ => 0)) (fun S135 =>
  ltS (sr S135 131 (fun _ => 0)) (fun S136 =>
  ltS (sr S136 132 (fun _ => 0)) (fun S137 =>
  ltS (sr S137 133 (fun _ => 0)) (fun S138 =>
  chk (inr 0 8) (ltS (sw S138 133 (0 : Int32).toNatClampNeg (-1)) (fun S139 =>
  chk (inr 1 8) (ltS (sw S139 133 (1 : Int32).toNatClampNeg (-1)) (fun S140 =>
  chk (inr 2 8) (ltS (sw S140 133 (2 : Int32).toNatClampNeg (-1)) (fun S141 =>
  chk (inr 3 8) (ltS (sw S141 133 (3 : Int32).toNatClampNeg (-1)) (fun S142 =>
  chk (inr 4 8) (ltS (sw S142 133 (4 : Int32).toNatClampNeg (-1)) (fun S143 =>
  chk (inr 5 8) (ltS (sw S143 133 (5 : Int32).toNatClampNeg (-1)) (fun S144 =>
  chk (inr 6 8) (ltS (sw S144 133 (6 : Int32).toNatClampNeg (-1)) (fun S145 =>
  chk (inr 7 8) (ltS (sw S145 133 (7 : Int32).toNatClampNeg (-1)) (fun S146 =>
  ltS (sr S146 134 (fun _ => 0)) (fun S147 =>
  ltS (sr S147 135 (fun _ => 0)) (fun S148 =>
  ltS (sr S148 136 (fun _ => 0)) (fun S149 =>
  ltS (sr S149 137 (fun _ => 0)) (fun S150 =>
  ltS (sr S150 138 (fun _ => 0)) (fun S151 =>
  ltS (sr S151 139 (fun _ => 0)) (fun S152 =>
  ltS (sr S152 140 (fun _ => 0)) (fun S153 =>
  ltS (sr S153 141 (fun _ => 0)) (fun S154 =>
  ltS (sr S154 142 (fun _ => 0)) (fun S155 =>
  ltS (sr S155 143 (fun _ => 0)) (fun S156 =>
  ltS (sw S156 104 70 (-1)) (fun S157 =>
  ltS (sw S157 104 71 1) (fun S158 =>
  ltS (sr S158 144 (fun _ => 0)) (fun S159 =>
  ltS (sr S159 145 (fun _ => 0)) (fun S160 =>
  some S160))))))))))))))))))))))))))))))))))))))))))))))))))))))))))))))))))))))))))))))))))))))))))))))))))))))))))))))))))))))))))))))))))))))))))))))))))))))))))))))))))))))))))))))))))))))))))))))))))))))))))))))))))))))))))))))))))))))))))))))))))))))))))))))))))))))))))))))))))
set_option maxHeartbeats 4000000 in
set_option maxRecDepth 20000 in
theorem ci_M_init_0 {G : Gl} (S : Sto) : Ct Y_M_init G [rf G 104] LS219 S (fv LS301) (ri_M_init_0 S) := by
  refine ct_of (by decide +kernel) (Nat.le_of_ble_eq_true rfl) (fun g C => ?_)
  unfold ri_M_init_0
  refine v_aload_n (pc := 0) C d_M_init_0 rfl 0 rfl ?_
  refine v_oinit (pc := 1) C oi_M_1 oi_i oi_c (Nat.le_of_ble_eq_true rfl) (Nat.le_of_ble_eq_true rfl) d_M_init_1 ?_
  refine v_aload_n (pc := 4) C d_M_init_4 rfl 0 rfl ?_
  refine v_iconst (pc := 5) C d_M_init_5 ic_3 ?_
  refine v_putI (pc := 6) C fp_M_7 rfl rfl d_M_init_6 (fun S1 => ?_)
  refine v_aload_n (pc := 9) C d_M_init_9 rfl 0 rfl ?_
  refine v_iconst (pc := 10) C d_M_init_10 ic_5 ?_
  refine v_putI (pc := 11) C fp_M_13 rfl rfl d_M_init_11 (fun S2 => ?_)
  refine v_aload_n (pc := 14) C d_M_init_14 rfl 0 rfl ?_
  refine v_bipush (pc := 15) C d_M_init_15 bp_10 ?_
  refine v_newZ (pc := 17) (a := 105) (m := 10) (L2 := LS220) (k2 := 1) (n2 := 10) C rfl rfl rfl rfl ⟨Nat.le_of_ble_eq_true rfl, Nat.le_of_ble_eq_true rfl⟩ (by decide) (by decide) (by decide) aw_Z d_M_init_17 (fun S3 => ?_)
  refine v_putR (pc := 19) (L2 := LS221) C (Or.inr ⟨ff_M_16, rfl⟩) rfl rfl (fun _ => rfl) (fun _ => rfl) rfl (by decide) d_M_init_19 ?_
  refine v_aload_n (pc := 22) C d_M_init_22 rfl 0 rfl ?_
  refine v_bipush (pc := 23) C d_M_init_23 bp_10 ?_
  refine v_newI (pc := 25) (a := 106) (m := 10) (L2 := LS222) (k2 := 2) (n2 := 20) C rfl rfl rfl rfl ⟨Nat.le_of_ble_eq_true rfl, Nat.le_of_ble_eq_true rfl⟩ (by decide) (by decide) (by decide) aw_I d_M_init_25 (fun S4 => ?_)
  refine v_putR (pc := 27) (L2 := LS223) C (Or.inr ⟨ff_M_20, rfl⟩) rfl rfl (fun _ => rfl) (fun _ => rfl) rfl (by decide) d_M_init_27 ?_
  refine v_aload_n (pc := 30) C d_M_init_30 rfl 0 rfl ?_
  refine v_bipush (pc := 31) C d_M_init_31 bp_10 ?_
  refine v_newI (pc := 33) (a := 107) (m := 10) (L2 := LS224) (k2 := 3) (n2 := 30) C rfl rfl rfl rfl ⟨Nat.le_of_ble_eq_true rfl, Nat.le_of_ble_eq_true rfl⟩ (by decide) (by decide) (by decide) aw_I d_M_init_33 (fun S5 => ?_)
  refine v_putR (pc := 35) (L2 := LS225) C (Or.inr ⟨ff_M_24, rfl⟩) rfl rfl (fun _ => rfl) (fun _ => rfl) rfl (by decide) d_M_init_35 ?_
  refine v_aload_n (pc := 38) C d_M_init_38 rfl 0 rfl ?_
  refine v_bipush (pc := 39) C d_M_init_39 bp_10 ?_
  refine v_newI (pc := 41) (a := 108) (m := 10) (L2 := LS226) (k2 := 4) (n2 := 40) C rfl rfl rfl rfl ⟨Nat.le_of_ble_eq_true rfl, Nat.le_of_ble_eq_true rfl⟩ (by decide) (by decide) (by decide) aw_I d_M_init_41 (fun S6 => ?_)
  refine v_putR (pc := 43) (L2 := LS227) C (Or.inr ⟨ff_M_27, rfl⟩) rfl rfl (fun _ => rfl) (fun _ => rfl) rfl (by decide) d_M_init_43 ?_
  refine v_aload_n (pc := 46) C d_M_init_46 rfl 0 rfl ?_
  refine v_bipush (pc := 47) C d_M_init_47 bp_10 ?_
  refine v_newI (pc := 49) (a := 109) (m := 10) (L2 := LS228) (k2 := 5) (n2 := 50) C rfl rfl rfl rfl ⟨Nat.le_of_ble_eq_true rfl, Nat.le_of_ble_eq_true rfl⟩ (by decide) (by decide) (by decide) aw_I d_M_init_49 (fun S7 => ?_)
  refine v_putR (pc := 51) (L2 := LS229) C (Or.inr ⟨ff_M_30, rfl⟩) rfl rfl (fun _ => rfl) (fun _ => rfl) rfl (by decide) d_M_init_51 ?_
  refine v_aload_n (pc := 54) C d_M_init_54 rfl 0 rfl ?_
  refine v_bipush (pc := 55) C d_M_init_55 bp_10 ?_
  refine v_newI (pc := 57) (a := 110) (m := 10) (L2 := LS230) (k2 := 6) (n2 := 60) C rfl rfl rfl rfl ⟨Nat.le_of_ble_eq_true rfl, Nat.le_of_ble_eq_true rfl⟩ (by decide) (by decide) (by decide) aw_I d_M_init_57 (fun S8 => ?_)
  refine v_dup (pc := 59) C d_M_init_59 rfl ?_
  refine v_iconst (pc := 60) C d_M_init_60 ic_0 ?_
  refine v_iconst (pc := 61) C d_M_init_61 ic_m1 ?_
  refine v_iast (pc := 62) (m := 10) C rfl d_M_init_62 (fun _ S9 => ?_)
  refine v_dup (pc := 63) C d_M_init_63 rfl ?_
  refine v_iconst (pc := 64) C d_M_init_64 ic_1 ?_
  refine v_iconst (pc := 65) C d_M_init_65 ic_m1 ?_
  refine v_iast (pc := 66) (m := 10) C rfl d_M_init_66 (fun _ S10 => ?_)
  refine v_dup (pc := 67) C d_M_init_67 rfl ?_
  refine v_iconst (pc := 68) C d_M_init_68 ic_2 ?_
  refine v_iconst (pc := 69) C d_M_init_69 ic_m1 ?_
  refine v_iast (pc := 70) (m := 10) C rfl d_M_init_70 (fun _ S11 => ?_)
  refine v_dup (pc := 71) C d_M_init_71 rfl ?_
  refine v_iconst (pc := 72) C d_M_init_72 ic_3 ?_
  refine v_iconst (pc := 73) C d_M_init_73 ic_m1 ?_
  refine v_iast (pc := 74) (m := 10) C rfl d_M_init_74 (fun _ S12 => ?_)
  refine v_dup (pc := 75) C d_M_init_75 rfl ?_
  refine v_iconst (pc := 76) C d_M_init_76 ic_4 ?_
  refine v_iconst (pc := 77) C d_M_init_77 ic_m1 ?_
  refine v_iast (pc := 78) (m := 10) C rfl d_M_init_78 (fun _ S13 => ?_)
  refine v_dup (pc := 79) C d_M_init_79 rfl ?_
  refine v_iconst (pc := 80) C d_M_init_80 ic_5 ?_
  refine v_iconst (pc := 81) C d_M_init_81 ic_m1 ?_
  refine v_iast (pc := 82) (m := 10) C rfl d_M_init_82 (fun _ S14 => ?_)
  refine v_dup (pc := 83) C d_M_init_83 rfl ?_
  refine v_bipush (pc := 84) C d_M_init_84 bp_6 ?_
  refine v_iconst (pc := 86) C d_M_init_86 ic_m1 ?_
  refine v_iast (pc := 87) (m := 10) C rfl d_M_init_87 (fun _ S15 => ?_)
  refine v_dup (pc := 88) C d_M_init_88 rfl ?_
  refine v_bipush (pc := 89) C d_M_init_89 bp_7 ?_
  refine v_iconst (pc := 91) C d_M_init_91 ic_m1 ?_
  refine v_iast (pc := 92) (m := 10) C rfl d_M_init_92 (fun _ S16 => ?_)
  refine v_dup (pc := 93) C d_M_init_93 rfl ?_
  refine v_bipush (pc := 94) C d_M_init_94 bp_8 ?_
  refine v_iconst (pc := 96) C d_M_init_96 ic_m1 ?_
  refine v_iast (pc := 97) (m := 10) C rfl d_M_init_97 (fun _ S17 => ?_)
  refine v_dup (pc := 98) C d_M_init_98 rfl ?_
  refine v_bipush (pc := 99) C d_M_init_99 bp_9 ?_
  refine v_iconst (pc := 101) C d_M_init_101 ic_m1 ?_
  refine v_iast (pc := 102) (m := 10) C rfl d_M_init_102 (fun _ S18 => ?_)
  refine v_putR (pc := 103) (L2 := LS231) C (Or.inr ⟨ff_M_33, rfl⟩) rfl rfl (fun _ => rfl) (fun _ => rfl) rfl (by decide) d_M_init_103 ?_
  refine v_aload_n (pc := 106) C d_M_init_106 rfl 0 rfl ?_
  refine v_bipush (pc := 107) C d_M_init_107 bp_10 ?_
  refine v_newI (pc := 109) (a := 111) (m := 10) (L2 := LS232) (k2 := 7) (n2 := 70) C rfl rfl rfl rfl ⟨Nat.le_of_ble_eq_true rfl, Nat.le_of_ble_eq_true rfl⟩ (by decide) (by decide) (by decide) aw_I d_M_init_109 (fun S19 => ?_)
  refine v_putR (pc := 111) (L2 := LS233) C (Or.inr ⟨ff_M_36, rfl⟩) rfl rfl (fun _ => rfl) (fun _ => rfl) rfl (by decide) d_M_init_111 ?_
  refine v_aload_n (pc := 114) C d_M_init_114 rfl 0 rfl ?_
  refine v_bipush (pc := 115) C d_M_init_115 bp_10 ?_
  refine v_newI (pc := 117) (a := 112) (m := 10) (L2 := LS234) (k2 := 8) (n2 := 80) C rfl rfl rfl rfl ⟨Nat.le_of_ble_eq_true rfl, Nat.le_of_ble_eq_true rfl⟩ (by decide) (by decide) (by decide) aw_I d_M_init_117 (fun S20 => ?_)
  refine v_putR (pc := 119) (L2 := LS235) C (Or.inr ⟨ff_M_39, rfl⟩) rfl rfl (fun _ => rfl) (fun _ => rfl) rfl (by decide) d_M_init_119 ?_
  refine v_aload_n (pc := 122) C d_M_init_122 rfl 0 rfl ?_
  refine v_bipush (pc := 123) C d_M_init_123 bp_10 ?_
  refine v_newI (pc := 125) (a := 113) (m := 10) (L2 := LS236) (k2 := 9) (n2 := 90) C rfl rfl rfl rfl ⟨Nat.le_of_ble_eq_true rfl, Nat.le_of_ble_eq_true rfl⟩ (by decide) (by decide) (by decide) aw_I d_M_init_125 (fun S21 => ?_)
  refine v_putR (pc := 127) (L2 := LS237) C (Or.inr ⟨ff_M_42, rfl⟩) rfl rfl (fun _ => rfl) (fun _ => rfl) rfl (by decide) d_M_init_127 ?_
  refine v_aload_n (pc := 130) C d_M_init_130 rfl 0 rfl ?_
  refine v_bipush (pc := 131) C d_M_init_131 bp_10 ?_
  refine v_newI (pc := 133) (a := 114) (m := 10) (L2 := LS238) (k2 := 10) (n2 := 100) C rfl rfl rfl rfl ⟨Nat.le_of_ble_eq_true rfl, Nat.le_of_ble_eq_true rfl⟩ (by decide) (by decide) (by decide) aw_I d_M_init_133 (fun S22 => ?_)
  refine v_putR (pc := 135) (L2 := LS239) C (Or.inr ⟨ff_M_45, rfl⟩) rfl rfl (fun _ => rfl) (fun _ => rfl) rfl (by decide) d_M_init_135 ?_
  refine v_aload_n (pc := 138) C d_M_init_138 rfl 0 rfl ?_
  refine v_bipush (pc := 139) C d_M_init_139 bp_10 ?_
  refine v_newI (pc := 141) (a := 115) (m := 10) (L2 := LS240) (k2 := 11) (n2 := 110) C rfl rfl rfl rfl ⟨Nat.le_of_ble_eq_true rfl, Nat.le_of_ble_eq_true rfl⟩ (by decide) (by decide) (by decide) aw_I d_M_init_141 (fun S23 => ?_)
  refine v_putR (pc := 143) (L2 := LS241) C (Or.inr ⟨ff_M_48, rfl⟩) rfl rfl (fun _ => rfl) (fun _ => rfl) rfl (by decide) d_M_init_143 ?_
  refine v_aload_n (pc := 146) C d_M_init_146 rfl 0 rfl ?_
  refine v_bipush (pc := 147) C d_M_init_147 bp_10 ?_
  refine v_newI (pc := 149) (a := 116) (m := 10) (L2 := LS242) (k2 := 12) (n2 := 120) C rfl rfl rfl rfl ⟨Nat.le_of_ble_eq_true rfl, Nat.le_of_ble_eq_true rfl⟩ (by decide) (by decide) (by decide) aw_I d_M_init_149 (fun S24 => ?_)
  refine v_putR (pc := 151) (L2 := LS243) C (Or.inr ⟨ff_M_51, rfl⟩) rfl rfl (fun _ => rfl) (fun _ => rfl) rfl (by decide) d_M_init_151 ?_
  refine v_aload_n (pc := 154) C d_M_init_154 rfl 0 rfl ?_
  refine v_bipush (pc := 155) C d_M_init_155 bp_10 ?_
  refine v_newI (pc := 157) (a := 117) (m := 10) (L2 := LS244) (k2 := 13) (n2 := 130) C rfl rfl rfl rfl ⟨Nat.le_of_ble_eq_true rfl, Nat.le_of_ble_eq_true rfl⟩ (by decide) (by decide) (by decide) aw_I d_M_init_157 (fun S25 => ?_)
  refine v_putR (pc := 159) (L2 := LS245) C (Or.inr ⟨ff_M_54, rfl⟩) rfl rfl (fun _ => rfl) (fun _ => rfl) rfl (by decide) d_M_init_159 ?_
  refine v_aload_n (pc := 162) C d_M_init_162 rfl 0 rfl ?_
  refine v_sipush (pc := 163) C d_M_init_163 sp_400 ?_
  refine v_newI (pc := 166) (a := 118) (m := 400) (L2 := LS246) (k2 := 14) (n2 := 530) C rfl rfl rfl rfl ⟨Nat.le_of_ble_eq_true rfl, Nat.le_of_ble_eq_true rfl⟩ (by decide) (by decide) (by decide) aw_I d_M_init_166 (fun S26 => ?_)
  refine v_putR (pc := 168) (L2 := LS247) C (Or.inr ⟨ff_M_57, rfl⟩) rfl rfl (fun _ => rfl) (fun _ => rfl) rfl (by decide) d_M_init_168 ?_
  refine v_aload_n (pc := 171) C d_M_init_171 rfl 0 rfl ?_
  refine v_bipush (pc := 172) C d_M_init_172 bp_96 ?_
  refine v_newI (pc := 174) (a := 119) (m := 96) (L2 := LS248) (k2 := 15) (n2 := 626) C rfl rfl rfl rfl ⟨Nat.le_of_ble_eq_true rfl, Nat.le_of_ble_eq_true rfl⟩ (by decide) (by decide) (by decide) aw_I d_M_init_174 (fun S27 => ?_)
  refine v_dup (pc := 176) C d_M_init_176 rfl ?_
  refine v_iconst (pc := 177) C d_M_init_177 ic_0 ?_
  refine v_bipush (pc := 178) C d_M_init_178 bp_32 ?_
  refine v_iast (pc := 180) (m := 96) C rfl d_M_init_180 (fun _ S28 => ?_)
  refine v_dup (pc := 181) C d_M_init_181 rfl ?_
  refine v_iconst (pc := 182) C d_M_init_182 ic_1 ?_
  refine v_bipush (pc := 183) C d_M_init_183 bp_116 ?_
  refine v_iast (pc := 185) (m := 96) C rfl d_M_init_185 (fun _ S29 => ?_)
  refine v_dup (pc := 186) C d_M_init_186 rfl ?_
  refine v_iconst (pc := 187) C d_M_init_187 ic_2 ?_
  refine v_bipush (pc := 188) C d_M_init_188 bp_117 ?_
  refine v_iast (pc := 190) (m := 96) C rfl d_M_init_190 (fun _ S30 => ?_)
  refine v_dup (pc := 191) C d_M_init_191 rfl ?_
  refine v_iconst (pc := 192) C d_M_init_192 ic_3 ?_
  refine v_bipush (pc := 193) C d_M_init_193 bp_114 ?_
  refine v_iast (pc := 195) (m := 96) C rfl d_M_init_195 (fun _ S31 => ?_)
  refine v_dup (pc := 196) C d_M_init_196 rfl ?_
  refine v_iconst (pc := 197) C d_M_init_197 ic_4 ?_
  refine v_bipush (pc := 198) C d_M_init_198 bp_110 ?_
  refine v_iast (pc := 200) (m := 96) C rfl d_M_init_200 (fun _ S32 => ?_)
  refine v_dup (pc := 201) C d_M_init_201 rfl ?_
  refine v_iconst (pc := 202) C d_M_init_202 ic_5 ?_
  refine v_bipush (pc := 203) C d_M_init_203 bp_32 ?_
  refine v_iast (pc := 205) (m := 96) C rfl d_M_init_205 (fun _ S33 => ?_)
  refine v_dup (pc := 206) C d_M_init_206 rfl ?_
  refine v_bipush (pc := 207) C d_M_init_207 bp_6 ?_
  refine v_bipush (pc := 209) C d_M_init_209 bp_98 ?_
  refine v_iast (pc := 211) (m := 96) C rfl d_M_init_211 (fun _ S34 => ?_)
  refine v_dup (pc := 212) C d_M_init_212 rfl ?_
  refine v_bipush (pc := 213) C d_M_init_213 bp_7 ?_
  refine v_bipush (pc := 215) C d_M_init_215 bp_97 ?_
  refine v_iast (pc := 217) (m := 96) C rfl d_M_init_217 (fun _ S35 => ?_)
  refine v_dup (pc := 218) C d_M_init_218 rfl ?_
  refine v_bipush (pc := 219) C d_M_init_219 bp_8 ?_
  refine v_bipush (pc := 221) C d_M_init_221 bp_110 ?_
  refine v_iast (pc := 223) (m := 96) C rfl d_M_init_223 (fun _ S36 => ?_)
  refine v_dup (pc := 224) C d_M_init_224 rfl ?_
  refine v_bipush (pc := 225) C d_M_init_225 bp_9 ?_
  refine v_bipush (pc := 227) C d_M_init_227 bp_103 ?_
  refine v_iast (pc := 229) (m := 96) C rfl d_M_init_229 (fun _ S37 => ?_)
  refine v_dup (pc := 230) C d_M_init_230 rfl ?_
  refine v_bipush (pc := 231) C d_M_init_231 bp_10 ?_
  refine v_bipush (pc := 233) C d_M_init_233 bp_32 ?_
  refine v_iast (pc := 235) (m := 96) C rfl d_M_init_235 (fun _ S38 => ?_)
  refine v_dup (pc := 236) C d_M_init_236 rfl ?_
  refine v_bipush (pc := 237) C d_M_init_237 bp_11 ?_
  refine v_bipush (pc := 239) C d_M_init_239 bp_99 ?_
  refine v_iast (pc := 241) (m := 96) C rfl d_M_init_241 (fun _ S39 => ?_)
  refine v_dup (pc := 242) C d_M_init_242 rfl ?_
  refine v_bipush (pc := 243) C d_M_init_243 bp_12 ?_
  refine v_bipush (pc := 245) C d_M_init_245 bp_114 ?_
  refine v_iast (pc := 247) (m := 96) C rfl d_M_init_247 (fun _ S40 => ?_)
  refine v_dup (pc := 248) C d_M_init_248 rfl ?_
  refine v_bipush (pc := 249) C d_M_init_249 bp_13 ?_
  refine v_bipush (pc := 251) C d_M_init_251 bp_97 ?_
  refine v_iast (pc := 253) (m := 96) C rfl d_M_init_253 (fun _ S41 => ?_)
  refine v_dup (pc := 254) C d_M_init_254 rfl ?_
  refine v_bipush (pc := 255) C d_M_init_255 bp_14 ?_
  refine v_bipush (pc := 257) C d_M_init_257 bp_99 ?_
  refine v_iast (pc := 259) (m := 96) C rfl d_M_init_259 (fun _ S42 => ?_)
  refine v_dup (pc := 260) C d_M_init_260 rfl ?_
  refine v_bipush (pc := 261) C d_M_init_261 bp_15 ?_
  refine v_bipush (pc := 263) C d_M_init_263 bp_107 ?_
  refine v_iast (pc := 265) (m := 96) C rfl d_M_init_265 (fun _ S43 => ?_)
  refine v_dup (pc := 266) C d_M_init_266 rfl ?_
  refine v_bipush (pc := 267) C d_M_init_267 bp_16 ?_
  refine v_bipush (pc := 269) C d_M_init_269 bp_32 ?_
  refine v_iast (pc := 271) (m := 96) C rfl d_M_init_271 (fun _ S44 => ?_)
  refine v_dup (pc := 272) C d_M_init_272 rfl ?_
  refine v_bipush (pc := 273) C d_M_init_273 bp_17 ?_
  refine v_bipush (pc := 275) C d_M_init_275 bp_119 ?_
  refine v_iast (pc := 277) (m := 96) C rfl d_M_init_277 (fun _ S45 => ?_)
  refine v_dup (pc := 278) C d_M_init_278 rfl ?_
  refine v_bipush (pc := 279) C d_M_init_279 bp_18 ?_
  refine v_bipush (pc := 281) C d_M_init_281 bp_97 ?_
  refine v_iast (pc := 283) (m := 96) C rfl d_M_init_283 (fun _ S46 => ?_)
  refine v_dup (pc := 284) C d_M_init_284 rfl ?_
  refine v_bipush (pc := 285) C d_M_init_285 bp_19 ?_
  refine v_bipush (pc := 287) C d_M_init_287 bp_108 ?_
  refine v_iast (pc := 289) (m := 96) C rfl d_M_init_289 (fun _ S47 => ?_)
  refine v_dup (pc := 290) C d_M_init_290 rfl ?_
  refine v_bipush (pc := 291) C d_M_init_291 bp_20 ?_
  refine v_bipush (pc := 293) C d_M_init_293 bp_108 ?_
  refine v_iast (pc := 295) (m := 96) C rfl d_M_init_295 (fun _ S48 => ?_)
  refine v_dup (pc := 296) C d_M_init_296 rfl ?_
  refine v_bipush (pc := 297) C d_M_init_297 bp_21 ?_
  refine v_bipush (pc := 299) C d_M_init_299 bp_32 ?_
  refine v_iast (pc := 301) (m := 96) C rfl d_M_init_301 (fun _ S49 => ?_)
  refine v_dup (pc := 302) C d_M_init_302 rfl ?_
  refine v_bipush (pc := 303) C d_M_init_303 bp_22 ?_
  refine v_bipush (pc := 305) C d_M_init_305 bp_110 ?_
  refine v_iast (pc := 307) (m := 96) C rfl d_M_init_307 (fun _ S50 => ?_)
  refine v_dup (pc := 308) C d_M_init_308 rfl ?_
  refine v_bipush (pc := 309) C d_M_init_309 bp_23 ?_
  refine v_bipush (pc := 311) C d_M_init_311 bp_111 ?_
  refine v_iast (pc := 313) (m := 96) C rfl d_M_init_313 (fun _ S51 => ?_)
  refine v_dup (pc := 314) C d_M_init_314 rfl ?_
  refine v_bipush (pc := 315) C d_M_init_315 bp_24 ?_
  refine v_bipush (pc := 317) C d_M_init_317 bp_32 ?_
  refine v_iast (pc := 319) (m := 96) C rfl d_M_init_319 (fun _ S52 => ?_)
  refine v_dup (pc := 320) C d_M_init_320 rfl ?_
  refine v_bipush (pc := 321) C d_M_init_321 bp_25 ?_
  refine v_bipush (pc := 323) C d_M_init_323 bp_119 ?_
  refine v_iast (pc := 325) (m := 96) C rfl d_M_init_325 (fun _ S53 => ?_)
  refine v_dup (pc := 326) C d_M_init_326 rfl ?_
  refine v_bipush (pc := 327) C d_M_init_327 bp_26 ?_
  refine v_bipush (pc := 329) C d_M_init_329 bp_104 ?_
  refine v_iast (pc := 331) (m := 96) C rfl d_M_init_331 (fun _ S54 => ?_)
  refine v_dup (pc := 332) C d_M_init_332 rfl ?_
  refine v_bipush (pc := 333) C d_M_init_333 bp_27 ?_
  refine v_bipush (pc := 335) C d_M_init_335 bp_101 ?_
  refine v_iast (pc := 337) (m := 96) C rfl d_M_init_337 (fun _ S55 => ?_)
  refine v_dup (pc := 338) C d_M_init_338 rfl ?_
  refine v_bipush (pc := 339) C d_M_init_339 bp_28 ?_
  refine v_bipush (pc := 341) C d_M_init_341 bp_110 ?_
  refine v_iast (pc := 343) (m := 96) C rfl d_M_init_343 (fun _ S56 => ?_)
  refine v_dup (pc := 344) C d_M_init_344 rfl ?_
  refine v_bipush (pc := 345) C d_M_init_345 bp_29 ?_
  refine v_bipush (pc := 347) C d_M_init_347 bp_32 ?_
  refine v_iast (pc := 349) (m := 96) C rfl d_M_init_349 (fun _ S57 => ?_)
  refine v_dup (pc := 350) C d_M_init_350 rfl ?_
  refine v_bipush (pc := 351) C d_M_init_351 bp_30 ?_
  refine v_bipush (pc := 353) C d_M_init_353 bp_111 ?_
  refine v_iast (pc := 355) (m := 96) C rfl d_M_init_355 (fun _ S58 => ?_)
  refine v_dup (pc := 356) C d_M_init_356 rfl ?_
  refine v_bipush (pc := 357) C d_M_init_357 bp_31 ?_
  refine v_bipush (pc := 359) C d_M_init_359 bp_114 ?_
  refine v_iast (pc := 361) (m := 96) C rfl d_M_init_361 (fun _ S59 => ?_)
  refine v_dup (pc := 362) C d_M_init_362 rfl ?_
  refine v_bipush (pc := 363) C d_M_init_363 bp_32 ?_
  refine v_bipush (pc := 365) C d_M_init_365 bp_32 ?_
  refine v_iast (pc := 367) (m := 96) C rfl d_M_init_367 (fun _ S60 => ?_)
  refine v_dup (pc := 368) C d_M_init_368 rfl ?_
  refine v_bipush (pc := 369) C d_M_init_369 bp_33 ?_
  refine v_bipush (pc := 371) C d_M_init_371 bp_97 ?_
  refine v_iast (pc := 373) (m := 96) C rfl d_M_init_373 (fun _ S61 => ?_)
  refine v_dup (pc := 374) C d_M_init_374 rfl ?_
  refine v_bipush (pc := 375) C d_M_init_375 bp_34 ?_
  refine v_bipush (pc := 377) C d_M_init_377 bp_110 ?_
  refine v_iast (pc := 379) (m := 96) C rfl d_M_init_379 (fun _ S62 => ?_)
  refine v_dup (pc := 380) C d_M_init_380 rfl ?_
  refine v_bipush (pc := 381) C d_M_init_381 bp_35 ?_
  refine v_bipush (pc := 383) C d_M_init_383 bp_100 ?_
  refine v_iast (pc := 385) (m := 96) C rfl d_M_init_385 (fun _ S63 => ?_)
  refine v_dup (pc := 386) C d_M_init_386 rfl ?_
  refine v_bipush (pc := 387) C d_M_init_387 bp_36 ?_
  refine v_bipush (pc := 389) C d_M_init_389 bp_32 ?_
  refine v_iast (pc := 391) (m := 96) C rfl d_M_init_391 (fun _ S64 => ?_)
  refine v_dup (pc := 392) C d_M_init_392 rfl ?_
  refine v_bipush (pc := 393) C d_M_init_393 bp_37 ?_
  refine v_bipush (pc := 395) C d_M_init_395 bp_110 ?_
  refine v_iast (pc := 397) (m := 96) C rfl d_M_init_397 (fun _ S65 => ?_)
  refine v_dup (pc := 398) C d_M_init_398 rfl ?_
  refine v_bipush (pc := 399) C d_M_init_399 bp_38 ?_
  refine v_bipush (pc := 401) C d_M_init_401 bp_111 ?_
  refine v_iast (pc := 403) (m := 96) C rfl d_M_init_403 (fun _ S66 => ?_)
  refine v_dup (pc := 404) C d_M_init_404 rfl ?_
  refine v_bipush (pc := 405) C d_M_init_405 bp_39 ?_
  refine v_bipush (pc := 407) C d_M_init_407 bp_116 ?_
  refine v_iast (pc := 409) (m := 96) C rfl d_M_init_409 (fun _ S67 => ?_)
  refine v_dup (pc := 410) C d_M_init_410 rfl ?_
  refine v_bipush (pc := 411) C d_M_init_411 bp_40 ?_
  refine v_bipush (pc := 413) C d_M_init_413 bp_32 ?_
  refine v_iast (pc := 415) (m := 96) C rfl d_M_init_415 (fun _ S68 => ?_)
  refine v_dup (pc := 416) C d_M_init_416 rfl ?_
  refine v_bipush (pc := 417) C d_M_init_417 bp_41 ?_
  refine v_bipush (pc := 419) C d_M_init_419 bp_103 ?_
  refine v_iast (pc := 421) (m := 96) C rfl d_M_init_421 (fun _ S69 => ?_)
  refine v_dup (pc := 422) C d_M_init_422 rfl ?_
  refine v_bipush (pc := 423) C d_M_init_423 bp_42 ?_
  refine v_bipush (pc := 425) C d_M_init_425 bp_97 ?_
  refine v_iast (pc := 427) (m := 96) C rfl d_M_init_427 (fun _ S70 => ?_)
  refine v_dup (pc := 428) C d_M_init_428 rfl ?_
  refine v_bipush (pc := 429) C d_M_init_429 bp_43 ?_
  refine v_bipush (pc := 431) C d_M_init_431 bp_112 ?_
  refine v_iast (pc := 433) (m := 96) C rfl d_M_init_433 (fun _ S71 => ?_)
  refine v_dup (pc := 434) C d_M_init_434 rfl ?_
  refine v_bipush (pc := 435) C d_M_init_435 bp_44 ?_
  refine v_bipush (pc := 437) C d_M_init_437 bp_32 ?_
  refine v_iast (pc := 439) (m := 96) C rfl d_M_init_439 (fun _ S72 => ?_)
  refine v_dup (pc := 440) C d_M_init_440 rfl ?_
  refine v_bipush (pc := 441) C d_M_init_441 bp_45 ?_
  refine v_bipush (pc := 443) C d_M_init_443 bp_119 ?_
  refine v_iast (pc := 445) (m := 96) C rfl d_M_init_445 (fun _ S73 => ?_)
  refine v_dup (pc := 446) C d_M_init_446 rfl ?_
  refine v_bipush (pc := 447) C d_M_init_447 bp_46 ?_
  refine v_bipush (pc := 449) C d_M_init_449 bp_97 ?_
  refine v_iast (pc := 451) (m := 96) C rfl d_M_init_451 (fun _ S74 => ?_)
  refine v_dup (pc := 452) C d_M_init_452 rfl ?_
  refine v_bipush (pc := 453) C d_M_init_453 bp_47 ?_
  refine v_bipush (pc := 455) C d_M_init_455 bp_108 ?_
  refine v_iast (pc := 457) (m := 96) C rfl d_M_init_457 (fun _ S75 => ?_)
  refine v_dup (pc := 458) C d_M_init_458 rfl ?_
  refine v_bipush (pc := 459) C d_M_init_459 bp_48 ?_
  refine v_bipush (pc := 461) C d_M_init_461 bp_108 ?_
  refine v_iast (pc := 463) (m := 96) C rfl d_M_init_463 (fun _ S76 => ?_)
  refine v_dup (pc := 464) C d_M_init_464 rfl ?_
  refine v_bipush (pc := 465) C d_M_init_465 bp_49 ?_
  refine v_bipush (pc := 467) C d_M_init_467 bp_115 ?_
  refine v_iast (pc := 469) (m := 96) C rfl d_M_init_469 (fun _ S77 => ?_)
  refine v_dup (pc := 470) C d_M_init_470 rfl ?_
  refine v_bipush (pc := 471) C d_M_init_471 bp_50 ?_
  refine v_bipush (pc := 473) C d_M_init_473 bp_32 ?_
  refine v_iast (pc := 475) (m := 96) C rfl d_M_init_475 (fun _ S78 => ?_)
  refine v_dup (pc := 476) C d_M_init_476 rfl ?_
  refine v_bipush (pc := 477) C d_M_init_477 bp_51 ?_
  refine v_bipush (pc := 479) C d_M_init_479 bp_110 ?_
  refine v_iast (pc := 481) (m := 96) C rfl d_M_init_481 (fun _ S79 => ?_)
  refine v_dup (pc := 482) C d_M_init_482 rfl ?_
  refine v_bipush (pc := 483) C d_M_init_483 bp_52 ?_
  refine v_bipush (pc := 485) C d_M_init_485 bp_101 ?_
  refine v_iast (pc := 487) (m := 96) C rfl d_M_init_487 (fun _ S80 => ?_)
  refine v_dup (pc := 488) C d_M_init_488 rfl ?_
  refine v_bipush (pc := 489) C d_M_init_489 bp_53 ?_
  refine v_bipush (pc := 491) C d_M_init_491 bp_97 ?_
  refine v_iast (pc := 493) (m := 96) C rfl d_M_init_493 (fun _ S81 => ?_)
  refine v_dup (pc := 494) C d_M_init_494 rfl ?_
  refine v_bipush (pc := 495) C d_M_init_495 bp_54 ?_
  refine v_bipush (pc := 497) C d_M_init_497 bp_114 ?_
  refine v_iast (pc := 499) (m := 96) C rfl d_M_init_499 (fun _ S82 => ?_)
  refine v_dup (pc := 500) C d_M_init_500 rfl ?_
  refine v_bipush (pc := 501) C d_M_init_501 bp_55 ?_
  refine v_bipush (pc := 503) C d_M_init_503 bp_32 ?_
  refine v_iast (pc := 505) (m := 96) C rfl d_M_init_505 (fun _ S83 => ?_)
  refine v_dup (pc := 506) C d_M_init_506 rfl ?_
  refine v_bipush (pc := 507) C d_M_init_507 bp_56 ?_
  refine v_bipush (pc := 509) C d_M_init_509 bp_115 ?_
  refine v_iast (pc := 511) (m := 96) C rfl d_M_init_511 (fun _ S84 => ?_)
  refine v_dup (pc := 512) C d_M_init_512 rfl ?_
  refine v_bipush (pc := 513) C d_M_init_513 bp_57 ?_
  refine v_bipush (pc := 515) C d_M_init_515 bp_104 ?_
  refine v_iast (pc := 517) (m := 96) C rfl d_M_init_517 (fun _ S85 => ?_)
  refine v_dup (pc := 518) C d_M_init_518 rfl ?_
  refine v_bipush (pc := 519) C d_M_init_519 bp_58 ?_
  refine v_bipush (pc := 521) C d_M_init_521 bp_111 ?_
  refine v_iast (pc := 523) (m := 96) C rfl d_M_init_523 (fun _ S86 => ?_)
  refine v_dup (pc := 524) C d_M_init_524 rfl ?_
  refine v_bipush (pc := 525) C d_M_init_525 bp_59 ?_
  refine v_bipush (pc := 527) C d_M_init_527 bp_116 ?_
  refine v_iast (pc := 529) (m := 96) C rfl d_M_init_529 (fun _ S87 => ?_)
  refine v_dup (pc := 530) C d_M_init_530 rfl ?_
  refine v_bipush (pc := 531) C d_M_init_531 bp_60 ?_
  refine v_bipush (pc := 533) C d_M_init_533 bp_32 ?_
  refine v_iast (pc := 535) (m := 96) C rfl d_M_init_535 (fun _ S88 => ?_)
  refine v_dup (pc := 536) C d_M_init_536 rfl ?_
  refine v_bipush (pc := 537) C d_M_init_537 bp_61 ?_
  refine v_bipush (pc := 539) C d_M_init_539 bp_116 ?_
  refine v_iast (pc := 541) (m := 96) C rfl d_M_init_541 (fun _ S89 => ?_)
  refine v_dup (pc := 542) C d_M_init_542 rfl ?_
  refine v_bipush (pc := 543) C d_M_init_543 bp_62 ?_
  refine v_bipush (pc := 545) C d_M_init_545 bp_114 ?_
  refine v_iast (pc := 547) (m := 96) C rfl d_M_init_547 (fun _ S90 => ?_)
  refine v_dup (pc := 548) C d_M_init_548 rfl ?_
  refine v_bipush (pc := 549) C d_M_init_549 bp_63 ?_
  refine v_bipush (pc := 551) C d_M_init_551 bp_117 ?_
  refine v_iast (pc := 553) (m := 96) C rfl d_M_init_553 (fun _ S91 => ?_)
  refine v_dup (pc := 554) C d_M_init_554 rfl ?_
  refine v_bipush (pc := 555) C d_M_init_555 bp_64 ?_
  refine v_bipush (pc := 557) C d_M_init_557 bp_99 ?_
  refine v_iast (pc := 559) (m := 96) C rfl d_M_init_559 (fun _ S92 => ?_)
  refine v_dup (pc := 560) C d_M_init_560 rfl ?_
  refine v_bipush (pc := 561) C d_M_init_561 bp_65 ?_
  refine v_bipush (pc := 563) C d_M_init_563 bp_107 ?_
  refine v_iast (pc := 565) (m := 96) C rfl d_M_init_565 (fun _ S93 => ?_)
  refine v_dup (pc := 566) C d_M_init_566 rfl ?_
  refine v_bipush (pc := 567) C d_M_init_567 bp_66 ?_
  refine v_bipush (pc := 569) C d_M_init_569 bp_32 ?_
  refine v_iast (pc := 571) (m := 96) C rfl d_M_init_571 (fun _ S94 => ?_)
  refine v_dup (pc := 572) C d_M_init_572 rfl ?_
  refine v_bipush (pc := 573) C d_M_init_573 bp_67 ?_
  refine v_bipush (pc := 575) C d_M_init_575 bp_98 ?_
  refine v_iast (pc := 577) (m := 96) C rfl d_M_init_577 (fun _ S95 => ?_)
  refine v_dup (pc := 578) C d_M_init_578 rfl ?_
  refine v_bipush (pc := 579) C d_M_init_579 bp_68 ?_
  refine v_bipush (pc := 581) C d_M_init_581 bp_111 ?_
  refine v_iast (pc := 583) (m := 96) C rfl d_M_init_583 (fun _ S96 => ?_)
  refine v_dup (pc := 584) C d_M_init_584 rfl ?_
  refine v_bipush (pc := 585) C d_M_init_585 bp_69 ?_
  refine v_bipush (pc := 587) C d_M_init_587 bp_97 ?_
  refine v_iast (pc := 589) (m := 96) C rfl d_M_init_589 (fun _ S97 => ?_)
  refine v_dup (pc := 590) C d_M_init_590 rfl ?_
  refine v_bipush (pc := 591) C d_M_init_591 bp_70 ?_
  refine v_bipush (pc := 593) C d_M_init_593 bp_114 ?_
  refine v_iast (pc := 595) (m := 96) C rfl d_M_init_595 (fun _ S98 => ?_)
  refine v_dup (pc := 596) C d_M_init_596 rfl ?_
  refine v_bipush (pc := 597) C d_M_init_597 bp_71 ?_
  refine v_bipush (pc := 599) C d_M_init_599 bp_100 ?_
  refine v_iast (pc := 601) (m := 96) C rfl d_M_init_601 (fun _ S99 => ?_)
  refine v_dup (pc := 602) C d_M_init_602 rfl ?_
  refine v_bipush (pc := 603) C d_M_init_603 bp_72 ?_
  refine v_bipush (pc := 605) C d_M_init_605 bp_32 ?_
  refine v_iast (pc := 607) (m := 96) C rfl d_M_init_607 (fun _ S100 => ?_)
  refine v_dup (pc := 608) C d_M_init_608 rfl ?_
  refine v_bipush (pc := 609) C d_M_init_609 bp_73 ?_
  refine v_bipush (pc := 611) C d_M_init_611 bp_108 ?_
  refine v_iast (pc := 613) (m := 96) C rfl d_M_init_613 (fun _ S101 => ?_)
  refine v_dup (pc := 614) C d_M_init_614 rfl ?_
  refine v_bipush (pc := 615) C d_M_init_615 bp_74 ?_
  refine v_bipush (pc := 617) C d_M_init_617 bp_111 ?_
  refine v_iast (pc := 619) (m := 96) C rfl d_M_init_619 (fun _ S102 => ?_)
  refine v_dup (pc := 620) C d_M_init_620 rfl ?_
  refine v_bipush (pc := 621) C d_M_init_621 bp_75 ?_
  refine v_bipush (pc := 623) C d_M_init_623 bp_117 ?_
  refine v_iast (pc := 625) (m := 96) C rfl d_M_init_625 (fun _ S103 => ?_)
  refine v_dup (pc := 626) C d_M_init_626 rfl ?_
  refine v_bipush (pc := 627) C d_M_init_627 bp_76 ?_
  refine v_bipush (pc := 629) C d_M_init_629 bp_100 ?_
  refine v_iast (pc := 631) (m := 96) C rfl d_M_init_631 (fun _ S104 => ?_)
  refine v_dup (pc := 632) C d_M_init_632 rfl ?_
  refine v_bipush (pc := 633) C d_M_init_633 bp_77 ?_
  refine v_bipush (pc := 635) C d_M_init_635 bp_32 ?_
  refine v_iast (pc := 637) (m := 96) C rfl d_M_init_637 (fun _ S105 => ?_)
  refine v_dup (pc := 638) C d_M_init_638 rfl ?_
  refine v_bipush (pc := 639) C d_M_init_639 bp_78 ?_
  refine v_bipush (pc := 641) C d_M_init_641 bp_108 ?_
  refine v_iast (pc := 643) (m := 96) C rfl d_M_init_643 (fun _ S106 => ?_)
  refine v_dup (pc := 644) C d_M_init_644 rfl ?_
  refine v_bipush (pc := 645) C d_M_init_645 bp_79 ?_
  refine v_bipush (pc := 647) C d_M_init_647 bp_111 ?_
  refine v_iast (pc := 649) (m := 96) C rfl d_M_init_649 (fun _ S107 => ?_)
  refine v_dup (pc := 650) C d_M_init_650 rfl ?_
  refine v_bipush (pc := 651) C d_M_init_651 bp_80 ?_
  refine v_bipush (pc := 653) C d_M_init_653 bp_110 ?_
  refine v_iast (pc := 655) (m := 96) C rfl d_M_init_655 (fun _ S108 => ?_)
  refine v_dup (pc := 656) C d_M_init_656 rfl ?_
  refine v_bipush (pc := 657) C d_M_init_657 bp_81 ?_
  refine v_bipush (pc := 659) C d_M_init_659 bp_103 ?_
  refine v_iast (pc := 661) (m := 96) C rfl d_M_init_661 (fun _ S109 => ?_)
  refine v_dup (pc := 662) C d_M_init_662 rfl ?_
  refine v_bipush (pc := 663) C d_M_init_663 bp_82 ?_
  refine v_bipush (pc := 665) C d_M_init_665 bp_32 ?_
  refine v_iast (pc := 667) (m := 96) C rfl d_M_init_667 (fun _ S110 => ?_)
  refine v_dup (pc := 668) C d_M_init_668 rfl ?_
  refine v_bipush (pc := 669) C d_M_init_669 bp_83 ?_
  refine v_bipush (pc := 671) C d_M_init_671 bp_97 ?_
  refine v_iast (pc := 673) (m := 96) C rfl d_M_init_673 (fun _ S111 => ?_)
  refine v_dup (pc := 674) C d_M_init_674 rfl ?_
  refine v_bipush (pc := 675) C d_M_init_675 bp_84 ?_
  refine v_bipush (pc := 677) C d_M_init_677 bp_104 ?_
  refine v_iast (pc := 679) (m := 96) C rfl d_M_init_679 (fun _ S112 => ?_)
  refine v_dup (pc := 680) C d_M_init_680 rfl ?_
  refine v_bipush (pc := 681) C d_M_init_681 bp_85 ?_
  refine v_bipush (pc := 683) C d_M_init_683 bp_101 ?_
  refine v_iast (pc := 685) (m := 96) C rfl d_M_init_685 (fun _ S113 => ?_)
  refine v_dup (pc := 686) C d_M_init_686 rfl ?_
  refine v_bipush (pc := 687) C d_M_init_687 bp_86 ?_
  refine v_bipush (pc := 689) C d_M_init_689 bp_97 ?_
  refine v_iast (pc := 691) (m := 96) C rfl d_M_init_691 (fun _ S114 => ?_)
  refine v_dup (pc := 692) C d_M_init_692 rfl ?_
  refine v_bipush (pc := 693) C d_M_init_693 bp_87 ?_
  refine v_bipush (pc := 695) C d_M_init_695 bp_100 ?_
  refine v_iast (pc := 697) (m := 96) C rfl d_M_init_697 (fun _ S115 => ?_)
  refine v_dup (pc := 698) C d_M_init_698 rfl ?_
  refine v_bipush (pc := 699) C d_M_init_699 bp_88 ?_
  refine v_bipush (pc := 701) C d_M_init_701 bp_32 ?_
  refine v_iast (pc := 703) (m := 96) C rfl d_M_init_703 (fun _ S116 => ?_)
  refine v_dup (pc := 704) C d_M_init_704 rfl ?_
  refine v_bipush (pc := 705) C d_M_init_705 bp_89 ?_
  refine v_bipush (pc := 707) C d_M_init_707 bp_98 ?_
  refine v_iast (pc := 709) (m := 96) C rfl d_M_init_709 (fun _ S117 => ?_)
  refine v_dup (pc := 710) C d_M_init_710 rfl ?_
  refine v_bipush (pc := 711) C d_M_init_711 bp_90 ?_
  refine v_bipush (pc := 713) C d_M_init_713 bp_101 ?_
  refine v_iast (pc := 715) (m := 96) C rfl d_M_init_715 (fun _ S118 => ?_)
  refine v_dup (pc := 716) C d_M_init_716 rfl ?_
  refine v_bipush (pc := 717) C d_M_init_717 bp_91 ?_
  refine v_bipush (pc := 719) C d_M_init_719 bp_104 ?_
  refine v_iast (pc := 721) (m := 96) C rfl d_M_init_721 (fun _ S119 => ?_)
  refine v_dup (pc := 722) C d_M_init_722 rfl ?_
  refine v_bipush (pc := 723) C d_M_init_723 bp_92 ?_
  refine v_bipush (pc := 725) C d_M_init_725 bp_105 ?_
  refine v_iast (pc := 727) (m := 96) C rfl d_M_init_727 (fun _ S120 => ?_)
  refine v_dup (pc := 728) C d_M_init_728 rfl ?_
  refine v_bipush (pc := 729) C d_M_init_729 bp_93 ?_
  refine v_bipush (pc := 731) C d_M_init_731 bp_110 ?_
  refine v_iast (pc := 733) (m := 96) C rfl d_M_init_733 (fun _ S121 => ?_)
  refine v_dup (pc := 734) C d_M_init_734 rfl ?_
  refine v_bipush (pc := 735) C d_M_init_735 bp_94 ?_
  refine v_bipush (pc := 737) C d_M_init_737 bp_100 ?_
  refine v_iast (pc := 739) (m := 96) C rfl d_M_init_739 (fun _ S122 => ?_)
  refine v_dup (pc := 740) C d_M_init_740 rfl ?_
  refine v_bipush (pc := 741) C d_M_init_741 bp_95 ?_
  refine v_bipush (pc := 743) C d_M_init_743 bp_32 ?_
  refine v_iast (pc := 745) (m := 96) C rfl d_M_init_745 (fun _ S123 => ?_)
  refine v_putR (pc := 746) (L2 := LS249) C (Or.inr ⟨ff_M_60, rfl⟩) rfl rfl (fun _ => rfl) (fun _ => rfl) rfl (by decide) d_M_init_746 ?_
  refine v_aload_n (pc := 749) C d_M_init_749 rfl 0 rfl ?_
  refine v_bipush (pc := 750) C d_M_init_750 bp_6 ?_
  refine v_newI (pc := 752) (a := 120) (m := 6) (L2 := LS250) (k2 := 16) (n2 := 632) C rfl rfl rfl rfl ⟨Nat.le_of_ble_eq_true rfl, Nat.le_of_ble_eq_true rfl⟩ (by decide) (by decide) (by decide) aw_I d_M_init_752 (fun S124 => ?_)
  refine v_putR (pc := 754) (L2 := LS251) C (Or.inr ⟨ff_M_63, rfl⟩) rfl rfl (fun _ => rfl) (fun _ => rfl) rfl (by decide) d_M_init_754 ?_
  refine v_aload_n (pc := 757) C d_M_init_757 rfl 0 rfl ?_
  refine v_bipush (pc := 758) C d_M_init_758 bp_72 ?_
  refine v_newI (pc := 760) (a := 121) (m := 72) (L2 := LS252) (k2 := 17) (n2 := 704) C rfl rfl rfl rfl ⟨Nat.le_of_ble_eq_true rfl, Nat.le_of_ble_eq_true rfl⟩ (by decide) (by decide) (by decide) aw_I d_M_init_760 (fun S125 => ?_)
  refine v_putR (pc := 762) (L2 := LS253) C (Or.inr ⟨ff_M_66, rfl⟩) rfl rfl (fun _ => rfl) (fun _ => rfl) rfl (by decide) d_M_init_762 ?_
  refine v_aload_n (pc := 765) C d_M_init_765 rfl 0 rfl ?_
  refine v_bipush (pc := 766) C d_M_init_766 bp_72 ?_
  refine v_newI (pc := 768) (a := 122) (m := 72) (L2 := LS254) (k2 := 18) (n2 := 776) C rfl rfl rfl rfl ⟨Nat.le_of_ble_eq_true rfl, Nat.le_of_ble_eq_true rfl⟩ (by decide) (by decide) (by decide) aw_I d_M_init_768 (fun S126 => ?_)
  refine v_putR (pc := 770) (L2 := LS255) C (Or.inr ⟨ff_M_69, rfl⟩) rfl rfl (fun _ => rfl) (fun _ => rfl) rfl (by decide) d_M_init_770 ?_
  refine v_aload_n (pc := 773) C d_M_init_773 rfl 0 rfl ?_
  refine v_bipush (pc := 774) C d_M_init_774 bp_72 ?_
  refine v_newI (pc := 776) (a := 123) (m := 72) (L2 := LS256) (k2 := 19) (n2 := 848) C rfl rfl rfl rfl ⟨Nat.le_of_ble_eq_true rfl, Nat.le_of_ble_eq_true rfl⟩ (by decide) (by decide) (by decide) aw_I d_M_init_776 (fun S127 => ?_)
  refine v_putR (pc := 778) (L2 := LS257) C (Or.inr ⟨ff_M_72, rfl⟩) rfl rfl (fun _ => rfl) (fun _ => rfl) rfl (by decide) d_M_init_778 ?_
  refine v_aload_n (pc := 781) C d_M_init_781 rfl 0 rfl ?_
  refine v_sipush (pc := 782) C d_M_init_782 sp_2400 ?_
  refine v_newI (pc := 785) (a := 124) (m := 2400) (L2 := LS258) (k2 := 20) (n2 := 3248) C rfl rfl rfl rfl ⟨Nat.le_of_ble_eq_true rfl, Nat.le_of_ble_eq_true rfl⟩ (by decide) (by decide) (by decide) aw_I d_M_init_785 (fun S128 => ?_)
  refine v_putR (pc := 787) (L2 := LS259) C (Or.inr ⟨ff_M_75, rfl⟩) rfl rfl (fun _ => rfl) (fun _ => rfl) rfl (by decide) d_M_init_787 ?_
  refine v_aload_n (pc := 790) C d_M_init_790 rfl 0 rfl ?_
  refine v_sipush (pc := 791) C d_M_init_791 sp_2400 ?_
  refine v_newI (pc := 794) (a := 125) (m := 2400) (L2 := LS260) (k2 := 21) (n2 := 5648) C rfl rfl rfl rfl ⟨Nat.le_of_ble_eq_true rfl, Nat.le_of_ble_eq_true rfl⟩ (by decide) (by decide) (by decide) aw_I d_M_init_794 (fun S129 => ?_)
  refine v_putR (pc := 796) (L2 := LS261) C (Or.inr ⟨ff_M_78, rfl⟩) rfl rfl (fun _ => rfl) (fun _ => rfl) rfl (by decide) d_M_init_796 ?_
  refine v_aload_n (pc := 799) C d_M_init_799 rfl 0 rfl ?_
  refine v_bipush (pc := 800) C d_M_init_800 bp_40 ?_
  refine v_newI (pc := 802) (a := 126) (m := 40) (L2 := LS262) (k2 := 22) (n2 := 5688) C rfl rfl rfl rfl ⟨Nat.le_of_ble_eq_true rfl, Nat.le_of_ble_eq_true rfl⟩ (by decide) (by decide) (by decide) aw_I d_M_init_802 (fun S130 => ?_)
  refine v_putR (pc := 804) (L2 := LS263) C (Or.inr ⟨ff_M_81, rfl⟩) rfl rfl (fun _ => rfl) (fun _ => rfl) rfl (by decide) d_M_init_804 ?_
  refine v_aload_n (pc := 807) C d_M_init_807 rfl 0 rfl ?_
  refine v_iconst (pc := 808) C d_M_init_808 ic_m1 ?_
  refine v_putI (pc := 809) C fp_M_84 rfl rfl d_M_init_809 (fun S131 => ?_)
  refine v_aload_n (pc := 812) C d_M_init_812 rfl 0 rfl ?_
  refine v_bipush (pc := 813) C d_M_init_813 bp_10 ?_
  refine v_newI (pc := 815) (a := 127) (m := 10) (L2 := LS264) (k2 := 23) (n2 := 5698) C rfl rfl rfl rfl ⟨Nat.le_of_ble_eq_true rfl, Nat.le_of_ble_eq_true rfl⟩ (by decide) (by decide) (by decide) aw_I d_M_init_815 (fun S132 => ?_)
  refine v_putR (pc := 817) (L2 := LS265) C (Or.inr ⟨ff_M_87, rfl⟩) rfl rfl (fun _ => rfl) (fun _ => rfl) rfl (by decide) d_M_init_817 ?_
  refine v_aload_n (pc := 820) C d_M_init_820 rfl 0 rfl ?_
  refine v_sipush (pc := 821) C d_M_init_821 sp_420 ?_
  refine v_newI (pc := 824) (a := 128) (m := 420) (L2 := LS266) (k2 := 24) (n2 := 6118) C rfl rfl rfl rfl ⟨Nat.le_of_ble_eq_true rfl, Nat.le_of_ble_eq_true rfl⟩ (by decide) (by decide) (by decide) aw_I d_M_init_824 (fun S133 => ?_)
  refine v_putR (pc := 826) (L2 := LS267) C (Or.inr ⟨ff_M_90, rfl⟩) rfl rfl (fun _ => rfl) (fun _ => rfl) rfl (by decide) d_M_init_826 ?_
  refine v_aload_n (pc := 829) C d_M_init_829 rfl 0 rfl ?_
  refine v_bipush (pc := 830) C d_M_init_830 bp_20 ?_
  refine v_newI (pc := 832) (a := 129) (m := 20) (L2 := LS268) (k2 := 25) (n2 := 6138) C rfl rfl rfl rfl ⟨Nat.le_of_ble_eq_true rfl, Nat.le_of_ble_eq_true rfl⟩ (by decide) (by decide) (by decide) aw_I d_M_init_832 (fun S134 => ?_)
  refine v_putR (pc := 834) (L2 := LS269) C (Or.inr ⟨ff_M_93, rfl⟩) rfl rfl (fun _ => rfl) (fun _ => rfl) rfl (by decide) d_M_init_834 ?_
  refine v_aload_n (pc := 837) C d_M_init_837 rfl 0 rfl ?_
  refine v_bipush (pc := 838) C d_M_init_838 bp_20 ?_
  refine v_newI (pc := 840) (a := 130) (m := 20) (L2 := LS270) (k2 := 26) (n2 := 6158) C rfl rfl rfl rfl ⟨Nat.le_of_ble_eq_true rfl, Nat.le_of_ble_eq_true rfl⟩ (by decide) (by decide) (by decide) aw_I d_M_init_840 (fun S135 => ?_)
  refine v_putR (pc := 842) (L2 := LS271) C (Or.inr ⟨ff_M_96, rfl⟩) rfl rfl (fun _ => rfl) (fun _ => rfl) rfl (by decide) d_M_init_842 ?_
  refine v_aload_n (pc := 845) C d_M_init_845 rfl 0 rfl ?_
  refine v_bipush (pc := 846) C d_M_init_846 bp_6 ?_
  refine v_newI (pc := 848) (a := 131) (m := 6) (L2 := LS272) (k2 := 27) (n2 := 6164) C rfl rfl rfl rfl ⟨Nat.le_of_ble_eq_true rfl, Nat.le_of_ble_eq_true rfl⟩ (by decide) (by decide) (by decide) aw_I d_M_init_848 (fun S136 => ?_)
  refine v_putR (pc := 850) (L2 := LS273) C (Or.inr ⟨ff_M_99, rfl⟩) rfl rfl (fun _ => rfl) (fun _ => rfl) rfl (by decide) d_M_init_850 ?_
  refine v_aload_n (pc := 853) C d_M_init_853 rfl 0 rfl ?_
  refine v_bipush (pc := 854) C d_M_init_854 bp_8 ?_
  refine v_newI (pc := 856) (a := 132) (m := 8) (L2 := LS274) (k2 := 28) (n2 := 6172) C rfl rfl rfl rfl ⟨Nat.le_of_ble_eq_true rfl, Nat.le_of_ble_eq_true rfl⟩ (by decide) (by decide) (by decide) aw_I d_M_init_856 (fun S137 => ?_)
  refine v_putR (pc := 858) (L2 := LS275) C (Or.inr ⟨ff_M_102, rfl⟩) rfl rfl (fun _ => rfl) (fun _ => rfl) rfl (by decide) d_M_init_858 ?_
  refine v_aload_n (pc := 861) C d_M_init_861 rfl 0 rfl ?_
  refine v_bipush (pc := 862) C d_M_init_862 bp_8 ?_
  refine v_newI (pc := 864) (a := 133) (m := 8) (L2 := LS276) (k2 := 29) (n2 := 6180) C rfl rfl rfl rfl ⟨Nat.le_of_ble_eq_true rfl, Nat.le_of_ble_eq_true rfl⟩ (by decide) (by decide) (by decide) aw_I d_M_init_864 (fun S138 => ?_)
  refine v_dup (pc := 866) C d_M_init_866 rfl ?_
  refine v_iconst (pc := 867) C d_M_init_867 ic_0 ?_
  refine v_iconst (pc := 868) C d_M_init_868 ic_m1 ?_
  refine v_iast (pc := 869) (m := 8) C rfl d_M_init_869 (fun _ S139 => ?_)
  refine v_dup (pc := 870) C d_M_init_870 rfl ?_
  refine v_iconst (pc := 871) C d_M_init_871 ic_1 ?_
  refine v_iconst (pc := 872) C d_M_init_872 ic_m1 ?_
  refine v_iast (pc := 873) (m := 8) C rfl d_M_init_873 (fun _ S140 => ?_)
  refine v_dup (pc := 874) C d_M_init_874 rfl ?_
  refine v_iconst (pc := 875) C d_M_init_875 ic_2 ?_
  refine v_iconst (pc := 876) C d_M_init_876 ic_m1 ?_
  refine v_iast (pc := 877) (m := 8) C rfl d_M_init_877 (fun _ S141 => ?_)
  refine v_dup (pc := 878) C d_M_init_878 rfl ?_
  refine v_iconst (pc := 879) C d_M_init_879 ic_3 ?_
  refine v_iconst (pc := 880) C d_M_init_880 ic_m1 ?_
  refine v_iast (pc := 881) (m := 8) C rfl d_M_init_881 (fun _ S142 => ?_)
  refine v_dup (pc := 882) C d_M_init_882 rfl ?_
  refine v_iconst (pc := 883) C d_M_init_883 ic_4 ?_
  refine v_iconst (pc := 884) C d_M_init_884 ic_m1 ?_
  refine v_iast (pc := 885) (m := 8) C rfl d_M_init_885 (fun _ S143 => ?_)
  refine v_dup (pc := 886) C d_M_init_886 rfl ?_
  refine v_iconst (pc := 887) C d_M_init_887 ic_5 ?_
  refine v_iconst (pc := 888) C d_M_init_888 ic_m1 ?_
  refine v_iast (pc := 889) (m := 8) C rfl d_M_init_889 (fun _ S144 => ?_)
  refine v_dup (pc := 890) C d_M_init_890 rfl ?_
  refine v_bipush (pc := 891) C d_M_init_891 bp_6 ?_
  refine v_iconst (pc := 893) C d_M_init_893 ic_m1 ?_
  refine v_iast (pc := 894) (m := 8) C rfl d_M_init_894 (fun _ S145 => ?_)
  refine v_dup (pc := 895) C d_M_init_895 rfl ?_
  refine v_bipush (pc := 896) C d_M_init_896 bp_7 ?_
  refine v_iconst (pc := 898) C d_M_init_898 ic_m1 ?_
  refine v_iast (pc := 899) (m := 8) C rfl d_M_init_899 (fun _ S146 => ?_)
  refine v_putR (pc := 900) (L2 := LS277) C (Or.inr ⟨ff_M_105, rfl⟩) rfl rfl (fun _ => rfl) (fun _ => rfl) rfl (by decide) d_M_init_900 ?_
  refine v_aload_n (pc := 903) C d_M_init_903 rfl 0 rfl ?_
  refine v_bipush (pc := 904) C d_M_init_904 bp_8 ?_
  refine v_newI (pc := 906) (a := 134) (m := 8) (L2 := LS278) (k2 := 30) (n2 := 6188) C rfl rfl rfl rfl ⟨Nat.le_of_ble_eq_true rfl, Nat.le_of_ble_eq_true rfl⟩ (by decide) (by decide) (by decide) aw_I d_M_init_906 (fun S147 => ?_)
  refine v_putR (pc := 908) (L2 := LS279) C (Or.inr ⟨ff_M_108, rfl⟩) rfl rfl (fun _ => rfl) (fun _ => rfl) rfl (by decide) d_M_init_908 ?_
  refine v_aload_n (pc := 911) C d_M_init_911 rfl 0 rfl ?_
  refine v_iconst (pc := 912) C d_M_init_912 ic_4 ?_
  refine v_newI (pc := 913) (a := 135) (m := 4) (L2 := LS280) (k2 := 31) (n2 := 6192) C rfl rfl rfl rfl ⟨Nat.le_of_ble_eq_true rfl, Nat.le_of_ble_eq_true rfl⟩ (by decide) (by decide) (by decide) aw_I d_M_init_913 (fun S148 => ?_)
  refine v_putR (pc := 915) (L2 := LS281) C (Or.inr ⟨ff_M_111, rfl⟩) rfl rfl (fun _ => rfl) (fun _ => rfl) rfl (by decide) d_M_init_915 ?_
  refine v_aload_n (pc := 918) C d_M_init_918 rfl 0 rfl ?_
  refine v_bipush (pc := 919) C d_M_init_919 bp_80 ?_
  refine v_newI (pc := 921) (a := 136) (m := 80) (L2 := LS282) (k2 := 32) (n2 := 6272) C rfl rfl rfl rfl ⟨Nat.le_of_ble_eq_true rfl, Nat.le_of_ble_eq_true rfl⟩ (by decide) (by decide) (by decide) aw_I d_M_init_921 (fun S149 => ?_)
  refine v_putR (pc := 923) (L2 := LS283) C (Or.inr ⟨ff_M_114, rfl⟩) rfl rfl (fun _ => rfl) (fun _ => rfl) rfl (by decide) d_M_init_923 ?_
  refine v_aload_n (pc := 926) C d_M_init_926 rfl 0 rfl ?_
  refine v_iconst (pc := 927) C d_M_init_927 ic_4 ?_
  refine v_newI (pc := 928) (a := 137) (m := 4) (L2 := LS284) (k2 := 33) (n2 := 6276) C rfl rfl rfl rfl ⟨Nat.le_of_ble_eq_true rfl, Nat.le_of_ble_eq_true rfl⟩ (by decide) (by decide) (by decide) aw_I d_M_init_928 (fun S150 => ?_)
  refine v_putR (pc := 930) (L2 := LS285) C (Or.inr ⟨ff_M_117, rfl⟩) rfl rfl (fun _ => rfl) (fun _ => rfl) rfl (by decide) d_M_init_930 ?_
  refine v_aload_n (pc := 933) C d_M_init_933 rfl 0 rfl ?_
  refine v_bipush (pc := 934) C d_M_init_934 bp_40 ?_
  refine v_newI (pc := 936) (a := 138) (m := 40) (L2 := LS286) (k2 := 34) (n2 := 6316) C rfl rfl rfl rfl ⟨Nat.le_of_ble_eq_true rfl, Nat.le_of_ble_eq_true rfl⟩ (by decide) (by decide) (by decide) aw_I d_M_init_936 (fun S151 => ?_)
  refine v_putR (pc := 938) (L2 := LS287) C (Or.inr ⟨ff_M_120, rfl⟩) rfl rfl (fun _ => rfl) (fun _ => rfl) rfl (by decide) d_M_init_938 ?_
  refine v_aload_n (pc := 941) C d_M_init_941 rfl 0 rfl ?_
  refine v_bipush (pc := 942) C d_M_init_942 bp_40 ?_
  refine v_newI (pc := 944) (a := 139) (m := 40) (L2 := LS288) (k2 := 35) (n2 := 6356) C rfl rfl rfl rfl ⟨Nat.le_of_ble_eq_true rfl, Nat.le_of_ble_eq_true rfl⟩ (by decide) (by decide) (by decide) aw_I d_M_init_944 (fun S152 => ?_)
  refine v_putR (pc := 946) (L2 := LS289) C (Or.inr ⟨ff_M_123, rfl⟩) rfl rfl (fun _ => rfl) (fun _ => rfl) rfl (by decide) d_M_init_946 ?_
  refine v_aload_n (pc := 949) C d_M_init_949 rfl 0 rfl ?_
  refine v_bipush (pc := 950) C d_M_init_950 bp_20 ?_
  refine v_newI (pc := 952) (a := 140) (m := 20) (L2 := LS290) (k2 := 36) (n2 := 6376) C rfl rfl rfl rfl ⟨Nat.le_of_ble_eq_true rfl, Nat.le_of_ble_eq_true rfl⟩ (by decide) (by decide) (by decide) aw_I d_M_init_952 (fun S153 => ?_)
  refine v_putR (pc := 954) (L2 := LS291) C (Or.inr ⟨ff_M_126, rfl⟩) rfl rfl (fun _ => rfl) (fun _ => rfl) rfl (by decide) d_M_init_954 ?_
  refine v_aload_n (pc := 957) C d_M_init_957 rfl 0 rfl ?_
  refine v_bipush (pc := 958) C d_M_init_958 bp_20 ?_
  refine v_newI (pc := 960) (a := 141) (m := 20) (L2 := LS292) (k2 := 37) (n2 := 6396) C rfl rfl rfl rfl ⟨Nat.le_of_ble_eq_true rfl, Nat.le_of_ble_eq_true rfl⟩ (by decide) (by decide) (by decide) aw_I d_M_init_960 (fun S154 => ?_)
  refine v_putR (pc := 962) (L2 := LS293) C (Or.inr ⟨ff_M_129, rfl⟩) rfl rfl (fun _ => rfl) (fun _ => rfl) rfl (by decide) d_M_init_962 ?_
  refine v_aload_n (pc := 965) C d_M_init_965 rfl 0 rfl ?_
  refine v_bipush (pc := 966) C d_M_init_966 bp_20 ?_
  refine v_newI (pc := 968) (a := 142) (m := 20) (L2 := LS294) (k2 := 38) (n2 := 6416) C rfl rfl rfl rfl ⟨Nat.le_of_ble_eq_true rfl, Nat.le_of_ble_eq_true rfl⟩ (by decide) (by decide) (by decide) aw_I d_M_init_968 (fun S155 => ?_)
  refine v_putR (pc := 970) (L2 := LS295) C (Or.inr ⟨ff_M_132, rfl⟩) rfl rfl (fun _ => rfl) (fun _ => rfl) rfl (by decide) d_M_init_970 ?_
  refine v_aload_n (pc := 973) C d_M_init_973 rfl 0 rfl ?_
  refine v_bipush (pc := 974) C d_M_init_974 bp_20 ?_
  refine v_newI (pc := 976) (a := 143) (m := 20) (L2 := LS296) (k2 := 39) (n2 := 6436) C rfl rfl rfl rfl ⟨Nat.le_of_ble_eq_true rfl, Nat.le_of_ble_eq_true rfl⟩ (by decide) (by decide) (by decide) aw_I d_M_init_976 (fun S156 => ?_)
  refine v_putR (pc := 978) (L2 := LS297) C (Or.inr ⟨ff_M_135, rfl⟩) rfl rfl (fun _ => rfl) (fun _ => rfl) rfl (by decide) d_M_init_978 ?_
  refine v_aload_n (pc := 981) C d_M_init_981 rfl 0 rfl ?_
  refine v_iconst (pc := 982) C d_M_init_982 ic_m1 ?_
  refine v_putI (pc := 983) C fp_M_138 rfl rfl d_M_init_983 (fun S157 => ?_)
  refine v_aload_n (pc := 986) C d_M_init_986 rfl 0 rfl ?_
  refine v_iconst (pc := 987) C d_M_init_987 ic_1 ?_
  refine v_putI (pc := 988) C fp_M_141 rfl rfl d_M_init_988 (fun S158 => ?_)
  refine v_aload_n (pc := 991) C d_M_init_991 rfl 0 rfl ?_
  refine v_bipush (pc := 992) C d_M_init_992 bp_16 ?_
  refine v_newI (pc := 994) (a := 144) (m := 16) (L2 := LS298) (k2 := 40) (n2 := 6452) C rfl rfl rfl rfl ⟨Nat.le_of_ble_eq_true rfl, Nat.le_of_ble_eq_true rfl⟩ (by decide) (by decide) (by decide) aw_I d_M_init_994 (fun S159 => ?_)
  refine v_putR (pc := 996) (L2 := LS299) C (Or.inr ⟨ff_M_144, rfl⟩) rfl rfl (fun _ => rfl) (fun _ => rfl) rfl (by decide) d_M_init_996 ?_
  refine v_aload_n (pc := 999) C d_M_init_999 rfl 0 rfl ?_
  refine v_bipush (pc := 1000) C d_M_init_1000 bp_100 ?_
  refine v_newI (pc := 1002) (a := 145) (m := 100) (L2 := LS300) (k2 := 41) (n2 := 6552) C rfl rfl rfl rfl ⟨Nat.le_of_ble_eq_true rfl, Nat.le_of_ble_eq_true rfl⟩ (by decide) (by decide) (by decide) aw_I d_M_init_1002 (fun S160 => ?_)
  refine v_putR (pc := 1004) (L2 := LS301) C (Or.inr ⟨ff_M_147, rfl⟩) rfl rfl (fun _ => rfl) (fun _ => rfl) rfl (by decide) d_M_init_1004 ?_
  exact v_vret C d_M_init_1007 rfl ⟨Nat.le_of_ble_eq_true rfl, Nat.le_of_ble_eq_true rfl⟩ rfl rfl
