set_option maxRecDepth 20000 in
def ri_Wl_init_0 (S : Sto) : Option Sto :=
  some S
set_option maxHeartbeats 4000000 in
set_option maxRecDepth 20000 in
theorem ci_Wl_init_0 {G : Gl} (S : Sto) : Ct Y_Wl_init G [rf G 3] LS4 S (fv LS4) (ri_Wl_init_0 S) := by
  refine ct_of (by decide +kernel) (Nat.le_of_ble_eq_true rfl) (fun g C => ?_)
  unfold ri_Wl_init_0
  refine v_aload_n (pc := 0) C d_Wl_init_0 rfl 0 rfl ?_
  refine v_oinit (pc := 1) C oi_Wl_3 oi_i oi_c (Nat.le_of_ble_eq_true rfl) (Nat.le_of_ble_eq_true rfl) d_Wl_init_1 ?_
  exact v_vret C d_Wl_init_4 rfl ⟨Nat.le_of_ble_eq_true rfl, Nat.le_of_ble_eq_true rfl⟩ rfl rfl
set_option maxRecDepth 20000 in
def ri_Wl_init_1 (S : Sto) : Option Sto :=
  some S
set_option maxHeartbeats 4000000 in
set_option maxRecDepth 20000 in
theorem ci_Wl_init_1 {G : Gl} (S : Sto) : Ct Y_Wl_init G [rf G 4] LS6 S (fv LS6) (ri_Wl_init_1 S) := by
  refine ct_of (by decide +kernel) (Nat.le_of_ble_eq_true rfl) (fun g C => ?_)
  unfold ri_Wl_init_1
  refine v_aload_n (pc := 0) C d_Wl_init_0 rfl 0 rfl ?_
  refine v_oinit (pc := 1) C oi_Wl_3 oi_i oi_c (Nat.le_of_ble_eq_true rfl) (Nat.le_of_ble_eq_true rfl) d_Wl_init_1 ?_
  exact v_vret C d_Wl_init_4 rfl ⟨Nat.le_of_ble_eq_true rfl, Nat.le_of_ble_eq_true rfl⟩ rfl rfl
set_option maxRecDepth 20000 in
def ri_Wl_init_2 (S : Sto) : Option Sto :=
  some S
set_option maxHeartbeats 4000000 in
set_option maxRecDepth 20000 in
theorem ci_Wl_init_2 {G : Gl} (S : Sto) : Ct Y_Wl_init G [rf G 5] LS8 S (fv LS8) (ri_Wl_init_2 S) := by
  refine ct_of (by decide +kernel) (Nat.le_of_ble_eq_true rfl) (fun g C => ?_)
  unfold ri_Wl_init_2
  refine v_aload_n (pc := 0) C d_Wl_init_0 rfl 0 rfl ?_
  refine v_oinit (pc := 1) C oi_Wl_3 oi_i oi_c (Nat.le_of_ble_eq_true rfl) (Nat.le_of_ble_eq_true rfl) d_Wl_init_1 ?_
  exact v_vret C d_Wl_init_4 rfl ⟨Nat.le_of_ble_eq_true rfl, Nat.le_of_ble_eq_true rfl⟩ rfl rfl
set_option maxRecDepth 20000 in
def ri_Wl_init_3 (S : Sto) : Option Sto :=
  some S
set_option maxHeartbeats 4000000 in
set_option maxRecDepth 20000 in
theorem ci_Wl_init_3 {G : Gl} (S : Sto) : Ct Y_Wl_init G [rf G 6] LS10 S (fv LS10) (ri_Wl_init_3 S) := by
  refine ct_of (by decide +kernel) (Nat.le_of_ble_eq_true rfl) (fun g C => ?_)
  unfold ri_Wl_init_3
  refine v_aload_n (pc := 0) C d_Wl_init_0 rfl 0 rfl ?_
  refine v_oinit (pc := 1) C oi_Wl_3 oi_i oi_c (Nat.le_of_ble_eq_true rfl) (Nat.le_of_ble_eq_true rfl) d_Wl_init_1 ?_
  exact v_vret C d_Wl_init_4 rfl ⟨Nat.le_of_ble_eq_true rfl, Nat.le_of_ble_eq_true rfl⟩ rfl rfl
set_option maxRecDepth 20000 in
def ri_Wl_init_4 (S : Sto) : Option Sto :=
  some S
set_option maxHeartbeats 4000000 in
set_option maxRecDepth 20000 in
theorem ci_Wl_init_4 {G : Gl} (S : Sto) : Ct Y_Wl_init G [rf G 7] LS12 S (fv LS12) (ri_Wl_init_4 S) := by
  refine ct_of (by decide +kernel) (Nat.le_of_ble_eq_true rfl) (fun g C => ?_)
  unfold ri_Wl_init_4
  refine v_aload_n (pc := 0) C d_Wl_init_0 rfl 0 rfl ?_
  refine v_oinit (pc := 1) C oi_Wl_3 oi_i oi_c (Nat.le_of_ble_eq_true rfl) (Nat.le_of_ble_eq_true rfl) d_Wl_init_1 ?_
  exact v_vret C d_Wl_init_4 rfl ⟨Nat.le_of_ble_eq_true rfl, Nat.le_of_ble_eq_true rfl⟩ rfl rfl
set_option maxRecDepth 20000 in
def ri_Wl_init_5 (S : Sto) : Option Sto :=
  some S
set_option maxHeartbeats 4000000 in
set_option maxRecDepth 20000 in
theorem ci_Wl_init_5 {G : Gl} (S : Sto) : Ct Y_Wl_init G [rf G 8] LS14 S (fv LS14) (ri_Wl_init_5 S) := by
  refine ct_of (by decide +kernel) (Nat.le_of_ble_eq_true rfl) (fun g C => ?_)
  unfold ri_Wl_init_5
  refine v_aload_n (pc := 0) C d_Wl_init_0 rfl 0 rfl ?_
  refine v_oinit (pc := 1) C oi_Wl_3 oi_i oi_c (Nat.le_of_ble_eq_true rfl) (Nat.le_of_ble_eq_true rfl) d_Wl_init_1 ?_
  exact v_vret C d_Wl_init_4 rfl ⟨Nat.le_of_ble_eq_true rfl, Nat.le_of_ble_eq_true rfl⟩ rfl rfl
set_option maxRecDepth 20000 in
def ri_Wl_init_6 (S : Sto) : Option Sto :=
  some S
set_option maxHeartbeats 4000000 in
set_option maxRecDepth 20000 in
theorem ci_Wl_init_6 {G : Gl} (S : Sto) : Ct Y_Wl_init G [rf G 9] LS16 S (fv LS16) (ri_Wl_init_6 S) := by
  refine ct_of (by decide +kernel) (Nat.le_of_ble_eq_true rfl) (fun g C => ?_)
  unfold ri_Wl_init_6
  refine v_aload_n (pc := 0) C d_Wl_init_0 rfl 0 rfl ?_
  refine v_oinit (pc := 1) C oi_Wl_3 oi_i oi_c (Nat.le_of_ble_eq_true rfl) (Nat.le_of_ble_eq_true rfl) d_Wl_init_1 ?_
  exact v_vret C d_Wl_init_4 rfl ⟨Nat.le_of_ble_eq_true rfl, Nat.le_of_ble_eq_true rfl⟩ rfl rfl
set_option maxRecDepth 20000 in
def ri_Wl_init_7 (S : Sto) : Option Sto :=
  some S
set_option maxHeartbeats 4000000 in
set_option maxRecDepth 20000 in
theorem ci_Wl_init_7 {G : Gl} (S : Sto) : Ct Y_Wl_init G [rf G 10] LS18 S (fv LS18) (ri_Wl_init_7 S) := by
  refine ct_of (by decide +kernel) (Nat.le_of_ble_eq_true rfl) (fun g C => ?_)
  unfold ri_Wl_init_7
  refine v_aload_n (pc := 0) C d_Wl_init_0 rfl 0 rfl ?_
  refine v_oinit (pc := 1) C oi_Wl_3 oi_i oi_c (Nat.le_of_ble_eq_true rfl) (Nat.le_of_ble_eq_true rfl) d_Wl_init_1 ?_
  exact v_vret C d_Wl_init_4 rfl ⟨Nat.le_of_ble_eq_true rfl, Nat.le_of_ble_eq_true rfl⟩ rfl rfl
set_option maxRecDepth 20000 in
def ri_Wl_init_8 (S : Sto) : Option Sto :=
  some S
set_option maxHeartbeats 4000000 in
set_option maxRecDepth 20000 in
theorem ci_Wl_init_8 {G : Gl} (S : Sto) : Ct Y_Wl_init G [rf G 11] LS20 S (fv LS20) (ri_Wl_init_8 S) := by
  refine ct_of (by decide +kernel) (Nat.le_of_ble_eq_true rfl) (fun g C => ?_)
  unfold ri_Wl_init_8
  refine v_aload_n (pc := 0) C d_Wl_init_0 rfl 0 rfl ?_
  refine v_oinit (pc := 1) C oi_Wl_3 oi_i oi_c (Nat.le_of_ble_eq_true rfl) (Nat.le_of_ble_eq_true rfl) d_Wl_init_1 ?_
  exact v_vret C d_Wl_init_4 rfl ⟨Nat.le_of_ble_eq_true rfl, Nat.le_of_ble_eq_true rfl⟩ rfl rfl
set_option maxRecDepth 20000 in
def ri_Wl_init_9 (S : Sto) : Option Sto :=
  some S
set_option maxHeartbeats 4000000 in
set_option maxRecDepth 20000 in
theorem ci_Wl_init_9 {G : Gl} (S : Sto) : Ct Y_Wl_init G [rf G 12] LS22 S (fv LS22) (ri_Wl_init_9 S) := by
  refine ct_of (by decide +kernel) (Nat.le_of_ble_eq_true rfl) (fun g C => ?_)
  unfold ri_Wl_init_9
  refine v_aload_n (pc := 0) C d_Wl_init_0 rfl 0 rfl ?_
  refine v_oinit (pc := 1) C oi_Wl_3 oi_i oi_c (Nat.le_of_ble_eq_true rfl) (Nat.le_of_ble_eq_true rfl) d_Wl_init_1 ?_
  exact v_vret C d_Wl_init_4 rfl ⟨Nat.le_of_ble_eq_true rfl, Nat.le_of_ble_eq_true rfl⟩ rfl rfl
set_option maxRecDepth 20000 in
def ri_Sq_init_0 (S : Sto) : Option Sto :=
  ltS (sw S 1 0 3) (fun S1 =>
  ltS (sr S1 2 (fun _ => 0)) (fun S2 =>
  ltS (sr S2 3 (fun _ => 0)) (fun S3 =>
  (ri_Wl_init_0 S3).bind (fun S4 =>
  ltS (sr S4 4 (fun _ => 0)) (fun S5 =>
  (ri_Wl_init_1 S5).bind (fun S6 =>
  ltS (sr S6 5 (fun _ => 0)) (fun S7 =>
  (ri_Wl_init_2 S7).bind (fun S8 =>
  ltS (sr S8 6 (fun _ => 0)) (fun S9 =>
  (ri_Wl_init_3 S9).bind (fun S10 =>
  ltS (sr S10 7 (fun _ => 0)) (fun S11 =>
  (ri_Wl_init_4 S11).bind (fun S12 =>
  ltS (sr S12 8 (fun _ => 0)) (fun S13 =>
  (ri_Wl_init_5 S13).bind (fun S14 =>
  ltS (sr S14 9 (fun _ => 0)) (fun S15 =>
  (ri_Wl_init_6 S15).bind (fun S16 =>
  ltS (sr S16 10 (fun _ => 0)) (fun S17 =>
  (ri_Wl_init_7 S17).bind (fun S18 =>
  ltS (sr S18 11 (fun _ => 0)) (fun S19 =>
  (ri_Wl_init_8 S19).bind (fun S20 =>
  ltS (sr S20 12 (fun _ => 0)) (fun S21 =>
  (ri_Wl_init_9 S21).bind (fun S22 =>
  some S22))))))))))))))))))))))
set_option maxHeartbeats 4000000 in
set_option maxRecDepth 20000 in
theorem ci_Sq_init_0 {G : Gl} (S : Sto) : Ct Y_Sq_init G [rf G 1] LS1 S (fv LS23) (ri_Sq_init_0 S) := by
  refine ct_of (by decide +kernel) (Nat.le_of_ble_eq_true rfl) (fun g C => ?_)
  unfold ri_Sq_init_0
  refine v_aload_n (pc := 0) C d_Sq_init_0 rfl 0 rfl ?_
  refine v_oinit (pc := 1) C oi_Sq_3 oi_i oi_c (Nat.le_of_ble_eq_true rfl) (Nat.le_of_ble_eq_true rfl) d_Sq_init_1 ?_
  refine v_aload_n (pc := 4) C d_Sq_init_4 rfl 0 rfl ?_
  refine v_iconst (pc := 5) C d_Sq_init_5 ic_3 ?_
  refine v_putI (pc := 6) C fp_Sq_9 rfl rfl d_Sq_init_6 (fun S1 => ?_)
  refine v_aload_n (pc := 9) C d_Sq_init_9 rfl 0 rfl ?_
  refine v_bipush (pc := 10) C d_Sq_init_10 bp_10 ?_
  refine v_anew (pc := 12) (a := 2) (m := 10) (t := 0) (CN := "BangSquare$Wall") (L2 := LS2) (k2 := 1) (n2 := 10) C cl_Sq_15 (by decide) rfl rfl rfl rfl rfl rfl ⟨Nat.le_of_ble_eq_true rfl, Nat.le_of_ble_eq_true rfl⟩ (by decide) (by decide) (by decide) d_Sq_init_12 (fun S2 => ?_)
  refine v_putR (pc := 15) (L2 := LS3) C (Or.inr ⟨ff_Sq_17, rfl⟩) rfl rfl (fun _ => rfl) (fun _ => rfl) rfl (by decide) d_Sq_init_15 ?_
  refine v_iconst (pc := 18) C d_Sq_init_18 ic_0 ?_
  refine v_istore_n (pc := 19) (lv' := [(1, .int 0), (0, rf G 1)]) C d_Sq_init_19 rfl (by decide) rfl ?_
  refine v_iload_n (pc := 20) C d_Sq_init_20 rfl 0 rfl ?_
  refine v_bipush (pc := 21) C d_Sq_init_21 bp_10 ?_
  refine v_icmp_ge_f (pc := 23) (tgt := 45) C d_Sq_init_23 rfl (by decide) ?_
  refine v_aload_n (pc := 26) C d_Sq_init_26 rfl 1 rfl ?_
  refine v_getR (pc := 27) (r := 2) C fl_Sq_17 rfl rfl d_Sq_init_27 ?_
  refine v_iload_n (pc := 30) C d_Sq_init_30 rfl 0 rfl ?_
  refine v_new (pc := 31) (a := 3) (L2 := LS4) (k2 := 2) (n2 := 15) C cn_Sq_15 rfl rfl rfl rfl ⟨Nat.le_of_ble_eq_true rfl, Nat.le_of_ble_eq_true rfl⟩ d_Sq_init_31 (fun S3 => ?_)
  refine v_dup (pc := 34) C d_Sq_init_34 rfl ?_
  refine v_cc (pc := 35) (L2 := LS4) (k2 := 2) (n2 := 15) (inv_IN (As := []) (st := [rf G 3, .int 0, rf G 2]) C mn_Sq_21 mi_Wl_init ro_Sq_init_Wl_init rfl rfl (Nat.le_of_ble_eq_true rfl) d_Sq_init_35) (ci_Wl_init_0 S3) rfl rfl ⟨Nat.le_of_ble_eq_true rfl, Nat.le_of_ble_eq_true rfl⟩ (fun S4 => ?_)
  refine v_aast (pc := 38) (t := 0) (L2 := LS5) C rfl rfl rfl rfl (by decide) rfl rfl d_Sq_init_38 ?_
  refine v_iincT (pc := 39) (p := 0) (v := 1) (lv' := [(1, .int 1), (0, rf G 1)]) C d_Sq_init_39 rfl (by decide) (by decide) rfl ?_
  refine v_goto (pc := 42) (tgt := 20) C d_Sq_init_42 rfl ?_
  refine v_iload_n (pc := 20) C d_Sq_init_20 rfl 0 rfl ?_
  refine v_bipush (pc := 21) C d_Sq_init_21 bp_10 ?_
  refine v_icmp_ge_f (pc := 23) (tgt := 45) C d_Sq_init_23 rfl (by decide) ?_
  refine v_aload_n (pc := 26) C d_Sq_init_26 rfl 1 rfl ?_
  refine v_getR (pc := 27) (r := 2) C fl_Sq_17 rfl rfl d_Sq_init_27 ?_
  refine v_iload_n (pc := 30) C d_Sq_init_30 rfl 0 rfl ?_
  refine v_new (pc := 31) (a := 4) (L2 := LS6) (k2 := 3) (n2 := 20) C cn_Sq_15 rfl rfl rfl rfl ⟨Nat.le_of_ble_eq_true rfl, Nat.le_of_ble_eq_true rfl⟩ d_Sq_init_31 (fun S5 => ?_)
  refine v_dup (pc := 34) C d_Sq_init_34 rfl ?_
  refine v_cc (pc := 35) (L2 := LS6) (k2 := 3) (n2 := 20) (inv_IN (As := []) (st := [rf G 4, .int 1, rf G 2]) C mn_Sq_21 mi_Wl_init ro_Sq_init_Wl_init rfl rfl (Nat.le_of_ble_eq_true rfl) d_Sq_init_35) (ci_Wl_init_1 S5) rfl rfl ⟨Nat.le_of_ble_eq_true rfl, Nat.le_of_ble_eq_true rfl⟩ (fun S6 => ?_)
  refine v_aast (pc := 38) (t := 0) (L2 := LS7) C rfl rfl rfl rfl (by decide) rfl rfl d_Sq_init_38 ?_
  refine v_iincT (pc := 39) (p := 0) (v := 2) (lv' := [(1, .int 2), (0, rf G 1)]) C d_Sq_init_39 rfl (by decide) (by decide) rfl ?_
  refine v_goto (pc := 42) (tgt := 20) C d_Sq_init_42 rfl ?_
  refine v_iload_n (pc := 20) C d_Sq_init_20 rfl 0 rfl ?_
  refine v_bipush (pc := 21) C d_Sq_init_21 bp_10 ?_
  refine v_icmp_ge_f (pc := 23) (tgt := 45) C d_Sq_init_23 rfl (by decide) ?_
  refine v_aload_n (pc := 26) C d_Sq_init_26 rfl 1 rfl ?_
  refine v_getR (pc := 27) (r := 2) C fl_Sq_17 rfl rfl d_Sq_init_27 ?_
  refine v_iload_n (pc := 30) C d_Sq_init_30 rfl 0 rfl ?_
  refine v_new (pc := 31) (a := 5) (L2 := LS8) (k2 := 4) (n2 := 25) C cn_Sq_15 rfl rfl rfl rfl ⟨Nat.le_of_ble_eq_true rfl, Nat.le_of_ble_eq_true rfl⟩ d_Sq_init_31 (fun S7 => ?_)
  refine v_dup (pc := 34) C d_Sq_init_34 rfl ?_
  refine v_cc (pc := 35) (L2 := LS8) (k2 := 4) (n2 := 25) (inv_IN (As := []) (st := [rf G 5, .int 2, rf G 2]) C mn_Sq_21 mi_Wl_init ro_Sq_init_Wl_init rfl rfl (Nat.le_of_ble_eq_true rfl) d_Sq_init_35) (ci_Wl_init_2 S7) rfl rfl ⟨Nat.le_of_ble_eq_true rfl, Nat.le_of_ble_eq_true rfl⟩ (fun S8 => ?_)
  refine v_aast (pc := 38) (t := 0) (L2 := LS9) C rfl rfl rfl rfl (by decide) rfl rfl d_Sq_init_38 ?_
  refine v_iincT (pc := 39) (p := 0) (v := 3) (lv' := [(1, .int 3), (0, rf G 1)]) C d_Sq_init_39 rfl (by decide) (by decide) rfl ?_
  refine v_goto (pc := 42) (tgt := 20) C d_Sq_init_42 rfl ?_
  refine v_iload_n (pc := 20) C d_Sq_init_20 rfl 0 rfl ?_
  refine v_bipush (pc := 21) C d_Sq_init_21 bp_10 ?_
  refine v_icmp_ge_f (pc := 23) (tgt := 45) C d_Sq_init_23 rfl (by decide) ?_
  refine v_aload_n (pc := 26) C d_Sq_init_26 rfl 1 rfl ?_
  refine v_getR (pc := 27) (r := 2) C fl_Sq_17 rfl rfl d_Sq_init_27 ?_
  refine v_iload_n (pc := 30) C d_Sq_init_30 rfl 0 rfl ?_
  refine v_new (pc := 31) (a := 6) (L2 := LS10) (k2 := 5) (n2 := 30) C cn_Sq_15 rfl rfl rfl rfl ⟨Nat.le_of_ble_eq_true rfl, Nat.le_of_ble_eq_true rfl⟩ d_Sq_init_31 (fun S9 => ?_)
  refine v_dup (pc := 34) C d_Sq_init_34 rfl ?_
  refine v_cc (pc := 35) (L2 := LS10) (k2 := 5) (n2 := 30) (inv_IN (As := []) (st := [rf G 6, .int 3, rf G 2]) C mn_Sq_21 mi_Wl_init ro_Sq_init_Wl_init rfl rfl (Nat.le_of_ble_eq_true rfl) d_Sq_init_35) (ci_Wl_init_3 S9) rfl rfl ⟨Nat.le_of_ble_eq_true rfl, Nat.le_of_ble_eq_true rfl⟩ (fun S10 => ?_)
  refine v_aast (pc := 38) (t := 0) (L2 := LS11) C rfl rfl rfl rfl (by decide) rfl rfl d_Sq_init_38 ?_
  refine v_iincT (pc := 39) (p := 0) (v := 4) (lv' := [(1, .int 4), (0, rf G 1)]) C d_Sq_init_39 rfl (by decide) (by decide) rfl ?_
  refine v_goto (pc := 42) (tgt := 20) C d_Sq_init_42 rfl ?_
  refine v_iload_n (pc := 20) C d_Sq_init_20 rfl 0 rfl ?_
  refine v_bipush (pc := 21) C d_Sq_init_21 bp_10 ?_
  refine v_icmp_ge_f (pc := 23) (tgt := 45) C d_Sq_init_23 rfl (by decide) ?_
  refine v_aload_n (pc := 26) C d_Sq_init_26 rfl 1 rfl ?_
  refine v_getR (pc := 27) (r := 2) C fl_Sq_17 rfl rfl d_Sq_init_27 ?_
  refine v_iload_n (pc := 30) C d_Sq_init_30 rfl 0 rfl ?_
  refine v_new (pc := 31) (a := 7) (L2 := LS12) (k2 := 6) (n2 := 35) C cn_Sq_15 rfl rfl rfl rfl ⟨Nat.le_of_ble_eq_true rfl, Nat.le_of_ble_eq_true rfl⟩ d_Sq_init_31 (fun S11 => ?_)
  refine v_dup (pc := 34) C d_Sq_init_34 rfl ?_
  refine v_cc (pc := 35) (L2 := LS12) (k2 := 6) (n2 := 35) (inv_IN (As := []) (st := [rf G 7, .int 4, rf G 2]) C mn_Sq_21 mi_Wl_init ro_Sq_init_Wl_init rfl rfl (Nat.le_of_ble_eq_true rfl) d_Sq_init_35) (ci_Wl_init_4 S11) rfl rfl ⟨Nat.le_of_ble_eq_true rfl, Nat.le_of_ble_eq_true rfl⟩ (fun S12 => ?_)
  refine v_aast (pc := 38) (t := 0) (L2 := LS13) C rfl rfl rfl rfl (by decide) rfl rfl d_Sq_init_38 ?_
  refine v_iincT (pc := 39) (p := 0) (v := 5) (lv' := [(1, .int 5), (0, rf G 1)]) C d_Sq_init_39 rfl (by decide) (by decide) rfl ?_
  refine v_goto (pc := 42) (tgt := 20) C d_Sq_init_42 rfl ?_
  refine v_iload_n (pc := 20) C d_Sq_init_20 rfl 0 rfl ?_
  refine v_bipush (pc := 21) C d_Sq_init_21 bp_10 ?_
  refine v_icmp_ge_f (pc := 23) (tgt := 45) C d_Sq_init_23 rfl (by decide) ?_
  refine v_aload_n (pc := 26) C d_Sq_init_26 rfl 1 rfl ?_
  refine v_getR (pc := 27) (r := 2) C fl_Sq_17 rfl rfl d_Sq_init_27 ?_
  refine v_iload_n (pc := 30) C d_Sq_init_30 rfl 0 rfl ?_
  refine v_new (pc := 31) (a := 8) (L2 := LS14) (k2 := 7) (n2 := 40) C cn_Sq_15 rfl rfl rfl rfl ⟨Nat.le_of_ble_eq_true rfl, Nat.le_of_ble_eq_true rfl⟩ d_Sq_init_31 (fun S13 => ?_)
  refine v_dup (pc := 34) C d_Sq_init_34 rfl ?_
  refine v_cc (pc := 35) (L2 := LS14) (k2 := 7) (n2 := 40) (inv_IN (As := []) (st := [rf G 8, .int 5, rf G 2]) C mn_Sq_21 mi_Wl_init ro_Sq_init_Wl_init rfl rfl (Nat.le_of_ble_eq_true rfl) d_Sq_init_35) (ci_Wl_init_5 S13) rfl rfl ⟨Nat.le_of_ble_eq_true rfl, Nat.le_of_ble_eq_true rfl⟩ (fun S14 => ?_)
  refine v_aast (pc := 38) (t := 0) (L2 := LS15) C rfl rfl rfl rfl (by decide) rfl rfl d_Sq_init_38 ?_
  refine v_iincT (pc := 39) (p := 0) (v := 6) (lv' := [(1, .int 6), (0, rf G 1)]) C d_Sq_init_39 rfl (by decide) (by decide) rfl ?_
  refine v_goto (pc := 42) (tgt := 20) C d_Sq_init_42 rfl ?_
  refine v_iload_n (pc := 20) C d_Sq_init_20 rfl 0 rfl ?_
  refine v_bipush (pc := 21) C d_Sq_init_21 bp_10 ?_
  refine v_icmp_ge_f (pc := 23) (tgt := 45) C d_Sq_init_23 rfl (by decide) ?_
  refine v_aload_n (pc := 26) C d_Sq_init_26 rfl 1 rfl ?_
  refine v_getR (pc := 27) (r := 2) C fl_Sq_17 rfl rfl d_Sq_init_27 ?_
  refine v_iload_n (pc := 30) C d_Sq_init_30 rfl 0 rfl ?_
  refine v_new (pc := 31) (a := 9) (L2 := LS16) (k2 := 8) (n2 := 45) C cn_Sq_15 rfl rfl rfl rfl ⟨Nat.le_of_ble_eq_true rfl, Nat.le_of_ble_eq_true rfl⟩ d_Sq_init_31 (fun S15 => ?_)
  refine v_dup (pc := 34) C d_Sq_init_34 rfl ?_
  refine v_cc (pc := 35) (L2 := LS16) (k2 := 8) (n2 := 45) (inv_IN (As := []) (st := [rf G 9, .int 6, rf G 2]) C mn_Sq_21 mi_Wl_init ro_Sq_init_Wl_init rfl rfl (Nat.le_of_ble_eq_true rfl) d_Sq_init_35) (ci_Wl_init_6 S15) rfl rfl ⟨Nat.le_of_ble_eq_true rfl, Nat.le_of_ble_eq_true rfl⟩ (fun S16 => ?_)
  refine v_aast (pc := 38) (t := 0) (L2 := LS17) C rfl rfl rfl rfl (by decide) rfl rfl d_Sq_init_38 ?_
  refine v_iincT (pc := 39) (p := 0) (v := 7) (lv' := [(1, .int 7), (0, rf G 1)]) C d_Sq_init_39 rfl (by decide) (by decide) rfl ?_
  refine v_goto (pc := 42) (tgt := 20) C d_Sq_init_42 rfl ?_
  refine v_iload_n (pc := 20) C d_Sq_init_20 rfl 0 rfl ?_
  refine v_bipush (pc := 21) C d_Sq_init_21 bp_10 ?_
  refine v_icmp_ge_f (pc := 23) (tgt := 45) C d_Sq_init_23 rfl (by decide) ?_
  refine v_aload_n (pc := 26) C d_Sq_init_26 rfl 1 rfl ?_
  refine v_getR (pc := 27) (r := 2) C fl_Sq_17 rfl rfl d_Sq_init_27 ?_
  refine v_iload_n (pc := 30) C d_Sq_init_30 rfl 0 rfl ?_
  refine v_new (pc := 31) (a := 10) (L2 := LS18) (k2 := 9) (n2 := 50) C cn_Sq_15 rfl rfl rfl rfl ⟨Nat.le_of_ble_eq_true rfl, Nat.le_of_ble_eq_true rfl⟩ d_Sq_init_31 (fun S17 => ?_)
  refine v_dup (pc := 34) C d_Sq_init_34 rfl ?_
  refine v_cc (pc := 35) (L2 := LS18) (k2 := 9) (n2 := 50) (inv_IN (As := []) (st := [rf G 10, .int 7, rf G 2]) C mn_Sq_21 mi_Wl_init ro_Sq_init_Wl_init rfl rfl (Nat.le_of_ble_eq_true rfl) d_Sq_init_35) (ci_Wl_init_7 S17) rfl rfl ⟨Nat.le_of_ble_eq_true rfl, Nat.le_of_ble_eq_true rfl⟩ (fun S18 => ?_)
  refine v_aast (pc := 38) (t := 0) (L2 := LS19) C rfl rfl rfl rfl (by decide) rfl rfl d_Sq_init_38 ?_
  refine v_iincT (pc := 39) (p := 0) (v := 8) (lv' := [(1, .int 8), (0, rf G 1)]) C d_Sq_init_39 rfl (by decide) (by decide) rfl ?_
  refine v_goto (pc := 42) (tgt := 20) C d_Sq_init_42 rfl ?_
  refine v_iload_n (pc := 20) C d_Sq_init_20 rfl 0 rfl ?_
  refine v_bipush (pc := 21) C d_Sq_init_21 bp_10 ?_
  refine v_icmp_ge_f (pc := 23) (tgt := 45) C d_Sq_init_23 rfl (by decide) ?_
  refine v_aload_n (pc := 26) C d_Sq_init_26 rfl 1 rfl ?_
  refine v_getR (pc := 27) (r := 2) C fl_Sq_17 rfl rfl d_Sq_init_27 ?_
  refine v_iload_n (pc := 30) C d_Sq_init_30 rfl 0 rfl ?_
  refine v_new (pc := 31) (a := 11) (L2 := LS20) (k2 := 10) (n2 := 55) C cn_Sq_15 rfl rfl rfl rfl ⟨Nat.le_of_ble_eq_true rfl, Nat.le_of_ble_eq_true rfl⟩ d_Sq_init_31 (fun S19 => ?_)
  refine v_dup (pc := 34) C d_Sq_init_34 rfl ?_
  refine v_cc (pc := 35) (L2 := LS20) (k2 := 10) (n2 := 55) (inv_IN (As := []) (st := [rf G 11, .int 8, rf G 2]) C mn_Sq_21 mi_Wl_init ro_Sq_init_Wl_init rfl rfl (Nat.le_of_ble_eq_true rfl) d_Sq_init_35) (ci_Wl_init_8 S19) rfl rfl ⟨Nat.le_of_ble_eq_true rfl, Nat.le_of_ble_eq_true rfl⟩ (fun S20 => ?_)
  refine v_aast (pc := 38) (t := 0) (L2 := LS21) C rfl rfl rfl rfl (by decide) rfl rfl d_Sq_init_38 ?_
  refine v_iincT (pc := 39) (p := 0) (v := 9) (lv' := [(1, .int 9), (0, rf G 1)]) C d_Sq_init_39 rfl (by decide) (by decide) rfl ?_
  refine v_goto (pc := 42) (tgt := 20) C d_Sq_init_42 rfl ?_
  refine v_iload_n (pc := 20) C d_Sq_init_20 rfl 0 rfl ?_
  refine v_bipush (pc := 21) C d_Sq_init_21 bp_10 ?_
  refine v_icmp_ge_f (pc := 23) (tgt := 45) C d_Sq_init_23 rfl (by decide) ?_
  refine v_aload_n (pc := 26) C d_Sq_init_26 rfl 1 rfl ?_
  refine v_getR (pc := 27) (r := 2) C fl_Sq_17 rfl rfl d_Sq_init_27 ?_
  refine v_iload_n (pc := 30) C d_Sq_init_30 rfl 0 rfl ?_
  refine v_new (pc := 31) (a := 12) (L2 := LS22) (k2 := 11) (n2 := 60) C cn_Sq_15 rfl rfl rfl rfl ⟨Nat.le_of_ble_eq_true rfl, Nat.le_of_ble_eq_true rfl⟩ d_Sq_init_31 (fun S21 => ?_)
  refine v_dup (pc := 34) C d_Sq_init_34 rfl ?_
  refine v_cc (pc := 35) (L2 := LS22) (k2 := 11) (n2 := 60) (inv_IN (As := []) (st := [rf G 12, .int 9, rf G 2]) C mn_Sq_21 mi_Wl_init ro_Sq_init_Wl_init rfl rfl (Nat.le_of_ble_eq_true rfl) d_Sq_init_35) (ci_Wl_init_9 S21) rfl rfl ⟨Nat.le_of_ble_eq_true rfl, Nat.le_of_ble_eq_true rfl⟩ (fun S22 => ?_)
  refine v_aast (pc := 38) (t := 0) (L2 := LS23) C rfl rfl rfl rfl (by decide) rfl rfl d_Sq_init_38 ?_
  refine v_iincT (pc := 39) (p := 0) (v := 10) (lv' := [(1, .int 10), (0, rf G 1)]) C d_Sq_init_39 rfl (by decide) (by decide) rfl ?_
  refine v_goto (pc := 42) (tgt := 20) C d_Sq_init_42 rfl ?_
  refine v_iload_n (pc := 20) C d_Sq_init_20 rfl 0 rfl ?_
  refine v_bipush (pc := 21) C d_Sq_init_21 bp_10 ?_
  refine v_icmp_ge_t (pc := 23) (tgt := 45) C d_Sq_init_23 rfl (by decide) ?_
  exact v_vret C d_Sq_init_45 rfl ⟨Nat.le_of_ble_eq_true rfl, Nat.le_of_ble_eq_true rfl⟩ rfl rfl
set_option maxRecDepth 20000 in
def ri_Hd_init_0 (S : Sto) : Option Sto :=
  ltS (sr S 14 (fun _ => 0)) (fun S1 =>
  ltS (sr S1 15 (fun _ => 0)) (fun S2 =>
  ltS (sr S2 16 (fun _ => 0)) (fun S3 =>
  some S3)))
set_option maxHeartbeats 4000000 in
set_option maxRecDepth 20000 in
theorem ci_Hd_init_0 {G : Gl} (S : Sto) : Ct Y_Hd_init G [rf G 13, rf G 1] LS25 S (fv LS32) (ri_Hd_init_0 S) := by
  refine ct_of (by decide +kernel) (Nat.le_of_ble_eq_true rfl) (fun g C => ?_)
  unfold ri_Hd_init_0
  refine v_aload_n (pc := 0) C d_Hd_init_0 rfl 0 rfl ?_
  refine v_oinit (pc := 1) C oi_Hd_3 oi_i oi_c (Nat.le_of_ble_eq_true rfl) (Nat.le_of_ble_eq_true rfl) d_Hd_init_1 ?_
  refine v_aload_n (pc := 4) C d_Hd_init_4 rfl 0 rfl ?_
  refine v_aload_n (pc := 5) C d_Hd_init_5 rfl 1 rfl ?_
  refine v_putR (pc := 6) (L2 := LS26) C (Or.inr ⟨ff_Hd_9, rfl⟩) rfl rfl (fun _ => rfl) (fun _ => rfl) rfl (by decide) d_Hd_init_6 ?_
  refine v_aload_n (pc := 9) C d_Hd_init_9 rfl 0 rfl ?_
  refine v_bipush (pc := 10) C d_Hd_init_10 bp_10 ?_
  refine v_newI (pc := 12) (a := 14) (m := 10) (L2 := LS27) (k2 := 1) (n2 := 10) C rfl rfl rfl rfl ⟨Nat.le_of_ble_eq_true rfl, Nat.le_of_ble_eq_true rfl⟩ (by decide) (by decide) (by decide) aw_I d_Hd_init_12 (fun S1 => ?_)
  refine v_putR (pc := 14) (L2 := LS28) C (Or.inr ⟨ff_Hd_15, rfl⟩) rfl rfl (fun _ => rfl) (fun _ => rfl) rfl (by decide) d_Hd_init_14 ?_
  refine v_aload_n (pc := 17) C d_Hd_init_17 rfl 0 rfl ?_
  refine v_bipush (pc := 18) C d_Hd_init_18 bp_10 ?_
  refine v_newI (pc := 20) (a := 15) (m := 10) (L2 := LS29) (k2 := 2) (n2 := 20) C rfl rfl rfl rfl ⟨Nat.le_of_ble_eq_true rfl, Nat.le_of_ble_eq_true rfl⟩ (by decide) (by decide) (by decide) aw_I d_Hd_init_20 (fun S2 => ?_)
  refine v_putR (pc := 22) (L2 := LS30) C (Or.inr ⟨ff_Hd_19, rfl⟩) rfl rfl (fun _ => rfl) (fun _ => rfl) rfl (by decide) d_Hd_init_22 ?_
  refine v_aload_n (pc := 25) C d_Hd_init_25 rfl 0 rfl ?_
  refine v_bipush (pc := 26) C d_Hd_init_26 bp_10 ?_
  refine v_newI (pc := 28) (a := 16) (m := 10) (L2 := LS31) (k2 := 3) (n2 := 30) C rfl rfl rfl rfl ⟨Nat.le_of_ble_eq_true rfl, Nat.le_of_ble_eq_true rfl⟩ (by decide) (by decide) (by decide) aw_I d_Hd_init_28 (fun S3 => ?_)
  refine v_putR (pc := 30) (L2 := LS32) C (Or.inr ⟨ff_Hd_22, rfl⟩) rfl rfl (fun _ => rfl) (fun _ => rfl) rfl (by decide) d_Hd_init_30 ?_
  exact v_vret C d_Hd_init_33 rfl ⟨Nat.le_of_ble_eq_true rfl, Nat.le_of_ble_eq_true rfl⟩ rfl rfl
set_option maxRecDepth 20000 in
def ri_Sh_init_0 (S : Sto) : Option Sto :=
  ltS (sw S 19 2 (-1)) (fun S1 =>
  some S1)
set_option maxHeartbeats 4000000 in
set_option maxRecDepth 20000 in
theorem ci_Sh_init_0 {G : Gl} (S : Sto) : Ct Y_Sh_init G [rf G 19] LS38 S (fv LS38) (ri_Sh_init_0 S) := by
  refine ct_of (by decide +kernel) (Nat.le_of_ble_eq_true rfl) (fun g C => ?_)
  unfold ri_Sh_init_0
  refine v_aload_n (pc := 0) C d_Sh_init_0 rfl 0 rfl ?_
  refine v_oinit (pc := 1) C oi_Sh_3 oi_i oi_c (Nat.le_of_ble_eq_true rfl) (Nat.le_of_ble_eq_true rfl) d_Sh_init_1 ?_
  refine v_aload_n (pc := 4) C d_Sh_init_4 rfl 0 rfl ?_
  refine v_iconst (pc := 5) C d_Sh_init_5 ic_m1 ?_
  refine v_putI (pc := 6) C fp_Sh_9 rfl rfl d_Sh_init_6 (fun S1 => ?_)
  exact v_vret C d_Sh_init_9 rfl ⟨Nat.le_of_ble_eq_true rfl, Nat.le_of_ble_eq_true rfl⟩ rfl rfl
set_option maxRecDepth 20000 in
def ri_Sh_init_1 (S : Sto) : Option Sto :=
  ltS (sw S 20 2 (-1)) (fun S1 =>
  some S1)
set_option maxHeartbeats 4000000 in
set_option maxRecDepth 20000 in
theorem ci_Sh_init_1 {G : Gl} (S : Sto) : Ct Y_Sh_init G [rf G 20] LS40 S (fv LS40) (ri_Sh_init_1 S) := by
  refine ct_of (by decide +kernel) (Nat.le_of_ble_eq_true rfl) (fun g C => ?_)
  unfold ri_Sh_init_1
  refine v_aload_n (pc := 0) C d_Sh_init_0 rfl 0 rfl ?_
  refine v_oinit (pc := 1) C oi_Sh_3 oi_i oi_c (Nat.le_of_ble_eq_true rfl) (Nat.le_of_ble_eq_true rfl) d_Sh_init_1 ?_
  refine v_aload_n (pc := 4) C d_Sh_init_4 rfl 0 rfl ?_
  refine v_iconst (pc := 5) C d_Sh_init_5 ic_m1 ?_
  refine v_putI (pc := 6) C fp_Sh_9 rfl rfl d_Sh_init_6 (fun S1 => ?_)
  exact v_vret C d_Sh_init_9 rfl ⟨Nat.le_of_ble_eq_true rfl, Nat.le_of_ble_eq_true rfl⟩ rfl rfl
set_option maxRecDepth 20000 in
def ri_Sh_init_2 (S : Sto) : Option Sto :=
  ltS (sw S 21 2 (-1)) (fun S1 =>
  some S1)
set_option maxHeartbeats 4000000 in
set_option maxRecDepth 20000 in
theorem ci_Sh_init_2 {G : Gl} (S : Sto) : Ct Y_Sh_init G [rf G 21] LS42 S (fv LS42) (ri_Sh_init_2 S) := by
  refine ct_of (by decide +kernel) (Nat.le_of_ble_eq_true rfl) (fun g C => ?_)
  unfold ri_Sh_init_2
  refine v_aload_n (pc := 0) C d_Sh_init_0 rfl 0 rfl ?_
  refine v_oinit (pc := 1) C oi_Sh_3 oi_i oi_c (Nat.le_of_ble_eq_true rfl) (Nat.le_of_ble_eq_true rfl) d_Sh_init_1 ?_
  refine v_aload_n (pc := 4) C d_Sh_init_4 rfl 0 rfl ?_
  refine v_iconst (pc := 5) C d_Sh_init_5 ic_m1 ?_
  refine v_putI (pc := 6) C fp_Sh_9 rfl rfl d_Sh_init_6 (fun S1 => ?_)
  exact v_vret C d_Sh_init_9 rfl ⟨Nat.le_of_ble_eq_true rfl, Nat.le_of_ble_eq_true rfl⟩ rfl rfl
set_option maxRecDepth 20000 in
def ri_Sh_init_3 (S : Sto) : Option Sto :=
  ltS (sw S 22 2 (-1)) (fun S1 =>
  some S1)
set_option maxHeartbeats 4000000 in
set_option maxRecDepth 20000 in
theorem ci_Sh_init_3 {G : Gl} (S : Sto) : Ct Y_Sh_init G [rf G 22] LS44 S (fv LS44) (ri_Sh_init_3 S) := by
  refine ct_of (by decide +kernel) (Nat.le_of_ble_eq_true rfl) (fun g C => ?_)
  unfold ri_Sh_init_3
  refine v_aload_n (pc := 0) C d_Sh_init_0 rfl 0 rfl ?_
  refine v_oinit (pc := 1) C oi_Sh_3 oi_i oi_c (Nat.le_of_ble_eq_true rfl) (Nat.le_of_ble_eq_true rfl) d_Sh_init_1 ?_
  refine v_aload_n (pc := 4) C d_Sh_init_4 rfl 0 rfl ?_
  refine v_iconst (pc := 5) C d_Sh_init_5 ic_m1 ?_
  refine v_putI (pc := 6) C fp_Sh_9 rfl rfl d_Sh_init_6 (fun S1 => ?_)
  exact v_vret C d_Sh_init_9 rfl ⟨Nat.le_of_ble_eq_true rfl, Nat.le_of_ble_eq_true rfl⟩ rfl rfl
set_option maxRecDepth 20000 in
def ri_Sh_init_4 (S : Sto) : Option Sto :=
  ltS (sw S 23 2 (-1)) (fun S1 =>
  some S1)
set_option maxHeartbeats 4000000 in
set_option maxRecDepth 20000 in
theorem ci_Sh_init_4 {G : Gl} (S : Sto) : Ct Y_Sh_init G [rf G 23] LS46 S (fv LS46) (ri_Sh_init_4 S) := by
  refine ct_of (by decide +kernel) (Nat.le_of_ble_eq_true rfl) (fun g C => ?_)
  unfold ri_Sh_init_4
  refine v_aload_n (pc := 0) C d_Sh_init_0 rfl 0 rfl ?_
  refine v_oinit (pc := 1) C oi_Sh_3 oi_i oi_c (Nat.le_of_ble_eq_true rfl) (Nat.le_of_ble_eq_true rfl) d_Sh_init_1 ?_
  refine v_aload_n (pc := 4) C d_Sh_init_4 rfl 0 rfl ?_
  refine v_iconst (pc := 5) C d_Sh_init_5 ic_m1 ?_
  refine v_putI (pc := 6) C fp_Sh_9 rfl rfl d_Sh_init_6 (fun S1 => ?_)
  exact v_vret C d_Sh_init_9 rfl ⟨Nat.le_of_ble_eq_true rfl, Nat.le_of_ble_eq_true rfl⟩ rfl rfl
set_option maxRecDepth 20000 in
def ri_Sh_init_5 (S : Sto) : Option Sto :=
  ltS (sw S 24 2 (-1)) (fun S1 =>
  some S1)
set_option maxHeartbeats 4000000 in
set_option maxRecDepth 20000 in
theorem ci_Sh_init_5 {G : Gl} (S : Sto) : Ct Y_Sh_init G [rf G 24] LS48 S (fv LS48) (ri_Sh_init_5 S) := by
  refine ct_of (by decide +kernel) (Nat.le_of_ble_eq_true rfl) (fun g C => ?_)
  unfold ri_Sh_init_5
  refine v_aload_n (pc := 0) C d_Sh_init_0 rfl 0 rfl ?_
  refine v_oinit (pc := 1) C oi_Sh_3 oi_i oi_c (Nat.le_of_ble_eq_true rfl) (Nat.le_of_ble_eq_true rfl) d_Sh_init_1 ?_
  refine v_aload_n (pc := 4) C d_Sh_init_4 rfl 0 rfl ?_
  refine v_iconst (pc := 5) C d_Sh_init_5 ic_m1 ?_
  refine v_putI (pc := 6) C fp_Sh_9 rfl rfl d_Sh_init_6 (fun S1 => ?_)
  exact v_vret C d_Sh_init_9 rfl ⟨Nat.le_of_ble_eq_true rfl, Nat.le_of_ble_eq_true rfl⟩ rfl rfl
set_option maxRecDepth 20000 in
def ri_Sh_init_6 (S : Sto) : Option Sto :=
  ltS (sw S 25 2 (-1)) (fun S1 =>
  some S1)
set_option maxHeartbeats 4000000 in
set_option maxRecDepth 20000 in
theorem ci_Sh_init_6 {G : Gl} (S : Sto) : Ct Y_Sh_init G [rf G 25] LS50 S (fv LS50) (ri_Sh_init_6 S) := by
  refine ct_of (by decide +kernel) (Nat.le_of_ble_eq_true rfl) (fun g C => ?_)
  unfold ri_Sh_init_6
  refine v_aload_n (pc := 0) C d_Sh_init_0 rfl 0 rfl ?_
  refine v_oinit (pc := 1) C oi_Sh_3 oi_i oi_c (Nat.le_of_ble_eq_true rfl) (Nat.le_of_ble_eq_true rfl) d_Sh_init_1 ?_
  refine v_aload_n (pc := 4) C d_Sh_init_4 rfl 0 rfl ?_
  refine v_iconst (pc := 5) C d_Sh_init_5 ic_m1 ?_
  refine v_putI (pc := 6) C fp_Sh_9 rfl rfl d_Sh_init_6 (fun S1 => ?_)
  exact v_vret C d_Sh_init_9 rfl ⟨Nat.le_of_ble_eq_true rfl, Nat.le_of_ble_eq_true rfl⟩ rfl rfl
set_option maxRecDepth 20000 in
def ri_Sh_init_7 (S : Sto) : Option Sto :=
  ltS (sw S 26 2 (-1)) (fun S1 =>
  some S1)
set_option maxHeartbeats 4000000 in
set_option maxRecDepth 20000 in
theorem ci_Sh_init_7 {G : Gl} (S : Sto) : Ct Y_Sh_init G [rf G 26] LS52 S (fv LS52) (ri_Sh_init_7 S) := by
  refine ct_of (by decide +kernel) (Nat.le_of_ble_eq_true rfl) (fun g C => ?_)
  unfold ri_Sh_init_7
  refine v_aload_n (pc := 0) C d_Sh_init_0 rfl 0 rfl ?_
  refine v_oinit (pc := 1) C oi_Sh_3 oi_i oi_c (Nat.le_of_ble_eq_true rfl) (Nat.le_of_ble_eq_true rfl) d_Sh_init_1 ?_
  refine v_aload_n (pc := 4) C d_Sh_init_4 rfl 0 rfl ?_
  refine v_iconst (pc := 5) C d_Sh_init_5 ic_m1 ?_
  refine v_putI (pc := 6) C fp_Sh_9 rfl rfl d_Sh_init_6 (fun S1 => ?_)
  exact v_vret C d_Sh_init_9 rfl ⟨Nat.le_of_ble_eq_true rfl, Nat.le_of_ble_eq_true rfl⟩ rfl rfl
set_option maxRecDepth 20000 in
def ri_Sh_init_8 (S : Sto) : Option Sto :=
  ltS (sw S 27 2 (-1)) (fun S1 =>
  some S1)
set_option maxHeartbeats 4000000 in
set_option maxRecDepth 20000 in
theorem ci_Sh_init_8 {G : Gl} (S : Sto) : Ct Y_Sh_init G [rf G 27] LS54 S (fv LS54) (ri_Sh_init_8 S) := by
  refine ct_of (by decide +kernel) (Nat.le_of_ble_eq_true rfl) (fun g C => ?_)
  unfold ri_Sh_init_8
  refine v_aload_n (pc := 0) C d_Sh_init_0 rfl 0 rfl ?_
  refine v_oinit (pc := 1) C oi_Sh_3 oi_i oi_c (Nat.le_of_ble_eq_true rfl) (Nat.le_of_ble_eq_true rfl) d_Sh_init_1 ?_
  refine v_aload_n (pc := 4) C d_Sh_init_4 rfl 0 rfl ?_
  refine v_iconst (pc := 5) C d_Sh_init_5 ic_m1 ?_
  refine v_putI (pc := 6) C fp_Sh_9 rfl rfl d_Sh_init_6 (fun S1 => ?_)
  exact v_vret C d_Sh_init_9 rfl ⟨Nat.le_of_ble_eq_true rfl, Nat.le_of_ble_eq_true rfl⟩ rfl rfl
set_option maxRecDepth 20000 in
def ri_Sh_init_9 (S : Sto) : Option Sto :=
  ltS (sw S 28 2 (-1)) (fun S1 =>
  some S1)
set_option maxHeartbeats 4000000 in
set_option maxRecDepth 20000 in
theorem ci_Sh_init_9 {G : Gl} (S : Sto) : Ct Y_Sh_init G [rf G 28] LS56 S (fv LS56) (ri_Sh_init_9 S) := by
  refine ct_of (by decide +kernel) (Nat.le_of_ble_eq_true rfl) (fun g C => ?_)
  unfold ri_Sh_init_9
  refine v_aload_n (pc := 0) C d_Sh_init_0 rfl 0 rfl ?_
  refine v_oinit (pc := 1) C oi_Sh_3 oi_i oi_c (Nat.le_of_ble_eq_true rfl) (Nat.le_of_ble_eq_true rfl) d_Sh_init_1 ?_
  refine v_aload_n (pc := 4) C d_Sh_init_4 rfl 0 rfl ?_
  refine v_iconst (pc := 5) C d_Sh_init_5 ic_m1 ?_
  refine v_putI (pc := 6) C fp_Sh_9 rfl rfl d_Sh_init_6 (fun S1 => ?_)
  exact v_vret C d_Sh_init_9 rfl ⟨Nat.le_of_ble_eq_true rfl, Nat.le_of_ble_eq_true rfl⟩ rfl rfl
set_option maxRecDepth 20000 in
def ri_Rd_init_0 (S : Sto) : Option Sto :=
  ltS (sr S 30 (fun _ => 0)) (fun S1 =>
  ltS (sw S1 29 3 (-1)) (fun S2 =>
  ltS (sr S2 31 (fun _ => 0)) (fun S3 =>
  ltS (sr S3 32 (fun _ => 0)) (fun S4 =>
  some S4))))
set_option maxHeartbeats 4000000 in
set_option maxRecDepth 20000 in
theorem ci_Rd_init_0 {G : Gl} (S : Sto) : Ct Y_Rd_init G [rf G 29] LS58 S (fv LS64) (ri_Rd_init_0 S) := by
  refine ct_of (by decide +kernel) (Nat.le_of_ble_eq_true rfl) (fun g C => ?_)
  unfold ri_Rd_init_0
  refine v_aload_n (pc := 0) C d_Rd_init_0 rfl 0 rfl ?_
  refine v_oinit (pc := 1) C oi_Rd_3 oi_i oi_c (Nat.le_of_ble_eq_true rfl) (Nat.le_of_ble_eq_true rfl) d_Rd_init_1 ?_
  refine v_aload_n (pc := 4) C d_Rd_init_4 rfl 0 rfl ?_
  refine v_sipush (pc := 5) C d_Rd_init_5 sp_400 ?_
  refine v_newB (pc := 8) (a := 30) (m := 400) (L2 := LS59) (k2 := 1) (n2 := 400) C rfl rfl rfl rfl ⟨Nat.le_of_ble_eq_true rfl, Nat.le_of_ble_eq_true rfl⟩ (by decide) (by decide) (by decide) aw_B d_Rd_init_8 (fun S1 => ?_)
  refine v_putR (pc := 10) (L2 := LS60) C (Or.inr ⟨ff_Rd_9, rfl⟩) rfl rfl (fun _ => rfl) (fun _ => rfl) rfl (by decide) d_Rd_init_10 ?_
  refine v_aload_n (pc := 13) C d_Rd_init_13 rfl 0 rfl ?_
  refine v_iconst (pc := 14) C d_Rd_init_14 ic_m1 ?_
  refine v_putI (pc := 15) C fp_Rd_15 rfl rfl d_Rd_init_15 (fun S2 => ?_)
  refine v_aload_n (pc := 18) C d_Rd_init_18 rfl 0 rfl ?_
  refine v_bipush (pc := 19) C d_Rd_init_19 bp_40 ?_
  refine v_newI (pc := 21) (a := 31) (m := 40) (L2 := LS61) (k2 := 2) (n2 := 440) C rfl rfl rfl rfl ⟨Nat.le_of_ble_eq_true rfl, Nat.le_of_ble_eq_true rfl⟩ (by decide) (by decide) (by decide) aw_I d_Rd_init_21 (fun S3 => ?_)
  refine v_putR (pc := 23) (L2 := LS62) C (Or.inr ⟨ff_Rd_19, rfl⟩) rfl rfl (fun _ => rfl) (fun _ => rfl) rfl (by decide) d_Rd_init_23 ?_
  refine v_aload_n (pc := 26) C d_Rd_init_26 rfl 0 rfl ?_
  refine v_sipush (pc := 27) C d_Rd_init_27 sp_400 ?_
  refine v_newI (pc := 30) (a := 32) (m := 400) (L2 := LS63) (k2 := 3) (n2 := 840) C rfl rfl rfl rfl ⟨Nat.le_of_ble_eq_true rfl, Nat.le_of_ble_eq_true rfl⟩ (by decide) (by decide) (by decide) aw_I d_Rd_init_30 (fun S4 => ?_)
  refine v_putR (pc := 32) (L2 := LS64) C (Or.inr ⟨ff_Rd_23, rfl⟩) rfl rfl (fun _ => rfl) (fun _ => rfl) rfl (by decide) d_Rd_init_32 ?_
  exact v_vret C d_Rd_init_35 rfl ⟨Nat.le_of_ble_eq_true rfl, Nat.le_of_ble_eq_true rfl⟩ rfl rfl
set_option maxRecDepth 20000 in
def ri_Sc_init_0 (S : Sto) : Option Sto :=
  ltS (sr S 36 (upd (fun _ => 0) 400 0)) (fun S1 =>
  ltS (sw S1 35 0 36) (fun S2 =>
  ltS (sr S2 37 (fun _ => 0)) (fun S3 =>
  some S3)))
set_option maxHeartbeats 4000000 in
set_option maxRecDepth 20000 in
theorem ci_Sc_init_0 {G : Gl} (S : Sto) : Ct Y_Sc_init G [rf G 35] LS70 S (fv LS74) (ri_Sc_init_0 S) := by
  refine ct_of (by decide +kernel) (Nat.le_of_ble_eq_true rfl) (fun g C => ?_)
  unfold ri_Sc_init_0
  refine v_aload_n (pc := 0) C d_Sc_init_0 rfl 0 rfl ?_
  refine v_oinit (pc := 1) C oi_Sc_3 oi_i oi_c (Nat.le_of_ble_eq_true rfl) (Nat.le_of_ble_eq_true rfl) d_Sc_init_1 ?_
  refine v_aload_n (pc := 4) C d_Sc_init_4 rfl 0 rfl ?_
  refine v_iconst (pc := 5) C d_Sc_init_5 ic_0 ?_
  refine v_newD (pc := 6) (a := 36) (m := 0) (L2 := LS71) (k2 := 1) (n2 := 0) C rfl rfl rfl rfl ⟨Nat.le_of_ble_eq_true rfl, Nat.le_of_ble_eq_true rfl⟩ (by decide) (by decide) (by decide) aw_I d_Sc_init_6 (fun S1 => ?_)
  refine v_putD (pc := 8) (L2 := LS72) (x0 := 36) C (Or.inl fp_Sc_9) rfl rfl (fun _ => rfl) (fun _ => rfl) rfl rfl (by decide) d_Sc_init_8 (fun S2 => ?_)
  refine v_aload_n (pc := 11) C d_Sc_init_11 rfl 0 rfl ?_
  refine v_bipush (pc := 12) C d_Sc_init_12 bp_32 ?_
  refine v_newI (pc := 14) (a := 37) (m := 32) (L2 := LS73) (k2 := 2) (n2 := 32) C rfl rfl rfl rfl ⟨Nat.le_of_ble_eq_true rfl, Nat.le_of_ble_eq_true rfl⟩ (by decide) (by decide) (by decide) aw_I d_Sc_init_14 (fun S3 => ?_)
  refine v_putR (pc := 16) (L2 := LS74) C (Or.inr ⟨ff_Sc_13, rfl⟩) rfl rfl (fun _ => rfl) (fun _ => rfl) rfl (by decide) d_Sc_init_16 ?_
  exact v_vret C d_Sc_init_19 rfl ⟨Nat.le_of_ble_eq_true rfl, Nat.le_of_ble_eq_true rfl⟩ rfl rfl
set_option maxRecDepth 20000 in
def ri_Sc_init_1 (S : Sto) : Option Sto :=
  ltS (sr S 39 (upd (fun _ => 0) 400 0)) (fun S1 =>
  ltS (sw S1 38 0 39) (fun S2 =>
  ltS (sr S2 40 (fun _ => 0)) (fun S3 =>
  some S3)))
set_option maxHeartbeats 4000000 in
set_option maxRecDepth 20000 in
theorem ci_Sc_init_1 {G : Gl} (S : Sto) : Ct Y_Sc_init G [rf G 38] LS76 S (fv LS80) (ri_Sc_init_1 S) := by
  refine ct_of (by decide +kernel) (Nat.le_of_ble_eq_true rfl) (fun g C => ?_)
  unfold ri_Sc_init_1
  refine v_aload_n (pc := 0) C d_Sc_init_0 rfl 0 rfl ?_
  refine v_oinit (pc := 1) C oi_Sc_3 oi_i oi_c (Nat.le_of_ble_eq_true rfl) (Nat.le_of_ble_eq_true rfl) d_Sc_init_1 ?_
  refine v_aload_n (pc := 4) C d_Sc_init_4 rfl 0 rfl ?_
  refine v_iconst (pc := 5) C d_Sc_init_5 ic_0 ?_
  refine v_newD (pc := 6) (a := 39) (m := 0) (L2 := LS77) (k2 := 1) (n2 := 0) C rfl rfl rfl rfl ⟨Nat.le_of_ble_eq_true rfl, Nat.le_of_ble_eq_true rfl⟩ (by decide) (by decide) (by decide) aw_I d_Sc_init_6 (fun S1 => ?_)
  refine v_putD (pc := 8) (L2 := LS78) (x0 := 39) C (Or.inl fp_Sc_9) rfl rfl (fun _ => rfl) (fun _ => rfl) rfl rfl (by decide) d_Sc_init_8 (fun S2 => ?_)
  refine v_aload_n (pc := 11) C d_Sc_init_11 rfl 0 rfl ?_
  refine v_bipush (pc := 12) C d_Sc_init_12 bp_32 ?_
  refine v_newI (pc := 14) (a := 40) (m := 32) (L2 := LS79) (k2 := 2) (n2 := 32) C rfl rfl rfl rfl ⟨Nat.le_of_ble_eq_true rfl, Nat.le_of_ble_eq_true rfl⟩ (by decide) (by decide) (by decide) aw_I d_Sc_init_14 (fun S3 => ?_)
  refine v_putR (pc := 16) (L2 := LS80) C (Or.inr ⟨ff_Sc_13, rfl⟩) rfl rfl (fun _ => rfl) (fun _ => rfl) rfl (by decide) d_Sc_init_16 ?_
  exact v_vret C d_Sc_init_19 rfl ⟨Nat.le_of_ble_eq_true rfl, Nat.le_of_ble_eq_true rfl⟩ rfl rfl
set_option maxRecDepth 20000 in
def ri_Sc_init_2 (S : Sto) : Option Sto :=
  ltS (sr S 42 (upd (fun _ => 0) 400 0)) (fun S1 =>
  ltS (sw S1 41 0 42) (fun S2 =>
  ltS (sr S2 43 (fun _ => 0)) (fun S3 =>
  some S3)))
set_option maxHeartbeats 4000000 in
set_option maxRecDepth 20000 in
theorem ci_Sc_init_2 {G : Gl} (S : Sto) : Ct Y_Sc_init G [rf G 41] LS82 S (fv LS86) (ri_Sc_init_2 S) := by
  refine ct_of (by decide +kernel) (Nat.le_of_ble_eq_true rfl) (fun g C => ?_)
  unfold ri_Sc_init_2
  refine v_aload_n (pc := 0) C d_Sc_init_0 rfl 0 rfl ?_
  refine v_oinit (pc := 1) C oi_Sc_3 oi_i oi_c (Nat.le_of_ble_eq_true rfl) (Nat.le_of_ble_eq_true rfl) d_Sc_init_1 ?_
  refine v_aload_n (pc := 4) C d_Sc_init_4 rfl 0 rfl ?_
  refine v_iconst (pc := 5) C d_Sc_init_5 ic_0 ?_
  refine v_newD (pc := 6) (a := 42) (m := 0) (L2 := LS83) (k2 := 1) (n2 := 0) C rfl rfl rfl rfl ⟨Nat.le_of_ble_eq_true rfl, Nat.le_of_ble_eq_true rfl⟩ (by decide) (by decide) (by decide) aw_I d_Sc_init_6 (fun S1 => ?_)
  refine v_putD (pc := 8) (L2 := LS84) (x0 := 42) C (Or.inl fp_Sc_9) rfl rfl (fun _ => rfl) (fun _ => rfl) rfl rfl (by decide) d_Sc_init_8 (fun S2 => ?_)
  refine v_aload_n (pc := 11) C d_Sc_init_11 rfl 0 rfl ?_
  refine v_bipush (pc := 12) C d_Sc_init_12 bp_32 ?_
  refine v_newI (pc := 14) (a := 43) (m := 32) (L2 := LS85) (k2 := 2) (n2 := 32) C rfl rfl rfl rfl ⟨Nat.le_of_ble_eq_true rfl, Nat.le_of_ble_eq_true rfl⟩ (by decide) (by decide) (by decide) aw_I d_Sc_init_14 (fun S3 => ?_)
  refine v_putR (pc := 16) (L2 := LS86) C (Or.inr ⟨ff_Sc_13, rfl⟩) rfl rfl (fun _ => rfl) (fun _ => rfl) rfl (by decide) d_Sc_init_16 ?_
  exact v_vret C d_Sc_init_19 rfl ⟨Nat.le_of_ble_eq_true rfl, Nat.le_of_ble_eq_true rfl⟩ rfl rfl
set_option maxRecDepth 20000 in
def ri_Sc_init_3 (S : Sto) : Option Sto :=
  ltS (sr S 45 (upd (fun _ => 0) 400 0)) (fun S1 =>
  ltS (sw S1 44 0 45) (fun S2 =>
  ltS (sr S2 46 (fun _ => 0)) (fun S3 =>
  some S3)))
set_option maxHeartbeats 4000000 in
set_option maxRecDepth 20000 in
theorem ci_Sc_init_3 {G : Gl} (S : Sto) : Ct Y_Sc_init G [rf G 44] LS88 S (fv LS92) (ri_Sc_init_3 S) := by
  refine ct_of (by decide +kernel) (Nat.le_of_ble_eq_true rfl) (fun g C => ?_)
  unfold ri_Sc_init_3
  refine v_aload_n (pc := 0) C d_Sc_init_0 rfl 0 rfl ?_
  refine v_oinit (pc := 1) C oi_Sc_3 oi_i oi_c (Nat.le_of_ble_eq_true rfl) (Nat.le_of_ble_eq_true rfl) d_Sc_init_1 ?_
  refine v_aload_n (pc := 4) C d_Sc_init_4 rfl 0 rfl ?_
  refine v_iconst (pc := 5) C d_Sc_init_5 ic_0 ?_
  refine v_newD (pc := 6) (a := 45) (m := 0) (L2 := LS89) (k2 := 1) (n2 := 0) C rfl rfl rfl rfl ⟨Nat.le_of_ble_eq_true rfl, Nat.le_of_ble_eq_true rfl⟩ (by decide) (by decide) (by decide) aw_I d_Sc_init_6 (fun S1 => ?_)
  refine v_putD (pc := 8) (L2 := LS90) (x0 := 45) C (Or.inl fp_Sc_9) rfl rfl (fun _ => rfl) (fun _ => rfl) rfl rfl (by decide) d_Sc_init_8 (fun S2 => ?_)
  refine v_aload_n (pc := 11) C d_Sc_init_11 rfl 0 rfl ?_
  refine v_bipush (pc := 12) C d_Sc_init_12 bp_32 ?_
  refine v_newI (pc := 14) (a := 46) (m := 32) (L2 := LS91) (k2 := 2) (n2 := 32) C rfl rfl rfl rfl ⟨Nat.le_of_ble_eq_true rfl, Nat.le_of_ble_eq_true rfl⟩ (by decide) (by decide) (by decide) aw_I d_Sc_init_14 (fun S3 => ?_)
  refine v_putR (pc := 16) (L2 := LS92) C (Or.inr ⟨ff_Sc_13, rfl⟩) rfl rfl (fun _ => rfl) (fun _ => rfl) rfl (by decide) d_Sc_init_16 ?_
  exact v_vret C d_Sc_init_19 rfl ⟨Nat.le_of_ble_eq_true rfl, Nat.le_of_ble_eq_true rfl⟩ rfl rfl
set_option maxRecDepth 20000 in
def ri_Cw_init_0 (S : Sto) : Option Sto :=
  ltS (sr S 34 (fun _ => 0)) (fun S1 =>
  ltS (sr S1 35 (fun _ => 0)) (fun S2 =>
  (ri_Sc_init_0 S2).bind (fun S3 =>
  ltS (sr S3 38 (fun _ => 0)) (fun S4 =>
  (ri_Sc_init_1 S4).bind (fun S5 =>
  ltS (sr S5 41 (fun _ => 0)) (fun S6 =>
  (ri_Sc_init_2 S6).bind (fun S7 =>
  ltS (sr S7 44 (fun _ => 0)) (fun S8 =>
  (ri_Sc_init_3 S8).bind (fun S9 =>
  ltS (sr S9 47 (fun _ => 0)) (fun S10 =>
  ltS (sr S10 48 (fun _ => 0)) (fun S11 =>
  ltS (sr S11 49 (fun _ => 0)) (fun S12 =>
  ltS (sr S12 50 (fun _ => 0)) (fun S13 =>
  some S13)))))))))))))
set_option maxHeartbeats 4000000 in
set_option maxRecDepth 20000 in
theorem ci_Cw_init_0 {G : Gl} (S : Sto) : Ct Y_Cw_init G [rf G 33, rf G 13] LS66 S (fv LS101) (ri_Cw_init_0 S) := by
  refine ct_of (by decide +kernel) (Nat.le_of_ble_eq_true rfl) (fun g C => ?_)
  unfold ri_Cw_init_0
  refine v_aload_n (pc := 0) C d_Cw_init_0 rfl 0 rfl ?_
  refine v_oinit (pc := 1) C oi_Cw_3 oi_i oi_c (Nat.le_of_ble_eq_true rfl) (Nat.le_of_ble_eq_true rfl) d_Cw_init_1 ?_
  refine v_aload_n (pc := 4) C d_Cw_init_4 rfl 0 rfl ?_
  refine v_aload_n (pc := 5) C d_Cw_init_5 rfl 1 rfl ?_
  refine v_putR (pc := 6) (L2 := LS67) C (Or.inr ⟨ff_Cw_9, rfl⟩) rfl rfl (fun _ => rfl) (fun _ => rfl) rfl (by decide) d_Cw_init_6 ?_
  refine v_aload_n (pc := 9) C d_Cw_init_9 rfl 0 rfl ?_
  refine v_iconst (pc := 10) C d_Cw_init_10 ic_4 ?_
  refine v_anew (pc := 11) (a := 34) (m := 4) (t := 2) (CN := "BangSquare$Script") (L2 := LS68) (k2 := 1) (n2 := 4) C cl_Cw_15 (by decide) rfl rfl rfl rfl rfl rfl ⟨Nat.le_of_ble_eq_true rfl, Nat.le_of_ble_eq_true rfl⟩ (by decide) (by decide) (by decide) d_Cw_init_11 (fun S1 => ?_)
  refine v_putR (pc := 14) (L2 := LS69) C (Or.inr ⟨ff_Cw_17, rfl⟩) rfl rfl (fun _ => rfl) (fun _ => rfl) rfl (by decide) d_Cw_init_14 ?_
  refine v_iconst (pc := 17) C d_Cw_init_17 ic_0 ?_
  refine v_istore_n (pc := 18) (lv' := [(2, .int 0), (0, rf G 33), (1, rf G 13)]) C d_Cw_init_18 rfl (by decide) rfl ?_
  refine v_iload_n (pc := 19) C d_Cw_init_19 rfl 0 rfl ?_
  refine v_iconst (pc := 20) C d_Cw_init_20 ic_4 ?_
  refine v_icmp_ge_f (pc := 21) (tgt := 43) C d_Cw_init_21 rfl (by decide) ?_
  refine v_aload_n (pc := 24) C d_Cw_init_24 rfl 1 rfl ?_
  refine v_getR (pc := 25) (r := 34) C fl_Cw_17 rfl rfl d_Cw_init_25 ?_
  refine v_iload_n (pc := 28) C d_Cw_init_28 rfl 0 rfl ?_
  refine v_new (pc := 29) (a := 35) (L2 := LS70) (k2 := 2) (n2 := 7) C cn_Cw_15 rfl rfl rfl rfl ⟨Nat.le_of_ble_eq_true rfl, Nat.le_of_ble_eq_true rfl⟩ d_Cw_init_29 (fun S2 => ?_)
  refine v_dup (pc := 32) C d_Cw_init_32 rfl ?_
  refine v_cc (pc := 33) (L2 := LS74) (k2 := 4) (n2 := 39) (inv_I (As := []) (st := [rf G 35, .int 0, rf G 34]) C ml_Cw_21 mi_Sc_init ro_Cw_init_Sc_init rfl rfl (Nat.le_of_ble_eq_true rfl) d_Cw_init_33) (ci_Sc_init_0 S2) rfl rfl ⟨Nat.le_of_ble_eq_true rfl, Nat.le_of_ble_eq_true rfl⟩ (fun S3 => ?_)
  refine v_aast (pc := 36) (t := 2) (L2 := LS75) C rfl rfl rfl rfl (by decide) rfl rfl d_Cw_init_36 ?_
  refine v_iincT (pc := 37) (p := 0) (v := 1) (lv' := [(2, .int 1), (0, rf G 33), (1, rf G 13)]) C d_Cw_init_37 rfl (by decide) (by decide) rfl ?_
  refine v_goto (pc := 40) (tgt := 19) C d_Cw_init_40 rfl ?_
  refine v_iload_n (pc := 19) C d_Cw_init_19 rfl 0 rfl ?_
  refine v_iconst (pc := 20) C d_Cw_init_20 ic_4 ?_
  refine v_icmp_ge_f (pc := 21) (tgt := 43) C d_Cw_init_21 rfl (by decide) ?_
  refine v_aload_n (pc := 24) C d_Cw_init_24 rfl 1 rfl ?_
  refine v_getR (pc := 25) (r := 34) C fl_Cw_17 rfl rfl d_Cw_init_25 ?_
  refine v_iload_n (pc := 28) C d_Cw_init_28 rfl 0 rfl ?_
  refine v_new (pc := 29) (a := 38) (L2 := LS76) (k2 := 5) (n2 := 42) C cn_Cw_15 rfl rfl rfl rfl ⟨Nat.le_of_ble_eq_true rfl, Nat.le_of_ble_eq_true rfl⟩ d_Cw_init_29 (fun S4 => ?_)
  refine v_dup (pc := 32) C d_Cw_init_32 rfl ?_
  refine v_cc (pc := 33) (L2 := LS80) (k2 := 7) (n2 := 74) (inv_I (As := []) (st := [rf G 38, .int 1, rf G 34]) C ml_Cw_21 mi_Sc_init ro_Cw_init_Sc_init rfl rfl (Nat.le_of_ble_eq_true rfl) d_Cw_init_33) (ci_Sc_init_1 S4) rfl rfl ⟨Nat.le_of_ble_eq_true rfl, Nat.le_of_ble_eq_true rfl⟩ (fun S5 => ?_)
  refine v_aast (pc := 36) (t := 2) (L2 := LS81) C rfl rfl rfl rfl (by decide) rfl rfl d_Cw_init_36 ?_
  refine v_iincT (pc := 37) (p := 0) (v := 2) (lv' := [(2, .int 2), (0, rf G 33), (1, rf G 13)]) C d_Cw_init_37 rfl (by decide) (by decide) rfl ?_
  refine v_goto (pc := 40) (tgt := 19) C d_Cw_init_40 rfl ?_
  refine v_iload_n (pc := 19) C d_Cw_init_19 rfl 0 rfl ?_
  refine v_iconst (pc := 20) C d_Cw_init_20 ic_4 ?_
  refine v_icmp_ge_f (pc := 21) (tgt := 43) C d_Cw_init_21 rfl (by decide) ?_
  refine v_aload_n (pc := 24) C d_Cw_init_24 rfl 1 rfl ?_
  refine v_getR (pc := 25) (r := 34) C fl_Cw_17 rfl rfl d_Cw_init_25 ?_
  refine v_iload_n (pc := 28) C d_Cw_init_28 rfl 0 rfl ?_
  refine v_new (pc := 29) (a := 41) (L2 := LS82) (k2 := 8) (n2 := 77) C cn_Cw_15 rfl rfl rfl rfl ⟨Nat.le_of_ble_eq_true rfl, Nat.le_of_ble_eq_true rfl⟩ d_Cw_init_29 (fun S6 => ?_)
  refine v_dup (pc := 32) C d_Cw_init_32 rfl ?_
  refine v_cc (pc := 33) (L2 := LS86) (k2 := 10) (n2 := 109) (inv_I (As := []) (st := [rf G 41, .int 2, rf G 34]) C ml_Cw_21 mi_Sc_init ro_Cw_init_Sc_init rfl rfl (Nat.le_of_ble_eq_true rfl) d_Cw_init_33) (ci_Sc_init_2 S6) rfl rfl ⟨Nat.le_of_ble_eq_true rfl, Nat.le_of_ble_eq_true rfl⟩ (fun S7 => ?_)
  refine v_aast (pc := 36) (t := 2) (L2 := LS87) C rfl rfl rfl rfl (by decide) rfl rfl d_Cw_init_36 ?_
  refine v_iincT (pc := 37) (p := 0) (v := 3) (lv' := [(2, .int 3), (0, rf G 33), (1, rf G 13)]) C d_Cw_init_37 rfl (by decide) (by decide) rfl ?_
  refine v_goto (pc := 40) (tgt := 19) C d_Cw_init_40 rfl ?_
  refine v_iload_n (pc := 19) C d_Cw_init_19 rfl 0 rfl ?_
  refine v_iconst (pc := 20) C d_Cw_init_20 ic_4 ?_
  refine v_icmp_ge_f (pc := 21) (tgt := 43) C d_Cw_init_21 rfl (by decide) ?_
  refine v_aload_n (pc := 24) C d_Cw_init_24 rfl 1 rfl ?_
  refine v_getR (pc := 25) (r := 34) C fl_Cw_17 rfl rfl d_Cw_init_25 ?_
  refine v_iload_n (pc := 28) C d_Cw_init_28 rfl 0 rfl ?_
  refine v_new (pc := 29) (a := 44) (L2 := LS88) (k2 := 11) (n2 := 112) C cn_Cw_15 rfl rfl rfl rfl ⟨Nat.le_of_ble_eq_true rfl, Nat.le_of_ble_eq_true rfl⟩ d_Cw_init_29 (fun S8 => ?_)
  refine v_dup (pc := 32) C d_Cw_init_32 rfl ?_
  refine v_cc (pc := 33) (L2 := LS92) (k2 := 13) (n2 := 144) (inv_I (As := []) (st := [rf G 44, .int 3, rf G 34]) C ml_Cw_21 mi_Sc_init ro_Cw_init_Sc_init rfl rfl (Nat.le_of_ble_eq_true rfl) d_Cw_init_33) (ci_Sc_init_3 S8) rfl rfl ⟨Nat.le_of_ble_eq_true rfl, Nat.le_of_ble_eq_true rfl⟩ (fun S9 => ?_)
  refine v_aast (pc := 36) (t := 2) (L2 := LS93) C rfl rfl rfl rfl (by decide) rfl rfl d_Cw_init_36 ?_
  refine v_iincT (pc := 37) (p := 0) (v := 4) (lv' := [(2, .int 4), (0, rf G 33), (1, rf G 13)]) C d_Cw_init_37 rfl (by decide) (by decide) rfl ?_
  refine v_goto (pc := 40) (tgt := 19) C d_Cw_init_40 rfl ?_
  refine v_iload_n (pc := 19) C d_Cw_init_19 rfl 0 rfl ?_
  refine v_iconst (pc := 20) C d_Cw_init_20 ic_4 ?_
  refine v_icmp_ge_t (pc := 21) (tgt := 43) C d_Cw_init_21 rfl (by decide) ?_
  refine v_aload_n (pc := 43) C d_Cw_init_43 rfl 1 rfl ?_
  refine v_bipush (pc := 44) C d_Cw_init_44 bp_20 ?_
  refine v_newI (pc := 46) (a := 47) (m := 20) (L2 := LS94) (k2 := 14) (n2 := 164) C rfl rfl rfl rfl ⟨Nat.le_of_ble_eq_true rfl, Nat.le_of_ble_eq_true rfl⟩ (by decide) (by decide) (by decide) aw_I d_Cw_init_46 (fun S10 => ?_)
  refine v_putR (pc := 48) (L2 := LS95) C (Or.inr ⟨ff_Cw_22, rfl⟩) rfl rfl (fun _ => rfl) (fun _ => rfl) rfl (by decide) d_Cw_init_48 ?_
  refine v_aload_n (pc := 51) C d_Cw_init_51 rfl 1 rfl ?_
  refine v_bipush (pc := 52) C d_Cw_init_52 bp_20 ?_
  refine v_newI (pc := 54) (a := 48) (m := 20) (L2 := LS96) (k2 := 15) (n2 := 184) C rfl rfl rfl rfl ⟨Nat.le_of_ble_eq_true rfl, Nat.le_of_ble_eq_true rfl⟩ (by decide) (by decide) (by decide) aw_I d_Cw_init_54 (fun S11 => ?_)
  refine v_putR (pc := 56) (L2 := LS97) C (Or.inr ⟨ff_Cw_26, rfl⟩) rfl rfl (fun _ => rfl) (fun _ => rfl) rfl (by decide) d_Cw_init_56 ?_
  refine v_aload_n (pc := 59) C d_Cw_init_59 rfl 1 rfl ?_
  refine v_bipush (pc := 60) C d_Cw_init_60 bp_6 ?_
  refine v_newI (pc := 62) (a := 49) (m := 6) (L2 := LS98) (k2 := 16) (n2 := 190) C rfl rfl rfl rfl ⟨Nat.le_of_ble_eq_true rfl, Nat.le_of_ble_eq_true rfl⟩ (by decide) (by decide) (by decide) aw_I d_Cw_init_62 (fun S12 => ?_)
  refine v_putR (pc := 64) (L2 := LS99) C (Or.inr ⟨ff_Cw_29, rfl⟩) rfl rfl (fun _ => rfl) (fun _ => rfl) rfl (by decide) d_Cw_init_64 ?_
  refine v_aload_n (pc := 67) C d_Cw_init_67 rfl 1 rfl ?_
  refine v_iconst (pc := 68) C d_Cw_init_68 ic_4 ?_
  refine v_newI (pc := 69) (a := 50) (m := 4) (L2 := LS100) (k2 := 17) (n2 := 194) C rfl rfl rfl rfl ⟨Nat.le_of_ble_eq_true rfl, Nat.le_of_ble_eq_true rfl⟩ (by decide) (by decide) (by decide) aw_I d_Cw_init_69 (fun S13 => ?_)
  refine v_putR (pc := 71) (L2 := LS101) C (Or.inr ⟨ff_Cw_32, rfl⟩) rfl rfl (fun _ => rfl) (fun _ => rfl) rfl (by decide) d_Cw_init_71 ?_
  exact v_vret C d_Cw_init_74 rfl ⟨Nat.le_of_ble_eq_true rfl, Nat.le_of_ble_eq_true rfl⟩ rfl rfl
set_option maxRecDepth 20000 in
def ri_Sp_init_0 (S : Sto) : Option Sto :=
  ltS (sr S 54 (fun _ => 0)) (fun S1 =>
  ltS (sr S1 55 (fun _ => 0)) (fun S2 =>
  ltS (sr S2 56 (fun _ => 0)) (fun S3 =>
  some S3)))
set_option maxHeartbeats 4000000 in
set_option maxRecDepth 20000 in
theorem ci_Sp_init_0 {G : Gl} (S : Sto) : Ct Y_Sp_init G [rf G 53, .int 8] LS107 S (fv LS113) (ri_Sp_init_0 S) := by
  refine ct_of (by decide +kernel) (Nat.le_of_ble_eq_true rfl) (fun g C => ?_)
  unfold ri_Sp_init_0
  refine v_aload_n (pc := 0) C d_Sp_init_0 rfl 0 rfl ?_
  refine v_oinit (pc := 1) C oi_Sp_3 oi_i oi_c (Nat.le_of_ble_eq_true rfl) (Nat.le_of_ble_eq_true rfl) d_Sp_init_1 ?_
  refine v_iconst (pc := 4) C d_Sp_init_4 ic_0 ?_
  refine v_iload_n (pc := 5) C d_Sp_init_5 rfl 1 rfl ?_
  refine v_ct (pc := 6) (inv_S (As := [.int 0, .int 8]) (st := []) C ml_Sp_9 ms_Ma_max ro_Sp_init_Ma_max rfl rfl (Nat.le_of_ble_eq_true rfl) d_Sp_init_6) (c0_Ma_max S 0 8) ⟨rfl, rfl⟩ ⟨Nat.le_of_ble_eq_true rfl, Nat.le_of_ble_eq_true rfl⟩ ?_
  refine v_istore_n (pc := 9) (lv' := [(2, .int (r_Ma_max 0 8)), (0, rf G 53), (1, .int 8)]) C d_Sp_init_9 rfl (by decide) rfl ?_
  refine v_aload_n (pc := 10) C d_Sp_init_10 rfl 1 rfl ?_
  refine v_iload_n (pc := 11) C d_Sp_init_11 rfl 0 rfl ?_
  refine v_newI (pc := 12) (a := 54) (m := 8) (L2 := LS108) (k2 := 1) (n2 := 8) C rfl rfl rfl rfl ⟨Nat.le_of_ble_eq_true rfl, Nat.le_of_ble_eq_true rfl⟩ (by decide) (by decide) (by decide) aw_I d_Sp_init_12 (fun S1 => ?_)
  refine v_putR (pc := 14) (L2 := LS109) C (Or.inr ⟨ff_Sp_15, rfl⟩) rfl rfl (fun _ => rfl) (fun _ => rfl) rfl (by decide) d_Sp_init_14 ?_
  refine v_aload_n (pc := 17) C d_Sp_init_17 rfl 1 rfl ?_
  refine v_iload_n (pc := 18) C d_Sp_init_18 rfl 0 rfl ?_
  refine v_newI (pc := 19) (a := 55) (m := 8) (L2 := LS110) (k2 := 2) (n2 := 16) C rfl rfl rfl rfl ⟨Nat.le_of_ble_eq_true rfl, Nat.le_of_ble_eq_true rfl⟩ (by decide) (by decide) (by decide) aw_I d_Sp_init_19 (fun S2 => ?_)
  refine v_putR (pc := 21) (L2 := LS111) C (Or.inr ⟨ff_Sp_21, rfl⟩) rfl rfl (fun _ => rfl) (fun _ => rfl) rfl (by decide) d_Sp_init_21 ?_
  refine v_aload_n (pc := 24) C d_Sp_init_24 rfl 1 rfl ?_
  refine v_iload_n (pc := 25) C d_Sp_init_25 rfl 0 rfl ?_
  refine v_newI (pc := 26) (a := 56) (m := 8) (L2 := LS112) (k2 := 3) (n2 := 24) C rfl rfl rfl rfl ⟨Nat.le_of_ble_eq_true rfl, Nat.le_of_ble_eq_true rfl⟩ (by decide) (by decide) (by decide) aw_I d_Sp_init_26 (fun S3 => ?_)
  refine v_putR (pc := 28) (L2 := LS113) C (Or.inr ⟨ff_Sp_24, rfl⟩) rfl rfl (fun _ => rfl) (fun _ => rfl) rfl (by decide) d_Sp_init_28 ?_
  exact v_vret C d_Sp_init_31 rfl ⟨Nat.le_of_ble_eq_true rfl, Nat.le_of_ble_eq_true rfl⟩ rfl rfl
set_option maxRecDepth 20000 in
def ri_Sp_init_1 (S : Sto) : Option Sto :=
  ltS (sr S 61 (fun _ => 0)) (fun S1 =>
  ltS (sr S1 62 (fun _ => 0)) (fun S2 =>
  ltS (sr S2 63 (fun _ => 0)) (fun S3 =>
  some S3)))
set_option maxHeartbeats 4000000 in
set_option maxRecDepth 20000 in
theorem ci_Sp_init_1 {G : Gl} (S : Sto) : Ct Y_Sp_init G [rf G 60, .int 10] LS122 S (fv LS128) (ri_Sp_init_1 S) := by
  refine ct_of (by decide +kernel) (Nat.le_of_ble_eq_true rfl) (fun g C => ?_)
  unfold ri_Sp_init_1
  refine v_aload_n (pc := 0) C d_Sp_init_0 rfl 0 rfl ?_
  refine v_oinit (pc := 1) C oi_Sp_3 oi_i oi_c (Nat.le_of_ble_eq_true rfl) (Nat.le_of_ble_eq_true rfl) d_Sp_init_1 ?_
  refine v_iconst (pc := 4) C d_Sp_init_4 ic_0 ?_
  refine v_iload_n (pc := 5) C d_Sp_init_5 rfl 1 rfl ?_
  refine v_ct (pc := 6) (inv_S (As := [.int 0, .int 10]) (st := []) C ml_Sp_9 ms_Ma_max ro_Sp_init_Ma_max rfl rfl (Nat.le_of_ble_eq_true rfl) d_Sp_init_6) (c0_Ma_max S 0 10) ⟨rfl, rfl⟩ ⟨Nat.le_of_ble_eq_true rfl, Nat.le_of_ble_eq_true rfl⟩ ?_
  refine v_istore_n (pc := 9) (lv' := [(2, .int (r_Ma_max 0 10)), (0, rf G 60), (1, .int 10)]) C d_Sp_init_9 rfl (by decide) rfl ?_
  refine v_aload_n (pc := 10) C d_Sp_init_10 rfl 1 rfl ?_
  refine v_iload_n (pc := 11) C d_Sp_init_11 rfl 0 rfl ?_
  refine v_newI (pc := 12) (a := 61) (m := 10) (L2 := LS123) (k2 := 1) (n2 := 10) C rfl rfl rfl rfl ⟨Nat.le_of_ble_eq_true rfl, Nat.le_of_ble_eq_true rfl⟩ (by decide) (by decide) (by decide) aw_I d_Sp_init_12 (fun S1 => ?_)
  refine v_putR (pc := 14) (L2 := LS124) C (Or.inr ⟨ff_Sp_15, rfl⟩) rfl rfl (fun _ => rfl) (fun _ => rfl) rfl (by decide) d_Sp_init_14 ?_
  refine v_aload_n (pc := 17) C d_Sp_init_17 rfl 1 rfl ?_
  refine v_iload_n (pc := 18) C d_Sp_init_18 rfl 0 rfl ?_
  refine v_newI (pc := 19) (a := 62) (m := 10) (L2 := LS125) (k2 := 2) (n2 := 20) C rfl rfl rfl rfl ⟨Nat.le_of_ble_eq_true rfl, Nat.le_of_ble_eq_true rfl⟩ (by decide) (by decide) (by decide) aw_I d_Sp_init_19 (fun S2 => ?_)
  refine v_putR (pc := 21) (L2 := LS126) C (Or.inr ⟨ff_Sp_21, rfl⟩) rfl rfl (fun _ => rfl) (fun _ => rfl) rfl (by decide) d_Sp_init_21 ?_
  refine v_aload_n (pc := 24) C d_Sp_init_24 rfl 1 rfl ?_
  refine v_iload_n (pc := 25) C d_Sp_init_25 rfl 0 rfl ?_
  refine v_newI (pc := 26) (a := 63) (m := 10) (L2 := LS127) (k2 := 3) (n2 := 30) C rfl rfl rfl rfl ⟨Nat.le_of_ble_eq_true rfl, Nat.le_of_ble_eq_true rfl⟩ (by decide) (by decide) (by decide) aw_I d_Sp_init_26 (fun S3 => ?_)
  refine v_putR (pc := 28) (L2 := LS128) C (Or.inr ⟨ff_Sp_24, rfl⟩) rfl rfl (fun _ => rfl) (fun _ => rfl) rfl (by decide) d_Sp_init_28 ?_
  exact v_vret C d_Sp_init_31 rfl ⟨Nat.le_of_ble_eq_true rfl, Nat.le_of_ble_eq_true rfl⟩ rfl rfl
set_option maxRecDepth 20000 in
def ri_Sh_init_10 (S : Sto) : Option Sto :=
  ltS (sw S 64 2 (-1)) (fun S1 =>
  some S1)
set_option maxHeartbeats 4000000 in
set_option maxRecDepth 20000 in
theorem ci_Sh_init_10 {G : Gl} (S : Sto) : Ct Y_Sh_init G [rf G 64] LS130 S (fv LS130) (ri_Sh_init_10 S) := by
  refine ct_of (by decide +kernel) (Nat.le_of_ble_eq_true rfl) (fun g C => ?_)
  unfold ri_Sh_init_10
  refine v_aload_n (pc := 0) C d_Sh_init_0 rfl 0 rfl ?_
  refine v_oinit (pc := 1) C oi_Sh_3 oi_i oi_c (Nat.le_of_ble_eq_true rfl) (Nat.le_of_ble_eq_true rfl) d_Sh_init_1 ?_
  refine v_aload_n (pc := 4) C d_Sh_init_4 rfl 0 rfl ?_
  refine v_iconst (pc := 5) C d_Sh_init_5 ic_m1 ?_
  refine v_putI (pc := 6) C fp_Sh_9 rfl rfl d_Sh_init_6 (fun S1 => ?_)
  exact v_vret C d_Sh_init_9 rfl ⟨Nat.le_of_ble_eq_true rfl, Nat.le_of_ble_eq_true rfl⟩ rfl rfl
set_option maxRecDepth 20000 in
def ri_Tp_init_0 (S : Sto) : Option Sto :=
  ltS (sr S 59 (fun _ => 0)) (fun S1 =>
  ltS (sr S1 60 (fun _ => 0)) (fun S2 =>
  (ri_Sp_init_1 S2).bind (fun S3 =>
  ltS (sr S3 64 (fun _ => 0)) (fun S4 =>
  (ri_Sh_init_10 S4).bind (fun S5 =>
  ltS (sr S5 65 (fun _ => 0)) (fun S6 =>
  some S6))))))
set_option maxHeartbeats 4000000 in
set_option maxRecDepth 20000 in
theorem ci_Tp_init_0 {G : Gl} (S : Sto) : Ct Y_Tp_init G [rf G 58, rf G 13, rf G 17] LS117 S (fv LS133) (ri_Tp_init_0 S) := by
  refine ct_of (by decide +kernel) (Nat.le_of_ble_eq_true rfl) (fun g C => ?_)
  unfold ri_Tp_init_0
  refine v_aload_n (pc := 0) C d_Tp_init_0 rfl 0 rfl ?_
  refine v_oinit (pc := 1) C oi_Tp_3 oi_i oi_c (Nat.le_of_ble_eq_true rfl) (Nat.le_of_ble_eq_true rfl) d_Tp_init_1 ?_
  refine v_aload_n (pc := 4) C d_Tp_init_4 rfl 0 rfl ?_
  refine v_aload_n (pc := 5) C d_Tp_init_5 rfl 1 rfl ?_
  refine v_putR (pc := 6) (L2 := LS118) C (Or.inr ⟨ff_Tp_9, rfl⟩) rfl rfl (fun _ => rfl) (fun _ => rfl) rfl (by decide) d_Tp_init_6 ?_
  refine v_aload_n (pc := 9) C d_Tp_init_9 rfl 0 rfl ?_
  refine v_aload_n (pc := 10) C d_Tp_init_10 rfl 2 rfl ?_
  refine v_putR (pc := 11) (L2 := LS119) C (Or.inr ⟨ff_Tp_15, rfl⟩) rfl rfl (fun _ => rfl) (fun _ => rfl) rfl (by decide) d_Tp_init_11 ?_
  refine v_aload_n (pc := 14) C d_Tp_init_14 rfl 0 rfl ?_
  refine v_bipush (pc := 15) C d_Tp_init_15 bp_20 ?_
  refine v_newI (pc := 17) (a := 59) (m := 20) (L2 := LS120) (k2 := 1) (n2 := 20) C rfl rfl rfl rfl ⟨Nat.le_of_ble_eq_true rfl, Nat.le_of_ble_eq_true rfl⟩ (by decide) (by decide) (by decide) aw_I d_Tp_init_17 (fun S1 => ?_)
  refine v_putR (pc := 19) (L2 := LS121) C (Or.inr ⟨ff_Tp_19, rfl⟩) rfl rfl (fun _ => rfl) (fun _ => rfl) rfl (by decide) d_Tp_init_19 ?_
  refine v_aload_n (pc := 22) C d_Tp_init_22 rfl 0 rfl ?_
  refine v_new (pc := 23) (a := 60) (L2 := LS122) (k2 := 2) (n2 := 24) C cn_Tp_22 rfl rfl rfl rfl ⟨Nat.le_of_ble_eq_true rfl, Nat.le_of_ble_eq_true rfl⟩ d_Tp_init_23 (fun S2 => ?_)
  refine v_dup (pc := 26) C d_Tp_init_26 rfl ?_
  refine v_bipush (pc := 27) C d_Tp_init_27 bp_10 ?_
  refine v_cc (pc := 29) (L2 := LS128) (k2 := 5) (n2 := 54) (inv_I (As := [.int 10]) (st := [rf G 60, rf G 58]) C ml_Tp_24 mi_Sp_init ro_Tp_init_Sp_init rfl rfl (Nat.le_of_ble_eq_true rfl) d_Tp_init_29) (ci_Sp_init_1 S2) rfl rfl ⟨Nat.le_of_ble_eq_true rfl, Nat.le_of_ble_eq_true rfl⟩ (fun S3 => ?_)
  refine v_putR (pc := 32) (L2 := LS129) C (Or.inr ⟨ff_Tp_27, rfl⟩) rfl rfl (fun _ => rfl) (fun _ => rfl) rfl (by decide) d_Tp_init_32 ?_
  refine v_aload_n (pc := 35) C d_Tp_init_35 rfl 0 rfl ?_
  refine v_new (pc := 36) (a := 64) (L2 := LS130) (k2 := 6) (n2 := 58) C cn_Tp_31 rfl rfl rfl rfl ⟨Nat.le_of_ble_eq_true rfl, Nat.le_of_ble_eq_true rfl⟩ d_Tp_init_36 (fun S4 => ?_)
  refine v_dup (pc := 39) C d_Tp_init_39 rfl ?_
  refine v_cc (pc := 40) (L2 := LS130) (k2 := 6) (n2 := 58) (inv_IN (As := []) (st := [rf G 64, rf G 58]) C mn_Tp_33 mi_Sh_init ro_Tp_init_Sh_init rfl rfl (Nat.le_of_ble_eq_true rfl) d_Tp_init_40) (ci_Sh_init_10 S4) rfl rfl ⟨Nat.le_of_ble_eq_true rfl, Nat.le_of_ble_eq_true rfl⟩ (fun S5 => ?_)
  refine v_putR (pc := 43) (L2 := LS131) C (Or.inr ⟨ff_Tp_34, rfl⟩) rfl rfl (fun _ => rfl) (fun _ => rfl) rfl (by decide) d_Tp_init_43 ?_
  refine v_aload_n (pc := 46) C d_Tp_init_46 rfl 0 rfl ?_
  refine v_bipush (pc := 47) C d_Tp_init_47 bp_10 ?_
  refine v_newI (pc := 49) (a := 65) (m := 10) (L2 := LS132) (k2 := 7) (n2 := 68) C rfl rfl rfl rfl ⟨Nat.le_of_ble_eq_true rfl, Nat.le_of_ble_eq_true rfl⟩ (by decide) (by decide) (by decide) aw_I d_Tp_init_49 (fun S6 => ?_)
  refine v_putR (pc := 51) (L2 := LS133) C (Or.inr ⟨ff_Tp_38, rfl⟩) rfl rfl (fun _ => rfl) (fun _ => rfl) rfl (by decide) d_Tp_init_51 ?_
  exact v_vret C d_Tp_init_54 rfl ⟨Nat.le_of_ble_eq_true rfl, Nat.le_of_ble_eq_true rfl⟩ rfl rfl
set_option maxRecDepth 20000 in
def ri_Sp_init_2 (S : Sto) : Option Sto :=
  ltS (sr S 69 (fun _ => 0)) (fun S1 =>
  ltS (sr S1 70 (fun _ => 0)) (fun S2 =>
  ltS (sr S2 71 (fun _ => 0)) (fun S3 =>
  some S3)))
set_option maxHeartbeats 4000000 in
set_option maxRecDepth 20000 in
theorem ci_Sp_init_2 {G : Gl} (S : Sto) : Ct Y_Sp_init G [rf G 68, .int 10] LS140 S (fv LS146) (ri_Sp_init_2 S) := by
  refine ct_of (by decide +kernel) (Nat.le_of_ble_eq_true rfl) (fun g C => ?_)
  unfold ri_Sp_init_2
  refine v_aload_n (pc := 0) C d_Sp_init_0 rfl 0 rfl ?_
  refine v_oinit (pc := 1) C oi_Sp_3 oi_i oi_c (Nat.le_of_ble_eq_true rfl) (Nat.le_of_ble_eq_true rfl) d_Sp_init_1 ?_
  refine v_iconst (pc := 4) C d_Sp_init_4 ic_0 ?_
  refine v_iload_n (pc := 5) C d_Sp_init_5 rfl 1 rfl ?_
  refine v_ct (pc := 6) (inv_S (As := [.int 0, .int 10]) (st := []) C ml_Sp_9 ms_Ma_max ro_Sp_init_Ma_max rfl rfl (Nat.le_of_ble_eq_true rfl) d_Sp_init_6) (c0_Ma_max S 0 10) ⟨rfl, rfl⟩ ⟨Nat.le_of_ble_eq_true rfl, Nat.le_of_ble_eq_true rfl⟩ ?_
  refine v_istore_n (pc := 9) (lv' := [(2, .int (r_Ma_max 0 10)), (0, rf G 68), (1, .int 10)]) C d_Sp_init_9 rfl (by decide) rfl ?_
  refine v_aload_n (pc := 10) C d_Sp_init_10 rfl 1 rfl ?_
  refine v_iload_n (pc := 11) C d_Sp_init_11 rfl 0 rfl ?_
  refine v_newI (pc := 12) (a := 69) (m := 10) (L2 := LS141) (k2 := 1) (n2 := 10) C rfl rfl rfl rfl ⟨Nat.le_of_ble_eq_true rfl, Nat.le_of_ble_eq_true rfl⟩ (by decide) (by decide) (by decide) aw_I d_Sp_init_12 (fun S1 => ?_)
  refine v_putR (pc := 14) (L2 := LS142) C (Or.inr ⟨ff_Sp_15, rfl⟩) rfl rfl (fun _ => rfl) (fun _ => rfl) rfl (by decide) d_Sp_init_14 ?_
  refine v_aload_n (pc := 17) C d_Sp_init_17 rfl 1 rfl ?_
  refine v_iload_n (pc := 18) C d_Sp_init_18 rfl 0 rfl ?_
  refine v_newI (pc := 19) (a := 70) (m := 10) (L2 := LS143) (k2 := 2) (n2 := 20) C rfl rfl rfl rfl ⟨Nat.le_of_ble_eq_true rfl, Nat.le_of_ble_eq_true rfl⟩ (by decide) (by decide) (by decide) aw_I d_Sp_init_19 (fun S2 => ?_)
  refine v_putR (pc := 21) (L2 := LS144) C (Or.inr ⟨ff_Sp_21, rfl⟩) rfl rfl (fun _ => rfl) (fun _ => rfl) rfl (by decide) d_Sp_init_21 ?_
  refine v_aload_n (pc := 24) C d_Sp_init_24 rfl 1 rfl ?_
  refine v_iload_n (pc := 25) C d_Sp_init_25 rfl 0 rfl ?_
  refine v_newI (pc := 26) (a := 71) (m := 10) (L2 := LS145) (k2 := 3) (n2 := 30) C rfl rfl rfl rfl ⟨Nat.le_of_ble_eq_true rfl, Nat.le_of_ble_eq_true rfl⟩ (by decide) (by decide) (by decide) aw_I d_Sp_init_26 (fun S3 => ?_)
  refine v_putR (pc := 28) (L2 := LS146) C (Or.inr ⟨ff_Sp_24, rfl⟩) rfl rfl (fun _ => rfl) (fun _ => rfl) rfl (by decide) d_Sp_init_28 ?_
  exact v_vret C d_Sp_init_31 rfl ⟨Nat.le_of_ble_eq_true rfl, Nat.le_of_ble_eq_true rfl⟩ rfl rfl
set_option maxRecDepth 20000 in
def ri_Sh_init_11 (S : Sto) : Option Sto :=
  ltS (sw S 72 2 (-1)) (fun S1 =>
  some S1)
set_option maxHeartbeats 4000000 in
set_option maxRecDepth 20000 in
theorem ci_Sh_init_11 {G : Gl} (S : Sto) : Ct Y_Sh_init G [rf G 72] LS148 S (fv LS148) (ri_Sh_init_11 S) := by
  refine ct_of (by decide +kernel) (Nat.le_of_ble_eq_true rfl) (fun g C => ?_)
  unfold ri_Sh_init_11
  refine v_aload_n (pc := 0) C d_Sh_init_0 rfl 0 rfl ?_
  refine v_oinit (pc := 1) C oi_Sh_3 oi_i oi_c (Nat.le_of_ble_eq_true rfl) (Nat.le_of_ble_eq_true rfl) d_Sh_init_1 ?_
  refine v_aload_n (pc := 4) C d_Sh_init_4 rfl 0 rfl ?_
  refine v_iconst (pc := 5) C d_Sh_init_5 ic_m1 ?_
  refine v_putI (pc := 6) C fp_Sh_9 rfl rfl d_Sh_init_6 (fun S1 => ?_)
  exact v_vret C d_Sh_init_9 rfl ⟨Nat.le_of_ble_eq_true rfl, Nat.le_of_ble_eq_true rfl⟩ rfl rfl
set_option maxRecDepth 20000 in
def ri_Tp_init_1 (S : Sto) : Option Sto :=
  ltS (sr S 67 (fun _ => 0)) (fun S1 =>
  ltS (sr S1 68 (fun _ => 0)) (fun S2 =>
  (ri_Sp_init_2 S2).bind (fun S3 =>
  ltS (sr S3 72 (fun _ => 0)) (fun S4 =>
  (ri_Sh_init_11 S4).bind (fun S5 =>
  ltS (sr S5 73 (fun _ => 0)) (fun S6 =>
  some S6))))))
set_option maxHeartbeats 4000000 in
set_option maxRecDepth 20000 in
theorem ci_Tp_init_1 {G : Gl} (S : Sto) : Ct Y_Tp_init G [rf G 66, rf G 13, rf G 17] LS135 S (fv LS151) (ri_Tp_init_1 S) := by
  refine ct_of (by decide +kernel) (Nat.le_of_ble_eq_true rfl) (fun g C => ?_)
  unfold ri_Tp_init_1
  refine v_aload_n (pc := 0) C d_Tp_init_0 rfl 0 rfl ?_
  refine v_oinit (pc := 1) C oi_Tp_3 oi_i oi_c (Nat.le_of_ble_eq_true rfl) (Nat.le_of_ble_eq_true rfl) d_Tp_init_1 ?_
  refine v_aload_n (pc := 4) C d_Tp_init_4 rfl 0 rfl ?_
  refine v_aload_n (pc := 5) C d_Tp_init_5 rfl 1 rfl ?_
  refine v_putR (pc := 6) (L2 := LS136) C (Or.inr ⟨ff_Tp_9, rfl⟩) rfl rfl (fun _ => rfl) (fun _ => rfl) rfl (by decide) d_Tp_init_6 ?_
  refine v_aload_n (pc := 9) C d_Tp_init_9 rfl 0 rfl ?_
  refine v_aload_n (pc := 10) C d_Tp_init_10 rfl 2 rfl ?_
  refine v_putR (pc := 11) (L2 := LS137) C (Or.inr ⟨ff_Tp_15, rfl⟩) rfl rfl (fun _ => rfl) (fun _ => rfl) rfl (by decide) d_Tp_init_11 ?_
  refine v_aload_n (pc := 14) C d_Tp_init_14 rfl 0 rfl ?_
  refine v_bipush (pc := 15) C d_Tp_init_15 bp_20 ?_
  refine v_newI (pc := 17) (a := 67) (m := 20) (L2 := LS138) (k2 := 1) (n2 := 20) C rfl rfl rfl rfl ⟨Nat.le_of_ble_eq_true rfl, Nat.le_of_ble_eq_true rfl⟩ (by decide) (by decide) (by decide) aw_I d_Tp_init_17 (fun S1 => ?_)
  refine v_putR (pc := 19) (L2 := LS139) C (Or.inr ⟨ff_Tp_19, rfl⟩) rfl rfl (fun _ => rfl) (fun _ => rfl) rfl (by decide) d_Tp_init_19 ?_
  refine v_aload_n (pc := 22) C d_Tp_init_22 rfl 0 rfl ?_
  refine v_new (pc := 23) (a := 68) (L2 := LS140) (k2 := 2) (n2 := 24) C cn_Tp_22 rfl rfl rfl rfl ⟨Nat.le_of_ble_eq_true rfl, Nat.le_of_ble_eq_true rfl⟩ d_Tp_init_23 (fun S2 => ?_)
  refine v_dup (pc := 26) C d_Tp_init_26 rfl ?_
  refine v_bipush (pc := 27) C d_Tp_init_27 bp_10 ?_
  refine v_cc (pc := 29) (L2 := LS146) (k2 := 5) (n2 := 54) (inv_I (As := [.int 10]) (st := [rf G 68, rf G 66]) C ml_Tp_24 mi_Sp_init ro_Tp_init_Sp_init rfl rfl (Nat.le_of_ble_eq_true rfl) d_Tp_init_29) (ci_Sp_init_2 S2) rfl rfl ⟨Nat.le_of_ble_eq_true rfl, Nat.le_of_ble_eq_true rfl⟩ (fun S3 => ?_)
  refine v_putR (pc := 32) (L2 := LS147) C (Or.inr ⟨ff_Tp_27, rfl⟩) rfl rfl (fun _ => rfl) (fun _ => rfl) rfl (by decide) d_Tp_init_32 ?_
  refine v_aload_n (pc := 35) C d_Tp_init_35 rfl 0 rfl ?_
  refine v_new (pc := 36) (a := 72) (L2 := LS148) (k2 := 6) (n2 := 58) C cn_Tp_31 rfl rfl rfl rfl ⟨Nat.le_of_ble_eq_true rfl, Nat.le_of_ble_eq_true rfl⟩ d_Tp_init_36 (fun S4 => ?_)
  refine v_dup (pc := 39) C d_Tp_init_39 rfl ?_
  refine v_cc (pc := 40) (L2 := LS148) (k2 := 6) (n2 := 58) (inv_IN (As := []) (st := [rf G 72, rf G 66]) C mn_Tp_33 mi_Sh_init ro_Tp_init_Sh_init rfl rfl (Nat.le_of_ble_eq_true rfl) d_Tp_init_40) (ci_Sh_init_11 S4) rfl rfl ⟨Nat.le_of_ble_eq_true rfl, Nat.le_of_ble_eq_true rfl⟩ (fun S5 => ?_)
  refine v_putR (pc := 43) (L2 := LS149) C (Or.inr ⟨ff_Tp_34, rfl⟩) rfl rfl (fun _ => rfl) (fun _ => rfl) rfl (by decide) d_Tp_init_43 ?_
  refine v_aload_n (pc := 46) C d_Tp_init_46 rfl 0 rfl ?_
  refine v_bipush (pc := 47) C d_Tp_init_47 bp_10 ?_
  refine v_newI (pc := 49) (a := 73) (m := 10) (L2 := LS150) (k2 := 7) (n2 := 68) C rfl rfl rfl rfl ⟨Nat.le_of_ble_eq_true rfl, Nat.le_of_ble_eq_true rfl⟩ (by decide) (by decide) (by decide) aw_I d_Tp_init_49 (fun S6 => ?_)
  refine v_putR (pc := 51) (L2 := LS151) C (Or.inr ⟨ff_Tp_38, rfl⟩) rfl rfl (fun _ => rfl) (fun _ => rfl) rfl (by decide) d_Tp_init_51 ?_
  exact v_vret C d_Tp_init_54 rfl ⟨Nat.le_of_ble_eq_true rfl, Nat.le_of_ble_eq_true rfl⟩ rfl rfl
set_option maxRecDepth 20000 in
def ri_Sp_init_3 (S : Sto) : Option Sto :=
  ltS (sr S 77 (fun _ => 0)) (fun S1 =>
  ltS (sr S1 78 (fun _ => 0)) (fun S2 =>
  ltS (sr S2 79 (fun _ => 0)) (fun S3 =>
  some S3)))
set_option maxHeartbeats 4000000 in
set_option maxRecDepth 20000 in
theorem ci_Sp_init_3 {G : Gl} (S : Sto) : Ct Y_Sp_init G [rf G 76, .int 10] LS158 S (fv LS164) (ri_Sp_init_3 S) := by
  refine ct_of (by decide +kernel) (Nat.le_of_ble_eq_true rfl) (fun g C => ?_)
  unfold ri_Sp_init_3
  refine v_aload_n (pc := 0) C d_Sp_init_0 rfl 0 rfl ?_
  refine v_oinit (pc := 1) C oi_Sp_3 oi_i oi_c (Nat.le_of_ble_eq_true rfl) (Nat.le_of_ble_eq_true rfl) d_Sp_init_1 ?_
  refine v_iconst (pc := 4) C d_Sp_init_4 ic_0 ?_
  refine v_iload_n (pc := 5) C d_Sp_init_5 rfl 1 rfl ?_
  refine v_ct (pc := 6) (inv_S (As := [.int 0, .int 10]) (st := []) C ml_Sp_9 ms_Ma_max ro_Sp_init_Ma_max rfl rfl (Nat.le_of_ble_eq_true rfl) d_Sp_init_6) (c0_Ma_max S 0 10) ⟨rfl, rfl⟩ ⟨Nat.le_of_ble_eq_true rfl, Nat.le_of_ble_eq_true rfl⟩ ?_
  refine v_istore_n (pc := 9) (lv' := [(2, .int (r_Ma_max 0 10)), (0, rf G 76), (1, .int 10)]) C d_Sp_init_9 rfl (by decide) rfl ?_
  refine v_aload_n (pc := 10) C d_Sp_init_10 rfl 1 rfl ?_
  refine v_iload_n (pc := 11) C d_Sp_init_11 rfl 0 rfl ?_
  refine v_newI (pc := 12) (a := 77) (m := 10) (L2 := LS159) (k2 := 1) (n2 := 10) C rfl rfl rfl rfl ⟨Nat.le_of_ble_eq_true rfl, Nat.le_of_ble_eq_true rfl⟩ (by decide) (by decide) (by decide) aw_I d_Sp_init_12 (fun S1 => ?_)
  refine v_putR (pc := 14) (L2 := LS160) C (Or.inr ⟨ff_Sp_15, rfl⟩) rfl rfl (fun _ => rfl) (fun _ => rfl) rfl (by decide) d_Sp_init_14 ?_
  refine v_aload_n (pc := 17) C d_Sp_init_17 rfl 1 rfl ?_
  refine v_iload_n (pc := 18) C d_Sp_init_18 rfl 0 rfl ?_
  refine v_newI (pc := 19) (a := 78) (m := 10) (L2 := LS161) (k2 := 2) (n2 := 20) C rfl rfl rfl rfl ⟨Nat.le_of_ble_eq_true rfl, Nat.le_of_ble_eq_true rfl⟩ (by decide) (by decide) (by decide) aw_I d_Sp_init_19 (fun S2 => ?_)
  refine v_putR (pc := 21) (L2 := LS162) C (Or.inr ⟨ff_Sp_21, rfl⟩) rfl rfl (fun _ => rfl) (fun _ => rfl) rfl (by decide) d_Sp_init_21 ?_
  refine v_aload_n (pc := 24) C d_Sp_init_24 rfl 1 rfl ?_
  refine v_iload_n (pc := 25) C d_Sp_init_25 rfl 0 rfl ?_
  refine v_newI (pc := 26) (a := 79) (m := 10) (L2 := LS163) (k2 := 3) (n2 := 30) C rfl rfl rfl rfl ⟨Nat.le_of_ble_eq_true rfl, Nat.le_of_ble_eq_true rfl⟩ (by decide) (by decide) (by decide) aw_I d_Sp_init_26 (fun S3 => ?_)
  refine v_putR (pc := 28) (L2 := LS164) C (Or.inr ⟨ff_Sp_24, rfl⟩) rfl rfl (fun _ => rfl) (fun _ => rfl) rfl (by decide) d_Sp_init_28 ?_
  exact v_vret C d_Sp_init_31 rfl ⟨Nat.le_of_ble_eq_true rfl, Nat.le_of_ble_eq_true rfl⟩ rfl rfl
set_option maxRecDepth 20000 in
def ri_Sh_init_12 (S : Sto) : Option Sto :=
  ltS (sw S 80 2 (-1)) (fun S1 =>
  some S1)
set_option maxHeartbeats 4000000 in
set_option maxRecDepth 20000 in
theorem ci_Sh_init_12 {G : Gl} (S : Sto) : Ct Y_Sh_init G [rf G 80] LS166 S (fv LS166) (ri_Sh_init_12 S) := by
  refine ct_of (by decide +kernel) (Nat.le_of_ble_eq_true rfl) (fun g C => ?_)
  unfold ri_Sh_init_12
  refine v_aload_n (pc := 0) C d_Sh_init_0 rfl 0 rfl ?_
  refine v_oinit (pc := 1) C oi_Sh_3 oi_i oi_c (Nat.le_of_ble_eq_true rfl) (Nat.le_of_ble_eq_true rfl) d_Sh_init_1 ?_
  refine v_aload_n (pc := 4) C d_Sh_init_4 rfl 0 rfl ?_
  refine v_iconst (pc := 5) C d_Sh_init_5 ic_m1 ?_
  refine v_putI (pc := 6) C fp_Sh_9 rfl rfl d_Sh_init_6 (fun S1 => ?_)
  exact v_vret C d_Sh_init_9 rfl ⟨Nat.le_of_ble_eq_true rfl, Nat.le_of_ble_eq_true rfl⟩ rfl rfl
set_option maxRecDepth 20000 in
def ri_Tp_init_2 (S : Sto) : Option Sto :=
  ltS (sr S 75 (fun _ => 0)) (fun S1 =>
  ltS (sr S1 76 (fun _ => 0)) (fun S2 =>
  (ri_Sp_init_3 S2).bind (fun S3 =>
  ltS (sr S3 80 (fun _ => 0)) (fun S4 =>
  (ri_Sh_init_12 S4).bind (fun S5 =>
  ltS (sr S5 81 (fun _ => 0)) (fun S6 =>
  some S6))))))
set_option maxHeartbeats 4000000 in
set_option maxRecDepth 20000 in
theorem ci_Tp_init_2 {G : Gl} (S : Sto) : Ct Y_Tp_init G [rf G 74, rf G 13, rf G 17] LS153 S (fv LS169) (ri_Tp_init_2 S) := by
  refine ct_of (by decide +kernel) (Nat.le_of_ble_eq_true rfl) (fun g C => ?_)
  unfold ri_Tp_init_2
  refine v_aload_n (pc := 0) C d_Tp_init_0 rfl 0 rfl ?_
  refine v_oinit (pc := 1) C oi_Tp_3 oi_i oi_c (Nat.le_of_ble_eq_true rfl) (Nat.le_of_ble_eq_true rfl) d_Tp_init_1 ?_
  refine v_aload_n (pc := 4) C d_Tp_init_4 rfl 0 rfl ?_
  refine v_aload_n (pc := 5) C d_Tp_init_5 rfl 1 rfl ?_
  refine v_putR (pc := 6) (L2 := LS154) C (Or.inr ⟨ff_Tp_9, rfl⟩) rfl rfl (fun _ => rfl) (fun _ => rfl) rfl (by decide) d_Tp_init_6 ?_
  refine v_aload_n (pc := 9) C d_Tp_init_9 rfl 0 rfl ?_
  refine v_aload_n (pc := 10) C d_Tp_init_10 rfl 2 rfl ?_
  refine v_putR (pc := 11) (L2 := LS155) C (Or.inr ⟨ff_Tp_15, rfl⟩) rfl rfl (fun _ => rfl) (fun _ => rfl) rfl (by decide) d_Tp_init_11 ?_
  refine v_aload_n (pc := 14) C d_Tp_init_14 rfl 0 rfl ?_
  refine v_bipush (pc := 15) C d_Tp_init_15 bp_20 ?_
  refine v_newI (pc := 17) (a := 75) (m := 20) (L2 := LS156) (k2 := 1) (n2 := 20) C rfl rfl rfl rfl ⟨Nat.le_of_ble_eq_true rfl, Nat.le_of_ble_eq_true rfl⟩ (by decide) (by decide) (by decide) aw_I d_Tp_init_17 (fun S1 => ?_)
  refine v_putR (pc := 19) (L2 := LS157) C (Or.inr ⟨ff_Tp_19, rfl⟩) rfl rfl (fun _ => rfl) (fun _ => rfl) rfl (by decide) d_Tp_init_19 ?_
  refine v_aload_n (pc := 22) C d_Tp_init_22 rfl 0 rfl ?_
  refine v_new (pc := 23) (a := 76) (L2 := LS158) (k2 := 2) (n2 := 24) C cn_Tp_22 rfl rfl rfl rfl ⟨Nat.le_of_ble_eq_true rfl, Nat.le_of_ble_eq_true rfl⟩ d_Tp_init_23 (fun S2 => ?_)
  refine v_dup (pc := 26) C d_Tp_init_26 rfl ?_
  refine v_bipush (pc := 27) C d_Tp_init_27 bp_10 ?_
  refine v_cc (pc := 29) (L2 := LS164) (k2 := 5) (n2 := 54) (inv_I (As := [.int 10]) (st := [rf G 76, rf G 74]) C ml_Tp_24 mi_Sp_init ro_Tp_init_Sp_init rfl rfl (Nat.le_of_ble_eq_true rfl) d_Tp_init_29) (ci_Sp_init_3 S2) rfl rfl ⟨Nat.le_of_ble_eq_true rfl, Nat.le_of_ble_eq_true rfl⟩ (fun S3 => ?_)
  refine v_putR (pc := 32) (L2 := LS165) C (Or.inr ⟨ff_Tp_27, rfl⟩) rfl rfl (fun _ => rfl) (fun _ => rfl) rfl (by decide) d_Tp_init_32 ?_
  refine v_aload_n (pc := 35) C d_Tp_init_35 rfl 0 rfl ?_
  refine v_new (pc := 36) (a := 80) (L2 := LS166) (k2 := 6) (n2 := 58) C cn_Tp_31 rfl rfl rfl rfl ⟨Nat.le_of_ble_eq_true rfl, Nat.le_of_ble_eq_true rfl⟩ d_Tp_init_36 (fun S4 => ?_)
  refine v_dup (pc := 39) C d_Tp_init_39 rfl ?_
  refine v_cc (pc := 40) (L2 := LS166) (k2 := 6) (n2 := 58) (inv_IN (As := []) (st := [rf G 80, rf G 74]) C mn_Tp_33 mi_Sh_init ro_Tp_init_Sh_init rfl rfl (Nat.le_of_ble_eq_true rfl) d_Tp_init_40) (ci_Sh_init_12 S4) rfl rfl ⟨Nat.le_of_ble_eq_true rfl, Nat.le_of_ble_eq_true rfl⟩ (fun S5 => ?_)
  refine v_putR (pc := 43) (L2 := LS167) C (Or.inr ⟨ff_Tp_34, rfl⟩) rfl rfl (fun _ => rfl) (fun _ => rfl) rfl (by decide) d_Tp_init_43 ?_
  refine v_aload_n (pc := 46) C d_Tp_init_46 rfl 0 rfl ?_
  refine v_bipush (pc := 47) C d_Tp_init_47 bp_10 ?_
  refine v_newI (pc := 49) (a := 81) (m := 10) (L2 := LS168) (k2 := 7) (n2 := 68) C rfl rfl rfl rfl ⟨Nat.le_of_ble_eq_true rfl, Nat.le_of_ble_eq_true rfl⟩ (by decide) (by decide) (by decide) aw_I d_Tp_init_49 (fun S6 => ?_)
  refine v_putR (pc := 51) (L2 := LS169) C (Or.inr ⟨ff_Tp_38, rfl⟩) rfl rfl (fun _ => rfl) (fun _ => rfl) rfl (by decide) d_Tp_init_51 ?_
  exact v_vret C d_Tp_init_54 rfl ⟨Nat.le_of_ble_eq_true rfl, Nat.le_of_ble_eq_true rfl⟩ rfl rfl
set_option maxRecDepth 20000 in
def ri_Sp_init_4 (S : Sto) : Option Sto :=
  ltS (sr S 85 (fun _ => 0)) (fun S1 =>
  ltS (sr S1 86 (fun _ => 0)) (fun S2 =>
  ltS (sr S2 87 (fun _ => 0)) (fun S3 =>
  some S3)))
set_option maxHeartbeats 4000000 in
set_option maxRecDepth 20000 in
theorem ci_Sp_init_4 {G : Gl} (S : Sto) : Ct Y_Sp_init G [rf G 84, .int 10] LS176 S (fv LS182) (ri_Sp_init_4 S) := by
  refine ct_of (by decide +kernel) (Nat.le_of_ble_eq_true rfl) (fun g C => ?_)
  unfold ri_Sp_init_4
  refine v_aload_n (pc := 0) C d_Sp_init_0 rfl 0 rfl ?_
  refine v_oinit (pc := 1) C oi_Sp_3 oi_i oi_c (Nat.le_of_ble_eq_true rfl) (Nat.le_of_ble_eq_true rfl) d_Sp_init_1 ?_
  refine v_iconst (pc := 4) C d_Sp_init_4 ic_0 ?_
  refine v_iload_n (pc := 5) C d_Sp_init_5 rfl 1 rfl ?_
  refine v_ct (pc := 6) (inv_S (As := [.int 0, .int 10]) (st := []) C ml_Sp_9 ms_Ma_max ro_Sp_init_Ma_max rfl rfl (Nat.le_of_ble_eq_true rfl) d_Sp_init_6) (c0_Ma_max S 0 10) ⟨rfl, rfl⟩ ⟨Nat.le_of_ble_eq_true rfl, Nat.le_of_ble_eq_true rfl⟩ ?_
  refine v_istore_n (pc := 9) (lv' := [(2, .int (r_Ma_max 0 10)), (0, rf G 84), (1, .int 10)]) C d_Sp_init_9 rfl (by decide) rfl ?_
  refine v_aload_n (pc := 10) C d_Sp_init_10 rfl 1 rfl ?_
  refine v_iload_n (pc := 11) C d_Sp_init_11 rfl 0 rfl ?_
  refine v_newI (pc := 12) (a := 85) (m := 10) (L2 := LS177) (k2 := 1) (n2 := 10) C rfl rfl rfl rfl ⟨Nat.le_of_ble_eq_true rfl, Nat.le_of_ble_eq_true rfl⟩ (by decide) (by decide) (by decide) aw_I d_Sp_init_12 (fun S1 => ?_)
  refine v_putR (pc := 14) (L2 := LS178) C (Or.inr ⟨ff_Sp_15, rfl⟩) rfl rfl (fun _ => rfl) (fun _ => rfl) rfl (by decide) d_Sp_init_14 ?_
  refine v_aload_n (pc := 17) C d_Sp_init_17 rfl 1 rfl ?_
  refine v_iload_n (pc := 18) C d_Sp_init_18 rfl 0 rfl ?_
  refine v_newI (pc := 19) (a := 86) (m := 10) (L2 := LS179) (k2 := 2) (n2 := 20) C rfl rfl rfl rfl ⟨Nat.le_of_ble_eq_true rfl, Nat.le_of_ble_eq_true rfl⟩ (by decide) (by decide) (by decide) aw_I d_Sp_init_19 (fun S2 => ?_)
  refine v_putR (pc := 21) (L2 := LS180) C (Or.inr ⟨ff_Sp_21, rfl⟩) rfl rfl (fun _ => rfl) (fun _ => rfl) rfl (by decide) d_Sp_init_21 ?_
  refine v_aload_n (pc := 24) C d_Sp_init_24 rfl 1 rfl ?_
  refine v_iload_n (pc := 25) C d_Sp_init_25 rfl 0 rfl ?_
  refine v_newI (pc := 26) (a := 87) (m := 10) (L2 := LS181) (k2 := 3) (n2 := 30) C rfl rfl rfl rfl ⟨Nat.le_of_ble_eq_true rfl, Nat.le_of_ble_eq_true rfl⟩ (by decide) (by decide) (by decide) aw_I d_Sp_init_26 (fun S3 => ?_)
  refine v_putR (pc := 28) (L2 := LS182) C (Or.inr ⟨ff_Sp_24, rfl⟩) rfl rfl (fun _ => rfl) (fun _ => rfl) rfl (by decide) d_Sp_init_28 ?_
  exact v_vret C d_Sp_init_31 rfl ⟨Nat.le_of_ble_eq_true rfl, Nat.le_of_ble_eq_true rfl⟩ rfl rfl
set_option maxRecDepth 20000 in
def ri_Sh_init_13 (S : Sto) : Option Sto :=
  ltS (sw S 88 2 (-1)) (fun S1 =>
  some S1)
set_option maxHeartbeats 4000000 in
set_option maxRecDepth 20000 in
theorem ci_Sh_init_13 {G : Gl} (S : Sto) : Ct Y_Sh_init G [rf G 88] LS184 S (fv LS184) (ri_Sh_init_13 S) := by
  refine ct_of (by decide +kernel) (Nat.le_of_ble_eq_true rfl) (fun g C => ?_)
  unfold ri_Sh_init_13
  refine v_aload_n (pc := 0) C d_Sh_init_0 rfl 0 rfl ?_
  refine v_oinit (pc := 1) C oi_Sh_3 oi_i oi_c (Nat.le_of_ble_eq_true rfl) (Nat.le_of_ble_eq_true rfl) d_Sh_init_1 ?_
  refine v_aload_n (pc := 4) C d_Sh_init_4 rfl 0 rfl ?_
  refine v_iconst (pc := 5) C d_Sh_init_5 ic_m1 ?_
  refine v_putI (pc := 6) C fp_Sh_9 rfl rfl d_Sh_init_6 (fun S1 => ?_)
  exact v_vret C d_Sh_init_9 rfl ⟨Nat.le_of_ble_eq_true rfl, Nat.le_of_ble_eq_true rfl⟩ rfl rfl
set_option maxRecDepth 20000 in
def ri_Tp_init_3 (S : Sto) : Option Sto :=
  ltS (sr S 83 (fun _ => 0)) (fun S1 =>
  ltS (sr S1 84 (fun _ => 0)) (fun S2 =>
  (ri_Sp_init_4 S2).bind (fun S3 =>
  ltS (sr S3 88 (fun _ => 0)) (fun S4 =>
  (ri_Sh_init_13 S4).bind (fun S5 =>
  ltS (sr S5 89 (fun _ => 0)) (fun S6 =>
  some S6))))))
set_option maxHeartbeats 4000000 in
set_option maxRecDepth 20000 in
theorem ci_Tp_init_3 {G : Gl} (S : Sto) : Ct Y_Tp_init G [rf G 82, rf G 13, rf G 17] LS171 S (fv LS187) (ri_Tp_init_3 S) := by
  refine ct_of (by decide +kernel) (Nat.le_of_ble_eq_true rfl) (fun g C => ?_)
  unfold ri_Tp_init_3
  refine v_aload_n (pc := 0) C d_Tp_init_0 rfl 0 rfl ?_
  refine v_oinit (pc := 1) C oi_Tp_3 oi_i oi_c (Nat.le_of_ble_eq_true rfl) (Nat.le_of_ble_eq_true rfl) d_Tp_init_1 ?_
  refine v_aload_n (pc := 4) C d_Tp_init_4 rfl 0 rfl ?_
  refine v_aload_n (pc := 5) C d_Tp_init_5 rfl 1 rfl ?_
  refine v_putR (pc := 6) (L2 := LS172) C (Or.inr ⟨ff_Tp_9, rfl⟩) rfl rfl (fun _ => rfl) (fun _ => rfl) rfl (by decide) d_Tp_init_6 ?_
  refine v_aload_n (pc := 9) C d_Tp_init_9 rfl 0 rfl ?_
  refine v_aload_n (pc := 10) C d_Tp_init_10 rfl 2 rfl ?_
  refine v_putR (pc := 11) (L2 := LS173) C (Or.inr ⟨ff_Tp_15, rfl⟩) rfl rfl (fun _ => rfl) (fun _ => rfl) rfl (by decide) d_Tp_init_11 ?_
  refine v_aload_n (pc := 14) C d_Tp_init_14 rfl 0 rfl ?_
  refine v_bipush (pc := 15) C d_Tp_init_15 bp_20 ?_
  refine v_newI (pc := 17) (a := 83) (m := 20) (L2 := LS174) (k2 := 1) (n2 := 20) C rfl rfl rfl rfl ⟨Nat.le_of_ble_eq_true rfl, Nat.le_of_ble_eq_true rfl⟩ (by decide) (by decide) (by decide) aw_I d_Tp_init_17 (fun S1 => ?_)
  refine v_putR (pc := 19) (L2 := LS175) C (Or.inr ⟨ff_Tp_19, rfl⟩) rfl rfl (fun _ => rfl) (fun _ => rfl) rfl (by decide) d_Tp_init_19 ?_
  refine v_aload_n (pc := 22) C d_Tp_init_22 rfl 0 rfl ?_
  refine v_new (pc := 23) (a := 84) (L2 := LS176) (k2 := 2) (n2 := 24) C cn_Tp_22 rfl rfl rfl rfl ⟨Nat.le_of_ble_eq_true rfl, Nat.le_of_ble_eq_true rfl⟩ d_Tp_init_23 (fun S2 => ?_)
  refine v_dup (pc := 26) C d_Tp_init_26 rfl ?_
  refine v_bipush (pc := 27) C d_Tp_init_27 bp_10 ?_
  refine v_cc (pc := 29) (L2 := LS182) (k2 := 5) (n2 := 54) (inv_I (As := [.int 10]) (st := [rf G 84, rf G 82]) C ml_Tp_24 mi_Sp_init ro_Tp_init_Sp_init rfl rfl (Nat.le_of_ble_eq_true rfl) d_Tp_init_29) (ci_Sp_init_4 S2) rfl rfl ⟨Nat.le_of_ble_eq_true rfl, Nat.le_of_ble_eq_true rfl⟩ (fun S3 => ?_)
  refine v_putR (pc := 32) (L2 := LS183) C (Or.inr ⟨ff_Tp_27, rfl⟩) rfl rfl (fun _ => rfl) (fun _ => rfl) rfl (by decide) d_Tp_init_32 ?_
  refine v_aload_n (pc := 35) C d_Tp_init_35 rfl 0 rfl ?_
  refine v_new (pc := 36) (a := 88) (L2 := LS184) (k2 := 6) (n2 := 58) C cn_Tp_31 rfl rfl rfl rfl ⟨Nat.le_of_ble_eq_true rfl, Nat.le_of_ble_eq_true rfl⟩ d_Tp_init_36 (fun S4 => ?_)
  refine v_dup (pc := 39) C d_Tp_init_39 rfl ?_
  refine v_cc (pc := 40) (L2 := LS184) (k2 := 6) (n2 := 58) (inv_IN (As := []) (st := [rf G 88, rf G 82]) C mn_Tp_33 mi_Sh_init ro_Tp_init_Sh_init rfl rfl (Nat.le_of_ble_eq_true rfl) d_Tp_init_40) (ci_Sh_init_13 S4) rfl rfl ⟨Nat.le_of_ble_eq_true rfl, Nat.le_of_ble_eq_true rfl⟩ (fun S5 => ?_)
  refine v_putR (pc := 43) (L2 := LS185) C (Or.inr ⟨ff_Tp_34, rfl⟩) rfl rfl (fun _ => rfl) (fun _ => rfl) rfl (by decide) d_Tp_init_43 ?_
  refine v_aload_n (pc := 46) C d_Tp_init_46 rfl 0 rfl ?_
  refine v_bipush (pc := 47) C d_Tp_init_47 bp_10 ?_
  refine v_newI (pc := 49) (a := 89) (m := 10) (L2 := LS186) (k2 := 7) (n2 := 68) C rfl rfl rfl rfl ⟨Nat.le_of_ble_eq_true rfl, Nat.le_of_ble_eq_true rfl⟩ (by decide) (by decide) (by decide) aw_I d_Tp_init_49 (fun S6 => ?_)
  refine v_putR (pc := 51) (L2 := LS187) C (Or.inr ⟨ff_Tp_38, rfl⟩) rfl rfl (fun _ => rfl) (fun _ => rfl) rfl (by decide) d_Tp_init_51 ?_
  exact v_vret C d_Tp_init_54 rfl ⟨Nat.le_of_ble_eq_true rfl, Nat.le_of_ble_eq_true rfl⟩ rfl rfl
set_option maxRecDepth 20000 in
def ri_Sc_init_4 (S : Sto) : Option Sto :=
  ltS (sr S 92 (upd (fun _ => 0) 400 0)) (fun S1 =>
  ltS (sw S1 91 0 92) (fun S2 =>
  ltS (sr S2 93 (fun _ => 0)) (fun S3 =>
  some S3)))
set_option maxHeartbeats 4000000 in
set_option maxRecDepth 20000 in
theorem ci_Sc_init_4 {G : Gl} (S : Sto) : Ct Y_Sc_init G [rf G 91] LS190 S (fv LS194) (ri_Sc_init_4 S) := by
  refine ct_of (by decide +kernel) (Nat.le_of_ble_eq_true rfl) (fun g C => ?_)
  unfold ri_Sc_init_4
  refine v_aload_n (pc := 0) C d_Sc_init_0 rfl 0 rfl ?_
  refine v_oinit (pc := 1) C oi_Sc_3 oi_i oi_c (Nat.le_of_ble_eq_true rfl) (Nat.le_of_ble_eq_true rfl) d_Sc_init_1 ?_
  refine v_aload_n (pc := 4) C d_Sc_init_4 rfl 0 rfl ?_
  refine v_iconst (pc := 5) C d_Sc_init_5 ic_0 ?_
  refine v_newD (pc := 6) (a := 92) (m := 0) (L2 := LS191) (k2 := 1) (n2 := 0) C rfl rfl rfl rfl ⟨Nat.le_of_ble_eq_true rfl, Nat.le_of_ble_eq_true rfl⟩ (by decide) (by decide) (by decide) aw_I d_Sc_init_6 (fun S1 => ?_)
  refine v_putD (pc := 8) (L2 := LS192) (x0 := 92) C (Or.inl fp_Sc_9) rfl rfl (fun _ => rfl) (fun _ => rfl) rfl rfl (by decide) d_Sc_init_8 (fun S2 => ?_)
  refine v_aload_n (pc := 11) C d_Sc_init_11 rfl 0 rfl ?_
  refine v_bipush (pc := 12) C d_Sc_init_12 bp_32 ?_
  refine v_newI (pc := 14) (a := 93) (m := 32) (L2 := LS193) (k2 := 2) (n2 := 32) C rfl rfl rfl rfl ⟨Nat.le_of_ble_eq_true rfl, Nat.le_of_ble_eq_true rfl⟩ (by decide) (by decide) (by decide) aw_I d_Sc_init_14 (fun S3 => ?_)
  refine v_putR (pc := 16) (L2 := LS194) C (Or.inr ⟨ff_Sc_13, rfl⟩) rfl rfl (fun _ => rfl) (fun _ => rfl) rfl (by decide) d_Sc_init_16 ?_
  exact v_vret C d_Sc_init_19 rfl ⟨Nat.le_of_ble_eq_true rfl, Nat.le_of_ble_eq_true rfl⟩ rfl rfl
set_option maxRecDepth 20000 in
def ri_Ns_init_0 (S : Sto) : Option Sto :=
  ltS (sr S 91 (fun _ => 0)) (fun S1 =>
  (ri_Sc_init_4 S1).bind (fun S2 =>
  ltS (sr S2 94 (fun _ => 0)) (fun S3 =>
  ltS (sr S3 95 (fun _ => 0)) (fun S4 =>
  ltS (sr S4 96 (fun _ => 0)) (fun S5 =>
  ltS (sr S5 97 (fun _ => 0)) (fun S6 =>
  ltS (sr S6 98 (fun _ => 0)) (fun S7 =>
  some S7)))))))
set_option maxHeartbeats 4000000 in
set_option maxRecDepth 20000 in
theorem ci_Ns_init_0 {G : Gl} (S : Sto) : Ct Y_Ns_init G [rf G 90] LS189 S (fv LS205) (ri_Ns_init_0 S) := by
  refine ct_of (by decide +kernel) (Nat.le_of_ble_eq_true rfl) (fun g C => ?_)
  unfold ri_Ns_init_0
  refine v_aload_n (pc := 0) C d_Ns_init_0 rfl 0 rfl ?_
  refine v_oinit (pc := 1) C oi_Ns_3 oi_i oi_c (Nat.le_of_ble_eq_true rfl) (Nat.le_of_ble_eq_true rfl) d_Ns_init_1 ?_
  refine v_aload_n (pc := 4) C d_Ns_init_4 rfl 0 rfl ?_
  refine v_new (pc := 5) (a := 91) (L2 := LS190) (k2 := 1) (n2 := 3) C cn_Ns_9 rfl rfl rfl rfl ⟨Nat.le_of_ble_eq_true rfl, Nat.le_of_ble_eq_true rfl⟩ d_Ns_init_5 (fun S1 => ?_)
  refine v_dup (pc := 8) C d_Ns_init_8 rfl ?_
  refine v_cc (pc := 9) (L2 := LS194) (k2 := 3) (n2 := 35) (inv_I (As := []) (st := [rf G 91, rf G 90]) C ml_Ns_11 mi_Sc_init ro_Ns_init_Sc_init rfl rfl (Nat.le_of_ble_eq_true rfl) d_Ns_init_9) (ci_Sc_init_4 S1) rfl rfl ⟨Nat.le_of_ble_eq_true rfl, Nat.le_of_ble_eq_true rfl⟩ (fun S2 => ?_)
  refine v_putR (pc := 12) (L2 := LS195) C (Or.inr ⟨ff_Ns_12, rfl⟩) rfl rfl (fun _ => rfl) (fun _ => rfl) rfl (by decide) d_Ns_init_12 ?_
  refine v_aload_n (pc := 15) C d_Ns_init_15 rfl 0 rfl ?_
  refine v_bipush (pc := 16) C d_Ns_init_16 bp_20 ?_
  refine v_newI (pc := 18) (a := 94) (m := 20) (L2 := LS196) (k2 := 4) (n2 := 55) C rfl rfl rfl rfl ⟨Nat.le_of_ble_eq_true rfl, Nat.le_of_ble_eq_true rfl⟩ (by decide) (by decide) (by decide) aw_I d_Ns_init_18 (fun S3 => ?_)
  refine v_putR (pc := 20) (L2 := LS197) C (Or.inr ⟨ff_Ns_18, rfl⟩) rfl rfl (fun _ => rfl) (fun _ => rfl) rfl (by decide) d_Ns_init_20 ?_
  refine v_aload_n (pc := 23) C d_Ns_init_23 rfl 0 rfl ?_
  refine v_bipush (pc := 24) C d_Ns_init_24 bp_20 ?_
  refine v_newI (pc := 26) (a := 95) (m := 20) (L2 := LS198) (k2 := 5) (n2 := 75) C rfl rfl rfl rfl ⟨Nat.le_of_ble_eq_true rfl, Nat.le_of_ble_eq_true rfl⟩ (by decide) (by decide) (by decide) aw_I d_Ns_init_26 (fun S4 => ?_)
  refine v_putR (pc := 28) (L2 := LS199) C (Or.inr ⟨ff_Ns_22, rfl⟩) rfl rfl (fun _ => rfl) (fun _ => rfl) rfl (by decide) d_Ns_init_28 ?_
  refine v_aload_n (pc := 31) C d_Ns_init_31 rfl 0 rfl ?_
  refine v_bipush (pc := 32) C d_Ns_init_32 bp_20 ?_
  refine v_newI (pc := 34) (a := 96) (m := 20) (L2 := LS200) (k2 := 6) (n2 := 95) C rfl rfl rfl rfl ⟨Nat.le_of_ble_eq_true rfl, Nat.le_of_ble_eq_true rfl⟩ (by decide) (by decide) (by decide) aw_I d_Ns_init_34 (fun S5 => ?_)
  refine v_putR (pc := 36) (L2 := LS201) C (Or.inr ⟨ff_Ns_25, rfl⟩) rfl rfl (fun _ => rfl) (fun _ => rfl) rfl (by decide) d_Ns_init_36 ?_
  refine v_aload_n (pc := 39) C d_Ns_init_39 rfl 0 rfl ?_
  refine v_bipush (pc := 40) C d_Ns_init_40 bp_20 ?_
  refine v_newI (pc := 42) (a := 97) (m := 20) (L2 := LS202) (k2 := 7) (n2 := 115) C rfl rfl rfl rfl ⟨Nat.le_of_ble_eq_true rfl, Nat.le_of_ble_eq_true rfl⟩ (by decide) (by decide) (by decide) aw_I d_Ns_init_42 (fun S6 => ?_)
  refine v_putR (pc := 44) (L2 := LS203) C (Or.inr ⟨ff_Ns_28, rfl⟩) rfl rfl (fun _ => rfl) (fun _ => rfl) rfl (by decide) d_Ns_init_44 ?_
  refine v_aload_n (pc := 47) C d_Ns_init_47 rfl 0 rfl ?_
  refine v_iconst (pc := 48) C d_Ns_init_48 ic_4 ?_
  refine v_newI (pc := 49) (a := 98) (m := 4) (L2 := LS204) (k2 := 8) (n2 := 119) C rfl rfl rfl rfl ⟨Nat.le_of_ble_eq_true rfl, Nat.le_of_ble_eq_true rfl⟩ (by decide) (by decide) (by decide) aw_I d_Ns_init_49 (fun S7 => ?_)
  refine v_putR (pc := 51) (L2 := LS205) C (Or.inr ⟨ff_Ns_31, rfl⟩) rfl rfl (fun _ => rfl) (fun _ => rfl) rfl (by decide) d_Ns_init_51 ?_
  exact v_vret C d_Ns_init_54 rfl ⟨Nat.le_of_ble_eq_true rfl, Nat.le_of_ble_eq_true rfl⟩ rfl rfl
set_option maxRecDepth 20000 in
def ri_Sh_init_14 (S : Sto) : Option Sto :=
  ltS (sw S 99 2 (-1)) (fun S1 =>
  some S1)
set_option maxHeartbeats 4000000 in
set_option maxRecDepth 20000 in
theorem ci_Sh_init_14 {G : Gl} (S : Sto) : Ct Y_Sh_init G [rf G 99] LS207 S (fv LS207) (ri_Sh_init_14 S) := by
  refine ct_of (by decide +kernel) (Nat.le_of_ble_eq_true rfl) (fun g C => ?_)
  unfold ri_Sh_init_14
  refine v_aload_n (pc := 0) C d_Sh_init_0 rfl 0 rfl ?_
  refine v_oinit (pc := 1) C oi_Sh_3 oi_i oi_c (Nat.le_of_ble_eq_true rfl) (Nat.le_of_ble_eq_true rfl) d_Sh_init_1 ?_
  refine v_aload_n (pc := 4) C d_Sh_init_4 rfl 0 rfl ?_
  refine v_iconst (pc := 5) C d_Sh_init_5 ic_m1 ?_
  refine v_putI (pc := 6) C fp_Sh_9 rfl rfl d_Sh_init_6 (fun S1 => ?_)
  exact v_vret C d_Sh_init_9 rfl ⟨Nat.le_of_ble_eq_true rfl, Nat.le_of_ble_eq_true rfl⟩ rfl rfl
