section CtorB
variable {g : Gm} {Y : Ym} {G : Gl} {β γ : Type} {Qf : γ → State → Prop} {k n pc : Nat} {lv lv' : List (Nat × Value)} {st : List Value} {L : Shp} {S : Sto} {o : Option β} {K : β → Option γ}
theorem v_icmp_ge_t (C : Cx g Y G) {x y : Int32} {off : Int} {tgt : Nat} (d : decode (mB Y) pc = .ok (.if_icmp .ge off, 3)) (ht : (pc : Int) + off = (tgt : Int)) (hc : y ≤ x) (kk : VO g Y G Qf k n tgt lv st L S o K) : VO g Y G Qf k n pc lv (.int y :: .int x :: st) L S o K :=
  fun z hx H locs ls h1 h2 h3 => lv_icmp_ge C.1 C.2.1 d ht (fun _ => kk z hx H locs ls h1 h2 h3) (fun c => absurd hc c)
theorem v_icmp_ge_f (C : Cx g Y G) {x y : Int32} {off : Int} {tgt : Nat} (d : decode (mB Y) pc = .ok (.if_icmp .ge off, 3)) (ht : (pc : Int) + off = (tgt : Int)) (hc : ¬ y ≤ x) (kk : VO g Y G Qf k n (pc + 3) lv st L S o K) : VO g Y G Qf k n pc lv (.int y :: .int x :: st) L S o K :=
  fun z hx H locs ls h1 h2 h3 => lv_icmp_ge C.1 C.2.1 d ht (fun c => absurd c hc) (fun _ => kk z hx H locs ls h1 h2 h3)
theorem v_iincT (C : Cx g Y G) {i p : Nat} {j : Int} {y v : Int32} (d : decode (mB Y) pc = .ok (.iinc i j, 3)) (hk : lv[p]? = some (i, .int y)) (hv : y + Int32.ofInt j = v) (hn : i < mL Y) (hl : (i, Value.int v) :: lv.filter (fun q => !(q.1 == i) && !(q.1 + 1 == i && q.2.category == 2)) = lv') (kk : VO g Y G Qf k n (pc + 3) lv' st L S o K) : VO g Y G Qf k n pc lv st L S o K :=
  fun z hx H locs ls h1 h2 h3 => lv_iinc C.1 C.2.1 d h3 hk hv hn hl (fun ls2 h4 => kk z hx H locs ls2 h1 h2 h4)
end CtorB
theorem cl_B_9 : Cond.classLink "BangSquare" 9 "BangSquare$Square" ∈ gd_tbl := gd_in (in_t1 (List.mem_of_getElem? (i := 32) rfl)) rfl
theorem cl_B_16 : Cond.classLink "BangSquare" 16 "BangSquare$Heard" ∈ gd_tbl := gd_in (in_t1 (List.mem_of_getElem? (i := 85) rfl)) rfl
theorem cl_B_35 : Cond.classLink "BangSquare" 35 "BangSquare$Shot" ∈ gd_tbl := gd_in (in_t1 (List.mem_of_getElem? (i := 150) rfl)) rfl
theorem cl_B_42 : Cond.classLink "BangSquare" 42 "BangSquare$Reader" ∈ gd_tbl := gd_in (in_t1 (List.mem_of_getElem? (i := 175) rfl)) rfl
theorem cl_B_49 : Cond.classLink "BangSquare" 49 "BangSquare$Crowd" ∈ gd_tbl := gd_in (in_t2 (List.mem_of_getElem? (i := 3) rfl)) rfl
theorem cl_B_64 : Cond.classLink "BangSquare" 64 "BangSquare$Spans" ∈ gd_tbl := gd_in (in_t2 (List.mem_of_getElem? (i := 62) rfl)) rfl
theorem cl_B_73 : Cond.classLink "BangSquare" 73 "BangSquare$Tape" ∈ gd_tbl := gd_in (in_t2 (List.mem_of_getElem? (i := 88) rfl)) rfl
theorem cl_B_86 : Cond.classLink "BangSquare" 86 "BangSquare$Noises" ∈ gd_tbl := gd_in (in_t2 (List.mem_of_getElem? (i := 143) rfl)) rfl
theorem cl_B_103 : Cond.classLink "BangSquare" 103 "BangSquare$Roofs" ∈ gd_tbl := gd_in (in_t2 (List.mem_of_getElem? (i := 175) rfl)) rfl
theorem cl_Cw_15 : Cond.classLink "BangSquare$Crowd" 15 "BangSquare$Script" ∈ gd_tbl := gd_in (in_t2 (List.mem_of_getElem? (i := 9) rfl)) rfl
theorem cl_Ns_9 : Cond.classLink "BangSquare$Noises" 9 "BangSquare$Script" ∈ gd_tbl := gd_in (in_t2 (List.mem_of_getElem? (i := 149) rfl)) rfl
theorem cl_Sq_15 : Cond.classLink "BangSquare$Square" 15 "BangSquare$Wall" ∈ gd_tbl := gd_in (in_t1 (List.mem_of_getElem? (i := 38) rfl)) rfl
theorem cl_Tp_22 : Cond.classLink "BangSquare$Tape" 22 "BangSquare$Spans" ∈ gd_tbl := gd_in (in_t2 (List.mem_of_getElem? (i := 95) rfl)) rfl
theorem cl_Tp_31 : Cond.classLink "BangSquare$Tape" 31 "BangSquare$Shot" ∈ gd_tbl := gd_in (in_t2 (List.mem_of_getElem? (i := 97) rfl)) rfl
theorem cn_B_9 : CNk "BangSquare" 9 8 5 [0, 0, 0, 2, 0] := ⟨RX8, TX8, tyX8, rfl, gd_in (in_t1 (List.mem_of_getElem? (i := 32) rfl)) rfl, gd_in (in_t1 (List.mem_of_getElem? (i := 33) rfl)) rfl, gd_in (in_t1 (List.mem_of_getElem? (i := 2) rfl)) rfl, igX8, tyX8_ok, rfl, by decide +kernel⟩
theorem cn_B_16 : CNk "BangSquare" 16 1 11 [2, 0, 0, 0, 0, 0, 0, 0, 2, 2, 2] := ⟨RX1, TX1, tyX1, rfl, gd_in (in_t1 (List.mem_of_getElem? (i := 85) rfl)) rfl, gd_in (in_t1 (List.mem_of_getElem? (i := 86) rfl)) rfl, gd_in (in_t1 (List.mem_of_getElem? (i := 4) rfl)) rfl, igX1, tyX1_ok, rfl, by decide +kernel⟩
theorem cn_B_35 : CNk "BangSquare" 35 6 4 [0, 0, 0, 0] := ⟨RX6, TX6, tyX6, rfl, gd_in (in_t1 (List.mem_of_getElem? (i := 150) rfl)) rfl, gd_in (in_t1 (List.mem_of_getElem? (i := 152) rfl)) rfl, gd_in (in_t1 (List.mem_of_getElem? (i := 6) rfl)) rfl, igX6, tyX6_ok, rfl, by decide +kernel⟩
theorem cn_B_42 : CNk "BangSquare" 42 3 19 [2, 0, 0, 0, 0, 0, 0, 0, 0, 0, 0, 0, 0, 0, 0, 2, 0, 2, 0] := ⟨RX3, TX3, tyX3, rfl, gd_in (in_t1 (List.mem_of_getElem? (i := 175) rfl)) rfl, gd_in (in_t1 (List.mem_of_getElem? (i := 176) rfl)) rfl, gd_in (in_t1 (List.mem_of_getElem? (i := 7) rfl)) rfl, igX3, tyX3_ok, rfl, by decide +kernel⟩
theorem cn_B_49 : CNk "BangSquare" 49 0 10 [2, 2, 2, 2, 0, 2, 2, 0, 0, 0] := ⟨RX0, TX0, tyX0, rfl, gd_in (in_t2 (List.mem_of_getElem? (i := 3) rfl)) rfl, gd_in (in_t2 (List.mem_of_getElem? (i := 4) rfl)) rfl, gd_in (in_t1 (List.mem_of_getElem? (i := 8) rfl)) rfl, igX0, tyX0_ok, rfl, by decide +kernel⟩
theorem cn_B_64 : CNk "BangSquare" 64 7 4 [2, 2, 2, 0] := ⟨RX7, TX7, tyX7, rfl, gd_in (in_t2 (List.mem_of_getElem? (i := 62) rfl)) rfl, gd_in (in_t2 (List.mem_of_getElem? (i := 63) rfl)) rfl, gd_in (in_t1 (List.mem_of_getElem? (i := 10) rfl)) rfl, igX7, tyX7_ok, rfl, by decide +kernel⟩
theorem cn_B_73 : CNk "BangSquare" 73 9 12 [2, 2, 2, 0, 2, 2, 2, 0, 0, 0, 0, 0] := ⟨RX9, TX9, tyX9, rfl, gd_in (in_t2 (List.mem_of_getElem? (i := 88) rfl)) rfl, gd_in (in_t2 (List.mem_of_getElem? (i := 90) rfl)) rfl, gd_in (in_t1 (List.mem_of_getElem? (i := 12) rfl)) rfl, igX9, tyX9_ok, rfl, by decide +kernel⟩
theorem cn_B_86 : CNk "BangSquare" 86 2 7 [2, 2, 2, 2, 2, 0, 2] := ⟨RX2, TX2, tyX2, rfl, gd_in (in_t2 (List.mem_of_getElem? (i := 143) rfl)) rfl, gd_in (in_t2 (List.mem_of_getElem? (i := 144) rfl)) rfl, gd_in (in_t1 (List.mem_of_getElem? (i := 13) rfl)) rfl, igX2, tyX2_ok, rfl, by decide +kernel⟩
theorem cn_B_103 : CNk "BangSquare" 103 4 4 [2, 2, 2, 2] := ⟨RX4, TX4, tyX4, rfl, gd_in (in_t2 (List.mem_of_getElem? (i := 175) rfl)) rfl, gd_in (in_t2 (List.mem_of_getElem? (i := 176) rfl)) rfl, gd_in (in_t1 (List.mem_of_getElem? (i := 14) rfl)) rfl, igX4, tyX4_ok, rfl, by decide +kernel⟩
theorem cn_Cw_15 : CNk "BangSquare$Crowd" 15 5 3 [2, 2, 0] := ⟨RX5, TX5, tyX5, rfl, gd_in (in_t2 (List.mem_of_getElem? (i := 9) rfl)) rfl, gd_in (in_t2 (List.mem_of_getElem? (i := 11) rfl)) rfl, gd_in (in_t1 (List.mem_of_getElem? (i := 9) rfl)) rfl, igX5, tyX5_ok, rfl, by decide +kernel⟩
theorem cn_Ns_9 : CNk "BangSquare$Noises" 9 5 3 [2, 2, 0] := ⟨RX5, TX5, tyX5, rfl, gd_in (in_t2 (List.mem_of_getElem? (i := 149) rfl)) rfl, gd_in (in_t2 (List.mem_of_getElem? (i := 11) rfl)) rfl, gd_in (in_t1 (List.mem_of_getElem? (i := 9) rfl)) rfl, igX5, tyX5_ok, rfl, by decide +kernel⟩
theorem cn_Sq_15 : CNk "BangSquare$Square" 15 10 5 [0, 0, 0, 0, 0] := ⟨RX10, TX10, tyX10, rfl, gd_in (in_t1 (List.mem_of_getElem? (i := 38) rfl)) rfl, gd_in (in_t1 (List.mem_of_getElem? (i := 40) rfl)) rfl, gd_in (in_t1 (List.mem_of_getElem? (i := 3) rfl)) rfl, igX10, tyX10_ok, rfl, by decide +kernel⟩
theorem cn_Tp_22 : CNk "BangSquare$Tape" 22 7 4 [2, 2, 2, 0] := ⟨RX7, TX7, tyX7, rfl, gd_in (in_t2 (List.mem_of_getElem? (i := 95) rfl)) rfl, gd_in (in_t2 (List.mem_of_getElem? (i := 63) rfl)) rfl, gd_in (in_t1 (List.mem_of_getElem? (i := 10) rfl)) rfl, igX7, tyX7_ok, rfl, by decide +kernel⟩
theorem cn_Tp_31 : CNk "BangSquare$Tape" 31 6 4 [0, 0, 0, 0] := ⟨RX6, TX6, tyX6, rfl, gd_in (in_t2 (List.mem_of_getElem? (i := 97) rfl)) rfl, gd_in (in_t1 (List.mem_of_getElem? (i := 152) rfl)) rfl, gd_in (in_t1 (List.mem_of_getElem? (i := 6) rfl)) rfl, igX6, tyX6_ok, rfl, by decide +kernel⟩
theorem cn_LAW_7 : CNk "BangSquareLaw" 7 11 18 [2, 2, 2, 2, 0, 2, 2, 2, 2, 2, 2, 0, 2, 2, 0, 0, 2, 2] := ⟨RX11, TX11, tyX11, rfl, gd_in (in_t1 (List.mem_of_getElem? (i := 24) rfl)) rfl, gd_in (in_t1 (List.mem_of_getElem? (i := 25) rfl)) rfl, gd_in (in_t1 (List.mem_of_getElem? (i := 1) rfl)) rfl, igX11, tyX11_ok, rfl, by decide +kernel⟩
theorem cn_LAW_10 : CNk "BangSquareLaw" 10 12 74 [0, 0, 0, 0, 0, 0, 2, 2, 2, 2, 2, 2, 0, 2, 2, 2, 2, 0, 0, 0, 0, 0, 0, 2, 2, 2, 2, 0, 0, 0, 0, 0, 2, 2, 2, 2, 2, 2, 2, 0, 0, 0, 2, 0, 0, 0, 0, 0, 2, 2, 0, 2, 2, 2, 0, 2, 2, 2, 2, 2, 0, 0, 2, 2, 2, 0, 2, 2, 2, 2, 0, 0, 2, 2] := ⟨RX12, TX12, tyX12, rfl, gd_in (in_t5 (List.mem_of_getElem? (i := 133) rfl)) rfl, gd_in (in_t5 (List.mem_of_getElem? (i := 134) rfl)) rfl, gd_in (in_t1 (List.mem_of_getElem? (i := 15) rfl)) rfl, igX12, tyX12_ok, rfl, by decide +kernel⟩
theorem oi_i : Cond.instanceMethod objectInit ∈ gd_tbl := gd_in (in_t1 (List.mem_of_getElem? (i := 30) rfl)) rfl
theorem oi_c : Cond.code objectInit ⟨#[0xb1]⟩ 1 none ∈ gd_tbl := gd_in (in_t1 (List.mem_of_getElem? (i := 31) rfl)) rfl
theorem oi_B_3 : Cond.methodLink "BangSquare" 3 objectInit ∈ gd_tbl := gd_in (in_t1 (List.mem_of_getElem? (i := 29) rfl)) rfl
theorem oi_Cw_3 : Cond.methodLink "BangSquare$Crowd" 3 objectInit ∈ gd_tbl := gd_in (in_t2 (List.mem_of_getElem? (i := 8) rfl)) rfl
theorem oi_Hd_3 : Cond.methodLink "BangSquare$Heard" 3 objectInit ∈ gd_tbl := gd_in (in_t1 (List.mem_of_getElem? (i := 90) rfl)) rfl
theorem oi_Ns_3 : Cond.methodLink "BangSquare$Noises" 3 objectInit ∈ gd_tbl := gd_in (in_t2 (List.mem_of_getElem? (i := 148) rfl)) rfl
theorem oi_Rd_3 : Cond.methodLink "BangSquare$Reader" 3 objectInit ∈ gd_tbl := gd_in (in_t1 (List.mem_of_getElem? (i := 180) rfl)) rfl
theorem oi_Rf_3 : Cond.methodLink "BangSquare$Roofs" 3 objectInit ∈ gd_tbl := gd_in (in_t2 (List.mem_of_getElem? (i := 180) rfl)) rfl
theorem oi_Sc_3 : Cond.methodLink "BangSquare$Script" 3 objectInit ∈ gd_tbl := gd_in (in_t2 (List.mem_of_getElem? (i := 15) rfl)) rfl
theorem oi_Sh_3 : Cond.methodLink "BangSquare$Shot" 3 objectInit ∈ gd_tbl := gd_in (in_t1 (List.mem_of_getElem? (i := 156) rfl)) rfl
theorem oi_Sp_3 : Cond.methodLink "BangSquare$Spans" 3 objectInit ∈ gd_tbl := gd_in (in_t2 (List.mem_of_getElem? (i := 67) rfl)) rfl
theorem oi_Sq_3 : Cond.methodLink "BangSquare$Square" 3 objectInit ∈ gd_tbl := gd_in (in_t1 (List.mem_of_getElem? (i := 37) rfl)) rfl
theorem oi_Tp_3 : Cond.methodLink "BangSquare$Tape" 3 objectInit ∈ gd_tbl := gd_in (in_t2 (List.mem_of_getElem? (i := 94) rfl)) rfl
theorem oi_Wl_3 : Cond.methodLink "BangSquare$Wall" 3 objectInit ∈ gd_tbl := gd_in (in_t1 (List.mem_of_getElem? (i := 44) rfl)) rfl
theorem oi_M_1 : Cond.methodLink "BangSquareModel" 1 objectInit ∈ gd_tbl := gd_in (in_t5 (List.mem_of_getElem? (i := 138) rfl)) rfl
theorem d_Ar_fill_0 : decode (mB Y_Ar_fill) 0 = .ok (.iconst 0, 1) := by decide +kernel
theorem d_Ar_fill_1 : decode (mB Y_Ar_fill) 1 = .ok (.istore_n 2, 1) := by decide +kernel
theorem d_Ar_fill_2 : decode (mB Y_Ar_fill) 2 = .ok (.aload_n 0, 1) := by decide +kernel
theorem d_Ar_fill_3 : decode (mB Y_Ar_fill) 3 = .ok (.arraylength, 1) := by decide +kernel
theorem d_Ar_fill_4 : decode (mB Y_Ar_fill) 4 = .ok (.istore_n 3, 1) := by decide +kernel
theorem d_Ar_fill_5 : decode (mB Y_Ar_fill) 5 = .ok (.iload_n 2, 1) := by decide +kernel
theorem d_Ar_fill_6 : decode (mB Y_Ar_fill) 6 = .ok (.iload_n 3, 1) := by decide +kernel
theorem d_Ar_fill_7 : decode (mB Y_Ar_fill) 7 = .ok (.if_icmp .ge 13, 3) := by decide +kernel
theorem d_Ar_fill_10 : decode (mB Y_Ar_fill) 10 = .ok (.aload_n 0, 1) := by decide +kernel
theorem d_Ar_fill_11 : decode (mB Y_Ar_fill) 11 = .ok (.iload_n 2, 1) := by decide +kernel
theorem d_Ar_fill_12 : decode (mB Y_Ar_fill) 12 = .ok (.iload_n 1, 1) := by decide +kernel
theorem d_Ar_fill_13 : decode (mB Y_Ar_fill) 13 = .ok (.iastore, 1) := by decide +kernel
theorem d_Ar_fill_14 : decode (mB Y_Ar_fill) 14 = .ok (.iinc 2 1, 3) := by decide +kernel
theorem d_Ar_fill_17 : decode (mB Y_Ar_fill) 17 = .ok (.goto (-12), 3) := by decide +kernel
theorem d_Ar_fill_20 : decode (mB Y_Ar_fill) 20 = .ok (.return_, 1) := by decide +kernel
def r_Ar_fill_L5 (a0_ : Nat) (m0_ : Nat) (y1_ : Int32) (y3_ : Int32) : Nat → Int32 → Sto → Option (Int32 × Sto)
  | 0, _, _ => none
  | n + 1, x2_, S =>
    if y3_ ≤ x2_ then
      some (x2_, S)
    else
      chk (inr x2_ m0_) (
      ltS (sw S a0_ x2_.toNatClampNeg y1_) (fun S1 =>
      lt (x2_ + 1) (fun v2 =>
      r_Ar_fill_L5 a0_ m0_ y1_ y3_ n v2 S1)))
set_option maxHeartbeats 4000000 in
set_option maxRecDepth 20000 in
theorem w_Ar_fill_L5 {g : Gm} {G : Gl} {L : Shp} (C : Cx g Y_Ar_fill G) (a0_ : Nat) (m0_ : Nat) (y1_ : Int32) (y3_ : Int32) (h0_ : isInts L a0_ m0_) :
    ∀ (n : Nat) (x2_ : Int32) (S : Sto) (K : (Int32 × Sto) → Option Sto), (∀ (x2_ : Int32) (S : Sto), VO g Y_Ar_fill G (fun z => Qm g Y_Ar_fill G (fv L z)) 0 0 20 [] [] L S (some (x2_, S)) K) → VO g Y_Ar_fill G (fun z => Qm g Y_Ar_fill G (fv L z)) 0 0 5 [(0, rf G a0_), (1, .int y1_), (2, .int x2_), (3, .int y3_)] [] L S (r_Ar_fill_L5 a0_ m0_ y1_ y3_ n x2_ S) K := by
  intro n
  induction n with
  | zero => intro x2_ S K; intros; exact v_none
  | succ n ih =>
    intro x2_ S K hK
    rw [r_Ar_fill_L5]
    refine v_iload_n (pc := 5) C d_Ar_fill_5 rfl 2 rfl ?_
    refine v_iload_n (pc := 6) C d_Ar_fill_6 rfl 3 rfl ?_
    refine v_icmp_ge (pc := 7) (tgt := 20) C d_Ar_fill_7 rfl (fun _ => ?_) (fun _ => ?_)
    · refine v_sub [] rfl ?_
      exact hK x2_ S
    · refine v_aload_n (pc := 10) C d_Ar_fill_10 rfl 0 rfl ?_
      refine v_iload_n (pc := 11) C d_Ar_fill_11 rfl 2 rfl ?_
      refine v_iload_n (pc := 12) C d_Ar_fill_12 rfl 1 rfl ?_
      refine v_iast (pc := 13) C h0_ d_Ar_fill_13 (fun _ S1 => ?_)
      refine v_iinc (pc := 14) (p := 2) (c := 1) C d_Ar_fill_14 rfl (by decide) (by decide) (fun v2 => [(2, .int v2), (0, rf G a0_), (1, .int y1_), (3, .int y3_)]) (fun _ => rfl) (fun v2 => ?_)
      refine v_goto (pc := 17) (tgt := 5) C d_Ar_fill_17 rfl ?_
      refine v_sub [1, 2, 0, 3] rfl ?_
      exact ih v2 S1 K hK
def r_Ar_fill (a0 : Nat) (m0 : Nat) (x1 : Int32) (S : Sto) : Option Sto :=
  lt (nI m0) (fun v1 =>
  (r_Ar_fill_L5 a0 m0 x1 v1 fu 0 S).bind (fun (v2, S3) =>
  some S3))
set_option maxHeartbeats 4000000 in
set_option maxRecDepth 20000 in
theorem c0_Ar_fill {G : Gl} {L : Shp} (S : Sto) (a0 : Nat) (m0 : Nat) (x1 : Int32) (h0 : isInts L a0 m0) : Ct Y_Ar_fill G [rf G a0, .int x1] L S (fv L) (r_Ar_fill a0 m0 x1 S) := by
  refine ct_of (by decide +kernel) (Nat.le_of_ble_eq_true rfl) (fun g C => ?_)
  show VO g Y_Ar_fill G (fun z => Qm g Y_Ar_fill G (fv L z)) 0 0 0 [(0, rf G a0), (1, .int x1)] [] L S (r_Ar_fill a0 m0 x1 S) some
  unfold r_Ar_fill
  refine v_iconst (pc := 0) C d_Ar_fill_0 ic_0 ?_
  refine v_istore_n (pc := 1) (lv' := [(2, .int 0), (0, rf G a0), (1, .int x1)]) C d_Ar_fill_1 rfl (by decide) rfl ?_
  refine v_aload_n (pc := 2) C d_Ar_fill_2 rfl 1 rfl ?_
  refine v_alen (pc := 3) (v := nI m0) (t := 0) C h0 rfl rfl rfl d_Ar_fill_3 ?_
  refine v_lt (fun v1 => ?_)
  refine v_istore_n (pc := 4) (lv' := [(3, .int v1), (2, .int 0), (0, rf G a0), (1, .int x1)]) C d_Ar_fill_4 rfl (by decide) rfl ?_
  refine v_sub [2, 3, 1, 0] rfl ?_
  refine v_bind ?_
  refine w_Ar_fill_L5 C a0 m0 x1 v1 h0 fu 0 S _ (fun v2 S3 => ?_) 
  refine v_some ?_
  exact v_vret C d_Ar_fill_20 rfl ⟨Nat.zero_le _, Nat.zero_le _⟩ rfl rfl
