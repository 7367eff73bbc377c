/-! the law's own walk: rules, then a row a case -/
def Y_law (nm : String) : Ym := (⟨"BangSquareLaw", nm, "([I)Z"⟩, code, 4, ret, room_1)
section LawR
variable {g : Gm} {Y : Ym} {G : Gl} {β γ α δ : Type} {Qf : γ → State → Prop} {k n pc : Nat} {lv lv' : List (Nat × Value)} {st stk : List Value} {L : Shp} {S S1 : Sto} {o o1 o2 : Option β} {K : β → Option γ} {Yc : Ym} {avs As : List Value}
theorem v_aloadX (C : Cx g Y G) {q : Fin 4} {i : Nat} {a : Nat} (d : decode (mB Y) pc = .ok (.aload_n q, 1)) (hi : (q : Nat) = i) (p : Nat) (hl : lv[p]? = some (i, .ref a)) (kk : VO g Y G Qf k n (pc + 1) lv (.ref a :: st) L S o K) : VO g Y G Qf k n pc lv st L S o K :=
  fun x hx H locs ls h1 h2 h3 => lv_aload_n C.1 C.2.1 d hi (lv_at h3 p hl) (kk x hx H locs ls h1 h2 h3)
theorem v_sldx (C : Cx g Y G) {sb Ln j : Nat} {xs : Nat → Int32} {i : Int32} (hX : va_X sb Ln xs (g_s g) (g_s g).heap ∧ sb < gB G ∧ gB G ≤ (g_s g).heap.size) (hi : i = nI j) (hj : j < Ln) (hL : Ln < 2 ^ 31) (d : decode (mB Y) pc = .ok (.iaload, 1)) (kk : VO g Y G Qf k n (pc + 1) lv (.int (xs j) :: st) L S o K) : VO g Y G Qf k n pc lv (.int i :: .ref sb :: st) L S o K := by
  intro x hx H locs ls h1 h2 h3
  subst hi
  have e : (nI j).toNatClampNeg = j := nI_clamp (by omega)
  have q := va_sld (A := own G) C.1 C.2.1 hX.1 (Nat.lt_of_lt_of_le hX.2.1 hX.2.2) (Nat.not_le.mpr hX.2.1) h2 (vp_in_nI hj hL) d (by rw [e]; exact kk x hx H locs ls h1 h2 h3)
  exact q
theorem v_slenx (C : Cx g Y G) {sb Ln : Nat} {xs : Nat → Int32} (hX : va_X sb Ln xs (g_s g) (g_s g).heap ∧ sb < gB G ∧ gB G ≤ (g_s g).heap.size) (d : decode (mB Y) pc = .ok (.arraylength, 1)) (kk : VO g Y G Qf k n (pc + 1) lv (.int (nI Ln) :: st) L S o K) : VO g Y G Qf k n pc lv (.ref sb :: st) L S o K :=
  fun x hx H locs ls h1 h2 h3 => va_slen (A := own G) C.1 C.2.1 hX.1 (Nat.lt_of_lt_of_le hX.2.1 hX.2.2) (Nat.not_le.mpr hX.2.1) h2 d (kk x hx H locs ls h1 h2 h3)
theorem v_if_eq_t (C : Cx g Y G) {x : Int32} {off : Int} (d : decode (mB Y) pc = .ok (.ifCond .eq off, 3)) (tgt : Nat) (ht : (pc : Int) + off = (tgt : Int)) (hc : x = 0) (kk : VO g Y G Qf k n tgt lv st L S o K) : VO g Y G Qf k n pc lv (.int x :: st) L S o K :=
  fun z hx H locs ls h1 h2 h3 => lv_if_eq C.1 C.2.1 d ht (fun _ => kk z hx H locs ls h1 h2 h3) (fun c => absurd hc c)
theorem v_icmp_eq_t (C : Cx g Y G) {x y : Int32} {off : Int} (d : decode (mB Y) pc = .ok (.if_icmp .eq off, 3)) (tgt : Nat) (ht : (pc : Int) + off = (tgt : Int)) (hc : x = y) (kk : VO g Y G Qf k n tgt lv st L S o K) : VO g Y G Qf k n pc lv (.int y :: .int x :: st) L S o K :=
  fun z hx H locs ls h1 h2 h3 => lv_icmp_eq C.1 C.2.1 d ht (fun _ => kk z hx H locs ls h1 h2 h3) (fun c => absurd hc c)
theorem v_icmp_gt_t (C : Cx g Y G) {x y : Int32} {off : Int} (d : decode (mB Y) pc = .ok (.if_icmp .gt off, 3)) (tgt : Nat) (ht : (pc : Int) + off = (tgt : Int)) (hc : y < x) (kk : VO g Y G Qf k n tgt lv st L S o K) : VO g Y G Qf k n pc lv (.int y :: .int x :: st) L S o K :=
  fun z hx H locs ls h1 h2 h3 => lv_icmp_gt C.1 C.2.1 d ht (fun _ => kk z hx H locs ls h1 h2 h3) (fun c => absurd hc c)
theorem v_icmp_gt_f (C : Cx g Y G) {x y : Int32} {off : Int} (d : decode (mB Y) pc = .ok (.if_icmp .gt off, 3)) (tgt : Nat) (ht : (pc : Int) + off = (tgt : Int)) (hc : ¬ y < x) (kk : VO g Y G Qf k n (pc + 3) lv st L S o K) : VO g Y G Qf k n pc lv (.int y :: .int x :: st) L S o K :=
  fun z hx H locs ls h1 h2 h3 => lv_icmp_gt C.1 C.2.1 d ht (fun c => absurd c hc) (fun _ => kk z hx H locs ls h1 h2 h3)
/-- calls whose answer is known -/
theorem v_csi {od : Option (Int32 × Sto)} {r : Int32} (I : Inv g Y G Yc avs pc stk st L S) (hC : Ct Yc G avs L S (fi L) od) (e : od = some (r, S1)) (h0 : (mR Yc).cells = 0 ∧ (mR Yc).slots = 0) (hk : k ≤ (mR Y).cells ∧ n ≤ (mR Y).slots) (kk : VO g Y G Qf k n (pc + 3) lv (.int r :: st) L S1 o K) : VO g Y G Qf k n pc lv stk L S o K :=
  fun x hx => I.none (hC.at e) h0 hk (kk x hx)
theorem v_csp {od : Option Int32} {r : Int32} (I : Inv g Y G Yc avs pc stk st L S) (hC : Ct Yc G avs L S (fp L S) od) (e : od = some r) (h0 : (mR Yc).cells = 0 ∧ (mR Yc).slots = 0) (hk : k ≤ (mR Y).cells ∧ n ≤ (mR Y).slots) (kk : VO g Y G Qf k n (pc + 3) lv (.int r :: st) L S o K) : VO g Y G Qf k n pc lv stk L S o K :=
  fun x hx => I.none (hC.at e) h0 hk (kk x hx)
theorem v_cst {v r : Int32} (I : Inv g Y G Yc avs pc stk st L S) (hC : Ct Yc G avs L S (fp L S) (some v)) (e : v = r) (h0 : (mR Yc).cells = 0 ∧ (mR Yc).slots = 0) (hk : k ≤ (mR Y).cells ∧ n ≤ (mR Y).slots) (kk : VO g Y G Qf k n (pc + 3) lv (.int r :: st) L S o K) : VO g Y G Qf k n pc lv stk L S o K := by
  subst e
  exact fun x hx => I.none hC h0 hk (kk x hx)
theorem v_csa {od : Option (Int32 × Sto × Bool)} {r : Int32} {b : Bool} (I : Inv g Y G Yc avs pc stk st L S) (hC : Ct Yc G avs L S (fa L) od) (e : od = some (r, S1, b)) (hk : k + (mR Yc).cells ≤ (mR Y).cells) (hn : n + (mR Yc).slots ≤ (mR Y).slots) (kk : VO g Y G Qf (k + (mR Yc).cells) (n + (mR Yc).slots) (pc + 3) lv (.int r :: st) (if b = true then L ++ [(5, 0, [])] else L) S1 o K) : VO g Y G Qf k n pc lv stk L S o K :=
  fun x hx => I (fa L (r, S1, b)) (hC _ e) (Qf x) k n lv ⟨hk, hn⟩ (kk x hx)
theorem Ext.grow (h : Ext L) (b : Bool) : Ext (if b = true then L ++ [(5, 0, [])] else L) := by
  split
  · exact fun a x hx => ap_get (h a x hx)
  · exact h
end LawR
theorem ro_law_B_apart (nm : String) : roomy (Y_law nm) Y_B_apart := ⟨Nat.le_of_ble_eq_true rfl, Nat.le_of_ble_eq_true rfl⟩
theorem ro_law_B_ball (nm : String) : roomy (Y_law nm) Y_B_ball := ⟨Nat.le_of_ble_eq_true rfl, Nat.le_of_ble_eq_true rfl⟩
theorem ro_law_B_click (nm : String) : roomy (Y_law nm) Y_B_click := ⟨Nat.le_of_ble_eq_true rfl, Nat.le_of_ble_eq_true rfl⟩
theorem ro_law_B_comes (nm : String) : roomy (Y_law nm) Y_B_comes := ⟨Nat.le_of_ble_eq_true rfl, Nat.le_of_ble_eq_true rfl⟩
theorem ro_law_B_couple (nm : String) : roomy (Y_law nm) Y_B_couple := ⟨Nat.le_of_ble_eq_true rfl, Nat.le_of_ble_eq_true rfl⟩
theorem ro_law_B_ear (nm : String) : roomy (Y_law nm) Y_B_ear := ⟨Nat.le_of_ble_eq_true rfl, Nat.le_of_ble_eq_true rfl⟩
theorem ro_law_B_end (nm : String) : roomy (Y_law nm) Y_B_end := ⟨Nat.le_of_ble_eq_true rfl, Nat.le_of_ble_eq_true rfl⟩
theorem ro_law_B_fault (nm : String) : roomy (Y_law nm) Y_B_fault := ⟨Nat.le_of_ble_eq_true rfl, Nat.le_of_ble_eq_true rfl⟩
theorem ro_law_B_feed (nm : String) : roomy (Y_law nm) Y_B_feed := ⟨Nat.le_of_ble_eq_true rfl, Nat.le_of_ble_eq_true rfl⟩
theorem ro_law_B_fits (nm : String) : roomy (Y_law nm) Y_B_fits := ⟨Nat.le_of_ble_eq_true rfl, Nat.le_of_ble_eq_true rfl⟩
theorem ro_law_B_from (nm : String) : roomy (Y_law nm) Y_B_from := ⟨Nat.le_of_ble_eq_true rfl, Nat.le_of_ble_eq_true rfl⟩
theorem ro_law_B_gets (nm : String) : roomy (Y_law nm) Y_B_gets := ⟨Nat.le_of_ble_eq_true rfl, Nat.le_of_ble_eq_true rfl⟩
theorem ro_law_B_got (nm : String) : roomy (Y_law nm) Y_B_got := ⟨Nat.le_of_ble_eq_true rfl, Nat.le_of_ble_eq_true rfl⟩
theorem ro_law_B_hearer (nm : String) : roomy (Y_law nm) Y_B_hearer := ⟨Nat.le_of_ble_eq_true rfl, Nat.le_of_ble_eq_true rfl⟩
theorem ro_law_B_init (nm : String) : roomy (Y_law nm) Y_B_init := ⟨Nat.le_of_ble_eq_true rfl, Nat.le_of_ble_eq_true rfl⟩
theorem ro_law_B_look (nm : String) : roomy (Y_law nm) Y_B_look := ⟨Nat.le_of_ble_eq_true rfl, Nat.le_of_ble_eq_true rfl⟩
theorem ro_law_B_must (nm : String) : roomy (Y_law nm) Y_B_must := ⟨Nat.le_of_ble_eq_true rfl, Nat.le_of_ble_eq_true rfl⟩
theorem ro_law_B_noise (nm : String) : roomy (Y_law nm) Y_B_noise := ⟨Nat.le_of_ble_eq_true rfl, Nat.le_of_ble_eq_true rfl⟩
theorem ro_law_B_noises (nm : String) : roomy (Y_law nm) Y_B_noises := ⟨Nat.le_of_ble_eq_true rfl, Nat.le_of_ble_eq_true rfl⟩
theorem ro_law_B_over (nm : String) : roomy (Y_law nm) Y_B_over := ⟨Nat.le_of_ble_eq_true rfl, Nat.le_of_ble_eq_true rfl⟩
theorem ro_law_B_roofs (nm : String) : roomy (Y_law nm) Y_B_roofs := ⟨Nat.le_of_ble_eq_true rfl, Nat.le_of_ble_eq_true rfl⟩
theorem ro_law_B_set (nm : String) : roomy (Y_law nm) Y_B_set := ⟨Nat.le_of_ble_eq_true rfl, Nat.le_of_ble_eq_true rfl⟩
theorem ro_law_B_shot (nm : String) : roomy (Y_law nm) Y_B_shot := ⟨Nat.le_of_ble_eq_true rfl, Nat.le_of_ble_eq_true rfl⟩
theorem ro_law_B_spot (nm : String) : roomy (Y_law nm) Y_B_spot := ⟨Nat.le_of_ble_eq_true rfl, Nat.le_of_ble_eq_true rfl⟩
theorem ro_law_B_stories (nm : String) : roomy (Y_law nm) Y_B_stories := ⟨Nat.le_of_ble_eq_true rfl, Nat.le_of_ble_eq_true rfl⟩
theorem ro_law_B_story (nm : String) : roomy (Y_law nm) Y_B_story := ⟨Nat.le_of_ble_eq_true rfl, Nat.le_of_ble_eq_true rfl⟩
theorem ro_law_B_text (nm : String) : roomy (Y_law nm) Y_B_text := ⟨Nat.le_of_ble_eq_true rfl, Nat.le_of_ble_eq_true rfl⟩
theorem ro_law_B_trials (nm : String) : roomy (Y_law nm) Y_B_trials := ⟨Nat.le_of_ble_eq_true rfl, Nat.le_of_ble_eq_true rfl⟩
theorem ro_law_B_turning (nm : String) : roomy (Y_law nm) Y_B_turning := ⟨Nat.le_of_ble_eq_true rfl, Nat.le_of_ble_eq_true rfl⟩
theorem ro_law_B_voice (nm : String) : roomy (Y_law nm) Y_B_voice := ⟨Nat.le_of_ble_eq_true rfl, Nat.le_of_ble_eq_true rfl⟩
theorem ro_law_B_wall (nm : String) : roomy (Y_law nm) Y_B_wall := ⟨Nat.le_of_ble_eq_true rfl, Nat.le_of_ble_eq_true rfl⟩
theorem ro_law_M_apart (nm : String) : roomy (Y_law nm) Y_M_apart := ⟨Nat.le_of_ble_eq_true rfl, Nat.le_of_ble_eq_true rfl⟩
theorem ro_law_M_ball (nm : String) : roomy (Y_law nm) Y_M_ball := ⟨Nat.le_of_ble_eq_true rfl, Nat.le_of_ble_eq_true rfl⟩
theorem ro_law_M_click (nm : String) : roomy (Y_law nm) Y_M_click := ⟨Nat.le_of_ble_eq_true rfl, Nat.le_of_ble_eq_true rfl⟩
theorem ro_law_M_comes (nm : String) : roomy (Y_law nm) Y_M_comes := ⟨Nat.le_of_ble_eq_true rfl, Nat.le_of_ble_eq_true rfl⟩
theorem ro_law_M_couple (nm : String) : roomy (Y_law nm) Y_M_couple := ⟨Nat.le_of_ble_eq_true rfl, Nat.le_of_ble_eq_true rfl⟩
theorem ro_law_M_ear (nm : String) : roomy (Y_law nm) Y_M_ear := ⟨Nat.le_of_ble_eq_true rfl, Nat.le_of_ble_eq_true rfl⟩
theorem ro_law_M_end (nm : String) : roomy (Y_law nm) Y_M_end := ⟨Nat.le_of_ble_eq_true rfl, Nat.le_of_ble_eq_true rfl⟩
theorem ro_law_M_fault (nm : String) : roomy (Y_law nm) Y_M_fault := ⟨Nat.le_of_ble_eq_true rfl, Nat.le_of_ble_eq_true rfl⟩
theorem ro_law_M_feed (nm : String) : roomy (Y_law nm) Y_M_feed := ⟨Nat.le_of_ble_eq_true rfl, Nat.le_of_ble_eq_true rfl⟩
theorem ro_law_M_fits (nm : String) : roomy (Y_law nm) Y_M_fits := ⟨Nat.le_of_ble_eq_true rfl, Nat.le_of_ble_eq_true rfl⟩
theorem ro_law_M_from (nm : String) : roomy (Y_law nm) Y_M_from := ⟨Nat.le_of_ble_eq_true rfl, Nat.le_of_ble_eq_true rfl⟩
theorem ro_law_M_gets (nm : String) : roomy (Y_law nm) Y_M_gets := ⟨Nat.le_of_ble_eq_true rfl, Nat.le_of_ble_eq_true rfl⟩
theorem ro_law_M_got (nm : String) : roomy (Y_law nm) Y_M_got := ⟨Nat.le_of_ble_eq_true rfl, Nat.le_of_ble_eq_true rfl⟩
theorem ro_law_M_hearer (nm : String) : roomy (Y_law nm) Y_M_hearer := ⟨Nat.le_of_ble_eq_true rfl, Nat.le_of_ble_eq_true rfl⟩
theorem ro_law_M_init (nm : String) : roomy (Y_law nm) Y_M_init := ⟨Nat.le_of_ble_eq_true rfl, Nat.le_of_ble_eq_true rfl⟩
theorem ro_law_M_look (nm : String) : roomy (Y_law nm) Y_M_look := ⟨Nat.le_of_ble_eq_true rfl, Nat.le_of_ble_eq_true rfl⟩
theorem ro_law_M_must (nm : String) : roomy (Y_law nm) Y_M_must := ⟨Nat.le_of_ble_eq_true rfl, Nat.le_of_ble_eq_true rfl⟩
theorem ro_law_M_noise (nm : String) : roomy (Y_law nm) Y_M_noise := ⟨Nat.le_of_ble_eq_true rfl, Nat.le_of_ble_eq_true rfl⟩
theorem ro_law_M_noises (nm : String) : roomy (Y_law nm) Y_M_noises := ⟨Nat.le_of_ble_eq_true rfl, Nat.le_of_ble_eq_true rfl⟩
theorem ro_law_M_over (nm : String) : roomy (Y_law nm) Y_M_over := ⟨Nat.le_of_ble_eq_true rfl, Nat.le_of_ble_eq_true rfl⟩
theorem ro_law_M_roofs (nm : String) : roomy (Y_law nm) Y_M_roofs := ⟨Nat.le_of_ble_eq_true rfl, Nat.le_of_ble_eq_true rfl⟩
theorem ro_law_M_set (nm : String) : roomy (Y_law nm) Y_M_set := ⟨Nat.le_of_ble_eq_true rfl, Nat.le_of_ble_eq_true rfl⟩
theorem ro_law_M_shot (nm : String) : roomy (Y_law nm) Y_M_shot := ⟨Nat.le_of_ble_eq_true rfl, Nat.le_of_ble_eq_true rfl⟩
theorem ro_law_M_spot (nm : String) : roomy (Y_law nm) Y_M_spot := ⟨Nat.le_of_ble_eq_true rfl, Nat.le_of_ble_eq_true rfl⟩
theorem ro_law_M_stories (nm : String) : roomy (Y_law nm) Y_M_stories := ⟨Nat.le_of_ble_eq_true rfl, Nat.le_of_ble_eq_true rfl⟩
theorem ro_law_M_story (nm : String) : roomy (Y_law nm) Y_M_story := ⟨Nat.le_of_ble_eq_true rfl, Nat.le_of_ble_eq_true rfl⟩
theorem ro_law_M_text (nm : String) : roomy (Y_law nm) Y_M_text := ⟨Nat.le_of_ble_eq_true rfl, Nat.le_of_ble_eq_true rfl⟩
theorem ro_law_M_trials (nm : String) : roomy (Y_law nm) Y_M_trials := ⟨Nat.le_of_ble_eq_true rfl, Nat.le_of_ble_eq_true rfl⟩
theorem ro_law_M_turning (nm : String) : roomy (Y_law nm) Y_M_turning := ⟨Nat.le_of_ble_eq_true rfl, Nat.le_of_ble_eq_true rfl⟩
theorem ro_law_M_voice (nm : String) : roomy (Y_law nm) Y_M_voice := ⟨Nat.le_of_ble_eq_true rfl, Nat.le_of_ble_eq_true rfl⟩
theorem ro_law_M_wall (nm : String) : roomy (Y_law nm) Y_M_wall := ⟨Nat.le_of_ble_eq_true rfl, Nat.le_of_ble_eq_true rfl⟩
theorem d_law_0 {nm : String} : decode (mB (Y_law nm)) 0 = .ok (.new 7, 3) := d_law0_0
theorem d_law_3 {nm : String} : decode (mB (Y_law nm)) 3 = .ok (.dup, 1) := d_law0_3
theorem d_law_4 {nm : String} : decode (mB (Y_law nm)) 4 = .ok (.invokespecial 9, 3) := d_law0_4
theorem d_law_7 {nm : String} : decode (mB (Y_law nm)) 7 = .ok (.astore_n 1, 1) := d_law0_7
theorem d_law_8 {nm : String} : decode (mB (Y_law nm)) 8 = .ok (.new 10, 3) := d_law0_8
theorem d_law_11 {nm : String} : decode (mB (Y_law nm)) 11 = .ok (.dup, 1) := d_law0_11
theorem d_law_12 {nm : String} : decode (mB (Y_law nm)) 12 = .ok (.invokespecial 12, 3) := d_law0_12
theorem d_law_15 {nm : String} : decode (mB (Y_law nm)) 15 = .ok (.astore_n 2, 1) := d_law0_15
theorem d_law_16 {nm : String} : decode (mB (Y_law nm)) 16 = .ok (.iconst 0, 1) := d_law0_16
theorem d_law_17 {nm : String} : decode (mB (Y_law nm)) 17 = .ok (.istore_n 3, 1) := d_law0_17
theorem d_law_18 {nm : String} : decode (mB (Y_law nm)) 18 = .ok (.iload_n 3, 1) := d_law0_18
theorem d_law_19 {nm : String} : decode (mB (Y_law nm)) 19 = .ok (.aload_n 0, 1) := d_law0_19
theorem d_law_20 {nm : String} : decode (mB (Y_law nm)) 20 = .ok (.arraylength, 1) := d_law0_20
theorem d_law_21 {nm : String} : decode (mB (Y_law nm)) 21 = .ok (.bipush 6, 2) := d_law0_21
theorem d_law_23 {nm : String} : decode (mB (Y_law nm)) 23 = .ok (.isub, 1) := d_law0_23
theorem d_law_24 {nm : String} : decode (mB (Y_law nm)) 24 = .ok (.if_icmp .gt 1266, 3) := d_law0_24
theorem d_law_27 {nm : String} : decode (mB (Y_law nm)) 27 = .ok (.aload_n 0, 1) := d_law0_27
theorem d_law_28 {nm : String} : decode (mB (Y_law nm)) 28 = .ok (.iload_n 3, 1) := d_law0_28
theorem d_law_29 {nm : String} : decode (mB (Y_law nm)) 29 = .ok (.iaload, 1) := d_law0_29
theorem d_law_30 {nm : String} : decode (mB (Y_law nm)) 30 = .ok (.bipush 31, 2) := d_law0_30
theorem d_law_32 {nm : String} : decode (mB (Y_law nm)) 32 = .ok (.iand, 1) := d_law0_32
theorem d_law_33 {nm : String} : decode (mB (Y_law nm)) 33 = .ok (.tableswitch 1251 0 29 #[135, 168, 211, 290, 323, 376, 419, 482, 505, 528, 551, 584, 627, 660, 693, 716, 759, 782, 815, 868, 901, 944, 997, 1030, 1083, 1106, 1139, 1162, 1195, 1228], 135) := d_law0_33
theorem d_law_168 {nm : String} : decode (mB (Y_law nm)) 168 = .ok (.aload_n 1, 1) := d_law0_168
theorem d_law_169 {nm : String} : decode (mB (Y_law nm)) 169 = .ok (.aload_n 0, 1) := d_law0_169
theorem d_law_170 {nm : String} : decode (mB (Y_law nm)) 170 = .ok (.iload_n 3, 1) := d_law0_170
theorem d_law_171 {nm : String} : decode (mB (Y_law nm)) 171 = .ok (.iconst 1, 1) := d_law0_171
theorem d_law_172 {nm : String} : decode (mB (Y_law nm)) 172 = .ok (.iadd, 1) := d_law0_172
theorem d_law_173 {nm : String} : decode (mB (Y_law nm)) 173 = .ok (.iaload, 1) := d_law0_173
theorem d_law_174 {nm : String} : decode (mB (Y_law nm)) 174 = .ok (.aload_n 0, 1) := d_law0_174
theorem d_law_175 {nm : String} : decode (mB (Y_law nm)) 175 = .ok (.iload_n 3, 1) := d_law0_175
theorem d_law_176 {nm : String} : decode (mB (Y_law nm)) 176 = .ok (.iconst 2, 1) := d_law0_176
theorem d_law_177 {nm : String} : decode (mB (Y_law nm)) 177 = .ok (.iadd, 1) := d_law0_177
theorem d_law_178 {nm : String} : decode (mB (Y_law nm)) 178 = .ok (.iaload, 1) := d_law0_178
theorem d_law_179 {nm : String} : decode (mB (Y_law nm)) 179 = .ok (.invokevirtual 13, 3) := d_law0_179
theorem d_law_182 {nm : String} : decode (mB (Y_law nm)) 182 = .ok (.aload_n 2, 1) := d_law0_182
theorem d_law_183 {nm : String} : decode (mB (Y_law nm)) 183 = .ok (.aload_n 0, 1) := d_law0_183
theorem d_law_184 {nm : String} : decode (mB (Y_law nm)) 184 = .ok (.iload_n 3, 1) := d_law0_184
theorem d_law_185 {nm : String} : decode (mB (Y_law nm)) 185 = .ok (.iconst 1, 1) := d_law0_185
theorem d_law_186 {nm : String} : decode (mB (Y_law nm)) 186 = .ok (.iadd, 1) := d_law0_186
theorem d_law_187 {nm : String} : decode (mB (Y_law nm)) 187 = .ok (.iaload, 1) := d_law0_187
theorem d_law_188 {nm : String} : decode (mB (Y_law nm)) 188 = .ok (.aload_n 0, 1) := d_law0_188
theorem d_law_189 {nm : String} : decode (mB (Y_law nm)) 189 = .ok (.iload_n 3, 1) := d_law0_189
theorem d_law_190 {nm : String} : decode (mB (Y_law nm)) 190 = .ok (.iconst 2, 1) := d_law0_190
theorem d_law_191 {nm : String} : decode (mB (Y_law nm)) 191 = .ok (.iadd, 1) := d_law0_191
theorem d_law_192 {nm : String} : decode (mB (Y_law nm)) 192 = .ok (.iaload, 1) := d_law0_192
theorem d_law_193 {nm : String} : decode (mB (Y_law nm)) 193 = .ok (.invokevirtual 17, 3) := d_law0_193
theorem d_law_196 {nm : String} : decode (mB (Y_law nm)) 196 = .ok (.if_icmp .eq 1088, 3) := d_law0_196
theorem d_law_199 {nm : String} : decode (mB (Y_law nm)) 199 = .ok (.iconst 0, 1) := d_law0_199
theorem d_law_200 {nm : String} : decode (mB (Y_law nm)) 200 = .ok (.ireturn, 1) := d_law0_200
theorem d_law_201 {nm : String} : decode (mB (Y_law nm)) 201 = .ok (.aload_n 1, 1) := d_law0_201
theorem d_law_202 {nm : String} : decode (mB (Y_law nm)) 202 = .ok (.aload_n 0, 1) := d_law0_202
theorem d_law_203 {nm : String} : decode (mB (Y_law nm)) 203 = .ok (.iload_n 3, 1) := d_law0_203
theorem d_law_204 {nm : String} : decode (mB (Y_law nm)) 204 = .ok (.iconst 1, 1) := d_law0_204
theorem d_law_205 {nm : String} : decode (mB (Y_law nm)) 205 = .ok (.iadd, 1) := d_law0_205
theorem d_law_206 {nm : String} : decode (mB (Y_law nm)) 206 = .ok (.iaload, 1) := d_law0_206
theorem d_law_207 {nm : String} : decode (mB (Y_law nm)) 207 = .ok (.aload_n 0, 1) := d_law0_207
theorem d_law_208 {nm : String} : decode (mB (Y_law nm)) 208 = .ok (.iload_n 3, 1) := d_law0_208
theorem d_law_209 {nm : String} : decode (mB (Y_law nm)) 209 = .ok (.iconst 2, 1) := d_law0_209
theorem d_law_210 {nm : String} : decode (mB (Y_law nm)) 210 = .ok (.iadd, 1) := d_law0_210
theorem d_law_211 {nm : String} : decode (mB (Y_law nm)) 211 = .ok (.iaload, 1) := d_law0_211
theorem d_law_212 {nm : String} : decode (mB (Y_law nm)) 212 = .ok (.aload_n 0, 1) := d_law0_212
theorem d_law_213 {nm : String} : decode (mB (Y_law nm)) 213 = .ok (.iload_n 3, 1) := d_law0_213
theorem d_law_214 {nm : String} : decode (mB (Y_law nm)) 214 = .ok (.iconst 3, 1) := d_law0_214
theorem d_law_215 {nm : String} : decode (mB (Y_law nm)) 215 = .ok (.iadd, 1) := d_law0_215
theorem d_law_216 {nm : String} : decode (mB (Y_law nm)) 216 = .ok (.iaload, 1) := d_law0_216
theorem d_law_217 {nm : String} : decode (mB (Y_law nm)) 217 = .ok (.invokevirtual 18, 3) := d_law0_217
theorem d_law_220 {nm : String} : decode (mB (Y_law nm)) 220 = .ok (.aload_n 2, 1) := d_law0_220
theorem d_law_221 {nm : String} : decode (mB (Y_law nm)) 221 = .ok (.aload_n 0, 1) := d_law0_221
theorem d_law_222 {nm : String} : decode (mB (Y_law nm)) 222 = .ok (.iload_n 3, 1) := d_law0_222
theorem d_law_223 {nm : String} : decode (mB (Y_law nm)) 223 = .ok (.iconst 1, 1) := d_law0_223
theorem d_law_224 {nm : String} : decode (mB (Y_law nm)) 224 = .ok (.iadd, 1) := d_law0_224
theorem d_law_225 {nm : String} : decode (mB (Y_law nm)) 225 = .ok (.iaload, 1) := d_law0_225
theorem d_law_226 {nm : String} : decode (mB (Y_law nm)) 226 = .ok (.aload_n 0, 1) := d_law0_226
theorem d_law_227 {nm : String} : decode (mB (Y_law nm)) 227 = .ok (.iload_n 3, 1) := d_law0_227
theorem d_law_228 {nm : String} : decode (mB (Y_law nm)) 228 = .ok (.iconst 2, 1) := d_law0_228
theorem d_law_229 {nm : String} : decode (mB (Y_law nm)) 229 = .ok (.iadd, 1) := d_law0_229
theorem d_law_230 {nm : String} : decode (mB (Y_law nm)) 230 = .ok (.iaload, 1) := d_law0_230
theorem d_law_231 {nm : String} : decode (mB (Y_law nm)) 231 = .ok (.aload_n 0, 1) := d_law0_231
theorem d_law_232 {nm : String} : decode (mB (Y_law nm)) 232 = .ok (.iload_n 3, 1) := d_law0_232
theorem d_law_233 {nm : String} : decode (mB (Y_law nm)) 233 = .ok (.iconst 3, 1) := d_law0_233
theorem d_law_234 {nm : String} : decode (mB (Y_law nm)) 234 = .ok (.iadd, 1) := d_law0_234
theorem d_law_235 {nm : String} : decode (mB (Y_law nm)) 235 = .ok (.iaload, 1) := d_law0_235
theorem d_law_236 {nm : String} : decode (mB (Y_law nm)) 236 = .ok (.invokevirtual 22, 3) := d_law0_236
theorem d_law_239 {nm : String} : decode (mB (Y_law nm)) 239 = .ok (.if_icmp .eq 1045, 3) := d_law0_239
theorem d_law_242 {nm : String} : decode (mB (Y_law nm)) 242 = .ok (.iconst 0, 1) := d_law0_242
theorem d_law_243 {nm : String} : decode (mB (Y_law nm)) 243 = .ok (.ireturn, 1) := d_law0_243
theorem d_law_244 {nm : String} : decode (mB (Y_law nm)) 244 = .ok (.aload_n 1, 1) := d_law0_244
theorem d_law_245 {nm : String} : decode (mB (Y_law nm)) 245 = .ok (.aload_n 0, 1) := d_law0_245
theorem d_law_246 {nm : String} : decode (mB (Y_law nm)) 246 = .ok (.iload_n 3, 1) := d_law0_246
theorem d_law_247 {nm : String} : decode (mB (Y_law nm)) 247 = .ok (.iconst 1, 1) := d_law0_247
theorem d_law_248 {nm : String} : decode (mB (Y_law nm)) 248 = .ok (.iadd, 1) := d_law0_248
theorem d_law_249 {nm : String} : decode (mB (Y_law nm)) 249 = .ok (.iaload, 1) := d_law0_249
theorem d_law_250 {nm : String} : decode (mB (Y_law nm)) 250 = .ok (.ifCond .eq 7, 3) := d_law0_250
theorem d_law_253 {nm : String} : decode (mB (Y_law nm)) 253 = .ok (.iconst 1, 1) := d_law0_253
theorem d_law_254 {nm : String} : decode (mB (Y_law nm)) 254 = .ok (.goto 4, 3) := d_law0_254
theorem d_law_257 {nm : String} : decode (mB (Y_law nm)) 257 = .ok (.iconst 0, 1) := d_law0_257
theorem d_law_258 {nm : String} : decode (mB (Y_law nm)) 258 = .ok (.aload_n 0, 1) := d_law0_258
theorem d_law_259 {nm : String} : decode (mB (Y_law nm)) 259 = .ok (.iload_n 3, 1) := d_law0_259
theorem d_law_260 {nm : String} : decode (mB (Y_law nm)) 260 = .ok (.iconst 2, 1) := d_law0_260
theorem d_law_261 {nm : String} : decode (mB (Y_law nm)) 261 = .ok (.iadd, 1) := d_law0_261
theorem d_law_262 {nm : String} : decode (mB (Y_law nm)) 262 = .ok (.iaload, 1) := d_law0_262
theorem d_law_263 {nm : String} : decode (mB (Y_law nm)) 263 = .ok (.aload_n 0, 1) := d_law0_263
theorem d_law_264 {nm : String} : decode (mB (Y_law nm)) 264 = .ok (.iload_n 3, 1) := d_law0_264
theorem d_law_265 {nm : String} : decode (mB (Y_law nm)) 265 = .ok (.iconst 3, 1) := d_law0_265
theorem d_law_266 {nm : String} : decode (mB (Y_law nm)) 266 = .ok (.iadd, 1) := d_law0_266
theorem d_law_267 {nm : String} : decode (mB (Y_law nm)) 267 = .ok (.iaload, 1) := d_law0_267
theorem d_law_268 {nm : String} : decode (mB (Y_law nm)) 268 = .ok (.aload_n 0, 1) := d_law0_268
theorem d_law_269 {nm : String} : decode (mB (Y_law nm)) 269 = .ok (.iload_n 3, 1) := d_law0_269
theorem d_law_270 {nm : String} : decode (mB (Y_law nm)) 270 = .ok (.iconst 4, 1) := d_law0_270
theorem d_law_271 {nm : String} : decode (mB (Y_law nm)) 271 = .ok (.iadd, 1) := d_law0_271
theorem d_law_272 {nm : String} : decode (mB (Y_law nm)) 272 = .ok (.iaload, 1) := d_law0_272
theorem d_law_273 {nm : String} : decode (mB (Y_law nm)) 273 = .ok (.aload_n 0, 1) := d_law0_273
theorem d_law_274 {nm : String} : decode (mB (Y_law nm)) 274 = .ok (.iload_n 3, 1) := d_law0_274
theorem d_law_275 {nm : String} : decode (mB (Y_law nm)) 275 = .ok (.iconst 5, 1) := d_law0_275
theorem d_law_276 {nm : String} : decode (mB (Y_law nm)) 276 = .ok (.iadd, 1) := d_law0_276
theorem d_law_277 {nm : String} : decode (mB (Y_law nm)) 277 = .ok (.iaload, 1) := d_law0_277
theorem d_law_278 {nm : String} : decode (mB (Y_law nm)) 278 = .ok (.invokevirtual 23, 3) := d_law0_278
theorem d_law_281 {nm : String} : decode (mB (Y_law nm)) 281 = .ok (.aload_n 2, 1) := d_law0_281
theorem d_law_282 {nm : String} : decode (mB (Y_law nm)) 282 = .ok (.aload_n 0, 1) := d_law0_282
theorem d_law_283 {nm : String} : decode (mB (Y_law nm)) 283 = .ok (.iload_n 3, 1) := d_law0_283
theorem d_law_284 {nm : String} : decode (mB (Y_law nm)) 284 = .ok (.iconst 1, 1) := d_law0_284
theorem d_law_285 {nm : String} : decode (mB (Y_law nm)) 285 = .ok (.iadd, 1) := d_law0_285
theorem d_law_286 {nm : String} : decode (mB (Y_law nm)) 286 = .ok (.iaload, 1) := d_law0_286
theorem d_law_287 {nm : String} : decode (mB (Y_law nm)) 287 = .ok (.ifCond .eq 7, 3) := d_law0_287
theorem d_law_290 {nm : String} : decode (mB (Y_law nm)) 290 = .ok (.iconst 1, 1) := d_law0_290
theorem d_law_291 {nm : String} : decode (mB (Y_law nm)) 291 = .ok (.goto 4, 3) := d_law0_291
theorem d_law_294 {nm : String} : decode (mB (Y_law nm)) 294 = .ok (.iconst 0, 1) := d_law0_294
theorem d_law_295 {nm : String} : decode (mB (Y_law nm)) 295 = .ok (.aload_n 0, 1) := d_law0_295
theorem d_law_296 {nm : String} : decode (mB (Y_law nm)) 296 = .ok (.iload_n 3, 1) := d_law0_296
theorem d_law_297 {nm : String} : decode (mB (Y_law nm)) 297 = .ok (.iconst 2, 1) := d_law0_297
theorem d_law_298 {nm : String} : decode (mB (Y_law nm)) 298 = .ok (.iadd, 1) := d_law0_298
theorem d_law_299 {nm : String} : decode (mB (Y_law nm)) 299 = .ok (.iaload, 1) := d_law0_299
theorem d_law_300 {nm : String} : decode (mB (Y_law nm)) 300 = .ok (.aload_n 0, 1) := d_law0_300
theorem d_law_301 {nm : String} : decode (mB (Y_law nm)) 301 = .ok (.iload_n 3, 1) := d_law0_301
theorem d_law_302 {nm : String} : decode (mB (Y_law nm)) 302 = .ok (.iconst 3, 1) := d_law0_302
theorem d_law_303 {nm : String} : decode (mB (Y_law nm)) 303 = .ok (.iadd, 1) := d_law0_303
theorem d_law_304 {nm : String} : decode (mB (Y_law nm)) 304 = .ok (.iaload, 1) := d_law0_304
theorem d_law_305 {nm : String} : decode (mB (Y_law nm)) 305 = .ok (.aload_n 0, 1) := d_law0_305
theorem d_law_306 {nm : String} : decode (mB (Y_law nm)) 306 = .ok (.iload_n 3, 1) := d_law0_306
theorem d_law_307 {nm : String} : decode (mB (Y_law nm)) 307 = .ok (.iconst 4, 1) := d_law0_307
theorem d_law_308 {nm : String} : decode (mB (Y_law nm)) 308 = .ok (.iadd, 1) := d_law0_308
theorem d_law_309 {nm : String} : decode (mB (Y_law nm)) 309 = .ok (.iaload, 1) := d_law0_309
theorem d_law_310 {nm : String} : decode (mB (Y_law nm)) 310 = .ok (.aload_n 0, 1) := d_law0_310
theorem d_law_311 {nm : String} : decode (mB (Y_law nm)) 311 = .ok (.iload_n 3, 1) := d_law0_311
theorem d_law_312 {nm : String} : decode (mB (Y_law nm)) 312 = .ok (.iconst 5, 1) := d_law0_312
theorem d_law_313 {nm : String} : decode (mB (Y_law nm)) 313 = .ok (.iadd, 1) := d_law0_313
theorem d_law_314 {nm : String} : decode (mB (Y_law nm)) 314 = .ok (.iaload, 1) := d_law0_314
theorem d_law_315 {nm : String} : decode (mB (Y_law nm)) 315 = .ok (.invokevirtual 27, 3) := d_law0_315
theorem d_law_318 {nm : String} : decode (mB (Y_law nm)) 318 = .ok (.if_icmp .eq 966, 3) := d_law0_318
theorem d_law_321 {nm : String} : decode (mB (Y_law nm)) 321 = .ok (.iconst 0, 1) := d_law0_321
theorem d_law_322 {nm : String} : decode (mB (Y_law nm)) 322 = .ok (.ireturn, 1) := d_law0_322
theorem d_law_323 {nm : String} : decode (mB (Y_law nm)) 323 = .ok (.aload_n 1, 1) := d_law0_323
theorem d_law_324 {nm : String} : decode (mB (Y_law nm)) 324 = .ok (.aload_n 0, 1) := d_law0_324
theorem d_law_325 {nm : String} : decode (mB (Y_law nm)) 325 = .ok (.iload_n 3, 1) := d_law0_325
theorem d_law_326 {nm : String} : decode (mB (Y_law nm)) 326 = .ok (.iconst 1, 1) := d_law0_326
theorem d_law_327 {nm : String} : decode (mB (Y_law nm)) 327 = .ok (.iadd, 1) := d_law0_327
theorem d_law_328 {nm : String} : decode (mB (Y_law nm)) 328 = .ok (.iaload, 1) := d_law0_328
theorem d_law_329 {nm : String} : decode (mB (Y_law nm)) 329 = .ok (.aload_n 0, 1) := d_law0_329
theorem d_law_330 {nm : String} : decode (mB (Y_law nm)) 330 = .ok (.iload_n 3, 1) := d_law0_330
theorem d_law_331 {nm : String} : decode (mB (Y_law nm)) 331 = .ok (.iconst 2, 1) := d_law0_331
theorem d_law_332 {nm : String} : decode (mB (Y_law nm)) 332 = .ok (.iadd, 1) := d_law0_332
theorem d_law_333 {nm : String} : decode (mB (Y_law nm)) 333 = .ok (.iaload, 1) := d_law0_333
theorem d_law_334 {nm : String} : decode (mB (Y_law nm)) 334 = .ok (.invokevirtual 28, 3) := d_law0_334
theorem d_law_337 {nm : String} : decode (mB (Y_law nm)) 337 = .ok (.aload_n 2, 1) := d_law0_337
theorem d_law_338 {nm : String} : decode (mB (Y_law nm)) 338 = .ok (.aload_n 0, 1) := d_law0_338
theorem d_law_339 {nm : String} : decode (mB (Y_law nm)) 339 = .ok (.iload_n 3, 1) := d_law0_339
theorem d_law_340 {nm : String} : decode (mB (Y_law nm)) 340 = .ok (.iconst 1, 1) := d_law0_340
theorem d_law_341 {nm : String} : decode (mB (Y_law nm)) 341 = .ok (.iadd, 1) := d_law0_341
theorem d_law_342 {nm : String} : decode (mB (Y_law nm)) 342 = .ok (.iaload, 1) := d_law0_342
theorem d_law_343 {nm : String} : decode (mB (Y_law nm)) 343 = .ok (.aload_n 0, 1) := d_law0_343
theorem d_law_344 {nm : String} : decode (mB (Y_law nm)) 344 = .ok (.iload_n 3, 1) := d_law0_344
theorem d_law_345 {nm : String} : decode (mB (Y_law nm)) 345 = .ok (.iconst 2, 1) := d_law0_345
theorem d_law_346 {nm : String} : decode (mB (Y_law nm)) 346 = .ok (.iadd, 1) := d_law0_346
theorem d_law_347 {nm : String} : decode (mB (Y_law nm)) 347 = .ok (.iaload, 1) := d_law0_347
theorem d_law_348 {nm : String} : decode (mB (Y_law nm)) 348 = .ok (.invokevirtual 31, 3) := d_law0_348
theorem d_law_351 {nm : String} : decode (mB (Y_law nm)) 351 = .ok (.if_icmp .eq 933, 3) := d_law0_351
theorem d_law_354 {nm : String} : decode (mB (Y_law nm)) 354 = .ok (.iconst 0, 1) := d_law0_354
theorem d_law_355 {nm : String} : decode (mB (Y_law nm)) 355 = .ok (.ireturn, 1) := d_law0_355
theorem d_law_356 {nm : String} : decode (mB (Y_law nm)) 356 = .ok (.aload_n 1, 1) := d_law0_356
theorem d_law_357 {nm : String} : decode (mB (Y_law nm)) 357 = .ok (.aload_n 0, 1) := d_law0_357
theorem d_law_358 {nm : String} : decode (mB (Y_law nm)) 358 = .ok (.iload_n 3, 1) := d_law0_358
theorem d_law_359 {nm : String} : decode (mB (Y_law nm)) 359 = .ok (.iconst 1, 1) := d_law0_359
theorem d_law_360 {nm : String} : decode (mB (Y_law nm)) 360 = .ok (.iadd, 1) := d_law0_360
theorem d_law_361 {nm : String} : decode (mB (Y_law nm)) 361 = .ok (.iaload, 1) := d_law0_361
theorem d_law_362 {nm : String} : decode (mB (Y_law nm)) 362 = .ok (.aload_n 0, 1) := d_law0_362
theorem d_law_363 {nm : String} : decode (mB (Y_law nm)) 363 = .ok (.iload_n 3, 1) := d_law0_363
theorem d_law_364 {nm : String} : decode (mB (Y_law nm)) 364 = .ok (.iconst 2, 1) := d_law0_364
theorem d_law_365 {nm : String} : decode (mB (Y_law nm)) 365 = .ok (.iadd, 1) := d_law0_365
theorem d_law_366 {nm : String} : decode (mB (Y_law nm)) 366 = .ok (.iaload, 1) := d_law0_366
theorem d_law_367 {nm : String} : decode (mB (Y_law nm)) 367 = .ok (.aload_n 0, 1) := d_law0_367
theorem d_law_368 {nm : String} : decode (mB (Y_law nm)) 368 = .ok (.iload_n 3, 1) := d_law0_368
theorem d_law_369 {nm : String} : decode (mB (Y_law nm)) 369 = .ok (.iconst 3, 1) := d_law0_369
theorem d_law_370 {nm : String} : decode (mB (Y_law nm)) 370 = .ok (.iadd, 1) := d_law0_370
theorem d_law_371 {nm : String} : decode (mB (Y_law nm)) 371 = .ok (.iaload, 1) := d_law0_371
theorem d_law_372 {nm : String} : decode (mB (Y_law nm)) 372 = .ok (.aload_n 0, 1) := d_law0_372
theorem d_law_373 {nm : String} : decode (mB (Y_law nm)) 373 = .ok (.iload_n 3, 1) := d_law0_373
theorem d_law_374 {nm : String} : decode (mB (Y_law nm)) 374 = .ok (.iconst 4, 1) := d_law0_374
theorem d_law_375 {nm : String} : decode (mB (Y_law nm)) 375 = .ok (.iadd, 1) := d_law0_375
theorem d_law_376 {nm : String} : decode (mB (Y_law nm)) 376 = .ok (.iaload, 1) := d_law0_376
theorem d_law_377 {nm : String} : decode (mB (Y_law nm)) 377 = .ok (.invokevirtual 32, 3) := d_law0_377
theorem d_law_380 {nm : String} : decode (mB (Y_law nm)) 380 = .ok (.aload_n 2, 1) := d_law0_380
theorem d_law_381 {nm : String} : decode (mB (Y_law nm)) 381 = .ok (.aload_n 0, 1) := d_law0_381
theorem d_law_382 {nm : String} : decode (mB (Y_law nm)) 382 = .ok (.iload_n 3, 1) := d_law0_382
theorem d_law_383 {nm : String} : decode (mB (Y_law nm)) 383 = .ok (.iconst 1, 1) := d_law0_383
theorem d_law_384 {nm : String} : decode (mB (Y_law nm)) 384 = .ok (.iadd, 1) := d_law0_384
theorem d_law_385 {nm : String} : decode (mB (Y_law nm)) 385 = .ok (.iaload, 1) := d_law0_385
theorem d_law_386 {nm : String} : decode (mB (Y_law nm)) 386 = .ok (.aload_n 0, 1) := d_law0_386
theorem d_law_387 {nm : String} : decode (mB (Y_law nm)) 387 = .ok (.iload_n 3, 1) := d_law0_387
theorem d_law_388 {nm : String} : decode (mB (Y_law nm)) 388 = .ok (.iconst 2, 1) := d_law0_388
theorem d_law_389 {nm : String} : decode (mB (Y_law nm)) 389 = .ok (.iadd, 1) := d_law0_389
theorem d_law_390 {nm : String} : decode (mB (Y_law nm)) 390 = .ok (.iaload, 1) := d_law0_390
theorem d_law_391 {nm : String} : decode (mB (Y_law nm)) 391 = .ok (.aload_n 0, 1) := d_law0_391
theorem d_law_392 {nm : String} : decode (mB (Y_law nm)) 392 = .ok (.iload_n 3, 1) := d_law0_392
theorem d_law_393 {nm : String} : decode (mB (Y_law nm)) 393 = .ok (.iconst 3, 1) := d_law0_393
theorem d_law_394 {nm : String} : decode (mB (Y_law nm)) 394 = .ok (.iadd, 1) := d_law0_394
theorem d_law_395 {nm : String} : decode (mB (Y_law nm)) 395 = .ok (.iaload, 1) := d_law0_395
theorem d_law_396 {nm : String} : decode (mB (Y_law nm)) 396 = .ok (.aload_n 0, 1) := d_law0_396
theorem d_law_397 {nm : String} : decode (mB (Y_law nm)) 397 = .ok (.iload_n 3, 1) := d_law0_397
theorem d_law_398 {nm : String} : decode (mB (Y_law nm)) 398 = .ok (.iconst 4, 1) := d_law0_398
theorem d_law_399 {nm : String} : decode (mB (Y_law nm)) 399 = .ok (.iadd, 1) := d_law0_399
theorem d_law_400 {nm : String} : decode (mB (Y_law nm)) 400 = .ok (.iaload, 1) := d_law0_400
theorem d_law_401 {nm : String} : decode (mB (Y_law nm)) 401 = .ok (.invokevirtual 36, 3) := d_law0_401
theorem d_law_404 {nm : String} : decode (mB (Y_law nm)) 404 = .ok (.if_icmp .eq 880, 3) := d_law0_404
theorem d_law_407 {nm : String} : decode (mB (Y_law nm)) 407 = .ok (.iconst 0, 1) := d_law0_407
theorem d_law_408 {nm : String} : decode (mB (Y_law nm)) 408 = .ok (.ireturn, 1) := d_law0_408
theorem d_law_409 {nm : String} : decode (mB (Y_law nm)) 409 = .ok (.aload_n 1, 1) := d_law0_409
theorem d_law_410 {nm : String} : decode (mB (Y_law nm)) 410 = .ok (.aload_n 0, 1) := d_law0_410
theorem d_law_411 {nm : String} : decode (mB (Y_law nm)) 411 = .ok (.iload_n 3, 1) := d_law0_411
theorem d_law_412 {nm : String} : decode (mB (Y_law nm)) 412 = .ok (.iconst 1, 1) := d_law0_412
theorem d_law_413 {nm : String} : decode (mB (Y_law nm)) 413 = .ok (.iadd, 1) := d_law0_413
theorem d_law_414 {nm : String} : decode (mB (Y_law nm)) 414 = .ok (.iaload, 1) := d_law0_414
theorem d_law_415 {nm : String} : decode (mB (Y_law nm)) 415 = .ok (.aload_n 0, 1) := d_law0_415
theorem d_law_416 {nm : String} : decode (mB (Y_law nm)) 416 = .ok (.iload_n 3, 1) := d_law0_416
theorem d_law_417 {nm : String} : decode (mB (Y_law nm)) 417 = .ok (.iconst 2, 1) := d_law0_417
theorem d_law_418 {nm : String} : decode (mB (Y_law nm)) 418 = .ok (.iadd, 1) := d_law0_418
theorem d_law_419 {nm : String} : decode (mB (Y_law nm)) 419 = .ok (.iaload, 1) := d_law0_419
theorem d_law_420 {nm : String} : decode (mB (Y_law nm)) 420 = .ok (.aload_n 0, 1) := d_law0_420
theorem d_law_421 {nm : String} : decode (mB (Y_law nm)) 421 = .ok (.iload_n 3, 1) := d_law0_421
theorem d_law_422 {nm : String} : decode (mB (Y_law nm)) 422 = .ok (.iconst 3, 1) := d_law0_422
theorem d_law_423 {nm : String} : decode (mB (Y_law nm)) 423 = .ok (.iadd, 1) := d_law0_423
theorem d_law_424 {nm : String} : decode (mB (Y_law nm)) 424 = .ok (.iaload, 1) := d_law0_424
theorem d_law_425 {nm : String} : decode (mB (Y_law nm)) 425 = .ok (.invokevirtual 37, 3) := d_law0_425
theorem d_law_428 {nm : String} : decode (mB (Y_law nm)) 428 = .ok (.aload_n 2, 1) := d_law0_428
theorem d_law_429 {nm : String} : decode (mB (Y_law nm)) 429 = .ok (.aload_n 0, 1) := d_law0_429
theorem d_law_430 {nm : String} : decode (mB (Y_law nm)) 430 = .ok (.iload_n 3, 1) := d_law0_430
theorem d_law_431 {nm : String} : decode (mB (Y_law nm)) 431 = .ok (.iconst 1, 1) := d_law0_431
theorem d_law_432 {nm : String} : decode (mB (Y_law nm)) 432 = .ok (.iadd, 1) := d_law0_432
theorem d_law_433 {nm : String} : decode (mB (Y_law nm)) 433 = .ok (.iaload, 1) := d_law0_433
theorem d_law_434 {nm : String} : decode (mB (Y_law nm)) 434 = .ok (.aload_n 0, 1) := d_law0_434
theorem d_law_435 {nm : String} : decode (mB (Y_law nm)) 435 = .ok (.iload_n 3, 1) := d_law0_435
theorem d_law_436 {nm : String} : decode (mB (Y_law nm)) 436 = .ok (.iconst 2, 1) := d_law0_436
theorem d_law_437 {nm : String} : decode (mB (Y_law nm)) 437 = .ok (.iadd, 1) := d_law0_437
theorem d_law_438 {nm : String} : decode (mB (Y_law nm)) 438 = .ok (.iaload, 1) := d_law0_438
theorem d_law_439 {nm : String} : decode (mB (Y_law nm)) 439 = .ok (.aload_n 0, 1) := d_law0_439
theorem d_law_440 {nm : String} : decode (mB (Y_law nm)) 440 = .ok (.iload_n 3, 1) := d_law0_440
theorem d_law_441 {nm : String} : decode (mB (Y_law nm)) 441 = .ok (.iconst 3, 1) := d_law0_441
theorem d_law_442 {nm : String} : decode (mB (Y_law nm)) 442 = .ok (.iadd, 1) := d_law0_442
theorem d_law_443 {nm : String} : decode (mB (Y_law nm)) 443 = .ok (.iaload, 1) := d_law0_443
theorem d_law_444 {nm : String} : decode (mB (Y_law nm)) 444 = .ok (.invokevirtual 40, 3) := d_law0_444
theorem d_law_447 {nm : String} : decode (mB (Y_law nm)) 447 = .ok (.if_icmp .eq 837, 3) := d_law0_447
theorem d_law_450 {nm : String} : decode (mB (Y_law nm)) 450 = .ok (.iconst 0, 1) := d_law0_450
theorem d_law_451 {nm : String} : decode (mB (Y_law nm)) 451 = .ok (.ireturn, 1) := d_law0_451
theorem d_law_452 {nm : String} : decode (mB (Y_law nm)) 452 = .ok (.aload_n 1, 1) := d_law0_452
theorem d_law_453 {nm : String} : decode (mB (Y_law nm)) 453 = .ok (.aload_n 0, 1) := d_law0_453
theorem d_law_454 {nm : String} : decode (mB (Y_law nm)) 454 = .ok (.iload_n 3, 1) := d_law0_454
theorem d_law_455 {nm : String} : decode (mB (Y_law nm)) 455 = .ok (.iconst 1, 1) := d_law0_455
theorem d_law_456 {nm : String} : decode (mB (Y_law nm)) 456 = .ok (.iadd, 1) := d_law0_456
theorem d_law_457 {nm : String} : decode (mB (Y_law nm)) 457 = .ok (.iaload, 1) := d_law0_457
theorem d_law_458 {nm : String} : decode (mB (Y_law nm)) 458 = .ok (.aload_n 0, 1) := d_law0_458
theorem d_law_459 {nm : String} : decode (mB (Y_law nm)) 459 = .ok (.iload_n 3, 1) := d_law0_459
theorem d_law_460 {nm : String} : decode (mB (Y_law nm)) 460 = .ok (.iconst 2, 1) := d_law0_460
theorem d_law_461 {nm : String} : decode (mB (Y_law nm)) 461 = .ok (.iadd, 1) := d_law0_461
theorem d_law_462 {nm : String} : decode (mB (Y_law nm)) 462 = .ok (.iaload, 1) := d_law0_462
theorem d_law_463 {nm : String} : decode (mB (Y_law nm)) 463 = .ok (.aload_n 0, 1) := d_law0_463
theorem d_law_464 {nm : String} : decode (mB (Y_law nm)) 464 = .ok (.iload_n 3, 1) := d_law0_464
theorem d_law_465 {nm : String} : decode (mB (Y_law nm)) 465 = .ok (.iconst 3, 1) := d_law0_465
theorem d_law_466 {nm : String} : decode (mB (Y_law nm)) 466 = .ok (.iadd, 1) := d_law0_466
theorem d_law_467 {nm : String} : decode (mB (Y_law nm)) 467 = .ok (.iaload, 1) := d_law0_467
theorem d_law_468 {nm : String} : decode (mB (Y_law nm)) 468 = .ok (.aload_n 0, 1) := d_law0_468
theorem d_law_469 {nm : String} : decode (mB (Y_law nm)) 469 = .ok (.iload_n 3, 1) := d_law0_469
theorem d_law_470 {nm : String} : decode (mB (Y_law nm)) 470 = .ok (.iconst 4, 1) := d_law0_470
theorem d_law_471 {nm : String} : decode (mB (Y_law nm)) 471 = .ok (.iadd, 1) := d_law0_471
theorem d_law_472 {nm : String} : decode (mB (Y_law nm)) 472 = .ok (.iaload, 1) := d_law0_472
theorem d_law_473 {nm : String} : decode (mB (Y_law nm)) 473 = .ok (.aload_n 0, 1) := d_law0_473
theorem d_law_474 {nm : String} : decode (mB (Y_law nm)) 474 = .ok (.iload_n 3, 1) := d_law0_474
theorem d_law_475 {nm : String} : decode (mB (Y_law nm)) 475 = .ok (.iconst 5, 1) := d_law0_475
theorem d_law_476 {nm : String} : decode (mB (Y_law nm)) 476 = .ok (.iadd, 1) := d_law0_476
theorem d_law_477 {nm : String} : decode (mB (Y_law nm)) 477 = .ok (.iaload, 1) := d_law0_477
theorem d_law_478 {nm : String} : decode (mB (Y_law nm)) 478 = .ok (.invokevirtual 41, 3) := d_law0_478
theorem d_law_481 {nm : String} : decode (mB (Y_law nm)) 481 = .ok (.aload_n 2, 1) := d_law0_481
theorem d_law_482 {nm : String} : decode (mB (Y_law nm)) 482 = .ok (.aload_n 0, 1) := d_law0_482
theorem d_law_483 {nm : String} : decode (mB (Y_law nm)) 483 = .ok (.iload_n 3, 1) := d_law0_483
theorem d_law_484 {nm : String} : decode (mB (Y_law nm)) 484 = .ok (.iconst 1, 1) := d_law0_484
theorem d_law_485 {nm : String} : decode (mB (Y_law nm)) 485 = .ok (.iadd, 1) := d_law0_485
theorem d_law_486 {nm : String} : decode (mB (Y_law nm)) 486 = .ok (.iaload, 1) := d_law0_486
theorem d_law_487 {nm : String} : decode (mB (Y_law nm)) 487 = .ok (.aload_n 0, 1) := d_law0_487
theorem d_law_488 {nm : String} : decode (mB (Y_law nm)) 488 = .ok (.iload_n 3, 1) := d_law0_488
theorem d_law_489 {nm : String} : decode (mB (Y_law nm)) 489 = .ok (.iconst 2, 1) := d_law0_489
theorem d_law_490 {nm : String} : decode (mB (Y_law nm)) 490 = .ok (.iadd, 1) := d_law0_490
theorem d_law_491 {nm : String} : decode (mB (Y_law nm)) 491 = .ok (.iaload, 1) := d_law0_491
theorem d_law_492 {nm : String} : decode (mB (Y_law nm)) 492 = .ok (.aload_n 0, 1) := d_law0_492
theorem d_law_493 {nm : String} : decode (mB (Y_law nm)) 493 = .ok (.iload_n 3, 1) := d_law0_493
theorem d_law_494 {nm : String} : decode (mB (Y_law nm)) 494 = .ok (.iconst 3, 1) := d_law0_494
theorem d_law_495 {nm : String} : decode (mB (Y_law nm)) 495 = .ok (.iadd, 1) := d_law0_495
theorem d_law_496 {nm : String} : decode (mB (Y_law nm)) 496 = .ok (.iaload, 1) := d_law0_496
theorem d_law_497 {nm : String} : decode (mB (Y_law nm)) 497 = .ok (.aload_n 0, 1) := d_law0_497
theorem d_law_498 {nm : String} : decode (mB (Y_law nm)) 498 = .ok (.iload_n 3, 1) := d_law0_498
theorem d_law_499 {nm : String} : decode (mB (Y_law nm)) 499 = .ok (.iconst 4, 1) := d_law0_499
theorem d_law_500 {nm : String} : decode (mB (Y_law nm)) 500 = .ok (.iadd, 1) := d_law0_500
theorem d_law_501 {nm : String} : decode (mB (Y_law nm)) 501 = .ok (.iaload, 1) := d_law0_501
theorem d_law_502 {nm : String} : decode (mB (Y_law nm)) 502 = .ok (.aload_n 0, 1) := d_law0_502
theorem d_law_503 {nm : String} : decode (mB (Y_law nm)) 503 = .ok (.iload_n 3, 1) := d_law0_503
theorem d_law_504 {nm : String} : decode (mB (Y_law nm)) 504 = .ok (.iconst 5, 1) := d_law0_504
theorem d_law_505 {nm : String} : decode (mB (Y_law nm)) 505 = .ok (.iadd, 1) := d_law0_505
theorem d_law_506 {nm : String} : decode (mB (Y_law nm)) 506 = .ok (.iaload, 1) := d_law0_506
theorem d_law_507 {nm : String} : decode (mB (Y_law nm)) 507 = .ok (.invokevirtual 45, 3) := d_law0_507
theorem d_law_510 {nm : String} : decode (mB (Y_law nm)) 510 = .ok (.if_icmp .eq 774, 3) := d_law0_510
theorem d_law_513 {nm : String} : decode (mB (Y_law nm)) 513 = .ok (.iconst 0, 1) := d_law0_513
theorem d_law_514 {nm : String} : decode (mB (Y_law nm)) 514 = .ok (.ireturn, 1) := d_law0_514
theorem d_law_515 {nm : String} : decode (mB (Y_law nm)) 515 = .ok (.aload_n 1, 1) := d_law0_515
theorem d_law_516 {nm : String} : decode (mB (Y_law nm)) 516 = .ok (.aload_n 0, 1) := d_law0_516
theorem d_law_517 {nm : String} : decode (mB (Y_law nm)) 517 = .ok (.iload_n 3, 1) := d_law0_517
theorem d_law_518 {nm : String} : decode (mB (Y_law nm)) 518 = .ok (.iconst 1, 1) := d_law0_518
theorem d_law_519 {nm : String} : decode (mB (Y_law nm)) 519 = .ok (.iadd, 1) := d_law0_519
theorem d_law_520 {nm : String} : decode (mB (Y_law nm)) 520 = .ok (.iaload, 1) := d_law0_520
theorem d_law_521 {nm : String} : decode (mB (Y_law nm)) 521 = .ok (.invokevirtual 46, 3) := d_law0_521
theorem d_law_524 {nm : String} : decode (mB (Y_law nm)) 524 = .ok (.aload_n 2, 1) := d_law0_524
theorem d_law_525 {nm : String} : decode (mB (Y_law nm)) 525 = .ok (.aload_n 0, 1) := d_law0_525
theorem d_law_526 {nm : String} : decode (mB (Y_law nm)) 526 = .ok (.iload_n 3, 1) := d_law0_526
theorem d_law_527 {nm : String} : decode (mB (Y_law nm)) 527 = .ok (.iconst 1, 1) := d_law0_527
theorem d_law_528 {nm : String} : decode (mB (Y_law nm)) 528 = .ok (.iadd, 1) := d_law0_528
theorem d_law_529 {nm : String} : decode (mB (Y_law nm)) 529 = .ok (.iaload, 1) := d_law0_529
theorem d_law_530 {nm : String} : decode (mB (Y_law nm)) 530 = .ok (.invokevirtual 50, 3) := d_law0_530
theorem d_law_533 {nm : String} : decode (mB (Y_law nm)) 533 = .ok (.if_icmp .eq 751, 3) := d_law0_533
theorem d_law_536 {nm : String} : decode (mB (Y_law nm)) 536 = .ok (.iconst 0, 1) := d_law0_536
theorem d_law_537 {nm : String} : decode (mB (Y_law nm)) 537 = .ok (.ireturn, 1) := d_law0_537
theorem d_law_538 {nm : String} : decode (mB (Y_law nm)) 538 = .ok (.aload_n 1, 1) := d_law0_538
theorem d_law_539 {nm : String} : decode (mB (Y_law nm)) 539 = .ok (.aload_n 0, 1) := d_law0_539
theorem d_law_540 {nm : String} : decode (mB (Y_law nm)) 540 = .ok (.iload_n 3, 1) := d_law0_540
theorem d_law_541 {nm : String} : decode (mB (Y_law nm)) 541 = .ok (.iconst 1, 1) := d_law0_541
theorem d_law_542 {nm : String} : decode (mB (Y_law nm)) 542 = .ok (.iadd, 1) := d_law0_542
theorem d_law_543 {nm : String} : decode (mB (Y_law nm)) 543 = .ok (.iaload, 1) := d_law0_543
theorem d_law_544 {nm : String} : decode (mB (Y_law nm)) 544 = .ok (.invokevirtual 51, 3) := d_law0_544
theorem d_law_547 {nm : String} : decode (mB (Y_law nm)) 547 = .ok (.aload_n 2, 1) := d_law0_547
theorem d_law_548 {nm : String} : decode (mB (Y_law nm)) 548 = .ok (.aload_n 0, 1) := d_law0_548
theorem d_law_549 {nm : String} : decode (mB (Y_law nm)) 549 = .ok (.iload_n 3, 1) := d_law0_549
theorem d_law_550 {nm : String} : decode (mB (Y_law nm)) 550 = .ok (.iconst 1, 1) := d_law0_550
theorem d_law_551 {nm : String} : decode (mB (Y_law nm)) 551 = .ok (.iadd, 1) := d_law0_551
theorem d_law_552 {nm : String} : decode (mB (Y_law nm)) 552 = .ok (.iaload, 1) := d_law0_552
theorem d_law_553 {nm : String} : decode (mB (Y_law nm)) 553 = .ok (.invokevirtual 55, 3) := d_law0_553
theorem d_law_556 {nm : String} : decode (mB (Y_law nm)) 556 = .ok (.if_icmp .eq 728, 3) := d_law0_556
theorem d_law_559 {nm : String} : decode (mB (Y_law nm)) 559 = .ok (.iconst 0, 1) := d_law0_559
theorem d_law_560 {nm : String} : decode (mB (Y_law nm)) 560 = .ok (.ireturn, 1) := d_law0_560
theorem d_law_561 {nm : String} : decode (mB (Y_law nm)) 561 = .ok (.aload_n 1, 1) := d_law0_561
theorem d_law_562 {nm : String} : decode (mB (Y_law nm)) 562 = .ok (.aload_n 0, 1) := d_law0_562
theorem d_law_563 {nm : String} : decode (mB (Y_law nm)) 563 = .ok (.iload_n 3, 1) := d_law0_563
theorem d_law_564 {nm : String} : decode (mB (Y_law nm)) 564 = .ok (.iconst 1, 1) := d_law0_564
theorem d_law_565 {nm : String} : decode (mB (Y_law nm)) 565 = .ok (.iadd, 1) := d_law0_565
theorem d_law_566 {nm : String} : decode (mB (Y_law nm)) 566 = .ok (.iaload, 1) := d_law0_566
theorem d_law_567 {nm : String} : decode (mB (Y_law nm)) 567 = .ok (.invokevirtual 56, 3) := d_law0_567
theorem d_law_570 {nm : String} : decode (mB (Y_law nm)) 570 = .ok (.aload_n 2, 1) := d_law0_570
theorem d_law_571 {nm : String} : decode (mB (Y_law nm)) 571 = .ok (.aload_n 0, 1) := d_law0_571
theorem d_law_572 {nm : String} : decode (mB (Y_law nm)) 572 = .ok (.iload_n 3, 1) := d_law0_572
theorem d_law_573 {nm : String} : decode (mB (Y_law nm)) 573 = .ok (.iconst 1, 1) := d_law0_573
theorem d_law_574 {nm : String} : decode (mB (Y_law nm)) 574 = .ok (.iadd, 1) := d_law0_574
theorem d_law_575 {nm : String} : decode (mB (Y_law nm)) 575 = .ok (.iaload, 1) := d_law0_575
theorem d_law_576 {nm : String} : decode (mB (Y_law nm)) 576 = .ok (.invokevirtual 59, 3) := d_law0_576
theorem d_law_579 {nm : String} : decode (mB (Y_law nm)) 579 = .ok (.if_icmp .eq 705, 3) := d_law0_579
theorem d_law_582 {nm : String} : decode (mB (Y_law nm)) 582 = .ok (.iconst 0, 1) := d_law0_582
theorem d_law_583 {nm : String} : decode (mB (Y_law nm)) 583 = .ok (.ireturn, 1) := d_law0_583
theorem d_law_584 {nm : String} : decode (mB (Y_law nm)) 584 = .ok (.aload_n 1, 1) := d_law0_584
theorem d_law_585 {nm : String} : decode (mB (Y_law nm)) 585 = .ok (.aload_n 0, 1) := d_law0_585
theorem d_law_586 {nm : String} : decode (mB (Y_law nm)) 586 = .ok (.iload_n 3, 1) := d_law0_586
theorem d_law_587 {nm : String} : decode (mB (Y_law nm)) 587 = .ok (.iconst 1, 1) := d_law0_587
theorem d_law_588 {nm : String} : decode (mB (Y_law nm)) 588 = .ok (.iadd, 1) := d_law0_588
theorem d_law_589 {nm : String} : decode (mB (Y_law nm)) 589 = .ok (.iaload, 1) := d_law0_589
theorem d_law_590 {nm : String} : decode (mB (Y_law nm)) 590 = .ok (.aload_n 0, 1) := d_law0_590
theorem d_law_591 {nm : String} : decode (mB (Y_law nm)) 591 = .ok (.iload_n 3, 1) := d_law0_591
theorem d_law_592 {nm : String} : decode (mB (Y_law nm)) 592 = .ok (.iconst 2, 1) := d_law0_592
theorem d_law_593 {nm : String} : decode (mB (Y_law nm)) 593 = .ok (.iadd, 1) := d_law0_593
theorem d_law_594 {nm : String} : decode (mB (Y_law nm)) 594 = .ok (.iaload, 1) := d_law0_594
theorem d_law_595 {nm : String} : decode (mB (Y_law nm)) 595 = .ok (.invokevirtual 60, 3) := d_law0_595
theorem d_law_598 {nm : String} : decode (mB (Y_law nm)) 598 = .ok (.aload_n 2, 1) := d_law0_598
theorem d_law_599 {nm : String} : decode (mB (Y_law nm)) 599 = .ok (.aload_n 0, 1) := d_law0_599
theorem d_law_600 {nm : String} : decode (mB (Y_law nm)) 600 = .ok (.iload_n 3, 1) := d_law0_600
theorem d_law_601 {nm : String} : decode (mB (Y_law nm)) 601 = .ok (.iconst 1, 1) := d_law0_601
theorem d_law_602 {nm : String} : decode (mB (Y_law nm)) 602 = .ok (.iadd, 1) := d_law0_602
theorem d_law_603 {nm : String} : decode (mB (Y_law nm)) 603 = .ok (.iaload, 1) := d_law0_603
theorem d_law_604 {nm : String} : decode (mB (Y_law nm)) 604 = .ok (.aload_n 0, 1) := d_law0_604
theorem d_law_605 {nm : String} : decode (mB (Y_law nm)) 605 = .ok (.iload_n 3, 1) := d_law0_605
theorem d_law_606 {nm : String} : decode (mB (Y_law nm)) 606 = .ok (.iconst 2, 1) := d_law0_606
theorem d_law_607 {nm : String} : decode (mB (Y_law nm)) 607 = .ok (.iadd, 1) := d_law0_607
theorem d_law_608 {nm : String} : decode (mB (Y_law nm)) 608 = .ok (.iaload, 1) := d_law0_608
theorem d_law_609 {nm : String} : decode (mB (Y_law nm)) 609 = .ok (.invokevirtual 64, 3) := d_law0_609
theorem d_law_612 {nm : String} : decode (mB (Y_law nm)) 612 = .ok (.if_icmp .eq 672, 3) := d_law0_612
theorem d_law_615 {nm : String} : decode (mB (Y_law nm)) 615 = .ok (.iconst 0, 1) := d_law0_615
theorem d_law_616 {nm : String} : decode (mB (Y_law nm)) 616 = .ok (.ireturn, 1) := d_law0_616
theorem d_law_617 {nm : String} : decode (mB (Y_law nm)) 617 = .ok (.aload_n 1, 1) := d_law0_617
theorem d_law_618 {nm : String} : decode (mB (Y_law nm)) 618 = .ok (.aload_n 0, 1) := d_law0_618
theorem d_law_619 {nm : String} : decode (mB (Y_law nm)) 619 = .ok (.iload_n 3, 1) := d_law0_619
theorem d_law_620 {nm : String} : decode (mB (Y_law nm)) 620 = .ok (.iconst 1, 1) := d_law0_620
theorem d_law_621 {nm : String} : decode (mB (Y_law nm)) 621 = .ok (.iadd, 1) := d_law0_621
theorem d_law_622 {nm : String} : decode (mB (Y_law nm)) 622 = .ok (.iaload, 1) := d_law0_622
theorem d_law_623 {nm : String} : decode (mB (Y_law nm)) 623 = .ok (.aload_n 0, 1) := d_law0_623
theorem d_law_624 {nm : String} : decode (mB (Y_law nm)) 624 = .ok (.iload_n 3, 1) := d_law0_624
theorem d_law_625 {nm : String} : decode (mB (Y_law nm)) 625 = .ok (.iconst 2, 1) := d_law0_625
theorem d_law_626 {nm : String} : decode (mB (Y_law nm)) 626 = .ok (.iadd, 1) := d_law0_626
theorem d_law_627 {nm : String} : decode (mB (Y_law nm)) 627 = .ok (.iaload, 1) := d_law0_627
theorem d_law_628 {nm : String} : decode (mB (Y_law nm)) 628 = .ok (.aload_n 0, 1) := d_law0_628
theorem d_law_629 {nm : String} : decode (mB (Y_law nm)) 629 = .ok (.iload_n 3, 1) := d_law0_629
theorem d_law_630 {nm : String} : decode (mB (Y_law nm)) 630 = .ok (.iconst 3, 1) := d_law0_630
theorem d_law_631 {nm : String} : decode (mB (Y_law nm)) 631 = .ok (.iadd, 1) := d_law0_631
theorem d_law_632 {nm : String} : decode (mB (Y_law nm)) 632 = .ok (.iaload, 1) := d_law0_632
theorem d_law_633 {nm : String} : decode (mB (Y_law nm)) 633 = .ok (.invokevirtual 65, 3) := d_law0_633
theorem d_law_636 {nm : String} : decode (mB (Y_law nm)) 636 = .ok (.aload_n 2, 1) := d_law0_636
theorem d_law_637 {nm : String} : decode (mB (Y_law nm)) 637 = .ok (.aload_n 0, 1) := d_law0_637
theorem d_law_638 {nm : String} : decode (mB (Y_law nm)) 638 = .ok (.iload_n 3, 1) := d_law0_638
theorem d_law_639 {nm : String} : decode (mB (Y_law nm)) 639 = .ok (.iconst 1, 1) := d_law0_639
theorem d_law_640 {nm : String} : decode (mB (Y_law nm)) 640 = .ok (.iadd, 1) := d_law0_640
theorem d_law_641 {nm : String} : decode (mB (Y_law nm)) 641 = .ok (.iaload, 1) := d_law0_641
theorem d_law_642 {nm : String} : decode (mB (Y_law nm)) 642 = .ok (.aload_n 0, 1) := d_law0_642
theorem d_law_643 {nm : String} : decode (mB (Y_law nm)) 643 = .ok (.iload_n 3, 1) := d_law0_643
theorem d_law_644 {nm : String} : decode (mB (Y_law nm)) 644 = .ok (.iconst 2, 1) := d_law0_644
theorem d_law_645 {nm : String} : decode (mB (Y_law nm)) 645 = .ok (.iadd, 1) := d_law0_645
theorem d_law_646 {nm : String} : decode (mB (Y_law nm)) 646 = .ok (.iaload, 1) := d_law0_646
theorem d_law_647 {nm : String} : decode (mB (Y_law nm)) 647 = .ok (.aload_n 0, 1) := d_law0_647
theorem d_law_648 {nm : String} : decode (mB (Y_law nm)) 648 = .ok (.iload_n 3, 1) := d_law0_648
theorem d_law_649 {nm : String} : decode (mB (Y_law nm)) 649 = .ok (.iconst 3, 1) := d_law0_649
theorem d_law_650 {nm : String} : decode (mB (Y_law nm)) 650 = .ok (.iadd, 1) := d_law0_650
theorem d_law_651 {nm : String} : decode (mB (Y_law nm)) 651 = .ok (.iaload, 1) := d_law0_651
theorem d_law_652 {nm : String} : decode (mB (Y_law nm)) 652 = .ok (.invokevirtual 68, 3) := d_law0_652
theorem d_law_655 {nm : String} : decode (mB (Y_law nm)) 655 = .ok (.if_icmp .eq 629, 3) := d_law0_655
theorem d_law_658 {nm : String} : decode (mB (Y_law nm)) 658 = .ok (.iconst 0, 1) := d_law0_658
theorem d_law_659 {nm : String} : decode (mB (Y_law nm)) 659 = .ok (.ireturn, 1) := d_law0_659
theorem d_law_660 {nm : String} : decode (mB (Y_law nm)) 660 = .ok (.aload_n 1, 1) := d_law0_660
theorem d_law_661 {nm : String} : decode (mB (Y_law nm)) 661 = .ok (.aload_n 0, 1) := d_law0_661
theorem d_law_662 {nm : String} : decode (mB (Y_law nm)) 662 = .ok (.iload_n 3, 1) := d_law0_662
theorem d_law_663 {nm : String} : decode (mB (Y_law nm)) 663 = .ok (.iconst 1, 1) := d_law0_663
theorem d_law_664 {nm : String} : decode (mB (Y_law nm)) 664 = .ok (.iadd, 1) := d_law0_664
theorem d_law_665 {nm : String} : decode (mB (Y_law nm)) 665 = .ok (.iaload, 1) := d_law0_665
theorem d_law_666 {nm : String} : decode (mB (Y_law nm)) 666 = .ok (.aload_n 0, 1) := d_law0_666
theorem d_law_667 {nm : String} : decode (mB (Y_law nm)) 667 = .ok (.iload_n 3, 1) := d_law0_667
theorem d_law_668 {nm : String} : decode (mB (Y_law nm)) 668 = .ok (.iconst 2, 1) := d_law0_668
theorem d_law_669 {nm : String} : decode (mB (Y_law nm)) 669 = .ok (.iadd, 1) := d_law0_669
theorem d_law_670 {nm : String} : decode (mB (Y_law nm)) 670 = .ok (.iaload, 1) := d_law0_670
theorem d_law_671 {nm : String} : decode (mB (Y_law nm)) 671 = .ok (.invokevirtual 69, 3) := d_law0_671
theorem d_law_674 {nm : String} : decode (mB (Y_law nm)) 674 = .ok (.aload_n 2, 1) := d_law0_674
theorem d_law_675 {nm : String} : decode (mB (Y_law nm)) 675 = .ok (.aload_n 0, 1) := d_law0_675
theorem d_law_676 {nm : String} : decode (mB (Y_law nm)) 676 = .ok (.iload_n 3, 1) := d_law0_676
theorem d_law_677 {nm : String} : decode (mB (Y_law nm)) 677 = .ok (.iconst 1, 1) := d_law0_677
theorem d_law_678 {nm : String} : decode (mB (Y_law nm)) 678 = .ok (.iadd, 1) := d_law0_678
theorem d_law_679 {nm : String} : decode (mB (Y_law nm)) 679 = .ok (.iaload, 1) := d_law0_679
theorem d_law_680 {nm : String} : decode (mB (Y_law nm)) 680 = .ok (.aload_n 0, 1) := d_law0_680
theorem d_law_681 {nm : String} : decode (mB (Y_law nm)) 681 = .ok (.iload_n 3, 1) := d_law0_681
theorem d_law_682 {nm : String} : decode (mB (Y_law nm)) 682 = .ok (.iconst 2, 1) := d_law0_682
theorem d_law_683 {nm : String} : decode (mB (Y_law nm)) 683 = .ok (.iadd, 1) := d_law0_683
theorem d_law_684 {nm : String} : decode (mB (Y_law nm)) 684 = .ok (.iaload, 1) := d_law0_684
theorem d_law_685 {nm : String} : decode (mB (Y_law nm)) 685 = .ok (.invokevirtual 72, 3) := d_law0_685
theorem d_law_688 {nm : String} : decode (mB (Y_law nm)) 688 = .ok (.if_icmp .eq 596, 3) := d_law0_688
theorem d_law_691 {nm : String} : decode (mB (Y_law nm)) 691 = .ok (.iconst 0, 1) := d_law0_691
theorem d_law_692 {nm : String} : decode (mB (Y_law nm)) 692 = .ok (.ireturn, 1) := d_law0_692
theorem d_law_693 {nm : String} : decode (mB (Y_law nm)) 693 = .ok (.aload_n 1, 1) := d_law0_693
theorem d_law_694 {nm : String} : decode (mB (Y_law nm)) 694 = .ok (.aload_n 0, 1) := d_law0_694
theorem d_law_695 {nm : String} : decode (mB (Y_law nm)) 695 = .ok (.iload_n 3, 1) := d_law0_695
theorem d_law_696 {nm : String} : decode (mB (Y_law nm)) 696 = .ok (.iconst 1, 1) := d_law0_696
theorem d_law_697 {nm : String} : decode (mB (Y_law nm)) 697 = .ok (.iadd, 1) := d_law0_697
theorem d_law_698 {nm : String} : decode (mB (Y_law nm)) 698 = .ok (.iaload, 1) := d_law0_698
theorem d_law_699 {nm : String} : decode (mB (Y_law nm)) 699 = .ok (.aload_n 0, 1) := d_law0_699
theorem d_law_700 {nm : String} : decode (mB (Y_law nm)) 700 = .ok (.iload_n 3, 1) := d_law0_700
theorem d_law_701 {nm : String} : decode (mB (Y_law nm)) 701 = .ok (.iconst 2, 1) := d_law0_701
theorem d_law_702 {nm : String} : decode (mB (Y_law nm)) 702 = .ok (.iadd, 1) := d_law0_702
theorem d_law_703 {nm : String} : decode (mB (Y_law nm)) 703 = .ok (.iaload, 1) := d_law0_703
theorem d_law_704 {nm : String} : decode (mB (Y_law nm)) 704 = .ok (.invokevirtual 73, 3) := d_law0_704
theorem d_law_707 {nm : String} : decode (mB (Y_law nm)) 707 = .ok (.aload_n 2, 1) := d_law0_707
theorem d_law_708 {nm : String} : decode (mB (Y_law nm)) 708 = .ok (.aload_n 0, 1) := d_law0_708
theorem d_law_709 {nm : String} : decode (mB (Y_law nm)) 709 = .ok (.iload_n 3, 1) := d_law0_709
theorem d_law_710 {nm : String} : decode (mB (Y_law nm)) 710 = .ok (.iconst 1, 1) := d_law0_710
theorem d_law_711 {nm : String} : decode (mB (Y_law nm)) 711 = .ok (.iadd, 1) := d_law0_711
theorem d_law_712 {nm : String} : decode (mB (Y_law nm)) 712 = .ok (.iaload, 1) := d_law0_712
theorem d_law_713 {nm : String} : decode (mB (Y_law nm)) 713 = .ok (.aload_n 0, 1) := d_law0_713
theorem d_law_714 {nm : String} : decode (mB (Y_law nm)) 714 = .ok (.iload_n 3, 1) := d_law0_714
theorem d_law_715 {nm : String} : decode (mB (Y_law nm)) 715 = .ok (.iconst 2, 1) := d_law0_715
theorem d_law_716 {nm : String} : decode (mB (Y_law nm)) 716 = .ok (.iadd, 1) := d_law0_716
theorem d_law_717 {nm : String} : decode (mB (Y_law nm)) 717 = .ok (.iaload, 1) := d_law0_717
theorem d_law_718 {nm : String} : decode (mB (Y_law nm)) 718 = .ok (.invokevirtual 76, 3) := d_law0_718
theorem d_law_721 {nm : String} : decode (mB (Y_law nm)) 721 = .ok (.if_icmp .eq 563, 3) := d_law0_721
theorem d_law_724 {nm : String} : decode (mB (Y_law nm)) 724 = .ok (.iconst 0, 1) := d_law0_724
theorem d_law_725 {nm : String} : decode (mB (Y_law nm)) 725 = .ok (.ireturn, 1) := d_law0_725
theorem d_law_726 {nm : String} : decode (mB (Y_law nm)) 726 = .ok (.aload_n 1, 1) := d_law0_726
theorem d_law_727 {nm : String} : decode (mB (Y_law nm)) 727 = .ok (.aload_n 0, 1) := d_law0_727
theorem d_law_728 {nm : String} : decode (mB (Y_law nm)) 728 = .ok (.iload_n 3, 1) := d_law0_728
theorem d_law_729 {nm : String} : decode (mB (Y_law nm)) 729 = .ok (.iconst 1, 1) := d_law0_729
theorem d_law_730 {nm : String} : decode (mB (Y_law nm)) 730 = .ok (.iadd, 1) := d_law0_730
theorem d_law_731 {nm : String} : decode (mB (Y_law nm)) 731 = .ok (.iaload, 1) := d_law0_731
theorem d_law_732 {nm : String} : decode (mB (Y_law nm)) 732 = .ok (.invokevirtual 77, 3) := d_law0_732
theorem d_law_735 {nm : String} : decode (mB (Y_law nm)) 735 = .ok (.aload_n 2, 1) := d_law0_735
theorem d_law_736 {nm : String} : decode (mB (Y_law nm)) 736 = .ok (.aload_n 0, 1) := d_law0_736
theorem d_law_737 {nm : String} : decode (mB (Y_law nm)) 737 = .ok (.iload_n 3, 1) := d_law0_737
theorem d_law_738 {nm : String} : decode (mB (Y_law nm)) 738 = .ok (.iconst 1, 1) := d_law0_738
theorem d_law_739 {nm : String} : decode (mB (Y_law nm)) 739 = .ok (.iadd, 1) := d_law0_739
theorem d_law_740 {nm : String} : decode (mB (Y_law nm)) 740 = .ok (.iaload, 1) := d_law0_740
theorem d_law_741 {nm : String} : decode (mB (Y_law nm)) 741 = .ok (.invokevirtual 80, 3) := d_law0_741
theorem d_law_744 {nm : String} : decode (mB (Y_law nm)) 744 = .ok (.if_icmp .eq 540, 3) := d_law0_744
theorem d_law_747 {nm : String} : decode (mB (Y_law nm)) 747 = .ok (.iconst 0, 1) := d_law0_747
theorem d_law_748 {nm : String} : decode (mB (Y_law nm)) 748 = .ok (.ireturn, 1) := d_law0_748
theorem d_law_749 {nm : String} : decode (mB (Y_law nm)) 749 = .ok (.aload_n 1, 1) := d_law0_749
theorem d_law_750 {nm : String} : decode (mB (Y_law nm)) 750 = .ok (.aload_n 0, 1) := d_law0_750
theorem d_law_751 {nm : String} : decode (mB (Y_law nm)) 751 = .ok (.iload_n 3, 1) := d_law0_751
theorem d_law_752 {nm : String} : decode (mB (Y_law nm)) 752 = .ok (.iconst 1, 1) := d_law0_752
theorem d_law_753 {nm : String} : decode (mB (Y_law nm)) 753 = .ok (.iadd, 1) := d_law0_753
theorem d_law_754 {nm : String} : decode (mB (Y_law nm)) 754 = .ok (.iaload, 1) := d_law0_754
theorem d_law_755 {nm : String} : decode (mB (Y_law nm)) 755 = .ok (.aload_n 0, 1) := d_law0_755
theorem d_law_756 {nm : String} : decode (mB (Y_law nm)) 756 = .ok (.iload_n 3, 1) := d_law0_756
theorem d_law_757 {nm : String} : decode (mB (Y_law nm)) 757 = .ok (.iconst 2, 1) := d_law0_757
theorem d_law_758 {nm : String} : decode (mB (Y_law nm)) 758 = .ok (.iadd, 1) := d_law0_758
theorem d_law_759 {nm : String} : decode (mB (Y_law nm)) 759 = .ok (.iaload, 1) := d_law0_759
theorem d_law_760 {nm : String} : decode (mB (Y_law nm)) 760 = .ok (.aload_n 0, 1) := d_law0_760
theorem d_law_761 {nm : String} : decode (mB (Y_law nm)) 761 = .ok (.iload_n 3, 1) := d_law0_761
theorem d_law_762 {nm : String} : decode (mB (Y_law nm)) 762 = .ok (.iconst 3, 1) := d_law0_762
theorem d_law_763 {nm : String} : decode (mB (Y_law nm)) 763 = .ok (.iadd, 1) := d_law0_763
theorem d_law_764 {nm : String} : decode (mB (Y_law nm)) 764 = .ok (.iaload, 1) := d_law0_764
theorem d_law_765 {nm : String} : decode (mB (Y_law nm)) 765 = .ok (.invokevirtual 81, 3) := d_law0_765
theorem d_law_768 {nm : String} : decode (mB (Y_law nm)) 768 = .ok (.aload_n 2, 1) := d_law0_768
theorem d_law_769 {nm : String} : decode (mB (Y_law nm)) 769 = .ok (.aload_n 0, 1) := d_law0_769
theorem d_law_770 {nm : String} : decode (mB (Y_law nm)) 770 = .ok (.iload_n 3, 1) := d_law0_770
theorem d_law_771 {nm : String} : decode (mB (Y_law nm)) 771 = .ok (.iconst 1, 1) := d_law0_771
theorem d_law_772 {nm : String} : decode (mB (Y_law nm)) 772 = .ok (.iadd, 1) := d_law0_772
theorem d_law_773 {nm : String} : decode (mB (Y_law nm)) 773 = .ok (.iaload, 1) := d_law0_773
theorem d_law_774 {nm : String} : decode (mB (Y_law nm)) 774 = .ok (.aload_n 0, 1) := d_law0_774
theorem d_law_775 {nm : String} : decode (mB (Y_law nm)) 775 = .ok (.iload_n 3, 1) := d_law0_775
theorem d_law_776 {nm : String} : decode (mB (Y_law nm)) 776 = .ok (.iconst 2, 1) := d_law0_776
theorem d_law_777 {nm : String} : decode (mB (Y_law nm)) 777 = .ok (.iadd, 1) := d_law0_777
theorem d_law_778 {nm : String} : decode (mB (Y_law nm)) 778 = .ok (.iaload, 1) := d_law0_778
theorem d_law_779 {nm : String} : decode (mB (Y_law nm)) 779 = .ok (.aload_n 0, 1) := d_law0_779
theorem d_law_780 {nm : String} : decode (mB (Y_law nm)) 780 = .ok (.iload_n 3, 1) := d_law0_780
theorem d_law_781 {nm : String} : decode (mB (Y_law nm)) 781 = .ok (.iconst 3, 1) := d_law0_781
theorem d_law_782 {nm : String} : decode (mB (Y_law nm)) 782 = .ok (.iadd, 1) := d_law0_782
theorem d_law_783 {nm : String} : decode (mB (Y_law nm)) 783 = .ok (.iaload, 1) := d_law0_783
theorem d_law_784 {nm : String} : decode (mB (Y_law nm)) 784 = .ok (.invokevirtual 85, 3) := d_law0_784
theorem d_law_787 {nm : String} : decode (mB (Y_law nm)) 787 = .ok (.if_icmp .eq 497, 3) := d_law0_787
theorem d_law_790 {nm : String} : decode (mB (Y_law nm)) 790 = .ok (.iconst 0, 1) := d_law0_790
theorem d_law_791 {nm : String} : decode (mB (Y_law nm)) 791 = .ok (.ireturn, 1) := d_law0_791
theorem d_law_792 {nm : String} : decode (mB (Y_law nm)) 792 = .ok (.aload_n 1, 1) := d_law0_792
theorem d_law_793 {nm : String} : decode (mB (Y_law nm)) 793 = .ok (.aload_n 0, 1) := d_law0_793
theorem d_law_794 {nm : String} : decode (mB (Y_law nm)) 794 = .ok (.iload_n 3, 1) := d_law0_794
theorem d_law_795 {nm : String} : decode (mB (Y_law nm)) 795 = .ok (.iconst 1, 1) := d_law0_795
theorem d_law_796 {nm : String} : decode (mB (Y_law nm)) 796 = .ok (.iadd, 1) := d_law0_796
theorem d_law_797 {nm : String} : decode (mB (Y_law nm)) 797 = .ok (.iaload, 1) := d_law0_797
theorem d_law_798 {nm : String} : decode (mB (Y_law nm)) 798 = .ok (.invokevirtual 86, 3) := d_law0_798
theorem d_law_801 {nm : String} : decode (mB (Y_law nm)) 801 = .ok (.aload_n 2, 1) := d_law0_801
theorem d_law_802 {nm : String} : decode (mB (Y_law nm)) 802 = .ok (.aload_n 0, 1) := d_law0_802
theorem d_law_803 {nm : String} : decode (mB (Y_law nm)) 803 = .ok (.iload_n 3, 1) := d_law0_803
theorem d_law_804 {nm : String} : decode (mB (Y_law nm)) 804 = .ok (.iconst 1, 1) := d_law0_804
theorem d_law_805 {nm : String} : decode (mB (Y_law nm)) 805 = .ok (.iadd, 1) := d_law0_805
theorem d_law_806 {nm : String} : decode (mB (Y_law nm)) 806 = .ok (.iaload, 1) := d_law0_806
theorem d_law_807 {nm : String} : decode (mB (Y_law nm)) 807 = .ok (.invokevirtual 89, 3) := d_law0_807
theorem d_law_810 {nm : String} : decode (mB (Y_law nm)) 810 = .ok (.if_icmp .eq 474, 3) := d_law0_810
theorem d_law_813 {nm : String} : decode (mB (Y_law nm)) 813 = .ok (.iconst 0, 1) := d_law0_813
theorem d_law_814 {nm : String} : decode (mB (Y_law nm)) 814 = .ok (.ireturn, 1) := d_law0_814
theorem d_law_815 {nm : String} : decode (mB (Y_law nm)) 815 = .ok (.aload_n 1, 1) := d_law0_815
theorem d_law_816 {nm : String} : decode (mB (Y_law nm)) 816 = .ok (.aload_n 0, 1) := d_law0_816
theorem d_law_817 {nm : String} : decode (mB (Y_law nm)) 817 = .ok (.iload_n 3, 1) := d_law0_817
theorem d_law_818 {nm : String} : decode (mB (Y_law nm)) 818 = .ok (.iconst 1, 1) := d_law0_818
theorem d_law_819 {nm : String} : decode (mB (Y_law nm)) 819 = .ok (.iadd, 1) := d_law0_819
theorem d_law_820 {nm : String} : decode (mB (Y_law nm)) 820 = .ok (.iaload, 1) := d_law0_820
theorem d_law_821 {nm : String} : decode (mB (Y_law nm)) 821 = .ok (.aload_n 0, 1) := d_law0_821
theorem d_law_822 {nm : String} : decode (mB (Y_law nm)) 822 = .ok (.iload_n 3, 1) := d_law0_822
theorem d_law_823 {nm : String} : decode (mB (Y_law nm)) 823 = .ok (.iconst 2, 1) := d_law0_823
theorem d_law_824 {nm : String} : decode (mB (Y_law nm)) 824 = .ok (.iadd, 1) := d_law0_824
theorem d_law_825 {nm : String} : decode (mB (Y_law nm)) 825 = .ok (.iaload, 1) := d_law0_825
theorem d_law_826 {nm : String} : decode (mB (Y_law nm)) 826 = .ok (.invokevirtual 90, 3) := d_law0_826
theorem d_law_829 {nm : String} : decode (mB (Y_law nm)) 829 = .ok (.aload_n 2, 1) := d_law0_829
theorem d_law_830 {nm : String} : decode (mB (Y_law nm)) 830 = .ok (.aload_n 0, 1) := d_law0_830
theorem d_law_831 {nm : String} : decode (mB (Y_law nm)) 831 = .ok (.iload_n 3, 1) := d_law0_831
theorem d_law_832 {nm : String} : decode (mB (Y_law nm)) 832 = .ok (.iconst 1, 1) := d_law0_832
theorem d_law_833 {nm : String} : decode (mB (Y_law nm)) 833 = .ok (.iadd, 1) := d_law0_833
theorem d_law_834 {nm : String} : decode (mB (Y_law nm)) 834 = .ok (.iaload, 1) := d_law0_834
theorem d_law_835 {nm : String} : decode (mB (Y_law nm)) 835 = .ok (.aload_n 0, 1) := d_law0_835
theorem d_law_836 {nm : String} : decode (mB (Y_law nm)) 836 = .ok (.iload_n 3, 1) := d_law0_836
theorem d_law_837 {nm : String} : decode (mB (Y_law nm)) 837 = .ok (.iconst 2, 1) := d_law0_837
theorem d_law_838 {nm : String} : decode (mB (Y_law nm)) 838 = .ok (.iadd, 1) := d_law0_838
theorem d_law_839 {nm : String} : decode (mB (Y_law nm)) 839 = .ok (.iaload, 1) := d_law0_839
theorem d_law_840 {nm : String} : decode (mB (Y_law nm)) 840 = .ok (.invokevirtual 93, 3) := d_law0_840
theorem d_law_843 {nm : String} : decode (mB (Y_law nm)) 843 = .ok (.if_icmp .eq 441, 3) := d_law0_843
theorem d_law_846 {nm : String} : decode (mB (Y_law nm)) 846 = .ok (.iconst 0, 1) := d_law0_846
theorem d_law_847 {nm : String} : decode (mB (Y_law nm)) 847 = .ok (.ireturn, 1) := d_law0_847
theorem d_law_848 {nm : String} : decode (mB (Y_law nm)) 848 = .ok (.aload_n 1, 1) := d_law0_848
theorem d_law_849 {nm : String} : decode (mB (Y_law nm)) 849 = .ok (.aload_n 0, 1) := d_law0_849
theorem d_law_850 {nm : String} : decode (mB (Y_law nm)) 850 = .ok (.iload_n 3, 1) := d_law0_850
theorem d_law_851 {nm : String} : decode (mB (Y_law nm)) 851 = .ok (.iconst 1, 1) := d_law0_851
theorem d_law_852 {nm : String} : decode (mB (Y_law nm)) 852 = .ok (.iadd, 1) := d_law0_852
theorem d_law_853 {nm : String} : decode (mB (Y_law nm)) 853 = .ok (.iaload, 1) := d_law0_853
theorem d_law_854 {nm : String} : decode (mB (Y_law nm)) 854 = .ok (.aload_n 0, 1) := d_law0_854
theorem d_law_855 {nm : String} : decode (mB (Y_law nm)) 855 = .ok (.iload_n 3, 1) := d_law0_855
theorem d_law_856 {nm : String} : decode (mB (Y_law nm)) 856 = .ok (.iconst 2, 1) := d_law0_856
theorem d_law_857 {nm : String} : decode (mB (Y_law nm)) 857 = .ok (.iadd, 1) := d_law0_857
theorem d_law_858 {nm : String} : decode (mB (Y_law nm)) 858 = .ok (.iaload, 1) := d_law0_858
theorem d_law_859 {nm : String} : decode (mB (Y_law nm)) 859 = .ok (.aload_n 0, 1) := d_law0_859
theorem d_law_860 {nm : String} : decode (mB (Y_law nm)) 860 = .ok (.iload_n 3, 1) := d_law0_860
theorem d_law_861 {nm : String} : decode (mB (Y_law nm)) 861 = .ok (.iconst 3, 1) := d_law0_861
theorem d_law_862 {nm : String} : decode (mB (Y_law nm)) 862 = .ok (.iadd, 1) := d_law0_862
theorem d_law_863 {nm : String} : decode (mB (Y_law nm)) 863 = .ok (.iaload, 1) := d_law0_863
theorem d_law_864 {nm : String} : decode (mB (Y_law nm)) 864 = .ok (.aload_n 0, 1) := d_law0_864
theorem d_law_865 {nm : String} : decode (mB (Y_law nm)) 865 = .ok (.iload_n 3, 1) := d_law0_865
theorem d_law_866 {nm : String} : decode (mB (Y_law nm)) 866 = .ok (.iconst 4, 1) := d_law0_866
theorem d_law_867 {nm : String} : decode (mB (Y_law nm)) 867 = .ok (.iadd, 1) := d_law0_867
theorem d_law_868 {nm : String} : decode (mB (Y_law nm)) 868 = .ok (.iaload, 1) := d_law0_868
theorem d_law_869 {nm : String} : decode (mB (Y_law nm)) 869 = .ok (.invokevirtual 94, 3) := d_law0_869
theorem d_law_872 {nm : String} : decode (mB (Y_law nm)) 872 = .ok (.aload_n 2, 1) := d_law0_872
theorem d_law_873 {nm : String} : decode (mB (Y_law nm)) 873 = .ok (.aload_n 0, 1) := d_law0_873
theorem d_law_874 {nm : String} : decode (mB (Y_law nm)) 874 = .ok (.iload_n 3, 1) := d_law0_874
theorem d_law_875 {nm : String} : decode (mB (Y_law nm)) 875 = .ok (.iconst 1, 1) := d_law0_875
theorem d_law_876 {nm : String} : decode (mB (Y_law nm)) 876 = .ok (.iadd, 1) := d_law0_876
theorem d_law_877 {nm : String} : decode (mB (Y_law nm)) 877 = .ok (.iaload, 1) := d_law0_877
theorem d_law_878 {nm : String} : decode (mB (Y_law nm)) 878 = .ok (.aload_n 0, 1) := d_law0_878
theorem d_law_879 {nm : String} : decode (mB (Y_law nm)) 879 = .ok (.iload_n 3, 1) := d_law0_879
theorem d_law_880 {nm : String} : decode (mB (Y_law nm)) 880 = .ok (.iconst 2, 1) := d_law0_880
theorem d_law_881 {nm : String} : decode (mB (Y_law nm)) 881 = .ok (.iadd, 1) := d_law0_881
theorem d_law_882 {nm : String} : decode (mB (Y_law nm)) 882 = .ok (.iaload, 1) := d_law0_882
theorem d_law_883 {nm : String} : decode (mB (Y_law nm)) 883 = .ok (.aload_n 0, 1) := d_law0_883
theorem d_law_884 {nm : String} : decode (mB (Y_law nm)) 884 = .ok (.iload_n 3, 1) := d_law0_884
theorem d_law_885 {nm : String} : decode (mB (Y_law nm)) 885 = .ok (.iconst 3, 1) := d_law0_885
theorem d_law_886 {nm : String} : decode (mB (Y_law nm)) 886 = .ok (.iadd, 1) := d_law0_886
theorem d_law_887 {nm : String} : decode (mB (Y_law nm)) 887 = .ok (.iaload, 1) := d_law0_887
theorem d_law_888 {nm : String} : decode (mB (Y_law nm)) 888 = .ok (.aload_n 0, 1) := d_law0_888
theorem d_law_889 {nm : String} : decode (mB (Y_law nm)) 889 = .ok (.iload_n 3, 1) := d_law0_889
theorem d_law_890 {nm : String} : decode (mB (Y_law nm)) 890 = .ok (.iconst 4, 1) := d_law0_890
theorem d_law_891 {nm : String} : decode (mB (Y_law nm)) 891 = .ok (.iadd, 1) := d_law0_891
theorem d_law_892 {nm : String} : decode (mB (Y_law nm)) 892 = .ok (.iaload, 1) := d_law0_892
theorem d_law_893 {nm : String} : decode (mB (Y_law nm)) 893 = .ok (.invokevirtual 97, 3) := d_law0_893
theorem d_law_896 {nm : String} : decode (mB (Y_law nm)) 896 = .ok (.if_icmp .eq 388, 3) := d_law0_896
theorem d_law_899 {nm : String} : decode (mB (Y_law nm)) 899 = .ok (.iconst 0, 1) := d_law0_899
theorem d_law_900 {nm : String} : decode (mB (Y_law nm)) 900 = .ok (.ireturn, 1) := d_law0_900
theorem d_law_901 {nm : String} : decode (mB (Y_law nm)) 901 = .ok (.aload_n 1, 1) := d_law0_901
theorem d_law_902 {nm : String} : decode (mB (Y_law nm)) 902 = .ok (.aload_n 0, 1) := d_law0_902
theorem d_law_903 {nm : String} : decode (mB (Y_law nm)) 903 = .ok (.iload_n 3, 1) := d_law0_903
theorem d_law_904 {nm : String} : decode (mB (Y_law nm)) 904 = .ok (.iconst 1, 1) := d_law0_904
theorem d_law_905 {nm : String} : decode (mB (Y_law nm)) 905 = .ok (.iadd, 1) := d_law0_905
theorem d_law_906 {nm : String} : decode (mB (Y_law nm)) 906 = .ok (.iaload, 1) := d_law0_906
theorem d_law_907 {nm : String} : decode (mB (Y_law nm)) 907 = .ok (.aload_n 0, 1) := d_law0_907
theorem d_law_908 {nm : String} : decode (mB (Y_law nm)) 908 = .ok (.iload_n 3, 1) := d_law0_908
theorem d_law_909 {nm : String} : decode (mB (Y_law nm)) 909 = .ok (.iconst 2, 1) := d_law0_909
theorem d_law_910 {nm : String} : decode (mB (Y_law nm)) 910 = .ok (.iadd, 1) := d_law0_910
theorem d_law_911 {nm : String} : decode (mB (Y_law nm)) 911 = .ok (.iaload, 1) := d_law0_911
theorem d_law_912 {nm : String} : decode (mB (Y_law nm)) 912 = .ok (.invokevirtual 98, 3) := d_law0_912
theorem d_law_915 {nm : String} : decode (mB (Y_law nm)) 915 = .ok (.aload_n 2, 1) := d_law0_915
theorem d_law_916 {nm : String} : decode (mB (Y_law nm)) 916 = .ok (.aload_n 0, 1) := d_law0_916
theorem d_law_917 {nm : String} : decode (mB (Y_law nm)) 917 = .ok (.iload_n 3, 1) := d_law0_917
theorem d_law_918 {nm : String} : decode (mB (Y_law nm)) 918 = .ok (.iconst 1, 1) := d_law0_918
theorem d_law_919 {nm : String} : decode (mB (Y_law nm)) 919 = .ok (.iadd, 1) := d_law0_919
theorem d_law_920 {nm : String} : decode (mB (Y_law nm)) 920 = .ok (.iaload, 1) := d_law0_920
theorem d_law_921 {nm : String} : decode (mB (Y_law nm)) 921 = .ok (.aload_n 0, 1) := d_law0_921
theorem d_law_922 {nm : String} : decode (mB (Y_law nm)) 922 = .ok (.iload_n 3, 1) := d_law0_922
theorem d_law_923 {nm : String} : decode (mB (Y_law nm)) 923 = .ok (.iconst 2, 1) := d_law0_923
theorem d_law_924 {nm : String} : decode (mB (Y_law nm)) 924 = .ok (.iadd, 1) := d_law0_924
theorem d_law_925 {nm : String} : decode (mB (Y_law nm)) 925 = .ok (.iaload, 1) := d_law0_925
theorem d_law_926 {nm : String} : decode (mB (Y_law nm)) 926 = .ok (.invokevirtual 101, 3) := d_law0_926
theorem d_law_929 {nm : String} : decode (mB (Y_law nm)) 929 = .ok (.if_icmp .eq 355, 3) := d_law0_929
theorem d_law_932 {nm : String} : decode (mB (Y_law nm)) 932 = .ok (.iconst 0, 1) := d_law0_932
theorem d_law_933 {nm : String} : decode (mB (Y_law nm)) 933 = .ok (.ireturn, 1) := d_law0_933
theorem d_law_934 {nm : String} : decode (mB (Y_law nm)) 934 = .ok (.aload_n 1, 1) := d_law0_934
theorem d_law_935 {nm : String} : decode (mB (Y_law nm)) 935 = .ok (.aload_n 0, 1) := d_law0_935
theorem d_law_936 {nm : String} : decode (mB (Y_law nm)) 936 = .ok (.iload_n 3, 1) := d_law0_936
theorem d_law_937 {nm : String} : decode (mB (Y_law nm)) 937 = .ok (.iconst 1, 1) := d_law0_937
theorem d_law_938 {nm : String} : decode (mB (Y_law nm)) 938 = .ok (.iadd, 1) := d_law0_938
theorem d_law_939 {nm : String} : decode (mB (Y_law nm)) 939 = .ok (.iaload, 1) := d_law0_939
theorem d_law_940 {nm : String} : decode (mB (Y_law nm)) 940 = .ok (.aload_n 0, 1) := d_law0_940
theorem d_law_941 {nm : String} : decode (mB (Y_law nm)) 941 = .ok (.iload_n 3, 1) := d_law0_941
theorem d_law_942 {nm : String} : decode (mB (Y_law nm)) 942 = .ok (.iconst 2, 1) := d_law0_942
theorem d_law_943 {nm : String} : decode (mB (Y_law nm)) 943 = .ok (.iadd, 1) := d_law0_943
theorem d_law_944 {nm : String} : decode (mB (Y_law nm)) 944 = .ok (.iaload, 1) := d_law0_944
theorem d_law_945 {nm : String} : decode (mB (Y_law nm)) 945 = .ok (.aload_n 0, 1) := d_law0_945
theorem d_law_946 {nm : String} : decode (mB (Y_law nm)) 946 = .ok (.iload_n 3, 1) := d_law0_946
theorem d_law_947 {nm : String} : decode (mB (Y_law nm)) 947 = .ok (.iconst 3, 1) := d_law0_947
theorem d_law_948 {nm : String} : decode (mB (Y_law nm)) 948 = .ok (.iadd, 1) := d_law0_948
theorem d_law_949 {nm : String} : decode (mB (Y_law nm)) 949 = .ok (.iaload, 1) := d_law0_949
theorem d_law_950 {nm : String} : decode (mB (Y_law nm)) 950 = .ok (.invokevirtual 102, 3) := d_law0_950
theorem d_law_953 {nm : String} : decode (mB (Y_law nm)) 953 = .ok (.aload_n 2, 1) := d_law0_953
theorem d_law_954 {nm : String} : decode (mB (Y_law nm)) 954 = .ok (.aload_n 0, 1) := d_law0_954
theorem d_law_955 {nm : String} : decode (mB (Y_law nm)) 955 = .ok (.iload_n 3, 1) := d_law0_955
theorem d_law_956 {nm : String} : decode (mB (Y_law nm)) 956 = .ok (.iconst 1, 1) := d_law0_956
theorem d_law_957 {nm : String} : decode (mB (Y_law nm)) 957 = .ok (.iadd, 1) := d_law0_957
theorem d_law_958 {nm : String} : decode (mB (Y_law nm)) 958 = .ok (.iaload, 1) := d_law0_958
theorem d_law_959 {nm : String} : decode (mB (Y_law nm)) 959 = .ok (.aload_n 0, 1) := d_law0_959
theorem d_law_960 {nm : String} : decode (mB (Y_law nm)) 960 = .ok (.iload_n 3, 1) := d_law0_960
theorem d_law_961 {nm : String} : decode (mB (Y_law nm)) 961 = .ok (.iconst 2, 1) := d_law0_961
theorem d_law_962 {nm : String} : decode (mB (Y_law nm)) 962 = .ok (.iadd, 1) := d_law0_962
theorem d_law_963 {nm : String} : decode (mB (Y_law nm)) 963 = .ok (.iaload, 1) := d_law0_963
theorem d_law_964 {nm : String} : decode (mB (Y_law nm)) 964 = .ok (.aload_n 0, 1) := d_law0_964
theorem d_law_965 {nm : String} : decode (mB (Y_law nm)) 965 = .ok (.iload_n 3, 1) := d_law0_965
theorem d_law_966 {nm : String} : decode (mB (Y_law nm)) 966 = .ok (.iconst 3, 1) := d_law0_966
theorem d_law_967 {nm : String} : decode (mB (Y_law nm)) 967 = .ok (.iadd, 1) := d_law0_967
theorem d_law_968 {nm : String} : decode (mB (Y_law nm)) 968 = .ok (.iaload, 1) := d_law0_968
theorem d_law_969 {nm : String} : decode (mB (Y_law nm)) 969 = .ok (.invokevirtual 105, 3) := d_law0_969
theorem d_law_972 {nm : String} : decode (mB (Y_law nm)) 972 = .ok (.if_icmp .eq 312, 3) := d_law0_972
theorem d_law_975 {nm : String} : decode (mB (Y_law nm)) 975 = .ok (.iconst 0, 1) := d_law0_975
theorem d_law_976 {nm : String} : decode (mB (Y_law nm)) 976 = .ok (.ireturn, 1) := d_law0_976
theorem d_law_977 {nm : String} : decode (mB (Y_law nm)) 977 = .ok (.aload_n 1, 1) := d_law0_977
theorem d_law_978 {nm : String} : decode (mB (Y_law nm)) 978 = .ok (.aload_n 0, 1) := d_law0_978
theorem d_law_979 {nm : String} : decode (mB (Y_law nm)) 979 = .ok (.iload_n 3, 1) := d_law0_979
theorem d_law_980 {nm : String} : decode (mB (Y_law nm)) 980 = .ok (.iconst 1, 1) := d_law0_980
theorem d_law_981 {nm : String} : decode (mB (Y_law nm)) 981 = .ok (.iadd, 1) := d_law0_981
theorem d_law_982 {nm : String} : decode (mB (Y_law nm)) 982 = .ok (.iaload, 1) := d_law0_982
theorem d_law_983 {nm : String} : decode (mB (Y_law nm)) 983 = .ok (.aload_n 0, 1) := d_law0_983
theorem d_law_984 {nm : String} : decode (mB (Y_law nm)) 984 = .ok (.iload_n 3, 1) := d_law0_984
theorem d_law_985 {nm : String} : decode (mB (Y_law nm)) 985 = .ok (.iconst 2, 1) := d_law0_985
theorem d_law_986 {nm : String} : decode (mB (Y_law nm)) 986 = .ok (.iadd, 1) := d_law0_986
theorem d_law_987 {nm : String} : decode (mB (Y_law nm)) 987 = .ok (.iaload, 1) := d_law0_987
theorem d_law_988 {nm : String} : decode (mB (Y_law nm)) 988 = .ok (.aload_n 0, 1) := d_law0_988
theorem d_law_989 {nm : String} : decode (mB (Y_law nm)) 989 = .ok (.iload_n 3, 1) := d_law0_989
theorem d_law_990 {nm : String} : decode (mB (Y_law nm)) 990 = .ok (.iconst 3, 1) := d_law0_990
theorem d_law_991 {nm : String} : decode (mB (Y_law nm)) 991 = .ok (.iadd, 1) := d_law0_991
theorem d_law_992 {nm : String} : decode (mB (Y_law nm)) 992 = .ok (.iaload, 1) := d_law0_992
theorem d_law_993 {nm : String} : decode (mB (Y_law nm)) 993 = .ok (.aload_n 0, 1) := d_law0_993
theorem d_law_994 {nm : String} : decode (mB (Y_law nm)) 994 = .ok (.iload_n 3, 1) := d_law0_994
theorem d_law_995 {nm : String} : decode (mB (Y_law nm)) 995 = .ok (.iconst 4, 1) := d_law0_995
theorem d_law_996 {nm : String} : decode (mB (Y_law nm)) 996 = .ok (.iadd, 1) := d_law0_996
theorem d_law_997 {nm : String} : decode (mB (Y_law nm)) 997 = .ok (.iaload, 1) := d_law0_997
theorem d_law_998 {nm : String} : decode (mB (Y_law nm)) 998 = .ok (.invokevirtual 106, 3) := d_law0_998
theorem d_law_1001 {nm : String} : decode (mB (Y_law nm)) 1001 = .ok (.aload_n 2, 1) := d_law0_1001
theorem d_law_1002 {nm : String} : decode (mB (Y_law nm)) 1002 = .ok (.aload_n 0, 1) := d_law0_1002
theorem d_law_1003 {nm : String} : decode (mB (Y_law nm)) 1003 = .ok (.iload_n 3, 1) := d_law0_1003
theorem d_law_1004 {nm : String} : decode (mB (Y_law nm)) 1004 = .ok (.iconst 1, 1) := d_law0_1004
theorem d_law_1005 {nm : String} : decode (mB (Y_law nm)) 1005 = .ok (.iadd, 1) := d_law0_1005
theorem d_law_1006 {nm : String} : decode (mB (Y_law nm)) 1006 = .ok (.iaload, 1) := d_law0_1006
theorem d_law_1007 {nm : String} : decode (mB (Y_law nm)) 1007 = .ok (.aload_n 0, 1) := d_law0_1007
theorem d_law_1008 {nm : String} : decode (mB (Y_law nm)) 1008 = .ok (.iload_n 3, 1) := d_law0_1008
theorem d_law_1009 {nm : String} : decode (mB (Y_law nm)) 1009 = .ok (.iconst 2, 1) := d_law0_1009
theorem d_law_1010 {nm : String} : decode (mB (Y_law nm)) 1010 = .ok (.iadd, 1) := d_law0_1010
theorem d_law_1011 {nm : String} : decode (mB (Y_law nm)) 1011 = .ok (.iaload, 1) := d_law0_1011
theorem d_law_1012 {nm : String} : decode (mB (Y_law nm)) 1012 = .ok (.aload_n 0, 1) := d_law0_1012
theorem d_law_1013 {nm : String} : decode (mB (Y_law nm)) 1013 = .ok (.iload_n 3, 1) := d_law0_1013
theorem d_law_1014 {nm : String} : decode (mB (Y_law nm)) 1014 = .ok (.iconst 3, 1) := d_law0_1014
theorem d_law_1015 {nm : String} : decode (mB (Y_law nm)) 1015 = .ok (.iadd, 1) := d_law0_1015
theorem d_law_1016 {nm : String} : decode (mB (Y_law nm)) 1016 = .ok (.iaload, 1) := d_law0_1016
theorem d_law_1017 {nm : String} : decode (mB (Y_law nm)) 1017 = .ok (.aload_n 0, 1) := d_law0_1017
theorem d_law_1018 {nm : String} : decode (mB (Y_law nm)) 1018 = .ok (.iload_n 3, 1) := d_law0_1018
theorem d_law_1019 {nm : String} : decode (mB (Y_law nm)) 1019 = .ok (.iconst 4, 1) := d_law0_1019
theorem d_law_1020 {nm : String} : decode (mB (Y_law nm)) 1020 = .ok (.iadd, 1) := d_law0_1020
theorem d_law_1021 {nm : String} : decode (mB (Y_law nm)) 1021 = .ok (.iaload, 1) := d_law0_1021
theorem d_law_1022 {nm : String} : decode (mB (Y_law nm)) 1022 = .ok (.invokevirtual 109, 3) := d_law0_1022
theorem d_law_1025 {nm : String} : decode (mB (Y_law nm)) 1025 = .ok (.if_icmp .eq 259, 3) := d_law0_1025
theorem d_law_1028 {nm : String} : decode (mB (Y_law nm)) 1028 = .ok (.iconst 0, 1) := d_law0_1028
theorem d_law_1029 {nm : String} : decode (mB (Y_law nm)) 1029 = .ok (.ireturn, 1) := d_law0_1029
theorem d_law_1030 {nm : String} : decode (mB (Y_law nm)) 1030 = .ok (.aload_n 1, 1) := d_law0_1030
theorem d_law_1031 {nm : String} : decode (mB (Y_law nm)) 1031 = .ok (.aload_n 0, 1) := d_law0_1031
theorem d_law_1032 {nm : String} : decode (mB (Y_law nm)) 1032 = .ok (.iload_n 3, 1) := d_law0_1032
theorem d_law_1033 {nm : String} : decode (mB (Y_law nm)) 1033 = .ok (.iconst 1, 1) := d_law0_1033
theorem d_law_1034 {nm : String} : decode (mB (Y_law nm)) 1034 = .ok (.iadd, 1) := d_law0_1034
theorem d_law_1035 {nm : String} : decode (mB (Y_law nm)) 1035 = .ok (.iaload, 1) := d_law0_1035
theorem d_law_1036 {nm : String} : decode (mB (Y_law nm)) 1036 = .ok (.aload_n 0, 1) := d_law0_1036
theorem d_law_1037 {nm : String} : decode (mB (Y_law nm)) 1037 = .ok (.iload_n 3, 1) := d_law0_1037
theorem d_law_1038 {nm : String} : decode (mB (Y_law nm)) 1038 = .ok (.iconst 2, 1) := d_law0_1038
theorem d_law_1039 {nm : String} : decode (mB (Y_law nm)) 1039 = .ok (.iadd, 1) := d_law0_1039
theorem d_law_1040 {nm : String} : decode (mB (Y_law nm)) 1040 = .ok (.iaload, 1) := d_law0_1040
theorem d_law_1041 {nm : String} : decode (mB (Y_law nm)) 1041 = .ok (.invokevirtual 110, 3) := d_law0_1041
theorem d_law_1044 {nm : String} : decode (mB (Y_law nm)) 1044 = .ok (.aload_n 2, 1) := d_law0_1044
theorem d_law_1045 {nm : String} : decode (mB (Y_law nm)) 1045 = .ok (.aload_n 0, 1) := d_law0_1045
theorem d_law_1046 {nm : String} : decode (mB (Y_law nm)) 1046 = .ok (.iload_n 3, 1) := d_law0_1046
theorem d_law_1047 {nm : String} : decode (mB (Y_law nm)) 1047 = .ok (.iconst 1, 1) := d_law0_1047
theorem d_law_1048 {nm : String} : decode (mB (Y_law nm)) 1048 = .ok (.iadd, 1) := d_law0_1048
theorem d_law_1049 {nm : String} : decode (mB (Y_law nm)) 1049 = .ok (.iaload, 1) := d_law0_1049
theorem d_law_1050 {nm : String} : decode (mB (Y_law nm)) 1050 = .ok (.aload_n 0, 1) := d_law0_1050
theorem d_law_1051 {nm : String} : decode (mB (Y_law nm)) 1051 = .ok (.iload_n 3, 1) := d_law0_1051
theorem d_law_1052 {nm : String} : decode (mB (Y_law nm)) 1052 = .ok (.iconst 2, 1) := d_law0_1052
theorem d_law_1053 {nm : String} : decode (mB (Y_law nm)) 1053 = .ok (.iadd, 1) := d_law0_1053
theorem d_law_1054 {nm : String} : decode (mB (Y_law nm)) 1054 = .ok (.iaload, 1) := d_law0_1054
theorem d_law_1055 {nm : String} : decode (mB (Y_law nm)) 1055 = .ok (.invokevirtual 113, 3) := d_law0_1055
theorem d_law_1058 {nm : String} : decode (mB (Y_law nm)) 1058 = .ok (.if_icmp .eq 226, 3) := d_law0_1058
theorem d_law_1061 {nm : String} : decode (mB (Y_law nm)) 1061 = .ok (.iconst 0, 1) := d_law0_1061
theorem d_law_1062 {nm : String} : decode (mB (Y_law nm)) 1062 = .ok (.ireturn, 1) := d_law0_1062
theorem d_law_1063 {nm : String} : decode (mB (Y_law nm)) 1063 = .ok (.aload_n 1, 1) := d_law0_1063
theorem d_law_1064 {nm : String} : decode (mB (Y_law nm)) 1064 = .ok (.aload_n 0, 1) := d_law0_1064
theorem d_law_1065 {nm : String} : decode (mB (Y_law nm)) 1065 = .ok (.iload_n 3, 1) := d_law0_1065
theorem d_law_1066 {nm : String} : decode (mB (Y_law nm)) 1066 = .ok (.iconst 1, 1) := d_law0_1066
theorem d_law_1067 {nm : String} : decode (mB (Y_law nm)) 1067 = .ok (.iadd, 1) := d_law0_1067
theorem d_law_1068 {nm : String} : decode (mB (Y_law nm)) 1068 = .ok (.iaload, 1) := d_law0_1068
theorem d_law_1069 {nm : String} : decode (mB (Y_law nm)) 1069 = .ok (.aload_n 0, 1) := d_law0_1069
theorem d_law_1070 {nm : String} : decode (mB (Y_law nm)) 1070 = .ok (.iload_n 3, 1) := d_law0_1070
theorem d_law_1071 {nm : String} : decode (mB (Y_law nm)) 1071 = .ok (.iconst 2, 1) := d_law0_1071
theorem d_law_1072 {nm : String} : decode (mB (Y_law nm)) 1072 = .ok (.iadd, 1) := d_law0_1072
theorem d_law_1073 {nm : String} : decode (mB (Y_law nm)) 1073 = .ok (.iaload, 1) := d_law0_1073
theorem d_law_1074 {nm : String} : decode (mB (Y_law nm)) 1074 = .ok (.aload_n 0, 1) := d_law0_1074
theorem d_law_1075 {nm : String} : decode (mB (Y_law nm)) 1075 = .ok (.iload_n 3, 1) := d_law0_1075
theorem d_law_1076 {nm : String} : decode (mB (Y_law nm)) 1076 = .ok (.iconst 3, 1) := d_law0_1076
theorem d_law_1077 {nm : String} : decode (mB (Y_law nm)) 1077 = .ok (.iadd, 1) := d_law0_1077
theorem d_law_1078 {nm : String} : decode (mB (Y_law nm)) 1078 = .ok (.iaload, 1) := d_law0_1078
theorem d_law_1079 {nm : String} : decode (mB (Y_law nm)) 1079 = .ok (.aload_n 0, 1) := d_law0_1079
theorem d_law_1080 {nm : String} : decode (mB (Y_law nm)) 1080 = .ok (.iload_n 3, 1) := d_law0_1080
theorem d_law_1081 {nm : String} : decode (mB (Y_law nm)) 1081 = .ok (.iconst 4, 1) := d_law0_1081
theorem d_law_1082 {nm : String} : decode (mB (Y_law nm)) 1082 = .ok (.iadd, 1) := d_law0_1082
theorem d_law_1083 {nm : String} : decode (mB (Y_law nm)) 1083 = .ok (.iaload, 1) := d_law0_1083
theorem d_law_1084 {nm : String} : decode (mB (Y_law nm)) 1084 = .ok (.invokevirtual 114, 3) := d_law0_1084
theorem d_law_1087 {nm : String} : decode (mB (Y_law nm)) 1087 = .ok (.aload_n 2, 1) := d_law0_1087
theorem d_law_1088 {nm : String} : decode (mB (Y_law nm)) 1088 = .ok (.aload_n 0, 1) := d_law0_1088
theorem d_law_1089 {nm : String} : decode (mB (Y_law nm)) 1089 = .ok (.iload_n 3, 1) := d_law0_1089
theorem d_law_1090 {nm : String} : decode (mB (Y_law nm)) 1090 = .ok (.iconst 1, 1) := d_law0_1090
theorem d_law_1091 {nm : String} : decode (mB (Y_law nm)) 1091 = .ok (.iadd, 1) := d_law0_1091
theorem d_law_1092 {nm : String} : decode (mB (Y_law nm)) 1092 = .ok (.iaload, 1) := d_law0_1092
theorem d_law_1093 {nm : String} : decode (mB (Y_law nm)) 1093 = .ok (.aload_n 0, 1) := d_law0_1093
theorem d_law_1094 {nm : String} : decode (mB (Y_law nm)) 1094 = .ok (.iload_n 3, 1) := d_law0_1094
theorem d_law_1095 {nm : String} : decode (mB (Y_law nm)) 1095 = .ok (.iconst 2, 1) := d_law0_1095
theorem d_law_1096 {nm : String} : decode (mB (Y_law nm)) 1096 = .ok (.iadd, 1) := d_law0_1096
theorem d_law_1097 {nm : String} : decode (mB (Y_law nm)) 1097 = .ok (.iaload, 1) := d_law0_1097
theorem d_law_1098 {nm : String} : decode (mB (Y_law nm)) 1098 = .ok (.aload_n 0, 1) := d_law0_1098
theorem d_law_1099 {nm : String} : decode (mB (Y_law nm)) 1099 = .ok (.iload_n 3, 1) := d_law0_1099
theorem d_law_1100 {nm : String} : decode (mB (Y_law nm)) 1100 = .ok (.iconst 3, 1) := d_law0_1100
theorem d_law_1101 {nm : String} : decode (mB (Y_law nm)) 1101 = .ok (.iadd, 1) := d_law0_1101
theorem d_law_1102 {nm : String} : decode (mB (Y_law nm)) 1102 = .ok (.iaload, 1) := d_law0_1102
theorem d_law_1103 {nm : String} : decode (mB (Y_law nm)) 1103 = .ok (.aload_n 0, 1) := d_law0_1103
theorem d_law_1104 {nm : String} : decode (mB (Y_law nm)) 1104 = .ok (.iload_n 3, 1) := d_law0_1104
theorem d_law_1105 {nm : String} : decode (mB (Y_law nm)) 1105 = .ok (.iconst 4, 1) := d_law0_1105
theorem d_law_1106 {nm : String} : decode (mB (Y_law nm)) 1106 = .ok (.iadd, 1) := d_law0_1106
theorem d_law_1107 {nm : String} : decode (mB (Y_law nm)) 1107 = .ok (.iaload, 1) := d_law0_1107
theorem d_law_1108 {nm : String} : decode (mB (Y_law nm)) 1108 = .ok (.invokevirtual 117, 3) := d_law0_1108
theorem d_law_1111 {nm : String} : decode (mB (Y_law nm)) 1111 = .ok (.if_icmp .eq 173, 3) := d_law0_1111
theorem d_law_1114 {nm : String} : decode (mB (Y_law nm)) 1114 = .ok (.iconst 0, 1) := d_law0_1114
theorem d_law_1115 {nm : String} : decode (mB (Y_law nm)) 1115 = .ok (.ireturn, 1) := d_law0_1115
theorem d_law_1116 {nm : String} : decode (mB (Y_law nm)) 1116 = .ok (.aload_n 1, 1) := d_law0_1116
theorem d_law_1117 {nm : String} : decode (mB (Y_law nm)) 1117 = .ok (.aload_n 0, 1) := d_law0_1117
theorem d_law_1118 {nm : String} : decode (mB (Y_law nm)) 1118 = .ok (.iload_n 3, 1) := d_law0_1118
theorem d_law_1119 {nm : String} : decode (mB (Y_law nm)) 1119 = .ok (.iconst 1, 1) := d_law0_1119
theorem d_law_1120 {nm : String} : decode (mB (Y_law nm)) 1120 = .ok (.iadd, 1) := d_law0_1120
theorem d_law_1121 {nm : String} : decode (mB (Y_law nm)) 1121 = .ok (.iaload, 1) := d_law0_1121
theorem d_law_1122 {nm : String} : decode (mB (Y_law nm)) 1122 = .ok (.invokevirtual 118, 3) := d_law0_1122
theorem d_law_1125 {nm : String} : decode (mB (Y_law nm)) 1125 = .ok (.aload_n 2, 1) := d_law0_1125
theorem d_law_1126 {nm : String} : decode (mB (Y_law nm)) 1126 = .ok (.aload_n 0, 1) := d_law0_1126
theorem d_law_1127 {nm : String} : decode (mB (Y_law nm)) 1127 = .ok (.iload_n 3, 1) := d_law0_1127
theorem d_law_1128 {nm : String} : decode (mB (Y_law nm)) 1128 = .ok (.iconst 1, 1) := d_law0_1128
theorem d_law_1129 {nm : String} : decode (mB (Y_law nm)) 1129 = .ok (.iadd, 1) := d_law0_1129
theorem d_law_1130 {nm : String} : decode (mB (Y_law nm)) 1130 = .ok (.iaload, 1) := d_law0_1130
theorem d_law_1131 {nm : String} : decode (mB (Y_law nm)) 1131 = .ok (.invokevirtual 121, 3) := d_law0_1131
theorem d_law_1134 {nm : String} : decode (mB (Y_law nm)) 1134 = .ok (.if_icmp .eq 150, 3) := d_law0_1134
theorem d_law_1137 {nm : String} : decode (mB (Y_law nm)) 1137 = .ok (.iconst 0, 1) := d_law0_1137
theorem d_law_1138 {nm : String} : decode (mB (Y_law nm)) 1138 = .ok (.ireturn, 1) := d_law0_1138
theorem d_law_1139 {nm : String} : decode (mB (Y_law nm)) 1139 = .ok (.aload_n 1, 1) := d_law0_1139
theorem d_law_1140 {nm : String} : decode (mB (Y_law nm)) 1140 = .ok (.aload_n 0, 1) := d_law0_1140
theorem d_law_1141 {nm : String} : decode (mB (Y_law nm)) 1141 = .ok (.iload_n 3, 1) := d_law0_1141
theorem d_law_1142 {nm : String} : decode (mB (Y_law nm)) 1142 = .ok (.iconst 1, 1) := d_law0_1142
theorem d_law_1143 {nm : String} : decode (mB (Y_law nm)) 1143 = .ok (.iadd, 1) := d_law0_1143
theorem d_law_1144 {nm : String} : decode (mB (Y_law nm)) 1144 = .ok (.iaload, 1) := d_law0_1144
theorem d_law_1145 {nm : String} : decode (mB (Y_law nm)) 1145 = .ok (.aload_n 0, 1) := d_law0_1145
theorem d_law_1146 {nm : String} : decode (mB (Y_law nm)) 1146 = .ok (.iload_n 3, 1) := d_law0_1146
theorem d_law_1147 {nm : String} : decode (mB (Y_law nm)) 1147 = .ok (.iconst 2, 1) := d_law0_1147
theorem d_law_1148 {nm : String} : decode (mB (Y_law nm)) 1148 = .ok (.iadd, 1) := d_law0_1148
theorem d_law_1149 {nm : String} : decode (mB (Y_law nm)) 1149 = .ok (.iaload, 1) := d_law0_1149
theorem d_law_1150 {nm : String} : decode (mB (Y_law nm)) 1150 = .ok (.invokevirtual 122, 3) := d_law0_1150
theorem d_law_1153 {nm : String} : decode (mB (Y_law nm)) 1153 = .ok (.aload_n 2, 1) := d_law0_1153
theorem d_law_1154 {nm : String} : decode (mB (Y_law nm)) 1154 = .ok (.aload_n 0, 1) := d_law0_1154
theorem d_law_1155 {nm : String} : decode (mB (Y_law nm)) 1155 = .ok (.iload_n 3, 1) := d_law0_1155
theorem d_law_1156 {nm : String} : decode (mB (Y_law nm)) 1156 = .ok (.iconst 1, 1) := d_law0_1156
theorem d_law_1157 {nm : String} : decode (mB (Y_law nm)) 1157 = .ok (.iadd, 1) := d_law0_1157
theorem d_law_1158 {nm : String} : decode (mB (Y_law nm)) 1158 = .ok (.iaload, 1) := d_law0_1158
theorem d_law_1159 {nm : String} : decode (mB (Y_law nm)) 1159 = .ok (.aload_n 0, 1) := d_law0_1159
theorem d_law_1160 {nm : String} : decode (mB (Y_law nm)) 1160 = .ok (.iload_n 3, 1) := d_law0_1160
theorem d_law_1161 {nm : String} : decode (mB (Y_law nm)) 1161 = .ok (.iconst 2, 1) := d_law0_1161
theorem d_law_1162 {nm : String} : decode (mB (Y_law nm)) 1162 = .ok (.iadd, 1) := d_law0_1162
theorem d_law_1163 {nm : String} : decode (mB (Y_law nm)) 1163 = .ok (.iaload, 1) := d_law0_1163
theorem d_law_1164 {nm : String} : decode (mB (Y_law nm)) 1164 = .ok (.invokevirtual 125, 3) := d_law0_1164
theorem d_law_1167 {nm : String} : decode (mB (Y_law nm)) 1167 = .ok (.if_icmp .eq 117, 3) := d_law0_1167
theorem d_law_1170 {nm : String} : decode (mB (Y_law nm)) 1170 = .ok (.iconst 0, 1) := d_law0_1170
theorem d_law_1171 {nm : String} : decode (mB (Y_law nm)) 1171 = .ok (.ireturn, 1) := d_law0_1171
theorem d_law_1172 {nm : String} : decode (mB (Y_law nm)) 1172 = .ok (.aload_n 1, 1) := d_law0_1172
theorem d_law_1173 {nm : String} : decode (mB (Y_law nm)) 1173 = .ok (.aload_n 0, 1) := d_law0_1173
theorem d_law_1174 {nm : String} : decode (mB (Y_law nm)) 1174 = .ok (.iload_n 3, 1) := d_law0_1174
theorem d_law_1175 {nm : String} : decode (mB (Y_law nm)) 1175 = .ok (.iconst 1, 1) := d_law0_1175
theorem d_law_1176 {nm : String} : decode (mB (Y_law nm)) 1176 = .ok (.iadd, 1) := d_law0_1176
theorem d_law_1177 {nm : String} : decode (mB (Y_law nm)) 1177 = .ok (.iaload, 1) := d_law0_1177
theorem d_law_1178 {nm : String} : decode (mB (Y_law nm)) 1178 = .ok (.invokevirtual 126, 3) := d_law0_1178
theorem d_law_1181 {nm : String} : decode (mB (Y_law nm)) 1181 = .ok (.aload_n 2, 1) := d_law0_1181
theorem d_law_1182 {nm : String} : decode (mB (Y_law nm)) 1182 = .ok (.aload_n 0, 1) := d_law0_1182
theorem d_law_1183 {nm : String} : decode (mB (Y_law nm)) 1183 = .ok (.iload_n 3, 1) := d_law0_1183
theorem d_law_1184 {nm : String} : decode (mB (Y_law nm)) 1184 = .ok (.iconst 1, 1) := d_law0_1184
theorem d_law_1185 {nm : String} : decode (mB (Y_law nm)) 1185 = .ok (.iadd, 1) := d_law0_1185
theorem d_law_1186 {nm : String} : decode (mB (Y_law nm)) 1186 = .ok (.iaload, 1) := d_law0_1186
theorem d_law_1187 {nm : String} : decode (mB (Y_law nm)) 1187 = .ok (.invokevirtual 129, 3) := d_law0_1187
theorem d_law_1190 {nm : String} : decode (mB (Y_law nm)) 1190 = .ok (.if_icmp .eq 94, 3) := d_law0_1190
theorem d_law_1193 {nm : String} : decode (mB (Y_law nm)) 1193 = .ok (.iconst 0, 1) := d_law0_1193
theorem d_law_1194 {nm : String} : decode (mB (Y_law nm)) 1194 = .ok (.ireturn, 1) := d_law0_1194
theorem d_law_1195 {nm : String} : decode (mB (Y_law nm)) 1195 = .ok (.aload_n 1, 1) := d_law0_1195
theorem d_law_1196 {nm : String} : decode (mB (Y_law nm)) 1196 = .ok (.aload_n 0, 1) := d_law0_1196
theorem d_law_1197 {nm : String} : decode (mB (Y_law nm)) 1197 = .ok (.iload_n 3, 1) := d_law0_1197
theorem d_law_1198 {nm : String} : decode (mB (Y_law nm)) 1198 = .ok (.iconst 1, 1) := d_law0_1198
theorem d_law_1199 {nm : String} : decode (mB (Y_law nm)) 1199 = .ok (.iadd, 1) := d_law0_1199
theorem d_law_1200 {nm : String} : decode (mB (Y_law nm)) 1200 = .ok (.iaload, 1) := d_law0_1200
theorem d_law_1201 {nm : String} : decode (mB (Y_law nm)) 1201 = .ok (.aload_n 0, 1) := d_law0_1201
theorem d_law_1202 {nm : String} : decode (mB (Y_law nm)) 1202 = .ok (.iload_n 3, 1) := d_law0_1202
theorem d_law_1203 {nm : String} : decode (mB (Y_law nm)) 1203 = .ok (.iconst 2, 1) := d_law0_1203
theorem d_law_1204 {nm : String} : decode (mB (Y_law nm)) 1204 = .ok (.iadd, 1) := d_law0_1204
theorem d_law_1205 {nm : String} : decode (mB (Y_law nm)) 1205 = .ok (.iaload, 1) := d_law0_1205
theorem d_law_1206 {nm : String} : decode (mB (Y_law nm)) 1206 = .ok (.invokevirtual 130, 3) := d_law0_1206
theorem d_law_1209 {nm : String} : decode (mB (Y_law nm)) 1209 = .ok (.aload_n 2, 1) := d_law0_1209
theorem d_law_1210 {nm : String} : decode (mB (Y_law nm)) 1210 = .ok (.aload_n 0, 1) := d_law0_1210
theorem d_law_1211 {nm : String} : decode (mB (Y_law nm)) 1211 = .ok (.iload_n 3, 1) := d_law0_1211
theorem d_law_1212 {nm : String} : decode (mB (Y_law nm)) 1212 = .ok (.iconst 1, 1) := d_law0_1212
theorem d_law_1213 {nm : String} : decode (mB (Y_law nm)) 1213 = .ok (.iadd, 1) := d_law0_1213
theorem d_law_1214 {nm : String} : decode (mB (Y_law nm)) 1214 = .ok (.iaload, 1) := d_law0_1214
theorem d_law_1215 {nm : String} : decode (mB (Y_law nm)) 1215 = .ok (.aload_n 0, 1) := d_law0_1215
theorem d_law_1216 {nm : String} : decode (mB (Y_law nm)) 1216 = .ok (.iload_n 3, 1) := d_law0_1216
theorem d_law_1217 {nm : String} : decode (mB (Y_law nm)) 1217 = .ok (.iconst 2, 1) := d_law0_1217
theorem d_law_1218 {nm : String} : decode (mB (Y_law nm)) 1218 = .ok (.iadd, 1) := d_law0_1218
theorem d_law_1219 {nm : String} : decode (mB (Y_law nm)) 1219 = .ok (.iaload, 1) := d_law0_1219
theorem d_law_1220 {nm : String} : decode (mB (Y_law nm)) 1220 = .ok (.invokevirtual 133, 3) := d_law0_1220
theorem d_law_1223 {nm : String} : decode (mB (Y_law nm)) 1223 = .ok (.if_icmp .eq 61, 3) := d_law0_1223
theorem d_law_1226 {nm : String} : decode (mB (Y_law nm)) 1226 = .ok (.iconst 0, 1) := d_law0_1226
theorem d_law_1227 {nm : String} : decode (mB (Y_law nm)) 1227 = .ok (.ireturn, 1) := d_law0_1227
theorem d_law_1228 {nm : String} : decode (mB (Y_law nm)) 1228 = .ok (.aload_n 1, 1) := d_law0_1228
theorem d_law_1229 {nm : String} : decode (mB (Y_law nm)) 1229 = .ok (.aload_n 0, 1) := d_law0_1229
theorem d_law_1230 {nm : String} : decode (mB (Y_law nm)) 1230 = .ok (.iload_n 3, 1) := d_law0_1230
theorem d_law_1231 {nm : String} : decode (mB (Y_law nm)) 1231 = .ok (.iconst 1, 1) := d_law0_1231
theorem d_law_1232 {nm : String} : decode (mB (Y_law nm)) 1232 = .ok (.iadd, 1) := d_law0_1232
theorem d_law_1233 {nm : String} : decode (mB (Y_law nm)) 1233 = .ok (.iaload, 1) := d_law0_1233
theorem d_law_1234 {nm : String} : decode (mB (Y_law nm)) 1234 = .ok (.aload_n 0, 1) := d_law0_1234
theorem d_law_1235 {nm : String} : decode (mB (Y_law nm)) 1235 = .ok (.iload_n 3, 1) := d_law0_1235
theorem d_law_1236 {nm : String} : decode (mB (Y_law nm)) 1236 = .ok (.iconst 2, 1) := d_law0_1236
theorem d_law_1237 {nm : String} : decode (mB (Y_law nm)) 1237 = .ok (.iadd, 1) := d_law0_1237
theorem d_law_1238 {nm : String} : decode (mB (Y_law nm)) 1238 = .ok (.iaload, 1) := d_law0_1238
theorem d_law_1239 {nm : String} : decode (mB (Y_law nm)) 1239 = .ok (.invokevirtual 134, 3) := d_law0_1239
theorem d_law_1242 {nm : String} : decode (mB (Y_law nm)) 1242 = .ok (.aload_n 2, 1) := d_law0_1242
theorem d_law_1243 {nm : String} : decode (mB (Y_law nm)) 1243 = .ok (.aload_n 0, 1) := d_law0_1243
theorem d_law_1244 {nm : String} : decode (mB (Y_law nm)) 1244 = .ok (.iload_n 3, 1) := d_law0_1244
theorem d_law_1245 {nm : String} : decode (mB (Y_law nm)) 1245 = .ok (.iconst 1, 1) := d_law0_1245
theorem d_law_1246 {nm : String} : decode (mB (Y_law nm)) 1246 = .ok (.iadd, 1) := d_law0_1246
theorem d_law_1247 {nm : String} : decode (mB (Y_law nm)) 1247 = .ok (.iaload, 1) := d_law0_1247
theorem d_law_1248 {nm : String} : decode (mB (Y_law nm)) 1248 = .ok (.aload_n 0, 1) := d_law0_1248
theorem d_law_1249 {nm : String} : decode (mB (Y_law nm)) 1249 = .ok (.iload_n 3, 1) := d_law0_1249
theorem d_law_1250 {nm : String} : decode (mB (Y_law nm)) 1250 = .ok (.iconst 2, 1) := d_law0_1250
theorem d_law_1251 {nm : String} : decode (mB (Y_law nm)) 1251 = .ok (.iadd, 1) := d_law0_1251
theorem d_law_1252 {nm : String} : decode (mB (Y_law nm)) 1252 = .ok (.iaload, 1) := d_law0_1252
theorem d_law_1253 {nm : String} : decode (mB (Y_law nm)) 1253 = .ok (.invokevirtual 137, 3) := d_law0_1253
theorem d_law_1256 {nm : String} : decode (mB (Y_law nm)) 1256 = .ok (.if_icmp .eq 28, 3) := d_law0_1256
theorem d_law_1259 {nm : String} : decode (mB (Y_law nm)) 1259 = .ok (.iconst 0, 1) := d_law0_1259
theorem d_law_1260 {nm : String} : decode (mB (Y_law nm)) 1260 = .ok (.ireturn, 1) := d_law0_1260
theorem d_law_1261 {nm : String} : decode (mB (Y_law nm)) 1261 = .ok (.aload_n 1, 1) := d_law0_1261
theorem d_law_1262 {nm : String} : decode (mB (Y_law nm)) 1262 = .ok (.aload_n 0, 1) := d_law0_1262
theorem d_law_1263 {nm : String} : decode (mB (Y_law nm)) 1263 = .ok (.iload_n 3, 1) := d_law0_1263
theorem d_law_1264 {nm : String} : decode (mB (Y_law nm)) 1264 = .ok (.iconst 1, 1) := d_law0_1264
theorem d_law_1265 {nm : String} : decode (mB (Y_law nm)) 1265 = .ok (.iadd, 1) := d_law0_1265
theorem d_law_1266 {nm : String} : decode (mB (Y_law nm)) 1266 = .ok (.iaload, 1) := d_law0_1266
theorem d_law_1267 {nm : String} : decode (mB (Y_law nm)) 1267 = .ok (.invokevirtual 138, 3) := d_law0_1267
theorem d_law_1270 {nm : String} : decode (mB (Y_law nm)) 1270 = .ok (.aload_n 2, 1) := d_law0_1270
theorem d_law_1271 {nm : String} : decode (mB (Y_law nm)) 1271 = .ok (.aload_n 0, 1) := d_law0_1271
theorem d_law_1272 {nm : String} : decode (mB (Y_law nm)) 1272 = .ok (.iload_n 3, 1) := d_law0_1272
theorem d_law_1273 {nm : String} : decode (mB (Y_law nm)) 1273 = .ok (.iconst 1, 1) := d_law0_1273
theorem d_law_1274 {nm : String} : decode (mB (Y_law nm)) 1274 = .ok (.iadd, 1) := d_law0_1274
theorem d_law_1275 {nm : String} : decode (mB (Y_law nm)) 1275 = .ok (.iaload, 1) := d_law0_1275
theorem d_law_1276 {nm : String} : decode (mB (Y_law nm)) 1276 = .ok (.invokevirtual 141, 3) := d_law0_1276
theorem d_law_1279 {nm : String} : decode (mB (Y_law nm)) 1279 = .ok (.if_icmp .eq 5, 3) := d_law0_1279
theorem d_law_1282 {nm : String} : decode (mB (Y_law nm)) 1282 = .ok (.iconst 0, 1) := d_law0_1282
theorem d_law_1283 {nm : String} : decode (mB (Y_law nm)) 1283 = .ok (.ireturn, 1) := d_law0_1283
theorem d_law_1284 {nm : String} : decode (mB (Y_law nm)) 1284 = .ok (.iinc 3 6, 3) := d_law0_1284
theorem d_law_1287 {nm : String} : decode (mB (Y_law nm)) 1287 = .ok (.goto (-1269), 3) := d_law0_1287
theorem d_law_1290 {nm : String} : decode (mB (Y_law nm)) 1290 = .ok (.iconst 1, 1) := d_law0_1290
theorem d_law_1291 {nm : String} : decode (mB (Y_law nm)) 1291 = .ok (.ireturn, 1) := d_law0_1291
