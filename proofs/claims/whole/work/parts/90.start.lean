def scd (i j : Nat) : Cond := .eq (.elem (.field (.string "BangSquare$Reader" (sIx i)) "java/lang/String" "value" "[B") (.int (Int32.ofNat j))) (.int ((sByt.getD i []).getD j 0))
theorem sl_0 : ((flatC (Jvm.Cond.and given_1 narrow_1)).drop 65).take 96 = (List.range 96).map (scd 0) := by decide +kernel
theorem sl_1 : ((flatC (Jvm.Cond.and given_1 narrow_1)).drop 165).take 88 = (List.range 88).map (scd 1) := by decide +kernel
theorem sl_2 : ((flatC (Jvm.Cond.and given_1 narrow_1)).drop 258).take 10 = (List.range 10).map (scd 2) := by decide +kernel
theorem fl_mem {L : List Cond} {a n i : Nat} (h : (L.drop a).take n = (List.range n).map (scd i)) (j : Nat) (hj : j < n) : scd i j ∈ L := by
  have h1 : scd i j ∈ (L.drop a).take n := by rw [h]; exact List.mem_map.mpr ⟨j, List.mem_range.mpr hj, rfl⟩
  exact List.mem_of_mem_drop (List.mem_of_mem_take h1)
theorem nst_in : ∀ q ∈ nst, Cond.methodLinkNest q.1 q.2.1 q.2.2.1 q.2.2.2 ∈ lw_tbl := by decide +kernel
theorem arw_in : ∀ C ∈ arw, Cond.arrayOver (.object C) ∈ lw_tbl := by decide +kernel
/-! THE CLAIM OUT OF ONE WALK OF THE LAW'S BODY. Your part is whole_start (and what it stands on); all else here is the same for every law, but numbers. -/
def R_law : String := "BangSquareLaw"
def lw_P (b : Addr) (xs : List Int32) (args : Array Value) (s : State) : Prop := args = #[.ref b] ∧ s.IntsAt b xs ∧ xs.length ≤ 3072 ∧ (Jvm.Cond.and given_1 narrow_1).before args s = true
def lw_Q (_ : Array Value) (s : State) (o : Outcome) (t : State) : Prop := o = .returned (some (.int 1)) ∧ Framed s o t [] 600000 7302249
def lw_Z (below : List Frame) (a : Array Value) (s : State) : State → Prop := fun t => ∃ o, t.status = .running ∧ Ended t below o ∧ lw_Q a s o t
/-- the law's own end, with 1 on the stack, nothing written that was there before, its room as the claim has it -/
theorem lw_ret {p : Program} {l : Launch} {e : Env} {s : State} {m : MethodId} {below : List Frame} {meth : Method} {c : Code} {b : Nat} (hx : p.tables.exec = Jvm.exec) (hb : c.code = code) (hr : meth.sig.returnType = ret) (hlocks : meth.locks = false) {pc : Nat} {H : Heap} {ls : Array Slot} (hdg : decode code pc = .ok (.ireturn, 1)) : W p l e room_1 s m #[Value.ref b] below meth c H [] 600000 7302249 (lw_Z below #[Value.ref b] s) (F0 m pc ls [.int 1]) := by
  intro T hT X
  obtain ⟨fs, hret, hrun, hended, hW, hframe⟩ := X.leave (v := some (.int 1)) (hlocks := hlocks) (fun h => by rw [hr] at h; cases h)
  have hmeth' : T.vm.method? m = some meth := X.method'
  refine ⟨T.setFrames fs, ?_, .returned (some (.int 1)), hrun, hended, rfl, ⟨_, rfl⟩, hW, hframe⟩
  jvm_step X.here [X.here.top, hx, hb, hdg, hmeth', hr, ret, narrow_b1]
  (try refine ⟨rfl, ?_⟩); (try refine ⟨rfl, ?_⟩)
  first | (intro acts; rw [hret _ acts rfl rfl rfl]) | rw [hret _ _ rfl rfl rfl]
  exact Steps.refl _
/-- what holds at the law's entry: the machine, the code, the tables' words (any of lw_tbl by 'hts w (by decide +kernel)'), the script of L ints xs at the cell b, what the Statement gives of the start (any of its parts by flat_of_before) -/
def lw_At (p : Program) (s : State) (m : MethodId) (meth : Method) (c : Code) (b L : Nat) (xs : Nat → Int32) : Prop :=
  p.tables.exec = Jvm.exec ∧ c.code = code ∧ meth.sig.returnType = ret ∧ c.maxLocals = 4 ∧ s.vm.findClass R_law = some m.cls ∧ (∀ w ∈ lw_tbl, w.before #[Value.ref b] s = true) ∧ va_X b L xs s s.heap ∧ b < s.heap.size ∧ meth.locks = false ∧ (Jvm.Cond.and given_1 narrow_1).before #[Value.ref b] s = true
/-- what the Statement gives of the texts and statics at the start -/
theorem kk_start {p : Program} {s : State} {m : MethodId} {meth : Method} {c : Code} {b L : Nat} {xs : Nat → Int32} (C0 : lw_At p s m meth c b L xs) : ∃ G : Gl, gB G = s.heap.size ∧ KK G s := by
  obtain ⟨hx, hb, hr, hml, hown, hts, hX, hbl, hlocks, hgv⟩ := C0
  have hA : ∀ a : Nat, a < s.heap.size → ¬ (fun q : Nat => s.heap.size ≤ q) a := fun a h => Nat.not_le.mpr h
  have hs := flat_of_before _ hgv
  obtain ⟨c0, iS0, hKn0⟩ := u_known (C := RX0) (T := TX0) (N := 10) (n := 10) hts inX0 (hts (.instantiable RX0 10) (in_t2 (List.mem_of_getElem? (i := 4) rfl)))
  obtain ⟨c1, iS1, hKn1⟩ := u_known (C := RX1) (T := TX1) (N := 11) (n := 11) hts inX1 (hts (.instantiable RX1 11) (in_t1 (List.mem_of_getElem? (i := 86) rfl)))
  obtain ⟨c2, iS2, hKn2⟩ := u_known (C := RX2) (T := TX2) (N := 7) (n := 7) hts inX2 (hts (.instantiable RX2 7) (in_t2 (List.mem_of_getElem? (i := 144) rfl)))
  obtain ⟨c3, iS3, hKn3⟩ := u_known (C := RX3) (T := TX3) (N := 19) (n := 19) hts inX3 (hts (.instantiable RX3 19) (in_t1 (List.mem_of_getElem? (i := 176) rfl)))
  obtain ⟨c4, iS4, hKn4⟩ := u_known (C := RX4) (T := TX4) (N := 4) (n := 4) hts inX4 (hts (.instantiable RX4 4) (in_t2 (List.mem_of_getElem? (i := 176) rfl)))
  obtain ⟨c5, iS5, hKn5⟩ := u_known (C := RX5) (T := TX5) (N := 3) (n := 3) hts inX5 (hts (.instantiable RX5 3) (in_t2 (List.mem_of_getElem? (i := 11) rfl)))
  obtain ⟨c6, iS6, hKn6⟩ := u_known (C := RX6) (T := TX6) (N := 4) (n := 4) hts inX6 (hts (.instantiable RX6 4) (in_t1 (List.mem_of_getElem? (i := 152) rfl)))
  obtain ⟨c7, iS7, hKn7⟩ := u_known (C := RX7) (T := TX7) (N := 4) (n := 4) hts inX7 (hts (.instantiable RX7 4) (in_t2 (List.mem_of_getElem? (i := 63) rfl)))
  obtain ⟨c8, iS8, hKn8⟩ := u_known (C := RX8) (T := TX8) (N := 5) (n := 5) hts inX8 (hts (.instantiable RX8 5) (in_t1 (List.mem_of_getElem? (i := 33) rfl)))
  obtain ⟨c9, iS9, hKn9⟩ := u_known (C := RX9) (T := TX9) (N := 12) (n := 12) hts inX9 (hts (.instantiable RX9 12) (in_t2 (List.mem_of_getElem? (i := 90) rfl)))
  obtain ⟨c10, iS10, hKn10⟩ := u_known (C := RX10) (T := TX10) (N := 5) (n := 5) hts inX10 (hts (.instantiable RX10 5) (in_t1 (List.mem_of_getElem? (i := 40) rfl)))
  obtain ⟨c11, iS11, hKn11⟩ := u_known (C := RX11) (T := TX11) (N := 18) (n := 18) hts inX11 (hts (.instantiable RX11 18) (in_t1 (List.mem_of_getElem? (i := 25) rfl)))
  obtain ⟨c12, iS12, hKn12⟩ := u_known (C := RX12) (T := TX12) (N := 74) (n := 74) hts inX12 (hts (.instantiable RX12 74) (in_t5 (List.mem_of_getElem? (i := 134) rfl)))
  obtain ⟨dC, dI, hKc⟩ : ∃ (dC : Nat → ClassId) (dI : Nat → Nat → Nat), ∀ (k : Nat) (q : vw_C), classes[k]? = some q → u_Kn s q.1 q.2.1 q.2.2 (dC k) (dI k) := by
    refine ⟨fun k => [c0, c1, c2, c3, c4, c5, c6, c7, c8, c9, c10, c11, c12].getD k c0, fun k => [iS0, iS1, iS2, iS3, iS4, iS5, iS6, iS7, iS8, iS9, iS10, iS11, iS12].getD k iS0, ?_⟩
    intro k q hq
    match k, hq with
    | 0, hq => cases hq; exact hKn0
    | 1, hq => cases hq; exact hKn1
    | 2, hq => cases hq; exact hKn2
    | 3, hq => cases hq; exact hKn3
    | 4, hq => cases hq; exact hKn4
    | 5, hq => cases hq; exact hKn5
    | 6, hq => cases hq; exact hKn6
    | 7, hq => cases hq; exact hKn7
    | 8, hq => cases hq; exact hKn8
    | 9, hq => cases hq; exact hKn9
    | 10, hq => cases hq; exact hKn10
    | 11, hq => cases hq; exact hKn11
    | 12, hq => cases hq; exact hKn12
    | k + 13, hq => simp [classes] at hq
  have ar : ∀ ty : FieldType, Cond.arrayClass ty ∈ lw_tbl → ∃ cA : ClassId, s.vm.findClass ("[" ++ ty.toString) = some cA ∧ ArrOfT s cA ty := by
    intro ty h
    obtain ⟨cA, kA, comp, h1, h2, h3⟩ := Cond.arrayClass_spec (hts _ h)
    exact ⟨cA, h1, fun n z => ⟨fun k h => (by cases h), kA, h2, comp, h3⟩⟩
  have ao : ∀ CN : String, Cond.arrayOver (.object CN) ∈ lw_tbl → ∃ cA : ClassId, ArrOfT s cA (.object CN) ∧ va_RA s cA (.object CN) := by
    intro CN h
    obtain ⟨comp, cA, kA, hcomp, hidx, hkA, hkindA, hnameA⟩ := Cond.arrayOver_spec (hts _ h)
    exact ⟨cA, fun n z => ⟨fun k h => (by cases h), kA, hkA, comp, hkindA⟩, kA, comp, hkA, hkindA, hcomp, hnameA⟩
  obtain ⟨cI, i1, i2⟩ := ar .int (gd_of aw_I)
  obtain ⟨cB, b1, b2⟩ := ar .byte (gd_of aw_B)
  obtain ⟨cZ, z1, z2⟩ := ar .boolean (gd_of aw_Z)
  obtain ⟨cJ, j1, j2⟩ := ar .long (gd_of aw_J)
  obtain ⟨cW, w1, w2⟩ := ao "BangSquare$Wall" (in_t1 (List.mem_of_getElem? (i := 39) rfl))
  obtain ⟨cS, s1, s2⟩ := ao "BangSquare$Shot" (in_t1 (List.mem_of_getElem? (i := 151) rfl))
  obtain ⟨cX, x1, x2⟩ := ao "BangSquare$Script" (in_t2 (List.mem_of_getElem? (i := 10) rfl))
  obtain ⟨cT, t1, t2⟩ := ao "BangSquare$Tape" (in_t2 (List.mem_of_getElem? (i := 89) rfl))
  have hst : ∀ i, i < 3 → Cond.stringRef "BangSquare$Reader" (sIx i) (sTx i) ∈ lw_tbl := by
    intro i hi
    match i, hi with
    | 0, _ => exact (in_t3 (List.mem_of_getElem? (i := 174) rfl))
    | 1, _ => exact (in_t3 (List.mem_of_getElem? (i := 175) rfl))
    | 2, _ => exact (in_t3 (List.mem_of_getElem? (i := 235) rfl))
  have f1 : ∀ i : Nat, i < 3 → (Cond.exactly (.string "BangSquare$Reader" (sIx i)) "java/lang/String").before #[Value.ref b] s = true := by
    intro i hi
    match i, hi with
    | 0, _ => exact hs _ (by decide +kernel)
    | 1, _ => exact hs _ (by decide +kernel)
    | 2, _ => exact hs _ (by decide +kernel)
  have f2 : ∀ i : Nat, i < 3 → (Cond.eq (.field (.string "BangSquare$Reader" (sIx i)) "java/lang/String" "coder" "B") (.int 0)).before #[Value.ref b] s = true := by
    intro i hi
    match i, hi with
    | 0, _ => exact hs _ (by decide +kernel)
    | 1, _ => exact hs _ (by decide +kernel)
    | 2, _ => exact hs _ (by decide +kernel)
  have f3 : ∀ i : Nat, i < 3 → (Cond.arrayOf (.field (.string "BangSquare$Reader" (sIx i)) "java/lang/String" "value" "[B") .byte).before #[Value.ref b] s = true := by
    intro i hi
    match i, hi with
    | 0, _ => exact hs _ (by decide +kernel)
    | 1, _ => exact hs _ (by decide +kernel)
    | 2, _ => exact hs _ (by decide +kernel)
  have f4 : ∀ i : Nat, i < 3 → (Cond.eq (.length (.field (.string "BangSquare$Reader" (sIx i)) "java/lang/String" "value" "[B")) (.int (Int32.ofNat (sLen.getD i 0)))).before #[Value.ref b] s = true := by
    intro i hi
    match i, hi with
    | 0, _ => exact hs _ (by decide +kernel)
    | 1, _ => exact hs _ (by decide +kernel)
    | 2, _ => exact hs _ (by decide +kernel)
  have f5 : ∀ i : Nat, i < 3 → ∀ j : Nat, j < sLen.getD i 0 → (Cond.eq (.elem (.field (.string "BangSquare$Reader" (sIx i)) "java/lang/String" "value" "[B") (.int (Int32.ofNat j))) (.int ((sByt.getD i []).getD j 0))).before #[Value.ref b] s = true := by
    intro i hi j hj
    match i, hi with
    | 0, _ => exact hs _ (fl_mem sl_0 j hj)
    | 1, _ => exact hs _ (fl_mem sl_1 j hj)
    | 2, _ => exact hs _ (fl_mem sl_2 j hj)
  have f6 : ∀ i j : Nat, i < 3 → j < 3 → i ≠ j → (Cond.not (Cond.eq (.string "BangSquare$Reader" (sIx i)) (.string "BangSquare$Reader" (sIx j)))).before #[Value.ref b] s = true ∨ (Cond.not (Cond.eq (.string "BangSquare$Reader" (sIx j)) (.string "BangSquare$Reader" (sIx i)))).before #[Value.ref b] s = true := by
    intro i j hi hj hij
    match i, j, hi, hj, hij with
    | 0, 1, _, _, _ => first | exact Or.inl (hs _ (by decide +kernel)) | exact Or.inr (hs _ (by decide +kernel))
    | 0, 2, _, _, _ => first | exact Or.inl (hs _ (by decide +kernel)) | exact Or.inr (hs _ (by decide +kernel))
    | 1, 2, _, _, _ => first | exact Or.inl (hs _ (by decide +kernel)) | exact Or.inr (hs _ (by decide +kernel))
    | 1, 0, _, _, _ => first | exact Or.inl (hs _ (by decide +kernel)) | exact Or.inr (hs _ (by decide +kernel))
    | 2, 0, _, _, _ => first | exact Or.inl (hs _ (by decide +kernel)) | exact Or.inr (hs _ (by decide +kernel))
    | 2, 1, _, _, _ => first | exact Or.inl (hs _ (by decide +kernel)) | exact Or.inr (hs _ (by decide +kernel))
    | 0, 0, _, _, h => exact absurd rfl h
    | 1, 1, _, _, h => exact absurd rfl h
    | 2, 2, _, _, h => exact absurd rfl h
  obtain ⟨adK, adV, hS, hev⟩ := vk_Sof (args := #[Value.ref b]) (s := s) (N := 3) (tm := fun i => .string "BangSquare$Reader" (sIx i)) (len := sLen) (byt := sByt) (A := fun q : Nat => s.heap.size ≤ q) (by decide) f1 f2 f3 f4 f5 f6 hA
  refine ⟨(dC, dI, fun k => [cI, cB, cZ, cJ, cW, cS, cX, cT].getD k cI, s.heap.size, adK, adV), rfl, ⟨hKc, fun k q hk => ?_⟩, hS, fun i hi => vk_R.of (hts _ (hst i hi)) (hev i hi), va_Zof (hts _ (in_t3 (List.mem_of_getElem? (i := 185) rfl))) (hts _ (gd_of (gd_in (in_t1 (List.mem_of_getElem? (i := 16) rfl)) rfl))) (va_eqi (hs _ (by decide +kernel))) hA, fun q hq => ?_, fun C hC => ?_, Nat.le_refl _, va_Zqof (hts _ (in_t3 (List.mem_of_getElem? (i := 205) rfl))) (hts _ (gd_of (gd_in (in_t1 (List.mem_of_getElem? (i := 18) rfl)) rfl))) (hs _ (by decide +kernel)) hA⟩
  · match k, hk with
    | 0, hk => cases hk; exact ⟨i2, i1⟩
    | 1, hk => cases hk; exact ⟨b2, b1⟩
    | 2, hk => cases hk; exact ⟨z2, z1⟩
    | 3, hk => cases hk; exact ⟨j2, j1⟩
    | 4, hk => cases hk; exact ⟨w1, w2⟩
    | 5, hk => cases hk; exact ⟨s1, s2⟩
    | 6, hk => cases hk; exact ⟨x1, x2⟩
    | 7, hk => cases hk; exact ⟨t1, t2⟩
    | k + 8, hk => simp [gT] at hk
  · exact va_Nw.of rfl (hts _ (nst_in q hq))
  · exact va_AO.of (hts _ (arw_in C hC))
set_option maxHeartbeats 8000000 in
set_option maxRecDepth 20000 in
/-- THE LAW, from its entry -/
theorem whole_start {p : Program} {e : Env} {s : State} {m : MethodId} {below : List Frame} {meth : Method} {c : Code} (l : Launch) {b L : Nat} {xs : Nat → Int32} (hL : L ≤ 3072) (C0 : lw_At p s m meth c b L xs) : W p l e room_1 s m #[Value.ref b] below meth c s.heap [] 0 0 (lw_Z below #[Value.ref b] s) (entryFrame m ([Value.ref b] : List Value).toArray 4) := by
  obtain ⟨G, hG, hKK⟩ := kk_start C0
  obtain ⟨hx, hb, hr, hml, hown, hts, hX, hbl, hlocks, hgv⟩ := C0
  have C : Cx (p, l, e, room_1, s, m, #[Value.ref b], below, meth, c) (Y_law meth.name) G := ⟨hx, hb, hml, hown, fun w hw => hts w (gd_of hw), hKK, hr, hlocks, rfl, rfl⟩
  have hX2 : va_X b L xs s s.heap ∧ b < gB G ∧ gB G ≤ s.heap.size := ⟨hX, by rw [hG]; exact hbl, by rw [hG]; exact Nat.le_refl _⟩
  obtain ⟨S2, S4, e1, e2, hv⟩ := st_init
  have hl := lv_entry ([.ref b]) (n := 4) (Nat.le_of_ble_eq_true rfl)
  rw [lg_entry_eq]
  generalize (lg_sl ([.ref b]) ++ List.replicate (4 - (lg_sl ([.ref b])).length) Slot.unset).toArray = ls at hl ⊢
  have hl : lv_has ls 4 [(0, .ref b)] := hl
  have hrep : Rep G [] (fun _ _ => 0) s.heap := ⟨fun k q h => by simp [wld] at h, by rw [hG]; rfl, fun a ci fs k h => by simp at h⟩
  have main : VO (p, l, e, room_1, s, m, #[Value.ref b], below, meth, c) (Y_law meth.name) G (fun _ : Unit => lw_Z below #[Value.ref b] s) 0 0 0 [(0, .ref b)] [] [] (fun _ _ => 0) (some ()) some := by
    refine v_new0 (pc := 0) (a := 0) (L2 := LS0) (k2 := 1) (n2 := 18) C cn_LAW_7 rfl rfl rfl rfl ⟨Nat.le_of_ble_eq_true rfl, Nat.le_of_ble_eq_true rfl⟩ d_law_0 ?_
    refine v_dup (pc := 3) C d_law_3 rfl ?_
    refine v_ccs (pc := 4) (L2 := LS218) (k2 := 104) (n2 := 1963) (inv_I (As := []) (st := [rf G 0]) C ml_LAW_9 mi_B_init (ro_law_B_init _) rfl rfl (Nat.le_of_ble_eq_true rfl) d_law_4) (ci_B_init_0 _) e1 rfl rfl ⟨Nat.le_of_ble_eq_true rfl, Nat.le_of_ble_eq_true rfl⟩ ?_
    refine v_astore_n (pc := 7) (lv' := [(1, rf G 0), (0, .ref b)]) C d_law_7 rfl (show 1 < 4 by decide) rfl ?_
    refine v_new0 (pc := 8) (a := 104) (L2 := LS219) (k2 := 105) (n2 := 2037) C cn_LAW_10 rfl rfl rfl rfl ⟨Nat.le_of_ble_eq_true rfl, Nat.le_of_ble_eq_true rfl⟩ d_law_8 ?_
    refine v_dup (pc := 11) C d_law_11 rfl ?_
    refine v_ccs (pc := 12) (L2 := LS301) (k2 := 146) (n2 := 8589) (inv_I (As := []) (st := [rf G 104]) C ml_LAW_12 mi_M_init (ro_law_M_init _) rfl rfl (Nat.le_of_ble_eq_true rfl) d_law_12) (ci_M_init_0 _) e2 rfl rfl ⟨Nat.le_of_ble_eq_true rfl, Nat.le_of_ble_eq_true rfl⟩ ?_
    refine v_astore_n (pc := 15) (lv' := [(2, rf G 104), (1, rf G 0), (0, .ref b)]) C d_law_15 rfl (show 2 < 4 by decide) rfl ?_
    refine v_iconst (pc := 16) C d_law_16 ic_0 ?_
    refine v_istore_n (pc := 17) (lv' := [(3, .int 0), (2, rf G 104), (1, rf G 0), (0, .ref b)]) C d_law_17 rfl (show 3 < 4 by decide) rfl ?_
    refine v_sub [3, 2, 1, 0] rfl ?_
    refine law_loop (xs := xs) (Ln := L) C hX2 (by omega) hL ?_ (L + 1) 0 LS301 S4 146 8589 (by omega) (by omega) (show Ext shp from fun _ _ h => h) hv (Nat.le_of_ble_eq_true rfl) (by omega) (by omega)
    intro L S k n m2 hk hn
    refine v_iconst (pc := 1290) C d_law_1290 ic_1 ?_
    intro x hx2 H locs ls h1 h2 h3
    refine va_forget (fun q hq => by have := h2.2.2 q hq; unfold own at this; rw [hG] at this; exact this) ?_
    refine W.widen (k := 600000) (n := 7302249) (by omega) (by omega) ?_
    exact lw_ret hx hb hr hlocks d_law0_1291
  exact main () rfl s.heap [] ls hrep va_S.rf hl
