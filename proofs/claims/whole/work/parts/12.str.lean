/-! texts: the constants of the class, and the library's own members over them -/
def rv (G : Gl) (i : Nat) : Value := .ref (gV G i)
def sln (i : Nat) : Nat := sLen.getD i 0
def sbt (i j : Nat) : Int32 := (sByt.getD i []).getD j 0
def isch (x : Int32) : Bool := decide (narrow .char (.int x) = .int x)
section Str
variable {g : Gm} {Y : Ym} {G : Gl} {β γ α δ : Type} {Qf : γ → State → Prop} {k n pc : Nat} {lv lv' : List (Nat × Value)} {st stk : List Value} {L : Shp} {S : Sto} {o o1 o2 : Option β} {K : β → Option γ} {Yc : Ym} {avs As : List Value}
theorem v_aloadB_n (C : Cx g Y G) {q : Fin 4} {i : Nat} {a : Nat} (d : decode (mB Y) pc = .ok (.aload_n q, 1)) (hi : (q : Nat) = i) (p : Nat) (hl : lv[p]? = some (i, rv G a)) (kk : VO g Y G Qf k n (pc + 1) lv (rv G a :: st) L S o K) : VO g Y G Qf k n pc lv st L S o K :=
  fun x hx H locs ls h1 h2 h3 => lv_aload_n C.1 C.2.1 d hi (lv_at h3 p hl) (kk x hx H locs ls h1 h2 h3)
theorem v_ldcS (C : Cx g Y G) {i : Nat} (hi : i < 3) (hc : (mY Y).cls = "BangSquare$Reader") (d : decode (mB Y) pc = .ok (.ldc (sIx i), 2)) (kk : VO g Y G Qf k n (pc + 2) lv (rs G i :: st) L S o K) : VO g Y G Qf k n pc lv st L S o K :=
  fun x hx H locs ls h1 h2 h3 => va_ldcS (own := "BangSquare$Reader") C.1 C.2.1 (by rw [← hc]; exact C.own) (C.K.2.2.1 i hi) d (kk x hx H locs ls h1 h2 h3)
theorem v_sgetV (C : Cx g Y G) {i idx : Nat} (hi : i < 3) (hl : Cond.fieldLink (mY Y).cls idx "java/lang/String" "value" "[B" ∈ gd_tbl) (d : decode (mB Y) pc = .ok (.getfield idx, 3)) (kk : VO g Y G Qf k n (pc + 3) lv (rv G i :: st) L S o K) : VO g Y G Qf k n pc lv (rs G i :: st) L S o K :=
  fun x hx H locs ls h1 h2 h3 => vk_getf C.1 C.2.1 (C.K.2.1.1 i hi).2.2.1 h2 C.own (C.ts _ hl) (fun _ h => h) d (kk x hx H locs ls h1 h2 h3)
theorem v_sgetC (C : Cx g Y G) {i idx : Nat} (hi : i < 3) (hl : Cond.fieldLink (mY Y).cls idx "java/lang/String" "coder" "B" ∈ gd_tbl) (d : decode (mB Y) pc = .ok (.getfield idx, 3)) (kk : VO g Y G Qf k n (pc + 3) lv (.int 0 :: st) L S o K) : VO g Y G Qf k n pc lv (rs G i :: st) L S o K :=
  fun x hx H locs ls h1 h2 h3 => vk_getf C.1 C.2.1 (C.K.2.1.1 i hi).2.1 h2 C.own (C.ts _ hl) (fun _ h => h) d (kk x hx H locs ls h1 h2 h3)
theorem v_slen (C : Cx g Y G) {i : Nat} (hi : i < 3) (d : decode (mB Y) pc = .ok (.arraylength, 1)) (kk : VO g Y G Qf k n (pc + 1) lv (.int (nI (sln i)) :: st) L S o K) : VO g Y G Qf k n pc lv (rv G i :: st) L S o K :=
  fun x hx H locs ls h1 h2 h3 => va_tlen C.1 C.2.1 (C.K.2.1.1 i hi).2.2.2 h2 rfl d (kk x hx H locs ls h1 h2 h3)
theorem v_sbald (C : Cx g Y G) {i : Nat} {j : Int32} (hi : i < 3) (d : decode (mB Y) pc = .ok (.baload, 1)) (kk : inr j (sln i) = true → VO g Y G Qf k n (pc + 1) lv (.int (sbt i j.toNatClampNeg) :: st) L S o K) : VO g Y G Qf k n pc lv (.int j :: rv G i :: st) L S (chk (inr j (sln i)) o) K :=
  v_chk (fun hb x hx H locs ls h1 h2 h3 => va_tb C.1 C.2.1 (C.K.2.1.1 i hi).2.2.2 h2 (inr_in hb) rfl d (kk hb x hx H locs ls h1 h2 h3))
theorem v_getsC (C : Cx g Y G) {idx : Nat} (hl : Cond.fieldLink (mY Y).cls idx "java/lang/String" "COMPACT_STRINGS" "Z" ∈ gd_tbl) (d : decode (mB Y) pc = .ok (.getstatic idx, 3)) (kk : VO g Y G Qf k n (pc + 3) lv (.int 1 :: st) L S o K) : VO g Y G Qf k n pc lv st L S o K :=
  fun x hx H locs ls h1 h2 h3 => va_gets C.1 C.2.1 C.K.2.2.2.1 h2 C.own (C.ts _ hl) (fun _ h => h) d (kk x hx H locs ls h1 h2 h3)
theorem v_getsQ (C : Cx g Y G) {idx : Nat} (hl : Cond.fieldLink (mY Y).cls idx "jdk/internal/util/Preconditions" "SIOOBE_FORMATTER" "Ljava/util/function/BiFunction;" ∈ gd_tbl) (d : decode (mB Y) pc = .ok (.getstatic idx, 3)) (k1 : VO g Y G Qf k n (pc + 3) lv (.null :: st) L S o K) (k2 : ∀ q : Nat, VO g Y G Qf k n (pc + 3) lv (.ref q :: st) L S o K) : VO g Y G Qf k n pc lv st L S o K := by
  intro x hx H locs ls h1 h2 h3
  rcases C.K.2.2.2.2.2.2.2 with h | ⟨t, h⟩
  · exact va_gets C.1 C.2.1 h h2 C.own (C.ts _ hl) (fun _ h => h) d (k1 x hx H locs ls h1 h2 h3)
  · exact va_gets C.1 C.2.1 h h2 C.own (C.ts _ hl) (fun _ h => h) d (k2 t x hx H locs ls h1 h2 h3)
theorem inv_VS (C : Cx g Y G) {idx i nA : Nat} (hi : i < 3) (hl : Cond.methodLink (mY Y).cls idx (mY Yc) ∈ gd_tbl) (M : MokV Yc nA) (hr : roomy Y Yc) (hq : (mY Yc).cls = "java/lang/String") (hA : As.length = nA) (hst : stk = As.reverse ++ rs G i :: st) (hw : (st.map fun v => v.category).sum ≤ 8) (d : decode (mB Y) pc = .ok (.invokevirtual idx, 3)) : Inv g Y G Yc (rs G i :: As) pc stk st L S := by
  refine inv_of (fun f hM k n H locs ls hls h1 h2 hk => ?_)
  have hR : g_R g = mR Y := C.2.2.2.2.2.2.2.2.1
  have e := vk_recv C.K.2.1 hi h2
  rw [← hq] at e
  exact va_runV (ret := mT Yc) (C := (mY Yc).cls) (As := As) (rest := st) (bytes := mB Yc) (maxL := mL Yc) C.fix (hM (g_l g)) ⟨callB_of nA C.ts M.1.good rfl rfl rfl (C.ts _ M.1.2.1) (C.ts _ hl) ⟨M.1.2.2.1, M.1.2.2.2.1, M.1.2.2.2.2⟩ (by rw [hR]; exact hr), C.ts _ M.2.1, C.ts _ M.2.2⟩ ⟨Pcc.blind, e, pre_U C h1 h2⟩ rfl hA hls hst (lv_room hw) d (by rw [hR]; exact hk)
theorem v_if_eq_f (C : Cx g Y G) {x : Int32} {off : Int} (d : decode (mB Y) pc = .ok (.ifCond .eq off, 3)) (tgt : Nat) (ht : (pc : Int) + off = (tgt : Int)) (hc : ¬ x = 0) (kk : VO g Y G Qf k n (pc + 3) lv st L S o K) : VO g Y G Qf k n pc lv (.int x :: st) L S o K :=
  fun z hx H locs ls h1 h2 h3 => lv_if_eq C.1 C.2.1 d ht (fun c => absurd c hc) (fun _ => kk z hx H locs ls h1 h2 h3)
theorem v_if_ne_f (C : Cx g Y G) {x : Int32} {off : Int} (d : decode (mB Y) pc = .ok (.ifCond .ne off, 3)) (tgt : Nat) (ht : (pc : Int) + off = (tgt : Int)) (hc : x = 0) (kk : VO g Y G Qf k n (pc + 3) lv st L S o K) : VO g Y G Qf k n pc lv (.int x :: st) L S o K :=
  fun z hx H locs ls h1 h2 h3 => lv_if_ne C.1 C.2.1 d ht (fun c => absurd hc c) (fun _ => kk z hx H locs ls h1 h2 h3)
theorem v_aret (C : Cx g Y G) {fin : γ → Fnl} {r : Nat} {t : FieldType} {z : γ} (d : decode (mB Y) pc = .ok (.areturn, 1)) (ht : mT Y = some (.array t)) (hk : k ≤ (mR Y).cells ∧ n ≤ (mR Y).slots) (hz : o.bind K = some z) (hf : fin z = (some (rf G r), L, S)) : VO g Y G (fun x => Qm g Y G (fin x)) k n pc lv [rf G r] L S o K := by
  intro x hx H locs ls h1 h2 h3
  have e : z = x := Option.some.inj (hz.symm.trans hx)
  subst e
  have hr : (g_t g).sig.returnType = some (.array t) := C.2.2.2.2.2.2.1.trans ht
  refine W.widen hk.1 hk.2 ?_
  show W _ _ _ _ _ _ _ _ _ _ H locs _ _ (Qm g Y G (fin z)) _
  unfold Qm
  rw [hf]
  exact W.aret C.1 C.2.1 hr (Or.inr ⟨t, rfl⟩) (Or.inr ⟨_, rfl⟩) (fun t ht hw => ⟨rfl, by rw [ht]; exact h1, h2.F ht⟩) h2.2.2 d C.2.2.2.2.2.2.2.1
theorem i_nn {z : Int32} (hz : ¬ z < 0) : z.toInt = (z.toNatClampNeg : Int) := by
  have hz0 : (0 : Int) ≤ z.toInt := by
    have := Int32.not_lt.mp hz
    simpa using Int32.le_iff_toInt_le.mp this
  show z.toInt = ((z.toInt.toNat : Nat) : Int)
  omega
/-- the first m ints of a row into a row whose number stands at 400 -/
theorem v_acopy (C : Cx g Y G) {idx a0 a n0 : Nat} {r : List Nat} {m : Int32} {f : Sto → Option β} (hl : Cond.methodLink (mY Y).cls idx arraycopyName ∈ gd_tbl) (hnat : Cond.native arraycopyName ∈ gd_tbl) (hstt : Cond.static arraycopyName ∈ gd_tbl) (hini : Cond.initialized "java/lang/System" ∈ gd_tbl) (hL0 : L[a0]? = some (1, n0, r)) (hL : L[a]? = some (5, 0, [])) (hm : ¬ m < 0) (hm0 : m.toNatClampNeg ≤ n0) (hm1 : m.toNatClampNeg ≤ (S a 400).toNatClampNeg) (h400 : (S a 400).toNatClampNeg ≤ 400) (hfr : 1 ≤ (mR Y).frames) (hlo : (st.map fun v => v.category).sum + (nativeFrameWords "java/lang/System" "arraycopy" 5 + 11) ≤ (mR Y).locals) (d : decode (mB Y) pc = .ok (.invokestatic idx, 3)) (kk : ∀ S, VO g Y G Qf k n (pc + 3) lv st L S (f S) K) : VO g Y G Qf k n pc lv (.int m :: .int 0 :: rf G a :: .int 0 :: rf G a0 :: st) L S (ltS (sr S a (va_cpy (S a0) (S a) 0 0 m.toNatClampNeg)) f) K := by
  intro x hx H locs ls h1 h2 h3 T hT X
  have hRe : g_R g = mR Y := C.2.2.2.2.2.2.2.2.1
  have hc0 : H[gB G + a0]? = some (vp_cell (gA G 0) (n0, .inl (S a0))) := h1.1 a0 _ (wld_get hL0)
  have hc1 : H[gB G + a]? = some (vp_cell (gA G 0) ((S a 400).toNatClampNeg, .inl (S a))) := h1.1 a _ (wld_get hL)
  obtain ⟨-, k0, hk0, cm0, hkk0⟩ := (C.K.1.2 0 _ rfl).1 n0 (fun j => .int (S a0 j))
  obtain ⟨-, k1, hk1, cm1, hkk1⟩ := (C.K.1.2 0 _ rfl).1 (S a 400).toNatClampNeg (fun j => .int (S a j))
  have z0 : ¬ (0 : Int32) < 0 := by decide
  obtain ⟨vm', X', step⟩ := X.arraycopy C.1 C.own (C.ts _ hl) (C.ts _ hnat) (C.ts _ hstt) (C.ts _ hini) (src := gB G + a0) (dst := gB G + a) (cs := vp_cell (gA G 0) (n0, .inl (S a0))) (cd := vp_cell (gA G 0) ((S a 400).toNatClampNeg, .inl (S a))) (srcPos := 0) (destPos := 0) (n := m) (by rw [hT]; exact hc0) (by rw [hT]; exact hc1)
    (fun _ h => by cases h) (fun _ h => by cases h) (fun h => by cases h) (fun h => by cases h) hk0 hk1 hkk0 hkk1 (by simp [refKind]) z0 z0 hm
    (by rw [i_nn z0, i_nn hm]; show ¬ _ > ((arrV (gA G 0) n0 (fun j => .int (S a0 j))).slots.size : Int); rw [arrV_size]; simp; omega)
    (by rw [i_nn z0, i_nn hm]; show ¬ _ > ((arrV (gA G 0) (S a 400).toNatClampNeg (fun j => .int (S a j))).slots.size : Int); rw [arrV_size]; simp; omega)
    (fun vm₁ _ i hi => by
      have e : (vp_cell (gA G 0) (n0, .inl (S a0))).slots.getD ((0 : Int32).toNatClampNeg + i) .null = .int (S a0 ((0 : Int32).toNatClampNeg + i)) := by
        show (arrV (gA G 0) n0 (fun j => .int (S a0 j))).slots.getD _ _ = _
        rw [Array.getD_eq_getD_getElem?, arrV_read _ _ (by simp; omega)]
        rfl
      refine ⟨?_, ?_⟩
      · rw [e]; rfl
      · rw [e]; exact trivial)
    (g := F0 (g_m g) pc ls (.int m :: .int 0 :: rf G a :: .int 0 :: rf G a0 :: st)) rfl (h3.1.trans C.2.2.1.symm) (rest := st) rfl (by rw [C.2.1]; exact d) (by rw [hRe]; exact hfr) (by rw [hRe]; show 2 * 0 + _ + _ ≤ _; omega)
  have e1 : copied (vp_cell (gA G 0) (n0, .inl (S a0))) (vp_cell (gA G 0) ((S a 400).toNatClampNeg, .inl (S a))) 0 0 m = vp_cell (gA G 0) ((S a 400).toNatClampNeg, .inl (va_cpy (S a0) (S a) 0 0 m.toNatClampNeg)) := va_copied (fun z => .int z) (gA G 0) (gA G 0) (S a0) (S a) (by simp; omega)
  rw [e1] at X' step
  have hla : gB G + a < H.size := (Array.getElem?_eq_some_iff.mp hc1).1
  generalize hcell : vp_cell (gA G 0) ((S a 400).toNatClampNeg, .inl (va_cpy (S a0) (S a) 0 0 m.toNatClampNeg)) = cell at X' step
  have hheap : ((T.setVm vm').setCell (gB G + a) cell).heap = H.setIfInBounds (gB G + a) cell := by rw [← hT]; rfl
  have oq : ∀ q : Nat, q ≠ gB G + a → (H.setIfInBounds (gB G + a) cell)[q]? = H[q]? := fun q hq => by simp [Array.getElem?_setIfInBounds, Ne.symm hq]
  have hz : (H.setIfInBounds (gB G + a) cell).size = H.size := by simp
  have hrep : Rep G L (sr S a (va_cpy (S a0) (S a) 0 0 m.toNatClampNeg)) (H.setIfInBounds (gB G + a) cell) := by
    refine h1.up (t := 4) hL rfl ?_ hz oq
    show (H.setIfInBounds (gB G + a) cell)[gB G + a]? = some (vp_cell _ _)
    rw [show (va_cpy (S a0) (S a) 0 0 m.toNatClampNeg 400) = S a 400 from pk_cpy_out (Or.inr (by omega)), hcell]
    simp [Array.getElem?_setIfInBounds, hla]
  obtain ⟨t, a1, b1⟩ := kk _ x hx _ _ ls hrep ⟨by rw [hz]; exact h2.1, fun q g1 g2 => by
      rw [oq q (fun e => g2 (by rw [e]; exact Nat.le_add_right _ _))]
      exact h2.2.1 q g1 g2, fun q hq => by
      rcases List.mem_append.mp hq with h | h
      · exact h2.2.2 q h
      · obtain ⟨z, -, hz⟩ := List.mem_map.mp h
        rw [← hz]
        exact Nat.le_add_right _ _⟩ h3 _ hheap X'
  exact ⟨t, step t a1, b1⟩
end Str
