/-! calls and returns -/
/-- what the tables say of a method that is called -/
def Mok (Y : Ym) (n : Nat) : Prop := Cond.code (mY Y) (mB Y) (mL Y) (mT Y) ∈ gd_tbl ∧ Cond.initialized (mY Y).cls ∈ gd_tbl ∧ (mY Y).cls ≠ "java/lang/invoke/MethodHandle" ∧ (mY Y).cls ≠ "java/lang/invoke/VarHandle" ∧ (parseMethodDescriptor (mY Y).desc).map (fun d => d.parameters.length) = some n
def MokV (Y : Ym) (n : Nat) : Prop := Mok Y n ∧ Cond.instanceMethod (mY Y) ∈ gd_tbl ∧ Cond.selects (mY Y).cls (mY Y) (mY Y) ∈ gd_tbl
def MokS (Y : Ym) (n : Nat) : Prop := Mok Y n ∧ Cond.static (mY Y) ∈ gd_tbl
def MokI (Y : Ym) (n : Nat) : Prop := Mok Y n ∧ Cond.instanceMethod (mY Y) ∈ gd_tbl ∧ (mY Y).name = "<init>" ∧ mT Y = none
theorem Mok.good {Y : Ym} {n : Nat} (M : Mok Y n) : GoodIn gd_tbl (mW Y) := fun w hw => (List.mem_cons.mp hw).elim (fun e => e ▸ gd_good _ M.1) (gd_good w)
def roomy (Y Yc : Ym) : Prop := (mR Yc).frames + 1 ≤ (mR Y).frames ∧ 8 + (mL Yc + 11) + (mR Yc).locals ≤ (mR Y).locals
/-- a call at pc of the method Yc with these arguments: where its contract holds, one goes on behind it -/
def Inv (g : Gm) (Y : Ym) (G : Gl) (Yc : Ym) (avs : List Value) (pc : Nat) (stk st : List Value) (L : Shp) (S : Sto) : Prop :=
  ∀ (f : Fnl), (∀ l, Met l (mY Yc) (mW Yc) (mR Yc) (Pcc G avs L S) (Qc G f) (mR Yc).cells (mR Yc).slots (own G)) → ∀ (Q : State → Prop) (k n : Nat) (lv : List (Nat × Value)), k + (mR Yc).cells ≤ (mR Y).cells ∧ n + (mR Yc).slots ≤ (mR Y).slots →
    Vw g Y G Q (k + (mR Yc).cells) (n + (mR Yc).slots) (pc + 3) lv (f.1.toList ++ st) f.2.1 f.2.2 → Vw g Y G Q k n pc lv stk L S
section Calls
variable {g : Gm} {Y : Ym} {G : Gl} {β γ α δ : Type} {Qf : γ → State → Prop} {k n pc : Nat} {lv lv' : List (Nat × Value)} {st stk : List Value} {L : Shp} {S : Sto} {o o1 o2 : Option β} {K : β → Option γ} {Yc : Ym} {avs As : List Value}
theorem inv_of (h : ∀ (f : Fnl), (∀ l, Met l (mY Yc) (mW Yc) (mR Yc) (Pcc G avs L S) (Qc G f) (mR Yc).cells (mR Yc).slots (own G)) → ∀ (k n : Nat) (H : Heap) (locs : List Loc) (ls : Array Slot), ls.size = mL Y → Rep G L S H → va_S (own G) (g_s g).heap H locs → k + (mR Yc).cells ≤ (mR Y).cells ∧ n + (mR Yc).slots ≤ (mR Y).slots →
    va_Run (g_p g) (g_l g) (g_e g) (g_R g) (g_s g) (g_m g) (g_a g) (g_b g) (g_t g) (g_c g) H locs k n (mR Yc).cells (mR Yc).slots (F0 (g_m g) pc ls stk) st (Qc G f avs.toArray) (own G)) : Inv g Y G Yc avs pc stk st L S := by
  intro f hM Q k n lv hk kk H locs ls h1 h2 h3 T hT X
  obtain ⟨v, st₀, t, T', L', e0, X', hL', e1, e2, ⟨hv, hR, hF⟩, step⟩ := h f hM k n H locs ls h3.1 h1 h2 hk T hT X
  cases hv
  have hS' : va_S (own G) (g_s g).heap T'.heap (locs ++ L') := by
    refine ⟨?_, fun q hq1 hq2 => ?_, fun q hq => ?_⟩
    · have := hF.1
      rw [e0] at this
      rw [e1]
      exact Nat.le_trans h2.1 this
    · rw [e1, hF.2 q (by rw [e0]; exact Nat.lt_of_lt_of_le hq1 h2.1) hq2, e0]
      exact h2.2.1 q hq1 hq2
    · rcases List.mem_append.mp hq with h | h
      · exact h2.2.2 q h
      · exact hL' q h
  obtain ⟨t2, a1, b1⟩ := kk T'.heap (locs ++ L') ls (by rw [e1]; exact hR) hS' h3 T' rfl X'
  exact ⟨t2, step t2 a1, b1⟩
theorem pre_U {H : Heap} {locs : List Loc} (C : Cx g Y G) (h1 : Rep G L S H) (h2 : va_S (own G) (g_s g).heap H locs) : ∀ U : State, U.heap = H → (g_s g).WarmedH U.vm → Pcc G avs L S avs.toArray U := fun U hU hW => ⟨rfl, by rw [hU]; exact h1, C.K.go h2 hU hW⟩
theorem inv_V (C : Cx g Y G) {idx a ci nA : Nat} {fs : List Nat} {CN : String} {T : u_T} {N : Nat} (hl : Cond.methodLink (mY Y).cls idx (mY Yc) ∈ gd_tbl) (M : MokV Yc nA) (hr : roomy Y Yc) (hL : L[a]? = some (0, ci, fs)) (hc : classes[ci]? = some (CN, T, N)) (hq : CN = (mY Yc).cls) (hA : As.length = nA) (hst : stk = As.reverse ++ rf G a :: st) (hw : (st.map fun v => v.category).sum ≤ 8) (d : decode (mB Y) pc = .ok (.invokevirtual idx, 3)) : Inv g Y G Yc (rf G a :: As) pc stk st L S := by
  refine inv_of (fun f hM k n H locs ls hls h1 h2 hk => ?_)
  have hR : g_R g = mR Y := C.2.2.2.2.2.2.2.2.1
  have e := va_recv C.K.1 h1.1 hc (wld_get hL)
  rw [hq] at e
  exact va_runV (ret := mT Yc) (C := (mY Yc).cls) (As := As) (rest := st) (bytes := mB Yc) (maxL := mL Yc) C.fix (hM (g_l g)) ⟨callB_of nA C.ts M.1.good rfl rfl rfl (C.ts _ M.1.2.1) (C.ts _ hl) ⟨M.1.2.2.1, M.1.2.2.2.1, M.1.2.2.2.2⟩ (by rw [hR]; exact hr), C.ts _ M.2.1, C.ts _ M.2.2⟩ ⟨Pcc.blind, e, pre_U C h1 h2⟩ rfl hA hls hst (lv_room hw) d (by rw [hR]; exact hk)
theorem inv_S (C : Cx g Y G) {idx nA : Nat} (hl : Cond.methodLink (mY Y).cls idx (mY Yc) ∈ gd_tbl) (M : MokS Yc nA) (hr : roomy Y Yc) (hA : As.length = nA) (hst : stk = As.reverse ++ st) (hw : (st.map fun v => v.category).sum ≤ 8) (d : decode (mB Y) pc = .ok (.invokestatic idx, 3)) : Inv g Y G Yc As pc stk st L S := by
  refine inv_of (fun f hM k n H locs ls hls h1 h2 hk => ?_)
  have hR : g_R g = mR Y := C.2.2.2.2.2.2.2.2.1
  exact va_runS (ret := mT Yc) (As := As) (rest := st) (bytes := mB Yc) (maxL := mL Yc) C.fix (hM (g_l g)) ⟨callB_of nA C.ts M.1.good rfl rfl rfl (C.ts _ M.1.2.1) (C.ts _ hl) ⟨M.1.2.2.1, M.1.2.2.2.1, M.1.2.2.2.2⟩ (by rw [hR]; exact hr), C.ts _ M.2⟩ ⟨Pcc.blind, pre_U C h1 h2⟩ rfl hA hls hst (lv_room hw) d (by rw [hR]; exact hk)
theorem inv_SN (C : Cx g Y G) {idx nA : Nat} {host : String} (hl : ((mY Y).cls, idx, mY Yc, host) ∈ nst) (M : MokS Yc nA) (hr : roomy Y Yc) (hA : As.length = nA) (hst : stk = As.reverse ++ st) (hw : (st.map fun v => v.category).sum ≤ 8) (d : decode (mB Y) pc = .ok (.invokestatic idx, 3)) : Inv g Y G Yc As pc stk st L S := by
  refine inv_of (fun f hM k n H locs ls hls h1 h2 hk => ?_)
  have hR : g_R g = mR Y := C.2.2.2.2.2.2.2.2.1
  exact va_runSN (ret := mT Yc) (As := As) (rest := st) (bytes := mB Yc) (maxL := mL Yc) C.fix (hM (g_l g)) ⟨va_cnB nA C.ts M.1.good rfl rfl rfl (C.K.2.2.2.2.1 _ hl) (C.ts _ M.1.2.1) ⟨M.1.2.2.1, M.1.2.2.2.1, M.1.2.2.2.2⟩ (by rw [hR]; exact hr), C.ts _ M.2, trivial⟩ ⟨Pcc.blind, pre_U C h1 h2⟩ rfl hA hls hst (lv_room hw) d (by rw [hR]; exact hk)
/-- behind a call -/
theorem v_call {fin : δ → Fnl} {od : Option δ} {kc : δ → Option β} (I : Inv g Y G Yc avs pc stk st L S) (hC : Ct Yc G avs L S fin od) (hk : k + (mR Yc).cells ≤ (mR Y).cells ∧ n + (mR Yc).slots ≤ (mR Y).slots) (kk : ∀ x, VO g Y G Qf (k + (mR Yc).cells) (n + (mR Yc).slots) (pc + 3) lv ((fin x).1.toList ++ st) (fin x).2.1 (fin x).2.2 (kc x) K) : VO g Y G Qf k n pc lv stk L S (od.bind kc) K := by
  intro x hx
  cases hd : od with
  | none => rw [hd] at hx; cases hx
  | some y =>
    rw [hd] at hx
    exact I (fin y) (hC y hd) (Qf x) k n lv hk (kk y x hx)
theorem Inv.none {fin : δ → Fnl} {y : δ} {Q : State → Prop} (I : Inv g Y G Yc avs pc stk st L S) (hC : Ct Yc G avs L S fin (some y)) (h0 : (mR Yc).cells = 0 ∧ (mR Yc).slots = 0) (hk : k ≤ (mR Y).cells ∧ n ≤ (mR Y).slots) (kk : Vw g Y G Q k n (pc + 3) lv ((fin y).1.toList ++ st) (fin y).2.1 (fin y).2.2) : Vw g Y G Q k n pc lv stk L S := by
  refine I (fin y) (hC y rfl) Q k n lv (by rw [h0.1, h0.2]; exact hk) ?_
  rw [h0.1, h0.2]
  exact kk
theorem Ct.at {fin : δ → Fnl} {od : Option δ} {y : δ} (hC : Ct Yc G avs L S fin od) (h : od = some y) : Ct Yc G avs L S fin (some y) := h ▸ hC
/-- an int and the store -/
theorem v_ci {od : Option (Int32 × Sto)} {kc : Int32 × Sto → Option β} (I : Inv g Y G Yc avs pc stk st L S) (hC : Ct Yc G avs L S (fi L) od) (h0 : (mR Yc).cells = 0 ∧ (mR Yc).slots = 0) (hk : k ≤ (mR Y).cells ∧ n ≤ (mR Y).slots) (kk : ∀ r S, VO g Y G Qf k n (pc + 3) lv (.int r :: st) L S (kc (r, S)) K) : VO g Y G Qf k n pc lv stk L S (od.bind kc) K := by
  intro x hx
  cases hd : od with
  | none => rw [hd] at hx; cases hx
  | some y => rw [hd] at hx; exact I.none (hC.at hd) h0 hk (kk y.1 y.2 x hx)
/-- the store alone -/
theorem v_cv {od : Option Sto} {kc : Sto → Option β} (I : Inv g Y G Yc avs pc stk st L S) (hC : Ct Yc G avs L S (fv L) od) (h0 : (mR Yc).cells = 0 ∧ (mR Yc).slots = 0) (hk : k ≤ (mR Y).cells ∧ n ≤ (mR Y).slots) (kk : ∀ S, VO g Y G Qf k n (pc + 3) lv st L S (kc S) K) : VO g Y G Qf k n pc lv stk L S (od.bind kc) K := by
  intro x hx
  cases hd : od with
  | none => rw [hd] at hx; cases hx
  | some y => rw [hd] at hx; exact I.none (hC.at hd) h0 hk (kk y x hx)
/-- an int, the store as it was -/
theorem v_cp {od : Option Int32} {kc : Int32 → Option β} (I : Inv g Y G Yc avs pc stk st L S) (hC : Ct Yc G avs L S (fp L S) od) (h0 : (mR Yc).cells = 0 ∧ (mR Yc).slots = 0) (hk : k ≤ (mR Y).cells ∧ n ≤ (mR Y).slots) (kk : ∀ r, VO g Y G Qf k n (pc + 3) lv (.int r :: st) L S (kc r) K) : VO g Y G Qf k n pc lv stk L S (od.bind kc) K := by
  intro x hx
  cases hd : od with
  | none => rw [hd] at hx; cases hx
  | some y => rw [hd] at hx; exact I.none (hC.at hd) h0 hk (kk y x hx)
theorem v_cpl {od : Option Int64} {kc : Int64 → Option β} (I : Inv g Y G Yc avs pc stk st L S) (hC : Ct Yc G avs L S (fpl L S) od) (h0 : (mR Yc).cells = 0 ∧ (mR Yc).slots = 0) (hk : k ≤ (mR Y).cells ∧ n ≤ (mR Y).slots) (kk : ∀ r, VO g Y G Qf k n (pc + 3) lv (.long r :: st) L S (kc r) K) : VO g Y G Qf k n pc lv stk L S (od.bind kc) K := by
  intro x hx
  cases hd : od with
  | none => rw [hd] at hx; cases hx
  | some y => rw [hd] at hx; exact I.none (hC.at hd) h0 hk (kk y x hx)
/-- an int that is there for all arguments -/
theorem v_ct {v : Int32} (I : Inv g Y G Yc avs pc stk st L S) (hC : Ct Yc G avs L S (fp L S) (some v)) (h0 : (mR Yc).cells = 0 ∧ (mR Yc).slots = 0) (hk : k ≤ (mR Y).cells ∧ n ≤ (mR Y).slots) (kk : VO g Y G Qf k n (pc + 3) lv (.int v :: st) L S o K) : VO g Y G Qf k n pc lv stk L S o K :=
  fun x hx => I.none hC h0 hk (kk x hx)
/-! the end -/
theorem v_zret (C : Cx g Y G) {fin : γ → Fnl} {r : Int32} {ty : FieldType} {z : γ} (d : decode (mB Y) pc = .ok (.ireturn, 1)) (ht : mT Y = some ty) (hn : narrow ty (.int r) = .int r) (hk : k ≤ (mR Y).cells ∧ n ≤ (mR Y).slots) (hz : o.bind K = some z) (hf : fin z = (some (.int r), L, S)) : VO g Y G (fun x => Qm g Y G (fin x)) k n pc lv [.int r] L S o K := by
  intro x hx H locs ls h1 h2 h3
  have e : z = x := Option.some.inj (hz.symm.trans hx)
  subst e
  have hr : (g_t g).sig.returnType = some ty := C.2.2.2.2.2.2.1.trans ht
  refine W.widen hk.1 hk.2 ?_
  show W _ _ _ _ _ _ _ _ _ _ H locs _ _ (Qm g Y G (fin z)) _
  unfold Qm
  rw [hf]
  exact W.zret C.1 C.2.1 hr hn (fun t ht hw => ⟨rfl, by rw [ht]; exact h1, h2.F ht⟩) h2.2.2 d C.2.2.2.2.2.2.2.1
theorem v_iret (C : Cx g Y G) {fin : γ → Fnl} {r : Int32} {z : γ} (d : decode (mB Y) pc = .ok (.ireturn, 1)) (ht : mT Y = some .int) (hk : k ≤ (mR Y).cells ∧ n ≤ (mR Y).slots) (hz : o.bind K = some z) (hf : fin z = (some (.int r), L, S)) : VO g Y G (fun x => Qm g Y G (fin x)) k n pc lv [.int r] L S o K := v_zret C d ht rfl hk hz hf
theorem v_lret (C : Cx g Y G) {fin : γ → Fnl} {r : Int64} {z : γ} (d : decode (mB Y) pc = .ok (.lreturn, 1)) (ht : mT Y = some .long) (hk : k ≤ (mR Y).cells ∧ n ≤ (mR Y).slots) (hz : o.bind K = some z) (hf : fin z = (some (.long r), L, S)) : VO g Y G (fun x => Qm g Y G (fin x)) k n pc lv [.long r] L S o K := by
  intro x hx H locs ls h1 h2 h3
  have e : z = x := Option.some.inj (hz.symm.trans hx)
  subst e
  have hr : (g_t g).sig.returnType = some .long := C.2.2.2.2.2.2.1.trans ht
  refine W.widen hk.1 hk.2 ?_
  show W _ _ _ _ _ _ _ _ _ _ H locs _ _ (Qm g Y G (fin z)) _
  unfold Qm
  rw [hf]
  exact W.lret C.1 C.2.1 hr (fun t ht hw => ⟨rfl, by rw [ht]; exact h1, h2.F ht⟩) h2.2.2 d C.2.2.2.2.2.2.2.1
theorem v_vret (C : Cx g Y G) {fin : γ → Fnl} {z : γ} (d : decode (mB Y) pc = .ok (.return_, 1)) (ht : mT Y = none) (hk : k ≤ (mR Y).cells ∧ n ≤ (mR Y).slots) (hz : o.bind K = some z) (hf : fin z = (none, L, S)) : VO g Y G (fun x => Qm g Y G (fin x)) k n pc lv [] L S o K := by
  intro x hx H locs ls h1 h2 h3
  have e : z = x := Option.some.inj (hz.symm.trans hx)
  subst e
  have hr : (g_t g).sig.returnType = none := C.2.2.2.2.2.2.1.trans ht
  refine W.widen hk.1 hk.2 ?_
  show W _ _ _ _ _ _ _ _ _ _ H locs _ _ (Qm g Y G (fin z)) _
  unfold Qm
  rw [hf]
  exact W.vret C.1 C.2.1 hr (fun t ht hw => ⟨rfl, by rw [ht]; exact h1, h2.F ht⟩) h2.2.2 d C.2.2.2.2.2.2.2.1
end Calls
