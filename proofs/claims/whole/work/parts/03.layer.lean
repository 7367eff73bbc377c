/-! The layer: a store of ints over shapes of cells, a method by the option that it computes. -/
abbrev Sto : Type := Nat → Nat → Int32
abbrev Shp : Type := List (Nat × Nat × List Nat)
/-- classes, slots, classes of rows, the first cell's address, the texts' addresses, their rows' addresses -/
abbrev Gl : Type := (Nat → ClassId) × (Nat → Nat → Nat) × (Nat → ClassId) × Nat × (Nat → Nat) × (Nat → Nat)
abbrev gA (G : Gl) : Nat → ClassId := G.2.2.1
abbrev gB (G : Gl) : Nat := G.2.2.2.1
abbrev gS (G : Gl) : Nat → Nat := G.2.2.2.2.1
abbrev gV (G : Gl) : Nat → Nat := G.2.2.2.2.2
abbrev gD (G : Gl) : va_G := (G.1, G.2.1)
def gT (G : Gl) : List (ClassId × FieldType) := [(gA G 0, .int), (gA G 1, .byte), (gA G 2, .boolean), (gA G 3, .long), (gA G 4, .object "BangSquare$Wall"), (gA G 5, .object "BangSquare$Shot"), (gA G 6, .object "BangSquare$Script"), (gA G 7, .object "BangSquare$Tape")]
def own (G : Gl) : Nat → Prop := fun q => gB G ≤ q
/-- a cell's address by its number -/
def rf (G : Gl) (a : Nat) : Value := .ref (gB G + a)
/-- a text by its number -/
def rs (G : Gl) (i : Nat) : Value := .ref (gS G i)
def sw (S : Sto) (a k : Nat) (x : Int32) : Sto := fun b => if b = a then upd (S a) k x else S b
theorem sw_a (S : Sto) (a k : Nat) (x : Int32) : sw S a k x a = upd (S a) k x := by simp [sw]
theorem sw_n {S : Sto} {a k b : Nat} {x : Int32} (h : b ≠ a) : sw S a k x b = S b := by simp [sw, h]
/-- a whole row is another -/
def sr (S : Sto) (a : Nat) (f : Nat → Int32) : Sto := fun b => if b = a then f else S b
theorem sr_a (S : Sto) (a : Nat) (f : Nat → Int32) : sr S a f a = f := by simp [sr]
theorem sr_n {S : Sto} {a b : Nat} {f : Nat → Int32} (h : b ≠ a) : sr S a f b = S b := by simp [sr, h]
/-- a long out of two ints -/
def jl (hi lo : Int32) : Int64 := (hi.toInt64 <<< 32) ||| (lo.toInt64 &&& 4294967295)
def jhi (x : Int64) : Int32 := (x >>> 32).toInt32
def jlo (x : Int64) : Int32 := x.toInt32
/-- a field: 0 an int, 1 a row of ints whose number stands there, 2 null, r + 3 the cell r -/
def fvl (G : Gl) (f : Nat → Int32) (k : Nat) : Nat → Value
  | 0 => .int (f k)
  | 1 => .ref (gB G + (f k).toNatClampNeg)
  | 2 => .null
  | r + 3 => .ref (gB G + r)
def rrf (G : Gl) (rs : List Nat) (j : Nat) : Option Nat := match rs.getD j 0 with
  | 0 => none
  | r + 1 => some (gB G + r)
/-- a cell: 0 an object, 1 ints, 2 bytes, 3 booleans, 4 longs, 5 ints whose number stands at 400, t + 6 a row of objects -/
def cel (G : Gl) (f : Nat → Int32) : Nat × Nat × List Nat → va_E
  | (0, ci, fs) => .inr (ci, fs.mapIdx (fvl G f))
  | (1, n, _) => .inl (gA G 0, n, .inl f)
  | (2, n, _) => .inl (gA G 1, n, .inl f)
  | (3, n, _) => .inl (gA G 2, n, .inl f)
  | (4, n, _) => .inl (gA G 3, n, .inr (.inl (fun j => jl (f (2 * j)) (f (2 * j + 1)))))
  | (5, _, _) => .inl (gA G 0, (f 400).toNatClampNeg, .inl f)
  | (t + 6, n, rs) => .inl (gA G (t + 4), n, .inr (.inr (.inr (.inr (rrf G rs)))))
def wld (G : Gl) (L : Shp) (S : Sto) : va_W := L.mapIdx (fun a h => (gB G + a, cel G (S a) h))
def Wf (L : Shp) (S : Sto) : Prop := ∀ a ci fs k, L[a]? = some (0, ci, fs) → fs[k]? = some 1 → L[(S a k).toNatClampNeg]? = some (5, 0, [])
def Rep (G : Gl) (L : Shp) (S : Sto) (H : Heap) : Prop := va_P (gD G) classes (wld G L S) H ∧ H.size = gB G + L.length ∧ Wf L S
theorem wld_get {G : Gl} {L : Shp} {S : Sto} {a : Nat} {h : Nat × Nat × List Nat} (hL : L[a]? = some h) : (wld G L S)[a]? = some (gB G + a, cel G (S a) h) := by simp [wld, List.getElem?_mapIdx, hL]
theorem wld_D {G : Gl} {L : Shp} {S : Sto} : va_D (own G) (wld G L S) := by
  refine ⟨fun i j p q hi hj e => ?_, fun k q hk => ?_⟩
  · simp only [wld, List.getElem?_mapIdx, Option.map_eq_some_iff] at hi hj
    obtain ⟨a, -, rfl⟩ := hi
    obtain ⟨b, -, rfl⟩ := hj
    simp only at e
    omega
  · simp only [wld, List.getElem?_mapIdx, Option.map_eq_some_iff] at hk
    obtain ⟨a, -, rfl⟩ := hk
    exact Nat.le_add_right _ _
theorem wld_set {G : Gl} {L : Shp} {S S' : Sto} {a : Nat} {h : Nat × Nat × List Nat} {e : va_E} (hL : L[a]? = some h) (he : cel G (S' a) h = e) (hn : ∀ b, b ≠ a → S' b = S b) : (wld G L S).set a (gB G + a, e) = wld G L S' := by
  apply List.ext_getElem?
  intro i
  rw [List.getElem?_set]
  by_cases hi : a = i
  · subst hi
    have hl : a < (wld G L S).length := by simp [wld]; exact (List.getElem?_eq_some_iff.mp hL).1
    simp only [if_true, hl, wld_get hL, he]
  · simp only [hi, if_false, wld, List.getElem?_mapIdx]
    rw [hn i (Ne.symm hi)]
theorem wld_len {G : Gl} {L : Shp} {S : Sto} : (wld G L S).length = L.length := by simp [wld]
theorem wld_push {G : Gl} {L : Shp} {S S' : Sto} {h : Nat × Nat × List Nat} {e : va_E} (he : cel G (S' L.length) h = e) (hn : ∀ b, b ≠ L.length → S' b = S b) : wld G L S ++ [(gB G + L.length, e)] = wld G (L ++ [h]) S' := by
  apply List.ext_getElem?
  intro i
  by_cases hi : i < L.length
  · rw [List.getElem?_append_left (by rw [wld_len]; exact hi)]
    simp only [wld, List.getElem?_mapIdx, List.getElem?_append_left hi]
    rw [hn i (Nat.ne_of_lt hi)]
  · by_cases he2 : i = L.length
    · subst he2
      rw [List.getElem?_append_right (by rw [wld_len]; exact Nat.le_refl _)]
      simp [wld, List.getElem?_mapIdx, he]
    · have h1 : (wld G L S ++ [(gB G + L.length, e)]).length ≤ i := by simp [wld_len]; omega
      have h2 : (wld G (L ++ [h]) S').length ≤ i := by simp [wld_len]; omega
      rw [List.getElem?_eq_none h1, List.getElem?_eq_none h2]
/-! what holds of the tables and texts in every state -/
def sTx : Nat → String
  | 0 => "when    or      and     not     turn    no      bang    crack   wall    gap     walls   near    "
  | 1 => "when    or      and     not     shot    truck   board   loud    long    ahead   behind  "
  | _ => ";+-*/()<=>"
def sIx : Nat → Nat
  | 0 => 107
  | 1 => 109
  | _ => 100
def sLen : List Nat := [96, 88, 10]
def sByt : List (List Int32) := [(sTx 0).toList.map (fun c => nI c.toNat), (sTx 1).toList.map (fun c => nI c.toNat), (sTx 2).toList.map (fun c => nI c.toNat)]
def KK (G : Gl) (U : State) : Prop :=
  va_K (gD G) classes (gT G) U ∧ vk_S 3 sLen sByt (gS G) (gV G) (own G) U U.heap ∧ (∀ i, i < 3 → vk_R "BangSquare$Reader" (sIx i) (sTx i) (gS G i) U) ∧ va_Z "java/lang/String" "COMPACT_STRINGS" "Z" (.int 1) (own G) U U.heap ∧ (∀ q ∈ nst, va_Nw (.methodLinkNest q.1 q.2.1 q.2.2.1 q.2.2.2) U) ∧ (∀ C ∈ arw, va_AO C U) ∧ gB G ≤ U.heap.size ∧ va_Zq "jdk/internal/util/Preconditions" "SIOOBE_FORMATTER" "Ljava/util/function/BiFunction;" (own G) U U.heap
theorem KK.go {G : Gl} {s U : State} {H : Heap} {locs : List Loc} (h : KK G s) (hS : va_S (own G) s.heap H locs) (hU : U.heap = H) (hW : s.WarmedH U.vm) : KK G U := by
  obtain ⟨h1, h2, h3, h4, h5, h6, h7, h8⟩ := h
  refine ⟨va_K.moved hW.alike h1, ?_, fun i hi => (h3 i hi).warm hW, ?_, fun q hq => va_Nw.warmM hW (h5 q hq), fun C hC => va_AO.moved hW.alike (h6 C hC), ?_, ?_⟩
  · rw [hU]; exact (vk_S.moved hW.alike h2).kept hS.2.1
  · rw [hU]; exact (va_Z.moved hW.alike h4).kept hS.2.1
  · rw [hU]; exact Nat.le_trans h7 hS.1
  · rw [hU]; exact (va_Zq.moved hW.alike h8).kept hS.2.1
theorem KK.calling {G : Gl} {U : State} {g : JFrame} {mk : MethodId} {a : Array Value} (h : KK G U) : KK G (U.calling g mk a) := by
  obtain ⟨h1, h2, h3, h4, h5, h6, h7, h8⟩ := h
  exact ⟨va_K.moved (U := U.calling g mk a) (Vm.Alike.refl U.vm) h1, vk_S.moved (U := U.calling g mk a) (Vm.Alike.refl U.vm) h2, fun i hi => (h3 i hi).same (U := U.calling g mk a) rfl, va_Z.moved (U := U.calling g mk a) (Vm.Alike.refl U.vm) h4, fun q hq => (h5 q hq).same (U := U.calling g mk a) rfl rfl, fun C hC => va_AO.moved (U := U.calling g mk a) (Vm.Alike.refl U.vm) (h6 C hC), h7, va_Zq.moved (U := U.calling g mk a) (Vm.Alike.refl U.vm) h8⟩
/-! a method and where one stands in it -/
/-- name, bytes, locals, what it returns, room -/
abbrev Ym : Type := MethodName × ByteArray × Nat × Option FieldType × Room
abbrev mY (Y : Ym) : MethodName := Y.1
abbrev mB (Y : Ym) : ByteArray := Y.2.1
abbrev mL (Y : Ym) : Nat := Y.2.2.1
abbrev mT (Y : Ym) : Option FieldType := Y.2.2.2.1
abbrev mR (Y : Ym) : Room := Y.2.2.2.2
def mW (Y : Ym) : List Cond := .code (mY Y) (mB Y) (mL Y) (mT Y) :: gd_tbl
abbrev Gm : Type := Program × Launch × Env × Room × State × MethodId × Array Value × List Frame × Method × Code
abbrev g_p (g : Gm) : Program := g.1
abbrev g_l (g : Gm) : Launch := g.2.1
abbrev g_e (g : Gm) : Env := g.2.2.1
abbrev g_R (g : Gm) : Room := g.2.2.2.1
abbrev g_s (g : Gm) : State := g.2.2.2.2.1
abbrev g_m (g : Gm) : MethodId := g.2.2.2.2.2.1
abbrev g_a (g : Gm) : Array Value := g.2.2.2.2.2.2.1
abbrev g_b (g : Gm) : List Frame := g.2.2.2.2.2.2.2.1
abbrev g_t (g : Gm) : Method := g.2.2.2.2.2.2.2.2.1
abbrev g_c (g : Gm) : Code := g.2.2.2.2.2.2.2.2.2
def Cx (g : Gm) (Y : Ym) (G : Gl) : Prop :=
  (g_p g).tables.exec = Jvm.exec ∧ (g_c g).code = mB Y ∧ (g_c g).maxLocals = mL Y ∧ (g_s g).vm.findClass (mY Y).cls = some (g_m g).cls ∧ (∀ w ∈ gd_tbl, w.before (g_a g) (g_s g) = true) ∧ KK G (g_s g) ∧ (g_t g).sig.returnType = mT Y ∧ (g_t g).locks = false ∧ g_R g = mR Y ∧ (g_t g).name = (mY Y).name
theorem Cx.fix {g : Gm} {Y : Ym} {G : Gl} (C : Cx g Y G) : CallFix (g_p g) (g_m g) (g_c g) (mB Y) (mL Y) (g_s g) (g_a g) gd_tbl (mY Y).cls := ⟨C.1, C.2.1, C.2.2.1, C.2.2.2.1, C.2.2.2.2.1⟩
abbrev Cx.own {g : Gm} {Y : Ym} {G : Gl} (C : Cx g Y G) := C.2.2.2.1
abbrev Cx.ts {g : Gm} {Y : Ym} {G : Gl} (C : Cx g Y G) := C.2.2.2.2.1
abbrev Cx.K {g : Gm} {Y : Ym} {G : Gl} (C : Cx g Y G) := C.2.2.2.2.2.1
/-- from here, with these locals, stack, shapes and store, the machine comes to Q -/
def Vw (g : Gm) (Y : Ym) (G : Gl) (Q : State → Prop) (k n pc : Nat) (lv : List (Nat × Value)) (st : List Value) (L : Shp) (S : Sto) : Prop :=
  ∀ (H : Heap) (locs : List Loc) (ls : Array Slot), Rep G L S H → va_S (own G) (g_s g).heap H locs → lv_has ls (mL Y) lv →
    W (g_p g) (g_l g) (g_e g) (g_R g) (g_s g) (g_m g) (g_a g) (g_b g) (g_t g) (g_c g) H locs k n Q (F0 (g_m g) pc ls st)
/-- what is computed from here is o, then K -/
def VO (g : Gm) (Y : Ym) (G : Gl) {β γ : Type} (Qf : γ → State → Prop) (k n pc : Nat) (lv : List (Nat × Value)) (st : List Value) (L : Shp) (S : Sto) (o : Option β) (K : β → Option γ) : Prop :=
  ∀ x, o.bind K = some x → Vw g Y G (Qf x) k n pc lv st L S
abbrev Fnl : Type := Option Value × Shp × Sto
def Qc (G : Gl) (f : Fnl) : Array Value → State → Outcome → State → Prop := fun _ st oc t => oc = .returned f.1 ∧ Rep G f.2.1 f.2.2 t.heap ∧ va_F (own G) st t
def Qm (g : Gm) (Y : Ym) (G : Gl) (f : Fnl) : State → Prop := MQ (g_b g) (Qc G f) (g_a g) (g_s g) (mR Y).cells (mR Y).slots (own G)
def Pcc (G : Gl) (avs : List Value) (L : Shp) (S : Sto) : Array Value → State → Prop := va_Pc avs (fun U => Rep G L S U.heap ∧ KK G U)
/-- a method's contract: if o is a value, it comes to its end, as fin says -/
def Ct (Y : Ym) (G : Gl) (avs : List Value) (L : Shp) (S : Sto) {γ : Type} (fin : γ → Fnl) (o : Option γ) : Prop :=
  ∀ x, o = some x → ∀ l, Met l (mY Y) (mW Y) (mR Y) (Pcc G avs L S) (Qc G (fin x)) (mR Y).cells (mR Y).slots (own G)
theorem Pcc.blind {G : Gl} {avs : List Value} {L : Shp} {S : Sto} : FrameBlind (Pcc G avs L S) := fun _ _ _ _ ⟨h1, h2, h3⟩ => ⟨h1, h2, h3.calling⟩
theorem ct_of {Y : Ym} {G : Gl} {avs : List Value} {L : Shp} {S : Sto} {γ : Type} {fin : γ → Fnl} {o : Option γ} (hy : plainFor (mY Y) = true) (hn : (lg_sl avs).length ≤ mL Y)
    (body : ∀ g, Cx g Y G → VO g Y G (fun x => Qm g Y G (fin x)) 0 0 0 (lv_args 0 avs) [] L S o some) : Ct Y G avs L S fin o := by
  intro x hx l
  refine va_MetF (cc := mB Y) (maxL := mL Y) (ret := mT Y) hy rfl ?_
  intro p e s m args below meth c s₁ B hml hv
  obtain ⟨rfl, hR, hK⟩ := hv
  have hts := atoms_spec (ws := mW Y) B.pre
  have hl := lv_entry avs (n := mL Y) hn
  have hb := body (p, l, e, mR Y, s, m, avs.toArray, below, meth, c) ⟨B.exec, B.bytes, hml, findClass_of_methodNamed B.named, fun w hw => hts w (List.mem_cons_of_mem _ hw), hK, B.returns, B.notSynchronized, rfl, (name_of_methodNamed B.named B.method).1⟩ x (by rw [hx]; rfl)
  rw [lg_entry_eq]
  exact hb s.heap [] _ hR va_S.rf hl
