/-! rules for what makes cells -/
def CNk (own : String) (idx ci N : Nat) (fsp : List Nat) : Prop := ∃ (CN : String) (T : u_T) (ty : Nat → FieldType), classes[ci]? = some (CN, T, N) ∧ Cond.classLink own idx CN ∈ gd_tbl ∧ Cond.instantiable CN N ∈ gd_tbl ∧ Cond.initialized CN ∈ gd_tbl ∧ (∀ w ∈ u_ws CN T N, w ∈ gd_tbl) ∧ (∀ k, k < N → parseFieldDescriptor (T k).2.2.1 = some (ty k)) ∧ fsp.length = N ∧ ∀ j, j < N → fsp[j]? = some (if defaultValue (ty j) = .int 0 then 0 else 2) ∧ (defaultValue (ty j) = .int 0 ∨ defaultValue (ty j) = .null)
theorem Rep.push {G : Gl} {L : Shp} {S : Sto} {H H1 : Heap} {h : Nat × Nat × List Nat} {f : Nat → Int32} (h1 : Rep G L S H) (hz : H1.size = H.size + 1) (oq : ∀ q : Nat, q < H.size → H1[q]? = H[q]?) (he : va_at (gD G) classes (gB G + L.length, cel G f h) H1) (hw : ∀ ci fs, h = (0, ci, fs) → ∀ k : Nat, fs[k]? = some 1 → False) : Rep G (L ++ [h]) (sr S L.length f) H1 := by
  refine ⟨?_, by rw [hz, h1.2.1, List.length_append]; rfl, ?_⟩
  · rw [← wld_push (G := G) (S := S) (S' := sr S L.length f) (h := h) rfl (fun b hb => sr_n hb), sr_a]
    refine (h1.1.kept (fun k q hk => oq _ (h1.1 k q hk).lt)).app (fun k x hx => ?_)
    have hk : k < 1 := (List.getElem?_eq_some_iff.mp hx).1
    rw [show k = 0 by omega] at hx
    cases hx
    exact he
  · intro a ci fs k ha hk
    by_cases hl : a < L.length
    · rw [List.getElem?_append_left hl] at ha
      rw [sr_n (by omega)]
      have := h1.2.2 a ci fs k ha hk
      rw [List.getElem?_append_left (List.getElem?_eq_some_iff.mp this).1]
      exact this
    · rw [List.getElem?_append_right (by omega)] at ha
      have hk1 : a - L.length < 1 := (List.getElem?_eq_some_iff.mp ha).1
      rw [show a - L.length = 0 by omega] at ha
      simp only [List.getElem?_cons_zero, Option.some.injEq] at ha
      exact (hw ci fs ha k hk).elim
section Ctor
variable {g : Gm} {Y : Ym} {G : Gl} {β γ α δ : Type} {Qf : γ → State → Prop} {k n pc : Nat} {lv lv' : List (Nat × Value)} {st stk : List Value} {L : Shp} {S : Sto} {o o1 o2 : Option β} {K : β → Option γ} {Yc : Ym} {avs As : List Value}
theorem v_new0 (C : Cx g Y G) {idx ci N a k2 n2 : Nat} {fsp : List Nat} {L2 : Shp} (F : CNk (mY Y).cls idx ci N fsp) (ha : L.length = a) (hL2 : L ++ [(0, ci, fsp)] = L2) (hk : k + 1 = k2) (hn : n + N = n2) (hR : k2 ≤ (mR Y).cells ∧ n2 ≤ (mR Y).slots) (d : decode (mB Y) pc = .ok (.new idx, 3)) (kk : VO g Y G Qf k2 n2 (pc + 3) lv (rf G a :: st) L2 (sr S a (fun _ => 0)) o K) : VO g Y G Qf k n pc lv st L S o K := by
  intro x hx H locs ls h1 h2 h3
  subst ha hL2 hk hn
  obtain ⟨CN, T, ty, hc, hl, hi, hini, hw, hty, hlen, hf⟩ := F
  have hKn := C.K.1.1 ci _ hc
  have hRe : g_R g = mR Y := C.2.2.2.2.2.2.2.2.1
  refine W.newcK C.1 C.2.1 C.own (C.ts _ hl) (C.ts _ hi) (C.ts _ hini) rfl d (by rw [hRe]; exact hR.1) (by rw [hRe]; exact hR.2) hKn.2.1 h1.2.1 fun H1 kC hkC e1 z1 o1 => ?_
  have hfs : ∀ j, j < N → defaultValue (ty j) = vp_V (fsp.mapIdx (fvl G (fun _ => (0 : Int32)))) j := by
    intro j hj
    obtain ⟨q1, q2⟩ := hf j hj
    unfold vp_V
    rw [List.getD_eq_getElem?_getD, fs_get q1]
    rcases q2 with q2 | q2
    · rw [q2]; rfl
    · rw [q2]; rfl
  refine kk x hx H1 locs ls (h1.push (by rw [z1, h1.2.1]) (fun q hq => o1 q (by rw [← h1.2.1]; exact hq)) ⟨_, hc, (u_born ty C.ts hw hKn hkC e1 hty).to hfs⟩ ?_) ⟨Nat.le_trans h2.1 (by rw [z1, h1.2.1]; omega), fun q g1 g2 => (o1 q (by rw [← h1.2.1]; exact Nat.lt_of_lt_of_le g1 h2.1)).trans (h2.2.1 q g1 g2), h2.2.2⟩ h3
  intro ci2 fs2 e q hq
  cases e
  by_cases hj : q < N
  · obtain ⟨q1, -⟩ := hf q hj
    rw [q1] at hq
    split at hq <;> cases hq
  · rw [List.getElem?_eq_none (by omega)] at hq
    cases hq
theorem v_new (C : Cx g Y G) {idx ci N a k2 n2 : Nat} {fsp : List Nat} {L2 : Shp} {f : Sto → Option β} (F : CNk (mY Y).cls idx ci N fsp) (ha : L.length = a) (hL2 : L ++ [(0, ci, fsp)] = L2) (hk : k + 1 = k2) (hn : n + N = n2) (hR : k2 ≤ (mR Y).cells ∧ n2 ≤ (mR Y).slots) (d : decode (mB Y) pc = .ok (.new idx, 3)) (kk : ∀ S, VO g Y G Qf k2 n2 (pc + 3) lv (rf G a :: st) L2 S (f S) K) : VO g Y G Qf k n pc lv st L S (ltS (sr S a (fun _ => 0)) f) K :=
  v_new0 (o := f (sr S a (fun _ => 0))) C F ha hL2 hk hn hR d (kk _)
/-- a row of ints, bytes, booleans or longs -/
theorem v_newa (C : Cx g Y G) {a m k2 n2 t : Nat} {i : Int32} {at' : ArrayType} {ty : FieldType} {h : Nat × Nat × List Nat} {L2 : Shp} {f : Sto → Option β} {f0 : Nat → Int32} {a0 : vp_A} (hty : newarray.typeOf at' = ty) (hw : Cond.arrayClass (newarray.typeOf at') ∈ gd_tbl) (ht : (gT G)[t]? = some (gA G t, ty)) (hra : ∀ U cA, va_RA U cA ty = (U.vm.findClass ("[" ++ ty.toString) = some cA)) (hcel : cel G f0 h = .inl (gA G t, a0)) (hcell : ∀ cA : ClassId, vp_cell cA a0 = arrV cA m (fun _ => defaultValue ty)) (hob : ∀ ci fs, h = (0, ci, fs) → False) (ha : L.length = a) (hL2 : L ++ [h] = L2) (hk : k + 1 = k2) (hn : n + m = n2) (hR : k2 ≤ (mR Y).cells ∧ n2 ≤ (mR Y).slots) (hi : ¬ i < 0) (him : i.toNatClampNeg = m) (hb : m * componentBytes ty ≤ 536870912) (d : decode (mB Y) pc = .ok (.newarray at', 2)) (kk : VO g Y G Qf k2 n2 (pc + 2) lv (rf G a :: st) L2 (sr S a f0) (f (sr S a f0)) K) : VO g Y G Qf k n pc lv (.int i :: st) L S (ltS (sr S a f0) f) K := by
  intro x hx H locs ls h1 h2 h3
  subst ha hL2 hk hn hty
  have hRe : g_R g = mR Y := C.2.2.2.2.2.2.2.2.1
  refine va_newaK C.1 C.2.1 (C.ts _ hw) rfl d rfl hi him hb (by rw [hRe]; exact hR.1) (by rw [hRe]; exact hR.2) h1.2.1 fun H1 cA e1 z1 o1 hAr hNm => ?_
  have hcA : cA = gA G t := by
    have q := (C.K.1.2 t _ ht).2
    rw [hra] at q
    exact Option.some.inj (hNm.symm.trans q)
  subst hcA
  refine kk x hx H1 locs ls (h1.push (f := f0) (by rw [z1, h1.2.1]) (fun q hq => o1 q (by rw [← h1.2.1]; exact hq)) ?_ (fun ci fs e => (hob ci fs e).elim)) ⟨Nat.le_trans h2.1 (by rw [z1, h1.2.1]; omega), fun q g1 g2 => (o1 q (by rw [← h1.2.1]; exact Nat.lt_of_lt_of_le g1 h2.1)).trans (h2.2.1 q g1 g2), h2.2.2⟩ h3
  rw [hcel]
  show H1[gB G + L.length]? = some (vp_cell _ _)
  rw [hcell]
  exact e1
theorem v_newI (C : Cx g Y G) {a m k2 n2 : Nat} {i : Int32} {L2 : Shp} {f : Sto → Option β} (ha : L.length = a) (hL2 : L ++ [(1, m, [])] = L2) (hk : k + 1 = k2) (hn : n + m = n2) (hR : k2 ≤ (mR Y).cells ∧ n2 ≤ (mR Y).slots) (hi : ¬ i < 0) (him : i.toNatClampNeg = m) (hb : m * 4 ≤ 536870912) (hw : Cond.arrayClass .int ∈ gd_tbl) (d : decode (mB Y) pc = .ok (.newarray .int, 2)) (kk : ∀ S, VO g Y G Qf k2 n2 (pc + 2) lv (rf G a :: st) L2 S (f S) K) : VO g Y G Qf k n pc lv (.int i :: st) L S (ltS (sr S a (fun _ => 0)) f) K :=
  v_newa (at' := .int) (t := 0) (ty := .int) (a0 := (m, .inl (fun _ => 0))) C rfl hw rfl (fun _ _ => rfl) rfl (fun _ => rfl) (fun _ _ e => by cases e) ha hL2 hk hn hR hi him hb d (kk _)
theorem v_newB (C : Cx g Y G) {a m k2 n2 : Nat} {i : Int32} {L2 : Shp} {f : Sto → Option β} (ha : L.length = a) (hL2 : L ++ [(2, m, [])] = L2) (hk : k + 1 = k2) (hn : n + m = n2) (hR : k2 ≤ (mR Y).cells ∧ n2 ≤ (mR Y).slots) (hi : ¬ i < 0) (him : i.toNatClampNeg = m) (hb : m * 1 ≤ 536870912) (hw : Cond.arrayClass .byte ∈ gd_tbl) (d : decode (mB Y) pc = .ok (.newarray .byte, 2)) (kk : ∀ S, VO g Y G Qf k2 n2 (pc + 2) lv (rf G a :: st) L2 S (f S) K) : VO g Y G Qf k n pc lv (.int i :: st) L S (ltS (sr S a (fun _ => 0)) f) K :=
  v_newa (at' := .byte) (t := 1) (ty := .byte) (a0 := (m, .inl (fun _ => 0))) C rfl hw rfl (fun _ _ => rfl) rfl (fun _ => rfl) (fun _ _ e => by cases e) ha hL2 hk hn hR hi him hb d (kk _)
theorem v_newZ (C : Cx g Y G) {a m k2 n2 : Nat} {i : Int32} {L2 : Shp} {f : Sto → Option β} (ha : L.length = a) (hL2 : L ++ [(3, m, [])] = L2) (hk : k + 1 = k2) (hn : n + m = n2) (hR : k2 ≤ (mR Y).cells ∧ n2 ≤ (mR Y).slots) (hi : ¬ i < 0) (him : i.toNatClampNeg = m) (hb : m * 1 ≤ 536870912) (hw : Cond.arrayClass .boolean ∈ gd_tbl) (d : decode (mB Y) pc = .ok (.newarray .boolean, 2)) (kk : ∀ S, VO g Y G Qf k2 n2 (pc + 2) lv (rf G a :: st) L2 S (f S) K) : VO g Y G Qf k n pc lv (.int i :: st) L S (ltS (sr S a (fun _ => 0)) f) K :=
  v_newa (at' := .boolean) (t := 2) (ty := .boolean) (a0 := (m, .inl (fun _ => 0))) C rfl hw rfl (fun _ _ => rfl) rfl (fun _ => rfl) (fun _ _ e => by cases e) ha hL2 hk hn hR hi him hb d (kk _)
theorem v_newJ (C : Cx g Y G) {a m k2 n2 : Nat} {i : Int32} {L2 : Shp} {f : Sto → Option β} (ha : L.length = a) (hL2 : L ++ [(4, m, [])] = L2) (hk : k + 1 = k2) (hn : n + m = n2) (hR : k2 ≤ (mR Y).cells ∧ n2 ≤ (mR Y).slots) (hi : ¬ i < 0) (him : i.toNatClampNeg = m) (hb : m * 8 ≤ 536870912) (hw : Cond.arrayClass .long ∈ gd_tbl) (d : decode (mB Y) pc = .ok (.newarray .long, 2)) (kk : ∀ S, VO g Y G Qf k2 n2 (pc + 2) lv (rf G a :: st) L2 S (f S) K) : VO g Y G Qf k n pc lv (.int i :: st) L S (ltS (sr S a (fun _ => 0)) f) K :=
  v_newa (at' := .long) (t := 3) (ty := .long) (a0 := (m, .inr (.inl (fun _ => jl 0 0)))) C rfl hw rfl (fun _ _ => rfl) rfl (fun _ => by rw [show jl 0 0 = 0 by decide]; rfl) (fun _ _ e => by cases e) ha hL2 hk hn hR hi him hb d (kk _)
/-- a row of ints whose number stands at 400 -/
theorem v_newD0 (C : Cx g Y G) {a m k2 n2 : Nat} {i : Int32} {L2 : Shp} {f : Sto → Option β} (ha : L.length = a) (hL2 : L ++ [(5, 0, [])] = L2) (hk : k + 1 = k2) (hn : n + m = n2) (hR : k2 ≤ (mR Y).cells ∧ n2 ≤ (mR Y).slots) (hi : ¬ i < 0) (him : i.toNatClampNeg = m) (h4 : m ≤ 400) (hw : Cond.arrayClass .int ∈ gd_tbl) (d : decode (mB Y) pc = .ok (.newarray .int, 2)) (kk : VO g Y G Qf k2 n2 (pc + 2) lv (rf G a :: st) L2 (sr S a (upd (fun _ => 0) 400 i)) (f (sr S a (upd (fun _ => 0) 400 i))) K) : VO g Y G Qf k n pc lv (.int i :: st) L S (ltS (sr S a (upd (fun _ => 0) 400 i)) f) K := by
  refine v_newa (at' := .int) (t := 0) (ty := .int) (m := m) (a0 := (m, .inl (upd (fun _ => 0) 400 i))) C rfl hw rfl (fun _ _ => rfl) ?_ (fun cA => ?_) (fun _ _ e => by cases e) ha hL2 hk hn hR hi him (by show m * 4 ≤ _; omega) d kk
  · show (Sum.inl (gA G 0, (upd (fun _ => (0 : Int32)) 400 i 400).toNatClampNeg, _) : va_E) = _
    rw [pk_us, him]
  · rw [vp_cell_i]
    show arrV cA m _ = arrV cA m _
    unfold arrV
    congr 1
    apply congrArg
    funext j
    show Value.int (upd (fun _ => (0 : Int32)) 400 i j.1) = _
    rw [pk_un (by have := j.2; omega)]
    rfl
theorem v_newD (C : Cx g Y G) {a m k2 n2 : Nat} {i : Int32} {L2 : Shp} {f : Sto → Option β} (ha : L.length = a) (hL2 : L ++ [(5, 0, [])] = L2) (hk : k + 1 = k2) (hn : n + m = n2) (hR : k2 ≤ (mR Y).cells ∧ n2 ≤ (mR Y).slots) (hi : ¬ i < 0) (him : i.toNatClampNeg = m) (h4 : m ≤ 400) (hw : Cond.arrayClass .int ∈ gd_tbl) (d : decode (mB Y) pc = .ok (.newarray .int, 2)) (kk : ∀ S, VO g Y G Qf k2 n2 (pc + 2) lv (rf G a :: st) L2 S (f S) K) : VO g Y G Qf k n pc lv (.int i :: st) L S (ltS (sr S a (upd (fun _ => 0) 400 i)) f) K :=
  v_newD0 C ha hL2 hk hn hR hi him h4 hw d (kk _)
theorem v_anew (C : Cx g Y G) {idx a m k2 n2 t : Nat} {i : Int32} {CN : String} {L2 : Shp} {r0 : List Nat} {f : Sto → Option β} (hl : Cond.classLink (mY Y).cls idx CN ∈ gd_tbl) (hA : CN ∈ arw) (hr0 : r0 = List.replicate m 0) (ht : (gT G)[t + 4]? = some (gA G (t + 4), .object CN)) (ha : L.length = a) (hL2 : L ++ [(t + 6, m, r0)] = L2) (hk : k + 1 = k2) (hn : n + m = n2) (hR : k2 ≤ (mR Y).cells ∧ n2 ≤ (mR Y).slots) (hi : ¬ i < 0) (him : i.toNatClampNeg = m) (hb : m * 4 ≤ 536870912) (d : decode (mB Y) pc = .ok (.anewarray idx, 3)) (kk : ∀ S, VO g Y G Qf k2 n2 (pc + 3) lv (rf G a :: st) L2 S (f S) K) : VO g Y G Qf k n pc lv (.int i :: st) L S (ltS (sr S a (fun _ => 0)) f) K := by
  intro x hx H locs ls h1 h2 h3
  subst ha hL2 hk hn him
  have hRe : g_R g = mR Y := C.2.2.2.2.2.2.2.2.1
  refine W.anew C.1 C.2.1 C.own (C.ts _ hl) (va_AO.use (C.K.2.2.2.2.2.1 _ hA)) rfl d rfl hi hb (by rw [hRe]; exact hR.1) (by rw [hRe]; exact hR.2) fun cA kA comp f1 f2 f3 f4 => ?_
  have hcA : cA = gA G (t + 4) := by
    obtain ⟨_, _, -, -, -, q⟩ := (C.K.1.2 (t + 4) _ ht).2
    exact Option.some.inj (f1.symm.trans q)
  subst hcA
  generalize hH1 : H.push ({ cls := gA G (t + 4), slots := Array.replicate i.toNatClampNeg .null, vm := .none } : Cell) = H1
  have z1 : H1.size = H.size + 1 := by rw [← hH1, Array.size_push]
  have e1 : H1[H.size]? = some (arrV (gA G (t + 4)) i.toNatClampNeg (fun _ => .null)) := by rw [← hH1, Array.getElem?_push_size, ← arrV_new]
  have o1 : ∀ q : Nat, q < H.size → H1[q]? = H[q]? := fun q hq => by rw [← hH1, Array.getElem?_push, if_neg (Nat.ne_of_lt hq)]
  rw [h1.2.1]
  rw [h1.2.1] at e1
  refine kk _ x hx H1 locs ls (h1.push (f := fun _ => 0) z1 o1 ?_ (fun ci fs e => by cases e)) ⟨Nat.le_trans h2.1 (by omega), fun q g1 g2 => (o1 q (Nat.lt_of_lt_of_le g1 h2.1)).trans (h2.2.1 q g1 g2), h2.2.2⟩ h3
  show H1[gB G + L.length]? = some (vp_cell _ _)
  rw [e1, vp_cell_q]
  congr 2
  funext j
  unfold rrf
  rw [hr0, List.getD_eq_getElem?_getD, List.getElem?_replicate]
  by_cases hj : j < i.toNatClampNeg
  · simp [hj, va_rf]
  · simp [hj, va_rf]
/-- a reference into a field -/
theorem v_putR (C : Cx g Y G) {idx a ci kf r : Nat} {fs : List Nat} {ty : FieldType} {L2 : Shp} (F : FPk (mY Y).cls idx ci kf ty ∨ (FFk (mY Y).cls idx ci kf ty ∧ (mY Y).name = "<init>")) (hL : L[a]? = some (0, ci, fs)) (hf : fs[kf]? = some 2) (hn : ∀ q : Nat, narrow ty (.ref q) = .ref q) (hfit : ∀ q : Nat, fits ty (.ref q) = true) (hL2 : L.set a (0, ci, fs.set kf (r + 3)) = L2) (hr5 : L[r]? ≠ some (5, 0, [])) (d : decode (mB Y) pc = .ok (.putfield idx, 3)) (kk : VO g Y G Qf k n (pc + 3) lv st L2 S o K) : VO g Y G Qf k n pc lv (rf G r :: rf G a :: st) L S o K := by
  subst hL2
  have hl := (List.getElem?_eq_some_iff.mp hf).1
  refine v_putG C F hL hl (hn _) (hfit _) ?_ (List.length_set) ?_ d kk
  · apply List.ext_getElem?
    intro i
    rw [List.getElem?_set]
    by_cases hi : a = i
    · subst hi
      have hla : a < L.length := (List.getElem?_eq_some_iff.mp hL).1
      have hlw : a < (wld G L S).length := by rw [wld_len]; exact hla
      have e : (L.set a (0, ci, fs.set kf (r + 3)))[a]? = some (0, ci, fs.set kf (r + 3)) := by rw [List.getElem?_set_self hla]
      rw [wld_get e]
      simp only [if_true, hlw]
      congr 3
      show (ci, _) = (ci, _)
      congr 1
      apply List.ext_getElem?
      intro j
      rw [List.getElem?_set, List.getElem?_mapIdx, List.getElem?_mapIdx, List.getElem?_set]
      by_cases hj : kf = j
      · subst hj
        simp [hl, fvl, rf]
      · simp [hj]
    · simp only [hi, if_false, wld, List.getElem?_mapIdx, List.getElem?_set_ne hi]
  · intro hw b ci2 fs2 k2 hb hk
    by_cases e : a = b
    · subst e
      rw [List.getElem?_set_self (List.getElem?_eq_some_iff.mp hL).1] at hb
      cases hb
      have hne : kf ≠ k2 := fun e => by rw [← e, List.getElem?_set_self hl] at hk; simp at hk
      rw [List.getElem?_set_ne hne] at hk
      have q := hw a ci fs k2 hL hk
      rw [List.getElem?_set_ne (fun e => by rw [← e, hL] at q; cases q)]
      exact q
    · rw [List.getElem?_set_ne e] at hb
      have q := hw b ci2 fs2 k2 hb hk
      rw [List.getElem?_set_ne (fun e => by rw [← e, hL] at q; cases q)]
      exact q
/-- a row of ints whose number stands in the store -/
theorem v_putD (C : Cx g Y G) {idx a ci kf r : Nat} {t : Nat} {fs : List Nat} {ty : FieldType} {L2 : Shp} {x0 : Int32} {f : Sto → Option β} (F : FPk (mY Y).cls idx ci kf ty ∨ (FFk (mY Y).cls idx ci kf ty ∧ (mY Y).name = "<init>")) (hL : L[a]? = some (0, ci, fs)) (hf : fs[kf]? = some t) (hn : ∀ q : Nat, narrow ty (.ref q) = .ref q) (hfit : ∀ q : Nat, fits ty (.ref q) = true) (hL2 : L.set a (0, ci, fs.set kf 1) = L2) (hr : L[r]? = some (5, 0, [])) (hx0 : x0.toNatClampNeg = r) (d : decode (mB Y) pc = .ok (.putfield idx, 3)) (kk : ∀ S, VO g Y G Qf k n (pc + 3) lv st L2 S (f S) K) : VO g Y G Qf k n pc lv (rf G r :: rf G a :: st) L S (ltS (sw S a kf x0) f) K := by
  subst hL2
  have hl := (List.getElem?_eq_some_iff.mp hf).1
  have hra : r ≠ a := fun e => by rw [e, hL] at hr; cases hr
  refine v_putG C F hL hl (hn _) (hfit _) ?_ (List.length_set) ?_ d (kk (sw S a kf x0))
  · apply List.ext_getElem?
    intro i
    rw [List.getElem?_set]
    by_cases hi : a = i
    · subst hi
      have hla : a < L.length := (List.getElem?_eq_some_iff.mp hL).1
      have hlw : a < (wld G L S).length := by rw [wld_len]; exact hla
      have e : (L.set a (0, ci, fs.set kf 1))[a]? = some (0, ci, fs.set kf 1) := by rw [List.getElem?_set_self hla]
      rw [wld_get e]
      simp only [if_true, hlw]
      congr 3
      show (ci, _) = (ci, _)
      congr 1
      apply List.ext_getElem?
      intro j
      rw [List.getElem?_set, List.getElem?_mapIdx, List.getElem?_mapIdx, List.getElem?_set]
      by_cases hj : kf = j
      · subst hj
        simp [hl, fvl, rf, sw_a, pk_us, hx0]
      · simp only [hj, if_false, sw_a]
        congr 1
        funext q
        match q with
        | 0 => simp only [fvl]; rw [pk_un (Ne.symm hj)]
        | 1 => simp only [fvl]; rw [pk_un (Ne.symm hj)]
        | 2 => rfl
        | q + 3 => rfl
    · simp only [hi, if_false, wld, List.getElem?_mapIdx, List.getElem?_set_ne hi]
      rw [sw_n (Ne.symm hi)]
  · intro hw b ci2 fs2 k2 hb hk
    by_cases e : a = b
    · subst e
      rw [List.getElem?_set_self (List.getElem?_eq_some_iff.mp hL).1] at hb
      cases hb
      rw [sw_a]
      by_cases hk2 : k2 = kf
      · subst hk2
        rw [pk_us, hx0, List.getElem?_set_ne (Ne.symm hra)]
        exact hr
      · rw [pk_un hk2]
        rw [List.getElem?_set_ne (Ne.symm hk2)] at hk
        have q := hw a ci fs k2 hL hk
        rw [List.getElem?_set_ne (fun e => by rw [← e, hL] at q; cases q)]
        exact q
    · rw [sw_n (Ne.symm e)]
      rw [List.getElem?_set_ne e] at hb
      have q := hw b ci2 fs2 k2 hb hk
      rw [List.getElem?_set_ne (fun e => by rw [← e, hL] at q; cases q)]
      exact q
/-- an object into its row -/
theorem v_aast (C : Cx g Y G) {a m t r ci : Nat} {rs fs : List Nat} {i : Int32} {CN : String} {T : u_T} {N : Nat} {L2 : Shp} (hL : L[a]? = some (t + 6, m, rs)) (ht : (gT G)[t + 4]? = some (gA G (t + 4), .object CN)) (hr : L[r]? = some (0, ci, fs)) (hc : classes[ci]? = some (CN, T, N)) (hin : inr i m = true) (hrs : rs.length = m) (hL2 : L.set a (t + 6, m, rs.set i.toNatClampNeg (r + 1)) = L2) (d : decode (mB Y) pc = .ok (.aastore, 1)) (kk : VO g Y G Qf k n (pc + 1) lv st L2 S o K) : VO g Y G Qf k n pc lv (rf G r :: .int i :: rf G a :: st) L S o K := by
  intro x hx H locs ls h1 h2 h3
  subst hL2
  have hw := wld_get (G := G) (S := S) hL
  have hv := wld_get (G := G) (S := S) hr
  have hlt := inr_lt hin
  have h0 : ¬ i < 0 := fun q => inr_in hin (Or.inl q)
  obtain ⟨r', hr', cellV, g1, g2, g3, -⟩ := h1.1 r _ hv
  have hcls := (C.K.1.1 ci _ hc).2
  obtain ⟨kA, comp, k1, k2, k3, -⟩ := (C.K.1.2 (t + 4) _ ht).2
  have hcomp : comp = (gD G).1 ci := Option.some.inj (k3.symm.trans hcls.1)
  subst hcomp
  obtain ⟨kC, hkC, -⟩ := hcls.2
  refine W.aast C.1 C.2.1 (h1.1 a _ hw) (fun q h => by cases h) (fun h => by cases h) k1 k2 rfl hkC ⟨h0, by show _ < (arrV _ _ _).slots.size; rw [arrV_size]; exact hlt⟩ g1 (fun q h => by rw [g3] at h; cases h) (by rw [g2]; exact hkC) (by rw [g2]; exact va_assign hcls) rfl rfl d fun H1 e z oq => ?_
  have hla : a < L.length := (List.getElem?_eq_some_iff.mp hL).1
  refine kk x hx H1 _ ls ⟨?_, by rw [z, h1.2.1, List.length_set], ?_⟩ (h2.put z oq (Nat.le_add_right _ _)) h3
  · have hP := h1.1.set (H1 := H1) (e := cel G (S a) (t + 6, m, rs.set i.toNatClampNeg (r + 1))) wld_D hw ?_ oq
    · have e2 : (wld G L S).set a (gB G + a, cel G (S a) (t + 6, m, rs.set i.toNatClampNeg (r + 1))) = wld G (L.set a (t + 6, m, rs.set i.toNatClampNeg (r + 1))) S := by
        apply List.ext_getElem?
        intro j
        rw [List.getElem?_set]
        by_cases hj : a = j
        · subst hj
          have hlw : a < (wld G L S).length := by rw [wld_len]; exact hla
          rw [wld_get (List.getElem?_set_self hla)]
          simp only [if_true, hlw]
        · simp only [hj, if_false, wld, List.getElem?_mapIdx, List.getElem?_set_ne hj]
      rw [e2] at hP
      exact hP
    · show H1[gB G + a]? = some (vp_cell _ _)
      rw [e]
      show some ((vp_cell (gA G (t + 4)) (m, .inr (.inr (.inr (.inr (rrf G rs)))))).setSlot _ _) = _
      rw [vp_cell_q, vp_cell_q, arrV_store]
      congr 2
      funext q
      by_cases hq : q = i.toNatClampNeg
      · subst hq
        simp only [updV, if_true]
        unfold rrf
        rw [List.getD_eq_getElem?_getD, List.getElem?_set_self (by omega)]
        rfl
      · simp only [updV, hq, if_false]
        unfold rrf
        rw [List.getD_eq_getElem?_getD, List.getD_eq_getElem?_getD, List.getElem?_set_ne (Ne.symm hq)]
  · intro b ci2 fs2 k2 hb hk
    have hab : a ≠ b := fun e => by rw [← e, List.getElem?_set_self hla] at hb; cases hb
    rw [List.getElem?_set_ne hab] at hb
    have q := h1.2.2 b ci2 fs2 k2 hb hk
    rw [List.getElem?_set_ne (fun e => by rw [← e, hL] at q; cases q)]
    exact q
/-- Object's own constructor -/
theorem v_oinit (C : Cx g Y G) {idx a : Nat} (hl : Cond.methodLink (mY Y).cls idx objectInit ∈ gd_tbl) (hi : Cond.instanceMethod objectInit ∈ gd_tbl) (hc : Cond.code objectInit ⟨#[0xb1]⟩ 1 none ∈ gd_tbl) (hf : 1 ≤ (mR Y).frames) (hlo : (st.map fun v => v.category).sum + 12 ≤ (mR Y).locals) (d : decode (mB Y) pc = .ok (.invokespecial idx, 3)) (kk : VO g Y G Qf k n (pc + 3) lv st L S o K) : VO g Y G Qf k n pc lv (rf G a :: st) L S o K := by
  intro x hx H locs ls h1 h2 h3
  have hRe : g_R g = mR Y := C.2.2.2.2.2.2.2.2.1
  exact W.objInit C.1 C.2.1 C.own (C.ts _ hl) (C.ts _ hi) (C.ts _ hc) rfl (h3.1.trans C.2.2.1.symm) rfl d (by rw [hRe]; exact hf) (by rw [hRe]; show 2 * 0 + _ + _ ≤ _; omega) (kk x hx H locs ls h1 h2 h3)
theorem inv_I (C : Cx g Y G) {idx a nA : Nat} (hl : Cond.methodLink (mY Y).cls idx (mY Yc) ∈ gd_tbl) (M : MokI Yc nA) (hr : roomy Y Yc) (hA : As.length = nA) (hst : stk = As.reverse ++ rf G a :: st) (hw : (st.map fun v => v.category).sum ≤ 8) (d : decode (mB Y) pc = .ok (.invokespecial idx, 3)) : Inv g Y G Yc (rf G a :: As) pc stk st L S := by
  refine inv_of (fun f hM k n H locs ls hls h1 h2 hk => ?_)
  have hR : g_R g = mR Y := C.2.2.2.2.2.2.2.2.1
  exact va_runI (As := As) (rest := st) (bytes := mB Yc) (maxL := mL Yc) C.fix (hM (g_l g)) ⟨callB_of nA C.ts M.1.good (by rw [← M.2.2.2]; rfl) rfl rfl (C.ts _ M.1.2.1) (C.ts _ hl) ⟨M.1.2.2.1, M.1.2.2.2.1, M.1.2.2.2.2⟩ (by rw [hR]; exact hr), M.2.2.1, C.ts _ M.2.1⟩ ⟨Pcc.blind, pre_U C h1 h2⟩ rfl hA hls hst (lv_room hw) d (by rw [hR]; exact hk)
theorem inv_IN (C : Cx g Y G) {idx a nA : Nat} {host : String} (hl : ((mY Y).cls, idx, mY Yc, host) ∈ nst) (M : MokI Yc nA) (hr : roomy Y Yc) (hA : As.length = nA) (hst : stk = As.reverse ++ rf G a :: st) (hw : (st.map fun v => v.category).sum ≤ 8) (d : decode (mB Y) pc = .ok (.invokespecial idx, 3)) : Inv g Y G Yc (rf G a :: As) pc stk st L S := by
  refine inv_of (fun f hM k n H locs ls hls h1 h2 hk => ?_)
  have hR : g_R g = mR Y := C.2.2.2.2.2.2.2.2.1
  exact va_runIN (As := As) (rest := st) (bytes := mB Yc) (maxL := mL Yc) C.fix (hM (g_l g)) ⟨va_cnB nA C.ts M.1.good (by rw [← M.2.2.2]; rfl) rfl rfl (C.K.2.2.2.2.1 _ hl) (C.ts _ M.1.2.1) ⟨M.1.2.2.1, M.1.2.2.2.1, M.1.2.2.2.2⟩ (by rw [hR]; exact hr), M.2.2.1, C.ts _ M.2.1⟩ ⟨Pcc.blind, pre_U C h1 h2⟩ rfl hA hls hst (lv_room hw) d (by rw [hR]; exact hk)
/-- a call that makes cells: the store and the shapes behind it -/
theorem v_cc {od : Option Sto} {kc : Sto → Option β} {L2 : Shp} {k2 n2 : Nat} (I : Inv g Y G Yc avs pc stk st L S) (hC : Ct Yc G avs L S (fv L2) od) (hk : k + (mR Yc).cells = k2) (hn : n + (mR Yc).slots = n2) (hR : k2 ≤ (mR Y).cells ∧ n2 ≤ (mR Y).slots) (kk : ∀ S, VO g Y G Qf k2 n2 (pc + 3) lv st L2 S (kc S) K) : VO g Y G Qf k n pc lv stk L S (od.bind kc) K := by
  subst hk hn
  exact v_call I hC hR (fun x => kk x)
end Ctor
