/-! rules of memory -/
/-- a field that an entry of the pool names: class and slot -/
def FLk (own : String) (idx ci kf : Nat) : Prop := ∃ (CN : String) (T : u_T) (N : Nat), classes[ci]? = some (CN, T, N) ∧ kf < N ∧ Cond.fieldLink own idx (T kf).1 (T kf).2.1 (T kf).2.2.1 ∈ gd_tbl ∧ ∀ w ∈ u_ws CN T N, w ∈ gd_tbl
def FPk (own : String) (idx ci kf : Nat) (ty : FieldType) : Prop := ∃ (CN : String) (T : u_T) (N : Nat) (ty0 : Nat → FieldType), classes[ci]? = some (CN, T, N) ∧ kf < N ∧ Cond.fieldLink own idx (T kf).1 (T kf).2.1 (T kf).2.2.1 ∈ gd_tbl ∧ (∀ w ∈ u_ws CN T N, w ∈ gd_tbl) ∧ (∀ k, k < N → parseFieldDescriptor (T k).2.2.1 = some (ty0 k)) ∧ (∀ a, a < N → ∀ b, b < N → a ≠ b → (T a).2.1 ≠ (T b).2.1) ∧ (T kf).2.2.2 = false ∧ parseFieldDescriptor (T kf).2.2.1 = some ty
def FFk (own : String) (idx ci kf : Nat) (ty : FieldType) : Prop := ∃ (CN : String) (T : u_T) (N : Nat) (ty0 : Nat → FieldType), classes[ci]? = some (CN, T, N) ∧ kf < N ∧ Cond.fieldLink own idx (T kf).1 (T kf).2.1 (T kf).2.2.1 ∈ gd_tbl ∧ (∀ w ∈ u_ws CN T N, w ∈ gd_tbl) ∧ (∀ k, k < N → parseFieldDescriptor (T k).2.2.1 = some (ty0 k)) ∧ (∀ a, a < N → ∀ b, b < N → a ≠ b → (T a).2.1 ≠ (T b).2.1) ∧ (T kf).2.2.2 = true ∧ (T kf).1 = own ∧ parseFieldDescriptor (T kf).2.2.1 = some ty
theorem fs_get {G : Gl} {f : Nat → Int32} {fs : List Nat} {kf t : Nat} (h : fs[kf]? = some t) : (fs.mapIdx (fvl G f))[kf]? = some (fvl G f kf t) := by simp [List.getElem?_mapIdx, h]
theorem fs_set {G : Gl} {f : Nat → Int32} {fs : List Nat} {kf : Nat} {x : Int32} (h : fs[kf]? = some 0) : fs.mapIdx (fvl G (upd f kf x)) = (fs.mapIdx (fvl G f)).set kf (.int x) := by
  apply List.ext_getElem?
  intro i
  rw [List.getElem?_set]
  by_cases hi : kf = i
  · subst hi
    have hl : kf < (fs.mapIdx (fvl G f)).length := by simp; exact (List.getElem?_eq_some_iff.mp h).1
    simp only [if_true, hl, List.getElem?_mapIdx, h, Option.map_some, fvl, pk_us]
  · simp only [hi, if_false, List.getElem?_mapIdx]
    congr 1
    funext t
    match t with
    | 0 => simp only [fvl]; rw [pk_un (Ne.symm hi)]
    | 1 => simp only [fvl]; rw [pk_un (Ne.symm hi)]
    | 2 => rfl
    | t + 3 => rfl
section Put
variable {p : Program} {l : Launch} {e : Env} {R : Room} {s : State} {m : MethodId} {args : Array Value} {below : List Frame} {meth : Method} {c : Code} {H : Heap} {locs : List Loc} {cells slots : Nat} {Q : State → Prop} {cc : ByteArray} {pc : Nat} {ls : Array Slot} {rest : List Value} {D : va_G} {cl : List vw_C} {tys : List (ClassId × FieldType)} {ws : va_W} {A : Nat → Prop} {H0 : Heap} {a : Nat}
/-- as va_put, and the heap's size stays -/
theorem w_put (hexec : p.tables.exec = Jvm.exec) (hb : c.code = cc) {own ref C : String} {T : u_T} {N ci index : Nat} {Ts : List Cond} (hts : ∀ w ∈ Ts, w.before args s = true) (hin : ∀ w ∈ u_ws C T N, w ∈ Ts) (ty0 : Nat → FieldType) (hty : ∀ k, k < N → parseFieldDescriptor (T k).2.2.1 = some (ty0 k)) (hnm : ∀ a, a < N → ∀ b, b < N → a ≠ b → (T a).2.1 ≠ (T b).2.1) (hown : s.vm.findClass own = some m.cls) (hK : va_K D cl tys s) (hP : va_P D cl ws H) (hD : va_D A ws) (hS0 : va_S A H0 H locs) (q0 : Nat) {fs : List Value} (he : ws[q0]? = some (a, .inr (ci, fs))) (hc : cl[ci]? = some (C, T, N)) (k : Nat) (hk : k < N) (hlink : (Cond.fieldLink own index ref (T k).2.1 (T k).2.2.1).before args s = true) (hsame : ∀ x, s.fieldFound? (T k).1 (T k).2.1 (T k).2.2.1 = some x → s.fieldFound? ref (T k).2.1 (T k).2.2.1 = some x) (hfin : (T k).2.2.2 = false ∨ ((T k).2.2.2 = true ∧ meth.name = "<init>" ∧ (T k).1 = own)) {ty : FieldType} {v : Value} (hd : parseFieldDescriptor (T k).2.2.1 = some ty) (hn : narrow ty v = v) (hfit : fits ty v = true) (hl : k < fs.length)
    (hdg : decode cc pc = .ok (.putfield index, 3)) (kk : ∀ (H1 : Heap) (locs1 : List Loc), va_P D cl (ws.set q0 (a, .inr (ci, fs.set k v))) H1 → H1.size = H.size → va_S A H0 H1 locs1 → W p l e R s m args below meth c H1 locs1 cells slots Q (F0 m (pc + 3) ls rest)) : W p l e R s m args below meth c H locs cells slots Q (F0 m pc ls (v :: .ref a :: rest)) := by
  have hap := va_apart (own := own) hts hin ty0 hty hnm hK hc
  obtain ⟨r, h1, cell, q1, q2, q3, q4⟩ := hP q0 _ he
  have hr : r = (C, T, N) := Option.some.inj (h1.symm.trans hc)
  subst hr
  obtain ⟨hS, hfc, kC, hkC, hkind⟩ := hK.1 ci _ hc
  obtain ⟨cf, kf, fi, f, hi, hsl⟩ := hS k hk
  have hlay := hts _ (hin _ (u_in_lay hk))
  have hst := (u_facts hfc hkC (u_lays hts hin hk) hi).1
  unfold u_lay at hlay
  rcases hfin with hfin | ⟨hfin, hin2, hdecl⟩
  · rw [if_neg (by rw [hfin]; decide)] at hlay
    have h6 := u_store hfc hkC hkind hlay hi hd hn hfit
    refine W.putK hexec hb (f := f) ⟨hown, hlink, ⟨_, _, _, hsame _ hi⟩, hst⟩ (by rw [q2]; exact h6) q1 q3 (by rw [hsl]; exact k2_hasslot (q4 k hk)) rfl rfl hdg fun H' e1 e2 e3 => ?_
    rw [hsl] at e1 ⊢
    exact kk H' _ (hP.set hD he ⟨_, hc, t_OB.to (V := updV (vp_V fs) k v) ⟨_, e1, q2, q3, t_set q4 hap hk v⟩ (fun j _ => vp_updV_set hl v j)⟩ e3) e2 (hS0.put e2 e3 (hD.2 q0 _ he))
  · rw [if_pos hfin] at hlay
    have hcf : m.cls = cf := by
      obtain ⟨_, _, c', _, _, _, -, -, hf', -, -, -, hown2, -⟩ := Cond.laysFinal_spec hlay
      have e1 : c' = cf := by have := hi.symm.trans hf'; simp at this; exact this.1.symm
      rw [hdecl] at hown2
      rw [← e1]; exact Option.some.inj (hown.symm.trans hown2)
    have h6 := u_fits hfc hkC hkind (Or.inr hlay) hi hd hn hfit
    refine W.putFinK hexec hb hown hlink (hsame _ hi) hst hcf hin2 (by rw [q2]; exact h6) q1 q3 (by rw [hsl]; exact k2_hasslot (q4 k hk)) rfl rfl hdg fun H' e1 e2 e3 => ?_
    rw [hsl] at e1 ⊢
    exact kk H' _ (hP.set hD he ⟨_, hc, t_OB.to (V := updV (vp_V fs) k v) ⟨_, e1, q2, q3, t_set q4 hap hk v⟩ (fun j _ => vp_updV_set hl v j)⟩ e3) e2 (hS0.put e2 e3 (hD.2 q0 _ he))
end Put
section Mem
variable {g : Gm} {Y : Ym} {G : Gl} {β γ α δ : Type} {Qf : γ → State → Prop} {k n pc : Nat} {lv lv' : List (Nat × Value)} {st : List Value} {L : Shp} {S : Sto} {o o1 o2 : Option β} {K : β → Option γ}
theorem v_getX (C : Cx g Y G) {idx a ci kf t : Nat} {fs : List Nat} (F : FLk (mY Y).cls idx ci kf) (hL : L[a]? = some (0, ci, fs)) (hf : fs[kf]? = some t) (d : decode (mB Y) pc = .ok (.getfield idx, 3)) (kk : VO g Y G Qf k n (pc + 3) lv (fvl G (S a) kf t :: st) L S o K) : VO g Y G Qf k n pc lv (rf G a :: st) L S o K := by
  intro x hx H locs ls h1 h2 h3
  obtain ⟨CN, T, N, hc, hk, hl, hw⟩ := F
  exact va_get (Ts := gd_tbl) C.1 C.2.1 C.ts hw C.own C.K.1 h1.1 a (wld_get hL) hc kf hk (C.ts _ hl) (fun _ h => h) (fs_get hf) d (kk x hx H locs ls h1 h2 h3)
theorem v_getI (C : Cx g Y G) {idx a ci kf : Nat} {fs : List Nat} (F : FLk (mY Y).cls idx ci kf) (hL : L[a]? = some (0, ci, fs)) (hf : fs[kf]? = some 0) (d : decode (mB Y) pc = .ok (.getfield idx, 3)) (kk : VO g Y G Qf k n (pc + 3) lv (.int (S a kf) :: st) L S o K) : VO g Y G Qf k n pc lv (rf G a :: st) L S o K := v_getX C F hL hf d kk
theorem v_getR (C : Cx g Y G) {idx a ci kf r : Nat} {fs : List Nat} (F : FLk (mY Y).cls idx ci kf) (hL : L[a]? = some (0, ci, fs)) (hf : fs[kf]? = some (r + 3)) (d : decode (mB Y) pc = .ok (.getfield idx, 3)) (kk : VO g Y G Qf k n (pc + 3) lv (rf G r :: st) L S o K) : VO g Y G Qf k n pc lv (rf G a :: st) L S o K := v_getX C F hL hf d kk
/-- a row of ints whose number stands in the store -/
theorem v_getD (C : Cx g Y G) {idx a ci kf : Nat} {fs : List Nat} {f : Nat → Option β} (F : FLk (mY Y).cls idx ci kf) (hL : L[a]? = some (0, ci, fs)) (hf : fs[kf]? = some 1) (d : decode (mB Y) pc = .ok (.getfield idx, 3)) (kk : ∀ r, L[r]? = some (5, 0, []) → VO g Y G Qf k n (pc + 3) lv (rf G r :: st) L S (f r) K) : VO g Y G Qf k n pc lv (rf G a :: st) L S (ltN (S a kf).toNatClampNeg f) K := by
  intro x hx H locs ls h1 h2 h3
  exact v_getX C F hL hf d (kk _ (h1.2.2 a ci fs kf hL hf)) x hx H locs ls h1 h2 h3
/-- a store into a field, by what it makes of the world -/
theorem v_putG (C : Cx g Y G) {idx a ci kf : Nat} {fs : List Nat} {ty : FieldType} {v : Value} {L2 : Shp} {S2 : Sto} (F : FPk (mY Y).cls idx ci kf ty ∨ (FFk (mY Y).cls idx ci kf ty ∧ (mY Y).name = "<init>")) (hL : L[a]? = some (0, ci, fs)) (hf : kf < fs.length) (hn : narrow ty v = v) (hfit : fits ty v = true) (hset : (wld G L S).set a (gB G + a, .inr (ci, (fs.mapIdx (fvl G (S a))).set kf v)) = wld G L2 S2) (hlen : L2.length = L.length) (hwf : Wf L S → Wf L2 S2) (d : decode (mB Y) pc = .ok (.putfield idx, 3)) (kk : VO g Y G Qf k n (pc + 3) lv st L2 S2 o K) : VO g Y G Qf k n pc lv (v :: rf G a :: st) L S o K := by
  intro x hx H locs ls h1 h2 h3
  have hnm10 := C.2.2.2.2.2.2.2.2.2
  rcases F with ⟨CN, T, N, ty0, hc, hk, hl, hw, hty, hnm, hfin, hd⟩ | ⟨⟨CN, T, N, ty0, hc, hk, hl, hw, hty, hnm, hfin, hdecl, hd⟩, hname⟩
  · refine w_put (Ts := gd_tbl) C.1 C.2.1 C.ts hw ty0 hty hnm C.own C.K.1 h1.1 wld_D h2 a (wld_get hL) hc kf hk (C.ts _ hl) (fun _ h => h) (Or.inl hfin) hd hn hfit (by simp; exact hf) d (fun H1 locs1 hP hz hS => ?_)
    rw [hset] at hP
    exact kk x hx H1 locs1 ls ⟨hP, by rw [hz, h1.2.1, hlen], hwf h1.2.2⟩ hS h3
  · refine w_put (Ts := gd_tbl) C.1 C.2.1 C.ts hw ty0 hty hnm C.own C.K.1 h1.1 wld_D h2 a (wld_get hL) hc kf hk (C.ts _ hl) (fun _ h => h) (Or.inr ⟨hfin, hnm10.trans hname, hdecl⟩) hd hn hfit (by simp; exact hf) d (fun H1 locs1 hP hz hS => ?_)
    rw [hset] at hP
    exact kk x hx H1 locs1 ls ⟨hP, by rw [hz, h1.2.1, hlen], hwf h1.2.2⟩ hS h3
theorem wld_fld {ci a kf : Nat} {fs : List Nat} {y : Int32} (hL : L[a]? = some (0, ci, fs)) (hf : fs[kf]? = some 0) : (wld G L S).set a (gB G + a, .inr (ci, (fs.mapIdx (fvl G (S a))).set kf (.int y))) = wld G L (sw S a kf y) :=
  wld_set (S' := sw S a kf y) hL (by rw [sw_a, cel, fs_set hf]) (fun b hb => sw_n hb)
theorem v_putI (C : Cx g Y G) {idx a ci kf : Nat} {fs : List Nat} {y : Int32} {f : Sto → Option β} (F : FPk (mY Y).cls idx ci kf .int) (hL : L[a]? = some (0, ci, fs)) (hf : fs[kf]? = some 0) (d : decode (mB Y) pc = .ok (.putfield idx, 3)) (kk : ∀ S, VO g Y G Qf k n (pc + 3) lv st L S (f S) K) : VO g Y G Qf k n pc lv (.int y :: rf G a :: st) L S (ltS (sw S a kf y) f) K :=
  v_putG C (Or.inl F) hL (List.getElem?_eq_some_iff.mp hf).1 rfl rfl (wld_fld hL hf) rfl (fun h => h.fld hL hf) d (kk _)
theorem v_putZ (C : Cx g Y G) {idx a ci kf : Nat} {fs : List Nat} {y : Int32} {f : Sto → Option β} (F : FPk (mY Y).cls idx ci kf .boolean) (hL : L[a]? = some (0, ci, fs)) (hf : fs[kf]? = some 0) (d : decode (mB Y) pc = .ok (.putfield idx, 3)) (hz : b01 y = true) (kk : ∀ S, VO g Y G Qf k n (pc + 3) lv st L S (f S) K) : VO g Y G Qf k n pc lv (.int y :: rf G a :: st) L S (ltS (sw S a kf y) f) K :=
  v_putG C (Or.inl F) hL (List.getElem?_eq_some_iff.mp hf).1 (b01_n hz) (b01_f hz) (wld_fld hL hf) rfl (fun h => h.fld hL hf) d (kk _)
/-! rows of numbers -/
theorem v_iald (C : Cx g Y G) {a m : Nat} {r : List Nat} {i : Int32} (hL : L[a]? = some (1, m, r)) (d : decode (mB Y) pc = .ok (.iaload, 1)) (kk : inr i m = true → VO g Y G Qf k n (pc + 1) lv (.int (S a i.toNatClampNeg) :: st) L S o K) : VO g Y G Qf k n pc lv (.int i :: rf G a :: st) L S (chk (inr i m) o) K :=
  v_chk (fun hb x hx H locs ls h1 h2 h3 => va_iald (f := S a) C.1 C.2.1 C.K.1 h1.1 a 0 (wld_get hL) rfl (inr_in hb) d (kk hb x hx H locs ls h1 h2 h3))
theorem v_ialdT (C : Cx g Y G) {a m : Nat} {r : List Nat} {i : Int32} (hL : L[a]? = some (1, m, r)) (d : decode (mB Y) pc = .ok (.iaload, 1)) (hb : inr i m = true) (kk : VO g Y G Qf k n (pc + 1) lv (.int (S a i.toNatClampNeg) :: st) L S o K) : VO g Y G Qf k n pc lv (.int i :: rf G a :: st) L S o K :=
  fun x hx H locs ls h1 h2 h3 => va_iald (f := S a) C.1 C.2.1 C.K.1 h1.1 a 0 (wld_get hL) rfl (inr_in hb) d (kk x hx H locs ls h1 h2 h3)
theorem v_iald5 (C : Cx g Y G) {a : Nat} {i : Int32} (hL : L[a]? = some (5, 0, [])) (d : decode (mB Y) pc = .ok (.iaload, 1)) (kk : inr i (S a 400).toNatClampNeg = true → VO g Y G Qf k n (pc + 1) lv (.int (S a i.toNatClampNeg) :: st) L S o K) : VO g Y G Qf k n pc lv (.int i :: rf G a :: st) L S (chk (inr i (S a 400).toNatClampNeg) o) K :=
  v_chk (fun hb x hx H locs ls h1 h2 h3 => va_iald (f := S a) (n := (S a 400).toNatClampNeg) C.1 C.2.1 C.K.1 h1.1 a 0 (wld_get hL) rfl (inr_in hb) d (kk hb x hx H locs ls h1 h2 h3))
theorem v_bald (C : Cx g Y G) {a m : Nat} {r : List Nat} {i : Int32} (hL : L[a]? = some (2, m, r)) (d : decode (mB Y) pc = .ok (.baload, 1)) (kk : inr i m = true → VO g Y G Qf k n (pc + 1) lv (.int (S a i.toNatClampNeg) :: st) L S o K) : VO g Y G Qf k n pc lv (.int i :: rf G a :: st) L S (chk (inr i m) o) K :=
  v_chk (fun hb x hx H locs ls h1 h2 h3 => va_bald (f := S a) C.1 C.2.1 C.K.1 h1.1 a 1 (wld_get hL) rfl (inr_in hb) d (kk hb x hx H locs ls h1 h2 h3))
theorem v_zald (C : Cx g Y G) {a m : Nat} {r : List Nat} {i : Int32} (hL : L[a]? = some (3, m, r)) (d : decode (mB Y) pc = .ok (.baload, 1)) (kk : inr i m = true → VO g Y G Qf k n (pc + 1) lv (.int (S a i.toNatClampNeg) :: st) L S o K) : VO g Y G Qf k n pc lv (.int i :: rf G a :: st) L S (chk (inr i m) o) K :=
  v_chk (fun hb x hx H locs ls h1 h2 h3 => va_zald (f := S a) C.1 C.2.1 C.K.1 h1.1 a 2 (wld_get hL) rfl (inr_in hb) d (kk hb x hx H locs ls h1 h2 h3))
theorem v_lald (C : Cx g Y G) {a m : Nat} {r : List Nat} {i : Int32} (hL : L[a]? = some (4, m, r)) (d : decode (mB Y) pc = .ok (.laload, 1)) (kk : inr i m = true → VO g Y G Qf k n (pc + 1) lv (.long (jl (S a (2 * i.toNatClampNeg)) (S a (2 * i.toNatClampNeg + 1))) :: st) L S o K) : VO g Y G Qf k n pc lv (.int i :: rf G a :: st) L S (chk (inr i m) o) K :=
  v_chk (fun hb x hx H locs ls h1 h2 h3 => va_lald (f := fun j => jl (S a (2 * j)) (S a (2 * j + 1))) C.1 C.2.1 C.K.1 h1.1 a 3 (wld_get hL) rfl (inr_in hb) d (kk hb x hx H locs ls h1 h2 h3))
/-- a row of objects: the cells c0, c0 + e, c0 + 2 e .. -/
theorem v_aald (C : Cx g Y G) {a m t c0 e : Nat} {CN : String} {r : List Nat} {i : Int32} {f : Nat → Option β} (hL : L[a]? = some (t + 6, m, r)) (ht : (gT G)[t + 4]? = some (gA G (t + 4), .object CN)) (hr : ∀ j, j < m → r.getD j 0 = c0 + e * j + 1) (d : decode (mB Y) pc = .ok (.aaload, 1)) (kk : ∀ j, j < m → VO g Y G Qf k n (pc + 1) lv (rf G (c0 + e * j) :: st) L S (f j) K) : VO g Y G Qf k n pc lv (.int i :: rf G a :: st) L S (chk (inr i m) (ltN i.toNatClampNeg f)) K := by
  refine v_chk (fun hb x hx H locs ls h1 h2 h3 => ?_)
  refine va_aldq (f := rrf G r) C.1 C.2.1 C.K.1 h1.1 a (t + 4) (wld_get hL) ht (inr_in hb) d ?_
  have e1 : va_rf (rrf G r i.toNatClampNeg) = rf G (c0 + e * i.toNatClampNeg) := by
    unfold rrf
    rw [hr _ (inr_lt hb)]
    rfl
  rw [e1]
  exact kk _ (inr_lt hb) x hx H locs ls h1 h2 h3
theorem v_alen (C : Cx g Y G) {a t : Nat} {v : Int32} {cA : ClassId} {x : vp_A} {ty : FieldType} {h : Nat × Nat × List Nat} (hL : L[a]? = some h) (hx : cel G (S a) h = .inl (cA, x)) (ht : (gT G)[t]? = some (cA, ty)) (hv : Int32.ofNat x.1 = v) (d : decode (mB Y) pc = .ok (.arraylength, 1)) (kk : VO g Y G Qf k n (pc + 1) lv (.int v :: st) L S o K) : VO g Y G Qf k n pc lv (rf G a :: st) L S o K :=
  fun z hz H locs ls h1 h2 h3 => va_alen C.1 C.2.1 C.K.1 h1.1 a t (by rw [wld_get hL, hx]) ht hv d (kk z hz H locs ls h1 h2 h3)
theorem Rep.up {H H1 : Heap} {a t m : Nat} {r : List Nat} {f : Nat → Int32} {ca : va_E} (h : Rep G L S H) (hL : L[a]? = some (t + 1, m, r)) (hc : cel G f (t + 1, m, r) = ca) (he : va_at (gD G) classes (gB G + a, ca) H1) (hz : H1.size = H.size) (oq : ∀ q : Nat, q ≠ gB G + a → H1[q]? = H[q]?) : Rep G L (sr S a f) H1 := by
  have hP := h.1.set wld_D (wld_get hL) he oq
  rw [wld_set (S' := sr S a f) hL (by rw [sr_a]; exact hc) (fun b hb => sr_n hb)] at hP
  exact ⟨hP, by rw [hz]; exact h.2.1, h.2.2.arr hL⟩
theorem v_iast (C : Cx g Y G) {a m : Nat} {r : List Nat} {i y : Int32} {f : Sto → Option β} (hL : L[a]? = some (1, m, r)) (d : decode (mB Y) pc = .ok (.iastore, 1)) (kk : inr i m = true → ∀ S, VO g Y G Qf k n (pc + 1) lv st L S (f S) K) : VO g Y G Qf k n pc lv (.int y :: .int i :: rf G a :: st) L S (chk (inr i m) (ltS (sw S a i.toNatClampNeg y) f)) K := by
  refine v_chk (fun hb x hx H locs ls h1 h2 h3 => ?_)
  have hw := wld_get (G := G) (S := S) hL
  refine W.iast C.1 C.2.1 (h1.1 a _ hw) ((C.K.1.2 0 _ rfl).1 m (fun j => .int (S a j))) (fun q => by cases q) (by show ¬ (i < 0 ∨ (arrV _ _ _).slots.size ≤ _); rw [arrV_size]; exact inr_in hb) rfl rfl d fun H1 e z oq => ?_
  refine kk hb _ x hx H1 _ ls (h1.up hL rfl ?_ z oq) (h2.put z oq (Nat.le_add_right _ _)) h3
  show H1[gB G + a]? = some (vp_cell _ _)
  rw [e]
  show some ((vp_cell (gA G 0) (m, .inl (S a))).setSlot _ _) = _
  rw [vp_cell_i, vp_cell_i, arrV_store]
  congr 2
  funext q
  by_cases hq : q = i.toNatClampNeg
  · subst hq
    simp [updV, upd]
  · simp [updV, upd, hq]
theorem v_bast (C : Cx g Y G) {a m : Nat} {r : List Nat} {i y : Int32} {f : Sto → Option β} (hL : L[a]? = some (2, m, r)) (d : decode (mB Y) pc = .ok (.bastore, 1)) (kk : inr i m = true → ∀ S, VO g Y G Qf k n (pc + 1) lv st L S (f S) K) : VO g Y G Qf k n pc lv (.int y :: .int i :: rf G a :: st) L S (chk (inr i m) (ltS (sw S a i.toNatClampNeg (vp_nar .byte y)) f)) K := by
  refine v_chk (fun hb x hx H locs ls h1 h2 h3 => ?_)
  have hw := wld_get (G := G) (S := S) hL
  refine W.bast C.1 C.2.1 (h1.1 a _ hw) ((C.K.1.2 1 _ rfl).1 m (fun j => .int (S a j))) (fun q => by cases q) (by show ¬ (i < 0 ∨ (arrV _ _ _).slots.size ≤ _); rw [arrV_size]; exact inr_in hb) rfl rfl d fun H1 e z oq => ?_
  refine kk hb _ x hx H1 _ ls (h1.up hL rfl ?_ z oq) (h2.put z oq (Nat.le_add_right _ _)) h3
  show H1[gB G + a]? = some (vp_cell _ _)
  rw [e]
  show some ((vp_cell (gA G 1) (m, .inl (S a))).setSlot _ _) = _
  rw [vp_cell_i, vp_cell_i, arrV_store]
  congr 2
  funext q
  by_cases hq : q = i.toNatClampNeg
  · subst hq
    simp [updV, upd, vp_nar]
    try rfl
  · simp [updV, upd, hq]
theorem v_zast (C : Cx g Y G) {a m : Nat} {r : List Nat} {i y : Int32} {f : Sto → Option β} (hL : L[a]? = some (3, m, r)) (d : decode (mB Y) pc = .ok (.bastore, 1)) (kk : inr i m = true → ∀ S, VO g Y G Qf k n (pc + 1) lv st L S (f S) K) : VO g Y G Qf k n pc lv (.int y :: .int i :: rf G a :: st) L S (chk (inr i m) (ltS (sw S a i.toNatClampNeg (vp_nar .boolean y)) f)) K := by
  refine v_chk (fun hb x hx H locs ls h1 h2 h3 => ?_)
  have hw := wld_get (G := G) (S := S) hL
  refine W.zast C.1 C.2.1 (h1.1 a _ hw) ((C.K.1.2 2 _ rfl).1 m (fun j => .int (S a j))) (fun q => by cases q) (by show ¬ (i < 0 ∨ (arrV _ _ _).slots.size ≤ _); rw [arrV_size]; exact inr_in hb) rfl rfl d fun H1 e z oq => ?_
  refine kk hb _ x hx H1 _ ls (h1.up hL rfl ?_ z oq) (h2.put z oq (Nat.le_add_right _ _)) h3
  show H1[gB G + a]? = some (vp_cell _ _)
  rw [e]
  show some ((vp_cell (gA G 2) (m, .inl (S a))).setSlot _ _) = _
  rw [vp_cell_i, vp_cell_i, arrV_store]
  congr 2
  funext q
  by_cases hq : q = i.toNatClampNeg
  · subst hq
    simp [updV, upd, vp_nar]
    try rfl
  · simp [updV, upd, hq]
end Mem
