/-! the pure words -/
def inr (i : Int32) (n : Nat) : Bool := !(decide (i < 0) || decide (n ≤ i.toNatClampNeg))
def chk {β : Type} (b : Bool) (o : Option β) : Option β := if b = true then o else none
def lt {β : Type} (e : Int32) (f : Int32 → Option β) : Option β := f e
def ltJ {β : Type} (e : Int64) (f : Int64 → Option β) : Option β := f e
def ltN {β : Type} (e : Nat) (f : Nat → Option β) : Option β := f e
def ltS {β : Type} (e : Sto) (f : Sto → Option β) : Option β := f e
def jn {α β : Type} (j : α → Option β) (b : (α → Option β) → Option β) : Option β := b j
def b01 (x : Int32) : Bool := decide (x = 0) || decide (x = 1)
theorem inr_in {i : Int32} {n : Nat} (h : inr i n = true) : vp_in i n := by
  unfold inr at h
  unfold vp_in
  simp only [Bool.not_eq_true', Bool.or_eq_false_iff, decide_eq_false_iff_not] at h
  exact fun z => z.elim h.1 h.2
theorem inr_lt {i : Int32} {n : Nat} (h : inr i n = true) : i.toNatClampNeg < n := by
  have := inr_in h
  unfold vp_in at this
  omega
theorem inr_nI {j n : Nat} (h : j < n) (hn : n < 2 ^ 31) : inr (nI j) n = true := by
  have := vp_in_nI h hn
  unfold vp_in at this
  unfold inr
  simp only [Bool.not_eq_true', Bool.or_eq_false_iff, decide_eq_false_iff_not]
  exact ⟨fun z => this (Or.inl z), fun z => this (Or.inr z)⟩
theorem lt_ite {β : Type} {c : Prop} [Decidable c] {a b : Int32} {f : Int32 → Option β} : lt (if c then a else b) f = if c then lt a f else lt b f := by split <;> rfl
theorem chk_t {β : Type} {b : Bool} (h : b = true) (o : Option β) : chk b o = o := by simp [chk, h]
theorem b01_n {x : Int32} (h : b01 x = true) : narrow .boolean (.int x) = .int x := by
  unfold b01 at h
  simp only [Bool.or_eq_true, decide_eq_true_eq] at h
  rcases h with rfl | rfl <;> decide
theorem b01_f {x : Int32} (h : b01 x = true) : fits .boolean (.int x) = true := by
  unfold b01 at h
  simp only [Bool.or_eq_true, decide_eq_true_eq] at h
  rcases h with rfl | rfl <;> decide
def fi (L : Shp) (x : Int32 × Sto) : Fnl := (some (.int x.1), L, x.2)
def fv (L : Shp) (x : Sto) : Fnl := (none, L, x)
def fp (L : Shp) (S : Sto) (x : Int32) : Fnl := (some (.int x), L, S)
def fpl (L : Shp) (S : Sto) (x : Int64) : Fnl := (some (.long x), L, S)
theorem Wf.arr {L : Shp} {S : Sto} {a t m : Nat} {r : List Nat} {f : Nat → Int32} (h : Wf L S) (hL : L[a]? = some (t + 1, m, r)) : Wf L (sr S a f) := by
  intro b ci fs kf hb hk
  have hne : b ≠ a := fun e => by rw [e, hL] at hb; cases hb
  rw [sr_n hne]
  exact h b ci fs kf hb hk
theorem sw_sr {S : Sto} {a k : Nat} {x : Int32} : sw S a k x = sr S a (upd (S a) k x) := rfl
theorem Wf.fld {L : Shp} {S : Sto} {a ci kf : Nat} {fs : List Nat} {x : Int32} (h : Wf L S) (hL : L[a]? = some (0, ci, fs)) (hf : fs[kf]? = some 0) : Wf L (sw S a kf x) := by
  intro b ci2 fs2 k2 hb hk
  by_cases e : b = a
  · subst e
    rw [hL] at hb
    cases hb
    have hne : k2 ≠ kf := fun e => by rw [e, hf] at hk; cases hk
    rw [sw_a, pk_un hne]
    exact h b ci fs k2 hL hk
  · rw [sw_n e]
    exact h b ci2 fs2 k2 hb hk

section Rules
variable {g : Gm} {Y : Ym} {G : Gl} {β γ α δ : Type} {Qf : γ → State → Prop} {k n pc : Nat} {lv lv' : List (Nat × Value)} {st : List Value} {L : Shp} {S : Sto} {o o1 o2 : Option β} {K : β → Option γ}
theorem v_eq {o2 : Option β} (e : o = o2) (kk : VO g Y G Qf k n pc lv st L S o2 K) : VO g Y G Qf k n pc lv st L S o K := e ▸ kk
theorem v_chk {b : Bool} (kk : b = true → VO g Y G Qf k n pc lv st L S o K) : VO g Y G Qf k n pc lv st L S (chk b o) K := by
  intro x hx
  cases hb : b with
  | true => rw [hb] at hx; exact kk hb x hx
  | false => rw [hb] at hx; cases hx
theorem v_chkT {b : Bool} (h : b = true) (kk : VO g Y G Qf k n pc lv st L S o K) : VO g Y G Qf k n pc lv st L S (chk b o) K := by
  subst h; exact kk
theorem v_lt {e : Int32} {f : Int32 → Option β} (kk : ∀ x, VO g Y G Qf k n pc lv (.int x :: st) L S (f x) K) : VO g Y G Qf k n pc lv (.int e :: st) L S (lt e f) K := kk e
theorem v_ltJ {e : Int64} {f : Int64 → Option β} (kk : ∀ x, VO g Y G Qf k n pc lv (.long x :: st) L S (f x) K) : VO g Y G Qf k n pc lv (.long e :: st) L S (ltJ e f) K := kk e
theorem v_ltI {e : Int32} {f : Int32 → Option β} (kk : VO g Y G Qf k n pc lv st L S (f e) K) : VO g Y G Qf k n pc lv st L S (lt e f) K := kk
theorem v_jn {j : α → Option β} {b : (α → Option β) → Option β} (P : (α → Option β) → Prop) (hj : P j) (hb : ∀ j, P j → VO g Y G Qf k n pc lv st L S (b j) K) : VO g Y G Qf k n pc lv st L S (jn j b) K := hb j hj
theorem v_case {x c : Int32} (kt : x = c → VO g Y G Qf k n pc lv st L S o1 K) (kf : ¬ x = c → VO g Y G Qf k n pc lv st L S o2 K) : VO g Y G Qf k n pc lv st L S (if x = c then o1 else o2) K := by
  by_cases h : x = c
  · rw [if_pos h]; exact kt h
  · rw [if_neg h]; exact kf h
theorem v_bind {δ : Type} {od : Option δ} {kc : δ → Option β} (kk : VO g Y G Qf k n pc lv st L S od (fun x => (kc x).bind K)) : VO g Y G Qf k n pc lv st L S (od.bind kc) K := by
  intro x hx
  refine kk x ?_
  rw [← hx]
  cases od <;> rfl
theorem v_some {δ : Type} {v : δ} {kc : δ → Option β} (kk : VO g Y G Qf k n pc lv st L S (kc v) K) : VO g Y G Qf k n pc lv st L S (some v) (fun x => (kc x).bind K) := fun x hx => kk x hx
theorem v_none : VO g Y G Qf k n pc lv st L S (none : Option β) K := fun x hx => by cases hx
theorem v_iconst (C : Cx g Y G) {i : Int} {v : Int32} (d : decode (mB Y) pc = .ok (.iconst i, 1)) (hv : Int32.ofInt i = v) (kk : VO g Y G Qf k n (pc + 1) lv (.int v :: st) L S o K) : VO g Y G Qf k n pc lv st L S o K :=
  fun x hx H locs ls h1 h2 h3 => lv_iconst C.1 C.2.1 d hv (kk x hx H locs ls h1 h2 h3)
theorem v_bipush (C : Cx g Y G) {i : Int} {v : Int32} (d : decode (mB Y) pc = .ok (.bipush i, 2)) (hv : (Int8.ofInt i).toInt32 = v) (kk : VO g Y G Qf k n (pc + 2) lv (.int v :: st) L S o K) : VO g Y G Qf k n pc lv st L S o K :=
  fun x hx H locs ls h1 h2 h3 => lv_bipush C.1 C.2.1 d hv (kk x hx H locs ls h1 h2 h3)
theorem v_sipush (C : Cx g Y G) {i : Int} {v : Int32} (d : decode (mB Y) pc = .ok (.sipush i, 3)) (hv : (Int16.ofInt i).toInt32 = v) (kk : VO g Y G Qf k n (pc + 3) lv (.int v :: st) L S o K) : VO g Y G Qf k n pc lv st L S o K :=
  fun x hx H locs ls h1 h2 h3 => lv_sipush C.1 C.2.1 d hv (kk x hx H locs ls h1 h2 h3)
theorem v_lconst (C : Cx g Y G) {i : Fin 2} {v : Int64} (d : decode (mB Y) pc = .ok (.lconst i, 1)) (hv : Int64.ofNat (i : Nat) = v) (kk : VO g Y G Qf k n (pc + 1) lv (.long v :: st) L S o K) : VO g Y G Qf k n pc lv st L S o K :=
  fun x hx H locs ls h1 h2 h3 => lv_lconst C.1 C.2.1 d hv (kk x hx H locs ls h1 h2 h3)
theorem v_iload_n (C : Cx g Y G) {q : Fin 4} {i : Nat} {y : Int32} (d : decode (mB Y) pc = .ok (.iload_n q, 1)) (hi : (q : Nat) = i) (p : Nat) (hl : lv[p]? = some (i, .int y)) (kk : VO g Y G Qf k n (pc + 1) lv (.int y :: st) L S o K) : VO g Y G Qf k n pc lv st L S o K :=
  fun x hx H locs ls h1 h2 h3 => lv_iload_n C.1 C.2.1 d hi (lv_at h3 p hl) (kk x hx H locs ls h1 h2 h3)
theorem v_iload (C : Cx g Y G) {i : Nat} {y : Int32} (d : decode (mB Y) pc = .ok (.iload i, 2)) (p : Nat) (hl : lv[p]? = some (i, .int y)) (kk : VO g Y G Qf k n (pc + 2) lv (.int y :: st) L S o K) : VO g Y G Qf k n pc lv st L S o K :=
  fun x hx H locs ls h1 h2 h3 => lv_iload C.1 C.2.1 d (lv_at h3 p hl) (kk x hx H locs ls h1 h2 h3)
theorem v_lload_n (C : Cx g Y G) {q : Fin 4} {i : Nat} {y : Int64} (d : decode (mB Y) pc = .ok (.lload_n q, 1)) (hi : (q : Nat) = i) (p : Nat) (hl : lv[p]? = some (i, .long y)) (kk : VO g Y G Qf k n (pc + 1) lv (.long y :: st) L S o K) : VO g Y G Qf k n pc lv st L S o K :=
  fun x hx H locs ls h1 h2 h3 => lv_lload_n C.1 C.2.1 d hi (lv_at h3 p hl) (kk x hx H locs ls h1 h2 h3)
theorem v_lload (C : Cx g Y G) {i : Nat} {y : Int64} (d : decode (mB Y) pc = .ok (.lload i, 2)) (p : Nat) (hl : lv[p]? = some (i, .long y)) (kk : VO g Y G Qf k n (pc + 2) lv (.long y :: st) L S o K) : VO g Y G Qf k n pc lv st L S o K :=
  fun x hx H locs ls h1 h2 h3 => lv_lload C.1 C.2.1 d (lv_at h3 p hl) (kk x hx H locs ls h1 h2 h3)
theorem v_aload_n (C : Cx g Y G) {q : Fin 4} {i : Nat} {a : Nat} (d : decode (mB Y) pc = .ok (.aload_n q, 1)) (hi : (q : Nat) = i) (p : Nat) (hl : lv[p]? = some (i, rf G a)) (kk : VO g Y G Qf k n (pc + 1) lv (rf G a :: st) L S o K) : VO g Y G Qf k n pc lv st L S o K :=
  fun x hx H locs ls h1 h2 h3 => lv_aload_n C.1 C.2.1 d hi (lv_at h3 p hl) (kk x hx H locs ls h1 h2 h3)
theorem v_aloadS_n (C : Cx g Y G) {q : Fin 4} {i : Nat} {a : Nat} (d : decode (mB Y) pc = .ok (.aload_n q, 1)) (hi : (q : Nat) = i) (p : Nat) (hl : lv[p]? = some (i, rs G a)) (kk : VO g Y G Qf k n (pc + 1) lv (rs G a :: st) L S o K) : VO g Y G Qf k n pc lv st L S o K :=
  fun x hx H locs ls h1 h2 h3 => lv_aload_n C.1 C.2.1 d hi (lv_at h3 p hl) (kk x hx H locs ls h1 h2 h3)
theorem v_aload (C : Cx g Y G) {i : Nat} {a : Nat} (d : decode (mB Y) pc = .ok (.aload i, 2)) (p : Nat) (hl : lv[p]? = some (i, rf G a)) (kk : VO g Y G Qf k n (pc + 2) lv (rf G a :: st) L S o K) : VO g Y G Qf k n pc lv st L S o K :=
  fun x hx H locs ls h1 h2 h3 => lv_aload C.1 C.2.1 d (lv_at h3 p hl) (kk x hx H locs ls h1 h2 h3)
theorem v_aloadS (C : Cx g Y G) {i : Nat} {a : Nat} (d : decode (mB Y) pc = .ok (.aload i, 2)) (p : Nat) (hl : lv[p]? = some (i, rs G a)) (kk : VO g Y G Qf k n (pc + 2) lv (rs G a :: st) L S o K) : VO g Y G Qf k n pc lv st L S o K :=
  fun x hx H locs ls h1 h2 h3 => lv_aload C.1 C.2.1 d (lv_at h3 p hl) (kk x hx H locs ls h1 h2 h3)
theorem v_istore_n (C : Cx g Y G) {q : Fin 4} {i : Nat} {y : Int32} (d : decode (mB Y) pc = .ok (.istore_n q, 1)) (hi : (q : Nat) = i) (hn : i < mL Y) (hl : (i, (Value.int y : Value)) :: lv.filter (fun q => !(q.1 == i) && !(q.1 + 1 == i && q.2.category == 2)) = lv') (kk : VO g Y G Qf k n (pc + 1) lv' st L S o K) : VO g Y G Qf k n pc lv (.int y :: st) L S o K :=
  fun x hx H locs ls h1 h2 h3 => lv_istore_n C.1 C.2.1 d hi h3 hn hl (fun ls2 h4 => kk x hx H locs ls2 h1 h2 h4)
theorem v_istore (C : Cx g Y G) {i : Nat} {y : Int32} (d : decode (mB Y) pc = .ok (.istore i, 2)) (hn : i < mL Y) (hl : (i, (Value.int y : Value)) :: lv.filter (fun q => !(q.1 == i) && !(q.1 + 1 == i && q.2.category == 2)) = lv') (kk : VO g Y G Qf k n (pc + 2) lv' st L S o K) : VO g Y G Qf k n pc lv (.int y :: st) L S o K :=
  fun x hx H locs ls h1 h2 h3 => lv_istore C.1 C.2.1 d h3 hn hl (fun ls2 h4 => kk x hx H locs ls2 h1 h2 h4)
theorem v_lstore_n (C : Cx g Y G) {q : Fin 4} {i : Nat} {y : Int64} (d : decode (mB Y) pc = .ok (.lstore_n q, 1)) (hi : (q : Nat) = i) (hn : i + 1 < mL Y) (hl : (i, (Value.long y : Value)) :: lv.filter (fun q => !(q.1 == i) && (!(q.1 == i + 1) && !(q.1 + 1 == i && q.2.category == 2))) = lv') (kk : VO g Y G Qf k n (pc + 1) lv' st L S o K) : VO g Y G Qf k n pc lv (.long y :: st) L S o K :=
  fun x hx H locs ls h1 h2 h3 => lv_lstore_n C.1 C.2.1 d hi h3 hn hl (fun ls2 h4 => kk x hx H locs ls2 h1 h2 h4)
theorem v_lstore (C : Cx g Y G) {i : Nat} {y : Int64} (d : decode (mB Y) pc = .ok (.lstore i, 2)) (hn : i + 1 < mL Y) (hl : (i, (Value.long y : Value)) :: lv.filter (fun q => !(q.1 == i) && (!(q.1 == i + 1) && !(q.1 + 1 == i && q.2.category == 2))) = lv') (kk : VO g Y G Qf k n (pc + 2) lv' st L S o K) : VO g Y G Qf k n pc lv (.long y :: st) L S o K :=
  fun x hx H locs ls h1 h2 h3 => lv_lstore C.1 C.2.1 d h3 hn hl (fun ls2 h4 => kk x hx H locs ls2 h1 h2 h4)
theorem v_astore_n (C : Cx g Y G) {q : Fin 4} {i : Nat} {y : Nat} (d : decode (mB Y) pc = .ok (.astore_n q, 1)) (hi : (q : Nat) = i) (hn : i < mL Y) (hl : (i, (rf G y : Value)) :: lv.filter (fun q => !(q.1 == i) && !(q.1 + 1 == i && q.2.category == 2)) = lv') (kk : VO g Y G Qf k n (pc + 1) lv' st L S o K) : VO g Y G Qf k n pc lv (rf G y :: st) L S o K :=
  fun x hx H locs ls h1 h2 h3 => lv_astore_n C.1 C.2.1 d hi h3 hn hl (fun ls2 h4 => kk x hx H locs ls2 h1 h2 h4)
theorem v_astore (C : Cx g Y G) {i : Nat} {y : Nat} (d : decode (mB Y) pc = .ok (.astore i, 2)) (hn : i < mL Y) (hl : (i, (rf G y : Value)) :: lv.filter (fun q => !(q.1 == i) && !(q.1 + 1 == i && q.2.category == 2)) = lv') (kk : VO g Y G Qf k n (pc + 2) lv' st L S o K) : VO g Y G Qf k n pc lv (rf G y :: st) L S o K :=
  fun x hx H locs ls h1 h2 h3 => lv_astore C.1 C.2.1 d h3 hn hl (fun ls2 h4 => kk x hx H locs ls2 h1 h2 h4)
theorem v_astoreS_n (C : Cx g Y G) {q : Fin 4} {i : Nat} {y : Nat} (d : decode (mB Y) pc = .ok (.astore_n q, 1)) (hi : (q : Nat) = i) (hn : i < mL Y) (hl : (i, (rs G y : Value)) :: lv.filter (fun q => !(q.1 == i) && !(q.1 + 1 == i && q.2.category == 2)) = lv') (kk : VO g Y G Qf k n (pc + 1) lv' st L S o K) : VO g Y G Qf k n pc lv (rs G y :: st) L S o K :=
  fun x hx H locs ls h1 h2 h3 => lv_astore_n C.1 C.2.1 d hi h3 hn hl (fun ls2 h4 => kk x hx H locs ls2 h1 h2 h4)
theorem v_astoreS (C : Cx g Y G) {i : Nat} {y : Nat} (d : decode (mB Y) pc = .ok (.astore i, 2)) (hn : i < mL Y) (hl : (i, (rs G y : Value)) :: lv.filter (fun q => !(q.1 == i) && !(q.1 + 1 == i && q.2.category == 2)) = lv') (kk : VO g Y G Qf k n (pc + 2) lv' st L S o K) : VO g Y G Qf k n pc lv (rs G y :: st) L S o K :=
  fun x hx H locs ls h1 h2 h3 => lv_astore C.1 C.2.1 d h3 hn hl (fun ls2 h4 => kk x hx H locs ls2 h1 h2 h4)
theorem v_iinc (C : Cx g Y G) {i p : Nat} {j : Int} {y c : Int32} {f : Int32 → Option β} (d : decode (mB Y) pc = .ok (.iinc i j, 3)) (hk : lv[p]? = some (i, .int y)) (hc : Int32.ofInt j = c) (hn : i < mL Y) (lv' : Int32 → List (Nat × Value)) (hl : ∀ v, (i, Value.int v) :: lv.filter (fun q => !(q.1 == i) && !(q.1 + 1 == i && q.2.category == 2)) = lv' v) (kk : ∀ v, VO g Y G Qf k n (pc + 3) (lv' v) st L S (f v) K) : VO g Y G Qf k n pc lv st L S (lt (y + c) f) K :=
  fun x hx H locs ls h1 h2 h3 => lv_iinc C.1 C.2.1 d h3 hk rfl hn (hl _) (fun ls2 h4 => kk _ x (by subst hc; exact hx) H locs ls2 h1 h2 h4)
theorem v_iadd (C : Cx g Y G) {x y : Int32} (d : decode (mB Y) pc = .ok (.iadd, 1)) (kk : VO g Y G Qf k n (pc + 1) lv (.int (x + y) :: st) L S o K) : VO g Y G Qf k n pc lv (.int y :: .int x :: st) L S o K :=
  fun z hx H locs ls h1 h2 h3 => lv_iadd C.1 C.2.1 d (kk z hx H locs ls h1 h2 h3)
theorem v_isub (C : Cx g Y G) {x y : Int32} (d : decode (mB Y) pc = .ok (.isub, 1)) (kk : VO g Y G Qf k n (pc + 1) lv (.int (x - y) :: st) L S o K) : VO g Y G Qf k n pc lv (.int y :: .int x :: st) L S o K :=
  fun z hx H locs ls h1 h2 h3 => lv_isub C.1 C.2.1 d (kk z hx H locs ls h1 h2 h3)
theorem v_imul (C : Cx g Y G) {x y : Int32} (d : decode (mB Y) pc = .ok (.imul, 1)) (kk : VO g Y G Qf k n (pc + 1) lv (.int (x * y) :: st) L S o K) : VO g Y G Qf k n pc lv (.int y :: .int x :: st) L S o K :=
  fun z hx H locs ls h1 h2 h3 => lv_imul C.1 C.2.1 d (kk z hx H locs ls h1 h2 h3)
theorem v_iand (C : Cx g Y G) {x y : Int32} (d : decode (mB Y) pc = .ok (.iand, 1)) (kk : VO g Y G Qf k n (pc + 1) lv (.int (x &&& y) :: st) L S o K) : VO g Y G Qf k n pc lv (.int y :: .int x :: st) L S o K :=
  fun z hx H locs ls h1 h2 h3 => lv_iand C.1 C.2.1 d (kk z hx H locs ls h1 h2 h3)
theorem v_ior (C : Cx g Y G) {x y : Int32} (d : decode (mB Y) pc = .ok (.ior, 1)) (kk : VO g Y G Qf k n (pc + 1) lv (.int (x ||| y) :: st) L S o K) : VO g Y G Qf k n pc lv (.int y :: .int x :: st) L S o K :=
  fun z hx H locs ls h1 h2 h3 => lv_ior C.1 C.2.1 d (kk z hx H locs ls h1 h2 h3)
theorem v_ixor (C : Cx g Y G) {x y : Int32} (d : decode (mB Y) pc = .ok (.ixor, 1)) (kk : VO g Y G Qf k n (pc + 1) lv (.int (x ^^^ y) :: st) L S o K) : VO g Y G Qf k n pc lv (.int y :: .int x :: st) L S o K :=
  fun z hx H locs ls h1 h2 h3 => lv_ixor C.1 C.2.1 d (kk z hx H locs ls h1 h2 h3)
theorem v_ishl (C : Cx g Y G) {x y : Int32} (d : decode (mB Y) pc = .ok (.ishl, 1)) (kk : VO g Y G Qf k n (pc + 1) lv (.int (x <<< (y &&& 31)) :: st) L S o K) : VO g Y G Qf k n pc lv (.int y :: .int x :: st) L S o K :=
  fun z hx H locs ls h1 h2 h3 => lv_ishl C.1 C.2.1 d (kk z hx H locs ls h1 h2 h3)
theorem v_ishr (C : Cx g Y G) {x y : Int32} (d : decode (mB Y) pc = .ok (.ishr, 1)) (kk : VO g Y G Qf k n (pc + 1) lv (.int (x >>> (y &&& 31)) :: st) L S o K) : VO g Y G Qf k n pc lv (.int y :: .int x :: st) L S o K :=
  fun z hx H locs ls h1 h2 h3 => lv_ishr C.1 C.2.1 d (kk z hx H locs ls h1 h2 h3)
theorem v_ladd (C : Cx g Y G) {x y : Int64} (d : decode (mB Y) pc = .ok (.ladd, 1)) (kk : VO g Y G Qf k n (pc + 1) lv (.long (x + y) :: st) L S o K) : VO g Y G Qf k n pc lv (.long y :: .long x :: st) L S o K :=
  fun z hx H locs ls h1 h2 h3 => lv_ladd C.1 C.2.1 d (kk z hx H locs ls h1 h2 h3)
theorem v_lsub (C : Cx g Y G) {x y : Int64} (d : decode (mB Y) pc = .ok (.lsub, 1)) (kk : VO g Y G Qf k n (pc + 1) lv (.long (x - y) :: st) L S o K) : VO g Y G Qf k n pc lv (.long y :: .long x :: st) L S o K :=
  fun z hx H locs ls h1 h2 h3 => lv_lsub C.1 C.2.1 d (kk z hx H locs ls h1 h2 h3)
theorem v_land (C : Cx g Y G) {x y : Int64} (d : decode (mB Y) pc = .ok (.land, 1)) (kk : VO g Y G Qf k n (pc + 1) lv (.long (x &&& y) :: st) L S o K) : VO g Y G Qf k n pc lv (.long y :: .long x :: st) L S o K :=
  fun z hx H locs ls h1 h2 h3 => lv_land C.1 C.2.1 d (kk z hx H locs ls h1 h2 h3)
theorem v_lor (C : Cx g Y G) {x y : Int64} (d : decode (mB Y) pc = .ok (.lor, 1)) (kk : VO g Y G Qf k n (pc + 1) lv (.long (x ||| y) :: st) L S o K) : VO g Y G Qf k n pc lv (.long y :: .long x :: st) L S o K :=
  fun z hx H locs ls h1 h2 h3 => lv_lor C.1 C.2.1 d (kk z hx H locs ls h1 h2 h3)
theorem v_idiv (C : Cx g Y G) {x y : Int32} (d : decode (mB Y) pc = .ok (.idiv, 1)) (hne : ¬ y = 0) (kk : VO g Y G Qf k n (pc + 1) lv (.int (x / y) :: st) L S o K) : VO g Y G Qf k n pc lv (.int y :: .int x :: st) L S o K :=
  fun z hx H locs ls h1 h2 h3 => lv_idiv C.1 C.2.1 d hne (kk z hx H locs ls h1 h2 h3)
theorem v_irem (C : Cx g Y G) {x y : Int32} (d : decode (mB Y) pc = .ok (.irem, 1)) (hne : ¬ y = 0) (kk : VO g Y G Qf k n (pc + 1) lv (.int (x - x / y * y) :: st) L S o K) : VO g Y G Qf k n pc lv (.int y :: .int x :: st) L S o K :=
  fun z hx H locs ls h1 h2 h3 => lv_irem C.1 C.2.1 d hne (kk z hx H locs ls h1 h2 h3)
theorem v_ineg (C : Cx g Y G) {x : Int32} (d : decode (mB Y) pc = .ok (.ineg, 1)) (kk : VO g Y G Qf k n (pc + 1) lv (.int (-x) :: st) L S o K) : VO g Y G Qf k n pc lv (.int x :: st) L S o K :=
  fun z hx H locs ls h1 h2 h3 => lv_ineg C.1 C.2.1 d (kk z hx H locs ls h1 h2 h3)
theorem v_i2b (C : Cx g Y G) {x : Int32} (d : decode (mB Y) pc = .ok (.i2b, 1)) (kk : VO g Y G Qf k n (pc + 1) lv (.int (x.toInt8.toInt32) :: st) L S o K) : VO g Y G Qf k n pc lv (.int x :: st) L S o K :=
  fun z hx H locs ls h1 h2 h3 => lv_i2b C.1 C.2.1 d rfl (kk z hx H locs ls h1 h2 h3)
theorem v_i2c (C : Cx g Y G) {x : Int32} (d : decode (mB Y) pc = .ok (.i2c, 1)) (kk : VO g Y G Qf k n (pc + 1) lv (.int ((x.toUInt32 % 65536).toInt32) :: st) L S o K) : VO g Y G Qf k n pc lv (.int x :: st) L S o K :=
  fun z hx H locs ls h1 h2 h3 => lv_i2c C.1 C.2.1 d rfl (kk z hx H locs ls h1 h2 h3)
theorem v_i2l (C : Cx g Y G) {x : Int32} (d : decode (mB Y) pc = .ok (.i2l, 1)) (kk : VO g Y G Qf k n (pc + 1) lv (.long (x.toInt64) :: st) L S o K) : VO g Y G Qf k n pc lv (.int x :: st) L S o K :=
  fun z hx H locs ls h1 h2 h3 => lv_i2l C.1 C.2.1 d rfl (kk z hx H locs ls h1 h2 h3)
theorem v_l2i (C : Cx g Y G) {x : Int64} (d : decode (mB Y) pc = .ok (.l2i, 1)) (kk : VO g Y G Qf k n (pc + 1) lv (.int (x.toInt32) :: st) L S o K) : VO g Y G Qf k n pc lv (.long x :: st) L S o K :=
  fun z hx H locs ls h1 h2 h3 => lv_l2i C.1 C.2.1 d rfl (kk z hx H locs ls h1 h2 h3)
theorem v_iushr (C : Cx g Y G) {x y : Int32} (d : decode (mB Y) pc = .ok (.iushr, 1)) (kk : VO g Y G Qf k n (pc + 1) lv (.int (x.toUInt32 >>> (y.toUInt32 &&& Int32.toUInt32 31)).toInt32 :: st) L S o K) : VO g Y G Qf k n pc lv (.int y :: .int x :: st) L S o K :=
  fun z hx H locs ls h1 h2 h3 => lv_iushr C.1 C.2.1 d rfl (kk z hx H locs ls h1 h2 h3)
theorem v_lushr (C : Cx g Y G) {x : Int64} {y : Int32} (d : decode (mB Y) pc = .ok (.lushr, 1)) (kk : VO g Y G Qf k n (pc + 1) lv (.long ((x.toUInt64 >>> (y.toInt64.toUInt64 &&& Int64.toUInt64 63)).toInt64) :: st) L S o K) : VO g Y G Qf k n pc lv (.int y :: .long x :: st) L S o K :=
  fun z hx H locs ls h1 h2 h3 => lv_lushr C.1 C.2.1 d rfl (kk z hx H locs ls h1 h2 h3)
theorem v_lshl (C : Cx g Y G) {x : Int64} {y : Int32} (d : decode (mB Y) pc = .ok (.lshl, 1)) (kk : VO g Y G Qf k n (pc + 1) lv (.long (x <<< (y.toInt64 &&& 63)) :: st) L S o K) : VO g Y G Qf k n pc lv (.int y :: .long x :: st) L S o K :=
  fun z hx H locs ls h1 h2 h3 => lv_lshl C.1 C.2.1 d rfl (kk z hx H locs ls h1 h2 h3)
theorem v_dup (C : Cx g Y G) {va : Value} (d : decode (mB Y) pc = .ok (.dup, 1)) (hv : va.category = 1) (kk : VO g Y G Qf k n (pc + 1) lv (va :: va :: st) L S o K) : VO g Y G Qf k n pc lv (va :: st) L S o K :=
  fun x hx H locs ls h1 h2 h3 => lv_dup C.1 C.2.1 d hv (kk x hx H locs ls h1 h2 h3)
theorem v_pop (C : Cx g Y G) {va : Value} (d : decode (mB Y) pc = .ok (.pop, 1)) (hv : va.category = 1) (kk : VO g Y G Qf k n (pc + 1) lv st L S o K) : VO g Y G Qf k n pc lv (va :: st) L S o K :=
  fun x hx H locs ls h1 h2 h3 => lv_pop C.1 C.2.1 d hv (kk x hx H locs ls h1 h2 h3)
theorem v_goto (C : Cx g Y G) {off : Int} {tgt : Nat} (d : decode (mB Y) pc = .ok (.goto off, 3)) (ht : (pc : Int) + off = (tgt : Int)) (kk : VO g Y G Qf k n tgt lv st L S o K) : VO g Y G Qf k n pc lv st L S o K :=
  fun x hx H locs ls h1 h2 h3 => lv_goto C.1 C.2.1 d ht (kk x hx H locs ls h1 h2 h3)
theorem v_icmp_eq (C : Cx g Y G) {x y : Int32} {off : Int} {tgt : Nat} (d : decode (mB Y) pc = .ok (.if_icmp .eq off, 3)) (ht : (pc : Int) + off = (tgt : Int)) (kt : x = y → VO g Y G Qf k n tgt lv st L S o1 K) (kf : ¬ x = y → VO g Y G Qf k n (pc + 3) lv st L S o2 K) : VO g Y G Qf k n pc lv (.int y :: .int x :: st) L S (if x = y then o1 else o2) K :=
  fun z hx H locs ls h1 h2 h3 => lv_icmp_eq C.1 C.2.1 d ht (fun c => kt c z (by rw [if_pos c] at hx; exact hx) H locs ls h1 h2 h3) (fun c => kf c z (by rw [if_neg c] at hx; exact hx) H locs ls h1 h2 h3)
theorem v_if_eq (C : Cx g Y G) {x : Int32} {off : Int} {tgt : Nat} (d : decode (mB Y) pc = .ok (.ifCond .eq off, 3)) (ht : (pc : Int) + off = (tgt : Int)) (kt : x = 0 → VO g Y G Qf k n tgt lv st L S o1 K) (kf : ¬ x = 0 → VO g Y G Qf k n (pc + 3) lv st L S o2 K) : VO g Y G Qf k n pc lv (.int x :: st) L S (if x = 0 then o1 else o2) K :=
  fun z hx H locs ls h1 h2 h3 => lv_if_eq C.1 C.2.1 d ht (fun c => kt c z (by rw [if_pos c] at hx; exact hx) H locs ls h1 h2 h3) (fun c => kf c z (by rw [if_neg c] at hx; exact hx) H locs ls h1 h2 h3)
theorem v_icmp_ne (C : Cx g Y G) {x y : Int32} {off : Int} {tgt : Nat} (d : decode (mB Y) pc = .ok (.if_icmp .ne off, 3)) (ht : (pc : Int) + off = (tgt : Int)) (kt : ¬ x = y → VO g Y G Qf k n tgt lv st L S o2 K) (kf : x = y → VO g Y G Qf k n (pc + 3) lv st L S o1 K) : VO g Y G Qf k n pc lv (.int y :: .int x :: st) L S (if x = y then o1 else o2) K :=
  fun z hx H locs ls h1 h2 h3 => lv_icmp_ne C.1 C.2.1 d ht (fun c => kt c z (by rw [if_neg c] at hx; exact hx) H locs ls h1 h2 h3) (fun c => kf c z (by rw [if_pos c] at hx; exact hx) H locs ls h1 h2 h3)
theorem v_if_ne (C : Cx g Y G) {x : Int32} {off : Int} {tgt : Nat} (d : decode (mB Y) pc = .ok (.ifCond .ne off, 3)) (ht : (pc : Int) + off = (tgt : Int)) (kt : ¬ x = 0 → VO g Y G Qf k n tgt lv st L S o2 K) (kf : x = 0 → VO g Y G Qf k n (pc + 3) lv st L S o1 K) : VO g Y G Qf k n pc lv (.int x :: st) L S (if x = 0 then o1 else o2) K :=
  fun z hx H locs ls h1 h2 h3 => lv_if_ne C.1 C.2.1 d ht (fun c => kt c z (by rw [if_neg c] at hx; exact hx) H locs ls h1 h2 h3) (fun c => kf c z (by rw [if_pos c] at hx; exact hx) H locs ls h1 h2 h3)
theorem v_icmp_lt (C : Cx g Y G) {x y : Int32} {off : Int} {tgt : Nat} (d : decode (mB Y) pc = .ok (.if_icmp .lt off, 3)) (ht : (pc : Int) + off = (tgt : Int)) (kt : x < y → VO g Y G Qf k n tgt lv st L S o1 K) (kf : ¬ x < y → VO g Y G Qf k n (pc + 3) lv st L S o2 K) : VO g Y G Qf k n pc lv (.int y :: .int x :: st) L S (if x < y then o1 else o2) K :=
  fun z hx H locs ls h1 h2 h3 => lv_icmp_lt C.1 C.2.1 d ht (fun c => kt c z (by rw [if_pos c] at hx; exact hx) H locs ls h1 h2 h3) (fun c => kf c z (by rw [if_neg c] at hx; exact hx) H locs ls h1 h2 h3)
theorem v_if_lt (C : Cx g Y G) {x : Int32} {off : Int} {tgt : Nat} (d : decode (mB Y) pc = .ok (.ifCond .lt off, 3)) (ht : (pc : Int) + off = (tgt : Int)) (kt : x < 0 → VO g Y G Qf k n tgt lv st L S o1 K) (kf : ¬ x < 0 → VO g Y G Qf k n (pc + 3) lv st L S o2 K) : VO g Y G Qf k n pc lv (.int x :: st) L S (if x < 0 then o1 else o2) K :=
  fun z hx H locs ls h1 h2 h3 => lv_if_lt C.1 C.2.1 d ht (fun c => kt c z (by rw [if_pos c] at hx; exact hx) H locs ls h1 h2 h3) (fun c => kf c z (by rw [if_neg c] at hx; exact hx) H locs ls h1 h2 h3)
theorem v_icmp_ge (C : Cx g Y G) {x y : Int32} {off : Int} {tgt : Nat} (d : decode (mB Y) pc = .ok (.if_icmp .ge off, 3)) (ht : (pc : Int) + off = (tgt : Int)) (kt : y ≤ x → VO g Y G Qf k n tgt lv st L S o1 K) (kf : ¬ y ≤ x → VO g Y G Qf k n (pc + 3) lv st L S o2 K) : VO g Y G Qf k n pc lv (.int y :: .int x :: st) L S (if y ≤ x then o1 else o2) K :=
  fun z hx H locs ls h1 h2 h3 => lv_icmp_ge C.1 C.2.1 d ht (fun c => kt c z (by rw [if_pos c] at hx; exact hx) H locs ls h1 h2 h3) (fun c => kf c z (by rw [if_neg c] at hx; exact hx) H locs ls h1 h2 h3)
theorem v_if_ge (C : Cx g Y G) {x : Int32} {off : Int} {tgt : Nat} (d : decode (mB Y) pc = .ok (.ifCond .ge off, 3)) (ht : (pc : Int) + off = (tgt : Int)) (kt : 0 ≤ x → VO g Y G Qf k n tgt lv st L S o1 K) (kf : ¬ 0 ≤ x → VO g Y G Qf k n (pc + 3) lv st L S o2 K) : VO g Y G Qf k n pc lv (.int x :: st) L S (if 0 ≤ x then o1 else o2) K :=
  fun z hx H locs ls h1 h2 h3 => lv_if_ge C.1 C.2.1 d ht (fun c => kt c z (by rw [if_pos c] at hx; exact hx) H locs ls h1 h2 h3) (fun c => kf c z (by rw [if_neg c] at hx; exact hx) H locs ls h1 h2 h3)
theorem v_icmp_gt (C : Cx g Y G) {x y : Int32} {off : Int} {tgt : Nat} (d : decode (mB Y) pc = .ok (.if_icmp .gt off, 3)) (ht : (pc : Int) + off = (tgt : Int)) (kt : y < x → VO g Y G Qf k n tgt lv st L S o1 K) (kf : ¬ y < x → VO g Y G Qf k n (pc + 3) lv st L S o2 K) : VO g Y G Qf k n pc lv (.int y :: .int x :: st) L S (if y < x then o1 else o2) K :=
  fun z hx H locs ls h1 h2 h3 => lv_icmp_gt C.1 C.2.1 d ht (fun c => kt c z (by rw [if_pos c] at hx; exact hx) H locs ls h1 h2 h3) (fun c => kf c z (by rw [if_neg c] at hx; exact hx) H locs ls h1 h2 h3)
theorem v_if_gt (C : Cx g Y G) {x : Int32} {off : Int} {tgt : Nat} (d : decode (mB Y) pc = .ok (.ifCond .gt off, 3)) (ht : (pc : Int) + off = (tgt : Int)) (kt : 0 < x → VO g Y G Qf k n tgt lv st L S o1 K) (kf : ¬ 0 < x → VO g Y G Qf k n (pc + 3) lv st L S o2 K) : VO g Y G Qf k n pc lv (.int x :: st) L S (if 0 < x then o1 else o2) K :=
  fun z hx H locs ls h1 h2 h3 => lv_if_gt C.1 C.2.1 d ht (fun c => kt c z (by rw [if_pos c] at hx; exact hx) H locs ls h1 h2 h3) (fun c => kf c z (by rw [if_neg c] at hx; exact hx) H locs ls h1 h2 h3)
theorem v_icmp_le (C : Cx g Y G) {x y : Int32} {off : Int} {tgt : Nat} (d : decode (mB Y) pc = .ok (.if_icmp .le off, 3)) (ht : (pc : Int) + off = (tgt : Int)) (kt : x ≤ y → VO g Y G Qf k n tgt lv st L S o1 K) (kf : ¬ x ≤ y → VO g Y G Qf k n (pc + 3) lv st L S o2 K) : VO g Y G Qf k n pc lv (.int y :: .int x :: st) L S (if x ≤ y then o1 else o2) K :=
  fun z hx H locs ls h1 h2 h3 => lv_icmp_le C.1 C.2.1 d ht (fun c => kt c z (by rw [if_pos c] at hx; exact hx) H locs ls h1 h2 h3) (fun c => kf c z (by rw [if_neg c] at hx; exact hx) H locs ls h1 h2 h3)
theorem v_if_le (C : Cx g Y G) {x : Int32} {off : Int} {tgt : Nat} (d : decode (mB Y) pc = .ok (.ifCond .le off, 3)) (ht : (pc : Int) + off = (tgt : Int)) (kt : x ≤ 0 → VO g Y G Qf k n tgt lv st L S o1 K) (kf : ¬ x ≤ 0 → VO g Y G Qf k n (pc + 3) lv st L S o2 K) : VO g Y G Qf k n pc lv (.int x :: st) L S (if x ≤ 0 then o1 else o2) K :=
  fun z hx H locs ls h1 h2 h3 => lv_if_le C.1 C.2.1 d ht (fun c => kt c z (by rw [if_pos c] at hx; exact hx) H locs ls h1 h2 h3) (fun c => kf c z (by rw [if_neg c] at hx; exact hx) H locs ls h1 h2 h3)
theorem v_tableIn (C : Cx g Y G) {dflt lo hi off : Int} {offs : Array Int} {len tgt : Nat} {x : Int32} (d : decode (mB Y) pc = .ok (.tableswitch dflt lo hi offs, len)) (h1 : ¬ x.toInt < lo) (h2 : ¬ hi < x.toInt) (ho : offs[(x.toInt - lo).toNat]? = some off) (ht : (pc : Int) + off = (tgt : Int)) (kk : VO g Y G Qf k n tgt lv st L S o K) : VO g Y G Qf k n pc lv (.int x :: st) L S o K :=
  fun z hx H locs ls g1 g2 g3 => lv_tableIn C.1 C.2.1 d h1 h2 ho ht (kk z hx H locs ls g1 g2 g3)
theorem v_tableOut (C : Cx g Y G) {dflt lo hi : Int} {offs : Array Int} {len tgt : Nat} {x : Int32} (d : decode (mB Y) pc = .ok (.tableswitch dflt lo hi offs, len)) (h : x.toInt < lo ∨ hi < x.toInt) (ht : (pc : Int) + dflt = (tgt : Int)) (kk : VO g Y G Qf k n tgt lv st L S o K) : VO g Y G Qf k n pc lv (.int x :: st) L S o K :=
  fun z hx H locs ls g1 g2 g3 => lv_tableOut C.1 C.2.1 d h ht (kk z hx H locs ls g1 g2 g3)
theorem v_lookup (C : Cx g Y G) {dflt off : Int} {ps : Array (Int × Int)} {len tgt : Nat} {x : Int32} (d : decode (mB Y) pc = .ok (.lookupswitch dflt ps, len)) (hp : (ps.toList.zip (ps.toList.drop 1)).all (fun (a, next) => a.1 < next.1) = true) (ho : Op.lookupswitch.offset ps.toList dflt x.toInt = off) (ht : (pc : Int) + off = (tgt : Int)) (kk : VO g Y G Qf k n tgt lv st L S o K) : VO g Y G Qf k n pc lv (.int x :: st) L S o K :=
  fun z hx H locs ls g1 g2 g3 => lv_lookup C.1 C.2.1 d hp ho ht (kk z hx H locs ls g1 g2 g3)
theorem v_ldc (C : Cx g Y G) {i : Nat} {v : Int32} (d : decode (mB Y) pc = .ok (.ldc i, 2)) (hc : Cond.constant (mY Y).cls i v ∈ gd_tbl) (kk : VO g Y G Qf k n (pc + 2) lv (.int v :: st) L S o K) : VO g Y G Qf k n pc lv st L S o K :=
  fun x hx H locs ls h1 h2 h3 => lv_ldc C.1 C.2.1 C.own (C.ts _ hc) d (kk x hx H locs ls h1 h2 h3)
theorem v_ldc_w (C : Cx g Y G) {i : Nat} {v : Int32} (d : decode (mB Y) pc = .ok (.ldc_w i, 3)) (hc : Cond.constant (mY Y).cls i v ∈ gd_tbl) (kk : VO g Y G Qf k n (pc + 3) lv (.int v :: st) L S o K) : VO g Y G Qf k n pc lv st L S o K :=
  fun x hx H locs ls h1 h2 h3 => lv_ldcw C.1 C.2.1 C.own (C.ts _ hc) d (kk x hx H locs ls h1 h2 h3)
theorem v_ldc2 (C : Cx g Y G) {i : Nat} {v : Int64} (d : decode (mB Y) pc = .ok (.ldc2_w i, 3)) (hc : Cond.constantLong (mY Y).cls i v ∈ gd_tbl) (kk : VO g Y G Qf k n (pc + 3) lv (.long v :: st) L S o K) : VO g Y G Qf k n pc lv st L S o K :=
  fun x hx H locs ls h1 h2 h3 => lv_ldc2 C.1 C.2.1 C.own (C.ts _ hc) d (kk x hx H locs ls h1 h2 h3)
end Rules
