theorem decide_B {nL k a1 m1 : Nat} {U : Sto} {ls : List (Nat × Cod)} {vals : Nat → Int32} (hk : k < 5) (hS : Scr nL k U ls) (h6 : k ≠ 4 → m1 = 6) (h4 : k = 4 → m1 = 4) (hv : ∀ j, j < m1 → U a1 j = vals j) (ha : a1 = 49 ∨ a1 = 98) :
    ∃ U', r_Sc_decide (scA k) a1 m1 U = some (nI ((dec vals ls).getD 0), U') ∧ frB (scA k) U U' := by
  obtain ⟨s1, s2, s3, s4, s5, s6, s7, s8, s9⟩ := hS
  have hA : scA k ≤ 91 ∧ scA k ≠ 49 ∧ scA k + 2 ≠ 49 ∧ scA k ≠ 98 ∧ scA k + 2 ≠ 98 := by unfold scA; split <;> omega
  have hm : m1 ≤ 6 := by
    by_cases k4 : k = 4
    · have := h4 k4; omega
    · have := h6 k4; omega
  generalize hrr : (U (scA k) 0).toNatClampNeg = rr at *
  have hr2 : rr ≠ scA k ∧ rr ≠ scA k + 2 := by omega
  obtain ⟨U', q1, q2⟩ := lines_B (a0 := scA k) (a1 := a1) (N := (lnsC ls).length) (rr := rr) (vals := vals) (by omega) hm hr2 (by omega) ls 0 fu (sw U (scA k) 2 0) (fun l hl => by
      obtain ⟨j, hj⟩ := List.getElem?_of_mem hl
      obtain ⟨g1, g2, g3, g4, g5, g6, g7, g8⟩ := s9 j l hj
      refine ⟨g6, g4, fun q hq h13 => ?_⟩
      by_cases k4 : k = 4
      · rw [h4 k4]; exact g7 k4 q hq h13
      · rw [h6 k4]; exact tyL_13 g6 q hq h13) ⟨sw_same, trivial, by decide⟩ (by rw [rd_ne (by omega)]; exact hrr) (by rw [rd_ne (by omega)]; exact s3) (by omega) (fun j q hj => by rw [rd_ne (by omega), Nat.zero_add]; exact s5 j q hj) (fun j hj => by rw [rd_ne (by omega)]; exact hv j hj) (by have : fu = 5000 := rfl; omega)
  rw [show nI 0 = 0 from rfl] at q1
  refine ⟨U', ?_, fun a j g1 g2 => by rw [q2 a j g1 g2, rd_ne g1]⟩
  simp only [r_Sc_decide, ltS, q1]
  cases dec vals ls with
  | none => rfl
  | some r => rfl
def frsM (k : Nat) : Option Nat → Int32
  | none => -1
  | some r => nI (srt k r)
theorem firstSo_M {nL k m1 : Nat} {T : Sto} {ls : List (Nat × Cod)} {vals : Nat → Int32} (hk : k < 5) (hS : Scr nL k T ls) (h6 : k ≠ 4 → m1 = 6) (h4 : k = 4 → m1 = 4) (hv : ∀ i, i < m1 → T 127 (i + (if k = 4 then 6 else 0)) = vals i) :
    ∃ T', r_M_firstSo (nI k) T = some (frsM k (dec vals ls), T') ∧ ∀ a i, a ≠ 128 → T' a i = T a i := by
  have hm : m1 + (if k = 4 then 6 else 0) ≤ 10 := by
    by_cases k4 : k = 4
    · rw [if_pos k4]; have := h4 k4; omega
    · rw [if_neg k4]; have := h6 k4; omega
  obtain ⟨T', q1, q2⟩ := lines_M hk hS hm h6 h4 ls.length 0 fu T (by omega) (by have : fu = 5000 := rfl; have := hS.2.2.2.2.2.1; omega) (fun _ _ _ _ => rfl) hv
  refine ⟨T', ?_, q2⟩
  rw [List.drop_zero, Nat.add_zero] at q1
  simp only [r_M_firstSo, lt, show (12 : Int32) * nI k = nI (12 * k) from pk_mul 12 k, q1]
  cases dec vals ls with
  | none => rfl
  | some r => rfl
theorem dec_le {vals : Nat → Int32} : ∀ {ls : List (Nat × Cod)} {r : Nat}, dec vals ls = some r → ∃ l ∈ ls, l.1 = r := by
  intro ls
  induction ls with
  | nil => intro r h; cases h
  | cons l ls ih =>
    intro r h
    rw [dec] at h
    split at h
    · obtain ⟨l', h1, h2⟩ := ih h
      exact ⟨l', List.mem_cons_of_mem _ h1, h2⟩
    · cases h
      exact ⟨l, List.mem_cons_self, rfl⟩
theorem Scr.le {nL k : Nat} {T : Sto} {ls : List (Nat × Cod)} {vals : Nat → Int32} {r : Nat} (hS : Scr nL k T ls) (h : dec vals ls = some r) : r ≤ 3 ∧ (k = 4 → 1 ≤ r) := by
  obtain ⟨l, h1, h2⟩ := dec_le h
  obtain ⟨j, hj⟩ := List.getElem?_of_mem h1
  obtain ⟨g1, g2, g3, g4, g5, -⟩ := hS.2.2.2.2.2.2.2.2 j l hj
  rw [← h2]
  exact ⟨g4, g5⟩
/-! the loudest wall -/
theorem bst_in {K L : Nat → Int32} {N : Nat} : ∀ (d i : Nat) (x cur : Int32), i + d ≤ N → (cur = -1 ∨ ∃ j, j < N ∧ cur = nI j ∧ K j ≠ -1) → (bstE K L d i x cur = -1 ∨ ∃ j, j < N ∧ bstE K L d i x cur = nI j ∧ K j ≠ -1) := by
  intro d
  induction d with
  | zero => intro i x cur _ h; exact h
  | succ d ih =>
    intro i x cur hi h
    rw [bstE]
    by_cases k : K i = -1
    · rw [if_pos k]; exact ih _ _ _ (by omega) h
    · rw [if_neg k]
      by_cases l : L i ≤ x
      · rw [if_pos l]; exact ih _ _ _ (by omega) h
      · rw [if_neg l]; exact ih _ _ _ (by omega) (Or.inr ⟨i, by omega, rfl, k⟩)
def bw (Z : Sto) (n : Nat) (c0 x : Int32) : Int32 := bstE (wK Z n c0 x) (wL Z c0 x) 10 0 (-1) (-1)
theorem bw_in {Z : Sto} {n : Nat} {c0 x : Int32} : bw Z n c0 x = -1 ∨ ∃ j, j < 10 ∧ j < n ∧ bw Z n c0 x = nI j ∧ ¬ bw Z n c0 x = -1 := by
  rcases bst_in (K := wK Z n c0 x) (L := wL Z c0 x) (N := 10) 10 0 (-1) (-1) (by omega) (Or.inl rfl) with h | ⟨j, h1, h2, h3⟩
  · exact Or.inl h
  · refine Or.inr ⟨j, h1, ?_, h2, ?_⟩
    · refine Classical.not_not.mp (fun q => h3 (wK_hi (by omega)))
    · intro q
      rw [show bw Z n c0 x = nI j from h2] at q
      have e : (nI j).toInt = j := q_n (by omega)
      rw [q_eq, e, show (-1 : Int32).toInt = -1 by decide] at q
      omega
theorem wL_nn {Z : Sto} {n : Nat} {c0 x : Int32} {j : Nat} (hZ : wInv Z n) (hj : j < n) : 0 ≤ (wL Z c0 x j).toInt := by
  obtain ⟨-, -, hw, -⟩ := hZ
  obtain ⟨-, -, -, d1, d2⟩ := hw j hj
  have hd := dst_B (sdS (Z (3 + 1 * j) 0) (Z (3 + 1 * j) 1) c0 + sdS (Z (3 + 1 * j) 0) (Z (3 + 1 * j) 1) x) (alS (Z (3 + 1 * j) 0) x - alS (Z (3 + 1 * j) 0) c0)
  have hd1 : 0 ≤ (wD Z c0 x j).toInt := hd.2.1
  have hd2 : (wD Z c0 x j).toInt ≤ 256 := hd.2.2
  unfold wL
  generalize wD Z c0 x j = d at hd1 hd2
  generalize Z (3 + 1 * j) 4 = dl at d1 d2
  have l1 := (lou_10 hd1 (by omega)).1
  have e1 : (lou d).toInt = 10000 / (d.toInt + 10) := by
    unfold lou
    rw [q_divN (by decide) (by omega), l1, show (10000 : Int32).toInt = 10000 by decide]
  have e2 : 0 ≤ (lou d).toInt := by rw [e1]; exact Int.ediv_nonneg (by omega) (by omega)
  have e3 : (lou d).toInt ≤ 10000 := by rw [e1]; exact Int.ediv_le_self _ (by omega)
  have e4 : (100 - dl).toInt = 100 - dl.toInt := by rw [q_sub] <;> rw [show (100 : Int32).toInt = 100 by decide] <;> omega
  have m := mbd (a := (100 - dl).toInt) (b := (lou d).toInt) (A := 100) (B := 10000) (by omega) (by omega) (by omega) (by omega)
  have m0 : 0 ≤ (100 - dl).toInt * (lou d).toInt := Int.mul_nonneg (by omega) e2
  have e5 : ((100 - dl) * lou d).toInt = (100 - dl).toInt * (lou d).toInt := q_mul (by omega) (by omega)
  rw [q_divN (by omega) (by decide), e5]
  exact Int.ediv_nonneg m0 (by decide)
theorem loudest_L {Z : Sto} {n : Nat} {c0 x : Int32} {T : Sto} (hZ : wInv Z n) (t5 : T 104 5 = nI n) (hT : ∀ j, j < n → T 117 j = wK Z n c0 x j ∧ T 116 j = wQ Z n c0 x j) : ∀ (d f i : Nat) (y cur : Int32), i + d = n → d < f → ((cur = -1 ∧ y = -1) ∨ ∃ j, j < n ∧ cur = nI j ∧ ¬ cur = -1 ∧ T 116 j = y) →
    r_M_loudestBack_L4 f cur (nI i) T = some (bstE (wK Z n c0 x) (wL Z c0 x) d i y cur, nI n) := by
  have hn := hZ.1
  intro d
  induction d with
  | zero =>
    intro f i y cur hi hf _
    obtain ⟨f, rfl⟩ : ∃ g, f = g + 1 := ⟨f - 1, by omega⟩
    have e : i = n := by omega
    subst e
    have c : nI i ≤ nI i := by rw [q_le]; omega
    simp only [r_M_loudestBack_L4, t5, if_pos c, bstE]
  | succ d ih =>
    intro f i y cur hi hf hc
    obtain ⟨f, rfl⟩ : ∃ g, f = g + 1 := ⟨f - 1, by omega⟩
    have c : ¬ nI n ≤ nI i := nI_ge (by omega) (by omega)
    have i1 : inr (nI i) 10 = true := inr_nI (by omega) (by decide)
    have ti : (nI i).toNatClampNeg = i := q_tnI (by omega)
    obtain ⟨a1, a2⟩ := hT i (by omega)
    have ni : ¬ nI i = -1 := by
      intro q
      rw [q_eq, q_n (by omega), show (-1 : Int32).toInt = -1 by decide] at q
      omega
    rw [bstE]
    by_cases k : wK Z n c0 x i = -1
    · rw [if_pos k, ← ih f (i + 1) y cur (by omega) (by omega) hc]
      simp only [r_M_loudestBack_L4, t5, if_neg c, chk_t i1, jn, lt, ti, a1, if_pos k, nI_1]
    · have a3 : T 116 i = wL Z c0 x i := by rw [a2]; unfold wQ; rw [if_neg k]
      have nn := wL_nn (c0 := c0) (x := x) hZ (show i < n by omega)
      rw [if_neg k]
      rcases hc with ⟨e1, e2⟩ | ⟨j, e1, e2, e3, e4⟩
      · subst e2
        have cl : ¬ wL Z c0 x i ≤ -1 := by rw [q_le, show (-1 : Int32).toInt = -1 by decide]; omega
        rw [if_neg cl, ← ih f (i + 1) (wL Z c0 x i) (nI i) (by omega) (by omega) (Or.inr ⟨i, by omega, rfl, ni, a3⟩)]
        simp only [r_M_loudestBack_L4, t5, if_neg c, chk_t i1, jn, lt, ti, a1, if_neg k, if_pos e1, nI_1]
      · have i2 : inr (nI j) 10 = true := inr_nI (by omega) (by decide)
        have tj : (nI j).toNatClampNeg = j := q_tnI (by omega)
        subst e2
        by_cases cl : wL Z c0 x i ≤ y
        · rw [if_pos cl, ← ih f (i + 1) y (nI j) (by omega) (by omega) (Or.inr ⟨j, e1, rfl, e3, e4⟩)]
          simp only [r_M_loudestBack_L4, t5, if_neg c, chk_t i1, chk_t i2, jn, lt, ti, tj, a1, a3, e4, if_neg k, if_neg e3, if_pos cl, nI_1]
        · rw [if_neg cl, ← ih f (i + 1) (wL Z c0 x i) (nI i) (by omega) (by omega) (Or.inr ⟨i, by omega, rfl, ni, a3⟩)]
          simp only [r_M_loudestBack_L4, t5, if_neg c, chk_t i1, chk_t i2, jn, lt, ti, tj, a1, a3, e4, if_neg k, if_neg e3, if_neg cl, nI_1]
theorem bstE_add {K L : Nat → Int32} : ∀ (d e i : Nat) (x c : Int32), (∀ j, i + d ≤ j → K j = -1) → bstE K L (d + e) i x c = bstE K L d i x c := by
  intro d
  induction d with
  | zero => intro e i x c h; rw [Nat.zero_add, bstE_none _ _ _ _ (fun j hj => h j (by omega))]; rfl
  | succ d ih =>
    intro e i x c h
    rw [Nat.succ_add, bstE, bstE, ih _ _ _ _ (fun j hj => h j (by omega)), ih _ _ _ _ (fun j hj => h j (by omega))]
theorem loudest_M {Z : Sto} {n : Nat} {c0 x : Int32} {T : Sto} (hZ : wInv Z n) (t5 : T 104 5 = nI n) (hT : ∀ j, j < n → T 117 j = wK Z n c0 x j ∧ T 116 j = wQ Z n c0 x j) : r_M_loudestBack T = some (bw Z n c0 x) := by
  have := loudest_L hZ t5 hT n fu 0 (-1) (-1) (by omega) (by have : fu = 5000 := rfl; have := hZ.1; omega) (Or.inl ⟨rfl, rfl⟩)
  rw [show nI 0 = 0 from rfl] at this
  have e : bw Z n c0 x = bstE (wK Z n c0 x) (wL Z c0 x) n 0 (-1) (-1) := by
    unfold bw
    rw [show 10 = n + (10 - n) by have := hZ.1; omega]
    exact bstE_add _ _ _ _ _ (fun j hj => wK_hi (by omega))
  rw [r_M_loudestBack, this, e]
  rfl
theorem jn_k {α β : Type} {j : α → Option β} {a : α} : jn j (fun k => k a) = j a := Eq.trans (b := j a) rfl rfl
theorem lt_k {β : Type} {e : Int32} {f : Int32 → Option β} : lt e f = f e := Eq.trans (b := f e) rfl rfl
theorem ltS_k {β : Type} {e : Sto} {f : Sto → Option β} : ltS e f = f e := Eq.trans (b := f e) rfl rfl
/-! what the laws ask of a shot, and where one turns -/
def askV (Z : Sto) (n : Nat) (c0 t0 b v x : Int32) : Nat → Int32
  | 0 => lou (far c0 x)
  | 1 => (ckZ Z c0 t0 b v x).2.2
  | 2 => if bw Z n c0 x = -1 then 0 else wQ Z n c0 x (bw Z n c0 x).toNatClampNeg
  | 3 => if b = -1 then 0 else (t0 + trv (Z 1 0) (Z 1 1) (Z 1 2) c0 x) - (ckZ Z c0 t0 b v x).1
  | 4 => cntE (wK Z n c0 x) 10 0 0
  | 5 => far c0 x
  | _ => 0
theorem ask_2 {Z : Sto} {n : Nat} {c0 t0 b v x : Int32} : askV Z n c0 t0 b v x 2 = if bw Z n c0 x = -1 then 0 else wQ Z n c0 x (bw Z n c0 x).toNatClampNeg := rfl
theorem ask_3 {Z : Sto} {n : Nat} {c0 t0 b v x : Int32} : askV Z n c0 t0 b v x 3 = if b = -1 then 0 else (t0 + trv (Z 1 0) (Z 1 1) (Z 1 2) c0 x) - (ckZ Z c0 t0 b v x).1 := rfl
def turnV (Z : Sto) (n : Nat) (c0 t0 b v x : Int32) (o : Option Nat) : Int32 :=
  if o = some 1 then sct c0 x
  else if o = some 2 then (if b = -1 then -1 else sct (ckZ Z c0 t0 b v x).2.1 x)
  else if o = some 3 then (if bw Z n c0 x = -1 then -1 else sct (wK Z n c0 x (bw Z n c0 x).toNatClampNeg) x)
  else -1
/-- what the class keeps of a hearer who attended -/
def AT (Z : Sto) (n : Nat) (c0 t0 b v x : Int32) (S : Sto) : Prop :=
  (∀ j, j < 6 → S 49 j = askV Z n c0 t0 b v x j) ∧ S 33 7 = sct c0 x ∧ S 33 8 = (if b = -1 then -1 else sct (ckZ Z c0 t0 b v x).2.1 x) ∧ S 33 9 = (if bw Z n c0 x = -1 then -1 else sct (wK Z n c0 x (bw Z n c0 x).toNatClampNeg) x)
theorem ck_l0 {Z : Sto} {c0 t0 v x : Int32} : (ckZ Z c0 t0 (-1) v x).2.2 = 0 := by rw [show ckZ Z c0 t0 (-1) v x = (-1, -1, 0) from ckR_0]
theorem attend_B {Z : Sto} {n a2 h : Nat} {c0 t0 b v x : Int32} {S : Sto} (hh : h < 20) (hZ : wInv Z n) (hc0 : isC c0) (hx : isC x) (ht : btw t0 0 1000000000) (hb : okB c0 b v) (ha : (a2 < 13 ∨ 16 < a2) ∧ a2 ≠ 33 ∧ a2 ≠ 49) (hS : cB Z S) (s0 : S a2 0 = c0) (s1 : S a2 1 = t0) (s2 : S a2 2 = b) (s3 : S a2 3 = v) (sx : S 47 h = x) :
    ∃ S', r_Cw_attend (nI h) a2 S = some S' ∧ (∀ a k, ¬ (13 ≤ a ∧ a ≤ 16) → ¬ a = 49 → ¬ (a = 33 ∧ 7 ≤ k) → S' a k = S a k) ∧ AT Z n c0 t0 b v x S' := by
  obtain ⟨S2, p1, p2, p3⟩ := listen_B hZ hc0 hx ht hb (by omega) hS s0 s1 s2 s3
  obtain ⟨y1, y2, y3, y4, y5, y6, y7, y8⟩ := p3
  have y7' : S2 13 7 = bw Z n c0 x := y7
  have ckn := ck_nn (x := x) hZ hc0 hx ht hb
  have ih : inr (nI h) 20 = true := inr_nI hh (by decide)
  have th : (nI h).toNatClampNeg = h := q_tnI (by omega)
  have fn := far_nn c0 x
  have lB := lou_B (d := far c0 x) fn.1 (by omega)
  have i0 : inr (0 : Int32) 6 = true := by decide
  have i1 : inr (1 : Int32) 6 = true := by decide
  have i2 : inr (2 : Int32) 6 = true := by decide
  have i3 : inr (3 : Int32) 6 = true := by decide
  have i4 : inr (4 : Int32) 6 = true := by decide
  have i5 : inr (5 : Int32) 6 = true := by decide
  have t0' : (0 : Int32).toNatClampNeg = 0 := by decide
  have t1' : (1 : Int32).toNatClampNeg = 1 := by decide
  have t2' : (2 : Int32).toNatClampNeg = 2 := by decide
  have t3' : (3 : Int32).toNatClampNeg = 3 := by decide
  have t4' : (4 : Int32).toNatClampNeg = 4 := by decide
  have t5' : (5 : Int32).toNatClampNeg = 5 := by decide
  have a20 : S2 a2 0 = c0 := by rw [p2 a2 0 (by omega)]; exact s0
  have fin : ∀ q1 q2 q3 s8 s9 : Int32, r_Cw_attend (nI h) a2 S = some (sw (sw (sw (sw (sw (sw (sw (sw (sw S2 49 0 (lou (far c0 x))) 49 1 q1) 49 2 q2) 49 3 q3) 49 4 (cntE (wK Z n c0 x) 10 0 0)) 49 5 (far c0 x)) 33 7 (sct c0 x)) 33 8 s8) 33 9 s9) → q1 = askV Z n c0 t0 b v x 1 → q2 = askV Z n c0 t0 b v x 2 → q3 = askV Z n c0 t0 b v x 3 → s8 = (if b = -1 then -1 else sct (ckZ Z c0 t0 b v x).2.1 x) → s9 = (if bw Z n c0 x = -1 then -1 else sct (wK Z n c0 x (bw Z n c0 x).toNatClampNeg) x) →
      ∃ S', r_Cw_attend (nI h) a2 S = some S' ∧ (∀ a k, ¬ (13 ≤ a ∧ a ≤ 16) → ¬ a = 49 → ¬ (a = 33 ∧ 7 ≤ k) → S' a k = S a k) ∧ AT Z n c0 t0 b v x S' := by
    intro q1 q2 q3 s8 s9 e e1 e2 e3 e4 e5
    refine ⟨_, e, fun a k g1 g2 g3 => ?_, fun j hj => ?_, ?_, ?_, ?_⟩
    · simp (disch := omega) only [rd_ne]
      exact p2 a k g1
    · have : j = 0 ∨ j = 1 ∨ j = 2 ∨ j = 3 ∨ j = 4 ∨ j = 5 := by omega
      rcases this with rfl | rfl | rfl | rfl | rfl | rfl <;> simp (disch := omega) only [rd_ne, sw_same]
      · rfl
      · exact e1
      · exact e2
      · exact e3
      · rfl
      · rfl
    · simp (disch := omega) only [rd_ne, sw_same]
    · simp (disch := omega) only [rd_ne, sw_same]; exact e4
    · simp (disch := omega) only [rd_ne, sw_same]; exact e5
  have n10 : ¬ (1 : Int32) = 0 := by decide
  have sc1 := (sec_same c0 x).1
  have sc2 := (sec_same (ckZ Z c0 t0 b v x).2.1 x).1
  by_cases kb : b = -1
  · have k3 : S2 13 3 = -1 := by rw [y3]; exact ckn.mpr kb
    have ea1 : (0 : Int32) = askV Z n c0 t0 b v x 1 := by subst kb; exact ck_l0.symm
    have ea3 : (0 : Int32) = askV Z n c0 t0 b v x 3 := by rw [ask_3, if_pos kb]
    rcases bw_in (Z := Z) (n := n) (c0 := c0) (x := x) with kw | ⟨j, j1, j2, j3, kw⟩
    · refine fin 0 0 0 (-1) (-1) ?_ ea1 (by rw [ask_2, if_pos kw]) ea3 (by rw [if_pos kb]) (by rw [if_pos kw])
      simp (disch := omega) only [r_Cw_attend, chk_t ih, th, lt, sx, p1, Option.bind_some, jn_k, ltS, k3, ite_true, y1, lB, chk_t i0, chk_t i1, chk_t i2, chk_t i3, chk_t i4, chk_t i5, t0', t1', t2', t3', t4', t5', y7', if_pos kw, rd_ne, y6, a20, sc1]
    · have ij : inr (nI j) 10 = true := inr_nI j1 (by decide)
      have tj : (nI j).toNatClampNeg = j := q_tnI (by omega)
      have sc3 := (sec_same (wK Z n c0 x j) x).1
      have eb : (bw Z n c0 x).toNatClampNeg = j := by rw [j3]; exact tj
      have kj : ¬ nI j = -1 := by rw [← j3]; exact kw
      obtain ⟨u1, u2, u3⟩ := y8 j j1
      refine fin 0 (wQ Z n c0 x j) 0 (-1) (sct (wK Z n c0 x j) x) ?_ ea1 (by rw [ask_2, if_neg kw, eb]) ea3 (by rw [if_pos kb]) (by rw [if_neg kw, eb])
      simp (disch := omega) only [r_Cw_attend, chk_t ih, th, lt, sx, p1, Option.bind_some, jn_k, ltS, k3, ite_true, y1, lB, chk_t i0, chk_t i1, chk_t i2, chk_t i3, chk_t i4, chk_t i5, t0', t1', t2', t3', t4', t5', y7', j3, if_neg kj, chk_t ij, tj, u1, u3, sc3, rd_ne, y6, a20, sc1]
  · have k3 : ¬ S2 13 3 = -1 := by rw [y3]; exact fun q => kb (ckn.mp q)
    have y5' : S2 13 5 = (ckZ Z c0 t0 b v x).2.2 := by rw [y5, if_neg kb]
    have ea3 : (t0 + trv (Z 1 0) (Z 1 1) (Z 1 2) c0 x) - (ckZ Z c0 t0 b v x).1 = askV Z n c0 t0 b v x 3 := by rw [ask_3, if_neg kb]
    rcases bw_in (Z := Z) (n := n) (c0 := c0) (x := x) with kw | ⟨j, j1, j2, j3, kw⟩
    · refine fin (ckZ Z c0 t0 b v x).2.2 0 ((t0 + trv (Z 1 0) (Z 1 1) (Z 1 2) c0 x) - (ckZ Z c0 t0 b v x).1) (sct (ckZ Z c0 t0 b v x).2.1 x) (-1) ?_ rfl (by rw [ask_2, if_pos kw]) ea3 (by rw [if_neg kb]) (by rw [if_pos kw])
      simp (disch := omega) only [r_Cw_attend, chk_t ih, th, lt, sx, p1, Option.bind_some, jn_k, ltS, if_neg k3, if_neg n10, y1, lB, chk_t i0, chk_t i1, chk_t i2, chk_t i3, chk_t i4, chk_t i5, t0', t1', t2', t3', t4', t5', y7', if_pos kw, rd_ne, y6, a20, sc1, y5', y2, y4, sc2]
      rw [y3]
    · have ij : inr (nI j) 10 = true := inr_nI j1 (by decide)
      have tj : (nI j).toNatClampNeg = j := q_tnI (by omega)
      have sc3 := (sec_same (wK Z n c0 x j) x).1
      have eb : (bw Z n c0 x).toNatClampNeg = j := by rw [j3]; exact tj
      have kj : ¬ nI j = -1 := by rw [← j3]; exact kw
      obtain ⟨u1, u2, u3⟩ := y8 j j1
      refine fin (ckZ Z c0 t0 b v x).2.2 (wQ Z n c0 x j) ((t0 + trv (Z 1 0) (Z 1 1) (Z 1 2) c0 x) - (ckZ Z c0 t0 b v x).1) (sct (ckZ Z c0 t0 b v x).2.1 x) (sct (wK Z n c0 x j) x) ?_ rfl (by rw [ask_2, if_neg kw, eb]) ea3 (by rw [if_neg kb]) (by rw [if_neg kw, eb])
      simp (disch := omega) only [r_Cw_attend, chk_t ih, th, lt, sx, p1, Option.bind_some, jn_k, ltS, if_neg k3, if_neg n10, y1, lB, chk_t i0, chk_t i1, chk_t i2, chk_t i3, chk_t i4, chk_t i5, t0', t1', t2', t3', t4', t5', y7', j3, if_neg kj, chk_t ij, tj, u1, u3, sc3, rd_ne, y6, a20, sc1, y5', y2, y4, sc2]
      rw [y3]
theorem sectorBy_B {nL k : Nat} {Z : Sto} {n : Nat} {c0 t0 b v x : Int32} {S : Sto} {ls : List (Nat × Cod)} (hk : k < 4) (hS : Scr nL k S ls) (hA : AT Z n c0 t0 b v x S) :
    ∃ S', r_Cw_sectorBy (nI k) S = some (turnV Z n c0 t0 b v x (dec (askV Z n c0 t0 b v x) ls), S') ∧ frB (scA k) S S' := by
  obtain ⟨a1, a2, a3, a4⟩ := hA
  obtain ⟨S', q1, q2⟩ := decide_B (vals := askV Z n c0 t0 b v x) (a1 := 49) (m1 := 6) (show k < 5 by omega) hS (fun _ => rfl) (fun e => by omega) a1 (Or.inl rfl)
  have e : scA k = 35 + 3 * k := by unfold scA; rw [if_neg (by omega)]
  rw [e] at q1
  have ik : inr (nI k) 4 = true := inr_nI (by omega) (by decide)
  have tk : (nI k).toNatClampNeg = k := q_tnI (by omega)
  have g7 : ∀ j, S' 33 j = S 33 j := fun j => q2 33 j (by omega) (by omega)
  refine ⟨S', ?_, q2⟩
  simp only [r_Cw_sectorBy, chk_t ik, ltN, tk, q1, Option.bind_some, g7, a2, a3, a4]
  unfold turnV
  cases hd : dec (askV Z n c0 t0 b v x) ls with
  | none => rfl
  | some r =>
    have hr := (hS.le hd).1
    have : r = 0 ∨ r = 1 ∨ r = 2 ∨ r = 3 := by omega
    rcases this with rfl | rfl | rfl | rfl <;> rfl
theorem turnsBy_M {nL k : Nat} {Z : Sto} {n : Nat} {c0 t0 b v x : Int32} {T : Sto} {ls : List (Nat × Cod)} (hk : k < 4) (hS : Scr nL k T ls) (hZ : wInv Z n) (hc0 : isC c0) (hx : isC x) (ht : btw t0 0 1000000000) (hb : okB c0 b v) (hT : cM Z n T) :
    ∃ T', r_M_turnsBy (nI k) x c0 t0 b v T = some (turnV Z n c0 t0 b v x (dec (askV Z n c0 t0 b v x) ls), T') ∧ ∀ a j, ¬ (a = 104 ∧ 17 ≤ j ∧ j ≤ 22) → ¬ (115 ≤ a ∧ a ≤ 117) → ¬ (127 ≤ a ∧ a ≤ 128) → T' a j = T a j := by
  obtain ⟨T1, p1, p2, p3⟩ := hears_M hZ hc0 hx ht hb hT
  obtain ⟨w1, w2, w3, w4, w5, w6, w7⟩ := p3
  have lb := loudest_M hZ (show T1 104 5 = nI n by rw [p2 _ _ (by omega) (by omega)]; exact hT.2.2.2.1) (fun j hj => ⟨(w7 j hj).1, (w7 j hj).2.2⟩)
  have ckn := ck_nn (x := x) hZ hc0 hx ht hb
  have fa := (far_M hc0 hx).1
  have i0 : inr (0 : Int32) 10 = true := by decide
  have i1 : inr (1 : Int32) 10 = true := by decide
  have i2 : inr (2 : Int32) 10 = true := by decide
  have i3 : inr (3 : Int32) 10 = true := by decide
  have i4 : inr (4 : Int32) 10 = true := by decide
  have i5 : inr (5 : Int32) 10 = true := by decide
  have t0' : (0 : Int32).toNatClampNeg = 0 := by decide
  have t1' : (1 : Int32).toNatClampNeg = 1 := by decide
  have t2' : (2 : Int32).toNatClampNeg = 2 := by decide
  have t3' : (3 : Int32).toNatClampNeg = 3 := by decide
  have t4' : (4 : Int32).toNatClampNeg = 4 := by decide
  have t5' : (5 : Int32).toNatClampNeg = 5 := by decide
  generalize hT2 : sw (sw (sw (sw (sw (sw T1 127 0 (askV Z n c0 t0 b v x 0)) 127 1 (askV Z n c0 t0 b v x 1)) 127 2 (askV Z n c0 t0 b v x 2)) 127 3 (askV Z n c0 t0 b v x 3)) 127 4 (askV Z n c0 t0 b v x 4)) 127 5 (askV Z n c0 t0 b v x 5) = T2
  have f2 : ∀ a j, a ≠ 127 → T2 a j = T1 a j := fun a j h => by
    rw [← hT2]
    simp (disch := omega) only [rd_ne]
  have v2 : ∀ j, j < 6 → T2 127 j = askV Z n c0 t0 b v x j := fun j hj => by
    rw [← hT2]
    have : j = 0 ∨ j = 1 ∨ j = 2 ∨ j = 3 ∨ j = 4 ∨ j = 5 := by omega
    rcases this with rfl | rfl | rfl | rfl | rfl | rfl <;> simp (disch := omega) only [rd_ne, sw_same]
  have ag : Ag uLaw T T2 := fun a j hu => by
    have := uc_sc (uc_Law a j hu)
    unfold Sc at this
    rw [f2 a j (by omega), p2 a j (by omega) (by omega)]
  obtain ⟨T3, q1, q2⟩ := firstSo_M (vals := askV Z n c0 t0 b v x) (m1 := 6) (show k < 5 by omega) (hS.keep (by omega) ag (Nat.le_refl _)) (fun _ => rfl) (fun e => by omega) (fun i hi => by rw [if_neg (by omega)]; exact v2 i hi)
  have g3 : ∀ a j, a ≠ 127 → a ≠ 128 → T3 a j = T1 a j := fun a j h1 h2 => by rw [q2 a j h2, f2 a j h1]
  have z19 : T3 104 19 = (ckZ Z c0 t0 b v x).1 := by rw [g3 _ _ (by omega) (by omega)]; exact w3
  have z20 : T3 104 20 = (ckZ Z c0 t0 b v x).2.1 := by rw [g3 _ _ (by omega) (by omega)]; exact w4
  have sc1 := (sec_same c0 x).2
  have sc2 := (sec_same (ckZ Z c0 t0 b v x).2.1 x).2
  refine ⟨T3, ?_, fun a j h1 h2 h3 => by rw [g3 a j (by omega) (by omega), p2 a j h1 h2]⟩
  -- the six numbers
  have A0 : askV Z n c0 t0 b v x 0 = lou (far c0 x) := rfl
  have A1 : askV Z n c0 t0 b v x 1 = (ckZ Z c0 t0 b v x).2.2 := rfl
  have A4 : askV Z n c0 t0 b v x 4 = cntE (wK Z n c0 x) 10 0 0 := rfl
  have A5 : askV Z n c0 t0 b v x 5 = far c0 x := rfl
  have fin : ∀ (bb : Int32) (hbb : bb = bw Z n c0 x), (if frsM k (dec (askV Z n c0 t0 b v x) ls) = 1 then (r_M_sectorOf c0 x).bind (fun r16 => some (r16, T3)) else if frsM k (dec (askV Z n c0 t0 b v x) ls) = 2 then (if T3 104 19 = (-1) then some ((-1), T3) else (r_M_sectorOf (T3 104 20) x).bind (fun r15 => some (r15, T3))) else if frsM k (dec (askV Z n c0 t0 b v x) ls) = 3 then (if bb = (-1) then some ((-1), T3) else chk (inr bb 10) ((r_M_sectorOf (T3 117 bb.toNatClampNeg) x).bind (fun r14 => some (r14, T3)))) else some ((-1), T3)) = some (turnV Z n c0 t0 b v x (dec (askV Z n c0 t0 b v x) ls), T3) := by
    intro bb hbb
    subst hbb
    unfold turnV
    cases hd : dec (askV Z n c0 t0 b v x) ls with
    | none => rfl
    | some r =>
      have hr := (hS.le hd).1
      have : r = 0 ∨ r = 1 ∨ r = 2 ∨ r = 3 := by omega
      have es : frsM k (some r) = nI (if r = 0 then 4 else r) := by
        show nI (srt k r) = _
        unfold srt
        rw [if_neg (show ¬ k = 4 by omega)]
      rw [es]
      rcases this with rfl | rfl | rfl | rfl
      · rfl
      · rw [if_pos (show nI (if (1 : Nat) = 0 then 4 else 1) = 1 by decide), sc1]
        rfl
      · rw [if_neg (show ¬ nI (if (2 : Nat) = 0 then 4 else 2) = 1 by decide), if_pos (show nI (if (2 : Nat) = 0 then 4 else 2) = 2 by decide), z19, z20, sc2]
        by_cases kb : b = -1
        · rw [if_pos (ckn.mpr kb), if_pos kb]
          rfl
        · rw [if_neg (fun q => kb (ckn.mp q)), if_neg kb]
          rfl
      · rw [if_neg (show ¬ nI (if (3 : Nat) = 0 then 4 else 3) = 1 by decide), if_neg (show ¬ nI (if (3 : Nat) = 0 then 4 else 3) = 2 by decide), if_pos (show nI (if (3 : Nat) = 0 then 4 else 3) = 3 by decide)]
        rcases bw_in (Z := Z) (n := n) (c0 := c0) (x := x) with kw | ⟨j, j1, j2, j3, kw⟩
        · rw [if_pos kw, if_pos kw]
          rfl
        · have ij : inr (nI j) 10 = true := inr_nI j1 (by decide)
          have tj : (nI j).toNatClampNeg = j := q_tnI (by omega)
          rw [if_neg kw, if_neg kw, j3, chk_t ij, tj, g3 _ _ (by omega) (by omega), (w7 j j2).1, (sec_same (wK Z n c0 x j) x).2]
          rfl
  have c19 : ∀ {U : Sto}, U 104 19 = (ckZ Z c0 t0 b v x).1 → (U 104 19 = -1 ↔ b = -1) := fun h => by rw [h]; exact ckn
  rcases bw_in (Z := Z) (n := n) (c0 := c0) (x := x) with kw | ⟨j, j1, j2, j3, kw⟩
  · have A2 : askV Z n c0 t0 b v x 2 = 0 := by rw [ask_2, if_pos kw]
    by_cases kb : b = -1
    · have A3 : askV Z n c0 t0 b v x 3 = 0 := by rw [ask_3, if_pos kb]
      have k19 : T1 104 19 = -1 := (c19 w3).mpr kb
      rw [A0, A1, A2, A3, A4, A5] at hT2
      refine Eq.trans ?_ (fin _ kw.symm)
      simp (disch := omega) only [r_M_turnsBy, p1, Option.bind_some, lb, kw, ite_true, chk_t i0, chk_t i1, chk_t i2, chk_t i3, chk_t i4, chk_t i5, t0', t1', t2', t3', t4', t5', ltS_k, jn_k, rd_ne, w2, w5, k19, w6, fa, hT2, q1]
    · have A3 : askV Z n c0 t0 b v x 3 = (t0 + trv (Z 1 0) (Z 1 1) (Z 1 2) c0 x) - (ckZ Z c0 t0 b v x).1 := by rw [ask_3, if_neg kb]
      have k19 : ¬ T1 104 19 = -1 := fun q => kb ((c19 w3).mp q)
      rw [A0, A1, A2, A3, A4, A5] at hT2
      refine Eq.trans ?_ (fin _ kw.symm)
      rw [← w3] at hT2
      simp (disch := omega) only [r_M_turnsBy, p1, Option.bind_some, lb, kw, ite_true, chk_t i0, chk_t i1, chk_t i2, chk_t i3, chk_t i4, chk_t i5, t0', t1', t2', t3', t4', t5', ltS_k, jn_k, rd_ne, w2, w5, if_neg k19, w1, w6, fa, hT2, q1]
  · have ij : inr (nI j) 10 = true := inr_nI j1 (by decide)
    have tj : (nI j).toNatClampNeg = j := q_tnI (by omega)
    have kj : ¬ nI j = -1 := by rw [← j3]; exact kw
    have A2 : askV Z n c0 t0 b v x 2 = wQ Z n c0 x j := by rw [ask_2, if_neg kw, j3, tj]
    have u3 := (w7 j j2).2.2
    by_cases kb : b = -1
    · have A3 : askV Z n c0 t0 b v x 3 = 0 := by rw [ask_3, if_pos kb]
      have k19 : T1 104 19 = -1 := (c19 w3).mpr kb
      rw [A0, A1, A2, A3, A4, A5] at hT2
      refine Eq.trans ?_ (fin _ j3.symm)
      simp (disch := omega) only [r_M_turnsBy, p1, Option.bind_some, lb, j3, if_neg kj, chk_t ij, tj, u3, ite_true, chk_t i0, chk_t i1, chk_t i2, chk_t i3, chk_t i4, chk_t i5, t0', t1', t2', t3', t4', t5', ltS_k, jn_k, rd_ne, w2, w5, k19, w6, fa, hT2, q1]
    · have A3 : askV Z n c0 t0 b v x 3 = (t0 + trv (Z 1 0) (Z 1 1) (Z 1 2) c0 x) - (ckZ Z c0 t0 b v x).1 := by rw [ask_3, if_neg kb]
      have k19 : ¬ T1 104 19 = -1 := fun q => kb ((c19 w3).mp q)
      rw [A0, A1, A2, A3, A4, A5] at hT2
      refine Eq.trans ?_ (fin _ j3.symm)
      rw [← w3] at hT2
      simp (disch := omega) only [r_M_turnsBy, p1, Option.bind_some, lb, j3, if_neg kj, chk_t ij, tj, u3, chk_t i0, chk_t i1, chk_t i2, chk_t i3, chk_t i4, chk_t i5, t0', t1', t2', t3', t4', t5', ltS_k, jn_k, rd_ne, w2, w5, if_neg k19, w1, w6, fa, hT2, q1]
