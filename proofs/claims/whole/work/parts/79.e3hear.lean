theorem cntE_none {K : Nat → Int32} : ∀ (d i : Nat) (c : Int32), (∀ j, i ≤ j → K j = -1) → cntE K d i c = c := by
  intro d
  induction d with
  | zero => intro i c _; rfl
  | succ d ih =>
    intro i c h
    rw [cntE, if_pos (h i (Nat.le_refl _))]
    exact ih _ _ (fun j hj => h j (by omega))
theorem cntE_add {K : Nat → Int32} : ∀ (d e i : Nat) (c : Int32), cntE K (d + e) i c = cntE K e (i + d) (cntE K d i c) := by
  intro d
  induction d with
  | zero => intro e i c; rw [Nat.zero_add]; rfl
  | succ d ih =>
    intro e i c
    rw [Nat.succ_add, cntE, ih, cntE, Nat.add_assoc i 1 d, Nat.add_comm 1 d]
theorem bstE_none {K L : Nat → Int32} : ∀ (d i : Nat) (x c : Int32), (∀ j, i ≤ j → K j = -1) → bstE K L d i x c = c := by
  intro d
  induction d with
  | zero => intro i x c _; rfl
  | succ d ih =>
    intro i x c h
    rw [bstE, if_pos (h i (Nat.le_refl _))]
    exact ih _ _ _ (fun j hj => h j (by omega))
theorem wK_hi {Z : Sto} {n : Nat} {c0 x : Int32} {j : Nat} (h : n ≤ j) : wK Z n c0 x j = -1 := by unfold wK; rw [if_neg (by omega)]
theorem cntE_n {Z : Sto} {n : Nat} {c0 x c : Int32} (h : n ≤ 10) : cntE (wK Z n c0 x) 10 0 c = cntE (wK Z n c0 x) n 0 c := by
  rw [show 10 = n + (10 - n) by omega, cntE_add, cntE_none _ _ _ (fun j hj => wK_hi (by omega))]
/-- when, and how loud, off wall j; -1 where there is none -/
def wT (Z : Sto) (n : Nat) (c0 t0 x : Int32) (j : Nat) : Int32 := if wK Z n c0 x j = -1 then -1 else t0 + Z 1 0 * wD Z c0 x j
def wQ (Z : Sto) (n : Nat) (c0 x : Int32) (j : Nat) : Int32 := if wK Z n c0 x j = -1 then -1 else wL Z c0 x j
/-- walls and air as they must be -/
def wInv (Z : Sto) (n : Nat) : Prop := n ≤ 10 ∧ Z 1 4 = nI n ∧ (∀ j, j < n → btw (Z (3 + 1 * j) 1) 0 59 ∧ btw (Z (3 + 1 * j) 2) 0 59 ∧ btw (Z (3 + 1 * j) 3) 0 59 ∧ btw (Z (3 + 1 * j) 4) 0 100) ∧ btw (Z 1 0) 1 9 ∧ btw (Z 1 1) (-9) 9 ∧ btw (Z 1 2) (-9) 9
def cB (Z S : Sto) : Prop := ∀ a k, (a = 1 ∨ (3 ≤ a ∧ a ≤ 12)) → S a k = Z a k
def cM (Z : Sto) (n : Nat) (T : Sto) : Prop := T 104 1 = Z 1 0 ∧ T 104 2 = Z 1 1 ∧ T 104 3 = Z 1 2 ∧ T 104 5 = nI n ∧ ∀ j, j < n → T 105 j = Z (3 + 1 * j) 0 ∧ T 106 j = Z (3 + 1 * j) 1 ∧ T 107 j = Z (3 + 1 * j) 2 ∧ T 108 j = Z (3 + 1 * j) 3 ∧ T 109 j = Z (3 + 1 * j) 4
theorem cM.go {Z T T' : Sto} {n : Nat} (h : cM Z n T) (hT : ∀ a k, ((a = 104 ∧ 1 ≤ k ∧ k ≤ 5) ∨ (105 ≤ a ∧ a ≤ 109)) → T' a k = T a k) : cM Z n T' := by
  obtain ⟨h1, h2, h3, h4, h5⟩ := h
  refine ⟨(hT _ _ (by omega)).trans h1, (hT _ _ (by omega)).trans h2, (hT _ _ (by omega)).trans h3, (hT _ _ (by omega)).trans h4, fun j hj => ?_⟩
  rw [hT 105 j (by omega), hT 106 j (by omega), hT 107 j (by omega), hT 108 j (by omega), hT 109 j (by omega)]
  exact h5 j hj
theorem back_LM {Z : Sto} {n : Nat} {c0 t0 x : Int32} (hZ : wInv Z n) (hc0 : isC c0) (hx : isC x) :
    ∀ (d f i : Nat) (T : Sto), i + d = n → d < f → cM Z n T →
    ∃ T' e, r_M_hears_L73 t0 (c0 - c0 / 60 * 60) (c0 / 60) (x - x / 60 * 60) (x / 60) f (nI i) T = some (e, T') ∧
      (∀ a k, ¬ (a = 104 ∧ k = 22) → ¬ ((a = 115 ∨ a = 116 ∨ a = 117) ∧ i ≤ k) → T' a k = T a k) ∧
      (∀ j, i ≤ j → j < n → T' 117 j = wK Z n c0 x j ∧ T' 115 j = wT Z n c0 t0 x j ∧ T' 116 j = wQ Z n c0 x j) ∧
      T' 104 22 = cntE (wK Z n c0 x) d i (T 104 22) := by
  obtain ⟨hn, z14, hw, -⟩ := hZ
  intro d
  induction d with
  | zero =>
    intro f i T hi hf hT
    obtain ⟨f, rfl⟩ : ∃ g, f = g + 1 := ⟨f - 1, by omega⟩
    have e : i = n := by omega
    subst e
    have c : T 104 5 ≤ nI i := by rw [hT.2.2.2.1, q_le]; omega
    exact ⟨T, nI i, by rw [r_M_hears_L73, if_pos c], fun _ _ _ _ => rfl, fun j h1 h2 => by omega, rfl⟩
  | succ d ih =>
    intro f i T hi hf hT
    obtain ⟨f, rfl⟩ : ∃ g, f = g + 1 := ⟨f - 1, by omega⟩
    obtain ⟨t1, t2, t3, t4, t5⟩ := id hT
    obtain ⟨u1, u2, u3, u4, u5⟩ := t5 i (by omega)
    obtain ⟨w1, w2, w3, w4⟩ := hw i (by omega)
    have c : ¬ T 104 5 ≤ nI i := by rw [t4, q_le, q_n (by omega), q_n (by omega)]; omega
    have i1 : inr (nI i) 10 = true := inr_nI (by omega) (by decide)
    have tn : (nI i).toNatClampNeg = i := q_tnI (by omega)
    have sb1 := sd_b (up := Z (3 + 1 * i) 0) hc0 w1
    have sb2 := sd_b (up := Z (3 + 1 * i) 0) hx w1
    have bm := back_M (t := t0) (T := T) (show i < 10 by omega) sb1.1 sb2.1 sb1.2 sb2.2 w1 w2 w3 u1 u2 u3 u4 u5 t1
    have eK : bkK (Z (3 + 1 * i) 0) (Z (3 + 1 * i) 1) (Z (3 + 1 * i) 2) (Z (3 + 1 * i) 3) (sdS (Z (3 + 1 * i) 0) (Z (3 + 1 * i) 1) c0) (sdS (Z (3 + 1 * i) 0) (Z (3 + 1 * i) 1) x) (alS (Z (3 + 1 * i) 0) c0) (alS (Z (3 + 1 * i) 0) x) = wK Z n c0 x i := by unfold wK; rw [if_pos (by omega)]
    have eD : dst (sdS (Z (3 + 1 * i) 0) (Z (3 + 1 * i) 1) c0 + sdS (Z (3 + 1 * i) 0) (Z (3 + 1 * i) 1) x) (alS (Z (3 + 1 * i) 0) x - alS (Z (3 + 1 * i) 0) c0) = wD Z c0 x i := rfl
    rw [eK, eD] at bm
    have st : r_M_hears_L73 t0 (c0 - c0 / 60 * 60) (c0 / 60) (x - x / 60 * 60) (x / 60) (f + 1) (nI i) T = r_M_hears_L73 t0 (c0 - c0 / 60 * 60) (c0 / 60) (x - x / 60 * 60) (x / 60) f (nI (i + 1)) (bkT i t0 (wK Z n c0 x i) (wD Z c0 x i) (Z 1 0) (Z (3 + 1 * i) 4) T) := by
      by_cases u : Z (3 + 1 * i) 0 = 0
      · simp only [sdS, alS, if_pos u] at bm
        simp only [r_M_hears_L73, if_neg c, chk_t i1, tn, jn, lt, u1, u2, if_pos u, bm, Option.bind_some, nI_1]
      · simp only [sdS, alS, if_neg u] at bm
        simp only [r_M_hears_L73, if_neg c, chk_t i1, tn, jn, lt, u1, u2, if_neg u, bm, Option.bind_some, nI_1]
    rw [st]
    have fr : ∀ a k, ¬ (a = 104 ∧ k = 22) → ¬ ((a = 115 ∨ a = 116 ∨ a = 117) ∧ k = i) → bkT i t0 (wK Z n c0 x i) (wD Z c0 x i) (Z 1 0) (Z (3 + 1 * i) 4) T a k = T a k := by
      intro a k h1 h2
      unfold bkT
      split
      · rw [rd_ne (by omega), rd_ne (by omega), rd_ne (by omega)]
      · rw [rd_ne (by omega), rd_ne (by omega), rd_ne (by omega), rd_ne (by omega), rd_ne (by omega), rd_ne (by omega), rd_ne (by omega)]
    obtain ⟨T', e, q1, q2, q3, q4⟩ := ih f (i + 1) _ (by omega) (by omega) (hT.go (fun a k h => fr a k (by omega) (by omega)))
    refine ⟨T', e, q1, fun a j g1 g2 => ?_, fun j g1 g2 => ?_, ?_⟩
    · rw [q2 a j g1 (by omega), fr a j g1 (by omega)]
    · by_cases e : j = i
      · subst e
        rw [q2 117 j (by omega) (by omega), q2 115 j (by omega) (by omega), q2 116 j (by omega) (by omega)]
        unfold bkT wT wQ
        by_cases k : wK Z n c0 x j = -1
        · rw [if_pos k, if_pos k, if_pos k, k]
          simp (disch := omega) only [rd_ne, sw_same]
          exact ⟨trivial, trivial, trivial⟩
        · rw [if_neg k, if_neg k, if_neg k]
          simp (disch := omega) only [rd_ne, sw_same]
          exact ⟨trivial, trivial, by unfold wL; rw [Int32.mul_comm]⟩
      · exact q3 j (by omega) g2
    · rw [q4, cntE]
      unfold bkT
      by_cases k : wK Z n c0 x i = -1
      · rw [if_pos k, if_pos k, rd_ne (by omega), rd_ne (by omega), rd_ne (by omega)]
      · rw [if_neg k, if_neg k, sw_same]
/-- the crack: when, whence, how loud -/
def ckR (s wx wy c0 t0 b v x : Int32) : Int32 × Int32 × Int32 :=
  if b = -1 then (-1, -1, 0) else
  match r_M_findsCrack c0 t0 b v x (sw (sw (sw (fun _ _ => 0) 104 1 s) 104 2 wx) 104 3 wy) with
  | some T => (T 104 19, T 104 20, T 104 21)
  | none => (-1, -1, 0)
theorem ckR_0 {s wx wy c0 t0 v x : Int32} : ckR s wx wy c0 t0 (-1) v x = (-1, -1, 0) := by
  unfold ckR
  rw [if_pos rfl]
theorem ck_B {a1 : Nat} {x c0 t0 b v s wx wy : Int32} {S : Sto} (hx : isC x) (hc0 : isC c0) (hb : isC b) (hne : b ≠ c0) (h1 : btw s 1 9) (h2 : btw wx (-9) 9) (h3 : btw wy (-9) 9) (h4 : btw t0 0 1000000000) (h5 : btw v 1 99) (ha : a1 ≠ 13)
    (hS : S a1 0 = c0 ∧ S a1 1 = t0 ∧ S a1 3 = v ∧ S 1 0 = s ∧ S 1 1 = wx ∧ S 1 2 = wy) (hS2 : S a1 2 = b) :
    ∃ S', r_Hd_listenCrack a1 x S = some S' ∧ (∀ a j, ¬ (a = 13 ∧ (j = 3 ∨ j = 4 ∨ j = 5)) → S' a j = S a j) ∧ S' 13 3 = (ckR s wx wy c0 t0 b v x).1 ∧ S' 13 4 = (ckR s wx wy c0 t0 b v x).2.1 ∧ S' 13 5 = (ckR s wx wy c0 t0 b v x).2.2 ∧ 0 ≤ ((ckR s wx wy c0 t0 b v x).1).toInt := by
  obtain ⟨S', T', q1, q2, q3, q4, q5, q6, q7, q8⟩ := crack_one (S := S) (T := sw (sw (sw (fun _ _ => 0) 104 1 s) 104 2 wx) 104 3 wy) hx hc0 hb hne h1 h2 h3 h4 h5 ha hS hS2 (by simp (disch := omega) only [rd_ne, sw_same]; exact ⟨trivial, trivial, trivial⟩)
  have e : ckR s wx wy c0 t0 b v x = (T' 104 19, T' 104 20, T' 104 21) := by
    unfold ckR
    rw [if_neg (isC_m hb), q2]
  rw [e]
  exact ⟨S', q1, q3, q5.symm, q6.symm, q7.symm, by rw [q5]; exact q8⟩
theorem ck_M {x c0 t0 b v s wx wy : Int32} {T : Sto} (hx : isC x) (hc0 : isC c0) (hb : isC b) (hne : b ≠ c0) (h1 : btw s 1 9) (h2 : btw wx (-9) 9) (h3 : btw wy (-9) 9) (h4 : btw t0 0 1000000000) (h5 : btw v 1 99)
    (hT : T 104 1 = s ∧ T 104 2 = wx ∧ T 104 3 = wy) :
    ∃ T', r_M_findsCrack c0 t0 b v x T = some T' ∧ (∀ a j, ¬ (a = 104 ∧ (j = 19 ∨ j = 20 ∨ j = 21)) → T' a j = T a j) ∧ T' 104 19 = (ckR s wx wy c0 t0 b v x).1 ∧ T' 104 20 = (ckR s wx wy c0 t0 b v x).2.1 ∧ T' 104 21 = (ckR s wx wy c0 t0 b v x).2.2 := by
  have hS : ∃ S0 : Sto, (S0 19 0 = c0 ∧ S0 19 1 = t0 ∧ S0 19 3 = v ∧ S0 1 0 = s ∧ S0 1 1 = wx ∧ S0 1 2 = wy) ∧ S0 19 2 = b :=
    ⟨sw (sw (sw (sw (sw (sw (sw (fun _ _ => 0) 19 0 c0) 19 1 t0) 19 3 v) 1 0 s) 1 1 wx) 1 2 wy) 19 2 b, by simp (disch := omega) only [rd_ne, sw_same]; exact ⟨⟨trivial, trivial, trivial, trivial, trivial, trivial⟩, trivial⟩⟩
  obtain ⟨S0, s1, s2⟩ := hS
  obtain ⟨S', T', q1, q2, q3, q4, q5, q6, q7, q8⟩ := crack_one (S := S0) (T := T) hx hc0 hb hne h1 h2 h3 h4 h5 (by omega) s1 s2 hT
  obtain ⟨S2, p1, p2, p3, p4, p5, p6⟩ := ck_B (S := S0) hx hc0 hb hne h1 h2 h3 h4 h5 (by omega) s1 s2
  rw [q1] at p1
  cases p1
  exact ⟨T', q2, q4, by rw [q5, p3], by rw [q6, p4], by rw [q7, p5]⟩
theorem ck_0 {x c0 t0 v : Int32} {T : Sto} : r_M_findsCrack c0 t0 (-1) v x T = some (sw (sw (sw T 104 19 (-1)) 104 20 (-1)) 104 21 0) := by
  simp only [r_M_findsCrack, ltS, ite_true]
/-- a ball as it must be -/
def okB (c0 b v : Int32) : Prop := b = -1 ∨ (isC b ∧ b ≠ c0 ∧ btw v 1 99)
abbrev ckZ (Z : Sto) (c0 t0 b v x : Int32) : Int32 × Int32 × Int32 := ckR (Z 1 0) (Z 1 1) (Z 1 2) c0 t0 b v x
/-- what the class has heard -/
def HB (Z : Sto) (n : Nat) (c0 t0 b v x : Int32) (S : Sto) : Prop :=
  S 13 1 = far c0 x ∧ S 13 2 = t0 + trv (Z 1 0) (Z 1 1) (Z 1 2) c0 x ∧ S 13 3 = (ckZ Z c0 t0 b v x).1 ∧ S 13 4 = (ckZ Z c0 t0 b v x).2.1 ∧ S 13 5 = (if b = -1 then -1 else (ckZ Z c0 t0 b v x).2.2) ∧ S 13 6 = cntE (wK Z n c0 x) 10 0 0 ∧ S 13 7 = bstE (wK Z n c0 x) (wL Z c0 x) 10 0 (-1) (-1) ∧ ∀ j, j < 10 → S 16 j = wK Z n c0 x j ∧ S 14 j = wT Z n c0 t0 x j ∧ S 15 j = wQ Z n c0 x j
/-- and the reference -/
def HM (Z : Sto) (n : Nat) (c0 t0 b v x : Int32) (T : Sto) : Prop :=
  T 104 17 = t0 + trv (Z 1 0) (Z 1 1) (Z 1 2) c0 x ∧ T 104 18 = lou (far c0 x) ∧ T 104 19 = (ckZ Z c0 t0 b v x).1 ∧ T 104 20 = (ckZ Z c0 t0 b v x).2.1 ∧ T 104 21 = (ckZ Z c0 t0 b v x).2.2 ∧ T 104 22 = cntE (wK Z n c0 x) 10 0 0 ∧ ∀ j, j < n → T 117 j = wK Z n c0 x j ∧ T 115 j = wT Z n c0 t0 x j ∧ T 116 j = wQ Z n c0 x j
theorem ck_nn {Z : Sto} {n : Nat} {c0 t0 b v x : Int32} (hZ : wInv Z n) (hc0 : isC c0) (hx : isC x) (ht : btw t0 0 1000000000) (hb : okB c0 b v) : (ckZ Z c0 t0 b v x).1 = -1 ↔ b = -1 := by
  obtain ⟨-, -, -, z1, z2, z3⟩ := hZ
  rcases hb with e | ⟨b1, b2, b3⟩
  · subst e
    rw [show ckZ Z c0 t0 (-1) v x = (-1, -1, 0) from ckR_0]
  · have hS : ∃ S0 : Sto, (S0 19 0 = c0 ∧ S0 19 1 = t0 ∧ S0 19 3 = v ∧ S0 1 0 = Z 1 0 ∧ S0 1 1 = Z 1 1 ∧ S0 1 2 = Z 1 2) ∧ S0 19 2 = b :=
      ⟨sw (sw (sw (sw (sw (sw (sw (fun _ _ => 0) 19 0 c0) 19 1 t0) 19 3 v) 1 0 (Z 1 0)) 1 1 (Z 1 1)) 1 2 (Z 1 2)) 19 2 b, by simp (disch := omega) only [rd_ne, sw_same]; exact ⟨⟨trivial, trivial, trivial, trivial, trivial, trivial⟩, trivial⟩⟩
    obtain ⟨S0, s1, s2⟩ := hS
    obtain ⟨S2, p1, p2, p3, p4, p5, p6⟩ := ck_B (S := S0) hx hc0 b1 b2 z1 z2 z3 ht b3 (by omega) s1 s2
    constructor
    · intro q
      rw [show (ckR (Z 1 0) (Z 1 1) (Z 1 2) c0 t0 b v x).1 = -1 from q] at p6
      exact absurd p6 (by decide)
    · intro q
      exact absurd q (isC_m b1)
theorem listenBack_B {Z : Sto} {n a1 : Nat} {c0 t0 x : Int32} {S : Sto} (hZ : wInv Z n) (hc0 : isC c0) (hx : isC x) (ha : a1 ≠ 13 ∧ a1 ≠ 14 ∧ a1 ≠ 15 ∧ a1 ≠ 16) (hS : cB Z S) (s0 : S a1 0 = c0) (s1 : S a1 1 = t0) :
    ∃ S', r_Hd_listenBack a1 x S = some S' ∧ (∀ a k, ¬ (a = 13 ∧ (k = 6 ∨ k = 7)) → ¬ (a = 14 ∨ a = 15 ∨ a = 16) → S' a k = S a k) ∧ S' 13 6 = cntE (wK Z n c0 x) 10 0 0 ∧ S' 13 7 = bstE (wK Z n c0 x) (wL Z c0 x) 10 0 (-1) (-1) ∧ ∀ j, j < 10 → S' 16 j = wK Z n c0 x j ∧ S' 14 j = wT Z n c0 t0 x j ∧ S' 15 j = wQ Z n c0 x j := by
  obtain ⟨hn, z14, hw, -⟩ := hZ
  obtain ⟨a13, a14, a15, a16⟩ := id ha
  obtain ⟨S', e1, e2, q1, q2, q3, q4, q5⟩ := back_LB (t0 := t0) hn z14 (fun j hj => (hw j hj).1) hc0 hx ha 10 fu 0 (-1) (sw (sw S 13 6 0) 13 7 (-1)) (by omega) (by have : fu = 5000 := rfl; omega) (fun a k h => by rw [rd_ne (by omega), rd_ne (by omega)]; exact hS a k h) (by rw [rd_ne (by omega), rd_ne (by omega)]; exact s0) (by rw [rd_ne (by omega), rd_ne (by omega)]; exact s1)
  rw [show nI 0 = 0 from rfl] at q1
  refine ⟨S', by simp only [r_Hd_listenBack, ltS, q1, Option.bind_some], fun a k g1 g2 => ?_, ?_, ?_, fun j hj => q3 j (by omega) hj⟩
  · rw [q2 a k g1 (by omega), rd_ne (by omega), rd_ne (by omega)]
  · rw [q4, rd_ne (by omega), sw_same]
  · rw [q5, sw_same]
/-- the store after the first writes of a listening -/
def lsS (S : Sto) (d t : Int32) : Sto := sw (sw (sw (sw (sw S 13 1 d) 13 2 t) 13 3 (-1)) 13 4 (-1)) 13 5 (-1)
theorem lsS_n {S : Sto} {d t : Int32} {a k : Nat} (h : ¬ a = 13) : lsS S d t a k = S a k := by
  unfold lsS
  rw [rd_ne (by omega), rd_ne (by omega), rd_ne (by omega), rd_ne (by omega), rd_ne (by omega)]
theorem lsS_v {S : Sto} {d t : Int32} : lsS S d t 13 1 = d ∧ lsS S d t 13 2 = t ∧ lsS S d t 13 3 = -1 ∧ lsS S d t 13 4 = -1 ∧ lsS S d t 13 5 = -1 := by
  unfold lsS
  refine ⟨?_, ?_, ?_, ?_, ?_⟩ <;> simp (disch := omega) only [rd_ne, sw_same]
theorem listen_st {Z : Sto} {a1 : Nat} {c0 t0 b x : Int32} {S S8 S' : Sto} (q1 : r_Hd_listenBack a1 x S8 = some S') (a13 : a1 ≠ 13) (hS : cB Z S) (s0 : S a1 0 = c0) (s1 : S a1 1 = t0) (s2 : S a1 2 = b) (h8 : (b = -1 ∧ S8 = lsS S (far c0 x) (t0 + trv (Z 1 0) (Z 1 1) (Z 1 2) c0 x)) ∨ (¬ b = -1 ∧ r_Hd_listenCrack a1 x (lsS S (far c0 x) (t0 + trv (Z 1 0) (Z 1 1) (Z 1 2) c0 x)) = some S8)) : r_Hd_listen a1 x S = some S' := by
  have f1 := far_B c0 x
  have f2 := trv_B c0 x (sw S 13 1 (far c0 x))
  rw [rd_ne (by omega), rd_ne (by omega), rd_ne (by omega), hS 1 0 (by omega), hS 1 1 (by omega), hS 1 2 (by omega)] at f2
  unfold lsS at h8
  rcases h8 with ⟨c, e⟩ | ⟨c, e⟩
  · rw [e] at q1
    simp (disch := omega) only [r_Hd_listen, s0, f1, Option.bind_some, ltS, jn, rd_ne, f2, s1, s2, if_pos c, q1]
  · simp (disch := omega) only [r_Hd_listen, s0, f1, Option.bind_some, ltS, jn, rd_ne, f2, s1, s2, if_neg c, e, q1]
theorem listen_g {Z : Sto} {n a1 : Nat} {c0 t0 b v x : Int32} {S : Sto} (hZ : wInv Z n) (hc0 : isC c0) (hx : isC x) (ht : btw t0 0 1000000000) (hb : okB c0 b v) (a13 : a1 ≠ 13) (hS : cB Z S) (s0 : S a1 0 = c0) (s1 : S a1 1 = t0) (s2 : S a1 2 = b) (s3 : S a1 3 = v) :
    ∃ S8, ((b = -1 ∧ S8 = lsS S (far c0 x) (t0 + trv (Z 1 0) (Z 1 1) (Z 1 2) c0 x)) ∨ (¬ b = -1 ∧ r_Hd_listenCrack a1 x (lsS S (far c0 x) (t0 + trv (Z 1 0) (Z 1 1) (Z 1 2) c0 x)) = some S8)) ∧ (∀ a k, ¬ (a = 13) → S8 a k = S a k) ∧ S8 13 1 = far c0 x ∧ S8 13 2 = t0 + trv (Z 1 0) (Z 1 1) (Z 1 2) c0 x ∧ S8 13 3 = (ckZ Z c0 t0 b v x).1 ∧ S8 13 4 = (ckZ Z c0 t0 b v x).2.1 ∧ S8 13 5 = (if b = -1 then -1 else (ckZ Z c0 t0 b v x).2.2) := by
  obtain ⟨l1, l2, l3, l4, l5⟩ := lsS_v (S := S) (d := far c0 x) (t := t0 + trv (Z 1 0) (Z 1 1) (Z 1 2) c0 x)
  rcases hb with e | ⟨b1, b2, b3⟩
  · have e2 : ckZ Z c0 t0 b v x = (-1, -1, 0) := by rw [e]; exact ckR_0
    rw [e2, if_pos e]
    exact ⟨_, Or.inl ⟨e, rfl⟩, fun a k h => lsS_n h, l1, l2, l3, l4, l5⟩
  · obtain ⟨-, -, -, z1, z2, z3⟩ := hZ
    obtain ⟨S2, p1, p2, p3, p4, p5, p6⟩ := ck_B (a1 := a1) (S := lsS S (far c0 x) (t0 + trv (Z 1 0) (Z 1 1) (Z 1 2) c0 x)) hx hc0 b1 b2 z1 z2 z3 ht b3 a13 (by rw [lsS_n a13, lsS_n a13, lsS_n a13, lsS_n (by omega), lsS_n (by omega), lsS_n (by omega)]; exact ⟨s0, s1, s3, hS 1 0 (by omega), hS 1 1 (by omega), hS 1 2 (by omega)⟩) (by rw [lsS_n a13]; exact s2)
    have nb := isC_m b1
    rw [if_neg nb]
    refine ⟨S2, Or.inr ⟨nb, p1⟩, fun a k h => ?_, ?_, ?_, p3, p4, p5⟩
    · rw [p2 a k (by omega), lsS_n h]
    · rw [p2 13 1 (by omega)]; exact l1
    · rw [p2 13 2 (by omega)]; exact l2
theorem listen_B {Z : Sto} {n a1 : Nat} {c0 t0 b v x : Int32} {S : Sto} (hZ : wInv Z n) (hc0 : isC c0) (hx : isC x) (ht : btw t0 0 1000000000) (hb : okB c0 b v) (ha : a1 ≠ 13 ∧ a1 ≠ 14 ∧ a1 ≠ 15 ∧ a1 ≠ 16) (hS : cB Z S) (s0 : S a1 0 = c0) (s1 : S a1 1 = t0) (s2 : S a1 2 = b) (s3 : S a1 3 = v) :
    ∃ S', r_Hd_listen a1 x S = some S' ∧ (∀ a k, ¬ (13 ≤ a ∧ a ≤ 16) → S' a k = S a k) ∧ HB Z n c0 t0 b v x S' := by
  obtain ⟨a13, a14, a15, a16⟩ := id ha
  obtain ⟨S8, g0, g1, g2, g3, g4, g5, g6⟩ := listen_g hZ hc0 hx ht hb a13 hS s0 s1 s2 s3
  obtain ⟨S', q1, q2, q3, q4, q5⟩ := listenBack_B (S := S8) (t0 := t0) hZ hc0 hx ha (fun a k h => by rw [g1 a k (by omega)]; exact hS a k h) (by rw [g1 a1 0 a13]; exact s0) (by rw [g1 a1 1 a13]; exact s1)
  refine ⟨S', listen_st q1 a13 hS s0 s1 s2 g0, fun a k h => ?_, ?_, ?_, ?_, ?_, ?_, q3, q4, q5⟩
  · rw [q2 a k (by omega) (by omega), g1 a k (by omega)]
  · rw [q2 13 1 (by omega) (by omega)]; exact g2
  · rw [q2 13 2 (by omega) (by omega)]; exact g3
  · rw [q2 13 3 (by omega) (by omega)]; exact g4
  · rw [q2 13 4 (by omega) (by omega)]; exact g5
  · rw [q2 13 5 (by omega) (by omega)]; exact g6
theorem hears_M {Z : Sto} {n : Nat} {c0 t0 b v x : Int32} {T : Sto} (hZ : wInv Z n) (hc0 : isC c0) (hx : isC x) (ht : btw t0 0 1000000000) (hb : okB c0 b v) (hT : cM Z n T) :
    ∃ T', r_M_hears c0 t0 b v x T = some T' ∧ (∀ a k, ¬ (a = 104 ∧ 17 ≤ k ∧ k ≤ 22) → ¬ (115 ≤ a ∧ a ≤ 117) → T' a k = T a k) ∧ HM Z n c0 t0 b v x T' := by
  obtain ⟨t1, t2, t3, t4, t5⟩ := id hT
  have fd := trv_M hc0 hx T
  rw [t1, t2, t3] at fd
  have fa := (far_M hc0 hx).1
  have fn := far_nn c0 x
  have lM := lou_M (d := far c0 x) fn.1 (by omega)
  have g : ∃ T6, r_M_findsCrack c0 t0 b v x (sw (sw T 104 17 (t0 + trv (Z 1 0) (Z 1 1) (Z 1 2) c0 x)) 104 18 (lou (far c0 x))) = some T6 ∧ (∀ a j, ¬ (a = 104 ∧ (j = 19 ∨ j = 20 ∨ j = 21)) → T6 a j = sw (sw T 104 17 (t0 + trv (Z 1 0) (Z 1 1) (Z 1 2) c0 x)) 104 18 (lou (far c0 x)) a j) ∧ T6 104 19 = (ckZ Z c0 t0 b v x).1 ∧ T6 104 20 = (ckZ Z c0 t0 b v x).2.1 ∧ T6 104 21 = (ckZ Z c0 t0 b v x).2.2 := by
    rcases hb with e | ⟨b1, b2, b3⟩
    · subst e
      rw [show ckZ Z c0 t0 (-1) v x = (-1, -1, 0) from ckR_0]
      refine ⟨_, ck_0, fun a j h => ?_, ?_, ?_, ?_⟩
      · rw [rd_ne (by omega), rd_ne (by omega), rd_ne (by omega)]
      all_goals simp (disch := omega) only [rd_ne, sw_same]
    · obtain ⟨-, -, -, z1, z2, z3⟩ := id hZ
      exact ck_M hx hc0 b1 b2 z1 z2 z3 ht b3 (by simp (disch := omega) only [rd_ne]; exact ⟨t1, t2, t3⟩)
  obtain ⟨T6, g0, g1, g2, g3, g4⟩ := g
  obtain ⟨T', e, q1, q2, q3, q4⟩ := back_LM (t0 := t0) hZ hc0 hx n fu 0 (sw T6 104 22 0) (by omega) (by have : fu = 5000 := rfl; have := hZ.1; omega) (hT.go (fun a k h => by rw [rd_ne (by omega), g1 a k (by omega), rd_ne (by omega), rd_ne (by omega)]))
  rw [show nI 0 = 0 from rfl] at q1
  refine ⟨T', ?_, fun a k h1 h2 => ?_, ?_, ?_, ?_, ?_, ?_, ?_, fun j hj => q3 j (by omega) hj⟩
  · simp only [r_M_hears, fd, Option.bind_some, ltS, lt, fa, lM, g0, q1]
  · rw [q2 a k (by omega) (by omega), rd_ne (by omega), g1 a k (by omega), rd_ne (by omega), rd_ne (by omega)]
  · rw [q2 _ _ (by omega) (by omega), rd_ne (by omega), g1 _ _ (by omega), rd_ne (by omega), sw_same]
  · rw [q2 _ _ (by omega) (by omega), rd_ne (by omega), g1 _ _ (by omega), sw_same]
  · rw [q2 _ _ (by omega) (by omega), rd_ne (by omega)]; exact g2
  · rw [q2 _ _ (by omega) (by omega), rd_ne (by omega)]; exact g3
  · rw [q2 _ _ (by omega) (by omega), rd_ne (by omega)]; exact g4
  · rw [q4, sw_same, cntE_n hZ.1]
