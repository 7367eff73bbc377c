/-! stores that differ only where slots serve a while -/
def Sx (S U : Sto) : Prop := ∀ a k, ¬ Sc a k → U a k = S a k
theorem Sx.rf {S : Sto} : Sx S S := fun _ _ _ => rfl
theorem Sx.tr {S U V : Sto} (h : Sx S U) (g : Sx U V) : Sx S V := fun a k q => (g a k q).trans (h a k q)
theorem Sx.sw {S U : Sto} {a k : Nat} {x : Int32} (h : Sx S U) (q : Sc a k) : Sx S (sw U a k x) := fun b j g => by
  rw [rd_ne (fun e => g (by rw [e.1, e.2]; exact q))]
  exact h b j g
theorem Sx.iv {nL : Nat} {S U : Sto} (h : Sx S U) (hv : Iv nL S) : Iv nL U := hv.scr h
theorem Sx.cB {S U : Sto} (h : Sx S U) : cB S U := fun a k q => h a k (by unfold Sc; omega)
theorem Sx.cM {S U : Sto} {n : Nat} (h : Sx S U) (hm : cM S n S) : cM S n U := hm.go (fun a k q => h a k (by unfold Sc; omega))
theorem Sx.law {S U : Sto} (h : Sx S U) : Ag uLaw S U := fun a k hu => h a k (uc_sc (uc_Law a k hu))
theorem Sx.scr {nL k : Nat} {S U : Sto} {ls : List (Nat × Cod)} (h : Sx S U) (hk : k < 5) (hS : Scr nL k S ls) : Scr nL k U ls := hS.keep hk h.law (Nat.le_refl _)
theorem Sx.frB {S U V : Sto} {k : Nat} (h : Sx S U) (hk : k < 5) (g : frB (scA k) U V) : Sx S V := fun a j q => by
  have e : scA k = 35 ∨ scA k = 38 ∨ scA k = 41 ∨ scA k = 44 ∨ scA k = 91 := by unfold scA; split <;> omega
  rw [g a j (by unfold Sc at q; omega) (by unfold Sc at q; omega)]
  exact h a j q
def tv (Z : Sto) (n : Nat) (ls : List (Nat × Cod)) (c0 t0 b v x : Int32) : Int32 := turnV Z n c0 t0 b v x (dec (askV Z n c0 t0 b v x) ls)
def shOK (S : Sto) (s : Nat) : Prop := isC (S (19 + s) 0) ∧ btw (S (19 + s) 1) 0 99999 ∧ okB (S (19 + s) 0) (S (19 + s) 2) (S (19 + s) 3) ∧ S 111 s = S (19 + s) 0 ∧ S 112 s = S (19 + s) 1 ∧ S 113 s = S (19 + s) 2 ∧ S 114 s = S (19 + s) 3
def heOK (S : Sto) (h : Nat) : Prop := isC (S 47 h) ∧ S 129 h = S 47 h ∧ S 130 h = S 48 h
theorem Iv.sh {nL : Nat} {S : Sto} (h : Iv nL S) : ∃ m, m ≤ 10 ∧ S 0 4 = nI m ∧ S 104 12 = nI m ∧ (∀ s, s < m → shOK S s) ∧ ∀ j, j < 6 → ∃ a, a < 2 ^ m ∧ S 51 j = nI a ∧ S 131 j = nI a := by
  obtain ⟨m, m0, m1, m2, m3, m4⟩ := h.2.2.2.1
  refine ⟨m, m0, m1, m2, fun s hs => ?_, fun j hj => ?_⟩
  · obtain ⟨g1, g2, g3, g4, g5, g6, g7⟩ := m3 s hs
    exact ⟨g5, g6, g7, g1, g2, g3, g4⟩
  · obtain ⟨e, g1, g2⟩ := m4 j hj
    obtain ⟨a, e1, e2⟩ := q_nI g1
    refine ⟨a, ?_, e1, by rw [e]; exact e1⟩
    have : (a : Int) < 2 ^ m := by omega
    exact_mod_cast this
theorem Iv.he {nL : Nat} {S : Sto} (h : Iv nL S) : ∃ m, m ≤ 20 ∧ S 33 4 = nI m ∧ S 104 50 = nI m ∧ ∀ i, i < m → heOK S i := by
  obtain ⟨m, m0, m1, m2, m3⟩ := h.2.2.2.2.2.2.1
  refine ⟨m, m0, m1, m2, fun i hi => ?_⟩
  obtain ⟨g1, g2, g3, g4⟩ := m3 i hi
  exact ⟨g3, g1, g2⟩
/-- a hearer attends a shot that was told -/
theorem att_U {S U : Sto} {n h s : Nat} (hw : wInv S n) (hs : shOK S s) (hs10 : s < 10) (hh : heOK S h) (hh20 : h < 20) (hU : Sx S U) :
    ∃ U', r_Cw_attend (nI h) (19 + 1 * s) U = some U' ∧ Sx S U' ∧ AT S n (S (19 + s) 0) (S (19 + s) 1) (S (19 + s) 2) (S (19 + s) 3) (S 47 h) U' := by
  obtain ⟨g1, g2, g3, -⟩ := hs
  have e : ∀ k, U (19 + s) k = S (19 + s) k := fun k => hU _ _ (by unfold Sc; omega)
  rw [Nat.one_mul]
  obtain ⟨U', p1, p2, p3⟩ := attend_B (a2 := 19 + s) (S := U) hh20 hw g1 hh.1 ⟨g2.1, by have := g2.2; omega⟩ g3 (by omega) hU.cB (e 0) (e 1) (e 2) (e 3) (hU _ _ (by unfold Sc; omega))
  exact ⟨U', p1, fun a k q => by unfold Sc at q; rw [p2 a k (by omega) (by omega) (by omega)]; exact hU a k (by unfold Sc; omega), p3⟩
theorem turn_B {nL : Nat} {S U : Sto} {n k h s : Nat} {ls : List (Nat × Cod)} (hw : wInv S n) (hS : Scr nL k S ls) (hk : k < 4) (hs : shOK S s) (hs10 : s < 10) (hh : heOK S h) (hh20 : h < 20) (hU : Sx S U) :
    ∃ U1 U', r_Cw_attend (nI h) (19 + 1 * s) U = some U1 ∧ r_Cw_sectorBy (nI k) U1 = some (tv S n ls (S (19 + s) 0) (S (19 + s) 1) (S (19 + s) 2) (S (19 + s) 3) (S 47 h), U') ∧ Sx S U' := by
  obtain ⟨U1, p1, p2, p3⟩ := att_U hw hs hs10 hh hh20 hU
  obtain ⟨U', q1, q2⟩ := sectorBy_B hk (p2.scr (by omega) hS) p3
  exact ⟨U1, U', p1, q1, p2.frB (by omega) q2⟩
theorem turn_M {nL : Nat} {S T : Sto} {n k h s : Nat} {ls : List (Nat × Cod)} (hw : wInv S n) (hm : cM S n S) (hS : Scr nL k S ls) (hk : k < 4) (hs : shOK S s) (hs10 : s < 10) (hh : heOK S h) (hh20 : h < 20) (hT : Sx S T) :
    ∃ T', r_M_turnsOf (nI k) (nI h) (nI s) T = some (tv S n ls (S (19 + s) 0) (S (19 + s) 1) (S (19 + s) 2) (S (19 + s) 3) (S 47 h), T') ∧ Sx S T' := by
  obtain ⟨g1, g2, g3, g4, g5, g6, g7⟩ := hs
  obtain ⟨T', q1, q2⟩ := turnsBy_M hk (hT.scr (by omega) hS) hw g1 hh.1 ⟨g2.1, by have := g2.2; omega⟩ g3 (hT.cM hm)
  have i1 : inr (nI h) 20 = true := inr_nI hh20 (by decide)
  have i2 : inr (nI s) 10 = true := inr_nI hs10 (by decide)
  have t1 : (nI h).toNatClampNeg = h := q_tnI (by omega)
  have t2 : (nI s).toNatClampNeg = s := q_tnI (by omega)
  have e1 : T 129 h = S 47 h := by rw [hT _ _ (by unfold Sc; omega)]; exact hh.2.1
  have e2 : T 111 s = S (19 + s) 0 := by rw [hT _ _ (by unfold Sc; omega)]; exact g4
  have e3 : T 112 s = S (19 + s) 1 := by rw [hT _ _ (by unfold Sc; omega)]; exact g5
  have e4 : T 113 s = S (19 + s) 2 := by rw [hT _ _ (by unfold Sc; omega)]; exact g6
  have e5 : T 114 s = S (19 + s) 3 := by rw [hT _ _ (by unfold Sc; omega)]; exact g7
  refine ⟨T', ?_, fun a j q => by unfold Sc at q; rw [q2 a j (by omega) (by omega) (by omega)]; exact hT a j (by unfold Sc; omega)⟩
  simp only [r_M_turnsOf, chk_t i1, chk_t i2, t1, t2, e1, e2, e3, e4, e5, q1, Option.bind_some]
  rfl
theorem law_0 {x : Int32} (h : ¬ r_B_within x 0 3 = 0) : ∃ k, k < 4 ∧ x = nI k := by
  have := win_n h
  rw [z_0, show (3 : Int32).toInt = 3 by decide] at this
  obtain ⟨k, e1, e2⟩ := q_nI this.1
  exact ⟨k, by omega, e1⟩
theorem st_turning {nL : Nat} {S : Sto} (h : Iv nL S) (x1 x2 x3 : Int32) : ∃ (r : Int32) (S1 : Sto) (S2 : Sto), r_B_turning x1 x2 x3 S = some (r, S1) ∧ r_M_turning x1 x2 x3 S1 = some (r, S2) ∧ Iv nL S2 := by
  obtain ⟨n, hw, hm⟩ := h.wv
  obtain ⟨m, m0, m1, m2, m3, -⟩ := h.sh
  obtain ⟨p, p0, p1, p2, p3⟩ := h.he
  by_cases c1 : r_B_within x1 0 3 = 0
  · exact ⟨-1, S, sw S 104 0 0, by simp only [r_B_turning, if_pos c1], by simp only [r_M_turning, ltS, if_pos (show r_M_isLaw x1 = 0 from iM_p c1)], h.t0⟩
  have c1M : ¬ r_M_isLaw x1 = 0 := iM_n c1
  have e50 : ∀ U, Sx S U → sw U 104 0 0 104 50 = nI p := fun U hU => by rw [rd_ne (by omega), hU _ _ (by unfold Sc; omega)]; exact p2
  by_cases c2 : r_B_within x2 0 (S 33 4 - 1) = 0
  · rw [p1] at c2
    exact ⟨-1, S, sw S 104 0 0, by simp only [r_B_turning, if_neg c1, p1, if_pos c2], by simp only [r_M_turning, ltS, if_neg c1M, e50 S Sx.rf, if_pos (iM_p c2)], h.t0⟩
  rw [p1] at c2
  have c2' : 0 ≤ x2.toInt ∧ x2.toInt < p := Classical.not_not.mp (fun q => c2 ((win_m (by omega)).mpr q))
  by_cases c3 : r_B_within x3 0 (S 0 4 - 1) = 0
  · rw [m1] at c3
    have q : r_M_isShot x3 (sw S 104 0 0) = 0 := (isShot_0 m0 (by rw [rd_ne (by omega)]; exact m2)).mpr ((win_m (by omega)).mp c3)
    exact ⟨-1, S, sw S 104 0 0, by simp only [r_B_turning, if_neg c1, p1, if_neg c2, m1, if_pos c3], by simp only [r_M_turning, ltS, if_neg c1M, e50 S Sx.rf, if_neg (iM_n c2), if_pos q], h.t0⟩
  rw [m1] at c3
  have c3' : 0 ≤ x3.toInt ∧ x3.toInt < m := Classical.not_not.mp (fun q => c3 ((win_m (by omega)).mpr q))
  obtain ⟨k, hk, rfl⟩ := law_0 c1
  obtain ⟨i, rfl, hi⟩ := q_nI c2'.1
  obtain ⟨s, rfl, hs⟩ := q_nI c3'.1
  obtain ⟨ls, hS⟩ := h.2.2.2.2.2.2.2.2.2.2.2.2.2 k (by omega)
  have i3 : inr (nI s) 10 = true := inr_nI (by omega) (by decide)
  have t3 : (nI s).toNatClampNeg = s := q_tnI (by omega)
  obtain ⟨U1, U', a1, a2, a3⟩ := turn_B hw hS hk (m3 s (by omega)) (by omega) (p3 i (by omega)) (by omega) Sx.rf
  have a4 : Sx S (sw U' 104 0 0) := a3.sw (by unfold Sc; omega)
  obtain ⟨T', b1, b2⟩ := turn_M hw hm hS hk (m3 s (by omega)) (by omega) (p3 i (by omega)) (by omega) a4
  have q : ¬ r_M_isShot (nI s) (sw U' 104 0 0) = 0 := fun z => (isShot_0 m0 (by rw [a4 _ _ (by unfold Sc; omega)]; exact m2)).mp z c3'
  refine ⟨tv S n ls (S (19 + s) 0) (S (19 + s) 1) (S (19 + s) 2) (S (19 + s) 3) (S 47 i), U', T', ?_, ?_, b2.iv h⟩
  · simp only [r_B_turning, if_neg c1, p1, if_neg c2, m1, if_neg c3, chk_t i3, ltN, t3, a1, a2, Option.bind_some]
  · simp only [r_M_turning, ltS, if_neg c1M, e50 U' a3, if_neg (iM_n c2), if_neg q, b1, Option.bind_some]
/-! stories -/
theorem bit_all : ∀ s, s < 10 → ∀ a, a < 1024 → ((nI a) >>> ((nI s) &&& 31)) &&& 1 = (if a.testBit s = true then 1 else 0) := by decide +kernel
def b2i (b : Bool) : Int32 := if b = true then 1 else 0
def anyS (p : Nat → Bool) : Nat → Nat → Bool
  | 0, _ => false
  | d + 1, i => p i || anyS p d (i + 1)
theorem anyS_none {p : Nat → Bool} : ∀ (d i : Nat), (∀ j, i ≤ j → p j = false) → anyS p d i = false := by
  intro d
  induction d with
  | zero => intro i _; rfl
  | succ d ih => intro i h; rw [anyS, h i (Nat.le_refl _), ih (i + 1) (fun j hj => h j (by omega))]; rfl
theorem anyS_add {p : Nat → Bool} : ∀ (d e i : Nat), (∀ j, i + d ≤ j → p j = false) → anyS p (d + e) i = anyS p d i := by
  intro d
  induction d with
  | zero => intro e i h; rw [Nat.zero_add, anyS_none _ _ (fun j hj => h j (by omega))]; rfl
  | succ d ih => intro e i h; rw [Nat.succ_add, anyS, anyS, ih _ _ (fun j hj => h j (by omega))]
def cntP (q : Nat → Bool) : Nat → Nat → Nat → Nat
  | 0, _, c => c
  | d + 1, i, c => cntP q d (i + 1) (if q i = true then c + 1 else c)
/-- shot s of the story a is one for which hearer h turns as told -/
def fitP (S : Sto) (n : Nat) (ls : List (Nat × Cod)) (a h s : Nat) : Bool := a.testBit s && decide (tv S n ls (S (19 + s) 0) (S (19 + s) 1) (S (19 + s) 2) (S (19 + s) 3) (S 47 h) = S 48 h)
theorem fit_LB {nL : Nat} {S : Sto} {n k m h a : Nat} {y4 : Int32} {ls : List (Nat × Cod)} (hw : wInv S n) (hS : Scr nL k S ls) (hk : k < 4) (hm : m ≤ 10) (hs : ∀ s, s < m → shOK S s) (hh : heOK S h) (hh20 : h < 20) (ha : a < 2 ^ m) :
    ∀ (d f i : Nat) (b : Bool) (U : Sto), i + d = 10 → d < f → Sx S U → ∃ e U', r_Cw_countFitting_L21 (nI k) (nI a) y4 (nI h) f (b2i b) (nI i) U = some (b2i (b || anyS (fitP S n ls a h) d i), e, U') ∧ Sx S U' := by
  have a10 : a < 1024 := by
    have : 2 ^ m ≤ 2 ^ 10 := Nat.pow_le_pow_right (by decide) hm
    omega
  intro d
  induction d with
  | zero =>
    intro f i b U hi hf hU
    obtain ⟨f, rfl⟩ : ∃ g, f = g + 1 := ⟨f - 1, by omega⟩
    have e : i = 10 := by omega
    subst e
    have c : (10 : Int32) ≤ nI 10 := by decide
    exact ⟨nI 10, U, by rw [r_Cw_countFitting_L21, if_pos c, anyS, Bool.or_false], hU⟩
  | succ d ih =>
    intro f i b U hi hf hU
    obtain ⟨f, rfl⟩ : ∃ g, f = g + 1 := ⟨f - 1, by omega⟩
    have c : ¬ (10 : Int32) ≤ nI i := nI_ge (b := 10) (by omega) (by omega)
    cases b with
    | true =>
      have n10 : ¬ b2i true = 0 := by decide
      exact ⟨nI i, U, by rw [r_Cw_countFitting_L21, if_neg c, if_neg n10, Bool.true_or], hU⟩
    | false =>
      have n0 : b2i false = 0 := by decide
      have bt := bit_all i (by omega) a a10
      rw [Bool.false_or, anyS]
      cases hb : a.testBit i with
      | false =>
        have ef : fitP S n ls a h i = false := by unfold fitP; rw [hb]; rfl
        rw [hb] at bt
        rw [ef]
        obtain ⟨e, U', q1, q2⟩ := ih f (i + 1) false U (by omega) (by omega) hU
        refine ⟨e, U', ?_, q2⟩
        rw [Bool.false_or, ← Bool.false_or (anyS _ _ _), ← q1, r_Cw_countFitting_L21, if_neg c, if_pos n0]
        simp only [bt, jn, lt, nI_1]
        rw [if_pos (by decide)]
      | true =>
        rw [hb] at bt
        have him : i < m := by
          refine Classical.not_not.mp (fun q => ?_)
          have : a < 2 ^ i := Nat.lt_of_lt_of_le ha (Nat.pow_le_pow_right (by decide) (by omega))
          rw [Nat.testBit_lt_two_pow this] at hb
          cases hb
        obtain ⟨U1, U2, p1, p2, p3⟩ := turn_B hw hS hk (hs i him) (by omega) hh hh20 hU
        have i1 : inr (nI i) 10 = true := inr_nI (by omega) (by decide)
        have t1 : (nI i).toNatClampNeg = i := q_tnI (by omega)
        have i2 : inr (nI h) 20 = true := inr_nI (by omega) (by decide)
        have t2 : (nI h).toNatClampNeg = h := q_tnI (by omega)
        have e48 : U2 48 h = S 48 h := p3 _ _ (by unfold Sc; omega)
        have n1 : ¬ (if true = true then (1 : Int32) else 0) = 0 := by decide
        obtain ⟨e, U', q1, q2⟩ := ih f (i + 1) (fitP S n ls a h i) U2 (by omega) (by omega) p3
        refine ⟨e, U', ?_, q2⟩
        rw [← q1, r_Cw_countFitting_L21, if_neg c, if_pos n0]
        simp only [bt, if_neg n1, chk_t i1, ltN, t1, p1, p2, Option.bind_some, chk_t i2, t2, e48, jn, lt_k, nI_1]
        by_cases kt : tv S n ls (S (19 + i) 0) (S (19 + i) 1) (S (19 + i) 2) (S (19 + i) 3) (S 47 h) = S 48 h
        · have ef : fitP S n ls a h i = true := by unfold fitP; rw [hb, decide_eq_true kt]; rfl
          rw [if_pos kt, ef]
          rfl
        · have ef : fitP S n ls a h i = false := by unfold fitP; rw [hb, decide_eq_false kt]; rfl
          rw [if_neg kt, ef]
          rfl
theorem fit_LM {nL : Nat} {S : Sto} {n k m h j a : Nat} {y3 : Int32} {ls : List (Nat × Cod)} (hw : wInv S n) (hcm : cM S n S) (hS : Scr nL k S ls) (hk : k < 4) (hm : m ≤ 10) (m2 : S 104 12 = nI m) (hs : ∀ s, s < m → shOK S s) (hh : heOK S h) (hh20 : h < 20) (ha : a < 2 ^ m) (hj : j < 6) (ea : S 131 j = nI a) :
    ∀ (d f i : Nat) (b : Bool) (T : Sto), i + d = m → d < f → Sx S T → ∃ e T', r_M_fitted_L20 (nI k) (nI j) y3 (nI h) f (b2i b) (nI i) T = some (b2i (b || anyS (fitP S n ls a h) d i), e, T') ∧ Sx S T' := by
  have a10 : a < 1024 := by
    have : 2 ^ m ≤ 2 ^ 10 := Nat.pow_le_pow_right (by decide) hm
    omega
  have ij : inr (nI j) 6 = true := inr_nI hj (by decide)
  have tj : (nI j).toNatClampNeg = j := q_tnI (by omega)
  intro d
  induction d with
  | zero =>
    intro f i b T hi hf hT
    obtain ⟨f, rfl⟩ : ∃ g, f = g + 1 := ⟨f - 1, by omega⟩
    have e : i = m := by omega
    have c : T 104 12 ≤ nI i := by rw [hT _ _ (by unfold Sc; omega), m2, e, q_le]; omega
    exact ⟨nI i, T, by rw [r_M_fitted_L20, if_pos c, anyS, Bool.or_false], hT⟩
  | succ d ih =>
    intro f i b T hi hf hT
    obtain ⟨f, rfl⟩ : ∃ g, f = g + 1 := ⟨f - 1, by omega⟩
    have c : ¬ T 104 12 ≤ nI i := by rw [hT _ _ (by unfold Sc; omega), m2]; exact nI_ge (by omega) (by omega)
    have e131 : T 131 j = nI a := by rw [hT _ _ (by unfold Sc; omega)]; exact ea
    cases b with
    | true =>
      have n10 : ¬ b2i true = 0 := by decide
      obtain ⟨e, T', q1, q2⟩ := ih f (i + 1) true T (by omega) (by omega) hT
      refine ⟨e, T', ?_, q2⟩
      rw [Bool.true_or] at q1 ⊢
      rw [← q1, r_M_fitted_L20, if_neg c]
      simp only [if_neg n10, jn, lt_k, nI_1]
      rfl
    | false =>
      have n0 : b2i false = 0 := by decide
      have bt := bit_all i (by omega) a a10
      rw [Bool.false_or, anyS]
      cases hb : a.testBit i with
      | false =>
        have ef : fitP S n ls a h i = false := by unfold fitP; rw [hb]; rfl
        rw [hb] at bt
        rw [ef]
        obtain ⟨e, T', q1, q2⟩ := ih f (i + 1) false T (by omega) (by omega) hT
        refine ⟨e, T', ?_, q2⟩
        rw [Bool.false_or, ← Bool.false_or (anyS _ _ _), ← q1, r_M_fitted_L20, if_neg c]
        simp only [if_pos n0, chk_t ij, tj, e131, bt, jn, lt_k, nI_1]
        rw [if_neg (by decide)]
        rfl
      | true =>
        rw [hb] at bt
        obtain ⟨T2, p2, p3⟩ := turn_M hw hcm hS hk (hs i (by omega)) (by omega) hh hh20 hT
        have i2 : inr (nI h) 20 = true := inr_nI (by omega) (by decide)
        have t2 : (nI h).toNatClampNeg = h := q_tnI (by omega)
        have e48 : T2 130 h = S 48 h := by rw [p3 _ _ (by unfold Sc; omega)]; exact hh.2.2
        have n1 : (if true = true then (1 : Int32) else 0) = 1 := by decide
        obtain ⟨e, T', q1, q2⟩ := ih f (i + 1) (fitP S n ls a h i) T2 (by omega) (by omega) p3
        refine ⟨e, T', ?_, q2⟩
        rw [← q1, r_M_fitted_L20, if_neg c]
        simp only [if_pos n0, chk_t ij, tj, e131, bt, if_pos n1, p2, Option.bind_some, chk_t i2, t2, e48, jn, lt_k, nI_1]
        by_cases kt : tv S n ls (S (19 + i) 0) (S (19 + i) 1) (S (19 + i) 2) (S (19 + i) 3) (S 47 h) = S 48 h
        · have ef : fitP S n ls a h i = true := by unfold fitP; rw [hb, decide_eq_true kt]; rfl
          rw [if_pos kt, ef]
          rfl
        · have ef : fitP S n ls a h i = false := by unfold fitP; rw [hb, decide_eq_false kt]; rfl
          rw [if_neg kt, ef]
          rfl
theorem fitP_hi {S : Sto} {n a h m : Nat} {ls : List (Nat × Cod)} (ha : a < 2 ^ m) : ∀ j, m ≤ j → fitP S n ls a h j = false := fun j hj => by
  unfold fitP
  rw [Nat.testBit_lt_two_pow (Nat.lt_of_lt_of_le ha (Nat.pow_le_pow_right (by decide) hj))]
  rfl
def fitH (S : Sto) (n m : Nat) (ls : List (Nat × Cod)) (a h : Nat) : Bool := anyS (fitP S n ls a h) m 0
theorem cnt_LB {nL : Nat} {S : Sto} {n k m p a : Nat} {ls : List (Nat × Cod)} (hw : wInv S n) (hS : Scr nL k S ls) (hk : k < 4) (hm : m ≤ 10) (hs : ∀ s, s < m → shOK S s) (hp : p ≤ 20) (p1 : S 33 4 = nI p) (hh : ∀ h, h < p → heOK S h) (ha : a < 2 ^ m) :
    ∀ (d f i c : Nat) (U : Sto), i + d = p → d < f → Sx S U → ∃ e U', r_Cw_countFitting_L6 (nI k) (nI a) f (nI c) (nI i) U = some (nI (cntP (fitH S n m ls a) d i c), e, U') ∧ Sx S U' := by
  intro d
  induction d with
  | zero =>
    intro f i c U hi hf hU
    obtain ⟨f, rfl⟩ : ∃ g, f = g + 1 := ⟨f - 1, by omega⟩
    have e : i = p := by omega
    have c1 : U 33 4 ≤ nI i := by rw [hU _ _ (by unfold Sc; omega), p1, e, q_le]; omega
    exact ⟨nI i, U, by rw [r_Cw_countFitting_L6, if_pos c1]; rfl, hU⟩
  | succ d ih =>
    intro f i c U hi hf hU
    obtain ⟨f, rfl⟩ : ∃ g, f = g + 1 := ⟨f - 1, by omega⟩
    have c1 : ¬ U 33 4 ≤ nI i := by rw [hU _ _ (by unfold Sc; omega), p1]; exact nI_ge (by omega) (by omega)
    obtain ⟨e1, U1, q1, q2⟩ := fit_LB (y4 := nI c) hw hS hk hm hs (hh i (by omega)) (by omega) ha 10 fu 0 false U (by omega) (by decide) hU
    rw [Bool.false_or, show 10 = m + (10 - m) by omega, anyS_add m (10 - m) 0 (fun j hj => fitP_hi ha j (by omega)), show b2i false = 0 by decide, show nI 0 = 0 from rfl] at q1
    obtain ⟨e, U', q3, q4⟩ := ih f (i + 1) (if fitH S n m ls a i = true then c + 1 else c) U1 (by omega) (by omega) q2
    refine ⟨e, U', ?_, q4⟩
    rw [cntP, ← q3, r_Cw_countFitting_L6, if_neg c1, q1]
    have eH : anyS (fitP S n ls a i) m 0 = fitH S n m ls a i := rfl
    rw [eH]
    cases fitH S n m ls a i with
    | true =>
      simp only [Option.bind_some, jn, lt_k, nI_1, show ¬ b2i true = 0 by decide, if_false, if_true]
    | false =>
      simp only [Option.bind_some, jn, lt_k, nI_1, show b2i false = 0 by decide, if_true]
      rfl
theorem cnt_LM {nL : Nat} {S : Sto} {n k m p j a : Nat} {ls : List (Nat × Cod)} (hw : wInv S n) (hcm : cM S n S) (hS : Scr nL k S ls) (hk : k < 4) (hm : m ≤ 10) (m2 : S 104 12 = nI m) (hs : ∀ s, s < m → shOK S s) (hp : p ≤ 20) (p2 : S 104 50 = nI p) (hh : ∀ h, h < p → heOK S h) (ha : a < 2 ^ m) (hj : j < 6) (ea : S 131 j = nI a) :
    ∀ (d f i c : Nat) (T : Sto), i + d = p → d < f → Sx S T → ∃ e T', r_M_fitted_L5 (nI k) (nI j) f (nI c) (nI i) T = some (nI (cntP (fitH S n m ls a) d i c), e, T') ∧ Sx S T' := by
  intro d
  induction d with
  | zero =>
    intro f i c U hi hf hU
    obtain ⟨f, rfl⟩ : ∃ g, f = g + 1 := ⟨f - 1, by omega⟩
    have e : i = p := by omega
    have c1 : U 104 50 ≤ nI i := by rw [hU _ _ (by unfold Sc; omega), p2, e, q_le]; omega
    exact ⟨nI i, U, by rw [r_M_fitted_L5, if_pos c1]; rfl, hU⟩
  | succ d ih =>
    intro f i c U hi hf hU
    obtain ⟨f, rfl⟩ : ∃ g, f = g + 1 := ⟨f - 1, by omega⟩
    have c1 : ¬ U 104 50 ≤ nI i := by rw [hU _ _ (by unfold Sc; omega), p2]; exact nI_ge (by omega) (by omega)
    obtain ⟨e1, U1, q1, q2⟩ := fit_LM (y3 := nI c) hw hcm hS hk hm m2 hs (hh i (by omega)) (by omega) ha hj ea m fu 0 false U (by omega) (by have : fu = 5000 := rfl; omega) hU
    rw [Bool.false_or, show b2i false = 0 by decide, show nI 0 = 0 from rfl] at q1
    obtain ⟨e, U', q3, q4⟩ := ih f (i + 1) (if fitH S n m ls a i = true then c + 1 else c) U1 (by omega) (by omega) q2
    refine ⟨e, U', ?_, q4⟩
    rw [cntP, ← q3, r_M_fitted_L5, if_neg c1, q1]
    have eH : anyS (fitP S n ls a i) m 0 = fitH S n m ls a i := rfl
    rw [eH]
    cases fitH S n m ls a i with
    | true =>
      simp only [Option.bind_some, jn, lt_k, nI_1, show ¬ b2i true = 0 by decide, if_false, if_true]
    | false =>
      simp only [Option.bind_some, jn, lt_k, nI_1, show b2i false = 0 by decide, if_true]
      rfl
def fitN (S : Sto) (n m p : Nat) (ls : List (Nat × Cod)) (a : Nat) : Nat := cntP (fitH S n m ls a) p 0 0
theorem fit_B {nL : Nat} {S U : Sto} {n k m p a : Nat} {ls : List (Nat × Cod)} (hw : wInv S n) (hS : Scr nL k S ls) (hk : k < 4) (hm : m ≤ 10) (hs : ∀ s, s < m → shOK S s) (hp : p ≤ 20) (p1 : S 33 4 = nI p) (hh : ∀ h, h < p → heOK S h) (ha : a < 2 ^ m) (hU : Sx S U) :
    ∃ U', r_Cw_countFitting (nI k) (nI a) U = some (nI (fitN S n m p ls a), U') ∧ Sx S U' := by
  obtain ⟨e, U', q1, q2⟩ := cnt_LB hw hS hk hm hs hp p1 hh ha p fu 0 0 U (by omega) (by have : fu = 5000 := rfl; omega) hU
  rw [show nI 0 = 0 from rfl] at q1
  exact ⟨U', by rw [r_Cw_countFitting, q1]; rfl, q2⟩
theorem fit_M {nL : Nat} {S T : Sto} {n k m p j a : Nat} {ls : List (Nat × Cod)} (hw : wInv S n) (hcm : cM S n S) (hS : Scr nL k S ls) (hk : k < 4) (hm : m ≤ 10) (m2 : S 104 12 = nI m) (hs : ∀ s, s < m → shOK S s) (hp : p ≤ 20) (p2 : S 104 50 = nI p) (hh : ∀ h, h < p → heOK S h) (ha : a < 2 ^ m) (hj : j < 6) (ea : S 131 j = nI a) (hT : Sx S T) :
    ∃ T', r_M_fitted (nI k) (nI j) T = some (nI (fitN S n m p ls a), T') ∧ Sx S T' := by
  obtain ⟨e, U', q1, q2⟩ := cnt_LM hw hcm hS hk hm m2 hs hp p2 hh ha hj ea p fu 0 0 T (by omega) (by have : fu = 5000 := rfl; omega) hT
  rw [show nI 0 = 0 from rfl] at q1
  exact ⟨U', by rw [r_M_fitted, q1]; rfl, q2⟩
