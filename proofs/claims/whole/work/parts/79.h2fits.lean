/-! spots that are told, tapes that have clicks -/
def toldS (S : Sto) (x : Int32) : Bool := !decide (r_B_within x 0 9 = 0) && !decide (S 17 x.toNatClampNeg = -1)
theorem told_i {x : Int32} (h : ¬ r_B_within x 0 9 = 0) : ∃ k, k < 10 ∧ x = nI k := by
  have := win_n h
  rw [z_0, show (9 : Int32).toInt = 9 by decide] at this
  obtain ⟨k, e1, e2⟩ := q_nI this.1
  exact ⟨k, by omega, e1⟩
theorem told_k {k : Nat} (h : k < 10) : ¬ r_B_within (nI k) 0 9 = 0 := by
  rw [win_0, z_0, q_n (by omega), show (9 : Int32).toInt = 9 by decide]
  omega
theorem toldS_k {S : Sto} {k : Nat} (h : k < 10) : toldS S (nI k) = !decide (S 17 k = -1) := by
  unfold toldS
  rw [decide_eq_false (told_k h), q_tnI (by omega)]
  rfl
theorem told_B {S U : Sto} {x : Int32} (hU : Sx S U) : r_B_isTold x U = some (b2i (toldS S x)) := by
  unfold r_B_isTold toldS
  by_cases c : r_B_within x 0 9 = 0
  · rw [if_pos c, decide_eq_true c]; rfl
  · obtain ⟨k, hk, rfl⟩ := told_i c
    have i1 : inr (nI k) 10 = true := inr_nI hk (by decide)
    rw [if_neg c, decide_eq_false c, chk_t i1, hU _ _ (by unfold Sc; omega)]
    by_cases q : S 17 (nI k).toNatClampNeg = -1
    · rw [if_pos q, decide_eq_true q]; rfl
    · rw [if_neg q, decide_eq_false q]; rfl
theorem told_M {S T : Sto} {x : Int32} (hz : gSpo S) (hT : Sx S T) : r_M_isSpot x T = some (b2i (toldS S x)) := by
  unfold r_M_isSpot toldS
  by_cases c : r_B_within x 0 9 = 0
  · rw [if_pos (iM_p c), decide_eq_true c]; rfl
  · obtain ⟨k, hk, rfl⟩ := told_i c
    have i1 : inr (nI k) 10 = true := inr_nI hk (by decide)
    have tk : (nI k).toNatClampNeg = k := q_tnI (by omega)
    rw [if_neg (iM_n c), decide_eq_false c, chk_t i1, hT _ _ (by unfold Sc; omega), tk, (hz k hk).1]
    by_cases q : S 17 k = -1
    · rw [if_pos q, decide_eq_true q]; rfl
    · rw [if_neg q, decide_eq_false q]; rfl
theorem told_c {S : Sto} {x : Int32} (hz : gSpo S) (h : toldS S x = true) : ∃ k, k < 10 ∧ x = nI k ∧ isC (S 17 k) ∧ S 110 k = S 17 k := by
  unfold toldS at h
  rw [Bool.and_eq_true] at h
  obtain ⟨h1, h2⟩ := h
  have c : ¬ r_B_within x 0 9 = 0 := by simpa using h1
  obtain ⟨k, hk, rfl⟩ := told_i c
  rw [q_tnI (by omega)] at h2
  have q : ¬ S 17 k = -1 := by simpa using h2
  exact ⟨k, hk, rfl, (hz k hk).2.resolve_left q, (hz k hk).1⟩
theorem Iv.tp {nL : Nat} {S : Sto} (h : Iv nL S) {t : Nat} (ht : t < 4) : ∃ m, tpOK S t m := by
  obtain ⟨m, m0, m1, m2, m3, m4⟩ := h.2.2.2.2.2.2.2.2.1 t ht
  obtain ⟨a1, a2, a3, a4, a5, a6, a7, a8⟩ := h.1
  exact ⟨m, ht, m0, m1, m2, a4, a8, fun i hi => (m3 i hi).1⟩
def canT (S : Sto) (x2 x3 : Int32) : Bool := toldS S x2 && toldS S x3 && !decide (x2 = x3)
theorem can_BB {S : Sto} {t m : Nat} {x2 x3 : Int32} (h : tpOK S t m) : r_B_canLay (nI t) x2 x3 S = some (b2i (decide (0 < m) && canT S x2 x3)) := by
  obtain ⟨ht, hm, h3, -⟩ := h
  have it : inr (nI t) 4 = true := inr_nI ht (by decide)
  have tt : (nI t).toNatClampNeg = t := q_tnI (by omega)
  have c1 : ¬ r_B_within (nI t) 0 3 = 0 := by
    rw [win_0, z_0, q_n (by omega), show (3 : Int32).toInt = 3 by decide]
    omega
  simp only [r_B_canLay, if_neg c1, chk_t it, ltN, tt, h3, told_B Sx.rf, Option.bind_some]
  unfold canT
  by_cases k : 0 < m
  · rw [if_neg (nI_nle k (by omega)), decide_eq_true k]
    cases toldS S x2 <;> cases toldS S x3 <;> by_cases e : x2 = x3 <;> simp [b2i, e]
  · rw [if_pos (by rw [show m = 0 by omega]; decide), decide_eq_false k]
    rfl
theorem can_MM {S T : Sto} {t m : Nat} {x2 x3 : Int32} (hz : gSpo S) (h : tpOK S t m) (hT : Sx S T) : r_M_isCouple (nI t) x2 x3 T = some (b2i (decide (0 < m) && canT S x2 x3)) := by
  obtain ⟨ht, hm, h3, h4, -⟩ := h
  have it : inr (nI t) 4 = true := inr_nI ht (by decide)
  have tt : (nI t).toNatClampNeg = t := q_tnI (by omega)
  have c1 : ¬ r_M_isTape (nI t) = 0 := by
    show ¬ r_M_isIn (nI t) 0 3 = 0
    rw [iM_0, z_0, q_n (by omega), show (3 : Int32).toInt = 3 by decide]
    omega
  have u4 : T 135 t = nI m := by rw [hT _ _ (by unfold Sc; omega)]; exact h4
  simp only [r_M_isCouple, if_neg c1, chk_t it, tt, u4, told_M hz hT, Option.bind_some]
  unfold canT
  by_cases k : 0 < m
  · rw [if_neg (nI_nle k (by omega)), decide_eq_true k]
    cases toldS S x2 <;> cases toldS S x3 <;> by_cases e : x2 = x3 <;> simp [b2i, e]
  · rw [if_pos (by rw [show m = 0 by omega]; decide), decide_eq_false k]
    rfl
theorem canT_c {S : Sto} {x2 x3 : Int32} (hz : gSpo S) (h : canT S x2 x3 = true) : ∃ s e, s < 10 ∧ e < 10 ∧ x2 = nI s ∧ x3 = nI e ∧ isC (S 17 s) ∧ isC (S 17 e) ∧ S 110 s = S 17 s ∧ S 110 e = S 17 e := by
  unfold canT at h
  rw [Bool.and_eq_true, Bool.and_eq_true] at h
  obtain ⟨⟨h1, h2⟩, -⟩ := h
  obtain ⟨s, s1, s2, s3, s4⟩ := told_c hz h1
  obtain ⟨e, e1, e2, e3, e4⟩ := told_c hz h2
  exact ⟨s, e, s1, e1, s2, e2, s3, e3, s4, e4⟩
theorem st_fits {nL : Nat} {S : Sto} (h : Iv nL S) (x1 x2 x3 x4 : Int32) : ∃ (r : Int32) (S1 : Sto) (S2 : Sto), r_B_fits x1 x2 x3 x4 S = some (r, S1) ∧ r_M_fits x1 x2 x3 x4 S1 = some (r, S2) ∧ Iv nL S2 := by
  obtain ⟨n, hw, hm⟩ := h.wv
  have hz := h.2.2.1
  have s0 : ∀ U, Sx S U → Sx S (sw U 104 0 0) := fun U hU => hU.sw (by unfold Sc; omega)
  by_cases c1 : r_B_within x1 0 3 = 0
  · refine ⟨-1, S, sw S 104 0 0, ?_, ?_, h.t0⟩
    · simp only [r_B_fits, r_B_canLay, if_pos c1, Option.bind_some, ite_true]
    · simp only [r_M_fits, ltS_k, r_M_isCouple, if_pos (show r_M_isTape x1 = 0 from iM_p c1), Option.bind_some, ite_true]
  obtain ⟨t, ht, rfl⟩ := law_0 c1
  obtain ⟨m, hp⟩ := h.tp ht
  have it : inr (nI t) 4 = true := inr_nI ht (by decide)
  have tt : (nI t).toNatClampNeg = t := q_tnI (by omega)
  have cB' := can_BB (x2 := x2) (x3 := x3) hp
  cases hb : (decide (0 < m) && canT S x2 x3) with
  | false =>
    have cM' := can_MM (x2 := x2) (x3 := x3) hz hp (s0 S Sx.rf)
    rw [hb] at cB' cM'
    refine ⟨-1, S, sw S 104 0 0, ?_, ?_, h.t0⟩
    · simp only [r_B_fits, cB', Option.bind_some, if_pos (show b2i false = 0 by decide)]
    · simp only [r_M_fits, ltS_k, cM', Option.bind_some, if_pos (show b2i false = 0 by decide)]
  | true =>
    rw [hb] at cB'
    have hb' := hb
    rw [Bool.and_eq_true, decide_eq_true_eq] at hb'
    obtain ⟨m0, hc⟩ := hb'
    obtain ⟨s, e, s1, e1, rfl, rfl, s3, e3, s4, e4⟩ := canT_c hz hc
    obtain ⟨U', q1, q2, q3, q4, q5, q6⟩ := lay_B hp hw s1 e1 s3 e3 Sx.rf
    have cM' := can_MM (x2 := nI s) (x3 := nI e) hz hp (s0 U' q2)
    rw [hb] at cM'
    have n1 : ¬ b2i true = 0 := by decide
    obtain ⟨T', p1, p2, p3, p4⟩ := cpl_M hp m0 hw hm s1 e1 s3 e3 s4 e4 (s0 U' q2)
    by_cases k0 : x4 = 0
    · have z2 : ¬ r_M_isIn x4 0 1 = 0 := by rw [k0]; decide
      refine ⟨nI (cntP (wlH S t m n (S 17 s) (S 17 e)) n 0 1), U', T', ?_, ?_, p2.iv h⟩
      · simp only [r_B_fits, cB', Option.bind_some, if_neg n1, chk_t it, ltN, tt, q1, if_pos k0, q4]
      · simp only [r_M_fits, ltS_k, cM', Option.bind_some, if_neg n1, if_neg z2, p1, if_pos k0, p3]
    by_cases k1 : x4 = 1
    · have z2 : ¬ r_M_isIn x4 0 1 = 0 := by rw [k1]; decide
      refine ⟨1 + cntE (wK S n (S 17 s) (S 17 e)) 10 0 0, U', T', ?_, ?_, p2.iv h⟩
      · simp only [r_B_fits, cB', Option.bind_some, if_neg n1, chk_t it, ltN, tt, q1, if_neg k0, if_pos k1, q5]
      · simp only [r_M_fits, ltS_k, cM', Option.bind_some, if_neg n1, if_neg z2, p1, if_neg k0, p4]
    have z2 : r_M_isIn x4 0 1 = 0 := by
      rw [iM_0, z_0, show (1 : Int32).toInt = 1 by decide]
      intro q
      have : x4.toInt = 0 ∨ x4.toInt = 1 := by omega
      rcases this with e | e
      · exact k0 (by rw [q_eq, e, z_0])
      · exact k1 (by rw [q_eq, e]; decide)
    refine ⟨-1, U', sw U' 104 0 0, ?_, ?_, (s0 U' q2).iv h⟩
    · simp only [r_B_fits, cB', Option.bind_some, if_neg n1, chk_t it, ltN, tt, q1, if_neg k0, if_neg k1]
    · simp only [r_M_fits, ltS_k, cM', Option.bind_some, if_neg n1, if_pos z2]
/-! the couple of a tape -/
abbrev CS : Type := Int32 × Int32 × Int32 × Int32
def cpF (st : Nat → CS → CS) : Nat → Nat → CS → CS
  | 0, _, q => q
  | d + 1, i, q => cpF st d (i + 1) (st i q)
theorem cpF_add {st : Nat → CS → CS} : ∀ (d e i : Nat) (q : CS), cpF st (d + e) i q = cpF st e (i + d) (cpF st d i q) := by
  intro d
  induction d with
  | zero => intro e i q; rw [Nat.zero_add]; rfl
  | succ d ih => intro e i q; rw [Nat.succ_add, cpF, ih, cpF, Nat.add_assoc i 1 d, Nat.add_comm 1 d]
def cpB (M : Nat → Option (Int32 × Int32)) (k : Nat) (q : CS) : CS :=
  match M k with
  | none => q
  | some p => if q.2.1 < p.1 then (nI k, p.1, p.2, 1) else if p.1 = q.2.1 then (if q.2.2.1 ≤ p.2 then (q.1, q.2.1, q.2.2.1, q.2.2.2 + 1) else (nI k, p.1, p.2, q.2.2.2 + 1)) else q
def cpA (q : CS) (p : Int32 × Int32) : Int32 := if p.1 ≤ q.2.1 then (if p.1 = q.2.1 then q.2.2.2 + 1 else q.2.2.2) else 1
def cpR (M : Nat → Option (Int32 × Int32)) (k : Nat) (q : CS) : CS :=
  match M k with
  | none => q
  | some p => if q.1 = -1 then (nI k, p.1, p.2, cpA q p) else if p.1 < q.2.1 then (q.1, q.2.1, q.2.2.1, cpA q p) else if p.1 = q.2.1 then (if p.2 < q.2.2.1 then (nI k, p.1, p.2, cpA q p) else (q.1, q.2.1, q.2.2.1, cpA q p)) else (nI k, p.1, p.2, cpA q p)
def crel (a b : CS) : Prop := (a = (-1, 0, 0, 0) ∧ b = (-1, -1, 0, 0)) ∨ (a = b ∧ ¬ a.1 = -1)
theorem crel_s {M : Nat → Option (Int32 × Int32)} {k : Nat} {a b : CS} (hk : k < 100) (hM : ∀ p, M k = some p → 1 ≤ p.1.toInt) (h : crel a b) : crel (cpB M k a) (cpR M k b) := by
  unfold cpB cpR
  cases hp : M k with
  | none => exact h
  | some p =>
    have p1 := hM p hp
    have nk : ¬ nI k = -1 := nI_nm (by omega)
    rcases h with ⟨rfl, rfl⟩ | ⟨rfl, g⟩
    · right
      have c1 : (0 : Int32) < p.1 := by rw [q_lt, z_0]; omega
      have c2 : ¬ p.1 ≤ -1 := by rw [q_le, show (-1 : Int32).toInt = -1 by decide]; omega
      simp only [if_pos c1, cpA, if_neg c2, ite_true]
      exact ⟨trivial, nk⟩
    · right
      by_cases c1 : a.2.1 < p.1
      · have c2 : ¬ p.1 ≤ a.2.1 := by rw [q_le]; rw [q_lt] at c1; omega
        have c3 : ¬ p.1 < a.2.1 := by rw [q_lt]; rw [q_lt] at c1; omega
        have c4 : ¬ p.1 = a.2.1 := by rw [q_eq]; rw [q_lt] at c1; omega
        simp only [if_pos c1, cpA, if_neg c2, if_neg g, if_neg c3, if_neg c4]
        exact ⟨trivial, nk⟩
      · have c2 : p.1 ≤ a.2.1 := by rw [q_le]; rw [q_lt] at c1; omega
        by_cases c4 : p.1 = a.2.1
        · have c3 : ¬ p.1 < a.2.1 := by rw [c4, q_lt]; omega
          by_cases c5 : a.2.2.1 ≤ p.2
          · have c6 : ¬ p.2 < a.2.2.1 := by rw [q_lt]; rw [q_le] at c5; omega
            simp only [if_neg c1, if_pos c4, if_pos c5, cpA, if_pos c2, if_neg g, if_neg c3, if_neg c6]
            exact ⟨trivial, g⟩
          · have c6 : p.2 < a.2.2.1 := by rw [q_lt]; rw [q_le] at c5; omega
            simp only [if_neg c1, if_pos c4, if_neg c5, cpA, if_pos c2, if_neg g, if_neg c3, if_pos c6]
            exact ⟨trivial, nk⟩
        · have c3 : p.1 < a.2.1 := by rw [q_lt]; rw [q_le] at c2; rw [q_eq] at c4; omega
          simp only [if_neg c1, if_neg c4, cpA, if_pos c2, if_neg g, if_pos c3]
          exact ⟨trivial, g⟩
theorem crel_F {M : Nat → Option (Int32 × Int32)} (hM : ∀ k p, M k = some p → 1 ≤ p.1.toInt) : ∀ (d i : Nat) (a b : CS), i + d ≤ 100 → crel a b → crel (cpF (cpB M) d i a) (cpF (cpR M) d i b) := by
  intro d
  induction d with
  | zero => intro i a b _ h; exact h
  | succ d ih => intro i a b hi h; exact ih _ _ _ (by omega) (crel_s (by omega) (hM i) h)
theorem cntP_ge {q : Nat → Bool} : ∀ (d i c : Nat), c ≤ cntP q d i c := by
  intro d
  induction d with
  | zero => intro i c; exact Nat.le_refl _
  | succ d ih =>
    intro i c
    rw [cntP]
    have := ih (i + 1) (if q i = true then c + 1 else c)
    by_cases k : q i = true
    · rw [if_pos k] at this ⊢; omega
    · rw [if_neg k] at this ⊢; omega
def cpP (S : Sto) (t m n s e : Nat) : Int32 × Int32 := (nI (cntP (wlH S t m n (S 17 s) (S 17 e)) n 0 1), (1 + cntE (wK S n (S 17 s) (S 17 e)) 10 0 0) - nI (cntP (wlH S t m n (S 17 s) (S 17 e)) n 0 1))
def cpM (S : Sto) (t m n k : Nat) : Option (Int32 × Int32) := if canT S (nI (k / 10)) (nI (k % 10)) = true then some (cpP S t m n (k / 10) (k % 10)) else none
theorem cpM_1 {S : Sto} {t m n : Nat} (hn : n ≤ 10) : ∀ k p, cpM S t m n k = some p → 1 ≤ p.1.toInt := by
  intro k p h
  unfold cpM at h
  split at h
  · cases h
    have := cntP_ge (q := wlH S t m n (S 17 (k / 10)) (S 17 (k % 10))) n 0 1
    have h2 := cntP_le (q := wlH S t m n (S 17 (k / 10)) (S 17 (k % 10))) n 0 1
    show 1 ≤ (nI _).toInt
    rw [q_n (by omega)]
    omega
  · cases h
theorem cpl_R {S : Sto} {t m n : Nat} {y : Int32} (hz : gSpo S) (h : tpOK S t m) (hm0 : 0 < m) (hw : wInv S n) (hcm : cM S n S) : ∀ (d f k : Nat) (q : CS) (T : Sto), k + d = 100 → d < f → Sx S T → ∃ T', r_M_couple_L31 (nI t) y f q.1 q.2.1 q.2.2.1 q.2.2.2 (nI k) T = some ((cpF (cpR (cpM S t m n)) d k q).1, (cpF (cpR (cpM S t m n)) d k q).2.1, (cpF (cpR (cpM S t m n)) d k q).2.2.1, (cpF (cpR (cpM S t m n)) d k q).2.2.2, nI 100, T') ∧ Sx S T' := by
  intro d
  induction d with
  | zero =>
    intro f k q T hk hf hT
    obtain ⟨f, rfl⟩ : ∃ g, f = g + 1 := ⟨f - 1, by omega⟩
    have e : k = 100 := by omega
    subst e
    exact ⟨T, by rw [r_M_couple_L31, if_pos (by decide)]; rfl, hT⟩
  | succ d ih =>
    intro f k q T hk hf hT
    obtain ⟨f, rfl⟩ : ∃ g, f = g + 1 := ⟨f - 1, by omega⟩
    have c1 : ¬ (100 : Int32) ≤ nI k := nI_ge (b := 100) (by omega) (by omega)
    have e1 : nI k / 10 = nI (k / 10) := pk_div (d := 10) (by omega) (by omega) (by omega)
    have e2 : nI k - nI (k / 10) * 10 = nI (k % 10) := by rw [← e1]; exact pk_rem (d := 10) (by omega) (by omega) (by omega)
    have cM' := can_MM (x2 := nI (k / 10)) (x3 := nI (k % 10)) hz h hT
    rw [decide_eq_true hm0, Bool.true_and] at cM'
    rw [cpF]
    cases hb : canT S (nI (k / 10)) (nI (k % 10)) with
    | false =>
      rw [hb] at cM'
      have eM : cpR (cpM S t m n) k q = q := by unfold cpR cpM; rw [hb]; rfl
      rw [eM]
      obtain ⟨T', q1, q2⟩ := ih f (k + 1) q T (by omega) (by omega) hT
      refine ⟨T', ?_, q2⟩
      rw [← q1]
      simp only [r_M_couple_L31, if_neg c1, e1, e2, cM', Option.bind_some, if_pos (show b2i false = 0 by decide), jn, lt_k, nI_1]
    | true =>
      rw [hb] at cM'
      have n1 : ¬ b2i true = 0 := by decide
      obtain ⟨s, e, s1, s2, s3, s4, s5, s6, s7, s8⟩ := canT_c hz hb
      have es : s = k / 10 := ((nI_eq (by omega) (by omega)).mp s3).symm
      have ee : e = k % 10 := ((nI_eq (by omega) (by omega)).mp s4).symm
      subst es ee
      obtain ⟨T1, p1, p2, p3, p4⟩ := cpl_M h hm0 hw hcm s1 s2 s5 s6 s7 s8 hT
      have eM : cpM S t m n k = some (cpP S t m n (k / 10) (k % 10)) := by unfold cpM; rw [hb]; rfl
      have g1 : T1 104 60 = (cpP S t m n (k / 10) (k % 10)).1 := p3
      have g2 : T1 104 61 - (cpP S t m n (k / 10) (k % 10)).1 = (cpP S t m n (k / 10) (k % 10)).2 := by rw [p4]; rfl
      generalize cpP S t m n (k / 10) (k % 10) = p at eM g1 g2
      have fin : ∀ q' : CS, cpR (cpM S t m n) k q = q' → r_M_couple_L31 (nI t) y (f + 1) q.1 q.2.1 q.2.2.1 q.2.2.2 (nI k) T = r_M_couple_L31 (nI t) y f q'.1 q'.2.1 q'.2.2.1 q'.2.2.2 (nI (k + 1)) T1 → ∃ T', r_M_couple_L31 (nI t) y (f + 1) q.1 q.2.1 q.2.2.1 q.2.2.2 (nI k) T = some ((cpF (cpR (cpM S t m n)) d (k + 1) (cpR (cpM S t m n) k q)).1, (cpF (cpR (cpM S t m n)) d (k + 1) (cpR (cpM S t m n) k q)).2.1, (cpF (cpR (cpM S t m n)) d (k + 1) (cpR (cpM S t m n) k q)).2.2.1, (cpF (cpR (cpM S t m n)) d (k + 1) (cpR (cpM S t m n) k q)).2.2.2, nI 100, T') ∧ Sx S T' := by
        intro q' h1 h2
        rw [h1, h2]
        exact ih f (k + 1) q' T1 (by omega) (by omega) p2
      have eR : cpR (cpM S t m n) k q = if q.1 = -1 then (nI k, p.1, p.2, cpA q p) else if p.1 < q.2.1 then (q.1, q.2.1, q.2.2.1, cpA q p) else if p.1 = q.2.1 then (if p.2 < q.2.2.1 then (nI k, p.1, p.2, cpA q p) else (q.1, q.2.1, q.2.2.1, cpA q p)) else (nI k, p.1, p.2, cpA q p) := by unfold cpR; rw [eM]
      have base : ∀ a : Int32, a = cpA q p → r_M_couple_L31 (nI t) y (f + 1) q.1 q.2.1 q.2.2.1 q.2.2.2 (nI k) T = (if q.1 = -1 then r_M_couple_L31 (nI t) y f (nI k) p.1 p.2 a (nI (k + 1)) T1 else if p.1 < q.2.1 then r_M_couple_L31 (nI t) y f q.1 q.2.1 q.2.2.1 a (nI (k + 1)) T1 else if p.1 = q.2.1 then (if p.2 < q.2.2.1 then r_M_couple_L31 (nI t) y f (nI k) p.1 p.2 a (nI (k + 1)) T1 else r_M_couple_L31 (nI t) y f q.1 q.2.1 q.2.2.1 a (nI (k + 1)) T1) else r_M_couple_L31 (nI t) y f (nI k) p.1 p.2 a (nI (k + 1)) T1) := by
        intro a ha
        subst ha
        unfold cpA
        by_cases d1 : p.1 ≤ q.2.1
        · by_cases d2 : p.1 = q.2.1
          · simp only [r_M_couple_L31, if_neg c1, e1, e2, cM', Option.bind_some, if_neg n1, p1, g1, g2, jn, lt_k, nI_1, if_pos d1, if_pos d2]
          · simp only [r_M_couple_L31, if_neg c1, e1, e2, cM', Option.bind_some, if_neg n1, p1, g1, g2, jn, lt_k, nI_1, if_pos d1, if_neg d2]
        · simp only [r_M_couple_L31, if_neg c1, e1, e2, cM', Option.bind_some, if_neg n1, p1, g1, g2, jn, lt_k, nI_1, if_neg d1]
      have base' := base _ rfl
      by_cases k1 : q.1 = -1
      · rw [if_pos k1] at base' eR
        exact fin _ eR base'
      rw [if_neg k1] at base' eR
      by_cases k2 : p.1 < q.2.1
      · rw [if_pos k2] at base' eR
        exact fin _ eR base'
      rw [if_neg k2] at base' eR
      by_cases k3 : p.1 = q.2.1
      · rw [if_pos k3] at base' eR
        by_cases k4 : p.2 < q.2.2.1
        · rw [if_pos k4] at base' eR
          exact fin _ eR base'
        · rw [if_neg k4] at base' eR
          exact fin _ eR base'
      · rw [if_neg k3] at base' eR
        exact fin _ eR base'
