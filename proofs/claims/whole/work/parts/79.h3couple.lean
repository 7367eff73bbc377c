theorem jn_c {α β : Type} {j : α → Option β} {e : Option β} : jn j (fun _ => e) = e := Eq.trans (b := e) rfl rfl
/-! the class's search -/
def cpU (t : Nat) (q : CS) (U : Sto) : Prop := U (58 + 8 * t) 9 = q.1 ∧ U (58 + 8 * t) 10 = q.2.1 ∧ U (58 + 8 * t) 11 = q.2.2.2
theorem cpl_I {S : Sto} {t m n s : Nat} (hz : gSpo S) (h : tpOK S t m) (hw : wInv S n) (hs : s < 10) : ∀ (d f i : Nat) (q : CS) (U : Sto), i + d = 10 → d < f → Sx S U → cpU t q U → ∃ U', r_Tp_searchCouple_L28 (58 + 8 * t) (S 0 11) (nI s) f q.2.2.1 (nI i) U = some ((cpF (cpB (cpM S t m n)) d (10 * s + i) q).2.2.1, nI 10, U') ∧ Sx S U' ∧ cpU t (cpF (cpB (cpM S t m n)) d (10 * s + i) q) U' := by
  have ht := h.1
  have is : inr (nI s) 10 = true := inr_nI hs (by decide)
  have ts : (nI s).toNatClampNeg = s := q_tnI (by omega)
  intro d
  induction d with
  | zero =>
    intro f i q U hi hf hU hq
    obtain ⟨f, rfl⟩ : ∃ g, f = g + 1 := ⟨f - 1, by omega⟩
    have e : i = 10 := by omega
    subst e
    exact ⟨U, by rw [r_Tp_searchCouple_L28, if_pos (by decide)]; rfl, hU, hq⟩
  | succ d ih =>
    intro f i q U hi hf hU hq
    obtain ⟨f, rfl⟩ : ∃ g, f = g + 1 := ⟨f - 1, by omega⟩
    have c1 : ¬ (10 : Int32) ≤ nI i := nI_ge (b := 10) (by omega) (by omega)
    have i1 : inr (nI i) 10 = true := inr_nI (by omega) (by decide)
    have t1 : (nI i).toNatClampNeg = i := q_tnI (by omega)
    have u1 : U 17 s = S 17 s := hU _ _ (by unfold Sc; omega)
    have u2 : U 17 i = S 17 i := hU _ _ (by unfold Sc; omega)
    have d1 : (10 * s + i) / 10 = s := by omega
    have d2 : (10 * s + i) % 10 = i := by omega
    rw [cpF]
    have skip : canT S (nI s) (nI i) = false → r_Tp_searchCouple_L28 (58 + 8 * t) (S 0 11) (nI s) (f + 1) q.2.2.1 (nI i) U = r_Tp_searchCouple_L28 (58 + 8 * t) (S 0 11) (nI s) f q.2.2.1 (nI (i + 1)) U → ∃ U', r_Tp_searchCouple_L28 (58 + 8 * t) (S 0 11) (nI s) (f + 1) q.2.2.1 (nI i) U = some ((cpF (cpB (cpM S t m n)) d (10 * s + i + 1) (cpB (cpM S t m n) (10 * s + i) q)).2.2.1, nI 10, U') ∧ Sx S U' ∧ cpU t (cpF (cpB (cpM S t m n)) d (10 * s + i + 1) (cpB (cpM S t m n) (10 * s + i) q)) U' := by
      intro hb g
      have eM : cpB (cpM S t m n) (10 * s + i) q = q := by unfold cpB cpM; rw [d1, d2, hb]; rfl
      rw [eM, g]
      exact ih f (i + 1) q U (by omega) (by omega) hU hq
    have ec : canT S (nI s) (nI i) = (!decide (S 17 s = -1) && !decide (S 17 i = -1) && !decide (s = i)) := by
      unfold canT
      rw [toldS_k hs, toldS_k (by omega)]
      congr 2
      exact decide_eq_decide.mpr (nI_eq (by omega) (by omega))
    by_cases k1 : s = i
    · have z1 : nI s = nI i := by rw [k1]
      refine skip (by rw [ec, decide_eq_true k1]; simp) ?_
      simp only [r_Tp_searchCouple_L28, if_neg c1, if_pos z1, jn, lt_k, nI_1]
    have z1 : ¬ nI s = nI i := fun z => k1 ((nI_eq (by omega) (by omega)).mp z)
    by_cases k2 : S 17 s = -1
    · refine skip (by rw [ec, decide_eq_true k2]; rfl) ?_
      simp only [r_Tp_searchCouple_L28, if_neg c1, if_neg z1, chk_t is, ts, u1, if_pos k2, jn, lt_k, nI_1]
    by_cases k3 : S 17 i = -1
    · refine skip (by rw [ec, decide_eq_true k3]; simp) ?_
      simp only [r_Tp_searchCouple_L28, if_neg c1, if_neg z1, chk_t is, ts, u1, if_neg k2, chk_t i1, t1, u2, if_pos k3, jn, lt_k, nI_1]
    have hb : canT S (nI s) (nI i) = true := by rw [ec, decide_eq_false k1, decide_eq_false k2, decide_eq_false k3]; rfl
    obtain ⟨U1, q1, q2, q3, q4, q5, q6⟩ := lay_B h hw hs (show i < 10 by omega) ((hz s hs).2.resolve_left k2) ((hz i (by omega)).2.resolve_left k3) hU
    have eM : cpM S t m n (10 * s + i) = some (cpP S t m n s i) := by unfold cpM; rw [d1, d2, hb]; rfl
    have g1 : U1 (58 + 8 * t) 7 = (cpP S t m n s i).1 := q4
    have g2 : U1 (58 + 8 * t) 8 - (cpP S t m n s i).1 = (cpP S t m n s i).2 := by rw [q5]; rfl
    generalize cpP S t m n s i = p at eM g1 g2
    obtain ⟨h9, h10, h11⟩ := hq
    have g9 : U1 (58 + 8 * t) 9 = q.1 := by rw [q3 9 (by omega)]; exact h9
    have g10 : U1 (58 + 8 * t) 10 = q.2.1 := by rw [q3 10 (by omega)]; exact h10
    have g11 : U1 (58 + 8 * t) 11 = q.2.2.2 := by rw [q3 11 (by omega)]; exact h11
    have x9 := (sc_0 ht 9).2.1 (by omega)
    have x10 := (sc_0 ht 10).2.1 (by omega)
    have x11 := (sc_0 ht 11).2.1 (by omega)
    have ek : (10 : Int32) * nI s + nI i = nI (10 * s + i) := by rw [show (10 : Int32) * nI s = nI (10 * s) from pk_mul 10 s, nI_add]
    have fin : ∀ (q' : CS) (U2 : Sto), cpB (cpM S t m n) (10 * s + i) q = q' → Sx S U2 → cpU t q' U2 → r_Tp_searchCouple_L28 (58 + 8 * t) (S 0 11) (nI s) (f + 1) q.2.2.1 (nI i) U = r_Tp_searchCouple_L28 (58 + 8 * t) (S 0 11) (nI s) f q'.2.2.1 (nI (i + 1)) U2 → ∃ U', r_Tp_searchCouple_L28 (58 + 8 * t) (S 0 11) (nI s) (f + 1) q.2.2.1 (nI i) U = some ((cpF (cpB (cpM S t m n)) d (10 * s + i + 1) (cpB (cpM S t m n) (10 * s + i) q)).2.2.1, nI 10, U') ∧ Sx S U' ∧ cpU t (cpF (cpB (cpM S t m n)) d (10 * s + i + 1) (cpB (cpM S t m n) (10 * s + i) q)) U' := by
      intro q' U2 h1 h2 h3 h4
      rw [h1, h4]
      exact ih f (i + 1) q' U2 (by omega) (by omega) h2 h3
    have eB : cpB (cpM S t m n) (10 * s + i) q = if q.2.1 < p.1 then (nI (10 * s + i), p.1, p.2, 1) else if p.1 = q.2.1 then (if q.2.2.1 ≤ p.2 then (q.1, q.2.1, q.2.2.1, q.2.2.2 + 1) else (nI (10 * s + i), p.1, p.2, q.2.2.2 + 1)) else q := by unfold cpB; rw [eM]
    by_cases m1 : q.2.1 < p.1
    · have m2 : ¬ p.1 ≤ q.2.1 := by rw [q_le]; rw [q_lt] at m1; omega
      rw [if_pos m1] at eB
      refine fin _ (sw (sw (sw (sw U1 (58 + 8 * t) 11 0) (58 + 8 * t) 9 (nI (10 * s + i))) (58 + 8 * t) 10 p.1) (58 + 8 * t) 11 1) eB ((((q2.sw x11).sw x9).sw x10).sw x11) ?_ ?_
      · unfold cpU
        simp (disch := omega) only [rd_ne, sw_same]
        exact ⟨trivial, trivial, trivial⟩
      · simp (disch := omega) only [r_Tp_searchCouple_L28, if_neg c1, if_neg z1, chk_t is, ts, u1, if_neg k2, chk_t i1, t1, u2, if_neg k3, q1, Option.bind_some, g1, g2, g10, if_neg m2, jn_k, jn_c, lt_k, ltS_k, rd_ne, sw_same, if_pos m1, ek, nI_1, ite_true, show (0 : Int32) + 1 = 1 by decide]
    have m2 : p.1 ≤ q.2.1 := by rw [q_le]; rw [q_lt] at m1; omega
    rw [if_neg m1] at eB
    by_cases m3 : p.1 = q.2.1
    · rw [if_pos m3] at eB
      by_cases m4 : q.2.2.1 ≤ p.2
      · rw [if_pos m4] at eB
        refine fin _ (sw U1 (58 + 8 * t) 11 (q.2.2.2 + 1)) eB (q2.sw x11) ?_ ?_
        · unfold cpU
          simp (disch := omega) only [rd_ne, sw_same]
          exact ⟨g9, g10, trivial⟩
        · simp (disch := omega) only [r_Tp_searchCouple_L28, if_neg c1, if_neg z1, chk_t is, ts, u1, if_neg k2, chk_t i1, t1, u2, if_neg k3, q1, Option.bind_some, g1, g2, g10, if_pos m2, jn_k, jn_c, lt_k, ltS_k, if_neg m1, if_pos m3, if_pos m4, g11, nI_1]
      · rw [if_neg m4] at eB
        refine fin _ (sw (sw (sw U1 (58 + 8 * t) 9 (nI (10 * s + i))) (58 + 8 * t) 10 p.1) (58 + 8 * t) 11 (q.2.2.2 + 1)) eB (((q2.sw x9).sw x10).sw x11) ?_ ?_
        · unfold cpU
          simp (disch := omega) only [rd_ne, sw_same]
          exact ⟨trivial, trivial, trivial⟩
        · simp (disch := omega) only [r_Tp_searchCouple_L28, if_neg c1, if_neg z1, chk_t is, ts, u1, if_neg k2, chk_t i1, t1, u2, if_neg k3, q1, Option.bind_some, g1, g2, g10, if_pos m2, jn_k, jn_c, lt_k, ltS_k, if_neg m1, if_pos m3, if_neg m4, rd_ne, sw_same, g11, ek, nI_1, ite_true]
    · rw [if_neg m3] at eB
      refine fin _ U1 eB q2 ⟨g9, g10, g11⟩ ?_
      simp (disch := omega) only [r_Tp_searchCouple_L28, if_neg c1, if_neg z1, chk_t is, ts, u1, if_neg k2, chk_t i1, t1, u2, if_neg k3, q1, Option.bind_some, g1, g2, g10, if_pos m2, jn_k, jn_c, lt_k, ltS_k, if_neg m1, if_neg m3, nI_1]
theorem cpl_O {S : Sto} {t m n : Nat} (hz : gSpo S) (h : tpOK S t m) (hw : wInv S n) : ∀ (d f s : Nat) (q : CS) (U : Sto), s + d = 10 → d < f → Sx S U → cpU t q U → ∃ U', r_Tp_searchCouple_L19 (58 + 8 * t) (S 0 11) f q.2.2.1 (nI s) U = some ((cpF (cpB (cpM S t m n)) (10 * d) (10 * s) q).2.2.1, nI 10, U') ∧ Sx S U' ∧ cpU t (cpF (cpB (cpM S t m n)) (10 * d) (10 * s) q) U' := by
  intro d
  induction d with
  | zero =>
    intro f i q U hi hf hU hq
    obtain ⟨f, rfl⟩ : ∃ g, f = g + 1 := ⟨f - 1, by omega⟩
    have e : i = 10 := by omega
    subst e
    exact ⟨U, by rw [r_Tp_searchCouple_L19, if_pos (by decide)]; rfl, hU, hq⟩
  | succ d ih =>
    intro f s q U hi hf hU hq
    obtain ⟨f, rfl⟩ : ∃ g, f = g + 1 := ⟨f - 1, by omega⟩
    have c1 : ¬ (10 : Int32) ≤ nI s := nI_ge (b := 10) (by omega) (by omega)
    obtain ⟨U1, q1, q2, q3⟩ := cpl_I hz h hw (show s < 10 by omega) 10 fu 0 q U (by omega) (by decide) hU hq
    rw [Nat.add_zero] at q1 q3
    obtain ⟨U', p1, p2, p3⟩ := ih f (s + 1) _ U1 (by omega) (by omega) q2 q3
    rw [show 10 * (d + 1) = 10 + 10 * d by omega, cpF_add, show 10 * s + 10 = 10 * (s + 1) by omega]
    refine ⟨U', ?_, p2, p3⟩
    rw [← p1, r_Tp_searchCouple_L19, if_neg c1, show (0 : Int32) = nI 0 from rfl, q1]
    simp only [Option.bind_some, lt_k, nI_1]
theorem cpl_none {S T : Sto} {x1 y : Int32} (hI : ∀ x2 x3, r_M_isCouple x1 x2 x3 T = some 0) : ∀ (d f k : Nat), k + d = 100 → d < f → r_M_couple_L31 x1 y f (-1) (-1) 0 0 (nI k) T = some (-1, -1, 0, 0, nI 100, T) := by
  intro d
  induction d with
  | zero =>
    intro f k hk hf
    obtain ⟨f, rfl⟩ : ∃ g, f = g + 1 := ⟨f - 1, by omega⟩
    have e : k = 100 := by omega
    subst e
    rw [r_M_couple_L31, if_pos (by decide)]
  | succ d ih =>
    intro f k hk hf
    obtain ⟨f, rfl⟩ : ∃ g, f = g + 1 := ⟨f - 1, by omega⟩
    have c1 : ¬ (100 : Int32) ≤ nI k := nI_ge (b := 100) (by omega) (by omega)
    rw [← ih f (k + 1) (by omega) (by omega)]
    simp only [r_M_couple_L31, if_neg c1, hI, Option.bind_some, ite_true, jn, lt_k, nI_1]
theorem st_couple {nL : Nat} {S : Sto} (h : Iv nL S) (x1 x2 : Int32) : ∃ (r : Int32) (S1 : Sto) (S2 : Sto), r_B_couple x1 x2 S = some (r, S1) ∧ r_M_couple x1 x2 S1 = some (r, S2) ∧ Iv nL S2 := by
  obtain ⟨n, hw, hm⟩ := h.wv
  have hz := h.2.2.1
  have s0 : ∀ U, Sx S U → Sx S (sw U 104 0 0) := fun U hU => hU.sw (by unfold Sc; omega)
  have fuv : fu = 5000 := rfl
  have z00 : nI 0 = 0 := rfl
  have refN : (∀ x2 x3, r_M_isCouple x1 x2 x3 (sw S 104 0 0) = some 0) → r_M_couple x1 x2 (sw S 0 0 (S 0 0)) = r_M_couple x1 x2 (sw S 0 0 (S 0 0)) ∧ r_M_couple x1 x2 S = some (-1, sw S 104 0 0) := fun hI => by
    refine ⟨rfl, ?_⟩
    by_cases z2 : r_M_isIn x2 0 2 = 0
    · simp only [r_M_couple, ltS_k, if_pos z2]
    · have := cpl_none (S := S) (y := x2) hI 100 fu 0 (by omega) (by omega)
      rw [z00] at this
      simp only [r_M_couple, ltS_k, if_neg z2, this, Option.bind_some, ite_true]
  by_cases c1 : r_B_within x1 0 3 = 0
  · refine ⟨-1, S, sw S 104 0 0, ?_, (refN (fun x2 x3 => ?_)).2, h.t0⟩
    · simp only [r_B_couple, if_pos c1]
    · simp only [r_M_isCouple, if_pos (show r_M_isTape x1 = 0 from iM_p c1)]
  obtain ⟨t, ht, rfl⟩ := law_0 c1
  obtain ⟨m, hp⟩ := h.tp ht
  have it : inr (nI t) 4 = true := inr_nI ht (by decide)
  have tt : (nI t).toNatClampNeg = t := q_tnI (by omega)
  obtain ⟨-, m20, h3, -⟩ := id hp
  by_cases m0 : 0 < m
  · have c3 : ¬ S (58 + 8 * t) 3 = 0 := by rw [h3]; exact nI_ne0 m0 (by omega)
    have x9 := (sc_0 ht 9).2.1 (by omega)
    have x10 := (sc_0 ht 10).2.1 (by omega)
    have x11 := (sc_0 ht 11).2.1 (by omega)
    have hU0 : Sx S (sw (sw (sw S (58 + 8 * t) 9 (-1)) (58 + 8 * t) 10 0) (58 + 8 * t) 11 0) := ((Sx.rf.sw x9).sw x10).sw x11
    obtain ⟨U', q1, q2, q3⟩ := cpl_O (n := n) hz hp hw 10 fu 0 (-1, 0, 0, 0) _ (by omega) (by omega) hU0 (by unfold cpU; simp (disch := omega) only [rd_ne, sw_same]; exact ⟨trivial, trivial, trivial⟩)
    obtain ⟨T', p1, p2⟩ := cpl_R (y := x2) hz hp m0 hw hm 100 fu 0 (-1, -1, 0, 0) (sw U' 104 0 0) (by omega) (by omega) (s0 U' q2)
    have rel := crel_F (cpM_1 (S := S) (t := t) (m := m) (n := n) hw.1) 100 0 (-1, 0, 0, 0) (-1, -1, 0, 0) (by omega) (Or.inl ⟨rfl, rfl⟩)
    simp only [Nat.mul_zero] at q1 q3
    rw [show 10 * 10 = 100 from rfl] at q1 q3
    rw [z00] at q1 p1
    generalize cpF (cpB (cpM S t m n)) 100 0 (-1, 0, 0, 0) = qb at q1 q3 rel
    generalize cpF (cpR (cpM S t m n)) 100 0 (-1, -1, 0, 0) = qr at p1 rel
    obtain ⟨u9, u10, u11⟩ := q3
    have sB' : r_Tp_searchCouple (58 + 8 * t) (S 0 11) S = some U' := by
      simp only [r_Tp_searchCouple, ltS_k]
      rw [show r_Tp_searchCouple_L19 (58 + 8 * t) (S 0 11) fu 0 0 _ = _ from q1]
      rfl
    have sM' : r_M_couple_L31 (nI t) x2 fu (-1) (-1) 0 0 0 (sw U' 104 0 0) = some (qr.1, qr.2.1, qr.2.2.1, qr.2.2.2, nI 100, T') := p1
    have bB : r_B_couple (nI t) x2 S = if qb.1 = -1 then some (-1, U') else if x2 = 0 then some (qb.1, U') else if x2 = 1 then some (qb.2.1, U') else if x2 = 2 then some (qb.2.2.2, U') else some (-1, U') := by
      simp only [r_B_couple, if_neg c1, chk_t it, ltN, tt, if_neg c3, sB', Option.bind_some, u9, u10, u11]
    have bM : ¬ r_M_isIn x2 0 2 = 0 → r_M_couple (nI t) x2 U' = if qr.1 = -1 then some (-1, T') else if x2 = 0 then some (qr.1, T') else if x2 = 1 then some (qr.2.1, T') else some (qr.2.2.2, T') := fun z2 => by
      simp only [r_M_couple, ltS_k, if_neg z2, sM', Option.bind_some]
    by_cases z2 : r_M_isIn x2 0 2 = 0
    · have z3 := z2
      rw [iM_0, z_0, show (2 : Int32).toInt = 2 by decide] at z3
      have n0 : ¬ x2 = 0 := fun e => z3 (by rw [e, z_0]; omega)
      have n1 : ¬ x2 = 1 := fun e => z3 (by rw [e, show (1 : Int32).toInt = 1 by decide]; omega)
      have n2 : ¬ x2 = 2 := fun e => z3 (by rw [e, show (2 : Int32).toInt = 2 by decide]; omega)
      refine ⟨-1, U', sw U' 104 0 0, ?_, ?_, (s0 U' q2).iv h⟩
      · rw [bB, if_neg n0, if_neg n1, if_neg n2]
        split <;> rfl
      · simp only [r_M_couple, ltS_k, if_pos z2]
    · have z3 : (0 : Int32).toInt ≤ x2.toInt ∧ x2.toInt ≤ (2 : Int32).toInt := Classical.not_not.mp (fun q => z2 (iM_0.mpr q))
      rw [z_0, show (2 : Int32).toInt = 2 by decide] at z3
      suffices hk : ∃ r, r_B_couple (nI t) x2 S = some (r, U') ∧ r_M_couple (nI t) x2 U' = some (r, T') by
        obtain ⟨r, hk1, hk2⟩ := hk
        exact ⟨r, U', T', hk1, hk2, p2.iv h⟩
      rw [bB, bM z2]
      rcases rel with ⟨e1, e2⟩ | ⟨e1, e2⟩
      · rw [e1, e2]
        exact ⟨-1, rfl, rfl⟩
      · subst e1
        rw [if_neg e2, if_neg e2]
        by_cases n0 : x2 = 0
        · rw [if_pos n0, if_pos n0]
          exact ⟨qb.1, rfl, rfl⟩
        rw [if_neg n0, if_neg n0]
        by_cases n1 : x2 = 1
        · rw [if_pos n1, if_pos n1]
          exact ⟨qb.2.1, rfl, rfl⟩
        rw [if_neg n1, if_neg n1]
        have n2 : x2 = 2 := by
          have a0 : ¬ x2.toInt = 0 := fun q => n0 (by rw [q_eq, q, z_0])
          have a1 : ¬ x2.toInt = 1 := fun q => n1 (by rw [q_eq, q]; decide)
          rw [q_eq, show (2 : Int32).toInt = 2 by decide]
          omega
        rw [if_pos n2]
        exact ⟨qb.2.2.2, rfl, rfl⟩
  · have e0 : m = 0 := by omega
    have c3 : S (58 + 8 * t) 3 = 0 := by rw [h3, e0]; rfl
    refine ⟨-1, S, sw S 104 0 0, ?_, (refN (fun x2 x3 => ?_)).2, h.t0⟩
    · simp only [r_B_couple, if_neg c1, chk_t it, ltN, tt, if_pos c3]
    · rw [can_MM hz hp (s0 S Sx.rf), decide_eq_false m0]
      rfl
