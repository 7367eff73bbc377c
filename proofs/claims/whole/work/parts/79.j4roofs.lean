def tset (S : Sto) : Nat := nrS (tld S) 10 0 0
theorem ts_L {S : Sto} : ∀ (d f i a : Nat), i + d = 10 → d < f → r_B_toldSpots_L4 f (nI a) (nI i) S = some (nI (nrS (tld S) d i a), nI 10) := by
  intro d
  induction d with
  | zero =>
    intro f i a hi hf
    obtain ⟨f, rfl⟩ : ∃ g, f = g + 1 := ⟨f - 1, by omega⟩
    have e : i = 10 := by omega
    subst e
    rw [r_B_toldSpots_L4, if_pos (by decide)]
    rfl
  | succ d ih =>
    intro f i a hi hf
    obtain ⟨f, rfl⟩ : ∃ g, f = g + 1 := ⟨f - 1, by omega⟩
    have c1 : ¬ (10 : Int32) ≤ nI i := nI_ge (b := 10) (by omega) (by omega)
    have i1 : inr (nI i) 10 = true := inr_nI (by omega) (by decide)
    have t1 : (nI i).toNatClampNeg = i := q_tnI (by omega)
    rw [nrS, ← ih f (i + 1) _ (by omega) (by omega)]
    by_cases k : S 17 i = -1
    · have e : tld S i = false := by unfold tld; rw [decide_eq_true k]; rfl
      rw [e, if_neg (by decide)]
      simp only [r_B_toldSpots_L4, if_neg c1, chk_t i1, t1, if_pos k, jn, lt_k, nI_1]
    · have e : tld S i = true := by unfold tld; rw [decide_eq_false k]; rfl
      rw [e, if_pos rfl]
      simp only [r_B_toldSpots_L4, if_neg c1, chk_t i1, t1, if_neg k, bit_1 i (by omega), nI_or, jn, lt_k, nI_1]
theorem ts_B {S : Sto} : r_B_toldSpots S = some (nI (tset S)) := by
  have := ts_L (S := S) 10 fu 0 0 (by omega) (by decide)
  rw [show nI 0 = 0 from rfl] at this
  rw [r_B_toldSpots, this]
  rfl
theorem ts_lt {S : Sto} : tset S < 1024 := nrS_ltN (N := 10) _ _ _ (by omega) (by decide)
theorem ts_M {S T : Sto} (hz : gSpo S) (hT : Sx S T) : r_M_there T = some (nI (tset S)) := by
  obtain ⟨b, b1, b2, b3⟩ := spots_told (S := S) (T := T) hz (fun _ _ => rfl) (fun i _ => hT _ _ (by unfold Sc; omega))
  rw [ts_B] at b2
  rw [b3, Option.some.inj b2]
theorem ts_bit {S : Sto} {k : Nat} (hk : k < 10) : (tset S).testBit k = tld S k := by
  unfold tset
  rw [nrS_bit, Nat.zero_testBit, Nat.zero_add, decide_eq_true hk]
  simp
theorem m1_bit : ∀ e, e < 10 → (-1 : Int32).toBitVec.getLsbD e = true := by decide
theorem sub_bit {a b e : Nat} (he : e < 10) (h : nI a &&& (nI b ^^^ (-1)) = 0) (ha : a.testBit e = true) : b.testBit e = true := by
  have h2 : (nI a &&& (nI b ^^^ (-1))).toBitVec.getLsbD e = (0 : Int32).toBitVec.getLsbD e := by rw [h]
  rw [Int32.toBitVec_and, Int32.toBitVec_xor, BitVec.getLsbD_and, BitVec.getLsbD_xor, m1_bit e he] at h2
  have e1 : (nI a).toBitVec.getLsbD e = a.testBit e := by
    show (BitVec.ofNat 32 a).getLsbD e = _
    rw [BitVec.getLsbD_ofNat, decide_eq_true (show e < 32 by omega), Bool.true_and]
  have e2 : (nI b).toBitVec.getLsbD e = b.testBit e := by
    show (BitVec.ofNat 32 b).getLsbD e = _
    rw [BitVec.getLsbD_ofNat, decide_eq_true (show e < 32 by omega), Bool.true_and]
  have e3 : (0 : Int32).toBitVec.getLsbD e = false := by
    show (BitVec.ofNat 32 0).getLsbD e = _
    rw [BitVec.getLsbD_ofNat, Nat.zero_testBit, Bool.and_false]
  rw [e1, e2, e3, ha] at h2
  cases hb : b.testBit e with
  | true => rfl
  | false => rw [hb] at h2; cases h2
theorem st_apart {nL : Nat} {S : Sto} (h : Iv nL S) (x1 x2 : Int32) : ∃ (r : Int32) (S1 : Sto) (S2 : Sto), r_B_apart x1 x2 S = some (r, S1) ∧ r_M_apart x1 x2 S1 = some (r, S2) ∧ Iv nL S2 := by
  obtain ⟨n, hw, hm⟩ := h.wv
  have hz := h.2.2.1
  have s0 : ∀ U, Sx S U → Sx S (sw U 104 0 0) := fun U hU => hU.sw (by unfold Sc; omega)
  by_cases c1 : r_B_within x1 0 1023 = 0
  · exact ⟨-1, S, sw S 104 0 0, by simp only [r_B_apart, if_pos c1], by simp only [r_M_apart, ltS_k, if_pos (iM_p c1)], h.t0⟩
  have c1' := win_n c1
  rw [z_0, show (1023 : Int32).toInt = 1023 by decide] at c1'
  obtain ⟨set, rfl, hset⟩ := q_nI c1'.1
  have th0 := ts_M hz (s0 S Sx.rf)
  by_cases c2 : nI set &&& (nI (tset S) ^^^ (-1)) = 0
  · by_cases c3 : r_B_within x2 0 999 = 0
    · exact ⟨-1, S, sw S 104 0 0, by simp only [r_B_apart, if_neg c1, ts_B, Option.bind_some, if_pos c2, if_pos c3], by simp only [r_M_apart, ltS_k, if_neg (iM_n c1), th0, Option.bind_some, if_pos c2, if_pos (iM_p c3)], h.t0⟩
    · obtain ⟨U', q1, q2, q3⟩ := prep_B (db := x2) (Sx.rf (S := S))
      have th := ts_M hz (s0 U' q2)
      obtain ⟨T', r1, r2, r3⟩ := tb_M hz hm (s0 U' q2)
      have hsub : ∀ k, k < 10 → set.testBit k = true → tld S k = true := fun k hk hb => by rw [← ts_bit hk]; exact sub_bit hk c2 hb
      have ca := ca_B (set := set) (by omega) q3
      have am := am_M (db := x2) hz (show set < 1024 by omega) hsub r2 r3
      exact ⟨nI (cntP (hI S x2 set) 45 0 0), U', T', by simp only [r_B_apart, if_neg c1, ts_B, Option.bind_some, if_pos c2, if_neg c3, q1, ca], by simp only [r_M_apart, ltS_k, if_neg (iM_n c1), th, Option.bind_some, if_pos c2, if_neg (iM_n c3), r1, am], r2.iv h⟩
  · exact ⟨-1, S, sw S 104 0 0, by simp only [r_B_apart, if_neg c1, ts_B, Option.bind_some, if_neg c2], by simp only [r_M_apart, ltS_k, if_neg (iM_n c1), th0, Option.bind_some, if_neg c2], h.t0⟩
/-! the best roofs -/
def rfF (P : Nat → Bool) (V : Nat → Nat) : Nat → Nat → Int32 → Int32 → Int32
  | 0, _, b, _ => b
  | d + 1, i, b, m => if P i = true then (if nI (V i) ≤ m then rfF P V d (i + 1) b m else rfF P V d (i + 1) (nI i) (nI (V i))) else rfF P V d (i + 1) b m
theorem rfF_none {P : Nat → Bool} {V : Nat → Nat} : ∀ (d i : Nat) (b m : Int32), (∀ j, i ≤ j → j < i + d → P j = false) → rfF P V d i b m = b := by
  intro d
  induction d with
  | zero => intro i b m _; rfl
  | succ d ih =>
    intro i b m h
    rw [rfF, h i (by omega) (by omega), if_neg (by decide)]
    exact ih _ _ _ (fun j h1 h2 => h j (by omega) (by omega))
theorem rf_LB {U : Sto} {y1 y3 : Int32} {P : Nat → Bool} {V : Nat → Nat} (hP : ∀ i, i < 1024 → (P i = true ↔ (r_Ig_bitCount (nI i) = y1 ∧ nI i &&& (y3 ^^^ (-1)) = 0))) (hV : ∀ i, i < 1024 → r_Rf_countApart (nI i) U = some (nI (V i))) : ∀ (d f i : Nat) (b m : Int32), i + d = 1024 → d < f → ∃ e1 e2, r_B_roofs_L53 y1 y3 f b m (nI i) U = some (rfF P V d i b m, e1, e2) := by
  intro d
  induction d with
  | zero =>
    intro f i b m hi hf
    obtain ⟨f, rfl⟩ : ∃ g, f = g + 1 := ⟨f - 1, by omega⟩
    have e : i = 1024 := by omega
    subst e
    exact ⟨m, nI 1024, by rw [r_B_roofs_L53, if_pos (by decide)]; rfl⟩
  | succ d ih =>
    intro f i b m hi hf
    obtain ⟨f, rfl⟩ : ∃ g, f = g + 1 := ⟨f - 1, by omega⟩
    have c1 : ¬ (1024 : Int32) ≤ nI i := nI_ge (b := 1024) (by omega) (by omega)
    have hPi := hP i (by omega)
    have hVi := hV i (by omega)
    rw [rfF]
    cases k : P i with
    | true =>
      obtain ⟨k1, k2⟩ := hPi.mp k
      rw [if_pos rfl]
      by_cases kl : nI (V i) ≤ m
      · obtain ⟨e1, e2, q⟩ := ih f (i + 1) b m (by omega) (by omega)
        refine ⟨e1, e2, ?_⟩
        rw [if_pos kl, ← q]
        simp only [r_B_roofs_L53, if_neg c1, if_pos k1, if_pos k2, hVi, Option.bind_some, if_pos kl, jn, lt_k, nI_1]
      · obtain ⟨e1, e2, q⟩ := ih f (i + 1) (nI i) (nI (V i)) (by omega) (by omega)
        refine ⟨e1, e2, ?_⟩
        rw [if_neg kl, ← q]
        simp only [r_B_roofs_L53, if_neg c1, if_pos k1, if_pos k2, hVi, Option.bind_some, if_neg kl, jn, lt_k, nI_1]
    | false =>
      obtain ⟨e1, e2, q⟩ := ih f (i + 1) b m (by omega) (by omega)
      refine ⟨e1, e2, ?_⟩
      rw [if_neg (by decide), ← q]
      by_cases k1 : r_Ig_bitCount (nI i) = y1
      · have k2 : ¬ nI i &&& (y3 ^^^ (-1)) = 0 := fun z => by rw [hPi.mpr ⟨k1, z⟩] at k; cases k
        simp only [r_B_roofs_L53, if_neg c1, if_pos k1, if_neg k2, jn, lt_k, nI_1]
      · simp only [r_B_roofs_L53, if_neg c1, if_neg k1, jn, lt_k, nI_1]
theorem rf_LM {T : Sto} {y1 y2 y3 : Int32} {P : Nat → Bool} {V : Nat → Nat} (hth : r_M_there T = some y3) (hP : ∀ i, i < 1024 → (P i = true ↔ (r_Ig_bitCount (nI i) = y1 ∧ nI i &&& (y3 ^^^ (-1)) = 0))) (hV : ∀ i, i < 1024 → nI i &&& (y3 ^^^ (-1)) = 0 → r_M_apartBy (nI i) y2 T = some (nI (V i))) : ∀ (d f i : Nat) (b m : Int32), i + d = 1024 → d < f → ∃ e1 e2, r_M_roofs_L42 y1 y2 f b m (nI i) T = some (rfF P V d i b m, e1, e2) := by
  intro d
  induction d with
  | zero =>
    intro f i b m hi hf
    obtain ⟨f, rfl⟩ : ∃ g, f = g + 1 := ⟨f - 1, by omega⟩
    have e : i = 1024 := by omega
    subst e
    exact ⟨m, nI 1024, by rw [r_M_roofs_L42, if_pos (by decide)]; rfl⟩
  | succ d ih =>
    intro f i b m hi hf
    obtain ⟨f, rfl⟩ : ∃ g, f = g + 1 := ⟨f - 1, by omega⟩
    have c1 : ¬ (1024 : Int32) ≤ nI i := nI_ge (b := 1024) (by omega) (by omega)
    have hPi := hP i (by omega)
    have o1 := ones_all i (by omega)
    rw [rfF]
    cases k : P i with
    | true =>
      obtain ⟨k1, k2⟩ := hPi.mp k
      have hVi := hV i (by omega) k2
      rw [if_pos rfl]
      by_cases kl : nI (V i) ≤ m
      · have kl2 : ¬ m < nI (V i) := by rw [q_lt]; rw [q_le] at kl; omega
        obtain ⟨e1, e2, q⟩ := ih f (i + 1) b m (by omega) (by omega)
        refine ⟨e1, e2, ?_⟩
        rw [if_pos kl, ← q]
        simp only [r_M_roofs_L42, if_neg c1, hth, Option.bind_some, if_pos k2, o1, if_pos k1, hVi, if_neg kl2, jn, lt_k, nI_1]
      · have kl2 : m < nI (V i) := by rw [q_lt]; rw [q_le] at kl; omega
        obtain ⟨e1, e2, q⟩ := ih f (i + 1) (nI i) (nI (V i)) (by omega) (by omega)
        refine ⟨e1, e2, ?_⟩
        rw [if_neg kl, ← q]
        simp only [r_M_roofs_L42, if_neg c1, hth, Option.bind_some, if_pos k2, o1, if_pos k1, hVi, if_pos kl2, jn, lt_k, nI_1]
    | false =>
      obtain ⟨e1, e2, q⟩ := ih f (i + 1) b m (by omega) (by omega)
      refine ⟨e1, e2, ?_⟩
      rw [if_neg (by decide), ← q]
      by_cases k2 : nI i &&& (y3 ^^^ (-1)) = 0
      · have k1 : ¬ r_Ig_bitCount (nI i) = y1 := fun z => by rw [hPi.mpr ⟨z, k2⟩] at k; cases k
        simp only [r_M_roofs_L42, if_neg c1, hth, Option.bind_some, if_pos k2, o1, if_neg k1, jn, lt_k, nI_1]
      · simp only [r_M_roofs_L42, if_neg c1, hth, Option.bind_some, if_neg k2, jn, lt_k, nI_1]
theorem bc_all : ∀ k, k < 1024 → r_Ig_bitCount (nI k) = nI (cntP (fun j => k.testBit j) 10 0 0) := by decide +kernel
theorem bc_mono {a b : Nat} (ha : a < 1024) (hb : b < 1024) (h : nI a &&& (nI b ^^^ (-1)) = 0) : (r_Ig_bitCount (nI a)).toInt ≤ (r_Ig_bitCount (nI b)).toInt := by
  rw [bc_all a ha, bc_all b hb]
  have m := cnt_mono (p := fun j => a.testBit j) (q := fun j => b.testBit j) (fun j hj => by
    by_cases k : j < 10
    · exact sub_bit k h hj
    · have h10 : 2 ^ 10 ≤ 2 ^ j := Nat.pow_le_pow_right (by decide) (by omega)
      have : a.testBit j = false := Nat.testBit_lt_two_pow (by omega)
      rw [this] at hj
      cases hj) 10 0 0
  have l1 := cntP_le (q := fun j => a.testBit j) 10 0 0
  have l2 := cntP_le (q := fun j => b.testBit j) 10 0 0
  rw [q_n (by omega), q_n (by omega)]
  omega
theorem st_roofs {nL : Nat} {S : Sto} (h : Iv nL S) (x1 x2 : Int32) : ∃ (r : Int32) (S1 : Sto) (S2 : Sto), r_B_roofs x1 x2 S = some (r, S1) ∧ r_M_roofs x1 x2 S1 = some (r, S2) ∧ Iv nL S2 := by
  obtain ⟨n, hw, hm⟩ := h.wv
  have hz := h.2.2.1
  have s0 : ∀ U, Sx S U → Sx S (sw U 104 0 0) := fun U hU => hU.sw (by unfold Sc; omega)
  have fuv : fu = 5000 := rfl
  by_cases c1 : r_B_within x1 2 6 = 0
  · exact ⟨-1, S, sw S 104 0 0, by simp only [r_B_roofs, ts_B, Option.bind_some, if_pos c1], by simp only [r_M_roofs, ltS_k, if_pos (iM_p c1)], h.t0⟩
  have refR : ∀ U, Sx S U → ¬ r_B_within x2 0 999 = 0 → ∃ T', r_M_roofs x1 x2 U = some (rfF (fun i => decide (r_Ig_bitCount (nI i) = x1) && decide (nI i &&& (nI (tset S) ^^^ (-1)) = 0)) (fun i => cntP (hI S x2 i) 45 0 0) 1024 0 (-1) (-1), T') ∧ Sx S T' := fun U hU c3 => by
    obtain ⟨T', r1, r2, r3⟩ := tb_M hz hm (s0 U hU)
    have th := ts_M hz r2
    obtain ⟨e1, e2, q⟩ := rf_LM (y1 := x1) (y2 := x2) (P := fun i => decide (r_Ig_bitCount (nI i) = x1) && decide (nI i &&& (nI (tset S) ^^^ (-1)) = 0)) (V := fun i => cntP (hI S x2 i) 45 0 0) th (fun i _ => by rw [Bool.and_eq_true, decide_eq_true_eq, decide_eq_true_eq]) (fun i hi hs => am_M hz hi (fun k hk hb => by rw [← ts_bit hk]; exact sub_bit hk hs hb) r2 r3) 1024 fu 0 (-1) (-1) (by omega) (by omega)
    rw [show nI 0 = 0 from rfl] at q
    exact ⟨T', by simp only [r_M_roofs, ltS_k, if_neg (iM_n c1), if_neg (iM_n c3), r1, Option.bind_some, q], r2⟩
  by_cases c2 : r_Ig_bitCount (nI (tset S)) < x1
  · by_cases c3 : r_B_within x2 0 999 = 0
    · exact ⟨-1, S, sw S 104 0 0, by simp only [r_B_roofs, ts_B, Option.bind_some, if_neg c1, if_pos c2], by simp only [r_M_roofs, ltS_k, if_neg (iM_n c1), if_pos (iM_p c3)], h.t0⟩
    · obtain ⟨T', q1, q2⟩ := refR S Sx.rf c3
      rw [rfF_none 1024 0 (-1) (-1) (fun j _ hj => by
        cases hk : (decide (r_Ig_bitCount (nI j) = x1) && decide (nI j &&& (nI (tset S) ^^^ (-1)) = 0)) with
        | false => rfl
        | true =>
          rw [Bool.and_eq_true, decide_eq_true_eq, decide_eq_true_eq] at hk
          have := bc_mono (show j < 1024 by omega) ts_lt hk.2
          rw [hk.1] at this
          rw [q_lt] at c2
          omega)] at q1
      exact ⟨-1, S, T', by simp only [r_B_roofs, ts_B, Option.bind_some, if_neg c1, if_pos c2], q1, q2.iv h⟩
  by_cases c3 : r_B_within x2 0 999 = 0
  · exact ⟨-1, S, sw S 104 0 0, by simp only [r_B_roofs, ts_B, Option.bind_some, if_neg c1, if_neg c2, if_pos c3], by simp only [r_M_roofs, ltS_k, if_neg (iM_n c1), if_pos (iM_p c3)], h.t0⟩
  · obtain ⟨U', q1, q2, q3⟩ := prep_B (db := x2) (Sx.rf (S := S))
    obtain ⟨T', r1, r2⟩ := refR U' q2 c3
    obtain ⟨e1, e2, q⟩ := rf_LB (U := U') (y1 := x1) (y3 := nI (tset S)) (P := fun i => decide (r_Ig_bitCount (nI i) = x1) && decide (nI i &&& (nI (tset S) ^^^ (-1)) = 0)) (V := fun i => cntP (hI S x2 i) 45 0 0) (fun i _ => by rw [Bool.and_eq_true, decide_eq_true_eq, decide_eq_true_eq]) (fun i hi => ca_B hi q3) 1024 fu 0 (-1) (-1) (by omega) (by omega)
    rw [show nI 0 = 0 from rfl] at q
    exact ⟨rfF (fun i => decide (r_Ig_bitCount (nI i) = x1) && decide (nI i &&& (nI (tset S) ^^^ (-1)) = 0)) (fun i => cntP (hI S x2 i) 45 0 0) 1024 0 (-1) (-1), U', T', by simp only [r_B_roofs, ts_B, Option.bind_some, if_neg c1, if_neg c2, if_neg c3, q1, q], r1, r2.iv h⟩
