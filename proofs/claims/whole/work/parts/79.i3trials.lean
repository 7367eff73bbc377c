/-! the two searches -/
theorem tr_SB {U : Sto} {y2 : Int32} {w : Nat} {v : Nat → Nat} (hw : w < 2147483648) (hv : ∀ j, j < 10 → U 100 j = nI (v j)) (hun : ∀ set, set < 1024 → unS v set 10 0 0 < 2147483648) {P : Nat → Bool} (hP : ∀ set, set < 1024 → (P set = true ↔ (nI set &&& (y2 ^^^ (-1)) = 0 ∧ unS v set 10 0 0 = w))) : ∀ (d f i : Nat) (b : Int32), i + d = 1024 → d < f → ∃ e, r_B_trials_L124 y2 (nI w) f b (nI i) U = some (bsF P d i b, e) := by
  intro d
  induction d with
  | zero =>
    intro f i b hi hf
    obtain ⟨f, rfl⟩ : ∃ g, f = g + 1 := ⟨f - 1, by omega⟩
    have e : i = 1024 := by omega
    subst e
    exact ⟨nI 1024, by rw [r_B_trials_L124, if_pos (by decide)]; rfl⟩
  | succ d ih =>
    intro f i b hi hf
    obtain ⟨f, rfl⟩ : ∃ g, f = g + 1 := ⟨f - 1, by omega⟩
    have c1 : ¬ (1024 : Int32) ≤ nI i := nI_ge (b := 1024) (by omega) (by omega)
    have hu := un_B (set := i) (by omega) hv
    have hPi := hP i (by omega)
    have cu := hun i (by omega)
    rw [bsF]
    obtain ⟨e, q⟩ := ih f (i + 1) (if (P i && fewB i b) = true then nI i else b) (by omega) (by omega)
    refine ⟨e, ?_⟩
    rw [← q]
    have n10 : ¬ (1 : Int32) = 0 := by decide
    cases hk : P i with
    | true =>
      obtain ⟨k1, k2⟩ := hPi.mp hk
      have k2' : nI (unS v i 10 0 0) = nI w := by rw [k2]
      rw [Bool.true_and]
      cases hf' : fewB i b with
      | true =>
        have z : ¬ r_B_isFewer (nI i) b = 0 := by rw [fewer_B, hf']; decide
        simp only [r_B_trials_L124, if_neg c1, if_pos k1, hu, Option.bind_some, if_pos k2', jn_k, if_neg n10, if_neg z, lt_k, nI_1, ite_true]
      | false =>
        have z : r_B_isFewer (nI i) b = 0 := by rw [fewer_B, hf']; decide
        simp only [r_B_trials_L124, if_neg c1, if_pos k1, hu, Option.bind_some, if_pos k2', jn_k, if_neg n10, if_pos z, lt_k, nI_1, if_neg (show ¬ false = true by decide)]
    | false =>
      rw [Bool.false_and]
      by_cases k1 : nI i &&& (y2 ^^^ (-1)) = 0
      · have k2 : ¬ unS v i 10 0 0 = w := fun z => by rw [hPi.mpr ⟨k1, z⟩] at hk; cases hk
        have k2' : ¬ nI (unS v i 10 0 0) = nI w := fun z => k2 ((nI_eq cu (by omega)).mp z)
        simp only [r_B_trials_L124, if_neg c1, if_pos k1, hu, Option.bind_some, if_neg k2', jn_k, ite_true, lt_k, nI_1, if_neg (show ¬ false = true by decide)]
      · simp only [r_B_trials_L124, if_neg c1, if_neg k1, jn_k, ite_true, lt_k, nI_1, if_neg (show ¬ false = true by decide)]
theorem tr_SM {T : Sto} {y2 y1 : Int32} {A : Nat → Bool} (hth : r_M_there T = some y2) (hA : ∀ set, set < 1024 → r_M_areParted y1 (nI set) T = some (b2i (A set))) {P : Nat → Bool} (hP : ∀ set, set < 1024 → (P set = true ↔ (nI set &&& (y2 ^^^ (-1)) = 0 ∧ A set = true))) : ∀ (d f i : Nat) (b : Int32), i + d = 1024 → d < f → (b = -1 ∨ ∃ j, j < 1024 ∧ b = nI j) → ∃ e, r_M_trials_L104 y1 f b (nI i) T = some (bsF P d i b, e) := by
  intro d
  induction d with
  | zero =>
    intro f i b hi hf _
    obtain ⟨f, rfl⟩ : ∃ g, f = g + 1 := ⟨f - 1, by omega⟩
    have e : i = 1024 := by omega
    subst e
    exact ⟨nI 1024, by rw [r_M_trials_L104, if_pos (by decide)]; rfl⟩
  | succ d ih =>
    intro f i b hi hf hb
    obtain ⟨f, rfl⟩ : ∃ g, f = g + 1 := ⟨f - 1, by omega⟩
    have c1 : ¬ (1024 : Int32) ≤ nI i := nI_ge (b := 1024) (by omega) (by omega)
    have hPi := hP i (by omega)
    have hAi := hA i (by omega)
    rw [bsF]
    obtain ⟨e, q⟩ := ih f (i + 1) (if (P i && fewB i b) = true then nI i else b) (by omega) (by omega) (by
      split
      · exact Or.inr ⟨i, by omega, rfl⟩
      · exact hb)
    refine ⟨e, ?_⟩
    rw [← q]
    by_cases k1 : nI i &&& (y2 ^^^ (-1)) = 0
    · have eP : P i = A i := by
        cases hk : P i with
        | true => exact (hPi.mp hk).2.symm
        | false =>
          cases ha : A i with
          | false => rfl
          | true => rw [hPi.mpr ⟨k1, ha⟩] at hk; cases hk
      rw [eP]
      by_cases kb : b = -1
      · have hf' : fewB i b = true := by unfold fewB; rw [decide_eq_true kb]; rfl
        rw [hf', Bool.and_true]
        cases ha : A i with
        | true =>
          rw [ha] at hAi
          simp only [r_M_trials_L104, if_neg c1, hth, Option.bind_some, if_pos k1, if_pos kb, hAi, if_neg (show ¬ b2i true = 0 by decide), jn, lt_k, nI_1, ite_true]
        | false =>
          rw [ha] at hAi
          simp only [r_M_trials_L104, if_neg c1, hth, Option.bind_some, if_pos k1, if_pos kb, hAi, if_pos (show b2i false = 0 by decide), jn, lt_k, nI_1, if_neg (show ¬ false = true by decide)]
      · obtain ⟨j, j1, j2⟩ := hb.resolve_left kb
        have o1 := ones_all i (by omega)
        have o2 : r_M_ones b = some (r_Ig_bitCount b) := by rw [j2]; exact ones_all j j1
        by_cases c2 : r_Ig_bitCount b ≤ r_Ig_bitCount (nI i)
        · have hf' : fewB i b = false := by unfold fewB; rw [decide_eq_false kb, decide_eq_false (by rw [q_lt]; rw [q_le] at c2; omega)]; rfl
          rw [hf', Bool.and_false]
          simp only [r_M_trials_L104, if_neg c1, hth, Option.bind_some, if_pos k1, if_neg kb, o1, o2, if_pos c2, jn, lt_k, nI_1, if_neg (show ¬ false = true by decide)]
        · have hf' : fewB i b = true := by unfold fewB; rw [decide_eq_false kb, decide_eq_true (by rw [q_lt]; rw [q_le] at c2; omega)]; rfl
          rw [hf', Bool.and_true]
          cases ha : A i with
          | true =>
            rw [ha] at hAi
            simp only [r_M_trials_L104, if_neg c1, hth, Option.bind_some, if_pos k1, if_neg kb, o1, o2, if_neg c2, hAi, if_neg (show ¬ b2i true = 0 by decide), jn, lt_k, nI_1, ite_true]
          | false =>
            rw [ha] at hAi
            simp only [r_M_trials_L104, if_neg c1, hth, Option.bind_some, if_pos k1, if_neg kb, o1, o2, if_neg c2, hAi, if_pos (show b2i false = 0 by decide), jn, lt_k, nI_1, if_neg (show ¬ false = true by decide)]
    · have eP : P i = false := by
        cases hk : P i with
        | false => rfl
        | true => exact absurd (hPi.mp hk).1 k1
      rw [eP, Bool.false_and]
      simp only [r_M_trials_L104, if_neg c1, hth, Option.bind_some, if_neg k1, jn, lt_k, nI_1, if_neg (show ¬ false = true by decide)]
theorem cw_bit {L q : Nat} : (cw L).testBit q = (decide (q < 16) && cwP L q) := by
  unfold cw
  rw [nrS_bit, Nat.zero_testBit, Nat.zero_add]
  simp
/-- all that is wanted is parted: by the class's sets of couples, by the reference's sets of spots -/
theorem part_eq {S : Sto} {n p L set : Nat} {lsf : Nat → List (Nat × Cod)} : unS (tpV S n p lsf L) set 10 0 0 = cw L ↔ (!anyS (fun k => cwP L k && decide (pbS S n p lsf k &&& set = 0)) 16 0) = true := by
  have tb : ∀ s q, (tpV S n p lsf L s).testBit q = (!decide (S 17 s = -1) && ((ptS S n p lsf s).testBit q && (cw L).testBit q)) := fun s q => by
    unfold tpV
    by_cases k : S 17 s = -1
    · rw [if_pos k, decide_eq_true k, Nat.zero_testBit]; rfl
    · rw [if_neg k, decide_eq_false k, Nat.testBit_and]; rfl
  have pz : ∀ q, q / 4 < q % 4 → (¬ pbS S n p lsf q &&& set = 0 ↔ ∃ s, s < 10 ∧ set.testBit s = true ∧ pbP S n p lsf q s = true) := fun q hq => by
    have bt : ∀ s, (pbS S n p lsf q &&& set).testBit s = (decide (s < 10) && pbP S n p lsf q s && set.testBit s) := fun s => by
      unfold pbS
      rw [if_pos hq, Nat.testBit_and, nrS_bit, Nat.zero_testBit, Nat.zero_add]
      simp
    constructor
    · intro h
      apply Classical.byContradiction
      intro hn
      apply h
      apply Nat.eq_of_testBit_eq
      intro s
      rw [bt, Nat.zero_testBit]
      cases h1 : pbP S n p lsf q s with
      | false => simp
      | true =>
        cases h2 : set.testBit s with
        | false => simp
        | true =>
          by_cases h3 : s < 10
          · exact absurd ⟨s, h3, h2, h1⟩ hn
          · rw [decide_eq_false h3]; rfl
    · rintro ⟨s, h1, h2, h3⟩ h
      have := bt s
      rw [h, Nat.zero_testBit, h2, h3, decide_eq_true h1] at this
      cases this
  have hno : (!anyS (fun k => cwP L k && decide (pbS S n p lsf k &&& set = 0)) 16 0) = true ↔ ∀ q, q < 16 → cwP L q = true → ∃ s, s < 10 ∧ set.testBit s = true ∧ pbP S n p lsf q s = true := by
    constructor
    · intro h q hq hc
      have hc2 : q / 4 < q % 4 := by
        unfold cwP at hc
        rw [Bool.and_eq_true, decide_eq_true_eq] at hc
        exact hc.1
      refine (pz q hc2).mp ?_
      intro z
      have : anyS (fun k => cwP L k && decide (pbS S n p lsf k &&& set = 0)) 16 0 = true := (anyS_iff 16 0).mpr ⟨q, by omega, by omega, by rw [hc, decide_eq_true z]; rfl⟩
      rw [this] at h
      cases h
    · intro h
      cases ha : anyS (fun k => cwP L k && decide (pbS S n p lsf k &&& set = 0)) 16 0 with
      | false => rfl
      | true =>
        obtain ⟨q, -, hq, hx⟩ := (anyS_iff 16 0).mp ha
        rw [Bool.and_eq_true, decide_eq_true_eq] at hx
        have hc2 : q / 4 < q % 4 := by
          have hc := hx.1
          unfold cwP at hc
          rw [Bool.and_eq_true, decide_eq_true_eq] at hc
          exact hc.1
        exact absurd hx.2 ((pz q hc2).mpr (h q (by omega) hx.1))
  rw [hno]
  constructor
  · intro e q hq hc
    have hc2 : q / 4 < q % 4 := by
      unfold cwP at hc
      rw [Bool.and_eq_true, decide_eq_true_eq] at hc
      exact hc.1
    have b := unS_bit (v := tpV S n p lsf L) (set := set) 10 0 0 q
    rw [e, cw_bit, decide_eq_true hq, hc, Nat.zero_testBit] at b
    have b' : anyS (fun w => set.testBit w && (tpV S n p lsf L w).testBit q) 10 0 = true := by rw [Bool.false_or] at b; exact b.symm
    obtain ⟨s, -, hs, hx⟩ := (anyS_iff 10 0).mp b'
    rw [Bool.and_eq_true, tb, Bool.and_eq_true, Bool.and_eq_true] at hx
    refine ⟨s, by omega, hx.1, ?_⟩
    unfold pbP
    rw [hx.2.1, ← pt_bit hc2, hx.2.2.1]
    rfl
  · intro h
    apply Nat.eq_of_testBit_eq
    intro q
    rw [unS_bit, cw_bit, Nat.zero_testBit, Bool.false_or]
    cases hq : (decide (q < 16) && cwP L q) with
    | false =>
      cases ha : anyS (fun w => set.testBit w && (tpV S n p lsf L w).testBit q) 10 0 with
      | false => rfl
      | true =>
        obtain ⟨s, -, hs, hx⟩ := (anyS_iff 10 0).mp ha
        rw [Bool.and_eq_true, tb, Bool.and_eq_true, Bool.and_eq_true, cw_bit, hq] at hx
        exact absurd hx.2.2.2 (by decide)
    | true =>
      have hq' := hq
      rw [Bool.and_eq_true, decide_eq_true_eq] at hq'
      have hc2 : q / 4 < q % 4 := by
        have hc := hq'.2
        unfold cwP at hc
        rw [Bool.and_eq_true, decide_eq_true_eq] at hc
        exact hc.1
      obtain ⟨s, s1, s2, s3⟩ := h q hq'.1 hq'.2
      unfold pbP at s3
      rw [Bool.and_eq_true] at s3
      refine (anyS_iff 10 0).mpr ⟨s, by omega, by omega, ?_⟩
      rw [s2, tb, s3.1, pt_bit hc2, s3.2, cw_bit, hq]
      rfl
theorem st_trials {nL : Nat} {S : Sto} (h : Iv nL S) (x1 : Int32) : ∃ (r : Int32) (S1 : Sto) (S2 : Sto), r_B_trials x1 S = some (r, S1) ∧ r_M_trials x1 S1 = some (r, S2) ∧ Iv nL S2 := by
  obtain ⟨n, hw, hm⟩ := h.wv
  have hz := h.2.2.1
  have hbal := h.2.2.2.2.2.2.2.2.2.2.2.1
  obtain ⟨p, p0, p1, p2, p3⟩ := h.he
  have s0 : ∀ U, Sx S U → Sx S (sw U 104 0 0) := fun U hU => hU.sw (by unfold Sc; omega)
  have fuv : fu = 5000 := rfl
  by_cases c1 : r_B_within x1 1 15 = 0
  · exact ⟨-1, S, sw S 104 0 0, by simp only [r_B_trials, if_pos c1], by simp only [r_M_trials, ltS_k, if_pos (iM_p c1)], h.t0⟩
  have c1M := iM_n c1
  have c1' := win_n c1
  rw [show (1 : Int32).toInt = 1 by decide, show (15 : Int32).toInt = 15 by decide] at c1'
  obtain ⟨L, rfl, hL⟩ := q_nI (show 0 ≤ x1.toInt by omega)
  have hL16 : L < 16 := by omega
  have hlsf : ∃ lsf : Nat → List (Nat × Cod), ∀ l, l < 4 → Scr nL l S (lsf l) := by
    refine ⟨fun l => if q : l < 5 then Classical.choose (h.2.2.2.2.2.2.2.2.2.2.2.2.2 l q) else [], fun l hl => ?_⟩
    simp only [dif_pos (show l < 5 by omega)]
    exact Classical.choose_spec (h.2.2.2.2.2.2.2.2.2.2.2.2.2 l (by omega))
  obtain ⟨lsf, hS⟩ := hlsf
  obtain ⟨tb, tb1, tb2, -⟩ := spots_told (S := S) (T := S) hz (fun _ _ => rfl) (fun _ _ => rfl)
  obtain ⟨U', q1, q2, q3, q4⟩ := tr_LB (L := L) (y2 := nI tb) hz hbal hw hS p0 p1 p3 10 fu 0 S (by omega) (by omega) Sx.rf
  rw [show nI 0 = 0 from rfl] at q1
  obtain ⟨T', r1, r2, r3, r4⟩ := t20_L (y1 := nI L) hz hw hm hbal hS p0 p2 p3 16 fu 0 (sw U' 104 0 0) (by omega) (by omega) (s0 U' q2)
  rw [show nI 0 = 0 from rfl] at r1
  obtain ⟨tb', tb1', tb2', tb3'⟩ := spots_told (S := S) (T := T') hz (fun _ _ => rfl) (fun i _ => r2 _ _ (by unfold Sc; omega))
  have etb : tb' = tb := by
    rw [tb2] at tb2'
    exact ((nI_eq (by omega) (by omega)).mp (Option.some.inj tb2')).symm
  subst etb
  have pbl : ∀ k, pbS S n p lsf k < 1024 := fun k => by
    unfold pbS
    split
    · apply Nat.lt_pow_two_of_testBit (n := 10)
      intro i hi
      rw [nrS_bit, Nat.zero_testBit, Nat.zero_add, decide_eq_false (show ¬ i < 10 by omega)]
      simp
    · decide
  have hA : ∀ set, set < 1024 → r_M_areParted (nI L) (nI set) T' = some (b2i (!anyS (fun k => cwP L k && decide (pbS S n p lsf k &&& set = 0)) 16 0)) := fun set hset => ap_M hL16 hset (fun k hk => ⟨pbl k, r4 k (by omega) hk⟩)
  have cwl : cw L < 2 ^ 16 := by
    apply Nat.lt_pow_two_of_testBit
    intro i hi
    rw [cw_bit, decide_eq_false (show ¬ i < 16 by omega)]
    rfl
  have unl : ∀ set, unS (tpV S n p lsf L) set 10 0 0 < 2 ^ 16 := fun set => by
    apply Nat.lt_pow_two_of_testBit
    intro i hi
    rw [unS_bit, Nat.zero_testBit, Bool.false_or]
    cases ha : anyS (fun w => set.testBit w && (tpV S n p lsf L w).testBit i) 10 0 with
    | false => rfl
    | true =>
      obtain ⟨s, -, hs, hx⟩ := (anyS_iff 10 0).mp ha
      rw [Bool.and_eq_true] at hx
      have h2 := hx.2
      unfold tpV at h2
      split at h2
      · rw [Nat.zero_testBit] at h2; cases h2
      · rw [Nat.testBit_and, cw_bit, decide_eq_false (show ¬ i < 16 by omega)] at h2
        simp at h2
  obtain ⟨e1, v1⟩ := tr_SB (y2 := nI tb') (w := cw L) (v := tpV S n p lsf L) (P := fun set => decide (nI set &&& (nI tb' ^^^ (-1)) = 0) && decide (unS (tpV S n p lsf L) set 10 0 0 = cw L)) (by omega) (fun j hj => q4 j (by omega) hj) (fun set _ => by have := unl set; omega) (fun set _ => by rw [Bool.and_eq_true, decide_eq_true_eq, decide_eq_true_eq]) 1024 fu 0 (-1) (by omega) (by omega)
  obtain ⟨e2, v2⟩ := tr_SM (y2 := nI tb') (P := fun set => decide (nI set &&& (nI tb' ^^^ (-1)) = 0) && decide (unS (tpV S n p lsf L) set 10 0 0 = cw L)) tb3' hA (fun set _ => by rw [Bool.and_eq_true, decide_eq_true_eq, decide_eq_true_eq, part_eq]) 1024 fu 0 (-1) (by omega) (by omega) (Or.inl rfl)
  rw [show nI 0 = 0 from rfl] at v1 v2
  refine ⟨bsF (fun set => decide (nI set &&& (nI tb' ^^^ (-1)) = 0) && decide (unS (tpV S n p lsf L) set 10 0 0 = cw L)) 1024 0 (-1), U', T', ?_, ?_, r2.iv h⟩
  · simp only [r_B_trials, if_neg c1, tb2, Option.bind_some, cw_all L hL16, q1, v1]
  · simp only [r_M_trials, ltS_k, if_neg c1M, r1, Option.bind_some, v2]
