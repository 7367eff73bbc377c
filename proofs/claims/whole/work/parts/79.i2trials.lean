/-! the reference's side -/
def prE (T' : Sto) (e : Int32) : Bool → Option ((Int32 × Sto) ⊕ (Int32 × Sto))
  | true => some (.inr (1, T'))
  | false => some (.inl (e, T'))
/-- slots that the trials of the reference leave alone -/
def frT4 (T T' : Sto) : Prop := ∀ k, T' 144 k = T 144 k
theorem turns_T {nL : Nat} {S T : Sto} {n p s h l : Nat} {lsf : Nat → List (Nat × Cod)} (hw : wInv S n) (hcm : cM S n S) (hbal : gBal S) (hS : ∀ l, l < 4 → Scr nL l S (lsf l)) (hh : heOK S h) (hc : isC (S 17 s)) (es : S 110 s = S 17 s) (hl : l < 4) (hT : Sx S T) :
    ∃ T', r_M_turnsBy (nI l) (T 129 h) (T 110 s) 0 (balS S s) (T 104 71) T = some (secT S n lsf s h l, T') ∧ Sx S T' ∧ frT4 T T' := by
  obtain ⟨b1, b2, b3⟩ := bal_ok (s := s) hbal
  obtain ⟨T', q1, q2⟩ := turnsBy_M (c0 := S 17 s) (t0 := 0) (b := balS S s) (v := S 104 71) (x := S 47 h) hl (hT.scr (by omega) (hS l hl)) hw hc hh.1 ⟨by decide, by decide⟩ b1 (hT.cM hcm)
  have e1 : T 129 h = S 47 h := by rw [hT _ _ (by unfold Sc; omega)]; exact hh.2.1
  have e2 : T 110 s = S 17 s := by rw [hT _ _ (by unfold Sc; omega)]; exact es
  have e3 : T 104 71 = S 104 71 := hT _ _ (by unfold Sc; omega)
  refine ⟨T', ?_, fun a j q => by unfold Sc at q; rw [q2 a j (by omega) (by omega) (by omega)]; exact hT a j (by unfold Sc; omega), fun k => q2 _ _ (by omega) (by omega) (by omega)⟩
  rw [e1, e2, e3]
  exact q1
theorem pr_L {nL : Nat} {S : Sto} {n p s a b : Nat} {lsf : Nat → List (Nat × Cod)} (hw : wInv S n) (hcm : cM S n S) (hbal : gBal S) (hS : ∀ l, l < 4 → Scr nL l S (lsf l)) (hp : p ≤ 20) (p2 : S 104 50 = nI p) (hh : ∀ h, h < p → heOK S h) (hs : s < 10) (hc : isC (S 17 s)) (es : S 110 s = S 17 s) (ha : a < 4) (hb : b < 4) : ∀ (d f h : Nat) (T : Sto), h + d = p → d < f → Sx S T → ∃ e T', r_M_parts_L26 (nI s) (nI a) (nI b) (balS S s) f (nI h) T = prE T' e (anyS (fun h => !decide (secT S n lsf s h a = secT S n lsf s h b)) d h) ∧ Sx S T' ∧ frT4 T T' := by
  have is : inr (nI s) 10 = true := inr_nI hs (by decide)
  have ts : (nI s).toNatClampNeg = s := q_tnI (by omega)
  intro d
  induction d with
  | zero =>
    intro f h T hi hf hT
    obtain ⟨f, rfl⟩ : ∃ g, f = g + 1 := ⟨f - 1, by omega⟩
    have e : h = p := by omega
    have c1 : T 104 50 ≤ nI h := by rw [hT _ _ (by unfold Sc; omega), p2, e, q_le]; omega
    exact ⟨nI h, T, by rw [r_M_parts_L26, if_pos c1]; rfl, hT, fun _ => rfl⟩
  | succ d ih =>
    intro f h T hi hf hT
    obtain ⟨f, rfl⟩ : ∃ g, f = g + 1 := ⟨f - 1, by omega⟩
    have c1 : ¬ T 104 50 ≤ nI h := by rw [hT _ _ (by unfold Sc; omega), p2]; exact nI_ge (by omega) (by omega)
    have i1 : inr (nI h) 20 = true := inr_nI (by omega) (by decide)
    have t1 : (nI h).toNatClampNeg = h := q_tnI (by omega)
    obtain ⟨T1, q1, q2, q3⟩ := turns_T (p := p) hw hcm hbal hS (hh h (by omega)) hc es ha hT
    obtain ⟨T2, r1, r2, r3⟩ := turns_T (p := p) hw hcm hbal hS (hh h (by omega)) hc es hb q2
    rw [anyS]
    by_cases k : secT S n lsf s h a = secT S n lsf s h b
    · obtain ⟨e, T', s1, s2, s3⟩ := ih f (h + 1) T2 (by omega) (by omega) r2
      refine ⟨e, T', ?_, s2, fun j => by rw [s3 j, r3 j, q3 j]⟩
      rw [decide_eq_true k, Bool.not_true, Bool.false_or, ← s1]
      simp only [r_M_parts_L26, if_neg c1, chk_t i1, chk_t is, t1, ts, q1, r1, Option.bind_some, if_pos k, lt_k, nI_1]
    · refine ⟨0, T2, ?_, r2, fun j => by rw [r3 j, q3 j]⟩
      rw [decide_eq_false k, Bool.not_false, Bool.true_or]
      simp only [r_M_parts_L26, if_neg c1, chk_t i1, chk_t is, t1, ts, q1, r1, Option.bind_some, if_neg k, prE]
theorem pr_M {nL : Nat} {S T : Sto} {n p s a b : Nat} {lsf : Nat → List (Nat × Cod)} (hw : wInv S n) (hcm : cM S n S) (hbal : gBal S) (hS : ∀ l, l < 4 → Scr nL l S (lsf l)) (hp : p ≤ 20) (p2 : S 104 50 = nI p) (hh : ∀ h, h < p → heOK S h) (hs : s < 10) (hc : isC (S 17 s)) (es : S 110 s = S 17 s) (ha : a < 4) (hb : b < 4) (hT : Sx S T) : ∃ T', r_M_parts (nI s) (nI a) (nI b) T = some (b2i (prT S n p lsf s a b), T') ∧ Sx S T' ∧ frT4 T T' := by
  have is : inr (nI s) 10 = true := inr_nI hs (by decide)
  have ts : (nI s).toNatClampNeg = s := q_tnI (by omega)
  obtain ⟨e, T', q1, q2, q3⟩ := pr_L hw hcm hbal hS hp p2 hh hs hc es ha hb p fu 0 T (by omega) (by have : fu = 5000 := rfl; omega) hT
  rw [show nI 0 = 0 from rfl] at q1
  refine ⟨T', ?_, q2, q3⟩
  have u1 : T 110 s = S 17 s := by rw [hT _ _ (by unfold Sc; omega)]; exact es
  have u2 : T 104 70 = S 0 14 := by rw [hT _ _ (by unfold Sc; omega)]; exact hbal.1
  unfold prT
  by_cases k : S 17 s = S 0 14
  · have eb : balS S s = -1 := by unfold balS; rw [if_pos k]
    rw [eb] at q1
    cases hP : anyS (fun h => !decide (secT S n lsf s h a = secT S n lsf s h b)) p 0 with
    | true =>
      rw [hP, prE] at q1
      simp only [r_M_parts, chk_t is, ts, u1, u2, if_pos k, jn_k, q1, Option.bind_some]
      rfl
    | false =>
      rw [hP, prE] at q1
      simp only [r_M_parts, chk_t is, ts, u1, u2, if_pos k, jn_k, q1, Option.bind_some]
      rfl
  · have eb : balS S s = S 0 14 := by unfold balS; rw [if_neg k]
    rw [eb] at q1
    cases hP : anyS (fun h => !decide (secT S n lsf s h a = secT S n lsf s h b)) p 0 with
    | true =>
      rw [hP, prE] at q1
      simp only [r_M_parts, chk_t is, ts, u1, u2, if_neg k, jn_k, q1, Option.bind_some]
      rfl
    | false =>
      rw [hP, prE] at q1
      simp only [r_M_parts, chk_t is, ts, u1, u2, if_neg k, jn_k, q1, Option.bind_some]
      rfl
def pbP (S : Sto) (n p : Nat) (lsf : Nat → List (Nat × Cod)) (q s : Nat) : Bool := !decide (S 17 s = -1) && prT S n p lsf s (q / 4) (q % 4)
theorem t35_L {nL : Nat} {S : Sto} {n p q : Nat} {y1 : Int32} {lsf : Nat → List (Nat × Cod)} (hz : gSpo S) (hw : wInv S n) (hcm : cM S n S) (hbal : gBal S) (hS : ∀ l, l < 4 → Scr nL l S (lsf l)) (hp : p ≤ 20) (p2 : S 104 50 = nI p) (hh : ∀ h, h < p → heOK S h) (hq : q < 16) (hq2 : q / 4 < q % 4) : ∀ (d f s c : Nat) (T : Sto), s + d = 10 → d < f → Sx S T → T 144 q = nI c → ∃ T', r_M_trials_L35 y1 (nI q) f (nI s) T = some (nI 10, T') ∧ Sx S T' ∧ (∀ k, k ≠ q → T' 144 k = T 144 k) ∧ T' 144 q = nI (nrS (pbP S n p lsf q) d s c) := by
  have iq : inr (nI q) 16 = true := inr_nI hq (by decide)
  have tq : (nI q).toNatClampNeg = q := q_tnI (by omega)
  have e1 : nI q / 4 = nI (q / 4) := pk_div (d := 4) (by omega) (by omega) (by omega)
  have e2 : nI q - nI (q / 4) * 4 = nI (q % 4) := by rw [← e1]; exact pk_rem (d := 4) (by omega) (by omega) (by omega)
  have c2 : ¬ nI (q % 4) ≤ nI (q / 4) := nI_ge hq2 (by omega)
  intro d
  induction d with
  | zero =>
    intro f s c T hi hf hT h
    obtain ⟨f, rfl⟩ : ∃ g, f = g + 1 := ⟨f - 1, by omega⟩
    have e : s = 10 := by omega
    subst e
    exact ⟨T, by rw [r_M_trials_L35, if_pos (by decide)], hT, fun _ _ => rfl, h⟩
  | succ d ih =>
    intro f s c T hi hf hT h
    obtain ⟨f, rfl⟩ : ∃ g, f = g + 1 := ⟨f - 1, by omega⟩
    have c1 : ¬ (10 : Int32) ≤ nI s := nI_ge (b := 10) (by omega) (by omega)
    have sp := told_M (x := nI s) hz hT
    rw [toldS_k (by omega)] at sp
    rw [nrS]
    by_cases k : S 17 s = -1
    · rw [decide_eq_true k, Bool.not_true] at sp
      have ep : pbP S n p lsf q s = false := by unfold pbP; rw [decide_eq_true k]; rfl
      obtain ⟨T', q1, q2, q3, q4⟩ := ih f (s + 1) c T (by omega) (by omega) hT h
      refine ⟨T', ?_, q2, q3, by rw [ep]; exact q4⟩
      rw [← q1]
      simp only [r_M_trials_L35, if_neg c1, e1, e2, if_neg c2, sp, Option.bind_some, if_pos (show b2i false = 0 by decide), jn_k, lt_k, nI_1]
    · rw [decide_eq_false k, Bool.not_false] at sp
      obtain ⟨T1, r1, r2, r3⟩ := pr_M hw hcm hbal hS hp p2 hh (show s < 10 by omega) ((hz s (by omega)).2.resolve_left k) (hz s (by omega)).1 (show q / 4 < 4 by omega) (show q % 4 < 4 by omega) hT
      have ep : pbP S n p lsf q s = prT S n p lsf s (q / 4) (q % 4) := by unfold pbP; rw [decide_eq_false k]; rfl
      have h1 : T1 144 q = nI c := by rw [r3 q]; exact h
      cases kp : prT S n p lsf s (q / 4) (q % 4) with
      | false =>
        rw [kp] at r1 ep
        obtain ⟨T', q1, q2, q3, q4⟩ := ih f (s + 1) c T1 (by omega) (by omega) r2 h1
        refine ⟨T', ?_, q2, fun j hj => by rw [q3 j hj, r3 j], by rw [ep]; exact q4⟩
        rw [← q1]
        simp only [r_M_trials_L35, if_neg c1, e1, e2, if_neg c2, sp, Option.bind_some, if_neg (show ¬ b2i true = 0 by decide), r1, if_pos (show b2i false = 0 by decide), jn_k, lt_k, nI_1]
      | true =>
        rw [kp] at r1 ep
        obtain ⟨T', q1, q2, q3, q4⟩ := ih f (s + 1) (c ||| 1 <<< s) (sw T1 144 q (nI (c ||| 1 <<< s))) (by omega) (by omega) (r2.sw (by unfold Sc; omega)) sw_same
        refine ⟨T', ?_, q2, fun j hj => by rw [q3 j hj, rd_ne (by omega), r3 j], by rw [ep]; exact q4⟩
        rw [← q1]
        simp only [r_M_trials_L35, if_neg c1, e1, e2, if_neg c2, sp, Option.bind_some, if_neg (show ¬ b2i true = 0 by decide), r1, chk_t iq, tq, h1, bit_1 s (by omega), nI_or, ltS_k, jn_k, lt_k, nI_1]
def pbS (S : Sto) (n p : Nat) (lsf : Nat → List (Nat × Cod)) (q : Nat) : Nat := if q / 4 < q % 4 then nrS (pbP S n p lsf q) 10 0 0 else 0
theorem t20_L {nL : Nat} {S : Sto} {n p : Nat} {y1 : Int32} {lsf : Nat → List (Nat × Cod)} (hz : gSpo S) (hw : wInv S n) (hcm : cM S n S) (hbal : gBal S) (hS : ∀ l, l < 4 → Scr nL l S (lsf l)) (hp : p ≤ 20) (p2 : S 104 50 = nI p) (hh : ∀ h, h < p → heOK S h) : ∀ (d f q : Nat) (T : Sto), q + d = 16 → d < f → Sx S T → ∃ T', r_M_trials_L20 y1 f (nI q) T = some (nI 16, T') ∧ Sx S T' ∧ (∀ k, k < q → T' 144 k = T 144 k) ∧ ∀ k, q ≤ k → k < 16 → T' 144 k = nI (pbS S n p lsf k) := by
  intro d
  induction d with
  | zero =>
    intro f q T hi hf hT
    obtain ⟨f, rfl⟩ : ∃ g, f = g + 1 := ⟨f - 1, by omega⟩
    have e : q = 16 := by omega
    subst e
    exact ⟨T, by rw [r_M_trials_L20, if_pos (by decide)], hT, fun _ _ => rfl, fun k h1 h2 => by omega⟩
  | succ d ih =>
    intro f q T hi hf hT
    obtain ⟨f, rfl⟩ : ∃ g, f = g + 1 := ⟨f - 1, by omega⟩
    have c1 : ¬ (16 : Int32) ≤ nI q := nI_ge (b := 16) (by omega) (by omega)
    have iq : inr (nI q) 16 = true := inr_nI (by omega) (by decide)
    have tq : (nI q).toNatClampNeg = q := q_tnI (by omega)
    have hT1 : Sx S (sw T 144 q 0) := hT.sw (by unfold Sc; omega)
    have in35 : ∃ e T1, r_M_trials_L35 y1 (nI q) fu 0 (sw T 144 q 0) = some (e, T1) ∧ Sx S T1 ∧ (∀ k, k ≠ q → T1 144 k = T 144 k) ∧ T1 144 q = nI (pbS S n p lsf q) := by
      by_cases hq2 : q / 4 < q % 4
      · obtain ⟨T1, r1, r2, r3, r4⟩ := t35_L (y1 := y1) hz hw hcm hbal hS hp p2 hh (show q < 16 by omega) hq2 10 fu 0 0 (sw T 144 q 0) (by omega) (by decide) hT1 sw_same
        refine ⟨nI 10, T1, r1, r2, fun k hk => by rw [r3 k hk, rd_ne (by omega)], ?_⟩
        unfold pbS
        rw [if_pos hq2]
        exact r4
      · have e1 : nI q / 4 = nI (q / 4) := pk_div (d := 4) (by omega) (by omega) (by omega)
        have e2 : nI q - nI (q / 4) * 4 = nI (q % 4) := by rw [← e1]; exact pk_rem (d := 4) (by omega) (by omega) (by omega)
        have c2 : nI (q % 4) ≤ nI (q / 4) := nI_le (by omega) (by omega)
        refine ⟨0, sw T 144 q 0, ?_, hT1, fun k hk => rd_ne (by omega), by rw [sw_same]; unfold pbS; rw [if_neg hq2]; rfl⟩
        rw [show fu = 4999 + 1 from rfl, r_M_trials_L35, if_neg (by decide), e1, e2, if_pos c2]
    obtain ⟨e, T1, r1, r2, r3, r4⟩ := in35
    obtain ⟨T', q1, q2, q3, q4⟩ := ih f (q + 1) T1 (by omega) (by omega) r2
    refine ⟨T', ?_, q2, fun k hk => by rw [q3 k (by omega), r3 k (by omega)], fun k g1 g2 => ?_⟩
    · rw [← q1]
      simp only [r_M_trials_L20, if_neg c1, chk_t iq, tq, ltS_k, r1, Option.bind_some, lt_k, nI_1]
    · by_cases e : k = q
      · subst e; rw [q3 k (by omega)]; exact r4
      · exact q4 k (by omega) g2
def apE (e : Int32) : Bool → Option ((Int32) ⊕ Int32)
  | true => some (.inr 0)
  | false => some (.inl e)
theorem ap_L {T : Sto} {L set : Nat} {pb : Nat → Nat} (hL : L < 16) (hset : set < 1024) (hpb : ∀ k, k < 16 → pb k < 1024 ∧ T 144 k = nI (pb k)) : ∀ (d f q : Nat), q + d = 16 → d < f → ∃ e, r_M_areParted_L2 (nI L) (nI set) f (nI q) T = apE e (anyS (fun k => cwP L k && decide (pb k &&& set = 0)) d q) := by
  intro d
  induction d with
  | zero =>
    intro f q hi hf
    obtain ⟨f, rfl⟩ : ∃ g, f = g + 1 := ⟨f - 1, by omega⟩
    have e : q = 16 := by omega
    subst e
    exact ⟨nI 16, by rw [r_M_areParted_L2, if_pos (by decide)]; rfl⟩
  | succ d ih =>
    intro f q hi hf
    obtain ⟨f, rfl⟩ : ∃ g, f = g + 1 := ⟨f - 1, by omega⟩
    have c1 : ¬ (16 : Int32) ≤ nI q := nI_ge (b := 16) (by omega) (by omega)
    have iq : inr (nI q) 16 = true := inr_nI (by omega) (by decide)
    have tq : (nI q).toNatClampNeg = q := q_tnI (by omega)
    have e1 : nI q / 4 = nI (q / 4) := pk_div (d := 4) (by omega) (by omega) (by omega)
    have e2 : nI q - nI (q / 4) * 4 = nI (q % 4) := by rw [← e1]; exact pk_rem (d := 4) (by omega) (by omega) (by omega)
    have b1 := bit_all (q / 4) (by omega) L (by omega)
    have b2 := bit_all (q % 4) (by omega) L (by omega)
    obtain ⟨pl, pe⟩ := hpb q (by omega)
    rw [anyS]
    have go : (cwP L q && decide (pb q &&& set = 0)) = false → r_M_areParted_L2 (nI L) (nI set) (f + 1) (nI q) T = r_M_areParted_L2 (nI L) (nI set) f (nI (q + 1)) T → ∃ e, r_M_areParted_L2 (nI L) (nI set) (f + 1) (nI q) T = apE e ((cwP L q && decide (pb q &&& set = 0)) || anyS (fun k => cwP L k && decide (pb k &&& set = 0)) d (q + 1)) := by
      intro h1 h2
      rw [h1, h2, Bool.false_or]
      exact ih f (q + 1) (by omega) (by omega)
    by_cases c2 : q / 4 < q % 4
    · have c2' : ¬ nI (q % 4) ≤ nI (q / 4) := nI_ge c2 (by omega)
      have ecw : cwP L q = (L.testBit (q / 4) && L.testBit (q % 4)) := by unfold cwP; rw [decide_eq_true c2, Bool.true_and]
      have n01 : ¬ (0 : Int32) = 1 := by decide
      cases k1 : L.testBit (q / 4) with
      | false =>
        rw [k1, if_neg (by decide)] at b1
        refine go (by rw [ecw, k1]; rfl) ?_
        simp only [r_M_areParted_L2, if_neg c1, e1, e2, if_neg c2', b1, if_neg n01, jn, lt_k, nI_1]
      | true =>
        rw [k1, if_pos rfl] at b1
        cases k2 : L.testBit (q % 4) with
        | false =>
          rw [k2, if_neg (by decide)] at b2
          refine go (by rw [ecw, k1, k2]; rfl) ?_
          simp only [r_M_areParted_L2, if_neg c1, e1, e2, if_neg c2', b1, ite_true, b2, if_neg n01, jn, lt_k, nI_1]
        | true =>
          rw [k2, if_pos rfl] at b2
          have pl2 : pb q &&& set < 1024 := Nat.lt_of_le_of_lt Nat.and_le_left pl
          by_cases k3 : pb q &&& set = 0
          · refine ⟨0, ?_⟩
            rw [ecw, k1, k2, decide_eq_true k3]
            have z : nI (pb q) &&& nI set = 0 := by rw [nI_and, k3]; rfl
            simp only [r_M_areParted_L2, if_neg c1, e1, e2, if_neg c2', b1, ite_true, b2, chk_t iq, tq, pe, if_pos z, jn]
            rfl
          · refine go (by rw [decide_eq_false k3, Bool.and_false]) ?_
            have z : ¬ nI (pb q) &&& nI set = 0 := by rw [nI_and]; exact nI_ne0 (by omega) (by omega)
            simp only [r_M_areParted_L2, if_neg c1, e1, e2, if_neg c2', b1, ite_true, b2, chk_t iq, tq, pe, if_neg z, jn, lt_k, nI_1]
    · have c2' : nI (q % 4) ≤ nI (q / 4) := nI_le (by omega) (by omega)
      refine go (by unfold cwP; rw [decide_eq_false c2]; rfl) ?_
      simp only [r_M_areParted_L2, if_neg c1, e1, e2, if_pos c2', jn, lt_k, nI_1]
theorem ap_M {T : Sto} {L set : Nat} {pb : Nat → Nat} (hL : L < 16) (hset : set < 1024) (hpb : ∀ k, k < 16 → pb k < 1024 ∧ T 144 k = nI (pb k)) : r_M_areParted (nI L) (nI set) T = some (b2i (!anyS (fun k => cwP L k && decide (pb k &&& set = 0)) 16 0)) := by
  obtain ⟨e, q⟩ := ap_L hL hset hpb 16 fu 0 (by omega) (by decide)
  rw [show nI 0 = 0 from rfl] at q
  rw [r_M_areParted, q]
  cases anyS (fun k => cwP L k && decide (pb k &&& set = 0)) 16 0 <;> rfl
