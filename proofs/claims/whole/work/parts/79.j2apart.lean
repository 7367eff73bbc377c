/-! ears on spots -/
theorem ltJ_k {β : Type} {e : Int64} {f : Int64 → Option β} : ltJ e f = f e := Eq.trans (b := f e) rfl rfl
def tld (S : Sto) (k : Nat) : Bool := !decide (S 17 k = -1)
def tmS (S : Sto) (p e : Nat) : Int32 := if (tld S p && tld S e) = true then trv (S 1 0) (S 1 1) (S 1 2) (S 17 p) (S 17 e) else 0
def dfS (S : Sto) (db : Int32) (e f p q : Nat) : Bool := !decide (r_Ma_abs ((tmS S p e - tmS S p f) - (tmS S q e - tmS S q f)) ≤ db)
def ix (p q : Nat) : Nat := p * (19 - p) / 2 + (q - p - 1)
def pairsL : List (Nat × Nat) := (List.range 10).flatMap (fun p => (List.range 10).filterMap (fun q => if p < q then some (p, q) else none))
def ipq (i : Nat) : Nat × Nat := pairsL.getD i (0, 0)
theorem ipq_ix : ∀ p, p < 10 → ∀ q, q < 10 → p < q → ipq (ix p q) = (p, q) := by decide
theorem ix_n : ∀ p, p < 10 → ∀ q, q < 10 → p < q → ix p (q + 1) = ix p q + 1 ∧ ix p q + (10 - q) = ix (p + 1) (p + 2) := by decide
theorem ix_e : ∀ p, p < 10 → ix p (p + 1) + (9 - p) = ix (p + 1) (p + 2) ∧ ix p (p + 1) ≤ 45 ∧ ix (p + 1) (p + 2) ≤ 45 := by decide
def gI (S : Sto) (db : Int32) (e f i : Nat) : Bool := tld S (ipq i).1 && tld S (ipq i).2 && dfS S db e f (ipq i).1 (ipq i).2
theorem nrS_app {p : Nat → Bool} : ∀ (d e i a : Nat), nrS p (d + e) i a = nrS p e (i + d) (nrS p d i a) := by
  intro d
  induction d with
  | zero => intro e i a; rw [Nat.zero_add]; rfl
  | succ d ih => intro e i a; rw [Nat.succ_add, nrS, ih, nrS, Nat.add_assoc i 1 d, Nat.add_comm 1 d]
theorem nrS_ltN {p : Nat → Bool} {N : Nat} : ∀ (d i a : Nat), i + d ≤ N → a < 2 ^ N → nrS p d i a < 2 ^ N := by
  intro d
  induction d with
  | zero => intro i a _ h; exact h
  | succ d ih =>
    intro i a hi h
    rw [nrS]
    refine ih _ _ (by omega) ?_
    split
    · refine Nat.or_lt_two_pow h ?_
      rw [Nat.one_shiftLeft]
      exact Nat.pow_lt_pow_right (by decide) (by omega)
    · exact h
theorem prep_10 {S : Sto} {p : Nat} {y1 : Int32} (hp : p < 10) : ∀ (d f e : Nat) (U : Sto), e + d = 10 → d < f → Sx S U → ∃ U', r_Rf_prepare_L10 y1 (nI p) f (nI e) U = some (nI 10, U') ∧ Sx S U' ∧ (∀ k, ¬ (10 * p + e ≤ k ∧ k < 10 * p + 10) → U' 102 k = U 102 k) ∧ ∀ j, e ≤ j → j < 10 → U' 102 (10 * p + j) = tmS S p j := by
  have ip : inr (nI p) 10 = true := inr_nI hp (by decide)
  have tp : (nI p).toNatClampNeg = p := q_tnI (by omega)
  intro d
  induction d with
  | zero =>
    intro f e U he hf hU
    obtain ⟨f, rfl⟩ : ∃ g, f = g + 1 := ⟨f - 1, by omega⟩
    have ee : e = 10 := by omega
    subst ee
    exact ⟨U, by rw [r_Rf_prepare_L10, if_pos (by decide)], hU, fun _ _ => rfl, fun j h1 h2 => by omega⟩
  | succ d ih =>
    intro f e U he hf hU
    obtain ⟨f, rfl⟩ : ∃ g, f = g + 1 := ⟨f - 1, by omega⟩
    have c1 : ¬ (10 : Int32) ≤ nI e := nI_ge (b := 10) (by omega) (by omega)
    have ie : inr (nI e) 10 = true := inr_nI (by omega) (by decide)
    have te : (nI e).toNatClampNeg = e := q_tnI (by omega)
    have e10 : (10 : Int32) * nI p + nI e = nI (10 * p + e) := by rw [show (10 : Int32) * nI p = nI (10 * p) from pk_mul 10 p, nI_add]
    have i2 : inr (nI (10 * p + e)) 100 = true := inr_nI (by omega) (by decide)
    have t2 : (nI (10 * p + e)).toNatClampNeg = 10 * p + e := q_tnI (by omega)
    have up : U 17 p = S 17 p := hU _ _ (by unfold Sc; omega)
    have ue : U 17 e = S 17 e := hU _ _ (by unfold Sc; omega)
    have fin : r_Rf_prepare_L10 y1 (nI p) (f + 1) (nI e) U = r_Rf_prepare_L10 y1 (nI p) f (nI (e + 1)) (sw U 102 (10 * p + e) (tmS S p e)) → ∃ U', r_Rf_prepare_L10 y1 (nI p) (f + 1) (nI e) U = some (nI 10, U') ∧ Sx S U' ∧ (∀ k, ¬ (10 * p + e ≤ k ∧ k < 10 * p + 10) → U' 102 k = U 102 k) ∧ ∀ j, e ≤ j → j < 10 → U' 102 (10 * p + j) = tmS S p j := by
      intro h
      obtain ⟨U', q1, q2, q3, q4⟩ := ih f (e + 1) (sw U 102 (10 * p + e) (tmS S p e)) (by omega) (by omega) (hU.sw (by unfold Sc; omega))
      refine ⟨U', by rw [h]; exact q1, q2, fun k hk => by rw [q3 k (by omega), rd_ne (by omega)], fun j h1 h2 => ?_⟩
      by_cases ej : j = e
      · subst ej; rw [q3 _ (by omega), sw_same]
      · exact q4 j (by omega) h2
    apply fin
    unfold tmS tld
    by_cases k1 : S 17 p = -1
    · rw [decide_eq_true k1, Bool.not_true, Bool.false_and, if_neg (by decide)]
      simp only [r_Rf_prepare_L10, if_neg c1, chk_t ip, tp, up, if_pos k1, jn_k, ite_true, e10, chk_t i2, t2, ltS_k, lt_k, nI_1]
    · by_cases k2 : S 17 e = -1
      · rw [decide_eq_true k2, Bool.not_true, Bool.and_false, if_neg (by decide)]
        simp only [r_Rf_prepare_L10, if_neg c1, chk_t ip, tp, up, if_neg k1, chk_t ie, te, ue, if_pos k2, jn_k, ite_true, e10, chk_t i2, t2, ltS_k, lt_k, nI_1]
      · have tr := trv_B (S 17 p) (S 17 e) U
        rw [hU 1 0 (by unfold Sc; omega), hU 1 1 (by unfold Sc; omega), hU 1 2 (by unfold Sc; omega)] at tr
        rw [decide_eq_false k1, decide_eq_false k2, Bool.not_false, Bool.true_and, if_pos rfl]
        simp only [r_Rf_prepare_L10, if_neg c1, chk_t ip, tp, up, if_neg k1, chk_t ie, te, ue, if_neg k2, jn_k, if_neg (show ¬ (1 : Int32) = 0 by decide), tr, Option.bind_some, e10, chk_t i2, t2, ltS_k, lt_k, nI_1]
theorem prep_2 {S : Sto} {y1 : Int32} : ∀ (d f p : Nat) (U : Sto), p + d = 10 → d < f → Sx S U → ∃ U', r_Rf_prepare_L2 y1 f (nI p) U = some (nI 10, U') ∧ Sx S U' ∧ (∀ k, k < 10 * p → U' 102 k = U 102 k) ∧ ∀ r j, p ≤ r → r < 10 → j < 10 → U' 102 (10 * r + j) = tmS S r j := by
  intro d
  induction d with
  | zero =>
    intro f p U he hf hU
    obtain ⟨f, rfl⟩ : ∃ g, f = g + 1 := ⟨f - 1, by omega⟩
    have ee : p = 10 := by omega
    subst ee
    exact ⟨U, by rw [r_Rf_prepare_L2, if_pos (by decide)], hU, fun _ _ => rfl, fun r j h1 h2 => by omega⟩
  | succ d ih =>
    intro f p U he hf hU
    obtain ⟨f, rfl⟩ : ∃ g, f = g + 1 := ⟨f - 1, by omega⟩
    have c1 : ¬ (10 : Int32) ≤ nI p := nI_ge (b := 10) (by omega) (by omega)
    obtain ⟨U1, q1, q2, q3, q4⟩ := prep_10 (y1 := y1) (show p < 10 by omega) 10 fu 0 U (by omega) (by decide) hU
    rw [show nI 0 = 0 from rfl] at q1
    obtain ⟨U', r1, r2, r3, r4⟩ := ih f (p + 1) U1 (by omega) (by omega) q2
    refine ⟨U', ?_, r2, fun k hk => by rw [r3 k (by omega), q3 k (by omega)], fun r j h1 h2 h3 => ?_⟩
    · rw [← r1]
      simp only [r_Rf_prepare_L2, if_neg c1, q1, Option.bind_some, lt_k, nI_1]
    · by_cases e : r = p
      · subst e; rw [r3 _ (by omega)]; exact q4 j (by omega) h3
      · exact r4 r j (by omega) h2 h3
def tab (S U : Sto) : Prop := ∀ r j, r < 10 → j < 10 → U 102 (10 * r + j) = tmS S r j
theorem later_B {S U : Sto} {p e f : Nat} (hp : p < 10) (he : e < 10) (hf : f < 10) (hU : tab S U) : r_Rf_later (nI p) (nI e) (nI f) U = some (tmS S p e - tmS S p f) := by
  have e1 : (10 : Int32) * nI p = nI (10 * p) := pk_mul 10 p
  have i1 : inr (nI (10 * p + e)) 100 = true := inr_nI (by omega) (by decide)
  have t1 : (nI (10 * p + e)).toNatClampNeg = 10 * p + e := q_tnI (by omega)
  have i2 : inr (nI (10 * p + f)) 100 = true := inr_nI (by omega) (by decide)
  have t2 : (nI (10 * p + f)).toNatClampNeg = 10 * p + f := q_tnI (by omega)
  simp only [r_Rf_later, e1, nI_add, chk_t i1, chk_t i2, t1, t2, hU p e hp he, hU p f hp hf]
theorem ap_22 {S U : Sto} {db : Int32} {e f p : Nat} (he : e < 10) (hf : f < 10) (hp : p < 10) (hx : Sx S U) (hU : tab S U) : ∀ (d g q a : Nat), q + d = 10 → p < q → d < g → a < 2 ^ 45 → r_Rf_apartBy_L22 (nI e) (nI f) db (nI p) g (lN a) (nI (ix p q)) (nI q) U = some (lN (nrS (gI S db e f) d (ix p q) a), nI (ix p q + d), nI 10) := by
  have ip : inr (nI p) 10 = true := inr_nI hp (by decide)
  have tp : (nI p).toNatClampNeg = p := q_tnI (by omega)
  have up : U 17 p = S 17 p := hx _ _ (by unfold Sc; omega)
  intro d
  induction d with
  | zero =>
    intro g q a hq hpq hg _
    obtain ⟨g, rfl⟩ : ∃ k, g = k + 1 := ⟨g - 1, by omega⟩
    have e : q = 10 := by omega
    subst e
    rw [r_Rf_apartBy_L22, if_pos (by decide)]
    rfl
  | succ d ih =>
    intro g q a hq hpq hg ha
    obtain ⟨g, rfl⟩ : ∃ k, g = k + 1 := ⟨g - 1, by omega⟩
    have c1 : ¬ (10 : Int32) ≤ nI q := nI_ge (b := 10) (by omega) (by omega)
    have iq : inr (nI q) 10 = true := inr_nI (by omega) (by decide)
    have tq : (nI q).toNatClampNeg = q := q_tnI (by omega)
    have uq : U 17 q = S 17 q := hx _ _ (by unfold Sc; omega)
    obtain ⟨x1, x2⟩ := ix_n p hp q (by omega) hpq
    obtain ⟨y1, y2, y3⟩ := ix_e p hp
    have xl : ix p q < 45 := by omega
    have l1 := later_B (e := e) (f := f) hp he hf hU
    have l2 := later_B (p := q) (e := e) (f := f) (by omega) he hf hU
    have eg : gI S db e f (ix p q) = (tld S p && tld S q && dfS S db e f p q) := by unfold gI; rw [ipq_ix p hp q (by omega) hpq]
    rw [nrS, show ix p q + (d + 1) = ix p (q + 1) + d by omega, ← x1]
    have ha2 : a ||| 1 <<< ix p q < 2 ^ 45 := by
      refine Nat.or_lt_two_pow ha ?_
      rw [Nat.one_shiftLeft]
      exact Nat.pow_lt_pow_right (by decide) xl
    have p64 : (2 : Nat) ^ 45 < 2 ^ 64 := by decide
    have sl : (1 : Int64) <<< ((nI (ix p q)).toInt64 &&& 63) = lN (1 <<< ix p q) := by
      rw [show (1 : Int64) = lN 1 from rfl, wb_shl 1 (by omega), Nat.one_mul, Nat.one_shiftLeft]
    have so : lN a ||| lN (1 <<< ix p q) = lN (a ||| 1 <<< ix p q) := wb_or (by omega) (by rw [Nat.one_shiftLeft]; have : 2 ^ ix p q < 2 ^ 64 := Nat.pow_lt_pow_right (by decide) (by omega); omega)
    by_cases k1 : S 17 p = -1
    · have eg' : gI S db e f (ix p q) = false := by rw [eg]; unfold tld; rw [decide_eq_true k1]; rfl
      rw [eg', if_neg (by decide), ← ih g (q + 1) a (by omega) (by omega) (by omega) ha, x1]
      simp only [r_Rf_apartBy_L22, if_neg c1, chk_t ip, tp, up, if_pos k1, jn_k, ite_true, lt_k, nI_1]
    by_cases k2 : S 17 q = -1
    · have eg' : gI S db e f (ix p q) = false := by rw [eg]; unfold tld; rw [decide_eq_true k2]; simp
      rw [eg', if_neg (by decide), ← ih g (q + 1) a (by omega) (by omega) (by omega) ha, x1]
      simp only [r_Rf_apartBy_L22, if_neg c1, chk_t ip, tp, up, if_neg k1, chk_t iq, tq, uq, if_pos k2, jn_k, ite_true, lt_k, nI_1]
    have n10 : ¬ (1 : Int32) = 0 := by decide
    by_cases k3 : r_Ma_abs ((tmS S p e - tmS S p f) - (tmS S q e - tmS S q f)) ≤ db
    · have eg' : gI S db e f (ix p q) = false := by rw [eg]; unfold dfS; rw [decide_eq_true k3]; simp
      rw [eg', if_neg (by decide), ← ih g (q + 1) a (by omega) (by omega) (by omega) ha, x1]
      simp only [r_Rf_apartBy_L22, if_neg c1, chk_t ip, tp, up, if_neg k1, chk_t iq, tq, uq, if_neg k2, jn_k, if_neg n10, l1, l2, Option.bind_some, if_pos k3, lt_k, nI_1]
    · have eg' : gI S db e f (ix p q) = true := by rw [eg]; unfold tld dfS; rw [decide_eq_false k1, decide_eq_false k2, decide_eq_false k3]; rfl
      rw [eg', if_pos rfl, ← ih g (q + 1) _ (by omega) (by omega) (by omega) ha2, x1]
      simp only [r_Rf_apartBy_L22, if_neg c1, chk_t ip, tp, up, if_neg k1, chk_t iq, tq, uq, if_neg k2, jn_k, if_neg n10, l1, l2, Option.bind_some, if_neg k3, ltJ_k, sl, so, lt_k, nI_1]
theorem ap_9 {S U : Sto} {db : Int32} {e f : Nat} (he : e < 10) (hf : f < 10) (hx : Sx S U) (hU : tab S U) : ∀ (d g p a : Nat), p + d = 10 → d < g → a < 2 ^ 45 → ∃ e1 e2, r_Rf_apartBy_L9 (nI e) (nI f) db g (lN a) (nI (ix p (p + 1))) (nI p) U = some (lN (nrS (gI S db e f) (45 - ix p (p + 1)) (ix p (p + 1)) a), e1, e2) := by
  intro d
  induction d with
  | zero =>
    intro g p a hp hg _
    obtain ⟨g, rfl⟩ : ∃ k, g = k + 1 := ⟨g - 1, by omega⟩
    have e : p = 10 := by omega
    subst e
    exact ⟨_, _, by rw [r_Rf_apartBy_L9, if_pos (by decide)]; rfl⟩
  | succ d ih =>
    intro g p a hp hg ha
    obtain ⟨g, rfl⟩ : ∃ k, g = k + 1 := ⟨g - 1, by omega⟩
    have c1 : ¬ (10 : Int32) ≤ nI p := nI_ge (b := 10) (by omega) (by omega)
    obtain ⟨y1, y2, y3⟩ := ix_e p (by omega)
    have l22 := ap_22 (db := db) he hf (show p < 10 by omega) hx hU (9 - p) fu (p + 1) a (by omega) (by omega) (by have : fu = 5000 := rfl; omega) ha
    rw [y1] at l22
    obtain ⟨e1, e2, q⟩ := ih g (p + 1) (nrS (gI S db e f) (9 - p) (ix p (p + 1)) a) (by omega) (by omega) (nrS_ltN _ _ _ (by omega) ha)
    refine ⟨e1, e2, ?_⟩
    rw [show 45 - ix p (p + 1) = (9 - p) + (45 - ix (p + 1) (p + 2)) by omega, nrS_app, y1]
    refine Eq.trans ?_ q
    simp only [r_Rf_apartBy_L9, if_neg c1, lt_k, nI_1, l22, Option.bind_some]
def mEF (S : Sto) (db : Int32) (e f : Nat) : Nat := nrS (gI S db e f) 45 0 0
theorem ap_B {S U : Sto} {db : Int32} {e f : Nat} (he : e < 10) (hf : f < 10) (hx : Sx S U) (hU : tab S U) : r_Rf_apartBy (nI e) (nI f) db U = some (lN (mEF S db e f)) := by
  obtain ⟨e1, e2, q⟩ := ap_9 (db := db) he hf hx hU 10 fu 0 0 (by omega) (by decide) (by decide)
  have q' : r_Rf_apartBy_L9 (nI e) (nI f) db fu 0 0 0 U = some (lN (mEF S db e f), e1, e2) := q
  rw [r_Rf_apartBy, q']
  rfl
def tab2 (S : Sto) (db : Int32) (U : Sto) : Prop := ∀ e f, e < f → f < 10 → jl (U 103 (2 * (10 * e + f))) (U 103 (2 * (10 * e + f) + 1)) = lN (mEF S db e f)
theorem prep_106 {S : Sto} {db : Int32} {e : Nat} (he : e < 10) : ∀ (d g f : Nat) (U : Sto), f + d = 10 → e < f → d < g → Sx S U → tab S U → ∃ U', r_Rf_prepare_L106 db (nI e) g (nI f) U = some (nI 10, U') ∧ Sx S U' ∧ tab S U' ∧ (∀ k, ¬ (2 * (10 * e + f) ≤ k ∧ k < 2 * (10 * e + 10)) → U' 103 k = U 103 k) ∧ ∀ j, f ≤ j → j < 10 → jl (U' 103 (2 * (10 * e + j))) (U' 103 (2 * (10 * e + j) + 1)) = lN (mEF S db e j) := by
  intro d
  induction d with
  | zero =>
    intro g f U hf hef hg hU hT
    obtain ⟨g, rfl⟩ : ∃ k, g = k + 1 := ⟨g - 1, by omega⟩
    have ee : f = 10 := by omega
    subst ee
    exact ⟨U, by rw [r_Rf_prepare_L106, if_pos (by decide)], hU, hT, fun _ _ => rfl, fun j h1 h2 => by omega⟩
  | succ d ih =>
    intro g f U hf hef hg hU hT
    obtain ⟨g, rfl⟩ : ∃ k, g = k + 1 := ⟨g - 1, by omega⟩
    have c1 : ¬ (10 : Int32) ≤ nI f := nI_ge (b := 10) (by omega) (by omega)
    have e10 : (10 : Int32) * nI e + nI f = nI (10 * e + f) := by rw [show (10 : Int32) * nI e = nI (10 * e) from pk_mul 10 e, nI_add]
    have i2 : inr (nI (10 * e + f)) 100 = true := inr_nI (by omega) (by decide)
    have t2 : (nI (10 * e + f)).toNatClampNeg = 10 * e + f := q_tnI (by omega)
    have ab := ap_B (db := db) he (show f < 10 by omega) hU hT
    generalize hV : sw (sw U 103 (2 * (10 * e + f)) (jhi (lN (mEF S db e f)))) 103 (2 * (10 * e + f) + 1) (jlo (lN (mEF S db e f))) = V
    have hVx : Sx S V := by rw [← hV]; exact (hU.sw (by unfold Sc; omega)).sw (by unfold Sc; omega)
    have hVt : tab S V := fun r j h1 h2 => by rw [← hV, rd_ne (by omega), rd_ne (by omega)]; exact hT r j h1 h2
    obtain ⟨U', q1, q2, q3, q4, q5⟩ := ih g (f + 1) V (by omega) (by omega) (by omega) hVx hVt
    refine ⟨U', ?_, q2, q3, fun k hk => ?_, fun j h1 h2 => ?_⟩
    · rw [← q1]
      simp only [r_Rf_prepare_L106, if_neg c1, ab, Option.bind_some, e10, chk_t i2, t2, ltS_k, hV, lt_k, nI_1]
    · rw [q4 k (by omega), ← hV, rd_ne (by omega), rd_ne (by omega)]
    · by_cases ej : j = f
      · subst ej
        rw [q4 _ (by omega), q4 _ (by omega), ← hV, sw_same, rd_ne (by omega), sw_same, jl_eq]
      · exact q5 j (by omega) h2
theorem prep_96 {S : Sto} {db : Int32} : ∀ (d g e : Nat) (U : Sto), e + d = 10 → d < g → Sx S U → tab S U → ∃ U', r_Rf_prepare_L96 db g (nI e) U = some (nI 10, U') ∧ Sx S U' ∧ (∀ k, k < 20 * e → U' 103 k = U 103 k) ∧ ∀ r f, e ≤ r → r < f → f < 10 → jl (U' 103 (2 * (10 * r + f))) (U' 103 (2 * (10 * r + f) + 1)) = lN (mEF S db r f) := by
  intro d
  induction d with
  | zero =>
    intro g e U he hg hU hT
    obtain ⟨g, rfl⟩ : ∃ k, g = k + 1 := ⟨g - 1, by omega⟩
    have ee : e = 10 := by omega
    subst ee
    exact ⟨U, by rw [r_Rf_prepare_L96, if_pos (by decide)], hU, fun _ _ => rfl, fun r f h1 h2 => by omega⟩
  | succ d ih =>
    intro g e U he hg hU hT
    obtain ⟨g, rfl⟩ : ∃ k, g = k + 1 := ⟨g - 1, by omega⟩
    have c1 : ¬ (10 : Int32) ≤ nI e := nI_ge (b := 10) (by omega) (by omega)
    obtain ⟨U1, q1, q2, q3, q4, q5⟩ := prep_106 (db := db) (show e < 10 by omega) (9 - e) fu (e + 1) U (by omega) (by omega) (by have : fu = 5000 := rfl; omega) hU hT
    obtain ⟨U', r1, r2, r3, r4⟩ := ih g (e + 1) U1 (by omega) (by omega) q2 q3
    refine ⟨U', ?_, r2, fun k hk => by rw [r3 k (by omega), q4 k (by omega)], fun r f h1 h2 h3 => ?_⟩
    · rw [← r1]
      simp only [r_Rf_prepare_L96, if_neg c1, lt_k, nI_1, q1, Option.bind_some]
    · by_cases ee : r = e
      · subst ee
        rw [r3 _ (by omega), r3 _ (by omega)]
        exact q5 f (by omega) h3
      · exact r4 r f (by omega) h2 h3
theorem prep_B {S U : Sto} {db : Int32} (hU : Sx S U) : ∃ U', r_Rf_prepare db U = some U' ∧ Sx S U' ∧ tab2 S db U' := by
  obtain ⟨U1, q1, q2, q3, q4⟩ := prep_2 (y1 := db) 10 fu 0 U (by omega) (by decide) hU
  obtain ⟨U', r1, r2, r3, r4⟩ := prep_96 (db := db) 10 fu 0 U1 (by omega) (by decide) q2 (fun r j h1 h2 => q4 r j (by omega) h1 h2)
  rw [show nI 0 = 0 from rfl] at q1 r1
  refine ⟨U', ?_, r2, fun e f h1 h2 => r4 e f (by omega) h1 h2⟩
  simp only [r_Rf_prepare, q1, r1, Option.bind_some]
