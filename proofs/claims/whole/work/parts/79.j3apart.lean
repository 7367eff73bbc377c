/-! how many couples a set of ears tells apart: the class -/
def o18 (m : Nat → Nat → Nat) (set e : Nat) : Nat → Nat → Nat → Nat
  | 0, _, a => a
  | d + 1, f, a => o18 m set e d (f + 1) (if (set.testBit e && set.testBit f) = true then a ||| m e f else a)
def o5 (m : Nat → Nat → Nat) (set : Nat) : Nat → Nat → Nat → Nat
  | 0, _, a => a
  | d + 1, e, a => o5 m set d (e + 1) (o18 m set e (9 - e) (e + 1) a)
theorem o18_bit {m : Nat → Nat → Nat} {set e i : Nat} : ∀ (d f a : Nat), (o18 m set e d f a).testBit i = (a.testBit i || anyS (fun f => set.testBit e && set.testBit f && (m e f).testBit i) d f) := by
  intro d
  induction d with
  | zero => intro f a; rw [o18, anyS, Bool.or_false]
  | succ d ih =>
    intro f a
    rw [o18, ih, anyS]
    cases h : (set.testBit e && set.testBit f) with
    | true => rw [if_pos rfl, Nat.testBit_or, Bool.or_assoc, Bool.true_and]
    | false => rw [if_neg (by decide), Bool.false_and, Bool.false_or]
theorem o5_bit {m : Nat → Nat → Nat} {set i : Nat} : ∀ (d e a : Nat), (o5 m set d e a).testBit i = (a.testBit i || anyS (fun e => anyS (fun f => set.testBit e && set.testBit f && (m e f).testBit i) (9 - e) (e + 1)) d e) := by
  intro d
  induction d with
  | zero => intro e a; rw [o5, anyS, Bool.or_false]
  | succ d ih => intro e a; rw [o5, ih, o18_bit, anyS, Bool.or_assoc]
theorem o18_lt {m : Nat → Nat → Nat} {set e N : Nat} (hm : ∀ e f, m e f < 2 ^ N) : ∀ (d f a : Nat), a < 2 ^ N → o18 m set e d f a < 2 ^ N := by
  intro d
  induction d with
  | zero => intro f a h; exact h
  | succ d ih =>
    intro f a h
    rw [o18]
    refine ih _ _ ?_
    split
    · exact Nat.or_lt_two_pow h (hm _ _)
    · exact h
theorem o5_lt {m : Nat → Nat → Nat} {set N : Nat} (hm : ∀ e f, m e f < 2 ^ N) : ∀ (d e a : Nat), a < 2 ^ N → o5 m set d e a < 2 ^ N := by
  intro d
  induction d with
  | zero => intro e a h; exact h
  | succ d ih => intro e a h; rw [o5]; exact ih _ _ (o18_lt hm _ _ _ h)
theorem mEF_lt {S : Sto} {db : Int32} {e f : Nat} : mEF S db e f < 2 ^ 45 := nrS_ltN _ _ _ (by omega) (by decide)
theorem ca_18 {S U : Sto} {db : Int32} {set e : Nat} (hset : set < 1024) (he : e < 10) (hU : tab2 S db U) : ∀ (d g f a : Nat), f + d = 10 → e < f → d < g → a < 2 ^ 45 → r_Rf_countApart_L18 (nI set) (nI e) g (lN a) (nI f) U = some (lN (o18 (mEF S db) set e d f a), nI 10) := by
  have b1 := bit_all e he set hset
  intro d
  induction d with
  | zero =>
    intro g f a hf hef hg _
    obtain ⟨g, rfl⟩ : ∃ k, g = k + 1 := ⟨g - 1, by omega⟩
    have ee : f = 10 := by omega
    subst ee
    rw [r_Rf_countApart_L18, if_pos (by decide)]
    rfl
  | succ d ih =>
    intro g f a hf hef hg ha
    obtain ⟨g, rfl⟩ : ∃ k, g = k + 1 := ⟨g - 1, by omega⟩
    have c1 : ¬ (10 : Int32) ≤ nI f := nI_ge (b := 10) (by omega) (by omega)
    have b2 := bit_all f (by omega) set hset
    have e10 : (10 : Int32) * nI e + nI f = nI (10 * e + f) := by rw [show (10 : Int32) * nI e = nI (10 * e) from pk_mul 10 e, nI_add]
    have i2 : inr (nI (10 * e + f)) 100 = true := inr_nI (by omega) (by decide)
    have t2 : (nI (10 * e + f)).toNatClampNeg = 10 * e + f := q_tnI (by omega)
    have p64 : (2 : Nat) ^ 45 < 2 ^ 64 := by decide
    have ml := mEF_lt (S := S) (db := db) (e := e) (f := f)
    have n10 : ¬ (1 : Int32) = 0 := by decide
    rw [o18]
    cases k1 : set.testBit e with
    | false =>
      rw [k1, if_neg (by decide)] at b1
      rw [Bool.false_and, if_neg (by decide), ← ih g (f + 1) a (by omega) (by omega) (by omega) ha]
      simp only [r_Rf_countApart_L18, if_neg c1, b1, ite_true, jn, lt_k, nI_1]
    | true =>
      rw [k1, if_pos rfl] at b1
      rw [Bool.true_and]
      cases k2 : set.testBit f with
      | false =>
        rw [k2, if_neg (by decide)] at b2
        rw [if_neg (by decide), ← ih g (f + 1) a (by omega) (by omega) (by omega) ha]
        simp only [r_Rf_countApart_L18, if_neg c1, b1, if_neg n10, b2, ite_true, jn, lt_k, nI_1]
      | true =>
        rw [k2, if_pos rfl] at b2
        rw [if_pos rfl, ← ih g (f + 1) _ (by omega) (by omega) (by omega) (Nat.or_lt_two_pow ha ml)]
        simp only [r_Rf_countApart_L18, if_neg c1, b1, if_neg n10, b2, e10, chk_t i2, t2, hU e f hef (by omega), ltJ_k, wb_or (a := a) (b := mEF S db e f) (by omega) (by omega), jn, lt_k, nI_1]
theorem ca_5 {S U : Sto} {db : Int32} {set : Nat} (hset : set < 1024) (hU : tab2 S db U) : ∀ (d g e a : Nat), e + d = 10 → d < g → a < 2 ^ 45 → r_Rf_countApart_L5 (nI set) g (lN a) (nI e) U = some (lN (o5 (mEF S db) set d e a), nI 10) := by
  intro d
  induction d with
  | zero =>
    intro g e a he hg _
    obtain ⟨g, rfl⟩ : ∃ k, g = k + 1 := ⟨g - 1, by omega⟩
    have ee : e = 10 := by omega
    subst ee
    rw [r_Rf_countApart_L5, if_pos (by decide)]
    rfl
  | succ d ih =>
    intro g e a he hg ha
    obtain ⟨g, rfl⟩ : ∃ k, g = k + 1 := ⟨g - 1, by omega⟩
    have c1 : ¬ (10 : Int32) ≤ nI e := nI_ge (b := 10) (by omega) (by omega)
    have l18 := ca_18 (db := db) hset (show e < 10 by omega) hU (9 - e) fu (e + 1) a (by omega) (by omega) (by have : fu = 5000 := rfl; omega) ha
    rw [o5, ← ih g (e + 1) _ (by omega) (by omega) (o18_lt (fun e f => mEF_lt) _ _ _ ha)]
    simp only [r_Rf_countApart_L5, if_neg c1, lt_k, nI_1, l18, Option.bind_some]
/-- some two ears of the set tell p and q apart -/
def tlA (S : Sto) (db : Int32) (set p q : Nat) : Bool := anyS (fun e => anyS (fun f => set.testBit e && set.testBit f && dfS S db e f p q) (9 - e) (e + 1)) 10 0
def hI (S : Sto) (db : Int32) (set i : Nat) : Bool := tld S (ipq i).1 && tld S (ipq i).2 && tlA S db set (ipq i).1 (ipq i).2
theorem anyS_and {p : Nat → Bool} {b : Bool} : ∀ (d i : Nat), anyS (fun j => b && p j) d i = (b && anyS p d i) := by
  intro d
  induction d with
  | zero => intro i; cases b <;> rfl
  | succ d ih => intro i; rw [anyS, ih, anyS]; cases b <;> rfl
theorem o5_h {S : Sto} {db : Int32} {set i : Nat} (hi : i < 45) : (o5 (mEF S db) set 10 0 0).testBit i = hI S db set i := by
  rw [o5_bit, Nat.zero_testBit, Bool.false_or]
  have mb : ∀ e f, (mEF S db e f).testBit i = gI S db e f i := fun e f => by
    unfold mEF
    rw [nrS_bit, Nat.zero_testBit, Nat.zero_add, decide_eq_true hi]
    simp
  unfold hI tlA
  rw [← anyS_and]
  refine anyS_cong (fun e _ _ => ?_)
  rw [← anyS_and]
  refine anyS_cong (fun f _ _ => ?_)
  rw [mb]
  unfold gI
  cases set.testBit e <;> cases set.testBit f <;> cases tld S (ipq i).1 <;> cases tld S (ipq i).2 <;> rfl
theorem cntP_cong {p q : Nat → Bool} : ∀ (d i c : Nat), (∀ j, i ≤ j → j < i + d → p j = q j) → cntP p d i c = cntP q d i c := by
  intro d
  induction d with
  | zero => intro i c _; rfl
  | succ d ih =>
    intro i c h
    rw [cntP, cntP, h i (by omega) (by omega)]
    exact ih _ _ (fun j h1 h2 => h j (by omega) (by omega))
theorem ca_B {S U : Sto} {db : Int32} {set : Nat} (hset : set < 1024) (hU : tab2 S db U) : r_Rf_countApart (nI set) U = some (nI (cntP (hI S db set) 45 0 0)) := by
  have l5 := ca_5 hset hU 10 fu 0 0 (by omega) (by decide) (by decide)
  have l5' : r_Rf_countApart_L5 (nI set) fu 0 0 U = some (lN (o5 (mEF S db) set 10 0 0), nI 10) := l5
  have lt := o5_lt (m := mEF S db) (set := set) (fun e f => mEF_lt) 10 0 0 (by decide)
  rw [r_Rf_countApart, l5']
  simp only [Option.bind_some]
  rw [bc_L lt, cntP_cong 45 0 0 (fun j _ hj => o5_h (by omega))]
/-! the reference -/
def tabM (S T : Sto) : Prop := ∀ r j, r < 10 → j < 10 → tld S r = true → tld S j = true → T 145 (10 * r + j) = tmS S r j
theorem tb_L {S : Sto} {n : Nat} (hz : gSpo S) (hcm : cM S n S) : ∀ (d g k : Nat) (T : Sto), k + d = 100 → d < g → Sx S T → ∃ e T', r_M_findsTable_L2 g (nI k) T = some (e, T') ∧ Sx S T' ∧ (∀ j, j < k → T' 145 j = T 145 j) ∧ ∀ j, k ≤ j → j < 100 → tld S (j / 10) = true → tld S (j % 10) = true → T' 145 j = tmS S (j / 10) (j % 10) := by
  intro d
  induction d with
  | zero =>
    intro g k T hk hg hT
    obtain ⟨g, rfl⟩ : ∃ q, g = q + 1 := ⟨g - 1, by omega⟩
    have e : k = 100 := by omega
    subst e
    exact ⟨nI 100, T, by rw [r_M_findsTable_L2, if_pos (by decide)], hT, fun _ _ => rfl, fun j h1 h2 => by omega⟩
  | succ d ih =>
    intro g k T hk hg hT
    obtain ⟨g, rfl⟩ : ∃ q, g = q + 1 := ⟨g - 1, by omega⟩
    have c1 : ¬ (100 : Int32) ≤ nI k := nI_ge (b := 100) (by omega) (by omega)
    have e1 : nI k / 10 = nI (k / 10) := pk_div (d := 10) (by omega) (by omega) (by omega)
    have e2 : nI k - nI (k / 10) * 10 = nI (k % 10) := by rw [← e1]; exact pk_rem (d := 10) (by omega) (by omega) (by omega)
    have s1 := told_M (x := nI (k / 10)) hz hT
    have s2 := told_M (x := nI (k % 10)) hz hT
    rw [toldS_k (by omega)] at s1 s2
    have s1' : r_M_isSpot (nI (k / 10)) T = some (b2i (tld S (k / 10))) := s1
    have s2' : r_M_isSpot (nI (k % 10)) T = some (b2i (tld S (k % 10))) := s2
    have skip : (tld S (k / 10) && tld S (k % 10)) = false → r_M_findsTable_L2 (g + 1) (nI k) T = r_M_findsTable_L2 g (nI (k + 1)) T → ∃ e T', r_M_findsTable_L2 (g + 1) (nI k) T = some (e, T') ∧ Sx S T' ∧ (∀ j, j < k → T' 145 j = T 145 j) ∧ ∀ j, k ≤ j → j < 100 → tld S (j / 10) = true → tld S (j % 10) = true → T' 145 j = tmS S (j / 10) (j % 10) := by
      intro h1 h2
      obtain ⟨e, T', q1, q2, q3, q4⟩ := ih g (k + 1) T (by omega) (by omega) hT
      refine ⟨e, T', by rw [h2]; exact q1, q2, fun j hj => q3 j (by omega), fun j g1 g2 g3 g4 => ?_⟩
      by_cases ej : j = k
      · subst ej; rw [g3, g4] at h1; cases h1
      · exact q4 j (by omega) g2 g3 g4
    cases k1 : tld S (k / 10) with
    | false =>
      rw [k1] at s1'
      refine skip (by rw [k1]; rfl) ?_
      simp only [r_M_findsTable_L2, if_neg c1, e1, e2, s1', Option.bind_some, if_pos (show b2i false = 0 by decide), jn, lt_k, nI_1]
    | true =>
      rw [k1] at s1'
      cases k2 : tld S (k % 10) with
      | false =>
        rw [k2] at s2'
        refine skip (by rw [k2]; simp) ?_
        simp only [r_M_findsTable_L2, if_neg c1, e1, e2, s1', Option.bind_some, if_neg (show ¬ b2i true = 0 by decide), s2', if_pos (show b2i false = 0 by decide), jn, lt_k, nI_1]
      | true =>
        rw [k2] at s2'
        have n1 : ¬ b2i true = 0 := by decide
        have c17 : ∀ r, r < 10 → tld S r = true → isC (S 17 r) ∧ S 110 r = S 17 r := fun r hr ht => ⟨(hz r hr).2.resolve_left (by unfold tld at ht; simpa using ht), (hz r hr).1⟩
        obtain ⟨a1, a2⟩ := c17 (k / 10) (by omega) k1
        obtain ⟨a3, a4⟩ := c17 (k % 10) (by omega) k2
        have i1 : inr (nI (k / 10)) 10 = true := inr_nI (by omega) (by decide)
        have t1 : (nI (k / 10)).toNatClampNeg = k / 10 := q_tnI (by omega)
        have i2 : inr (nI (k % 10)) 10 = true := inr_nI (by omega) (by decide)
        have t2 : (nI (k % 10)).toNatClampNeg = k % 10 := q_tnI (by omega)
        have i3 : inr (nI k) 100 = true := inr_nI (by omega) (by decide)
        have t3 : (nI k).toNatClampNeg = k := q_tnI (by omega)
        have u1 : T 110 (k / 10) = S 17 (k / 10) := by rw [hT _ _ (by unfold Sc; omega)]; exact a2
        have u2 : T 110 (k % 10) = S 17 (k % 10) := by rw [hT _ _ (by unfold Sc; omega)]; exact a4
        have fd := trv_M a1 a3 T
        obtain ⟨m1, m2, m3, -⟩ := hT.cM hcm
        rw [m1, m2, m3] at fd
        have et : trv (S 1 0) (S 1 1) (S 1 2) (S 17 (k / 10)) (S 17 (k % 10)) = tmS S (k / 10) (k % 10) := by unfold tmS; rw [k1, k2]; rfl
        rw [et] at fd
        obtain ⟨e, T', q1, q2, q3, q4⟩ := ih g (k + 1) (sw T 145 k (tmS S (k / 10) (k % 10))) (by omega) (by omega) (hT.sw (by unfold Sc; omega))
        refine ⟨e, T', ?_, q2, fun j hj => by rw [q3 j (by omega), rd_ne (by omega)], fun j g1 g2 g3 g4 => ?_⟩
        · rw [← q1]
          simp only [r_M_findsTable_L2, if_neg c1, e1, e2, s1', Option.bind_some, if_neg n1, s2', chk_t i1, chk_t i2, t1, t2, u1, u2, fd, chk_t i3, t3, ltS_k, jn, lt_k, nI_1]
        · by_cases ej : j = k
          · subst ej; rw [q3 _ (by omega), sw_same]
          · exact q4 j (by omega) g2 g3 g4
theorem tb_M {S T : Sto} {n : Nat} (hz : gSpo S) (hcm : cM S n S) (hT : Sx S T) : ∃ T', r_M_findsTable T = some T' ∧ Sx S T' ∧ tabM S T' := by
  obtain ⟨e, T', q1, q2, q3, q4⟩ := tb_L hz hcm 100 fu 0 T (by omega) (by decide) hT
  rw [show nI 0 = 0 from rfl] at q1
  refine ⟨T', by rw [r_M_findsTable, q1]; rfl, q2, fun r j h1 h2 h3 h4 => ?_⟩
  have d1 : (10 * r + j) / 10 = r := by omega
  have d2 : (10 * r + j) % 10 = j := by omega
  have := q4 (10 * r + j) (by omega) (by omega)
  rw [d1, d2] at this
  exact this h3 h4
def taE (e : Int32) : Bool → Option ((Int32) ⊕ Int32)
  | true => some (.inr 1)
  | false => some (.inl e)
theorem ta_16 {S T : Sto} {db : Int32} {set p q e : Nat} (hset : set < 1024) (hsub : ∀ k, k < 10 → set.testBit k = true → tld S k = true) (hp : p < 10) (hq : q < 10) (tp : tld S p = true) (tq : tld S q = true) (he : e < 10) (hT : tabM S T) : ∀ (d g f : Nat), f + d = 10 → e < f → d < g → r_M_tellsApart_L16 (nI set) (nI p) (nI q) db (nI e) g (nI f) T = taE (nI 10) (anyS (fun f => set.testBit e && set.testBit f && dfS S db e f p q) d f) := by
  have b1 := bit_all e he set hset
  intro d
  induction d with
  | zero =>
    intro g f hf hef hg
    obtain ⟨g, rfl⟩ : ∃ k, g = k + 1 := ⟨g - 1, by omega⟩
    have ee : f = 10 := by omega
    subst ee
    rw [r_M_tellsApart_L16, if_pos (by decide)]
    rfl
  | succ d ih =>
    intro g f hf hef hg
    obtain ⟨g, rfl⟩ : ∃ k, g = k + 1 := ⟨g - 1, by omega⟩
    have c1 : ¬ (10 : Int32) ≤ nI f := nI_ge (b := 10) (by omega) (by omega)
    have b2 := bit_all f (by omega) set hset
    have n10 : ¬ (1 : Int32) = 0 := by decide
    have m10 : ∀ r, (10 : Int32) * nI r = nI (10 * r) := fun r => pk_mul 10 r
    have ii : ∀ r j, r < 10 → j < 10 → inr (nI (10 * r + j)) 100 = true := fun r j h1 h2 => inr_nI (by omega) (by decide)
    have tt : ∀ r j, r < 10 → j < 10 → (nI (10 * r + j)).toNatClampNeg = 10 * r + j := fun r j h1 h2 => q_tnI (by omega)
    rw [anyS]
    cases k1 : set.testBit e with
    | false =>
      rw [k1, if_neg (by decide)] at b1
      have := ih g (f + 1) (by omega) (by omega) (by omega)
      rw [k1] at this
      rw [Bool.false_and, Bool.false_and, Bool.false_or, ← this]
      simp only [r_M_tellsApart_L16, if_neg c1, b1, ite_true, jn, lt_k, nI_1]
    | true =>
      have ihv := ih g (f + 1) (by omega) (by omega) (by omega)
      rw [k1] at ihv
      rw [k1, if_pos rfl] at b1
      cases k2 : set.testBit f with
      | false =>
        rw [k2, if_neg (by decide)] at b2
        rw [Bool.and_false, Bool.false_and, Bool.false_or, ← ihv]
        simp only [r_M_tellsApart_L16, if_neg c1, b1, if_neg n10, b2, ite_true, jn, lt_k, nI_1]
      | true =>
        rw [k2, if_pos rfl] at b2
        have te := hsub e he k1
        have tf := hsub f (by omega) k2
        have v1 := hT p e hp he tp te
        have v2 := hT p f hp (by omega) tp tf
        have v3 := hT q e hq he tq te
        have v4 := hT q f hq (by omega) tq tf
        have o1 := ii p e hp he
        have o2 := ii p f hp (by omega)
        have o3 := ii q e hq he
        have o4' := ii q f hq (by omega)
        have w1 := tt p e hp he
        have w2 := tt p f hp (by omega)
        have w3 := tt q e hq he
        have w4 := tt q f hq (by omega)
        by_cases k3 : r_Ma_abs ((tmS S p e - tmS S p f) - (tmS S q e - tmS S q f)) ≤ db
        · have ed : dfS S db e f p q = false := by unfold dfS; rw [decide_eq_true k3]; rfl
          rw [ed, Bool.and_false, Bool.false_or, ← ihv]
          simp only [r_M_tellsApart_L16, if_neg c1, b1, if_neg n10, b2, m10, nI_add, chk_t o1, chk_t o2, chk_t o3, chk_t o4', w1, w2, w3, w4, v1, v2, v3, v4, lt_k, size_abs, if_pos k3, jn, nI_1]
        · have ed : dfS S db e f p q = true := by unfold dfS; rw [decide_eq_false k3]; rfl
          rw [ed, Bool.and_true, Bool.and_true, Bool.true_or]
          simp only [r_M_tellsApart_L16, if_neg c1, b1, if_neg n10, b2, m10, nI_add, chk_t o1, chk_t o2, chk_t o3, chk_t o4', w1, w2, w3, w4, v1, v2, v3, v4, lt_k, size_abs, if_neg k3, jn, taE]
theorem ta_3 {S T : Sto} {db : Int32} {set p q : Nat} (hset : set < 1024) (hsub : ∀ k, k < 10 → set.testBit k = true → tld S k = true) (hp : p < 10) (hq : q < 10) (tp : tld S p = true) (tq : tld S q = true) (hT : tabM S T) : ∀ (d g e : Nat), e + d = 10 → d < g → r_M_tellsApart_L3 (nI set) (nI p) (nI q) db g (nI e) T = taE (nI 10) (anyS (fun e => anyS (fun f => set.testBit e && set.testBit f && dfS S db e f p q) (9 - e) (e + 1)) d e) := by
  intro d
  induction d with
  | zero =>
    intro g e he hg
    obtain ⟨g, rfl⟩ : ∃ k, g = k + 1 := ⟨g - 1, by omega⟩
    have ee : e = 10 := by omega
    subst ee
    rw [r_M_tellsApart_L3, if_pos (by decide)]
    rfl
  | succ d ih =>
    intro g e he hg
    obtain ⟨g, rfl⟩ : ∃ k, g = k + 1 := ⟨g - 1, by omega⟩
    have c1 : ¬ (10 : Int32) ≤ nI e := nI_ge (b := 10) (by omega) (by omega)
    have l16 := ta_16 (db := db) hset hsub hp hq tp tq (show e < 10 by omega) hT (9 - e) fu (e + 1) (by omega) (by omega) (by have : fu = 5000 := rfl; omega)
    rw [anyS]
    cases k : anyS (fun f => set.testBit e && set.testBit f && dfS S db e f p q) (9 - e) (e + 1) with
    | true =>
      rw [k, taE] at l16
      rw [Bool.true_or]
      simp only [r_M_tellsApart_L3, if_neg c1, lt_k, nI_1, l16, Option.bind_some, taE]
    | false =>
      rw [k, taE] at l16
      rw [Bool.false_or, ← ih g (e + 1) (by omega) (by omega)]
      simp only [r_M_tellsApart_L3, if_neg c1, lt_k, nI_1, l16, Option.bind_some]
theorem ta_M {S T : Sto} {db : Int32} {set p q : Nat} (hset : set < 1024) (hsub : ∀ k, k < 10 → set.testBit k = true → tld S k = true) (hp : p < 10) (hq : q < 10) (tp : tld S p = true) (tq : tld S q = true) (hT : tabM S T) : r_M_tellsApart (nI set) (nI p) (nI q) db T = some (b2i (tlA S db set p q)) := by
  have l3 := ta_3 (db := db) hset hsub hp hq tp tq hT 10 fu 0 (by omega) (by decide)
  rw [show nI 0 = 0 from rfl] at l3
  unfold tlA
  cases k : anyS (fun e => anyS (fun f => set.testBit e && set.testBit f && dfS S db e f p q) (9 - e) (e + 1)) 10 0 with
  | true =>
    rw [k, taE] at l3
    simp only [r_M_tellsApart, l3, Option.bind_some]
    rfl
  | false =>
    rw [k, taE] at l3
    simp only [r_M_tellsApart, l3, Option.bind_some]
    rfl
theorem am_18 {S T : Sto} {db : Int32} {set p : Nat} (hz : gSpo S) (hset : set < 1024) (hsub : ∀ k, k < 10 → set.testBit k = true → tld S k = true) (hp : p < 10) (hx : Sx S T) (hT : tabM S T) : ∀ (d g q c : Nat), q + d = 10 → p < q → d < g → r_M_apartBy_L18 (nI set) db (nI p) g (nI c) (nI q) T = some (nI (cntP (hI S db set) d (ix p q) c), nI 10) := by
  have s1 := told_M (x := nI p) hz hx
  rw [toldS_k hp] at s1
  have s1' : r_M_isSpot (nI p) T = some (b2i (tld S p)) := s1
  intro d
  induction d with
  | zero =>
    intro g q c hq hpq hg
    obtain ⟨g, rfl⟩ : ∃ k, g = k + 1 := ⟨g - 1, by omega⟩
    have ee : q = 10 := by omega
    subst ee
    rw [r_M_apartBy_L18, if_pos (by decide)]
    rfl
  | succ d ih =>
    intro g q c hq hpq hg
    obtain ⟨g, rfl⟩ : ∃ k, g = k + 1 := ⟨g - 1, by omega⟩
    have c1 : ¬ (10 : Int32) ≤ nI q := nI_ge (b := 10) (by omega) (by omega)
    obtain ⟨x1, x2⟩ := ix_n p hp q (by omega) hpq
    have s2 := told_M (x := nI q) hz hx
    rw [toldS_k (by omega)] at s2
    have s2' : r_M_isSpot (nI q) T = some (b2i (tld S q)) := s2
    have eh : hI S db set (ix p q) = (tld S p && tld S q && tlA S db set p q) := by unfold hI; rw [ipq_ix p hp q (by omega) hpq]
    rw [cntP, ← x1, ← ih g (q + 1) _ (by omega) (by omega) (by omega), eh]
    cases k1 : tld S p with
    | false =>
      rw [k1] at s1'
      simp only [r_M_apartBy_L18, if_neg c1, s1', Option.bind_some, if_pos (show b2i false = 0 by decide), jn, lt_k, nI_1, Bool.false_and, if_neg (show ¬ false = true by decide)]
    | true =>
      rw [k1] at s1'
      cases k2 : tld S q with
      | false =>
        rw [k2] at s2'
        simp only [r_M_apartBy_L18, if_neg c1, s1', Option.bind_some, if_neg (show ¬ b2i true = 0 by decide), s2', if_pos (show b2i false = 0 by decide), jn, lt_k, nI_1, Bool.and_false, Bool.false_and, if_neg (show ¬ false = true by decide)]
      | true =>
        rw [k2] at s2'
        have ta := ta_M (db := db) hset hsub hp (show q < 10 by omega) k1 k2 hT
        cases k3 : tlA S db set p q with
        | false =>
          rw [k3] at ta
          simp only [r_M_apartBy_L18, if_neg c1, s1', Option.bind_some, if_neg (show ¬ b2i true = 0 by decide), s2', ta, if_pos (show b2i false = 0 by decide), jn, lt_k, nI_1, Bool.and_false, if_neg (show ¬ false = true by decide)]
        | true =>
          rw [k3] at ta
          simp only [r_M_apartBy_L18, if_neg c1, s1', Option.bind_some, if_neg (show ¬ b2i true = 0 by decide), s2', ta, jn, lt_k, nI_1, Bool.and_true, ite_true]
theorem am_5 {S T : Sto} {db : Int32} {set : Nat} (hz : gSpo S) (hset : set < 1024) (hsub : ∀ k, k < 10 → set.testBit k = true → tld S k = true) (hx : Sx S T) (hT : tabM S T) : ∀ (d g p c : Nat), p + d = 10 → d < g → r_M_apartBy_L5 (nI set) db g (nI c) (nI p) T = some (nI (cntP (hI S db set) (45 - ix p (p + 1)) (ix p (p + 1)) c), nI 10) := by
  intro d
  induction d with
  | zero =>
    intro g p c hp hg
    obtain ⟨g, rfl⟩ : ∃ k, g = k + 1 := ⟨g - 1, by omega⟩
    have ee : p = 10 := by omega
    subst ee
    rw [r_M_apartBy_L5, if_pos (by decide)]
    rfl
  | succ d ih =>
    intro g p c hp hg
    obtain ⟨g, rfl⟩ : ∃ k, g = k + 1 := ⟨g - 1, by omega⟩
    have c1 : ¬ (10 : Int32) ≤ nI p := nI_ge (b := 10) (by omega) (by omega)
    obtain ⟨y1, y2, y3⟩ := ix_e p (by omega)
    have l18 := am_18 (db := db) hz hset hsub (show p < 10 by omega) hx hT (9 - p) fu (p + 1) c (by omega) (by omega) (by have : fu = 5000 := rfl; omega)
    rw [show 45 - ix p (p + 1) = (9 - p) + (45 - ix (p + 1) (p + 2)) by omega, cntP_app, y1]
    refine Eq.trans ?_ (ih g (p + 1) _ (by omega) (by omega))
    simp only [r_M_apartBy_L5, if_neg c1, lt_k, nI_1, l18, Option.bind_some]
theorem am_M {S T : Sto} {db : Int32} {set : Nat} (hz : gSpo S) (hset : set < 1024) (hsub : ∀ k, k < 10 → set.testBit k = true → tld S k = true) (hx : Sx S T) (hT : tabM S T) : r_M_apartBy (nI set) db T = some (nI (cntP (hI S db set) 45 0 0)) := by
  have l5 := am_5 (db := db) hz hset hsub hx hT 10 fu 0 0 (by omega) (by decide)
  have l5' : r_M_apartBy_L5 (nI set) db fu 0 0 T = some (nI (cntP (hI S db set) 45 0 0), nI 10) := l5
  rw [r_M_apartBy, l5']
  rfl
