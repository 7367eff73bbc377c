/-! sets of walls -/
def unS (v : Nat → Nat) (set : Nat) : Nat → Nat → Nat → Nat
  | 0, _, a => a
  | d + 1, i, a => unS v set d (i + 1) (if set.testBit i = true then a ||| v i else a)
theorem unS_bit {v : Nat → Nat} {set : Nat} : ∀ (d i a b : Nat), (unS v set d i a).testBit b = (a.testBit b || anyS (fun w => set.testBit w && (v w).testBit b) d i) := by
  intro d
  induction d with
  | zero => intro i a b; rw [unS, anyS, Bool.or_false]
  | succ d ih =>
    intro i a b
    rw [unS, ih, anyS]
    cases h : set.testBit i with
    | true => simp [Nat.testBit_or, Bool.or_assoc]
    | false => simp
theorem un_L {a0 set : Nat} {v : Nat → Nat} {U : Sto} (hset : set < 1024) (hU : ∀ j, j < 10 → U a0 j = nI (v j)) : ∀ (d f i a : Nat), i + d = 10 → d < f → r_B_unionOf_L4 a0 10 (nI set) f (nI a) (nI i) U = some (nI (unS v set d i a), nI 10) := by
  intro d
  induction d with
  | zero =>
    intro f i a hi hf
    obtain ⟨f, rfl⟩ : ∃ g, f = g + 1 := ⟨f - 1, by omega⟩
    have e : i = 10 := by omega
    subst e
    rw [r_B_unionOf_L4, if_pos (by decide)]
    rfl
  | succ d ih =>
    intro f i a hi hf
    obtain ⟨f, rfl⟩ : ∃ g, f = g + 1 := ⟨f - 1, by omega⟩
    have c1 : ¬ nI 10 ≤ nI i := nI_ge (b := 10) (by omega) (by omega)
    have i1 : inr (nI i) 10 = true := inr_nI (by omega) (by decide)
    have t1 : (nI i).toNatClampNeg = i := q_tnI (by omega)
    have bt := bit_all i (by omega) set hset
    rw [unS, ← ih f (i + 1) _ (by omega) (by omega)]
    cases hb : set.testBit i with
    | true =>
      rw [hb, if_pos rfl] at bt
      have n1 : ¬ (1 : Int32) = 0 := by decide
      simp only [r_B_unionOf_L4, if_neg c1, bt, if_neg n1, chk_t i1, t1, hU i (by omega), nI_or, jn, lt_k, nI_1, ite_true]
    | false =>
      rw [hb, if_neg (by decide)] at bt
      simp only [r_B_unionOf_L4, if_neg c1, bt, ite_true, jn, lt_k, nI_1, if_neg (show ¬ false = true by decide)]
theorem un_B {a0 set : Nat} {v : Nat → Nat} {U : Sto} (hset : set < 1024) (hU : ∀ j, j < 10 → U a0 j = nI (v j)) : r_B_unionOf a0 10 (nI set) U = some (nI (unS v set 10 0 0)) := by
  have := un_L hset hU 10 fu 0 0 (by omega) (by decide)
  rw [show nI 0 = 0 from rfl] at this
  rw [r_B_unionOf, this]
  rfl
/-- a better set: none yet, or it has fewer members -/
def fewB (i : Nat) (b : Int32) : Bool := decide (b = -1) || decide (r_Ig_bitCount (nI i) < r_Ig_bitCount b)
def bsF (P : Nat → Bool) : Nat → Nat → Int32 → Int32
  | 0, _, b => b
  | d + 1, i, b => bsF P d (i + 1) (if (P i && fewB i b) = true then nI i else b)
theorem bsF_cong {P Q : Nat → Bool} : ∀ (d i : Nat) (b : Int32), (∀ j, i ≤ j → j < i + d → P j = Q j) → bsF P d i b = bsF Q d i b := by
  intro d
  induction d with
  | zero => intro i b _; rfl
  | succ d ih =>
    intro i b h
    rw [bsF, bsF, h i (by omega) (by omega)]
    exact ih _ _ (fun j h1 h2 => h j (by omega) (by omega))
theorem fewer_B {i : Nat} {b : Int32} : r_B_isFewer (nI i) b = b2i (fewB i b) := by
  unfold r_B_isFewer fewB
  by_cases c : b = -1
  · rw [if_pos c, decide_eq_true c]; rfl
  · rw [if_neg c, decide_eq_false c, Bool.false_or]
    by_cases c2 : r_Ig_bitCount b ≤ r_Ig_bitCount (nI i)
    · rw [if_pos c2, decide_eq_false (by rw [q_lt]; rw [q_le] at c2; omega)]; rfl
    · rw [if_neg c2, decide_eq_true (by rw [q_lt]; rw [q_le] at c2; omega)]; rfl
theorem few_LB {a0 n : Nat} {v : Nat → Nat} {ob al : Nat} {U : Sto} (hn : n ≤ 10) (hob : ob < 2147483648) (hal : al < 2147483648) (hun : ∀ set, set < 1024 → ob ||| unS v set 10 0 0 < 2147483648) (hU : ∀ j, j < 10 → U (a0 + 7) j = nI (v j)) {P : Nat → Bool} (hP : ∀ set, set < 2 ^ n → (P set = true ↔ ob ||| unS v set 10 0 0 = al)) : ∀ (d f i : Nat) (b : Int32), i + d = 2 ^ n → d < f → ∃ e, r_Tp_fewestWalls_L41 a0 (nI n) (nI ob) (nI al) f b (nI i) U = some (bsF P d i b, e) := by
  have p10 : 2 ^ n ≤ 1024 := Nat.pow_le_pow_right (n := 2) (by decide) hn
  have e1 : (1 : Int32) <<< (nI n &&& 31) = nI (2 ^ n) := by rw [bit_1 n (by omega), Nat.one_shiftLeft]
  intro d
  induction d with
  | zero =>
    intro f i b hi hf
    obtain ⟨f, rfl⟩ : ∃ g, f = g + 1 := ⟨f - 1, by omega⟩
    have e : i = 2 ^ n := by omega
    exact ⟨nI i, by rw [r_Tp_fewestWalls_L41, e1, if_pos (by rw [← e, q_le]; omega)]; rfl⟩
  | succ d ih =>
    intro f i b hi hf
    obtain ⟨f, rfl⟩ : ∃ g, f = g + 1 := ⟨f - 1, by omega⟩
    have c1 : ¬ nI (2 ^ n) ≤ nI i := nI_ge (by omega) (by omega)
    have hu := un_B (set := i) (by omega) hU
    rw [bsF]
    obtain ⟨e, q⟩ := ih f (i + 1) (if (P i && fewB i b) = true then nI i else b) (by omega) (by omega)
    refine ⟨e, ?_⟩
    rw [← q]
    have cu := hun i (by omega)
    have hPi := hP i (by omega)
    cases hk : P i with
    | true =>
      have k : ob ||| unS v i 10 0 0 = al := hPi.mp hk
      have k' : nI ob ||| nI (unS v i 10 0 0) = nI al := by rw [nI_or, k]
      rw [Bool.true_and]
      cases hf' : fewB i b with
      | true =>
        have z : ¬ r_B_isFewer (nI i) b = 0 := by rw [fewer_B, hf']; decide
        simp only [r_Tp_fewestWalls_L41, e1, if_neg c1, hu, Option.bind_some, if_pos k', if_neg z, jn, lt_k, nI_1, ite_true]
      | false =>
        have z : r_B_isFewer (nI i) b = 0 := by rw [fewer_B, hf']; decide
        simp only [r_Tp_fewestWalls_L41, e1, if_neg c1, hu, Option.bind_some, if_pos k', if_pos z, jn, lt_k, nI_1, if_neg (show ¬ false = true by decide)]
    | false =>
      have k : ¬ ob ||| unS v i 10 0 0 = al := fun z => by rw [hPi.mpr z] at hk; cases hk
      have k' : ¬ nI ob ||| nI (unS v i 10 0 0) = nI al := by
        rw [nI_or]
        exact fun z => k ((nI_eq cu (by omega)).mp z)
      rw [Bool.false_and]
      simp only [r_Tp_fewestWalls_L41, e1, if_neg c1, hu, Option.bind_some, if_neg k', jn, lt_k, nI_1, if_neg (show ¬ false = true by decide)]
/-! what the reference explains -/
def exW (S : Sto) (t n : Nat) (c0 x : Int32) (set i w : Nat) : Bool := set.testBit w && (!decide (wK S n c0 x w = -1) && nrP S t (wlP S t n c0 x w) i)
def exP (S : Sto) (t n : Nat) (c0 x : Int32) (set i : Nat) : Bool := nrP S t (S (58 + 8 * t + 1) 0) i || anyS (exW S t n c0 x set i) n 0
/-- what it heard stands in T -/
def HW (S : Sto) (n : Nat) (c0 x : Int32) (T : Sto) : Prop := (∀ j, j < n → T 117 j = wK S n c0 x j ∧ T 115 j = wT S n c0 0 x j) ∧ T 104 17 = bgT S c0 x
theorem near_i {S T : Sto} {t m : Nat} {a b : Int32} (h : tpOK S t m) (hT : Sx S T) : r_M_isNear a b T = b2i (!decide (S 0 11 < r_Ma_abs (a - b))) := by
  have u4 : T 104 4 = S 0 11 := by rw [hT _ _ (by unfold Sc; omega)]; exact h.2.2.2.2.1
  unfold r_M_isNear
  rw [u4, size_abs]
  by_cases c : S 0 11 < r_Ma_abs (a - b)
  · rw [if_pos c, decide_eq_true c]; rfl
  · rw [if_neg c, decide_eq_false c]; rfl
theorem ex_LI {S T : Sto} {t m n set i : Nat} {c0 x y3 : Int32} (h : tpOK S t m) (hn : n ≤ 10) (n5 : S 104 5 = nI n) (hset : set < 1024) (hi : i < m) (hT : Sx S T) (hW : HW S n c0 x T) : ∀ (d f w : Nat) (b : Bool), w + d = n → d < f → ∃ e, r_M_explained_L49 (nI t) (nI set) y3 (nI (20 * t + i)) f (b2i b) (nI w) T = some (b2i (b || anyS (exW S t n c0 x set i) d w), e) := by
  obtain ⟨ht, hm, h3, h4, h5, h6, h7⟩ := id h
  have e20 : (20 : Int32) * nI t = nI (20 * t) := pk_mul 20 t
  have u5 : T 104 5 = nI n := by rw [hT _ _ (by unfold Sc; omega)]; exact n5
  have i0 : inr (nI (20 * t)) 80 = true := inr_nI (by omega) (by decide)
  have t0 : (nI (20 * t)).toNatClampNeg = 20 * t := q_tnI (by omega)
  have ii : inr (nI (20 * t + i)) 80 = true := inr_nI (by omega) (by decide)
  have ti : (nI (20 * t + i)).toNatClampNeg = 20 * t + i := q_tnI (by omega)
  have v0 : T 136 (20 * t) = S (58 + 8 * t + 1) 0 := by rw [hT _ _ (by unfold Sc; omega)]; exact h7 0 (by omega)
  have vi : T 136 (20 * t + i) = S (58 + 8 * t + 1) i := by rw [hT _ _ (by unfold Sc; omega)]; exact h7 i hi
  obtain ⟨hW1, hW2⟩ := hW
  intro d
  induction d with
  | zero =>
    intro f w b hw hf
    obtain ⟨f, rfl⟩ : ∃ g, f = g + 1 := ⟨f - 1, by omega⟩
    have e : w = n := by omega
    exact ⟨nI w, by rw [r_M_explained_L49, u5, if_pos (by rw [e, q_le]; omega), anyS, Bool.or_false]⟩
  | succ d ih =>
    intro f w b hw hf
    obtain ⟨f, rfl⟩ : ∃ g, f = g + 1 := ⟨f - 1, by omega⟩
    have c1 : ¬ nI n ≤ nI w := nI_ge (by omega) (by omega)
    have i1 : inr (nI w) 10 = true := inr_nI (by omega) (by decide)
    have t1 : (nI w).toNatClampNeg = w := q_tnI (by omega)
    obtain ⟨w1, w2⟩ := hW1 w (by omega)
    have bt := bit_all w (by omega) set hset
    rw [anyS]
    cases b with
    | true =>
      obtain ⟨e, q⟩ := ih f (w + 1) true (by omega) (by omega)
      refine ⟨e, ?_⟩
      rw [Bool.true_or] at q ⊢
      rw [← q]
      simp only [r_M_explained_L49, u5, if_neg c1, if_neg (show ¬ b2i true = 0 by decide), jn, lt_k, nI_1]
      rfl
    | false =>
      rw [Bool.false_or]
      have zf : b2i false = 0 := by decide
      cases hb : set.testBit w with
      | false =>
        rw [hb] at bt
        have n1 : ¬ (if false = true then (1 : Int32) else 0) = 1 := by decide
        have ef : exW S t n c0 x set i w = false := by unfold exW; rw [hb]; rfl
        obtain ⟨e, q⟩ := ih f (w + 1) false (by omega) (by omega)
        refine ⟨e, ?_⟩
        rw [Bool.false_or] at q
        rw [ef, Bool.false_or, ← q]
        simp only [r_M_explained_L49, u5, if_neg c1, if_pos zf, bt, if_neg n1, jn, lt_k, nI_1]
        rfl
      | true =>
        rw [hb] at bt
        have n1 : (if true = true then (1 : Int32) else 0) = 1 := by decide
        by_cases k : wK S n c0 x w = -1
        · have ef : exW S t n c0 x set i w = false := by unfold exW; rw [decide_eq_true k]; simp
          obtain ⟨e, q⟩ := ih f (w + 1) false (by omega) (by omega)
          refine ⟨e, ?_⟩
          rw [Bool.false_or] at q
          rw [ef, Bool.false_or, ← q]
          simp only [r_M_explained_L49, u5, if_neg c1, if_pos zf, bt, if_pos n1, chk_t i1, t1, w1, if_pos k, jn, lt_k, nI_1]
          rfl
        · have ef : exW S t n c0 x set i w = nrP S t (wlP S t n c0 x w) i := by unfold exW; rw [hb, decide_eq_false k]; simp
          obtain ⟨e, q⟩ := ih f (w + 1) (nrP S t (wlP S t n c0 x w) i) (by omega) (by omega)
          refine ⟨e, ?_⟩
          rw [ef, ← q]
          have nr := near_i (a := S (58 + 8 * t + 1) i) (b := wlP S t n c0 x w) h hT
          have nr2 : r_M_isNear (S (58 + 8 * t + 1) i) ((S (58 + 8 * t + 1) 0 + wT S n c0 0 x w) - bgT S c0 x) T = b2i (nrP S t (wlP S t n c0 x w) i) := nr
          cases hn' : nrP S t (wlP S t n c0 x w) i with
          | true =>
            rw [hn'] at nr2
            simp only [r_M_explained_L49, u5, if_neg c1, if_pos zf, bt, if_pos n1, chk_t i1, t1, w1, if_neg k, chk_t ii, ti, e20, chk_t i0, t0, vi, v0, w2, hW2, nr2, if_neg (show ¬ b2i true = 0 by decide), jn, lt_k, nI_1]
            rfl
          | false =>
            rw [hn'] at nr2
            simp only [r_M_explained_L49, u5, if_neg c1, if_pos zf, bt, if_pos n1, chk_t i1, t1, w1, if_neg k, chk_t ii, ti, e20, chk_t i0, t0, vi, v0, w2, hW2, nr2, if_pos (show b2i false = 0 by decide), jn, lt_k, nI_1]
            rfl
theorem ex_LO {S T : Sto} {t m n set : Nat} {c0 x : Int32} (h : tpOK S t m) (hn : n ≤ 10) (n5 : S 104 5 = nI n) (hset : set < 1024) (hT : Sx S T) (hW : HW S n c0 x T) : ∀ (d f i c : Nat), i + d = m → d < f → ∃ e, r_M_explained_L8 (nI t) (nI set) f (nI c) (nI (20 * t + i)) T = some (nI (cntP (exP S t n c0 x set) d i c), e) := by
  obtain ⟨ht, hm, h3, h4, h5, h6, h7⟩ := id h
  have it : inr (nI t) 4 = true := inr_nI ht (by decide)
  have tt : (nI t).toNatClampNeg = t := q_tnI (by omega)
  have e20 : (20 : Int32) * nI t = nI (20 * t) := pk_mul 20 t
  have u3 : T 135 t = nI m := by rw [hT _ _ (by unfold Sc; omega)]; exact h4
  have i0 : inr (nI (20 * t)) 80 = true := inr_nI (by omega) (by decide)
  have t0 : (nI (20 * t)).toNatClampNeg = 20 * t := q_tnI (by omega)
  intro d
  induction d with
  | zero =>
    intro f i c hi hf
    obtain ⟨f, rfl⟩ : ∃ g, f = g + 1 := ⟨f - 1, by omega⟩
    have e : i = m := by omega
    exact ⟨nI (20 * t + i), by rw [r_M_explained_L8, chk_t it, tt, u3, e20, nI_add, if_pos (by rw [e, q_le]; omega)]; rfl⟩
  | succ d ih =>
    intro f i c hi hf
    obtain ⟨f, rfl⟩ : ∃ g, f = g + 1 := ⟨f - 1, by omega⟩
    have c1 : ¬ nI (20 * t + m) ≤ nI (20 * t + i) := nI_ge (by omega) (by omega)
    have ii : inr (nI (20 * t + i)) 80 = true := inr_nI (by omega) (by decide)
    have ti : (nI (20 * t + i)).toNatClampNeg = 20 * t + i := q_tnI (by omega)
    have v0 : T 136 (20 * t) = S (58 + 8 * t + 1) 0 := by rw [hT _ _ (by unfold Sc; omega)]; exact h7 0 (by omega)
    have vi : T 136 (20 * t + i) = S (58 + 8 * t + 1) i := by rw [hT _ _ (by unfold Sc; omega)]; exact h7 i (by omega)
    have nr := near_i (a := S (58 + 8 * t + 1) i) (b := S (58 + 8 * t + 1) 0) h hT
    have nr2 : r_M_isNear (S (58 + 8 * t + 1) i) (S (58 + 8 * t + 1) 0) T = b2i (nrP S t (S (58 + 8 * t + 1) 0) i) := nr
    obtain ⟨e1, q1⟩ := ex_LI (y3 := nI c) h hn n5 hset (show i < m by omega) hT hW n fu 0 (nrP S t (S (58 + 8 * t + 1) 0) i) (by omega) (by have : fu = 5000 := rfl; omega)
    rw [show nI 0 = 0 from rfl] at q1
    have eP : (nrP S t (S (58 + 8 * t + 1) 0) i || anyS (exW S t n c0 x set i) n 0) = exP S t n c0 x set i := rfl
    rw [eP] at q1
    obtain ⟨e, q⟩ := ih f (i + 1) (if exP S t n c0 x set i = true then c + 1 else c) (by omega) (by omega)
    refine ⟨e, ?_⟩
    rw [cntP, ← q]
    cases hx : exP S t n c0 x set i with
    | true =>
      rw [hx] at q1
      simp only [r_M_explained_L8, chk_t it, tt, u3, e20, nI_add, if_neg c1, chk_t ii, chk_t i0, ti, t0, vi, v0, nr2, lt_k, q1, Option.bind_some, if_neg (show ¬ b2i true = 0 by decide), jn, nI_1, ite_true]
      rfl
    | false =>
      rw [hx] at q1
      simp only [r_M_explained_L8, chk_t it, tt, u3, e20, nI_add, if_neg c1, chk_t ii, chk_t i0, ti, t0, vi, v0, nr2, lt_k, q1, Option.bind_some, if_pos (show b2i false = 0 by decide), jn, nI_1, if_neg (show ¬ false = true by decide)]
      rfl
theorem ex_M {S T : Sto} {t m n set : Nat} {c0 x : Int32} (h : tpOK S t m) (hn : n ≤ 10) (n5 : S 104 5 = nI n) (hset : set < 1024) (hT : Sx S T) (hW : HW S n c0 x T) : r_M_explained (nI t) (nI set) T = some (nI (cntP (exP S t n c0 x set) m 0 0)) := by
  obtain ⟨e, q⟩ := ex_LO h hn n5 hset hT hW m fu 0 0 (by omega) (by have : fu = 5000 := rfl; have := h.2.1; omega)
  rw [show nI 0 = 0 from rfl, Nat.add_zero] at q
  have e20 : (20 : Int32) * nI t = nI (20 * t) := pk_mul 20 t
  simp only [r_M_explained, lt_k, e20, q, Option.bind_some]
theorem must_L {S T : Sto} {t m n : Nat} {c0 x : Int32} {al : Nat} (h : tpOK S t m) (hn : n ≤ 10) (n5 : S 104 5 = nI n) (hal : al ≤ 20) (hT : Sx S T) (hW : HW S n c0 x T) {P : Nat → Bool} (hP : ∀ set, set < 2 ^ n → (P set = true ↔ cntP (exP S t n c0 x set) m 0 0 = al)) : ∀ (d f i : Nat) (b : Int32), i + d = 2 ^ n → d < f → (b = -1 ∨ ∃ j, j < 1024 ∧ b = nI j) → ∃ e, r_M_must_L57 (nI t) (nI al) f b (nI i) T = some (bsF P d i b, e) := by
  have p10 : 2 ^ n ≤ 1024 := Nat.pow_le_pow_right (n := 2) (by decide) hn
  have u5 : T 104 5 = nI n := by rw [hT _ _ (by unfold Sc; omega)]; exact n5
  have e1 : (1 : Int32) <<< (nI n &&& 31) = nI (2 ^ n) := by rw [bit_1 n (by omega), Nat.one_shiftLeft]
  intro d
  induction d with
  | zero =>
    intro f i b hi hf _
    obtain ⟨f, rfl⟩ : ∃ g, f = g + 1 := ⟨f - 1, by omega⟩
    have e : i = 2 ^ n := by omega
    exact ⟨nI i, by rw [r_M_must_L57, u5, e1, if_pos (by rw [← e, q_le]; omega)]; rfl⟩
  | succ d ih =>
    intro f i b hi hf hb
    obtain ⟨f, rfl⟩ : ∃ g, f = g + 1 := ⟨f - 1, by omega⟩
    have c1 : ¬ nI (2 ^ n) ≤ nI i := nI_ge (by omega) (by omega)
    have ex := ex_M (set := i) h hn n5 (by omega) hT hW
    have cl := cntP_le (q := exP S t n c0 x i) m 0 0
    have hm := h.2.1
    have eqn : (nI (cntP (exP S t n c0 x i) m 0 0) = nI al) ↔ cntP (exP S t n c0 x i) m 0 0 = al := nI_eq (by omega) (by omega)
    rw [bsF]
    obtain ⟨e, q⟩ := ih f (i + 1) (if (P i && fewB i b) = true then nI i else b) (by omega) (by omega) (by
      split
      · exact Or.inr ⟨i, by omega, rfl⟩
      · exact hb)
    refine ⟨e, ?_⟩
    rw [← q]
    have hPi := hP i (by omega)
    by_cases kb : b = -1
    · have hf' : fewB i b = true := by unfold fewB; rw [decide_eq_true kb]; rfl
      rw [hf', Bool.and_true]
      by_cases k : cntP (exP S t n c0 x i) m 0 0 = al
      · rw [hPi.mpr k]
        simp only [r_M_must_L57, u5, e1, if_neg c1, if_pos kb, ex, Option.bind_some, if_pos (eqn.mpr k), jn, lt_k, nI_1, ite_true]
      · rw [show P i = false by cases hk : P i with | false => rfl | true => exact absurd (hPi.mp hk) k]
        simp only [r_M_must_L57, u5, e1, if_neg c1, if_pos kb, ex, Option.bind_some, if_neg (fun z => k (eqn.mp z)), jn, lt_k, nI_1, if_neg (show ¬ false = true by decide)]
    · obtain ⟨j, j1, j2⟩ := hb.resolve_left kb
      have o1 := ones_all i (by omega)
      have o2 : r_M_ones b = some (r_Ig_bitCount b) := by rw [j2]; exact ones_all j j1
      by_cases c2 : r_Ig_bitCount b ≤ r_Ig_bitCount (nI i)
      · have hf' : fewB i b = false := by unfold fewB; rw [decide_eq_false kb, decide_eq_false (by rw [q_lt]; rw [q_le] at c2; omega)]; rfl
        rw [hf', Bool.and_false]
        simp only [r_M_must_L57, u5, e1, if_neg c1, if_neg kb, o1, o2, Option.bind_some, if_pos c2, jn, lt_k, nI_1, if_neg (show ¬ false = true by decide)]
      · have hf' : fewB i b = true := by unfold fewB; rw [decide_eq_false kb, decide_eq_true (by rw [q_lt]; rw [q_le] at c2; omega)]; rfl
        rw [hf', Bool.and_true]
        by_cases k : cntP (exP S t n c0 x i) m 0 0 = al
        · rw [hPi.mpr k]
          simp only [r_M_must_L57, u5, e1, if_neg c1, if_neg kb, o1, o2, Option.bind_some, if_neg c2, ex, if_pos (eqn.mpr k), jn, lt_k, nI_1, ite_true]
        · rw [show P i = false by cases hk : P i with | false => rfl | true => exact absurd (hPi.mp hk) k]
          simp only [r_M_must_L57, u5, e1, if_neg c1, if_neg kb, o1, o2, Option.bind_some, if_neg c2, ex, if_neg (fun z => k (eqn.mp z)), jn, lt_k, nI_1, if_neg (show ¬ false = true by decide)]
/-! as many clicks are the same clicks -/
theorem cntP_c {q : Nat → Bool} : ∀ (d i c : Nat), cntP q d i c = c + cntP q d i 0 := by
  intro d
  induction d with
  | zero => intro i c; rfl
  | succ d ih =>
    intro i c
    rw [cntP, cntP, ih (i + 1) (if q i = true then c + 1 else c), ih (i + 1) (if q i = true then 0 + 1 else 0)]
    by_cases k : q i = true
    · rw [if_pos k, if_pos k]; omega
    · rw [if_neg k, if_neg k]; omega
theorem cnt_mono {p q : Nat → Bool} (h : ∀ j, p j = true → q j = true) : ∀ (d i c : Nat), cntP p d i c ≤ cntP q d i c := by
  intro d
  induction d with
  | zero => intro i c; exact Nat.le_refl _
  | succ d ih =>
    intro i c
    rw [cntP, cntP, cntP_c, cntP_c (q := q)]
    have := ih (i + 1) 0
    by_cases k : p i = true
    · rw [if_pos k, if_pos (h i k)]; omega
    · rw [if_neg k]
      split <;> omega
theorem cnt_eq {p q : Nat → Bool} (h : ∀ j, p j = true → q j = true) : ∀ (d i : Nat), cntP p d i 0 = cntP q d i 0 ↔ ∀ j, i ≤ j → j < i + d → p j = q j := by
  intro d
  induction d with
  | zero => intro i; exact ⟨fun _ j h1 h2 => by omega, fun _ => rfl⟩
  | succ d ih =>
    intro i
    have m := cnt_mono h d (i + 1) 0
    rw [cntP, cntP, cntP_c, cntP_c (q := q)]
    constructor
    · intro e j h1 h2
      have hi : p i = q i := by
        cases kp : p i with
        | true => rw [h i kp]
        | false =>
          cases kq : q i with
          | false => rfl
          | true => rw [kp, kq, if_neg (by decide), if_pos rfl] at e; omega
      by_cases ej : j = i
      · rw [ej]; exact hi
      · rw [hi] at e
        exact (ih (i + 1)).mp (by omega) j (by omega) (by omega)
    · intro e
      have e1 := (ih (i + 1)).mpr (fun j h1 h2 => e j (by omega) (by omega))
      rw [e i (by omega) (by omega), e1]
theorem anyS_mono {p q : Nat → Bool} {d i : Nat} (h : ∀ j, i ≤ j → j < i + d → p j = true → q j = true) (hp : anyS p d i = true) : anyS q d i = true := by
  obtain ⟨j, h1, h2, h3⟩ := (anyS_iff d i).mp hp
  exact (anyS_iff d i).mpr ⟨j, h1, h2, h j h1 h2 h3⟩
theorem anyS_cong {p q : Nat → Bool} {d i : Nat} (h : ∀ j, i ≤ j → j < i + d → p j = q j) : anyS p d i = anyS q d i := by
  cases hp : anyS p d i with
  | true => exact (anyS_mono (fun j h1 h2 h3 => by rw [← h j h1 h2]; exact h3) hp).symm
  | false =>
    cases hq : anyS q d i with
    | false => rfl
    | true =>
      have := anyS_mono (p := q) (q := p) (fun j h1 h2 h3 => by rw [h j h1 h2]; exact h3) hq
      rw [hp] at this
      cases this
theorem wlS_bit {S : Sto} {t m n : Nat} {c0 x : Int32} {w i : Nat} : (wlS S t m n c0 x w).testBit i = (!decide (wK S n c0 x w = -1) && (decide (i < m) && nrP S t (wlP S t n c0 x w) i)) := by
  unfold wlS
  by_cases k : wK S n c0 x w = -1
  · rw [if_pos k, decide_eq_true k, Nat.zero_testBit]; rfl
  · rw [if_neg k, decide_eq_false k, nrS_bit, Nat.zero_testBit, Nat.zero_add]
    simp
theorem all_bit {S : Sto} {t m n : Nat} {c0 x : Int32} {set i : Nat} (hn : n ≤ 10) : (nrS (nrP S t (S (58 + 8 * t + 1) 0)) m 0 0 ||| unS (wlS S t m n c0 x) set 10 0 0).testBit i = (decide (i < m) && exP S t n c0 x set i) := by
  rw [Nat.testBit_or, nrS_bit, unS_bit, Nat.zero_testBit, Nat.zero_add]
  by_cases k : i < m
  · have e : anyS (fun w => set.testBit w && (wlS S t m n c0 x w).testBit i) 10 0 = anyS (exW S t n c0 x set i) n 0 := by
      rw [show 10 = n + (10 - n) by omega, anyS_add n (10 - n) 0 (fun j hj => by rw [wlS_bit, decide_eq_true (wK_hi (show n ≤ j by omega))]; simp)]
      refine anyS_cong (fun w _ _ => ?_)
      rw [wlS_bit, decide_eq_true k]
      unfold exW
      simp
    rw [e, decide_eq_true k]
    unfold exP
    simp
  · have e : anyS (fun w => set.testBit w && (wlS S t m n c0 x w).testBit i) 10 0 = false := by
      cases hp : anyS (fun w => set.testBit w && (wlS S t m n c0 x w).testBit i) 10 0 with
      | false => rfl
      | true =>
        obtain ⟨j, h1, h2, h3⟩ := (anyS_iff 10 0).mp hp
        rw [wlS_bit, decide_eq_false k] at h3
        simp at h3
    rw [e, decide_eq_false k]
    simp
theorem same_set {S : Sto} {t m n : Nat} {c0 x : Int32} {set : Nat} (hn : n ≤ 10) (hset : set < 2 ^ n) : decide (nrS (nrP S t (S (58 + 8 * t + 1) 0)) m 0 0 ||| unS (wlS S t m n c0 x) set 10 0 0 = nrS (nrP S t (S (58 + 8 * t + 1) 0)) m 0 0 ||| unS (wlS S t m n c0 x) 1023 10 0 0) = decide (cntP (exP S t n c0 x set) m 0 0 = cntP (exP S t n c0 x (2 ^ n - 1)) m 0 0) := by
  have e1023 : ∀ i, exP S t n c0 x 1023 i = exP S t n c0 x (2 ^ n - 1) i := fun i => by
    unfold exP
    congr 1
    refine anyS_cong (fun w _ hw => ?_)
    unfold exW
    rw [show 1023 = 2 ^ 10 - 1 from rfl, Nat.testBit_two_pow_sub_one, Nat.testBit_two_pow_sub_one, decide_eq_true (show w < 10 by omega), decide_eq_true (show w < n by omega)]
  have mono : ∀ i, exP S t n c0 x set i = true → exP S t n c0 x (2 ^ n - 1) i = true := fun i h => by
    unfold exP at h ⊢
    rw [Bool.or_eq_true] at h ⊢
    refine h.imp id (fun h => anyS_mono (fun w _ hw h3 => ?_) h)
    unfold exW at h3 ⊢
    rw [Bool.and_eq_true] at h3 ⊢
    refine ⟨?_, h3.2⟩
    rw [Nat.testBit_two_pow_sub_one]
    exact decide_eq_true (by omega)
  apply decide_eq_decide.mpr
  rw [cnt_eq mono]
  constructor
  · intro e j _ hj
    have h1 := all_bit (S := S) (t := t) (m := m) (c0 := c0) (x := x) (set := set) (i := j) hn
    have h2 := all_bit (S := S) (t := t) (m := m) (c0 := c0) (x := x) (set := 1023) (i := j) hn
    rw [e, h2, decide_eq_true (show j < m by omega), Bool.true_and, Bool.true_and, e1023] at h1
    exact h1.symm
  · intro e
    apply Nat.eq_of_testBit_eq
    intro j
    rw [all_bit hn, all_bit hn, e1023]
    by_cases k : j < m
    · rw [e j (by omega) (by omega)]
    · rw [decide_eq_false k]; rfl
theorem nI_sub1 {n : Nat} (hn : n ≤ 10) : nI (2 ^ n) - 1 = nI (2 ^ n - 1) := by
  have : 0 < 2 ^ n := Nat.two_pow_pos n
  exact pk_sub (b := 1) (by omega)
theorem must_B {S U : Sto} {t m n s e : Nat} (h : tpOK S t m) (hw : wInv S n) (hs : s < 10) (he : e < 10) (cs : isC (S 17 s)) (ce : isC (S 17 e)) (hU : Sx S U) :
    ∃ U', r_Tp_fewestWalls (58 + 8 * t) (nI s) (nI e) (S 0 11) (nI n) U = some (bsF (fun set => decide (cntP (exP S t n (S 17 s) (S 17 e) set) m 0 0 = cntP (exP S t n (S 17 s) (S 17 e) (2 ^ n - 1)) m 0 0)) (2 ^ n) 0 (-1), U') ∧ Sx S U' := by
  have ht := h.1
  have hn := hw.1
  have p10 : 2 ^ n ≤ 1024 := Nat.pow_le_pow_right (n := 2) (by decide) hn
  obtain ⟨U', q1, q2, q3, q4, q5, q6⟩ := lay_B h hw hs he cs ce hU
  have c0 : U' (58 + 8 * t + 1) 0 = S (58 + 8 * t + 1) 0 := q2 _ _ (sc_0 ht 0).2.2.1
  have nb := near_B (tm := S (58 + 8 * t + 1) 0) h q2
  have un := un_B (set := 1023) (by omega) q6
  rw [show nI 1023 = 1023 from rfl] at un
  have lt20 : ∀ set, nrS (nrP S t (S (58 + 8 * t + 1) 0)) m 0 0 ||| unS (wlS S t m n (S 17 s) (S 17 e)) set 10 0 0 < 2 ^ 20 := fun set => by
    apply Nat.lt_pow_two_of_testBit
    intro i hi
    rw [all_bit hn, decide_eq_false (show ¬ i < m by have := h.2.1; omega)]
    rfl
  have hob : nrS (nrP S t (S (58 + 8 * t + 1) 0)) m 0 0 < 2 ^ 20 := nrS_lt _ _ _ (by have := h.2.1; omega) (by decide)
  have fuv : fu = 5000 := rfl
  obtain ⟨e', r1⟩ := few_LB (a0 := 58 + 8 * t) (ob := nrS (nrP S t (S (58 + 8 * t + 1) 0)) m 0 0) (P := fun set => decide (cntP (exP S t n (S 17 s) (S 17 e) set) m 0 0 = cntP (exP S t n (S 17 s) (S 17 e) (2 ^ n - 1)) m 0 0)) (al := nrS (nrP S t (S (58 + 8 * t + 1) 0)) m 0 0 ||| unS (wlS S t m n (S 17 s) (S 17 e)) 1023 10 0 0) hn (by omega) (by have := lt20 1023; omega) (fun set _ => by have := lt20 set; omega) q6 (fun set hset => by rw [← same_set hn hset, decide_eq_true_eq]) (2 ^ n) fu 0 (-1) (by omega) (by omega)
  rw [show nI 0 = 0 from rfl, ← nI_or] at r1
  refine ⟨U', ?_, q2⟩
  simp only [r_Tp_fewestWalls, q1, Option.bind_some, show (0 : Int32).toNatClampNeg = 0 by decide, c0, nb, un, lt_k, r1]
theorem st_must {nL : Nat} {S : Sto} (h : Iv nL S) (x1 x2 x3 : Int32) : ∃ (r : Int32) (S1 : Sto) (S2 : Sto), r_B_must x1 x2 x3 S = some (r, S1) ∧ r_M_must x1 x2 x3 S1 = some (r, S2) ∧ Iv nL S2 := by
  obtain ⟨n, hw, hm⟩ := h.wv
  have hn := hw.1
  have p10 : 2 ^ n ≤ 1024 := Nat.pow_le_pow_right (n := 2) (by decide) hn
  have hz := h.2.2.1
  have s0 : ∀ U, Sx S U → Sx S (sw U 104 0 0) := fun U hU => hU.sw (by unfold Sc; omega)
  by_cases c1 : r_B_within x1 0 3 = 0
  · refine ⟨-1, S, sw S 104 0 0, ?_, ?_, h.t0⟩
    · simp only [r_B_must, r_B_canLay, if_pos c1, Option.bind_some, ite_true]
    · simp only [r_M_must, ltS_k, r_M_isCouple, if_pos (show r_M_isTape x1 = 0 from iM_p c1), Option.bind_some, ite_true]
  obtain ⟨t, ht, rfl⟩ := law_0 c1
  obtain ⟨m, hp⟩ := h.tp ht
  have it : inr (nI t) 4 = true := inr_nI ht (by decide)
  have tt : (nI t).toNatClampNeg = t := q_tnI (by omega)
  have cB' := can_BB (x2 := x2) (x3 := x3) hp
  cases hb : (decide (0 < m) && canT S x2 x3) with
  | false =>
    have cM' := can_MM (x2 := x2) (x3 := x3) hz hp (s0 S Sx.rf)
    rw [hb] at cB' cM'
    refine ⟨-1, S, sw S 104 0 0, ?_, ?_, h.t0⟩
    · simp only [r_B_must, cB', Option.bind_some, if_pos (show b2i false = 0 by decide)]
    · simp only [r_M_must, ltS_k, cM', Option.bind_some, if_pos (show b2i false = 0 by decide)]
  | true =>
    rw [hb] at cB'
    have hb' := hb
    rw [Bool.and_eq_true, decide_eq_true_eq] at hb'
    obtain ⟨m0, hc⟩ := hb'
    obtain ⟨s, e, s1, e1, rfl, rfl, s3, e3, s4, e4⟩ := canT_c hz hc
    obtain ⟨U', q1, q2⟩ := must_B hp hw s1 e1 s3 e3 Sx.rf
    have cM' := can_MM (x2 := nI s) (x3 := nI e) hz hp (s0 U' q2)
    rw [hb] at cM'
    have n1 : ¬ b2i true = 0 := by decide
    have hT := s0 U' q2
    have i1 : inr (nI s) 10 = true := inr_nI s1 (by decide)
    have t1 : (nI s).toNatClampNeg = s := q_tnI (by omega)
    have i2 : inr (nI e) 10 = true := inr_nI e1 (by decide)
    have t2 : (nI e).toNatClampNeg = e := q_tnI (by omega)
    have u1 : sw U' 104 0 0 110 s = S 17 s := by rw [hT _ _ (by unfold Sc; omega)]; exact s4
    have u2 : sw U' 104 0 0 110 e = S 17 e := by rw [hT _ _ (by unfold Sc; omega)]; exact e4
    obtain ⟨W, p1, p2, p3⟩ := hears_M (T := sw U' 104 0 0) (c0 := S 17 s) (t0 := 0) (b := -1) (v := 1) (x := S 17 e) hw s3 e3 ⟨by decide, by decide⟩ (Or.inl rfl) (hT.cM hm)
    obtain ⟨w1, w2, w3, w4, w5, w6, w7⟩ := p3
    have hWx : Sx S W := fun a k q => by unfold Sc at q; rw [p2 a k (by omega) (by omega)]; exact hT a k (by unfold Sc; omega)
    have hHW : HW S n (S 17 s) (S 17 e) W := ⟨fun j hj => ⟨(w7 j hj).1, (w7 j hj).2.1⟩, w1⟩
    have n5 := hm.2.2.2.1
    have w5' : W 104 5 = nI n := by rw [hWx _ _ (by unfold Sc; omega)]; exact n5
    have ex := ex_M (set := 2 ^ n - 1) hp hn n5 (by omega) hWx hHW
    have cl := cntP_le (q := exP S t n (S 17 s) (S 17 e) (2 ^ n - 1)) m 0 0
    have fuv : fu = 5000 := rfl
    obtain ⟨e', r1⟩ := must_L (al := cntP (exP S t n (S 17 s) (S 17 e) (2 ^ n - 1)) m 0 0) (P := fun set => decide (cntP (exP S t n (S 17 s) (S 17 e) set) m 0 0 = cntP (exP S t n (S 17 s) (S 17 e) (2 ^ n - 1)) m 0 0)) hp hn n5 (by have := hp.2.1; omega) hWx hHW (fun set _ => by rw [decide_eq_true_eq]) (2 ^ n) fu 0 (-1) (by omega) (by omega) (Or.inl rfl)
    rw [show nI 0 = 0 from rfl] at r1
    have eb : (1 : Int32) <<< (nI n &&& 31) - 1 = nI (2 ^ n - 1) := by rw [bit_1 n (by omega), Nat.one_shiftLeft, nI_sub1 hn]
    have u14 : S 1 4 = nI n := hw.2.1
    refine ⟨bsF (fun set => decide (cntP (exP S t n (S 17 s) (S 17 e) set) m 0 0 = cntP (exP S t n (S 17 s) (S 17 e) (2 ^ n - 1)) m 0 0)) (2 ^ n) 0 (-1), U', W, ?_, ?_, hWx.iv h⟩
    · simp only [r_B_must, cB', Option.bind_some, if_neg n1, chk_t it, ltN, tt, u14, q1]
    · simp only [r_M_must, ltS_k, cM', Option.bind_some, if_neg n1, chk_t i1, chk_t i2, t1, t2, u1, u2, p1, w5', eb, ex, r1]
