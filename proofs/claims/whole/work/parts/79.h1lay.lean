/-! tapes -/
theorem nI_or (a b : Nat) : nI a ||| nI b = nI (a ||| b) := by
  apply Int32.toBitVec_inj.mp
  rw [Int32.toBitVec_or]
  apply BitVec.eq_of_toNat_eq
  show a % 2 ^ 32 ||| b % 2 ^ 32 = (a ||| b) % 2 ^ 32
  rw [Nat.or_mod_two_pow]
theorem bit_1 : ∀ i, i < 31 → (1 : Int32) <<< (nI i &&& 31) = nI (1 <<< i) := by decide
def nrS (p : Nat → Bool) : Nat → Nat → Nat → Nat
  | 0, _, a => a
  | d + 1, i, a => nrS p d (i + 1) (if p i = true then a ||| 1 <<< i else a)
theorem nrS_bit {p : Nat → Bool} : ∀ (d i a j : Nat), (nrS p d i a).testBit j = (a.testBit j || (decide (i ≤ j) && decide (j < i + d) && p j)) := by
  intro d
  induction d with
  | zero =>
    intro i a j
    rw [nrS]
    by_cases h : i ≤ j
    · have : ¬ j < i + 0 := by omega
      rw [decide_eq_false this]
      simp
    · rw [decide_eq_false h]
      simp
  | succ d ih =>
    intro i a j
    rw [nrS, ih]
    by_cases e : j = i
    · subst e
      have h1 : ¬ j + 1 ≤ j := by omega
      have h2 : j < j + (d + 1) := by omega
      cases hp : p j with
      | true => simp [h1, h2, Nat.testBit_or, Nat.one_shiftLeft]
      | false => simp
    · have h1 : (i + 1 ≤ j) = (i ≤ j) := propext (by omega)
      have h2 : (j < i + 1 + d) = (j < i + (d + 1)) := propext (by omega)
      have h3 : ¬ i = j := fun q => e q.symm
      have h4 : (if p i = true then a ||| 1 <<< i else a).testBit j = a.testBit j := by
        split
        · simp [Nat.testBit_or, Nat.one_shiftLeft, Nat.testBit_two_pow, h3]
        · rfl
      rw [h4]
      simp only [h1, h2]
theorem nrS_lt {p : Nat → Bool} : ∀ (d i a : Nat), i + d ≤ 20 → a < 2 ^ 20 → nrS p d i a < 2 ^ 20 := by
  intro d
  induction d with
  | zero => intro i a _ h; exact h
  | succ d ih =>
    intro i a hi h
    rw [nrS]
    refine ih _ _ (by omega) ?_
    split
    · refine Nat.or_lt_two_pow h ?_
      rw [Nat.one_shiftLeft]
      exact Nat.pow_lt_pow_right (by decide) (by omega)
    · exact h
theorem anyS_iff {p : Nat → Bool} : ∀ (d i : Nat), anyS p d i = true ↔ ∃ j, i ≤ j ∧ j < i + d ∧ p j = true := by
  intro d
  induction d with
  | zero =>
    intro i
    constructor
    · intro h; cases h
    · intro ⟨j, h1, h2, _⟩; omega
  | succ d ih =>
    intro i
    rw [anyS, Bool.or_eq_true, ih]
    constructor
    · rintro (h | ⟨j, h1, h2, h3⟩)
      · exact ⟨i, by omega, by omega, h⟩
      · exact ⟨j, by omega, by omega, h3⟩
    · intro ⟨j, h1, h2, h3⟩
      by_cases e : j = i
      · subst e; exact Or.inl h3
      · exact Or.inr ⟨j, by omega, by omega, h3⟩
theorem nrS_0 {p : Nat → Bool} {d : Nat} : nrS p d 0 0 = 0 ↔ anyS p d 0 = false := by
  constructor
  · intro h
    cases hb : anyS p d 0 with
    | false => rfl
    | true =>
      obtain ⟨j, h1, h2, h3⟩ := (anyS_iff d 0).mp hb
      have := nrS_bit (p := p) d 0 0 j
      rw [h, h3] at this
      have h4 : j < 0 + d := h2
      simp [h4] at this
      omega
  · intro h
    apply Nat.eq_of_testBit_eq
    intro j
    rw [nrS_bit, Nat.zero_testBit, Bool.false_or]
    cases hp : p j with
    | false => simp
    | true =>
      by_cases h2 : j < 0 + d
      · have : anyS p d 0 = true := (anyS_iff d 0).mpr ⟨j, by omega, h2, hp⟩
        rw [h] at this
        cases this
      · rw [decide_eq_false h2]
        simp
theorem cntP_none {q : Nat → Bool} : ∀ (d i c : Nat), (∀ j, i ≤ j → q j = false) → cntP q d i c = c := by
  intro d
  induction d with
  | zero => intro i c _; rfl
  | succ d ih =>
    intro i c h
    rw [cntP, h i (Nat.le_refl _), if_neg (by decide)]
    exact ih _ _ (fun j hj => h j (by omega))
theorem cntP_add {q : Nat → Bool} : ∀ (d e i c : Nat), (∀ j, i + d ≤ j → q j = false) → cntP q (d + e) i c = cntP q d i c := by
  intro d
  induction d with
  | zero => intro e i c h; rw [Nat.zero_add, cntP_none _ _ _ (fun j hj => h j (by omega))]; rfl
  | succ d ih => intro e i c h; rw [Nat.succ_add, cntP, cntP, ih _ _ _ (fun j hj => h j (by omega))]
/-- a tape's clicks, both sides -/
def tpOK (S : Sto) (t m : Nat) : Prop := t < 4 ∧ m ≤ 20 ∧ S (58 + 8 * t) 3 = nI m ∧ S 135 t = nI m ∧ S 104 4 = S 0 11 ∧ btw (S 0 11) 0 99 ∧ ∀ i, i < m → S 136 (20 * t + i) = S (58 + 8 * t + 1) i
def nrP (S : Sto) (t : Nat) (tm : Int32) (i : Nat) : Bool := !decide (S 0 11 < r_Ma_abs (S (58 + 8 * t + 1) i - tm))
theorem sc_0 {t : Nat} (ht : t < 4) (k : Nat) : (k < 7 → ¬ Sc (58 + 8 * t) k) ∧ (7 ≤ k → Sc (58 + 8 * t) k) ∧ ¬ Sc (58 + 8 * t + 1) k ∧ Sc (58 + 8 * t + 6) k ∧ Sc (58 + 8 * t + 7) k := by
  have : t = 0 ∨ t = 1 ∨ t = 2 ∨ t = 3 := by omega
  unfold Sc
  rcases this with rfl | rfl | rfl | rfl <;> refine ⟨?_, ?_, ?_, ?_, ?_⟩ <;> omega
theorem near_L {S U : Sto} {t m : Nat} {tm : Int32} (h : tpOK S t m) (hU : Sx S U) : ∀ (d f i a : Nat), i + d = m → d < f → r_Tp_clicksNear_L5 (58 + 8 * t) tm (S 0 11) f (nI a) (nI i) U = some (nI (nrS (nrP S t tm) d i a), nI m) := by
  obtain ⟨ht, hm, h3, h4, h5, h6, h7⟩ := h
  have u3 : U (58 + 8 * t) 3 = nI m := by rw [hU _ _ ((sc_0 ht 3).1 (by omega))]; exact h3
  intro d
  induction d with
  | zero =>
    intro f i a hi hf
    obtain ⟨f, rfl⟩ : ∃ g, f = g + 1 := ⟨f - 1, by omega⟩
    have e : i = m := by omega
    subst e
    rw [r_Tp_clicksNear_L5, u3, if_pos (by rw [q_le]; omega)]
    rfl
  | succ d ih =>
    intro f i a hi hf
    obtain ⟨f, rfl⟩ : ∃ g, f = g + 1 := ⟨f - 1, by omega⟩
    have c : ¬ nI m ≤ nI i := nI_ge (by omega) (by omega)
    have i1 : inr (nI i) 20 = true := inr_nI (by omega) (by decide)
    have t1 : (nI i).toNatClampNeg = i := q_tnI (by omega)
    have u1 : U (58 + 8 * t + 1) i = S (58 + 8 * t + 1) i := hU _ _ ((sc_0 ht i).2.2.1)
    rw [nrS, ← ih f (i + 1) _ (by omega) (by omega)]
    by_cases k : S 0 11 < r_Ma_abs (S (58 + 8 * t + 1) i - tm)
    · have e : nrP S t tm i = false := by unfold nrP; rw [decide_eq_true k]; rfl
      rw [e, if_neg (by decide)]
      simp only [r_Tp_clicksNear_L5, u3, if_neg c, chk_t i1, t1, u1, if_pos k, jn, lt_k, nI_1]
    · have e : nrP S t tm i = true := by unfold nrP; rw [decide_eq_false k]; rfl
      rw [e, if_pos rfl]
      simp only [r_Tp_clicksNear_L5, u3, if_neg c, chk_t i1, t1, u1, if_neg k, jn, lt_k, nI_1, bit_1 i (by omega), nI_or]
theorem near_B {S U : Sto} {t m : Nat} {tm : Int32} (h : tpOK S t m) (hU : Sx S U) : r_Tp_clicksNear (58 + 8 * t) tm (S 0 11) U = some (nI (nrS (nrP S t tm) m 0 0)) := by
  have := near_L (tm := tm) h hU m fu 0 0 (by omega) (by have : fu = 5000 := rfl; have := h.2.1; omega)
  rw [show nI 0 = 0 from rfl] at this
  rw [r_Tp_clicksNear, this]
  rfl
def hcE : Bool → Int32 → Option ((Int32) ⊕ Int32)
  | true, _ => some (.inr 1)
  | false, e => some (.inl e)
theorem has_L {S T : Sto} {t m : Nat} {la : Int32} (h : tpOK S t m) (hm0 : 0 < m) (hT : Sx S T) : ∀ (d f i : Nat), i + d = m → d < f → r_M_hasClick_L5 (nI t) la f (nI (20 * t + i)) T = hcE (anyS (nrP S t (S (58 + 8 * t + 1) 0 + la)) d i) (nI (20 * t + m)) := by
  obtain ⟨ht, hm, h3, h4, h5, h6, h7⟩ := h
  have it : inr (nI t) 4 = true := inr_nI ht (by decide)
  have tt : (nI t).toNatClampNeg = t := q_tnI (by omega)
  have e20 : (20 : Int32) * nI t = nI (20 * t) := pk_mul 20 t
  have u3 : T 135 t = nI m := by rw [hT _ _ (by unfold Sc; omega)]; exact h4
  have u4 : T 104 4 = S 0 11 := by rw [hT _ _ (by unfold Sc; omega)]; exact h5
  have i0 : inr (nI (20 * t)) 80 = true := inr_nI (by omega) (by decide)
  have t0 : (nI (20 * t)).toNatClampNeg = 20 * t := q_tnI (by omega)
  have c0 : T 136 (20 * t) = S (58 + 8 * t + 1) 0 := by rw [hT _ _ (by unfold Sc; omega)]; exact h7 0 hm0
  intro d
  induction d with
  | zero =>
    intro f i hi hf
    obtain ⟨f, rfl⟩ : ∃ g, f = g + 1 := ⟨f - 1, by omega⟩
    have e : i = m := by omega
    subst e
    rw [r_M_hasClick_L5, chk_t it, tt, u3, e20, nI_add, if_pos (by rw [q_le]; omega)]
    rfl
  | succ d ih =>
    intro f i hi hf
    obtain ⟨f, rfl⟩ : ∃ g, f = g + 1 := ⟨f - 1, by omega⟩
    have c : ¬ nI (20 * t + m) ≤ nI (20 * t + i) := nI_ge (by omega) (by omega)
    have i1 : inr (nI (20 * t + i)) 80 = true := inr_nI (by omega) (by decide)
    have t1 : (nI (20 * t + i)).toNatClampNeg = 20 * t + i := q_tnI (by omega)
    have u1 : T 136 (20 * t + i) = S (58 + 8 * t + 1) i := by rw [hT _ _ (by unfold Sc; omega)]; exact h7 i (by omega)
    rw [anyS]
    by_cases k : S 0 11 < r_Ma_abs (S (58 + 8 * t + 1) i - (S (58 + 8 * t + 1) 0 + la))
    · have e : nrP S t (S (58 + 8 * t + 1) 0 + la) i = false := by unfold nrP; rw [decide_eq_true k]; rfl
      have nz : r_M_isNear (S (58 + 8 * t + 1) i) (S (58 + 8 * t + 1) 0 + la) T = 0 := by unfold r_M_isNear; rw [u4, size_abs, if_pos k]
      rw [e, Bool.false_or, ← ih f (i + 1) (by omega) (by omega)]
      simp only [r_M_hasClick_L5, chk_t it, tt, u3, e20, nI_add, if_neg c, chk_t i1, chk_t i0, t1, t0, u1, c0, if_pos nz, lt_k, nI_1]
      rfl
    · have e : nrP S t (S (58 + 8 * t + 1) 0 + la) i = true := by unfold nrP; rw [decide_eq_false k]; rfl
      have nz : ¬ r_M_isNear (S (58 + 8 * t + 1) i) (S (58 + 8 * t + 1) 0 + la) T = 0 := by unfold r_M_isNear; rw [u4, size_abs, if_neg k]; decide
      rw [e, Bool.true_or]
      simp only [r_M_hasClick_L5, chk_t it, tt, u3, e20, nI_add, if_neg c, chk_t i1, chk_t i0, t1, t0, u1, c0, if_neg nz, hcE]
theorem has_M {S T : Sto} {t m : Nat} {la : Int32} (h : tpOK S t m) (hm0 : 0 < m) (hT : Sx S T) : r_M_hasClick (nI t) la T = some (b2i (anyS (nrP S t (S (58 + 8 * t + 1) 0 + la)) m 0)) := by
  have := has_L (la := la) h hm0 hT m fu 0 (by omega) (by have : fu = 5000 := rfl; have := h.2.1; omega)
  rw [Nat.add_zero] at this
  have e20 : (20 : Int32) * nI t = nI (20 * t) := pk_mul 20 t
  simp only [r_M_hasClick, lt_k, e20, this]
  cases anyS (nrP S t (S (58 + 8 * t + 1) 0 + la)) m 0 <;> rfl
def bgT (S : Sto) (c0 x : Int32) : Int32 := 0 + trv (S 1 0) (S 1 1) (S 1 2) c0 x
def wlP (S : Sto) (t n : Nat) (c0 x : Int32) (w : Nat) : Int32 := (S (58 + 8 * t + 1) 0 + wT S n c0 0 x w) - bgT S c0 x
def wlS (S : Sto) (t m n : Nat) (c0 x : Int32) (w : Nat) : Nat := if wK S n c0 x w = -1 then 0 else nrS (nrP S t (wlP S t n c0 x w)) m 0 0
def wlH (S : Sto) (t m n : Nat) (c0 x : Int32) (w : Nat) : Bool := !decide (wlS S t m n c0 x w = 0)
theorem wlS_lt {S : Sto} {t m n : Nat} {c0 x : Int32} {w : Nat} (hm : m ≤ 20) : wlS S t m n c0 x w < 2 ^ 20 := by
  unfold wlS
  split
  · decide
  · exact nrS_lt _ _ _ (by omega) (by decide)
theorem wlH_hi {S : Sto} {t m n : Nat} {c0 x : Int32} {w : Nat} (h : n ≤ w) : wlH S t m n c0 x w = false := by
  unfold wlH wlS
  rw [if_pos (wK_hi h)]
  rfl
theorem lay_L {S : Sto} {t m n : Nat} {c0 x : Int32} (h : tpOK S t m) : ∀ (d f i c : Nat) (U : Sto), i + d = 10 → d < f → Sx S U → (∀ j, j < 10 → U 16 j = wK S n c0 x j ∧ U 14 j = wT S n c0 0 x j) → U 13 2 = bgT S c0 x → U (58 + 8 * t) 7 = nI c →
    ∃ e U', r_Tp_lay_L54 (58 + 8 * t) (S 0 11) f (nI i) U = some (e, U') ∧ Sx S U' ∧ (∀ a k, ¬ (a = 58 + 8 * t + 7 ∧ i ≤ k) → ¬ (a = 58 + 8 * t ∧ k = 7) → U' a k = U a k) ∧ (∀ j, i ≤ j → j < 10 → U' (58 + 8 * t + 7) j = nI (wlS S t m n c0 x j)) ∧ U' (58 + 8 * t) 7 = nI (cntP (wlH S t m n c0 x) d i c) := by
  have ht := h.1
  intro d
  induction d with
  | zero =>
    intro f i c U hi hf hU _ _ h7
    obtain ⟨f, rfl⟩ : ∃ g, f = g + 1 := ⟨f - 1, by omega⟩
    have e : i = 10 := by omega
    subst e
    exact ⟨nI 10, U, by rw [r_Tp_lay_L54, if_pos (by decide)], hU, fun _ _ _ _ => rfl, fun j h1 h2 => by omega, h7⟩
  | succ d ih =>
    intro f i c U hi hf hU hW hB h7
    obtain ⟨f, rfl⟩ : ∃ g, f = g + 1 := ⟨f - 1, by omega⟩
    have c1 : ¬ (10 : Int32) ≤ nI i := nI_ge (b := 10) (by omega) (by omega)
    have i1 : inr (nI i) 10 = true := inr_nI (by omega) (by decide)
    have t1 : (nI i).toNatClampNeg = i := q_tnI (by omega)
    have hl := wlS_lt (S := S) (t := t) (m := m) (n := n) (c0 := c0) (x := x) (w := i) h.2.1
    obtain ⟨w1, w2⟩ := hW i (by omega)
    have fin : ∀ U1, Sx S U1 → (∀ a k, ¬ (a = 58 + 8 * t + 7 ∧ k = i) → ¬ (a = 58 + 8 * t ∧ k = 7) → U1 a k = U a k) → U1 (58 + 8 * t + 7) i = nI (wlS S t m n c0 x i) → U1 (58 + 8 * t) 7 = nI (if wlH S t m n c0 x i = true then c + 1 else c) → r_Tp_lay_L54 (58 + 8 * t) (S 0 11) (f + 1) (nI i) U = r_Tp_lay_L54 (58 + 8 * t) (S 0 11) f (nI (i + 1)) U1 →
        ∃ e U', r_Tp_lay_L54 (58 + 8 * t) (S 0 11) (f + 1) (nI i) U = some (e, U') ∧ Sx S U' ∧ (∀ a k, ¬ (a = 58 + 8 * t + 7 ∧ i ≤ k) → ¬ (a = 58 + 8 * t ∧ k = 7) → U' a k = U a k) ∧ (∀ j, i ≤ j → j < 10 → U' (58 + 8 * t + 7) j = nI (wlS S t m n c0 x j)) ∧ U' (58 + 8 * t) 7 = nI (cntP (wlH S t m n c0 x) (d + 1) i c) := by
      intro U1 g1 g2 g3 g4 g5
      obtain ⟨e, U', q1, q2, q3, q4, q5⟩ := ih f (i + 1) _ U1 (by omega) (by omega) g1 (fun j hj => by rw [g2 _ _ (by omega) (by omega), g2 _ _ (by omega) (by omega)]; exact hW j hj) (by rw [g2 _ _ (by omega) (by omega)]; exact hB) g4
      refine ⟨e, U', by rw [g5]; exact q1, q2, fun a k z1 z2 => ?_, fun j z1 z2 => ?_, by rw [cntP]; exact q5⟩
      · rw [q3 a k (by omega) z2, g2 a k (by omega) z2]
      · by_cases e : j = i
        · subst e
          rw [q3 _ _ (by omega) (by omega)]; exact g3
        · exact q4 j (by omega) z2
    have setv : ∀ v, v = wlS S t m n c0 x i → (∀ z : Int32 → Option (Int32 × Sto), (if U 16 i = -1 then z 0 else (r_Tp_backPlace (58 + 8 * t) (nI i) U).bind (fun r6 => (r_Tp_clicksNear (58 + 8 * t) r6 (S 0 11) U).bind (fun r7 => z r7))) = z (nI v)) := by
      intro v hv z
      subst hv
      unfold wlS
      rw [w1]
      by_cases k : wK S n c0 x i = -1
      · rw [if_pos k, if_pos k]; rfl
      · have u0 : U (58 + 8 * t + 1) 0 = S (58 + 8 * t + 1) 0 := hU _ _ ((sc_0 ht 0).2.2.1)
        have bp : r_Tp_backPlace (58 + 8 * t) (nI i) U = some (wlP S t n c0 x i) := by
          simp only [r_Tp_backPlace, chk_t i1, t1, show (0 : Int32).toNatClampNeg = 0 by decide, u0, w2, hB]
          rfl
        rw [if_neg k, if_neg k, bp]
        simp only [Option.bind_some, near_B h hU]
    generalize hv : wlS S t m n c0 x i = v at *
    have sv := setv v rfl
    have st : r_Tp_lay_L54 (58 + 8 * t) (S 0 11) (f + 1) (nI i) U = (fun v1 => if sw U (58 + 8 * t + 7) i v1 (58 + 8 * t + 7) i = 0 then r_Tp_lay_L54 (58 + 8 * t) (S 0 11) f (nI (i + 1)) (sw U (58 + 8 * t + 7) i v1) else r_Tp_lay_L54 (58 + 8 * t) (S 0 11) f (nI (i + 1)) (sw (sw U (58 + 8 * t + 7) i v1) (58 + 8 * t) 7 (sw U (58 + 8 * t + 7) i v1 (58 + 8 * t) 7 + 1))) (nI v) := by
      refine Eq.trans ?_ (sv (fun v1 => if sw U (58 + 8 * t + 7) i v1 (58 + 8 * t + 7) i = 0 then r_Tp_lay_L54 (58 + 8 * t) (S 0 11) f (nI (i + 1)) (sw U (58 + 8 * t + 7) i v1) else r_Tp_lay_L54 (58 + 8 * t) (S 0 11) f (nI (i + 1)) (sw (sw U (58 + 8 * t + 7) i v1) (58 + 8 * t) 7 (sw U (58 + 8 * t + 7) i v1 (58 + 8 * t) 7 + 1))))
      simp only [r_Tp_lay_L54, if_neg c1, chk_t i1, t1, jn, ltS_k, lt_k, nI_1]
    simp only [sw_same] at st
    have scA7 := (sc_0 ht i).2.2.2.2
    have sc7 := (sc_0 ht 7).2.1 (by omega)
    by_cases k : v = 0
    · have eH : wlH S t m n c0 x i = false := by unfold wlH; rw [hv, decide_eq_true k]; rfl
      have e0 : nI v = 0 := by rw [k]; rfl
      refine fin (sw U (58 + 8 * t + 7) i (nI v)) (hU.sw scA7) (fun a j z1 z2 => rd_ne z1) sw_same (by rw [eH, rd_ne (by omega)]; exact h7) ?_
      rw [st, if_pos e0]
    · have eH : wlH S t m n c0 x i = true := by unfold wlH; rw [hv, decide_eq_false k]; rfl
      have e0 : ¬ nI v = 0 := nI_ne0 (by omega) (by omega)
      refine fin (sw (sw U (58 + 8 * t + 7) i (nI v)) (58 + 8 * t) 7 (nI (c + 1))) ((hU.sw scA7).sw sc7) (fun a j z1 z2 => by rw [rd_ne z2, rd_ne z1]) (by rw [rd_ne (by omega), sw_same]) (by rw [eH, sw_same]; rfl) ?_
      rw [st, if_neg e0, rd_ne (by omega), h7, nI_1]
theorem lay_B {S U : Sto} {t m n s e : Nat} (h : tpOK S t m) (hw : wInv S n) (hs : s < 10) (he : e < 10) (cs : isC (S 17 s)) (ce : isC (S 17 e)) (hU : Sx S U) :
    ∃ U', r_Tp_lay (58 + 8 * t) (nI s) (nI e) (S 0 11) U = some U' ∧ Sx S U' ∧ (∀ k, 9 ≤ k → U' (58 + 8 * t) k = U (58 + 8 * t) k) ∧ U' (58 + 8 * t) 7 = nI (cntP (wlH S t m n (S 17 s) (S 17 e)) n 0 1) ∧ U' (58 + 8 * t) 8 = 1 + cntE (wK S n (S 17 s) (S 17 e)) 10 0 0 ∧ ∀ j, j < 10 → U' (58 + 8 * t + 7) j = nI (wlS S t m n (S 17 s) (S 17 e) j) := by
  have ht := h.1
  have i1 : inr (nI s) 10 = true := inr_nI hs (by decide)
  have t1 : (nI s).toNatClampNeg = s := q_tnI (by omega)
  have i2 : inr (nI e) 10 = true := inr_nI he (by decide)
  have t2 : (nI e).toNatClampNeg = e := q_tnI (by omega)
  have u1 : U 17 s = S 17 s := hU _ _ (by unfold Sc; omega)
  have u2 : U 17 e = S 17 e := hU _ _ (by unfold Sc; omega)
  have sc6 : ∀ k, Sc (58 + 8 * t + 6) k := fun k => (sc_0 ht k).2.2.2.1
  have sc7 := (sc_0 ht 7).2.1 (by omega)
  have sc8 := (sc_0 ht 8).2.1 (by omega)
  generalize hV : sw (sw (sw (sw U (58 + 8 * t + 6) 0 (S 17 s)) (58 + 8 * t + 6) 1 0) (58 + 8 * t + 6) 2 (-1)) (58 + 8 * t + 6) 3 0 = V
  have hVx : Sx S V := by rw [← hV]; exact (((hU.sw (sc6 0)).sw (sc6 1)).sw (sc6 2)).sw (sc6 3)
  have v0 : V (58 + 8 * t + 6) 0 = S 17 s := by rw [← hV]; simp (disch := omega) only [rd_ne, sw_same]
  have v1 : V (58 + 8 * t + 6) 1 = 0 := by rw [← hV]; simp (disch := omega) only [rd_ne, sw_same]
  have v2 : V (58 + 8 * t + 6) 2 = -1 := by rw [← hV]; simp (disch := omega) only [rd_ne, sw_same]
  have v3 : V (58 + 8 * t + 6) 3 = 0 := by rw [← hV]; simp (disch := omega) only [rd_ne, sw_same]
  have vf : ∀ a k, ¬ a = 58 + 8 * t + 6 → V a k = U a k := fun a k z => by rw [← hV]; simp (disch := omega) only [rd_ne]
  obtain ⟨W, p1, p2, p3⟩ := listen_B (a1 := 58 + 8 * t + 6) (S := V) (x := S 17 e) hw cs ce ⟨by decide, by decide⟩ (Or.inl rfl) (by omega) hVx.cB v0 v1 v2 v3
  obtain ⟨y1, y2, y3, y4, y5, y6, y7, y8⟩ := p3
  have hWx : Sx S W := fun a k q => by unfold Sc at q; rw [p2 a k (by omega)]; exact hVx a k (by unfold Sc; omega)
  have fuv : fu = 5000 := rfl
  obtain ⟨e', U', q1, q2, q3, q4, q5⟩ := lay_L (n := n) (c0 := S 17 s) (x := S 17 e) h 10 fu 0 1 (sw (sw W (58 + 8 * t) 7 1) (58 + 8 * t) 8 (1 + cntE (wK S n (S 17 s) (S 17 e)) 10 0 0)) (by omega) (by omega) ((hWx.sw sc7).sw sc8) (fun j hj => by rw [rd_ne (by omega), rd_ne (by omega), rd_ne (by omega), rd_ne (by omega)]; exact ⟨(y8 j hj).1, (y8 j hj).2.1⟩) (by rw [rd_ne (by omega), rd_ne (by omega)]; exact y2) (by rw [rd_ne (by omega), sw_same]; rfl)
  rw [show nI 0 = 0 from rfl] at q1
  have hn := hw.1
  refine ⟨U', ?_, q2, fun k hk => ?_, ?_, ?_, fun j hj => q4 j (by omega) hj⟩
  · have y6' : W 13 6 = cntE (wK S n (S 17 s) (S 17 e)) 10 0 0 := y6
    have v17 : V 17 e = S 17 e := by rw [vf _ _ (by omega)]; exact u2
    simp (disch := omega) only [r_Tp_lay, chk_t i1, t1, r_Sh_fire, u1, ltS_k, hV, Option.bind_some, chk_t i2, t2, v17, p1, rd_ne, y6', q1]
  · rw [q3 _ _ (by omega) (by omega), rd_ne (by omega), rd_ne (by omega), p2 _ _ (by omega), vf _ _ (by omega)]
  · rw [q5, show 10 = n + (10 - n) by omega, cntP_add n (10 - n) 0 1 (fun j hj => wlH_hi (by omega))]
  · rw [q3 _ _ (by omega) (by omega), sw_same]
theorem asa (a b c : Int32) : a + (b - c) = (a + b) - c := by rw [Int32.sub_eq_add_neg, Int32.sub_eq_add_neg, Int32.add_assoc]
theorem cpl_L {S : Sto} {t m n : Nat} {c0 x : Int32} (h : tpOK S t m) (hm0 : 0 < m) (hw : wInv S n) (n5 : S 104 5 = nI n) : ∀ (d f i c : Nat) (T : Sto), i + d = n → d < f → Sx S T → (∀ j, j < n → T 117 j = wK S n c0 x j ∧ T 115 j = wT S n c0 0 x j) → T 104 17 = bgT S c0 x → T 104 60 = nI c →
    ∃ e T', r_M_couples_L50 (nI t) f (nI i) T = some (e, T') ∧ Sx S T' ∧ T' 104 61 = T 104 61 ∧ T' 104 60 = nI (cntP (wlH S t m n c0 x) d i c) := by
  have hn := hw.1
  intro d
  induction d with
  | zero =>
    intro f i c T hi hf hT _ _ h7
    obtain ⟨f, rfl⟩ : ∃ g, f = g + 1 := ⟨f - 1, by omega⟩
    have e : i = n := by omega
    have c1 : T 104 5 ≤ nI i := by rw [hT _ _ (by unfold Sc; omega), n5, e, q_le]; omega
    exact ⟨nI i, T, by rw [r_M_couples_L50, if_pos c1], hT, rfl, h7⟩
  | succ d ih =>
    intro f i c T hi hf hT hW hB h7
    obtain ⟨f, rfl⟩ : ∃ g, f = g + 1 := ⟨f - 1, by omega⟩
    have c1 : ¬ T 104 5 ≤ nI i := by rw [hT _ _ (by unfold Sc; omega), n5]; exact nI_ge (by omega) (by omega)
    have i1 : inr (nI i) 10 = true := inr_nI (by omega) (by decide)
    have t1 : (nI i).toNatClampNeg = i := q_tnI (by omega)
    obtain ⟨w1, w2⟩ := hW i (by omega)
    rw [cntP]
    by_cases k : wK S n c0 x i = -1
    · have eH : wlH S t m n c0 x i = false := by unfold wlH wlS; rw [if_pos k]; rfl
      obtain ⟨e, T', q1, q2, q3, q4⟩ := ih f (i + 1) c T (by omega) (by omega) hT hW hB h7
      refine ⟨e, T', ?_, q2, q3, by rw [eH]; exact q4⟩
      rw [← q1]
      simp only [r_M_couples_L50, if_neg c1, chk_t i1, t1, w1, if_pos k, jn, lt_k, nI_1]
    · have hc := has_M (la := wT S n c0 0 x i - bgT S c0 x) h hm0 hT
      rw [asa] at hc
      have eW : (S (58 + 8 * t + 1) 0 + wT S n c0 0 x i) - bgT S c0 x = wlP S t n c0 x i := rfl
      rw [eW] at hc
      have eS : wlS S t m n c0 x i = nrS (nrP S t (wlP S t n c0 x i)) m 0 0 := by unfold wlS; rw [if_neg k]
      cases ka : anyS (nrP S t (wlP S t n c0 x i)) m 0 with
      | false =>
        rw [ka] at hc
        have eH : wlH S t m n c0 x i = false := by unfold wlH; rw [eS, nrS_0.mpr ka]; rfl
        obtain ⟨e, T', q1, q2, q3, q4⟩ := ih f (i + 1) c T (by omega) (by omega) hT hW hB h7
        refine ⟨e, T', ?_, q2, q3, by rw [eH]; exact q4⟩
        rw [← q1]
        simp only [r_M_couples_L50, if_neg c1, chk_t i1, t1, w1, if_neg k, w2, hB, hc, Option.bind_some, if_pos (show b2i false = 0 by decide), jn, lt_k, nI_1]
      | true =>
        rw [ka] at hc
        have eH : wlH S t m n c0 x i = true := by
          unfold wlH
          rw [eS, decide_eq_false (fun q => by rw [nrS_0.mp q] at ka; cases ka)]
          rfl
        obtain ⟨e, T', q1, q2, q3, q4⟩ := ih f (i + 1) (c + 1) (sw T 104 60 (nI (c + 1))) (by omega) (by omega) (hT.sw (by unfold Sc; omega)) (fun j hj => by rw [rd_ne (by omega), rd_ne (by omega)]; exact hW j hj) (by rw [rd_ne (by omega)]; exact hB) sw_same
        refine ⟨e, T', ?_, q2, by rw [q3, rd_ne (by omega)], by rw [eH]; exact q4⟩
        rw [← q1]
        simp only [r_M_couples_L50, if_neg c1, chk_t i1, t1, w1, if_neg k, w2, hB, hc, Option.bind_some, if_neg (show ¬ b2i true = 0 by decide), h7, jn, lt_k, ltS_k, nI_1]
theorem has_0 {S : Sto} {t m : Nat} (h : tpOK S t m) (hm0 : 0 < m) : anyS (nrP S t (S (58 + 8 * t + 1) 0 + 0)) m 0 = true := by
  refine (anyS_iff m 0).mpr ⟨0, by omega, by omega, ?_⟩
  unfold nrP
  have e : S (58 + 8 * t + 1) 0 - (S (58 + 8 * t + 1) 0 + 0) = 0 := by rw [Int32.add_zero, Int32.sub_self]
  have := h.2.2.2.2.2.1.1
  rw [e, decide_eq_false (by rw [q_lt, show (r_Ma_abs 0).toInt = 0 by decide]; omega)]
  rfl
theorem cpl_M {S T : Sto} {t m n s e : Nat} (h : tpOK S t m) (hm0 : 0 < m) (hw : wInv S n) (hcm : cM S n S) (hs : s < 10) (he : e < 10) (cs : isC (S 17 s)) (ce : isC (S 17 e)) (es : S 110 s = S 17 s) (ee : S 110 e = S 17 e) (hT : Sx S T) :
    ∃ T', r_M_couples (nI t) (nI s) (nI e) T = some T' ∧ Sx S T' ∧ T' 104 60 = nI (cntP (wlH S t m n (S 17 s) (S 17 e)) n 0 1) ∧ T' 104 61 = 1 + cntE (wK S n (S 17 s) (S 17 e)) 10 0 0 := by
  have i1 : inr (nI s) 10 = true := inr_nI hs (by decide)
  have t1 : (nI s).toNatClampNeg = s := q_tnI (by omega)
  have i2 : inr (nI e) 10 = true := inr_nI he (by decide)
  have t2 : (nI e).toNatClampNeg = e := q_tnI (by omega)
  have u1 : T 110 s = S 17 s := by rw [hT _ _ (by unfold Sc; omega)]; exact es
  have u2 : T 110 e = S 17 e := by rw [hT _ _ (by unfold Sc; omega)]; exact ee
  obtain ⟨W, p1, p2, p3⟩ := hears_M (T := T) (c0 := S 17 s) (t0 := 0) (b := -1) (v := 1) (x := S 17 e) hw cs ce ⟨by decide, by decide⟩ (Or.inl rfl) (hT.cM hcm)
  obtain ⟨w1, w2, w3, w4, w5, w6, w7⟩ := p3
  have hWx : Sx S W := fun a k q => by unfold Sc at q; rw [p2 a k (by omega) (by omega)]; exact hT a k (by unfold Sc; omega)
  have h0 := has_M (la := 0) h hm0 hWx
  rw [has_0 h hm0] at h0
  have hn := hw.1
  have fuv : fu = 5000 := rfl
  obtain ⟨e', T', q1, q2, q3, q4⟩ := cpl_L (c0 := S 17 s) (x := S 17 e) h hm0 hw hcm.2.2.2.1 n fu 0 1 (sw (sw W 104 60 1) 104 61 (1 + cntE (wK S n (S 17 s) (S 17 e)) 10 0 0)) (by omega) (by omega) ((hWx.sw (by unfold Sc; omega)).sw (by unfold Sc; omega)) (fun j hj => by rw [rd_ne (by omega), rd_ne (by omega), rd_ne (by omega), rd_ne (by omega)]; exact ⟨(w7 j hj).1, (w7 j hj).2.1⟩) (by rw [rd_ne (by omega), rd_ne (by omega)]; exact w1) (by rw [rd_ne (by omega), sw_same]; rfl)
  rw [show nI 0 = 0 from rfl] at q1
  refine ⟨T', ?_, q2, q4, by rw [q3, sw_same]⟩
  simp (disch := omega) only [r_M_couples, chk_t i1, chk_t i2, t1, t2, u1, u2, p1, Option.bind_some, h0, if_neg (show ¬ b2i true = 0 by decide), jn, ltS_k, rd_ne, w6, q1]
