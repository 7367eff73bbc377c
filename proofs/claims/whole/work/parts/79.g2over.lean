/-! spans -/
def spL (lo hi : Nat → Int32) (on : Nat → Bool) : Nat → Nat → Int32 → Int32 → Int32 × Int32
  | 0, _, a, b => (a, b)
  | d + 1, i, a, b => if on i = true then spL lo hi on d (i + 1) (r_Ma_max a (lo i)) (r_Ma_min b (hi i)) else spL lo hi on d (i + 1) a b
def spK (p : Int32 × Int32) : Bool := !decide (p.2 < p.1)
theorem sp_two {lo hi : Nat → Int32} {on : Nat → Bool} (hl : ∀ i, on i = true → btw (lo i) (-10000000) 10000000 ∧ btw (hi i) (-10000000) 10000000) : ∀ (d i : Nat) (a b a' b' : Int32), ((a = a' ∧ b = b') ∨ (a = -1000000000 ∧ b = 1000000000 ∧ a' = -10000000 ∧ b' = 10000000)) → spK (spL lo hi on d i a b) = spK (spL lo hi on d i a' b') := by
  intro d
  induction d with
  | zero =>
    intro i a b a' b' h
    rcases h with ⟨rfl, rfl⟩ | ⟨rfl, rfl, rfl, rfl⟩
    · rfl
    · show spK (-1000000000, 1000000000) = spK (-10000000, 10000000)
      decide
  | succ d ih =>
    intro i a b a' b' h
    rw [spL, spL]
    by_cases k : on i = true
    · rw [if_pos k, if_pos k]
      apply ih
      rcases h with ⟨rfl, rfl⟩ | ⟨rfl, rfl, rfl, rfl⟩
      · exact Or.inl ⟨rfl, rfl⟩
      · obtain ⟨⟨g1, g2⟩, g3, g4⟩ := hl i k
        have e1 : (-1000000000 : Int32).toInt = -1000000000 := by decide
        have e2 : (1000000000 : Int32).toInt = 1000000000 := by decide
        have e3 : (-10000000 : Int32).toInt = -10000000 := by decide
        have e4 : (10000000 : Int32).toInt = 10000000 := by decide
        refine Or.inl ⟨?_, ?_⟩
        · rw [max_le (by rw [q_le, e1]; omega), max_le (by rw [q_le, e3]; omega)]
        · rw [min_i, min_i]
          by_cases c : hi i = 10000000
          · rw [c]; decide
          · have c' : ¬ (hi i).toInt = 10000000 := fun q => c (by rw [q_eq, q, e4])
            rw [if_neg (by rw [q_le, e2]; omega), if_neg (by rw [q_le, e4]; omega)]
    · rw [if_neg k, if_neg k]
      exact ih _ _ _ _ _ h
theorem agree_L {a0 m0 n : Nat} {y : Int32} {S : Sto} {lo hi : Nat → Int32} {on : Nat → Bool} (hn : n ≤ m0) (hm : m0 ≤ 20) (h3 : S a0 3 = nI n) (hon : ∀ i, i < n → (on i = true ↔ ¬ nI i = y ∧ ¬ S (a0 + 2) i = -1)) (hv : ∀ i, i < n → on i = true → lo i = S (a0 + 2) i - S (a0 + 1) i ∧ hi i = S (a0 + 3) i - S (a0 + 1) i) :
    ∀ (d f i : Nat) (a b : Int32), i + d = n → d < f → r_Sp_agreeWithout_L9 a0 m0 y f a b (nI i) S = some ((spL lo hi on d i a b).1, (spL lo hi on d i a b).2, nI n) := by
  intro d
  induction d with
  | zero =>
    intro f i a b hi hf
    obtain ⟨f, rfl⟩ : ∃ g, f = g + 1 := ⟨f - 1, by omega⟩
    have e : i = n := by omega
    subst e
    rw [r_Sp_agreeWithout_L9, h3, if_pos (by rw [q_le]; omega)]
    rfl
  | succ d ih =>
    intro f i a b hi' hf
    obtain ⟨f, rfl⟩ : ∃ g, f = g + 1 := ⟨f - 1, by omega⟩
    have c : ¬ nI n ≤ nI i := nI_ge (by omega) (by omega)
    have i1 : inr (nI i) m0 = true := inr_nI (by omega) (by omega)
    have t1 : (nI i).toNatClampNeg = i := q_tnI (by omega)
    rw [spL]
    by_cases k : on i = true
    · obtain ⟨g1, g2⟩ := (hon i (by omega)).mp k
      obtain ⟨v1, v2⟩ := hv i (by omega) k
      rw [if_pos k, ← ih f (i + 1) _ _ (by omega) (by omega), v1, v2]
      simp only [r_Sp_agreeWithout_L9, h3, if_neg c, if_neg g1, chk_t i1, t1, if_neg g2, lt_k, jn, nI_1]
    · rw [if_neg k, ← ih f (i + 1) _ _ (by omega) (by omega)]
      by_cases g1 : nI i = y
      · simp only [r_Sp_agreeWithout_L9, h3, if_neg c, if_pos g1, lt_k, jn, nI_1]
      · have g2 : S (a0 + 2) i = -1 := Classical.not_not.mp (fun q => k ((hon i (by omega)).mpr ⟨g1, q⟩))
        simp only [r_Sp_agreeWithout_L9, h3, if_neg c, if_neg g1, chk_t i1, t1, if_pos g2, lt_k, jn, nI_1]
theorem spK_r {p : Int32 × Int32} {α : Type} (f : Int32 → α) : (if p.2 < p.1 then f 0 else f 1) = f (b2i (spK p)) := by
  unfold spK
  by_cases c : p.2 < p.1
  · rw [if_pos c, decide_eq_true c]; rfl
  · rw [if_neg c, decide_eq_false c]; rfl
theorem agree_B {a0 m0 n : Nat} {y : Int32} {S : Sto} {lo hi : Nat → Int32} {on : Nat → Bool} (hn : n ≤ m0) (hm : m0 ≤ 20) (h3 : S a0 3 = nI n) (hon : ∀ i, i < n → (on i = true ↔ ¬ nI i = y ∧ ¬ S (a0 + 2) i = -1)) (hv : ∀ i, i < n → on i = true → lo i = S (a0 + 2) i - S (a0 + 1) i ∧ hi i = S (a0 + 3) i - S (a0 + 1) i) :
    r_Sp_agreeWithout a0 m0 y S = some (b2i (spK (spL lo hi on n 0 (-1000000000) 1000000000))) := by
  have := agree_L hn hm h3 hon hv n fu 0 (-1000000000) 1000000000 (by omega) (by have : fu = 5000 := rfl; omega)
  rw [show nI 0 = 0 from rfl] at this
  rw [r_Sp_agreeWithout, this, ← spK_r some]
  rfl
theorem max_j {a v : Int32} : r_Ma_max a v = if v ≤ a then a else v := by
  unfold r_Ma_max
  by_cases c : v ≤ a
  · rw [if_pos c, if_neg (by rw [q_lt]; rw [q_le] at c; omega)]
  · rw [if_neg c, if_pos (by rw [q_lt]; rw [q_le] at c; omega)]
theorem can_L {t n : Nat} {y : Int32} {T : Sto} {lo hi : Nat → Int32} {on : Nat → Bool} (ht : t < 4) (hn : n ≤ 10) (h3 : T 137 t = nI n) (hon : ∀ i, i < n → (on i = true ↔ ¬ nI i = y)) (hv : ∀ i, i < n → lo i = T 138 (10 * t + i) ∧ hi i = T 139 (10 * t + i)) :
    ∀ (d f i : Nat) (a b : Int32), i + d = n → d < f → r_M_canBe_L12 (nI t) y f a b (nI i) T = some ((spL lo hi on d i a b).1, (spL lo hi on d i a b).2, nI n) := by
  have it : inr (nI t) 4 = true := inr_nI ht (by decide)
  have tt : (nI t).toNatClampNeg = t := q_tnI (by omega)
  intro d
  induction d with
  | zero =>
    intro f i a b hi hf
    obtain ⟨f, rfl⟩ : ∃ g, f = g + 1 := ⟨f - 1, by omega⟩
    have e : i = n := by omega
    subst e
    rw [r_M_canBe_L12, chk_t it, tt, h3, if_pos (by rw [q_le]; omega)]
    rfl
  | succ d ih =>
    intro f i a b hi' hf
    obtain ⟨f, rfl⟩ : ∃ g, f = g + 1 := ⟨f - 1, by omega⟩
    have c : ¬ nI n ≤ nI i := nI_ge (by omega) (by omega)
    have e10 : (10 : Int32) * nI t + nI i = nI (10 * t + i) := nI_10 t ht i (by omega)
    have i1 : inr (nI (10 * t + i)) 40 = true := inr_nI (by omega) (by omega)
    have t1 : (nI (10 * t + i)).toNatClampNeg = 10 * t + i := q_tnI (by omega)
    rw [spL]
    by_cases k : on i = true
    · have g1 := (hon i (by omega)).mp k
      obtain ⟨v1, v2⟩ := hv i (by omega)
      rw [if_pos k, ← ih f (i + 1) _ _ (by omega) (by omega), v1, v2, max_j, min_i]
      simp only [r_M_canBe_L12, chk_t it, tt, h3, if_neg c, if_neg g1, e10, chk_t i1, t1, lt_k, jn, nI_1]
      split <;> split <;> rfl
    · rw [if_neg k, ← ih f (i + 1) _ _ (by omega) (by omega)]
      have g1 : nI i = y := Classical.not_not.mp (fun q => k ((hon i (by omega)).mpr q))
      simp only [r_M_canBe_L12, chk_t it, tt, h3, if_neg c, if_pos g1, lt_k, jn, nI_1]
theorem can_M {t n : Nat} {y : Int32} {T : Sto} {lo hi : Nat → Int32} {on : Nat → Bool} (ht : t < 4) (hn : n ≤ 10) (h3 : T 137 t = nI n) (hon : ∀ i, i < n → (on i = true ↔ ¬ nI i = y)) (hv : ∀ i, i < n → lo i = T 138 (10 * t + i) ∧ hi i = T 139 (10 * t + i)) :
    r_M_canBe (nI t) y T = some (b2i (spK (spL lo hi on n 0 (-10000000) 10000000))) := by
  have := can_L ht hn h3 hon hv n fu 0 (-10000000) 10000000 (by omega) (by have : fu = 5000 := rfl; omega)
  rw [show nI 0 = 0 from rfl] at this
  rw [r_M_canBe, this, ← spK_r some]
  rfl
def ovL (A : Nat → Bool) : Nat → Nat → Int32 → Option Int32
  | 0, _, x => some x
  | d + 1, i, x => if A i = true then (if x = -1 then ovL A d (i + 1) (nI i) else none) else ovL A d (i + 1) x
def ovB (n : Nat) : Option Int32 → Option ((Int32 × Int32) ⊕ Int32)
  | some x => some (.inl (x, nI n))
  | none => some (.inr (-1))
def ovM (n : Nat) (S : Sto) : Option Int32 → Option ((Int32 × Int32) ⊕ (Int32 × Sto))
  | some x => some (.inl (x, nI n))
  | none => some (.inr (-1, S))
theorem ov_LB {a0 n : Nat} {S : Sto} {A : Nat → Bool} (hn : n ≤ 10) (h3 : S a0 3 = nI n) (hA : ∀ i, i < n → r_Sp_agreeWithout a0 10 (nI i) S = some (b2i (A i))) : ∀ (d f i : Nat) (x : Int32), i + d = n → d < f → r_Sp_overAlone_L14 a0 10 f x (nI i) S = ovB n (ovL A d i x) := by
  intro d
  induction d with
  | zero =>
    intro f i x hi hf
    obtain ⟨f, rfl⟩ : ∃ g, f = g + 1 := ⟨f - 1, by omega⟩
    have e : i = n := by omega
    subst e
    rw [r_Sp_overAlone_L14, h3, if_pos (by rw [q_le]; omega)]
    rfl
  | succ d ih =>
    intro f i x hi hf
    obtain ⟨f, rfl⟩ : ∃ g, f = g + 1 := ⟨f - 1, by omega⟩
    have c : ¬ nI n ≤ nI i := nI_ge (by omega) (by omega)
    have hAi := hA i (by omega)
    rw [ovL]
    cases k : A i with
    | true =>
      rw [k] at hAi
      rw [if_pos rfl]
      by_cases kx : x = -1
      · rw [if_pos kx, ← ih f (i + 1) _ (by omega) (by omega)]
        simp only [r_Sp_overAlone_L14, h3, if_neg c, hAi, Option.bind_some, if_neg (show ¬ b2i true = 0 by decide), if_pos kx, jn, lt_k, nI_1]
      · rw [if_neg kx]
        simp only [r_Sp_overAlone_L14, h3, if_neg c, hAi, Option.bind_some, if_neg (show ¬ b2i true = 0 by decide), if_neg kx, jn, ovB]
    | false =>
      rw [k] at hAi
      rw [if_neg (by decide), ← ih f (i + 1) _ (by omega) (by omega)]
      simp only [r_Sp_overAlone_L14, h3, if_neg c, hAi, Option.bind_some, if_pos (show b2i false = 0 by decide), jn, lt_k, nI_1]
theorem ov_LM {t n : Nat} {T : Sto} {A : Nat → Bool} (ht : t < 4) (hn : n ≤ 10) (h3 : T 137 t = nI n) (hA : ∀ i, i < n → r_M_canBe (nI t) (nI i) T = some (b2i (A i))) : ∀ (d f i : Nat) (x : Int32), i + d = n → d < f → r_M_over_L52 (nI t) 0 f x (nI i) T = ovM n T (ovL A d i x) := by
  have it : inr (nI t) 4 = true := inr_nI ht (by decide)
  have tt : (nI t).toNatClampNeg = t := q_tnI (by omega)
  intro d
  induction d with
  | zero =>
    intro f i x hi hf
    obtain ⟨f, rfl⟩ : ∃ g, f = g + 1 := ⟨f - 1, by omega⟩
    have e : i = n := by omega
    subst e
    rw [r_M_over_L52, chk_t it, tt, h3, if_pos (by rw [q_le]; omega)]
    rfl
  | succ d ih =>
    intro f i x hi hf
    obtain ⟨f, rfl⟩ : ∃ g, f = g + 1 := ⟨f - 1, by omega⟩
    have c : ¬ nI n ≤ nI i := nI_ge (by omega) (by omega)
    have hAi := hA i (by omega)
    rw [ovL]
    cases k : A i with
    | true =>
      rw [k] at hAi
      rw [if_pos rfl]
      by_cases kx : x = -1
      · rw [if_pos kx, ← ih f (i + 1) _ (by omega) (by omega)]
        simp only [r_M_over_L52, chk_t it, tt, h3, if_neg c, ite_true, hAi, Option.bind_some, if_neg (show ¬ b2i true = 0 by decide), if_pos kx, jn, lt_k, nI_1]
      · rw [if_neg kx]
        simp only [r_M_over_L52, chk_t it, tt, h3, if_neg c, ite_true, hAi, Option.bind_some, if_neg (show ¬ b2i true = 0 by decide), if_neg kx, jn, ovM]
    | false =>
      rw [k] at hAi
      rw [if_neg (by decide), ← ih f (i + 1) _ (by omega) (by omega)]
      simp only [r_M_over_L52, chk_t it, tt, h3, if_neg c, ite_true, hAi, Option.bind_some, if_pos (show b2i false = 0 by decide), jn, lt_k, nI_1]
theorem over_1 {t n : Nat} {T : Sto} (ht : t < 4) (h3 : T 137 t = nI n) (hn : n ≤ 10) : ∀ f, 0 < f → ∃ e, r_M_over_L52 (nI t) 1 f (-1) 0 T = some (.inl (-1, e)) := by
  intro f hf
  have it : inr (nI t) 4 = true := inr_nI ht (by decide)
  have tt : (nI t).toNatClampNeg = t := q_tnI (by omega)
  obtain ⟨f, rfl⟩ : ∃ g, f = g + 1 := ⟨f - 1, by omega⟩
  by_cases c : nI n ≤ 0
  · exact ⟨0, by simp only [r_M_over_L52, chk_t it, tt, h3, if_pos c]⟩
  · exact ⟨0, by simp only [r_M_over_L52, chk_t it, tt, h3, if_neg c, if_neg (show ¬ (1 : Int32) = 0 by decide)]⟩
theorem st_over {nL : Nat} {S : Sto} (h : Iv nL S) (x1 x2 : Int32) : ∃ (r : Int32) (S2 : Sto), r_B_over x1 x2 S = some r ∧ r_M_over x1 x2 S = some (r, S2) ∧ Iv nL S2 := by
  have hG := h.2.2.2.2.2.2.2.2.2.1
  by_cases c1 : r_B_within x1 0 3 = 0
  · exact ⟨-1, sw S 104 0 0, by simp only [r_B_over, if_pos c1], by simp only [r_M_over, ltS_k, if_pos (show r_M_isTape x1 = 0 from iM_p c1)], h.t0⟩
  have c1M : ¬ r_M_isTape x1 = 0 := iM_n c1
  obtain ⟨t, ht, rfl⟩ := law_0 c1
  obtain ⟨n, n0, n1, n2, n3⟩ := hG t ht
  have it : inr (nI t) 4 = true := inr_nI ht (by decide)
  have tt : (nI t).toNatClampNeg = t := q_tnI (by omega)
  generalize hlo : (fun i => S (58 + 8 * t + 2 + 2) i - S (58 + 8 * t + 2 + 1) i) = lo
  generalize hhi : (fun i => S (58 + 8 * t + 2 + 3) i - S (58 + 8 * t + 2 + 1) i) = hi
  have elo : ∀ i, lo i = S (58 + 8 * t + 2 + 2) i - S (58 + 8 * t + 2 + 1) i := fun i => by rw [← hlo]
  have ehi : ∀ i, hi i = S (58 + 8 * t + 2 + 3) i - S (58 + 8 * t + 2 + 1) i := fun i => by rw [← hhi]
  have hB : ∀ y : Int32, r_Sp_agreeWithout (58 + 8 * t + 2) 10 y S = some (b2i (spK (spL lo hi (fun i => decide (¬ nI i = y) && decide (i < n)) n 0 (-1000000000) 1000000000))) := fun y => by
    refine agree_B n0 (by omega) n1 (fun i hi' => ?_) (fun i hi' _ => ⟨elo i, ehi i⟩)
    obtain ⟨g1, g2, g3, g4, g5, g6⟩ := n3 i hi'
    have nm : ¬ S (58 + 8 * t + 2 + 2) i = -1 := fun q => by rw [q] at g4; exact absurd g4 (by decide)
    simp [hi', nm]
  have hM : ∀ (T : Sto) (y : Int32), (∀ a k, 137 ≤ a → a ≤ 139 → T a k = S a k) → r_M_canBe (nI t) y T = some (b2i (spK (spL lo hi (fun i => decide (¬ nI i = y) && decide (i < n)) n 0 (-10000000) 10000000))) := fun T y hT => by
    refine can_M ht n0 (by rw [hT _ _ (by omega) (by omega)]; exact n2) (fun i hi' => by simp [hi']) (fun i hi' => ?_)
    obtain ⟨g1, g2, g3, g4, g5, g6⟩ := n3 i hi'
    rw [hT _ _ (by omega) (by omega), hT _ _ (by omega) (by omega), g1, g2]
    exact ⟨elo i, ehi i⟩
  have two : ∀ y : Int32, spK (spL lo hi (fun i => decide (¬ nI i = y) && decide (i < n)) n 0 (-1000000000) 1000000000) = spK (spL lo hi (fun i => decide (¬ nI i = y) && decide (i < n)) n 0 (-10000000) 10000000) := fun y => by
    refine sp_two (fun i hi' => ?_) n 0 _ _ _ _ (Or.inr ⟨rfl, rfl, rfl, rfl⟩)
    have hin : i < n := by simp at hi'; exact hi'.2
    obtain ⟨g1, g2, ⟨g3, g3'⟩, g4, g5, g6⟩ := n3 i hin
    rw [elo, ehi]
    unfold btw
    rw [q_sub (by omega) (by omega), q_sub (by omega) (by omega)]
    omega
  have hT0 : ∀ a k, 137 ≤ a → a ≤ 139 → sw S 104 0 0 a k = S a k := fun a k g1 g2 => rd_ne (by omega)
  generalize hA : (fun y : Int32 => spK (spL lo hi (fun i => decide (¬ nI i = y) && decide (i < n)) n 0 (-1000000000) 1000000000)) = A at *
  have eB : ∀ y : Int32, r_Sp_agreeWithout (58 + 8 * t + 2) 10 y S = some (b2i (A y)) := fun y => by rw [hB, ← hA]
  have eM : ∀ y : Int32, r_M_canBe (nI t) y (sw S 104 0 0) = some (b2i (A y)) := fun y => by rw [hM _ y hT0, ← hA]; simp only; rw [two]
  have fuv : fu = 5000 := rfl
  by_cases k0 : x2 = 0
  · have z2 : ¬ r_M_isIn x2 0 1 = 0 := by rw [k0]; decide
    refine ⟨b2i (A (-1)), sw S 104 0 0, ?_, ?_, h.t0⟩
    · simp only [r_B_over, if_neg c1, if_pos k0, chk_t it, ltN, tt, eB, Option.bind_some]
      cases A (-1) <;> rfl
    · simp only [r_M_over, ltS_k, if_neg c1M, if_neg z2, eM, Option.bind_some, if_pos k0]
      cases A (-1) <;> rfl
  by_cases k1 : x2 = 1
  · have z2 : ¬ r_M_isIn x2 0 1 = 0 := by rw [k1]; decide
    have t137 : sw S 104 0 0 137 t = nI n := by rw [rd_ne (by omega)]; exact n2
    cases ka : A (-1) with
    | true =>
      obtain ⟨e, q⟩ := over_1 ht t137 n0 fu (by omega)
      refine ⟨-1, sw S 104 0 0, ?_, ?_, h.t0⟩
      · simp only [r_B_over, if_neg c1, if_neg k0, if_pos k1, chk_t it, ltN, tt, r_Sp_overAlone, eB, ka, Option.bind_some, if_neg (show ¬ b2i true = 0 by decide)]
      · simp only [r_M_over, ltS_k, if_neg c1M, if_neg z2, eM, ka, Option.bind_some, if_neg k0]
        rw [show b2i true = 1 from rfl, q]
        rfl
    | false =>
      have q1 := ov_LB (A := fun i => A (nI i)) n0 n1 (fun i _ => eB (nI i)) n fu 0 (-1) (by omega) (by omega)
      have q2 := ov_LM (A := fun i => A (nI i)) ht n0 t137 (fun i _ => eM (nI i)) n fu 0 (-1) (by omega) (by omega)
      rw [show nI 0 = 0 from rfl] at q1 q2
      refine ⟨(ovL (fun i => A (nI i)) n 0 (-1)).getD (-1), sw S 104 0 0, ?_, ?_, h.t0⟩
      · simp only [r_B_over, if_neg c1, if_neg k0, if_pos k1, chk_t it, ltN, tt, r_Sp_overAlone, eB, ka, Option.bind_some, if_pos (show b2i false = 0 by decide), q1]
        cases ovL (fun i => A (nI i)) n 0 (-1) <;> rfl
      · simp only [r_M_over, ltS_k, if_neg c1M, if_neg z2, eM, ka, Option.bind_some, if_neg k0]
        rw [show b2i false = 0 from rfl, q2]
        cases ovL (fun i => A (nI i)) n 0 (-1) <;> rfl
  have z2 : r_M_isIn x2 0 1 = 0 := by
    rw [iM_0, z_0, show (1 : Int32).toInt = 1 by decide]
    intro q
    have : x2.toInt = 0 ∨ x2.toInt = 1 := by omega
    rcases this with e | e
    · exact k0 (by rw [q_eq, e, z_0])
    · exact k1 (by rw [q_eq, e]; decide)
  exact ⟨-1, sw S 104 0 0, by simp only [r_B_over, if_neg c1, if_neg k0, if_neg k1], by simp only [r_M_over, ltS_k, if_neg c1M, if_pos z2], h.t0⟩
