/-! texts: bytes, and what stands together -/
def isLc (c : Nat) : Bool := (decide (97 ≤ c) && decide (c ≤ 122)) || (decide (65 ≤ c) && decide (c ≤ 90))
def isDc (c : Nat) : Bool := decide (48 ≤ c) && decide (c ≤ 57)
def isBc (c : Nat) : Bool := decide (c = 32) || decide (c = 10)
def isSc (c : Nat) : Bool := decide (c = 59) || decide (c = 43) || decide (c = 45) || decide (c = 42) || decide (c = 47) || decide (c = 40) || decide (c = 41) || decide (c = 60) || decide (c = 61) || decide (c = 62)
theorem lc_B : ∀ c, c < 256 → r_Rd_isLetter (nI c) = b2i (isLc c) := by decide +kernel
theorem dc_B : ∀ c, c < 256 → r_Rd_isDigit (nI c) = b2i (isDc c) := by decide +kernel
theorem lc_M : ∀ c, c < 256 → r_M_isLetter (nI c) = b2i (isLc c) := by decide +kernel
theorem dc_M : ∀ c, c < 256 → r_M_isDigit (nI c) = b2i (isDc c) := by decide +kernel
theorem sc_M : ∀ c, c < 256 → r_M_isMarkSign (nI c) = b2i (isSc c) := by decide +kernel
def spn (q : Nat → Bool) (Bs : Nat → Nat) (m : Nat) : Nat → Nat → Nat
  | 0, i => i
  | d + 1, i => if (decide (i < m) && q (Bs i)) = true then spn q Bs m d (i + 1) else i
theorem spn_le {q : Nat → Bool} {Bs : Nat → Nat} {m : Nat} : ∀ (d i : Nat), i ≤ spn q Bs m d i ∧ (i ≤ m → spn q Bs m d i ≤ m) := by
  intro d
  induction d with
  | zero => intro i; exact ⟨Nat.le_refl _, id⟩
  | succ d ih =>
    intro i
    rw [spn]
    by_cases k : (decide (i < m) && q (Bs i)) = true
    · rw [if_pos k]
      have h : i < m := by rw [Bool.and_eq_true, decide_eq_true_eq] at k; exact k.1
      have := ih (i + 1)
      exact ⟨by omega, fun _ => this.2 (by omega)⟩
    · rw [if_neg k]; exact ⟨Nat.le_refl _, id⟩
/-- the class's bytes -/
def byB (Bs : Nat → Nat) (m : Nat) (S : Sto) : Prop := m ≤ 400 ∧ S 29 1 = nI m ∧ ∀ i, i < m → S 30 i &&& 255 = nI (Bs i) ∧ Bs i < 256
def byM (Bs : Nat → Nat) (m : Nat) (T : Sto) : Prop := m ≤ 400 ∧ T 104 27 = nI m ∧ ∀ i, i < m → T 118 i = nI (Bs i) ∧ Bs i < 256
theorem byB.go {Bs : Nat → Nat} {m : Nat} {S S' : Sto} (h : byB Bs m S) (f : ∀ a k, (a = 30 ∨ (a = 29 ∧ k = 1)) → S' a k = S a k) : byB Bs m S' := by
  obtain ⟨h1, h2, h3⟩ := h
  exact ⟨h1, by rw [f 29 1 (Or.inr ⟨rfl, rfl⟩)]; exact h2, fun i hi => by rw [f 30 i (Or.inl rfl)]; exact h3 i hi⟩
theorem byM.go {Bs : Nat → Nat} {m : Nat} {T T' : Sto} (h : byM Bs m T) (f : ∀ a k, (a = 118 ∨ (a = 104 ∧ k = 27)) → T' a k = T a k) : byM Bs m T' := by
  obtain ⟨h1, h2, h3⟩ := h
  exact ⟨h1, by rw [f 104 27 (Or.inr ⟨rfl, rfl⟩)]; exact h2, fun i hi => by rw [f 118 i (Or.inl rfl)]; exact h3 i hi⟩
theorem by_B {Bs : Nat → Nat} {m : Nat} {S : Sto} (h : byB Bs m S) {i : Nat} (hi : i < m) : r_Rd_byteAt (nI i) S = some (nI (Bs i)) := by
  obtain ⟨h1, h2, h3⟩ := h
  have i1 : inr (nI i) 400 = true := inr_nI (by omega) (by decide)
  have t1 : (nI i).toNatClampNeg = i := q_tnI (by omega)
  simp only [r_Rd_byteAt, h2, if_neg (nI_pos (n := i) (by omega)), if_neg (nI_ge hi (by omega)), if_neg (show ¬ (400 : Int32) ≤ nI i from nI_ge (b := 400) (by omega) (by omega)), chk_t i1, t1, (h3 i hi).1]
theorem raw_M {Bs : Nat → Nat} {m : Nat} {T : Sto} (h : byM Bs m T) {i : Nat} (hi : i ≤ m) : r_M_raw (nI i) T = some (if i < m then nI (Bs i) else -1) := by
  obtain ⟨h1, h2, h3⟩ := h
  by_cases k : i < m
  · have i1 : inr (nI i) 400 = true := inr_nI (by omega) (by decide)
    have t1 : (nI i).toNatClampNeg = i := q_tnI (by omega)
    simp only [r_M_raw, h2, if_neg (nI_ge k (by omega)), chk_t i1, t1, (h3 i k).1, if_pos k]
  · simp only [r_M_raw, h2, if_pos (nI_le (show m ≤ i by omega) (by omega)), if_neg k]
/-- only these fields of the reader change -/
def frR (S S' : Sto) : Prop := ∀ a k, ¬ (a = 29 ∧ (k = 5 ∨ k = 6 ∨ k = 7 ∨ k = 8)) → S' a k = S a k
def frQ (T T' : Sto) : Prop := ∀ a k, ¬ (a = 104 ∧ (28 ≤ k ∧ k ≤ 31)) → T' a k = T a k
theorem frR.tr {S S1 S2 : Sto} (h : frR S S1) (g : frR S1 S2) : frR S S2 := fun a k q => (g a k q).trans (h a k q)
theorem frQ.tr {S S1 S2 : Sto} (h : frQ S S1) (g : frQ S1 S2) : frQ S S2 := fun a k q => (g a k q).trans (h a k q)
theorem frR.by {Bs : Nat → Nat} {m : Nat} {S S' : Sto} (h : frR S S') (g : byB Bs m S) : byB Bs m S' := g.go (fun a k q => h a k (by omega))
theorem frQ.by {Bs : Nat → Nat} {m : Nat} {S S' : Sto} (h : frQ S S') (g : byM Bs m S) : byM Bs m S' := g.go (fun a k q => h a k (by omega))
theorem skip_B {Bs : Nat → Nat} {m : Nat} : ∀ (d f i : Nat) (S : Sto), m ≤ i + d → i ≤ m → d < f → byB Bs m S → S 29 5 = nI i → ∃ S', r_Rd_scan_L0 f S = some S' ∧ S' 29 5 = nI (spn isBc Bs m d i) ∧ ∀ a k, ¬ (a = 29 ∧ k = 5) → S' a k = S a k := by
  intro d
  induction d with
  | zero =>
    intro f i S hi him hf hS h5
    obtain ⟨f, rfl⟩ : ∃ g, f = g + 1 := ⟨f - 1, by omega⟩
    have hm := hS.1
    have c : S 29 1 ≤ S 29 5 := by rw [hS.2.1, h5]; exact nI_le (by omega) (by omega)
    exact ⟨S, by rw [r_Rd_scan_L0, if_pos c], h5, fun _ _ _ => rfl⟩
  | succ d ih =>
    intro f i S hi him hf hS h5
    obtain ⟨f, rfl⟩ : ∃ g, f = g + 1 := ⟨f - 1, by omega⟩
    have hm := hS.1
    rw [spn]
    by_cases k : i < m
    · have h1 := hS.2.1
      have c : ¬ nI m ≤ nI i := nI_ge k (by omega)
      have bt := by_B hS k
      have bl := (hS.2.2 i k).2
      rw [decide_eq_true k, Bool.true_and]
      have go : isBc (Bs i) = true → r_Rd_scan_L0 (f + 1) S = r_Rd_scan_L0 f (sw S 29 5 (nI (i + 1))) → ∃ S', r_Rd_scan_L0 (f + 1) S = some S' ∧ S' 29 5 = nI (if isBc (Bs i) = true then spn isBc Bs m d (i + 1) else i) ∧ ∀ a k, ¬ (a = 29 ∧ k = 5) → S' a k = S a k := by
        intro hb he
        obtain ⟨S', q1, q2, q3⟩ := ih f (i + 1) (sw S 29 5 (nI (i + 1))) (by omega) (by omega) (by omega) (hS.go (fun a k q => rd_ne (by omega))) sw_same
        exact ⟨S', by rw [he]; exact q1, by rw [hb, if_pos rfl]; exact q2, fun a k g => by rw [q3 a k g, rd_ne g]⟩
      by_cases k1 : Bs i = 32
      · have hb : isBc (Bs i) = true := by unfold isBc; rw [decide_eq_true k1]; rfl
        have z : nI (Bs i) = 32 := by rw [k1]; rfl
        refine go hb ?_
        simp only [r_Rd_scan_L0, h1, h5, if_neg c, bt, Option.bind_some, if_pos z, jn, ltS_k, nI_1]
      · have z : ¬ nI (Bs i) = 32 := fun q => k1 ((nI_eq (b := 32) (by omega) (by omega)).mp q)
        by_cases k2 : Bs i = 10
        · have hb : isBc (Bs i) = true := by unfold isBc; rw [decide_eq_true k2]; simp
          have z2 : nI (Bs i) = 10 := by rw [k2]; rfl
          refine go hb ?_
          simp only [r_Rd_scan_L0, h1, h5, if_neg c, bt, Option.bind_some, if_neg z, if_pos z2, jn, ltS_k, nI_1]
        · have z2 : ¬ nI (Bs i) = 10 := fun q => k2 ((nI_eq (b := 10) (by omega) (by omega)).mp q)
          have hb : isBc (Bs i) = false := by unfold isBc; rw [decide_eq_false k1, decide_eq_false k2]; rfl
          refine ⟨S, ?_, by rw [hb, if_neg (by decide)]; exact h5, fun _ _ _ => rfl⟩
          simp only [r_Rd_scan_L0, h1, h5, if_neg c, bt, Option.bind_some, if_neg z, if_neg z2, jn]
    · have c : S 29 1 ≤ S 29 5 := by rw [hS.2.1, h5]; exact nI_le (by omega) (by omega)
      rw [decide_eq_false k, Bool.false_and, if_neg (by decide)]
      exact ⟨S, by rw [r_Rd_scan_L0, if_pos c], h5, fun _ _ _ => rfl⟩
theorem word_B {Bs : Nat → Nat} {m : Nat} : ∀ (d f i : Nat) (S : Sto), m ≤ i + d → i ≤ m → d < f → byB Bs m S → S 29 5 = nI i → ∃ S', r_Rd_scanWord_L0 f S = some S' ∧ S' 29 5 = nI (spn isLc Bs m d i) ∧ ∀ a k, ¬ (a = 29 ∧ k = 5) → S' a k = S a k := by
  intro d
  induction d with
  | zero =>
    intro f i S hi him hf hS h5
    obtain ⟨f, rfl⟩ : ∃ g, f = g + 1 := ⟨f - 1, by omega⟩
    have hm := hS.1
    have c : S 29 1 ≤ S 29 5 := by rw [hS.2.1, h5]; exact nI_le (by omega) (by omega)
    exact ⟨S, by rw [r_Rd_scanWord_L0, if_pos c], h5, fun _ _ _ => rfl⟩
  | succ d ih =>
    intro f i S hi him hf hS h5
    obtain ⟨f, rfl⟩ : ∃ g, f = g + 1 := ⟨f - 1, by omega⟩
    have hm := hS.1
    rw [spn]
    by_cases k : i < m
    · have h1 := hS.2.1
      have c : ¬ nI m ≤ nI i := nI_ge k (by omega)
      have bt := by_B hS k
      have bl := lc_B (Bs i) (hS.2.2 i k).2
      rw [decide_eq_true k, Bool.true_and]
      cases hb : isLc (Bs i) with
      | true =>
        rw [hb] at bl
        obtain ⟨S', q1, q2, q3⟩ := ih f (i + 1) (sw S 29 5 (nI (i + 1))) (by omega) (by omega) (by omega) (hS.go (fun a k q => rd_ne (by omega))) sw_same
        refine ⟨S', ?_, by rw [if_pos rfl]; exact q2, fun a k g => by rw [q3 a k g, rd_ne g]⟩
        rw [← q1]
        simp only [r_Rd_scanWord_L0, h1, h5, if_neg c, bt, Option.bind_some, bl, if_neg (show ¬ b2i true = 0 by decide), ltS_k, nI_1]
      | false =>
        rw [hb] at bl
        refine ⟨S, ?_, by rw [if_neg (by decide)]; exact h5, fun _ _ _ => rfl⟩
        simp only [r_Rd_scanWord_L0, h1, h5, if_neg c, bt, Option.bind_some, bl, if_pos (show b2i false = 0 by decide)]
    · have c : S 29 1 ≤ S 29 5 := by rw [hS.2.1, h5]; exact nI_le (by omega) (by omega)
      rw [decide_eq_false k, Bool.false_and, if_neg (by decide)]
      exact ⟨S, by rw [r_Rd_scanWord_L0, if_pos c], h5, fun _ _ _ => rfl⟩
/-- the number that digits tell -/
def nmV (Bs : Nat → Nat) : Nat → Nat → Nat → Nat
  | 0, _, a => a
  | d + 1, i, a => nmV Bs d (i + 1) (10 * a + (Bs i - 48))
theorem nmV_s {Bs : Nat → Nat} : ∀ (d i a : Nat), nmV Bs (d + 1) i a = 10 * nmV Bs d i a + (Bs (i + d) - 48) := by
  intro d
  induction d with
  | zero => intro i a; rfl
  | succ d ih =>
    intro i a
    rw [nmV, ih, nmV, Nat.add_assoc i 1 d, Nat.add_comm 1 d]
theorem dig_n {c a : Nat} (h : isDc c = true) (ha : a < 10000000) : ((10 : Int32) * nI a + nI c) - 48 = nI (10 * a + (c - 48)) := by
  unfold isDc at h
  rw [Bool.and_eq_true, decide_eq_true_eq, decide_eq_true_eq] at h
  rw [show (10 : Int32) * nI a = nI (10 * a) from pk_mul 10 a, nI_add, show (48 : Int32) = nI 48 from rfl, pk_sub (by omega), show 10 * a + c - 48 = 10 * a + (c - 48) by omega]
theorem nmV_lt {Bs : Nat → Nat} {p : Nat} (hB : ∀ i, p ≤ i → isDc (Bs i) = true ∨ True) : ∀ d, d ≤ 5 → (∀ i, i < d → isDc (Bs (p + i)) = true) → nmV Bs d p 0 < 10 ^ d := by
  intro d
  induction d with
  | zero =>
    intro _ _
    show 0 < 1
    decide
  | succ d ih =>
    intro hd h
    have h1 := ih (by omega) (fun i hi => h i (by omega))
    have h2 := h d (by omega)
    unfold isDc at h2
    rw [Bool.and_eq_true, decide_eq_true_eq, decide_eq_true_eq] at h2
    rw [nmV_s, Nat.pow_succ]
    omega
theorem num_B {Bs : Nat → Nat} {m p : Nat} : ∀ (d f i : Nat) (S : Sto), m ≤ i + d → i ≤ m → p ≤ i → d < f → byB Bs m S → (∀ j, p ≤ j → j < i → isDc (Bs j) = true) → S 29 5 = nI i → S 29 8 = nI p → S 29 7 = nI (nmV Bs (if i - p < 5 then i - p else 5) p 0) → ∃ S', r_Rd_scanNumber_L5 f S = some S' ∧ S' 29 5 = nI (spn isDc Bs m d i) ∧ S' 29 7 = nI (nmV Bs (if spn isDc Bs m d i - p < 5 then spn isDc Bs m d i - p else 5) p 0) ∧ ∀ a k, ¬ (a = 29 ∧ (k = 5 ∨ k = 7)) → S' a k = S a k := by
  intro d
  induction d with
  | zero =>
    intro f i S hi him hp hf hS hdg h5 h8 h7
    obtain ⟨f, rfl⟩ : ∃ g, f = g + 1 := ⟨f - 1, by omega⟩
    have hm := hS.1
    have c : S 29 1 ≤ S 29 5 := by rw [hS.2.1, h5]; exact nI_le (by omega) (by omega)
    exact ⟨S, by rw [r_Rd_scanNumber_L5, if_pos c], h5, h7, fun _ _ _ => rfl⟩
  | succ d ih =>
    intro f i S hi him hp hf hS hdg h5 h8 h7
    obtain ⟨f, rfl⟩ : ∃ g, f = g + 1 := ⟨f - 1, by omega⟩
    have hm := hS.1
    rw [spn]
    by_cases k : i < m
    · have h1 := hS.2.1
      have c : ¬ nI m ≤ nI i := nI_ge k (by omega)
      have bt := by_B hS k
      have bl := dc_B (Bs i) (hS.2.2 i k).2
      rw [decide_eq_true k, Bool.true_and]
      cases hb : isDc (Bs i) with
      | true =>
        rw [hb] at bl
        rw [if_pos rfl]
        have hdg' : ∀ j, p ≤ j → j < i + 1 → isDc (Bs j) = true := fun j h1 h2 => by
          by_cases e : j = i
          · rw [e]; exact hb
          · exact hdg j h1 (by omega)
        have e58 : nI i - nI p = nI (i - p) := pk_sub hp
        by_cases k5 : i - p < 5
        · have z : ¬ (5 : Int32) ≤ nI (i - p) := nI_ge (b := 5) (by omega) (by omega)
          rw [if_pos k5] at h7
          have lt := nmV_lt (Bs := Bs) (p := p) (fun _ _ => Or.inr trivial) (i - p) (by omega) (fun j hj => hdg _ (by omega) (by omega))
          have p5 : 10 ^ (i - p) ≤ 10 ^ 5 := Nat.pow_le_pow_right (by decide) (by omega)
          have dn := dig_n (a := nmV Bs (i - p) p 0) hb (by omega)
          have nv : 10 * nmV Bs (i - p) p 0 + (Bs i - 48) = nmV Bs (i + 1 - p) p 0 := by
            rw [show i + 1 - p = (i - p) + 1 by omega, nmV_s, show p + (i - p) = i by omega]
          rw [nv] at dn
          obtain ⟨S', q1, q2, q3, q4⟩ := ih f (i + 1) (sw (sw S 29 7 (nI (nmV Bs (i + 1 - p) p 0))) 29 5 (nI (i + 1))) (by omega) (by omega) (by omega) (by omega) (hS.go (fun a k q => by rw [rd_ne (by omega), rd_ne (by omega)])) hdg' sw_same (by rw [rd_ne (by omega), rd_ne (by omega)]; exact h8) (by
            rw [rd_ne (by omega), sw_same]
            by_cases k6 : i + 1 - p < 5
            · rw [if_pos k6]
            · rw [if_neg k6, show i + 1 - p = 5 by omega])
          refine ⟨S', ?_, q2, q3, fun a k g => by rw [q4 a k g, rd_ne (by omega), rd_ne (by omega)]⟩
          rw [← q1]
          simp (disch := omega) only [r_Rd_scanNumber_L5, h1, h5, if_neg c, h8, bt, Option.bind_some, bl, if_neg (show ¬ b2i true = 0 by decide), e58, if_neg z, h7, dn, ltS_k, jn_k, rd_ne, nI_1]
        · have z : (5 : Int32) ≤ nI (i - p) := nI_le (a := 5) (by omega) (by omega)
          rw [if_neg k5] at h7
          obtain ⟨S', q1, q2, q3, q4⟩ := ih f (i + 1) (sw S 29 5 (nI (i + 1))) (by omega) (by omega) (by omega) (by omega) (hS.go (fun a k q => rd_ne (by omega))) hdg' sw_same (by rw [rd_ne (by omega)]; exact h8) (by rw [rd_ne (by omega), if_neg (by omega)]; exact h7)
          refine ⟨S', ?_, q2, q3, fun a k g => by rw [q4 a k g, rd_ne (by omega)]⟩
          rw [← q1]
          simp (disch := omega) only [r_Rd_scanNumber_L5, h1, h5, if_neg c, h8, bt, Option.bind_some, bl, if_neg (show ¬ b2i true = 0 by decide), e58, if_pos z, ltS_k, jn_k, nI_1]
      | false =>
        rw [hb] at bl
        rw [if_neg (by decide)]
        refine ⟨S, ?_, h5, h7, fun _ _ _ => rfl⟩
        simp only [r_Rd_scanNumber_L5, h1, h5, if_neg c, bt, Option.bind_some, bl, if_pos (show b2i false = 0 by decide)]
    · have c : S 29 1 ≤ S 29 5 := by rw [hS.2.1, h5]; exact nI_le (by omega) (by omega)
      rw [decide_eq_false k, Bool.false_and, if_neg (by decide)]
      exact ⟨S, by rw [r_Rd_scanNumber_L5, if_pos c], h5, h7, fun _ _ _ => rfl⟩
