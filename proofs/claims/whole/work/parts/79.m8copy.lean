/-! the start's comparison and outcome don't matter -/
def eqA : AS → AS → Prop
  | (st, cmp, ln, out, op, br, W, C), (st', cmp', ln', out', op', br', W', C') => st = st' ∧ ln = ln' ∧ op = op' ∧ br = br' ∧ W = W' ∧ C = C' ∧ (4 ≤ st → cmp = cmp') ∧ (2 ≤ st → out = out')
theorem eqA.rf : ∀ (A : AS), eqA A A
  | (_, _, _, _, _, _, _, _) => ⟨rfl, rfl, rfl, rfl, rfl, rfl, fun _ => rfl, fun _ => rfl⟩
def eqR : Nat ⊕ AS → Nat ⊕ AS → Prop
  | .inl f, .inl g => f = g
  | .inr A, .inr B => eqA A B
  | _, _ => False
theorem eqR.rf : ∀ (x : Nat ⊕ AS), eqR x x
  | .inl _ => rfl
  | .inr A => eqA.rf A
theorem eq_ok {A B : AS} (h : eqA A B) (g : okS A) : okS B := by
  obtain ⟨st, cmp, ln, out, op, br, W, C⟩ := A
  obtain ⟨st', cmp', ln', out', op', br', W', C'⟩ := B
  obtain ⟨rfl, rfl, rfl, rfl, rfl, rfl, h7, h8⟩ := h
  obtain ⟨g1, g2, g3, g4, g5, g6⟩ := g
  exact ⟨g1, g2, fun z => by rw [← h7 z]; exact g3 z, g4, fun z => by rw [← h8 (by omega)]; exact g5 z, g6⟩
theorem eq_take {law : Bool} {tok num : Nat} {A B : AS} (h : eqA A B) : eqR (takeA law tok num A) (takeA law tok num B) := by
  obtain ⟨st, cmp, ln, out, op, br, W, C⟩ := A
  obtain ⟨st', cmp', ln', out', op', br', W', C'⟩ := B
  obtain ⟨rfl, rfl, rfl, rfl, rfl, rfl, h7, h8⟩ := h
  by_cases k : 4 ≤ st
  · have e1 := h7 k
    have e2 := h8 (by omega)
    subst e1 e2
    exact eqR.rf _
  · have : st = 0 ∨ st = 1 ∨ st = 2 ∨ st = 3 := by omega
    rcases this with rfl | rfl | rfl | rfl
    · show eqR (if 4 ≤ tok ∧ tok ≤ (if law = true then 4 else 6) then (if ln < 12 then Sum.inr ((if law = true then 1 else 2), cmp, ln + 1, tok - 4 + 1, op, br, W, C) else Sum.inl 3) else Sum.inl 1) (if 4 ≤ tok ∧ tok ≤ (if law = true then 4 else 6) then (if ln < 12 then Sum.inr ((if law = true then 1 else 2), cmp', ln + 1, tok - 4 + 1, op, br, W, C) else Sum.inl 3) else Sum.inl 1)
      have l2 : (if law = true then 1 else 2) ≤ 2 := by split <;> omega
      by_cases c1 : 4 ≤ tok ∧ tok ≤ (if law = true then 4 else 6)
      · rw [if_pos c1, if_pos c1]
        by_cases c2 : ln < 12
        · rw [if_pos c2, if_pos c2]
          exact ⟨rfl, rfl, rfl, rfl, rfl, rfl, fun z => by omega, fun _ => rfl⟩
        · rw [if_neg c2, if_neg c2]; rfl
      · rw [if_neg c1, if_neg c1]; rfl
    · show eqR (if 5 ≤ tok ∧ tok ≤ 8 then Sum.inr (2, cmp, ln, tok - 5, op, br, W, C) else Sum.inl 1) (if 5 ≤ tok ∧ tok ≤ 8 then Sum.inr (2, cmp', ln, tok - 5, op, br, W, C) else Sum.inl 1)
      by_cases c1 : 5 ≤ tok ∧ tok ≤ 8
      · rw [if_pos c1, if_pos c1]
        exact ⟨rfl, rfl, rfl, rfl, rfl, rfl, fun z => by omega, fun _ => rfl⟩
      · rw [if_neg c1, if_neg c1]; rfl
    · have e2 := h8 (by omega)
      subst e2
      show eqR (if tok = 0 then Sum.inr (3, cmp, ln, out, op, br, W, C) else Sum.inl 1) (if tok = 0 then Sum.inr (3, cmp', ln, out, op, br, W, C) else Sum.inl 1)
      by_cases c1 : tok = 0
      · rw [if_pos c1, if_pos c1]
        exact ⟨rfl, rfl, rfl, rfl, rfl, rfl, fun z => by omega, fun _ => rfl⟩
      · rw [if_neg c1, if_neg c1]; rfl
    · have e2 := h8 (by omega)
      subst e2
      exact eqR.rf (claimA law tok num ln out op br W C)
theorem eq_Pth {law : Bool} {Bs : Nat → Nat} {m : Nat} : ∀ (n : Nat) (A B A' : AS) (p q : Nat), eqA A B → Pth law Bs m n A p A' q → ∃ B', Pth law Bs m n B p B' q ∧ eqA A' B' := by
  intro n
  induction n with
  | zero =>
    intro A B A' p q h g
    obtain ⟨rfl, rfl⟩ := g
    exact ⟨B, ⟨rfl, rfl⟩, h⟩
  | succ n ih =>
    intro A B A' p q h g
    obtain ⟨g1, A1, g2, g3⟩ := g
    have t := eq_take (law := law) (tok := tkT Bs m law p) (num := tkN Bs m p) h
    rw [g2] at t
    cases hB : takeA law (tkT Bs m law p) (tkN Bs m p) B with
    | inl f => rw [hB] at t; exact t.elim
    | inr B1 =>
      rw [hB] at t
      obtain ⟨B', w1, w2⟩ := ih A1 B1 A' _ q t g3
      exact ⟨B', ⟨eq_ok h g1, B1, hB, w1⟩, w2⟩
theorem eq_Flt {law : Bool} {Bs : Nat → Nat} {m pos f : Nat} {A B : AS} (h : eqA A B) (g : Flt law Bs m A pos f) : Flt law Bs m B pos f := by
  obtain ⟨g1, g2, g3⟩ := g
  have t := eq_take (law := law) (tok := tkT Bs m law pos) (num := tkN Bs m pos) h
  rw [g3] at t
  refine ⟨eq_ok h g1, fun z => g2 ⟨z.1, ?_⟩, ?_⟩
  · obtain ⟨st, cmp, ln, out, op, br, W, C⟩ := A
    obtain ⟨st', cmp', ln', out', op', br', W', C'⟩ := B
    have e : st = st' := h.1
    have z2 : st' = 0 := z.2
    show st = 0
    omega
  · cases hB : takeA law (tkT Bs m law pos) (tkN Bs m pos) B with
    | inl f2 =>
      rw [hB] at t
      have e : f = f2 := t
      rw [e]
    | inr B1 => rw [hB] at t; exact t.elim
/-! the reference keeps a text -/
theorem cp_90 {k n : Nat} (hk : k < 5) (hn : n ≤ 12) : ∀ (d f i : Nat) (T : Sto), i + d = n → d < f → ∃ x T', r_M_text_L90 (nI k) (nI n) f (nI i) T = some (x, T') ∧ (∀ a j, (a = 121 ∨ a = 122 ∨ a = 123) → i ≤ j → j < n → T' a (12 * k + j) = T a (60 + j)) ∧ ∀ a j, ¬ ((a = 121 ∨ a = 122 ∨ a = 123) ∧ 12 * k + i ≤ j ∧ j < 12 * k + n) → T' a j = T a j := by
  intro d
  induction d with
  | zero =>
    intro f i T hi hf
    obtain ⟨f, rfl⟩ : ∃ g, f = g + 1 := ⟨f - 1, by omega⟩
    refine ⟨nI i, T, ?_, fun a j _ h1 h2 => by omega, fun _ _ _ => rfl⟩
    rw [r_M_text_L90, if_pos (nI_le (by omega) (by omega))]
  | succ d ih =>
    intro f i T hi hf
    obtain ⟨f, rfl⟩ : ∃ g, f = g + 1 := ⟨f - 1, by omega⟩
    have c : ¬ nI n ≤ nI i := nI_ge (by omega) (by omega)
    have e1 : (60 : Int32) + nI i = nI (60 + i) := nI_add 60 i
    have e2 : (12 : Int32) * nI k = nI (12 * k) := pk_mul 12 k
    have e3 : nI (12 * k) + nI i = nI (12 * k + i) := nI_add _ _
    have i1 : inr (nI (60 + i)) 72 = true := inr_nI (by omega) (by decide)
    have i2 : inr (nI (12 * k + i)) 72 = true := inr_nI (by omega) (by decide)
    have t1 : (nI (60 + i)).toNatClampNeg = 60 + i := q_tnI (by omega)
    have t2 : (nI (12 * k + i)).toNatClampNeg = 12 * k + i := q_tnI (by omega)
    generalize hV : sw (sw (sw T 121 (12 * k + i) (T 121 (60 + i))) 122 (12 * k + i) (T 122 (60 + i))) 123 (12 * k + i) (T 123 (60 + i)) = V
    have fV : ∀ a j, ¬ ((a = 121 ∨ a = 122 ∨ a = 123) ∧ j = 12 * k + i) → V a j = T a j := fun a j g => by rw [← hV, rd_ne (by omega), rd_ne (by omega), rd_ne (by omega)]
    have nV : ∀ a, (a = 121 ∨ a = 122 ∨ a = 123) → V a (12 * k + i) = T a (60 + i) := fun a g => by
      rcases g with rfl | rfl | rfl
      · rw [← hV, rd_ne (by omega), rd_ne (by omega), sw_same]
      · rw [← hV, rd_ne (by omega), sw_same]
      · rw [← hV, sw_same]
    obtain ⟨x, T', q1, q2, q3⟩ := ih f (i + 1) V (by omega) (by omega)
    refine ⟨x, T', ?_, fun a j g h1 h2 => ?_, fun a j g => ?_⟩
    · rw [← q1, ← hV]
      simp (disch := omega) only [r_M_text_L90, if_neg c, e1, e2, e3, chk_t i1, chk_t i2, t1, t2, ltS_k, lt_k, rd_ne, nI_1]
    · by_cases e : j = i
      · rw [e, q3 _ _ (by omega), nV a g]
      · rw [q2 a j g (by omega) h2, fV _ _ (by omega)]
    · rw [q3 a j (by omega), fV a j (by omega)]
theorem cp_171 {k M : Nat} {y3 : Int32} (hk : k < 5) (hM : M ≤ 400) : ∀ (d f i : Nat) (T : Sto), i + d = M → d < f → T 104 40 = nI M → ∃ x T', r_M_text_L171 (nI k) y3 f (nI i) T = some (x, T') ∧ (∀ a j, (a = 124 ∨ a = 125) → i ≤ j → j < M → T' a (400 * k + j) = T a (2000 + j)) ∧ ∀ a j, ¬ ((a = 124 ∨ a = 125) ∧ 400 * k + i ≤ j ∧ j < 400 * k + M) → T' a j = T a j := by
  intro d
  induction d with
  | zero =>
    intro f i T hi hf h40
    obtain ⟨f, rfl⟩ : ∃ g, f = g + 1 := ⟨f - 1, by omega⟩
    refine ⟨nI i, T, ?_, fun a j _ h1 h2 => by omega, fun _ _ _ => rfl⟩
    rw [r_M_text_L171, h40, if_pos (nI_le (by omega) (by omega))]
  | succ d ih =>
    intro f i T hi hf h40
    obtain ⟨f, rfl⟩ : ∃ g, f = g + 1 := ⟨f - 1, by omega⟩
    have c : ¬ nI M ≤ nI i := nI_ge (by omega) (by omega)
    have e1 : (2000 : Int32) + nI i = nI (2000 + i) := nI_add 2000 i
    have e2 : (400 : Int32) * nI k = nI (400 * k) := pk_mul 400 k
    have e3 : nI (400 * k) + nI i = nI (400 * k + i) := nI_add _ _
    have i1 : inr (nI (2000 + i)) 2400 = true := inr_nI (by omega) (by decide)
    have i2 : inr (nI (400 * k + i)) 2400 = true := inr_nI (by omega) (by decide)
    have t1 : (nI (2000 + i)).toNatClampNeg = 2000 + i := q_tnI (by omega)
    have t2 : (nI (400 * k + i)).toNatClampNeg = 400 * k + i := q_tnI (by omega)
    generalize hV : sw (sw T 124 (400 * k + i) (T 124 (2000 + i))) 125 (400 * k + i) (T 125 (2000 + i)) = V
    have fV : ∀ a j, ¬ ((a = 124 ∨ a = 125) ∧ j = 400 * k + i) → V a j = T a j := fun a j g => by rw [← hV, rd_ne (by omega), rd_ne (by omega)]
    have nV : ∀ a, (a = 124 ∨ a = 125) → V a (400 * k + i) = T a (2000 + i) := fun a g => by
      rcases g with rfl | rfl
      · rw [← hV, rd_ne (by omega), sw_same]
      · rw [← hV, sw_same]
    obtain ⟨x, T', q1, q2, q3⟩ := ih f (i + 1) V (by omega) (by omega) (by rw [fV _ _ (by omega)]; exact h40)
    refine ⟨x, T', ?_, fun a j g h1 h2 => ?_, fun a j g => ?_⟩
    · rw [← q1, ← hV]
      simp (disch := omega) only [r_M_text_L171, h40, if_neg c, e1, e2, e3, chk_t i1, chk_t i2, t1, t2, ltS_k, lt_k, rd_ne, nI_1]
    · by_cases e : j = i
      · rw [e, q3 _ _ (by omega), nV a g]
      · rw [q2 a j g (by omega) h2, fV _ _ (by omega)]
    · rw [q3 a j (by omega), fV a j (by omega)]
/-! bytes -/
theorem and_255 (x : Int32) : ∃ n, n < 256 ∧ x &&& 255 = nI n := by
  refine ⟨(x &&& 255).toBitVec.toNat, ?_, ?_⟩
  · rw [Int32.toBitVec_and, BitVec.toNat_and, show (Int32.toBitVec 255).toNat = 255 by decide]
    have := Nat.and_le_right (n := x.toBitVec.toNat) (m := 255)
    omega
  · apply Int32.toBitVec_inj.mp
    show (x &&& 255).toBitVec = BitVec.ofNat 32 (x &&& 255).toBitVec.toNat
    generalize (x &&& 255).toBitVec = b
    simp
theorem byt_B {S : Sto} (h : gByt S) : ∃ Bs m, byB Bs m S ∧ byM Bs m S := by
  obtain ⟨n, h0, h1, h2, h3⟩ := h
  have key : ∀ i, ∃ b, b < 256 ∧ S 30 i &&& 255 = nI b := fun i => and_255 _
  refine ⟨fun i => Classical.choose (key i), n, ⟨h0, h1, fun i hi => ?_⟩, ⟨h0, h2, fun i hi => ?_⟩⟩
  · have g := Classical.choose_spec (key i)
    exact ⟨g.2, g.1⟩
  · have g := Classical.choose_spec (key i)
    exact ⟨(h3 i hi).trans g.2, g.1⟩
theorem law_5 {x : Int32} (h : ¬ r_B_within x 0 4 = 0) : ∃ k, k < 5 ∧ x = nI k := by
  have := win_n h
  rw [z_0, show (4 : Int32).toInt = 4 by decide] at this
  obtain ⟨k, e1, e2⟩ := q_nI this.1
  exact ⟨k, by omega, e1⟩
