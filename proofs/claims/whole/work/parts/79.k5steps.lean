/-! the reader's row of signs that wait, and its code -/
def rnk (a : Nat) : Nat := if a = 1 then 1 else if a = 2 then 2 else if a = 3 then 3 else if a = 42 then 6 else if a = 43 then 5 else if a = 45 then 5 else if a = 60 then 4 else if a = 61 then 4 else if a = 62 then 4 else 0
theorem rnk_B : ∀ a, a < 64 → r_Rd_rank (nI a) = nI (rnk a) ∧ rnk a ≤ 6 := by decide +kernel
def stkN (R : Nat → Int32) : List Nat → Prop
  | [] => True
  | a :: r => R r.length = nI a ∧ stkN R r
theorem stkN_cong {R R' : Nat → Int32} : ∀ (l : List Nat), (∀ j, j < l.length → R' j = R j) → stkN R l → stkN R' l := by
  intro l
  induction l with
  | nil => intro _ _; trivial
  | cons a r ih =>
    intro h g
    exact ⟨(h _ (by rw [List.length_cons]; omega)).trans g.1, ih (fun j hj => h j (by rw [List.length_cons]; omega)) g.2⟩
def wtB (W : List Nat) (S : Sto) : Prop := S 29 16 = nI W.length ∧ W.length ≤ 40 ∧ stkN (S 31) W ∧ ∀ a ∈ W, a < 64
def cdB (C : Cod) (S : Sto) : Prop := S 29 18 = nI C.length ∧ C.length ≤ 400 ∧ ∀ i q, C[i]? = some q → S 32 i = cw1 q
theorem wtB.go {W : List Nat} {S S' : Sto} (h : wtB W S) (f : ∀ a k, (a = 31 ∨ (a = 29 ∧ k = 16)) → S' a k = S a k) : wtB W S' := by
  obtain ⟨h1, h2, h3, h4⟩ := h
  exact ⟨by rw [f 29 16 (Or.inr ⟨rfl, rfl⟩)]; exact h1, h2, stkN_cong W (fun j _ => f 31 j (Or.inl rfl)) h3, h4⟩
theorem cdB.go {C : Cod} {S S' : Sto} (h : cdB C S) (f : ∀ a k, (a = 32 ∨ (a = 29 ∧ k = 18)) → S' a k = S a k) : cdB C S' := by
  obtain ⟨h1, h2, h3⟩ := h
  exact ⟨by rw [f 29 18 (Or.inr ⟨rfl, rfl⟩)]; exact h1, h2, fun i q hq => by rw [f 32 i (Or.inl rfl)]; exact h3 i q hq⟩
theorem emit_B {C : Cod} {S : Sto} {s v : Nat} (h : cdB C S) (hl : C.length < 400) (hs : s < 64) (hv : v < 131072) : ∃ S', r_Rd_emit (nI s) (nI v) S = some S' ∧ cdB (C ++ [(s, v)]) S' ∧ ∀ a k, ¬ (a = 29 ∧ k = 18) → ¬ a = 32 → S' a k = S a k := by
  obtain ⟨h1, h2, h3⟩ := h
  have c : ¬ (400 : Int32) ≤ nI C.length := nI_ge (b := 400) (by omega) (by omega)
  have i1 : inr (nI C.length) 400 = true := inr_nI hl (by decide)
  have t1 : (nI C.length).toNatClampNeg = C.length := q_tnI (by omega)
  have e1 : nI s <<< (17 &&& 31) = nI (s * 2 ^ 17) := pk_shlN (17 &&& 31) 17 (by decide) (by omega)
  have e2 : s * 2 ^ 17 ||| v = s * 131072 + v := by
    have := Nat.two_pow_add_eq_or_of_lt (i := 17) (b := v) (by omega) s
    rw [Nat.mul_comm s, ← this]
  refine ⟨sw (sw S 32 C.length (cw1 (s, v))) 29 18 (nI (C.length + 1)), ?_, ⟨?_, ?_, fun i q hq => ?_⟩, fun a k g1 g2 => ?_⟩
  · simp (disch := omega) only [r_Rd_emit, h1, if_neg c, chk_t i1, t1, e1, nI_or, e2, ltS_k, rd_ne, nI_1]
    rfl
  · rw [sw_same, List.length_append]; rfl
  · rw [List.length_append]; simp; omega
  · rw [rd_ne (by omega)]
    by_cases e : i < C.length
    · rw [List.getElem?_append_left e] at hq
      rw [rd_ne (by omega)]
      exact h3 i q hq
    · rw [List.getElem?_append_right (by omega)] at hq
      have e0 : i - C.length = 0 := by
        have := (List.getElem?_eq_some_iff.mp hq).1
        simp at this
        omega
      rw [e0] at hq
      cases hq
      rw [show i = C.length by omega, sw_same]
  · rw [rd_ne g1, rd_ne (by omega)]
theorem hold_B {W : List Nat} {S : Sto} {a : Nat} (h : wtB W S) (hl : W.length < 40) (ha : a < 64) : ∃ S', r_Rd_hold (nI a) S = some S' ∧ wtB (a :: W) S' ∧ ∀ b k, ¬ (b = 29 ∧ k = 16) → ¬ b = 31 → S' b k = S b k := by
  obtain ⟨h1, h2, h3, h4⟩ := h
  have c : ¬ (40 : Int32) ≤ nI W.length := nI_ge (b := 40) (by omega) (by omega)
  have i1 : inr (nI W.length) 40 = true := inr_nI hl (by decide)
  have t1 : (nI W.length).toNatClampNeg = W.length := q_tnI (by omega)
  refine ⟨sw (sw S 31 W.length (nI a)) 29 16 (nI (W.length + 1)), ?_, ⟨sw_same, by rw [List.length_cons]; omega, ⟨?_, ?_⟩, ?_⟩, fun b k g1 g2 => ?_⟩
  · simp (disch := omega) only [r_Rd_hold, h1, if_neg c, chk_t i1, t1, ltS_k, rd_ne, nI_1]
  · rw [rd_ne (by omega), sw_same]
  · exact stkN_cong W (fun j hj => by rw [rd_ne (by omega), rd_ne (by omega)]) h3
  · intro b hb
    rcases List.mem_cons.mp hb with e | e
    · rw [e]; exact ha
    · exact h4 b e
  · rw [rd_ne g1, rd_ne (by omega)]
/-- what waits and binds as strongly goes into the code -/
def relP (r : Nat) : List Nat → Nat → Cod → List Nat × Nat × Cod
  | [], op, C => ([], op, C)
  | a :: W, op, C => if rnk a < r then (a :: W, op, C) else relP r W (if a = 3 then op - 1 else op) (C ++ [(a, 0)])
def c3 : List Nat → Nat
  | [] => 0
  | a :: W => c3 W + (if a = 3 then 1 else 0)
theorem rel_B {r : Nat} (hr : r ≤ 6) : ∀ (W : List Nat) (C : Cod) (op f : Nat) (S : Sto), wtB W S → cdB C S → S 29 13 = nI op → c3 W ≤ op → op ≤ 100 → C.length + W.length ≤ 400 → W.length < f → ∃ S', r_Rd_release_L0 (nI r) f S = some S' ∧ wtB (relP r W op C).1 S' ∧ cdB (relP r W op C).2.2 S' ∧ S' 29 13 = nI (relP r W op C).2.1 ∧ ∀ a k, ¬ (a = 29 ∧ (k = 13 ∨ k = 16 ∨ k = 18)) → ¬ a = 31 → ¬ a = 32 → S' a k = S a k := by
  intro W
  induction W with
  | nil =>
    intro C op f S hW hC h13 hc ho hl hf
    obtain ⟨f, rfl⟩ : ∃ g, f = g + 1 := ⟨f - 1, by omega⟩
    have h1 : S 29 16 = 0 := hW.1
    refine ⟨S, ?_, hW, hC, h13, fun _ _ _ _ _ => rfl⟩
    simp only [r_Rd_release_L0, h1]
    rw [if_pos (by decide)]
  | cons a W ih =>
    intro C op f S hW hC h13 hc ho hl hf
    rw [List.length_cons] at hl hf
    obtain ⟨f, rfl⟩ : ∃ g, f = g + 1 := ⟨f - 1, by omega⟩
    obtain ⟨h1, h2, ⟨h3, h3'⟩, h4⟩ := id hW
    rw [List.length_cons] at h1 h2
    have c : ¬ nI (W.length + 1) ≤ 0 := nI_nle (by omega) (by omega)
    have i1 : inr (nI W.length) 40 = true := inr_nI (by omega) (by decide)
    have t1 : (nI W.length).toNatClampNeg = W.length := q_tnI (by omega)
    have ha : a < 64 := h4 a (List.mem_cons_self)
    obtain ⟨rk, rl⟩ := rnk_B a ha
    rw [relP]
    by_cases k : rnk a < r
    · rw [if_pos k]
      have z : nI (rnk a) < nI r := nI_lt k (by omega)
      refine ⟨S, ?_, hW, hC, h13, fun _ _ _ _ _ => rfl⟩
      simp only [r_Rd_release_L0, h1, if_neg c, nI_pred, chk_t i1, t1, h3, rk, if_pos z]
    · rw [if_neg k]
      have z : ¬ nI (rnk a) < nI r := nI_nlt (by omega) (by omega)
      rw [c3] at hc
      have go : ∀ (op' : Nat) (V : Sto), op' = (if a = 3 then op - 1 else op) → V 29 13 = nI op' → (∀ b j, ¬ (b = 29 ∧ (j = 13 ∨ j = 16)) → V b j = S b j) → V 29 16 = nI W.length → r_Rd_release_L0 (nI r) (f + 1) S = (r_Rd_emit (nI a) 0 V).bind (fun S3 => r_Rd_release_L0 (nI r) f S3) → ∃ S', r_Rd_release_L0 (nI r) (f + 1) S = some S' ∧ wtB (relP r W (if a = 3 then op - 1 else op) (C ++ [(a, 0)])).1 S' ∧ cdB (relP r W (if a = 3 then op - 1 else op) (C ++ [(a, 0)])).2.2 S' ∧ S' 29 13 = nI (relP r W (if a = 3 then op - 1 else op) (C ++ [(a, 0)])).2.1 ∧ ∀ b j, ¬ (b = 29 ∧ (j = 13 ∨ j = 16 ∨ j = 18)) → ¬ b = 31 → ¬ b = 32 → S' b j = S b j := by
        intro op' V hop v13 vf v16 he
        have hVW : wtB W V := ⟨v16, by omega, stkN_cong W (fun j _ => vf 31 j (by omega)) h3', fun b hb => h4 b (List.mem_cons_of_mem _ hb)⟩
        have hVC : cdB C V := hC.go (fun b j q => vf b j (by omega))
        obtain ⟨X, x1, x2, x3⟩ := emit_B (s := a) (v := 0) hVC (by omega) ha (by decide)
        have x1' : r_Rd_emit (nI a) 0 V = some X := x1
        obtain ⟨S', q1, q2, q3, q4, q5⟩ := ih (C ++ [(a, 0)]) op' f X (hVW.go (fun b j q => x3 b j (by omega) (by omega))) x2 (by rw [x3 _ _ (by omega) (by omega)]; exact v13) (by rw [hop]; split at hc <;> split <;> omega) (by rw [hop]; split <;> omega) (by rw [List.length_append]; simp; omega) (by omega)
        rw [hop] at q2 q3 q4
        refine ⟨S', by rw [he, x1']; exact q1, q2, q3, q4, fun b j g1 g2 g3 => by rw [q5 b j g1 g2 g3, x3 b j (by omega) g3, vf b j (by omega)]⟩
      by_cases k3 : a = 3
      · have z3 : nI a = 3 := by rw [k3]; rfl
        rw [if_pos k3] at hc
        have e13 : nI op - 1 = nI (op - 1) := by
          have : op = (op - 1) + 1 := by omega
          rw [this, nI_pred]
          rfl
        refine go (op - 1) (sw (sw S 29 16 (nI W.length)) 29 13 (nI (op - 1))) (by rw [if_pos k3]) sw_same (fun b j g => by rw [rd_ne (by omega), rd_ne (by omega)]) (by rw [rd_ne (by omega), sw_same]) ?_
        simp (disch := omega) only [r_Rd_release_L0, h1, if_neg c, nI_pred, chk_t i1, t1, h3, rk, if_neg z, ltS_k, sw_same, rd_ne, if_pos z3, h13, e13, jn_k]
      · have z3 : ¬ nI a = 3 := fun q => k3 ((nI_eq (b := 3) (by omega) (by omega)).mp q)
        refine go op (sw S 29 16 (nI W.length)) (by rw [if_neg k3]) (by rw [rd_ne (by omega)]; exact h13) (fun b j g => rd_ne (by omega)) sw_same ?_
        simp (disch := omega) only [r_Rd_release_L0, h1, if_neg c, nI_pred, chk_t i1, t1, h3, rk, if_neg z, ltS_k, sw_same, rd_ne, if_neg z3, jn_k]
theorem release_B {r : Nat} {W : List Nat} {C : Cod} {op : Nat} {S : Sto} (hr : r ≤ 6) (hW : wtB W S) (hC : cdB C S) (h13 : S 29 13 = nI op) (hc : c3 W ≤ op) (ho : op ≤ 100) (hl : C.length + W.length ≤ 400) : ∃ S', r_Rd_release (nI r) S = some S' ∧ wtB (relP r W op C).1 S' ∧ cdB (relP r W op C).2.2 S' ∧ S' 29 13 = nI (relP r W op C).2.1 ∧ ∀ a k, ¬ (a = 29 ∧ (k = 13 ∨ k = 16 ∨ k = 18)) → ¬ a = 31 → ¬ a = 32 → S' a k = S a k := by
  obtain ⟨S', q1, q2⟩ := rel_B hr W C op fu S hW hC h13 hc ho hl (by have : fu = 5000 := rfl; have := hW.2.1; omega)
  exact ⟨S', by rw [r_Rd_release, q1]; rfl, q2⟩
