/-! the reference's code and what waits in it -/
def cdM (R : Cod) (T : Sto) : Prop := T 104 40 = nI R.length ∧ R.length ≤ 400 ∧ ∀ i q, R[i]? = some q → T 124 (2000 + i) = nI q.1 ∧ T 125 (2000 + i) = nI q.2
def wtM (P : List Nat) (T : Sto) : Prop := T 104 43 = nI P.length ∧ P.length ≤ 40 ∧ stkN (T 126) P ∧ ∀ a ∈ P, a < 64
theorem cdM.go {R : Cod} {T T' : Sto} (h : cdM R T) (f : ∀ a k, (((a = 124 ∨ a = 125) ∧ 2000 ≤ k) ∨ (a = 104 ∧ k = 40)) → T' a k = T a k) : cdM R T' := by
  obtain ⟨h1, h2, h3⟩ := h
  exact ⟨by rw [f 104 40 (by omega)]; exact h1, h2, fun i q hq => by rw [f 124 _ (by omega), f 125 _ (by omega)]; exact h3 i q hq⟩
theorem wtM.go {P : List Nat} {T T' : Sto} (h : wtM P T) (f : ∀ a k, (a = 126 ∨ (a = 104 ∧ k = 43)) → T' a k = T a k) : wtM P T' := by
  obtain ⟨h1, h2, h3, h4⟩ := h
  exact ⟨by rw [f 104 43 (by omega)]; exact h1, h2, stkN_cong P (fun j _ => f 126 j (by omega)) h3, h4⟩
theorem emits_M {R : Cod} {T : Sto} {s v : Nat} (h : cdM R T) (hl : R.length < 400) : ∃ T', r_M_emits (nI s) (nI v) T = some T' ∧ cdM (R ++ [(s, v)]) T' ∧ ∀ a k, ¬ (a = 104 ∧ k = 40) → ¬ ((a = 124 ∨ a = 125) ∧ 2000 ≤ k) → T' a k = T a k := by
  obtain ⟨h1, h2, h3⟩ := h
  have ea : (2000 : Int32) + nI R.length = nI (2000 + R.length) := (nI_add 2000 R.length)
  have i1 : inr (nI (2000 + R.length)) 2400 = true := inr_nI (by omega) (by decide)
  have t1 : (nI (2000 + R.length)).toNatClampNeg = 2000 + R.length := q_tnI (by omega)
  refine ⟨sw (sw (sw T 124 (2000 + R.length) (nI s)) 125 (2000 + R.length) (nI v)) 104 40 (nI (R.length + 1)), ?_, ⟨?_, ?_, fun i q hq => ?_⟩, fun a k g1 g2 => ?_⟩
  · simp (disch := omega) only [r_M_emits, h1, ea, chk_t i1, t1, ltS_k, rd_ne, nI_1]
  · rw [sw_same, List.length_append]; rfl
  · rw [List.length_append]; simp; omega
  · by_cases e : i < R.length
    · rw [List.getElem?_append_left e] at hq
      rw [rd_ne (by omega), rd_ne (by omega), rd_ne (by omega), rd_ne (by omega), rd_ne (by omega), rd_ne (by omega)]
      exact h3 i q hq
    · rw [List.getElem?_append_right (by omega)] at hq
      have e0 : i - R.length = 0 := by
        have := (List.getElem?_eq_some_iff.mp hq).1
        simp at this
        omega
      rw [e0] at hq
      cases hq
      rw [show i = R.length by omega, rd_ne (by omega), rd_ne (by omega), sw_same, rd_ne (by omega), sw_same]
      exact ⟨rfl, rfl⟩
  · rw [rd_ne g1, rd_ne (by omega), rd_ne (by omega)]
theorem waits_M {P : List Nat} {T : Sto} {a : Nat} (h : wtM P T) (hl : P.length < 40) (ha : a < 64) : ∃ T', r_M_waits (nI a) T = some T' ∧ wtM (a :: P) T' ∧ ∀ b k, ¬ (b = 104 ∧ k = 43) → ¬ b = 126 → T' b k = T b k := by
  obtain ⟨h1, h2, h3, h4⟩ := h
  have i1 : inr (nI P.length) 40 = true := inr_nI hl (by decide)
  have t1 : (nI P.length).toNatClampNeg = P.length := q_tnI (by omega)
  refine ⟨sw (sw T 126 P.length (nI a)) 104 43 (nI (P.length + 1)), ?_, ⟨sw_same, by rw [List.length_cons]; omega, ⟨?_, ?_⟩, ?_⟩, fun b k g1 g2 => ?_⟩
  · simp (disch := omega) only [r_M_waits, h1, chk_t i1, t1, ltS_k, rd_ne, nI_1]
  · rw [rd_ne (by omega), sw_same]
  · exact stkN_cong P (fun j hj => by rw [rd_ne (by omega), rd_ne (by omega)]) h3
  · intro b hb
    rcases List.mem_cons.mp hb with e | e
    · rw [e]; exact ha
    · exact h4 b e
  · rw [rd_ne g1, rd_ne (by omega)]
/-- what waits on top and is y goes into the code -/
def stM (y : Nat) : List Nat → Nat → Cod → List Nat × Nat × Cod
  | [], o, R => ([], o, R)
  | a :: P, o, R => if a = y then stM y P (if y = 9 then o - 1 else o) (R ++ [(y, 0)]) else (a :: P, o, R)
def c9 : List Nat → Nat
  | [] => 0
  | a :: P => c9 P + (if a = 9 then 1 else 0)
theorem settle_M {y : Nat} (hy : y < 64) : ∀ (P : List Nat) (R : Cod) (o f : Nat) (T : Sto), wtM P T → cdM R T → T 104 41 = nI o → c9 P ≤ o → o ≤ 100 → R.length + P.length ≤ 400 → P.length < f → ∃ T', r_M_settles_L0 (nI y) f T = some T' ∧ wtM (stM y P o R).1 T' ∧ cdM (stM y P o R).2.2 T' ∧ T' 104 41 = nI (stM y P o R).2.1 ∧ ∀ a k, ¬ (a = 104 ∧ (k = 40 ∨ k = 41 ∨ k = 43)) → ¬ ((a = 124 ∨ a = 125) ∧ 2000 ≤ k) → T' a k = T a k := by
  intro P
  induction P with
  | nil =>
    intro R o f T hW hC h41 hc ho hl hf
    obtain ⟨f, rfl⟩ : ∃ g, f = g + 1 := ⟨f - 1, by omega⟩
    have h1 : T 104 43 = 0 := hW.1
    refine ⟨T, ?_, hW, hC, h41, fun _ _ _ _ => rfl⟩
    simp only [r_M_settles_L0, h1]
    rw [if_pos (by decide)]
  | cons a P ih =>
    intro R o f T hW hC h41 hc ho hl hf
    rw [List.length_cons] at hl hf
    obtain ⟨f, rfl⟩ : ∃ g, f = g + 1 := ⟨f - 1, by omega⟩
    obtain ⟨h1, h2, ⟨h3, h3'⟩, h4⟩ := id hW
    rw [List.length_cons] at h1 h2
    have c : ¬ nI (P.length + 1) ≤ 0 := nI_nle (by omega) (by omega)
    have i1 : inr (nI P.length) 40 = true := inr_nI (by omega) (by decide)
    have t1 : (nI P.length).toNatClampNeg = P.length := q_tnI (by omega)
    have ha : a < 64 := h4 a (List.mem_cons_self)
    rw [c9] at hc
    rw [stM]
    by_cases k : a = y
    · rw [if_pos k]
      have z : nI a = nI y := by rw [k]
      have hVW : wtM P (sw T 104 43 (nI P.length)) := ⟨sw_same, by omega, stkN_cong P (fun j _ => rd_ne (by omega)) h3', fun b hb => h4 b (List.mem_cons_of_mem _ hb)⟩
      have hVC : cdM R (sw T 104 43 (nI P.length)) := hC.go (fun b j q => rd_ne (by omega))
      obtain ⟨X, x1, x2, x3⟩ := emits_M (s := y) (v := 0) hVC (by omega)
      have x1' : r_M_emits (nI y) 0 (sw T 104 43 (nI P.length)) = some X := x1
      have hX : X 104 41 = nI o := by rw [x3 _ _ (by omega) (by omega), rd_ne (by omega)]; exact h41
      by_cases k9 : y = 9
      · have z9 : nI y = 9 := by rw [k9]; rfl
        rw [if_pos (k.trans k9)] at hc
        rw [if_pos k9]
        have e41 : nI o - 1 = nI (o - 1) := by
          have : o = (o - 1) + 1 := by omega
          rw [this, nI_pred]
          rfl
        obtain ⟨T', q1, q2, q3, q4, q5⟩ := ih (R ++ [(y, 0)]) (o - 1) f (sw X 104 41 (nI (o - 1))) (hVW.go (fun b j q => by rw [rd_ne (by omega), x3 b j (by omega) (by omega)])) (x2.go (fun b j q => rd_ne (by omega))) sw_same (by omega) (by omega) (by rw [List.length_append]; simp; omega) (by omega)
        refine ⟨T', ?_, q2, q3, q4, fun b j g1 g2 => by rw [q5 b j g1 g2, rd_ne (by omega), x3 b j (by omega) g2, rd_ne (by omega)]⟩
        simp (disch := omega) only [r_M_settles_L0, h1, if_neg c, nI_pred, chk_t i1, t1, h3, if_pos z, ltS_k, x1', Option.bind_some, if_pos z9, hX, e41]
        exact q1
      · have z9 : ¬ nI y = 9 := fun q => k9 ((nI_eq (b := 9) (by omega) (by omega)).mp q)
        rw [if_neg k9]
        obtain ⟨T', q1, q2, q3, q4, q5⟩ := ih (R ++ [(y, 0)]) o f X (hVW.go (fun b j q => x3 b j (by omega) (by omega))) x2 hX (by omega) (by omega) (by rw [List.length_append]; simp; omega) (by omega)
        refine ⟨T', ?_, q2, q3, q4, fun b j g1 g2 => by rw [q5 b j g1 g2, x3 b j (by omega) g2, rd_ne (by omega)]⟩
        simp (disch := omega) only [r_M_settles_L0, h1, if_neg c, nI_pred, chk_t i1, t1, h3, if_pos z, ltS_k, x1', Option.bind_some, if_neg z9]
        exact q1
    · rw [if_neg k]
      have z : ¬ nI a = nI y := fun q => k ((nI_eq (by omega) (by omega)).mp q)
      refine ⟨T, ?_, hW, hC, h41, fun _ _ _ _ => rfl⟩
      simp only [r_M_settles_L0, h1, if_neg c, nI_pred, chk_t i1, t1, h3, if_neg z]
theorem settles_M {y : Nat} (hy : y < 64) {P : List Nat} {R : Cod} {o : Nat} {T : Sto} (hW : wtM P T) (hC : cdM R T) (h41 : T 104 41 = nI o) (hc : c9 P ≤ o) (ho : o ≤ 100) (hl : R.length + P.length ≤ 400) : ∃ T', r_M_settles (nI y) T = some T' ∧ wtM (stM y P o R).1 T' ∧ cdM (stM y P o R).2.2 T' ∧ T' 104 41 = nI (stM y P o R).2.1 ∧ ∀ a k, ¬ (a = 104 ∧ (k = 40 ∨ k = 41 ∨ k = 43)) → ¬ ((a = 124 ∨ a = 125) ∧ 2000 ≤ k) → T' a k = T a k := by
  obtain ⟨T', q1, q2⟩ := settle_M hy P R o fu T hW hC h41 hc ho hl (by have : fu = 5000 := rfl; have := hW.2.1; omega)
  exact ⟨T', by rw [r_M_settles, q1]; rfl, q2⟩
/-- the reference's reader: the token at pos lies before it -/
def RQ (law : Bool) (Bs : Nat → Nat) (m pos : Nat) (T : Sto) : Prop := byM Bs m T ∧ gWor T ∧ T 104 28 = nI (tkE Bs m pos) ∧ T 104 29 = nI (tkP Bs m pos) ∧ T 104 30 = nI (rkK Bs m pos) ∧ (2 ≤ rkK Bs m pos → T 104 31 = nI (rkV Bs m pos)) ∧ pos ≤ m ∧ T 104 39 = b2i (!law)
theorem RQ.go {law : Bool} {Bs : Nat → Nat} {m pos : Nat} {T T' : Sto} (h : RQ law Bs m pos T) (f : ∀ a k, (a = 118 ∨ a = 119 ∨ (a = 104 ∧ (27 ≤ k ∧ k ≤ 31 ∨ k = 39))) → T' a k = T a k) : RQ law Bs m pos T' := by
  obtain ⟨h1, h2, h3, h4, h5, h6, h7, h8⟩ := h
  exact ⟨h1.go (fun a k q => f a k (by omega)), fun i hi => by rw [f 119 i (by omega)]; exact h2 i hi, by rw [f _ _ (by omega)]; exact h3, by rw [f _ _ (by omega)]; exact h4, by rw [f _ _ (by omega)]; exact h5, fun k => by rw [f _ _ (by omega)]; exact h6 k, h7, by rw [f _ _ (by omega)]; exact h8⟩
theorem RQ.nx {law : Bool} {Bs : Nat → Nat} {m pos : Nat} {T : Sto} (h : RQ law Bs m pos T) : ∃ T', r_M_reads T = some T' ∧ RQ law Bs m (tkE Bs m pos) T' ∧ frQ T T' := by
  obtain ⟨h1, h2, h3, h4, h5, h6, h7, h8⟩ := h
  have hE := (tkE_ge (Bs := Bs) (m := m) (pos := pos)).2.2.1 h7
  obtain ⟨T', q1, q2, q3, q4, q5, q6⟩ := reads_M h1 h2 hE h3
  exact ⟨T', q1, ⟨q2.by h1, fun i hi => by rw [q2 _ _ (by omega)]; exact h2 i hi, q3, q4, q5, q6, hE, by rw [q2 _ _ (by omega)]; exact h8⟩, q2⟩
/-- a fault of the reference -/
theorem fails_M {law : Bool} {Bs : Nat → Nat} {m pos : Nat} {T : Sto} {x : Int32} (h : RQ law Bs m pos T) : ∃ T', r_M_fails x T = some (-1, T') ∧ T' 104 44 = x ∧ T' 104 45 = nI (tkP Bs m pos) ∧ ∀ a k, ¬ (a = 104 ∧ (k = 44 ∨ k = 45)) → T' a k = T a k := by
  obtain ⟨h1, h2, h3, h4, h5, h6, h7, h8⟩ := h
  refine ⟨sw (sw T 104 44 x) 104 45 (nI (tkP Bs m pos)), ?_, by rw [rd_ne (by omega), sw_same], sw_same, fun a k g => by rw [rd_ne (by omega), rd_ne (by omega)]⟩
  simp (disch := omega) only [r_M_fails, ltS_k, rd_ne, h4]
