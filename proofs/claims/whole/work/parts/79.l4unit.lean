/-! the reference's token, and the class's -/
theorem rk_c {law : Bool} {Bs : Nat → Nat} {m pos : Nat} (hm : m ≤ 400) (hp : pos ≤ m) : (rkK Bs m pos = 0 ∧ tkT Bs m law pos = 14) ∨ (rkK Bs m pos = 1 ∧ tkT Bs m law pos = 15) ∨ (rkK Bs m pos = 2 ∧ rkV Bs m pos < 19 ∧ tkT Bs m law pos = wmp law (rkV Bs m pos)) ∨ (rkK Bs m pos = 3 ∧ rkV Bs m pos = tkN Bs m pos ∧ tkN Bs m pos < 100000 ∧ tkT Bs m law pos = 12) ∨ (rkK Bs m pos = 4 ∧ 40 ≤ rkV Bs m pos ∧ rkV Bs m pos < 64 ∧ tkT Bs m law pos = rkV Bs m pos) := by
  obtain ⟨t1, t2⟩ := tok_eq (law := law) (Bs := Bs) hm hp
  have t3 := tkN_lt (Bs := Bs) (m := m) (pos := pos) (law := law)
  have kd : (rkK Bs m pos = 0) ∨ (rkK Bs m pos = 1) ∨ (rkK Bs m pos = 2 ∧ rkV Bs m pos < 19) ∨ (rkK Bs m pos = 3) ∨ (rkK Bs m pos = 4 ∧ 40 ≤ rkV Bs m pos ∧ rkV Bs m pos < 64) := by
    unfold rkK rkV
    by_cases k : tkP Bs m pos < m
    · rw [if_pos k]
      cases kl : isLc (Bs (tkP Bs m pos)) with
      | true =>
        simp only [if_true]
        cases kr : rwS Bs (tkP Bs m pos) (tkE Bs m pos) 19 0 with
        | none => right; left; simp
        | some j =>
          have := (rwS_lt _ _ _ kr).1
          right; right; left
          simp
          omega
      | false =>
        cases kd : isDc (Bs (tkP Bs m pos)) with
        | true =>
          simp
          omega
        | false =>
          cases ks : isSc (Bs (tkP Bs m pos)) with
          | true =>
            right; right; right; right
            have h1 := isSc_lt ks
            have h2 : 40 ≤ Bs (tkP Bs m pos) := by
              unfold isSc at ks
              simp only [Bool.or_eq_true, decide_eq_true_eq] at ks
              omega
            simp
            omega
          | false => right; left; simp
    · left; rw [if_neg k]
  rcases kd with k | k | ⟨k, kv⟩ | k | ⟨k, k4, k6⟩
  · left; rw [t1, k]; exact ⟨rfl, rfl⟩
  · right; left; rw [t1, k]; exact ⟨rfl, rfl⟩
  · right; right; left; rw [t1, k]; exact ⟨rfl, kv, rfl⟩
  · right; right; right; left
    have e : tkT Bs m law pos = 12 := by rw [t1, k]; rfl
    exact ⟨k, t2 k, t3 e, e⟩
  · right; right; right; right; rw [t1, k]; exact ⟨rfl, k4, k6, rfl⟩
theorem wmp_t : ∀ v, v < 19 → (wmp true v = 0 ↔ v = 5) ∧ (wmp true v = 1 ↔ v = 6) ∧ (wmp true v = 2 ↔ v = 7) ∧ (wmp true v = 3 ↔ v = 8) ∧ (wmp false v = 0 ↔ v = 5) ∧ (wmp false v = 1 ↔ v = 6) ∧ (wmp false v = 2 ↔ v = 7) ∧ (wmp false v = 3 ↔ v = 8) := by decide
theorem wmp_n : ∀ v, v < 19 → wmp true v ≤ 15 ∧ wmp false v ≤ 15 ∧ wmp true v ≠ 12 ∧ wmp false v ≠ 12 ∧ wmp true v ≠ 14 ∧ wmp false v ≠ 14 := by decide
/-- the signs -/
theorem sgn_M {law : Bool} {Bs : Nat → Nat} {m pos : Nat} {T : Sto} (h : RQ law Bs m pos T) {c : Nat} (hc : 40 ≤ c) (hc2 : c < 64) : r_M_isSign (nI c) T = if tkT Bs m law pos = c then 1 else 0 := by
  obtain ⟨h1, h2, h3, h4, h5, h6, h7, h8⟩ := h
  unfold r_M_isSign
  rw [h5]
  have k4 : ∀ k, k < 5 → ((nI k = 4) ↔ k = 4) := fun k hk => nI_eq (b := 4) (by omega) (by omega)
  rcases rk_c (law := law) (Bs := Bs) h1.1 h7 with ⟨k, t⟩ | ⟨k, t⟩ | ⟨k, kv, t⟩ | ⟨k, kv, kn, t⟩ | ⟨k, kv, kw, t⟩
  · rw [k, t, if_neg (by decide), if_neg (by omega)]
  · rw [k, t, if_neg (by decide), if_neg (by omega)]
  · have := wmp_le _ kv
    have w : wmp law (rkV Bs m pos) ≤ 15 := by cases law <;> omega
    rw [k, t, if_neg (by decide), if_neg (by omega)]
  · rw [k, t, if_neg (by decide), if_neg (by omega)]
  · rw [h6 (by omega), k, t, if_pos (by decide)]
    by_cases e : rkV Bs m pos = c
    · rw [if_pos e, if_pos (by rw [e])]
    · rw [if_neg e, if_neg (fun q => e ((nI_eq (by omega) (by omega)).mp q))]
/-- the words: when, or, and, not -/
theorem wrd_M {law : Bool} {Bs : Nat → Nat} {m pos : Nat} {T : Sto} (h : RQ law Bs m pos T) {w : Nat} (hw : w < 4) : r_M_isWord (nI (w + 5)) T = if tkT Bs m law pos = w then 1 else 0 := by
  obtain ⟨h1, h2, h3, h4, h5, h6, h7, h8⟩ := h
  unfold r_M_isWord
  rw [h5]
  rcases rk_c (law := law) (Bs := Bs) h1.1 h7 with ⟨k, t⟩ | ⟨k, t⟩ | ⟨k, kv, t⟩ | ⟨k, kv, kn, t⟩ | ⟨k, kv, kw, t⟩
  · rw [k, t, if_neg (by decide), if_neg (by omega)]
  · rw [k, t, if_neg (by decide), if_neg (by omega)]
  · have w1 := wmp_t _ kv
    rw [h6 (by omega), k, t, if_pos (by decide)]
    generalize rkV Bs m pos = v at *
    have e : wmp law v = w ↔ v = w + 5 := by
      have : w = 0 ∨ w = 1 ∨ w = 2 ∨ w = 3 := by omega
      cases law with
      | true => rcases this with rfl | rfl | rfl | rfl <;> omega
      | false => rcases this with rfl | rfl | rfl | rfl <;> omega
    by_cases q : v = w + 5
    · rw [if_pos (e.mpr q), if_pos (by rw [q])]
    · rw [if_neg (fun z => q (e.mp z)), if_neg (fun z => q ((nI_eq (by omega) (by omega)).mp z))]
  · rw [k, t, if_neg (by decide), if_neg (by omega)]
  · rw [k, t, if_neg (by decide), if_neg (by omega)]
def offL (law : Bool) : Nat := if law = true then 0 else 6
theorem ask_t : ∀ v, v < 19 → (r_M_isIn (nI v) 1 3 = if 1 ≤ v ∧ v ≤ 3 then 1 else 0) ∧ (r_M_isIn (nI v) 9 11 = if 9 ≤ v ∧ v ≤ 11 then 1 else 0) ∧ (nI v < 15 ↔ v < 15) := by decide
theorem ask_w : ∀ v, v < 19 → ((6 ≤ wmp true v ∧ wmp true v ≤ 11) ↔ (1 ≤ v ∧ v ≤ 3) ∨ (9 ≤ v ∧ v ≤ 11)) ∧ ((7 ≤ wmp false v ∧ wmp false v ≤ 11) ↔ 15 ≤ v) ∧ (1 ≤ v ∧ v ≤ 3 → nI v - 1 = nI (wmp true v - 6)) ∧ (9 ≤ v ∧ v ≤ 11 → nI v - 9 + 3 = nI (wmp true v - 6)) ∧ (15 ≤ v → nI v - 15 + 6 = nI (wmp false v - 7 + 6)) := by decide
theorem ask_M {law : Bool} {Bs : Nat → Nat} {m pos : Nat} {T : Sto} (h : RQ law Bs m pos T) : r_M_askedBy T = if fvl1 law ≤ tkT Bs m law pos ∧ tkT Bs m law pos ≤ 11 then nI (tkT Bs m law pos - fvl1 law + offL law) else -1 := by
  obtain ⟨h1, h2, h3, h4, h5, h6, h7, h8⟩ := h
  unfold r_M_askedBy
  rw [h5, h8]
  have fv : fvl1 law ≤ 7 := by unfold fvl1; split <;> omega
  rcases rk_c (law := law) (Bs := Bs) h1.1 h7 with ⟨k, t⟩ | ⟨k, t⟩ | ⟨k, kv, t⟩ | ⟨k, kv, kn, t⟩ | ⟨k, kv, kw, t⟩
  · rw [k, t, if_neg (by decide), if_neg (by omega)]
  · rw [k, t, if_neg (by decide), if_neg (by omega)]
  · rw [h6 (by omega), k, t, if_pos (by decide)]
    generalize rkV Bs m pos = v at *
    obtain ⟨a1, a2, a3⟩ := ask_t v kv
    obtain ⟨b1, b2, b3, b4, b5⟩ := ask_w v kv
    cases law with
    | true =>
      rw [if_pos (by decide), a1, a2]
      show _ = if 6 ≤ wmp true v ∧ wmp true v ≤ 11 then nI (wmp true v - 6 + 0) else -1
      by_cases q1 : 1 ≤ v ∧ v ≤ 3
      · rw [if_pos q1, if_neg (by decide), if_pos (b1.mpr (Or.inl q1)), b3 q1]; rfl
      · rw [if_neg q1, if_pos rfl]
        by_cases q2 : 9 ≤ v ∧ v ≤ 11
        · rw [if_pos q2, if_neg (by decide), if_pos (b1.mpr (Or.inr q2)), b4 q2]; rfl
        · rw [if_neg q2, if_pos rfl, if_neg (fun z => (b1.mp z).elim q1 q2)]
    | false =>
      rw [if_neg (by decide)]
      show _ = if 7 ≤ wmp false v ∧ wmp false v ≤ 11 then nI (wmp false v - 7 + 6) else -1
      by_cases q1 : 15 ≤ v
      · rw [if_neg (fun z => by have := a3.mp z; omega), if_pos (b2.mpr q1), b5 q1]
      · rw [if_pos (a3.mpr (by omega)), if_neg (fun z => q1 (b2.mp z))]
  · rw [k, t, if_neg (by decide), if_neg (by omega)]
  · rw [k, t, if_neg (by decide), if_neg (by omega)]
def frM (T T' : Sto) : Prop := ∀ a k, ¬ (a = 104 ∧ (28 ≤ k ∧ k ≤ 31 ∨ k = 40 ∨ k = 44 ∨ k = 45)) → ¬ ((a = 124 ∨ a = 125) ∧ 2000 ≤ k) → T' a k = T a k
theorem frM.rf {T : Sto} : frM T T := fun _ _ _ _ => rfl
theorem frM.tr {T T1 T2 : Sto} (h : frM T T1) (g : frM T1 T2) : frM T T2 := fun a k q1 q2 => (g a k q1 q2).trans (h a k q1 q2)
/-- a fault at pos -/
def badM (Bs : Nat → Nat) (m pos f : Nat) (x : Option (Int32 × Sto)) (T : Sto) : Prop := ∃ T', x = some (-1, T') ∧ T' 104 44 = nI f ∧ T' 104 45 = nI (tkP Bs m pos) ∧ frM T T'
/-- a number or what is asked -/
def unR (law : Bool) (tok num : Nat) : Option (Nat × Nat) := if tok = 12 then some (12, num) else if fvl1 law ≤ tok ∧ tok ≤ 11 then some (13, tok - fvl1 law) else none
theorem unR_A {law : Bool} {tok num cmp ln out op br : Nat} {W : List Nat} {C : Cod} : unitA law tok num cmp ln out op br W C = match unR law tok num with | some q => .inr (6, cmp, ln, out, op, br, W, C ++ [q]) | none => .inl 1 := by
  unfold unitA unR
  split
  · rfl
  · split <;> rfl
theorem unit_M {law : Bool} {Bs : Nat → Nat} {m pos : Nat} {T : Sto} {R : Cod} (h : RQ law Bs m pos T) (hR : cdM R T) (hl : R.length < 400) :
    match unR law (tkT Bs m law pos) (tkN Bs m pos) with
    | some q => ∃ T', r_M_readUnit T = some (0, T') ∧ RQ law Bs m (tkE Bs m pos) T' ∧ cdM (R ++ refC (offL law) q) T' ∧ frM T T'
    | none => badM Bs m pos 1 (r_M_readUnit T) T := by
  have ha := ask_M h
  obtain ⟨h1, h2, h3, h4, h5, h6, h7, h8⟩ := id h
  have go : ∀ s v, ∃ T', (r_M_emits (nI s) (nI v) T).bind (fun S4 => (r_M_reads S4).bind (fun S5 => some ((0 : Int32), S5))) = some (0, T') ∧ RQ law Bs m (tkE Bs m pos) T' ∧ cdM (R ++ [(s, v)]) T' ∧ frM T T' := by
    intro s v
    obtain ⟨X, x1, x2, x3⟩ := emits_M (s := s) (v := v) hR hl
    obtain ⟨Y, y1, y2, y3⟩ := (h.go (T' := X) (fun a k q => x3 a k (by omega) (by omega))).nx
    exact ⟨Y, by rw [x1, Option.bind_some, y1]; rfl, y2, x2.go (fun a k q => y3 a k (by omega)), fun a k g1 g2 => by rw [y3 a k (by omega), x3 a k (by omega) g2]⟩
  unfold unR
  by_cases k12 : tkT Bs m law pos = 12
  · rw [if_pos k12]
    have nf : ¬ (fvl1 law ≤ tkT Bs m law pos ∧ tkT Bs m law pos ≤ 11) := by omega
    rw [if_neg nf] at ha
    have k3 : rkK Bs m pos = 3 ∧ rkV Bs m pos = tkN Bs m pos := by
      rcases rk_c (law := law) (Bs := Bs) h1.1 h7 with ⟨k, t⟩ | ⟨k, t⟩ | ⟨k, kv, t⟩ | ⟨k, kv, kn, t⟩ | ⟨k, kv, kw, t⟩
      · omega
      · omega
      · have := wmp_n _ kv
        cases law <;> omega
      · exact ⟨k, kv⟩
      · omega
    have z3 : T 104 30 = 3 := by rw [h5, k3.1]; rfl
    have z31 : T 104 31 = nI (tkN Bs m pos) := by rw [h6 (by omega), k3.2]
    obtain ⟨T', q1, q2, q3, q4⟩ := go 0 (tkN Bs m pos)
    refine ⟨T', ?_, q2, q3, q4⟩
    unfold r_M_readUnit
    simp only [lt_k, ha, if_pos, z3, jn_k, z31]
    exact q1
  · rw [if_neg k12]
    by_cases kf : fvl1 law ≤ tkT Bs m law pos ∧ tkT Bs m law pos ≤ 11
    · rw [if_pos kf] at ha ⊢
      have na : ¬ nI (tkT Bs m law pos - fvl1 law + offL law) = -1 := by
        have o6 : offL law ≤ 6 := by unfold offL; split <;> omega
        intro z
        have := congrArg Int32.toInt z
        rw [q_n (by omega), show (-1 : Int32).toInt = -1 by decide] at this
        omega
      obtain ⟨T', q1, q2, q3, q4⟩ := go 1 (tkT Bs m law pos - fvl1 law + offL law)
      refine ⟨T', ?_, q2, q3, q4⟩
      unfold r_M_readUnit
      simp only [lt_k, ha, if_neg na, jn_k]
      exact q1
    · rw [if_neg kf] at ha ⊢
      have n3 : ¬ T 104 30 = 3 := by
        rw [h5]
        intro z
        have hk : rkK Bs m pos = 3 := by
          refine (nI_eq (b := 3) ?_ (by omega)).mp z
          rcases rk_c (law := law) (Bs := Bs) h1.1 h7 with ⟨k, t⟩ | ⟨k, t⟩ | ⟨k, kv, t⟩ | ⟨k, kv, kn, t⟩ | ⟨k, kv, kw, t⟩ <;> omega
        rcases rk_c (law := law) (Bs := Bs) h1.1 h7 with ⟨k, t⟩ | ⟨k, t⟩ | ⟨k, kv, t⟩ | ⟨k, kv, kn, t⟩ | ⟨k, kv, kw, t⟩ <;> omega
      obtain ⟨T', q1, q2, q3, q4⟩ := fails_M (x := 1) h
      refine ⟨T', ?_, q2, q3, fun a k g1 g2 => q4 a k (by omega)⟩
      unfold r_M_readUnit
      simp only [lt_k, ha, if_pos, if_neg n3, jn_c, q1, Option.bind_some]
