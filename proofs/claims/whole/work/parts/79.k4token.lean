theorem spn_fuel {q : Nat → Bool} {Bs : Nat → Nat} {m : Nat} : ∀ (d d' i : Nat), m ≤ i + d → m ≤ i + d' → spn q Bs m d i = spn q Bs m d' i := by
  intro d
  induction d with
  | zero =>
    intro d' i h1 h2
    cases d' with
    | zero => rfl
    | succ d' => rw [spn, spn, decide_eq_false (show ¬ i < m by omega), Bool.false_and, if_neg (by decide)]
  | succ d ih =>
    intro d' i h1 h2
    cases d' with
    | zero => rw [spn, spn, decide_eq_false (show ¬ i < m by omega), Bool.false_and, if_neg (by decide)]
    | succ d' => rw [spn, spn, ih d' (i + 1) (by omega) (by omega)]
theorem spn_1 {q : Nat → Bool} {Bs : Nat → Nat} {m p : Nat} (hm : m ≤ 400) (hp : p < m) (hq : q (Bs p) = true) : spn q Bs m 400 p = spn q Bs m 400 (p + 1) := by
  rw [show (400 : Nat) = 399 + 1 from rfl, spn, decide_eq_true hp, hq, Bool.true_and, if_pos rfl]
  exact spn_fuel _ _ _ (by omega) (by omega)
/-- kind and value of the token, the reference -/
def rkK (Bs : Nat → Nat) (m pos : Nat) : Nat :=
  if tkP Bs m pos < m then (if isLc (Bs (tkP Bs m pos)) = true then (if rwS Bs (tkP Bs m pos) (tkE Bs m pos) 19 0 = none then 1 else 2) else if isDc (Bs (tkP Bs m pos)) = true then (if tkE Bs m pos - tkP Bs m pos ≤ 5 then 3 else 1) else if isSc (Bs (tkP Bs m pos)) = true then 4 else 1) else 0
def rkV (Bs : Nat → Nat) (m pos : Nat) : Nat :=
  if isLc (Bs (tkP Bs m pos)) = true then (rwS Bs (tkP Bs m pos) (tkE Bs m pos) 19 0).getD 0 else if isDc (Bs (tkP Bs m pos)) = true then tkN Bs m pos else Bs (tkP Bs m pos)
theorem rwS_lt {Bs : Nat → Nat} {p e : Nat} : ∀ (d j k : Nat), rwS Bs p e d j = some k → k < j + d ∧ wd Bs p e = rw1 k := by
  intro d
  induction d with
  | zero => intro j k h; cases h
  | succ d ih =>
    intro j k h
    rw [rwS] at h
    split at h
    · rename_i g
      cases h
      exact ⟨by omega, g⟩
    · have := ih (j + 1) k h
      exact ⟨by omega, this.2⟩
theorem rwS_none {Bs : Nat → Nat} {p e : Nat} : ∀ (d j : Nat), rwS Bs p e d j = none → ∀ k, j ≤ k → k < j + d → ¬ wd Bs p e = rw1 k := by
  intro d
  induction d with
  | zero => intro j _ k h1 h2; omega
  | succ d ih =>
    intro j h k h1 h2
    rw [rwS] at h
    split at h
    · cases h
    · rename_i g
      by_cases e : k = j
      · rw [e]; exact g
      · exact ih (j + 1) h k (by omega) (by omega)
theorem reads_M {Bs : Nat → Nat} {m pos : Nat} {T : Sto} (hT : byM Bs m T) (hW : gWor T) (hp : pos ≤ m) (h5 : T 104 28 = nI pos) : ∃ T', r_M_reads T = some T' ∧ frQ T T' ∧ T' 104 28 = nI (tkE Bs m pos) ∧ T' 104 29 = nI (tkP Bs m pos) ∧ T' 104 30 = nI (rkK Bs m pos) ∧ (2 ≤ rkK Bs m pos → T' 104 31 = nI (rkV Bs m pos)) := by
  have hm := hT.1
  have fuv : fu = 5000 := rfl
  obtain ⟨S1, q1, q2, q3⟩ := skip_M 400 fu pos T (by omega) hp (by omega) hT h5
  have q2' : S1 104 28 = nI (tkP Bs m pos) := q2
  have pl := spn_le (q := isBc) (Bs := Bs) (m := m) 400 pos
  have plm : tkP Bs m pos ≤ m := pl.2 hp
  generalize hV : sw (sw S1 104 29 (nI (tkP Bs m pos))) 104 30 1 = V
  have v28 : V 104 28 = nI (tkP Bs m pos) := by rw [← hV, rd_ne (by omega), rd_ne (by omega)]; exact q2'
  have v29 : V 104 29 = nI (tkP Bs m pos) := by rw [← hV, rd_ne (by omega), sw_same]
  have v30 : V 104 30 = 1 := by rw [← hV, sw_same]
  have hV1 : frQ T V := fun a k g => by rw [← hV, rd_ne (by omega), rd_ne (by omega), q3 a k (by omega)]
  have hVb : byM Bs m V := hV1.by hT
  have rw' := raw_M hVb plm
  unfold rkK rkV
  have head : ∀ x, r_M_raw (nI (tkP Bs m pos)) V = some x → r_M_reads T = (if x = (-1) then some (sw V 104 30 0) else ltS (sw V 104 28 (nI (tkP Bs m pos + 1))) (fun S5 => ltS (sw S5 104 31 x) (fun S6 => if (r_M_isLetter x) = 0 then (if (r_M_isDigit x) = 0 then (if (r_M_isMarkSign x) = 0 then some S6 else ltS (sw S6 104 30 4) (fun S7 => some S7)) else ltS (sw S6 104 31 (x - 48)) (fun S8 => (r_M_reads_L171 fu S8).bind (fun (S9) => if 6 ≤ ((S9 104 28) - (S9 104 29)) then some S9 else ltS (sw S9 104 30 3) (fun S10 => some S10)))) else (r_M_reads_L95 fu S6).bind (fun (S11) => (r_M_wordAt (S11 104 29) (S11 104 28) S11).bind (fun r12 => ltS (sw S11 104 31 r12) (fun S13 => if (S13 104 31) = (-1) then some S13 else ltS (sw S13 104 30 2) (fun S14 => some S14))))))) := by
    intro x hx
    simp only [r_M_reads, q1, Option.bind_some, ltS_k, q2', hV, v28, hx, nI_1]
  generalize hP : tkP Bs m pos = p at *
  by_cases k : p < m
  · rw [if_pos k] at rw'
    have bl := (hVb.2.2 p k).2
    have nx : ¬ nI (Bs p) = -1 := nI_nm (by omega)
    have hd := head _ rw'
    rw [if_neg nx] at hd
    simp only [ltS_k] at hd
    generalize hX : sw (sw V 104 28 (nI (p + 1))) 104 31 (nI (Bs p)) = X at hd
    have x28 : X 104 28 = nI (p + 1) := by rw [← hX, rd_ne (by omega), sw_same]
    have x29 : X 104 29 = nI p := by rw [← hX, rd_ne (by omega), rd_ne (by omega)]; exact v29
    have x30 : X 104 30 = 1 := by rw [← hX, rd_ne (by omega), rd_ne (by omega)]; exact v30
    have hX1 : frQ T X := hV1.tr (fun a j g => by rw [← hX, rd_ne (by omega), rd_ne (by omega)])
    have hXb : byM Bs m X := hX1.by hT
    have lb := lc_M (Bs p) bl
    have db := dc_M (Bs p) bl
    have sb := sc_M (Bs p) bl
    rw [if_pos k]
    cases kl : isLc (Bs p) with
    | true =>
      rw [kl] at lb
      have eE : tkE Bs m pos = spn isLc Bs m 400 (p + 1) := by unfold tkE; rw [hP]; simp only [if_pos k, kl, ite_true]; exact spn_1 hm k kl
      have eE0 : tkE Bs m pos = spn isLc Bs m 400 p := by unfold tkE; rw [hP]; simp only [if_pos k, kl, ite_true]
      obtain ⟨W, w1, w2, w3⟩ := let_M 400 fu (p + 1) X (by omega) (by omega) (by omega) hXb x28
      have el := spn_le (q := isLc) (Bs := Bs) (m := m) 400 (p + 1)
      have eem := el.2 (by omega)
      rw [← eE] at w2 el eem
      have hW1 : frQ T W := hX1.tr (fun a j g => w3 a j (by omega))
      have wb : byM Bs m W := hW1.by hT
      have w29 : W 104 29 = nI p := by rw [w3 _ _ (by omega)]; exact x29
      have w30 : W 104 30 = 1 := by rw [w3 _ _ (by omega)]; exact x30
      have hWw : gWor W := hW.keep (fun a j hu => hW1 a j (by unfold uWor at hu; simp at hu; omega))
      have wm := word_M wb hWw (show p ≤ tkE Bs m pos by omega) eem (fun i h1 h2 => spn_all 400 p i h1 (by rw [← eE0]; exact h2))
      rw [lb] at hd
      rw [if_neg (show ¬ b2i true = 0 by decide), w1] at hd
      simp only [Option.bind_some, w29, w2, wm, ltS_k, sw_same] at hd
      rw [if_pos rfl]
      cases hr : rwS Bs p (tkE Bs m pos) 19 0 with
      | none =>
        rw [hr, rwE, if_pos rfl] at hd
        refine ⟨_, hd, hW1.tr (fun a j g => rd_ne (by omega)), ?_, ?_, ?_, fun h => ?_⟩
        · rw [rd_ne (by omega)]; exact w2
        · rw [rd_ne (by omega)]; exact w29
        · rw [rd_ne (by omega), if_pos rfl]; exact w30
        · rw [if_pos rfl] at h; omega
      | some j =>
        have jl := (rwS_lt 19 0 j hr).1
        rw [hr, rwE, if_neg (nI_nm (by omega))] at hd
        refine ⟨_, hd, hW1.tr (fun a k g => by rw [rd_ne (by omega), rd_ne (by omega)]), ?_, ?_, ?_, fun h => ?_⟩
        · rw [rd_ne (by omega), rd_ne (by omega)]; exact w2
        · rw [rd_ne (by omega), rd_ne (by omega)]; exact w29
        · rw [sw_same, if_neg (by intro z; cases z)]; rfl
        · rw [rd_ne (by omega), sw_same]; rfl
    | false =>
      rw [kl] at lb
      rw [lb, if_pos (show b2i false = 0 by decide)] at hd
      rw [if_neg (show ¬ false = true by decide), if_neg (show ¬ false = true by decide)]
      cases kd : isDc (Bs p) with
      | true =>
        rw [kd] at db
        rw [db, if_neg (show ¬ b2i true = 0 by decide)] at hd
        have eE : tkE Bs m pos = spn isDc Bs m 400 (p + 1) := by unfold tkE; rw [hP]; simp only [if_pos k, kl, kd, ite_true, if_neg (show ¬ false = true by decide)]; exact spn_1 hm k kd
        have d48 : nI (Bs p) - 48 = nI (nmV Bs 1 p 0) := by
          have := dig_n (a := 0) kd (by omega)
          rw [show (10 : Int32) * nI 0 + nI (Bs p) = nI (Bs p) by rw [show (10 : Int32) * nI 0 = nI 0 from rfl, nI_add, Nat.zero_add]] at this
          exact this
        rw [d48] at hd
        obtain ⟨W, w1, w2, w3, w4⟩ := num_M (p := p) 400 fu (p + 1) (sw X 104 31 (nI (nmV Bs 1 p 0))) (by omega) (by omega) (by omega) (by omega) (hXb.go (fun a j q => rd_ne (by omega))) (fun j h1 h2 => by rw [show j = p by omega]; exact kd) (by rw [rd_ne (by omega)]; exact x28) (fun _ => by rw [sw_same, show p + 1 - p = 1 by omega])
        have el := spn_le (q := isDc) (Bs := Bs) (m := m) 400 (p + 1)
        have eem := el.2 (by omega)
        rw [← eE] at w2 w3 el eem
        have hW1 : frQ T W := hX1.tr (fun a j g => by rw [w4 a j (by omega), rd_ne (by omega)])
        have w29 : W 104 29 = nI p := by rw [w4 _ _ (by omega), rd_ne (by omega)]; exact x29
        have w30 : W 104 30 = 1 := by rw [w4 _ _ (by omega), rd_ne (by omega)]; exact x30
        have e58 : nI (tkE Bs m pos) - nI p = nI (tkE Bs m pos - p) := pk_sub (by omega)
        rw [w1] at hd
        simp only [Option.bind_some, w2, w29, e58] at hd
        rw [if_pos rfl, if_pos rfl]
        by_cases k5 : tkE Bs m pos - p ≤ 5
        · rw [if_neg (show ¬ (6 : Int32) ≤ nI (tkE Bs m pos - p) from nI_ge (b := 6) (by omega) (by omega))] at hd
          refine ⟨_, hd, hW1.tr (fun a j g => rd_ne (by omega)), ?_, ?_, ?_, fun _ => ?_⟩
          · rw [rd_ne (by omega)]; exact w2
          · rw [rd_ne (by omega)]; exact w29
          · rw [sw_same, if_pos k5]; rfl
          · rw [rd_ne (by omega), w3 k5]
            unfold tkN
            rw [hP]
        · rw [if_pos (show (6 : Int32) ≤ nI (tkE Bs m pos - p) from nI_le (a := 6) (by omega) (by omega))] at hd
          refine ⟨_, hd, hW1, w2, w29, ?_, fun h => ?_⟩
          · rw [if_neg k5]; exact w30
          · rw [if_neg k5] at h; omega
      | false =>
        rw [kd] at db
        rw [db, if_pos (show b2i false = 0 by decide)] at hd
        have eE : tkE Bs m pos = p + 1 := by unfold tkE; rw [hP]; simp only [if_pos k, kl, kd, if_neg (show ¬ false = true by decide)]
        rw [if_neg (show ¬ false = true by decide), if_neg (show ¬ false = true by decide)]
        have x31 : X 104 31 = nI (Bs p) := by rw [← hX, sw_same]
        cases ks : isSc (Bs p) with
        | true =>
          rw [ks] at sb
          rw [sb, if_neg (show ¬ b2i true = 0 by decide)] at hd
          refine ⟨_, hd, hX1.tr (fun a j g => rd_ne (by omega)), ?_, ?_, ?_, fun _ => ?_⟩
          · rw [rd_ne (by omega), eE]; exact x28
          · rw [rd_ne (by omega)]; exact x29
          · rw [sw_same, if_pos rfl]; rfl
          · rw [rd_ne (by omega)]; exact x31
        | false =>
          rw [ks] at sb
          rw [sb, if_pos (show b2i false = 0 by decide)] at hd
          refine ⟨_, hd, hX1, by rw [eE]; exact x28, x29, ?_, fun h => ?_⟩
          · rw [if_neg (by decide)]; exact x30
          · rw [if_neg (by decide)] at h; omega
  · rw [if_neg k] at rw'
    have hd := head _ rw'
    rw [if_pos rfl] at hd
    have eE : tkE Bs m pos = p := by unfold tkE; rw [hP]; simp only [if_neg k]
    refine ⟨_, hd, hV1.tr (fun a j g => rd_ne (by omega)), ?_, ?_, ?_, fun h => ?_⟩
    · rw [rd_ne (by omega), eE]; exact v28
    · rw [rd_ne (by omega)]; exact v29
    · rw [sw_same, if_neg k]; rfl
    · rw [if_neg k] at h; omega
/-! the two sides' tokens are one -/
def lm (i1 k : Nat) : Nat := if i1 = 0 then [5, 6, 7, 8, 0, 4, 1, 2, 3, 9, 10, 11].getD k 19 else [5, 6, 7, 8, 12, 13, 14, 15, 16, 17, 18].getD k 19
theorem lm_t : ∀ i1, i1 < 2 → ∀ k, k < 12 → 8 * k + 8 ≤ sln i1 → lm i1 k < 19 ∧ ∀ i, i < 8 → chN i1 (8 * k + i) = (rw1 (lm i1 k)).getD i 32 := by decide +kernel
theorem gd_out {x : List Nat} {i d : Nat} (h : x.length ≤ i) : x.getD i d = d := by simp [List.getD, h]
theorem gd_in' {x : List Nat} {i d d' : Nat} (h : i < x.length) : x.getD i d = x.getD i d' := by simp [List.getD, h]
theorem mtW_iff {Bs : Nat → Nat} {p e i1 k : Nat} (hi1 : i1 < 2) (hk : 8 * k + 8 ≤ sln i1) (hpe : p ≤ e) (hl : ∀ i, p ≤ i → i < e → isLc (Bs i) = true) : mtW Bs p e i1 k = true ↔ wd Bs p e = rw1 (lm i1 k) := by
  have hs : sln i1 ≤ 96 := by
    have : i1 = 0 ∨ i1 = 1 := by omega
    rcases this with rfl | rfl <;> decide
  obtain ⟨l1, l2⟩ := lm_t i1 hi1 k (by omega) hk
  generalize hj : lm i1 k = j at *
  obtain ⟨t1, t2, t3, t4, t5, t6⟩ := stp_t j l1
  have hne : ∀ i, p ≤ i → i < e → ¬ Bs i = 32 := fun i h1 h2 z => by
    have := hl i h1 h2
    rw [z] at this
    exact absurd this (by decide)
  rw [wd_eq hpe]
  unfold mtW
  have key : (!anyS (mtS Bs p e i1 k) 8 0) = true ↔ ∀ i, i < 8 → (rw1 j).getD i 32 = pdB Bs p e i := by
    constructor
    · intro h i hi
      apply Classical.byContradiction
      intro z
      have : anyS (mtS Bs p e i1 k) 8 0 = true := (anyS_iff 8 0).mpr ⟨i, by omega, by omega, by unfold mtS; rw [l2 i hi, decide_eq_false z]; rfl⟩
      rw [this] at h
      cases h
    · intro h
      cases ha : anyS (mtS Bs p e i1 k) 8 0 with
      | false => rfl
      | true =>
        obtain ⟨i, -, hi, hx⟩ := (anyS_iff 8 0).mp ha
        unfold mtS at hx
        rw [l2 i (by omega), decide_eq_true (h i (by omega))] at hx
        cases hx
  rw [Bool.and_eq_true, decide_eq_true_eq, key]
  constructor
  · rintro ⟨h1, h2⟩
    have hlen : (rw1 j).length = e - p := by
      apply Classical.byContradiction
      intro z
      by_cases q : e - p < (rw1 j).length
      · have a := h2 (e - p) (by omega)
        unfold pdB at a
        rw [if_neg (by omega), gd_in' (d' := 0) q] at a
        exact (stp_c j l1 (e - p) (by omega) q).2 a
      · have a := h2 (rw1 j).length (by omega)
        unfold pdB at a
        rw [if_pos (by omega), gd_out (Nat.le_refl _)] at a
        exact hne _ (by omega) (by omega) a.symm
    refine ⟨by omega, fun i hi => ?_⟩
    have a := h2 i (by omega)
    unfold pdB at a
    rw [if_pos (by omega), gd_in' (d' := 0) hi] at a
    exact a.symm
  · rintro ⟨h1, h2⟩
    refine ⟨by omega, fun i hi => ?_⟩
    unfold pdB
    by_cases q : i < (rw1 j).length
    · rw [if_pos (by omega), h2 i q, gd_in' (d' := 0) q]
    · rw [if_neg (by omega), gd_out (by omega)]
def lkG (g : Nat → Bool) : Nat → Nat → Nat → Nat
  | 0, _, c => c
  | d + 1, k, c => lkG g d (k + 1) (if g k = true then k else c)
theorem lk_g {Bs : Nat → Nat} {p e i1 n : Nat} {g : Nat → Bool} (h : ∀ k, k < n → mtW Bs p e i1 k = g k) : ∀ (d k c : Nat), k + d = n → lkT Bs p e i1 d k c = lkG g d k c := by
  intro d
  induction d with
  | zero => intro k c _; rfl
  | succ d ih => intro k c hk; rw [lkT, lkG, h k (by omega), ih _ _ (by omega)]
def wmp (law : Bool) (v : Nat) : Nat := if law = true then [4, 6, 7, 8, 5, 0, 1, 2, 3, 9, 10, 11].getD v 15 else [15, 15, 15, 15, 15, 0, 1, 2, 3, 15, 15, 15, 4, 5, 6, 7, 8, 9, 10].getD v 15
theorem lk_t : ∀ j, j < 19 → lkG (fun k => decide (lm 0 k = j)) 12 0 15 = wmp true j ∧ lkG (fun k => decide (lm 1 k = j)) 11 0 15 = wmp false j := by decide +kernel
theorem lkG_no : ∀ (d k c : Nat), lkG (fun _ => false) d k c = c := by
  intro d
  induction d with
  | zero => intro k c; rfl
  | succ d ih => intro k c; rw [lkG, if_neg (by decide), ih]
/-- the class's token out of the reference's -/
def tkO (law : Bool) (k v : Nat) : Nat := if k = 0 then 14 else if k = 2 then wmp law v else if k = 3 then 12 else if k = 4 then v else 15
theorem tok_eq {Bs : Nat → Nat} {m pos : Nat} {law : Bool} (hm : m ≤ 400) (hp : pos ≤ m) : tkT Bs m law pos = tkO law (rkK Bs m pos) (rkV Bs m pos) ∧ (rkK Bs m pos = 3 → rkV Bs m pos = tkN Bs m pos) := by
  have pl := spn_le (q := isBc) (Bs := Bs) (m := m) 400 pos
  have plm : tkP Bs m pos ≤ m := pl.2 hp
  unfold rkK rkV tkT
  simp only
  generalize hP : tkP Bs m pos = p at *
  by_cases k : p < m
  · rw [if_pos k, if_pos k]
    cases kl : isLc (Bs p) with
    | true =>
      simp only [ite_true]
      have eE0 : tkE Bs m pos = spn isLc Bs m 400 p := by unfold tkE; rw [hP]; simp only [if_pos k, kl, ite_true]
      have el := spn_le (q := isLc) (Bs := Bs) (m := m) 400 p
      rw [← eE0] at el
      have hl : ∀ i, p ≤ i → i < tkE Bs m pos → isLc (Bs i) = true := fun i h1 h2 => spn_all 400 p i h1 (by rw [← eE0]; exact h2)
      cases hr : rwS Bs p (tkE Bs m pos) 19 0 with
      | none =>
        have no := rwS_none 19 0 hr
        have hf : ∀ i1, i1 < 2 → ∀ k, 8 * k + 8 ≤ sln i1 → mtW Bs p (tkE Bs m pos) i1 k = false := fun i1 hi1 k hk => by
          cases hb : mtW Bs p (tkE Bs m pos) i1 k with
          | false => rfl
          | true =>
            have hs : sln i1 ≤ 96 := by
              have : i1 = 0 ∨ i1 = 1 := by omega
              rcases this with rfl | rfl <;> decide
            exact absurd ((mtW_iff hi1 hk el.1 hl).mp hb) (no _ (by omega) (by have := (lm_t i1 hi1 k (by omega) hk).1; omega))
        refine ⟨?_, fun h => ?_⟩
        · cases law with
          | true =>
            show lkT Bs p (tkE Bs m pos) 0 12 0 15 = 15
            rw [lk_g (n := 12) (g := fun _ => false) (fun k hk => hf 0 (by omega) k (by show 8 * k + 8 ≤ 96; omega)) 12 0 15 (by omega), lkG_no]
          | false =>
            show lkT Bs p (tkE Bs m pos) 1 11 0 15 = 15
            rw [lk_g (n := 11) (g := fun _ => false) (fun k hk => hf 1 (by omega) k (by show 8 * k + 8 ≤ 88; omega)) 11 0 15 (by omega), lkG_no]
        · have h' : 1 = 3 := h
          omega
      | some j =>
        obtain ⟨j1, j2⟩ := rwS_lt 19 0 j hr
        have hg : ∀ i1, i1 < 2 → ∀ k, 8 * k + 8 ≤ sln i1 → mtW Bs p (tkE Bs m pos) i1 k = decide (lm i1 k = j) := fun i1 hi1 k hk => by
          have hs : sln i1 ≤ 96 := by
            have : i1 = 0 ∨ i1 = 1 := by omega
            rcases this with rfl | rfl <;> decide
          have iff := mtW_iff (k := k) hi1 hk el.1 hl
          by_cases q : lm i1 k = j
          · rw [decide_eq_true q]; exact iff.mpr (by rw [q]; exact j2)
          · rw [decide_eq_false q]
            cases hb : mtW Bs p (tkE Bs m pos) i1 k with
            | false => rfl
            | true =>
              have := iff.mp hb
              rw [j2] at this
              exact absurd (rw_inj j (by omega) (lm i1 k) (lm_t i1 hi1 k (by omega) hk).1 this).symm q
        obtain ⟨a1, a2⟩ := lk_t j (by omega)
        refine ⟨?_, fun h => ?_⟩
        · cases law with
          | true =>
            show lkT Bs p (tkE Bs m pos) 0 12 0 15 = wmp true j
            rw [lk_g (n := 12) (fun k hk => hg 0 (by omega) k (by show 8 * k + 8 ≤ 96; omega)) 12 0 15 (by omega)]
            exact a1
          | false =>
            show lkT Bs p (tkE Bs m pos) 1 11 0 15 = wmp false j
            rw [lk_g (n := 11) (fun k hk => hg 1 (by omega) k (by show 8 * k + 8 ≤ 88; omega)) 11 0 15 (by omega)]
            exact a2
        · have h' : 2 = 3 := h
          omega
    | false =>
      simp only [if_neg (show ¬ false = true by decide)]
      cases kd : isDc (Bs p) with
      | true =>
        simp only [ite_true]
        by_cases k5 : tkE Bs m pos - p ≤ 5
        · simp only [if_pos k5]
          exact ⟨rfl, fun _ => trivial⟩
        · simp only [if_neg k5]
          exact ⟨rfl, fun _ => trivial⟩
      | false =>
        simp only [if_neg (show ¬ false = true by decide)]
        cases ks : isSc (Bs p) with
        | true =>
          simp only [ite_true]
          exact ⟨rfl, fun h => absurd h (by decide)⟩
        | false =>
          simp only [if_neg (show ¬ false = true by decide)]
          exact ⟨rfl, fun h => absurd h (by decide)⟩
  · rw [if_neg k, if_neg k]
    exact ⟨rfl, fun h => absurd h (by decide)⟩
