/-! words -/
def chN (i j : Nat) : Nat := (sbt i j).toNatClampNeg
theorem ch_0 : ∀ j, j < 96 → (((sbt 0 j) &&& 255).toUInt32 % 65536).toInt32 = nI (chN 0 j) ∧ isch (nI (chN 0 j)) = true ∧ chN 0 j < 256 := by decide +kernel
theorem ch_1 : ∀ j, j < 88 → (((sbt 1 j) &&& 255).toUInt32 % 65536).toInt32 = nI (chN 1 j) ∧ isch (nI (chN 1 j)) = true ∧ chN 1 j < 256 := by decide +kernel
theorem char_B {i j : Nat} {S : Sto} (hi : i < 2) (hj : j < sln i) : r_Str_charAt i (nI j) S = some (nI (chN i j), S) ∧ chN i j < 256 := by
  have hs : sln i ≤ 96 := by
    have : i = 0 ∨ i = 1 := by omega
    rcases this with rfl | rfl <;> decide
  have key : (((sbt i j) &&& 255).toUInt32 % 65536).toInt32 = nI (chN i j) ∧ isch (nI (chN i j)) = true ∧ chN i j < 256 := by
    have : i = 0 ∨ i = 1 := by omega
    rcases this with rfl | rfl
    · exact ch_0 j hj
    · exact ch_1 j hj
  have c1 : ¬ nI j < 0 := nI_pos (by omega)
  have c2 : nI j < nI (sln i) := nI_lt hj (by omega)
  have i1 : inr (nI j) (sln i) = true := inr_nI hj (by omega)
  have t1 : (nI j).toNatClampNeg = j := q_tnI (by omega)
  refine ⟨?_, key.2.2⟩
  simp only [r_Str_charAt, r_SL_charAt, r_Str_checkIndex, r_Pre_checkIndex_n, if_neg c1, if_pos c2, Option.bind_some, chk_t i1, t1, key.1, chk_t key.2.1]
theorem len_B {i : Nat} {S : Sto} (hi : i < 2) : r_Str_length i S = nI (sln i) := by
  have : i = 0 ∨ i = 1 := by omega
  rcases this with rfl | rfl <;> rfl
/-- the bytes of a word, blanks behind -/
def pdB (Bs : Nat → Nat) (p e i : Nat) : Nat := if p + i < e then Bs (p + i) else 32
def mtS (Bs : Nat → Nat) (p e i1 k : Nat) (i : Nat) : Bool := !decide (chN i1 (8 * k + i) = pdB Bs p e i)
def mtE (S : Sto) : Bool → Option ((Int32 × Sto) ⊕ (Int32 × Sto))
  | true => some (.inr (0, S))
  | false => some (.inl (nI 8, S))
theorem isW_L {Bs : Nat → Nat} {m p e i1 k : Nat} {S : Sto} (hS : byB Bs m S) (hi1 : i1 < 2) (hk : 8 * k + 8 ≤ sln i1) (hpe : p ≤ e) (hem : e ≤ m) (h5 : S 29 5 = nI e) (h8 : S 29 8 = nI p) : ∀ (d f i : Nat), i + d = 8 → d < f → r_Rd_isWord_L29 i1 (nI (8 * k)) f (nI i) S = mtE S (anyS (mtS Bs p e i1 k) d i) := by
  have hm := hS.1
  have hs : sln i1 ≤ 96 := by
    have : i1 = 0 ∨ i1 = 1 := by omega
    rcases this with rfl | rfl <;> decide
  intro d
  induction d with
  | zero =>
    intro f i hi hf
    obtain ⟨f, rfl⟩ : ∃ g, f = g + 1 := ⟨f - 1, by omega⟩
    have e8 : i = 8 := by omega
    subst e8
    rw [r_Rd_isWord_L29, if_pos (by decide)]
    rfl
  | succ d ih =>
    intro f i hi hf
    obtain ⟨f, rfl⟩ : ∃ g, f = g + 1 := ⟨f - 1, by omega⟩
    have c1 : ¬ (8 : Int32) ≤ nI i := nI_ge (b := 8) (by omega) (by omega)
    obtain ⟨ch, cl⟩ := char_B (S := S) hi1 (show 8 * k + i < sln i1 by omega)
    have pl : pdB Bs p e i < 256 := by
      unfold pdB
      split
      · exact (hS.2.2 _ (by omega)).2
      · decide
    have v1 : ∀ R : Int32 → Option ((Int32 × Sto) ⊕ (Int32 × Sto)), (if nI e ≤ nI (p + i) then R 32 else (r_Rd_byteAt (nI (p + i)) S).bind (fun r5 => R r5)) = R (nI (pdB Bs p e i)) := by
      intro R
      unfold pdB
      by_cases q : p + i < e
      · rw [if_neg (nI_ge q (by omega)), if_pos q, by_B hS (show p + i < m by omega)]
        rfl
      · rw [if_pos (nI_le (by omega) (by omega)), if_neg q]
        rfl
    have st : r_Rd_isWord_L29 i1 (nI (8 * k)) (f + 1) (nI i) S = (fun v => if nI (chN i1 (8 * k + i)) = v then r_Rd_isWord_L29 i1 (nI (8 * k)) f (nI (i + 1)) S else some (.inr (0, S))) (nI (pdB Bs p e i)) := by
      refine Eq.trans ?_ (v1 (fun v => if nI (chN i1 (8 * k + i)) = v then r_Rd_isWord_L29 i1 (nI (8 * k)) f (nI (i + 1)) S else some (.inr (0, S))))
      simp only [r_Rd_isWord_L29, if_neg c1, h5, h8, nI_add, ch, Option.bind_some, jn, lt_k, nI_1]
    rw [st, anyS]
    by_cases q : chN i1 (8 * k + i) = pdB Bs p e i
    · have em : mtS Bs p e i1 k i = false := by unfold mtS; rw [decide_eq_true q]; rfl
      rw [em, Bool.false_or, ← ih f (i + 1) (by omega) (by omega)]
      exact if_pos (by rw [q])
    · have em : mtS Bs p e i1 k i = true := by unfold mtS; rw [decide_eq_false q]; rfl
      rw [em, Bool.true_or]
      exact if_neg (fun z => q ((nI_eq (by omega) (by omega)).mp z))
def mtW (Bs : Nat → Nat) (p e i1 k : Nat) : Bool := decide (e - p < 8) && !anyS (mtS Bs p e i1 k) 8 0
theorem isW_B {Bs : Nat → Nat} {m p e i1 k : Nat} {S : Sto} (hS : byB Bs m S) (hi1 : i1 < 2) (hk : 8 * k + 8 ≤ sln i1) (hpe : p ≤ e) (hem : e ≤ m) (h5 : S 29 5 = nI e) (h8 : S 29 8 = nI p) : r_Rd_isWord i1 (nI (8 * k)) S = some (b2i (mtW Bs p e i1 k), S) := by
  have hm := hS.1
  have hs : sln i1 ≤ 96 := by
    have : i1 = 0 ∨ i1 = 1 := by omega
    rcases this with rfl | rfl <;> decide
  unfold mtW
  have e58 : nI e - nI p = nI (e - p) := pk_sub hpe
  by_cases q : e - p < 8
  · have z : ¬ (8 : Int32) ≤ nI (e - p) := nI_ge (b := 8) (by omega) (by omega)
    have z2 : nI (8 * k + 8) ≤ nI (sln i1) := nI_le hk (by omega)
    have e8 : nI (8 * k) + 8 = nI (8 * k + 8) := nI_add _ 8
    have l := isW_L hS hi1 hk hpe hem h5 h8 8 fu 0 (by omega) (by decide)
    rw [show nI 0 = 0 from rfl] at l
    rw [decide_eq_true q, Bool.true_and]
    cases ha : anyS (mtS Bs p e i1 k) 8 0 with
    | true =>
      rw [ha, mtE] at l
      simp only [r_Rd_isWord, h5, h8, e58, if_neg z, len_B hi1, e8, if_pos z2, l, Option.bind_some]
      rfl
    | false =>
      rw [ha, mtE] at l
      simp only [r_Rd_isWord, h5, h8, e58, if_neg z, len_B hi1, e8, if_pos z2, l, Option.bind_some]
      rfl
  · have z : (8 : Int32) ≤ nI (e - p) := nI_le (a := 8) (by omega) (by omega)
    rw [decide_eq_false q, Bool.false_and]
    simp only [r_Rd_isWord, h5, h8, e58, if_pos z]
    rfl
def lkT (Bs : Nat → Nat) (p e i1 : Nat) : Nat → Nat → Nat → Nat
  | 0, _, c => c
  | d + 1, k, c => lkT Bs p e i1 d (k + 1) (if mtW Bs p e i1 k = true then k else c)
theorem look_B {Bs : Nat → Nat} {m p e i1 n : Nat} (hi1 : i1 < 2) (hn : 8 * n = sln i1) (hpe : p ≤ e) (hem : e ≤ m) : ∀ (d f k c : Nat) (S : Sto), k + d = n → d < f → byB Bs m S → S 29 5 = nI e → S 29 8 = nI p → S 29 6 = nI c → ∃ S', r_Rd_scanWord_L61 i1 f (nI k) S = some (nI n, S') ∧ S' 29 6 = nI (lkT Bs p e i1 d k c) ∧ ∀ a j, ¬ (a = 29 ∧ j = 6) → S' a j = S a j := by
  have hs : sln i1 ≤ 96 := by
    have : i1 = 0 ∨ i1 = 1 := by omega
    rcases this with rfl | rfl <;> decide
  intro d
  induction d with
  | zero =>
    intro f k c S hk hf hS h5 h8 h6
    obtain ⟨f, rfl⟩ : ∃ g, f = g + 1 := ⟨f - 1, by omega⟩
    have e : k = n := by omega
    subst e
    have e8 : (8 : Int32) * nI k = nI (8 * k) := pk_mul 8 k
    exact ⟨S, by rw [r_Rd_scanWord_L61, len_B hi1, e8, if_pos (by rw [hn, q_le]; omega)], h6, fun _ _ _ => rfl⟩
  | succ d ih =>
    intro f k c S hk hf hS h5 h8 h6
    obtain ⟨f, rfl⟩ : ∃ g, f = g + 1 := ⟨f - 1, by omega⟩
    have e8 : (8 : Int32) * nI k = nI (8 * k) := pk_mul 8 k
    have c1 : ¬ nI (sln i1) ≤ nI (8 * k) := nI_ge (by omega) (by omega)
    have iw := isW_B hS hi1 (show 8 * k + 8 ≤ sln i1 by omega) hpe hem h5 h8
    rw [lkT]
    cases hb : mtW Bs p e i1 k with
    | true =>
      rw [hb] at iw
      obtain ⟨S', q1, q2, q3⟩ := ih f (k + 1) k (sw S 29 6 (nI k)) (by omega) (by omega) (hS.go (fun a j q => rd_ne (by omega))) (by rw [rd_ne (by omega)]; exact h5) (by rw [rd_ne (by omega)]; exact h8) sw_same
      refine ⟨S', ?_, q2, fun a j g => by rw [q3 a j g, rd_ne g]⟩
      rw [← q1]
      simp only [r_Rd_scanWord_L61, len_B hi1, e8, if_neg c1, iw, Option.bind_some, if_neg (show ¬ b2i true = 0 by decide), ltS_k, jn_k, lt_k, nI_1]
    | false =>
      rw [hb] at iw
      obtain ⟨S', q1, q2, q3⟩ := ih f (k + 1) c S (by omega) (by omega) hS h5 h8 h6
      refine ⟨S', ?_, q2, q3⟩
      rw [← q1]
      simp only [r_Rd_scanWord_L61, len_B hi1, e8, if_neg c1, iw, Option.bind_some, if_pos (show b2i false = 0 by decide), jn_k, lt_k, nI_1]
/-! one token, the class: what, which number, where, what comes next -/
def lawI (law : Bool) : Nat := if law = true then 0 else 1
def tkP (Bs : Nat → Nat) (m pos : Nat) : Nat := spn isBc Bs m 400 pos
def tkE (Bs : Nat → Nat) (m pos : Nat) : Nat :=
  let p := tkP Bs m pos
  if p < m then (if isLc (Bs p) = true then spn isLc Bs m 400 p else if isDc (Bs p) = true then spn isDc Bs m 400 p else p + 1) else p
def tkT (Bs : Nat → Nat) (m : Nat) (law : Bool) (pos : Nat) : Nat :=
  let p := tkP Bs m pos
  if p < m then (if isLc (Bs p) = true then lkT Bs p (tkE Bs m pos) (lawI law) (if law = true then 12 else 11) 0 15 else if isDc (Bs p) = true then (if tkE Bs m pos - p ≤ 5 then 12 else 15) else if isSc (Bs p) = true then Bs p else 15) else 14
def tkN (Bs : Nat → Nat) (m pos : Nat) : Nat := nmV Bs (tkE Bs m pos - tkP Bs m pos) (tkP Bs m pos) 0
def ixS0 : Sto := fun _ _ => 0
theorem ix_sg : ∀ c, c < 256 → (r_Str_indexOf_0 2 (((nI c).toUInt32 % 65536).toInt32) ixS0).isSome = true ∧ (((r_Str_indexOf_0 2 (((nI c).toUInt32 % 65536).toInt32) ixS0).getD 0 < 0) ↔ isSc c = false) := by decide +kernel
theorem ix_L7 {i0 : Nat} {y3 y4 : Int32} {S S' : Sto} : ∀ (f : Nat) (x : Int32), r_SL_indexOfChar_L7 i0 y3 y4 f x S = r_SL_indexOfChar_L7 i0 y3 y4 f x S' := by
  intro f
  induction f with
  | zero => intro x; rfl
  | succ f ih => intro x; simp only [r_SL_indexOfChar_L7, ih, lt_k]
theorem ix_S {x : Int32} {S S' : Sto} : r_Str_indexOf_0 2 x S = r_Str_indexOf_0 2 x S' := by
  simp only [r_Str_indexOf_0, r_Str_indexOf_1, r_SL_indexOf, r_SL_indexOfChar, lt_k, ix_L7 (S := S) (S' := S'), r_Str_length]
theorem sg_B {c : Nat} {S : Sto} (hc : c < 256) : ∃ r, r_Str_indexOf_0 2 (((nI c).toUInt32 % 65536).toInt32) S = some r ∧ (r < 0 ↔ isSc c = false) := by
  obtain ⟨h1, h2⟩ := ix_sg c hc
  rw [ix_S (S := S) (S' := ixS0)]
  cases h : r_Str_indexOf_0 2 (((nI c).toUInt32 % 65536).toInt32) ixS0 with
  | none => rw [h] at h1; cases h1
  | some r => rw [h] at h2; exact ⟨r, rfl, h2⟩
theorem scan_B {Bs : Nat → Nat} {m pos : Nat} {law : Bool} {S : Sto} (hS : byB Bs m S) (hp : pos ≤ m) (h5 : S 29 5 = nI pos) (h4 : S 29 4 = b2i law) : ∃ S', r_Rd_scan S = some S' ∧ frR S S' ∧ S' 29 5 = nI (tkE Bs m pos) ∧ S' 29 6 = nI (tkT Bs m law pos) ∧ S' 29 8 = nI (tkP Bs m pos) ∧ (tkT Bs m law pos = 12 → S' 29 7 = nI (tkN Bs m pos)) := by
  have hm := hS.1
  have fuv : fu = 5000 := rfl
  obtain ⟨S1, q1, q2, q3⟩ := skip_B 400 fu pos S (by omega) hp (by omega) hS h5
  have q2' : S1 29 5 = nI (tkP Bs m pos) := q2
  have pl := spn_le (q := isBc) (Bs := Bs) (m := m) 400 pos
  have plm : tkP Bs m pos ≤ m := pl.2 hp
  generalize hP : tkP Bs m pos = p at *
  generalize hV : sw S1 29 8 (nI p) = V
  have v5 : V 29 5 = nI p := by rw [← hV, rd_ne (by omega)]; exact q2'
  have v8 : V 29 8 = nI p := by rw [← hV, sw_same]
  have hV1 : frR S V := fun a k g => by rw [← hV, rd_ne (by omega), q3 a k (by omega)]
  have hVb : byB Bs m V := hV1.by hS
  have v1 := hVb.2.1
  have v4 : V 29 4 = b2i law := by rw [hV1 _ _ (by omega)]; exact h4
  have head : r_Rd_scan S = (if nI p < nI m then (r_Rd_byteAt (nI p) V).bind (fun r3 => if r_Rd_isLetter r3 = 0 then (r_Rd_byteAt (nI p) V).bind (fun r4 => if r_Rd_isDigit r4 = 0 then (r_Rd_byteAt (nI p) V).bind (fun r5 => (r_Str_indexOf_0 2 ((r5.toUInt32 % 65536).toInt32) V).bind (fun r6 => jn (fun (v7 : Int32) => ltS (sw V 29 6 v7) (fun S8 => ltS (sw S8 29 5 ((S8 29 5) + 1)) (fun S9 => some S9))) (fun j146 => if r6 < 0 then j146 (15) else j146 (r5)))) else (r_Rd_scanNumber V).bind (fun S10 => some S10)) else (r_Rd_scanWord V).bind (fun S11 => some S11)) else some (sw V 29 6 14)) := by
    simp only [r_Rd_scan, q1, Option.bind_some, ltS_k, q2', hV, v5, v1]
  by_cases k : p < m
  · have c : nI p < nI m := nI_lt k (by omega)
    have bt := by_B hVb k
    have bl := (hVb.2.2 p k).2
    have lb := lc_B (Bs p) bl
    have db := dc_B (Bs p) bl
    cases kl : isLc (Bs p) with
    | true =>
      rw [kl] at lb
      have eE : tkE Bs m pos = spn isLc Bs m 400 p := by unfold tkE; rw [hP]; simp only [if_pos k, kl, ite_true]
      obtain ⟨W, w1, w2, w3⟩ := word_B 400 fu p V (by omega) plm (by omega) hVb v5
      have el := spn_le (q := isLc) (Bs := Bs) (m := m) 400 p
      have eem := el.2 plm
      rw [← eE] at w2 el eem
      have wb : byB Bs m W := hVb.go (fun a j q => w3 a j (by omega))
      have w4 : W 29 4 = b2i law := by rw [w3 _ _ (by omega)]; exact v4
      have w8 : W 29 8 = nI p := by rw [w3 _ _ (by omega)]; exact v8
      have eT : tkT Bs m law pos = lkT Bs p (tkE Bs m pos) (lawI law) (if law = true then 12 else 11) 0 15 := by unfold tkT; rw [hP]; simp only [if_pos k, kl, ite_true]
      obtain ⟨X, x1, x2, x3⟩ := look_B (i1 := lawI law) (n := if law = true then 12 else 11) (by unfold lawI; split <;> omega) (by cases law <;> rfl) el.1 eem (if law = true then 12 else 11) fu 0 15 (sw W 29 6 15) (by omega) (by split <;> omega) (wb.go (fun a j q => rd_ne (by omega))) (by rw [rd_ne (by omega)]; exact w2) (by rw [rd_ne (by omega)]; exact w8) (by rw [sw_same]; rfl)
      rw [show nI 0 = 0 from rfl] at x1
      have sw' : r_Rd_scanWord V = some X := by
        cases law with
        | true =>
          have z : ¬ b2i true = 0 := by decide
          have x1' : r_Rd_scanWord_L61 0 fu 0 (sw W 29 6 15) = some (nI 12, X) := x1
          simp only [r_Rd_scanWord, w1, Option.bind_some, w4, if_neg z, jn_k, ltS_k, x1']
        | false =>
          have z : b2i false = 0 := by decide
          have x1' : r_Rd_scanWord_L61 1 fu 0 (sw W 29 6 15) = some (nI 11, X) := x1
          simp only [r_Rd_scanWord, w1, Option.bind_some, w4, if_pos z, jn_k, ltS_k, x1']
      refine ⟨X, ?_, hV1.tr (fun a j g => by rw [x3 a j (by omega), rd_ne (by omega), w3 a j (by omega)]), ?_, ?_, ?_, fun h12 => ?_⟩
      · rw [head, if_pos c, bt]
        simp only [Option.bind_some, lb, if_neg (show ¬ b2i true = 0 by decide), sw']
      · rw [x3 _ _ (by omega), rd_ne (by omega)]; exact w2
      · rw [eT]; exact x2
      · rw [x3 _ _ (by omega), rd_ne (by omega)]; exact w8
      · exfalso
        have no12 : ∀ (d k c : Nat), c ≠ 12 → k + d ≤ 12 → lkT Bs p (tkE Bs m pos) (lawI law) d k c ≠ 12 := by
          intro d
          induction d with
          | zero => intro k c h _; exact h
          | succ d ih =>
            intro k c h hk
            rw [lkT]
            refine ih _ _ ?_ (by omega)
            split
            · omega
            · exact h
        rw [eT] at h12
        exact no12 _ 0 15 (by decide) (by split <;> omega) h12
    | false =>
      rw [kl] at lb
      cases kd : isDc (Bs p) with
      | true =>
        rw [kd] at db
        have eE : tkE Bs m pos = spn isDc Bs m 400 p := by unfold tkE; rw [hP]; simp only [if_pos k, kl, kd, ite_true, if_neg (show ¬ false = true by decide)]
        obtain ⟨W, w1, w2, w3, w4⟩ := num_B (p := p) 400 fu p (sw V 29 7 0) (by omega) plm (Nat.le_refl _) (by omega) (hVb.go (fun a j q => rd_ne (by omega))) (fun j h1 h2 => by omega) (by rw [rd_ne (by omega)]; exact v5) (by rw [rd_ne (by omega)]; exact v8) (by rw [sw_same, Nat.sub_self]; rfl)
        have el := spn_le (q := isDc) (Bs := Bs) (m := m) 400 p
        have eem := el.2 plm
        rw [← eE] at w2 w3 el eem
        have w8 : W 29 8 = nI p := by rw [w4 _ _ (by omega), rd_ne (by omega)]; exact v8
        have e58 : nI (tkE Bs m pos) - nI p = nI (tkE Bs m pos - p) := pk_sub el.1
        have eT : tkT Bs m law pos = if tkE Bs m pos - p ≤ 5 then 12 else 15 := by unfold tkT; rw [hP]; simp only [if_pos k, kl, kd, ite_true, if_neg (show ¬ false = true by decide)]
        by_cases k5 : tkE Bs m pos - p ≤ 5
        · have z : ¬ (5 : Int32) < nI (tkE Bs m pos - p) := nI_nlt (a := 5) (by omega) (by omega)
          refine ⟨sw W 29 6 12, ?_, hV1.tr (fun a j g => by rw [rd_ne (by omega), w4 a j (by omega), rd_ne (by omega)]), ?_, ?_, ?_, fun _ => ?_⟩
          · rw [head, if_pos c, bt]
            simp only [Option.bind_some, lb, if_pos (show b2i false = 0 by decide), db, if_neg (show ¬ b2i true = 0 by decide), r_Rd_scanNumber, ltS_k, w1, w2, w8, e58, if_neg z, jn_k]
          · rw [rd_ne (by omega)]; exact w2
          · rw [sw_same, eT, if_pos k5]; rfl
          · rw [rd_ne (by omega)]; exact w8
          · rw [rd_ne (by omega), w3]
            unfold tkN
            rw [hP]
            by_cases k6 : tkE Bs m pos - p < 5
            · rw [if_pos k6]
            · rw [if_neg k6, show tkE Bs m pos - p = 5 by omega]
        · have z : (5 : Int32) < nI (tkE Bs m pos - p) := nI_lt (a := 5) (by omega) (by omega)
          refine ⟨sw W 29 6 15, ?_, hV1.tr (fun a j g => by rw [rd_ne (by omega), w4 a j (by omega), rd_ne (by omega)]), ?_, ?_, ?_, fun h => ?_⟩
          · rw [head, if_pos c, bt]
            simp only [Option.bind_some, lb, if_pos (show b2i false = 0 by decide), db, if_neg (show ¬ b2i true = 0 by decide), r_Rd_scanNumber, ltS_k, w1, w2, w8, e58, if_pos z, jn_k]
          · rw [rd_ne (by omega)]; exact w2
          · rw [sw_same, eT, if_neg k5]; rfl
          · rw [rd_ne (by omega)]; exact w8
          · rw [eT, if_neg k5] at h; omega
      | false =>
        rw [kd] at db
        have eE : tkE Bs m pos = p + 1 := by unfold tkE; rw [hP]; simp only [if_pos k, kl, kd, if_neg (show ¬ false = true by decide)]
        have eT : tkT Bs m law pos = if isSc (Bs p) = true then Bs p else 15 := by unfold tkT; rw [hP]; simp only [if_pos k, kl, kd, if_neg (show ¬ false = true by decide)]
        obtain ⟨r, s1, s2⟩ := sg_B (S := V) bl
        have v5' : ∀ x, sw V 29 6 x 29 5 = nI p := fun x => by rw [rd_ne (by omega)]; exact v5
        cases ks : isSc (Bs p) with
        | true =>
          have z : ¬ r < 0 := fun q => by rw [s2.mp q] at ks; cases ks
          refine ⟨sw (sw V 29 6 (nI (Bs p))) 29 5 (nI (p + 1)), ?_, hV1.tr (fun a j g => by rw [rd_ne (by omega), rd_ne (by omega)]), ?_, ?_, ?_, fun h => ?_⟩
          · rw [head, if_pos c, bt]
            simp only [Option.bind_some, lb, if_pos (show b2i false = 0 by decide), db, s1, if_neg z, jn_k, ltS_k, v5', nI_1]
          · rw [sw_same, eE]
          · rw [rd_ne (by omega), sw_same, eT, ks, if_pos rfl]
          · rw [rd_ne (by omega), rd_ne (by omega)]; exact v8
          · rw [eT, ks, if_pos rfl] at h
            rw [h] at ks
            exact absurd ks (by decide)
        | false =>
          have z : r < 0 := s2.mpr ks
          refine ⟨sw (sw V 29 6 15) 29 5 (nI (p + 1)), ?_, hV1.tr (fun a j g => by rw [rd_ne (by omega), rd_ne (by omega)]), ?_, ?_, ?_, fun h => ?_⟩
          · rw [head, if_pos c, bt]
            simp only [Option.bind_some, lb, if_pos (show b2i false = 0 by decide), db, s1, if_pos z, jn_k, ltS_k, v5', nI_1]
          · rw [sw_same, eE]
          · rw [rd_ne (by omega), sw_same, eT, ks, if_neg (by decide)]; rfl
          · rw [rd_ne (by omega), rd_ne (by omega)]; exact v8
          · rw [eT, ks, if_neg (by decide)] at h; omega
  · have c : ¬ nI p < nI m := nI_nlt (by omega) (by omega)
    have eE : tkE Bs m pos = p := by unfold tkE; rw [hP]; simp only [if_neg k]
    have eT : tkT Bs m law pos = 14 := by unfold tkT; rw [hP]; simp only [if_neg k]
    refine ⟨sw V 29 6 14, by rw [head, if_neg c], hV1.tr (fun a j g => rd_ne (by omega)), ?_, ?_, ?_, fun h => ?_⟩
    · rw [rd_ne (by omega), eE]; exact v5
    · rw [sw_same, eT]; rfl
    · rw [rd_ne (by omega)]; exact v8
    · rw [eT] at h; omega
