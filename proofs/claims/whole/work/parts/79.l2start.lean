/-! the class reads a whole text, from what its steps come to -/
theorem nI_sur (x : Int32) : ∃ n, x = nI n := ⟨x.toBitVec.toNat, by
  apply Int32.toBitVec_inj.mp
  show x.toBitVec = BitVec.ofNat 32 x.toBitVec.toNat
  simp⟩
def frX (S S' : Sto) : Prop := ∀ a k, ¬ a = 29 → ¬ a = 31 → ¬ a = 32 → S' a k = S a k
theorem start_B {law : Bool} {Bs : Nat → Nat} {m : Nat} {S : Sto} (h : byB Bs m S) : ∃ c o S1, r_Rd_start (b2i law) S = some S1 ∧ RdS law Bs m (sw S1 29 2 0) (0, c, 0, o, 0, 0, [], []) 0 ∧ frX S (sw S1 29 2 0) := by
  obtain ⟨c, hc⟩ := nI_sur (S 29 10)
  obtain ⟨o, ho⟩ := nI_sur (S 29 12)
  have hb : b01 (b2i law) = true := by cases law <;> decide
  refine ⟨c, o, sw (sw (sw (sw (sw (sw (sw (sw S 29 4 (b2i law)) 29 5 0) 29 9 0) 29 11 0) 29 13 0) 29 14 0) 29 16 0) 29 18 0, ?_, ⟨⟨?_, ?_, ?_, ?_, ?_, ?_, ⟨?_, ?_, ?_, ?_⟩, ⟨?_, ?_, ?_⟩⟩, ?_, ?_, ?_, ?_, ?_⟩, ?_⟩
  · unfold r_Rd_start
    rw [chk_t hb]
    simp only [ltS_k]
  · simp (disch := omega) only [rd_ne, sw_same]; rfl
  · simp (disch := omega) only [rd_ne, sw_same]; exact hc
  · simp (disch := omega) only [rd_ne, sw_same]; rfl
  · simp (disch := omega) only [rd_ne, sw_same]; exact ho
  · simp (disch := omega) only [rd_ne, sw_same]; rfl
  · simp (disch := omega) only [rd_ne, sw_same]; rfl
  · simp (disch := omega) only [rd_ne, sw_same]; rfl
  · exact Nat.zero_le _
  · trivial
  · intro a q; cases q
  · simp (disch := omega) only [rd_ne, sw_same]; rfl
  · exact Nat.zero_le _
  · intro i q hq; cases hq
  · exact h.go (fun a k q => by simp (disch := omega) only [rd_ne])
  · simp (disch := omega) only [rd_ne, sw_same]; rfl
  · exact Nat.zero_le _
  · simp (disch := omega) only [rd_ne, sw_same]
  · exact sw_same
  · intro a k g1 g2 g3
    simp (disch := omega) only [rd_ne]
/-- a text that is read to its end -/
theorem readB_good {law : Bool} {Bs : Nat → Nat} {m a2 nL ln : Nat} {C : Cod} {S : Sto} (h : byB Bs m S) (hp : ∀ c o, ∃ n cmp out op br W q, Pth law Bs m n (0, c, 0, o, 0, 0, [], []) 0 (0, cmp, ln, out, op, br, W, C) q ∧ n ≤ 400 ∧ tkT Bs m law q = 14) (hl : C.length < 400) (ha : a2 < 146) (ha2 : ¬ a2 = 29 ∧ ¬ a2 = 31 ∧ ¬ a2 = 32) (hn : 146 ≤ nL) :
    ∃ S', r_Rd_read (b2i law) a2 nL S = some (nI ln, S', true) ∧ S' a2 0 = nI nL ∧ S' nL 400 = nI C.length ∧ (∀ i q, C[i]? = some q → S' nL i = cw1 q) ∧ S' 29 1 = 0 ∧ S' 29 2 = 0 ∧ S' 29 3 = -1 ∧ ∀ a k, ¬ a = 29 → ¬ a = 31 → ¬ a = 32 → ¬ a = nL → ¬ (a = a2 ∧ k = 0) → S' a k = S a k := by
  have hm := h.1
  obtain ⟨c, o, S1, s1, s2, s3⟩ := start_B (law := law) h
  obtain ⟨n, cmp, out, op, br, W, q, p1, p2, p3⟩ := hp c o
  obtain ⟨S3, r1, r2, r3⟩ := read_P (a2 := a2) hm n (4999 - n + 1) 0 _ _ _ _ _ p1 s2 (by omega)
  obtain ⟨S4, e1, e2, e3, e4⟩ := end_P (a2 := a2) (f := 4999 - n) (i := 0 + n) r2 p3 rfl (by omega)
  have hfu : fu = (4999 - n + 1) + n := by unfold fu; omega
  obtain ⟨r9, r10, r11, r12, r13, r14, hW, c1, c2, c3⟩ := e2
  generalize hV : sw (sw S4 29 3 (-1)) 29 1 0 = V
  have v2 : V 29 2 = 0 := by rw [← hV, rd_ne (by omega), rd_ne (by omega)]; exact e3
  have v18 : V 29 18 = nI C.length := by rw [← hV, rd_ne (by omega), rd_ne (by omega)]; exact c1
  have v32 : ∀ i, V 32 i = S4 32 i := fun i => by rw [← hV, rd_ne (by omega), rd_ne (by omega)]
  have ok : okc (nI C.length) = true := by
    unfold okc
    rw [decide_eq_true (show (0 : Int32) ≤ nI C.length from q_le.mpr (by rw [q_n (by omega)]; exact Int.natCast_nonneg _)), decide_eq_true (show nI C.length < 400 from nI_lt (b := 400) hl (by omega))]
    rfl
  obtain ⟨b1, b2, b3, b4⟩ := okc_b ok
  have bl : (nI C.length).toNatClampNeg = C.length := by
    show (nI C.length).toInt.toNat = _
    rw [q_n (by omega)]
    rfl
  have cp1 : ∀ i, i < C.length → cpo V nL (nI C.length) nL i = V 32 i := fun i hi => by
    unfold cpo
    rw [sr_a, b4, bl, pk_cpy_in (by omega) (by omega), sr_n (by omega)]
    congr 1
    omega
  have cp2 : cpo V nL (nI C.length) nL 400 = nI C.length := by
    unfold cpo
    rw [sr_a, b4, bl, pk_cpy_out (by omega), sr_a, pk_us]
  have cp3 : ∀ a k, ¬ a = nL → cpo V nL (nI C.length) a k = V a k := fun a k g => by
    unfold cpo
    rw [sr_n g, sr_n g]
  refine ⟨sw (cpo V nL (nI C.length)) a2 0 (nI nL), ?_, sw_same, ?_, ?_, ?_, ?_, ?_, ?_⟩
  · unfold r_Rd_read
    rw [s1, Option.bind_some, ltS_k, hfu, show (0 : Int32) = nI 0 from rfl]
    rw [show sw S1 29 2 (nI 0) = sw S1 29 2 0 from rfl, r1, e1, Option.bind_some]
    simp only
    have z : S4 29 2 = nI 0 := e3
    rw [show (nI 0) = (0 : Int32) from rfl] at *
    simp only [if_pos e3, jn_k, ltS_k, hV, if_pos v2, v18, chk_t ok]
    rw [rd_ne (by omega), cp3 _ _ (by omega), ← hV, rd_ne (by omega), rd_ne (by omega), r11]
  · rw [rd_ne (by omega)]; exact cp2
  · intro i qq hq
    have hi : i < C.length := (List.getElem?_eq_some_iff.mp hq).1
    rw [rd_ne (by omega), cp1 i hi, v32]
    exact c3 i qq hq
  · rw [rd_ne (by omega), cp3 _ _ (by omega), ← hV, sw_same]
  · rw [rd_ne (by omega), cp3 _ _ (by omega)]; exact v2
  · rw [rd_ne (by omega), cp3 _ _ (by omega), ← hV, rd_ne (by omega), sw_same]
  · intro a k g1 g2 g3 g4 g5
    rw [rd_ne g5, cp3 _ _ g4, ← hV, rd_ne (by omega), rd_ne (by omega), e4 a k (by omega) g2 g3, r3 a k (by omega) g2 g3]
    exact s3 a k g1 g2 g3
/-- a text that has a fault -/
theorem readB_flt {law : Bool} {Bs : Nat → Nat} {m a2 nL fl pl : Nat} {S : Sto} (h : byB Bs m S) (hf : 0 < fl) (hf3 : fl ≤ 3) (hp : ∀ c o, ∃ n A q, Pth law Bs m n (0, c, 0, o, 0, 0, [], []) 0 A q ∧ n ≤ 400 ∧ Flt law Bs m A q fl ∧ tkP Bs m q = pl) :
    ∃ S', r_Rd_read (b2i law) a2 nL S = some (-1, S', false) ∧ S' 29 1 = 0 ∧ S' 29 2 = nI fl ∧ S' 29 3 = nI pl ∧ ∀ a k, ¬ a = 29 → ¬ a = 31 → ¬ a = 32 → S' a k = S a k := by
  have hm := h.1
  obtain ⟨c, o, S1, s1, s2, s3⟩ := start_B (law := law) h
  obtain ⟨n, A, q, p1, p2, p3, p4⟩ := hp c o
  obtain ⟨S3, r1, r2, r3⟩ := read_P (a2 := a2) hm n (4998 - n + 2) 0 _ _ _ _ _ p1 s2 (by omega)
  obtain ⟨x, S4, e1, e2, e3, e4⟩ := flt_P (a2 := a2) (f := 4998 - n) (i := 0 + n) r2 p3 hf hf3 (by omega)
  have hfu : fu = (4998 - n + 2) + n := by unfold fu; omega
  have nz : ¬ S4 29 2 = 0 := by
    rw [e2]
    exact fun z => by have := (nI_eq (a := fl) (b := 0) (by omega) (by omega)).mp z; omega
  generalize hV : sw (sw S4 29 3 (S4 29 8)) 29 1 0 = V
  have v2 : V 29 2 = S4 29 2 := by rw [← hV, rd_ne (by omega), rd_ne (by omega)]
  have nv : ¬ V 29 2 = 0 := by rw [v2]; exact nz
  refine ⟨V, ?_, ?_, ?_, ?_, ?_⟩
  · unfold r_Rd_read
    rw [s1, Option.bind_some, ltS_k, hfu, show (0 : Int32) = nI 0 from rfl]
    rw [show sw S1 29 2 (nI 0) = sw S1 29 2 0 from rfl, r1, e1, Option.bind_some]
    rw [show (nI 0) = (0 : Int32) from rfl]
    simp only [if_neg nz, jn_k, ltS_k, hV, if_neg nv]
  · rw [← hV, sw_same]
  · rw [v2]; exact e2
  · rw [← hV, rd_ne (by omega), sw_same, e3, p4]
  · intro a k g1 g2 g3
    rw [← hV, rd_ne (by omega), rd_ne (by omega), e4 a k (by omega) g2 g3, r3 a k (by omega) g2 g3]
    exact s3 a k g1 g2 g3
