/-! a text, class and reference -/
def oM (a k : Nat) : Bool := decide (a < 146 ∧ ¬ (a = 29 ∨ a = 31 ∨ a = 32 ∨ a = 35 ∨ a = 38 ∨ a = 41 ∨ a = 44 ∨ a = 91) ∧ ¬ (120 ≤ a ∧ a ≤ 126) ∧ (a = 104 → 1 ≤ k ∧ (k < 27 ∨ 47 < k)))
theorem o_Air (a k : Nat) (h : uAir a k = true) : oM a k = true := by
  unfold uAir at h
  unfold oM
  simp only [Bool.or_eq_true, Bool.and_eq_true, decide_eq_true_eq, beq_iff_eq] at h ⊢
  omega
theorem o_Wal (a k : Nat) (h : uWal a k = true) : oM a k = true := by
  unfold uWal at h
  unfold oM
  simp only [Bool.or_eq_true, Bool.and_eq_true, decide_eq_true_eq, beq_iff_eq] at h ⊢
  omega
theorem o_Spo (a k : Nat) (h : uSpo a k = true) : oM a k = true := by
  unfold uSpo at h
  unfold oM
  simp only [Bool.or_eq_true, Bool.and_eq_true, decide_eq_true_eq, beq_iff_eq] at h ⊢
  omega
theorem o_Sho (a k : Nat) (h : uSho a k = true) : oM a k = true := by
  unfold uSho at h
  unfold oM
  simp only [Bool.or_eq_true, Bool.and_eq_true, decide_eq_true_eq, beq_iff_eq] at h ⊢
  omega
theorem o_Hea (a k : Nat) (h : uHea a k = true) : oM a k = true := by
  unfold uHea at h
  unfold oM
  simp only [Bool.or_eq_true, Bool.and_eq_true, decide_eq_true_eq, beq_iff_eq] at h ⊢
  omega
theorem o_Ear (a k : Nat) (h : uEar a k = true) : oM a k = true := by
  unfold uEar at h
  unfold oM
  simp only [Bool.or_eq_true, Bool.and_eq_true, decide_eq_true_eq, beq_iff_eq] at h ⊢
  omega
theorem o_Cli (a k : Nat) (h : uCli a k = true) : oM a k = true := by
  unfold uCli at h
  unfold oM
  simp only [Bool.or_eq_true, Bool.and_eq_true, decide_eq_true_eq, beq_iff_eq] at h ⊢
  omega
theorem o_Voi (a k : Nat) (h : uVoi a k = true) : oM a k = true := by
  unfold uVoi at h
  unfold oM
  simp only [Bool.or_eq_true, Bool.and_eq_true, decide_eq_true_eq, beq_iff_eq] at h ⊢
  omega
theorem o_Noi (a k : Nat) (h : uNoi a k = true) : oM a k = true := by
  unfold uNoi at h
  unfold oM
  simp only [Bool.or_eq_true, Bool.and_eq_true, decide_eq_true_eq, beq_iff_eq] at h ⊢
  omega
theorem o_Bal (a k : Nat) (h : uBal a k = true) : oM a k = true := by
  unfold uBal at h
  unfold oM
  simp only [Bool.or_eq_true, Bool.and_eq_true, decide_eq_true_eq, beq_iff_eq] at h ⊢
  omega
theorem o_Wor (a k : Nat) (h : uWor a k = true) : oM a k = true := by
  unfold uWor at h
  unfold oM
  simp only [decide_eq_true_eq, beq_iff_eq] at h ⊢
  omega
theorem Iv.tx {nL n2 : Nat} {S S2 : Sto} (h : Iv nL S) (ag : Ag oM S S2) (hb : gByt S2) (hf : gFau S2) (hl : gLaw n2 S2) : Iv n2 S2 := by
  obtain ⟨h1, h2, h3, h4, -, -, h7, h8, h9, h10, h11, h12, h13, -⟩ := h
  exact ⟨h1.keep (ag.le o_Air), h2.keep (ag.le o_Wal), h3.keep (ag.le o_Spo), h4.keep (ag.le o_Sho), hb, hf, h7.keep (ag.le o_Hea), h8.keep (ag.le o_Ear), h9.keep (ag.le o_Cli), h10.keep (ag.le o_Voi), h11.keep (ag.le o_Noi), h12.keep (ag.le o_Bal), h13.keep (ag.le o_Wor), hl⟩
theorem Scr.keep2 {nL n2 k : Nat} {S S' : Sto} {ls : List (Nat × Cod)} (h : Scr nL k S ls) (hn : nL ≤ n2) (e1 : S' (scA k) 0 = S (scA k) 0) (e2 : ∀ c i, (146 ≤ c ∨ c = scA k + 1) → c < nL → S' c i = S c i) (e3 : S' 120 k = S 120 k) (e4 : ∀ a j, (a = 121 ∨ a = 122 ∨ a = 123) → j < 12 → S' a (12 * k + j) = S a (12 * k + j)) (e5 : ∀ a j, (a = 124 ∨ a = 125) → j < 400 → S' a (400 * k + j) = S a (400 * k + j)) : Scr n2 k S' ls := by
  obtain ⟨h1, h2, h3, h4, h5, h6, h7, h8, h9⟩ := h
  unfold Scr
  rw [e1]
  refine ⟨h1, by omega, (e2 _ _ h1 h2).trans h3, h4, fun i q hq => (e2 _ _ h1 h2).trans (h5 i q hq), h6, e3.trans h7, h8, fun j l hl => ?_⟩
  obtain ⟨g1, g2, g3, g4, g5, g6, g7, g8⟩ := h9 j l hl
  have hj : j < ls.length := (List.getElem?_eq_some_iff.mp hl).1
  refine ⟨(e4 121 _ (by omega) (by omega)).trans g1, (e4 122 _ (by omega) (by omega)).trans g2, (e4 123 _ (by omega) (by omega)).trans g3, g4, g5, g6, g7, fun i q hq => ?_⟩
  have hi := (List.getElem?_eq_some_iff.mp hq).1
  have ix := beg_ix ls j i l hl hi
  rw [hq] at ix
  have il := (List.getElem?_eq_some_iff.mp ix).1
  rw [beg_len] at il
  obtain ⟨v1, v2⟩ := g8 i q hq
  rw [Nat.add_assoc] at v1 v2 ⊢
  exact ⟨(e5 124 _ (by omega) (by omega)).trans v1, (e5 125 _ (by omega) (by omega)).trans v2⟩
theorem scA_v {k : Nat} (hk : k < 5) : (k = 4 ∧ scA k = 91) ∨ (k < 4 ∧ scA k = 35 + 3 * k) := by
  unfold scA
  by_cases e : k = 4
  · left; rw [if_pos e]; exact ⟨e, rfl⟩
  · right; rw [if_neg e]; exact ⟨by omega, rfl⟩
theorem bnd_id {α : Type} {x : Option α} : x.bind (fun y => some y) = x := by cases x <;> rfl
theorem rB_text {k nL : Nat} {law : Bool} {S : Sto} (hk : (k = 4 ∧ law = false) ∨ (k < 4 ∧ law = true)) : r_B_text (nI k) nL S = r_Rd_read (b2i law) (scA k) nL S := by
  have w : ∀ k, k < 5 → ¬ r_B_within (nI k) 0 4 = 0 := by decide
  have wk := w k (by omega)
  rcases hk with ⟨rfl, rfl⟩ | ⟨h4, rfl⟩
  · unfold r_B_text
    rw [if_neg wk, if_pos (show nI 4 = 4 from rfl)]
    exact bnd_id
  · have n4 : ¬ nI k = 4 := fun z => by have := (nI_eq (b := 4) (by omega) (by omega)).mp z; omega
    have i1 : inr (nI k) 4 = true := inr_nI h4 (by decide)
    have t1 : (nI k).toNatClampNeg = k := q_tnI (by omega)
    unfold r_B_text
    rw [if_neg wk, if_neg n4, chk_t i1, t1]
    have e : scA k = 35 + 3 * k := by unfold scA; rw [if_neg (by omega)]
    rw [e]
    exact bnd_id
/-- before the reference reads -/
def preT (law : Bool) (S : Sto) : Sto := sw (sw (sw (sw S 104 0 0) 104 46 0) 104 47 (-1)) 104 39 (b2i (!law))
theorem preT_n {law : Bool} {S : Sto} {a j : Nat} (h : ¬ (a = 104 ∧ (j = 0 ∨ j = 39 ∨ j = 46 ∨ j = 47))) : preT law S a j = S a j := by
  unfold preT
  rw [rd_ne (by omega), rd_ne (by omega), rd_ne (by omega), rd_ne (by omega)]
theorem isIn_5 : ∀ k, k < 5 → r_M_isIn (nI k) 0 4 = 1 := by decide
theorem rM_bad {k : Nat} {law : Bool} {S1 T' : Sto} (hk : (k = 4 ∧ law = false) ∨ (k < 4 ∧ law = true)) (hr : r_M_readText (preT law S1) = some (-1, T')) : r_M_text (nI k) S1 = some (-1, sw (sw (sw T' 104 27 0) 104 46 (T' 104 44)) 104 47 (T' 104 45)) := by
  have i5 := isIn_5 k (by omega)
  have n10 : ¬ (1 : Int32) = 0 := by decide
  unfold preT at hr
  rcases hk with ⟨rfl, rfl⟩ | ⟨h4, rfl⟩
  · have hr' : r_M_readText (sw (sw (sw (sw S1 104 0 0) 104 46 0) 104 47 (-1)) 104 39 1) = some (-1, T') := hr
    simp (disch := omega) only [r_M_text, ltS_k, lt_k, if_pos (show nI 4 = 4 from rfl), jn_k, chk_t (show b01 1 = true by decide), i5, if_neg n10, hr', Option.bind_some, ite_true, rd_ne]
  · have n4 : ¬ nI k = 4 := fun z => by have := (nI_eq (b := 4) (by omega) (by omega)).mp z; omega
    have hr' : r_M_readText (sw (sw (sw (sw S1 104 0 0) 104 46 0) 104 47 (-1)) 104 39 0) = some (-1, T') := hr
    simp (disch := omega) only [r_M_text, ltS_k, lt_k, if_neg n4, jn_k, chk_t (show b01 0 = true by decide), i5, if_neg n10, hr', Option.bind_some, ite_true, rd_ne]
theorem rM_good {k n M : Nat} {law : Bool} {S1 T' : Sto} (hk : (k = 4 ∧ law = false) ∨ (k < 4 ∧ law = true)) (hn : n ≤ 12) (hM : M ≤ 400) (hr : r_M_readText (preT law S1) = some (nI n, T')) (h40 : T' 104 40 = nI M) :
    ∃ S2, r_M_text (nI k) S1 = some (nI n, S2) ∧ (∀ a j, (a = 121 ∨ a = 122 ∨ a = 123) → j < n → S2 a (12 * k + j) = T' a (60 + j)) ∧ (∀ a j, (a = 124 ∨ a = 125) → j < M → S2 a (400 * k + j) = T' a (2000 + j)) ∧ S2 120 k = nI n ∧ S2 104 27 = 0 ∧ ∀ a j, ¬ (a = 104 ∧ j = 27) → ¬ ((a = 121 ∨ a = 122 ∨ a = 123) ∧ 12 * k ≤ j ∧ j < 12 * k + n) → ¬ ((a = 124 ∨ a = 125) ∧ 400 * k ≤ j ∧ j < 400 * k + M) → ¬ (a = 120 ∧ j = k) → S2 a j = T' a j := by
  have hk5 : k < 5 := by omega
  have i5 := isIn_5 k hk5
  have n10 : ¬ (1 : Int32) = 0 := by decide
  have nm : ¬ nI n = -1 := nI_nm (by omega)
  have ik : inr (nI k) 6 = true := inr_nI (by omega) (by decide)
  have tk : (nI k).toNatClampNeg = k := q_tnI (by omega)
  obtain ⟨x, U, u1, u2, u3⟩ := cp_90 hk5 hn n fu 0 (sw T' 104 27 0) (by omega) (by have : fu = 5000 := rfl; omega)
  have u40 : U 104 40 = nI M := by rw [u3 _ _ (by omega), rd_ne (by omega)]; exact h40
  obtain ⟨y, W, w1, w2, w3⟩ := cp_171 (y3 := nI n) hk5 hM M fu 0 U (by omega) (by have : fu = 5000 := rfl; omega) u40
  have u1' : r_M_text_L90 (nI k) (nI n) fu 0 (sw T' 104 27 0) = some (x, U) := u1
  have w1' : r_M_text_L171 (nI k) (nI n) fu 0 U = some (y, W) := w1
  refine ⟨sw W 120 k (nI n), ?_, fun a j g h => ?_, fun a j g h => ?_, sw_same, ?_, fun a j g1 g2 g3 g4 => ?_⟩
  · unfold preT at hr
    rcases hk with ⟨rfl, rfl⟩ | ⟨h4, rfl⟩
    · have hr' : r_M_readText (sw (sw (sw (sw S1 104 0 0) 104 46 0) 104 47 (-1)) 104 39 1) = some (nI n, T') := hr
      simp only [r_M_text, ltS_k, lt_k, if_pos (show nI 4 = 4 from rfl), jn_k, chk_t (show b01 1 = true by decide), i5, if_neg n10, hr', Option.bind_some, if_neg nm, u1', w1', chk_t ik, tk]
    · have n4 : ¬ nI k = 4 := fun z => by have := (nI_eq (b := 4) (by omega) (by omega)).mp z; omega
      have hr' : r_M_readText (sw (sw (sw (sw S1 104 0 0) 104 46 0) 104 47 (-1)) 104 39 0) = some (nI n, T') := hr
      simp only [r_M_text, ltS_k, lt_k, if_neg n4, jn_k, chk_t (show b01 0 = true by decide), i5, if_neg n10, hr', Option.bind_some, if_neg nm, u1', w1', chk_t ik, tk]
  · rw [rd_ne (by omega), w3 _ _ (by omega), u2 a j g (by omega) h, rd_ne (by omega)]
  · rw [rd_ne (by omega), w2 a j g (by omega) h, u3 _ _ (by omega), rd_ne (by omega)]
  · rw [rd_ne (by omega), w3 _ _ (by omega), u3 _ _ (by omega), sw_same]
  · rw [rd_ne g4, w3 _ _ (by omega), u3 _ _ (by omega), rd_ne g1]
