/-! a token, the reference -/
def wd (Bs : Nat → Nat) (p e : Nat) : List Nat := (List.range (e - p)).map (fun i => Bs (p + i))
def rwW : List (List Nat) := [[116, 117, 114, 110], [98, 97, 110, 103], [99, 114, 97, 99, 107], [119, 97, 108, 108], [110, 111], [119, 104, 101, 110], [111, 114], [97, 110, 100], [110, 111, 116], [103, 97, 112], [119, 97, 108, 108, 115], [110, 101, 97, 114], [115, 104, 111, 116], [116, 114, 117, 99, 107], [98, 111, 97, 114, 100], [108, 111, 117, 100], [108, 111, 110, 103], [97, 104, 101, 97, 100], [98, 101, 104, 105, 110, 100]]
def rw1 (j : Nat) : List Nat := rwW.getD j []
def stp (j : Nat) : Nat := [0, 5, 10, 16, 21, 24, 29, 32, 36, 40, 44, 50, 55, 60, 66, 72, 77, 82, 88, 95].getD j 95
def wcN (i : Nat) : Nat := (wordsL.getD i 0).toNatClampNeg
theorem wc_t : ∀ i, i < 96 → wordsL.getD i 0 = nI (wcN i) ∧ wcN i < 256 := by decide +kernel
theorem stp_t : ∀ j, j < 19 → stp j + 1 + (rw1 j).length = stp (j + 1) ∧ stp (j + 1) ≤ 95 ∧ stp j < 95 ∧ wcN (stp (j + 1)) = 32 ∧ (rw1 j).length < 8 ∧ 0 < (rw1 j).length := by decide +kernel
theorem stp_c : ∀ j, j < 19 → ∀ i, i < 8 → i < (rw1 j).length → wcN (stp j + 1 + i) = (rw1 j).getD i 0 ∧ ¬ (rw1 j).getD i 0 = 32 := by decide +kernel
theorem rw_inj : ∀ j, j < 19 → ∀ k, k < 19 → rw1 j = rw1 k → j = k := by decide +kernel
theorem wd_eq {Bs : Nat → Nat} {p e : Nat} {x : List Nat} (hpe : p ≤ e) : wd Bs p e = x ↔ p + x.length = e ∧ ∀ i, i < x.length → Bs (p + i) = x.getD i 0 := by
  constructor
  · intro h
    have hl : e - p = x.length := by rw [← h]; simp [wd]
    refine ⟨by omega, fun i hi => ?_⟩
    have : x.getD i 0 = (wd Bs p e).getD i 0 := by rw [h]
    rw [this]
    simp [wd, List.getD, show i < e - p by omega]
  · rintro ⟨h1, h2⟩
    apply List.ext_getElem
    · simp [wd]; omega
    · intro i hi1 hi2
      have := h2 i hi2
      simp [wd]
      rw [this]
      simp [List.getD, hi2]
def cmn (Bs : Nat → Nat) (p e k : Nat) : Nat → Nat → Nat
  | 0, i => i
  | d + 1, i => if (decide (p + i < e) && decide (wcN (k + 1 + i) = Bs (p + i))) = true then cmn Bs p e k d (i + 1) else i
theorem cmn_M {Bs : Nat → Nat} {m p e j : Nat} {y3 : Int32} {T : Sto} (hT : byM Bs m T) (hW : gWor T) (hj : j < 19) (hpe : p ≤ e) (hem : e ≤ m) (hl : ∀ i, p ≤ i → i < e → isLc (Bs i) = true) : ∀ (d f i : Nat), e ≤ p + i + d → p + i ≤ e → i ≤ (rw1 j).length → d < f → r_M_wordAt_L19 (nI p) (nI e) y3 (nI (stp j)) f (nI i) T = some (nI (cmn Bs p e (stp j) d i)) ∧ i ≤ cmn Bs p e (stp j) d i ∧ cmn Bs p e (stp j) d i ≤ (rw1 j).length ∧ p + cmn Bs p e (stp j) d i ≤ e := by
  have hm := hT.1
  obtain ⟨t1, t2, t3, t4, t5, t6⟩ := stp_t j hj
  intro d
  induction d with
  | zero =>
    intro f i hi him hil hf
    obtain ⟨f, rfl⟩ : ∃ g, f = g + 1 := ⟨f - 1, by omega⟩
    refine ⟨?_, Nat.le_refl _, hil, him⟩
    rw [r_M_wordAt_L19, nI_add, if_pos (nI_le (by omega) (by omega))]
    rfl
  | succ d ih =>
    intro f i hi him hil hf
    obtain ⟨f, rfl⟩ : ∃ g, f = g + 1 := ⟨f - 1, by omega⟩
    rw [cmn]
    by_cases k : p + i < e
    · have c : ¬ nI e ≤ nI (p + i) := nI_ge k (by omega)
      have i1 : inr (nI (stp j + 1 + i)) 96 = true := inr_nI (by omega) (by decide)
      have t1' : (nI (stp j + 1 + i)).toNatClampNeg = stp j + 1 + i := q_tnI (by omega)
      have i2 : inr (nI (p + i)) 400 = true := inr_nI (by omega) (by decide)
      have t2' : (nI (p + i)).toNatClampNeg = p + i := q_tnI (by omega)
      obtain ⟨b1, b2⟩ := hT.2.2 (p + i) (by omega)
      obtain ⟨w1, w2⟩ := wc_t (stp j + 1 + i) (by omega)
      have w3 : T 119 (stp j + 1 + i) = nI (wcN (stp j + 1 + i)) := by rw [hW _ (by omega)]; exact w1
      rw [decide_eq_true k, Bool.true_and]
      by_cases q : wcN (stp j + 1 + i) = Bs (p + i)
      · have li : i < (rw1 j).length := by
          refine Classical.not_not.mp (fun z => ?_)
          have e1 : i = (rw1 j).length := by omega
          rw [e1, t1, t4] at q
          have := hl (p + i) (by omega) k
          rw [e1, ← q] at this
          exact absurd this (by decide)
        obtain ⟨q1, q2, q3, q4⟩ := ih f (i + 1) (by omega) (by omega) (by omega) (by omega)
        rw [decide_eq_true q, if_pos rfl]
        refine ⟨?_, by omega, q3, q4⟩
        rw [← q1]
        have z : nI (wcN (stp j + 1 + i)) = nI (Bs (p + i)) := by rw [q]
        simp only [r_M_wordAt_L19, nI_add, nI_1, if_neg c, chk_t i1, chk_t i2, t1', t2', w3, b1, if_pos z, lt_k]
      · rw [decide_eq_false q, if_neg (by decide)]
        refine ⟨?_, Nat.le_refl _, hil, him⟩
        have z : ¬ nI (wcN (stp j + 1 + i)) = nI (Bs (p + i)) := fun h => q ((nI_eq (by omega) (by omega)).mp h)
        simp only [r_M_wordAt_L19, nI_add, nI_1, if_neg c, chk_t i1, chk_t i2, t1', t2', w3, b1, if_neg z]
    · rw [decide_eq_false k, Bool.false_and, if_neg (by decide)]
      refine ⟨?_, Nat.le_refl _, hil, him⟩
      rw [r_M_wordAt_L19, nI_add, if_pos (nI_le (by omega) (by omega))]
theorem cmn_all {Bs : Nat → Nat} {p e k : Nat} : ∀ (d i t : Nat), i ≤ t → t < cmn Bs p e k d i → wcN (k + 1 + t) = Bs (p + t) := by
  intro d
  induction d with
  | zero =>
    intro i t h1 h2
    have h2' : t < i := h2
    omega
  | succ d ih =>
    intro i t h1 h2
    rw [cmn] at h2
    by_cases q : (decide (p + i < e) && decide (wcN (k + 1 + i) = Bs (p + i))) = true
    · rw [if_pos q] at h2
      by_cases et : t = i
      · rw [Bool.and_eq_true, decide_eq_true_eq, decide_eq_true_eq] at q
        rw [et]; exact q.2
      · exact ih (i + 1) t (by omega) h2
    · rw [if_neg q] at h2
      omega
theorem cmn_full {Bs : Nat → Nat} {p e k n : Nat} (h : ∀ t, t < n → p + t < e ∧ wcN (k + 1 + t) = Bs (p + t)) : ∀ (d i : Nat), i ≤ n → n ≤ i + d → n ≤ cmn Bs p e k d i := by
  intro d
  induction d with
  | zero =>
    intro i h1 h2
    show n ≤ i
    omega
  | succ d ih =>
    intro i h1 h2
    rw [cmn]
    by_cases hi : i < n
    · obtain ⟨g1, g2⟩ := h i hi
      rw [if_pos (by rw [Bool.and_eq_true, decide_eq_true_eq, decide_eq_true_eq]; exact ⟨g1, g2⟩)]
      exact ih (i + 1) (by omega) (by omega)
    · split
      · have : ∀ (d i : Nat), i ≤ cmn Bs p e k d i := by
          intro d
          induction d with
          | zero => intro i; exact Nat.le_refl _
          | succ d ih2 =>
            intro i
            rw [cmn]
            split
            · have := ih2 (i + 1); omega
            · exact Nat.le_refl _
        have := this d (i + 1)
        omega
      · omega
/-- the word is word j -/
theorem hit_iff {Bs : Nat → Nat} {p e j : Nat} (hj : j < 19) (hpe : p ≤ e) (hc1 : cmn Bs p e (stp j) 400 0 ≤ (rw1 j).length) (hc2 : p + cmn Bs p e (stp j) 400 0 ≤ e) : (p + cmn Bs p e (stp j) 400 0 = e ∧ wcN (stp j + 1 + cmn Bs p e (stp j) 400 0) = 32) ↔ wd Bs p e = rw1 j := by
  obtain ⟨t1, t2, t3, t4, t5, t6⟩ := stp_t j hj
  rw [wd_eq hpe]
  constructor
  · rintro ⟨h1, h2⟩
    have hl : cmn Bs p e (stp j) 400 0 = (rw1 j).length := by
      refine Classical.not_not.mp (fun z => ?_)
      obtain ⟨g1, g2⟩ := stp_c j hj (cmn Bs p e (stp j) 400 0) (by omega) (by omega)
      rw [h2] at g1
      exact g2 g1.symm
    refine ⟨by omega, fun i hi => ?_⟩
    rw [← (stp_c j hj i (by omega) hi).1]
    exact (cmn_all (e := e) 400 0 i (by omega) (by rw [hl]; exact hi)).symm
  · rintro ⟨h1, h2⟩
    have hf := cmn_full (Bs := Bs) (p := p) (e := e) (k := stp j) (n := (rw1 j).length) (fun t ht => ⟨by omega, by rw [(stp_c j hj t (by omega) ht).1, h2 t ht]⟩) 400 0 (by omega) (by omega)
    have hl : cmn Bs p e (stp j) 400 0 = (rw1 j).length := by omega
    rw [hl, t1]
    exact ⟨h1, t4⟩
theorem skw_M {T : Sto} {y1 y2 y3 : Int32} {j : Nat} (hW : gWor T) (hj : j < 19) : ∀ (d f i : Nat), i + d = stp (j + 1) → stp j < i → d < f → r_M_wordAt_L93 y1 y2 y3 f (nI i) T = some (nI (stp (j + 1))) := by
  obtain ⟨t1, t2, t3, t4, t5, t6⟩ := stp_t j hj
  intro d
  induction d with
  | zero =>
    intro f i hi h1 hf
    obtain ⟨f, rfl⟩ : ∃ g, f = g + 1 := ⟨f - 1, by omega⟩
    have e : i = stp (j + 1) := by omega
    subst e
    have i1 : inr (nI (stp (j + 1))) 96 = true := inr_nI (by omega) (by decide)
    have tt : (nI (stp (j + 1))).toNatClampNeg = stp (j + 1) := q_tnI (by omega)
    have w3 : T 119 (stp (j + 1)) = 32 := by rw [hW _ (by omega), (wc_t _ (by omega)).1, t4]; rfl
    simp only [r_M_wordAt_L93, chk_t i1, tt, w3, ite_true]
  | succ d ih =>
    intro f i hi h1 hf
    obtain ⟨f, rfl⟩ : ∃ g, f = g + 1 := ⟨f - 1, by omega⟩
    have i1 : inr (nI i) 96 = true := inr_nI (by omega) (by decide)
    have tt : (nI i).toNatClampNeg = i := q_tnI (by omega)
    obtain ⟨w1, w2⟩ := wc_t i (by omega)
    have w3 : T 119 i = nI (wcN i) := by rw [hW _ (by omega)]; exact w1
    obtain ⟨g1, g2⟩ := stp_c j hj (i - (stp j + 1)) (by omega) (by omega)
    rw [show stp j + 1 + (i - (stp j + 1)) = i by omega] at g1
    have z : ¬ nI (wcN i) = 32 := fun q => by
      have := (nI_eq (b := 32) (by omega) (by omega)).mp q
      rw [g1] at this
      exact g2 this
    rw [← ih f (i + 1) (by omega) (by omega) (by omega)]
    simp only [r_M_wordAt_L93, chk_t i1, tt, w3, if_neg z, lt_k, nI_1]
def rwS (Bs : Nat → Nat) (p e : Nat) : Nat → Nat → Option Nat
  | 0, _ => none
  | d + 1, j => if wd Bs p e = rw1 j then some j else rwS Bs p e d (j + 1)
def rwE : Option Nat → Int32
  | none => -1
  | some j => nI j
theorem word_L {Bs : Nat → Nat} {m p e : Nat} {T : Sto} (hT : byM Bs m T) (hW : gWor T) (hpe : p ≤ e) (hem : e ≤ m) (hl : ∀ i, p ≤ i → i < e → isLc (Bs i) = true) : ∀ (d f j : Nat), j + d = 19 → d < f → ∃ x y, r_M_wordAt_L5 (nI p) (nI e) f (nI j - 1) (nI (stp j)) T = (match rwS Bs p e d j with | none => some (.inl (x, y)) | some j => some (.inr (nI j))) := by
  have hm := hT.1
  have fuv : fu = 5000 := rfl
  intro d
  induction d with
  | zero =>
    intro f j hj hf
    obtain ⟨f, rfl⟩ : ∃ g, f = g + 1 := ⟨f - 1, by omega⟩
    have e : j = 19 := by omega
    subst e
    exact ⟨_, _, by rw [r_M_wordAt_L5, if_pos (by decide)]; rfl⟩
  | succ d ih =>
    intro f j hj hf
    obtain ⟨f, rfl⟩ : ∃ g, f = g + 1 := ⟨f - 1, by omega⟩
    obtain ⟨t1, t2, t3, t4, t5, t6⟩ := stp_t j (by omega)
    have c1 : ¬ (95 : Int32) ≤ nI (stp j) := nI_ge (b := 95) (by omega) (by omega)
    have ej : nI j - 1 + 1 = nI j := Int32.sub_add_cancel _ _
    have ep : nI (j + 1) - 1 = nI j := nI_pred j
    obtain ⟨a1, a2, a3, a4⟩ := cmn_M (y3 := nI j) hT hW (show j < 19 by omega) hpe hem hl 400 fu 0 (by omega) (by omega) (by omega) (by omega)
    rw [show nI 0 = 0 from rfl] at a1
    have hit := hit_iff (Bs := Bs) (show j < 19 by omega) hpe a3 a4
    obtain ⟨x, y, q⟩ := ih f (j + 1) (by omega) (by omega)
    rw [ep] at q
    have sk := skw_M (y1 := nI p) (y2 := nI e) (y3 := nI j) hW (show j < 19 by omega) (stp (j + 1) - (stp j + 1)) fu (stp j + 1) (by omega) (by omega) (by omega)
    generalize cmn Bs p e (stp j) 400 0 = cc at *
    have i1 : inr (nI (stp j + 1 + cc)) 96 = true := inr_nI (by omega) (by decide)
    have tt : (nI (stp j + 1 + cc)).toNatClampNeg = stp j + 1 + cc := q_tnI (by omega)
    obtain ⟨w1, w2⟩ := wc_t (stp j + 1 + cc) (by omega)
    have w3 : T 119 (stp j + 1 + cc) = nI (wcN (stp j + 1 + cc)) := by rw [hW _ (by omega)]; exact w1
    refine ⟨x, y, ?_⟩
    rw [rwS]
    by_cases k1 : p + cc = e
    · have z1 : nI (p + cc) = nI e := by rw [k1]
      by_cases k2 : wcN (stp j + 1 + cc) = 32
      · have z2 : nI (wcN (stp j + 1 + cc)) = 32 := by rw [k2]; rfl
        rw [if_pos (hit.mp ⟨k1, k2⟩)]
        simp only [r_M_wordAt_L5, if_neg c1, ej, lt_k, a1, Option.bind_some, nI_add, nI_1, if_pos z1, chk_t i1, tt, w3, if_pos z2, jn]
      · have z2 : ¬ nI (wcN (stp j + 1 + cc)) = 32 := fun h => k2 ((nI_eq (b := 32) (by omega) (by omega)).mp h)
        rw [if_neg (fun h => k2 (hit.mpr h).2), ← q]
        simp only [r_M_wordAt_L5, if_neg c1, ej, lt_k, a1, Option.bind_some, nI_add, nI_1, if_pos z1, chk_t i1, tt, w3, if_neg z2, jn, sk]
    · have z1 : ¬ nI (p + cc) = nI e := fun h => k1 ((nI_eq (by omega) (by omega)).mp h)
      rw [if_neg (fun h => k1 (hit.mpr h).1), ← q]
      simp only [r_M_wordAt_L5, if_neg c1, ej, lt_k, a1, Option.bind_some, nI_add, nI_1, if_neg z1, jn, sk]
theorem word_M {Bs : Nat → Nat} {m p e : Nat} {T : Sto} (hT : byM Bs m T) (hW : gWor T) (hpe : p ≤ e) (hem : e ≤ m) (hl : ∀ i, p ≤ i → i < e → isLc (Bs i) = true) : r_M_wordAt (nI p) (nI e) T = some (rwE (rwS Bs p e 19 0)) := by
  obtain ⟨x, y, q⟩ := word_L hT hW hpe hem hl 19 fu 0 (by omega) (by decide)
  have q' : r_M_wordAt_L5 (nI p) (nI e) fu (-1) 0 T = (match rwS Bs p e 19 0 with | none => some (.inl (x, y)) | some j => some (.inr (nI j))) := q
  rw [r_M_wordAt, q']
  cases rwS Bs p e 19 0 <;> rfl
theorem spn_all {q : Nat → Bool} {Bs : Nat → Nat} {m : Nat} : ∀ (d i j : Nat), i ≤ j → j < spn q Bs m d i → q (Bs j) = true := by
  intro d
  induction d with
  | zero =>
    intro i j h1 h2
    have h2' : j < i := h2
    omega
  | succ d ih =>
    intro i j h1 h2
    rw [spn] at h2
    by_cases k : (decide (i < m) && q (Bs i)) = true
    · rw [if_pos k] at h2
      by_cases e : j = i
      · rw [Bool.and_eq_true] at k
        rw [e]; exact k.2
      · exact ih (i + 1) j (by omega) h2
    · rw [if_neg k] at h2
      omega
theorem skip_M {Bs : Nat → Nat} {m : Nat} : ∀ (d f i : Nat) (T : Sto), m ≤ i + d → i ≤ m → d < f → byM Bs m T → T 104 28 = nI i → ∃ T', r_M_reads_L0 f T = some T' ∧ T' 104 28 = nI (spn isBc Bs m d i) ∧ ∀ a k, ¬ (a = 104 ∧ k = 28) → T' a k = T a k := by
  intro d
  induction d with
  | zero =>
    intro f i T hi him hf hT h5
    obtain ⟨f, rfl⟩ : ∃ g, f = g + 1 := ⟨f - 1, by omega⟩
    have rw' := raw_M hT him
    rw [if_neg (show ¬ i < m by omega)] at rw'
    refine ⟨T, ?_, h5, fun _ _ _ => rfl⟩
    simp only [r_M_reads_L0, h5, rw', Option.bind_some, if_neg (show ¬ (-1 : Int32) = 32 by decide), if_neg (show ¬ (-1 : Int32) = 10 by decide), jn]
  | succ d ih =>
    intro f i T hi him hf hT h5
    obtain ⟨f, rfl⟩ : ∃ g, f = g + 1 := ⟨f - 1, by omega⟩
    have hm := hT.1
    have rw' := raw_M hT him
    rw [spn]
    by_cases k : i < m
    · rw [if_pos k] at rw'
      have bl := (hT.2.2 i k).2
      rw [decide_eq_true k, Bool.true_and]
      have go : isBc (Bs i) = true → r_M_reads_L0 (f + 1) T = r_M_reads_L0 f (sw T 104 28 (nI (i + 1))) → ∃ T', r_M_reads_L0 (f + 1) T = some T' ∧ T' 104 28 = nI (if isBc (Bs i) = true then spn isBc Bs m d (i + 1) else i) ∧ ∀ a k, ¬ (a = 104 ∧ k = 28) → T' a k = T a k := by
        intro hb he
        obtain ⟨T', q1, q2, q3⟩ := ih f (i + 1) (sw T 104 28 (nI (i + 1))) (by omega) (by omega) (by omega) (hT.go (fun a k q => rd_ne (by omega))) sw_same
        exact ⟨T', by rw [he]; exact q1, by rw [hb, if_pos rfl]; exact q2, fun a k g => by rw [q3 a k g, rd_ne g]⟩
      by_cases k1 : Bs i = 32
      · have hb : isBc (Bs i) = true := by unfold isBc; rw [decide_eq_true k1]; rfl
        have z : nI (Bs i) = 32 := by rw [k1]; rfl
        refine go hb ?_
        simp only [r_M_reads_L0, h5, rw', Option.bind_some, if_pos z, jn, ltS_k, nI_1]
      · have z : ¬ nI (Bs i) = 32 := fun q => k1 ((nI_eq (b := 32) (by omega) (by omega)).mp q)
        by_cases k2 : Bs i = 10
        · have hb : isBc (Bs i) = true := by unfold isBc; rw [decide_eq_true k2]; simp
          have z2 : nI (Bs i) = 10 := by rw [k2]; rfl
          refine go hb ?_
          simp only [r_M_reads_L0, h5, rw', Option.bind_some, if_neg z, if_pos z2, jn, ltS_k, nI_1]
        · have z2 : ¬ nI (Bs i) = 10 := fun q => k2 ((nI_eq (b := 10) (by omega) (by omega)).mp q)
          have hb : isBc (Bs i) = false := by unfold isBc; rw [decide_eq_false k1, decide_eq_false k2]; rfl
          refine ⟨T, ?_, by rw [hb, if_neg (by decide)]; exact h5, fun _ _ _ => rfl⟩
          simp only [r_M_reads_L0, h5, rw', Option.bind_some, if_neg z, if_neg z2, jn]
    · rw [if_neg k] at rw'
      rw [decide_eq_false k, Bool.false_and, if_neg (by decide)]
      refine ⟨T, ?_, h5, fun _ _ _ => rfl⟩
      simp only [r_M_reads_L0, h5, rw', Option.bind_some, if_neg (show ¬ (-1 : Int32) = 32 by decide), if_neg (show ¬ (-1 : Int32) = 10 by decide), jn]
theorem let_M {Bs : Nat → Nat} {m : Nat} : ∀ (d f i : Nat) (T : Sto), m ≤ i + d → i ≤ m → d < f → byM Bs m T → T 104 28 = nI i → ∃ T', r_M_reads_L95 f T = some T' ∧ T' 104 28 = nI (spn isLc Bs m d i) ∧ ∀ a k, ¬ (a = 104 ∧ k = 28) → T' a k = T a k := by
  intro d
  induction d with
  | zero =>
    intro f i T hi him hf hT h5
    obtain ⟨f, rfl⟩ : ∃ g, f = g + 1 := ⟨f - 1, by omega⟩
    have rw' := raw_M hT him
    rw [if_neg (show ¬ i < m by omega)] at rw'
    refine ⟨T, ?_, h5, fun _ _ _ => rfl⟩
    simp only [r_M_reads_L95, h5, rw', Option.bind_some, if_pos (show r_M_isLetter (-1) = 0 by decide)]
  | succ d ih =>
    intro f i T hi him hf hT h5
    obtain ⟨f, rfl⟩ : ∃ g, f = g + 1 := ⟨f - 1, by omega⟩
    have hm := hT.1
    have rw' := raw_M hT him
    rw [spn]
    by_cases k : i < m
    · rw [if_pos k] at rw'
      have bl := lc_M (Bs i) (hT.2.2 i k).2
      rw [decide_eq_true k, Bool.true_and]
      cases hb : isLc (Bs i) with
      | true =>
        rw [hb] at bl
        obtain ⟨T', q1, q2, q3⟩ := ih f (i + 1) (sw T 104 28 (nI (i + 1))) (by omega) (by omega) (by omega) (hT.go (fun a k q => rd_ne (by omega))) sw_same
        refine ⟨T', ?_, by rw [if_pos rfl]; exact q2, fun a k g => by rw [q3 a k g, rd_ne g]⟩
        rw [← q1]
        simp only [r_M_reads_L95, h5, rw', Option.bind_some, bl, if_neg (show ¬ b2i true = 0 by decide), ltS_k, nI_1]
      | false =>
        rw [hb] at bl
        refine ⟨T, ?_, by rw [if_neg (by decide)]; exact h5, fun _ _ _ => rfl⟩
        simp only [r_M_reads_L95, h5, rw', Option.bind_some, bl, if_pos (show b2i false = 0 by decide)]
    · rw [if_neg k] at rw'
      rw [decide_eq_false k, Bool.false_and, if_neg (by decide)]
      refine ⟨T, ?_, h5, fun _ _ _ => rfl⟩
      simp only [r_M_reads_L95, h5, rw', Option.bind_some, if_pos (show r_M_isLetter (-1) = 0 by decide)]
theorem num_M {Bs : Nat → Nat} {m p : Nat} : ∀ (d f i : Nat) (T : Sto), m ≤ i + d → i ≤ m → p < i → d < f → byM Bs m T → (∀ j, p ≤ j → j < i → isDc (Bs j) = true) → T 104 28 = nI i → (i - p ≤ 5 → T 104 31 = nI (nmV Bs (i - p) p 0)) → ∃ T', r_M_reads_L171 f T = some T' ∧ T' 104 28 = nI (spn isDc Bs m d i) ∧ (spn isDc Bs m d i - p ≤ 5 → T' 104 31 = nI (nmV Bs (spn isDc Bs m d i - p) p 0)) ∧ ∀ a k, ¬ (a = 104 ∧ (k = 28 ∨ k = 31)) → T' a k = T a k := by
  intro d
  induction d with
  | zero =>
    intro f i T hi him hp hf hT hdg h5 h7
    obtain ⟨f, rfl⟩ : ∃ g, f = g + 1 := ⟨f - 1, by omega⟩
    have rw' := raw_M hT him
    rw [if_neg (show ¬ i < m by omega)] at rw'
    refine ⟨T, ?_, h5, h7, fun _ _ _ => rfl⟩
    simp only [r_M_reads_L171, h5, rw', Option.bind_some, if_pos (show r_M_isDigit (-1) = 0 by decide)]
  | succ d ih =>
    intro f i T hi him hp hf hT hdg h5 h7
    obtain ⟨f, rfl⟩ : ∃ g, f = g + 1 := ⟨f - 1, by omega⟩
    have hm := hT.1
    have rw' := raw_M hT him
    rw [spn]
    by_cases k : i < m
    · rw [if_pos k] at rw'
      have bl := dc_M (Bs i) (hT.2.2 i k).2
      rw [decide_eq_true k, Bool.true_and]
      cases hb : isDc (Bs i) with
      | true =>
        rw [hb] at bl
        rw [if_pos rfl]
        have hdg' : ∀ j, p ≤ j → j < i + 1 → isDc (Bs j) = true := fun j h1 h2 => by
          by_cases e : j = i
          · rw [e]; exact hb
          · exact hdg j h1 (by omega)
        have go : ∀ x : Int32, (i + 1 - p ≤ 5 → x = nI (nmV Bs (i + 1 - p) p 0)) → r_M_reads_L171 (f + 1) T = r_M_reads_L171 f (sw (sw T 104 31 x) 104 28 (nI (i + 1))) → ∃ T', r_M_reads_L171 (f + 1) T = some T' ∧ T' 104 28 = nI (spn isDc Bs m d (i + 1)) ∧ (spn isDc Bs m d (i + 1) - p ≤ 5 → T' 104 31 = nI (nmV Bs (spn isDc Bs m d (i + 1) - p) p 0)) ∧ ∀ a k, ¬ (a = 104 ∧ (k = 28 ∨ k = 31)) → T' a k = T a k := by
          intro x hx he
          obtain ⟨T', q1, q2, q3, q4⟩ := ih f (i + 1) (sw (sw T 104 31 x) 104 28 (nI (i + 1))) (by omega) (by omega) (by omega) (by omega) (hT.go (fun a k q => by rw [rd_ne (by omega), rd_ne (by omega)])) hdg' sw_same (fun h => by rw [rd_ne (by omega), sw_same]; exact hx h)
          exact ⟨T', by rw [he]; exact q1, q2, q3, fun a k g => by rw [q4 a k g, rd_ne (by omega), rd_ne (by omega)]⟩
        by_cases kk : (100000 : Int32) ≤ T 104 31
        · refine go (T 104 31) (fun h => ?_) ?_
          · exfalso
            have e1 := h7 (by omega)
            have lt := nmV_lt (Bs := Bs) (p := p) (fun _ _ => Or.inr trivial) (i - p) (by omega) (fun j hj => hdg _ (by omega) (by omega))
            have p5 : 10 ^ (i - p) ≤ 10 ^ 5 := Nat.pow_le_pow_right (by decide) (by omega)
            rw [e1] at kk
            have := (nI_leI (a := 100000) (b := nmV Bs (i - p) p 0) (by omega) (by omega)).mp kk
            omega
          · simp (disch := omega) only [r_M_reads_L171, h5, rw', Option.bind_some, bl, if_neg (show ¬ b2i true = 0 by decide), if_pos kk, jn_k, ltS_k, rd_ne, nI_1]
        · refine go (((10 * T 104 31) + nI (Bs i)) - 48) (fun h => ?_) ?_
          · have e1 := h7 (by omega)
            have lt := nmV_lt (Bs := Bs) (p := p) (fun _ _ => Or.inr trivial) (i - p) (by omega) (fun j hj => hdg _ (by omega) (by omega))
            have p5 : 10 ^ (i - p) ≤ 10 ^ 5 := Nat.pow_le_pow_right (by decide) (by omega)
            rw [e1, dig_n hb (by omega), show i + 1 - p = (i - p) + 1 by omega, nmV_s, show p + (i - p) = i by omega]
          · simp (disch := omega) only [r_M_reads_L171, h5, rw', Option.bind_some, bl, if_neg (show ¬ b2i true = 0 by decide), if_neg kk, jn_k, ltS_k, rd_ne, nI_1]
      | false =>
        rw [hb] at bl
        rw [if_neg (by decide)]
        refine ⟨T, ?_, h5, h7, fun _ _ _ => rfl⟩
        simp only [r_M_reads_L171, h5, rw', Option.bind_some, bl, if_pos (show b2i false = 0 by decide)]
    · rw [if_neg k] at rw'
      rw [decide_eq_false k, Bool.false_and, if_neg (by decide)]
      refine ⟨T, ?_, h5, h7, fun _ _ _ => rfl⟩
      simp only [r_M_reads_L171, h5, rw', Option.bind_some, if_pos (show r_M_isDigit (-1) = 0 by decide)]
