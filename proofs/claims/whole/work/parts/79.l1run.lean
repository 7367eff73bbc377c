/-! the reader's run -/
def okS : AS → Prop
  | (st, cmp, ln, out, op, br, W, C) => rmA op br W C ∧ st ≤ 7 ∧ (4 ≤ st → cmp ≤ 1) ∧ ln ≤ 12 ∧ (4 ≤ st → out < 131072) ∧ (1 ≤ (relP 1 W op C).2.1 ∨ br = 0)
/-- n tokens from one state and place lead to another -/
def Pth (law : Bool) (Bs : Nat → Nat) (m : Nat) : Nat → AS → Nat → AS → Nat → Prop
  | 0, A, pos, B, pos' => A = B ∧ pos = pos'
  | n + 1, A, pos, B, pos' => okS A ∧ ∃ A', takeA law (tkT Bs m law pos) (tkN Bs m pos) A = .inr A' ∧ Pth law Bs m n A' (tkE Bs m pos) B pos'
theorem Pth.tr {law : Bool} {Bs : Nat → Nat} {m : Nat} : ∀ {n k : Nat} {A B D : AS} {p q r : Nat}, Pth law Bs m n A p B q → Pth law Bs m k B q D r → Pth law Bs m (n + k) A p D r := by
  intro n
  induction n with
  | zero =>
    intro k A B D p q r h g
    obtain ⟨rfl, rfl⟩ := h
    rw [Nat.zero_add]
    exact g
  | succ n ih =>
    intro k A B D p q r h g
    obtain ⟨h1, A', h2, h3⟩ := h
    rw [Nat.succ_add]
    exact ⟨h1, A', h2, ih h3 g⟩
/-- at this token the reader tells fault f -/
def Flt (law : Bool) (Bs : Nat → Nat) (m : Nat) (A : AS) (pos f : Nat) : Prop := okS A ∧ ¬ (tkT Bs m law pos = 14 ∧ A.1 = 0) ∧ takeA law (tkT Bs m law pos) (tkN Bs m pos) A = .inl f
theorem wmp_le : ∀ v, v < 19 → wmp true v ≤ 15 ∧ wmp false v ≤ 15 := by decide
theorem lkT_le {Bs : Nat → Nat} {p e i1 : Nat} : ∀ (d k c : Nat), c ≤ 15 → k + d ≤ 15 → lkT Bs p e i1 d k c ≤ 15 := by
  intro d
  induction d with
  | zero => intro k c h _; exact h
  | succ d ih =>
    intro k c h hk
    rw [lkT]
    refine ih _ _ ?_ (by omega)
    split <;> omega
theorem isSc_lt {c : Nat} (h : isSc c = true) : c < 64 := by
  unfold isSc at h
  simp only [Bool.or_eq_true, decide_eq_true_eq] at h
  omega
theorem tkT_lt {Bs : Nat → Nat} {m pos : Nat} {law : Bool} : tkT Bs m law pos < 64 := by
  unfold tkT
  simp only
  split
  · split
    · have := lkT_le (Bs := Bs) (p := tkP Bs m pos) (e := tkE Bs m pos) (i1 := lawI law) (if law = true then 12 else 11) 0 15 (by omega) (by split <;> omega)
      omega
    · split
      · split <;> omega
      · split
        · rename_i h
          exact isSc_lt h
        · omega
  · omega
theorem tkE_ge {Bs : Nat → Nat} {m pos : Nat} : pos ≤ tkP Bs m pos ∧ tkP Bs m pos ≤ tkE Bs m pos ∧ (pos ≤ m → tkE Bs m pos ≤ m) ∧ (m ≤ 400 → tkP Bs m pos < m → tkP Bs m pos < tkE Bs m pos) := by
  have h1 := spn_le (q := isBc) (Bs := Bs) (m := m) 400 pos
  have h1a : pos ≤ tkP Bs m pos := h1.1
  have h1b : pos ≤ m → tkP Bs m pos ≤ m := h1.2
  refine ⟨h1a, ?_⟩
  unfold tkE
  simp only
  generalize tkP Bs m pos = p at *
  have h2 := spn_le (q := isLc) (Bs := Bs) (m := m) 400 p
  have h3 := spn_le (q := isDc) (Bs := Bs) (m := m) 400 p
  by_cases k : p < m
  · simp only [if_pos k]
    by_cases kl : isLc (Bs p) = true
    · simp only [if_pos kl]
      refine ⟨h2.1, fun _ => h2.2 (by omega), fun hm _ => ?_⟩
      rw [spn_1 hm k kl]
      have := (spn_le (q := isLc) (Bs := Bs) (m := m) 400 (p + 1)).1
      omega
    · simp only [if_neg kl]
      by_cases kd : isDc (Bs p) = true
      · simp only [if_pos kd]
        refine ⟨h3.1, fun _ => h3.2 (by omega), fun hm _ => ?_⟩
        rw [spn_1 hm k kd]
        have := (spn_le (q := isDc) (Bs := Bs) (m := m) 400 (p + 1)).1
        omega
      · simp only [if_neg kd]
        exact ⟨by omega, fun _ => by omega, fun _ _ => by omega⟩
  · simp only [if_neg k]
    exact ⟨Nat.le_refl _, h1b, fun _ h => absurd h k⟩
theorem tkN_lt {Bs : Nat → Nat} {m pos : Nat} {law : Bool} (h : tkT Bs m law pos = 12) : tkN Bs m pos < 100000 := by
  unfold tkT at h
  simp only at h
  have hE : tkE Bs m pos = _ := rfl
  by_cases k : tkP Bs m pos < m
  · rw [if_pos k] at h
    by_cases kl : isLc (Bs (tkP Bs m pos)) = true
    · rw [if_pos kl] at h
      exfalso
      have no12 : ∀ (d k c : Nat), c ≠ 12 → k + d ≤ 12 → lkT Bs (tkP Bs m pos) (tkE Bs m pos) (lawI law) d k c ≠ 12 := by
        intro d
        induction d with
        | zero => intro k c h _; exact h
        | succ d ih =>
          intro k c h hk
          rw [lkT]
          refine ih _ _ ?_ (by omega)
          split
          · omega
          · exact h
      exact no12 _ 0 15 (by decide) (by split <;> omega) h
    · rw [if_neg kl] at h
      by_cases kd : isDc (Bs (tkP Bs m pos)) = true
      · rw [if_pos kd] at h
        by_cases k5 : tkE Bs m pos - tkP Bs m pos ≤ 5
        · have eE : tkE Bs m pos = spn isDc Bs m 400 (tkP Bs m pos) := by unfold tkE; simp only [if_pos k, if_neg kl, if_pos kd]
          have lt := nmV_lt (Bs := Bs) (p := tkP Bs m pos) (fun _ _ => Or.inr trivial) (tkE Bs m pos - tkP Bs m pos) k5 (fun i hi => spn_all 400 (tkP Bs m pos) _ (by omega) (by rw [← eE]; omega))
          have p5 : 10 ^ (tkE Bs m pos - tkP Bs m pos) ≤ 10 ^ 5 := Nat.pow_le_pow_right (by decide) k5
          unfold tkN
          omega
        · rw [if_neg k5] at h; omega
      · rw [if_neg kd] at h
        split at h
        · rename_i hs
          rw [h] at hs
          exact absurd hs (by decide)
        · omega
  · rw [if_neg k] at h; omega
theorem take_14 {law : Bool} {num : Nat} {A A' : AS} : takeA law 14 num A ≠ .inr A' := by
  obtain ⟨st, cmp, ln, out, op, br, W, C⟩ := A
  have hf : ¬ (fvl1 law ≤ 14 ∧ 14 ≤ 11) := by omega
  have hu : ∀ c, unitA law 14 num c ln out op br W C = .inl 1 := fun c => by unfold unitA; rw [if_neg (by decide), if_neg hf]
  have hj : jointA 14 cmp ln out op br W C = .inl 1 := by unfold jointA; rw [if_neg (by omega), if_neg (by omega), if_neg (by omega)]
  have hl : ¬ (4 ≤ 14 ∧ 14 ≤ (if law = true then 4 else 6)) := by split <;> omega
  simp only [takeA, claimA, signA, hu, hj, if_neg hl]
  intro h
  split at h
  · cases h
  split at h
  · split at h
    · omega
    · cases h
  split at h
  · split at h
    · omega
    · cases h
  split at h
  · split at h
    · omega
    · cases h
  split at h
  · cases h
  split at h
  · split at h
    · omega
    · cases h
  split at h
  · split at h
    · omega
    · split at h
      · omega
      · split at h
        · omega
        · split at h <;> cases h
  · cases h
theorem Pth.le {law : Bool} {Bs : Nat → Nat} {m : Nat} (hm : m ≤ 400) : ∀ {n : Nat} {A B : AS} {p q : Nat}, Pth law Bs m n A p B q → p ≤ m → p + n ≤ q ∧ q ≤ m := by
  intro n
  induction n with
  | zero => intro A B p q h hp; obtain ⟨-, rfl⟩ := h; exact ⟨by omega, hp⟩
  | succ n ih =>
    intro A B p q h hp
    obtain ⟨h1, A', h2, h3⟩ := h
    obtain ⟨e1, e2, e3, e4⟩ := tkE_ge (Bs := Bs) (m := m) (pos := p)
    have hlt : tkP Bs m p < m := by
      apply Classical.byContradiction
      intro z
      have : tkT Bs m law p = 14 := by unfold tkT; simp only [if_neg z]
      rw [this] at h2
      exact take_14 h2
    have := ih h3 (e3 hp)
    have := e4 hm hlt
    omega
/-- the class stands at a place with a state -/
def RdS (law : Bool) (Bs : Nat → Nat) (m : Nat) (S : Sto) (A : AS) (pos : Nat) : Prop := RB S A ∧ byB Bs m S ∧ S 29 5 = nI pos ∧ pos ≤ m ∧ S 29 4 = b2i law ∧ S 29 2 = 0
def frP (S S' : Sto) : Prop := ∀ a k, ¬ (a = 29 ∧ (k = 2 ∨ 5 ≤ k)) → ¬ a = 31 → ¬ a = 32 → S' a k = S a k
theorem frP.tr {S S1 S2 : Sto} (h : frP S S1) (g : frP S1 S2) : frP S S2 := fun a k q1 q2 q3 => (g a k q1 q2 q3).trans (h a k q1 q2 q3)
theorem RB.go {S S' : Sto} {A : AS} (h : RB S A) (f : ∀ a k, (a = 31 ∨ a = 32 ∨ (a = 29 ∧ 9 ≤ k)) → S' a k = S a k) : RB S' A := by
  obtain ⟨st, cmp, ln, out, op, br, W, C⟩ := A
  obtain ⟨r9, r10, r11, r12, r13, r14, hW, hC⟩ := h
  exact RB.fld hW hC (fun a k q => f a k (by omega)) (by rw [f _ _ (by omega)]; exact r9) (by rw [f _ _ (by omega)]; exact r10) (by rw [f _ _ (by omega)]; exact r11) (by rw [f _ _ (by omega)]; exact r12) (by rw [f _ _ (by omega)]; exact r13) (by rw [f _ _ (by omega)]; exact r14)
theorem scan_P {law : Bool} {Bs : Nat → Nat} {m pos : Nat} {S : Sto} {A : AS} (h : RdS law Bs m S A pos) : ∃ S1, r_Rd_scan S = some S1 ∧ RB S1 A ∧ byB Bs m S1 ∧ TB law (tkT Bs m law pos) (tkN Bs m pos) S1 ∧ S1 29 5 = nI (tkE Bs m pos) ∧ S1 29 8 = nI (tkP Bs m pos) ∧ S1 29 2 = 0 ∧ frR S S1 := by
  obtain ⟨h1, h2, h3, h4, h5, h6⟩ := h
  obtain ⟨S1, q1, q2, q3, q4, q5, q6⟩ := scan_B (law := law) h2 h4 h3 h5
  refine ⟨S1, q1, h1.go (fun a k g => q2 a k (by omega)), q2.by h2, ⟨by rw [q2 _ _ (by omega)]; exact h5, q4, tkT_lt, fun h12 => ⟨q6 h12, by have := tkN_lt h12; omega⟩⟩, q3, q5, by rw [q2 _ _ (by omega)]; exact h6, q2⟩
theorem read_P {law : Bool} {Bs : Nat → Nat} {m a2 : Nat} (hm : m ≤ 400) : ∀ (n f i : Nat) (S : Sto) (A B : AS) (p q : Nat), Pth law Bs m n A p B q → RdS law Bs m S A p → i + n ≤ 401 → ∃ S', r_Rd_read_L12 a2 (f + n) (nI i) S = r_Rd_read_L12 a2 f (nI (i + n)) S' ∧ RdS law Bs m S' B q ∧ frP S S' := by
  intro n
  induction n with
  | zero =>
    intro f i S A B p q h hS _
    obtain ⟨rfl, rfl⟩ := h
    exact ⟨S, rfl, hS, fun _ _ _ _ _ => rfl⟩
  | succ n ih =>
    intro f i S A B p q h hS hi
    obtain ⟨h1, A', h2, h3⟩ := h
    obtain ⟨S1, s1, s2, s3, s4, s5, s6, s7, s8⟩ := scan_P hS
    have h14 : ¬ tkT Bs m law p = 14 := fun z => by rw [z] at h2; exact take_14 h2
    obtain ⟨st, cmp, ln, out, op, br, W, C⟩ := A
    obtain ⟨o1, o2, o3, o4, o5, o6⟩ := h1
    have tb := take_B s2 s4 o1 o2 o3 o4 o5 o6
    rw [h2] at tb
    obtain ⟨S3, t1, t2, t3⟩ := tb
    have c400 : ¬ (400 : Int32) < nI i := nI_nlt (a := 400) (by omega) (by omega)
    have c14 : ¬ S1 29 6 = 14 := fun z => by
      rw [s4.2.1] at z
      exact h14 ((nI_eq (b := 14) (by have := s4.2.2.1; omega) (by omega)).mp z)
    obtain ⟨e1, e2, e3, e4⟩ := tkE_ge (Bs := Bs) (m := m) (pos := p)
    have hS4 : RdS law Bs m (sw S3 29 2 0) A' (tkE Bs m p) := by
      refine ⟨t2.go (fun a k g => rd_ne (by omega)), (s3.go (fun a k g => t3 a k (by omega) (by omega) (by omega))).go (fun a k g => rd_ne (by omega)), ?_, e3 hS.2.2.2.1, ?_, sw_same⟩
      · rw [rd_ne (by omega), t3 _ _ (by omega) (by omega) (by omega)]; exact s5
      · rw [rd_ne (by omega), t3 _ _ (by omega) (by omega) (by omega)]; exact s4.1
    obtain ⟨S', q1, q2, q3⟩ := ih f (i + 1) (sw S3 29 2 0) A' B (tkE Bs m p) q h3 hS4 (by omega)
    refine ⟨S', ?_, q2, fun a k g1 g2 g3 => by rw [q3 a k g1 g2 g3, rd_ne (by omega), t3 a k (by omega) g2 g3, s8 a k (by omega)]⟩
    rw [show i + (n + 1) = i + 1 + n by omega, ← q1, show f + (n + 1) = (f + n) + 1 by omega]
    have s2' : S 29 2 = 0 := hS.2.2.2.2.2
    simp only [r_Rd_read_L12, if_neg c400, if_pos s2', s1, Option.bind_some, if_neg c14, t1, jn_k, jn_c, jn, ltS_k, lt_k, nI_1]
theorem end_P {law : Bool} {Bs : Nat → Nat} {m a2 f i pos : Nat} {S : Sto} {A : AS} (hS : RdS law Bs m S A pos) (h14 : tkT Bs m law pos = 14) (h0 : A.1 = 0) (hi : i ≤ 400) : ∃ S', r_Rd_read_L12 a2 (f + 1) (nI i) S = some (.inl (nI i, S')) ∧ RB S' A ∧ S' 29 2 = 0 ∧ frP S S' := by
  obtain ⟨S1, s1, s2, s3, s4, s5, s6, s7, s8⟩ := scan_P hS
  have c400 : ¬ (400 : Int32) < nI i := nI_nlt (a := 400) (by omega) (by omega)
  have s2' : S 29 2 = 0 := hS.2.2.2.2.2
  have z14 : S1 29 6 = 14 := by rw [s4.2.1, h14]; rfl
  have z9 : S1 29 9 = 0 := by
    obtain ⟨st, cmp, ln, out, op, br, W, C⟩ := A
    have := s2.1
    rw [this, show st = 0 from h0]; rfl
  refine ⟨S1, ?_, s2, s7, fun a k g1 g2 g3 => s8 a k (by omega)⟩
  simp only [r_Rd_read_L12, if_neg c400, if_pos s2', s1, Option.bind_some, if_pos z14, if_pos z9, jn]
theorem flt_P {law : Bool} {Bs : Nat → Nat} {m a2 f i pos fl : Nat} {S : Sto} {A : AS} (hS : RdS law Bs m S A pos) (hF : Flt law Bs m A pos fl) (hfl : 0 < fl) (hfl2 : fl ≤ 3) (hi : i ≤ 400) : ∃ x S', r_Rd_read_L12 a2 (f + 2) (nI i) S = some (.inl (x, S')) ∧ S' 29 2 = nI fl ∧ S' 29 8 = nI (tkP Bs m pos) ∧ frP S S' := by
  obtain ⟨h1, hn, h2⟩ := hF
  obtain ⟨S1, s1, s2, s3, s4, s5, s6, s7, s8⟩ := scan_P hS
  obtain ⟨st, cmp, ln, out, op, br, W, C⟩ := A
  obtain ⟨o1, o2, o3, o4, o5, o6⟩ := h1
  have tb := take_B s2 s4 o1 o2 o3 o4 o5 o6
  rw [h2] at tb
  obtain ⟨S3, t1, t3⟩ := tb
  have c400 : ¬ (400 : Int32) < nI i := nI_nlt (a := 400) (by omega) (by omega)
  have s2' : S 29 2 = 0 := hS.2.2.2.2.2
  have fz : ¬ sw S3 29 2 (nI fl) 29 2 = 0 := by rw [sw_same]; exact nI_ne0 hfl (by omega)
  have nxt : ∃ x, r_Rd_read_L12 a2 (f + 1) (nI (i + 1)) (sw S3 29 2 (nI fl)) = some (.inl (x, sw S3 29 2 (nI fl))) := by
    by_cases q : (400 : Int32) < nI (i + 1)
    · exact ⟨_, by rw [r_Rd_read_L12, if_pos q]⟩
    · exact ⟨_, by rw [r_Rd_read_L12, if_neg q, if_neg fz]⟩
  obtain ⟨x, nx⟩ := nxt
  refine ⟨x, sw S3 29 2 (nI fl), ?_, sw_same, ?_, fun a k g1 g2 g3 => by rw [rd_ne (by omega), t3 a k (by omega) g2 g3, s8 a k (by omega)]⟩
  · rw [← nx]
    have s9 : S1 29 9 = nI st := s2.1
    by_cases z14 : S1 29 6 = 14
    · have e14 : tkT Bs m law pos = 14 := by
        rw [s4.2.1] at z14
        exact (nI_eq (b := 14) (by have := s4.2.2.1; omega) (by omega)).mp z14
      have z9 : ¬ S1 29 9 = 0 := fun z => by
        rw [s9] at z
        exact hn ⟨e14, (nI_eq (b := 0) (by omega) (by omega)).mp z⟩
      rw [show f + 2 = (f + 1) + 1 from rfl, r_Rd_read_L12, if_neg c400, if_pos s2', s1]
      simp only [Option.bind_some, if_pos z14, if_neg z9, jn, t1, ltS_k, lt_k, nI_1]
    · rw [show f + 2 = (f + 1) + 1 from rfl, r_Rd_read_L12, if_neg c400, if_pos s2', s1]
      simp only [Option.bind_some, if_neg z14, jn, t1, ltS_k, lt_k, nI_1]
  · rw [rd_ne (by omega), t3 _ _ (by omega) (by omega) (by omega)]; exact s6
