/-! cells from which a sound may have come -/
def frT (S : Sto) (c : Int32) (i : Nat) : Int32 := trv (S 1 0) (S 1 1) (S 1 2) c (S 52 i)
def frF (S : Sto) (n : Nat) (c : Int32) : Bool := spK (spL (fun i => S 55 i - frT S c i) (fun i => S 56 i - frT S c i) (fun i => decide (¬ S 55 i = -1) && decide (i < n)) n 0 (-1000000000) 1000000000)
theorem may_L {S : Sto} {n : Nat} {c : Int32} (hn : n ≤ 8) (n1 : S 53 3 = nI n) : ∀ (d f i : Nat) (U : Sto), i + d = n → d < f → Sx S U → ∃ e U', r_B_mayBeFrom_L2 c f (nI i) U = some (e, U') ∧ Sx S U' ∧ (∀ j, j < i → U' 54 j = U 54 j) ∧ ∀ j, i ≤ j → j < n → ¬ S 55 j = -1 → U' 54 j = frT S c j := by
  intro d
  induction d with
  | zero =>
    intro f i U hi hf hU
    obtain ⟨f, rfl⟩ : ∃ g, f = g + 1 := ⟨f - 1, by omega⟩
    have e : i = n := by omega
    have c1 : U 53 3 ≤ nI i := by rw [hU _ _ (by unfold Sc; omega), n1, e, q_le]; omega
    exact ⟨nI i, U, by rw [r_B_mayBeFrom_L2, if_pos c1], hU, fun _ _ => rfl, fun j h1 h2 => by omega⟩
  | succ d ih =>
    intro f i U hi hf hU
    obtain ⟨f, rfl⟩ : ∃ g, f = g + 1 := ⟨f - 1, by omega⟩
    have c1 : ¬ U 53 3 ≤ nI i := by rw [hU _ _ (by unfold Sc; omega), n1]; exact nI_ge (by omega) (by omega)
    have i1 : inr (nI i) 8 = true := inr_nI (by omega) (by decide)
    have t1 : (nI i).toNatClampNeg = i := q_tnI (by omega)
    have e55 : U 55 i = S 55 i := hU _ _ (by unfold Sc; omega)
    by_cases k : S 55 i = -1
    · obtain ⟨e, U', q1, q2, q3, q4⟩ := ih f (i + 1) U (by omega) (by omega) hU
      refine ⟨e, U', ?_, q2, fun j hj => q3 j (by omega), fun j h1 h2 h3 => ?_⟩
      · rw [← q1]
        simp only [r_B_mayBeFrom_L2, if_neg c1, chk_t i1, t1, e55, if_pos k, jn, lt_k, nI_1]
      · by_cases e : j = i
        · rw [e] at h3; exact absurd k h3
        · exact q4 j (by omega) h2 h3
    · have tr := trv_B c (U 52 i) U
      rw [hU 1 0 (by unfold Sc; omega), hU 1 1 (by unfold Sc; omega), hU 1 2 (by unfold Sc; omega), hU 52 i (by unfold Sc; omega)] at tr
      have tr2 : r_Sq_travel c (S 52 i) U = some (frT S c i) := tr
      have e52 : U 52 i = S 52 i := hU _ _ (by unfold Sc; omega)
      obtain ⟨e, U', q1, q2, q3, q4⟩ := ih f (i + 1) (sw U 54 i (frT S c i)) (by omega) (by omega) (hU.sw (by unfold Sc; omega))
      refine ⟨e, U', ?_, q2, fun j hj => ?_, fun j h1 h2 h3 => ?_⟩
      · rw [← q1]
        simp only [r_B_mayBeFrom_L2, if_neg c1, chk_t i1, t1, e55, if_neg k, e52, tr2, Option.bind_some, jn, lt_k, ltS_k, nI_1]
      · rw [q3 j (by omega), rd_ne (by omega)]
      · by_cases e : j = i
        · subst e
          rw [q3 j (by omega), sw_same]
        · exact q4 j (by omega) h2 h3
theorem may_B {S U : Sto} {n : Nat} {c : Int32} (hn : n ≤ 8) (n1 : S 53 3 = nI n) (hU : Sx S U) : ∃ U', r_B_mayBeFrom c U = some (b2i (frF S n c), U') ∧ Sx S U' := by
  obtain ⟨e, U', q1, q2, q3, q4⟩ := may_L (c := c) hn n1 n fu 0 U (by omega) (by have : fu = 5000 := rfl; omega) hU
  rw [show nI 0 = 0 from rfl] at q1
  have e3 : U' 53 3 = nI n := by rw [q2 _ _ (by unfold Sc; omega)]; exact n1
  have e55 : ∀ i, U' 55 i = S 55 i := fun i => q2 _ _ (by unfold Sc; omega)
  have e56 : ∀ i, U' 56 i = S 56 i := fun i => q2 _ _ (by unfold Sc; omega)
  have ag := agree_B (a0 := 53) (m0 := 8) (y := -1) (S := U') (lo := fun i => S 55 i - frT S c i) (hi := fun i => S 56 i - frT S c i) (on := fun i => decide (¬ S 55 i = -1) && decide (i < n)) hn (by omega) e3 (fun i hi => by
    have ne : ¬ nI i = -1 := by
      intro q
      rw [q_eq, q_n (by omega), show (-1 : Int32).toInt = -1 by decide] at q
      omega
    show (decide (¬ S 55 i = -1) && decide (i < n)) = true ↔ ¬ nI i = -1 ∧ ¬ U' 55 i = -1
    rw [e55]
    simp [hi, ne]) (fun i hi hon => by
    have hon : ¬ S 55 i = -1 := by simp at hon; exact hon.1
    show S 55 i - frT S c i = U' 55 i - U' 54 i ∧ S 56 i - frT S c i = U' 56 i - U' 54 i
    rw [e55, e56, q4 i (by omega) hi hon]
    exact ⟨rfl, rfl⟩)
  have ag2 : r_Sp_agreeWithout 53 8 (-1) U' = some (b2i (frF S n c)) := ag
  refine ⟨U', ?_, q2⟩
  have hb : b01 (b2i (frF S n c)) = true := by cases frF S n c <;> decide
  simp only [r_B_mayBeFrom, q1, Option.bind_some, ag2, chk_t hb]
theorem isF_L {S T : Sto} {n : Nat} {c : Int32} {cm : Nat} (hn : n ≤ 8) (n2 : S 104 54 = nI n) (hcm : cM S cm S) (hc : isC c) (ht : ∀ i, i < n → S 132 i = S 52 i ∧ isC (S 52 i) ∧ S 133 i = S 55 i ∧ (S 55 i = -1 ∨ S 134 i = S 56 i)) (hT : Sx S T) :
    ∀ (d f i : Nat) (a b : Int32), i + d = n → d < f → r_M_isFrom_L11 c f a b (nI i) T = some ((spL (fun i => S 55 i - frT S c i) (fun i => S 56 i - frT S c i) (fun i => decide (¬ S 55 i = -1) && decide (i < n)) d i a b).1, (spL (fun i => S 55 i - frT S c i) (fun i => S 56 i - frT S c i) (fun i => decide (¬ S 55 i = -1) && decide (i < n)) d i a b).2, nI n) := by
  have h3 : T 104 54 = nI n := by rw [hT _ _ (by unfold Sc; omega)]; exact n2
  intro d
  induction d with
  | zero =>
    intro f i a b hi hf
    obtain ⟨f, rfl⟩ : ∃ g, f = g + 1 := ⟨f - 1, by omega⟩
    have e : i = n := by omega
    subst e
    rw [r_M_isFrom_L11, h3, if_pos (by rw [q_le]; omega)]
    rfl
  | succ d ih =>
    intro f i a b hi' hf
    obtain ⟨f, rfl⟩ : ∃ g, f = g + 1 := ⟨f - 1, by omega⟩
    have c1 : ¬ nI n ≤ nI i := nI_ge (by omega) (by omega)
    have i1 : inr (nI i) 8 = true := inr_nI (by omega) (by omega)
    have t1 : (nI i).toNatClampNeg = i := q_tnI (by omega)
    obtain ⟨g1, g2, g3, g4⟩ := ht i (by omega)
    have e3 : T 133 i = S 55 i := by rw [hT _ _ (by unfold Sc; omega)]; exact g3
    rw [spL]
    by_cases k : S 55 i = -1
    · have on : ¬ (decide (¬ S 55 i = -1) && decide (i < n)) = true := by simp [k]
      rw [if_neg on, ← ih f (i + 1) _ _ (by omega) (by omega)]
      simp only [r_M_isFrom_L11, h3, if_neg c1, chk_t i1, t1, e3, if_pos k, lt_k, jn, nI_1]
    · have on : (decide (¬ S 55 i = -1) && decide (i < n)) = true := by
        have : i < n := by omega
        simp [k, this]
      have e2 : T 132 i = S 52 i := by rw [hT _ _ (by unfold Sc; omega)]; exact g1
      have e4 : T 134 i = S 56 i := by rw [hT _ _ (by unfold Sc; omega)]; exact g4.resolve_left k
      have fd := trv_M hc g2 T
      obtain ⟨m1, m2, m3, -⟩ := hT.cM hcm
      rw [m1, m2, m3] at fd
      have fd2 : r_M_delay c (S 52 i) T = some (frT S c i) := fd
      rw [if_pos on, ← ih f (i + 1) _ _ (by omega) (by omega), max_j, min_i]
      simp only [r_M_isFrom_L11, h3, if_neg c1, chk_t i1, t1, e3, if_neg k, e2, fd2, Option.bind_some, e4, lt_k, jn, nI_1]
      split <;> split <;> rfl
theorem isF_M {S T : Sto} {n : Nat} {c : Int32} {cm : Nat} (hn : n ≤ 8) (n2 : S 104 54 = nI n) (hw : wInv S cm) (hcm : cM S cm S) (hc : isC c) (ht : ∀ i, i < n → S 132 i = S 52 i ∧ isC (S 52 i) ∧ S 133 i = S 55 i ∧ (S 55 i = -1 ∨ (S 134 i = S 56 i ∧ 0 ≤ (S 55 i).toInt ∧ (S 55 i).toInt ≤ (S 56 i).toInt ∧ (S 56 i).toInt ≤ 199999))) (hT : Sx S T) : r_M_isFrom c T = some (b2i (frF S n c)) := by
  have := isF_L hn n2 hcm hc (fun i hi => ⟨(ht i hi).1, (ht i hi).2.1, (ht i hi).2.2.1, (ht i hi).2.2.2.imp id (fun q => q.1)⟩) hT n fu 0 (-10000000) 10000000 (by omega) (by have : fu = 5000 := rfl; omega)
  rw [show nI 0 = 0 from rfl] at this
  have two : frF S n c = spK (spL (fun i => S 55 i - frT S c i) (fun i => S 56 i - frT S c i) (fun i => decide (¬ S 55 i = -1) && decide (i < n)) n 0 (-10000000) 10000000) := by
    refine sp_two (fun i hi' => ?_) n 0 _ _ _ _ (Or.inr ⟨rfl, rfl, rfl, rfl⟩)
    have h1 : ¬ S 55 i = -1 := by simp at hi'; exact hi'.1
    have h2 : i < n := by simp at hi'; exact hi'.2
    obtain ⟨g1, g2, g3, g4⟩ := ht i h2
    obtain ⟨g5, g6, g7, g8⟩ := g4.resolve_left h1
    have nn : 0 ≤ (frT S c i).toInt ∧ (frT S c i).toInt ≤ 9999 := trv_nn hw.2.2.2.1 hw.2.2.2.2.1 hw.2.2.2.2.2 hc g2
    show btw (S 55 i - frT S c i) (-10000000) 10000000 ∧ btw (S 56 i - frT S c i) (-10000000) 10000000
    unfold btw
    rw [q_sub (by omega) (by omega), q_sub (by omega) (by omega)]
    omega
  rw [r_M_isFrom, this, two, ← spK_r some]
  rfl
/-! how many, the first, the last -/
def frL (F : Nat → Bool) : Nat → Nat → Nat → Int32 → Int32 → Nat × Int32 × Int32
  | 0, _, n, a, b => (n, a, b)
  | d + 1, i, n, a, b => if F i = true then frL F d (i + 1) (n + 1) (if n = 0 then nI i else a) (nI i) else frL F d (i + 1) n a b
def fsI (F : Nat → Bool) : Nat → Nat → Int32
  | 0, _ => -1
  | d + 1, i => if F i = true then nI i else fsI F d (i + 1)
def lsI (F : Nat → Bool) : Nat → Int32
  | 0 => -1
  | k + 1 => if F k = true then nI k else lsI F k
theorem frL_1 {F : Nat → Bool} : ∀ (d i n : Nat) (a b : Int32), (frL F d i n a b).1 = cntP F d i n := by
  intro d
  induction d with
  | zero => intro i n a b; rfl
  | succ d ih =>
    intro i n a b
    rw [frL, cntP]
    by_cases k : F i = true
    · rw [if_pos k, if_pos k, ih]
    · rw [if_neg k, if_neg k, ih]
theorem frL_2p {F : Nat → Bool} : ∀ (d i n : Nat) (a b : Int32), 0 < n → (frL F d i n a b).2.1 = a := by
  intro d
  induction d with
  | zero => intro i n a b _; rfl
  | succ d ih =>
    intro i n a b h
    rw [frL]
    by_cases k : F i = true
    · rw [if_pos k, ih _ _ _ _ (by omega), if_neg (by omega)]
    · rw [if_neg k, ih _ _ _ _ h]
theorem frL_2 {F : Nat → Bool} : ∀ (d i : Nat) (b : Int32), (frL F d i 0 (-1) b).2.1 = fsI F d i := by
  intro d
  induction d with
  | zero => intro i b; rfl
  | succ d ih =>
    intro i b
    rw [frL, fsI]
    by_cases k : F i = true
    · rw [if_pos k, if_pos k, frL_2p _ _ _ _ _ (by omega), if_pos rfl]
    · rw [if_neg k, if_neg k, ih]
theorem frL_3 {F : Nat → Bool} : ∀ (d i n : Nat) (a b : Int32), b = lsI F i → (frL F d i n a b).2.2 = lsI F (i + d) := by
  intro d
  induction d with
  | zero => intro i n a b h; exact h
  | succ d ih =>
    intro i n a b h
    rw [frL, show i + (d + 1) = (i + 1) + d by omega]
    by_cases k : F i = true
    · rw [if_pos k, ih _ _ _ _ (by rw [lsI, if_pos k])]
    · rw [if_neg k, ih _ _ _ _ (by rw [lsI, if_neg k]; exact h)]
theorem frM_L {y : Int32} {T : Sto} {F : Nat → Bool} (hF : ∀ i, i < 3600 → r_M_isFrom (nI i) T = some (b2i (F i))) : ∀ (d f i n : Nat) (a b : Int32), i + d = 3600 → d < f → n ≤ i → r_M_from_L27 y f (nI n) a b (nI i) T = some (nI (frL F d i n a b).1, (frL F d i n a b).2.1, (frL F d i n a b).2.2, nI 3600) := by
  intro d
  induction d with
  | zero =>
    intro f i n a b hi hf _
    obtain ⟨f, rfl⟩ : ∃ g, f = g + 1 := ⟨f - 1, by omega⟩
    have e : i = 3600 := by omega
    subst e
    rw [r_M_from_L27, if_pos (by decide)]
    rfl
  | succ d ih =>
    intro f i n a b hi hf hn
    obtain ⟨f, rfl⟩ : ∃ g, f = g + 1 := ⟨f - 1, by omega⟩
    have c1 : ¬ (3600 : Int32) ≤ nI i := nI_ge (b := 3600) (by omega) (by omega)
    have hFi := hF i (by omega)
    rw [frL]
    cases k : F i with
    | true =>
      rw [k] at hFi
      rw [if_pos rfl, ← ih f (i + 1) (n + 1) _ _ (by omega) (by omega) (by omega)]
      by_cases n0 : n = 0
      · have z : nI n = 0 := by rw [n0]; rfl
        simp only [r_M_from_L27, if_neg c1, hFi, Option.bind_some, if_neg (show ¬ b2i true = 0 by decide), if_pos z, if_pos n0, jn, lt_k, nI_1]
      · have z : ¬ nI n = 0 := nI_ne0 (by omega) (by omega)
        simp only [r_M_from_L27, if_neg c1, hFi, Option.bind_some, if_neg (show ¬ b2i true = 0 by decide), if_neg z, if_neg n0, jn, lt_k, nI_1]
    | false =>
      rw [k] at hFi
      rw [if_neg (by decide), ← ih f (i + 1) n _ _ (by omega) (by omega) (by omega)]
      simp only [r_M_from_L27, if_neg c1, hFi, Option.bind_some, if_pos (show b2i false = 0 by decide), jn, lt_k, nI_1]
theorem frB_0 {S : Sto} {F : Nat → Bool} (hF : ∀ (i : Nat) (U : Sto), i < 3600 → Sx S U → ∃ U', r_B_mayBeFrom (nI i) U = some (b2i (F i), U') ∧ Sx S U') : ∀ (d f i c : Nat) (U : Sto), i + d = 3600 → d < f → Sx S U → ∃ e U', r_B_from_L15 0 f (nI c) (nI i) U = some (.inl (nI (cntP F d i c), e, U')) ∧ Sx S U' := by
  intro d
  induction d with
  | zero =>
    intro f i c U hi hf hU
    obtain ⟨f, rfl⟩ : ∃ g, f = g + 1 := ⟨f - 1, by omega⟩
    have e : i = 3600 := by omega
    subst e
    exact ⟨nI 3600, U, by rw [r_B_from_L15, if_pos (by decide)]; rfl, hU⟩
  | succ d ih =>
    intro f i c U hi hf hU
    obtain ⟨f, rfl⟩ : ∃ g, f = g + 1 := ⟨f - 1, by omega⟩
    have c1 : ¬ (3600 : Int32) ≤ nI i := nI_ge (b := 3600) (by omega) (by omega)
    obtain ⟨U1, v1, v2⟩ := hF i U (by omega) hU
    obtain ⟨e, U', q1, q2⟩ := ih f (i + 1) (if F i = true then c + 1 else c) U1 (by omega) (by omega) v2
    refine ⟨e, U', ?_, q2⟩
    rw [cntP, ← q1]
    cases k : F i with
    | true =>
      rw [k] at v1
      simp only [r_B_from_L15, if_neg c1, if_neg (show ¬ (0 : Int32) = 2 by decide), v1, Option.bind_some, if_neg (show ¬ b2i true = 0 by decide), ite_true, jn, lt_k, nI_1]
    | false =>
      rw [k] at v1
      simp only [r_B_from_L15, if_neg c1, if_neg (show ¬ (0 : Int32) = 2 by decide), v1, Option.bind_some, if_pos (show b2i false = 0 by decide), jn, lt_k, nI_1, if_neg (show ¬ false = true by decide)]
/-- a cell that was found, or none -/
def frE (x : Int32) (e : Int32 × Int32 × Sto) (U : Sto) : Option ((Int32 × Int32 × Sto) ⊕ (Int32 × Sto)) := if x = -1 then some (.inl e) else some (.inr (x, U))
theorem nI_nm {i : Nat} (h : i < 100000) : ¬ nI i = -1 := by
  intro q
  rw [q_eq, q_n (by omega), show (-1 : Int32).toInt = -1 by decide] at q
  omega
theorem frB_1 {S : Sto} {F : Nat → Bool} (hF : ∀ (i : Nat) (U : Sto), i < 3600 → Sx S U → ∃ U', r_B_mayBeFrom (nI i) U = some (b2i (F i), U') ∧ Sx S U') : ∀ (d f i : Nat) (U : Sto), i + d = 3600 → d < f → Sx S U → ∃ e1 e2 U', r_B_from_L15 1 f 0 (nI i) U = frE (fsI F d i) (e1, e2, U') U' ∧ Sx S U' := by
  intro d
  induction d with
  | zero =>
    intro f i U hi hf hU
    obtain ⟨f, rfl⟩ : ∃ g, f = g + 1 := ⟨f - 1, by omega⟩
    have e : i = 3600 := by omega
    subst e
    exact ⟨0, nI 3600, U, by rw [r_B_from_L15, if_pos (by decide), fsI, frE, if_pos rfl], hU⟩
  | succ d ih =>
    intro f i U hi hf hU
    obtain ⟨f, rfl⟩ : ∃ g, f = g + 1 := ⟨f - 1, by omega⟩
    have c1 : ¬ (3600 : Int32) ≤ nI i := nI_ge (b := 3600) (by omega) (by omega)
    obtain ⟨U1, v1, v2⟩ := hF i U (by omega) hU
    rw [fsI]
    cases k : F i with
    | true =>
      rw [k] at v1
      refine ⟨0, 0, U1, ?_, v2⟩
      rw [if_pos rfl, frE, if_neg (nI_nm (by omega))]
      simp only [r_B_from_L15, if_neg c1, if_neg (show ¬ (1 : Int32) = 2 by decide), v1, Option.bind_some, if_neg (show ¬ b2i true = 0 by decide), if_neg (show ¬ (1 : Int32) = 0 by decide), jn]
    | false =>
      rw [k] at v1
      obtain ⟨e1, e2, U', q1, q2⟩ := ih f (i + 1) U1 (by omega) (by omega) v2
      refine ⟨e1, e2, U', ?_, q2⟩
      rw [if_neg (by decide), ← q1]
      simp only [r_B_from_L15, if_neg c1, if_neg (show ¬ (1 : Int32) = 2 by decide), v1, Option.bind_some, if_pos (show b2i false = 0 by decide), jn, lt_k, nI_1]
theorem frB_2 {S : Sto} {F : Nat → Bool} (hF : ∀ (i : Nat) (U : Sto), i < 3600 → Sx S U → ∃ U', r_B_mayBeFrom (nI i) U = some (b2i (F i), U') ∧ Sx S U') : ∀ (d f i : Nat) (U : Sto), i + d = 3600 → d < f → Sx S U → ∃ e1 e2 U', r_B_from_L15 2 f 0 (nI i) U = frE (lsI F d) (e1, e2, U') U' ∧ Sx S U' := by
  intro d
  induction d with
  | zero =>
    intro f i U hi hf hU
    obtain ⟨f, rfl⟩ : ∃ g, f = g + 1 := ⟨f - 1, by omega⟩
    have e : i = 3600 := by omega
    subst e
    exact ⟨0, nI 3600, U, by rw [r_B_from_L15, if_pos (by decide), lsI, frE, if_pos rfl], hU⟩
  | succ d ih =>
    intro f i U hi hf hU
    obtain ⟨f, rfl⟩ : ∃ g, f = g + 1 := ⟨f - 1, by omega⟩
    have c1 : ¬ (3600 : Int32) ≤ nI i := nI_ge (b := 3600) (by omega) (by omega)
    have es : (3599 : Int32) - nI i = nI d := by
      rw [show (3599 : Int32) = nI 3599 from rfl, pk_sub (by omega), show 3599 - i = d by omega]
    obtain ⟨U1, v1, v2⟩ := hF d U (by omega) hU
    rw [lsI]
    cases k : F d with
    | true =>
      rw [k] at v1
      refine ⟨0, 0, U1, ?_, v2⟩
      rw [if_pos rfl, frE, if_neg (nI_nm (by omega))]
      simp only [r_B_from_L15, if_neg c1, ite_true, es, v1, Option.bind_some, if_neg (show ¬ b2i true = 0 by decide), if_neg (show ¬ (2 : Int32) = 0 by decide), jn]
    | false =>
      rw [k] at v1
      obtain ⟨e1, e2, U', q1, q2⟩ := ih f (i + 1) U1 (by omega) (by omega) v2
      refine ⟨e1, e2, U', ?_, q2⟩
      rw [if_neg (by decide), ← q1]
      simp only [r_B_from_L15, if_neg c1, ite_true, es, v1, Option.bind_some, if_pos (show b2i false = 0 by decide), jn, lt_k, nI_1]
theorem st_from {nL : Nat} {S : Sto} (h : Iv nL S) (x1 : Int32) : ∃ (r : Int32) (S1 : Sto) (S2 : Sto), r_B_from x1 S = some (r, S1) ∧ r_M_from x1 S1 = some (r, S2) ∧ Iv nL S2 := by
  obtain ⟨cm, hw, hm⟩ := h.wv
  obtain ⟨n, hn, n1, n2, n3, -⟩ := h.2.2.2.2.2.2.2.1
  by_cases c1 : r_B_within x1 0 2 = 0
  · exact ⟨-1, S, sw S 104 0 0, by simp only [r_B_from, if_pos c1], by simp only [r_M_from, ltS_k, if_pos (iM_p c1)], h.t0⟩
  have c1M := iM_n c1
  have c1' := win_n c1
  rw [z_0, show (2 : Int32).toInt = 2 by decide] at c1'
  have hF : ∀ (i : Nat) (U : Sto), i < 3600 → Sx S U → ∃ U', r_B_mayBeFrom (nI i) U = some (b2i (frF S n (nI i)), U') ∧ Sx S U' := fun i U hi hU => may_B hn n1 hU
  have hFM : ∀ T, Sx S T → ∀ i, i < 3600 → r_M_isFrom (nI i) T = some (b2i (frF S n (nI i))) := fun T hT i hi => isF_M hn n2 hw hm (by unfold isC; rw [q_n (by omega)]; omega) (fun i hi => n3 i hi) hT
  have fuv : fu = 5000 := rfl
  generalize hFF : (fun i => frF S n (nI i)) = F
  have eF : ∀ i, frF S n (nI i) = F i := fun i => by rw [← hFF]
  simp only [eF] at hF hFM
  have z : nI 0 = 0 := rfl
  have frm : ∀ T, Sx S T → r_M_from_L27 x1 fu 0 (-1) (-1) 0 T = some (nI (cntP F 3600 0 0), fsI F 3600 0, lsI F 3600, nI 3600) := fun T hT => by
    have := frM_L (y := x1) (hFM T hT) 3600 fu 0 0 (-1) (-1) (by omega) (by omega) (by omega)
    have h1 := frL_1 (F := F) 3600 0 0 (-1) (-1)
    have h2 := frL_2 (F := F) 3600 0 (-1)
    have h3 := frL_3 (F := F) 3600 0 0 (-1) (-1) rfl
    rw [Nat.zero_add] at h3
    rw [h1, h2, h3] at this
    exact this
  have hx : x1 = 0 ∨ x1 = 1 ∨ x1 = 2 := by
    have : x1.toInt = 0 ∨ x1.toInt = 1 ∨ x1.toInt = 2 := by omega
    rcases this with e | e | e
    · exact Or.inl (by rw [q_eq, e, z_0])
    · exact Or.inr (Or.inl (by rw [q_eq, e]; decide))
    · exact Or.inr (Or.inr (by rw [q_eq, e]; decide))
  have s0 : ∀ U, Sx S U → Sx S (sw U 104 0 0) := fun U hU => hU.sw (by unfold Sc; omega)
  rcases hx with rfl | rfl | rfl
  · obtain ⟨e, U', q1, q2⟩ := frB_0 hF 3600 fu 0 0 S (by omega) (by omega) Sx.rf
    rw [z] at q1
    refine ⟨nI (cntP F 3600 0 0), U', sw U' 104 0 0, ?_, ?_, (s0 U' q2).iv h⟩
    · simp only [r_B_from, if_neg c1, q1, Option.bind_some, ite_true]
    · simp only [r_M_from, ltS_k, if_neg c1M, frm _ (s0 U' q2), Option.bind_some, ite_true]
  · obtain ⟨e1, e2, U', q1, q2⟩ := frB_1 hF 3600 fu 0 S (by omega) (by omega) Sx.rf
    rw [z] at q1
    refine ⟨fsI F 3600 0, U', sw U' 104 0 0, ?_, ?_, (s0 U' q2).iv h⟩
    · simp only [r_B_from, if_neg c1, q1]
      unfold frE
      by_cases k : fsI F 3600 0 = -1
      · rw [if_pos k, k]; rfl
      · rw [if_neg k]; rfl
    · simp only [r_M_from, ltS_k, if_neg c1M, frm _ (s0 U' q2), Option.bind_some, if_neg (show ¬ (1 : Int32) = 0 by decide), ite_true]
  · obtain ⟨e1, e2, U', q1, q2⟩ := frB_2 hF 3600 fu 0 S (by omega) (by omega) Sx.rf
    rw [z] at q1
    refine ⟨lsI F 3600, U', sw U' 104 0 0, ?_, ?_, (s0 U' q2).iv h⟩
    · simp only [r_B_from, if_neg c1, q1]
      unfold frE
      by_cases k : lsI F 3600 = -1
      · rw [if_pos k, k]; rfl
      · rw [if_neg k]; rfl
    · simp only [r_M_from, ltS_k, if_neg c1M, frm _ (s0 U' q2), Option.bind_some, if_neg (show ¬ (2 : Int32) = 0 by decide), if_neg (show ¬ (2 : Int32) = 1 by decide)]
