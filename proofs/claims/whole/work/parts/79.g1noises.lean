/-! noises -/
def ahN (t : Nat → Int32) (j i : Nat) : Bool := decide (t j < t i) || (decide (t j = t i) && decide (j < i))
def nsG (t : Nat → Int32) (i : Nat) : Nat → Nat → Int32 → Int32 → Int32 × Int32
  | 0, _, a, b => (a, b)
  | d + 1, j, a, b => if ahN t j i = true then nsG t i d (j + 1) (r_Ma_min a (r_Ma_abs (t j - t i))) b else if j = i then nsG t i d (j + 1) a b else nsG t i d (j + 1) a (r_Ma_min b (r_Ma_abs (t j - t i)))
theorem ahead_B {U : Sto} {i j : Nat} (hi : i < 20) (hj : j < 20) : r_Ns_isAhead (nI j) (nI i) U = some (b2i (ahN (U 96) j i)) := by
  have i1 : inr (nI i) 20 = true := inr_nI hi (by decide)
  have i2 : inr (nI j) 20 = true := inr_nI hj (by decide)
  have t1 : (nI i).toNatClampNeg = i := q_tnI (by omega)
  have t2 : (nI j).toNatClampNeg = j := q_tnI (by omega)
  unfold ahN
  simp only [r_Ns_isAhead, chk_t i1, chk_t i2, t1, t2]
  by_cases c1 : U 96 j < U 96 i
  · rw [if_pos c1, decide_eq_true c1]; rfl
  · rw [if_neg c1, decide_eq_false c1, Bool.false_or]
    by_cases c2 : U 96 j = U 96 i
    · rw [if_pos c2, decide_eq_true c2, Bool.true_and]
      by_cases c3 : j < i
      · rw [decide_eq_true c3, if_neg (nI_ge c3 (by omega))]; rfl
      · rw [decide_eq_false c3, if_pos (nI_le (by omega) (by omega))]; rfl
    · rw [if_neg c2, decide_eq_false c2]; rfl
theorem sort_L {U : Sto} {i p : Nat} (hp : p ≤ 20) (hi : i < p) (p1 : U 90 5 = nI p) : ∀ (d f j : Nat) (a b : Int32), j + d = p → d < f → r_Ns_sort_L11 (nI i) f a b (nI j) U = some ((nsG (U 96) i d j a b).1, (nsG (U 96) i d j a b).2, nI p) := by
  have i1 : inr (nI i) 20 = true := inr_nI (by omega) (by decide)
  have t1 : (nI i).toNatClampNeg = i := q_tnI (by omega)
  intro d
  induction d with
  | zero =>
    intro f j a b hj hf
    obtain ⟨f, rfl⟩ : ∃ g, f = g + 1 := ⟨f - 1, by omega⟩
    have e : j = p := by omega
    subst e
    rw [r_Ns_sort_L11, p1, if_pos (by rw [q_le]; omega)]
    rfl
  | succ d ih =>
    intro f j a b hj hf
    obtain ⟨f, rfl⟩ : ∃ g, f = g + 1 := ⟨f - 1, by omega⟩
    have c : ¬ nI p ≤ nI j := nI_ge (by omega) (by omega)
    have i2 : inr (nI j) 20 = true := inr_nI (by omega) (by decide)
    have t2 : (nI j).toNatClampNeg = j := q_tnI (by omega)
    have ah := ahead_B (U := U) (show i < 20 by omega) (show j < 20 by omega)
    rw [nsG]
    cases k : ahN (U 96) j i with
    | true =>
      rw [k] at ah
      rw [if_pos rfl, ← ih f (j + 1) _ _ (by omega) (by omega)]
      simp only [r_Ns_sort_L11, p1, if_neg c, chk_t i1, chk_t i2, t1, t2, lt_k, ah, Option.bind_some, jn, if_neg (show ¬ b2i true = 0 by decide), nI_1]
    | false =>
      rw [k] at ah
      rw [if_neg (by decide)]
      by_cases e : j = i
      · have e2 : nI j = nI i := by rw [e]
        rw [if_pos e, ← ih f (j + 1) _ _ (by omega) (by omega)]
        simp only [r_Ns_sort_L11, p1, if_neg c, chk_t i1, chk_t i2, t1, t2, lt_k, ah, Option.bind_some, jn, if_pos (show b2i false = 0 by decide), if_pos e2, nI_1]
      · have e2 : ¬ nI j = nI i := fun q => e ((nI_eq (by omega) (by omega)).mp q)
        rw [if_neg e, ← ih f (j + 1) _ _ (by omega) (by omega)]
        simp only [r_Ns_sort_L11, p1, if_neg c, chk_t i1, chk_t i2, t1, t2, lt_k, ah, Option.bind_some, jn, if_pos (show b2i false = 0 by decide), if_neg e2, nI_1]
/-- what the rules ask of noise i -/
def rvV (S : Sto) (p i : Nat) : Nat → Int32
  | 0 => S 94 i
  | 1 => S 95 i
  | 2 => (nsG (S 96) i p 0 9999 9999).1
  | 3 => (nsG (S 96) i p 0 9999 9999).2
  | _ => 0
def sor (S : Sto) (p : Nat) (ls : List (Nat × Cod)) (i : Nat) : Int32 := nI ((dec (rvV S p i) ls).getD 0)
theorem sort_B {nL : Nat} {S U : Sto} {p i : Nat} {ls : List (Nat × Cod)} (hS : Scr nL 4 S ls) (hp : p ≤ 20) (p1 : S 90 5 = nI p) (hi : i < p) (hU : Sx S U) : ∃ U', r_Ns_sort (nI i) U = some (sor S p ls i, U') ∧ Sx S U' := by
  have i1 : inr (nI i) 20 = true := inr_nI (by omega) (by decide)
  have t1 : (nI i).toNatClampNeg = i := q_tnI (by omega)
  have i0 : inr (0 : Int32) 4 = true := by decide
  have i2 : inr (1 : Int32) 4 = true := by decide
  have i3 : inr (2 : Int32) 4 = true := by decide
  have i4 : inr (3 : Int32) 4 = true := by decide
  have t0' : (0 : Int32).toNatClampNeg = 0 := by decide
  have t1' : (1 : Int32).toNatClampNeg = 1 := by decide
  have t2' : (2 : Int32).toNatClampNeg = 2 := by decide
  have t3' : (3 : Int32).toNatClampNeg = 3 := by decide
  have so := sort_L (U := U) hp hi (by rw [hU _ _ (by unfold Sc; omega)]; exact p1) p fu 0 9999 9999 (by omega) (by have : fu = 5000 := rfl; omega)
  have e96 : U 96 = S 96 := funext (fun k => hU _ _ (by unfold Sc; omega))
  rw [e96, show nI 0 = 0 from rfl] at so
  have e94 : U 94 i = S 94 i := hU _ _ (by unfold Sc; omega)
  have e95 : U 95 i = S 95 i := hU _ _ (by unfold Sc; omega)
  generalize hV : sw (sw (sw (sw U 98 0 (rvV S p i 0)) 98 1 (rvV S p i 1)) 98 2 (rvV S p i 2)) 98 3 (rvV S p i 3) = V
  have f2 : ∀ a j, a ≠ 98 → V a j = U a j := fun a j h => by
    rw [← hV]
    simp (disch := omega) only [rd_ne]
  have v2 : ∀ j, j < 4 → V 98 j = rvV S p i j := fun j hj => by
    rw [← hV]
    have : j = 0 ∨ j = 1 ∨ j = 2 ∨ j = 3 := by omega
    rcases this with rfl | rfl | rfl | rfl <;> simp (disch := omega) only [rd_ne, sw_same]
  have hVx : Sx S V := fun a j q => by unfold Sc at q; rw [f2 a j (by omega)]; exact hU a j (by unfold Sc; omega)
  obtain ⟨U', q1, q2⟩ := decide_B (vals := rvV S p i) (a1 := 98) (m1 := 4) (show 4 < 5 by omega) (hVx.scr (by omega) hS) (fun e => absurd rfl e) (fun _ => rfl) v2 (Or.inr rfl)
  refine ⟨U', ?_, hVx.frB (by omega) q2⟩
  rw [show scA 4 = 91 from rfl] at q1
  rw [show rvV S p i 0 = U 94 i from e94.symm, show rvV S p i 1 = U 95 i from e95.symm, show rvV S p i 2 = (nsG (S 96) i p 0 9999 9999).1 from rfl, show rvV S p i 3 = (nsG (S 96) i p 0 9999 9999).2 from rfl] at hV
  simp (disch := omega) only [r_Ns_sort, so, Option.bind_some, chk_t i1, chk_t i0, chk_t i2, chk_t i3, chk_t i4, t1, t0', t1', t2', t3', ltS_k, rd_ne, hV, q1]
  rfl
theorem min_i {a g : Int32} : r_Ma_min a g = if a ≤ g then a else g := by
  unfold r_Ma_min
  by_cases c : a ≤ g
  · rw [if_pos c, if_neg (by rw [q_lt]; rw [q_le] at c; omega)]
  · rw [if_neg c, if_pos (by rw [q_lt]; rw [q_le] at c; omega)]
theorem gap_M {S : Sto} {i p : Nat} (hp : p ≤ 20) (hi : i < p) (p2 : S 104 65 = nI p) (ht : ∀ j, j < p → S 142 j = S 96 j) : ∀ (d f j : Nat) (T : Sto), j + d = p → d < f → Sx S T → ∃ e T', r_M_soundsLike_L48 (nI i) f (nI j) T = some (e, T') ∧ T' 127 8 = (nsG (S 96) i d j (T 127 8) (T 127 9)).1 ∧ T' 127 9 = (nsG (S 96) i d j (T 127 8) (T 127 9)).2 ∧ ∀ a k, ¬ (a = 127 ∧ (k = 8 ∨ k = 9)) → T' a k = T a k := by
  have i1 : inr (nI i) 20 = true := inr_nI (by omega) (by decide)
  have t1 : (nI i).toNatClampNeg = i := q_tnI (by omega)
  have i8 : inr (8 : Int32) 10 = true := by decide
  have i9 : inr (9 : Int32) 10 = true := by decide
  have t8 : (8 : Int32).toNatClampNeg = 8 := by decide
  have t9 : (9 : Int32).toNatClampNeg = 9 := by decide
  intro d
  induction d with
  | zero =>
    intro f j T hj hf hT
    obtain ⟨f, rfl⟩ : ∃ g, f = g + 1 := ⟨f - 1, by omega⟩
    have e : j = p := by omega
    subst e
    have p2' : T 104 65 = nI j := by rw [hT _ _ (by unfold Sc; omega)]; exact p2
    exact ⟨nI j, T, by rw [r_M_soundsLike_L48, p2', if_pos (by rw [q_le]; omega)], rfl, rfl, fun _ _ _ => rfl⟩
  | succ d ih =>
    intro f j T hj hf hT
    obtain ⟨f, rfl⟩ : ∃ g, f = g + 1 := ⟨f - 1, by omega⟩
    have p2' : T 104 65 = nI p := by rw [hT _ _ (by unfold Sc; omega)]; exact p2
    have c : ¬ nI p ≤ nI j := nI_ge (by omega) (by omega)
    have i2 : inr (nI j) 20 = true := inr_nI (by omega) (by decide)
    have t2 : (nI j).toNatClampNeg = j := q_tnI (by omega)
    have ej : T 142 j = S 96 j := by rw [hT _ _ (by unfold Sc; omega)]; exact ht j (by omega)
    have ei : T 142 i = S 96 i := by rw [hT _ _ (by unfold Sc; omega)]; exact ht i (by omega)
    have skip : r_M_soundsLike_L48 (nI i) (f + 1) (nI j) T = r_M_soundsLike_L48 (nI i) f (nI (j + 1)) T → nsG (S 96) i (d + 1) j (T 127 8) (T 127 9) = nsG (S 96) i d (j + 1) (T 127 8) (T 127 9) → ∃ e T', r_M_soundsLike_L48 (nI i) (f + 1) (nI j) T = some (e, T') ∧ T' 127 8 = (nsG (S 96) i (d + 1) j (T 127 8) (T 127 9)).1 ∧ T' 127 9 = (nsG (S 96) i (d + 1) j (T 127 8) (T 127 9)).2 ∧ ∀ a k, ¬ (a = 127 ∧ (k = 8 ∨ k = 9)) → T' a k = T a k := by
      intro h1 h2
      rw [h1, h2]
      exact ih f (j + 1) T (by omega) (by omega) hT
    have go : ∀ (w : Nat) (g : Int32), w = 8 ∨ w = 9 → r_M_soundsLike_L48 (nI i) (f + 1) (nI j) T = r_M_soundsLike_L48 (nI i) f (nI (j + 1)) (sw T 127 w g) → nsG (S 96) i (d + 1) j (T 127 8) (T 127 9) = nsG (S 96) i d (j + 1) (sw T 127 w g 127 8) (sw T 127 w g 127 9) → ∃ e T', r_M_soundsLike_L48 (nI i) (f + 1) (nI j) T = some (e, T') ∧ T' 127 8 = (nsG (S 96) i (d + 1) j (T 127 8) (T 127 9)).1 ∧ T' 127 9 = (nsG (S 96) i (d + 1) j (T 127 8) (T 127 9)).2 ∧ ∀ a k, ¬ (a = 127 ∧ (k = 8 ∨ k = 9)) → T' a k = T a k := by
      intro w g hw h1 h2
      rw [h1, h2]
      obtain ⟨e, T', q1, q2, q3, q4⟩ := ih f (j + 1) (sw T 127 w g) (by omega) (by omega) (hT.sw (by unfold Sc; omega))
      exact ⟨e, T', q1, q2, q3, fun a k h => by rw [q4 a k h, rd_ne (by omega)]⟩
    by_cases e : j = i
    · have e2 : nI j = nI i := by rw [e]
      have k : ahN (S 96) j i = false := by
        unfold ahN
        rw [e, decide_eq_false (by rw [q_lt]; omega), decide_eq_false (show ¬ i < i by omega)]
        simp
      refine skip ?_ (by rw [nsG, k, if_neg (by decide), if_pos e])
      simp only [r_M_soundsLike_L48, p2', if_neg c, if_pos e2, jn, lt_k, nI_1]
    · have e2 : ¬ nI j = nI i := fun q => e ((nI_eq (by omega) (by omega)).mp q)
      generalize hg : r_Ma_abs (S 96 j - S 96 i) = g
      have v3 : ∀ (R : Int32 → Option (Int32 × Sto)), (if S 96 j < S 96 i then R 1 else if S 96 j = S 96 i then (if nI i ≤ nI j then R 0 else R 1) else R 0) = R (b2i (ahN (S 96) j i)) := by
        intro R
        unfold ahN
        by_cases c1 : S 96 j < S 96 i
        · rw [if_pos c1, decide_eq_true c1]; rfl
        · rw [if_neg c1, decide_eq_false c1, Bool.false_or]
          by_cases c2 : S 96 j = S 96 i
          · rw [if_pos c2, decide_eq_true c2, Bool.true_and]
            by_cases c3 : j < i
            · rw [decide_eq_true c3, if_neg (nI_ge c3 (by omega))]; rfl
            · rw [decide_eq_false c3, if_pos (nI_le (by omega) (by omega))]; rfl
          · rw [if_neg c2, decide_eq_false c2]; rfl
      have base : r_M_soundsLike_L48 (nI i) (f + 1) (nI j) T = (fun v => if v = 0 then (if T 127 9 ≤ g then r_M_soundsLike_L48 (nI i) f (nI (j + 1)) T else r_M_soundsLike_L48 (nI i) f (nI (j + 1)) (sw T 127 9 g)) else (if T 127 8 ≤ g then r_M_soundsLike_L48 (nI i) f (nI (j + 1)) T else r_M_soundsLike_L48 (nI i) f (nI (j + 1)) (sw T 127 8 g))) (b2i (ahN (S 96) j i)) := by
        refine Eq.trans ?_ (v3 (fun v => if v = 0 then (if T 127 9 ≤ g then r_M_soundsLike_L48 (nI i) f (nI (j + 1)) T else r_M_soundsLike_L48 (nI i) f (nI (j + 1)) (sw T 127 9 g)) else (if T 127 8 ≤ g then r_M_soundsLike_L48 (nI i) f (nI (j + 1)) T else r_M_soundsLike_L48 (nI i) f (nI (j + 1)) (sw T 127 8 g))))
        simp only [r_M_soundsLike_L48, p2', if_neg c, if_neg e2, jn, lt_k, ltS_k, nI_1, chk_t i1, chk_t i2, t1, t2, ej, ei, size_abs, hg, chk_t i8, chk_t i9, t8, t9]
      simp only at base
      cases k : ahN (S 96) j i with
      | true =>
        rw [k, if_neg (show ¬ b2i true = 0 by decide)] at base
        have en : nsG (S 96) i (d + 1) j (T 127 8) (T 127 9) = nsG (S 96) i d (j + 1) (r_Ma_min (T 127 8) g) (T 127 9) := by rw [nsG, k, if_pos rfl, hg]
        by_cases cl : T 127 8 ≤ g
        · rw [if_pos cl] at base
          exact skip base (by rw [en, min_i, if_pos cl])
        · rw [if_neg cl] at base
          exact go 8 g (Or.inl rfl) base (by rw [en, min_i, if_neg cl, sw_same, rd_ne (by omega)])
      | false =>
        rw [k, if_pos (show b2i false = 0 by decide)] at base
        have en : nsG (S 96) i (d + 1) j (T 127 8) (T 127 9) = nsG (S 96) i d (j + 1) (T 127 8) (r_Ma_min (T 127 9) g) := by rw [nsG, k, if_neg (by decide), if_neg e, hg]
        by_cases cl : T 127 9 ≤ g
        · rw [if_pos cl] at base
          exact skip base (by rw [en, min_i, if_pos cl])
        · rw [if_neg cl] at base
          exact go 9 g (Or.inr rfl) base (by rw [en, min_i, if_neg cl, sw_same, rd_ne (by omega)])
theorem sound_M {nL : Nat} {S T : Sto} {p i : Nat} {ls : List (Nat × Cod)} (hS : Scr nL 4 S ls) (hp : p ≤ 20) (p2 : S 104 65 = nI p) (ht : ∀ j, j < p → S 140 j = S 94 j ∧ S 141 j = S 95 j ∧ S 142 j = S 96 j) (hi : i < p) (hT : Sx S T) : ∃ T', r_M_soundsLike (nI i) T = some (sor S p ls i, T') ∧ Sx S T' := by
  have i1 : inr (nI i) 20 = true := inr_nI (by omega) (by decide)
  have t1 : (nI i).toNatClampNeg = i := q_tnI (by omega)
  have i6 : inr (6 : Int32) 10 = true := by decide
  have i7 : inr (7 : Int32) 10 = true := by decide
  have i8 : inr (8 : Int32) 10 = true := by decide
  have i9 : inr (9 : Int32) 10 = true := by decide
  have t6 : (6 : Int32).toNatClampNeg = 6 := by decide
  have t7 : (7 : Int32).toNatClampNeg = 7 := by decide
  have t8 : (8 : Int32).toNatClampNeg = 8 := by decide
  have t9 : (9 : Int32).toNatClampNeg = 9 := by decide
  have e0 : T 140 i = S 94 i := by rw [hT _ _ (by unfold Sc; omega)]; exact (ht i hi).1
  have e1 : T 141 i = S 95 i := by rw [hT _ _ (by unfold Sc; omega)]; exact (ht i hi).2.1
  generalize hV : sw (sw (sw (sw T 127 6 (S 94 i)) 127 7 (S 95 i)) 127 8 9999) 127 9 9999 = V
  have f2 : ∀ a j, a ≠ 127 → V a j = T a j := fun a j h => by
    rw [← hV]
    simp (disch := omega) only [rd_ne]
  have w6 : V 127 6 = S 94 i := by rw [← hV]; simp (disch := omega) only [rd_ne, sw_same]
  have w7 : V 127 7 = S 95 i := by rw [← hV]; simp (disch := omega) only [rd_ne, sw_same]
  have w8 : V 127 8 = 9999 := by rw [← hV]; simp (disch := omega) only [rd_ne, sw_same]
  have w9 : V 127 9 = 9999 := by rw [← hV]; simp (disch := omega) only [rd_ne, sw_same]
  have hVx : Sx S V := fun a j q => by unfold Sc at q; rw [f2 a j (by omega)]; exact hT a j (by unfold Sc; omega)
  obtain ⟨e, W, q1, q2, q3, q4⟩ := gap_M hp hi p2 (fun j hj => (ht j hj).2.2) p fu 0 V (by omega) (by have : fu = 5000 := rfl; omega) hVx
  rw [w8, w9] at q2 q3
  rw [show nI 0 = 0 from rfl] at q1
  have hWx : Sx S W := fun a j q => by unfold Sc at q; rw [q4 a j (by omega)]; exact hVx a j (by unfold Sc; omega)
  obtain ⟨T', r1, r2⟩ := firstSo_M (vals := rvV S p i) (m1 := 4) (show 4 < 5 by omega) (hWx.scr (by omega) hS) (fun e => absurd rfl e) (fun _ => rfl) (fun j hj => by
    rw [if_pos rfl]
    have : j = 0 ∨ j = 1 ∨ j = 2 ∨ j = 3 := by omega
    rcases this with rfl | rfl | rfl | rfl
    · rw [q4 _ _ (by omega)]; exact w6
    · rw [q4 _ _ (by omega)]; exact w7
    · exact q2
    · exact q3)
  have r1' : r_M_firstSo 4 W = some (frsM 4 (dec (rvV S p i) ls), T') := r1
  refine ⟨T', ?_, fun a j q => by unfold Sc at q; rw [r2 a j (by omega)]; exact hWx a j (by unfold Sc; omega)⟩
  simp (disch := omega) only [r_M_soundsLike, chk_t i1, t1, chk_t i6, chk_t i7, chk_t i8, chk_t i9, t6, t7, t8, t9, ltS_k, rd_ne, e0, e1, hV, q1, Option.bind_some, r1']
  unfold sor
  cases hd : dec (rvV S p i) ls with
  | none => rfl
  | some r =>
    have hr := hS.le hd
    have hr1 := hr.2 rfl
    have : r = 1 ∨ r = 2 ∨ r = 3 := by omega
    rcases this with rfl | rfl | rfl <;> rfl
def nq0 (S : Sto) (p : Nat) (ls : List (Nat × Cod)) (i : Nat) : Bool := !decide (S 97 i = 1) && decide (sor S p ls i = 1)
def nq1 (S : Sto) (p : Nat) (ls : List (Nat × Cod)) (i : Nat) : Bool := decide (S 97 i = 1) && !decide (sor S p ls i = 1)
theorem sent_L {nL : Nat} {S : Sto} {p : Nat} {ls : List (Nat × Cod)} (hS : Scr nL 4 S ls) (hp : p ≤ 20) (p1 : S 90 5 = nI p) : ∀ (d f i c : Nat) (U : Sto), i + d = p → d < f → Sx S U → ∃ e U', r_Ns_countSentWrongly_L4 f (nI c) (nI i) U = some (nI (cntP (nq0 S p ls) d i c), e, U') ∧ Sx S U' := by
  intro d
  induction d with
  | zero =>
    intro f i c U hi hf hU
    obtain ⟨f, rfl⟩ : ∃ g, f = g + 1 := ⟨f - 1, by omega⟩
    have e : i = p := by omega
    have c1 : U 90 5 ≤ nI i := by rw [hU _ _ (by unfold Sc; omega), p1, e, q_le]; omega
    exact ⟨nI i, U, by rw [r_Ns_countSentWrongly_L4, if_pos c1]; rfl, hU⟩
  | succ d ih =>
    intro f i c U hi hf hU
    obtain ⟨f, rfl⟩ : ∃ g, f = g + 1 := ⟨f - 1, by omega⟩
    have c1 : ¬ U 90 5 ≤ nI i := by rw [hU _ _ (by unfold Sc; omega), p1]; exact nI_ge (by omega) (by omega)
    have i1 : inr (nI i) 20 = true := inr_nI (by omega) (by decide)
    have t1 : (nI i).toNatClampNeg = i := q_tnI (by omega)
    have e97 : U 97 i = S 97 i := hU _ _ (by unfold Sc; omega)
    rw [cntP]
    by_cases k : S 97 i = 1
    · have ek : nq0 S p ls i = false := by unfold nq0; rw [decide_eq_true k]; rfl
      obtain ⟨e, U', q1, q2⟩ := ih f (i + 1) c U (by omega) (by omega) hU
      refine ⟨e, U', ?_, q2⟩
      rw [ek, if_neg (by decide), ← q1]
      simp only [r_Ns_countSentWrongly_L4, if_neg c1, chk_t i1, t1, e97, if_pos k, jn, lt_k, nI_1]
    · obtain ⟨U1, v1, v2⟩ := sort_B hS hp p1 (show i < p by omega) hU
      by_cases ks : sor S p ls i = 1
      · have ek : nq0 S p ls i = true := by unfold nq0; rw [decide_eq_false k, decide_eq_true ks]; rfl
        obtain ⟨e, U', q1, q2⟩ := ih f (i + 1) (c + 1) U1 (by omega) (by omega) v2
        refine ⟨e, U', ?_, q2⟩
        rw [ek, if_pos rfl, ← q1]
        simp only [r_Ns_countSentWrongly_L4, if_neg c1, chk_t i1, t1, e97, if_neg k, v1, Option.bind_some, if_pos ks, jn, lt_k, nI_1]
      · have ek : nq0 S p ls i = false := by unfold nq0; rw [decide_eq_false k, decide_eq_false ks]; rfl
        obtain ⟨e, U', q1, q2⟩ := ih f (i + 1) c U1 (by omega) (by omega) v2
        refine ⟨e, U', ?_, q2⟩
        rw [ek, if_neg (by decide), ← q1]
        simp only [r_Ns_countSentWrongly_L4, if_neg c1, chk_t i1, t1, e97, if_neg k, v1, Option.bind_some, if_neg ks, jn, lt_k, nI_1]
theorem miss_L {nL : Nat} {S : Sto} {p : Nat} {ls : List (Nat × Cod)} (hS : Scr nL 4 S ls) (hp : p ≤ 20) (p1 : S 90 5 = nI p) : ∀ (d f i c : Nat) (U : Sto), i + d = p → d < f → Sx S U → ∃ e U', r_Ns_countMissed_L4 f (nI c) (nI i) U = some (nI (cntP (nq1 S p ls) d i c), e, U') ∧ Sx S U' := by
  intro d
  induction d with
  | zero =>
    intro f i c U hi hf hU
    obtain ⟨f, rfl⟩ : ∃ g, f = g + 1 := ⟨f - 1, by omega⟩
    have e : i = p := by omega
    have c1 : U 90 5 ≤ nI i := by rw [hU _ _ (by unfold Sc; omega), p1, e, q_le]; omega
    exact ⟨nI i, U, by rw [r_Ns_countMissed_L4, if_pos c1]; rfl, hU⟩
  | succ d ih =>
    intro f i c U hi hf hU
    obtain ⟨f, rfl⟩ : ∃ g, f = g + 1 := ⟨f - 1, by omega⟩
    have c1 : ¬ U 90 5 ≤ nI i := by rw [hU _ _ (by unfold Sc; omega), p1]; exact nI_ge (by omega) (by omega)
    have i1 : inr (nI i) 20 = true := inr_nI (by omega) (by decide)
    have t1 : (nI i).toNatClampNeg = i := q_tnI (by omega)
    have e97 : U 97 i = S 97 i := hU _ _ (by unfold Sc; omega)
    rw [cntP]
    by_cases k : S 97 i = 1
    · obtain ⟨U1, v1, v2⟩ := sort_B hS hp p1 (show i < p by omega) hU
      by_cases ks : sor S p ls i = 1
      · have ek : nq1 S p ls i = false := by unfold nq1; rw [decide_eq_true k, decide_eq_true ks]; rfl
        obtain ⟨e, U', q1, q2⟩ := ih f (i + 1) c U1 (by omega) (by omega) v2
        refine ⟨e, U', ?_, q2⟩
        rw [ek, if_neg (by decide), ← q1]
        simp only [r_Ns_countMissed_L4, if_neg c1, chk_t i1, t1, e97, if_pos k, v1, Option.bind_some, if_pos ks, jn, lt_k, nI_1]
      · have ek : nq1 S p ls i = true := by unfold nq1; rw [decide_eq_true k, decide_eq_false ks]; rfl
        obtain ⟨e, U', q1, q2⟩ := ih f (i + 1) (c + 1) U1 (by omega) (by omega) v2
        refine ⟨e, U', ?_, q2⟩
        rw [ek, if_pos rfl, ← q1]
        simp only [r_Ns_countMissed_L4, if_neg c1, chk_t i1, t1, e97, if_pos k, v1, Option.bind_some, if_neg ks, jn, lt_k, nI_1]
    · have ek : nq1 S p ls i = false := by unfold nq1; rw [decide_eq_false k]; rfl
      obtain ⟨e, U', q1, q2⟩ := ih f (i + 1) c U (by omega) (by omega) hU
      refine ⟨e, U', ?_, q2⟩
      rw [ek, if_neg (by decide), ← q1]
      simp only [r_Ns_countMissed_L4, if_neg c1, chk_t i1, t1, e97, if_neg k, jn, lt_k, nI_1]
theorem noi_LM {nL : Nat} {S : Sto} {p w : Nat} {ls : List (Nat × Cod)} (hw : w < 2) (hS : Scr nL 4 S ls) (hp : p ≤ 20) (p2 : S 104 65 = nI p) (ht : ∀ j, j < p → S 140 j = S 94 j ∧ S 141 j = S 95 j ∧ S 142 j = S 96 j) (h97 : ∀ j, j < p → S 143 j = S 97 j) : ∀ (d f i c : Nat) (T : Sto), i + d = p → d < f → Sx S T → ∃ e T', r_M_noises_L47 (nI w) f (nI c) (nI i) T = some (nI (cntP (if w = 0 then nq0 S p ls else nq1 S p ls) d i c), e, T') ∧ Sx S T' := by
  intro d
  induction d with
  | zero =>
    intro f i c U hi hf hU
    obtain ⟨f, rfl⟩ : ∃ g, f = g + 1 := ⟨f - 1, by omega⟩
    have e : i = p := by omega
    have c1 : U 104 65 ≤ nI i := by rw [hU _ _ (by unfold Sc; omega), p2, e, q_le]; omega
    exact ⟨nI i, U, by rw [r_M_noises_L47, if_pos c1]; rfl, hU⟩
  | succ d ih =>
    intro f i c U hi hf hU
    obtain ⟨f, rfl⟩ : ∃ g, f = g + 1 := ⟨f - 1, by omega⟩
    have c1 : ¬ U 104 65 ≤ nI i := by rw [hU _ _ (by unfold Sc; omega), p2]; exact nI_ge (by omega) (by omega)
    have i1 : inr (nI i) 20 = true := inr_nI (by omega) (by decide)
    have t1 : (nI i).toNatClampNeg = i := q_tnI (by omega)
    obtain ⟨U1, v1, v2⟩ := sound_M hS hp p2 ht (show i < p by omega) hU
    have e97 : U1 143 i = S 97 i := by rw [v2 _ _ (by unfold Sc; omega)]; exact h97 i (by omega)
    have n10 : ¬ (1 : Int32) = 0 := by decide
    obtain ⟨e, U', q1, q2⟩ := ih f (i + 1) (if (if w = 0 then nq0 S p ls else nq1 S p ls) i = true then c + 1 else c) U1 (by omega) (by omega) v2
    refine ⟨e, U', ?_, q2⟩
    rw [cntP, ← q1]
    have hw2 : w = 0 ∨ w = 1 := by omega
    rcases hw2 with rfl | rfl
    · have w0 : nI 0 = 0 := rfl
      have eW : (if (0 : Nat) = 0 then nq0 S p ls else nq1 S p ls) = nq0 S p ls := rfl
      rw [eW]
      by_cases k : S 97 i = 1 <;> by_cases ks : sor S p ls i = 1
      · have ek : nq0 S p ls i = false := by unfold nq0; rw [decide_eq_true k]; rfl
        rw [ek, if_neg (by decide)]
        simp only [r_M_noises_L47, if_neg c1, v1, Option.bind_some, if_pos ks, jn, if_pos w0, if_neg n10, chk_t i1, t1, e97, if_pos k, lt_k, nI_1]
      · have ek : nq0 S p ls i = false := by unfold nq0; rw [decide_eq_true k]; rfl
        rw [ek, if_neg (by decide)]
        simp only [r_M_noises_L47, if_neg c1, v1, Option.bind_some, if_neg ks, jn, if_pos w0, ite_true, lt_k, nI_1]
      · have ek : nq0 S p ls i = true := by unfold nq0; rw [decide_eq_false k, decide_eq_true ks]; rfl
        rw [ek, if_pos rfl]
        simp only [r_M_noises_L47, if_neg c1, v1, Option.bind_some, if_pos ks, jn, if_pos w0, if_neg n10, chk_t i1, t1, e97, if_neg k, lt_k, nI_1]
      · have ek : nq0 S p ls i = false := by unfold nq0; rw [decide_eq_false k, decide_eq_false ks]; rfl
        rw [ek, if_neg (by decide)]
        simp only [r_M_noises_L47, if_neg c1, v1, Option.bind_some, if_neg ks, jn, if_pos w0, ite_true, lt_k, nI_1]
    · have w0 : ¬ nI 1 = 0 := by decide
      have eW : (if (1 : Nat) = 0 then nq0 S p ls else nq1 S p ls) = nq1 S p ls := rfl
      rw [eW]
      by_cases k : S 97 i = 1 <;> by_cases ks : sor S p ls i = 1
      · have ek : nq1 S p ls i = false := by unfold nq1; rw [decide_eq_true k, decide_eq_true ks]; rfl
        rw [ek, if_neg (by decide)]
        simp only [r_M_noises_L47, if_neg c1, v1, Option.bind_some, if_pos ks, jn, if_neg w0, if_neg n10, lt_k, nI_1]
      · have ek : nq1 S p ls i = true := by unfold nq1; rw [decide_eq_true k, decide_eq_false ks]; rfl
        rw [ek, if_pos rfl]
        simp only [r_M_noises_L47, if_neg c1, v1, Option.bind_some, if_neg ks, jn, if_neg w0, ite_true, chk_t i1, t1, e97, if_pos k, lt_k, nI_1]
      · have ek : nq1 S p ls i = false := by unfold nq1; rw [decide_eq_false k]; rfl
        rw [ek, if_neg (by decide)]
        simp only [r_M_noises_L47, if_neg c1, v1, Option.bind_some, if_pos ks, jn, if_neg w0, if_neg n10, lt_k, nI_1]
      · have ek : nq1 S p ls i = false := by unfold nq1; rw [decide_eq_false k]; rfl
        rw [ek, if_neg (by decide)]
        simp only [r_M_noises_L47, if_neg c1, v1, Option.bind_some, if_neg ks, jn, if_neg w0, ite_true, chk_t i1, t1, e97, if_neg k, lt_k, nI_1]
theorem st_noises {nL : Nat} {S : Sto} (h : Iv nL S) (x1 : Int32) : ∃ (r : Int32) (S1 : Sto) (S2 : Sto), r_B_noises x1 S = some (r, S1) ∧ r_M_noises x1 S1 = some (r, S2) ∧ Iv nL S2 := by
  obtain ⟨p, hp, p1, p2, p3⟩ := h.2.2.2.2.2.2.2.2.2.2.1
  obtain ⟨ls, hS⟩ := h.2.2.2.2.2.2.2.2.2.2.2.2.2 4 (by omega)
  have ht : ∀ j, j < p → S 140 j = S 94 j ∧ S 141 j = S 95 j ∧ S 142 j = S 96 j := fun j hj => ⟨(p3 j hj).1, (p3 j hj).2.1, (p3 j hj).2.2.1⟩
  have h97 : ∀ j, j < p → S 143 j = S 97 j := fun j hj => (p3 j hj).2.2.2.1
  have l10 : (10 : Int32).toInt = 10 := by decide
  have e65 : ∀ U, Sx S U → sw U 104 0 0 104 65 = nI p := fun U hU => by rw [rd_ne (by omega), hU _ _ (by unfold Sc; omega)]; exact p2
  have fuv : fu = 5000 := rfl
  have inM : ∀ x : Int32, r_M_isIn x 10 (9 + nI p) = 0 ↔ ¬ (10 ≤ x.toInt ∧ x.toInt ≤ 9 + p) := fun x => by
    rw [iM_0, l10, show (9 + nI p : Int32).toInt = 9 + p from add_n (c := 9) (by omega) (by omega)]
  by_cases k0 : x1 = 0
  · obtain ⟨e, U', q1, q2⟩ := sent_L hS hp p1 p fu 0 0 S (by omega) (by omega) Sx.rf
    obtain ⟨e2, T', q3, q4⟩ := noi_LM (w := 0) (by omega) hS hp p2 ht h97 p fu 0 0 (sw U' 104 0 0) (by omega) (by omega) (q2.sw (by unfold Sc; omega))
    rw [show nI 0 = 0 from rfl] at q1 q3
    have z1 : r_M_isIn x1 10 (9 + nI p) = 0 := (inM x1).mpr (by rw [k0, z_0]; omega)
    have z2 : ¬ r_M_isIn x1 0 1 = 0 := by rw [k0]; decide
    refine ⟨nI (cntP (nq0 S p ls) p 0 0), U', T', ?_, ?_, q4.iv h⟩
    · simp only [r_B_noises, if_pos k0, r_Ns_countSentWrongly, q1, Option.bind_some]
    · simp only [r_M_noises, ltS_k, e65 U' q2, if_pos z1, if_neg z2]
      rw [k0, q3]
      rfl
  by_cases k1 : x1 = 1
  · obtain ⟨e, U', q1, q2⟩ := miss_L hS hp p1 p fu 0 0 S (by omega) (by omega) Sx.rf
    obtain ⟨e2, T', q3, q4⟩ := noi_LM (w := 1) (by omega) hS hp p2 ht h97 p fu 0 0 (sw U' 104 0 0) (by omega) (by omega) (q2.sw (by unfold Sc; omega))
    rw [show nI 0 = 0 from rfl] at q1 q3
    rw [show nI 1 = 1 from rfl] at q3
    have z1 : r_M_isIn x1 10 (9 + nI p) = 0 := (inM x1).mpr (by rw [k1, show (1 : Int32).toInt = 1 by decide]; omega)
    have z2 : ¬ r_M_isIn x1 0 1 = 0 := by rw [k1]; decide
    refine ⟨nI (cntP (nq1 S p ls) p 0 0), U', T', ?_, ?_, q4.iv h⟩
    · simp only [r_B_noises, if_neg k0, if_pos k1, r_Ns_countMissed, q1, Option.bind_some]
    · simp only [r_M_noises, ltS_k, e65 U' q2, if_pos z1, if_neg z2]
      rw [k1, q3]
      rfl
  have eB : r_B_within x1 10 ((10 + nI p) - 1) = 0 ↔ ¬ (10 ≤ x1.toInt ∧ x1.toInt ≤ 9 + p) := by
    have a1 : (10 + nI p : Int32).toInt = 10 + p := add_n (c := 10) (by omega) (by omega)
    have a2 : ((10 + nI p : Int32) - 1).toInt = 9 + p := by
      have e1 : (1 : Int32).toInt = 1 := by decide
      rw [q_sub (by omega) (by omega), a1, e1]; omega
    rw [win_0, l10, a2]
  by_cases kin : 10 ≤ x1.toInt ∧ x1.toInt ≤ 9 + p
  · have e10 : (nI 10).toInt = 10 := by decide
    obtain ⟨i, hi, hx⟩ : ∃ i, i < p ∧ x1 - 10 = nI i := by
      refine ⟨(x1.toInt - 10).toNat, by omega, ?_⟩
      rw [q_eq, show (10 : Int32) = nI 10 from rfl, q_sub (by omega) (by omega), e10, q_n (by omega)]
      omega
    obtain ⟨U', q1, q2⟩ := sort_B hS hp p1 hi Sx.rf
    obtain ⟨T', q3, q4⟩ := sound_M hS hp p2 ht hi (q2.sw (a := 104) (k := 0) (x := 0) (by unfold Sc; omega))
    refine ⟨sor S p ls i, U', T', ?_, ?_, q4.iv h⟩
    · simp only [r_B_noises, if_neg k0, if_neg k1, p1, if_neg (fun z => eB.mp z kin), hx, q1, Option.bind_some]
    · simp only [r_M_noises, ltS_k, e65 U' q2, if_neg (fun z => (inM x1).mp z kin), hx, q3, Option.bind_some]
  · have z2 : r_M_isIn x1 0 1 = 0 := by
      rw [iM_0, z_0, show (1 : Int32).toInt = 1 by decide]
      intro q
      have : x1.toInt = 0 ∨ x1.toInt = 1 := by omega
      rcases this with e | e
      · exact k0 (by rw [q_eq, e, z_0])
      · exact k1 (by rw [q_eq, e]; decide)
    exact ⟨-1, S, sw S 104 0 0, by simp only [r_B_noises, if_neg k0, if_neg k1, p1, if_pos (eB.mpr kin)], by simp only [r_M_noises, ltS_k, e65 S Sx.rf, if_pos ((inM x1).mpr kin), if_pos z2], h.t0⟩
