/-! what waits between claims: or on nothing or a bracket, and on these or an or -/
def hd0 : List Nat → Nat
  | [] => 0
  | a :: _ => a
def wfW : List Nat → Prop
  | [] => True
  | a :: W => (a = 3 ∨ a = 40 ∨ (a = 1 ∧ (hd0 W = 0 ∨ hd0 W = 40)) ∨ (a = 2 ∧ (hd0 W = 0 ∨ hd0 W = 40 ∨ hd0 W = 1))) ∧ wfW W
def c40 : List Nat → Nat
  | [] => 0
  | a :: W => c40 W + (if a = 40 then 1 else 0)
def kW : List Nat → List Bool
  | [] => []
  | a :: W => if a = 1 ∨ a = 2 then true :: kW W else kW W
def mpW (a : Nat) : Nat := if a = 1 then 11 else if a = 2 then 10 else if a = 3 then 9 else 12
theorem wf_len : ∀ {W : List Nat}, wfW W → W.length ≤ c3 W + 3 * c40 W + 2 ∧ (hd0 W = 0 ∨ hd0 W = 40 → W.length ≤ c3 W + 3 * c40 W) ∧ (hd0 W = 1 → W.length ≤ c3 W + 3 * c40 W + 1) := by
  intro W
  induction W with
  | nil => intro _; exact ⟨Nat.zero_le _, fun _ => Nat.zero_le _, fun _ => Nat.zero_le _⟩
  | cons a W ih =>
    rintro ⟨h, hw⟩
    obtain ⟨i1, i2, i3⟩ := ih hw
    rw [List.length_cons, c3, c40]
    show _ ∧ (a = 0 ∨ a = 40 → _) ∧ (a = 1 → _)
    rcases h with rfl | rfl | ⟨rfl, h⟩ | ⟨rfl, h⟩
    · rw [if_pos rfl, if_neg (by decide)]
      exact ⟨by omega, fun z => by omega, fun z => by omega⟩
    · rw [if_neg (by decide), if_pos rfl]
      exact ⟨by omega, fun z => by omega, fun z => by omega⟩
    · have := i2 h
      rw [if_neg (by decide), if_neg (by decide)]
      exact ⟨by omega, fun z => by omega, fun z => by omega⟩
    · rw [if_neg (by decide), if_neg (by decide)]
      have : W.length ≤ c3 W + 3 * c40 W + 1 := by
        rcases h with h | h | h
        · have := i2 (Or.inl h); omega
        · have := i2 (Or.inr h); omega
        · exact i3 h
      exact ⟨by omega, fun z => by omega, fun z => by omega⟩
theorem wf_mem : ∀ {W : List Nat}, wfW W → ∀ a ∈ W, a = 1 ∨ a = 2 ∨ a = 3 ∨ a = 40 := by
  intro W
  induction W with
  | nil => intro _ a q; cases q
  | cons a W ih =>
    rintro ⟨h, hw⟩ b hb
    rcases List.mem_cons.mp hb with z | z
    · omega
    · exact ih hw b z
theorem wf_nil : ∀ {W : List Nat}, wfW W → hd0 W = 0 → W = [] := by
  intro W
  cases W with
  | nil => intro _ _; rfl
  | cons a W =>
    rintro ⟨h, hw⟩ z
    have : a = 0 := z
    omega
theorem kW_len : ∀ {W : List Nat}, (kW W).length ≤ W.length := by
  intro W
  induction W with
  | nil => exact Nat.le_refl _
  | cons a W ih =>
    rw [kW, List.length_cons]
    split
    · rw [List.length_cons]; omega
    · omega
theorem c9_W : ∀ {P : List Nat}, wfW P → c9 (P.map mpW) = c3 P := by
  intro P
  induction P with
  | nil => intro _; rfl
  | cons a P ih =>
    rintro ⟨h, hw⟩
    rw [List.map_cons, c9, c3, ih hw]
    rcases h with rfl | rfl | ⟨rfl, -⟩ | ⟨rfl, -⟩ <;> rfl
theorem relP_rr {r r' : Nat} (h : r ≤ r') : ∀ (W : List Nat) (op : Nat) (C : Cod), relP r W op C = relP r (relP r' W op C).1 (relP r' W op C).2.1 (relP r' W op C).2.2 := by
  intro W
  induction W with
  | nil => intro op C; rfl
  | cons a W ih =>
    intro op C
    by_cases k : rnk a < r'
    · rw [show relP r' (a :: W) op C = (a :: W, op, C) by rw [relP, if_pos k]]
    · have e1 : relP r' (a :: W) op C = relP r' W (if a = 3 then op - 1 else op) (C ++ [(a, 0)]) := by rw [relP, if_neg k]
      have e2 : relP r (a :: W) op C = relP r W (if a = 3 then op - 1 else op) (C ++ [(a, 0)]) := by rw [relP, if_neg (by omega)]
      rw [e1, e2]
      exact ih _ _
theorem relP_h {r op : Nat} {W : List Nat} {C : Cod} (h : rnk (hd0 W) < r) : relP r W op C = (W, op, C) := by
  cases W with
  | nil => rfl
  | cons a W =>
    have h' : rnk a < r := h
    rw [relP, if_pos h']
theorem stM_h {y o : Nat} {P : List Nat} {R : Cod} (h : ¬ mpW (hd0 P) = y) : stM y (P.map mpW) o R = (P.map mpW, o, R) := by
  cases P with
  | nil => rfl
  | cons a W =>
    have h' : ¬ mpW a = y := h
    rw [List.map_cons, stM, if_neg h']
theorem rel1_op : ∀ (P : List Nat) (op : Nat) (C : Cod), c3 P + c40 P ≤ op → c40 P ≤ (relP 1 P op C).2.1 := by
  intro P
  induction P with
  | nil => intro op C _; exact Nat.zero_le _
  | cons a P ih =>
    intro op C h
    by_cases k : rnk a < 1
    · rw [relP, if_pos k]
      show c40 (a :: P) ≤ op
      omega
    · have n40 : ¬ a = 40 := fun z => k (by rw [z]; decide)
      rw [relP, if_neg k, c40, if_neg n40]
      rw [c3, c40, if_neg n40] at h
      have := ih (if a = 3 then op - 1 else op) (C ++ [(a, 0)]) (by split at h <;> split <;> omega)
      omega
theorem inP_W {P : List Nat} {op br : Nat} (h : wfW P) (ho : op = c3 P + c40 P) (hb : br = c40 P) (h8 : op ≤ 8) : inP P op br := by
  have hl := (wf_len h).1
  refine ⟨h8, by omega, by omega, by omega, wf_mem h, fun C => ?_⟩
  have := rel1_op P op C (by omega)
  omega
/-- what stays the same when signs go from what waits into the code -/
def Rw (law : Bool) (C0 : Cod) (P : List Nat) (D : Cod) (P2 : List Nat) (D2 : Cod) : Prop :=
  wfW P2 ∧ c3 P2 = c3 P ∧ c40 P2 = c40 P ∧ D2.length + P2.length = D.length + P.length ∧ (refL (offL law) D2).length + P2.length = (refL (offL law) D).length + P.length ∧ (KD law C0 D (true :: kW P) → KD law C0 D2 (true :: kW P2))
theorem Rw.rf {law : Bool} {C0 : Cod} {P : List Nat} {D : Cod} (h : wfW P) : Rw law C0 P D P D := ⟨h, rfl, rfl, rfl, rfl, id⟩
theorem Rw.tr {law : Bool} {C0 : Cod} {P P2 P3 : List Nat} {D D2 D3 : Cod} (h : Rw law C0 P D P2 D2) (g : Rw law C0 P2 D2 P3 D3) : Rw law C0 P D P3 D3 := by
  obtain ⟨h1, h2, h3, h4, h5, h6⟩ := h
  obtain ⟨g1, g2, g3, g4, g5, g6⟩ := g
  exact ⟨g1, g2.trans h2, g3.trans h3, g4.trans h4, g5.trans h5, fun z => g6 (h6 z)⟩
theorem Rw.jo {law : Bool} {C0 : Cod} {P : List Nat} {D : Cod} {a : Nat} (ha : a = 1 ∨ a = 2) (h : wfW P) : Rw law C0 (a :: P) D P (D ++ [(a, 0)]) := by
  have h3 : ¬ a = 3 := by omega
  have h40 : ¬ a = 40 := by omega
  refine ⟨h, by rw [c3, if_neg h3]; rfl, by rw [c40, if_neg h40]; rfl, by rw [List.length_append, List.length_singleton, List.length_cons]; omega, ?_, fun z => ?_⟩
  · rw [refL_1, List.length_append, List.length_cons]
    rcases ha with rfl | rfl <;> (show _ + 1 + _ = _; omega)
  · rw [kW, if_pos ha] at z
    exact z.jo ha
theorem and_L {law : Bool} {C0 D : Cod} {P : List Nat} {o : Nat} (h : wfW P) (hn : ¬ hd0 P = 3) : ∃ P2 D2, relP 2 P o D = (P2, o, D2) ∧ stM 10 (P.map mpW) o (refL (offL law) D) = (P2.map mpW, o, refL (offL law) D2) ∧ Rw law C0 P D P2 D2 ∧ (hd0 P2 = 0 ∨ hd0 P2 = 40 ∨ hd0 P2 = 1) := by
  have keep : rnk (hd0 P) < 2 → ¬ mpW (hd0 P) = 10 → (hd0 P = 0 ∨ hd0 P = 40 ∨ hd0 P = 1) → ∃ P2 D2, relP 2 P o D = (P2, o, D2) ∧ stM 10 (P.map mpW) o (refL (offL law) D) = (P2.map mpW, o, refL (offL law) D2) ∧ Rw law C0 P D P2 D2 ∧ (hd0 P2 = 0 ∨ hd0 P2 = 40 ∨ hd0 P2 = 1) :=
    fun k1 k2 k3 => ⟨P, D, relP_h k1, stM_h k2, Rw.rf h, k3⟩
  cases P with
  | nil => exact keep (by decide) (by decide) (Or.inl rfl)
  | cons a P =>
    obtain ⟨ha, hw⟩ := id h
    rcases ha with rfl | rfl | ⟨rfl, ha⟩ | ⟨rfl, ha⟩
    · exact absurd rfl hn
    · exact keep (show rnk 40 < 2 by decide) (show ¬ mpW 40 = 10 by decide) (Or.inr (Or.inl rfl))
    · exact keep (show rnk 1 < 2 by decide) (show ¬ mpW 1 = 10 by decide) (Or.inr (Or.inr rfl))
    · have k1 : rnk (hd0 P) < 2 ∧ ¬ mpW (hd0 P) = 10 := by rcases ha with z | z | z <;> (rw [z]; decide)
      have e1 : relP 2 (2 :: P) o D = (P, o, D ++ [(2, 0)]) := by rw [relP, if_neg (by decide), if_neg (by decide)]; exact relP_h k1.1
      have e2 : stM 10 ((2 :: P).map mpW) o (refL (offL law) D) = (P.map mpW, o, refL (offL law) (D ++ [(2, 0)])) := by
        rw [List.map_cons, stM, if_pos (show mpW 2 = 10 from rfl), if_neg (by decide), refL_1]
        exact stM_h k1.2
      exact ⟨P, _, e1, e2, Rw.jo (Or.inr rfl) hw, ha⟩
theorem or_L {law : Bool} {C0 D : Cod} {P : List Nat} {o : Nat} (h : wfW P) (hn : hd0 P = 0 ∨ hd0 P = 40 ∨ hd0 P = 1) : ∃ P2 D2, relP 1 P o D = (P2, o, D2) ∧ stM 11 (P.map mpW) o (refL (offL law) D) = (P2.map mpW, o, refL (offL law) D2) ∧ Rw law C0 P D P2 D2 ∧ (hd0 P2 = 0 ∨ hd0 P2 = 40) := by
  have keep : rnk (hd0 P) < 1 → ¬ mpW (hd0 P) = 11 → (hd0 P = 0 ∨ hd0 P = 40) → ∃ P2 D2, relP 1 P o D = (P2, o, D2) ∧ stM 11 (P.map mpW) o (refL (offL law) D) = (P2.map mpW, o, refL (offL law) D2) ∧ Rw law C0 P D P2 D2 ∧ (hd0 P2 = 0 ∨ hd0 P2 = 40) :=
    fun k1 k2 k3 => ⟨P, D, relP_h k1, stM_h k2, Rw.rf h, k3⟩
  cases P with
  | nil => exact keep (by decide) (by decide) (Or.inl rfl)
  | cons a P =>
    obtain ⟨ha, hw⟩ := id h
    have hn' : a = 0 ∨ a = 40 ∨ a = 1 := hn
    rcases ha with rfl | rfl | ⟨rfl, ha⟩ | ⟨rfl, ha⟩
    · omega
    · exact keep (show rnk 40 < 1 by decide) (show ¬ mpW 40 = 11 by decide) (Or.inr rfl)
    · have k1 : rnk (hd0 P) < 1 ∧ ¬ mpW (hd0 P) = 11 := by rcases ha with z | z <;> (rw [z]; decide)
      have e1 : relP 1 (1 :: P) o D = (P, o, D ++ [(1, 0)]) := by rw [relP, if_neg (by decide), if_neg (by decide)]; exact relP_h k1.1
      have e2 : stM 11 ((1 :: P).map mpW) o (refL (offL law) D) = (P.map mpW, o, refL (offL law) (D ++ [(1, 0)])) := by
        rw [List.map_cons, stM, if_pos (show mpW 1 = 11 from rfl), if_neg (by decide), refL_1]
        exact stM_h k1.2
      exact ⟨P, _, e1, e2, Rw.jo (Or.inl rfl) hw, ha⟩
    · omega
/-- both: the reference settles and, then or; the class all that is not below a bracket -/
theorem ao_L {law : Bool} {C0 D : Cod} {P : List Nat} {o : Nat} (h : wfW P) (hn : ¬ hd0 P = 3) : ∃ P2 D2 P3 D3, stM 10 (P.map mpW) o (refL (offL law) D) = (P2.map mpW, o, refL (offL law) D2) ∧ stM 11 (P2.map mpW) o (refL (offL law) D2) = (P3.map mpW, o, refL (offL law) D3) ∧ relP 1 P o D = (P3, o, D3) ∧ Rw law C0 P D P2 D2 ∧ Rw law C0 P D P3 D3 ∧ (hd0 P3 = 0 ∨ hd0 P3 = 40) := by
  obtain ⟨P2, D2, a1, a2, a3, a4⟩ := and_L (law := law) (C0 := C0) (D := D) (o := o) h hn
  obtain ⟨P3, D3, b1, b2, b3, b4⟩ := or_L (law := law) (C0 := C0) (D := D2) (o := o) a3.1 a4
  refine ⟨P2, D2, P3, D3, a2, b2, ?_, a3, a3.tr b3, b4⟩
  rw [relP_rr (show 1 ≤ 2 by decide), a1]
  exact b1
theorem not_L {law : Bool} {C0 : Cod} : ∀ {P : List Nat} {o : Nat} {D : Cod}, wfW P → ∃ P1 o1 D1, relP 3 P o D = (P1, o1, D1) ∧ stM 9 (P.map mpW) o (refL (offL law) D) = (P1.map mpW, o1, refL (offL law) D1) ∧ wfW P1 ∧ ¬ hd0 P1 = 3 ∧ (o = c3 P + c40 P → o1 = c3 P1 + c40 P1) ∧ c40 P1 = c40 P ∧ o1 ≤ o ∧ D1.length + P1.length = D.length + P.length ∧ (refL (offL law) D1).length + P1.length = (refL (offL law) D).length + P.length ∧ (KD law C0 D (true :: kW P) → KD law C0 D1 (true :: kW P1)) := by
  intro P
  induction P with
  | nil => intro o D h; exact ⟨[], o, D, rfl, rfl, trivial, by decide, id, rfl, Nat.le_refl _, rfl, rfl, id⟩
  | cons a P ih =>
    intro o D h
    obtain ⟨ha, hw⟩ := id h
    by_cases k : a = 3
    · subst k
      obtain ⟨P1, o1, D1, e1, e2, e3, e4, e5, e6, e7, e8, e9, e10⟩ := ih (o := o - 1) (D := D ++ [(3, 0)]) hw
      refine ⟨P1, o1, D1, ?_, ?_, e3, e4, fun z => e5 ?_, ?_, by omega, ?_, ?_, fun z => e10 ?_⟩
      · rw [relP, if_neg (by decide), if_pos rfl]; exact e1
      · rw [List.map_cons, stM, if_pos (show mpW 3 = 9 from rfl), if_pos rfl]
        rw [refL_1] at e2
        exact e2
      · rw [c3, c40, if_pos rfl, if_neg (by decide)] at z; omega
      · rw [e6, c40, if_neg (by decide)]; rfl
      · rw [e8, List.length_append, List.length_singleton, List.length_cons]; omega
      · rw [e9, refL_1, List.length_append, List.length_cons]
        show _ + 1 + _ = _
        omega
      · rw [kW, if_neg (by decide)] at z
        exact z.nt
    · have k1 : rnk a < 3 ∧ ¬ mpW a = 9 := by
        rcases ha with z | z | ⟨z, -⟩ | ⟨z, -⟩
        · exact absurd z k
        · rw [z]; decide
        · rw [z]; decide
        · rw [z]; decide
      exact ⟨a :: P, o, D, relP_h k1.1, stM_h k1.2, h, k, id, rfl, Nat.le_refl _, rfl, rfl, id⟩
