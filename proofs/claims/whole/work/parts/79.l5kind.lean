/-! kinds of a line's code while it is read; when a state is good -/
theorem tyL_ap : ∀ (a b : Cod) (st : List Bool), tyL (a ++ b) st = (tyL a st).bind (tyL b) := by
  intro a
  induction a with
  | nil => intro b st; rfl
  | cons q a ih =>
    intro b st
    rw [List.cons_append, tyL, tyL]
    cases tyC st q with
    | none => rfl
    | some s => exact ih b s
def KD (law : Bool) (C0 D : Cod) (s : List Bool) : Prop := ∃ L, D = C0 ++ L ∧ tyL L [] = some s ∧ (law = false → ∀ q ∈ L, q.1 = 13 → q.2 < 4)
theorem KD.ap {law : Bool} {C0 D : Cod} {s s' : List Bool} {q : Nat × Nat} (h : KD law C0 D s) (hq : tyC s q = some s') (h13 : law = false → q.1 = 13 → q.2 < 4) : KD law C0 (D ++ [q]) s' := by
  obtain ⟨L, e, t, g⟩ := h
  refine ⟨L ++ [q], by rw [e, List.append_assoc], by rw [tyL_ap, t, Option.bind_some, tyL, hq]; rfl, fun hl p hp k => ?_⟩
  rcases List.mem_append.mp hp with z | z
  · exact g hl p z k
  · rw [List.mem_singleton] at z
    rw [z] at k ⊢
    exact h13 hl k
theorem wmp_11 : ∀ v, v < 19 → wmp false v ≠ 11 := by decide
theorem tkT_11 {Bs : Nat → Nat} {m pos : Nat} (hm : m ≤ 400) (hp : pos ≤ m) : tkT Bs m false pos ≠ 11 := by
  rcases rk_c (law := false) (Bs := Bs) hm hp with ⟨k, t⟩ | ⟨k, t⟩ | ⟨k, kv, t⟩ | ⟨k, kv, kn, t⟩ | ⟨k, kv, kw, t⟩
  · omega
  · omega
  · rw [t]; exact wmp_11 _ kv
  · omega
  · omega
theorem KD.un {law : Bool} {Bs : Nat → Nat} {m pos : Nat} {C0 D : Cod} {s : List Bool} {q : Nat × Nat} (hm : m ≤ 400) (hp : pos ≤ m) (h : KD law C0 D s) (hs : s.length < 32) (hq : unR law (tkT Bs m law pos) (tkN Bs m pos) = some q) : KD law C0 (D ++ [q]) (false :: s) := by
  unfold unR at hq
  by_cases k : tkT Bs m law pos = 12
  · rw [if_pos k] at hq
    cases hq
    have := tkN_lt k
    refine h.ap ?_ (fun _ z => by have : (12 : Nat) = 13 := z; omega)
    unfold tyC
    rw [if_pos rfl, if_pos ⟨hs, by show tkN Bs m pos < 131072; omega⟩]
  · rw [if_neg k] at hq
    by_cases k2 : fvl1 law ≤ tkT Bs m law pos ∧ tkT Bs m law pos ≤ 11
    · rw [if_pos k2] at hq
      cases hq
      cases law with
      | true =>
        have f : fvl1 true = 6 := rfl
        refine h.ap ?_ (fun z => absurd z (by decide))
        unfold tyC
        rw [if_neg (by show ¬ 13 = 12; omega), if_pos rfl, if_pos ⟨hs, by show tkT Bs m true pos - fvl1 true < 6; omega⟩]
      | false =>
        have f : fvl1 false = 7 := rfl
        have n11 := tkT_11 (Bs := Bs) hm hp
        refine h.ap ?_ (fun _ _ => by show tkT Bs m false pos - fvl1 false < 4; omega)
        unfold tyC
        rw [if_neg (by show ¬ 13 = 12; omega), if_pos rfl, if_pos ⟨hs, by show tkT Bs m false pos - fvl1 false < 6; omega⟩]
    · rw [if_neg k2] at hq; cases hq
theorem KD.ar {law : Bool} {C0 D : Cod} {s : List Bool} {a : Nat} (h : KD law C0 D (false :: false :: s)) (ha : a = 43 ∨ a = 45 ∨ a = 42) : KD law C0 (D ++ [(a, 0)]) (false :: s) := by
  refine h.ap ?_ (fun _ z => by have : a = 13 := z; omega)
  rcases ha with rfl | rfl | rfl <;> rfl
theorem KD.cm {law : Bool} {C0 D : Cod} {s : List Bool} {a : Nat} (h : KD law C0 D (false :: false :: s)) (ha : a = 60 ∨ a = 61 ∨ a = 62) : KD law C0 (D ++ [(a, 0)]) (true :: s) := by
  refine h.ap ?_ (fun _ z => by have : a = 13 := z; omega)
  rcases ha with rfl | rfl | rfl <;> rfl
theorem KD.dv {law : Bool} {C0 D : Cod} {s : List Bool} {n : Nat} (h : KD law C0 D (false :: s)) (h0 : 0 < n) (h1 : n < 131072) : KD law C0 (D ++ [(47, n)]) (false :: s) := by
  refine h.ap ?_ (fun _ z => by have : (47 : Nat) = 13 := z; omega)
  unfold tyC
  rw [if_neg (by show ¬ 47 = 12; omega), if_neg (by show ¬ 47 = 13; omega), if_pos rfl]
  show (if 0 < n ∧ n < 131072 then some (false :: s) else none) = _
  rw [if_pos ⟨h0, h1⟩]
theorem KD.nt {law : Bool} {C0 D : Cod} {s : List Bool} (h : KD law C0 D (true :: s)) : KD law C0 (D ++ [(3, 0)]) (true :: s) := h.ap rfl (fun _ z => absurd z (by decide))
theorem KD.jo {law : Bool} {C0 D : Cod} {s : List Bool} {a : Nat} (h : KD law C0 D (true :: true :: s)) (ha : a = 1 ∨ a = 2) : KD law C0 (D ++ [(a, 0)]) (true :: s) := by
  refine h.ap ?_ (fun _ z => by have : a = 13 := z; omega)
  rcases ha with rfl | rfl <;> rfl
theorem refL_ap {off : Nat} {a b : Cod} : refL off (a ++ b) = refL off a ++ refL off b := List.flatMap_append
theorem refL_1 {off : Nat} {a : Cod} {q : Nat × Nat} : refL off (a ++ [q]) = refL off a ++ refC off q := by
  rw [refL_ap]
  congr 1
  simp [refL]
/-- what may wait under sums and products -/
def inP (P : List Nat) (op br : Nat) : Prop := op ≤ 8 ∧ br ≤ 8 ∧ c3 P ≤ op ∧ P.length ≤ 26 ∧ (∀ a ∈ P, a = 1 ∨ a = 2 ∨ a = 3 ∨ a = 40) ∧ ∀ C, 1 ≤ (relP 1 P op C).2.1 ∨ br = 0
def isA (a : Nat) : Prop := a = 42 ∨ a = 43 ∨ a = 45 ∨ a = 60 ∨ a = 61 ∨ a = 62
theorem rnk_A {a : Nat} (h : isA a) : 4 ≤ rnk a ∧ ¬ a = 3 := by
  rcases h with rfl | rfl | rfl | rfl | rfl | rfl <;> decide
theorem relP_E {r : Nat} {P : List Nat} {op : Nat} : ∀ (E : List Nat) (C : Cod), (∀ a ∈ E, isA a ∧ r ≤ rnk a) → relP r (E ++ P) op C = relP r P op (C ++ E.map (fun a => (a, 0))) := by
  intro E
  induction E with
  | nil => intro C _; rw [List.nil_append, List.map_nil, List.append_nil]
  | cons a E ih =>
    intro C h
    obtain ⟨h1, h2⟩ := h a List.mem_cons_self
    rw [List.cons_append, relP, if_neg (by omega), if_neg (rnk_A h1).2, ih _ (fun b hb => h b (List.mem_cons_of_mem _ hb)), List.map_cons, List.append_assoc]
    rfl
theorem relP_t {r : Nat} {W : List Nat} {op : Nat} {C : Cod} (h : ∀ a ∈ W, rnk a < r) : relP r W op C = (W, op, C) := by
  cases W with
  | nil => rfl
  | cons a W => rw [relP, if_pos (h a List.mem_cons_self)]
theorem c3_E {P : List Nat} : ∀ (E : List Nat), (∀ a ∈ E, isA a) → c3 (E ++ P) = c3 P := by
  intro E
  induction E with
  | nil => intro _; rfl
  | cons a E ih =>
    intro h
    rw [List.cons_append, c3, if_neg (rnk_A (h a List.mem_cons_self)).2, ih (fun b hb => h b (List.mem_cons_of_mem _ hb))]
    rfl
theorem okS_E {st cmp ln out op br : Nat} {C : Cod} {E P : List Nat} (hP : inP P op br) (hE : ∀ a ∈ E, isA a) (hl : E.length ≤ 3) (hr : C.length + E.length + P.length < 400) (hst : st ≤ 7) (hc : 4 ≤ st → cmp ≤ 1) (hln : ln ≤ 12) (ho : 4 ≤ st → out < 131072) : okS (st, cmp, ln, out, op, br, E ++ P, C) := by
  obtain ⟨p1, p2, p3, p4, p5, p6⟩ := hP
  refine ⟨⟨p1, p2, by rw [c3_E E hE]; exact p3, by rw [List.length_append]; omega, by rw [List.length_append]; omega⟩, hst, hc, hln, ho, ?_⟩
  rw [relP_E E C (fun a ha => ⟨hE a ha, by have := (rnk_A (hE a ha)).1; omega⟩)]
  exact p6 _
