/-! what a text's code is worth: the class's row of numbers and the reference's -/
def stk (R : Nat → Int32) : List Int32 → Prop
  | [] => True
  | a :: r => R r.length = a ∧ stk R r
theorem stk_cong {R R' : Nat → Int32} : ∀ (l : List Int32), (∀ j, j < l.length → R' j = R j) → stk R l → stk R' l := by
  intro l
  induction l with
  | nil => intro _ _; trivial
  | cons a r ih =>
    intro h g
    exact ⟨(h _ (by rw [List.length_cons]; omega)).trans g.1, ih (fun j hj => h j (by rw [List.length_cons]; omega)) g.2⟩
def sB (a0 : Nat) (st : List Int32) (S : Sto) : Prop := S a0 2 = nI st.length ∧ stk (S (a0 + 2)) st ∧ st.length ≤ 32
def frB (a0 : Nat) (S S' : Sto) : Prop := ∀ a k, ¬ (a = a0 ∧ k = 2) → ¬ (a = a0 + 2) → S' a k = S a k
theorem frB.tr {a0 : Nat} {S S1 S2 : Sto} (h : frB a0 S S1) (g : frB a0 S1 S2) : frB a0 S S2 := fun a k q1 q2 => (g a k q1 q2).trans (h a k q1 q2)
theorem pop_B {a0 : Nat} {a : Int32} {r : List Int32} {S : Sto} (h : sB a0 (a :: r) S) : ∃ S', r_Sc_pop a0 S = some (a, S') ∧ sB a0 r S' ∧ frB a0 S S' := by
  obtain ⟨h1, ⟨h2, h3⟩, h4⟩ := h
  rw [List.length_cons] at h1 h4
  have c : ¬ nI (r.length + 1) = 0 := nI_ne0 (by omega) (by omega)
  have i1 : inr (nI r.length) 32 = true := inr_nI (by omega) (by decide)
  have tn : (nI r.length).toNatClampNeg = r.length := q_tnI (by omega)
  refine ⟨sw S a0 2 (nI r.length), ?_, ⟨sw_same, ?_, by omega⟩, fun a k g1 g2 => rd_ne g1⟩
  · simp only [r_Sc_pop, h1, if_neg c, nI_pred, ltS, sw_same, chk_t i1, tn]
    rw [rd_ne (by omega), h2]
  · exact stk_cong r (fun j hj => rd_ne (by omega)) h3
theorem push_B {a0 : Nat} {x : Int32} {r : List Int32} {S : Sto} (h : sB a0 r S) (hl : r.length < 32) : ∃ S', r_Sc_push a0 x S = some S' ∧ sB a0 (x :: r) S' ∧ frB a0 S S' := by
  obtain ⟨h1, h3, h4⟩ := h
  have c : ¬ (32 : Int32) ≤ nI r.length := fun q => by
    have := (nI_leI (a := 32) (b := r.length) (by omega) (by omega)).mp q
    omega
  have i1 : inr (nI r.length) 32 = true := inr_nI (by omega) (by decide)
  have tn : (nI r.length).toNatClampNeg = r.length := q_tnI (by omega)
  refine ⟨sw (sw S (a0 + 2) r.length x) a0 2 (nI (r.length + 1)), ?_, ⟨sw_same, ⟨?_, ?_⟩, by rw [List.length_cons]; omega⟩, fun a k g1 g2 => ?_⟩
  · simp (disch := omega) only [r_Sc_push, h1, if_neg c, chk_t i1, tn, ltS, rd_ne, nI_1]
  · rw [rd_ne (by omega), sw_same]
  · exact stk_cong r (fun j hj => by rw [rd_ne (by omega), rd_ne (by omega)]) h3
  · rw [rd_ne g1, rd_ne (by omega)]
theorem cw_s {q : Nat × Nat} (h1 : q.1 < 64) (h2 : q.2 < 131072) : ((cw1 q).toUInt32 >>> ((17 : Int32).toUInt32 &&& Int32.toUInt32 31)).toInt32 = nI q.1 := by
  unfold cw1
  rw [pk_ushrN (by omega) 17 17 (by decide)]
  congr 1
  rw [show (2 ^ 17 : Nat) = 131072 from rfl]
  omega
theorem cw_n {q : Nat × Nat} (h1 : q.1 < 64) (h2 : q.2 < 131072) : cw1 q &&& 131071 = nI q.2 := by
  unfold cw1
  rw [pk_andN (by omega) 17 (by decide)]
  congr 1
  rw [show (2 ^ 17 : Nat) = 131072 from rfl]
  omega
def ev1 (vals : Nat → Int32) (q : Nat × Nat) (st : List Int32) : List Int32 :=
  if q.1 = 12 then nI q.2 :: st
  else if q.1 = 13 then vals q.2 :: st
  else if q.1 = 47 then (match st with | a :: r => (a / nI q.2) :: r | [] => [])
  else if q.1 = 3 then (match st with | a :: r => (1 - a) :: r | [] => [])
  else (match st with | b :: a :: r => r_Sc_join (nI q.1) a b :: r | _ => [])
def evL (vals : Nat → Int32) : Cod → List Int32 → List Int32
  | [], st => st
  | q :: c, st => evL vals c (ev1 vals q st)
def okK : List Bool → List Int32 → Prop
  | [], [] => True
  | b :: ks, a :: st => (b = true → a = 0 ∨ a = 1) ∧ okK ks st
  | _, _ => False
theorem okK.len : ∀ {ks : List Bool} {st : List Int32}, okK ks st → ks.length = st.length
  | [], [], _ => rfl
  | _ :: _, _ :: _, h => by rw [List.length_cons, List.length_cons, okK.len h.2]
theorem okK_1 {b : Bool} {ks : List Bool} {st : List Int32} (h : okK (b :: ks) st) : ∃ a r, st = a :: r ∧ (b = true → a = 0 ∨ a = 1) ∧ okK ks r := by
  cases st with
  | nil => exact absurd h (by simp [okK])
  | cons a r => exact ⟨a, r, rfl, h⟩
theorem tyC_inv {ks ks' : List Bool} {q : Nat × Nat} (h : tyC ks q = some ks') :
    (q.1 = 12 ∧ ks.length < 32 ∧ q.2 < 131072 ∧ ks' = false :: ks) ∨ (q.1 = 13 ∧ ks.length < 32 ∧ q.2 < 6 ∧ ks' = false :: ks) ∨
    (q.1 = 47 ∧ 0 < q.2 ∧ q.2 < 131072 ∧ ∃ r, ks = false :: r ∧ ks' = false :: r) ∨
    ((q.1 = 43 ∨ q.1 = 45 ∨ q.1 = 42) ∧ q.2 = 0 ∧ ∃ r, ks = false :: false :: r ∧ ks' = false :: r) ∨
    ((q.1 = 60 ∨ q.1 = 61 ∨ q.1 = 62) ∧ q.2 = 0 ∧ ∃ r, ks = false :: false :: r ∧ ks' = true :: r) ∨
    (q.1 = 3 ∧ q.2 = 0 ∧ ∃ r, ks = true :: r ∧ ks' = true :: r) ∨
    ((q.1 = 2 ∨ q.1 = 1) ∧ q.2 = 0 ∧ ∃ r, ks = true :: true :: r ∧ ks' = true :: r) := by
  unfold tyC at h
  by_cases c1 : q.1 = 12
  · rw [if_pos c1] at h
    split at h
    · rename_i g
      cases h
      exact Or.inl ⟨c1, g.1, g.2, rfl⟩
    · cases h
  rw [if_neg c1] at h
  by_cases c2 : q.1 = 13
  · rw [if_pos c2] at h
    split at h
    · rename_i g
      cases h
      exact Or.inr (Or.inl ⟨c2, g.1, g.2, rfl⟩)
    · cases h
  rw [if_neg c2] at h
  by_cases c3 : q.1 = 47
  · rw [if_pos c3] at h
    rcases ks with _ | ⟨_ | _, r⟩ <;> simp at h
    exact Or.inr (Or.inr (Or.inl ⟨c3, h.1.1, h.1.2, r, rfl, h.2.symm⟩))
  rw [if_neg c3] at h
  by_cases c4 : q.1 = 43 ∨ q.1 = 45 ∨ q.1 = 42
  · rw [if_pos c4] at h
    rcases ks with _ | ⟨_ | _, _ | ⟨_ | _, r⟩⟩ <;> simp at h
    exact Or.inr (Or.inr (Or.inr (Or.inl ⟨c4, h.1, r, rfl, h.2.symm⟩)))
  rw [if_neg c4] at h
  by_cases c5 : q.1 = 60 ∨ q.1 = 61 ∨ q.1 = 62
  · rw [if_pos c5] at h
    rcases ks with _ | ⟨_ | _, _ | ⟨_ | _, r⟩⟩ <;> simp at h
    exact Or.inr (Or.inr (Or.inr (Or.inr (Or.inl ⟨c5, h.1, r, rfl, h.2.symm⟩))))
  rw [if_neg c5] at h
  by_cases c6 : q.1 = 3
  · rw [if_pos c6] at h
    rcases ks with _ | ⟨_ | _, r⟩ <;> simp at h
    exact Or.inr (Or.inr (Or.inr (Or.inr (Or.inr (Or.inl ⟨c6, h.1, r, rfl, h.2.symm⟩)))))
  rw [if_neg c6] at h
  by_cases c7 : q.1 = 2 ∨ q.1 = 1
  · rw [if_pos c7] at h
    rcases ks with _ | ⟨_ | _, _ | ⟨_ | _, r⟩⟩ <;> simp at h
    exact Or.inr (Or.inr (Or.inr (Or.inr (Or.inr (Or.inr ⟨c7, h.1, r, rfl, h.2.symm⟩)))))
  rw [if_neg c7] at h
  cases h
theorem cne {s c : Nat} (hs : s < 64) (hc : c < 64) (h : s ≠ c) : ¬ nI s = nI c := fun q => h ((nI_eq (by omega) (by omega)).mp q)
/-- a word of code on a row of numbers: three shapes -/
theorem ev_bin {vals : Nat → Int32} {s v : Nat} {a b : Int32} {r : List Int32} (h : s ≠ 12 ∧ s ≠ 13 ∧ s ≠ 47 ∧ s ≠ 3) : ev1 vals (s, v) (b :: a :: r) = r_Sc_join (nI s) a b :: r := by
  unfold ev1
  rw [if_neg h.1, if_neg h.2.1, if_neg h.2.2.1, if_neg h.2.2.2]
theorem join_01 {s : Nat} {a b : Int32} (h : s = 60 ∨ s = 61 ∨ s = 62) : r_Sc_join (nI s) a b = 0 ∨ r_Sc_join (nI s) a b = 1 := by
  rcases h with rfl | rfl | rfl
  · rw [show r_Sc_join (nI 60) a b = (if b ≤ a then 0 else 1) from rfl]; split <;> simp
  · rw [show r_Sc_join (nI 61) a b = (if a = b then 1 else 0) from rfl]; split <;> simp
  · rw [show r_Sc_join (nI 62) a b = (if a ≤ b then 0 else 1) from rfl]; split <;> simp
theorem join_b {s : Nat} {a b : Int32} (h : s = 2 ∨ s = 1) (ha : a = 0 ∨ a = 1) (hb : b = 0 ∨ b = 1) : r_Sc_join (nI s) a b = 0 ∨ r_Sc_join (nI s) a b = 1 := by
  rcases h with rfl | rfl <;> rcases ha with rfl | rfl <;> rcases hb with rfl | rfl <;> decide
theorem ev_ok {vals : Nat → Int32} {ks ks' : List Bool} {q : Nat × Nat} {st : List Int32} (ty : tyC ks q = some ks') (ok : okK ks st) : okK ks' (ev1 vals q st) := by
  obtain ⟨s, v⟩ := q
  have ff : ∀ a : Int32, (false = true → a = 0 ∨ a = 1) := fun _ q => by cases q
  rcases tyC_inv ty with h | h | h | h | h | h | h <;> simp only at h
  · obtain ⟨rfl, h1, h2, rfl⟩ := h
    exact ⟨ff _, ok⟩
  · obtain ⟨rfl, h1, h2, rfl⟩ := h
    exact ⟨ff _, ok⟩
  · obtain ⟨rfl, h1, h2, r, rfl, rfl⟩ := h
    obtain ⟨a, t, rfl, g1, g2⟩ := okK_1 ok
    exact ⟨ff _, g2⟩
  · obtain ⟨hs, h2, r, rfl, rfl⟩ := h
    obtain ⟨b, t, rfl, g1, g2⟩ := okK_1 ok
    obtain ⟨a, t, rfl, g3, g4⟩ := okK_1 g2
    rw [ev_bin (by omega)]
    exact ⟨ff _, g4⟩
  · obtain ⟨hs, h2, r, rfl, rfl⟩ := h
    obtain ⟨b, t, rfl, g1, g2⟩ := okK_1 ok
    obtain ⟨a, t, rfl, g3, g4⟩ := okK_1 g2
    rw [ev_bin (by omega)]
    exact ⟨fun _ => join_01 hs, g4⟩
  · obtain ⟨rfl, h2, r, rfl, rfl⟩ := h
    obtain ⟨a, t, rfl, g1, g2⟩ := okK_1 ok
    refine ⟨fun _ => ?_, g2⟩
    rcases g1 rfl with rfl | rfl
    · exact Or.inr (by decide)
    · exact Or.inl (by decide)
  · obtain ⟨hs, h2, r, rfl, rfl⟩ := h
    obtain ⟨b, t, rfl, g1, g2⟩ := okK_1 ok
    obtain ⟨a, t, rfl, g3, g4⟩ := okK_1 g2
    rw [ev_bin (by omega)]
    exact ⟨fun _ => join_b hs (g3 rfl) (g1 rfl), g4⟩
/-- a turn of the class -/
theorem step_B {a0 a1 m1 f i N rr : Nat} {vals : Nat → Int32} {ks ks' : List Bool} {q : Nat × Nat} {st : List Int32} {S : Sto} (ty : tyC ks q = some ks') (ok : okK ks st) (hs : sB a0 st S) (hr : (S a0 0).toNatClampNeg = rr) (h4 : S rr 400 = nI N) (hi : i < N) (hN : N ≤ 400) (hq : S rr i = cw1 q) (hm : m1 ≤ 6) (hv : ∀ j, j < m1 → S a1 j = vals j) (h13 : q.1 = 13 → q.2 < m1) :
    ∃ S', r_Sc_decide_L7 a0 a1 m1 (f + 1) (nI i) S = r_Sc_decide_L7 a0 a1 m1 f (nI (i + 1)) S' ∧ sB a0 (ev1 vals q st) S' ∧ frB a0 S S' := by
  obtain ⟨s, v⟩ := q
  have hl := ok.len
  have inv := tyC_inv ty
  simp only at inv h13
  have s64 : s < 64 := by omega
  have v17 : v < 131072 := by omega
  have tN : (nI N).toNatClampNeg = N := q_tnI (by omega)
  have ti : (nI i).toNatClampNeg = i := q_tnI (by omega)
  have c : ¬ nI N ≤ nI i := nI_ge hi (by omega)
  have i1 : inr (nI i) N = true := inr_nI hi (by omega)
  have w1 := cw_s (q := (s, v)) s64 v17
  have w2 := cw_n (q := (s, v)) s64 v17
  simp only at w1 w2
  have n59 : ¬ nI s = 59 := cne (c := 59) s64 (by omega) (by omega)
  rcases inv with h | h | h | h | h | h | h
  · obtain ⟨rfl, h1, h2, rfl⟩ := h
    obtain ⟨S', p1, p2, p3⟩ := push_B (x := nI v) hs (by omega)
    refine ⟨S', ?_, p2, p3⟩
    simp only [r_Sc_decide_L7, ltN, hr, h4, tN, if_neg c, chk_t i1, lt, jn, ti, hq, w1, w2, if_neg n59, if_pos (show nI 12 = 12 by decide), p1, Option.bind_some, nI_1]
  · obtain ⟨rfl, h1, h2, rfl⟩ := h
    have n12 : ¬ nI 13 = 12 := by decide
    have hv1 := h13 rfl
    obtain ⟨S', p1, p2, p3⟩ := push_B (x := vals v) hs (by omega)
    have cv : ¬ nI m1 ≤ nI v := nI_ge hv1 (by omega)
    have iv : inr (nI v) m1 = true := inr_nI hv1 (by omega)
    have tv : (nI v).toNatClampNeg = v := q_tnI (by omega)
    refine ⟨S', ?_, p2, p3⟩
    simp only [r_Sc_decide_L7, ltN, hr, h4, tN, if_neg c, chk_t i1, lt, jn, ti, hq, w1, w2, if_neg n59, if_neg n12, if_pos (show nI 13 = 13 by decide), if_neg cv, chk_t iv, tv, hv v hv1, p1, Option.bind_some, nI_1]
  · obtain ⟨rfl, h1, h2, r, rfl, rfl⟩ := h
    obtain ⟨a, t, rfl, g1, g2⟩ := okK_1 ok
    have n12 : ¬ nI 47 = 12 := by decide
    have n13 : ¬ nI 47 = 13 := by decide
    have n3 : ¬ nI 47 = 3 := by decide
    have v0 : ¬ nI v = 0 := nI_ne0 h1 (by omega)
    have nv : nz (nI v) = true := by unfold nz; rw [decide_eq_true_eq]; exact v0
    obtain ⟨S1, o1, o2, o3⟩ := pop_B hs
    obtain ⟨S', p1, p2, p3⟩ := push_B (x := a / nI v) o2 (by have := hs.2.2; rw [List.length_cons] at this; omega)
    refine ⟨S', ?_, p2, o3.tr p3⟩
    simp only [r_Sc_decide_L7, ltN, hr, h4, tN, if_neg c, chk_t i1, lt, jn, ti, hq, w1, w2, if_neg n59, if_neg n12, if_neg n13, if_neg n3, if_pos (show nI 47 = 47 by decide), if_neg v0, o1, chk_t nv, p1, Option.bind_some, nI_1]
  · obtain ⟨hs', h2, r, rfl, rfl⟩ := h
    obtain ⟨b, t, rfl, g1, g2⟩ := okK_1 ok
    obtain ⟨a, t, rfl, g3, g4⟩ := okK_1 g2
    have n12 : ¬ nI s = 12 := cne (c := 12) s64 (by omega) (by omega)
    have n13 : ¬ nI s = 13 := cne (c := 13) s64 (by omega) (by omega)
    have n3 : ¬ nI s = 3 := cne (c := 3) s64 (by omega) (by omega)
    have n47 : ¬ nI s = 47 := cne (c := 47) s64 (by omega) (by omega)
    obtain ⟨S1, o1, o2, o3⟩ := pop_B hs
    obtain ⟨S2, o4, o5, o6⟩ := pop_B o2
    obtain ⟨S', p1, p2, p3⟩ := push_B (x := r_Sc_join (nI s) a b) o5 (by have := hs.2.2; rw [List.length_cons, List.length_cons] at this; omega)
    refine ⟨S', ?_, by rw [ev_bin (by omega)]; exact p2, (o3.tr o6).tr p3⟩
    simp only [r_Sc_decide_L7, ltN, hr, h4, tN, if_neg c, chk_t i1, lt, jn, ti, hq, w1, w2, if_neg n59, if_neg n12, if_neg n13, if_neg n3, if_neg n47, o1, o4, p1, Option.bind_some, nI_1]
  · obtain ⟨hs', h2, r, rfl, rfl⟩ := h
    obtain ⟨b, t, rfl, g1, g2⟩ := okK_1 ok
    obtain ⟨a, t, rfl, g3, g4⟩ := okK_1 g2
    have n12 : ¬ nI s = 12 := cne (c := 12) s64 (by omega) (by omega)
    have n13 : ¬ nI s = 13 := cne (c := 13) s64 (by omega) (by omega)
    have n3 : ¬ nI s = 3 := cne (c := 3) s64 (by omega) (by omega)
    have n47 : ¬ nI s = 47 := cne (c := 47) s64 (by omega) (by omega)
    obtain ⟨S1, o1, o2, o3⟩ := pop_B hs
    obtain ⟨S2, o4, o5, o6⟩ := pop_B o2
    obtain ⟨S', p1, p2, p3⟩ := push_B (x := r_Sc_join (nI s) a b) o5 (by have := hs.2.2; rw [List.length_cons, List.length_cons] at this; omega)
    refine ⟨S', ?_, by rw [ev_bin (by omega)]; exact p2, (o3.tr o6).tr p3⟩
    simp only [r_Sc_decide_L7, ltN, hr, h4, tN, if_neg c, chk_t i1, lt, jn, ti, hq, w1, w2, if_neg n59, if_neg n12, if_neg n13, if_neg n3, if_neg n47, o1, o4, p1, Option.bind_some, nI_1]
  · obtain ⟨rfl, h2, r, rfl, rfl⟩ := h
    obtain ⟨a, t, rfl, g1, g2⟩ := okK_1 ok
    have n12 : ¬ nI 3 = 12 := by decide
    have n13 : ¬ nI 3 = 13 := by decide
    obtain ⟨S1, o1, o2, o3⟩ := pop_B hs
    obtain ⟨S', p1, p2, p3⟩ := push_B (x := 1 - a) o2 (by have := hs.2.2; rw [List.length_cons] at this; omega)
    refine ⟨S', ?_, p2, o3.tr p3⟩
    simp only [r_Sc_decide_L7, ltN, hr, h4, tN, if_neg c, chk_t i1, lt, jn, ti, hq, w1, w2, if_neg n59, if_neg n12, if_neg n13, if_pos (show nI 3 = 3 by decide), o1, p1, Option.bind_some, nI_1]
  · obtain ⟨hs', h2, r, rfl, rfl⟩ := h
    obtain ⟨b, t, rfl, g1, g2⟩ := okK_1 ok
    obtain ⟨a, t, rfl, g3, g4⟩ := okK_1 g2
    have n12 : ¬ nI s = 12 := cne (c := 12) s64 (by omega) (by omega)
    have n13 : ¬ nI s = 13 := cne (c := 13) s64 (by omega) (by omega)
    have n3 : ¬ nI s = 3 := cne (c := 3) s64 (by omega) (by omega)
    have n47 : ¬ nI s = 47 := cne (c := 47) s64 (by omega) (by omega)
    obtain ⟨S1, o1, o2, o3⟩ := pop_B hs
    obtain ⟨S2, o4, o5, o6⟩ := pop_B o2
    obtain ⟨S', p1, p2, p3⟩ := push_B (x := r_Sc_join (nI s) a b) o5 (by have := hs.2.2; rw [List.length_cons, List.length_cons] at this; omega)
    refine ⟨S', ?_, by rw [ev_bin (by omega)]; exact p2, (o3.tr o6).tr p3⟩
    simp only [r_Sc_decide_L7, ltN, hr, h4, tN, if_neg c, chk_t i1, lt, jn, ti, hq, w1, w2, if_neg n59, if_neg n12, if_neg n13, if_neg n3, if_neg n47, o1, o4, p1, Option.bind_some, nI_1]
theorem code_B {a0 a1 m1 N rr : Nat} {vals : Nat → Int32} (hN : N ≤ 400) (hm : m1 ≤ 6) (hrr : rr ≠ a0 ∧ rr ≠ a0 + 2) (ha1 : a1 ≠ a0 ∧ a1 ≠ a0 + 2) : ∀ (c : Cod) (ks kf : List Bool) (st : List Int32) (i f : Nat) (S : Sto), tyL c ks = some kf → okK ks st → sB a0 st S → (S a0 0).toNatClampNeg = rr → S rr 400 = nI N → i + c.length ≤ N → (∀ j q, c[j]? = some q → S rr (i + j) = cw1 q) → (∀ j, j < m1 → S a1 j = vals j) → (∀ q ∈ c, q.1 = 13 → q.2 < m1) →
    ∃ S', r_Sc_decide_L7 a0 a1 m1 (f + c.length) (nI i) S = r_Sc_decide_L7 a0 a1 m1 f (nI (i + c.length)) S' ∧ sB a0 (evL vals c st) S' ∧ okK kf (evL vals c st) ∧ frB a0 S S' := by
  intro c
  induction c with
  | nil =>
    intro ks kf st i f S ty ok hs _ _ _ _ _ _
    cases ty
    exact ⟨S, rfl, hs, ok, fun _ _ _ _ => rfl⟩
  | cons q c ih =>
    intro ks kf st i f S ty ok hs hr h4 hi hc hv h13
    rw [List.length_cons] at hi
    obtain ⟨k1, t1, t2⟩ : ∃ k1, tyC ks q = some k1 ∧ tyL c k1 = some kf := by
      rw [tyL] at ty
      cases e : tyC ks q with
      | none => rw [e] at ty; cases ty
      | some k1 => rw [e] at ty; exact ⟨k1, rfl, ty⟩
    obtain ⟨S1, p1, p2, p3⟩ := step_B (i := i) (f := f + c.length) (vals := vals) t1 ok hs hr h4 (by omega) hN (hc 0 q rfl) hm hv (h13 q (List.mem_cons_self))
    have e1 : ∀ a k, a ≠ a0 → a ≠ a0 + 2 → S1 a k = S a k := fun a k g1 g2 => p3 a k (by omega) g2
    obtain ⟨S2, o1, o2, o3, o4⟩ := ih k1 kf _ (i + 1) f S1 t2 (ev_ok t1 ok) p2 (by rw [p3 a0 0 (by omega) (by omega)]; exact hr) (by rw [e1 _ _ hrr.1 hrr.2]; exact h4) (by omega) (fun j q' hj => by rw [e1 _ _ hrr.1 hrr.2, Nat.add_assoc, Nat.add_comm 1 j]; exact hc (j + 1) q' hj) (fun j hj => by rw [e1 _ _ ha1.1 ha1.2]; exact hv j hj) (fun q' hq' => h13 q' (List.mem_cons_of_mem _ hq'))
    refine ⟨S2, ?_, o2, o3, p3.tr o4⟩
    rw [List.length_cons, ← Nat.add_assoc, p1, o1, Nat.add_assoc i 1, Nat.add_comm 1]
def dec (vals : Nat → Int32) : List (Nat × Cod) → Option Nat
  | [] => none
  | l :: ls => if (evL vals l.2 []).headD 0 = 0 then dec vals ls else some l.1
theorem okK_t {st : List Int32} (h : okK [true] st) : ∃ a, st = [a] := by
  obtain ⟨a, r, rfl, h1, h2⟩ := okK_1 h
  cases r with
  | nil => exact ⟨a, rfl⟩
  | cons b r => exact absurd h2 (by simp [okK])
/-- the class's choice -/
def endB (N : Nat) (S' : Sto) : Option Nat → Option ((Int32 × Sto) ⊕ (Int32 × Sto))
  | none => some (.inl (nI N, S'))
  | some r => some (.inr (nI r, S'))
theorem lines_B {a0 a1 m1 N rr : Nat} {vals : Nat → Int32} (hN : N ≤ 400) (hm : m1 ≤ 6) (hrr : rr ≠ a0 ∧ rr ≠ a0 + 2) (ha1 : a1 ≠ a0 ∧ a1 ≠ a0 + 2) : ∀ (ls : List (Nat × Cod)) (i f : Nat) (S : Sto), (∀ l ∈ ls, tyL l.2 [] = some [true] ∧ l.1 ≤ 3 ∧ ∀ q ∈ l.2, q.1 = 13 → q.2 < m1) → sB a0 [] S → (S a0 0).toNatClampNeg = rr → S rr 400 = nI N → i + (lnsC ls).length = N → (∀ j q, (lnsC ls)[j]? = some q → S rr (i + j) = cw1 q) → (∀ j, j < m1 → S a1 j = vals j) → (lnsC ls).length < f →
    ∃ S', r_Sc_decide_L7 a0 a1 m1 f (nI i) S = endB N S' (dec vals ls) ∧ frB a0 S S' := by
  intro ls
  induction ls with
  | nil =>
    intro i f S _ _ hr h4 hi _ _ hf
    obtain ⟨f, rfl⟩ : ∃ g, f = g + 1 := ⟨f - 1, by omega⟩
    have e : i = N := hi
    have tN : (nI N).toNatClampNeg = N := q_tnI (by omega)
    have c : nI N ≤ nI i := by rw [e, q_le]; omega
    refine ⟨S, ?_, fun _ _ _ _ => rfl⟩
    simp only [r_Sc_decide_L7, ltN, hr, h4, tN, if_pos c, dec, endB, e]
    rw [if_pos (show nI N ≤ nI N by rw [q_le]; omega)]
  | cons l ls ih =>
    intro i f S hl hs hr h4 hi hc hv hf
    have eL : lnsC (l :: ls) = l.2 ++ ((59, l.1) :: lnsC ls) := by simp [lnsC]
    rw [eL, List.length_append, List.length_cons] at hi hf
    obtain ⟨g1, g2, g3⟩ := hl l (List.mem_cons_self)
    obtain ⟨f, rfl⟩ : ∃ g, f = (g + 1) + l.2.length := ⟨f - l.2.length - 1, by omega⟩
    obtain ⟨S1, p1, p2, p3, p4⟩ := code_B (a1 := a1) (vals := vals) hN hm hrr ha1 l.2 [] [true] [] i (f + 1) S g1 trivial hs hr h4 (by omega) (fun j q hj => hc j q (by rw [eL, List.getElem?_append_left (List.getElem?_eq_some_iff.mp hj).1]; exact hj)) hv g3
    obtain ⟨a, ea⟩ := okK_t p3
    rw [ea] at p2
    have e1 : ∀ b k, b ≠ a0 → b ≠ a0 + 2 → S1 b k = S b k := fun b k q1 q2 => p4 b k (by omega) q2
    have hr1 : (S1 a0 0).toNatClampNeg = rr := by rw [p4 a0 0 (by omega) (by omega)]; exact hr
    have h41 : S1 rr 400 = nI N := by rw [e1 _ _ hrr.1 hrr.2]; exact h4
    have hq : S1 rr (i + l.2.length) = cw1 (59, l.1) := by
      rw [e1 _ _ hrr.1 hrr.2]
      refine hc _ _ ?_
      rw [eL, List.getElem?_append_right (Nat.le_refl _), Nat.sub_self]
      rfl
    obtain ⟨S2, o1, o2, o3⟩ := pop_B p2
    have tN : (nI N).toNatClampNeg = N := q_tnI (by omega)
    have ti : (nI (i + l.2.length)).toNatClampNeg = i + l.2.length := q_tnI (by omega)
    have c : ¬ nI N ≤ nI (i + l.2.length) := nI_ge (by omega) (by omega)
    have i1 : inr (nI (i + l.2.length)) N = true := inr_nI (by omega) (by omega)
    have w1 := cw_s (q := (59, l.1)) (show 59 < 64 by decide) (show l.1 < 131072 by omega)
    have w2 := cw_n (q := (59, l.1)) (show 59 < 64 by decide) (show l.1 < 131072 by omega)
    simp only at w1 w2
    have d1 : a = 0 → dec vals (l :: ls) = dec vals ls := fun k => by rw [dec, ea]; exact if_pos k
    have d2 : ¬ a = 0 → dec vals (l :: ls) = some l.1 := fun k => by rw [dec, ea]; exact if_neg k
    rw [p1]
    by_cases k : a = 0
    · obtain ⟨S3, u1, u2⟩ := ih (i + l.2.length + 1) f S2 (fun l' h' => hl l' (List.mem_cons_of_mem _ h')) o2 (by rw [o3 a0 0 (by omega) (by omega)]; exact hr1) (by rw [o3 _ _ (by omega) hrr.2]; exact h41) (by omega) (fun j q hj => by rw [o3 _ _ (by omega) hrr.2, e1 _ _ hrr.1 hrr.2, show i + l.2.length + 1 + j = i + (l.2.length + (j + 1)) by omega]; exact hc _ _ (by rw [eL, List.getElem?_append_right (by omega), Nat.add_sub_cancel_left]; exact hj)) (fun j hj => by rw [o3 _ _ (by omega) ha1.2, e1 _ _ ha1.1 ha1.2]; exact hv j hj) (by omega)
      refine ⟨S3, ?_, (p4.tr o3).tr u2⟩
      rw [d1 k, ← u1]
      simp only [r_Sc_decide_L7, ltN, hr1, h41, tN, if_neg c, chk_t i1, lt, jn, ti, hq, w1, w2, if_pos (show nI 59 = 59 by decide), o1, Option.bind_some, if_pos k, nI_1]
    · refine ⟨S2, ?_, p4.tr o3⟩
      rw [d2 k]
      simp only [r_Sc_decide_L7, ltN, hr1, h41, tN, if_neg c, chk_t i1, lt, jn, ti, hq, w1, w2, if_pos (show nI 59 = 59 by decide), o1, Option.bind_some, if_neg k, endB]
