/-! the reference's row of numbers -/
theorem w_push0 {y1 y3 : Int32} {f p pe v : Nat} {st : List Int32} {T : Sto} (hp : 400 * y1 + y3 = nI pe) (h1 : p < pe) (h2 : pe ≤ 2400) (hl : st.length ≤ 40) (c1 : T 124 p = nI 0) (c2 : T 125 p = nI v) (hs : stk (T 128) st) :
    ∃ T', r_M_worth_L12 y1 y3 (f + 1) (nI st.length) (nI p) T = r_M_worth_L12 y1 y3 f (nI (nI v :: st).length) (nI (p + 1)) T' ∧ stk (T' 128) (nI v :: st) ∧ ∀ a k, a ≠ 128 → T' a k = T a k := by
  have c : ¬ nI pe ≤ nI p := nI_ge h1 (by omega)
  have i1 : inr (nI p) 2400 = true := inr_nI (by omega) (by decide)
  have tp : (nI p).toNatClampNeg = p := q_tnI (by omega)
  have i2 : inr (nI st.length) 420 = true := inr_nI (by omega) (by decide)
  have t2 : (nI st.length).toNatClampNeg = st.length := q_tnI (by omega)
  refine ⟨sw T 128 st.length (nI v), ?_, ⟨sw_same, stk_cong st (fun j hj => rd_ne (by omega)) hs⟩, fun a k h => rd_ne (by omega)⟩
  simp only [r_M_worth_L12, hp, if_neg c, chk_t i1, jn, lt, ltS, tp, c1, c2, if_pos (show nI 0 = 0 by decide), chk_t i2, t2, nI_1, List.length_cons]
theorem w_push1 {y1 y3 : Int32} {f p pe u : Nat} {st : List Int32} {T : Sto} (hp : 400 * y1 + y3 = nI pe) (h1 : p < pe) (h2 : pe ≤ 2400) (hl : st.length ≤ 40) (hu : u < 10) (c1 : T 124 p = nI 1) (c2 : T 125 p = nI u) (hs : stk (T 128) st) :
    ∃ T', r_M_worth_L12 y1 y3 (f + 1) (nI st.length) (nI p) T = r_M_worth_L12 y1 y3 f (nI (T 127 u :: st).length) (nI (p + 1)) T' ∧ stk (T' 128) (T 127 u :: st) ∧ ∀ a k, a ≠ 128 → T' a k = T a k := by
  have c : ¬ nI pe ≤ nI p := nI_ge h1 (by omega)
  have i1 : inr (nI p) 2400 = true := inr_nI (by omega) (by decide)
  have tp : (nI p).toNatClampNeg = p := q_tnI (by omega)
  have i2 : inr (nI st.length) 420 = true := inr_nI (by omega) (by decide)
  have t2 : (nI st.length).toNatClampNeg = st.length := q_tnI (by omega)
  have i3 : inr (nI u) 10 = true := inr_nI (by omega) (by decide)
  have t3 : (nI u).toNatClampNeg = u := q_tnI (by omega)
  refine ⟨sw T 128 st.length (T 127 u), ?_, ⟨sw_same, stk_cong st (fun j hj => rd_ne (by omega)) hs⟩, fun a k h => rd_ne (by omega)⟩
  simp only [r_M_worth_L12, hp, if_neg c, chk_t i1, jn, lt, ltS, tp, c1, c2, if_neg (show ¬ nI 1 = 0 by decide), if_pos (show nI 1 = 1 by decide), chk_t i2, t2, chk_t i3, t3, nI_1, List.length_cons]
theorem w_not {y1 y3 : Int32} {f p pe : Nat} {a : Int32} {r : List Int32} {T : Sto} (hp : 400 * y1 + y3 = nI pe) (h1 : p < pe) (h2 : pe ≤ 2400) (hl : r.length ≤ 40) (c1 : T 124 p = nI 9) (hs : stk (T 128) (a :: r)) :
    ∃ T', r_M_worth_L12 y1 y3 (f + 1) (nI (a :: r).length) (nI p) T = r_M_worth_L12 y1 y3 f (nI ((1 - a) :: r).length) (nI (p + 1)) T' ∧ stk (T' 128) ((1 - a) :: r) ∧ ∀ b k, b ≠ 128 → T' b k = T b k := by
  have c : ¬ nI pe ≤ nI p := nI_ge h1 (by omega)
  have i1 : inr (nI p) 2400 = true := inr_nI (by omega) (by decide)
  have tp : (nI p).toNatClampNeg = p := q_tnI (by omega)
  have i2 : inr (nI r.length) 420 = true := inr_nI (by omega) (by decide)
  have t2 : (nI r.length).toNatClampNeg = r.length := q_tnI (by omega)
  refine ⟨sw T 128 r.length (1 - a), ?_, ⟨sw_same, stk_cong r (fun j hj => rd_ne (by omega)) hs.2⟩, fun a k h => rd_ne (by omega)⟩
  have h0 := hs.1
  simp only [r_M_worth_L12, hp, if_neg c, chk_t i1, jn, lt, ltS, tp, c1, if_neg (show ¬ nI 9 = 0 by decide), if_neg (show ¬ nI 9 = 1 by decide), if_pos (show nI 9 = 9 by decide), List.length_cons, nI_pred, chk_t i2, t2, h0, nI_1]
theorem w_bin {y1 y3 : Int32} {f p pe o : Nat} {a b z : Int32} {r : List Int32} {T : Sto} (hp : 400 * y1 + y3 = nI pe) (h1 : p < pe) (h2 : pe ≤ 2400) (hl : r.length ≤ 40) (c1 : T 124 p = nI o) (ho : o < 64 ∧ o ≠ 0 ∧ o ≠ 1 ∧ o ≠ 9) (hz : r_M_twoOf (nI o) a b = some z) (hs : stk (T 128) (b :: a :: r)) :
    ∃ T', r_M_worth_L12 y1 y3 (f + 1) (nI (b :: a :: r).length) (nI p) T = r_M_worth_L12 y1 y3 f (nI (z :: r).length) (nI (p + 1)) T' ∧ stk (T' 128) (z :: r) ∧ ∀ b k, b ≠ 128 → T' b k = T b k := by
  have c : ¬ nI pe ≤ nI p := nI_ge h1 (by omega)
  have i1 : inr (nI p) 2400 = true := inr_nI (by omega) (by decide)
  have tp : (nI p).toNatClampNeg = p := q_tnI (by omega)
  have i2 : inr (nI r.length) 420 = true := inr_nI (by omega) (by decide)
  have t2 : (nI r.length).toNatClampNeg = r.length := q_tnI (by omega)
  have i3 : inr (nI (r.length + 1)) 420 = true := inr_nI (by omega) (by decide)
  have t3 : (nI (r.length + 1)).toNatClampNeg = r.length + 1 := q_tnI (by omega)
  have n0 : ¬ nI o = 0 := cne (c := 0) ho.1 (by omega) ho.2.1
  have n1 : ¬ nI o = 1 := cne (c := 1) ho.1 (by omega) ho.2.2.1
  have n9 : ¬ nI o = 9 := cne (c := 9) ho.1 (by omega) ho.2.2.2
  obtain ⟨g1, g2, g3⟩ := hs
  rw [List.length_cons] at g1
  refine ⟨sw T 128 r.length z, ?_, ⟨sw_same, stk_cong r (fun j hj => rd_ne (by omega)) g3⟩, fun a k h => rd_ne (by omega)⟩
  simp only [r_M_worth_L12, hp, if_neg c, chk_t i1, jn, lt, ltS, tp, c1, if_neg n0, if_neg n1, if_neg n9, List.length_cons, nI_pred, chk_t i2, chk_t i3, t2, t3, g1, g2, hz, Option.bind_some, nI_1]
theorem refC_1 {off s v : Nat} {o : Nat} (h : (s = 43 ∧ o = 2) ∨ (s = 45 ∧ o = 3) ∨ (s = 42 ∧ o = 4) ∨ (s = 60 ∧ o = 6) ∨ (s = 61 ∧ o = 7) ∨ (s = 62 ∧ o = 8) ∨ (s = 2 ∧ o = 10) ∨ (s = 1 ∧ o = 11)) : refC off (s, v) = [(o, 0)] := by
  rcases h with ⟨rfl, rfl⟩ | ⟨rfl, rfl⟩ | ⟨rfl, rfl⟩ | ⟨rfl, rfl⟩ | ⟨rfl, rfl⟩ | ⟨rfl, rfl⟩ | ⟨rfl, rfl⟩ | ⟨rfl, rfl⟩ <;> rfl
theorem two_num {s o : Nat} {a b : Int32} (h : (s = 43 ∧ o = 2) ∨ (s = 45 ∧ o = 3) ∨ (s = 42 ∧ o = 4) ∨ (s = 60 ∧ o = 6) ∨ (s = 61 ∧ o = 7) ∨ (s = 62 ∧ o = 8)) : r_M_twoOf (nI o) a b = some (r_Sc_join (nI s) a b) := by
  rcases h with ⟨rfl, rfl⟩ | ⟨rfl, rfl⟩ | ⟨rfl, rfl⟩ | ⟨rfl, rfl⟩ | ⟨rfl, rfl⟩ | ⟨rfl, rfl⟩
  · rfl
  · rfl
  · rfl
  · show (if b ≤ a then some (0 : Int32) else some 1) = some (if b ≤ a then 0 else 1)
    split <;> rfl
  · show (if a = b then some (1 : Int32) else some 0) = some (if a = b then 1 else 0)
    split <;> rfl
  · show (if a ≤ b then some (0 : Int32) else some 1) = some (if a ≤ b then 0 else 1)
    split <;> rfl
theorem two_bool {s o : Nat} {a b : Int32} (h : (s = 2 ∧ o = 10) ∨ (s = 1 ∧ o = 11)) (ha : a = 0 ∨ a = 1) (hb : b = 0 ∨ b = 1) : r_M_twoOf (nI o) a b = some (r_Sc_join (nI s) a b) := by
  rcases h with ⟨rfl, rfl⟩ | ⟨rfl, rfl⟩ <;> rcases ha with rfl | rfl <;> rcases hb with rfl | rfl <;> decide
theorem two_part {a : Int32} {v : Nat} (h : 0 < v) (h2 : v < 131072) : r_M_twoOf (nI 5) a (nI v) = some (a / nI v) := by
  have v0 : ¬ nI v = 0 := nI_ne0 h (by omega)
  have nv : nz (nI v) = true := by unfold nz; rw [decide_eq_true_eq]; exact v0
  unfold r_M_twoOf
  rw [if_neg (show ¬ nI 5 = 2 by decide), if_neg (show ¬ nI 5 = 3 by decide), if_neg (show ¬ nI 5 = 4 by decide), if_pos (show nI 5 = 5 by decide), chk_t nv]
theorem step_M {y1 y3 : Int32} {off m1 f p pe : Nat} {vals : Nat → Int32} {ks ks' : List Bool} {q : Nat × Nat} {st : List Int32} {T : Sto} (hp : 400 * y1 + y3 = nI pe) (h2 : pe ≤ 2400) (ty : tyC ks q = some ks') (ok : okK ks st) (hl : st.length ≤ 32) (hs : stk (T 128) st) (h1 : p + (refC off q).length ≤ pe) (hc : ∀ i c, (refC off q)[i]? = some c → T 124 (p + i) = nI c.1 ∧ T 125 (p + i) = nI c.2) (hm : m1 + off ≤ 10) (hv : ∀ j, j < m1 → T 127 (j + off) = vals j) (h13 : q.1 = 13 → q.2 < m1) :
    ∃ T', r_M_worth_L12 y1 y3 (f + (refC off q).length) (nI st.length) (nI p) T = r_M_worth_L12 y1 y3 f (nI (ev1 vals q st).length) (nI (p + (refC off q).length)) T' ∧ stk (T' 128) (ev1 vals q st) ∧ ∀ a k, a ≠ 128 → T' a k = T a k := by
  obtain ⟨s, v⟩ := q
  have inv := tyC_inv ty
  simp only at inv h13
  rcases inv with h | h | h | h | h | h | h
  · obtain ⟨rfl, g1, g2, rfl⟩ := h
    obtain ⟨c1, c2⟩ := hc 0 (0, v) rfl
    exact w_push0 hp h1 h2 (by omega) c1 c2 hs
  · obtain ⟨rfl, g1, g2, rfl⟩ := h
    obtain ⟨c1, c2⟩ := hc 0 (1, v + off) rfl
    have g3 := h13 rfl
    have := w_push1 (f := f) hp h1 h2 (by omega) (show v + off < 10 by omega) c1 c2 hs
    rw [hv v g3] at this
    exact this
  · obtain ⟨rfl, g1, g2, r, rfl, rfl⟩ := h
    obtain ⟨a, t, rfl, g3, g4⟩ := okK_1 ok
    obtain ⟨c1, c2⟩ := hc 0 (0, v) rfl
    obtain ⟨c3, c4⟩ := hc 1 (5, 0) rfl
    rw [List.length_cons] at hl
    have h1' : p + 2 ≤ pe := h1
    obtain ⟨T1, u1, u2, u3⟩ := w_push0 (f := f + 1) hp (show p < pe by omega) h2 (by rw [List.length_cons]; omega) c1 c2 hs
    obtain ⟨T2, u4, u5, u6⟩ := w_bin (f := f) hp (show p + 1 < pe by omega) h2 (by omega) (by rw [u3 _ _ (by omega)]; exact c3) (by omega) (two_part g1 g2) u2
    exact ⟨T2, u1.trans u4, u5, fun b k hb => (u6 b k hb).trans (u3 b k hb)⟩
  · obtain ⟨hs', g2, r, rfl, rfl⟩ := h
    obtain ⟨b, t, rfl, g3, g4⟩ := okK_1 ok
    obtain ⟨a, t, rfl, g5, g6⟩ := okK_1 g4
    rw [List.length_cons, List.length_cons] at hl
    obtain ⟨o, ho⟩ : ∃ o, (s = 43 ∧ o = 2) ∨ (s = 45 ∧ o = 3) ∨ (s = 42 ∧ o = 4) := by
      rcases hs' with e | e | e
      · exact ⟨2, by omega⟩
      · exact ⟨3, by omega⟩
      · exact ⟨4, by omega⟩
    have o6 : (s = 43 ∧ o = 2) ∨ (s = 45 ∧ o = 3) ∨ (s = 42 ∧ o = 4) ∨ (s = 60 ∧ o = 6) ∨ (s = 61 ∧ o = 7) ∨ (s = 62 ∧ o = 8) := ho.elim Or.inl (fun h => Or.inr (h.elim Or.inl (fun h => Or.inr (Or.inl h))))
    have o8 : (s = 43 ∧ o = 2) ∨ (s = 45 ∧ o = 3) ∨ (s = 42 ∧ o = 4) ∨ (s = 60 ∧ o = 6) ∨ (s = 61 ∧ o = 7) ∨ (s = 62 ∧ o = 8) ∨ (s = 2 ∧ o = 10) ∨ (s = 1 ∧ o = 11) := ho.elim Or.inl (fun h => Or.inr (h.elim Or.inl (fun h => Or.inr (Or.inl h))))
    have hl40 : t.length ≤ 40 := by omega
    have oo : o < 64 ∧ o ≠ 0 ∧ o ≠ 1 ∧ o ≠ 9 := by clear o6 o8; omega
    have sn : s ≠ 12 ∧ s ≠ 13 ∧ s ≠ 47 ∧ s ≠ 3 := by clear o6 o8 ho; omega
    rw [refC_1 o8] at h1 hc ⊢
    rw [ev_bin sn]
    exact w_bin hp h1 h2 hl40 (hc 0 _ rfl).1 oo (two_num o6) hs
  · obtain ⟨hs', g2, r, rfl, rfl⟩ := h
    obtain ⟨b, t, rfl, g3, g4⟩ := okK_1 ok
    obtain ⟨a, t, rfl, g5, g6⟩ := okK_1 g4
    rw [List.length_cons, List.length_cons] at hl
    obtain ⟨o, ho⟩ : ∃ o, (s = 60 ∧ o = 6) ∨ (s = 61 ∧ o = 7) ∨ (s = 62 ∧ o = 8) := by
      rcases hs' with e | e | e
      · exact ⟨6, by omega⟩
      · exact ⟨7, by omega⟩
      · exact ⟨8, by omega⟩
    have o6 : (s = 43 ∧ o = 2) ∨ (s = 45 ∧ o = 3) ∨ (s = 42 ∧ o = 4) ∨ (s = 60 ∧ o = 6) ∨ (s = 61 ∧ o = 7) ∨ (s = 62 ∧ o = 8) := Or.inr (Or.inr (Or.inr ho))
    have o8 : (s = 43 ∧ o = 2) ∨ (s = 45 ∧ o = 3) ∨ (s = 42 ∧ o = 4) ∨ (s = 60 ∧ o = 6) ∨ (s = 61 ∧ o = 7) ∨ (s = 62 ∧ o = 8) ∨ (s = 2 ∧ o = 10) ∨ (s = 1 ∧ o = 11) := Or.inr (Or.inr (Or.inr (ho.elim Or.inl (fun h => Or.inr (h.elim Or.inl (fun h => Or.inr (Or.inl h)))))))
    have hl40 : t.length ≤ 40 := by clear o6 o8; omega
    have oo : o < 64 ∧ o ≠ 0 ∧ o ≠ 1 ∧ o ≠ 9 := by clear o6 o8; omega
    have sn : s ≠ 12 ∧ s ≠ 13 ∧ s ≠ 47 ∧ s ≠ 3 := by clear o6 o8 ho; omega
    rw [refC_1 o8] at h1 hc ⊢
    rw [ev_bin sn]
    exact w_bin hp h1 h2 hl40 (hc 0 _ rfl).1 oo (two_num o6) hs
  · obtain ⟨rfl, g2, r, rfl, rfl⟩ := h
    obtain ⟨a, t, rfl, g3, g4⟩ := okK_1 ok
    rw [List.length_cons] at hl
    exact w_not hp h1 h2 (by omega) (hc 0 (9, 0) rfl).1 hs
  · obtain ⟨hs', g2, r, rfl, rfl⟩ := h
    obtain ⟨b, t, rfl, g3, g4⟩ := okK_1 ok
    obtain ⟨a, t, rfl, g5, g6⟩ := okK_1 g4
    rw [List.length_cons, List.length_cons] at hl
    obtain ⟨o, ho⟩ : ∃ o, (s = 2 ∧ o = 10) ∨ (s = 1 ∧ o = 11) := by
      rcases hs' with e | e
      · exact ⟨10, by omega⟩
      · exact ⟨11, by omega⟩
    have o8 : (s = 43 ∧ o = 2) ∨ (s = 45 ∧ o = 3) ∨ (s = 42 ∧ o = 4) ∨ (s = 60 ∧ o = 6) ∨ (s = 61 ∧ o = 7) ∨ (s = 62 ∧ o = 8) ∨ (s = 2 ∧ o = 10) ∨ (s = 1 ∧ o = 11) := Or.inr (Or.inr (Or.inr (Or.inr (Or.inr (Or.inr ho)))))
    have hl40 : t.length ≤ 40 := by clear o8; omega
    have oo : o < 64 ∧ o ≠ 0 ∧ o ≠ 1 ∧ o ≠ 9 := by clear o8; omega
    have sn : s ≠ 12 ∧ s ≠ 13 ∧ s ≠ 47 ∧ s ≠ 3 := by clear o8 ho; omega
    rw [refC_1 o8] at h1 hc ⊢
    rw [ev_bin sn]
    exact w_bin hp h1 h2 hl40 (hc 0 _ rfl).1 oo (two_bool ho (g5 rfl) (g3 rfl)) hs
theorem tyC_len {ks ks' : List Bool} {q : Nat × Nat} (h : tyC ks q = some ks') (hl : ks.length ≤ 32) : ks'.length ≤ 32 := by
  rcases tyC_inv h with h | h | h | h | h | h | h
  · rw [h.2.2.2, List.length_cons]; omega
  · rw [h.2.2.2, List.length_cons]; omega
  · obtain ⟨-, -, -, r, e1, e2⟩ := h
    rw [e1, List.length_cons] at hl; rw [e2, List.length_cons]; omega
  · obtain ⟨-, -, r, e1, e2⟩ := h
    rw [e1, List.length_cons, List.length_cons] at hl; rw [e2, List.length_cons]; omega
  · obtain ⟨-, -, r, e1, e2⟩ := h
    rw [e1, List.length_cons, List.length_cons] at hl; rw [e2, List.length_cons]; omega
  · obtain ⟨-, -, r, e1, e2⟩ := h
    rw [e1, List.length_cons] at hl; rw [e2, List.length_cons]; omega
  · obtain ⟨-, -, r, e1, e2⟩ := h
    rw [e1, List.length_cons, List.length_cons] at hl; rw [e2, List.length_cons]; omega
theorem code_M {y1 y3 : Int32} {off m1 pe : Nat} {vals : Nat → Int32} (hp : 400 * y1 + y3 = nI pe) (h2 : pe ≤ 2400) (hm : m1 + off ≤ 10) : ∀ (c : Cod) (ks kf : List Bool) (st : List Int32) (p f : Nat) (T : Sto), tyL c ks = some kf → okK ks st → st.length ≤ 32 → stk (T 128) st → p + (refL off c).length ≤ pe → (∀ i d, (refL off c)[i]? = some d → T 124 (p + i) = nI d.1 ∧ T 125 (p + i) = nI d.2) → (∀ j, j < m1 → T 127 (j + off) = vals j) → (∀ q ∈ c, q.1 = 13 → q.2 < m1) →
    ∃ T', r_M_worth_L12 y1 y3 (f + (refL off c).length) (nI st.length) (nI p) T = r_M_worth_L12 y1 y3 f (nI (evL vals c st).length) (nI (p + (refL off c).length)) T' ∧ stk (T' 128) (evL vals c st) ∧ ∀ a k, a ≠ 128 → T' a k = T a k := by
  intro c
  induction c with
  | nil =>
    intro ks kf st p f T ty ok hl hs _ _ _ _
    exact ⟨T, rfl, hs, fun _ _ _ => rfl⟩
  | cons q c ih =>
    intro ks kf st p f T ty ok hl hs hi hc hv h13
    have eL : refL off (q :: c) = refC off q ++ refL off c := by simp [refL]
    rw [eL, List.length_append] at hi
    obtain ⟨k1, t1, t2⟩ : ∃ k1, tyC ks q = some k1 ∧ tyL c k1 = some kf := by
      rw [tyL] at ty
      cases e : tyC ks q with
      | none => rw [e] at ty; cases ty
      | some k1 => rw [e] at ty; exact ⟨k1, rfl, ty⟩
    obtain ⟨T1, p1, p2, p3⟩ := step_M (f := f + (refL off c).length) (vals := vals) hp h2 t1 ok hl hs (by omega) (fun i d hd => hc i d (by rw [eL, List.getElem?_append_left (List.getElem?_eq_some_iff.mp hd).1]; exact hd)) hm hv (h13 q (List.mem_cons_self))
    have ok1 := ev_ok (vals := vals) t1 ok
    have l1 : (ev1 vals q st).length ≤ 32 := by rw [← ok1.len]; exact tyC_len t1 (by rw [ok.len]; exact hl)
    obtain ⟨T2, o1, o2, o3⟩ := ih k1 kf _ (p + (refC off q).length) f T1 t2 ok1 l1 p2 (by omega) (fun i d hd => by
      rw [p3 _ _ (by omega), p3 _ _ (by omega), Nat.add_assoc]
      exact hc _ d (by rw [eL, List.getElem?_append_right (by omega), Nat.add_sub_cancel_left]; exact hd)) (fun j hj => by rw [p3 _ _ (by omega)]; exact hv j hj) (fun q' hq' => h13 q' (List.mem_cons_of_mem _ hq'))
    refine ⟨T2, ?_, o2, fun a k h => (o3 a k h).trans (p3 a k h)⟩
    rw [eL, List.length_append, Nat.add_comm (refC off q).length, ← Nat.add_assoc, p1, o1, Nat.add_assoc, Nat.add_comm (refC off q).length]
    rfl
theorem evL_ok {vals : Nat → Int32} : ∀ {c : Cod} {ks kf : List Bool} {st : List Int32}, tyL c ks = some kf → okK ks st → okK kf (evL vals c st) := by
  intro c
  induction c with
  | nil => intro ks kf st ty ok; cases ty; exact ok
  | cons p c ih =>
    intro ks kf st ty ok
    obtain ⟨k1, t1, t2⟩ : ∃ k1, tyC ks p = some k1 ∧ tyL c k1 = some kf := by
      rw [tyL] at ty
      cases e : tyC ks p with
      | none => rw [e] at ty; cases ty
      | some k1 => rw [e] at ty; exact ⟨k1, rfl, ty⟩
    exact ih t2 (ev_ok t1 ok)
theorem begL_s {off : Nat} {ls : List (Nat × Cod)} {j : Nat} {l : Nat × Cod} (h : ls[j]? = some l) : begL off ls (j + 1) = begL off ls j + (refL off l.2).length := by
  unfold begL
  rw [List.take_add_one, h]
  simp
theorem begL_mono {off : Nat} {ls : List (Nat × Cod)} : ∀ (d j : Nat), j + d = ls.length → begL off ls j ≤ begL off ls ls.length := by
  intro d
  induction d with
  | zero => intro j h; rw [show j = ls.length by omega]; exact Nat.le_refl _
  | succ d ih =>
    intro j h
    have := ih (j + 1) (by omega)
    have e : ls[j]? = some (ls[j]'(by omega)) := List.getElem?_eq_getElem (by omega)
    rw [begL_s e] at this
    omega
theorem tyL_13 : ∀ {c : Cod} {ks kf : List Bool}, tyL c ks = some kf → ∀ q ∈ c, q.1 = 13 → q.2 < 6 := by
  intro c
  induction c with
  | nil => intro ks kf _ q hq; cases hq
  | cons p c ih =>
    intro ks kf ty q hq h13
    obtain ⟨k1, t1, t2⟩ : ∃ k1, tyC ks p = some k1 ∧ tyL c k1 = some kf := by
      rw [tyL] at ty
      cases e : tyC ks p with
      | none => rw [e] at ty; cases ty
      | some k1 => rw [e] at ty; exact ⟨k1, rfl, ty⟩
    rcases List.mem_cons.mp hq with e | e
    · subst e
      rcases tyC_inv t1 with h | h | h | h | h | h | h
      · omega
      · exact h.2.2.1
      all_goals omega
    · exact ih t2 q e h13
/-- the reference's choice -/
def endM (k e : Nat) (T' : Sto) : Option Nat → Option ((Int32 × Sto) ⊕ (Int32 × Sto))
  | none => some (.inl (nI e, T'))
  | some r => some (.inr (nI (srt k r), T'))
theorem lines_M {nL k : Nat} {S : Sto} {ls : List (Nat × Cod)} {m1 : Nat} {vals : Nat → Int32} (hk : k < 5) (hS : Scr nL k S ls) (hm : m1 + (if k = 4 then 6 else 0) ≤ 10) (h6 : k ≠ 4 → m1 = 6) (h4 : k = 4 → m1 = 4) : ∀ (d j f : Nat) (T : Sto), j + d = ls.length → d < f → (∀ a i, 120 ≤ a → a ≤ 125 → T a i = S a i) → (∀ i, i < m1 → T 127 (i + (if k = 4 then 6 else 0)) = vals i) →
    ∃ T', r_M_firstSo_L5 (nI k) f (nI (12 * k + j)) T = endM k (12 * k + ls.length) T' (dec vals (ls.drop j)) ∧ ∀ a i, a ≠ 128 → T' a i = T a i := by
  obtain ⟨-, -, -, -, -, s6, s7, s8, s9⟩ := hS
  generalize hoff : (if k = 4 then 6 else 0) = off at *
  have i6 : inr (nI k) 6 = true := inr_nI (by omega) (by decide)
  have tk : (nI k).toNatClampNeg = k := q_tnI (by omega)
  have e12 : (12 : Int32) * nI k = nI (12 * k) := pk_mul 12 k
  have e40 : (400 : Int32) * nI k = nI (400 * k) := pk_mul 400 k
  intro d
  induction d with
  | zero =>
    intro j f T hj hf hT hv
    obtain ⟨f, rfl⟩ : ∃ g, f = g + 1 := ⟨f - 1, by omega⟩
    have e : j = ls.length := by omega
    have t7 : T 120 k = nI ls.length := by rw [hT _ _ (by omega) (by omega)]; exact s7
    have c : nI (12 * k + ls.length) ≤ nI (12 * k + j) := by rw [e, q_le]; omega
    refine ⟨T, ?_, fun _ _ _ => rfl⟩
    simp only [r_M_firstSo_L5, chk_t i6, tk, t7, e12, nI_add, if_pos c]
    rw [e, List.drop_length]
    rfl
  | succ d ih =>
    intro j f T hj hf hT hv
    obtain ⟨f, rfl⟩ : ∃ g, f = g + 1 := ⟨f - 1, by omega⟩
    have t7 : T 120 k = nI ls.length := by rw [hT _ _ (by omega) (by omega)]; exact s7
    have c : ¬ nI (12 * k + ls.length) ≤ nI (12 * k + j) := nI_ge (by omega) (by omega)
    have hl : ls[j]? = some (ls[j]'(by omega)) := List.getElem?_eq_getElem (by omega)
    generalize ls[j]'(by omega) = l at hl
    obtain ⟨g1, g2, g3, g4, g5, g6, g7, g8⟩ := s9 j l hl
    have b1 := begL_s (off := off) hl
    have b2 := begL_mono (off := off) (ls := ls) d (j + 1) (by omega)
    have i7 : inr (nI (12 * k + j)) 72 = true := inr_nI (by omega) (by decide)
    have tj : (nI (12 * k + j)).toNatClampNeg = 12 * k + j := q_tnI (by omega)
    have t2 : T 122 (12 * k + j) = nI (begL off ls j) := by rw [hT _ _ (by omega) (by omega)]; exact g2
    have t3 : T 123 (12 * k + j) = nI (begL off ls (j + 1)) := by rw [hT _ _ (by omega) (by omega)]; exact g3
    have hfu : fu = (4999 - (refL off l.2).length) + 1 + (refL off l.2).length := by have : fu = 5000 := rfl; omega
    obtain ⟨T1, p1, p2, p3⟩ := code_M (y1 := nI k) (y3 := nI (begL off ls (j + 1))) (pe := 400 * k + begL off ls (j + 1)) (vals := vals) (by rw [e40, nI_add]) (by omega) hm l.2 [] [true] [] (400 * k + begL off ls j) ((4999 - (refL off l.2).length) + 1) T g6 trivial (by decide) trivial (by omega) (fun i q hq => by rw [hT _ _ (by omega) (by omega), hT _ _ (by omega) (by omega)]; exact g8 i q hq) hv (fun q hq h13 => by
      by_cases k4 : k = 4
      · rw [h4 k4]; exact g7 k4 q hq h13
      · rw [h6 k4]; exact tyL_13 g6 q hq h13)
    obtain ⟨a, ea⟩ : ∃ a, evL vals l.2 [] = [a] := okK_t (evL_ok (vals := vals) g6 trivial)
    have hw : r_M_worth (nI k) (nI (begL off ls j)) (nI (begL off ls (j + 1))) T = some (a, T1) := by
      have c2 : nI (400 * k + begL off ls (j + 1)) ≤ nI (400 * k + begL off ls j + (refL off l.2).length) := by rw [q_le, b1, Nat.add_assoc]; omega
      rw [ea] at p1 p2
      have p2' : T1 128 0 = a := p2.1
      rw [← hfu] at p1
      simp only [r_M_worth, lt, e40, nI_add]
      rw [show r_M_worth_L12 (nI k) (nI (begL off ls (j + 1))) fu 0 (nI (400 * k + begL off ls j)) T = _ from p1]
      simp only [r_M_worth_L12, e40, nI_add, if_pos c2, Option.bind_some]
      rw [show (0 : Int32).toNatClampNeg = 0 from rfl, p2']
    have ed : ls.drop j = l :: ls.drop (j + 1) := by
      have hl2 := hl
      rw [List.getElem?_eq_getElem (by omega)] at hl2
      rw [List.drop_eq_getElem_cons (by omega), Option.some.inj hl2]
    rw [ed]
    have d1 : a = 0 → dec vals (l :: ls.drop (j + 1)) = dec vals (ls.drop (j + 1)) := fun k => by rw [dec, ea]; exact if_pos k
    have d2 : ¬ a = 0 → dec vals (l :: ls.drop (j + 1)) = some l.1 := fun k => by rw [dec, ea]; exact if_neg k
    by_cases ka : a = 0
    · obtain ⟨T2, u1, u2⟩ := ih (j + 1) f T1 (by omega) (by omega) (fun a i h1 h2 => by rw [p3 _ _ (by omega)]; exact hT a i h1 h2) (fun i hi => by rw [p3 _ _ (by omega)]; exact hv i hi)
      refine ⟨T2, ?_, fun a i h => (u2 a i h).trans (p3 a i h)⟩
      rw [d1 ka, ← u1]
      simp only [r_M_firstSo_L5, chk_t i6, tk, t7, e12, nI_add, if_neg c, chk_t i7, tj, t2, t3, hw, Option.bind_some, if_pos ka, lt, nI_1]
      rfl
    · refine ⟨T1, ?_, p3⟩
      have t1 : T1 121 (12 * k + j) = nI (srt k l.1) := by rw [p3 _ _ (by omega), hT _ _ (by omega) (by omega)]; exact g1
      rw [d2 ka]
      simp only [r_M_firstSo_L5, chk_t i6, tk, t7, e12, nI_add, if_neg c, chk_t i7, tj, t2, t3, hw, Option.bind_some, if_neg ka, t1, endM]
