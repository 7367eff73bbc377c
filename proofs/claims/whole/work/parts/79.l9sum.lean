/-- a sum, from any state whose step is a unit -/
theorem sum_M {law : Bool} {Bs : Nat → Nat} {m cmp ln out op br pos : Nat} {C0 C : Cod} {s : List Bool} {W5 : List Nat} {A : AS} {T : Sto} (hm : m ≤ 400) (h5 : ∀ a ∈ W5, rnk a < 5) (hs : s.length < 30) (hok : ∀ st E C, st ≤ 7 → (∀ a ∈ E, isA a) → E.length ≤ 2 → C.length + E.length + W5.length < 400 → okS (st, cmp, ln, out, op, br, E ++ W5, C))
    (hA : okS A) (hA0 : ¬ A.1 = 0) (hAt : takeA law (tkT Bs m law pos) (tkN Bs m pos) A = unitA law (tkT Bs m law pos) (tkN Bs m pos) cmp ln out op br W5 C)
    (hQ : RQ law Bs m pos T) (hR : cdM (refL (offL law) C) T) (hK : KD law C0 C s) (hr1 : C.length + W5.length + 4 ≤ pos) (hr2 : (refL (offL law) C).length + W5.length + 4 ≤ pos) :
    goodS law Bs m C0 s W5 A cmp ln out op br pos T (r_M_readSum T) ∨ badQ law Bs m A pos T (r_M_readSum T) := by
  have hok6 : ∀ st W C, st ≤ 7 → (W = W5 ∨ W = 42 :: W5) → C.length + W.length < 400 → okS (st, cmp, ln, out, op, br, W, C) := by
    intro st W C g1 g2 g3
    rcases g2 with rfl | rfl
    · exact hok st [] C g1 (fun b q => by cases q) (by simp) (by simp only [List.length_nil]; omega)
    · exact hok st [42] C g1 (fun b q => by rw [List.mem_singleton] at q; exact Or.inl q) (by simp) (by simp only [List.length_cons, List.length_nil] at g3 ⊢; omega)
  rcases prod_M (C0 := C0) (s := s) hm (fun b hb => by have := h5 b hb; omega) (by omega) hok6 hA hA0 hAt hQ hR hK hr1 hr2 with g | g
  · obtain ⟨n, W', C', D', pos', T', g1, g2, ⟨p1, p2, p3, p4, p5, p6⟩, g4, g5, g6, g7⟩ := g
    have hp' : pos' ≤ m := p2.2.2.2.2.2.2.1
    have ex : r_M_readSum T = sumX (r_M_readSum_L10 fu T') := by
      unfold r_M_readSum sumX
      simp only [g1, Option.bind_some, if_neg (show ¬ (0 : Int32) = -1 by decide)]
      generalize r_M_readSum_L10 fu T' = x
      rcases x with _ | (x | x) <;> rfl
    rw [ex]
    rcases sum_L (C0 := C0) (s := s) hm h5 hs hok fu W' C' D' pos' T' (by have : fu = 5000 := rfl; omega) ⟨⟨_, _, p1, Or.inl ⟨rfl, rfl⟩⟩, p2, p3, p4, p5, p6, g4, g5⟩ with g | g
    · exact Or.inl (g.pre g2 g6)
    · exact Or.inr (g.pre g2 g6)
  · obtain ⟨n, A', pos', fl, g1, g2, g3, g4, T', z1, z2, z3, z4⟩ := g
    right
    refine ⟨n, A', pos', fl, g1, g2, g3, g4, T', ?_, z2, z3, z4⟩
    unfold r_M_readSum
    simp only [z1, Option.bind_some, if_pos]
