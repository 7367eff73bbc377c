/-- after a comparison: what waits is E and P, all of E goes into the code -/
def goodC (law : Bool) (Bs : Nat → Nat) (m : Nat) (C0 : Cod) (s : List Bool) (P : List Nat) (A : AS) (ln out op br pos : Nat) (T : Sto) (x : Option (Int32 × Sto)) : Prop :=
  ∃ n a W' C' D' pos' T', x = some (0, T') ∧ (a = 60 ∨ a = 61 ∨ a = 62) ∧ Pth law Bs m n A pos (6, 1, ln, out, op, br, W', C') pos' ∧ smR (a :: P) W' C' D' ∧ RQ law Bs m pos' T' ∧ cdM (refL (offL law) (D' ++ [(a, 0)])) T' ∧ KD law C0 (D' ++ [(a, 0)]) (true :: s) ∧ C'.length + W'.length + 4 ≤ pos' ∧ (refL (offL law) (D' ++ [(a, 0)])).length + P.length + 4 ≤ pos' ∧ tkT Bs m law pos' ≠ 42 ∧ tkT Bs m law pos' ≠ 47 ∧ tkT Bs m law pos' ≠ 43 ∧ tkT Bs m law pos' ≠ 45 ∧ frM T T'
theorem comp_M {law : Bool} {Bs : Nat → Nat} {m ln out op br pos : Nat} {C0 C : Cod} {s : List Bool} {P : List Nat} {A : AS} {T : Sto} (hm : m ≤ 400) (h4 : ∀ a ∈ P, rnk a < 4) (hs : s.length < 29) (hok : ∀ c st E C, c ≤ 1 → st ≤ 7 → (∀ a ∈ E, isA a) → E.length ≤ 3 → C.length + E.length + P.length < 400 → okS (st, c, ln, out, op, br, E ++ P, C))
    (hA : okS A) (hA0 : ¬ A.1 = 0) (hAt : takeA law (tkT Bs m law pos) (tkN Bs m pos) A = unitA law (tkT Bs m law pos) (tkN Bs m pos) 0 ln out op br P C)
    (hQ : RQ law Bs m pos T) (hR : cdM (refL (offL law) C) T) (hK : KD law C0 C s) (hr1 : C.length + P.length + 4 ≤ pos) (hr2 : (refL (offL law) C).length + P.length + 4 ≤ pos) :
    goodC law Bs m C0 s P A ln out op br pos T (r_M_readCompared T) ∨ badQ law Bs m A pos T (r_M_readCompared T) := by
  rcases sum_M (C0 := C0) (s := s) (cmp := 0) hm (fun b hb => by have := h4 b hb; omega) (by omega) (fun st E C g1 g2 g3 g4 => hok 0 st E C (by omega) g1 g2 (by omega) g4) hA hA0 hAt hQ hR hK hr1 hr2 with g | g
  · obtain ⟨n, W', C', D', pos', T', g1, g2, ⟨i1, i2, i3, i4, i5, i6, i7, i8⟩, g4, g5, g6⟩ := g
    have hp : pos' ≤ m := i2.2.2.2.2.2.2.1
    obtain ⟨-, -, r2, E, e1, e2, e3⟩ := i1.rel (op := op) (fun b hb => by have := h4 b hb; omega)
    have r4 := i1.rel4 (op := op) h4
    have s60 : r_M_isSign 60 T' = if tkT Bs m law pos' = 60 then 1 else 0 := sgn_M (c := 60) i2 (by decide) (by decide)
    have s61 : r_M_isSign 61 T' = if tkT Bs m law pos' = 61 then 1 else 0 := sgn_M (c := 61) i2 (by decide) (by decide)
    have s62 : r_M_isSign 62 T' = if tkT Bs m law pos' = 62 then 1 else 0 := sgn_M (c := 62) i2 (by decide) (by decide)
    have ok6 : okS (6, 0, ln, out, op, br, W', C') := by
      have := hok 0 6 E C' (by omega) (by omega) e3 (by omega) (by rw [e1, List.length_append] at i5; omega)
      rw [e1]; exact this
    by_cases kk : tkT Bs m law pos' = 60 ∨ tkT Bs m law pos' = 61 ∨ tkT Bs m law pos' = 62
    · obtain ⟨a, ha⟩ : ∃ a, a = tkT Bs m law pos' := ⟨_, rfl⟩
      rw [← ha] at kk s60 s61 s62
      obtain ⟨ra, ra3, ia⟩ := rnk_4 kk
      obtain ⟨T1, t1, t2, t3⟩ := i2.nx
      have f1 : frM T' T1 := fun a k g1 g2 => t3 a k (by omega)
      have d1 : cdM (refL (offL law) D') T1 := i3.go (fun a k q => t3 a k (by omega))
      have st1 : Pth law Bs m 1 (6, 0, ln, out, op, br, W', C') pos' (4, 1, ln, out, op, br, a :: P, D') (tkE Bs m pos') := by
        refine ⟨ok6, _, ?_, rfl, rfl⟩
        rw [← ha]
        show signA a 0 ln out op br W' C' = _
        unfold signA
        rw [if_neg (by omega), if_pos ⟨kk, rfl⟩, ra, r4]
      have le1 := st1.le hm hp
      have k31 : T' 104 31 = nI a := by
        rcases rk_c (law := law) (Bs := Bs) hm hp with ⟨k, t⟩ | ⟨k, t⟩ | ⟨k, kv, t⟩ | ⟨k, kv, kn, t⟩ | ⟨k, kv, kw, t⟩
        · omega
        · omega
        · have := wmp_le _ kv
          cases law <;> omega
        · omega
        · rw [i2.2.2.2.2.2.1 (by omega), ha, t]
      have e0 : r_M_readCompared T = (r_M_readSum T1).bind (fun (r5, S6) => if r5 = (-1) then some ((-1 : Int32), S6) else (r_M_emits (nI (a - 54)) 0 S6).bind (fun S7 => some ((0 : Int32), S7))) := by
        unfold r_M_readCompared
        rcases kk with rfl | rfl | rfl
        · simp only [g1, Option.bind_some, if_neg (show ¬ (0 : Int32) = -1 by decide), s60, if_neg (show ¬ (1 : Int32) = 0 by decide), if_pos, jn_k, k31, if_pos (show nI 60 = (60 : Int32) from rfl), t1]
          rfl
        · simp only [g1, Option.bind_some, if_neg (show ¬ (0 : Int32) = -1 by decide), s60, s61, if_neg (show ¬ (61 : Nat) = 60 by decide), if_neg (show ¬ (1 : Int32) = 0 by decide), if_pos, jn_k, k31, if_neg (show ¬ nI 61 = (60 : Int32) by decide), if_pos (show nI 61 = (61 : Int32) from rfl), t1]
          rfl
        · simp only [g1, Option.bind_some, if_neg (show ¬ (0 : Int32) = -1 by decide), s60, s61, s62, if_neg (show ¬ (62 : Nat) = 60 by decide), if_neg (show ¬ (62 : Nat) = 61 by decide), if_neg (show ¬ (1 : Int32) = 0 by decide), if_pos, jn_k, k31, if_neg (show ¬ nI 62 = (60 : Int32) by decide), if_neg (show ¬ nI 62 = (61 : Int32) by decide), t1]
          rfl
      have hok5 : ∀ st E C, st ≤ 7 → (∀ b ∈ E, isA b) → E.length ≤ 2 → C.length + E.length + (a :: P).length < 400 → okS (st, 1, ln, out, op, br, E ++ (a :: P), C) := by
        intro st E C q1 q2 q3 q4
        have := hok 1 st (E ++ [a]) C (by omega) q1 (fun b hb => by rcases List.mem_append.mp hb with z | z; exact q2 b z; rw [List.mem_singleton] at z; rw [z]; exact ia) (by rw [List.length_append, List.length_singleton]; omega) (by rw [List.length_append, List.length_singleton]; rw [List.length_cons] at q4; omega)
        rw [List.append_assoc] at this
        exact this
      rw [e0]
      rcases sum_M (C0 := C0) (s := false :: s) (cmp := 1) (W5 := a :: P) (C := D') (A := (4, 1, ln, out, op, br, a :: P, D')) hm (fun b hb => by rcases List.mem_cons.mp hb with z | z; rw [z]; omega; have := h4 b z; omega) (by rw [List.length_cons]; omega) hok5 (hok5 4 [] D' (by omega) (fun b q => by cases q) (by simp) (by simp only [List.length_cons, List.length_nil]; omega)) (by show ¬ 4 = 0; omega) rfl t2 d1 i4 (by rw [List.length_cons]; omega) (by rw [List.length_cons]; omega) with w | w
      · obtain ⟨n2, W2, C2, D2, p2, T2, w1, w2, ⟨j1, j2, j3, j4, j5, j6, j7, j8⟩, w4, w5, w6⟩ := w
        have hp2 : p2 ≤ m := j2.2.2.2.2.2.2.1
        rw [List.length_cons] at j6
        obtain ⟨T3, v1, v2, v3⟩ := emits_M (s := a - 54) (v := 0) j3 (by omega)
        have v1' : r_M_emits (nI (a - 54)) 0 T2 = some T3 := v1
        have eq : refL (offL law) (D2 ++ [(a, 0)]) = refL (offL law) D2 ++ [(a - 54, 0)] := by
          rw [refL_1]
          rcases kk with rfl | rfl | rfl <;> rfl
        left
        refine ⟨n + (1 + n2), a, W2, C2, D2, p2, T3, ?_, kk, g2.tr (st1.tr w2), j1, j2.go (fun a k g => v3 a k (by omega) (by omega)), by rw [eq]; exact v2, j4.cm kk, j5, by rw [eq, List.length_append, List.length_singleton]; omega, j7, j8, w4, w5, ((g6.tr f1).tr w6).tr (fun a k g1 g2 => v3 a k (by omega) g2)⟩
        rw [w1, Option.bind_some]
        simp only [if_neg (show ¬ (0 : Int32) = -1 by decide), v1', Option.bind_some]
      · obtain ⟨n2, A2, p2, fl, w1, w2, w3, w4, T2, z1, z2, z3, z4⟩ := w
        right
        refine ⟨n + (1 + n2), A2, p2, fl, g2.tr (st1.tr w1), w2, w3, w4, T2, ?_, z2, z3, (g6.tr f1).tr z4⟩
        rw [z1, Option.bind_some]
        rfl
    · right
      obtain ⟨T2, v1, v2, v3, v4⟩ := fails_M (x := 1) i2
      rw [if_neg (fun z => kk (Or.inl z))] at s60
      rw [if_neg (fun z => kk (Or.inr (Or.inl z)))] at s61
      rw [if_neg (fun z => kk (Or.inr (Or.inr z)))] at s62
      refine ⟨n, _, pos', 1, g2, ⟨ok6, fun z => by have : (6 : Nat) = 0 := z.2; omega, ?_⟩, by omega, by omega, T2, ?_, v2, v3, g6.tr (fun a k g1 g2 => v4 a k (by omega))⟩
      · show signA (tkT Bs m law pos') 0 ln out op br W' C' = _
        unfold signA
        rw [if_neg i8, if_neg (fun z => kk z.1), if_neg (by omega), if_pos rfl]
      · unfold r_M_readCompared
        simp only [g1, Option.bind_some, if_neg (show ¬ (0 : Int32) = -1 by decide), s60, s61, s62, if_pos, jn_c, v1]
  · obtain ⟨n, A', pos', fl, g1, g2, g3, g4, T', z1, z2, z3, z4⟩ := g
    right
    refine ⟨n, A', pos', fl, g1, g2, g3, g4, T', ?_, z2, z3, z4⟩
    unfold r_M_readCompared
    simp only [z1, Option.bind_some, if_pos]
