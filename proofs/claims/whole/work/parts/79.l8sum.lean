/-! a sum -/
def smR (W5 W : List Nat) (C D5 : Cod) : Prop := ∃ W6 D, prR W6 W C D ∧ ((W6 = W5 ∧ D5 = D) ∨ ∃ a, (a = 43 ∨ a = 45) ∧ W6 = a :: W5 ∧ D5 = D ++ [(a, 0)])
theorem rnk_5 {a : Nat} (h : a = 43 ∨ a = 45) : rnk a = 5 ∧ ¬ a = 3 := by rcases h with rfl | rfl <;> decide
theorem smR.rel {W5 W : List Nat} {C D5 : Cod} {op : Nat} (h : smR W5 W C D5) (h5 : ∀ a ∈ W5, rnk a < 5) : relP 5 W op C = (W5, op, D5) ∧ relP 5 W op C = (W5, op, D5) ∧ C.length + W.length = D5.length + W5.length ∧ ∃ E, W = E ++ W5 ∧ E.length ≤ 2 ∧ ∀ a ∈ E, isA a := by
  obtain ⟨W6, D, h1, h2⟩ := h
  have main : relP 5 W op C = (W5, op, D5) ∧ C.length + W.length = D5.length + W5.length ∧ ∃ E, W = E ++ W5 ∧ E.length ≤ 2 ∧ ∀ a ∈ E, isA a := by
    rcases h2 with ⟨rfl, rfl⟩ | ⟨a, ha, rfl, rfl⟩
    · rcases h1 with ⟨rfl, rfl⟩ | ⟨rfl, rfl⟩
      · exact ⟨relP_t h5, rfl, [], rfl, by decide, fun a q => by cases q⟩
      · refine ⟨?_, by simp only [List.length_append, List.length_cons, List.length_nil]; omega, [42], rfl, by decide, fun a q => ?_⟩
        · rw [relP, if_neg (by decide), if_neg (by decide), relP_t h5]
        · rw [List.mem_singleton] at q; exact Or.inl q
    · obtain ⟨r5, r3⟩ := rnk_5 ha
      have e5 : ∀ X, relP 5 (a :: W5) op X = (W5, op, X ++ [(a, 0)]) := fun X => by rw [relP, if_neg (by omega), if_neg r3, relP_t h5]
      have ia : isA a := by rcases ha with z | z; exact Or.inr (Or.inl z); exact Or.inr (Or.inr (Or.inl z))
      rcases h1 with ⟨rfl, rfl⟩ | ⟨rfl, rfl⟩
      · refine ⟨e5 _, by simp only [List.length_append, List.length_cons, List.length_nil]; omega, [a], rfl, by simp, fun b q => ?_⟩
        rw [List.mem_singleton] at q; rw [q]; exact ia
      · refine ⟨?_, by simp only [List.length_append, List.length_cons, List.length_nil]; omega, [42, a], rfl, by simp, fun b q => ?_⟩
        · rw [relP, if_neg (by decide), if_neg (by decide), e5]
        · rcases List.mem_cons.mp q with z | z
          · exact Or.inl z
          · rw [List.mem_singleton] at z; rw [z]; exact ia
  exact ⟨main.1, main⟩
def smI (law : Bool) (Bs : Nat → Nat) (m : Nat) (C0 : Cod) (s : List Bool) (W5 W : List Nat) (C D : Cod) (pos : Nat) (T : Sto) : Prop :=
  smR W5 W C D ∧ RQ law Bs m pos T ∧ cdM (refL (offL law) D) T ∧ KD law C0 D (false :: s) ∧ C.length + W.length + 4 ≤ pos ∧ (refL (offL law) D).length + W5.length + 4 ≤ pos ∧ tkT Bs m law pos ≠ 42 ∧ tkT Bs m law pos ≠ 47
def goodS (law : Bool) (Bs : Nat → Nat) (m : Nat) (C0 : Cod) (s : List Bool) (W5 : List Nat) (A : AS) (cmp ln out op br pos : Nat) (T : Sto) (x : Option (Int32 × Sto)) : Prop :=
  ∃ n W' C' D' pos' T', x = some (0, T') ∧ Pth law Bs m n A pos (6, cmp, ln, out, op, br, W', C') pos' ∧ smI law Bs m C0 s W5 W' C' D' pos' T' ∧ tkT Bs m law pos' ≠ 43 ∧ tkT Bs m law pos' ≠ 45 ∧ frM T T'
theorem goodS.pre {law : Bool} {Bs : Nat → Nat} {m : Nat} {C0 : Cod} {s : List Bool} {W5 : List Nat} {A B : AS} {cmp ln out op br p q k : Nat} {T U : Sto} {x : Option (Int32 × Sto)} (h : Pth law Bs m k A p B q) (f : frM T U) (g : goodS law Bs m C0 s W5 B cmp ln out op br q U x) : goodS law Bs m C0 s W5 A cmp ln out op br p T x := by
  obtain ⟨n, W', C', D', pos', T', g1, g2, g3, g4, g5, g6⟩ := g
  exact ⟨k + n, W', C', D', pos', T', g1, h.tr g2, g3, g4, g5, f.tr g6⟩
/-- the loop's answer as the procedure gives it -/
def sumX (x : Option ((Sto) ⊕ (Int32 × Sto))) : Option (Int32 × Sto) := x.bind (fun x => match x with | .inl _ => none | .inr r => some r)
theorem sum_L {law : Bool} {Bs : Nat → Nat} {m cmp ln out op br : Nat} {C0 : Cod} {s : List Bool} {W5 : List Nat} (hm : m ≤ 400) (h5 : ∀ a ∈ W5, rnk a < 5) (hs : s.length < 30) (hok : ∀ st E C, st ≤ 7 → (∀ a ∈ E, isA a) → E.length ≤ 2 → C.length + E.length + W5.length < 400 → okS (st, cmp, ln, out, op, br, E ++ W5, C)) :
    ∀ (f : Nat) (W : List Nat) (C D : Cod) (pos : Nat) (T : Sto), m - pos < f → smI law Bs m C0 s W5 W C D pos T → goodS law Bs m C0 s W5 (6, cmp, ln, out, op, br, W, C) cmp ln out op br pos T (sumX (r_M_readSum_L10 f T)) ∨ badQ law Bs m (6, cmp, ln, out, op, br, W, C) pos T (sumX (r_M_readSum_L10 f T)) := by
  intro f
  induction f with
  | zero => intro W C D pos T h; omega
  | succ f ih =>
    intro W C D pos T hf hI
    obtain ⟨i1, i2, i3, i4, i5, i6, i7, i8⟩ := id hI
    have hp : pos ≤ m := i2.2.2.2.2.2.2.1
    obtain ⟨r1, -, r2, E, e1, e2, e3⟩ := i1.rel (op := op) h5
    have s43 : r_M_isSign 43 T = if tkT Bs m law pos = 43 then 1 else 0 := sgn_M (c := 43) i2 (by decide) (by decide)
    have s45 : r_M_isSign 45 T = if tkT Bs m law pos = 45 then 1 else 0 := sgn_M (c := 45) i2 (by decide) (by decide)
    have ok6 : okS (6, cmp, ln, out, op, br, W, C) := by
      have := hok 6 E C (by omega) e3 e2 (by rw [e1, List.length_append] at i5; omega)
      rw [e1]; exact this
    obtain ⟨T1, t1, t2, t3⟩ := i2.nx
    have f1 : frM T T1 := fun a k g1 g2 => t3 a k (by omega)
    have d1 : cdM (refL (offL law) D) T1 := i3.go (fun a k q => t3 a k (by omega))
    by_cases kk : tkT Bs m law pos = 43 ∨ tkT Bs m law pos = 45
    · obtain ⟨a, ha⟩ : ∃ a, a = tkT Bs m law pos := ⟨_, rfl⟩
      rw [← ha] at kk s43 s45
      obtain ⟨ra, ra3⟩ := rnk_5 kk
      have ia : isA a := by rcases kk with z | z; exact Or.inr (Or.inl z); exact Or.inr (Or.inr (Or.inl z))
      have st1 : Pth law Bs m 1 (6, cmp, ln, out, op, br, W, C) pos (4, cmp, ln, out, op, br, a :: W5, D) (tkE Bs m pos) := by
        refine ⟨ok6, _, ?_, rfl, rfl⟩
        rw [← ha]
        show signA a cmp ln out op br W C = _
        unfold signA
        rw [if_neg (by omega), if_neg (by omega), if_pos (by omega), ra, r1]
      have le1 := st1.le hm hp
      have hok6 : ∀ st W C, st ≤ 7 → (W = a :: W5 ∨ W = 42 :: a :: W5) → C.length + W.length < 400 → okS (st, cmp, ln, out, op, br, W, C) := by
        intro st W C g1 g2 g3
        rcases g2 with rfl | rfl
        · exact hok st [a] C g1 (fun b q => by rw [List.mem_singleton] at q; rw [q]; exact ia) (by simp) (by simp only [List.length_cons, List.length_nil] at g3 ⊢; omega)
        · refine hok st [42, a] C g1 (fun b q => ?_) (by simp) (by simp only [List.length_cons, List.length_nil] at g3 ⊢; omega)
          rcases List.mem_cons.mp q with z | z
          · exact Or.inl z
          · rw [List.mem_singleton] at z; rw [z]; exact ia
      have k31 : T 104 31 = nI a := by
        rcases rk_c (law := law) (Bs := Bs) hm hp with ⟨k, t⟩ | ⟨k, t⟩ | ⟨k, kv, t⟩ | ⟨k, kv, kn, t⟩ | ⟨k, kv, kw, t⟩
        · omega
        · omega
        · have := wmp_le _ kv
          cases law <;> omega
        · omega
        · rw [i2.2.2.2.2.2.1 (by omega), ha, t]
      have hv : ∀ (X : Int32 → Option ((Sto) ⊕ (Int32 × Sto))), (jn X (fun j42 => if T 104 31 = 43 then j42 2 else j42 3)) = X (nI (if a = 43 then 2 else 3)) := by
        intro X
        rcases kk with rfl | rfl
        · simp only [k31, if_pos (show nI 43 = (43 : Int32) from rfl), jn_k]; rfl
        · simp only [k31, if_neg (show ¬ nI 45 = (43 : Int32) by decide), jn_k]; rfl
      have e0 : r_M_readSum_L10 (f + 1) T = (r_M_reads T).bind (fun S2 => (r_M_readProduct S2).bind (fun (r3, S4) => if r3 = (-1) then some (.inr ((-1), S4)) else (r_M_emits (nI (if a = 43 then 2 else 3)) 0 S4).bind (fun S5 => r_M_readSum_L10 f S5))) := by
        rw [← hv (fun v1 => (r_M_reads T).bind (fun S2 => (r_M_readProduct S2).bind (fun (r3, S4) => if r3 = (-1) then some (.inr ((-1), S4)) else (r_M_emits v1 0 S4).bind (fun S5 => r_M_readSum_L10 f S5))))]
        rcases kk with rfl | rfl
        · simp only [r_M_readSum_L10, s43, if_neg (show ¬ (1 : Int32) = 0 by decide), if_pos, jn_k]
        · simp only [r_M_readSum_L10, s43, s45, if_neg (show ¬ (45 : Nat) = 43 by decide), if_neg (show ¬ (1 : Int32) = 0 by decide), if_pos, jn_k]
      rw [e0, t1, Option.bind_some]
      rcases prod_M (C0 := C0) (s := false :: s) (W6 := a :: W5) (C := D) (A := (4, cmp, ln, out, op, br, a :: W5, D)) (cmp := cmp) (ln := ln) (out := out) (op := op) (br := br) hm (fun b hb => by rcases List.mem_cons.mp hb with z | z; rw [z]; omega; have := h5 b z; omega) (by rw [List.length_cons]; omega) hok6 (hok6 4 _ _ (by omega) (Or.inl rfl) (by rw [List.length_cons]; omega)) (by show ¬ 4 = 0; omega) rfl t2 d1 i4 (by rw [List.length_cons]; omega) (by rw [List.length_cons]; omega) with g | g
      · obtain ⟨n, W', C', D', pos', T', g1, g2, ⟨p1, p2, p3, p4, p5, p6⟩, g4, g5, g6, g7⟩ := g
        have hp' : pos' ≤ m := p2.2.2.2.2.2.2.1
        rw [List.length_cons] at p6
        obtain ⟨T3, v1, v2, v3⟩ := emits_M (s := if a = 43 then 2 else 3) (v := 0) p3 (by omega)
        have v1' : r_M_emits (nI (if a = 43 then 2 else 3)) 0 T' = some T3 := v1
        have eq : refL (offL law) (D' ++ [(a, 0)]) = refL (offL law) D' ++ [(if a = 43 then 2 else 3, 0)] := by
          rw [refL_1]
          rcases kk with rfl | rfl <;> rfl
        have nI3 : smI law Bs m C0 s W5 W' C' (D' ++ [(a, 0)]) pos' T3 := by
          refine ⟨⟨_, _, p1, Or.inr ⟨a, kk, rfl, rfl⟩⟩, p2.go (fun a k g => v3 a k (by omega) (by omega)), by rw [eq]; exact v2, p4.ar (by omega), p5, ?_, g4, g5⟩
          rw [eq, List.length_append, List.length_singleton]; omega
        have f3 : frM T T3 := (f1.tr g6).tr (fun a k g1 g2 => v3 a k (by omega) g2)
        have ex : (r_M_readProduct T1).bind (fun (r3, S4) => if r3 = (-1) then some (.inr ((-1), S4)) else (r_M_emits (nI (if a = 43 then 2 else 3)) 0 S4).bind (fun S5 => r_M_readSum_L10 f S5)) = r_M_readSum_L10 f T3 := by
          rw [g1, Option.bind_some]
          simp only [if_neg (show ¬ (0 : Int32) = -1 by decide), v1', Option.bind_some]
        rw [ex]
        rcases ih _ _ _ _ _ (by omega) nI3 with g | g
        · exact Or.inl (g.pre (st1.tr g2) f3)
        · exact Or.inr (g.pre (st1.tr g2) f3)
      · obtain ⟨n, A', pos', fl, g1, g2, g3, g4, T', z1, z2, z3, z4⟩ := g
        right
        refine badQ.pre st1 f1 ⟨n, A', pos', fl, g1, g2, g3, g4, T', ?_, z2, z3, z4⟩
        rw [z1, Option.bind_some]
        rfl
    · left
      refine ⟨0, W, C, D, pos, T, ?_, ⟨rfl, rfl⟩, hI, fun z => kk (Or.inl z), fun z => kk (Or.inr z), frM.rf⟩
      rw [if_neg (fun z => kk (Or.inl z))] at s43
      rw [if_neg (fun z => kk (Or.inr z))] at s45
      simp only [r_M_readSum_L10, s43, s45, if_pos, jn_c]
      rfl
