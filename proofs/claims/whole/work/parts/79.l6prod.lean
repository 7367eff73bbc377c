/-! a product -/
def prR (W6 W : List Nat) (C D : Cod) : Prop := (W = W6 ∧ C = D) ∨ (W = 42 :: W6 ∧ D = C ++ [(42, 0)])
theorem prR.rel {W6 W : List Nat} {C D : Cod} {op : Nat} (h : prR W6 W C D) (h6 : ∀ a ∈ W6, rnk a < 6) : relP 6 W op C = (W6, op, D) ∧ C.length + W.length = D.length + W6.length := by
  rcases h with ⟨rfl, rfl⟩ | ⟨rfl, rfl⟩
  · exact ⟨relP_t h6, rfl⟩
  · refine ⟨?_, by rw [List.length_append, List.length_cons]; simp; omega⟩
    rw [relP, if_neg (by decide), if_neg (by decide), relP_t h6]
/-- where a product stands -/
def prI (law : Bool) (Bs : Nat → Nat) (m : Nat) (C0 : Cod) (s : List Bool) (W6 W : List Nat) (C D : Cod) (pos : Nat) (T : Sto) : Prop :=
  prR W6 W C D ∧ RQ law Bs m pos T ∧ cdM (refL (offL law) D) T ∧ KD law C0 D (false :: s) ∧ C.length + W.length + 4 ≤ pos ∧ (refL (offL law) D).length + W6.length + 4 ≤ pos
def goodP (law : Bool) (Bs : Nat → Nat) (m : Nat) (C0 : Cod) (s : List Bool) (W6 : List Nat) (A : AS) (cmp ln out op br pos : Nat) (T : Sto) (x : Option ((Sto) ⊕ (Int32 × Sto))) : Prop :=
  ∃ n W' C' D' pos' T', x = some (.inr (0, T')) ∧ Pth law Bs m n A pos (6, cmp, ln, out, op, br, W', C') pos' ∧ prI law Bs m C0 s W6 W' C' D' pos' T' ∧ tkT Bs m law pos' ≠ 42 ∧ tkT Bs m law pos' ≠ 47 ∧ frM T T'
def badP (law : Bool) (Bs : Nat → Nat) (m : Nat) (A : AS) (pos : Nat) (T : Sto) (x : Option ((Sto) ⊕ (Int32 × Sto))) : Prop :=
  ∃ n A' pos' fl, Pth law Bs m n A pos A' pos' ∧ Flt law Bs m A' pos' fl ∧ 0 < fl ∧ fl ≤ 3 ∧ ((∃ T', x = some (.inr (-1, T')) ∧ T' 104 44 = nI fl ∧ T' 104 45 = nI (tkP Bs m pos') ∧ frM T T') ∨ (fl = 1 ∧ ∃ T', x = some (.inl T') ∧ RQ law Bs m pos' T' ∧ frM T T'))
theorem goodP.pre {law : Bool} {Bs : Nat → Nat} {m : Nat} {C0 : Cod} {s : List Bool} {W6 : List Nat} {A B : AS} {cmp ln out op br p q k : Nat} {T U : Sto} {x : Option ((Sto) ⊕ (Int32 × Sto))} (h : Pth law Bs m k A p B q) (f : frM T U) (g : goodP law Bs m C0 s W6 B cmp ln out op br q U x) : goodP law Bs m C0 s W6 A cmp ln out op br p T x := by
  obtain ⟨n, W', C', D', pos', T', g1, g2, g3, g4, g5, g6⟩ := g
  exact ⟨k + n, W', C', D', pos', T', g1, h.tr g2, g3, g4, g5, f.tr g6⟩
theorem badP.pre {law : Bool} {Bs : Nat → Nat} {m : Nat} {A B : AS} {p q k : Nat} {T U : Sto} {x : Option ((Sto) ⊕ (Int32 × Sto))} (h : Pth law Bs m k A p B q) (f : frM T U) (g : badP law Bs m B q U x) : badP law Bs m A p T x := by
  obtain ⟨n, A', pos', fl, g1, g2, g3, g4, g5⟩ := g
  refine ⟨k + n, A', pos', fl, h.tr g1, g2, g3, g4, ?_⟩
  rcases g5 with ⟨T', e1, e2, e3, e4⟩ | ⟨e0, T', e1, e2, e3⟩
  · exact Or.inl ⟨T', e1, e2, e3, f.tr e4⟩
  · exact Or.inr ⟨e0, T', e1, e2, f.tr e3⟩
theorem prod_L {law : Bool} {Bs : Nat → Nat} {m cmp ln out op br : Nat} {C0 : Cod} {s : List Bool} {W6 : List Nat} (hm : m ≤ 400) (h6 : ∀ a ∈ W6, rnk a < 6) (hs : s.length < 31) (hok : ∀ st W C, st ≤ 7 → (W = W6 ∨ W = 42 :: W6) → C.length + W.length < 400 → okS (st, cmp, ln, out, op, br, W, C)) :
    ∀ (f : Nat) (W : List Nat) (C D : Cod) (pos : Nat) (T : Sto), m - pos < f → prI law Bs m C0 s W6 W C D pos T → goodP law Bs m C0 s W6 (6, cmp, ln, out, op, br, W, C) cmp ln out op br pos T (r_M_readProduct_L10 f T) ∨ badP law Bs m (6, cmp, ln, out, op, br, W, C) pos T (r_M_readProduct_L10 f T) := by
  intro f
  induction f with
  | zero => intro W C D pos T h; omega
  | succ f ih =>
    intro W C D pos T hf hI
    obtain ⟨i1, i2, i3, i4, i5, i6⟩ := id hI
    have hp : pos ≤ m := i2.2.2.2.2.2.2.1
    obtain ⟨r1, r2⟩ := i1.rel (op := op) h6
    have s42 : r_M_isSign 42 T = if tkT Bs m law pos = 42 then 1 else 0 := sgn_M (c := 42) i2 (by decide) (by decide)
    have s47 : r_M_isSign 47 T = if tkT Bs m law pos = 47 then 1 else 0 := sgn_M (c := 47) i2 (by decide) (by decide)
    have hW : W = W6 ∨ W = 42 :: W6 := by rcases i1 with z | z; exact Or.inl z.1; exact Or.inr z.1
    have ok6 := hok 6 W C (by omega) hW (by omega)
    obtain ⟨T1, t1, t2, t3⟩ := i2.nx
    have f1 : frM T T1 := fun a k g1 g2 => t3 a k (by omega)
    have d1 : cdM (refL (offL law) D) T1 := i3.go (fun a k q => t3 a k (by omega))
    have hp1 : tkE Bs m pos ≤ m := t2.2.2.2.2.2.2.1
    have hu : ∀ (l : (refL (offL law) D).length < 400), _ := fun l => unit_M t2 d1 l
    by_cases k42 : tkT Bs m law pos = 42
    · rw [if_pos k42] at s42
      have st1 : Pth law Bs m 1 (6, cmp, ln, out, op, br, W, C) pos (4, cmp, ln, out, op, br, 42 :: W6, D) (tkE Bs m pos) := by
        refine ⟨ok6, _, ?_, rfl, rfl⟩
        rw [k42]
        show signA 42 cmp ln out op br W C = _
        unfold signA
        rw [if_neg (by omega), if_neg (by omega), if_pos (by omega), show rnk 42 = 6 from rfl, r1]
      have le1 := st1.le hm hp
      have hu := hu (by omega)
      have ok4 := hok 4 (42 :: W6) D (by omega) (Or.inr rfl) (by rw [List.length_cons]; omega)
      cases hq : unR law (tkT Bs m law (tkE Bs m pos)) (tkN Bs m (tkE Bs m pos)) with
      | none =>
        rw [hq] at hu
        obtain ⟨T', u1, u2, u3, u4⟩ := hu
        right
        refine badP.pre st1 f1 ⟨0, _, _, 1, ⟨rfl, rfl⟩, ⟨ok4, fun z => by have : (4 : Nat) = 0 := z.2; omega, ?_⟩, by omega, by omega, Or.inl ⟨T', ?_, u2, u3, u4⟩⟩
        · show unitA law _ _ cmp ln out op br (42 :: W6) D = _
          rw [unR_A, hq]
        · simp only [r_M_readProduct_L10, s42, if_neg (show ¬ (1 : Int32) = 0 by decide), jn_k, lt_k, t1, Option.bind_some, u1, if_pos]
      | some q =>
        rw [hq] at hu
        obtain ⟨T2, u1, u2, u3, u4⟩ := hu
        have q1 : (refC (offL law) q).length = 1 := by
          unfold unR at hq
          split at hq
          · cases hq; rfl
          · split at hq
            · cases hq; rfl
            · cases hq
        have st2 : Pth law Bs m 1 (4, cmp, ln, out, op, br, 42 :: W6, D) (tkE Bs m pos) (6, cmp, ln, out, op, br, 42 :: W6, D ++ [q]) (tkE Bs m (tkE Bs m pos)) := by
          refine ⟨ok4, _, ?_, rfl, rfl⟩
          show unitA law _ _ cmp ln out op br (42 :: W6) D = _
          rw [unR_A, hq]
        have le2 := st2.le hm hp1
        obtain ⟨T3, v1, v2, v3⟩ := emits_M (s := 4) (v := 0) u3 (by rw [List.length_append]; omega)
        have v1' : r_M_emits 4 0 T2 = some T3 := v1
        have eq : refL (offL law) (D ++ [q] ++ [(42, 0)]) = refL (offL law) D ++ refC (offL law) q ++ [(4, 0)] := by rw [refL_1, refL_1]; rfl
        have nI3 : prI law Bs m C0 s W6 (42 :: W6) (D ++ [q]) (D ++ [q] ++ [(42, 0)]) (tkE Bs m (tkE Bs m pos)) T3 := by
          refine ⟨Or.inr ⟨rfl, rfl⟩, u2.go (fun a k g => v3 a k (by omega) (by omega)), by rw [eq]; exact v2, (KD.un hm hp1 i4 (by rw [List.length_cons]; omega) hq).ar (Or.inr (Or.inr rfl)), ?_, ?_⟩
          · simp only [List.length_append, List.length_cons, List.length_nil]; omega
          · rw [eq, List.length_append, List.length_append, q1, List.length_singleton]; omega
        have f3 : frM T T3 := (f1.tr u4).tr (fun a k g1 g2 => v3 a k (by omega) g2)
        have ex : r_M_readProduct_L10 (f + 1) T = r_M_readProduct_L10 f T3 := by
          simp only [r_M_readProduct_L10, s42, if_neg (show ¬ (1 : Int32) = 0 by decide), jn_k, lt_k, t1, Option.bind_some, u1, if_neg (show ¬ (0 : Int32) = -1 by decide), v1']
        rw [ex]
        rcases ih _ _ _ _ _ (by omega) nI3 with g | g
        · exact Or.inl (g.pre (st1.tr st2) f3)
        · exact Or.inr (g.pre (st1.tr st2) f3)
    · rw [if_neg k42] at s42
      by_cases k47 : tkT Bs m law pos = 47
      · rw [if_pos k47] at s47
        have st1 : Pth law Bs m 1 (6, cmp, ln, out, op, br, W, C) pos (5, cmp, ln, out, op, br, W6, D) (tkE Bs m pos) := by
          refine ⟨ok6, _, ?_, rfl, rfl⟩
          rw [k47]
          show signA 47 cmp ln out op br W C = _
          unfold signA
          rw [if_pos rfl, r1]
        have le1 := st1.le hm hp
        have hu := hu (by omega)
        have ok5 := hok 5 W6 D (by omega) (Or.inl rfl) (by omega)
        by_cases k12 : tkT Bs m law (tkE Bs m pos) = 12
        · have k3 : rkK Bs m (tkE Bs m pos) = 3 ∧ rkV Bs m (tkE Bs m pos) = tkN Bs m (tkE Bs m pos) := by
            rcases rk_c (law := law) (Bs := Bs) hm hp1 with ⟨k, t⟩ | ⟨k, t⟩ | ⟨k, kv, t⟩ | ⟨k, kv, kn, t⟩ | ⟨k, kv, kw, t⟩
            · omega
            · omega
            · have := wmp_n _ kv
              cases law <;> omega
            · exact ⟨k, kv⟩
            · omega
          have z3 : T1 104 30 = 3 := by rw [t2.2.2.2.2.1, k3.1]; rfl
          have z31 : T1 104 31 = nI (tkN Bs m (tkE Bs m pos)) := by rw [t2.2.2.2.2.2.1 (by omega), k3.2]
          have nl := tkN_lt k12
          by_cases n0 : tkN Bs m (tkE Bs m pos) = 0
          · obtain ⟨T', u1, u2, u3, u4⟩ := fails_M (x := 2) t2
            have z31' : T1 104 31 = 0 := by rw [z31, n0]; rfl
            right
            refine badP.pre st1 f1 ⟨0, _, _, 2, ⟨rfl, rfl⟩, ⟨ok5, fun z => by have : (5 : Nat) = 0 := z.2; omega, ?_⟩, by omega, by omega, Or.inl ⟨T', ?_, u2, u3, fun a k g1 g2 => u4 a k (by omega)⟩⟩
            · rw [k12, n0]; rfl
            · simp only [r_M_readProduct_L10, s42, s47, if_neg (show ¬ (1 : Int32) = 0 by decide), if_pos, jn_k, jn_c, lt_k, t1, Option.bind_some, z3, z31', u1]
          · have z31' : ¬ T1 104 31 = 0 := by rw [z31]; exact fun z => n0 ((nI_eq (b := 0) (by omega) (by omega)).mp z)
            have hq : unR law (tkT Bs m law (tkE Bs m pos)) (tkN Bs m (tkE Bs m pos)) = some (12, tkN Bs m (tkE Bs m pos)) := by unfold unR; rw [if_pos k12]
            rw [hq] at hu
            obtain ⟨T2, u1, u2, u3, u4⟩ := hu
            have u3' : cdM (refL (offL law) D ++ [(0, tkN Bs m (tkE Bs m pos))]) T2 := u3
            have st2 : Pth law Bs m 1 (5, cmp, ln, out, op, br, W6, D) (tkE Bs m pos) (6, cmp, ln, out, op, br, W6, D ++ [(47, tkN Bs m (tkE Bs m pos))]) (tkE Bs m (tkE Bs m pos)) := by
              refine ⟨ok5, _, ?_, rfl, rfl⟩
              rw [k12]
              show (if 12 = 12 then (if tkN Bs m (tkE Bs m pos) = 0 then Sum.inl 2 else Sum.inr _) else Sum.inl 1) = _
              rw [if_pos rfl, if_neg n0]
            have le2 := st2.le hm hp1
            obtain ⟨T3, v1, v2, v3⟩ := emits_M (s := 5) (v := 0) u3' (by rw [List.length_append, List.length_singleton]; omega)
            have v1' : r_M_emits 5 0 T2 = some T3 := v1
            have eq : refL (offL law) (D ++ [(47, tkN Bs m (tkE Bs m pos))]) = refL (offL law) D ++ [(0, tkN Bs m (tkE Bs m pos))] ++ [(5, 0)] := by rw [refL_1, List.append_assoc]; rfl
            have nI3 : prI law Bs m C0 s W6 W6 (D ++ [(47, tkN Bs m (tkE Bs m pos))]) (D ++ [(47, tkN Bs m (tkE Bs m pos))]) (tkE Bs m (tkE Bs m pos)) T3 := by
              refine ⟨Or.inl ⟨rfl, rfl⟩, u2.go (fun a k g => v3 a k (by omega) (by omega)), by rw [eq]; exact v2, i4.dv (by omega) (by omega), ?_, ?_⟩
              · rw [List.length_append, List.length_singleton]; omega
              · rw [eq, List.length_append, List.length_append, List.length_singleton, List.length_singleton]; omega
            have f3 : frM T T3 := (f1.tr u4).tr (fun a k g1 g2 => v3 a k (by omega) g2)
            have ex : r_M_readProduct_L10 (f + 1) T = r_M_readProduct_L10 f T3 := by
              simp only [r_M_readProduct_L10, s42, s47, if_neg (show ¬ (1 : Int32) = 0 by decide), if_pos, jn_k, lt_k, t1, Option.bind_some, z3, if_neg z31', u1, if_neg (show ¬ (0 : Int32) = -1 by decide), v1']
            rw [ex]
            rcases ih _ _ _ _ _ (by omega) nI3 with g | g
            · exact Or.inl (g.pre (st1.tr st2) f3)
            · exact Or.inr (g.pre (st1.tr st2) f3)
        · have n3 : ¬ T1 104 30 = 3 := by
            rw [t2.2.2.2.2.1]
            intro z
            have hk : rkK Bs m (tkE Bs m pos) = 3 := by
              refine (nI_eq (b := 3) ?_ (by omega)).mp z
              rcases rk_c (law := law) (Bs := Bs) hm hp1 with ⟨k, t⟩ | ⟨k, t⟩ | ⟨k, kv, t⟩ | ⟨k, kv, kn, t⟩ | ⟨k, kv, kw, t⟩ <;> omega
            rcases rk_c (law := law) (Bs := Bs) hm hp1 with ⟨k, t⟩ | ⟨k, t⟩ | ⟨k, kv, t⟩ | ⟨k, kv, kn, t⟩ | ⟨k, kv, kw, t⟩ <;> omega
          right
          refine badP.pre st1 f1 ⟨0, _, _, 1, ⟨rfl, rfl⟩, ⟨ok5, fun z => by have : (5 : Nat) = 0 := z.2; omega, ?_⟩, by omega, by omega, Or.inr ⟨rfl, T1, ?_, t2, frM.rf⟩⟩
          · show (if tkT Bs m law (tkE Bs m pos) = 12 then _ else Sum.inl 1) = _
            rw [if_neg k12]
          · simp only [r_M_readProduct_L10, s42, s47, if_neg (show ¬ (1 : Int32) = 0 by decide), if_pos, jn_k, jn_c, lt_k, t1, Option.bind_some, if_neg n3]
      · rw [if_neg k47] at s47
        left
        refine ⟨0, W, C, D, pos, T, ?_, ⟨rfl, rfl⟩, hI, k42, k47, frM.rf⟩
        simp only [r_M_readProduct_L10, s42, s47, if_pos, jn_c]
