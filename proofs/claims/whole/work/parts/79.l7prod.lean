/-- what a part of a claim comes to: bad -/
def badQ (law : Bool) (Bs : Nat → Nat) (m : Nat) (A : AS) (pos : Nat) (T : Sto) (x : Option (Int32 × Sto)) : Prop :=
  ∃ n A' pos' fl, Pth law Bs m n A pos A' pos' ∧ Flt law Bs m A' pos' fl ∧ 0 < fl ∧ fl ≤ 3 ∧ ∃ T', x = some (-1, T') ∧ T' 104 44 = nI fl ∧ T' 104 45 = nI (tkP Bs m pos') ∧ frM T T'
theorem badQ.pre {law : Bool} {Bs : Nat → Nat} {m : Nat} {A B : AS} {p q k : Nat} {T U : Sto} {x : Option (Int32 × Sto)} (h : Pth law Bs m k A p B q) (f : frM T U) (g : badQ law Bs m B q U x) : badQ law Bs m A p T x := by
  obtain ⟨n, A', pos', fl, g1, g2, g3, g4, T', e1, e2, e3, e4⟩ := g
  exact ⟨k + n, A', pos', fl, h.tr g1, g2, g3, g4, T', e1, e2, e3, f.tr e4⟩
def goodQ (law : Bool) (Bs : Nat → Nat) (m : Nat) (C0 : Cod) (s : List Bool) (W6 : List Nat) (A : AS) (cmp ln out op br pos : Nat) (T : Sto) (x : Option (Int32 × Sto)) : Prop :=
  ∃ n W' C' D' pos' T', x = some (0, T') ∧ Pth law Bs m n A pos (6, cmp, ln, out, op, br, W', C') pos' ∧ prI law Bs m C0 s W6 W' C' D' pos' T' ∧ tkT Bs m law pos' ≠ 42 ∧ tkT Bs m law pos' ≠ 47 ∧ frM T T' ∧ pos < pos'
theorem prod_M {law : Bool} {Bs : Nat → Nat} {m cmp ln out op br pos : Nat} {C0 C : Cod} {s : List Bool} {W6 : List Nat} {A : AS} {T : Sto} (hm : m ≤ 400) (h6 : ∀ a ∈ W6, rnk a < 6) (hs : s.length < 31) (hok : ∀ st W C, st ≤ 7 → (W = W6 ∨ W = 42 :: W6) → C.length + W.length < 400 → okS (st, cmp, ln, out, op, br, W, C))
    (hA : okS A) (hA0 : ¬ A.1 = 0) (hAt : takeA law (tkT Bs m law pos) (tkN Bs m pos) A = unitA law (tkT Bs m law pos) (tkN Bs m pos) cmp ln out op br W6 C)
    (hQ : RQ law Bs m pos T) (hR : cdM (refL (offL law) C) T) (hK : KD law C0 C s) (hr1 : C.length + W6.length + 4 ≤ pos) (hr2 : (refL (offL law) C).length + W6.length + 4 ≤ pos) :
    goodQ law Bs m C0 s W6 A cmp ln out op br pos T (r_M_readProduct T) ∨ badQ law Bs m A pos T (r_M_readProduct T) := by
  have hp : pos ≤ m := hQ.2.2.2.2.2.2.1
  have hu := unit_M hQ hR (by omega)
  cases hq : unR law (tkT Bs m law pos) (tkN Bs m pos) with
  | none =>
    rw [hq] at hu
    obtain ⟨T', u1, u2, u3, u4⟩ := hu
    right
    refine ⟨0, A, pos, 1, ⟨rfl, rfl⟩, ⟨hA, fun z => hA0 z.2, by rw [hAt, unR_A, hq]⟩, by omega, by omega, T', ?_, u2, u3, u4⟩
    unfold r_M_readProduct
    simp only [u1, Option.bind_some, if_pos]
  | some q =>
    rw [hq] at hu
    obtain ⟨T1, u1, u2, u3, u4⟩ := hu
    have q1 : (refC (offL law) q).length = 1 := by
      unfold unR at hq
      split at hq
      · cases hq; rfl
      · split at hq
        · cases hq; rfl
        · cases hq
    have st1 : Pth law Bs m 1 A pos (6, cmp, ln, out, op, br, W6, C ++ [q]) (tkE Bs m pos) := ⟨hA, _, by rw [hAt, unR_A, hq], rfl, rfl⟩
    have le1 := st1.le hm hp
    have hI : prI law Bs m C0 s W6 W6 (C ++ [q]) (C ++ [q]) (tkE Bs m pos) T1 := by
      refine ⟨Or.inl ⟨rfl, rfl⟩, u2, by rw [refL_1]; exact u3, KD.un hm hp hK (by omega) hq, ?_, ?_⟩
      · simp only [List.length_append, List.length_cons, List.length_nil]; omega
      · rw [refL_1, List.length_append, q1]; omega
    have ex : ∀ x, r_M_readProduct_L10 fu T1 = x → r_M_readProduct T = x.bind (fun x => match x with
        | .inl (S3) => (r_M_fails 1 S3).bind (fun (r4, S5) => some (r4, S5))
        | .inr r => some r) := by
      intro x hx
      unfold r_M_readProduct
      simp only [u1, Option.bind_some, if_neg (show ¬ (0 : Int32) = -1 by decide), hx]
      rcases x with _ | (x | x) <;> rfl
    rcases prod_L (C0 := C0) (s := s) hm h6 hs hok fu W6 (C ++ [q]) (C ++ [q]) (tkE Bs m pos) T1 (by have : fu = 5000 := rfl; omega) hI with g | g
    · obtain ⟨n, W', C', D', pos', T', g1, g2, g3, g4, g5, g6⟩ := g
      have le2 := g2.le hm le1.2
      exact Or.inl ⟨1 + n, W', C', D', pos', T', by rw [ex _ g1]; rfl, st1.tr g2, g3, g4, g5, u4.tr g6, by omega⟩
    · obtain ⟨n, A', pos', fl, g1, g2, g3, g4, g5⟩ := g
      right
      refine ⟨1 + n, A', pos', fl, st1.tr g1, g2, g3, g4, ?_⟩
      rcases g5 with ⟨T', e1, e2, e3, e4⟩ | ⟨e0, T', e1, e2, e3⟩
      · exact ⟨T', by rw [ex _ e1]; rfl, e2, e3, u4.tr e4⟩
      · obtain ⟨T2, v1, v2, v3, v4⟩ := fails_M (x := 1) e2
        refine ⟨T2, ?_, by rw [v2, e0]; rfl, v3, (u4.tr e3).tr (fun a k g1 g2 => v4 a k (by omega))⟩
        rw [ex _ e1, Option.bind_some]
        simp only [v1, Option.bind_some]
