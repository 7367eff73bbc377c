/-! claims joined by not, and, or and brackets: what one turn of the reference's loop starts from and comes to -/
def frN (T T' : Sto) : Prop := ∀ a k, ¬ (a = 104 ∧ (28 ≤ k ∧ k ≤ 31 ∨ k = 40 ∨ k = 41 ∨ k = 43 ∨ k = 44 ∨ k = 45)) → ¬ ((a = 124 ∨ a = 125) ∧ 2000 ≤ k) → ¬ a = 126 → T' a k = T a k
theorem frN.rf {T : Sto} : frN T T := fun _ _ _ _ _ => rfl
theorem frN.tr {T T1 T2 : Sto} (h : frN T T1) (g : frN T1 T2) : frN T T2 := fun a k q1 q2 q3 => (g a k q1 q2 q3).trans (h a k q1 q2 q3)
theorem frM.n {T T' : Sto} (h : frM T T') : frN T T' := fun a k g1 g2 _ => h a k (by omega) g2
def badN (law : Bool) (Bs : Nat → Nat) (m : Nat) (A : AS) (pos : Nat) (T : Sto) (x : Option (Int32 × Sto)) : Prop :=
  ∃ n A' pos' fl, Pth law Bs m n A pos A' pos' ∧ Flt law Bs m A' pos' fl ∧ 0 < fl ∧ fl ≤ 3 ∧ ∃ T', x = some (-1, T') ∧ T' 104 44 = nI fl ∧ T' 104 45 = nI (tkP Bs m pos') ∧ frN T T'
theorem badN.pre {law : Bool} {Bs : Nat → Nat} {m : Nat} {A B : AS} {p q k : Nat} {T U : Sto} {x : Option (Int32 × Sto)} (h : Pth law Bs m k A p B q) (f : frN T U) (g : badN law Bs m B q U x) : badN law Bs m A p T x := by
  obtain ⟨n, A', pos', fl, g1, g2, g3, g4, T', e1, e2, e3, e4⟩ := g
  exact ⟨k + n, A', pos', fl, h.tr g1, g2, g3, g4, T', e1, e2, e3, f.tr e4⟩
def goodA (law : Bool) (Bs : Nat → Nat) (m : Nat) (C0 : Cod) (A : AS) (ln out pos : Nat) (T : Sto) (x : Option (Int32 × Sto)) : Prop :=
  ∃ n A' c D pos' T', x = some (0, T') ∧ Pth law Bs m n A pos A' pos' ∧ okS A' ∧ ¬ A'.1 = 0 ∧ takeA law (tkT Bs m law pos') (tkN Bs m pos') A' = (if tkT Bs m law pos' = 59 then .inr (0, c, ln, out, 0, 0, [], D ++ [(59, out)]) else .inl 1) ∧ RQ law Bs m pos' T' ∧ cdM (refL (offL law) D) T' ∧ KD law C0 D [true] ∧ D.length + 4 ≤ pos' ∧ (refL (offL law) D).length + 4 ≤ pos' ∧ T' 104 41 = 0 ∧ frN T T'
theorem goodA.pre {law : Bool} {Bs : Nat → Nat} {m : Nat} {C0 : Cod} {A B : AS} {ln out p q k : Nat} {T U : Sto} {x : Option (Int32 × Sto)} (h : Pth law Bs m k A p B q) (f : frN T U) (g : goodA law Bs m C0 B ln out q U x) : goodA law Bs m C0 A ln out p T x := by
  obtain ⟨n, A', c, D, pos', T', g1, g2, g3, g4, g5, g6, g7, g8, g9, g10, g11, g12⟩ := g
  exact ⟨k + n, A', c, D, pos', T', g1, h.tr g2, g3, g4, g5, g6, g7, g8, g9, g10, g11, f.tr g12⟩
/-- the loop's answer as the procedure gives it -/
def anyX (x : Option ((Int32 × Int32 × Sto) ⊕ (Int32 × Sto))) : Option (Int32 × Sto) := x.bind (fun x => match x with
  | .inl (_, _, S4) => (r_M_fails 3 S4).bind (fun (r5, S6) => some (r5, S6))
  | .inr r => some r)
/-- a claim is due -/
def an1 (law : Bool) (Bs : Nat → Nat) (m : Nat) (C0 : Cod) (op br : Nat) (W : List Nat) (C : Cod) (pos : Nat) (T : Sto) : Prop :=
  wfW W ∧ op = c3 W + c40 W ∧ br = c40 W ∧ op ≤ 8 ∧ RQ law Bs m pos T ∧ cdM (refL (offL law) C) T ∧ wtM (W.map mpW) T ∧ T 104 41 = nI op ∧ KD law C0 C (kW W) ∧ C.length + W.length + 4 ≤ pos ∧ (refL (offL law) C).length + W.length + 4 ≤ pos
/-- a claim is read -/
def an0 (law : Bool) (Bs : Nat → Nat) (m : Nat) (C0 : Cod) (st cmp ln out op br : Nat) (W : List Nat) (C : Cod) (o : Nat) (P : List Nat) (D : Cod) (pos : Nat) (T : Sto) : Prop :=
  okS (st, cmp, ln, out, op, br, W, C) ∧ ¬ st = 0 ∧ cmp ≤ 1 ∧ takeA law (tkT Bs m law pos) (tkN Bs m pos) (st, cmp, ln, out, op, br, W, C) = jointA (tkT Bs m law pos) cmp ln out op br W C ∧ relP 3 W op C = (P, o, D) ∧ wfW P ∧ ¬ hd0 P = 3 ∧ o = c3 P + c40 P ∧ br = c40 P ∧ o ≤ 8 ∧ RQ law Bs m pos T ∧ cdM (refL (offL law) D) T ∧ wtM (P.map mpW) T ∧ T 104 41 = nI o ∧ KD law C0 D (true :: kW P) ∧ D.length + P.length + 4 ≤ pos ∧ (refL (offL law) D).length + P.length + 4 ≤ pos
def An1 (law : Bool) (Bs : Nat → Nat) (m : Nat) (C0 : Cod) (ln out f : Nat) : Prop := ∀ (cmp op br : Nat) (W : List Nat) (C : Cod) (pos : Nat) (T : Sto), m - pos < f → an1 law Bs m C0 op br W C pos T → goodA law Bs m C0 (3, cmp, ln, out, op, br, W, C) ln out pos T (anyX (r_M_readAny_L9 f (nI br) 1 T)) ∨ badN law Bs m (3, cmp, ln, out, op, br, W, C) pos T (anyX (r_M_readAny_L9 f (nI br) 1 T))
def An0 (law : Bool) (Bs : Nat → Nat) (m : Nat) (C0 : Cod) (ln out f : Nat) : Prop := ∀ (st cmp op br : Nat) (W : List Nat) (C : Cod) (o : Nat) (P : List Nat) (D : Cod) (pos : Nat) (T : Sto), m - pos < f → an0 law Bs m C0 st cmp ln out op br W C o P D pos T → goodA law Bs m C0 (st, cmp, ln, out, op, br, W, C) ln out pos T (anyX (r_M_readAny_L9 f (nI br) 0 T)) ∨ badN law Bs m (st, cmp, ln, out, op, br, W, C) pos T (anyX (r_M_readAny_L9 f (nI br) 0 T))
theorem any_1 {law : Bool} {Bs : Nat → Nat} {m ln out f : Nat} {C0 : Cod} (hm : m ≤ 400) (hln : ln ≤ 12) (hout : out < 131072) (ih1 : An1 law Bs m C0 ln out f) (ih0 : An0 law Bs m C0 ln out f) : An1 law Bs m C0 ln out (f + 1) := by
  intro cmp op br W C pos T hf hI
  obtain ⟨i1, i2, i3, i4, i5, i6, i7, i8, i9, i10, i11⟩ := hI
  have hp : pos ≤ m := i5.2.2.2.2.2.2.1
  have hin := inP_W i1 i2 i3 i4
  have hWl := (wf_len i1).1
  have hkl := kW_len (W := W)
  have w8 : r_M_isWord 8 T = if tkT Bs m law pos = 3 then 1 else 0 := wrd_M (w := 3) i5 (by decide)
  have s40 : r_M_isSign 40 T = if tkT Bs m law pos = 40 then 1 else 0 := sgn_M (c := 40) i5 (by decide) (by decide)
  have okA : okS (3, cmp, ln, out, op, br, W, C) := okS_E (E := []) hin (fun a q => by cases q) (Nat.zero_le _) (by rw [List.length_nil]; omega) (by omega) (fun z => by omega) hln (fun z => by omega)
  have n10 : ¬ (1 : Int32) = 0 := by decide
  by_cases kk : tkT Bs m law pos = 3 ∨ tkT Bs m law pos = 40
  · by_cases k8 : op = 8
    · have h41 : T 104 41 = 8 := by rw [i8, k8]; rfl
      have ex : r_M_readAny_L9 (f + 1) (nI br) 1 T = some (.inl (nI br, 1, T)) := by
        rcases kk with k | k
        · rw [if_pos k] at w8
          simp only [r_M_readAny_L9, if_neg n10, lt_k, w8, jn_k, h41, if_pos]
        · rw [if_neg (by omega)] at w8
          rw [if_pos k] at s40
          simp only [r_M_readAny_L9, if_neg n10, lt_k, w8, s40, if_pos, jn_k, h41]
      obtain ⟨T', v1, v2, v3, v4⟩ := fails_M (x := 3) i5
      right
      refine ⟨0, _, pos, 3, ⟨rfl, rfl⟩, ⟨okA, fun z => by have : (3 : Nat) = 0 := z.2; omega, ?_⟩, by omega, by omega, T', ?_, v2, v3, fun a k g1 g2 g3 => v4 a k (by omega)⟩
      · show claimA law _ _ ln out op br W C = _
        unfold claimA
        rw [if_pos (by omega), if_neg (by omega)]
      · rw [ex]
        simp only [anyX, Option.bind_some, v1]
    · have n8 : ¬ nI op = 8 := fun z => k8 ((nI_eq (b := 8) (by omega) (by omega)).mp z)
      obtain ⟨a, ha⟩ : ∃ a, a = tkT Bs m law pos := ⟨_, rfl⟩
      rw [← ha] at kk w8 s40
      have w7 : wtM (W.map mpW) (sw T 104 41 (nI (op + 1))) := i7.go (fun b k q => rd_ne (by omega))
      obtain ⟨T2, x1, x2, x3⟩ := waits_M (a := mpW a) w7 (by rw [List.length_map]; omega) (by rcases kk with k | k <;> (rw [k]; decide))
      have q2 : RQ law Bs m pos T2 := (i5.go (T' := sw T 104 41 (nI (op + 1))) (fun b k q => rd_ne (by omega))).go (fun b k q => x3 b k (by omega) (by omega))
      obtain ⟨T3, t1, t2, t3⟩ := q2.nx
      have fr : frN T T3 := fun b k g1 g2 g3 => by rw [t3 b k (by omega), x3 b k (by omega) g3, rd_ne (by omega)]
      have ex : r_M_readAny_L9 (f + 1) (nI br) 1 T = r_M_readAny_L9 f (nI (if a = 40 then br + 1 else br)) 1 T3 := by
        rcases kk with k | k
        · rw [if_pos k] at w8
          rw [if_neg (show ¬ a = 40 by omega)]
          rw [k] at x1
          have x1' : r_M_waits 9 (sw T 104 41 (nI (op + 1))) = some T2 := x1
          simp only [r_M_readAny_L9, if_neg n10, lt_k, w8, jn_k, i8, if_neg n8, ltS_k, nI_1, x1', Option.bind_some, t1]
        · rw [if_neg (show ¬ a = 3 by omega)] at w8
          rw [if_pos k] at s40
          rw [if_pos k]
          rw [k] at x1
          have x1' : r_M_waits 12 (sw T 104 41 (nI (op + 1))) = some T2 := x1
          simp only [r_M_readAny_L9, if_neg n10, lt_k, w8, s40, if_pos, jn_k, i8, if_neg n8, ltS_k, nI_1, x1', Option.bind_some, t1]
      have st1 : Pth law Bs m 1 (3, cmp, ln, out, op, br, W, C) pos (3, 0, ln, out, op + 1, (if a = 40 then br + 1 else br), a :: W, C) (tkE Bs m pos) := by
        refine ⟨okA, _, ?_, rfl, rfl⟩
        rw [← ha]
        show claimA law a _ ln out op br W C = _
        unfold claimA
        rw [if_pos (by omega), if_pos (by omega)]
      have le1 := st1.le hm hp
      have hI3 : an1 law Bs m C0 (op + 1) (if a = 40 then br + 1 else br) (a :: W) C (tkE Bs m pos) T3 := by
        refine ⟨⟨kk.elim Or.inl (fun z => Or.inr (Or.inl z)), i1⟩, ?_, ?_, by omega, t2, ?_, ?_, ?_, ?_, ?_, ?_⟩
        · rw [c3, c40]
          rcases kk with k | k
          · rw [if_pos k, if_neg (by omega)]; omega
          · rw [if_neg (by omega), if_pos k]; omega
        · rw [c40]; split <;> omega
        · exact i6.go (fun b k q => by rw [t3 b k (by omega), x3 b k (by omega) (by omega), rd_ne (by omega)])
        · exact x2.go (fun b k q => t3 b k (by omega))
        · rw [t3 _ _ (by omega), x3 _ _ (by omega) (by omega), sw_same]
        · rw [kW, if_neg (by omega)]; exact i9
        · rw [List.length_cons]; omega
        · rw [List.length_cons]; omega
      rw [ex]
      rcases ih1 0 (op + 1) _ (a :: W) C (tkE Bs m pos) T3 (by omega) hI3 with g | g
      · exact Or.inl (g.pre st1 fr)
      · exact Or.inr (g.pre st1 fr)
  · rw [if_neg (fun z => kk (Or.inl z))] at w8
    rw [if_neg (fun z => kk (Or.inr z))] at s40
    have ex : ∀ x, r_M_readCompared T = x → r_M_readAny_L9 (f + 1) (nI br) 1 T = x.bind (fun (r24, S25) => if r24 = (-1) then some (.inr ((-1 : Int32), S25)) else (r_M_settles 9 S25).bind (fun S26 => r_M_readAny_L9 f (nI br) 0 S26)) := by
      intro x hx
      simp only [r_M_readAny_L9, if_neg n10, lt_k, w8, s40, if_pos, jn_c, hx]
    have hok : ∀ c st E C, c ≤ 1 → st ≤ 7 → (∀ a ∈ E, isA a) → E.length ≤ 3 → C.length + E.length + W.length < 400 → okS (st, c, ln, out, op, br, E ++ W, C) := fun c st E C q1 q2 q3 q4 q5 => okS_E hin q3 q4 q5 q2 (fun _ => q1) hln (fun _ => hout)
    have hAt : takeA law (tkT Bs m law pos) (tkN Bs m pos) (3, cmp, ln, out, op, br, W, C) = unitA law (tkT Bs m law pos) (tkN Bs m pos) 0 ln out op br W C := by
      show claimA law _ _ ln out op br W C = _
      unfold claimA
      rw [if_neg (by omega)]
    have h4 : ∀ a ∈ W, rnk a < 4 := fun a ha => by rcases wf_mem i1 a ha with z | z | z | z <;> (rw [z]; decide)
    rcases comp_M (C0 := C0) (s := kW W) (P := W) hm h4 (by omega) hok okA (by show ¬ 3 = 0; omega) hAt i5 i6 i9 i10 i11 with g | g
    · obtain ⟨n, a, W', C', D', pos', T', g1, g2, g3, g4, g5, g6, g7, g8, g9, g10, g11, g12, g13, g14⟩ := g
      have hn0 : n ≠ 0 := by
        rintro rfl
        have : (3 : Nat) = 6 := congrArg Prod.fst g3.1
        omega
      have le := g3.le hm hp
      obtain ⟨ra, ra3, ia⟩ := rnk_4 g2
      obtain ⟨r5, -, r5l, E, e1, e2, e3⟩ := g4.rel (op := op) (fun b hb => by rcases List.mem_cons.mp hb with z | z; rw [z]; omega; have := h4 b z; omega)
      rw [List.length_cons] at r5l
      have r3 : relP 3 W' op C' = relP 3 W op (D' ++ [(a, 0)]) := by
        rw [relP_rr (show 3 ≤ 5 by decide), r5]
        show relP 3 (a :: W) op D' = _
        rw [relP, if_neg (by omega), if_neg ra3]
      have ok6 : okS (6, 1, ln, out, op, br, W', C') := by
        have := hok 1 6 (E ++ [a]) C' (by omega) (by omega) (fun b hb => by rcases List.mem_append.mp hb with z | z; exact e3 b z; rw [List.mem_singleton] at z; rw [z]; exact ia) (by rw [List.length_append, List.length_singleton]; omega) (by rw [e1, List.length_append, List.length_cons] at g8; rw [List.length_append, List.length_singleton]; omega)
        rw [List.append_assoc] at this
        rw [e1]
        exact this
      have tk : takeA law (tkT Bs m law pos') (tkN Bs m pos') (6, 1, ln, out, op, br, W', C') = jointA (tkT Bs m law pos') 1 ln out op br W' C' := by
        show signA _ 1 ln out op br W' C' = _
        unfold signA
        rw [if_neg g11, if_neg (by omega), if_neg (by omega), if_neg (by omega)]
      have w43 : wtM (W.map mpW) T' := i7.go (fun b k q => g14 b k (by omega) (by omega))
      have h41 : T' 104 41 = nI op := by rw [g14 _ _ (by omega) (by omega)]; exact i8
      obtain ⟨P1, o1, D1, b1, b2, b3, b4, b5, b6, b7, b8, b9, b10⟩ := not_L (law := law) (C0 := C0) (o := op) (D := D' ++ [(a, 0)]) i1
      obtain ⟨T2, y1, y2, y3, y4, y5⟩ := settles_M (y := 9) (by decide) w43 g6 h41 (by rw [c9_W i1]; omega) (by omega) (by rw [List.length_map]; omega)
      rw [b2] at y2 y3 y4
      have y1' : r_M_settles 9 T' = some T2 := y1
      have fr : frN T T2 := g14.n.tr (fun b k q1 q2 q3 => y5 b k (by omega) q2)
      have hI0 : an0 law Bs m C0 6 1 ln out op br W' C' o1 P1 D1 pos' T2 := by
        refine ⟨ok6, by decide, by omega, tk, r3.trans b1, b3, b4, b5 i2, by rw [b6]; exact i3, by omega, g5.go (fun b k q => y5 b k (by omega) (by omega)), y3, y2, y4, b10 g7, ?_, by omega⟩
        rw [b8, List.length_append, List.length_singleton]
        omega
      have ex2 := ex _ g1
      simp only [Option.bind_some, if_neg (show ¬ (0 : Int32) = -1 by decide), y1'] at ex2
      rw [ex2]
      rcases ih0 6 1 op br W' C' o1 P1 D1 pos' T2 (by omega) hI0 with w | w
      · exact Or.inl (w.pre g3 fr)
      · exact Or.inr (w.pre g3 fr)
    · obtain ⟨n, A', pos', fl, g1, g2, g3, g4, T', z1, z2, z3, z4⟩ := g
      right
      refine ⟨n, A', pos', fl, g1, g2, g3, g4, T', ?_, z2, z3, z4.n⟩
      rw [ex _ z1]
      simp only [Option.bind_some, if_pos, anyX]
