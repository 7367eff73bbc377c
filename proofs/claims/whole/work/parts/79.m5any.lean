/-! behind a claim -/
theorem hd_40 {P : List Nat} (h : hd0 P = 40) : ∃ Q, P = 40 :: Q := by
  cases P with
  | nil => exact absurd h (by decide)
  | cons a Q => exact ⟨Q, by rw [show a = 40 from h]⟩
theorem any_0 {law : Bool} {Bs : Nat → Nat} {m ln out f : Nat} {C0 : Cod} (hm : m ≤ 400) (hln : ln ≤ 12) (hout : out < 131072) (ih1 : An1 law Bs m C0 ln out f) (ih0 : An0 law Bs m C0 ln out f) : An0 law Bs m C0 ln out (f + 1) := by
  intro st cmp op br W C o P D pos T hf hI
  obtain ⟨i1, i2, i3, i4, i5, i6, i7, i8, i9, i10, i11, i12, i13, i14, i15, i16, i17⟩ := hI
  have hp : pos ≤ m := i11.2.2.2.2.2.2.1
  have w7 : r_M_isWord 7 T = if tkT Bs m law pos = 2 then 1 else 0 := wrd_M (w := 2) i11 (by decide)
  have w6 : r_M_isWord 6 T = if tkT Bs m law pos = 1 then 1 else 0 := wrd_M (w := 1) i11 (by decide)
  have n10 : ¬ (1 : Int32) = 0 := by decide
  by_cases k2 : tkT Bs m law pos = 2
  · rw [if_pos k2] at w7
    obtain ⟨P2, D2, a1, a2, a3, a4⟩ := and_L (law := law) (C0 := C0) (D := D) (o := o) i6 i7
    obtain ⟨b1, b2, b3, b4, b5, b6⟩ := a3
    have hWl := (wf_len b1).1
    obtain ⟨T1, y1, y2, y3, y4, y5⟩ := settles_M (y := 10) (by decide) i13 i12 i14 (by rw [c9_W i6]; omega) (by omega) (by rw [List.length_map]; omega)
    rw [a2] at y2 y3 y4
    have y1' : r_M_settles 10 T = some T1 := y1
    obtain ⟨T2, x1, x2, x3⟩ := waits_M (a := 10) y2 (by rw [List.length_map]; omega) (by decide)
    have x1' : r_M_waits 10 T1 = some T2 := x1
    have q2 : RQ law Bs m pos T2 := (i11.go (T' := T1) (fun b k q => y5 b k (by omega) (by omega))).go (fun b k q => x3 b k (by omega) (by omega))
    obtain ⟨T3, t1, t2, t3⟩ := q2.nx
    have fr : frN T T3 := fun b k g1 g2 g3 => by rw [t3 b k (by omega), x3 b k (by omega) g3, y5 b k (by omega) g2]
    have ex : r_M_readAny_L9 (f + 1) (nI br) 0 T = r_M_readAny_L9 f (nI br) 1 T3 := by
      simp only [r_M_readAny_L9, if_pos, w7, if_neg n10, y1', x1', t1, Option.bind_some]
    have rel : relP 2 W op C = (P2, o, D2) := by rw [relP_rr (show 2 ≤ 3 by decide), i5]; exact a1
    have st1 : Pth law Bs m 1 (st, cmp, ln, out, op, br, W, C) pos (3, cmp, ln, out, o, br, 2 :: P2, D2) (tkE Bs m pos) := by
      refine ⟨i1, _, ?_, rfl, rfl⟩
      rw [i4, k2]
      unfold jointA
      rw [if_pos (by omega), show rnk 2 = 2 from rfl, rel]
    have le1 := st1.le hm hp
    have hI3 : an1 law Bs m C0 o br (2 :: P2) D2 (tkE Bs m pos) T3 := by
      refine ⟨⟨Or.inr (Or.inr (Or.inr ⟨rfl, a4⟩)), b1⟩, ?_, ?_, i10, t2, ?_, ?_, ?_, ?_, ?_, ?_⟩
      · rw [c3, c40, if_neg (by decide), if_neg (by decide)]; omega
      · rw [c40, if_neg (by decide)]; omega
      · exact y3.go (fun b k q => by rw [t3 b k (by omega), x3 b k (by omega) (by omega)])
      · exact x2.go (fun b k q => t3 b k (by omega))
      · rw [t3 _ _ (by omega), x3 _ _ (by omega) (by omega)]; exact y4
      · rw [kW, if_pos (Or.inr rfl)]; exact b6 i15
      · rw [List.length_cons]; omega
      · rw [List.length_cons]; omega
    rw [ex]
    rcases ih1 cmp o br (2 :: P2) D2 (tkE Bs m pos) T3 (by omega) hI3 with g | g
    · exact Or.inl (g.pre st1 fr)
    · exact Or.inr (g.pre st1 fr)
  · rw [if_neg k2] at w7
    obtain ⟨P2, D2, P3, D3, a1, a2, a3, a4, a5, a6⟩ := ao_L (law := law) (C0 := C0) (D := D) (o := o) i6 i7
    obtain ⟨d1, d2, d3, d4, d5, d6⟩ := a4
    obtain ⟨b1, b2, b3, b4, b5, b6⟩ := a5
    have hWl := (wf_len b1).1
    obtain ⟨T1, y1, y2, y3, y4, y5⟩ := settles_M (y := 10) (by decide) i13 i12 i14 (by rw [c9_W i6]; omega) (by omega) (by rw [List.length_map]; omega)
    rw [a1] at y2 y3 y4
    have y1' : r_M_settles 10 T = some T1 := y1
    obtain ⟨T2, z1, z2, z3, z4, z5⟩ := settles_M (y := 11) (by decide) y2 y3 y4 (by rw [c9_W d1]; show c3 P2 ≤ o; omega) (by show o ≤ 100; omega) (by rw [List.length_map]; show (refL (offL law) D2).length + P2.length ≤ 400; omega)
    have z1' : r_M_settles 11 T1 = some T2 := z1
    have a2' : stM 11 (P2.map mpW, o, refL (offL law) D2).1 (P2.map mpW, o, refL (offL law) D2).2.1 (P2.map mpW, o, refL (offL law) D2).2.2 = (P3.map mpW, o, refL (offL law) D3) := a2
    rw [a2'] at z2 z3 z4
    have z2' : wtM (P3.map mpW) T2 := z2
    have z3' : cdM (refL (offL law) D3) T2 := z3
    have z4' : T2 104 41 = nI o := z4
    have f2 : ∀ b k, ¬ (b = 104 ∧ (k = 40 ∨ k = 41 ∨ k = 43)) → ¬ ((b = 124 ∨ b = 125) ∧ 2000 ≤ k) → T2 b k = T b k := fun b k g1 g2 => by rw [z5 b k g1 g2, y5 b k g1 g2]
    have q2 : RQ law Bs m pos T2 := i11.go (fun b k q => f2 b k (by omega) (by omega))
    have rel : relP 1 W op C = (P3, o, D3) := by rw [relP_rr (show 1 ≤ 3 by decide), i5]; exact a3
    by_cases k1 : tkT Bs m law pos = 1
    · rw [if_pos k1] at w6
      obtain ⟨T3, x1, x2, x3⟩ := waits_M (a := 11) z2' (by rw [List.length_map]; omega) (by decide)
      have x1' : r_M_waits 11 T2 = some T3 := x1
      have q3 : RQ law Bs m pos T3 := q2.go (fun b k q => x3 b k (by omega) (by omega))
      obtain ⟨T4, t1, t2, t3⟩ := q3.nx
      have fr : frN T T4 := fun b k g1 g2 g3 => by rw [t3 b k (by omega), x3 b k (by omega) g3, f2 b k (by omega) g2]
      have ex : r_M_readAny_L9 (f + 1) (nI br) 0 T = r_M_readAny_L9 f (nI br) 1 T4 := by
        simp only [r_M_readAny_L9, if_pos, w7, w6, if_neg n10, y1', z1', x1', t1, Option.bind_some]
      have st1 : Pth law Bs m 1 (st, cmp, ln, out, op, br, W, C) pos (3, cmp, ln, out, o, br, 1 :: P3, D3) (tkE Bs m pos) := by
        refine ⟨i1, _, ?_, rfl, rfl⟩
        rw [i4, k1]
        unfold jointA
        rw [if_pos (by omega), show rnk 1 = 1 from rfl, rel]
      have le1 := st1.le hm hp
      have hI3 : an1 law Bs m C0 o br (1 :: P3) D3 (tkE Bs m pos) T4 := by
        refine ⟨⟨Or.inr (Or.inr (Or.inl ⟨rfl, a6⟩)), b1⟩, ?_, ?_, i10, t2, ?_, ?_, ?_, ?_, ?_, ?_⟩
        · rw [c3, c40, if_neg (by decide), if_neg (by decide)]; omega
        · rw [c40, if_neg (by decide)]; omega
        · exact z3'.go (fun b k q => by rw [t3 b k (by omega), x3 b k (by omega) (by omega)])
        · exact x2.go (fun b k q => t3 b k (by omega))
        · rw [t3 _ _ (by omega), x3 _ _ (by omega) (by omega)]; exact z4'
        · rw [kW, if_pos (Or.inl rfl)]; exact b6 i15
        · rw [List.length_cons]; omega
        · rw [List.length_cons]; omega
      rw [ex]
      rcases ih1 cmp o br (1 :: P3) D3 (tkE Bs m pos) T4 (by omega) hI3 with g | g
      · exact Or.inl (g.pre st1 fr)
      · exact Or.inr (g.pre st1 fr)
    · rw [if_neg k1] at w6
      by_cases kb : br = 0
      · have hb0 : nI br = 0 := by rw [kb]; rfl
        have hP3 : P3 = [] := by
          refine wf_nil b1 (a6.resolve_right (fun z => ?_))
          obtain ⟨Q, hQ⟩ := hd_40 z
          rw [hQ, c40, if_pos rfl] at b3
          omega
        have ho : o = 0 := by
          rw [hP3] at b2 b3
          have c1 : c3 [] = 0 := rfl
          have c2 : c40 [] = 0 := rfl
          omega
        rw [hP3] at rel b4 b5 b6
        rw [List.length_nil] at b4 b5
        left
        refine ⟨0, _, cmp, D3, pos, T2, ?_, ⟨rfl, rfl⟩, i1, i2, ?_, q2, z3', b6 i15, by omega, by omega, by rw [z4', ho]; rfl, fun b k g1 g2 g3 => f2 b k (by omega) g2⟩
        · simp only [r_M_readAny_L9, if_pos, w7, w6, y1', z1', hb0, Option.bind_some, anyX]
        · rw [i4]
          unfold jointA
          rw [if_neg (by omega), if_neg (by omega)]
          by_cases k59 : tkT Bs m law pos = 59
          · rw [if_pos ⟨k59, kb⟩, if_pos k59, rel, ho, kb]
          · rw [if_neg (fun z => k59 z.1), if_neg k59]
      · have hb0 : ¬ nI br = 0 := fun z => kb ((nI_eq (b := 0) (by omega) (by omega)).mp z)
        have s41 : r_M_isSign 41 T2 = if tkT Bs m law pos = 41 then 1 else 0 := sgn_M (c := 41) q2 (by decide) (by decide)
        by_cases k41 : tkT Bs m law pos = 41
        · rw [if_pos k41] at s41
          obtain ⟨P4, hP4⟩ : ∃ Q, P3 = 40 :: Q := by
            rcases a6 with z | z
            · have := wf_nil b1 z
              rw [this] at b3
              have c2 : c40 [] = 0 := rfl
              omega
            · exact hd_40 z
          rw [hP4] at rel b1 b2 b3 b4 b5 b6 z2' hWl
          rw [c3, if_neg (by decide)] at b2
          rw [c40, if_pos rfl] at b3
          rw [List.length_cons] at b4 b5 hWl
          rw [kW, if_neg (by decide)] at b6
          have hl4 := (wf_len b1.2).1
          have u1 := z2'.1
          rw [List.map_cons, List.length_cons, List.length_map] at u1
          have e41 : nI o - 1 = nI (o - 1) := by
            have : o = (o - 1) + 1 := by omega
            rw [this, nI_pred]
            rfl
          have eb : nI br - 1 = nI (br - 1) := by
            have : br = (br - 1) + 1 := by omega
            rw [this, nI_pred]
            rfl
          generalize hV : sw (sw T2 104 43 (nI P4.length)) 104 41 (nI (o - 1)) = V
          have v41 : V 104 41 = nI (o - 1) := by rw [← hV, sw_same]
          have fV : ∀ b k, ¬ (b = 104 ∧ (k = 41 ∨ k = 43)) → V b k = T2 b k := fun b k g => by rw [← hV, rd_ne (by omega), rd_ne (by omega)]
          have wV : wtM (P4.map mpW) V := by
            refine ⟨by rw [← hV, rd_ne (by omega), sw_same, List.length_map], ?_, ?_, ?_⟩
            · rw [List.length_map]; omega
            · exact stkN_cong _ (fun j _ => fV 126 j (by omega)) z2'.2.2.1.2
            · exact fun b hb => z2'.2.2.2 b (List.mem_cons_of_mem _ hb)
          have cV : cdM (refL (offL law) D3) V := z3'.go (fun b k q => fV b k (by omega))
          obtain ⟨P5, o5, D5, m1, m2, m3, m4, m5, m6, m7, m8, m9, m10⟩ := not_L (law := law) (C0 := C0) (o := o - 1) (D := D3) b1.2
          obtain ⟨T3, x1, x2, x3, x4, x5⟩ := settles_M (y := 9) (by decide) wV cV v41 (by rw [c9_W b1.2]; omega) (by omega) (by rw [List.length_map]; omega)
          rw [m2] at x2 x3 x4
          have x1' : r_M_settles 9 V = some T3 := x1
          have q3 : RQ law Bs m pos T3 := (q2.go (T' := V) (fun b k q => fV b k (by omega))).go (fun b k q => x5 b k (by omega) (by omega))
          obtain ⟨T4, t1, t2, t3⟩ := q3.nx
          have fr : frN T T4 := fun b k g1 g2 g3 => by rw [t3 b k (by omega), x5 b k (by omega) g2, fV b k (by omega), f2 b k (by omega) g2]
          have z43 : sw T2 104 43 (nI P4.length) 104 41 = nI o := by rw [rd_ne (by omega)]; exact z4'
          have ex : r_M_readAny_L9 (f + 1) (nI br) 0 T = r_M_readAny_L9 f (nI (br - 1)) 0 T4 := by
            simp only [r_M_readAny_L9, if_pos, w7, w6, y1', z1', if_neg hb0, s41, if_neg n10, Option.bind_some, ltS_k, lt_k, u1, nI_pred, z43, e41, hV, x1', t1, eb]
          have st1 : Pth law Bs m 1 (st, cmp, ln, out, op, br, W, C) pos (7, cmp, ln, out, o - 1, br - 1, P4, D3) (tkE Bs m pos) := by
            refine ⟨i1, _, ?_, rfl, rfl⟩
            rw [i4, k41]
            unfold jointA
            rw [if_neg (by omega), if_pos ⟨rfl, by omega⟩, rel]
            rfl
          have le1 := st1.le hm hp
          have hin : inP P4 (o - 1) (br - 1) := inP_W b1.2 (by omega) (by omega) (by omega)
          have hI0 : an0 law Bs m C0 7 cmp ln out (o - 1) (br - 1) P4 D3 o5 P5 D5 (tkE Bs m pos) T4 := by
            refine ⟨okS_E (E := []) hin (fun a q => by cases q) (Nat.zero_le _) (by rw [List.length_nil]; omega) (by omega) (fun _ => i3) hln (fun _ => hout), by decide, i3, rfl, m1, m3, m4, m5 (by omega), by omega, by omega, t2, ?_, ?_, ?_, m10 (b6 i15), by omega, by omega⟩
            · exact x3.go (fun b k q => t3 b k (by omega))
            · exact x2.go (fun b k q => t3 b k (by omega))
            · rw [t3 _ _ (by omega)]; exact x4
          rw [ex]
          rcases ih0 7 cmp (o - 1) (br - 1) P4 D3 o5 P5 D5 (tkE Bs m pos) T4 (by omega) hI0 with g | g
          · exact Or.inl (g.pre st1 fr)
          · exact Or.inr (g.pre st1 fr)
        · rw [if_neg k41] at s41
          obtain ⟨T', v1, v2, v3, v4⟩ := fails_M (x := 1) q2
          right
          refine ⟨0, _, pos, 1, ⟨rfl, rfl⟩, ⟨i1, fun z => i2 z.2, ?_⟩, by omega, by omega, T', ?_, v2, v3, fun b k g1 g2 g3 => by rw [v4 b k (by omega), f2 b k (by omega) g2]⟩
          · rw [i4]
            unfold jointA
            rw [if_neg (by omega), if_neg (by omega), if_neg (by omega)]
          · simp only [r_M_readAny_L9, if_pos, w7, w6, y1', z1', if_neg hb0, s41, Option.bind_some, v1, anyX]
theorem any_M {law : Bool} {Bs : Nat → Nat} {m ln out : Nat} {C0 : Cod} (hm : m ≤ 400) (hln : ln ≤ 12) (hout : out < 131072) : ∀ f, An1 law Bs m C0 ln out f ∧ An0 law Bs m C0 ln out f := by
  intro f
  induction f with
  | zero => exact ⟨fun cmp op br W C pos T h => by omega, fun st cmp op br W C o P D pos T h => by omega⟩
  | succ f ih => exact ⟨any_1 hm hln hout ih.1 ih.2, any_0 hm hln hout ih.1 ih.2⟩
/-- the claim of a line -/
theorem readAny_M {law : Bool} {Bs : Nat → Nat} {m ln out cmp pos : Nat} {C : Cod} {T : Sto} (hm : m ≤ 400) (hln : ln ≤ 12) (hout : out < 131072) (hQ : RQ law Bs m pos T) (hR : cdM (refL (offL law) C) T) (h41 : T 104 41 = 0) (hr1 : C.length + 4 ≤ pos) (hr2 : (refL (offL law) C).length + 4 ≤ pos) :
    goodA law Bs m C (3, cmp, ln, out, 0, 0, [], C) ln out pos T (r_M_readAny T) ∨ badN law Bs m (3, cmp, ln, out, 0, 0, [], C) pos T (r_M_readAny T) := by
  have hp : pos ≤ m := hQ.2.2.2.2.2.2.1
  have ex : r_M_readAny T = anyX (r_M_readAny_L9 fu (nI 0) 1 (sw T 104 43 0)) := by
    unfold r_M_readAny
    rw [ltS_k, show nI 0 = (0 : Int32) from rfl]
    generalize r_M_readAny_L9 fu 0 1 (sw T 104 43 0) = x
    rcases x with _ | (x | x) <;> rfl
  have hI : an1 law Bs m C 0 0 [] C pos (sw T 104 43 0) := by
    refine ⟨trivial, rfl, rfl, by omega, hQ.go (fun b k q => rd_ne (by omega)), hR.go (fun b k q => rd_ne (by omega)), ⟨sw_same, Nat.zero_le _, trivial, fun b q => by cases q⟩, ?_, ⟨[], by rw [List.append_nil], rfl, fun _ q h => by cases h⟩, by rw [List.length_nil]; omega, by rw [List.length_nil]; omega⟩
    rw [rd_ne (by omega)]; exact h41
  have fr : frN T (sw T 104 43 0) := fun b k g1 g2 g3 => rd_ne (by omega)
  rw [ex]
  rcases (any_M (law := law) (Bs := Bs) (C0 := C) hm hln hout fu).1 cmp 0 0 [] C pos _ (by have : fu = 5000 := rfl; omega) hI with g | g
  · exact Or.inl (goodA.pre (k := 0) ⟨rfl, rfl⟩ fr g)
  · exact Or.inr (badN.pre (k := 0) ⟨rfl, rfl⟩ fr g)
