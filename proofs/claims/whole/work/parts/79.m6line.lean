/-! a line's first words -/
theorem bg_t : ∀ v, v < 19 → (wmp true v = 4 ↔ nI v = 0) ∧ ((4 ≤ wmp false v ∧ wmp false v ≤ 6) ↔ ¬ r_M_isIn (nI v) 12 14 = 0) ∧ (4 ≤ wmp false v ∧ wmp false v ≤ 6 → v = wmp false v + 8) ∧ ((5 ≤ wmp true v ∧ wmp true v ≤ 8) ↔ ¬ r_M_isIn (nI v) 1 4 = 0) ∧ (5 ≤ wmp true v ∧ wmp true v ≤ 8 → v = srt 0 (wmp true v - 5)) := by decide
abbrev isBg (law : Bool) (tok : Nat) : Prop := 4 ≤ tok ∧ tok ≤ (if law = true then 4 else 6)
theorem kindn {k c : Nat} (hk : k < 100) (hc : c < 100) : nI k = nI c ↔ k = c := nI_eq (by omega) (by omega)
theorem bg_6 {law : Bool} {tok : Nat} (h : isBg law tok) : 4 ≤ tok ∧ tok ≤ 6 := by
  obtain ⟨h1, h2⟩ := h
  refine ⟨h1, ?_⟩
  split at h2 <;> omega
theorem beg_M {law : Bool} {Bs : Nat → Nat} {m pos : Nat} {T : Sto} (h : RQ law Bs m pos T) : (isBg law (tkT Bs m law pos) → r_M_isBegin T = 1 ∧ (law = false → T 104 31 = nI (tkT Bs m law pos + 8))) ∧ (¬ isBg law (tkT Bs m law pos) → r_M_isBegin T = 0) := by
  obtain ⟨h1, h2, h3, h4, h5, h6, h7, h8⟩ := h
  have b6 := fun z => bg_6 (law := law) (tok := tkT Bs m law pos) z
  have other : rkK Bs m pos < 5 → ¬ rkK Bs m pos = 2 → r_M_isBegin T = 0 := fun z1 z2 => by
    unfold r_M_isBegin
    rw [h5, if_neg (show ¬ nI (rkK Bs m pos) = 2 from fun q => z2 ((nI_eq (b := 2) (by omega) (by omega)).mp q))]
  rcases rk_c (law := law) (Bs := Bs) h1.1 h7 with ⟨k, t⟩ | ⟨k, t⟩ | ⟨k, kv, t⟩ | ⟨k, kv, kn, t⟩ | ⟨k, kv, kw, t⟩
  · exact ⟨fun z => by have := b6 z; omega, fun _ => other (by omega) (by omega)⟩
  · exact ⟨fun z => by have := b6 z; omega, fun _ => other (by omega) (by omega)⟩
  · have e30 : T 104 30 = 2 := by rw [h5, k]; rfl
    have e31 : T 104 31 = nI (rkV Bs m pos) := h6 (by omega)
    clear b6 other
    rw [t, e31]
    unfold r_M_isBegin
    rw [e30, e31, h8]
    generalize rkV Bs m pos = v at *
    obtain ⟨b1, b2, b3, b4, b5⟩ := bg_t v kv
    cases law with
    | true =>
      have e : isBg true (wmp true v) ↔ wmp true v = 4 := ⟨fun z => by have z1 := z.1; have z2 : wmp true v ≤ 4 := z.2; omega, fun z => ⟨by omega, by show wmp true v ≤ 4; omega⟩⟩
      rw [if_pos rfl, if_pos (show b2i (!true) = 0 by decide)]
      constructor
      · intro z
        rw [if_pos (b1.mp (e.mp z))]
        exact ⟨rfl, fun z => by cases z⟩
      · intro z
        rw [if_neg (fun q => z (e.mpr (b1.mpr q)))]
    | false =>
      have e : isBg false (wmp false v) ↔ 4 ≤ wmp false v ∧ wmp false v ≤ 6 := Iff.rfl
      rw [if_pos rfl, if_neg (show ¬ b2i (!false) = 0 by decide)]
      constructor
      · intro z
        rw [if_neg (b2.mp (e.mp z))]
        exact ⟨rfl, fun _ => by rw [← b3 (e.mp z)]⟩
      · intro z
        rw [if_pos (Classical.not_not.mp (fun q => z (e.mpr (b2.mpr q))))]
  · exact ⟨fun z => by have := b6 z; omega, fun _ => other (by omega) (by omega)⟩
  · exact ⟨fun z => by have := b6 z; omega, fun _ => other (by omega) (by omega)⟩
theorem sec_M {Bs : Nat → Nat} {m pos : Nat} {T : Sto} (h : RQ true Bs m pos T) : (5 ≤ tkT Bs m true pos ∧ tkT Bs m true pos ≤ 8 → T 104 30 = 2 ∧ ¬ r_M_isIn (T 104 31) 1 4 = 0 ∧ T 104 31 = nI (srt 0 (tkT Bs m true pos - 5))) ∧ (¬ (5 ≤ tkT Bs m true pos ∧ tkT Bs m true pos ≤ 8) → ¬ T 104 30 = 2 ∨ r_M_isIn (T 104 31) 1 4 = 0) := by
  obtain ⟨h1, h2, h3, h4, h5, h6, h7, h8⟩ := h
  rw [h5]
  rcases rk_c (law := true) (Bs := Bs) h1.1 h7 with ⟨k, t⟩ | ⟨k, t⟩ | ⟨k, kv, t⟩ | ⟨k, kv, kn, t⟩ | ⟨k, kv, kw, t⟩
  · rw [k, t]
    exact ⟨fun z => by omega, fun _ => Or.inl (by decide)⟩
  · rw [k, t]
    exact ⟨fun z => by omega, fun _ => Or.inl (by decide)⟩
  · rw [h6 (by omega), k, t]
    generalize rkV Bs m pos = v at *
    obtain ⟨b1, b2, b3, b4, b5⟩ := bg_t v kv
    exact ⟨fun z => ⟨rfl, b4.mp z, by rw [← b5 z]⟩, fun z => Or.inr (Classical.not_not.mp (fun q => z (b4.mpr q)))⟩
  · rw [k, t]
    exact ⟨fun z => by omega, fun _ => Or.inl (by decide)⟩
  · rw [k, t]
    exact ⟨fun z => by omega, fun _ => Or.inl (by decide)⟩
theorem end_M {law : Bool} {Bs : Nat → Nat} {m pos : Nat} {T : Sto} (h : RQ law Bs m pos T) : T 104 30 = 0 ↔ tkT Bs m law pos = 14 := by
  obtain ⟨h1, h2, h3, h4, h5, h6, h7, h8⟩ := h
  rw [h5]
  rcases rk_c (law := law) (Bs := Bs) h1.1 h7 with ⟨k, t⟩ | ⟨k, t⟩ | ⟨k, kv, t⟩ | ⟨k, kv, kn, t⟩ | ⟨k, kv, kw, t⟩
  · rw [k, t]; exact ⟨fun _ => rfl, fun _ => rfl⟩
  · rw [k, t]; exact ⟨fun z => absurd z (by decide), fun z => by omega⟩
  · have w := wmp_n _ kv
    rw [k, t]
    exact ⟨fun z => absurd z (by decide), fun z => by cases law <;> omega⟩
  · rw [k, t]; exact ⟨fun z => absurd z (by decide), fun z => by omega⟩
  · rw [k, t]; exact ⟨fun z => absurd z (by decide), fun z => by omega⟩
/-- when has four letters -/
theorem when_4 {law : Bool} {Bs : Nat → Nat} {m pos : Nat} (hm : m ≤ 400) (hp : pos ≤ m) (h : tkT Bs m law pos = 0) : pos + 4 ≤ tkE Bs m pos := by
  obtain ⟨e1, e2, e3, e4⟩ := tkE_ge (Bs := Bs) (m := m) (pos := pos)
  rcases rk_c (law := law) (Bs := Bs) hm hp with ⟨k, t⟩ | ⟨k, t⟩ | ⟨k, kv, t⟩ | ⟨k, kv, kn, t⟩ | ⟨k, kv, kw, t⟩
  · omega
  · omega
  · have w := wmp_t _ kv
    have v5 : rkV Bs m pos = 5 := by
      rw [h] at t
      cases law with
      | true => exact w.1.mp t.symm
      | false => exact w.2.2.2.2.1.mp t.symm
    have hl : tkP Bs m pos < m := by
      refine Classical.not_not.mp (fun z => ?_)
      unfold rkK at k
      rw [if_neg z] at k
      omega
    unfold rkK at k
    rw [if_pos hl] at k
    cases kl : isLc (Bs (tkP Bs m pos)) with
    | true =>
      unfold rkV at v5
      rw [if_pos kl] at v5
      cases hr : rwS Bs (tkP Bs m pos) (tkE Bs m pos) 19 0 with
      | none => rw [hr] at v5; exact absurd v5 (by decide)
      | some j =>
        rw [hr] at v5
        have v5' : j = 5 := v5
        have hw := (rwS_lt 19 0 j hr).2
        rw [v5'] at hw
        have := ((wd_eq e2).mp hw).1
        have l4 : (rw1 5).length = 4 := by decide
        omega
    | false =>
      rw [kl] at k
      rw [if_neg (by decide)] at k
      split at k
      · split at k <;> omega
      · split at k <;> omega
  · omega
  · omega
def frJ (j : Nat) (T T' : Sto) : Prop := ∀ a k, ¬ (a = 104 ∧ (28 ≤ k ∧ k ≤ 31 ∨ k = 40 ∨ k = 41 ∨ k = 43 ∨ k = 44 ∨ k = 45)) → ¬ ((a = 124 ∨ a = 125) ∧ 2000 ≤ k) → ¬ a = 126 → ¬ ((a = 121 ∨ a = 122 ∨ a = 123) ∧ k = j) → T' a k = T a k
theorem frJ.tr {j : Nat} {T T1 T2 : Sto} (h : frJ j T T1) (g : frJ j T1 T2) : frJ j T T2 := fun a k q1 q2 q3 q4 => (g a k q1 q2 q3 q4).trans (h a k q1 q2 q3 q4)
theorem frN.l {j : Nat} {T T' : Sto} (h : frN T T') : frJ j T T' := fun a k g1 g2 g3 _ => h a k g1 g2 g3
def badL (law : Bool) (Bs : Nat → Nat) (m j : Nat) (A : AS) (pos : Nat) (T : Sto) (x : Option (Int32 × Sto)) : Prop :=
  ∃ n A' pos' fl, Pth law Bs m n A pos A' pos' ∧ Flt law Bs m A' pos' fl ∧ 0 < fl ∧ fl ≤ 3 ∧ ∃ T', x = some (-1, T') ∧ T' 104 44 = nI fl ∧ T' 104 45 = nI (tkP Bs m pos') ∧ frJ j T T'
theorem badL.pre {law : Bool} {Bs : Nat → Nat} {m j : Nat} {A B : AS} {p q k : Nat} {T U : Sto} {x : Option (Int32 × Sto)} (h : Pth law Bs m k A p B q) (f : frJ j T U) (g : badL law Bs m j B q U x) : badL law Bs m j A p T x := by
  obtain ⟨n, A', pos', fl, g1, g2, g3, g4, T', e1, e2, e3, e4⟩ := g
  exact ⟨k + n, A', pos', fl, h.tr g1, g2, g3, g4, T', e1, e2, e3, f.tr e4⟩
/-- a line that is read: what it tells, its claim's code -/
def goodL (law : Bool) (Bs : Nat → Nat) (m j : Nat) (C : Cod) (A : AS) (ln out sv pos : Nat) (T : Sto) (x : Option (Int32 × Sto)) : Prop :=
  ∃ n c L pos' T', x = some (0, T') ∧ Pth law Bs m n A pos (0, c, ln, out, 0, 0, [], C ++ L ++ [(59, out)]) pos' ∧ RQ law Bs m pos' T' ∧ cdM (refL (offL law) (C ++ L)) T' ∧ tyL L [] = some [true] ∧ (law = false → ∀ q ∈ L, q.1 = 13 → q.2 < 4) ∧ (C ++ L).length + 5 ≤ pos' ∧ (refL (offL law) (C ++ L)).length + 5 ≤ pos' ∧ T' 104 41 = 0 ∧ T' 121 j = nI sv ∧ T' 122 j = nI (refL (offL law) C).length ∧ T' 123 j = nI (refL (offL law) (C ++ L)).length ∧ frJ j T T'
theorem goodL.pre {law : Bool} {Bs : Nat → Nat} {m j : Nat} {C : Cod} {A B : AS} {ln out sv p q k : Nat} {T U : Sto} {x : Option (Int32 × Sto)} (h : Pth law Bs m k A p B q) (f : frJ j T U) (g : goodL law Bs m j C B ln out sv q U x) : goodL law Bs m j C A ln out sv p T x := by
  obtain ⟨n, c, L, pos', T', g1, g2, g3, g4, g5, g6, g7, g8, g9, g10, g11, g12, g13⟩ := g
  exact ⟨k + n, c, L, pos', T', g1, h.tr g2, g3, g4, g5, g6, g7, g8, g9, g10, g11, g12, f.tr g13⟩
/-- the line behind what it tells -/
def lnT (x1 : Int32) (S1 : Sto) : Option (Int32 × Sto) :=
    chk (inr x1 72) (
    ltS (sw S1 121 x1.toNatClampNeg (S1 104 31)) (fun S2 =>
    (r_M_reads S2).bind (fun S3 =>
    if (r_M_isWord 5 S3) = 0 then
      (r_M_fails 1 S3).bind (fun (r12, S13) =>
      some (r12, S13))
    else
      (r_M_reads S3).bind (fun S4 =>
      chk (inr x1 72) (
      ltS (sw S4 122 x1.toNatClampNeg (S4 104 40)) (fun S5 =>
      (r_M_readAny S5).bind (fun (r6, S7) =>
      if r6 = (-1) then
        some ((-1), S7)
      else
        chk (inr x1 72) (
        ltS (sw S7 123 x1.toNatClampNeg (S7 104 40)) (fun S8 =>
        if (r_M_isSign 59 S8) = 0 then
          (r_M_fails 1 S8).bind (fun (r10, S11) =>
          some (r10, S11))
        else
          (r_M_reads S8).bind (fun S9 =>
          some (0, S9)))))))))))
theorem inP_0 : inP [] 0 0 := inP_W trivial rfl rfl (by decide)
theorem ok_0 {st c ln o : Nat} {C : Cod} (hl : C.length < 400) (hst : st ≤ 3) (hln : ln ≤ 12) : okS (st, c, ln, o, 0, 0, [], C) := okS_E (E := []) inP_0 (fun a q => by cases q) (Nat.zero_le _) (by rw [List.length_nil]; omega) (by omega) (fun z => by omega) hln (fun z => by omega)
theorem lnT_M {law : Bool} {Bs : Nat → Nat} {m pos c ln out sv j : Nat} {C : Cod} {T : Sto} (hm : m ≤ 400) (hj : j < 72) (hln : ln ≤ 12) (hout : out < 131072) (hQ : RQ law Bs m pos T) (h31 : T 104 31 = nI sv) (hR : cdM (refL (offL law) C) T) (h41 : T 104 41 = 0) (hlt : pos < tkE Bs m pos) (hr1 : C.length ≤ pos) (hr2 : (refL (offL law) C).length ≤ pos) :
    goodL law Bs m j C (2, c, ln, out, 0, 0, [], C) ln out sv (tkE Bs m pos) T (lnT (nI j) T) ∨ badL law Bs m j (2, c, ln, out, 0, 0, [], C) (tkE Bs m pos) T (lnT (nI j) T) := by
  have hp : pos ≤ m := hQ.2.2.2.2.2.2.1
  obtain ⟨g1, g2, g3, g4⟩ := tkE_ge (Bs := Bs) (m := m) (pos := pos)
  have ij : inr (nI j) 72 = true := inr_nI hj (by decide)
  have tj : (nI j).toNatClampNeg = j := q_tnI (by omega)
  have hQ1 : RQ law Bs m pos (sw T 121 j (nI sv)) := hQ.go (fun b k q => rd_ne (by omega))
  obtain ⟨T1, t1, t2, t3⟩ := hQ1.nx
  have hp1 : tkE Bs m pos ≤ m := t2.2.2.2.2.2.2.1
  have fr1 : frJ j T T1 := fun b k q1 q2 q3 q4 => by rw [t3 b k (by omega), rd_ne (by omega)]
  have w5 : r_M_isWord 5 T1 = if tkT Bs m law (tkE Bs m pos) = 0 then 1 else 0 := wrd_M (w := 0) t2 (by decide)
  generalize hP : tkE Bs m pos = p at *
  have h9 : (refL (offL law) C).length ≤ p := by omega
  by_cases k0 : tkT Bs m law p = 0
  · rw [if_pos k0] at w5
    obtain ⟨T2, y1, y2, y3⟩ := t2.nx
    have l4 := when_4 hm hp1 k0
    have n10 : ¬ (1 : Int32) = 0 := by decide
    have c2 : cdM (refL (offL law) C) T2 := hR.go (fun b k q => by rw [y3 b k (by omega), t3 b k (by omega), rd_ne (by omega)])
    have h40 : T2 104 40 = nI (refL (offL law) C).length := c2.1
    have hp2 : tkE Bs m p ≤ m := y2.2.2.2.2.2.2.1
    have st1 : Pth law Bs m 1 (2, c, ln, out, 0, 0, [], C) p (3, c, ln, out, 0, 0, [], C) (tkE Bs m p) := by
      refine ⟨ok_0 (by omega) (by omega) hln, _, ?_, rfl, rfl⟩
      rw [k0]
      rfl
    generalize hV : sw T2 122 j (nI (refL (offL law) C).length) = V
    have fV : ∀ b k, ¬ (b = 122 ∧ k = j) → V b k = T2 b k := fun b k g => by rw [← hV, rd_ne g]
    have v122 : V 122 j = nI (refL (offL law) C).length := by rw [← hV, sw_same]
    have v121 : V 121 j = nI sv := by rw [fV _ _ (by omega), y3 _ _ (by omega), t3 _ _ (by omega), sw_same]
    have frV : frJ j T V := fun b k q1 q2 q3 q4 => by rw [fV b k (by omega), y3 b k (by omega)]; exact fr1 b k q1 q2 q3 q4
    have v41 : V 104 41 = 0 := by rw [fV _ _ (by omega), y3 _ _ (by omega), t3 _ _ (by omega), rd_ne (by omega)]; exact h41
    rcases readAny_M (ln := ln) (out := out) (cmp := c) (C := C) (T := V) hm hln hout (y2.go (fun b k q => fV b k (by omega))) (c2.go (fun b k q => fV b k (by omega))) v41 (by omega) (by omega) with g | g
    · obtain ⟨n, A', c', D, pos', T', a1, a2, a3, a4, a5, a6, a7, a8, a9, a10, a11, a12⟩ := g
      obtain ⟨L, e1, e2, e3⟩ := a8
      have hp' : pos' ≤ m := a6.2.2.2.2.2.2.1
      have u40 : T' 104 40 = nI (refL (offL law) D).length := a7.1
      generalize hU : sw T' 123 j (nI (refL (offL law) D).length) = U
      have fU : ∀ b k, ¬ (b = 123 ∧ k = j) → U b k = T' b k := fun b k g => by rw [← hU, rd_ne g]
      have u123 : U 123 j = nI (refL (offL law) D).length := by rw [← hU, sw_same]
      have qU : RQ law Bs m pos' U := a6.go (fun b k q => fU b k (by omega))
      have s59 : r_M_isSign 59 U = if tkT Bs m law pos' = 59 then 1 else 0 := sgn_M (c := 59) qU (by decide) (by decide)
      have frU : frJ j T U := (frV.tr a12.l).tr (fun b k q1 q2 q3 q4 => fU b k (by omega))
      have head : ∀ z, lnT (nI j) T = z ↔ (if (r_M_isSign 59 U) = 0 then (r_M_fails 1 U).bind (fun (r10, S11) => some (r10, S11)) else (r_M_reads U).bind (fun S9 => some ((0 : Int32), S9))) = z := by
        intro z
        have : lnT (nI j) T = (if (r_M_isSign 59 U) = 0 then (r_M_fails 1 U).bind (fun (r10, S11) => some (r10, S11)) else (r_M_reads U).bind (fun S9 => some ((0 : Int32), S9))) := by
          simp only [lnT, chk_t ij, tj, h31, ltS_k, t1, Option.bind_some, w5, if_neg n10, y1, h40, hV, a1, if_neg (show ¬ (0 : Int32) = -1 by decide), u40, hU]
        rw [this]
      by_cases k59 : tkT Bs m law pos' = 59
      · rw [if_pos k59] at s59 a5
        obtain ⟨T3, x1, x2, x3⟩ := qU.nx
        have st2 : Pth law Bs m 1 A' pos' (0, c', ln, out, 0, 0, [], D ++ [(59, out)]) (tkE Bs m pos') := ⟨a3, _, a5, rfl, rfl⟩
        have le2 := st2.le hm hp'
        left
        refine ⟨1 + (n + 1), c', L, tkE Bs m pos', T3, ?_, ?_, x2, ?_, e2, e3, ?_, ?_, ?_, ?_, ?_, ?_, ?_⟩
        · rw [head]
          simp only [s59, if_neg n10, x1, Option.bind_some]
        · rw [← e1]; exact st1.tr (a2.tr st2)
        · rw [← e1]; exact a7.go (fun b k q => by rw [x3 b k (by omega), fU b k (by omega)])
        · rw [← e1]; omega
        · rw [← e1]; omega
        · rw [x3 _ _ (by omega), fU _ _ (by omega)]; exact a11
        · rw [x3 _ _ (by omega), fU _ _ (by omega), a12 _ _ (by omega) (by omega) (by omega)]; exact v121
        · rw [x3 _ _ (by omega), fU _ _ (by omega), a12 _ _ (by omega) (by omega) (by omega)]; exact v122
        · rw [← e1, x3 _ _ (by omega)]; exact u123
        · exact frU.tr (fun b k q1 q2 q3 q4 => x3 b k (by omega))
      · rw [if_neg k59] at s59 a5
        obtain ⟨T3, x1, x2, x3, x4⟩ := fails_M (x := 1) qU
        right
        refine ⟨1 + n, A', pos', 1, st1.tr a2, ⟨a3, fun z => a4 z.2, a5⟩, by omega, by omega, T3, ?_, x2, x3, frU.tr (fun b k q1 q2 q3 q4 => x4 b k (by omega))⟩
        rw [head]
        simp only [s59, if_pos, x1, Option.bind_some]
    · obtain ⟨n, A', pos', fl, a1, a2, a3, a4, T', b1, b2, b3, b4⟩ := g
      right
      refine ⟨1 + n, A', pos', fl, st1.tr a1, a2, a3, a4, T', ?_, b2, b3, frV.tr b4.l⟩
      simp only [lnT, chk_t ij, tj, h31, ltS_k, t1, Option.bind_some, w5, if_neg n10, y1, h40, hV, b1, if_pos]
  · rw [if_neg k0] at w5
    obtain ⟨T3, x1, x2, x3, x4⟩ := fails_M (x := 1) t2
    right
    refine ⟨0, _, p, 1, ⟨rfl, rfl⟩, ⟨ok_0 (by omega) (by omega) hln, fun z => by have : (2 : Nat) = 0 := z.2; omega, ?_⟩, by omega, by omega, T3, ?_, x2, x3, fr1.tr (fun b k q1 q2 q3 q4 => x4 b k (by omega))⟩
    · show (if tkT Bs m law p = 0 then Sum.inr _ else Sum.inl 1) = _
      rw [if_neg k0]
    · simp only [lnT, chk_t ij, tj, h31, ltS_k, t1, Option.bind_some, w5, if_pos, x1]
