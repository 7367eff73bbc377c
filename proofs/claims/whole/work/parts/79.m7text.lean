/-! a line, and a text of lines -/
theorem frJ.rf {j : Nat} {T : Sto} : frJ j T T := fun _ _ _ _ _ _ => rfl
theorem line_M {law : Bool} {Bs : Nat → Nat} {m pos c o ln j : Nat} {C : Cod} {T : Sto} (hm : m ≤ 400) (hj : j < 72) (hln : ln < 12) (hB : isBg law (tkT Bs m law pos)) (hQ : RQ law Bs m pos T) (hR : cdM (refL (offL law) C) T) (h41 : T 104 41 = 0) (hl : C.length < 400) (hr1 : C.length ≤ pos) (hr2 : (refL (offL law) C).length ≤ pos) :
    (∃ out, out ≤ 3 ∧ (law = false → 1 ≤ out) ∧ goodL law Bs m j C (0, c, ln, o, 0, 0, [], C) (ln + 1) out (srt (if law = true then 0 else 4) out) pos T (r_M_readLine (nI j) T)) ∨ badL law Bs m j (0, c, ln, o, 0, 0, [], C) pos T (r_M_readLine (nI j) T) := by
  have hp : pos ≤ m := hQ.2.2.2.2.2.2.1
  have h39 : T 104 39 = b2i (!law) := hQ.2.2.2.2.2.2.2
  have okA : okS (0, c, ln, o, 0, 0, [], C) := ok_0 hl (by omega) (by omega)
  cases law with
  | false =>
    have hB' : 4 ≤ tkT Bs m false pos ∧ tkT Bs m false pos ≤ 6 := hB
    obtain ⟨b1, b2⟩ := (beg_M hQ).1 hB
    have st1 : Pth false Bs m 1 (0, c, ln, o, 0, 0, [], C) pos (2, c, ln + 1, tkT Bs m false pos - 4 + 1, 0, 0, [], C) (tkE Bs m pos) := by
      refine ⟨okA, _, ?_, rfl, rfl⟩
      show (if 4 ≤ tkT Bs m false pos ∧ tkT Bs m false pos ≤ 6 then (if ln < 12 then Sum.inr _ else Sum.inl 3) else Sum.inl 1) = _
      rw [if_pos hB', if_pos hln]
      rfl
    have le1 := st1.le hm hp
    have ex : r_M_readLine (nI j) T = lnT (nI j) T := by
      unfold r_M_readLine lnT
      simp only [h39, if_neg (show ¬ b2i (!false) = 0 by decide), jn_k]
    have es : srt (if false = true then 0 else 4) (tkT Bs m false pos - 4 + 1) = tkT Bs m false pos + 8 := by
      show tkT Bs m false pos - 4 + 1 + 11 = _
      omega
    rw [ex]
    rcases lnT_M (c := c) (ln := ln + 1) (out := tkT Bs m false pos - 4 + 1) (sv := tkT Bs m false pos + 8) (j := j) hm hj (by omega) (by omega) hQ (b2 rfl) hR h41 (by omega) hr1 hr2 with g | g
    · left
      refine ⟨tkT Bs m false pos - 4 + 1, by omega, fun _ => by omega, ?_⟩
      rw [es]
      exact g.pre st1 frJ.rf
    · exact Or.inr (g.pre st1 frJ.rf)
  | true =>
    have hB' : 4 ≤ tkT Bs m true pos ∧ tkT Bs m true pos ≤ 4 := hB
    have st1 : Pth true Bs m 1 (0, c, ln, o, 0, 0, [], C) pos (1, c, ln + 1, tkT Bs m true pos - 4 + 1, 0, 0, [], C) (tkE Bs m pos) := by
      refine ⟨okA, _, ?_, rfl, rfl⟩
      show (if 4 ≤ tkT Bs m true pos ∧ tkT Bs m true pos ≤ 4 then (if ln < 12 then Sum.inr _ else Sum.inl 3) else Sum.inl 1) = _
      rw [if_pos hB', if_pos hln]
      rfl
    have le1 := st1.le hm hp
    obtain ⟨T1, t1, t2, t3⟩ := hQ.nx
    have fr1 : frJ j T T1 := fun b k q1 q2 q3 q4 => t3 b k (by omega)
    obtain ⟨s1, s2⟩ := sec_M t2
    have hp1 : tkE Bs m pos ≤ m := t2.2.2.2.2.2.2.1
    by_cases k5 : 5 ≤ tkT Bs m true (tkE Bs m pos) ∧ tkT Bs m true (tkE Bs m pos) ≤ 8
    · obtain ⟨u1, u2, u3⟩ := s1 k5
      have st2 : Pth true Bs m 1 (1, c, ln + 1, tkT Bs m true pos - 4 + 1, 0, 0, [], C) (tkE Bs m pos) (2, c, ln + 1, tkT Bs m true (tkE Bs m pos) - 5, 0, 0, [], C) (tkE Bs m (tkE Bs m pos)) := by
        refine ⟨ok_0 hl (by omega) (by omega), _, ?_, rfl, rfl⟩
        show (if 5 ≤ tkT Bs m true (tkE Bs m pos) ∧ tkT Bs m true (tkE Bs m pos) ≤ 8 then Sum.inr _ else Sum.inl 1) = _
        rw [if_pos k5]
      have le2 := st2.le hm hp1
      have ex : r_M_readLine (nI j) T = lnT (nI j) T1 := by
        unfold r_M_readLine lnT
        simp only [h39, if_pos (show b2i (!true) = 0 by decide), t1, Option.bind_some, u1, if_pos, if_neg u2, jn_c, jn_k]
      rw [ex]
      rcases lnT_M (c := c) (ln := ln + 1) (out := tkT Bs m true (tkE Bs m pos) - 5) (sv := srt 0 (tkT Bs m true (tkE Bs m pos) - 5)) (j := j) hm hj (by omega) (by omega) t2 u3 (hR.go (fun b k q => t3 b k (by omega))) (by rw [t3 _ _ (by omega)]; exact h41) (by omega) (by omega) (by omega) with g | g
      · left
        exact ⟨tkT Bs m true (tkE Bs m pos) - 5, by omega, (fun z => absurd z (by decide)), g.pre (st1.tr st2) fr1⟩
      · exact Or.inr (g.pre (st1.tr st2) fr1)
    · have u := s2 k5
      obtain ⟨T3, x1, x2, x3, x4⟩ := fails_M (x := 1) t2
      right
      refine ⟨1 + 0, _, tkE Bs m pos, 1, st1.tr (k := 0) ⟨rfl, rfl⟩, ⟨ok_0 hl (by omega) (by omega), fun z => by have : (1 : Nat) = 0 := z.2; omega, ?_⟩, by omega, by omega, T3, ?_, x2, x3, fr1.tr (fun b k q1 q2 q3 q4 => x4 b k (by omega))⟩
      · show (if 5 ≤ tkT Bs m true (tkE Bs m pos) ∧ tkT Bs m true (tkE Bs m pos) ≤ 8 then Sum.inr _ else Sum.inl 1) = _
        rw [if_neg k5]
      · unfold r_M_readLine
        by_cases k2 : T1 104 30 = 2
        · have k4 : r_M_isIn (T1 104 31) 1 4 = 0 := u.resolve_left (fun z => z k2)
          simp only [h39, if_pos (show b2i (!true) = 0 by decide), t1, Option.bind_some, if_pos k2, if_pos k4, jn_c, jn_k, x1]
        · simp only [h39, if_pos (show b2i (!true) = 0 by decide), t1, Option.bind_some, if_neg k2, jn_c, jn_k, x1]
theorem lns_1 {ls : List (Nat × Cod)} {o : Nat} {L : Cod} : lnsC (ls ++ [(o, L)]) = lnsC ls ++ L ++ [(59, o)] := by
  unfold lnsC
  rw [List.flatMap_append, List.append_assoc]
  simp
theorem lns_c {ls : List (Nat × Cod)} {l : Nat × Cod} : lnsC (l :: ls) = l.2 ++ ([(59, l.1)] ++ lnsC ls) := by
  unfold lnsC
  rw [List.flatMap_cons, List.append_assoc]
theorem refL_59 {off o : Nat} {C : Cod} : refL off ([(59, o)] ++ C) = refL off C := by
  rw [refL_ap]
  rfl
theorem beg_c {off j : Nat} {ls : List (Nat × Cod)} {l : Nat × Cod} : begL off (l :: ls) (j + 1) = (refL off l.2).length + begL off ls j := by
  unfold begL
  rw [List.take_succ_cons, List.map_cons, List.sum_cons]
theorem beg_len {off : Nat} : ∀ (ls : List (Nat × Cod)), (refL off (lnsC ls)).length = begL off ls ls.length := by
  intro ls
  induction ls with
  | nil => rfl
  | cons l ls ih => rw [lns_c, refL_ap, refL_59, List.length_append, List.length_cons, beg_c, ih]
theorem beg_ap {off j : Nat} {ls : List (Nat × Cod)} {l : Nat × Cod} (h : j ≤ ls.length) : begL off (ls ++ [l]) j = begL off ls j := by
  unfold begL
  rw [List.take_append_of_le_length h]
theorem beg_ix {off : Nat} : ∀ (ls : List (Nat × Cod)) (j i : Nat) (l : Nat × Cod), ls[j]? = some l → i < (refL off l.2).length → (refL off (lnsC ls))[begL off ls j + i]? = (refL off l.2)[i]? := by
  intro ls
  induction ls with
  | nil => intro j i l h; cases h
  | cons a ls ih =>
    intro j i l h hi
    rw [lns_c, refL_ap, refL_59]
    cases j with
    | zero =>
      have e : a = l := by
        have h' : some a = some l := h
        exact Option.some.inj h'
      subst e
      have b0 : begL off (a :: ls) 0 = 0 := rfl
      rw [b0, Nat.zero_add, List.getElem?_append_left hi]
    | succ j =>
      have h' : ls[j]? = some l := h
      rw [beg_c, List.getElem?_append_right (by omega), ← ih j i l h' hi]
      congr 1
      omega
def lnI (law : Bool) (ls : List (Nat × Cod)) (T : Sto) : Prop := ∀ (j : Nat) (l : Nat × Cod), ls[j]? = some l → T 121 (60 + j) = nI (srt (if law = true then 0 else 4) l.1) ∧ T 122 (60 + j) = nI (begL (offL law) ls j) ∧ T 123 (60 + j) = nI (begL (offL law) ls (j + 1)) ∧ l.1 ≤ 3 ∧ (law = false → 1 ≤ l.1) ∧ tyL l.2 [] = some [true] ∧ (law = false → ∀ q ∈ l.2, q.1 = 13 → q.2 < 4)
/-- lines read so far -/
def txI (law : Bool) (Bs : Nat → Nat) (m : Nat) (ls : List (Nat × Cod)) (pos : Nat) (T : Sto) : Prop :=
  ls.length ≤ 12 ∧ RQ law Bs m pos T ∧ cdM (refL (offL law) (lnsC ls)) T ∧ T 104 41 = 0 ∧ (lnsC ls).length < 400 ∧ (lnsC ls).length ≤ pos ∧ (refL (offL law) (lnsC ls)).length ≤ pos ∧ lnI law ls T
def frY (T T' : Sto) : Prop := ∀ a k, ¬ (a = 104 ∧ (28 ≤ k ∧ k ≤ 31 ∨ k = 40 ∨ k = 41 ∨ k = 43 ∨ k = 44 ∨ k = 45)) → ¬ ((a = 124 ∨ a = 125) ∧ 2000 ≤ k) → ¬ a = 126 → ¬ ((a = 121 ∨ a = 122 ∨ a = 123) ∧ 60 ≤ k) → T' a k = T a k
theorem frY.tr {T T1 T2 : Sto} (h : frY T T1) (g : frY T1 T2) : frY T T2 := fun a k q1 q2 q3 q4 => (g a k q1 q2 q3 q4).trans (h a k q1 q2 q3 q4)
theorem frJ.t {j : Nat} {T T' : Sto} (h : frJ j T T') (hj : 60 ≤ j) : frY T T' := fun a k q1 q2 q3 q4 => h a k q1 q2 q3 (by omega)
def badT (law : Bool) (Bs : Nat → Nat) (m : Nat) (A : AS) (pos : Nat) (T : Sto) (x : Option (Int32 × Sto)) : Prop :=
  ∃ n A' pos' fl, Pth law Bs m n A pos A' pos' ∧ Flt law Bs m A' pos' fl ∧ 0 < fl ∧ fl ≤ 3 ∧ ∃ T', x = some (-1, T') ∧ T' 104 44 = nI fl ∧ T' 104 45 = nI (tkP Bs m pos') ∧ frY T T'
def goodT (law : Bool) (Bs : Nat → Nat) (m : Nat) (A : AS) (pos : Nat) (T : Sto) (x : Option (Int32 × Sto)) : Prop :=
  ∃ n c o ls pos' T', x = some (nI ls.length, T') ∧ Pth law Bs m n A pos (0, c, ls.length, o, 0, 0, [], lnsC ls) pos' ∧ tkT Bs m law pos' = 14 ∧ txI law Bs m ls pos' T' ∧ frY T T'
def txtX (x : Option ((Int32 × Sto) ⊕ (Int32 × Sto))) : Option (Int32 × Sto) := x.bind (fun x => match x with
  | .inl (v5, S6) => if (S6 104 30) = 0 then some (v5, S6) else (r_M_fails 1 S6).bind (fun (r7, S8) => some (r7, S8))
  | .inr r => some r)
theorem text_L {law : Bool} {Bs : Nat → Nat} {m : Nat} (hm : m ≤ 400) : ∀ (f : Nat) (ls : List (Nat × Cod)) (c o pos : Nat) (T : Sto), 12 - ls.length < f → txI law Bs m ls pos T → goodT law Bs m (0, c, ls.length, o, 0, 0, [], lnsC ls) pos T (txtX (r_M_readText_L21 f (nI ls.length) T)) ∨ badT law Bs m (0, c, ls.length, o, 0, 0, [], lnsC ls) pos T (txtX (r_M_readText_L21 f (nI ls.length) T)) := by
  intro f
  induction f with
  | zero => intro ls c o pos T h; omega
  | succ f ih =>
    intro ls c o pos T hf hI
    obtain ⟨i1, i2, i3, i4, i5, i6, i7, i8⟩ := id hI
    have hp : pos ≤ m := i2.2.2.2.2.2.2.1
    have okA : okS (0, c, ls.length, o, 0, 0, [], lnsC ls) := ok_0 i5 (by omega) i1
    have n10 : ¬ (1 : Int32) = 0 := by decide
    obtain ⟨b1, b2⟩ := beg_M i2
    have l6 : (if law = true then 4 else 6) ≤ 6 := by split <;> omega
    by_cases kB : isBg law (tkT Bs m law pos)
    · have bb := (b1 kB).1
      by_cases k12 : ls.length = 12
      · have e12 : nI ls.length = 12 := by rw [k12]; rfl
        obtain ⟨T3, x1, x2, x3, x4⟩ := fails_M (x := 3) i2
        right
        refine ⟨0, _, pos, 3, ⟨rfl, rfl⟩, ⟨okA, fun z => by have := z.1; unfold isBg at kB; omega, ?_⟩, by omega, by omega, T3, ?_, x2, x3, fun b k q1 q2 q3 q4 => x4 b k (by omega)⟩
        · show (if isBg law (tkT Bs m law pos) then (if ls.length < 12 then Sum.inr _ else Sum.inl 3) else Sum.inl 1) = _
          rw [if_pos kB, if_neg (by omega)]
        · simp only [r_M_readText_L21, bb, if_neg n10, e12, if_pos, x1, Option.bind_some, txtX]
      · have e12 : ¬ nI ls.length = 12 := fun z => k12 ((nI_eq (b := 12) (by omega) (by omega)).mp z)
        have e60 : (60 : Int32) + nI ls.length = nI (60 + ls.length) := nI_add 60 ls.length
        rcases line_M (c := c) (o := o) (ln := ls.length) (j := 60 + ls.length) hm (by omega) (by omega) kB i2 i3 i4 i5 i6 i7 with g | g
        · obtain ⟨out, o1, o2, n, c', L, pos', T', g1, g2, g3, g4, g5, g6, g7, g8, g9, g10, g11, g12, g13⟩ := g
          have ll : (ls ++ [(out, L)]).length = ls.length + 1 := by rw [List.length_append, List.length_singleton]
          have rl : refL (offL law) (lnsC (ls ++ [(out, L)])) = refL (offL law) (lnsC ls ++ L) := by
            rw [lns_1, refL_1]
            show _ ++ [] = _
            rw [List.append_nil]
          have cl : (lnsC (ls ++ [(out, L)])).length = (lnsC ls ++ L).length + 1 := by rw [lns_1, List.length_append, List.length_singleton]
          have hp' : pos' ≤ m := g3.2.2.2.2.2.2.1
          have hI' : txI law Bs m (ls ++ [(out, L)]) pos' T' := by
            refine ⟨by omega, g3, by rw [rl]; exact g4, g9, by omega, by omega, by rw [rl]; omega, ?_⟩
            intro j l hjl
            have hj : j < (ls ++ [(out, L)]).length := (List.getElem?_eq_some_iff.mp hjl).1
            by_cases kj : j < ls.length
            · rw [List.getElem?_append_left kj] at hjl
              obtain ⟨u1, u2, u3, u4⟩ := i8 j l hjl
              rw [beg_ap (by omega), beg_ap (by omega)]
              refine ⟨?_, ?_, ?_, u4⟩
              · rw [g13 _ _ (by omega) (by omega) (by omega) (by omega)]; exact u1
              · rw [g13 _ _ (by omega) (by omega) (by omega) (by omega)]; exact u2
              · rw [g13 _ _ (by omega) (by omega) (by omega) (by omega)]; exact u3
            · have ej : j = ls.length := by omega
              rw [List.getElem?_append_right (by omega), ej, Nat.sub_self] at hjl
              have el : (out, L) = l := Option.some.inj hjl
              rw [← el, ej]
              refine ⟨g10, ?_, ?_, o1, o2, g5, g6⟩
              · rw [beg_ap (Nat.le_refl _), ← beg_len]; exact g11
              · have : begL (offL law) (ls ++ [(out, L)]) (ls.length + 1) = (refL (offL law) (lnsC ls ++ L)).length := by rw [← ll, ← beg_len, rl]
                rw [this]; exact g12
          have ex : r_M_readText_L21 (f + 1) (nI ls.length) T = r_M_readText_L21 f (nI (ls ++ [(out, L)]).length) T' := by
            rw [ll]
            simp only [r_M_readText_L21, bb, if_neg n10, if_neg e12, e60, g1, Option.bind_some, if_neg (show ¬ (0 : Int32) = -1 by decide), lt_k, nI_1]
          rw [ex]
          rw [← lns_1, ← ll] at g2
          rcases ih (ls ++ [(out, L)]) c' out pos' T' (by omega) hI' with w | w
          · obtain ⟨n2, c2, o2, ls2, p2, T2, w1, w2, w3, w4, w5⟩ := w
            exact Or.inl ⟨n + n2, c2, o2, ls2, p2, T2, w1, g2.tr w2, w3, w4, (g13.t (by omega)).tr w5⟩
          · obtain ⟨n2, A2, p2, fl, w1, w2, w3, w4, T2, w5, w6, w7, w8⟩ := w
            exact Or.inr ⟨n + n2, A2, p2, fl, g2.tr w1, w2, w3, w4, T2, w5, w6, w7, (g13.t (by omega)).tr w8⟩
        · obtain ⟨n, A', pos', fl, g1, g2, g3, g4, T', z1, z2, z3, z4⟩ := g
          right
          refine ⟨n, A', pos', fl, g1, g2, g3, g4, T', ?_, z2, z3, z4.t (by omega)⟩
          simp only [r_M_readText_L21, bb, if_neg n10, if_neg e12, e60, z1, Option.bind_some, if_pos, txtX]
    · have bb := b2 kB
      have en := end_M i2
      by_cases k14 : tkT Bs m law pos = 14
      · left
        refine ⟨0, c, o, ls, pos, T, ?_, ⟨rfl, rfl⟩, k14, hI, fun _ _ _ _ _ _ => rfl⟩
        simp only [r_M_readText_L21, bb, if_pos, Option.bind_some, txtX, if_pos (en.mpr k14)]
      · obtain ⟨T3, x1, x2, x3, x4⟩ := fails_M (x := 1) i2
        right
        refine ⟨0, _, pos, 1, ⟨rfl, rfl⟩, ⟨okA, fun z => k14 z.1, ?_⟩, by omega, by omega, T3, ?_, x2, x3, fun b k q1 q2 q3 q4 => x4 b k (by omega)⟩
        · show (if isBg law (tkT Bs m law pos) then (if ls.length < 12 then Sum.inr _ else Sum.inl 3) else Sum.inl 1) = _
          rw [if_neg kB]
        · simp only [r_M_readText_L21, bb, if_pos, Option.bind_some, txtX, if_neg (fun z => k14 (en.mp z)), x1]
/-- the reference reads a text as the class does -/
theorem readText_M {law : Bool} {Bs : Nat → Nat} {m : Nat} {T : Sto} (c o : Nat) (hT : byM Bs m T) (hW : gWor T) (h39 : T 104 39 = b2i (!law)) : goodT law Bs m (0, c, 0, o, 0, 0, [], []) 0 T (r_M_readText T) ∨ badT law Bs m (0, c, 0, o, 0, 0, [], []) 0 T (r_M_readText T) := by
  have hm := hT.1
  generalize hV : sw (sw (sw T 104 28 0) 104 40 0) 104 41 0 = V
  have fV : ∀ b k, ¬ (b = 104 ∧ (k = 28 ∨ k = 40 ∨ k = 41)) → V b k = T b k := fun b k g => by rw [← hV, rd_ne (by omega), rd_ne (by omega), rd_ne (by omega)]
  have v28 : V 104 28 = nI 0 := by rw [← hV, rd_ne (by omega), rd_ne (by omega), sw_same]; rfl
  have v40 : V 104 40 = 0 := by rw [← hV, rd_ne (by omega), sw_same]
  have v41 : V 104 41 = 0 := by rw [← hV, sw_same]
  have bV : byM Bs m V := hT.go (fun b k q => fV b k (by omega))
  have wV : gWor V := fun i hi => by rw [fV _ _ (by omega)]; exact hW i hi
  obtain ⟨T1, t1, t2, t3, t4, t5, t6⟩ := reads_M bV wV (Nat.zero_le m) v28
  have fr : frY T T1 := fun b k q1 q2 q3 q4 => by rw [t2 b k (by omega), fV b k (by omega)]
  have hI : txI law Bs m [] 0 T1 := by
    refine ⟨Nat.zero_le _, ⟨t2.by bV, fun i hi => by rw [t2 _ _ (by omega)]; exact wV i hi, t3, t4, t5, t6, Nat.zero_le _, by rw [t2 _ _ (by omega), fV _ _ (by omega)]; exact h39⟩, ⟨?_, Nat.zero_le _, fun i q hq => by cases hq⟩, ?_, by decide, Nat.le_refl _, Nat.le_refl _, fun j l h => by cases h⟩
    · rw [t2 _ _ (by omega)]; exact v40
    · rw [t2 _ _ (by omega)]; exact v41
  have ex : r_M_readText T = txtX (r_M_readText_L21 fu (nI 0) T1) := by
    unfold r_M_readText
    simp only [ltS_k, hV, t1, Option.bind_some]
    rw [show nI 0 = (0 : Int32) from rfl]
    generalize r_M_readText_L21 fu 0 T1 = x
    rcases x with _ | (x | x) <;> rfl
  rw [ex]
  rcases text_L (law := law) hm fu [] c o 0 T1 (by decide) hI with w | w
  · obtain ⟨n2, c2, o2, ls2, p2, T2, w1, w2, w3, w4, w5⟩ := w
    exact Or.inl ⟨n2, c2, o2, ls2, p2, T2, w1, w2, w3, w4, fr.tr w5⟩
  · obtain ⟨n2, A2, p2, fl, w1, w2, w3, w4, T2, w5, w6, w7, w8⟩ := w
    exact Or.inr ⟨n2, A2, p2, fl, w1, w2, w3, w4, T2, w5, w6, w7, fr.tr w8⟩
