/-- a text is read in one way only -/
theorem Pth.det {law : Bool} {Bs : Nat → Nat} {m : Nat} : ∀ (n k : Nat) (A B D : AS) (p q r : Nat), Pth law Bs m n A p B q → Pth law Bs m k A p D r → (∀ X, takeA law (tkT Bs m law q) (tkN Bs m q) B ≠ .inr X) → (∀ X, takeA law (tkT Bs m law r) (tkN Bs m r) D ≠ .inr X) → B = D ∧ q = r := by
  intro n
  induction n with
  | zero =>
    intro k A B D p q r h g hB hD
    obtain ⟨rfl, rfl⟩ := h
    cases k with
    | zero => exact ⟨g.1, g.2⟩
    | succ k =>
      obtain ⟨g1, A', g2, g3⟩ := g
      exact absurd g2 (hB A')
  | succ n ih =>
    intro k A B D p q r h g hB hD
    obtain ⟨h1, A', h2, h3⟩ := h
    cases k with
    | zero =>
      obtain ⟨rfl, rfl⟩ := g
      exact absurd h2 (hD A')
    | succ k =>
      obtain ⟨g1, A2, g2, g3⟩ := g
      rw [h2] at g2
      have e : A' = A2 := Sum.inr.inj g2
      subst e
      exact ih k A' B D _ q r h3 g3 hB hD
theorem end_no {law : Bool} {Bs : Nat → Nat} {m q : Nat} {B : AS} (h : tkT Bs m law q = 14) (X : AS) : takeA law (tkT Bs m law q) (tkN Bs m q) B ≠ .inr X := by
  rw [h]
  exact take_14
theorem flt_no {law : Bool} {Bs : Nat → Nat} {m q f : Nat} {B : AS} (h : Flt law Bs m B q f) (X : AS) : takeA law (tkT Bs m law q) (tkN Bs m q) B ≠ .inr X := by
  rw [h.2.2]
  intro z
  cases z
/-- text: class and reference answer alike, and what they hold stays alike -/
theorem st_text {nL : Nat} {S : Sto} (h : Iv nL S) (hn : nL < 10000) (h146 : 146 ≤ nL) (x1 : Int32) : ∃ (r : Int32) (S1 S2 : Sto) (b : Bool), r_B_text x1 nL S = some (r, S1, b) ∧ r_M_text x1 S1 = some (r, S2) ∧ Iv (if b = true then nL + 1 else nL) S2 := by
  obtain ⟨h1, h2, h3, h4, h5, h6, h7, h8, h9, h10, h11, h12, h13, h14⟩ := id h
  by_cases hw : r_B_within x1 0 4 = 0
  · have n4 : ¬ x1 = 4 := fun z => by rw [z] at hw; exact absurd hw (by decide)
    have i0 : r_M_isIn x1 0 4 = 0 := iM_p hw
    refine ⟨-1, sw (sw (sw S 29 1 0) 29 2 0) 29 3 (-1), sw (sw (sw (sw (sw (sw (sw (sw S 29 1 0) 29 2 0) 29 3 (-1)) 104 0 0) 104 46 0) 104 47 (-1)) 104 39 0) 104 27 0, false, ?_, ?_, ?_⟩
    · unfold r_B_text r_Rd_drop
      rw [if_pos hw]
      simp only [ltS_k, Option.bind_some]
    · simp only [r_M_text, ltS_k, lt_k, if_neg n4, jn_k, chk_t (show b01 0 = true by decide), i0, if_pos]
    · rw [if_neg (by decide)]
      refine h.tx ?_ ⟨0, Nat.zero_le _, ?_, ?_, fun i hi => absurd hi (Nat.not_lt_zero _)⟩ ⟨?_, ?_⟩ (h14.keep ?_)
      · exact (((((((Ag.rf.sw (by decide)).sw (by decide)).sw (by decide)).sw (by decide)).sw (by decide)).sw (by decide)).sw (by decide)).sw (by decide)
      · simp (disch := omega) only [rd_ne, sw_same]; rfl
      · simp (disch := omega) only [rd_ne, sw_same]; rfl
      · simp (disch := omega) only [rd_ne, sw_same]
      · simp (disch := omega) only [rd_ne, sw_same]
      · exact (((((((Ag.rf.sw (by decide)).sw (by decide)).sw (by decide)).sw (by decide)).sw (by decide)).sw (by decide)).sw (by decide)).sw (by decide)
  · obtain ⟨k, hk5, rfl⟩ := law_5 hw
    obtain ⟨law, hk⟩ : ∃ law : Bool, (k = 4 ∧ law = false) ∨ (k < 4 ∧ law = true) := by
      by_cases e : k = 4
      · exact ⟨false, Or.inl ⟨e, rfl⟩⟩
      · exact ⟨true, Or.inr ⟨by omega, rfl⟩⟩
    have hs := scA_v hk5
    have eo : (if k = 4 then 6 else 0) = offL law := by
      rcases hk with ⟨rfl, rfl⟩ | ⟨q, rfl⟩
      · rfl
      · rw [if_neg (by omega)]; rfl
    obtain ⟨Bs, m, bB, bM⟩ := byt_B h5
    have hm := bM.1
    -- what the reference's read comes to, from a store that is S where the reference looks
    have key : ∀ S1 : Sto, (∀ a j, 104 ≤ a → a < 146 → S1 a j = S a j) → goodT law Bs m (0, 0, 0, 0, 0, 0, [], []) 0 (preT law S1) (r_M_readText (preT law S1)) ∨ badT law Bs m (0, 0, 0, 0, 0, 0, [], []) 0 (preT law S1) (r_M_readText (preT law S1)) := by
      intro S1 hS1
      refine readText_M 0 0 (bM.go (fun a j q => by rw [preT_n (by omega), hS1 _ _ (by omega) (by omega)])) (fun i hi => by rw [preT_n (by omega), hS1 _ _ (by omega) (by omega)]; exact h13 i hi) ?_
      unfold preT
      rw [sw_same]
    have keepL : ∀ (n2 : Nat) (S2 : Sto) (k' : Nat), k' < 5 → nL ≤ n2 → S2 (scA k') 0 = S (scA k') 0 → (∀ c i, (146 ≤ c ∨ c = scA k' + 1) → c < nL → S2 c i = S c i) → S2 120 k' = S 120 k' → (∀ a j, (a = 121 ∨ a = 122 ∨ a = 123) → j < 12 → S2 a (12 * k' + j) = S a (12 * k' + j)) → (∀ a j, (a = 124 ∨ a = 125) → j < 400 → S2 a (400 * k' + j) = S a (400 * k' + j)) → ∃ ls, Scr n2 k' S2 ls := by
      intro n2 S2 k' hk' hn2 e1 e2 e3 e4 e5
      obtain ⟨ls, hls⟩ := h14 k' hk'
      exact ⟨ls, hls.keep2 hn2 e1 e2 e3 e4 e5⟩
    have e0 : eqA (0, 0, 0, 0, 0, 0, [], []) (0, 0, 0, 0, 0, 0, [], []) := eqA.rf _
    rcases key S (fun _ _ _ _ => rfl) with g | g
    · obtain ⟨n, c, o, ls, pos, T, -, g2, g3, g4, -⟩ := g
      have hp : ∀ c o, ∃ n cmp out op br W q, Pth law Bs m n (0, c, 0, o, 0, 0, [], []) 0 (0, cmp, ls.length, out, op, br, W, lnsC ls) q ∧ n ≤ 400 ∧ tkT Bs m law q = 14 := by
        intro c o
        obtain ⟨B, b1, b2⟩ := eq_Pth n (0, 0, 0, 0, 0, 0, [], []) (0, c, 0, o, 0, 0, [], []) _ 0 pos ⟨rfl, rfl, rfl, rfl, rfl, rfl, fun z => by omega, fun z => by omega⟩ g2
        obtain ⟨st, cmp, ln, out, op, br, W, C⟩ := B
        obtain ⟨rfl, rfl, rfl, rfl, rfl, rfl, -, -⟩ := b2
        have le := b1.le hm (Nat.zero_le _)
        exact ⟨n, cmp, out, _, _, _, pos, b1, by omega, g3⟩
      obtain ⟨S1, s1, s2, s3, s4, s5, s6, s7, s8⟩ := readB_good (a2 := scA k) (nL := nL) bB hp g4.2.2.2.2.1 (by omega) (by omega) h146
      rcases key S1 (fun a j q1 q2 => s8 a j (by omega) (by omega) (by omega) (by omega) (by omega)) with w | w
      · obtain ⟨n', c', o', ls', pos', T', w1, w2, w3, w4, w5⟩ := w
        have dt := (Pth.det _ _ _ _ _ _ _ _ g2 w2 (end_no g3) (end_no w3)).1
        have hll : ls.length = ls'.length := congrArg (fun A : AS => A.2.2.1) dt
        have hlc : lnsC ls = lnsC ls' := congrArg (fun A : AS => A.2.2.2.2.2.2.2) dt
        rw [hlc] at s3 s4
        obtain ⟨i1, i2, i3, i4, i5, i6, i7, i8⟩ := w4
        obtain ⟨S2, e1, e2, e3, e4, e5, e6⟩ := rM_good hk i1 i3.2.1 w1 i3.1
        have fr1 : ∀ a j, ¬ (a = 104 ∧ (j = 0 ∨ (27 ≤ j ∧ j ≤ 31) ∨ (39 ≤ j ∧ j ≤ 47))) → ¬ ((a = 121 ∨ a = 122 ∨ a = 123) ∧ (60 ≤ j ∨ (12 * k ≤ j ∧ j < 12 * k + 12))) → ¬ ((a = 124 ∨ a = 125) ∧ (2000 ≤ j ∨ (400 * k ≤ j ∧ j < 400 * k + 400))) → ¬ a = 126 → ¬ (a = 120 ∧ j = k) → S2 a j = S1 a j := by
          intro a j q1 q2 q3 q4 q5
          have := i3.2.1
          rw [e6 a j (by omega) (by omega) (by omega) q5, w5 a j (by omega) (by omega) q4 (by omega), preT_n (by omega)]
        have frS : ∀ a j, ¬ a = 29 → ¬ a = 31 → ¬ a = 32 → ¬ a = nL → ¬ (a = scA k ∧ j = 0) → ¬ (a = 104 ∧ (j = 0 ∨ (27 ≤ j ∧ j ≤ 31) ∨ (39 ≤ j ∧ j ≤ 47))) → ¬ ((a = 121 ∨ a = 122 ∨ a = 123) ∧ (60 ≤ j ∨ (12 * k ≤ j ∧ j < 12 * k + 12))) → ¬ ((a = 124 ∨ a = 125) ∧ (2000 ≤ j ∨ (400 * k ≤ j ∧ j < 400 * k + 400))) → ¬ a = 126 → ¬ (a = 120 ∧ j = k) → S2 a j = S a j := by
          intro a j p1 p2 p3 p4 p5 q1 q2 q3 q4 q5
          rw [fr1 a j q1 q2 q3 q4 q5, s8 a j p1 p2 p3 p4 p5]
        refine ⟨nI ls.length, S1, S2, true, by rw [rB_text hk]; exact s1, by rw [hll]; exact e1, ?_⟩
        rw [if_pos rfl]
        refine h.tx ?_ ⟨0, Nat.zero_le _, ?_, e5, fun i hi => absurd hi (Nat.not_lt_zero _)⟩ ⟨?_, ?_⟩ ?_
        · intro a j ho
          unfold oM at ho
          rw [decide_eq_true_eq] at ho
          obtain ⟨o1, o2, o3, o4⟩ := ho
          exact frS a j (by omega) (by omega) (by omega) (by omega) (by omega) (fun z => by have := o4 z.1; omega) (by omega) (by omega) (by omega) (by omega)
        · rw [fr1 29 1 (by omega) (by omega) (by omega) (by omega) (by omega)]; exact s5
        · rw [fr1 29 2 (by omega) (by omega) (by omega) (by omega) (by omega), s6, e6 _ _ (by omega) (by omega) (by omega) (by omega), w5 _ _ (by omega) (by omega) (by omega) (by omega)]
          unfold preT
          rw [rd_ne (by omega), rd_ne (by omega), sw_same]
        · rw [fr1 29 3 (by omega) (by omega) (by omega) (by omega) (by omega), s7, e6 _ _ (by omega) (by omega) (by omega) (by omega), w5 _ _ (by omega) (by omega) (by omega) (by omega)]
          unfold preT
          rw [rd_ne (by omega), sw_same]
        · intro k' hk'
          have hs' := scA_v hk'
          by_cases ek : k' = k
          · subst ek
            refine ⟨ls', ?_⟩
            unfold Scr
            rw [fr1 (scA k') 0 (by omega) (by omega) (by omega) (by omega) (by omega), s2, q_tnI (show nL < 2147483648 by omega), eo]
            refine ⟨Or.inl h146, by omega, ?_, i5, fun i q hq => ?_, i1, e4, ?_, fun j l hjl => ?_⟩
            · rw [fr1 nL 400 (by omega) (by omega) (by omega) (by omega) (by omega)]; exact s3
            · rw [fr1 nL i (by omega) (by omega) (by omega) (by omega) (by omega)]; exact s4 i q hq
            · rw [← beg_len]; exact i3.2.1
            · obtain ⟨u1, u2, u3, u4, u5, u6, u7⟩ := i8 j l hjl
              have hj : j < ls'.length := (List.getElem?_eq_some_iff.mp hjl).1
              have es : srt (if law = true then 0 else 4) l.1 = srt k' l.1 := by
                rcases hk with ⟨rfl, rfl⟩ | ⟨q, rfl⟩
                · rfl
                · unfold srt
                  rw [if_pos rfl, if_neg (by decide), if_neg (show ¬ k' = 4 by omega)]
              have hf : k' = 4 → law = false := fun z => by
                rcases hk with ⟨-, q⟩ | ⟨q, -⟩
                · exact q
                · omega
              refine ⟨?_, ?_, ?_, u4, fun z => u5 (hf z), u6, fun z => u7 (hf z), fun i q hq => ?_⟩
              · rw [e2 121 j (by omega) hj, u1, es]
              · rw [e2 122 j (by omega) hj, u2]
              · rw [e2 123 j (by omega) hj, u3]
              · have hi := (List.getElem?_eq_some_iff.mp hq).1
                have ix := beg_ix ls' j i l hjl hi
                rw [hq] at ix
                have il := (List.getElem?_eq_some_iff.mp ix).1
                obtain ⟨v1, v2⟩ := i3.2.2 _ _ ix
                rw [Nat.add_assoc, e3 124 _ (by omega) il, e3 125 _ (by omega) il]
                exact ⟨v1, v2⟩
          · refine keepL (nL + 1) S2 k' hk' (by omega) ?_ ?_ ?_ ?_ ?_
            · exact frS _ _ (by omega) (by omega) (by omega) (by omega) (by omega) (by omega) (by omega) (by omega) (by omega) (by omega)
            · intro c i q1 q2
              exact frS _ _ (by omega) (by omega) (by omega) (by omega) (by omega) (by omega) (by omega) (by omega) (by omega) (by omega)
            · exact frS _ _ (by omega) (by omega) (by omega) (by omega) (by omega) (by omega) (by omega) (by omega) (by omega) (by omega)
            · intro a j q1 q2
              exact frS _ _ (by omega) (by omega) (by omega) (by omega) (by omega) (by omega) (by omega) (by omega) (by omega) (by omega)
            · intro a j q1 q2
              exact frS _ _ (by omega) (by omega) (by omega) (by omega) (by omega) (by omega) (by omega) (by omega) (by omega) (by omega)
      · obtain ⟨n', A', pos', fl, w1, w2, -⟩ := w
        exfalso
        obtain ⟨d1, d2⟩ := Pth.det _ _ _ _ _ _ _ _ g2 w1 (end_no g3) (flt_no w2)
        subst d1 d2
        exact w2.2.1 ⟨g3, rfl⟩
    · obtain ⟨n, A, pos, fl, g1, g2, g3, g4, -⟩ := g
      have hp : ∀ c o, ∃ n A q, Pth law Bs m n (0, c, 0, o, 0, 0, [], []) 0 A q ∧ n ≤ 400 ∧ Flt law Bs m A q fl ∧ tkP Bs m q = tkP Bs m pos := by
        intro c o
        obtain ⟨B, b1, b2⟩ := eq_Pth n (0, 0, 0, 0, 0, 0, [], []) (0, c, 0, o, 0, 0, [], []) _ 0 pos ⟨rfl, rfl, rfl, rfl, rfl, rfl, fun z => by omega, fun z => by omega⟩ g1
        have le := b1.le hm (Nat.zero_le _)
        exact ⟨n, B, pos, b1, by omega, eq_Flt b2 g2, rfl⟩
      obtain ⟨S1, s1, s2, s3, s4, s5⟩ := readB_flt (a2 := scA k) (nL := nL) bB g3 g4 hp
      rcases key S1 (fun a j q1 q2 => s5 a j (by omega) (by omega) (by omega)) with w | w
      · obtain ⟨n', c', o', ls', pos', T', w1, w2, w3, w4, w5⟩ := w
        exfalso
        obtain ⟨d1, d2⟩ := Pth.det _ _ _ _ _ _ _ _ g1 w2 (flt_no g2) (end_no w3)
        subst d1 d2
        exact g2.2.1 ⟨w3, rfl⟩
      · obtain ⟨n', A', pos', fl', w1, w2, w3, w4, T', z1, z2, z3, z4⟩ := w
        obtain ⟨d1, d2⟩ := Pth.det _ _ _ _ _ _ _ _ g1 w1 (flt_no g2) (flt_no w2)
        subst d1 d2
        have ef : fl = fl' := Sum.inl.inj (g2.2.2.symm.trans w2.2.2)
        subst ef
        have rm := rM_bad hk z1
        generalize hS2 : sw (sw (sw T' 104 27 0) 104 46 (T' 104 44)) 104 47 (T' 104 45) = S2 at rm
        have fr1 : ∀ a j, ¬ (a = 104 ∧ (j = 0 ∨ (27 ≤ j ∧ j ≤ 31) ∨ (39 ≤ j ∧ j ≤ 47))) → ¬ ((a = 121 ∨ a = 122 ∨ a = 123) ∧ 60 ≤ j) → ¬ ((a = 124 ∨ a = 125) ∧ 2000 ≤ j) → ¬ a = 126 → S2 a j = S1 a j := by
          intro a j q1 q2 q3 q4
          rw [← hS2, rd_ne (by omega), rd_ne (by omega), rd_ne (by omega), z4 a j (by omega) q3 q4 q2, preT_n (by omega)]
        have frS : ∀ a j, ¬ a = 29 → ¬ a = 31 → ¬ a = 32 → ¬ (a = 104 ∧ (j = 0 ∨ (27 ≤ j ∧ j ≤ 31) ∨ (39 ≤ j ∧ j ≤ 47))) → ¬ ((a = 121 ∨ a = 122 ∨ a = 123) ∧ 60 ≤ j) → ¬ ((a = 124 ∨ a = 125) ∧ 2000 ≤ j) → ¬ a = 126 → S2 a j = S a j := by
          intro a j p1 p2 p3 q1 q2 q3 q4
          rw [fr1 a j q1 q2 q3 q4, s5 a j p1 p2 p3]
        refine ⟨-1, S1, S2, false, by rw [rB_text hk]; exact s1, rm, ?_⟩
        rw [if_neg (by decide)]
        refine h.tx ?_ ⟨0, Nat.zero_le _, ?_, ?_, fun i hi => absurd hi (Nat.not_lt_zero _)⟩ ⟨?_, ?_⟩ ?_
        · intro a j ho
          unfold oM at ho
          rw [decide_eq_true_eq] at ho
          obtain ⟨o1, o2, o3, o4⟩ := ho
          exact frS a j (by omega) (by omega) (by omega) (fun z => by have := o4 z.1; omega) (by omega) (by omega) (by omega)
        · rw [fr1 29 1 (by omega) (by omega) (by omega) (by omega)]; exact s2
        · rw [← hS2, rd_ne (by omega), rd_ne (by omega), sw_same]; rfl
        · rw [fr1 29 2 (by omega) (by omega) (by omega) (by omega), s3, ← hS2, rd_ne (by omega), sw_same]; exact z2
        · rw [fr1 29 3 (by omega) (by omega) (by omega) (by omega), s4, ← hS2, sw_same]; exact z3
        · intro k' hk'
          have hs' := scA_v hk'
          refine keepL nL S2 k' hk' (by omega) ?_ ?_ ?_ ?_ ?_
          · exact frS _ _ (by omega) (by omega) (by omega) (by omega) (by omega) (by omega) (by omega)
          · intro c i q1 q2
            exact frS _ _ (by omega) (by omega) (by omega) (by omega) (by omega) (by omega) (by omega)
          · exact frS _ _ (by omega) (by omega) (by omega) (by omega) (by omega) (by omega) (by omega)
          · intro a j q1 q2
            exact frS _ _ (by omega) (by omega) (by omega) (by omega) (by omega) (by omega) (by omega)
          · intro a j q1 q2
            exact frS _ _ (by omega) (by omega) (by omega) (by omega) (by omega) (by omega) (by omega)
