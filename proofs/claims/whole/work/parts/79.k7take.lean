/-- there is room for one token more -/
def rmA (op br : Nat) (W : List Nat) (C : Cod) : Prop := op ≤ 8 ∧ br ≤ 8 ∧ c3 W ≤ op ∧ C.length + W.length < 400 ∧ W.length < 39
theorem tkp {tok c : Nat} (h3 : tok < 64) (hc : c < 64) {x : Int32} (hx : x = nI c) : (nI tok = x) ↔ tok = c := by subst hx; exact nI_eq (by omega) (by omega)
theorem joint_B {tok st cmp ln out op br : Nat} {W : List Nat} {C : Cod} {S : Sto} (hR : RB S (st, cmp, ln, out, op, br, W, C)) (h6 : S 29 6 = nI tok) (ht : tok < 64) (hm : rmA op br W C) (ho : out < 131072) (hL : ∀ (op : Nat) (C : Cod), (relP 1 W op C).2.2.length + (relP 1 W op C).1.length = C.length + W.length) (h1 : 1 ≤ (relP 1 W op C).2.1 ∨ br = 0) : okT S (r_Rd_takeJoint S) (jointA tok cmp ln out op br W C) := by
  obtain ⟨r9, r10, r11, r12, r13, r14, hW, hC⟩ := hR
  obtain ⟨m1, m2, m3, m4, m5⟩ := hm
  have k1' := tkp ht (show 1 < 64 by decide) (x := 1) rfl
  have k2' := tkp ht (show 2 < 64 by decide) (x := 2) rfl
  have k41' := tkp ht (show 41 < 64 by decide) (x := 41) rfl
  have k59' := tkp ht (show 59 < 64 by decide) (x := 59) rfl
  unfold jointA
  by_cases k : tok = 1 ∨ tok = 2
  · rw [if_pos k]
    obtain ⟨rk, rl⟩ := rnk_B tok ht
    obtain ⟨S', q1, q2, q3, q4, q5, q6⟩ := relh_B (r := rnk tok) rl ht h6 hW hC r13 m3 (by omega) (by omega) (by omega) 3
    refine ⟨S', ?_, ⟨q5, ?_, ?_, ?_, q4, ?_, q2, q3⟩, fun a k g1 g2 g3 => q6 a k (by omega) g2 g3⟩
    · have q1' := q1
      rw [← rk] at q1'
      rcases k with e | e
      · simp only [r_Rd_takeJoint, h6, if_pos (k1'.mpr e), jn, q1']
      · have n1 : ¬ nI tok = 1 := fun z => by have := k1'.mp z; omega
        simp only [r_Rd_takeJoint, h6, if_neg n1, if_pos (k2'.mpr e), jn, q1']
    · rw [q6 _ _ (by omega) (by omega) (by omega)]; exact r10
    · rw [q6 _ _ (by omega) (by omega) (by omega)]; exact r11
    · rw [q6 _ _ (by omega) (by omega) (by omega)]; exact r12
    · rw [q6 _ _ (by omega) (by omega) (by omega)]; exact r14
  · rw [if_neg k]
    have n1 : ¬ nI tok = 1 := fun z => k (Or.inl (k1'.mp z))
    have n2 : ¬ nI tok = 2 := fun z => k (Or.inr (k2'.mp z))
    have rk1 : r_Rd_rank 1 = nI 1 := rfl
    obtain ⟨X, q1, q2, q3, q4, q5⟩ := release_B (r := 1) (by omega) hW hC r13 m3 (by omega) (by omega)
    have hlen := hL op C
    by_cases k41 : tok = 41
    · have z41 := k41'.mpr k41
      by_cases kb : 0 < br
      · rw [if_pos ⟨k41, kb⟩]
        have zb : ¬ nI br ≤ 0 := nI_nle kb (by omega)
        have x14 : X 29 14 = nI br := by rw [q5 _ _ (by omega) (by omega) (by omega)]; exact r14
        have e14 : nI br - 1 = nI (br - 1) := pk_sub (b := 1) kb
        have op1 : 1 ≤ (relP 1 W op C).2.1 := by rcases h1 with h | h <;> omega
        have e13 : nI (relP 1 W op C).2.1 - 1 = nI ((relP 1 W op C).2.1 - 1) := pk_sub (b := 1) op1
        generalize hV : sw (sw X 29 14 (nI (br - 1))) 29 13 (nI ((relP 1 W op C).2.1 - 1)) = V
        have vf : ∀ a k, ¬ (a = 29 ∧ (k = 13 ∨ k = 14)) → V a k = X a k := fun a k g => by rw [← hV, rd_ne (by omega), rd_ne (by omega)]
        have v14 : V 29 14 = nI (br - 1) := by rw [← hV, rd_ne (by omega), sw_same]
        have v13 : V 29 13 = nI ((relP 1 W op C).2.1 - 1) := by rw [← hV, sw_same]
        have dr : ∃ Y, r_Rd_dropBracket X = some Y ∧ wtB (relP 1 W op C).1.tail Y ∧ ∀ a k, ¬ (a = 29 ∧ k = 16) → Y a k = V a k := by
          obtain ⟨w1, w2, w3, w4⟩ := id q2
          have v16 : V 29 16 = nI (relP 1 W op C).1.length := by rw [vf _ _ (by omega)]; exact w1
          have hd : r_Rd_dropBracket X = if V 29 16 ≤ 0 then some V else some (sw V 29 16 (V 29 16 - 1)) := by
            rw [vf 29 16 (by omega)]
            simp (disch := omega) only [r_Rd_dropBracket, ltS_k, x14, e14, rd_ne, q4, e13, hV]
          rw [hd, v16]
          cases hWl : (relP 1 W op C).1 with
          | nil =>
            rw [if_pos (by rw [show ([] : List Nat).length = 0 from rfl]; decide)]
            exact ⟨V, rfl, ⟨by rw [v16, hWl]; rfl, by simp, trivial, fun a ha => by simp at ha⟩, fun _ _ _ => rfl⟩
          | cons a r =>
            rw [hWl] at w2 w3 w4
            rw [List.length_cons] at w2
            rw [List.length_cons, if_neg (nI_nle (by omega) (by omega)), nI_pred]
            exact ⟨_, rfl, ⟨sw_same, by simp; omega, stkN_cong r (fun j _ => by rw [rd_ne (by omega), vf _ _ (by omega)]) w3.2, fun b hb => w4 b (List.mem_cons_of_mem _ hb)⟩, fun b j g => rd_ne g⟩
        obtain ⟨Y, d1, d2, d3⟩ := dr
        refine ⟨sw Y 29 9 7, ?_, RB.fld d2 (q3.go (fun a k q => by rw [d3 a k (by omega), vf a k (by omega)])) (fun a k q => rd_ne (by omega)) sw_same ?_ ?_ ?_ ?_ ?_, fun a k g1 g2 g3 => by rw [rd_ne (by omega), d3 a k (by omega), vf a k (by omega), q5 a k (by omega) g2 g3]⟩
        · simp only [r_Rd_takeJoint, h6, if_neg n1, if_neg n2, if_pos z41, r14, if_neg zb, jn, rk1, q1, Option.bind_some, d1, ltS_k]
        · rw [rd_ne (by omega), d3 _ _ (by omega), vf _ _ (by omega), q5 _ _ (by omega) (by omega) (by omega)]; exact r10
        · rw [rd_ne (by omega), d3 _ _ (by omega), vf _ _ (by omega), q5 _ _ (by omega) (by omega) (by omega)]; exact r11
        · rw [rd_ne (by omega), d3 _ _ (by omega), vf _ _ (by omega), q5 _ _ (by omega) (by omega) (by omega)]; exact r12
        · rw [rd_ne (by omega), d3 _ _ (by omega)]; exact v13
        · rw [rd_ne (by omega), d3 _ _ (by omega)]; exact v14
      · rw [if_neg (fun z => kb z.2), if_neg (fun z => by omega)]
        have zb : nI br ≤ 0 := by rw [show br = 0 by omega]; decide
        have n59 : ¬ nI tok = 59 := fun z => by have := k59'.mp z; omega
        exact ⟨S, by simp only [r_Rd_takeJoint, h6, if_neg n1, if_neg n2, if_pos z41, r14, if_pos zb, if_neg n59, jn]; rfl, frA.rf⟩
    · have n41 : ¬ nI tok = 41 := fun z => k41 (k41'.mp z)
      rw [if_neg (fun z => k41 z.1)]
      by_cases k59 : tok = 59
      · have z59 := k59'.mpr k59
        by_cases kb : br = 0
        · rw [if_pos ⟨k59, kb⟩]
          have zb : nI br = 0 := by rw [kb]; rfl
          have x12 : X 29 12 = nI out := by rw [q5 _ _ (by omega) (by omega) (by omega)]; exact r12
          obtain ⟨Y, e1, e2, e3⟩ := emit_B (s := 59) (v := out) q3 (by omega) (by decide) ho
          have e1' : r_Rd_emit 59 (nI out) X = some Y := e1
          refine ⟨sw Y 29 9 0, ?_, RB.fld (q2.go (fun a k q => e3 a k (by omega) (by omega))) e2 (fun a k q => rd_ne (by omega)) sw_same ?_ ?_ ?_ ?_ ?_, fun a k g1 g2 g3 => by rw [rd_ne (by omega), e3 a k (by omega) g3, q5 a k (by omega) g2 g3]⟩
          · simp only [r_Rd_takeJoint, h6, if_neg n1, if_neg n2, if_neg n41, if_pos z59, r14, if_pos zb, jn, rk1, q1, Option.bind_some, x12, e1', ltS_k]
          · rw [rd_ne (by omega), e3 _ _ (by omega) (by omega), q5 _ _ (by omega) (by omega) (by omega)]; exact r10
          · rw [rd_ne (by omega), e3 _ _ (by omega) (by omega), q5 _ _ (by omega) (by omega) (by omega)]; exact r11
          · rw [rd_ne (by omega), e3 _ _ (by omega) (by omega)]; exact x12
          · rw [rd_ne (by omega), e3 _ _ (by omega) (by omega)]; exact q4
          · rw [rd_ne (by omega), e3 _ _ (by omega) (by omega), q5 _ _ (by omega) (by omega) (by omega)]; exact r14
        · rw [if_neg (fun z => kb z.2)]
          have zb : ¬ nI br = 0 := nI_ne0 (by omega) (by omega)
          exact ⟨S, by simp only [r_Rd_takeJoint, h6, if_neg n1, if_neg n2, if_neg n41, if_pos z59, r14, if_neg zb, jn]; rfl, frA.rf⟩
      · have n59 : ¬ nI tok = 59 := fun z => k59 (k59'.mp z)
        rw [if_neg (fun z => k59 z.1)]
        exact ⟨S, by simp only [r_Rd_takeJoint, h6, if_neg n1, if_neg n2, if_neg n41, if_neg n59, jn]; rfl, frA.rf⟩
theorem sign_B {tok st cmp ln out op br : Nat} {W : List Nat} {C : Cod} {S : Sto} (hR : RB S (st, cmp, ln, out, op, br, W, C)) (h6 : S 29 6 = nI tok) (ht : tok < 64) (hcm : cmp ≤ 1) (hm : rmA op br W C) (ho : out < 131072) (hL : ∀ (op : Nat) (C : Cod), (relP 1 W op C).2.2.length + (relP 1 W op C).1.length = C.length + W.length) (h1 : 1 ≤ (relP 1 W op C).2.1 ∨ br = 0) : okT S (r_Rd_takeSign S) (signA tok cmp ln out op br W C) := by
  have hj := joint_B hR h6 ht hm ho hL h1
  obtain ⟨r9, r10, r11, r12, r13, r14, hW, hC⟩ := hR
  obtain ⟨m1, m2, m3, m4, m5⟩ := hm
  have k47' := tkp ht (show 47 < 64 by decide) (x := 47) rfl
  have k60' := tkp ht (show 60 < 64 by decide) (x := 60) rfl
  have k61' := tkp ht (show 61 < 64 by decide) (x := 61) rfl
  have k62' := tkp ht (show 62 < 64 by decide) (x := 62) rfl
  have k43' := tkp ht (show 43 < 64 by decide) (x := 43) rfl
  have k45' := tkp ht (show 45 < 64 by decide) (x := 45) rfl
  have k42' := tkp ht (show 42 < 64 by decide) (x := 42) rfl
  obtain ⟨rk, rl⟩ := rnk_B tok ht
  unfold signA
  by_cases k47 : tok = 47
  · rw [if_pos k47]
    have rk6 : r_Rd_rank 42 = nI 6 := rfl
    obtain ⟨X, q1, q2, q3, q4, q5⟩ := release_B (r := 6) (by omega) hW hC r13 m3 (by omega) (by omega)
    refine ⟨sw X 29 9 5, ?_, RB.fld q2 q3 (fun a k q => rd_ne (by omega)) sw_same ?_ ?_ ?_ ?_ ?_, fun a k g1 g2 g3 => by rw [rd_ne (by omega), q5 a k (by omega) g2 g3]⟩
    · simp only [r_Rd_takeSign, h6, if_pos (k47'.mpr k47), rk6, q1, Option.bind_some, ltS_k]
    · rw [rd_ne (by omega), q5 _ _ (by omega) (by omega) (by omega)]; exact r10
    · rw [rd_ne (by omega), q5 _ _ (by omega) (by omega) (by omega)]; exact r11
    · rw [rd_ne (by omega), q5 _ _ (by omega) (by omega) (by omega)]; exact r12
    · rw [rd_ne (by omega)]; exact q4
    · rw [rd_ne (by omega), q5 _ _ (by omega) (by omega) (by omega)]; exact r14
  rw [if_neg k47]
  have n47 : ¬ nI tok = 47 := fun z => k47 (k47'.mp z)
  -- release, hold, stand at 4
  have go : ∀ (c' : Nat) (V : Sto), V 29 10 = nI c' → (∀ a k, ¬ (a = 29 ∧ k = 10) → V a k = S a k) → ∃ S', (r_Rd_release (r_Rd_rank (V 29 6)) V).bind (fun S3 => (r_Rd_hold (S3 29 6) S3).bind (fun S4 => ltS (sw S4 29 9 4) (fun S5 => some ((0 : Int32), S5)))) = some (0, S') ∧ RB S' (4, c', ln, out, (relP (rnk tok) W op C).2.1, br, tok :: (relP (rnk tok) W op C).1, (relP (rnk tok) W op C).2.2) ∧ frA S S' := by
    intro c' V v10 vf
    have v6 : V 29 6 = nI tok := by rw [vf _ _ (by omega)]; exact h6
    obtain ⟨S', q1, q2, q3, q4, q5, q6⟩ := relh_B (S := V) (r := rnk tok) rl ht v6 (hW.go (fun a k q => vf a k (by omega))) (hC.go (fun a k q => vf a k (by omega))) (by rw [vf _ _ (by omega)]; exact r13) m3 (by omega) (by omega) (by omega) 4
    refine ⟨S', by rw [v6, rk]; exact q1, ⟨q5, ?_, ?_, ?_, q4, ?_, q2, q3⟩, fun a k g1 g2 g3 => by rw [q6 a k (by omega) g2 g3, vf a k (by omega)]⟩
    · rw [q6 _ _ (by omega) (by omega) (by omega)]; exact v10
    · rw [q6 _ _ (by omega) (by omega) (by omega), vf _ _ (by omega)]; exact r11
    · rw [q6 _ _ (by omega) (by omega) (by omega), vf _ _ (by omega)]; exact r12
    · rw [q6 _ _ (by omega) (by omega) (by omega), vf _ _ (by omega)]; exact r14
  obtain ⟨S1, g1, g2, g3⟩ := go cmp S r10 (fun _ _ _ => rfl)
  have g1' := g1
  rw [h6] at g1'
  have n10 : ¬ (1 : Int32) = 0 := by decide
  by_cases kc : tok = 60 ∨ tok = 61 ∨ tok = 62
  · by_cases k0 : cmp = 0
    · rw [if_pos ⟨kc, k0⟩]
      have z0 : nI cmp = 0 := by rw [k0]; rfl
      obtain ⟨S2, p1, p2, p3⟩ := go 1 (sw S 29 10 1) (by rw [sw_same]; rfl) (fun a k g => rd_ne g)
      refine ⟨S2, ?_, p2, p3⟩
      simp only [ltS_k] at p1
      rcases kc with e | e | e
      · simp only [r_Rd_takeSign, h6, if_neg n47, if_pos (k60'.mpr e), r10, if_pos z0, jn_k, jn_c, ltS_k, if_neg n10, p1]
      · have a1 : ¬ nI tok = 60 := fun z => by have := k60'.mp z; omega
        simp only [r_Rd_takeSign, h6, if_neg n47, if_neg a1, if_pos (k61'.mpr e), r10, if_pos z0, jn_k, jn_c, ltS_k, if_neg n10, p1]
      · have a1 : ¬ nI tok = 60 := fun z => by have := k60'.mp z; omega
        have a2 : ¬ nI tok = 61 := fun z => by have := k61'.mp z; omega
        simp only [r_Rd_takeSign, h6, if_neg n47, if_neg a1, if_neg a2, if_pos (k62'.mpr e), r10, if_pos z0, jn_k, jn_c, ltS_k, if_neg n10, p1]
    · rw [if_neg (fun z => k0 z.2), if_neg (by omega), if_neg k0]
      have z0 : ¬ nI cmp = 0 := nI_ne0 (by omega) (by omega)
      have a43 : ¬ nI tok = 43 := fun z => by have := k43'.mp z; omega
      have a45 : ¬ nI tok = 45 := fun z => by have := k45'.mp z; omega
      have a42 : ¬ nI tok = 42 := fun z => by have := k42'.mp z; omega
      have e : r_Rd_takeSign S = (r_Rd_takeJoint S).bind (fun x => some (x.1, x.2)) := by
        rcases kc with e | e | e
        · simp only [r_Rd_takeSign, h6, if_neg n47, if_pos (k60'.mpr e), r10, if_neg z0, jn_k, jn_c, if_neg n10, if_neg a43, if_neg a45, if_neg a42]
        · have a1 : ¬ nI tok = 60 := fun z => by have := k60'.mp z; omega
          simp only [r_Rd_takeSign, h6, if_neg n47, if_neg a1, if_pos (k61'.mpr e), r10, if_neg z0, jn_k, jn_c, if_neg n10, if_neg a43, if_neg a45, if_neg a42]
        · have a1 : ¬ nI tok = 60 := fun z => by have := k60'.mp z; omega
          have a2 : ¬ nI tok = 61 := fun z => by have := k61'.mp z; omega
          simp only [r_Rd_takeSign, h6, if_neg n47, if_neg a1, if_neg a2, if_pos (k62'.mpr e), r10, if_neg z0, jn_k, jn_c, if_neg n10, if_neg a43, if_neg a45, if_neg a42]
      rw [e]
      have e2 : (r_Rd_takeJoint S).bind (fun x => some (x.1, x.2)) = r_Rd_takeJoint S := by cases r_Rd_takeJoint S <;> rfl
      rw [e2]
      exact hj
  · rw [if_neg (fun z => kc z.1)]
    have a60 : ¬ nI tok = 60 := fun z => kc (Or.inl (k60'.mp z))
    have a61 : ¬ nI tok = 61 := fun z => kc (Or.inr (Or.inl (k61'.mp z)))
    have a62 : ¬ nI tok = 62 := fun z => kc (Or.inr (Or.inr (k62'.mp z)))
    by_cases ks : tok = 43 ∨ tok = 45 ∨ tok = 42
    · rw [if_pos ks]
      refine ⟨S1, ?_, g2, g3⟩
      rcases ks with e | e | e
      · simp only [r_Rd_takeSign, h6, if_neg n47, if_neg a60, if_neg a61, if_neg a62, jn_k, ite_true, if_pos (k43'.mpr e), g1']
      · have b1 : ¬ nI tok = 43 := fun z => by have := k43'.mp z; omega
        simp only [r_Rd_takeSign, h6, if_neg n47, if_neg a60, if_neg a61, if_neg a62, jn_k, ite_true, if_neg b1, if_pos (k45'.mpr e), g1']
      · have b1 : ¬ nI tok = 43 := fun z => by have := k43'.mp z; omega
        have b2 : ¬ nI tok = 45 := fun z => by have := k45'.mp z; omega
        simp only [r_Rd_takeSign, h6, if_neg n47, if_neg a60, if_neg a61, if_neg a62, jn_k, ite_true, if_neg b1, if_neg b2, if_pos (k42'.mpr e), g1']
    · rw [if_neg ks]
      have b1 : ¬ nI tok = 43 := fun z => ks (Or.inl (k43'.mp z))
      have b2 : ¬ nI tok = 45 := fun z => ks (Or.inr (Or.inl (k45'.mp z)))
      have b3 : ¬ nI tok = 42 := fun z => ks (Or.inr (Or.inr (k42'.mp z)))
      by_cases k0 : cmp = 0
      · rw [if_pos k0]
        have z0 : nI cmp = 0 := by rw [k0]; rfl
        exact ⟨S, by simp only [r_Rd_takeSign, h6, if_neg n47, if_neg a60, if_neg a61, if_neg a62, jn_k, jn_c, ite_true, if_neg b1, if_neg b2, if_neg b3, r10, if_pos z0]; rfl, frA.rf⟩
      · rw [if_neg k0]
        have z0 : ¬ nI cmp = 0 := nI_ne0 (by omega) (by omega)
        have e : r_Rd_takeSign S = (r_Rd_takeJoint S).bind (fun x => some (x.1, x.2)) := by
          simp only [r_Rd_takeSign, h6, if_neg n47, if_neg a60, if_neg a61, if_neg a62, jn_k, jn_c, ite_true, if_neg b1, if_neg b2, if_neg b3, r10, if_neg z0]
        rw [e]
        have e2 : (r_Rd_takeJoint S).bind (fun x => some (x.1, x.2)) = r_Rd_takeJoint S := by cases r_Rd_takeJoint S <;> rfl
        rw [e2]
        exact hj
