theorem relP_len {r : Nat} : ∀ (W : List Nat) (op : Nat) (C : Cod), (relP r W op C).2.2.length + (relP r W op C).1.length = C.length + W.length := by
  intro W
  induction W with
  | nil => intro op C; rfl
  | cons a W ih =>
    intro op C
    rw [relP]
    split
    · rfl
    · rw [ih, List.length_append, List.length_cons]
      simp
      omega
theorem claim_B {law : Bool} {tok num st cmp ln out op br : Nat} {W : List Nat} {C : Cod} {S : Sto} (hR : RB S (st, cmp, ln, out, op, br, W, C)) (h9 : st = 3) (hT : TB law tok num S) (hm : rmA op br W C) : okT S (r_Rd_takeClaim S) (claimA law tok num ln out op br W C) := by
  obtain ⟨r9, r10, r11, r12, r13, r14, hW, hC⟩ := hR
  obtain ⟨m1, m2, m3, m4, m5⟩ := hm
  obtain ⟨t1, t2, t3, t4⟩ := id hT
  have k40' := tkp t3 (show 40 < 64 by decide) (x := 40) rfl
  have k3' := tkp t3 (show 3 < 64 by decide) (x := 3) rfl
  generalize hV : sw S 29 10 0 = V
  have vf : ∀ a k, ¬ (a = 29 ∧ k = 10) → V a k = S a k := fun a k g => by rw [← hV]; exact rd_ne g
  have v10 : V 29 10 = nI 0 := by rw [← hV, sw_same]; rfl
  have v6 : V 29 6 = nI tok := by rw [vf _ _ (by omega)]; exact t2
  have v13 : V 29 13 = nI op := by rw [vf _ _ (by omega)]; exact r13
  have v14 : V 29 14 = nI br := by rw [vf _ _ (by omega)]; exact r14
  have fV : frA S V := fun a k g1 g2 g3 => vf a k (by omega)
  have hVR : RB V (st, 0, ln, out, op, br, W, C) := RB.fld hW hC (fun a k q => vf a k (by omega)) (by rw [vf _ _ (by omega)]; exact r9) v10 (by rw [vf _ _ (by omega)]; exact r11) (by rw [vf _ _ (by omega)]; exact r12) v13 v14
  unfold claimA
  have body : (tok = 40 ∨ tok = 3) → okT S (if (V 29 13) < 8 then ltS (sw V 29 13 ((V 29 13) + 1)) (fun S2 => jn (fun (S3 : Sto) => (r_Rd_hold (S3 29 6) S3).bind (fun S4 => some (0, S4))) (fun j67 => if (S2 29 6) = 40 then ltS (sw S2 29 14 ((S2 29 14) + 1)) (fun S5 => j67 (S5)) else j67 (S2))) else some (3, V)) (if op < 8 then .inr (3, 0, ln, out, op + 1, (if tok = 40 then br + 1 else br), tok :: W, C) else .inl 3) := by
    intro hk
    by_cases ko : op < 8
    · have z : nI op < 8 := nI_lt (b := 8) ko (by omega)
      rw [if_pos ko, v13, if_pos z]
      have go : ∀ (X : Sto), (∀ a k, ¬ (a = 29 ∧ (k = 13 ∨ k = 14)) → X a k = V a k) → X 29 13 = nI (op + 1) → X 29 14 = nI (if tok = 40 then br + 1 else br) → okT S ((r_Rd_hold (nI tok) X).bind (fun S4 => some (0, S4))) (.inr (3, 0, ln, out, op + 1, (if tok = 40 then br + 1 else br), tok :: W, C)) := by
        intro X xf x13 x14
        have hXW : wtB W X := hW.go (fun a k q => by rw [xf a k (by omega), vf a k (by omega)])
        obtain ⟨Y, y1, y2, y3⟩ := hold_B (a := tok) hXW (by omega) t3
        rw [y1]
        refine ⟨Y, rfl, ⟨?_, ?_, ?_, ?_, ?_, ?_, y2, hC.go (fun a k q => by rw [y3 a k (by omega) (by omega), xf a k (by omega), vf a k (by omega)])⟩, fun a k g1 g2 g3 => by rw [y3 a k (by omega) g2, xf a k (by omega), vf a k (by omega)]⟩
        · rw [y3 _ _ (by omega) (by omega), xf _ _ (by omega), vf _ _ (by omega), r9, h9]
        · rw [y3 _ _ (by omega) (by omega), xf _ _ (by omega)]; exact v10
        · rw [y3 _ _ (by omega) (by omega), xf _ _ (by omega), vf _ _ (by omega)]; exact r11
        · rw [y3 _ _ (by omega) (by omega), xf _ _ (by omega), vf _ _ (by omega)]; exact r12
        · rw [y3 _ _ (by omega) (by omega)]; exact x13
        · rw [y3 _ _ (by omega) (by omega)]; exact x14
      by_cases k40 : tok = 40
      · have z40 := k40'.mpr k40
        simp (disch := omega) only [ltS_k, rd_ne, v6, if_pos z40, v14, jn_k, nI_1]
        exact go (sw (sw V 29 13 (nI (op + 1))) 29 14 (nI (br + 1))) (fun a k g => by rw [rd_ne (by omega), rd_ne (by omega)]) (by rw [rd_ne (by omega), sw_same]) (by rw [sw_same, if_pos k40])
      · have z40 : ¬ nI tok = 40 := fun z => k40 (k40'.mp z)
        simp (disch := omega) only [ltS_k, rd_ne, v6, if_neg z40, jn_k, nI_1]
        exact go (sw V 29 13 (nI (op + 1))) (fun a k g => rd_ne (by omega)) sw_same (by rw [rd_ne (by omega), if_neg k40]; exact v14)
    · have z : ¬ nI op < 8 := nI_nlt (b := 8) (by omega) (by omega)
      rw [if_neg ko, v13, if_neg z]
      exact ⟨V, rfl, fV⟩
  by_cases k : tok = 40 ∨ tok = 3
  · have hb := body k
    rw [if_pos k]
    rcases k with e | e
    · simp only [r_Rd_takeClaim, ltS_k, hV, v6, if_pos (k40'.mpr e), jn]
      simp only [ltS_k, jn, v6] at hb
      exact hb
    · have n40 : ¬ nI tok = 40 := fun z => by have := k40'.mp z; omega
      simp only [r_Rd_takeClaim, ltS_k, hV, v6, if_neg n40, if_pos (k3'.mpr e), jn]
      simp only [ltS_k, jn, v6] at hb
      exact hb
  · rw [if_neg k]
    have n40 : ¬ nI tok = 40 := fun z => k (Or.inl (k40'.mp z))
    have n3 : ¬ nI tok = 3 := fun z => k (Or.inr (k3'.mp z))
    have hu := unit_B hVR (hT.go (fun j hj => vf 29 j (by omega))) (by omega)
    have e1 : r_Rd_takeClaim S = (r_Rd_takeUnit V).bind (fun x => some (x.1, x.2)) := by
      simp only [r_Rd_takeClaim, ltS_k, hV, v6, if_neg n40, if_neg n3, jn_c]
    have e2 : (r_Rd_takeUnit V).bind (fun x => some (x.1, x.2)) = r_Rd_takeUnit V := by cases r_Rd_takeUnit V <;> rfl
    rw [e1, e2]
    cases hx : unitA law tok num 0 ln out op br W C with
    | inl f =>
      rw [hx] at hu
      obtain ⟨S', q1, q2⟩ := hu
      exact ⟨S', q1, fV.tr q2⟩
    | inr A =>
      rw [hx] at hu
      obtain ⟨S', q1, q2, q3⟩ := hu
      exact ⟨S', q1, q2, fV.tr q3⟩
/-- all steps of the reader -/
theorem take_B {law : Bool} {tok num st cmp ln out op br : Nat} {W : List Nat} {C : Cod} {S : Sto} (hR : RB S (st, cmp, ln, out, op, br, W, C)) (hT : TB law tok num S) (hm : rmA op br W C) (hst : st ≤ 7) (hcm : 4 ≤ st → cmp ≤ 1) (hln : ln ≤ 12) (ho : 4 ≤ st → out < 131072) (h1 : 1 ≤ (relP 1 W op C).2.1 ∨ br = 0) : okT S (r_Rd_take S) (takeA law tok num (st, cmp, ln, out, op, br, W, C)) := by
  have hu := unit_B hR hT (show C.length < 400 by have := hm.2.2.2.1; omega)
  obtain ⟨t1, t2, t3, t4⟩ := id hT
  have hj := fun (h4 : 4 ≤ st) => joint_B hR t2 t3 hm (ho h4) (fun op C => relP_len W op C) h1
  have hs := fun (h4 : 4 ≤ st) => sign_B hR t2 t3 (hcm h4) hm (ho h4) (fun op C => relP_len W op C) h1
  obtain ⟨r9, r10, r11, r12, r13, r14, hW, hC⟩ := id hR
  have wr : ∀ (f : Sto → Option (Int32 × Sto)), ((f S).bind (fun x => some (x.1, x.2))) = f S := fun f => by cases f S <;> rfl
  simp only [takeA]
  have q0' : (nI st = 0) ↔ st = 0 := nI_eq (b := 0) (by omega) (by omega)
  have q1' : (nI st = 1) ↔ st = 1 := nI_eq (b := 1) (by omega) (by omega)
  have q2' : (nI st = 2) ↔ st = 2 := nI_eq (b := 2) (by omega) (by omega)
  have q3' : (nI st = 3) ↔ st = 3 := nI_eq (b := 3) (by omega) (by omega)
  have q4' : (nI st = 4) ↔ st = 4 := nI_eq (b := 4) (by omega) (by omega)
  have q5' : (nI st = 5) ↔ st = 5 := nI_eq (b := 5) (by omega) (by omega)
  have q6' : (nI st = 6) ↔ st = 6 := nI_eq (b := 6) (by omega) (by omega)
  have top : r_Rd_take S = if nI st = 0 then r_Rd_takeLine S else if nI st = 1 then r_Rd_takeKind S else if nI st = 2 then r_Rd_takeWhen S else if nI st = 3 then r_Rd_takeClaim S else if nI st = 4 then r_Rd_takeUnit S else if nI st = 5 then r_Rd_takePart S else if nI st = 6 then r_Rd_takeSign S else r_Rd_takeJoint S := by
    rw [← wr r_Rd_takeLine, ← wr r_Rd_takeKind, ← wr r_Rd_takeWhen, ← wr r_Rd_takeClaim, ← wr r_Rd_takeUnit, ← wr r_Rd_takePart, ← wr r_Rd_takeSign, ← wr r_Rd_takeJoint]
    simp only [r_Rd_take, r9]
  rw [top]
  have wi : ∀ lo hi : Nat, lo ≤ 100 → hi ≤ 100 → (r_B_within (nI tok) (nI lo) (nI hi) = 0 ↔ ¬ (lo ≤ tok ∧ tok ≤ hi)) := fun lo hi h1 h2 => by
    rw [win_0, q_n (by omega), q_n (by omega), q_n (by omega)]
    omega
  by_cases k0 : st = 0
  · rw [if_pos (q0'.mpr k0), if_pos k0]
    have hi : ∀ (z : Unit), r_Rd_takeLine S = if r_B_within (nI tok) 4 (nI (if law = true then 4 else 6)) = 0 then some (1, S) else if nI ln < 12 then some (0, sw (sw (sw S 29 11 (nI (ln + 1))) 29 12 (nI tok - 4 + 1)) 29 9 (nI (if law = true then 1 else 2))) else some (3, S) := by
      intro _
      cases law with
      | true =>
        have z : ¬ b2i true = 0 := by decide
        simp (disch := omega) only [r_Rd_takeLine, t1, if_neg z, jn_k, t2, r11, ltS_k, rd_ne, nI_1]
        rfl
      | false =>
        have z : b2i false = 0 := by decide
        simp (disch := omega) only [r_Rd_takeLine, t1, if_pos z, jn_k, t2, r11, ltS_k, rd_ne, nI_1]
        rfl
    rw [hi ()]
    have w : r_B_within (nI tok) 4 (nI (if law = true then 4 else 6)) = 0 ↔ ¬ (4 ≤ tok ∧ tok ≤ (if law = true then 4 else 6)) := wi 4 (if law = true then 4 else 6) (by omega) (by split <;> omega)
    by_cases k : 4 ≤ tok ∧ tok ≤ (if law = true then 4 else 6)
    · rw [if_neg (fun z => w.mp z k), if_pos k]
      by_cases kl : ln < 12
      · rw [if_pos (show nI ln < 12 from nI_lt (b := 12) kl (by omega)), if_pos kl]
        have e4 : nI tok - 4 + 1 = nI (tok - 4 + 1) := by rw [show (4 : Int32) = nI 4 from rfl, pk_sub k.1, nI_1]
        refine ⟨_, rfl, RB.fld hW hC (fun a k q => by rw [rd_ne (by omega), rd_ne (by omega), rd_ne (by omega)]) sw_same ?_ ?_ ?_ ?_ ?_, fun a k g1 g2 g3 => by rw [rd_ne (by omega), rd_ne (by omega), rd_ne (by omega)]⟩
        · rw [rd_ne (by omega), rd_ne (by omega), rd_ne (by omega)]; exact r10
        · rw [rd_ne (by omega), rd_ne (by omega), sw_same]
        · rw [rd_ne (by omega), sw_same]; exact e4
        · rw [rd_ne (by omega), rd_ne (by omega), rd_ne (by omega)]; exact r13
        · rw [rd_ne (by omega), rd_ne (by omega), rd_ne (by omega)]; exact r14
      · rw [if_neg (show ¬ nI ln < 12 from nI_nlt (b := 12) (by omega) (by omega)), if_neg kl]
        exact ⟨S, rfl, frA.rf⟩
    · rw [if_pos (w.mpr k), if_neg k]
      exact ⟨S, rfl, frA.rf⟩
  rw [if_neg (fun z => k0 (q0'.mp z)), if_neg k0]
  by_cases k1 : st = 1
  · rw [if_pos (q1'.mpr k1), if_pos k1]
    have w := wi 5 8 (by omega) (by omega)
    by_cases k : 5 ≤ tok ∧ tok ≤ 8
    · rw [if_pos k]
      have w' : ¬ r_B_within (nI tok) 5 8 = 0 := fun z => w.mp z k
      have e5 : nI tok - 5 = nI (tok - 5) := pk_sub (b := 5) k.1
      refine ⟨sw (sw S 29 12 (nI (tok - 5))) 29 9 2, by simp only [r_Rd_takeKind, t2, if_neg w', e5, ltS_k], RB.fld hW hC (fun a k q => by rw [rd_ne (by omega), rd_ne (by omega)]) sw_same ?_ ?_ ?_ ?_ ?_, fun a k g1 g2 g3 => by rw [rd_ne (by omega), rd_ne (by omega)]⟩
      · rw [rd_ne (by omega), rd_ne (by omega)]; exact r10
      · rw [rd_ne (by omega), rd_ne (by omega)]; exact r11
      · rw [rd_ne (by omega), sw_same]
      · rw [rd_ne (by omega), rd_ne (by omega)]; exact r13
      · rw [rd_ne (by omega), rd_ne (by omega)]; exact r14
    · rw [if_neg k]
      have w' : r_B_within (nI tok) 5 8 = 0 := w.mpr k
      exact ⟨S, by simp only [r_Rd_takeKind, t2, if_pos w']; rfl, frA.rf⟩
  rw [if_neg (fun z => k1 (q1'.mp z)), if_neg k1]
  by_cases k2 : st = 2
  · rw [if_pos (q2'.mpr k2), if_pos k2]
    by_cases k : tok = 0
    · rw [if_pos k]
      have z : nI tok = 0 := by rw [k]; rfl
      refine ⟨sw S 29 9 3, by simp (disch := omega) only [r_Rd_takeWhen, ltS_k, rd_ne, t2, if_pos z], RB.fld hW hC (fun a k q => rd_ne (by omega)) sw_same ?_ ?_ ?_ ?_ ?_, fun a k g1 g2 g3 => rd_ne (by omega)⟩
      · rw [rd_ne (by omega)]; exact r10
      · rw [rd_ne (by omega)]; exact r11
      · rw [rd_ne (by omega)]; exact r12
      · rw [rd_ne (by omega)]; exact r13
      · rw [rd_ne (by omega)]; exact r14
    · rw [if_neg k]
      have z : ¬ nI tok = 0 := nI_ne0 (by omega) (by omega)
      exact ⟨sw S 29 9 3, by simp (disch := omega) only [r_Rd_takeWhen, ltS_k, rd_ne, t2, if_neg z]; rfl, fun a k g1 g2 g3 => rd_ne (by omega)⟩
  rw [if_neg (fun z => k2 (q2'.mp z)), if_neg k2]
  by_cases k3 : st = 3
  · rw [if_pos (q3'.mpr k3), if_pos k3]
    exact claim_B hR k3 hT hm
  rw [if_neg (fun z => k3 (q3'.mp z)), if_neg k3]
  by_cases k4 : st = 4
  · rw [if_pos (q4'.mpr k4), if_pos k4]
    exact hu
  rw [if_neg (fun z => k4 (q4'.mp z)), if_neg k4]
  by_cases k5 : st = 5
  · rw [if_pos (q5'.mpr k5), if_pos k5]
    have k12' := tkp t3 (show 12 < 64 by decide) (x := 12) rfl
    by_cases k : tok = 12
    · rw [if_pos k]
      obtain ⟨n1, n2⟩ := t4 k
      by_cases kn : num = 0
      · rw [if_pos kn]
        have z : nI num = 0 := by rw [kn]; rfl
        exact ⟨S, by simp only [r_Rd_takePart, t2, if_pos (k12'.mpr k), n1, if_pos z]; rfl, frA.rf⟩
      · rw [if_neg kn]
        have z : ¬ nI num = 0 := nI_ne0 (by omega) (by omega)
        obtain ⟨Y, e1, e2, e3⟩ := emit_B (s := 47) (v := num) hC (by have := hm.2.2.2.1; omega) (by decide) n2
        have e1' : r_Rd_emit 47 (nI num) S = some Y := e1
        refine ⟨sw Y 29 9 6, by simp only [r_Rd_takePart, t2, if_pos (k12'.mpr k), n1, if_neg z, e1', Option.bind_some, ltS_k], RB.fld (hW.go (fun a k q => e3 a k (by omega) (by omega))) e2 (fun a k q => rd_ne (by omega)) sw_same ?_ ?_ ?_ ?_ ?_, fun a k g1 g2 g3 => by rw [rd_ne (by omega), e3 a k (by omega) g3]⟩
        · rw [rd_ne (by omega), e3 _ _ (by omega) (by omega)]; exact r10
        · rw [rd_ne (by omega), e3 _ _ (by omega) (by omega)]; exact r11
        · rw [rd_ne (by omega), e3 _ _ (by omega) (by omega)]; exact r12
        · rw [rd_ne (by omega), e3 _ _ (by omega) (by omega)]; exact r13
        · rw [rd_ne (by omega), e3 _ _ (by omega) (by omega)]; exact r14
    · rw [if_neg k]
      exact ⟨S, by simp only [r_Rd_takePart, t2, if_neg (fun z => k (k12'.mp z))]; rfl, frA.rf⟩
  rw [if_neg (fun z => k5 (q5'.mp z)), if_neg k5]
  by_cases k6 : st = 6
  · rw [if_pos (q6'.mpr k6), if_pos k6]
    exact hs (by omega)
  rw [if_neg (fun z => k6 (q6'.mp z)), if_neg k6]
  exact hj (by omega)
