/-! the reader, token by token: where it stands, whether it compared, lines, outcome, open, brackets, what waits, code -/
abbrev AS : Type := Nat × Nat × Nat × Nat × Nat × Nat × List Nat × Cod
def RB (S : Sto) : AS → Prop
  | (st, cmp, ln, out, op, br, W, C) => S 29 9 = nI st ∧ S 29 10 = nI cmp ∧ S 29 11 = nI ln ∧ S 29 12 = nI out ∧ S 29 13 = nI op ∧ S 29 14 = nI br ∧ wtB W S ∧ cdB C S
def frA (S S' : Sto) : Prop := ∀ a k, ¬ (a = 29 ∧ 9 ≤ k) → ¬ a = 31 → ¬ a = 32 → S' a k = S a k
theorem frA.rf {S : Sto} : frA S S := fun _ _ _ _ _ => rfl
theorem frA.tr {S S1 S2 : Sto} (h : frA S S1) (g : frA S1 S2) : frA S S2 := fun a k q1 q2 q3 => (g a k q1 q2 q3).trans (h a k q1 q2 q3)
def okT (S : Sto) (x : Option (Int32 × Sto)) : Nat ⊕ AS → Prop
  | .inl f => ∃ S', x = some (nI f, S') ∧ frA S S'
  | .inr A => ∃ S', x = some (0, S') ∧ RB S' A ∧ frA S S'
def fvl1 (law : Bool) : Nat := if law = true then 6 else 7
def unitA (law : Bool) (tok num cmp ln out op br : Nat) (W : List Nat) (C : Cod) : Nat ⊕ AS :=
  if tok = 12 then .inr (6, cmp, ln, out, op, br, W, C ++ [(12, num)])
  else if fvl1 law ≤ tok ∧ tok ≤ 11 then .inr (6, cmp, ln, out, op, br, W, C ++ [(13, tok - fvl1 law)]) else .inl 1
def jointA (tok cmp ln out op br : Nat) (W : List Nat) (C : Cod) : Nat ⊕ AS :=
  if tok = 1 ∨ tok = 2 then .inr (3, cmp, ln, out, (relP (rnk tok) W op C).2.1, br, tok :: (relP (rnk tok) W op C).1, (relP (rnk tok) W op C).2.2)
  else if tok = 41 ∧ 0 < br then .inr (7, cmp, ln, out, (relP 1 W op C).2.1 - 1, br - 1, (relP 1 W op C).1.tail, (relP 1 W op C).2.2)
  else if tok = 59 ∧ br = 0 then .inr (0, cmp, ln, out, (relP 1 W op C).2.1, br, (relP 1 W op C).1, (relP 1 W op C).2.2 ++ [(59, out)])
  else .inl 1
def signA (tok cmp ln out op br : Nat) (W : List Nat) (C : Cod) : Nat ⊕ AS :=
  if tok = 47 then .inr (5, cmp, ln, out, (relP 6 W op C).2.1, br, (relP 6 W op C).1, (relP 6 W op C).2.2)
  else if (tok = 60 ∨ tok = 61 ∨ tok = 62) ∧ cmp = 0 then .inr (4, 1, ln, out, (relP (rnk tok) W op C).2.1, br, tok :: (relP (rnk tok) W op C).1, (relP (rnk tok) W op C).2.2)
  else if tok = 43 ∨ tok = 45 ∨ tok = 42 then .inr (4, cmp, ln, out, (relP (rnk tok) W op C).2.1, br, tok :: (relP (rnk tok) W op C).1, (relP (rnk tok) W op C).2.2)
  else if cmp = 0 then .inl 1 else jointA tok cmp ln out op br W C
def claimA (law : Bool) (tok num ln out op br : Nat) (W : List Nat) (C : Cod) : Nat ⊕ AS :=
  if tok = 40 ∨ tok = 3 then (if op < 8 then .inr (3, 0, ln, out, op + 1, (if tok = 40 then br + 1 else br), tok :: W, C) else .inl 3)
  else unitA law tok num 0 ln out op br W C
def takeA (law : Bool) (tok num : Nat) : AS → Nat ⊕ AS
  | (st, cmp, ln, out, op, br, W, C) =>
    if st = 0 then (if 4 ≤ tok ∧ tok ≤ (if law = true then 4 else 6) then (if ln < 12 then .inr ((if law = true then 1 else 2), cmp, ln + 1, tok - 4 + 1, op, br, W, C) else .inl 3) else .inl 1)
    else if st = 1 then (if 5 ≤ tok ∧ tok ≤ 8 then .inr (2, cmp, ln, tok - 5, op, br, W, C) else .inl 1)
    else if st = 2 then (if tok = 0 then .inr (3, cmp, ln, out, op, br, W, C) else .inl 1)
    else if st = 3 then claimA law tok num ln out op br W C
    else if st = 4 then unitA law tok num cmp ln out op br W C
    else if st = 5 then (if tok = 12 then (if num = 0 then .inl 2 else .inr (6, cmp, ln, out, op, br, W, C ++ [(47, num)])) else .inl 1)
    else if st = 6 then signA tok cmp ln out op br W C
    else jointA tok cmp ln out op br W C
/-- what a token tells, and that there is room -/
def TB (law : Bool) (tok num : Nat) (S : Sto) : Prop := S 29 4 = b2i law ∧ S 29 6 = nI tok ∧ tok < 64 ∧ (tok = 12 → S 29 7 = nI num ∧ num < 131072)
theorem TB.go {law : Bool} {tok num : Nat} {S S' : Sto} (h : TB law tok num S) (f : ∀ k, k < 9 → S' 29 k = S 29 k) : TB law tok num S' := by
  obtain ⟨h1, h2, h3, h4⟩ := h
  exact ⟨by rw [f 4 (by omega)]; exact h1, by rw [f 6 (by omega)]; exact h2, h3, fun h => by rw [f 7 (by omega)]; exact h4 h⟩
theorem RB.fld {S S' : Sto} {st cmp ln out op br : Nat} {W : List Nat} {C : Cod} (hW : wtB W S) (hC : cdB C S) (f : ∀ a k, (a = 31 ∨ a = 32 ∨ (a = 29 ∧ (k = 16 ∨ k = 18))) → S' a k = S a k) (h9 : S' 29 9 = nI st) (h10 : S' 29 10 = nI cmp) (h11 : S' 29 11 = nI ln) (h12 : S' 29 12 = nI out) (h13 : S' 29 13 = nI op) (h14 : S' 29 14 = nI br) : RB S' (st, cmp, ln, out, op, br, W, C) :=
  ⟨h9, h10, h11, h12, h13, h14, hW.go (fun a k q => f a k (by omega)), hC.go (fun a k q => f a k (by omega))⟩
theorem tokn {tok c : Nat} {S : Sto} (h2 : S 29 6 = nI tok) (h3 : tok < 64) (hc : c < 64) : (S 29 6 = nI c) ↔ tok = c := by rw [h2]; exact nI_eq (by omega) (by omega)
theorem unit_B {law : Bool} {tok num st cmp ln out op br : Nat} {W : List Nat} {C : Cod} {S : Sto} (hR : RB S (st, cmp, ln, out, op, br, W, C)) (hT : TB law tok num S) (hl : C.length < 400) : okT S (r_Rd_takeUnit S) (unitA law tok num cmp ln out op br W C) := by
  obtain ⟨r9, r10, r11, r12, r13, r14, hW, hC⟩ := hR
  obtain ⟨t1, t2, t3, t4⟩ := hT
  have ef : ∀ (z : Option (Int32 × Sto)), r_Rd_takeUnit S = (if nI tok = 12 then (r_Rd_emit 12 (sw S 29 9 6 29 7) (sw S 29 9 6)).bind (fun S4 => some (0, S4)) else if r_B_within (nI tok) (nI (fvl1 law)) 11 = 0 then some (1, sw S 29 9 6) else (r_Rd_emit 13 (nI tok - nI (fvl1 law)) (sw S 29 9 6)).bind (fun S3 => some (0, S3))) := by
    intro _
    cases law with
    | true =>
      have z : ¬ b2i true = 0 := by decide
      simp (disch := omega) only [r_Rd_takeUnit, ltS_k, rd_ne, t1, t2, if_neg z, jn_k]
      rfl
    | false =>
      have z : b2i false = 0 := by decide
      simp (disch := omega) only [r_Rd_takeUnit, ltS_k, rd_ne, t1, t2, if_pos z, jn_k]
      rfl
  rw [ef none]
  have hW1 : wtB W (sw S 29 9 6) := hW.go (fun a k q => rd_ne (by omega))
  have hC1 : cdB C (sw S 29 9 6) := hC.go (fun a k q => rd_ne (by omega))
  have fin : ∀ s v, s < 64 → v < 131072 → ∃ S', r_Rd_emit (nI s) (nI v) (sw S 29 9 6) = some S' ∧ RB S' (6, cmp, ln, out, op, br, W, C ++ [(s, v)]) ∧ frA S S' := by
    intro s v hs hv
    obtain ⟨S', q1, q2, q3⟩ := emit_B hC1 hl hs hv
    refine ⟨S', q1, ⟨?_, ?_, ?_, ?_, ?_, ?_, hW1.go (fun a k q => q3 a k (by omega) (by omega)), q2⟩, fun a k g1 g2 g3 => by rw [q3 a k (by omega) g3, rd_ne (by omega)]⟩
    · rw [q3 _ _ (by omega) (by omega), sw_same]; rfl
    · rw [q3 _ _ (by omega) (by omega), rd_ne (by omega)]; exact r10
    · rw [q3 _ _ (by omega) (by omega), rd_ne (by omega)]; exact r11
    · rw [q3 _ _ (by omega) (by omega), rd_ne (by omega)]; exact r12
    · rw [q3 _ _ (by omega) (by omega), rd_ne (by omega)]; exact r13
    · rw [q3 _ _ (by omega) (by omega), rd_ne (by omega)]; exact r14
  unfold unitA
  by_cases k : tok = 12
  · obtain ⟨n1, n2⟩ := t4 k
    obtain ⟨S', q1, q2, q3⟩ := fin 12 num (by decide) n2
    rw [if_pos (by rw [k]; rfl), if_pos k, rd_ne (by omega), n1]
    exact ⟨S', by rw [show (12 : Int32) = nI 12 from rfl, q1]; rfl, q2, q3⟩
  · rw [if_neg (show ¬ nI tok = 12 from fun q => k ((nI_eq (b := 12) (by omega) (by omega)).mp q)), if_neg k]
    have fv : fvl1 law ≤ 7 := by unfold fvl1; split <;> omega
    have wi : r_B_within (nI tok) (nI (fvl1 law)) 11 = 0 ↔ ¬ (fvl1 law ≤ tok ∧ tok ≤ 11) := by
      rw [win_0, q_n (by omega), q_n (by omega), show (11 : Int32).toInt = 11 by decide]
      omega
    by_cases k2 : fvl1 law ≤ tok ∧ tok ≤ 11
    · obtain ⟨S', q1, q2, q3⟩ := fin 13 (tok - fvl1 law) (by decide) (by omega)
      rw [if_neg (fun q => wi.mp q k2), if_pos k2, pk_sub k2.1]
      exact ⟨S', by rw [show (13 : Int32) = nI 13 from rfl, q1]; rfl, q2, q3⟩
    · rw [if_pos (wi.mpr k2), if_neg k2]
      exact ⟨sw S 29 9 6, rfl, fun a k g1 g2 g3 => rd_ne (by omega)⟩
/-- release, then hold, then stand elsewhere -/
theorem relh_B {tok r op : Nat} {W : List Nat} {C : Cod} {S : Sto} (hr : r ≤ 6) (ht : tok < 64) (h6 : S 29 6 = nI tok) (hW : wtB W S) (hC : cdB C S) (h13 : S 29 13 = nI op) (hc : c3 W ≤ op) (ho : op ≤ 100) (hl : C.length + W.length ≤ 400) (hw : W.length < 40) (x : Int32) : ∃ S', (r_Rd_release (nI r) S).bind (fun S1 => (r_Rd_hold (S1 29 6) S1).bind (fun S2 => ltS (sw S2 29 9 x) (fun S3 => some ((0 : Int32), S3)))) = some (0, S') ∧ wtB (tok :: (relP r W op C).1) S' ∧ cdB (relP r W op C).2.2 S' ∧ S' 29 13 = nI (relP r W op C).2.1 ∧ S' 29 9 = x ∧ ∀ a k, ¬ (a = 29 ∧ (k = 9 ∨ k = 13 ∨ k = 16 ∨ k = 18)) → ¬ a = 31 → ¬ a = 32 → S' a k = S a k := by
  obtain ⟨S1, q1, q2, q3, q4, q5⟩ := release_B hr hW hC h13 hc ho hl
  have rl : ∀ (W : List Nat) (op : Nat) (C : Cod), (relP r W op C).1.length ≤ W.length := by
    intro W
    induction W with
    | nil => intro op C; exact Nat.le_refl _
    | cons a W ih =>
      intro op C
      rw [relP]
      split
      · exact Nat.le_refl _
      · have := ih (if a = 3 then op - 1 else op) (C ++ [(a, 0)])
        rw [List.length_cons]
        omega
  have h6' : S1 29 6 = nI tok := by rw [q5 _ _ (by omega) (by omega) (by omega)]; exact h6
  obtain ⟨S2, p1, p2, p3⟩ := hold_B (a := tok) q2 (by have := rl W op C; omega) ht
  refine ⟨sw S2 29 9 x, ?_, p2.go (fun a k q => rd_ne (by omega)), q3.go (fun a k q => by rw [rd_ne (by omega), p3 a k (by omega) (by omega)]), by rw [rd_ne (by omega), p3 _ _ (by omega) (by omega)]; exact q4, sw_same, fun a k g1 g2 g3 => by rw [rd_ne (by omega), p3 a k (by omega) g2, q5 a k (by omega) g2 g3]⟩
  simp only [q1, Option.bind_some, h6', p1, ltS_k]
