/-! trials -/
theorem nI_and (a b : Nat) : nI a &&& nI b = nI (a &&& b) := by
  apply Int32.toBitVec_inj.mp
  rw [Int32.toBitVec_and]
  apply BitVec.eq_of_toNat_eq
  show a % 2 ^ 32 &&& b % 2 ^ 32 = (a &&& b) % 2 ^ 32
  rw [Nat.and_mod_two_pow]
theorem tv_v {Z : Sto} {n : Nat} {ls : List (Nat × Cod)} {c0 t0 b v v' x : Int32} (h : b = -1 ∨ v = v') : tv Z n ls c0 t0 b v x = tv Z n ls c0 t0 b v' x := by
  rcases h with h | h
  · subst h
    have e : ∀ w, ckZ Z c0 t0 (-1) w x = (-1, -1, 0) := fun w => ckR_0
    have a : askV Z n c0 t0 (-1) v x = askV Z n c0 t0 (-1) v' x := by
      funext j
      match j with
      | 0 => rfl
      | 1 =>
        show (ckZ Z c0 t0 (-1) v x).2.2 = (ckZ Z c0 t0 (-1) v' x).2.2
        rw [e, e]
      | 2 => rfl
      | 3 => rw [ask_3, ask_3, if_pos rfl, if_pos rfl]
      | 4 => rfl
      | 5 => rfl
      | (k + 6) => rfl
    unfold tv
    rw [a]
    unfold turnV
    rw [if_pos rfl, if_pos rfl]
  · rw [h]
def balS (S : Sto) (s : Nat) : Int32 := if S 17 s = S 0 14 then -1 else S 0 14
/-- where hearer h turns by law l of a trial from spot s -/
def secT (S : Sto) (n : Nat) (lsf : Nat → List (Nat × Cod)) (s h l : Nat) : Int32 := tv S n (lsf l) (S 17 s) 0 (balS S s) (S 104 71) (S 47 h)
theorem bal_ok {S : Sto} {s : Nat} (hb : gBal S) : okB (S 17 s) (balS S s) (S 104 71) ∧ okB (S 17 s) (balS S s) (S 0 15) ∧ (balS S s = -1 ∨ S 0 15 = S 104 71) := by
  obtain ⟨h1, h2⟩ := hb
  unfold balS
  by_cases k : S 17 s = S 0 14
  · rw [if_pos k]
    exact ⟨Or.inl rfl, Or.inl rfl, Or.inl rfl⟩
  · rw [if_neg k]
    rcases h2 with h2 | ⟨h2, h3, h4⟩
    · exact ⟨Or.inl h2, Or.inl h2, Or.inl h2⟩
    · exact ⟨Or.inr ⟨h2, fun q => k q.symm, by rw [h3]; exact h4⟩, Or.inr ⟨h2, fun q => k q.symm, h4⟩, Or.inr h3.symm⟩
theorem cb_all : ∀ a, a < 4 → ∀ b, b < 4 → r_Cw_coupleBit (nI a) (nI b) = nI (1 <<< (4 * a + b)) := by decide
def o43 (sec : Nat → Int32) (b : Nat) : Nat → Nat → Nat → Nat
  | 0, _, c => c
  | d + 1, i, c => o43 sec b d (i + 1) (if sec i = sec b then c else c ||| 1 <<< (4 * i + b))
def o21 (sec : Nat → Int32) : Nat → Nat → Nat → Nat
  | 0, _, c => c
  | d + 1, b, c => o21 sec d (b + 1) (o43 sec b b 0 c)
def o4 (sec : Nat → Nat → Int32) : Nat → Nat → Nat → Nat
  | 0, _, c => c
  | d + 1, h, c => o4 sec d (h + 1) (o21 (sec h) 4 0 c)
theorem o43_bit {sec : Nat → Int32} {b q : Nat} : ∀ (d i c : Nat), (o43 sec b d i c).testBit q = (c.testBit q || anyS (fun a => !decide (sec a = sec b) && decide (4 * a + b = q)) d i) := by
  intro d
  induction d with
  | zero => intro i c; rw [o43, anyS, Bool.or_false]
  | succ d ih =>
    intro i c
    rw [o43, ih, anyS]
    by_cases k : sec i = sec b
    · rw [if_pos k, decide_eq_true k]; simp
    · rw [if_neg k, decide_eq_false k, Nat.testBit_or, Nat.one_shiftLeft, Nat.testBit_two_pow]; simp [Bool.or_assoc]
theorem o21_bit {sec : Nat → Int32} {q : Nat} : ∀ (d b c : Nat), (o21 sec d b c).testBit q = (c.testBit q || anyS (fun b => anyS (fun a => !decide (sec a = sec b) && decide (4 * a + b = q)) b 0) d b) := by
  intro d
  induction d with
  | zero => intro b c; rw [o21, anyS, Bool.or_false]
  | succ d ih => intro b c; rw [o21, ih, o43_bit, anyS, Bool.or_assoc]
theorem o4_bit {sec : Nat → Nat → Int32} {q : Nat} : ∀ (d h c : Nat), (o4 sec d h c).testBit q = (c.testBit q || anyS (fun h => anyS (fun b => anyS (fun a => !decide (sec h a = sec h b) && decide (4 * a + b = q)) b 0) 4 0) d h) := by
  intro d
  induction d with
  | zero => intro b c; rw [o4, anyS, Bool.or_false]
  | succ d ih =>
    intro b c
    rw [o4, ih, o21_bit, Bool.or_assoc]
    rfl
theorem o_q {sec : Nat → Int32} {q : Nat} (h1 : q / 4 < q % 4) : anyS (fun b => anyS (fun a => !decide (sec a = sec b) && decide (4 * a + b = q)) b 0) 4 0 = !decide (sec (q / 4) = sec (q % 4)) := by
  have key : anyS (fun b => anyS (fun a => !decide (sec a = sec b) && decide (4 * a + b = q)) b 0) 4 0 = true ↔ ¬ sec (q / 4) = sec (q % 4) := by
    rw [anyS_iff]
    constructor
    · rintro ⟨b, -, hb, h⟩
      obtain ⟨a, -, ha, h⟩ := (anyS_iff b 0).mp h
      rw [Bool.and_eq_true, decide_eq_true_eq] at h
      obtain ⟨h2, h3⟩ := h
      have e1 : a = q / 4 := by omega
      have e2 : b = q % 4 := by omega
      subst e1 e2
      simpa using h2
    · intro h
      refine ⟨q % 4, by omega, by omega, (anyS_iff _ 0).mpr ⟨q / 4, by omega, by omega, ?_⟩⟩
      rw [Bool.and_eq_true, decide_eq_true_eq]
      exact ⟨by simpa using h, by omega⟩
  by_cases k : sec (q / 4) = sec (q % 4)
  · rw [decide_eq_true k]
    cases hb : anyS (fun b => anyS (fun a => !decide (sec a = sec b) && decide (4 * a + b = q)) b 0) 4 0 with
    | false => rfl
    | true => exact absurd k (key.mp hb)
  · rw [decide_eq_false k]
    exact key.mpr k
def prT (S : Sto) (n p : Nat) (lsf : Nat → List (Nat × Cod)) (s a b : Nat) : Bool := anyS (fun h => !decide (secT S n lsf s h a = secT S n lsf s h b)) p 0
def ptS (S : Sto) (n p : Nat) (lsf : Nat → List (Nat × Cod)) (s : Nat) : Nat := o4 (secT S n lsf s) p 0 0
theorem pt_bit {S : Sto} {n p : Nat} {lsf : Nat → List (Nat × Cod)} {s q : Nat} (h : q / 4 < q % 4) : (ptS S n p lsf s).testBit q = prT S n p lsf s (q / 4) (q % 4) := by
  unfold ptS prT
  rw [o4_bit, Nat.zero_testBit, Bool.false_or]
  exact anyS_cong (fun j _ _ => o_q h)
/-! the class's side -/
theorem pb_L43 {U : Sto} {sec : Nat → Int32} {b a1 : Nat} {y3 : Int32} (hb : b < 4) (hU : ∀ j, j ≤ b → U 50 j = sec j) : ∀ (d f i c : Nat), i + d = b → d < f → r_Cw_partedBy_L43 a1 y3 (nI b) f (nI c) (nI i) U = some (nI (o43 sec b d i c), nI b) := by
  have ib : inr (nI b) 4 = true := inr_nI hb (by decide)
  have tb : (nI b).toNatClampNeg = b := q_tnI (by omega)
  intro d
  induction d with
  | zero =>
    intro f i c hi hf
    obtain ⟨f, rfl⟩ : ∃ g, f = g + 1 := ⟨f - 1, by omega⟩
    have e : i = b := by omega
    subst e
    rw [r_Cw_partedBy_L43, if_pos (by rw [q_le]; omega)]
    rfl
  | succ d ih =>
    intro f i c hi hf
    obtain ⟨f, rfl⟩ : ∃ g, f = g + 1 := ⟨f - 1, by omega⟩
    have c1 : ¬ nI b ≤ nI i := nI_ge (by omega) (by omega)
    have i1 : inr (nI i) 4 = true := inr_nI (by omega) (by decide)
    have t1 : (nI i).toNatClampNeg = i := q_tnI (by omega)
    rw [o43, ← ih f (i + 1) _ (by omega) (by omega)]
    by_cases k : sec i = sec b
    · rw [if_pos k]
      simp only [r_Cw_partedBy_L43, if_neg c1, chk_t i1, chk_t ib, t1, tb, hU i (by omega), hU b (by omega), if_pos k, jn, lt_k, nI_1]
    · rw [if_neg k]
      simp only [r_Cw_partedBy_L43, if_neg c1, chk_t i1, chk_t ib, t1, tb, hU i (by omega), hU b (by omega), if_neg k, jn, lt_k, nI_1, cb_all i (by omega) b hb, nI_or]
theorem pb_L21 {nL : Nat} {S : Sto} {n a1 : Nat} {lsf : Nat → List (Nat × Cod)} {c0 b' v x y3 : Int32} (hS : ∀ l, l < 4 → Scr nL l S (lsf l)) : ∀ (d f b c : Nat) (U : Sto), b + d = 4 → d < f → Sx S U → AT S n c0 0 b' v x U → (∀ j, j < b → U 50 j = tv S n (lsf j) c0 0 b' v x) →
    ∃ U', r_Cw_partedBy_L21 a1 y3 f (nI c) (nI b) U = some (nI (o21 (fun l => tv S n (lsf l) c0 0 b' v x) d b c), nI 4, U') ∧ Sx S U' ∧ ∀ k, U' 99 k = U 99 k ∧ U' 100 k = U 100 k := by
  intro d
  induction d with
  | zero =>
    intro f b c U hb hf hU _ _
    obtain ⟨f, rfl⟩ : ∃ g, f = g + 1 := ⟨f - 1, by omega⟩
    have e : b = 4 := by omega
    subst e
    exact ⟨U, by rw [r_Cw_partedBy_L21, if_pos (by decide)]; rfl, hU, fun _ => ⟨rfl, rfl⟩⟩
  | succ d ih =>
    intro f b c U hb hf hU hA h50
    obtain ⟨f, rfl⟩ : ∃ g, f = g + 1 := ⟨f - 1, by omega⟩
    have c1 : ¬ (4 : Int32) ≤ nI b := nI_ge (b := 4) (by omega) (by omega)
    have ib : inr (nI b) 4 = true := inr_nI (by omega) (by decide)
    have tb : (nI b).toNatClampNeg = b := q_tnI (by omega)
    obtain ⟨U1, q1, q2⟩ := sectorBy_B (show b < 4 by omega) (hU.scr (by omega) (hS b (by omega))) hA
    have hU1 := hU.frB (show b < 5 by omega) q2
    have eA : scA b = 35 + 3 * b := by unfold scA; rw [if_neg (by omega)]
    rw [eA] at q2
    have q1' : r_Cw_sectorBy (nI b) U = some (tv S n (lsf b) c0 0 b' v x, U1) := q1
    generalize hV : sw U1 50 b (tv S n (lsf b) c0 0 b' v x) = V
    have fV : ∀ a k, a ≠ 50 → ¬ (a = 35 + 3 * b ∧ k = 2) → ¬ (a = 35 + 3 * b + 2) → V a k = U a k := fun a k g1 g2 g3 => by
      rw [← hV, rd_ne (by omega), q2 a k g2 g3]
    have hVx : Sx S V := by rw [← hV]; exact hU1.sw (by unfold Sc; omega)
    have hVA : AT S n c0 0 b' v x V := by
      obtain ⟨g1, g2, g3, g4⟩ := hA
      refine ⟨fun j hj => ?_, ?_, ?_, ?_⟩
      · rw [fV _ _ (by omega) (by omega) (by omega)]; exact g1 j hj
      · rw [fV _ _ (by omega) (by omega) (by omega)]; exact g2
      · rw [fV _ _ (by omega) (by omega) (by omega)]; exact g3
      · rw [fV _ _ (by omega) (by omega) (by omega)]; exact g4
    have h50V : ∀ j, j ≤ b → V 50 j = tv S n (lsf j) c0 0 b' v x := fun j hj => by
      rw [← hV]
      by_cases e : j = b
      · subst e; rw [sw_same]
      · rw [rd_ne (by omega), q2 50 j (by omega) (by omega)]; exact h50 j (by omega)
    have l43 := pb_L43 (a1 := a1) (y3 := y3) (sec := fun l => tv S n (lsf l) c0 0 b' v x) (show b < 4 by omega) h50V b fu 0 c (by omega) (by have : fu = 5000 := rfl; omega)
    rw [show nI 0 = 0 from rfl] at l43
    obtain ⟨U', p1, p2, p3⟩ := ih f (b + 1) (o43 (fun l => tv S n (lsf l) c0 0 b' v x) b b 0 c) V (by omega) (by omega) hVx hVA (fun j hj => h50V j (by omega))
    refine ⟨U', ?_, p2, fun k => ?_⟩
    · rw [o21, ← p1]
      simp only [r_Cw_partedBy_L21, if_neg c1, q1', Option.bind_some, chk_t ib, tb, ltS_k, hV, l43, lt_k, nI_1]
    · rw [(p3 k).1, (p3 k).2, fV _ _ (by omega) (by omega) (by omega), fV _ _ (by omega) (by omega) (by omega)]
      exact ⟨rfl, rfl⟩
theorem pb_L4 {nL : Nat} {S : Sto} {n p : Nat} {lsf : Nat → List (Nat × Cod)} {c0 b' v : Int32} (hw : wInv S n) (hS : ∀ l, l < 4 → Scr nL l S (lsf l)) (hp : p ≤ 20) (p1 : S 33 4 = nI p) (hh : ∀ h, h < p → heOK S h) (hc : isC c0) (hb : okB c0 b' v) : ∀ (d f h c : Nat) (U : Sto), h + d = p → d < f → Sx S U → (U 99 0 = c0 ∧ U 99 1 = 0 ∧ U 99 2 = b' ∧ U 99 3 = v) →
    ∃ U', r_Cw_partedBy_L4 99 f (nI c) (nI h) U = some (nI (o4 (fun h l => tv S n (lsf l) c0 0 b' v (S 47 h)) d h c), nI p, U') ∧ Sx S U' ∧ ∀ k, U' 100 k = U 100 k := by
  intro d
  induction d with
  | zero =>
    intro f h c U hi hf hU _
    obtain ⟨f, rfl⟩ : ∃ g, f = g + 1 := ⟨f - 1, by omega⟩
    have e : h = p := by omega
    subst e
    have c1 : U 33 4 ≤ nI h := by rw [hU _ _ (by unfold Sc; omega), p1, q_le]; omega
    exact ⟨U, by rw [r_Cw_partedBy_L4, if_pos c1]; rfl, hU, fun _ => rfl⟩
  | succ d ih =>
    intro f h c U hi hf hU h99
    obtain ⟨f, rfl⟩ : ∃ g, f = g + 1 := ⟨f - 1, by omega⟩
    have c1 : ¬ U 33 4 ≤ nI h := by rw [hU _ _ (by unfold Sc; omega), p1]; exact nI_ge (by omega) (by omega)
    obtain ⟨g0, g1, g2, g3⟩ := h99
    obtain ⟨U1, q1, q2, q3⟩ := attend_B (a2 := 99) (S := U) (show h < 20 by omega) hw hc (hh h (by omega)).1 ⟨by decide, by decide⟩ hb (by omega) hU.cB g0 g1 g2 g3 (hU _ _ (by unfold Sc; omega))
    have hU1 : Sx S U1 := fun a k q => by unfold Sc at q; rw [q2 a k (by omega) (by omega) (by omega)]; exact hU a k (by unfold Sc; omega)
    obtain ⟨U2, r1, r2, r3⟩ := pb_L21 (a1 := 99) (y3 := nI h) hS 4 fu 0 c U1 (by omega) (by decide) hU1 q3 (fun j hj => by omega)
    rw [show nI 0 = 0 from rfl] at r1
    obtain ⟨U', s1, s2, s3⟩ := ih f (h + 1) _ U2 (by omega) (by omega) r2 (by rw [(r3 0).1, (r3 1).1, (r3 2).1, (r3 3).1, q2 _ _ (by omega) (by omega) (by omega), q2 _ _ (by omega) (by omega) (by omega), q2 _ _ (by omega) (by omega) (by omega), q2 _ _ (by omega) (by omega) (by omega)]; exact ⟨g0, g1, g2, g3⟩)
    refine ⟨U', ?_, s2, fun k => ?_⟩
    · rw [o4, ← s1]
      simp only [r_Cw_partedBy_L4, if_neg c1, q1, Option.bind_some, r1, lt_k, nI_1]
    · rw [s3 k, (r3 k).2, q2 _ _ (by omega) (by omega) (by omega)]
def cwP (L k : Nat) : Bool := decide (k / 4 < k % 4) && (L.testBit (k / 4) && L.testBit (k % 4))
def cw (L : Nat) : Nat := nrS (cwP L) 16 0 0
theorem cw_all : ∀ L, L < 16 → r_Cw_couplesOf (nI L) = some (nI (cw L)) := by decide +kernel
/-- what a spot parts, of what is wanted; 0 where none is told -/
def tpV (S : Sto) (n p : Nat) (lsf : Nat → List (Nat × Cod)) (L s : Nat) : Nat := if S 17 s = -1 then 0 else ptS S n p lsf s &&& cw L
theorem tr_LB {nL : Nat} {S : Sto} {n p L : Nat} {lsf : Nat → List (Nat × Cod)} {y2 : Int32} (hz : gSpo S) (hbal : gBal S) (hw : wInv S n) (hS : ∀ l, l < 4 → Scr nL l S (lsf l)) (hp : p ≤ 20) (p1 : S 33 4 = nI p) (hh : ∀ h, h < p → heOK S h) : ∀ (d f s : Nat) (U : Sto), s + d = 10 → d < f → Sx S U → ∃ U', r_B_trials_L25 y2 (nI (cw L)) f (nI s) U = some (nI 10, U') ∧ Sx S U' ∧ (∀ j, j < s → U' 100 j = U 100 j) ∧ ∀ j, s ≤ j → j < 10 → U' 100 j = nI (tpV S n p lsf L j) := by
  intro d
  induction d with
  | zero =>
    intro f s U hi hf hU
    obtain ⟨f, rfl⟩ : ∃ g, f = g + 1 := ⟨f - 1, by omega⟩
    have e : s = 10 := by omega
    subst e
    exact ⟨U, by rw [r_B_trials_L25, if_pos (by decide)], hU, fun _ _ => rfl, fun j h1 h2 => by omega⟩
  | succ d ih =>
    intro f s U hi hf hU
    obtain ⟨f, rfl⟩ : ∃ g, f = g + 1 := ⟨f - 1, by omega⟩
    have c1 : ¬ (10 : Int32) ≤ nI s := nI_ge (b := 10) (by omega) (by omega)
    have i1 : inr (nI s) 10 = true := inr_nI (by omega) (by decide)
    have t1 : (nI s).toNatClampNeg = s := q_tnI (by omega)
    have u17 : U 17 s = S 17 s := hU _ _ (by unfold Sc; omega)
    have hU1 : Sx S (sw U 100 s 0) := hU.sw (by unfold Sc; omega)
    have fin : ∀ W, Sx S W → (∀ j, j < s → W 100 j = U 100 j) → W 100 s = nI (tpV S n p lsf L s) → r_B_trials_L25 y2 (nI (cw L)) (f + 1) (nI s) U = r_B_trials_L25 y2 (nI (cw L)) f (nI (s + 1)) W → ∃ U', r_B_trials_L25 y2 (nI (cw L)) (f + 1) (nI s) U = some (nI 10, U') ∧ Sx S U' ∧ (∀ j, j < s → U' 100 j = U 100 j) ∧ ∀ j, s ≤ j → j < 10 → U' 100 j = nI (tpV S n p lsf L j) := by
      intro W h1 h2 h3 h4
      obtain ⟨U', q1, q2, q3, q4⟩ := ih f (s + 1) W (by omega) (by omega) h1
      refine ⟨U', by rw [h4]; exact q1, q2, fun j hj => by rw [q3 j (by omega), h2 j hj], fun j g1 g2 => ?_⟩
      by_cases e : j = s
      · subst e; rw [q3 j (by omega)]; exact h3
      · exact q4 j (by omega) g2
    by_cases k : S 17 s = -1
    · refine fin (sw U 100 s 0) hU1 (fun j hj => rd_ne (by omega)) (by rw [sw_same]; unfold tpV; rw [if_pos k]; rfl) ?_
      simp (disch := omega) only [r_B_trials_L25, if_neg c1, chk_t i1, t1, ltS_k, rd_ne, u17, if_pos k, jn, lt_k, nI_1]
    · have hc : isC (S 17 s) := (hz s (by omega)).2.resolve_left k
      obtain ⟨b1, b2, b3⟩ := bal_ok (s := s) hbal
      generalize hV : sw (sw (sw (sw (sw U 100 s 0) 99 0 (S 17 s)) 99 1 0) 99 2 (balS S s)) 99 3 (S 0 15) = V
      have hVx : Sx S V := by rw [← hV]; exact (((hU1.sw (by unfold Sc; omega)).sw (by unfold Sc; omega)).sw (by unfold Sc; omega)).sw (by unfold Sc; omega)
      have v99 : V 99 0 = S 17 s ∧ V 99 1 = 0 ∧ V 99 2 = balS S s ∧ V 99 3 = S 0 15 := by
        rw [← hV]
        simp (disch := omega) only [rd_ne, sw_same]
        exact ⟨trivial, trivial, trivial, trivial⟩
      have v100 : ∀ j, V 100 j = sw U 100 s 0 100 j := fun j => by rw [← hV]; simp (disch := omega) only [rd_ne]
      have fuv : fu = 5000 := rfl
      obtain ⟨W, q1, q2, q3⟩ := pb_L4 hw hS hp p1 hh hc b2 p fu 0 0 V (by omega) (by omega) hVx v99
      rw [show nI 0 = 0 from rfl] at q1
      have eo : o4 (fun h l => tv S n (lsf l) (S 17 s) 0 (balS S s) (S 0 15) (S 47 h)) p 0 0 = ptS S n p lsf s := by
        have hf : (fun h l => tv S n (lsf l) (S 17 s) 0 (balS S s) (S 0 15) (S 47 h)) = secT S n lsf s := by
          funext h l
          unfold secT
          exact tv_v b3
        rw [hf, ptS]
      rw [eo] at q1
      have pb : r_Cw_partedBy 99 V = some (nI (ptS S n p lsf s), W) := by rw [r_Cw_partedBy, q1]; rfl
      refine fin (sw W 100 s (nI (tpV S n p lsf L s))) (q2.sw (by unfold Sc; omega)) (fun j hj => by rw [rd_ne (by omega), q3, v100, rd_ne (by omega)]) sw_same ?_
      have u14 : U 0 14 = S 0 14 := hU _ _ (by unfold Sc; omega)
      have u15 : U 0 15 = S 0 15 := hU _ _ (by unfold Sc; omega)
      have eT : tpV S n p lsf L s = ptS S n p lsf s &&& cw L := by unfold tpV; rw [if_neg k]
      rw [eT, ← nI_and]
      by_cases kb : S 17 s = S 0 14
      · have eb : balS S s = -1 := by unfold balS; rw [if_pos kb]
        rw [eb] at hV
        have kb' : U 17 s = U 0 14 := by rw [u17, u14]; exact kb
        have k' : ¬ U 17 s = -1 := by rw [u17]; exact k
        rw [← u15] at hV
        simp (disch := omega) only [r_B_trials_L25, if_neg c1, chk_t i1, t1, ltS_k, rd_ne, if_neg k', if_pos kb', r_Sh_fire, jn_k, lt_k, nI_1]
        rw [u17, hV]
        simp only [Option.bind_some, pb, ltS_k, jn_k, lt_k, nI_1]
      · have eb : balS S s = S 0 14 := by unfold balS; rw [if_neg kb]
        rw [eb] at hV
        have kb' : ¬ U 17 s = U 0 14 := by rw [u17, u14]; exact kb
        have k' : ¬ U 17 s = -1 := by rw [u17]; exact k
        rw [← u15, ← u14] at hV
        simp (disch := omega) only [r_B_trials_L25, if_neg c1, chk_t i1, t1, ltS_k, rd_ne, if_neg k', if_neg kb', r_Sh_fire, jn_k, lt_k, nI_1]
        rw [u17, hV]
        simp only [Option.bind_some, pb, ltS_k, jn_k, lt_k, nI_1]
