def bstE (K L : Nat → Int32) : Nat → Nat → Int32 → Int32 → Int32
  | 0, _, _, cur => cur
  | d + 1, i, x, cur => if K i = -1 then bstE K L d (i + 1) x cur else if L i ≤ x then bstE K L d (i + 1) x cur else bstE K L d (i + 1) (L i) (nI i)
def cntE (K : Nat → Int32) : Nat → Nat → Int32 → Int32
  | 0, _, c => c
  | d + 1, i, c => cntE K d (i + 1) (if K i = -1 then c else c + 1)
/-- of wall j: where, how far, how loud -/
def wK (Z : Sto) (n : Nat) (c0 x : Int32) (j : Nat) : Int32 := if j < n then bkK (Z (3 + 1 * j) 0) (Z (3 + 1 * j) 1) (Z (3 + 1 * j) 2) (Z (3 + 1 * j) 3) (sdS (Z (3 + 1 * j) 0) (Z (3 + 1 * j) 1) c0) (sdS (Z (3 + 1 * j) 0) (Z (3 + 1 * j) 1) x) (alS (Z (3 + 1 * j) 0) c0) (alS (Z (3 + 1 * j) 0) x) else -1
def wD (Z : Sto) (c0 x : Int32) (j : Nat) : Int32 := dst (sdS (Z (3 + 1 * j) 0) (Z (3 + 1 * j) 1) c0 + sdS (Z (3 + 1 * j) 0) (Z (3 + 1 * j) 1) x) (alS (Z (3 + 1 * j) 0) x - alS (Z (3 + 1 * j) 0) c0)
def wL (Z : Sto) (c0 x : Int32) (j : Nat) : Int32 := ((100 - Z (3 + 1 * j) 4) * lou (wD Z c0 x j)) / 100
theorem back_LB {Z : Sto} {n a1 : Nat} {c0 t0 x : Int32} (hn : n ≤ 10) (h14 : Z 1 4 = nI n) (hw : ∀ j, j < n → btw (Z (3 + 1 * j) 1) 0 59) (hc0 : isC c0) (hx : isC x) (ha : a1 ≠ 13 ∧ a1 ≠ 14 ∧ a1 ≠ 15 ∧ a1 ≠ 16) :
    ∀ (d f i : Nat) (x3 : Int32) (S : Sto), i + d = 10 → d < f → (∀ a k, (a = 1 ∨ (3 ≤ a ∧ a ≤ 12)) → S a k = Z a k) → S a1 0 = c0 → S a1 1 = t0 →
    ∃ S' e1 e2, r_Hd_listenBack_L15 a1 x f x3 (nI i) S = some (e1, e2, S') ∧
      (∀ a k, ¬ (a = 13 ∧ (k = 6 ∨ k = 7)) → ¬ ((a = 14 ∨ a = 15 ∨ a = 16) ∧ i ≤ k) → S' a k = S a k) ∧
      (∀ j, i ≤ j → j < 10 → S' 16 j = wK Z n c0 x j ∧ S' 14 j = (if wK Z n c0 x j = -1 then -1 else t0 + Z 1 0 * wD Z c0 x j) ∧ S' 15 j = (if wK Z n c0 x j = -1 then -1 else wL Z c0 x j)) ∧
      S' 13 6 = cntE (wK Z n c0 x) d i (S 13 6) ∧ S' 13 7 = bstE (wK Z n c0 x) (wL Z c0 x) d i x3 (S 13 7) := by
  intro d
  induction d with
  | zero =>
    intro f i x3 S hi hf hZ s0 s1
    obtain ⟨f, rfl⟩ : ∃ g, f = g + 1 := ⟨f - 1, by omega⟩
    have e : i = 10 := by omega
    subst e
    have c : (10 : Int32) ≤ nI 10 := by decide
    exact ⟨S, x3, nI 10, by rw [r_Hd_listenBack_L15, if_pos c], fun _ _ _ _ => rfl, fun j h1 h2 => by omega, rfl, rfl⟩
  | succ d ih =>
    intro f i x3 S hi hf hZ s0 s1
    obtain ⟨f, rfl⟩ : ∃ g, f = g + 1 := ⟨f - 1, by omega⟩
    have hi10 : i < 10 := by omega
    have r : ∀ k, S (3 + 1 * i) k = Z (3 + 1 * i) k := fun k => hZ _ _ (by omega)
    have e4 : S 1 4 = nI n := by rw [hZ 1 4 (by omega)]; exact h14
    have cmp : S 1 4 ≤ nI i ↔ n ≤ i := by rw [e4, q_le, q_n (by omega), q_n (by omega)]; omega
    obtain ⟨h13, h14', h15, h16⟩ := id ha
    by_cases k : wK Z n c0 x i = -1
    · have hv : S 1 4 ≤ nI i ∨ r_Wl_crossing (3 + 1 * i) (S a1 0) x S = some (-1) := by
        by_cases q : n ≤ i
        · exact Or.inl (cmp.mpr q)
        · right
          rw [s0, cross_B hc0 hx (by rw [r]; exact hw i (by omega)), r, r, r, r]
          unfold wK at k
          rw [if_pos (by omega)] at k
          rw [k]
      rw [turn_0 hi10 hv]
      obtain ⟨S', e1, e2, q1, q2, q3, q4, q5⟩ := ih f (i + 1) x3 (sw (sw (sw S 16 i (-1)) 14 i (-1)) 15 i (-1)) (by omega) (by omega) (fun a j h => by rw [rd_ne (by omega), rd_ne (by omega), rd_ne (by omega)]; exact hZ a j h) (by rw [rd_ne (by omega), rd_ne (by omega), rd_ne (by omega)]; exact s0) (by rw [rd_ne (by omega), rd_ne (by omega), rd_ne (by omega)]; exact s1)
      refine ⟨S', e1, e2, q1, fun a j g1 g2 => ?_, fun j g1 g2 => ?_, ?_, ?_⟩
      · rw [q2 a j g1 (by omega), rd_ne (by omega), rd_ne (by omega), rd_ne (by omega)]
      · by_cases e : j = i
        · subst e
          rw [q2 16 j (by omega) (by omega), q2 14 j (by omega) (by omega), q2 15 j (by omega) (by omega), k, if_pos rfl, if_pos rfl]
          simp (disch := omega) only [rd_ne, sw_same]
          exact ⟨trivial, trivial, trivial⟩
        · exact q3 j (by omega) g2
      · rw [q4, cntE, if_pos k, rd_ne (by omega), rd_ne (by omega), rd_ne (by omega)]
      · rw [q5, bstE, if_pos k, rd_ne (by omega), rd_ne (by omega), rd_ne (by omega)]
    · have q : i < n := by
        refine Classical.not_not.mp (fun q => k ?_)
        unfold wK
        rw [if_neg q]
      have hk : ¬ S 1 4 ≤ nI i := fun h => by have := cmp.mp h; omega
      have hv : r_Wl_crossing (3 + 1 * i) (S a1 0) x S = some (wK Z n c0 x i) := by
        rw [s0, cross_B hc0 hx (by rw [r]; exact hw i q), r, r, r, r]
        unfold wK
        rw [if_pos q]
      have ht := turn_1 (f := f) (x3 := x3) (d := wD Z c0 x i) hi10 ha hk hv k (by rw [s0, r, r]; rfl)
      rw [r, s1] at ht
      have eL : (100 - Z (3 + 1 * i) 4) * lou (wD Z c0 x i) / 100 = wL Z c0 x i := rfl
      rw [eL] at ht
      have z1 : S 1 0 = Z 1 0 := hZ 1 0 (by omega)
      have fin : ∀ (S1 : Sto) (y c7 : Int32), (∀ a j, ¬ (a = 13 ∧ (j = 6 ∨ j = 7)) → ¬ ((a = 14 ∨ a = 15 ∨ a = 16) ∧ j = i) → S1 a j = S a j) → S1 16 i = wK Z n c0 x i → S1 14 i = t0 + Z 1 0 * wD Z c0 x i → S1 15 i = wL Z c0 x i → S1 13 6 = S 13 6 + 1 → S1 13 7 = c7 → bstE (wK Z n c0 x) (wL Z c0 x) (d + 1) i x3 (S 13 7) = bstE (wK Z n c0 x) (wL Z c0 x) d (i + 1) y c7 →
          ∃ S' e1 e2, r_Hd_listenBack_L15 a1 x f y (nI (i + 1)) S1 = some (e1, e2, S') ∧ (∀ a k, ¬ (a = 13 ∧ (k = 6 ∨ k = 7)) → ¬ ((a = 14 ∨ a = 15 ∨ a = 16) ∧ i ≤ k) → S' a k = S a k) ∧
          (∀ j, i ≤ j → j < 10 → S' 16 j = wK Z n c0 x j ∧ S' 14 j = (if wK Z n c0 x j = -1 then -1 else t0 + Z 1 0 * wD Z c0 x j) ∧ S' 15 j = (if wK Z n c0 x j = -1 then -1 else wL Z c0 x j)) ∧
          S' 13 6 = cntE (wK Z n c0 x) (d + 1) i (S 13 6) ∧ S' 13 7 = bstE (wK Z n c0 x) (wL Z c0 x) (d + 1) i x3 (S 13 7) := by
        intro S1 y c7 f1 f2 f3 f4 f5 f6 f7
        obtain ⟨S', e1, e2, q1, q2, q3, q4, q5⟩ := ih f (i + 1) y S1 (by omega) (by omega) (fun a j h => by rw [f1 a j (by omega) (by omega)]; exact hZ a j h) (by rw [f1 a1 0 (by omega) (by omega)]; exact s0) (by rw [f1 a1 1 (by omega) (by omega)]; exact s1)
        refine ⟨S', e1, e2, q1, fun a j g1 g2 => ?_, fun j g1 g2 => ?_, ?_, ?_⟩
        · rw [q2 a j g1 (by omega), f1 a j g1 (by omega)]
        · by_cases e : j = i
          · subst e
            rw [q2 16 j (by omega) (by omega), q2 14 j (by omega) (by omega), q2 15 j (by omega) (by omega), if_neg k, if_neg k]
            exact ⟨f2, f3, f4⟩
          · exact q3 j (by omega) g2
        · rw [q4, cntE, if_neg k, f5]
        · rw [q5, f7, f6]
      rw [ht]
      by_cases cl : wL Z c0 x i ≤ x3
      · rw [if_pos cl]
        refine fin _ x3 (S 13 7) (fun a j g1 g2 => ?_) ?_ ?_ ?_ ?_ ?_ (by rw [bstE, if_neg k, if_pos cl])
        · unfold tnS
          rw [rd_ne (by omega), rd_ne (by omega), rd_ne (by omega), rd_ne (by omega), rd_ne (by omega), rd_ne (by omega)]
        all_goals (unfold tnS; simp (disch := omega) only [rd_ne, sw_same, z1])
      · rw [if_neg cl]
        refine fin _ (wL Z c0 x i) (nI i) (fun a j g1 g2 => ?_) ?_ ?_ ?_ ?_ ?_ (by rw [bstE, if_neg k, if_neg cl])
        · unfold tnS
          rw [rd_ne (by omega), rd_ne (by omega), rd_ne (by omega), rd_ne (by omega), rd_ne (by omega), rd_ne (by omega), rd_ne (by omega)]
        all_goals (unfold tnS; simp (disch := omega) only [rd_ne, sw_same, z1])
