/-- the story that fits most -/
def bsS (F : Nat → Option Nat) : Nat → Nat → Int32 → Int32 → Int32
  | 0, _, b, _ => b
  | d + 1, i, b, m => match F i with
    | none => bsS F d (i + 1) b m
    | some v => if nI v ≤ m then bsS F d (i + 1) b m else bsS F d (i + 1) (nI i) (nI v)
def stF (S : Sto) (n m p : Nat) (ls : List (Nat × Cod)) (st : Nat → Nat) (i : Nat) : Option Nat := if st i = 0 then none else some (fitN S n m p ls (st i))
theorem cntP_le {q : Nat → Bool} : ∀ (d i c : Nat), cntP q d i c ≤ c + d := by
  intro d
  induction d with
  | zero => intro i c; exact Nat.le_refl _
  | succ d ih =>
    intro i c
    rw [cntP]
    by_cases k : q i = true
    · rw [if_pos k]
      have := ih (i + 1) (c + 1)
      omega
    · rw [if_neg k]
      have := ih (i + 1) c
      omega
theorem bs_LB {nL : Nat} {S : Sto} {n k m p : Nat} {ls : List (Nat × Cod)} {st : Nat → Nat} (hw : wInv S n) (hS : Scr nL k S ls) (hk : k < 4) (hm : m ≤ 10) (hs : ∀ s, s < m → shOK S s) (hp : p ≤ 20) (p1 : S 33 4 = nI p) (hh : ∀ h, h < p → heOK S h) (hst : ∀ j, j < 6 → st j < 2 ^ m ∧ S 51 j = nI (st j)) :
    ∀ (d f i : Nat) (b mo : Int32) (U : Sto), i + d = 6 → d < f → -1 ≤ mo.toInt → Sx S U → ∃ e1 e2 U', r_B_stories_L54 (nI k) f b mo (nI i) U = some (bsS (stF S n m p ls st) d i b mo, e1, e2, U') ∧ Sx S U' := by
  intro d
  induction d with
  | zero =>
    intro f i b mo U hi hf _ hU
    obtain ⟨f, rfl⟩ : ∃ g, f = g + 1 := ⟨f - 1, by omega⟩
    have e : i = 6 := by omega
    subst e
    exact ⟨mo, nI 6, U, by rw [r_B_stories_L54, if_pos (by decide)]; rfl, hU⟩
  | succ d ih =>
    intro f i b mo U hi hf hmo hU
    obtain ⟨f, rfl⟩ : ∃ g, f = g + 1 := ⟨f - 1, by omega⟩
    have c : ¬ (6 : Int32) ≤ nI i := nI_ge (b := 6) (by omega) (by omega)
    have i1 : inr (nI i) 6 = true := inr_nI (by omega) (by decide)
    have t1 : (nI i).toNatClampNeg = i := q_tnI (by omega)
    obtain ⟨h1, h2⟩ := hst i (by omega)
    have u51 : U 51 i = nI (st i) := by rw [hU _ _ (by unfold Sc; omega)]; exact h2
    have s10 : st i < 1024 := by
      have : 2 ^ m ≤ 2 ^ 10 := Nat.pow_le_pow_right (by decide) hm
      omega
    by_cases k0 : st i = 0
    · have e0 : nI (st i) = 0 := by rw [k0]; rfl
      have eF : stF S n m p ls st i = none := by unfold stF; rw [if_pos k0]
      have cm : (-1 : Int32) ≤ mo := by rw [q_le, show (-1 : Int32).toInt = -1 by decide]; exact hmo
      obtain ⟨e1, e2, U', q1, q2⟩ := ih f (i + 1) b mo U (by omega) (by omega) hmo hU
      refine ⟨e1, e2, U', ?_, q2⟩
      rw [bsS, eF]
      simp only
      rw [← q1]
      simp only [r_B_stories_L54, if_neg c, chk_t i1, t1, u51, if_pos e0, jn, if_pos cm, lt_k, nI_1]
    · have e0 : ¬ nI (st i) = 0 := nI_ne0 (by omega) (by omega)
      have eF : stF S n m p ls st i = some (fitN S n m p ls (st i)) := by unfold stF; rw [if_neg k0]
      obtain ⟨U1, v1, v2⟩ := fit_B hw hS hk hm hs hp p1 hh h1 hU
      rw [bsS, eF]
      simp only
      by_cases cl : nI (fitN S n m p ls (st i)) ≤ mo
      · obtain ⟨e1, e2, U', q1, q2⟩ := ih f (i + 1) b mo U1 (by omega) (by omega) hmo v2
        refine ⟨e1, e2, U', ?_, q2⟩
        rw [if_pos cl, ← q1]
        simp only [r_B_stories_L54, if_neg c, chk_t i1, t1, u51, if_neg e0, v1, Option.bind_some, jn, if_pos cl, lt_k, nI_1]
      · have := cntP_le (q := fitH S n m ls (st i)) p 0 0
        have lf : fitN S n m p ls (st i) ≤ 20 := by unfold fitN; omega
        obtain ⟨e1, e2, U', q1, q2⟩ := ih f (i + 1) (nI i) (nI (fitN S n m p ls (st i))) U1 (by omega) (by omega) (by rw [q_n (by omega)]; omega) v2
        refine ⟨e1, e2, U', ?_, q2⟩
        rw [if_neg cl, ← q1]
        simp only [r_B_stories_L54, if_neg c, chk_t i1, t1, u51, if_neg e0, v1, Option.bind_some, jn, if_neg cl, lt_k, nI_1]
theorem bs_LM {nL : Nat} {S : Sto} {n k m p : Nat} {ls : List (Nat × Cod)} {st : Nat → Nat} (hw : wInv S n) (hcm : cM S n S) (hS : Scr nL k S ls) (hk : k < 4) (hm : m ≤ 10) (m2 : S 104 12 = nI m) (hs : ∀ s, s < m → shOK S s) (hp : p ≤ 20) (p2 : S 104 50 = nI p) (hh : ∀ h, h < p → heOK S h) (hst : ∀ j, j < 6 → st j < 2 ^ m ∧ S 131 j = nI (st j)) :
    ∀ (d f i : Nat) (b mo : Int32) (T : Sto), i + d = 6 → d < f → Sx S T → ∃ e1 e2 T', r_M_stories_L47 (nI k) f b mo (nI i) T = some (bsS (stF S n m p ls st) d i b mo, e1, e2, T') ∧ Sx S T' := by
  intro d
  induction d with
  | zero =>
    intro f i b mo U hi hf hU
    obtain ⟨f, rfl⟩ : ∃ g, f = g + 1 := ⟨f - 1, by omega⟩
    have e : i = 6 := by omega
    subst e
    exact ⟨mo, nI 6, U, by rw [r_M_stories_L47, if_pos (by decide)]; rfl, hU⟩
  | succ d ih =>
    intro f i b mo U hi hf hU
    obtain ⟨f, rfl⟩ : ∃ g, f = g + 1 := ⟨f - 1, by omega⟩
    have c : ¬ (6 : Int32) ≤ nI i := nI_ge (b := 6) (by omega) (by omega)
    have i1 : inr (nI i) 6 = true := inr_nI (by omega) (by decide)
    have t1 : (nI i).toNatClampNeg = i := q_tnI (by omega)
    obtain ⟨h1, h2⟩ := hst i (by omega)
    have u51 : U 131 i = nI (st i) := by rw [hU _ _ (by unfold Sc; omega)]; exact h2
    have s10 : st i < 1024 := by
      have : 2 ^ m ≤ 2 ^ 10 := Nat.pow_le_pow_right (by decide) hm
      omega
    by_cases k0 : st i = 0
    · have e0 : nI (st i) = 0 := by rw [k0]; rfl
      have eF : stF S n m p ls st i = none := by unfold stF; rw [if_pos k0]
      obtain ⟨e1, e2, U', q1, q2⟩ := ih f (i + 1) b mo U (by omega) (by omega) hU
      refine ⟨e1, e2, U', ?_, q2⟩
      rw [bsS, eF]
      simp only
      rw [← q1]
      simp only [r_M_stories_L47, if_neg c, chk_t i1, t1, u51, if_pos e0, jn, lt_k, nI_1]
    · have e0 : ¬ nI (st i) = 0 := nI_ne0 (by omega) (by omega)
      have eF : stF S n m p ls st i = some (fitN S n m p ls (st i)) := by unfold stF; rw [if_neg k0]
      obtain ⟨U1, v1, v2⟩ := fit_M hw hcm hS hk hm m2 hs hp p2 hh h1 (show i < 6 by omega) h2 hU
      rw [bsS, eF]
      simp only
      by_cases cl : nI (fitN S n m p ls (st i)) ≤ mo
      · have cl2 : ¬ mo < nI (fitN S n m p ls (st i)) := by rw [q_lt]; rw [q_le] at cl; omega
        obtain ⟨e1, e2, U', q1, q2⟩ := ih f (i + 1) b mo U1 (by omega) (by omega) v2
        refine ⟨e1, e2, U', ?_, q2⟩
        rw [if_pos cl, ← q1]
        simp only [r_M_stories_L47, if_neg c, chk_t i1, t1, u51, if_neg e0, v1, Option.bind_some, jn, if_neg cl2, lt_k, nI_1]
      · have cl2 : mo < nI (fitN S n m p ls (st i)) := by rw [q_lt]; rw [q_le] at cl; omega
        obtain ⟨e1, e2, U', q1, q2⟩ := ih f (i + 1) (nI i) (nI (fitN S n m p ls (st i))) U1 (by omega) (by omega) v2
        refine ⟨e1, e2, U', ?_, q2⟩
        rw [if_neg cl, ← q1]
        simp only [r_M_stories_L47, if_neg c, chk_t i1, t1, u51, if_neg e0, v1, Option.bind_some, jn, if_pos cl2, lt_k, nI_1]
theorem st_stories {nL : Nat} {S : Sto} (h : Iv nL S) (x1 x2 : Int32) : ∃ (r : Int32) (S1 : Sto) (S2 : Sto), r_B_stories x1 x2 S = some (r, S1) ∧ r_M_stories x1 x2 S1 = some (r, S2) ∧ Iv nL S2 := by
  obtain ⟨n, hw, hm⟩ := h.wv
  obtain ⟨m, m0, m1, m2, m3, m4⟩ := h.sh
  obtain ⟨p, p0, p1, p2, p3⟩ := h.he
  by_cases c1 : r_B_within x1 0 3 = 0
  · exact ⟨-1, S, sw S 104 0 0, by simp only [r_B_stories, if_pos c1], by simp only [r_M_stories, ltS, if_pos (show r_M_isLaw x1 = 0 from iM_p c1)], h.t0⟩
  have c1M : ¬ r_M_isLaw x1 = 0 := iM_n c1
  by_cases c2 : r_B_within x2 0 6 = 0
  · exact ⟨-1, S, sw S 104 0 0, by simp only [r_B_stories, if_neg c1, if_pos c2], by simp only [r_M_stories, ltS, if_neg c1M, if_pos (iM_p c2)], h.t0⟩
  have c2' := win_n c2
  rw [z_0, show (6 : Int32).toInt = 6 by decide] at c2'
  obtain ⟨k, hk, rfl⟩ := law_0 c1
  obtain ⟨j, rfl, hj⟩ := q_nI c2'.1
  obtain ⟨ls, hS⟩ := h.2.2.2.2.2.2.2.2.2.2.2.2.2 k (by omega)
  have hst : ∃ st : Nat → Nat, ∀ j, j < 6 → st j < 2 ^ m ∧ S 51 j = nI (st j) ∧ S 131 j = nI (st j) := by
    refine ⟨fun j => if q : j < 6 then Classical.choose (m4 j q) else 0, fun j q => ?_⟩
    simp only [dif_pos q]
    exact Classical.choose_spec (m4 j q)
  obtain ⟨st, hst⟩ := hst
  by_cases c6 : (6 : Int32) ≤ nI j
  · obtain ⟨e1, e2, U', q1, q2⟩ := bs_LB hw hS hk m0 m3 p0 p1 p3 (fun j hj => ⟨(hst j hj).1, (hst j hj).2.1⟩) 6 fu 0 (-1) (-1) S (by omega) (by decide) (by decide) Sx.rf
    obtain ⟨e3, e4, T', q3, q4⟩ := bs_LM hw hm hS hk m0 m2 m3 p0 p2 p3 (fun j hj => ⟨(hst j hj).1, (hst j hj).2.2⟩) 6 fu 0 (-1) (-1) (sw U' 104 0 0) (by omega) (by decide) (q2.sw (by unfold Sc; omega))
    rw [show nI 0 = 0 from rfl] at q1 q3
    exact ⟨bsS (stF S n m p ls st) 6 0 (-1) (-1), U', T', by simp only [r_B_stories, if_neg c1, if_neg c2, if_pos c6, q1, Option.bind_some], by simp only [r_M_stories, ltS, if_neg c1M, if_neg (iM_n c2), if_pos c6, q3, Option.bind_some], q4.iv h⟩
  · have j6 : j < 6 := by
      refine Classical.not_not.mp (fun q => c6 (nI_le (a := 6) (by omega) (by omega)))
    have i1 : inr (nI j) 6 = true := inr_nI j6 (by decide)
    have t1 : (nI j).toNatClampNeg = j := q_tnI (by omega)
    obtain ⟨g1, g2, g3⟩ := hst j j6
    obtain ⟨U', q1, q2⟩ := fit_B hw hS hk m0 m3 p0 p1 p3 g1 Sx.rf
    obtain ⟨T', q3, q4⟩ := fit_M hw hm hS hk m0 m2 m3 p0 p2 p3 g1 j6 g3 (q2.sw (a := 104) (k := 0) (x := 0) (by unfold Sc; omega))
    exact ⟨nI (fitN S n m p ls (st j)), U', T', by simp only [r_B_stories, if_neg c1, if_neg c2, if_neg c6, chk_t i1, t1, g2, q1, Option.bind_some], by simp only [r_M_stories, ltS, if_neg c1M, if_neg (iM_n c2), if_neg c6, q3, Option.bind_some], q4.iv h⟩
