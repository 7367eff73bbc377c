/-- the spots that are told, from spot i on -/
theorem spots_L {Z S T : Sto} (hz : gSpo Z) (hS : ∀ i, i < 10 → S 17 i = Z 17 i) (hM : ∀ i, i < 10 → T 110 i = Z 110 i) : ∀ (d f i a : Nat), i + d = 10 → d < f → a < 1024 → ∃ b, b < 1024 ∧ r_B_toldSpots_L4 f (nI a) (nI i) S = some (nI b, nI 10) ∧ r_M_there_L4 f (nI a) (nI i) T = some (nI b, nI 10) := by
  intro d
  induction d with
  | zero =>
    intro f i a hi hf ha
    obtain ⟨f, rfl⟩ : ∃ g, f = g + 1 := ⟨f - 1, by omega⟩
    have e : i = 10 := by omega
    subst e
    have c : (10 : Int32) ≤ nI 10 := by decide
    exact ⟨a, ha, by rw [r_B_toldSpots_L4, if_pos c], by rw [r_M_there_L4, if_pos c]⟩
  | succ d ih =>
    intro f i a hi hf ha
    obtain ⟨f, rfl⟩ : ∃ g, f = g + 1 := ⟨f - 1, by omega⟩
    have hi10 : i < 10 := by omega
    have ei : (nI i).toInt = i := q_n (by omega)
    have c : ¬ (10 : Int32) ≤ nI i := by
      rw [q_le, ei, show (10 : Int32).toInt = 10 by decide]
      omega
    have c2 : ¬ r_M_isIn (nI i) 0 9 = 0 := by
      rw [iM_0, z_0, ei, show (9 : Int32).toInt = 9 by decide]
      omega
    have i1 : inr (nI i) 10 = true := inr_nI hi10 (by decide)
    have tn : (nI i).toNatClampNeg = i := q_tnI (by omega)
    have n0 : ¬ (1 : Int32) = 0 := by decide
    have e1 : T 110 i = S 17 i := by rw [hM i hi10, hS i hi10]; exact (hz i hi10).1
    by_cases k : S 17 i = -1
    · obtain ⟨b, hb, q1, q2⟩ := ih f (i + 1) a (by omega) (by omega) ha
      refine ⟨b, hb, ?_, ?_⟩
      · simp only [r_B_toldSpots_L4, if_neg c, chk_t i1, jn, lt, tn, if_pos k, nI_1]
        exact q1
      · simp only [r_M_there_L4, r_M_isSpot, if_neg c, if_neg c2, chk_t i1, jn, lt, tn, e1, if_pos k, nI_1, Option.bind_some, ite_true]
        exact q2
    · obtain ⟨b, hb, q1, q2⟩ := ih f (i + 1) (a ||| 1 <<< i) (by omega) (by omega) (or_lt i hi10 a ha)
      have eo := or_all i hi10 a ha
      refine ⟨b, hb, ?_, ?_⟩
      · simp only [r_B_toldSpots_L4, if_neg c, chk_t i1, jn, lt, tn, if_neg k, nI_1, eo]
        exact q1
      · simp only [r_M_there_L4, r_M_isSpot, if_neg c, if_neg c2, chk_t i1, jn, lt, tn, e1, if_neg k, if_neg n0, nI_1, Option.bind_some, eo]
        exact q2
theorem spots_told {Z S T : Sto} (hz : gSpo Z) (hS : ∀ i, i < 10 → S 17 i = Z 17 i) (hM : ∀ i, i < 10 → T 110 i = Z 110 i) : ∃ b, b < 1024 ∧ r_B_toldSpots S = some (nI b) ∧ r_M_there T = some (nI b) := by
  obtain ⟨b, hb, q1, q2⟩ := spots_L hz hS hM 10 fu 0 0 (by omega) (by decide) (by omega)
  have z : nI 0 = 0 := rfl
  rw [z] at q1 q2
  exact ⟨b, hb, by rw [r_B_toldSpots, q1]; rfl, by rw [r_M_there, q2]; rfl⟩
theorem st_look {nL : Nat} {S : Sto} (h : Iv nL S) (x1 : Int32) : ∃ (r : Int32) (S2 : Sto), r_B_look x1 S = some r ∧ r_M_look x1 S = some (r, S2) ∧ Iv nL S2 := by
  obtain ⟨h1, ⟨n2, a2, b2, c2, d2⟩, h3, ⟨n4, a4, b4, c4, d4⟩, h5, h6, ⟨n7, a7, b7, c7, d7⟩, ⟨n8, a8, b8, c8, d8⟩, h9, h10, ⟨n11, a11, b11, c11, d11⟩, h12, h13, h14⟩ := id h
  by_cases k0 : x1 = 0
  · exact ⟨nI n2, sw S 104 0 0, by simp only [r_B_look, if_pos k0, b2], by simp (disch := omega) only [r_M_look, ltS, if_pos k0, rd_ne, c2], h.t0⟩
  by_cases k1 : x1 = 1
  · exact ⟨nI n4, sw S 104 0 0, by simp only [r_B_look, if_neg k0, if_pos k1, b4], by simp (disch := omega) only [r_M_look, ltS, if_neg k0, if_pos k1, rd_ne, c4], h.t0⟩
  by_cases k2 : x1 = 2
  · exact ⟨nI n7, sw S 104 0 0, by simp only [r_B_look, if_neg k0, if_neg k1, if_pos k2, b7], by simp (disch := omega) only [r_M_look, ltS, if_neg k0, if_neg k1, if_pos k2, rd_ne, c7], h.t0⟩
  by_cases k3 : x1 = 3
  · exact ⟨nI n8, sw S 104 0 0, by simp only [r_B_look, if_neg k0, if_neg k1, if_neg k2, if_pos k3, b8], by simp (disch := omega) only [r_M_look, ltS, if_neg k0, if_neg k1, if_neg k2, if_pos k3, rd_ne, c8], h.t0⟩
  by_cases k4 : x1 = 4
  · exact ⟨nI n11, sw S 104 0 0, by simp only [r_B_look, if_neg k0, if_neg k1, if_neg k2, if_neg k3, if_pos k4, b11], by simp (disch := omega) only [r_M_look, ltS, if_neg k0, if_neg k1, if_neg k2, if_neg k3, if_pos k4, rd_ne, c11], h.t0⟩
  by_cases k5 : x1 = 5
  · obtain ⟨b', hb', q1, q2⟩ := spots_told (S := S) (T := sw S 104 0 0) h3 (fun _ _ => rfl) (fun i _ => by rw [rd_ne (by omega)])
    exact ⟨r_Ig_bitCount (nI b'), sw S 104 0 0, by simp only [r_B_look, if_neg k0, if_neg k1, if_neg k2, if_neg k3, if_neg k4, if_pos k5, q1, Option.bind_some], by simp (disch := omega) only [r_M_look, ltS, if_neg k0, if_neg k1, if_neg k2, if_neg k3, if_neg k4, if_pos k5, q2, ones_all b' hb', Option.bind_some], h.t0⟩
  · exact ⟨-1, sw S 104 0 0, by simp only [r_B_look, if_neg k0, if_neg k1, if_neg k2, if_neg k3, if_neg k4, if_neg k5], by simp (disch := omega) only [r_M_look, ltS, if_neg k0, if_neg k1, if_neg k2, if_neg k3, if_neg k4, if_neg k5], h.t0⟩
