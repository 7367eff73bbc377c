abbrev iniT (S : Sto) : Prop :=
  (S 104 1 = 3 ∧ S 1 0 = 3 ∧ S 104 2 = 0 ∧ S 1 1 = 0 ∧ S 104 3 = 0 ∧ S 1 2 = 0 ∧ S 104 4 = 5 ∧ S 0 11 = 5) ∧
  (S 1 4 = nI 0 ∧ S 104 5 = nI 0) ∧
  (∀ i, i < 10 → S 110 i = -1 ∧ S 17 i = -1) ∧
  (S 0 4 = nI 0 ∧ S 104 12 = nI 0 ∧ ∀ j, j < 6 → S 131 j = 0 ∧ S 51 j = 0) ∧
  (S 29 1 = nI 0 ∧ S 104 27 = nI 0) ∧
  (S 104 46 = S 29 2 ∧ S 104 47 = S 29 3) ∧
  (S 33 4 = nI 0 ∧ S 104 50 = nI 0) ∧
  (S 53 3 = nI 0 ∧ S 104 54 = nI 0 ∧ ∀ i, i < 8 → S 133 i = -1) ∧
  (∀ t, t < 4 → S (58 + 8 * t) 3 = nI 0 ∧ S 135 t = nI 0 ∧ S (58 + 8 * t + 2) 3 = nI 0 ∧ S 137 t = nI 0) ∧
  (S 90 5 = nI 0 ∧ S 104 65 = nI 0) ∧
  (S 104 70 = S 0 14 ∧ S 0 14 = -1) ∧
  (∀ i, i < 96 → S 119 i = wordsL.getD i 0) ∧
  (∀ k, k < 5 → (S (scA k) 0).toNatClampNeg = scA k + 1 ∧ S (scA k + 1) 400 = nI 0 ∧ S 120 k = nI 0)
def iniB : Bool := match ri_B_init_0 (sr (fun _ _ => 0) 0 (fun _ => 0)) with
  | none => false
  | some S2 => match ri_M_init_0 (sr S2 104 (fun _ => 0)) with
    | none => false
    | some S4 => decide (iniT S4)
theorem iniB_t : iniB = true := by decide +kernel
theorem ini_ex : ∃ S2 S4, ri_B_init_0 (sr (fun _ _ => 0) 0 (fun _ => 0)) = some S2 ∧ ri_M_init_0 (sr S2 104 (fun _ => 0)) = some S4 ∧ iniT S4 := by
  have h := iniB_t
  unfold iniB at h
  cases e1 : ri_B_init_0 (sr (fun _ _ => 0) 0 (fun _ => 0)) with
  | none => rw [e1] at h; cases h
  | some S2 =>
    rw [e1] at h
    dsimp only at h
    cases e2 : ri_M_init_0 (sr S2 104 (fun _ => 0)) with
    | none => rw [e2] at h; cases h
    | some S4 =>
      rw [e2] at h
      exact ⟨S2, S4, rfl, e2, of_decide_eq_true h⟩
theorem st_init : ∃ (S2 : Sto) (S4 : Sto), ri_B_init_0 (sr (fun _ _ => 0) 0 (fun _ => 0)) = some S2 ∧ ri_M_init_0 (sr S2 104 (fun _ => 0)) = some S4 ∧ Iv 146 S4 := by
  obtain ⟨S2, S, e1, e2, ⟨a1, a2, a3, a4, a5, a6, a7, a8⟩, ⟨b1, b2⟩, c1, ⟨d1, d2, d3⟩, ⟨f1, f2⟩, g1, ⟨k1, k2⟩, ⟨l1, l2, l3⟩, m1, ⟨n1, n2⟩, ⟨o1, o2⟩, p1, q1⟩ := ini_ex
  refine ⟨S2, S, e1, e2, ?_, ⟨0, by omega, b1, b2, fun i hi => by omega⟩, fun i hi => ?_, ⟨0, by omega, d1, d2, fun i hi => by omega, fun j hj => ?_⟩, ⟨0, by omega, f1, f2, fun i hi => by omega⟩, g1, ⟨0, by omega, k1, k2, fun i hi => by omega⟩, ⟨0, by omega, l1, l2, fun i hi => by omega, fun i _ hi => l3 i hi⟩, fun t ht => ?_, fun t ht => ?_, ⟨0, by omega, n1, n2, fun i hi => by omega⟩, ⟨o1, Or.inl o2⟩, p1, fun k hk => ?_⟩
  · unfold gAir btw
    rw [a1, a2, a3, a4, a5, a6, a7, a8]
    decide
  · rw [(c1 i hi).1, (c1 i hi).2]
    exact ⟨rfl, Or.inl rfl⟩
  · rw [(d3 j hj).1, (d3 j hj).2]
    exact ⟨rfl, by unfold btw; decide⟩
  · exact ⟨0, by omega, (m1 t ht).1, (m1 t ht).2.1, fun i hi => by omega, fun i j _ hj => by omega⟩
  · exact ⟨0, by omega, (m1 t ht).2.2.1, (m1 t ht).2.2.2, fun i hi => by omega⟩
  · obtain ⟨r1, r2, r3⟩ := q1 k hk
    refine ⟨[], ?_⟩
    unfold Scr
    rw [r1]
    refine ⟨Or.inr rfl, ?_, r2, by decide, fun i q hq => by simp [lnsC] at hq, by decide, r3, ?_, fun j l hl => by simp at hl⟩
    · have : ∀ k, k < 5 → scA k + 1 < 146 := by decide
      exact this k hk
    · simp [begL]
