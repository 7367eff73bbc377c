/-! which slots each group asks, and that it stays where they stay -/
def uAir (a k : Nat) : Bool := (a == 104 && (decide (1 ≤ k) && decide (k ≤ 4))) || (a == 1 && decide (k < 3)) || (a == 0 && k == 11)
def uWal (a k : Nat) : Bool := (a == 1 && k == 4) || (a == 104 && k == 5) || (decide (3 ≤ a) && decide (a ≤ 12)) || (decide (105 ≤ a) && decide (a ≤ 109))
def uSpo (a k : Nat) : Bool := a == 17 || a == 110
def uSho (a k : Nat) : Bool := (a == 0 && k == 4) || (a == 104 && k == 12) || (decide (19 ≤ a) && decide (a ≤ 28)) || (decide (111 ≤ a) && decide (a ≤ 114)) || a == 51 || a == 131
def uByt (a k : Nat) : Bool := (a == 29 && k == 1) || (a == 104 && k == 27) || a == 30 || a == 118
def uFau (a k : Nat) : Bool := (a == 29 && (k == 2 || k == 3)) || (a == 104 && (k == 46 || k == 47))
def uHea (a k : Nat) : Bool := (a == 33 && k == 4) || (a == 104 && k == 50) || a == 47 || a == 48 || a == 129 || a == 130
def uEar (a k : Nat) : Bool := (a == 53 && k == 3) || (a == 104 && k == 54) || a == 52 || a == 55 || a == 56 || a == 132 || a == 133 || a == 134
def uCli (a k : Nat) : Bool := (decide (58 ≤ a) && decide (a < 90) && ((decide ((a - 58) % 8 = 0) && k == 3) || decide ((a - 58) % 8 = 1))) || a == 135 || a == 136
def uVoi (a k : Nat) : Bool := (decide (58 ≤ a) && decide (a < 90) && ((decide ((a - 58) % 8 = 2) && k == 3) || decide ((a - 58) % 8 = 3) || decide ((a - 58) % 8 = 4) || decide ((a - 58) % 8 = 5))) || a == 137 || a == 138 || a == 139
def uNoi (a k : Nat) : Bool := (a == 90 && k == 5) || (a == 104 && k == 65) || (decide (94 ≤ a) && decide (a ≤ 97)) || (decide (140 ≤ a) && decide (a ≤ 143))
def uBal (a k : Nat) : Bool := (a == 0 && (k == 14 || k == 15)) || (a == 104 && (k == 70 || k == 71))
def uWor (a k : Nat) : Bool := a == 119
def uLaw (a k : Nat) : Bool := ((a == 35 || a == 38 || a == 41 || a == 44 || a == 91) && k == 0) || (decide (120 ≤ a) && decide (a ≤ 125)) || decide (146 ≤ a) || a == 36 || a == 39 || a == 42 || a == 45 || a == 92
def uc (a k : Nat) : Bool := uAir a k || uWal a k || uSpo a k || uSho a k || uByt a k || uFau a k || uHea a k || uEar a k || uCli a k || uVoi a k || uNoi a k || uBal a k || uWor a k || uLaw a k
theorem uc_Air (a k : Nat) (h : uAir a k = true) : uc a k = true := by unfold uc; simp [h]
theorem uc_Wal (a k : Nat) (h : uWal a k = true) : uc a k = true := by unfold uc; simp [h]
theorem uc_Spo (a k : Nat) (h : uSpo a k = true) : uc a k = true := by unfold uc; simp [h]
theorem uc_Sho (a k : Nat) (h : uSho a k = true) : uc a k = true := by unfold uc; simp [h]
theorem uc_Byt (a k : Nat) (h : uByt a k = true) : uc a k = true := by unfold uc; simp [h]
theorem uc_Fau (a k : Nat) (h : uFau a k = true) : uc a k = true := by unfold uc; simp [h]
theorem uc_Hea (a k : Nat) (h : uHea a k = true) : uc a k = true := by unfold uc; simp [h]
theorem uc_Ear (a k : Nat) (h : uEar a k = true) : uc a k = true := by unfold uc; simp [h]
theorem uc_Cli (a k : Nat) (h : uCli a k = true) : uc a k = true := by unfold uc; simp [h]
theorem uc_Voi (a k : Nat) (h : uVoi a k = true) : uc a k = true := by unfold uc; simp [h]
theorem uc_Noi (a k : Nat) (h : uNoi a k = true) : uc a k = true := by unfold uc; simp [h]
theorem uc_Bal (a k : Nat) (h : uBal a k = true) : uc a k = true := by unfold uc; simp [h]
theorem uc_Wor (a k : Nat) (h : uWor a k = true) : uc a k = true := by unfold uc; simp [h]
theorem uc_Law (a k : Nat) (h : uLaw a k = true) : uc a k = true := by unfold uc; simp [h]
theorem gAir.keep {S S' : Sto} (h : gAir S) (ag : Ag uAir S S') : gAir S' := by
  unfold gAir at h ⊢
  rw [ag 104 1 rfl, ag 104 2 rfl, ag 104 3 rfl, ag 104 4 rfl, ag 1 0 rfl, ag 1 1 rfl, ag 1 2 rfl, ag 0 11 rfl]
  exact h
theorem gWal.keep {S S' : Sto} (h : gWal S) (ag : Ag uWal S S') : gWal S' := by
  obtain ⟨n, h0, h1, h2, h3⟩ := h
  refine ⟨n, h0, (ag 1 4 rfl).trans h1, (ag 104 5 rfl).trans h2, fun i hi => ?_⟩
  have w : ∀ k, S' (3 + i) k = S (3 + i) k := fun k => ag _ _ (by simp [uWal]; omega)
  rw [w 0, w 1, w 2, w 3, w 4, ag 105 i (by simp [uWal]), ag 106 i (by simp [uWal]), ag 107 i (by simp [uWal]), ag 108 i (by simp [uWal]), ag 109 i (by simp [uWal])]
  exact h3 i hi
theorem gSpo.keep {S S' : Sto} (h : gSpo S) (ag : Ag uSpo S S') : gSpo S' := by
  intro i hi
  rw [ag 110 i (by simp [uSpo]), ag 17 i (by simp [uSpo])]
  exact h i hi
theorem gSho.keep {S S' : Sto} (h : gSho S) (ag : Ag uSho S S') : gSho S' := by
  obtain ⟨n, h0, h1, h2, h3, h4⟩ := h
  refine ⟨n, h0, (ag 0 4 rfl).trans h1, (ag 104 12 rfl).trans h2, fun i hi => ?_, fun j hj => ?_⟩
  · have w : ∀ k, S' (19 + i) k = S (19 + i) k := fun k => ag _ _ (by simp [uSho]; omega)
    rw [w 0, w 1, w 2, w 3, ag 111 i (by simp [uSho]), ag 112 i (by simp [uSho]), ag 113 i (by simp [uSho]), ag 114 i (by simp [uSho])]
    exact h3 i hi
  · rw [ag 131 j (by simp [uSho]), ag 51 j (by simp [uSho])]
    exact h4 j hj
theorem gByt.keep {S S' : Sto} (h : gByt S) (ag : Ag uByt S S') : gByt S' := by
  obtain ⟨n, h0, h1, h2, h3⟩ := h
  refine ⟨n, h0, (ag 29 1 rfl).trans h1, (ag 104 27 rfl).trans h2, fun i hi => ?_⟩
  rw [ag 118 i (by simp [uByt]), ag 30 i (by simp [uByt])]
  exact h3 i hi
theorem gFau.keep {S S' : Sto} (h : gFau S) (ag : Ag uFau S S') : gFau S' := by
  unfold gFau at h ⊢
  rw [ag 104 46 rfl, ag 104 47 rfl, ag 29 2 rfl, ag 29 3 rfl]
  exact h
theorem gHea.keep {S S' : Sto} (h : gHea S) (ag : Ag uHea S S') : gHea S' := by
  obtain ⟨n, h0, h1, h2, h3⟩ := h
  refine ⟨n, h0, (ag 33 4 rfl).trans h1, (ag 104 50 rfl).trans h2, fun i hi => ?_⟩
  rw [ag 129 i (by simp [uHea]), ag 130 i (by simp [uHea]), ag 47 i (by simp [uHea]), ag 48 i (by simp [uHea])]
  exact h3 i hi
theorem gEar.keep {S S' : Sto} (h : gEar S) (ag : Ag uEar S S') : gEar S' := by
  obtain ⟨n, h0, h1, h2, h3, h4⟩ := h
  refine ⟨n, h0, (ag 53 3 rfl).trans h1, (ag 104 54 rfl).trans h2, fun i hi => ?_, fun i hi hj => ?_⟩
  · rw [ag 132 i (by simp [uEar]), ag 52 i (by simp [uEar]), ag 133 i (by simp [uEar]), ag 55 i (by simp [uEar]), ag 134 i (by simp [uEar]), ag 56 i (by simp [uEar])]
    exact h3 i hi
  · rw [ag 133 i (by simp [uEar])]
    exact h4 i hi hj
theorem gCli.keep {S S' : Sto} (h : gCli S) (ag : Ag uCli S S') : gCli S' := by
  intro t ht
  obtain ⟨n, h0, h1, h2, h3, h4⟩ := h t ht
  have w : ∀ k, S' (58 + 8 * t + 1) k = S (58 + 8 * t + 1) k := fun k => ag _ _ (by simp [uCli]; omega)
  refine ⟨n, h0, (ag _ _ (by simp [uCli]; omega)).trans h1, (ag 135 t (by simp [uCli])).trans h2, fun i hi => ?_, fun i j hi hj => ?_⟩
  · rw [w, ag 136 _ (by simp [uCli])]
    exact h3 i hi
  · rw [w, w]
    exact h4 i j hi hj
theorem gVoi.keep {S S' : Sto} (h : gVoi S) (ag : Ag uVoi S S') : gVoi S' := by
  intro t ht
  obtain ⟨n, h0, h1, h2, h3⟩ := h t ht
  have w1 : ∀ k, S' (58 + 8 * t + 2 + 1) k = S (58 + 8 * t + 2 + 1) k := fun k => ag _ _ (by simp [uVoi]; omega)
  have w2 : ∀ k, S' (58 + 8 * t + 2 + 2) k = S (58 + 8 * t + 2 + 2) k := fun k => ag _ _ (by simp [uVoi]; omega)
  have w3 : ∀ k, S' (58 + 8 * t + 2 + 3) k = S (58 + 8 * t + 2 + 3) k := fun k => ag _ _ (by simp [uVoi]; omega)
  refine ⟨n, h0, (ag _ _ (by simp [uVoi]; omega)).trans h1, (ag 137 t (by simp [uVoi])).trans h2, fun i hi => ?_⟩
  rw [w1, w2, w3, ag 138 _ (by simp [uVoi]), ag 139 _ (by simp [uVoi])]
  exact h3 i hi
theorem gNoi.keep {S S' : Sto} (h : gNoi S) (ag : Ag uNoi S S') : gNoi S' := by
  obtain ⟨n, h0, h1, h2, h3⟩ := h
  refine ⟨n, h0, (ag 90 5 rfl).trans h1, (ag 104 65 rfl).trans h2, fun i hi => ?_⟩
  rw [ag 140 i (by simp [uNoi]), ag 141 i (by simp [uNoi]), ag 142 i (by simp [uNoi]), ag 143 i (by simp [uNoi]), ag 94 i (by simp [uNoi]), ag 95 i (by simp [uNoi]), ag 96 i (by simp [uNoi]), ag 97 i (by simp [uNoi])]
  exact h3 i hi
theorem gBal.keep {S S' : Sto} (h : gBal S) (ag : Ag uBal S S') : gBal S' := by
  unfold gBal at h ⊢
  rw [ag 104 70 rfl, ag 104 71 rfl, ag 0 14 rfl, ag 0 15 rfl]
  exact h
theorem gWor.keep {S S' : Sto} (h : gWor S) (ag : Ag uWor S S') : gWor S' := by
  intro i hi
  rw [ag 119 i (by simp [uWor])]
  exact h i hi
theorem scA_u {k : Nat} (hk : k < 5) : uLaw (scA k) 0 = true := by
  have : k = 0 ∨ k = 1 ∨ k = 2 ∨ k = 3 ∨ k = 4 := by omega
  rcases this with rfl | rfl | rfl | rfl | rfl <;> rfl
theorem row_u {k c : Nat} (hk : k < 5) (h : 146 ≤ c ∨ c = scA k + 1) (j : Nat) : uLaw c j = true := by
  rcases h with h | h
  · simp [uLaw, h]
  · have : k = 0 ∨ k = 1 ∨ k = 2 ∨ k = 3 ∨ k = 4 := by omega
    subst h
    rcases this with rfl | rfl | rfl | rfl | rfl <;> simp [uLaw, scA]
theorem Scr.keep {nL n2 k : Nat} {S S' : Sto} {ls : List (Nat × Cod)} (hk : k < 5) (h : Scr nL k S ls) (ag : Ag uLaw S S') (hn : nL ≤ n2) : Scr n2 k S' ls := by
  obtain ⟨h1, h2, h3, h4, h5, h6, h7, h8, h9⟩ := h
  have e := ag (scA k) 0 (scA_u hk)
  have r := row_u hk h1
  unfold Scr
  rw [e]
  refine ⟨h1, by omega, (ag _ _ (r _)).trans h3, h4, fun i q hq => (ag _ _ (r _)).trans (h5 i q hq), h6, (ag 120 k (by simp [uLaw])).trans h7, h8, fun j l hl => ?_⟩
  obtain ⟨g1, g2, g3, g4, g5, g6, g7, g8⟩ := h9 j l hl
  exact ⟨(ag 121 _ (by simp [uLaw])).trans g1, (ag 122 _ (by simp [uLaw])).trans g2, (ag 123 _ (by simp [uLaw])).trans g3, g4, g5, g6, g7, fun i q hq => ⟨(ag 124 _ (by simp [uLaw])).trans (g8 i q hq).1, (ag 125 _ (by simp [uLaw])).trans (g8 i q hq).2⟩⟩
theorem gLaw.keep {nL : Nat} {S S' : Sto} (h : gLaw nL S) (ag : Ag uLaw S S') : gLaw nL S' := fun k hk => by
  obtain ⟨ls, hls⟩ := h k hk
  exact ⟨ls, hls.keep hk ag (Nat.le_refl _)⟩
theorem Iv.keep {nL : Nat} {S S' : Sto} (h : Iv nL S) (ag : Ag uc S S') : Iv nL S' := by
  obtain ⟨h1, h2, h3, h4, h5, h6, h7, h8, h9, h10, h11, h12, h13, h14⟩ := h
  exact ⟨h1.keep (ag.le uc_Air), h2.keep (ag.le uc_Wal), h3.keep (ag.le uc_Spo), h4.keep (ag.le uc_Sho), h5.keep (ag.le uc_Byt), h6.keep (ag.le uc_Fau), h7.keep (ag.le uc_Hea), h8.keep (ag.le uc_Ear), h9.keep (ag.le uc_Cli), h10.keep (ag.le uc_Voi), h11.keep (ag.le uc_Noi), h12.keep (ag.le uc_Bal), h13.keep (ag.le uc_Wor), h14.keep (ag.le uc_Law)⟩
