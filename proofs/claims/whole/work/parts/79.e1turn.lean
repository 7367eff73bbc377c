theorem way_B (a0 : Nat) (x1 x2 : Int32) (S : Sto) : r_Wl_wayBack a0 x1 x2 S = some (dst (sdS (S a0 0) (S a0 1) x1 + sdS (S a0 0) (S a0 1) x2) (alS (S a0 0) x2 - alS (S a0 0) x1)) := by
  simp only [r_Wl_wayBack, side_B, along_B, Option.bind_some, (dst_B _ _).1]
/-- a turn of the class's echoes where no wall sends one -/
theorem turn_0 {a1 i f : Nat} {x3 y2 : Int32} {S : Sto} (hi : i < 10) (hv : S 1 4 ≤ nI i ∨ r_Wl_crossing (3 + 1 * i) (S a1 0) y2 S = some (-1)) :
    r_Hd_listenBack_L15 a1 y2 (f + 1) x3 (nI i) S = r_Hd_listenBack_L15 a1 y2 f x3 (nI (i + 1)) (sw (sw (sw S 16 i (-1)) 14 i (-1)) 15 i (-1)) := by
  have i1 : inr (nI i) 10 = true := inr_nI hi (by decide)
  have tn : (nI i).toNatClampNeg = i := q_tnI (by omega)
  have ei : (nI i).toInt = i := q_n (by omega)
  have c : ¬ (10 : Int32) ≤ nI i := by
    rw [q_le, ei, show (10 : Int32).toInt = 10 by decide]
    omega
  by_cases k : S 1 4 ≤ nI i
  · simp (disch := omega) only [r_Hd_listenBack_L15, if_neg c, chk_t i1, tn, ltN, ltS, lt, jn, if_pos k, rd_ne, sw_same, ite_true, nI_1]
  · have hv := hv.resolve_left k
    simp (disch := omega) only [r_Hd_listenBack_L15, if_neg c, chk_t i1, tn, ltN, ltS, lt, jn, if_neg k, hv, Option.bind_some, rd_ne, sw_same, ite_true, nI_1]
/-- a turn where a wall sends one -/
def tnS (i : Nat) (K t d L : Int32) (S : Sto) : Sto := sw (sw (sw (sw (sw (sw S 16 i K) 14 i (-1)) 15 i (-1)) 14 i (t + S 1 0 * d)) 15 i L) 13 6 (S 13 6 + 1)
theorem turn_1 {a1 i f : Nat} {x3 y2 K d : Int32} {S : Sto} (hi : i < 10) (ha : a1 ≠ 13 ∧ a1 ≠ 14 ∧ a1 ≠ 15 ∧ a1 ≠ 16) (hk : ¬ S 1 4 ≤ nI i) (hv : r_Wl_crossing (3 + 1 * i) (S a1 0) y2 S = some K) (hK : ¬ K = -1) (hd : dst (sdS (S (3 + 1 * i) 0) (S (3 + 1 * i) 1) (S a1 0) + sdS (S (3 + 1 * i) 0) (S (3 + 1 * i) 1) y2) (alS (S (3 + 1 * i) 0) y2 - alS (S (3 + 1 * i) 0) (S a1 0)) = d) :
    r_Hd_listenBack_L15 a1 y2 (f + 1) x3 (nI i) S = (if ((100 - S (3 + 1 * i) 4) * lou d) / 100 ≤ x3 then r_Hd_listenBack_L15 a1 y2 f x3 (nI (i + 1)) (tnS i K (S a1 1) d (((100 - S (3 + 1 * i) 4) * lou d) / 100) S) else r_Hd_listenBack_L15 a1 y2 f (((100 - S (3 + 1 * i) 4) * lou d) / 100) (nI (i + 1)) (sw (tnS i K (S a1 1) d (((100 - S (3 + 1 * i) 4) * lou d) / 100) S) 13 7 (nI i))) := by
  have i1 : inr (nI i) 10 = true := inr_nI hi (by decide)
  have tn : (nI i).toNatClampNeg = i := q_tnI (by omega)
  have ei : (nI i).toInt = i := q_n (by omega)
  have c : ¬ (10 : Int32) ≤ nI i := by
    rw [q_le, ei, show (10 : Int32).toInt = 10 by decide]
    omega
  have dn : 0 ≤ d.toInt ∧ d.toInt ≤ 256 := by rw [← hd]; exact (dst_B _ _).2
  have lB := lou_B (d := d) dn.1 (by omega)
  have hq : ∀ (S' : Sto), (∀ k, S' (3 + 1 * i) k = S (3 + 1 * i) k) → r_Wl_wayBack (3 + 1 * i) (S a1 0) y2 S' = some d := by
    intro S' h
    rw [way_B, h, h, hd]
  obtain ⟨h13, h14, h15, h16⟩ := ha
  have hw := hq (sw (sw (sw S 16 i K) 14 i (-1)) 15 i (-1)) (fun k => by simp (disch := omega) only [rd_ne])
  unfold tnS
  simp (disch := omega) only [r_Hd_listenBack_L15, if_neg c, chk_t i1, tn, ltN, ltS, lt, jn, if_neg hk, hv, Option.bind_some, rd_ne, sw_same, if_neg hK, hw, lB, nI_1]
