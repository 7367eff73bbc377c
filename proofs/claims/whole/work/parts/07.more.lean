def nz (y : Int32) : Bool := decide (¬ y = 0)
theorem nz_ne {y : Int32} (h : nz y = true) : ¬ y = 0 := of_decide_eq_true h
theorem some_ite {α : Type} {c : Prop} [Decidable c] {a b : α} : some (if c then a else b) = if c then some a else some b := by split <;> rfl
/-- how often a loop may go round -/
def fu : Nat := 5000
section More
variable {g : Gm} {Y : Ym} {G : Gl} {β γ α δ : Type} {Qf : γ → State → Prop} {k n pc : Nat} {lv lv' : List (Nat × Value)} {st : List Value} {L : Shp} {S : Sto} {o o1 o2 : Option β} {K : β → Option γ}
theorem v_sub (ks : List Nat) (h : lv_pick lv ks = lv') (kk : VO g Y G Qf k n pc lv' st L S o K) : VO g Y G Qf k n pc lv st L S o K :=
  fun x hx H locs ls h1 h2 h3 => kk x hx H locs ls h1 h2 (lv_sub h3 ks h)
theorem jl_eq (x : Int64) : jl (jhi x) (jlo x) = x := by
  apply Int64.toBitVec_inj.mp
  unfold jl jhi jlo
  apply BitVec.eq_of_getLsbD_eq
  intro i hi
  simp only [Int64.toBitVec_or, Int64.toBitVec_and, Int64.toBitVec_shiftLeft, Int64.toBitVec_shiftRight, Int32.toBitVec_toInt64, Int64.toBitVec_toInt32]
  rw [show (Int64.toBitVec 32).smod 64 = 32#64 by decide, show Int64.toBitVec 4294967295 = 4294967295#64 by decide]
  have hm : ∀ i, i < 64 → (4294967295#64).getLsbD i = decide (i < 32) := by decide +kernel
  rw [BitVec.getLsbD_or, BitVec.getLsbD_and, hm i hi, BitVec.shiftLeft_eq', BitVec.getLsbD_shiftLeft, BitVec.getLsbD_signExtend, BitVec.getLsbD_signExtend, BitVec.getLsbD_signExtend, BitVec.getLsbD_signExtend, BitVec.sshiftRight_eq', BitVec.getLsbD_sshiftRight]
  by_cases h : i < 32
  · simp [h, hi]
  · simp [h, hi]
    have h1 : i - 32 < 32 := by omega
    have h2 : i - 32 < 64 := by omega
    have h3 : ¬ 64 ≤ i - 32 := by omega
    have h4 : 32 + (i - 32) = i := by omega
    simp [h1, h2, h3, h4, hi]
theorem sw2_a (S : Sto) (a i j : Nat) (x y : Int32) : sw (sw S a i x) a j y = sr S a (upd (upd (S a) i x) j y) := by
  funext b
  by_cases h : b = a
  · subst h; simp [sw, sr]
  · simp [sw, sr, h]
theorem v_last (C : Cx g Y G) {a m : Nat} {r : List Nat} {i : Int32} {y : Int64} {f : Sto → Option β} (hL : L[a]? = some (4, m, r)) (d : decode (mB Y) pc = .ok (.lastore, 1)) (kk : inr i m = true → ∀ S, VO g Y G Qf k n (pc + 1) lv st L S (f S) K) : VO g Y G Qf k n pc lv (.long y :: .int i :: rf G a :: st) L S (chk (inr i m) (ltS (sw (sw S a (2 * i.toNatClampNeg) (jhi y)) a (2 * i.toNatClampNeg + 1) (jlo y)) f)) K := by
  refine v_chk (fun hb x hx H locs ls h1 h2 h3 => ?_)
  have hw := wld_get (G := G) (S := S) hL
  refine W.last C.1 C.2.1 (h1.1 a _ hw) ((C.K.1.2 3 _ rfl).1 m (fun j => .long (jl (S a (2 * j)) (S a (2 * j + 1))))) (fun q => by cases q) (by show ¬ (i < 0 ∨ (arrV _ _ _).slots.size ≤ _); rw [arrV_size]; exact inr_in hb) rfl rfl d fun H1 e z oq => ?_
  have hrep : Rep G L (sr S a (upd (upd (S a) (2 * i.toNatClampNeg) (jhi y)) (2 * i.toNatClampNeg + 1) (jlo y))) H1 := by
    refine h1.up hL rfl ?_ z oq
    show H1[gB G + a]? = some (vp_cell _ _)
    rw [e]
    show some ((vp_cell (gA G 3) (m, .inr (.inl (fun j => jl (S a (2 * j)) (S a (2 * j + 1)))))).setSlot _ _) = _
    rw [vp_cell_l, vp_cell_l, arrV_store]
    congr 2
    funext q
    by_cases hq : q = i.toNatClampNeg
    · subst hq
      simp only [updV, if_true]
      rw [pk_us, pk_un (by omega), pk_us, jl_eq]
    · simp only [updV, hq, if_false]
      rw [pk_un (by omega), pk_un (by omega), pk_un (by omega), pk_un (by omega)]
  rw [← sw2_a] at hrep
  exact kk hb _ x hx H1 _ ls hrep (h2.put z oq (Nat.le_add_right _ _)) h3
end More
