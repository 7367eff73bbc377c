theorem d_Pre_checkIndex_0 : decode (mB Y_Pre_checkIndex) 0 = .ok (.iload_n 0, 1) := by decide +kernel
theorem d_Pre_checkIndex_1 : decode (mB Y_Pre_checkIndex) 1 = .ok (.ifCond .lt 8, 3) := by decide +kernel
theorem d_Pre_checkIndex_4 : decode (mB Y_Pre_checkIndex) 4 = .ok (.iload_n 0, 1) := by decide +kernel
theorem d_Pre_checkIndex_5 : decode (mB Y_Pre_checkIndex) 5 = .ok (.iload_n 1, 1) := by decide +kernel
theorem d_Pre_checkIndex_6 : decode (mB Y_Pre_checkIndex) 6 = .ok (.if_icmp .lt 10, 3) := by decide +kernel
theorem d_Pre_checkIndex_9 : decode (mB Y_Pre_checkIndex) 9 = .ok (.aload_n 2, 1) := by decide +kernel
theorem d_Pre_checkIndex_10 : decode (mB Y_Pre_checkIndex) 10 = .ok (.iload_n 0, 1) := by decide +kernel
theorem d_Pre_checkIndex_11 : decode (mB Y_Pre_checkIndex) 11 = .ok (.iload_n 1, 1) := by decide +kernel
theorem d_Pre_checkIndex_12 : decode (mB Y_Pre_checkIndex) 12 = .ok (.invokestatic 95, 3) := by decide +kernel
theorem d_Pre_checkIndex_15 : decode (mB Y_Pre_checkIndex) 15 = .ok (.athrow, 1) := by decide +kernel
theorem d_Pre_checkIndex_16 : decode (mB Y_Pre_checkIndex) 16 = .ok (.iload_n 0, 1) := by decide +kernel
theorem d_Pre_checkIndex_17 : decode (mB Y_Pre_checkIndex) 17 = .ok (.ireturn, 1) := by decide +kernel
theorem d_Str_checkIndex_0 : decode (mB Y_Str_checkIndex) 0 = .ok (.iload_n 0, 1) := by decide +kernel
theorem d_Str_checkIndex_1 : decode (mB Y_Str_checkIndex) 1 = .ok (.iload_n 1, 1) := by decide +kernel
theorem d_Str_checkIndex_2 : decode (mB Y_Str_checkIndex) 2 = .ok (.getstatic 1053, 3) := by decide +kernel
theorem d_Str_checkIndex_5 : decode (mB Y_Str_checkIndex) 5 = .ok (.invokestatic 1059, 3) := by decide +kernel
theorem d_Str_checkIndex_8 : decode (mB Y_Str_checkIndex) 8 = .ok (.pop, 1) := by decide +kernel
theorem d_Str_checkIndex_9 : decode (mB Y_Str_checkIndex) 9 = .ok (.return_, 1) := by decide +kernel
theorem d_Ar_copyOf_0 : decode (mB Y_Ar_copyOf) 0 = .ok (.iload_n 1, 1) := by decide +kernel
theorem d_Ar_copyOf_1 : decode (mB Y_Ar_copyOf) 1 = .ok (.aload_n 0, 1) := by decide +kernel
theorem d_Ar_copyOf_2 : decode (mB Y_Ar_copyOf) 2 = .ok (.arraylength, 1) := by decide +kernel
theorem d_Ar_copyOf_3 : decode (mB Y_Ar_copyOf) 3 = .ok (.if_icmp .ne 11, 3) := by decide +kernel
theorem d_Ar_copyOf_6 : decode (mB Y_Ar_copyOf) 6 = .ok (.aload_n 0, 1) := by decide +kernel
theorem d_Ar_copyOf_7 : decode (mB Y_Ar_copyOf) 7 = .ok (.invokevirtual 316, 3) := by decide +kernel
theorem d_Ar_copyOf_10 : decode (mB Y_Ar_copyOf) 10 = .ok (.checkcast 317, 3) := by decide +kernel
theorem d_Ar_copyOf_13 : decode (mB Y_Ar_copyOf) 13 = .ok (.areturn, 1) := by decide +kernel
theorem d_Ar_copyOf_14 : decode (mB Y_Ar_copyOf) 14 = .ok (.iload_n 1, 1) := by decide +kernel
theorem d_Ar_copyOf_15 : decode (mB Y_Ar_copyOf) 15 = .ok (.newarray .int, 2) := by decide +kernel
theorem d_Ar_copyOf_17 : decode (mB Y_Ar_copyOf) 17 = .ok (.astore_n 2, 1) := by decide +kernel
theorem d_Ar_copyOf_18 : decode (mB Y_Ar_copyOf) 18 = .ok (.aload_n 0, 1) := by decide +kernel
theorem d_Ar_copyOf_19 : decode (mB Y_Ar_copyOf) 19 = .ok (.iconst 0, 1) := by decide +kernel
theorem d_Ar_copyOf_20 : decode (mB Y_Ar_copyOf) 20 = .ok (.aload_n 2, 1) := by decide +kernel
theorem d_Ar_copyOf_21 : decode (mB Y_Ar_copyOf) 21 = .ok (.iconst 0, 1) := by decide +kernel
theorem d_Ar_copyOf_22 : decode (mB Y_Ar_copyOf) 22 = .ok (.aload_n 0, 1) := by decide +kernel
theorem d_Ar_copyOf_23 : decode (mB Y_Ar_copyOf) 23 = .ok (.arraylength, 1) := by decide +kernel
theorem d_Ar_copyOf_24 : decode (mB Y_Ar_copyOf) 24 = .ok (.iload_n 1, 1) := by decide +kernel
theorem d_Ar_copyOf_25 : decode (mB Y_Ar_copyOf) 25 = .ok (.invokestatic 304, 3) := by decide +kernel
theorem d_Ar_copyOf_28 : decode (mB Y_Ar_copyOf) 28 = .ok (.invokestatic 150, 3) := by decide +kernel
theorem d_Ar_copyOf_31 : decode (mB Y_Ar_copyOf) 31 = .ok (.aload_n 2, 1) := by decide +kernel
theorem d_Ar_copyOf_32 : decode (mB Y_Ar_copyOf) 32 = .ok (.areturn, 1) := by decide +kernel
theorem ro_Str_checkIndex_Pre_checkIndex : roomy Y_Str_checkIndex Y_Pre_checkIndex := ⟨Nat.le_of_ble_eq_true rfl, Nat.le_of_ble_eq_true rfl⟩
theorem ro_Ar_copyOf_Ma_min : roomy Y_Ar_copyOf Y_Ma_min := ⟨Nat.le_of_ble_eq_true rfl, Nat.le_of_ble_eq_true rfl⟩
def r_Pre_checkIndex_n (x0 x1 : Int32) : Option Int32 := if x0 < 0 then none else if x0 < x1 then some x0 else none
set_option maxHeartbeats 4000000 in
theorem c_Pre_checkIndex_n {G : Gl} {L : Shp} (S : Sto) (x0 x1 : Int32) : Ct Y_Pre_checkIndex G [.int x0, .int x1, .null] L S (fp L S) (r_Pre_checkIndex_n x0 x1) := by
  refine ct_of (by decide +kernel) (Nat.le_of_ble_eq_true rfl) (fun g C => ?_)
  show VO g Y_Pre_checkIndex G (fun z => Qm g Y_Pre_checkIndex G (fp L S z)) 0 0 0 [(0, .int x0), (1, .int x1), (2, .null)] [] L S (r_Pre_checkIndex_n x0 x1) some
  unfold r_Pre_checkIndex_n
  refine v_iload_n (pc := 0) C d_Pre_checkIndex_0 rfl 0 rfl ?_
  refine v_if_lt (pc := 1) (tgt := 9) C d_Pre_checkIndex_1 rfl (fun _ => v_none) (fun _ => ?_)
  refine v_iload_n (pc := 4) C d_Pre_checkIndex_4 rfl 0 rfl ?_
  refine v_iload_n (pc := 5) C d_Pre_checkIndex_5 rfl 1 rfl ?_
  refine v_icmp_lt (pc := 6) (tgt := 16) C d_Pre_checkIndex_6 rfl (fun _ => ?_) (fun _ => v_none)
  refine v_iload_n (pc := 16) C d_Pre_checkIndex_16 rfl 0 rfl ?_
  exact v_iret (z := x0) C d_Pre_checkIndex_17 rfl ⟨Nat.zero_le _, Nat.zero_le _⟩ rfl rfl
def r_Pre_checkIndex_q (x0 x1 : Int32) : Option Int32 := if x0 < 0 then none else if x0 < x1 then some x0 else none
set_option maxHeartbeats 4000000 in
theorem c_Pre_checkIndex_q {G : Gl} {L : Shp} (S : Sto) (x0 x1 : Int32) (q : Nat) : Ct Y_Pre_checkIndex G [.int x0, .int x1, .ref q] L S (fp L S) (r_Pre_checkIndex_q x0 x1) := by
  refine ct_of (by decide +kernel) (Nat.le_of_ble_eq_true rfl) (fun g C => ?_)
  show VO g Y_Pre_checkIndex G (fun z => Qm g Y_Pre_checkIndex G (fp L S z)) 0 0 0 [(0, .int x0), (1, .int x1), (2, .ref q)] [] L S (r_Pre_checkIndex_q x0 x1) some
  unfold r_Pre_checkIndex_q
  refine v_iload_n (pc := 0) C d_Pre_checkIndex_0 rfl 0 rfl ?_
  refine v_if_lt (pc := 1) (tgt := 9) C d_Pre_checkIndex_1 rfl (fun _ => v_none) (fun _ => ?_)
  refine v_iload_n (pc := 4) C d_Pre_checkIndex_4 rfl 0 rfl ?_
  refine v_iload_n (pc := 5) C d_Pre_checkIndex_5 rfl 1 rfl ?_
  refine v_icmp_lt (pc := 6) (tgt := 16) C d_Pre_checkIndex_6 rfl (fun _ => ?_) (fun _ => v_none)
  refine v_iload_n (pc := 16) C d_Pre_checkIndex_16 rfl 0 rfl ?_
  exact v_iret (z := x0) C d_Pre_checkIndex_17 rfl ⟨Nat.zero_le _, Nat.zero_le _⟩ rfl rfl
def r_Str_checkIndex (x0 x1 : Int32) (S : Sto) : Option Sto := (r_Pre_checkIndex_n x0 x1).bind (fun _ => some S)
set_option maxHeartbeats 4000000 in
theorem c_Str_checkIndex {G : Gl} {L : Shp} (hL : Ext L) (S : Sto) (x0 x1 : Int32) : Ct Y_Str_checkIndex G [.int x0, .int x1] L S (fv L) (r_Str_checkIndex x0 x1 S) := by
  refine ct_of (by decide +kernel) (Nat.le_of_ble_eq_true rfl) (fun g C => ?_)
  show VO g Y_Str_checkIndex G (fun z => Qm g Y_Str_checkIndex G (fv L z)) 0 0 0 [(0, .int x0), (1, .int x1)] [] L S (r_Str_checkIndex x0 x1 S) some
  unfold r_Str_checkIndex
  refine v_iload_n (pc := 0) C d_Str_checkIndex_0 rfl 0 rfl ?_
  refine v_iload_n (pc := 1) C d_Str_checkIndex_1 rfl 1 rfl ?_
  refine v_getsQ (pc := 2) C sf_Str_1053 d_Str_checkIndex_2 ?_ (fun q => ?_)
  · refine v_cp (pc := 5) (inv_S (As := [.int x0, .int x1, .null]) (st := []) C ml_Str_1059 ms_Pre_checkIndex ro_Str_checkIndex_Pre_checkIndex rfl rfl (Nat.le_of_ble_eq_true rfl) d_Str_checkIndex_5) (c_Pre_checkIndex_n S x0 x1) ⟨rfl, rfl⟩ ⟨Nat.zero_le _, Nat.zero_le _⟩ (fun r => ?_)
    refine v_pop (pc := 8) C d_Str_checkIndex_8 rfl ?_
    exact v_vret (z := S) C d_Str_checkIndex_9 rfl ⟨Nat.zero_le _, Nat.zero_le _⟩ rfl rfl
  · refine v_cp (pc := 5) (inv_S (As := [.int x0, .int x1, .ref q]) (st := []) C ml_Str_1059 ms_Pre_checkIndex ro_Str_checkIndex_Pre_checkIndex rfl rfl (Nat.le_of_ble_eq_true rfl) d_Str_checkIndex_5) (c_Pre_checkIndex_q S x0 x1 q) ⟨rfl, rfl⟩ ⟨Nat.zero_le _, Nat.zero_le _⟩ (fun r => ?_)
    refine v_pop (pc := 8) C d_Str_checkIndex_8 rfl ?_
    exact v_vret (z := S) C d_Str_checkIndex_9 rfl ⟨Nat.zero_le _, Nat.zero_le _⟩ rfl rfl
/-- what copyOf may be asked: fewer than the row has -/
def okc (x : Int32) : Bool := decide (0 ≤ x) && decide (x < 400)
/-- the copy stands in the new cell len -/
def cpo (S : Sto) (len : Nat) (x : Int32) : Sto := sr (sr S len (upd (fun _ => 0) 400 x)) len (va_cpy (sr S len (upd (fun _ => 0) 400 x) 32) (sr S len (upd (fun _ => 0) 400 x) len) 0 0 (r_Ma_min 400 x).toNatClampNeg)
theorem okc_b {x : Int32} (h : okc x = true) : ¬ x < 0 ∧ x.toNatClampNeg < 400 ∧ ¬ x = 400 ∧ r_Ma_min 400 x = x := by
  unfold okc at h
  simp only [Bool.and_eq_true, decide_eq_true_eq] at h
  have h1 := Int32.le_iff_toInt_le.mp h.1
  have h2 := Int32.lt_iff_toInt_lt.mp h.2
  rw [show (0 : Int32).toInt = 0 by decide] at h1
  rw [show (400 : Int32).toInt = 400 by decide] at h2
  refine ⟨fun q => ?_, ?_, fun q => ?_, ?_⟩
  · have := Int32.lt_iff_toInt_lt.mp q
    rw [show (0 : Int32).toInt = 0 by decide] at this
    omega
  · show x.toInt.toNat < 400
    omega
  · rw [q] at h2
    revert h2
    decide
  · unfold r_Ma_min
    rw [if_pos h.2]
def fcp (G : Gl) (L : Shp) (S : Sto) : Fnl := (some (rf G L.length), L ++ [(5, 0, [])], S)
theorem ap_get {L : Shp} {a : Nat} {h x : Nat × Nat × List Nat} (hL : L[a]? = some h) : (L ++ [x])[a]? = some h := by rw [List.getElem?_append_left (List.getElem?_eq_some_iff.mp hL).1]; exact hL
theorem ap_set {L : Shp} {a : Nat} {h x : Nat × Nat × List Nat} (hL : L[a]? = some h) : (L ++ [x]).set a h = L ++ [x] := by
  apply List.ext_getElem?
  intro i
  rw [List.getElem?_set]
  by_cases e : a = i
  · subst e
    have hl : a < (L ++ [x]).length := by rw [List.length_append]; exact Nat.lt_of_lt_of_le (List.getElem?_eq_some_iff.mp hL).1 (Nat.le_add_right _ _)
    simp only [if_true, hl, ap_get hL]
  · simp [e]
theorem ap_last (L : Shp) {x : Nat × Nat × List Nat} : (L ++ [x])[L.length]? = some x := by simp
set_option maxHeartbeats 4000000 in
theorem c_Ar_copyOf {G : Gl} {L : Shp} (S : Sto) (x1 : Int32) (h0 : L[32]? = some (1, 400, [])) (hok : okc x1 = true) : Ct Y_Ar_copyOf G [rf G 32, .int x1] L S (fcp G L) (some (cpo S L.length x1)) := by
  obtain ⟨b1, b2, b3, b4⟩ := okc_b hok
  have hl : 32 < L.length := (List.getElem?_eq_some_iff.mp h0).1
  refine ct_of (by decide +kernel) (Nat.le_of_ble_eq_true rfl) (fun g C => ?_)
  show VO g Y_Ar_copyOf G (fun z => Qm g Y_Ar_copyOf G (fcp G L z)) 0 0 0 [(0, rf G 32), (1, .int x1)] [] L S (some (cpo S L.length x1)) some
  refine v_iload_n (pc := 0) C d_Ar_copyOf_0 rfl 1 rfl ?_
  refine v_aload_n (pc := 1) C d_Ar_copyOf_1 rfl 0 rfl ?_
  refine v_alen (pc := 2) (v := 400) (t := 0) C h0 rfl rfl rfl d_Ar_copyOf_2 ?_
  refine v_eq (if_neg b3 : (if x1 = 400 then none else some (cpo S L.length x1)) = _).symm ?_
  refine v_icmp_ne (pc := 3) (tgt := 14) C d_Ar_copyOf_3 rfl (fun _ => ?_) (fun q => absurd q b3)
  refine v_iload_n (pc := 14) C d_Ar_copyOf_14 rfl 1 rfl ?_
  refine v_eq (o2 := ltS (sr S L.length (upd (fun _ => 0) 400 x1)) (fun S1 => some (sr S1 L.length (va_cpy (S1 32) (S1 L.length) 0 0 (r_Ma_min 400 x1).toNatClampNeg)))) rfl ?_
  refine v_newD0 (pc := 15) (k2 := 1) (n2 := x1.toNatClampNeg) C rfl rfl rfl (Nat.zero_add _) ⟨Nat.le_refl _, by show _ ≤ 400; omega⟩ b1 rfl (by omega) aw_I d_Ar_copyOf_15 ?_
  generalize hS1 : sr S L.length (upd (fun _ => 0) 400 x1) = S1
  have e400 : S1 L.length 400 = x1 := by rw [← hS1, sr_a, pk_us]
  refine v_astore_n (pc := 17) (lv' := [(2, rf G L.length), (0, rf G 32), (1, .int x1)]) C d_Ar_copyOf_17 rfl (by decide) rfl ?_
  refine v_aload_n (pc := 18) C d_Ar_copyOf_18 rfl 1 rfl ?_
  refine v_iconst (pc := 19) C d_Ar_copyOf_19 ic_0 ?_
  refine v_aload_n (pc := 20) C d_Ar_copyOf_20 rfl 0 rfl ?_
  refine v_iconst (pc := 21) C d_Ar_copyOf_21 ic_0 ?_
  refine v_aload_n (pc := 22) C d_Ar_copyOf_22 rfl 1 rfl ?_
  refine v_alen (pc := 23) (v := 400) (t := 0) C (ap_get h0) rfl rfl rfl d_Ar_copyOf_23 ?_
  refine v_iload_n (pc := 24) C d_Ar_copyOf_24 rfl 2 rfl ?_
  refine v_ct (pc := 25) (inv_S (As := [.int 400, .int x1]) (st := [.int 0, rf G L.length, .int 0, rf G 32]) C ml_Ar_304 ms_Ma_min ro_Ar_copyOf_Ma_min rfl rfl (Nat.le_of_ble_eq_true rfl) d_Ar_copyOf_25) (c0_Ma_min S1 400 x1) ⟨rfl, rfl⟩ ⟨Nat.le_refl _, by show _ ≤ 400; omega⟩ ?_
  refine v_eq (o2 := ltS (sr S1 L.length (va_cpy (S1 32) (S1 L.length) 0 0 (r_Ma_min 400 x1).toNatClampNeg)) (fun S2 => some S2)) rfl ?_
  refine v_acopy (pc := 28) C ac_l ac_n ac_s ac_i (ap_get h0) (ap_last L) (by rw [b4]; exact b1) (by rw [b4]; omega) (by rw [b4, e400]; exact Nat.le_refl _) (by rw [e400]; omega) (Nat.le_of_ble_eq_true rfl) (Nat.le_of_ble_eq_true rfl) d_Ar_copyOf_28 (fun S2 => ?_)
  refine v_aload_n (pc := 31) C d_Ar_copyOf_31 rfl 0 rfl ?_
  exact v_aret (z := S2) C d_Ar_copyOf_32 rfl ⟨Nat.le_refl _, by show _ ≤ 400; omega⟩ rfl rfl
def fa (L : Shp) (x : Int32 × Sto × Bool) : Fnl := (some (.int x.1), if x.2.2 = true then L ++ [(5, 0, [])] else L, x.2.1)
theorem v_cca {g : Gm} {Y : Ym} {G : Gl} {β γ : Type} {Qf : γ → State → Prop} {k n pc : Nat} {lv : List (Nat × Value)} {st stk : List Value} {L : Shp} {S S1 : Sto} {f : Sto → Option β} {K : β → Option γ} {Yc : Ym} {avs : List Value} {k2 n2 : Nat} (I : Inv g Y G Yc avs pc stk st L S) (hC : Ct Yc G avs L S (fcp G L) (some S1)) (hk : k + (mR Yc).cells = k2) (hn : n + (mR Yc).slots = n2) (hR : k2 ≤ (mR Y).cells ∧ n2 ≤ (mR Y).slots) (kk : ∀ S, VO g Y G Qf k2 n2 (pc + 3) lv (rf G L.length :: st) (L ++ [(5, 0, [])]) S (f S) K) : VO g Y G Qf k n pc lv stk L S (ltS S1 f) K := by
  subst hk hn
  exact fun x hx => I (fcp G L S1) (hC S1 rfl) (Qf x) k n lv hR (kk S1 x hx)
