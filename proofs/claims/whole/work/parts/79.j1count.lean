/-! how many bits a long has -/
def msk (c : Nat) : Nat → Nat
  | 0 => 0
  | k + 1 => 256 * msk c k + c
theorem and_split {h l m c : Nat} (hl : l < 256) (hc : c < 256) : (256 * h + l) &&& (256 * m + c) = 256 * (h &&& m) + (l &&& c) := by
  have d : ((256 * h + l) &&& (256 * m + c)) / 2 ^ 8 = h &&& m := by
    rw [Nat.and_div_two_pow]
    congr 1 <;> omega
  have r : ((256 * h + l) &&& (256 * m + c)) % 2 ^ 8 = l &&& c := by
    rw [Nat.and_mod_two_pow]
    congr 1 <;> omega
  have := Nat.div_add_mod ((256 * h + l) &&& (256 * m + c)) (2 ^ 8)
  rw [d, r] at this
  omega
theorem tb1 : ∀ l, l < 128 → ∀ c, c < 2 → (128 * c + l) &&& 85 = l &&& 85 := by decide +kernel
theorem tb2 : ∀ l, l < 64 → ∀ c, c < 4 → (64 * c + l) &&& 51 = l &&& 51 := by decide +kernel
theorem sh1 {h l m : Nat} (hl : l < 256) : (256 * h + l) / 2 &&& (256 * m + 85) = 256 * (h / 2 &&& m) + (l / 2 &&& 85) := by
  rw [show (256 * h + l) / 2 = 256 * (h / 2) + (128 * (h % 2) + l / 2) by omega, and_split (by omega) (by omega), tb1 (l / 2) (by omega) (h % 2) (by omega)]
theorem sh2 {h l m : Nat} (hl : l < 256) : (256 * h + l) / 4 &&& (256 * m + 51) = 256 * (h / 4 &&& m) + (l / 4 &&& 51) := by
  rw [show (256 * h + l) / 4 = 256 * (h / 4) + (64 * (h % 4) + l / 4) by omega, and_split (by omega) (by omega), tb2 (l / 4) (by omega) (h % 4) (by omega)]
def n1 (k u : Nat) : Nat := u - (u / 2 &&& msk 85 k)
def n2 (k a : Nat) : Nat := (a &&& msk 51 k) + (a / 4 &&& msk 51 k)
def n3 (k b : Nat) : Nat := (b + b / 16) &&& msk 15 k
def b1 (l : Nat) : Nat := l - (l / 2 &&& 85)
def b2 (l : Nat) : Nat := (b1 l &&& 51) + (b1 l / 4 &&& 51)
def b3 (l : Nat) : Nat := (b2 l + b2 l / 16) &&& 15
theorem tb3 : ∀ l, l < 256 → b1 l < 256 ∧ b2 l < 256 ∧ b2 l % 16 ≤ 4 ∧ b2 l ≤ 68 ∧ b3 l ≤ 8 ∧ b3 l = cntP (fun i => l.testBit i) 8 0 0 := by decide +kernel
theorem tb4 : ∀ x, x < 256 → ∀ t, t < 16 → (x + 16 * t) &&& 15 = x &&& 15 := by decide +kernel
theorem n1_s {k h l : Nat} (hl : l < 256) : n1 (k + 1) (256 * h + l) = 256 * n1 k h + b1 l := by
  unfold n1 b1
  rw [msk, sh1 hl]
  have e1 : h / 2 &&& msk 85 k ≤ h := Nat.le_trans Nat.and_le_left (Nat.div_le_self _ _)
  have e2 : l / 2 &&& 85 ≤ l := Nat.le_trans Nat.and_le_left (Nat.div_le_self _ _)
  omega
theorem n2_s {k h l : Nat} (hl : l < 256) : n2 (k + 1) (256 * h + l) = 256 * n2 k h + ((l &&& 51) + (l / 4 &&& 51)) := by
  unfold n2
  rw [msk, sh2 hl, and_split hl (by omega)]
  omega
theorem n3_s {k h l : Nat} (hl : l ≤ 68) (hh : h % 16 ≤ 4) : n3 (k + 1) (256 * h + l) = 256 * n3 k h + ((l + l / 16) &&& 15) := by
  unfold n3
  rw [msk, show (256 * h + l) + (256 * h + l) / 16 = 256 * (h + h / 16) + ((l + l / 16) + 16 * (h % 16)) by omega, and_split (by omega) (by omega), tb4 (l + l / 16) (by omega) (h % 16) (by omega)]
theorem n_0 {u : Nat} : n3 0 (n2 0 (n1 0 u)) = 0 := by
  unfold n3 msk
  exact Nat.and_zero _
/-- the second step's low nibble -/
theorem n2_m : ∀ (k u : Nat), n2 k (n1 k u) % 16 ≤ 4 := by
  intro k u
  cases k with
  | zero =>
    unfold n2 msk
    rw [Nat.and_zero, Nat.and_zero]
    decide
  | succ k =>
    have hl : u % 256 < 256 := Nat.mod_lt _ (by decide)
    have e : u = 256 * (u / 256) + u % 256 := by omega
    obtain ⟨t1, t2, t3, -⟩ := tb3 (u % 256) hl
    rw [e, n1_s hl, n2_s t1]
    unfold b2 at t3
    omega
def nn (k u : Nat) : Nat := n3 k (n2 k (n1 k u))
theorem nn_s {k u : Nat} : nn (k + 1) u = 256 * nn k (u / 256) + b3 (u % 256) := by
  have hl : u % 256 < 256 := Nat.mod_lt _ (by decide)
  obtain ⟨t1, t2, t3, t4, -⟩ := tb3 (u % 256) hl
  unfold nn
  conv => lhs; rw [show u = 256 * (u / 256) + u % 256 by omega]
  rw [n1_s hl, n2_s t1]
  exact n3_s t4 (n2_m k _)
theorem pc_b {u j : Nat} (h : u < 2 ^ 64) : b3 (u / 256 ^ j % 256) ≤ 8 ∧ b3 (u / 256 ^ j % 256) = cntP (fun i => u.testBit i) 8 (8 * j) 0 := by
  obtain ⟨-, -, -, -, t5, t6⟩ := tb3 (u / 256 ^ j % 256) (Nat.mod_lt _ (by decide))
  refine ⟨t5, ?_⟩
  rw [t6]
  have hb : ∀ i, i < 8 → (u / 256 ^ j % 256).testBit i = u.testBit (8 * j + i) := fun i hi => by
    rw [show (256 : Nat) ^ j = 2 ^ (8 * j) by rw [Nat.pow_mul], show 256 = 2 ^ 8 from rfl, Nat.testBit_mod_two_pow, Nat.testBit_div_two_pow, decide_eq_true hi, Bool.true_and, Nat.add_comm]
  have key : ∀ (d i c : Nat), i + d = 8 → cntP (fun i => (u / 256 ^ j % 256).testBit i) d i c = cntP (fun i => u.testBit i) d (8 * j + i) c := by
    intro d
    induction d with
    | zero => intro i c _; rfl
    | succ d ih =>
      intro i c hi
      rw [cntP, cntP, hb i (by omega), ih (i + 1) _ (by omega)]
      rfl
  rw [key 8 0 0 rfl]
  rfl
theorem cntP_app {q : Nat → Bool} : ∀ (d e i c : Nat), cntP q (d + e) i c = cntP q e (i + d) (cntP q d i c) := by
  intro d
  induction d with
  | zero => intro e i c; rw [Nat.zero_add]; rfl
  | succ d ih => intro e i c; rw [Nat.succ_add, cntP, ih, cntP, Nat.add_assoc i 1 d, Nat.add_comm 1 d]
theorem nn_8 {u : Nat} : nn 8 u = b3 (u / 256 ^ 0 % 256) + 256 * (b3 (u / 256 ^ 1 % 256) + 256 * (b3 (u / 256 ^ 2 % 256) + 256 * (b3 (u / 256 ^ 3 % 256) + 256 * (b3 (u / 256 ^ 4 % 256) + 256 * (b3 (u / 256 ^ 5 % 256) + 256 * (b3 (u / 256 ^ 6 % 256) + 256 * b3 (u / 256 ^ 7 % 256))))))) := by
  have z : ∀ v, nn 0 v = 0 := fun v => n_0
  have p : ∀ j, u / 256 ^ j / 256 = u / 256 ^ (j + 1) := fun j => by rw [Nat.div_div_eq_div_mul, Nat.pow_succ]
  rw [show u / 256 ^ 0 = u by simp]
  have p0 : u / 256 = u / 256 ^ 1 := by simp
  have p1 : u / 256 ^ 1 / 256 = u / 256 ^ 2 := p 1
  have p2 : u / 256 ^ 2 / 256 = u / 256 ^ 3 := p 2
  have p3 : u / 256 ^ 3 / 256 = u / 256 ^ 4 := p 3
  have p4 : u / 256 ^ 4 / 256 = u / 256 ^ 5 := p 4
  have p5 : u / 256 ^ 5 / 256 = u / 256 ^ 6 := p 5
  have p6 : u / 256 ^ 6 / 256 = u / 256 ^ 7 := p 6
  rw [nn_s, p0, nn_s, p1, nn_s, p2, nn_s, p3, nn_s, p4, nn_s, p5, nn_s, p6, nn_s, z]
  generalize b3 (u % 256) = c0
  generalize b3 (u / 256 ^ 1 % 256) = c1
  generalize b3 (u / 256 ^ 2 % 256) = c2
  generalize b3 (u / 256 ^ 3 % 256) = c3
  generalize b3 (u / 256 ^ 4 % 256) = c4
  generalize b3 (u / 256 ^ 5 % 256) = c5
  generalize b3 (u / 256 ^ 6 % 256) = c6
  generalize b3 (u / 256 ^ 7 % 256) = c7
  clear p p0 p1 p2 p3 p4 p5 p6 z
  omega
/-! the same on longs -/
theorem m85 : msk 85 8 = 6148914691236517205 := by decide
theorem m51 : msk 51 8 = 3689348814741910323 := by decide
theorem m15 : msk 15 8 = 1085102592571150095 := by decide
theorem tail8 {c0 c1 c2 c3 c4 c5 c6 c7 w : Nat} (h0 : c0 ≤ 8) (h1 : c1 ≤ 8) (h2 : c2 ≤ 8) (h3 : c3 ≤ 8) (h4 : c4 ≤ 8) (h5 : c5 ≤ 8) (h6 : c6 ≤ 8) (h7 : c7 ≤ 8) (hw : w = c0 + 256 * (c1 + 256 * (c2 + 256 * (c3 + 256 * (c4 + 256 * (c5 + 256 * (c6 + 256 * c7))))))) :
    w < 2 ^ 60 ∧ w + w / 2 ^ 8 < 2 ^ 61 ∧ (w + w / 2 ^ 8) + (w + w / 2 ^ 8) / 2 ^ 16 < 2 ^ 62 ∧ ((w + w / 2 ^ 8) + (w + w / 2 ^ 8) / 2 ^ 16) + ((w + w / 2 ^ 8) + (w + w / 2 ^ 8) / 2 ^ 16) / 2 ^ 32 < 2 ^ 63 ∧ (((w + w / 2 ^ 8) + (w + w / 2 ^ 8) / 2 ^ 16) + ((w + w / 2 ^ 8) + (w + w / 2 ^ 8) / 2 ^ 16) / 2 ^ 32) % 128 = c0 + c1 + c2 + c3 + c4 + c5 + c6 + c7 := by
  have d8 : ∀ {c W : Nat}, c < 256 → (c + 256 * W) / 2 ^ 8 = W := fun h => by omega
  have d16 : ∀ {c d W : Nat}, c < 256 → d < 256 → (c + 256 * (d + 256 * W)) / 2 ^ 16 = W := fun h g => by omega
  have d32 : ∀ {a b c d W : Nat}, a < 256 → b < 256 → c < 256 → d < 256 → (a + 256 * (b + 256 * (c + 256 * (d + 256 * W)))) / 2 ^ 32 = W := fun h1 h2 h3 h4 => by omega
  have a1 : w / 2 ^ 8 = c1 + 256 * (c2 + 256 * (c3 + 256 * (c4 + 256 * (c5 + 256 * (c6 + 256 * c7))))) := by rw [hw]; exact d8 (by omega)
  have x1 : w + w / 2 ^ 8 = (c0 + c1) + 256 * ((c1 + c2) + 256 * ((c2 + c3) + 256 * ((c3 + c4) + 256 * ((c4 + c5) + 256 * ((c5 + c6) + 256 * ((c6 + c7) + 256 * c7)))))) := by
    rw [a1, hw]
    clear a1 hw d8 d16 d32 h0 h1 h2 h3 h4 h5 h6 h7
    omega
  have a2 : (w + w / 2 ^ 8) / 2 ^ 16 = (c2 + c3) + 256 * ((c3 + c4) + 256 * ((c4 + c5) + 256 * ((c5 + c6) + 256 * ((c6 + c7) + 256 * c7)))) := by rw [x1]; exact d16 (by omega) (by omega)
  generalize w + w / 2 ^ 8 = x at x1 a2
  have y1 : x + x / 2 ^ 16 = (c0 + c1 + c2 + c3) + 256 * ((c1 + c2 + c3 + c4) + 256 * ((c2 + c3 + c4 + c5) + 256 * ((c3 + c4 + c5 + c6) + 256 * ((c4 + c5 + c6 + c7) + 256 * ((c5 + c6 + c7) + 256 * ((c6 + c7) + 256 * c7)))))) := by
    rw [a2, x1]
    clear a1 hw d8 d16 d32 h0 h1 h2 h3 h4 h5 h6 h7 x1 a2
    omega
  have a3 : (x + x / 2 ^ 16) / 2 ^ 32 = (c4 + c5 + c6 + c7) + 256 * ((c5 + c6 + c7) + 256 * ((c6 + c7) + 256 * c7)) := by rw [y1]; exact d32 (by omega) (by omega) (by omega) (by omega)
  generalize x + x / 2 ^ 16 = y at y1 a3
  have bw' : w < 2 ^ 60 := by
    clear a1 d8 d16 d32 x1 a2 y1 a3
    omega
  have bx : x < 2 ^ 61 := by
    clear a1 hw d8 d16 d32 a2 y1 a3 bw'
    omega
  have by' : y < 2 ^ 62 := by
    clear a1 hw d8 d16 d32 x1 a2 a3 bw' bx
    omega
  refine ⟨bw', bx, by', ?_, ?_⟩
  · clear a1 hw d8 d16 d32 x1 a2 a3 bw' bx y1
    omega
  · rw [a3, y1]
    generalize (c1 + c2 + c3 + c4) + 256 * ((c2 + c3 + c4 + c5) + 256 * ((c3 + c4 + c5 + c6) + 256 * ((c4 + c5 + c6 + c7) + 256 * ((c5 + c6 + c7) + 256 * ((c6 + c7) + 256 * c7))))) = r1
    generalize (c5 + c6 + c7) + 256 * ((c6 + c7) + 256 * c7) = r2
    clear a1 hw d8 d16 d32 x1 a2 a3 bw' bx by' y1
    omega
theorem wb_n7 {v : Nat} : nI v &&& nI 127 = nI (v % 128) := by
  rw [nI_and, show 127 = 2 ^ 7 - 1 from rfl, Nat.and_two_pow_sub_one_eq_mod]
theorem bc_L {u : Nat} (hu : u < 2 ^ 45) : r_Lg_bitCount (lN u) = nI (cntP (fun i => u.testBit i) 45 0 0) := by
  have hu64 : u < 2 ^ 64 := by omega
  have s1 : ∀ v, v < 2 ^ 64 → ((lN v).toUInt64 >>> ((1 : Int32).toInt64.toUInt64 &&& Int64.toUInt64 63)).toInt64 = lN (v / 2) := fun v hv => wb_shr (k := 1) hv (by decide)
  have s2 : ∀ v, v < 2 ^ 64 → ((lN v).toUInt64 >>> ((2 : Int32).toInt64.toUInt64 &&& Int64.toUInt64 63)).toInt64 = lN (v / 4) := fun v hv => wb_shr (k := 2) hv (by decide)
  have s4 : ∀ v, v < 2 ^ 64 → ((lN v).toUInt64 >>> ((4 : Int32).toInt64.toUInt64 &&& Int64.toUInt64 63)).toInt64 = lN (v / 16) := fun v hv => wb_shr (k := 4) hv (by decide)
  have s8 : ∀ v, v < 2 ^ 64 → ((lN v).toUInt64 >>> ((8 : Int32).toInt64.toUInt64 &&& Int64.toUInt64 63)).toInt64 = lN (v / 2 ^ 8) := fun v hv => wb_shr (k := 8) hv (by decide)
  have s16 : ∀ v, v < 2 ^ 64 → ((lN v).toUInt64 >>> ((16 : Int32).toInt64.toUInt64 &&& Int64.toUInt64 63)).toInt64 = lN (v / 2 ^ 16) := fun v hv => wb_shr (k := 16) hv (by decide)
  have s32 : ∀ v, v < 2 ^ 64 → ((lN v).toUInt64 >>> ((32 : Int32).toInt64.toUInt64 &&& Int64.toUInt64 63)).toInt64 = lN (v / 2 ^ 32) := fun v hv => wb_shr (k := 32) hv (by decide)
  have M1 : (6148914691236517205 : Int64) = lN 6148914691236517205 := by decide
  have M2 : (3689348814741910323 : Int64) = lN 3689348814741910323 := by decide
  have M3 : (1085102592571150095 : Int64) = lN 1085102592571150095 := by decide
  -- first
  have e1 : lN u - (lN (u / 2) &&& 6148914691236517205) = lN (n1 8 u) := by
    rw [M1, wb_and (by omega) (by decide), lN_sub (Nat.le_trans Nat.and_le_left (Nat.div_le_self _ _))]
    unfold n1
    rw [m85]
  have l1 : n1 8 u ≤ u := Nat.sub_le _ _
  generalize hA : n1 8 u = A at e1 l1
  have e2 : (lN A &&& 3689348814741910323) + (lN (A / 4) &&& 3689348814741910323) = lN (n2 8 A) := by
    rw [M2, wb_and (by omega) (by decide), wb_and (by omega) (by decide), lN_add]
    unfold n2
    rw [m51]
  have l2 : n2 8 A ≤ 2 * A := by
    unfold n2
    have h1 : A &&& msk 51 8 ≤ A := Nat.and_le_left
    have h2 : A / 4 &&& msk 51 8 ≤ A / 4 := Nat.and_le_left
    omega
  generalize hB : n2 8 A = B at e2 l2
  have e3 : (lN B + lN (B / 16)) &&& 1085102592571150095 = lN (n3 8 B) := by
    rw [M3, lN_add, wb_and (by omega) (by decide)]
    unfold n3
    rw [m15]
  have eN : n3 8 B = nn 8 u := by rw [← hB, ← hA]; rfl
  rw [eN, nn_8] at e3
  obtain ⟨g0, k0⟩ := pc_b (j := 0) hu64
  obtain ⟨g1, k1⟩ := pc_b (j := 1) hu64
  obtain ⟨g2, k2⟩ := pc_b (j := 2) hu64
  obtain ⟨g3, k3⟩ := pc_b (j := 3) hu64
  obtain ⟨g4, k4⟩ := pc_b (j := 4) hu64
  obtain ⟨g5, k5⟩ := pc_b (j := 5) hu64
  obtain ⟨g6, k6⟩ := pc_b (j := 6) hu64
  obtain ⟨g7, k7⟩ := pc_b (j := 7) hu64
  have tot : cntP (fun i => u.testBit i) 45 0 0 = b3 (u / 256 ^ 0 % 256) + b3 (u / 256 ^ 1 % 256) + b3 (u / 256 ^ 2 % 256) + b3 (u / 256 ^ 3 % 256) + b3 (u / 256 ^ 4 % 256) + b3 (u / 256 ^ 5 % 256) + b3 (u / 256 ^ 6 % 256) + b3 (u / 256 ^ 7 % 256) := by
    have h64 : cntP (fun i => u.testBit i) (45 + 19) 0 0 = cntP (fun i => u.testBit i) 45 0 0 := cntP_add 45 19 0 0 (fun j hj => Nat.testBit_lt_two_pow (Nat.lt_of_lt_of_le hu (Nat.pow_le_pow_right (by decide) (by omega))))
    rw [← h64, k0, k1, k2, k3, k4, k5, k6, k7]
    rw [show 45 + 19 = 8 + (8 + (8 + (8 + (8 + (8 + (8 + 8)))))) from rfl, cntP_app, cntP_app, cntP_app, cntP_app, cntP_app, cntP_app, cntP_app]
    rw [cntP_c 8 (0 + 8 + 8 + 8 + 8 + 8 + 8 + 8), cntP_c 8 (0 + 8 + 8 + 8 + 8 + 8 + 8), cntP_c 8 (0 + 8 + 8 + 8 + 8 + 8), cntP_c 8 (0 + 8 + 8 + 8 + 8), cntP_c 8 (0 + 8 + 8 + 8), cntP_c 8 (0 + 8 + 8), cntP_c 8 (0 + 8)]
  generalize hw : b3 (u / 256 ^ 0 % 256) + 256 * (b3 (u / 256 ^ 1 % 256) + 256 * (b3 (u / 256 ^ 2 % 256) + 256 * (b3 (u / 256 ^ 3 % 256) + 256 * (b3 (u / 256 ^ 4 % 256) + 256 * (b3 (u / 256 ^ 5 % 256) + 256 * (b3 (u / 256 ^ 6 % 256) + 256 * b3 (u / 256 ^ 7 % 256))))))) = w at e3
  obtain ⟨t1, t2, t3, t4, t5⟩ := tail8 g0 g1 g2 g3 g4 g5 g6 g7 hw.symm
  rw [← tot] at t5
  unfold r_Lg_bitCount
  rw [s1 u hu64, e1, s2 A (by omega), e2, s4 B (by omega), e3, s8 w (by omega), lN_add, s16 _ (by omega), lN_add, s32 _ (by omega), lN_add, lN_i]
  rw [show (127 : Int32) = nI 127 from rfl, wb_n7, t5]
