theorem v_ccs {g : Gm} {Y : Ym} {G : Gl} {β γ : Type} {Qf : γ → State → Prop} {k n pc : Nat} {lv : List (Nat × Value)} {st stk : List Value} {L : Shp} {S S1 : Sto} {o : Option β} {K : β → Option γ} {Yc : Ym} {avs : List Value} {od : Option Sto} {L2 : Shp} {k2 n2 : Nat} (I : Inv g Y G Yc avs pc stk st L S) (hC : Ct Yc G avs L S (fv L2) od) (e : od = some S1) (hk : k + (mR Yc).cells = k2) (hn : n + (mR Yc).slots = n2) (hR : k2 ≤ (mR Y).cells ∧ n2 ≤ (mR Y).slots) (kk : VO g Y G Qf k2 n2 (pc + 3) lv st L2 S1 o K) : VO g Y G Qf k n pc lv stk L S o K := by
  subst hk hn
  exact fun x hx => I (fv L2 S1) (hC S1 e) (Qf x) k n lv hR (kk x hx)
theorem gt_iff {Ln m : Nat} (h1 : Ln ≤ 3072) (h2 : m ≤ 4000) : (nI Ln - 6 < nI m) ↔ Ln < m + 6 := by
  have e : (nI Ln - nI 6).toInt = (Ln : Int) - 6 := pk_sub_toInt (by omega) (by omega)
  have e2 : (nI m).toInt = (m : Int) := nI_toInt (by omega)
  show (nI Ln - nI 6 < nI m) ↔ _
  rw [Int32.lt_iff_toInt_lt, e, e2]
  omega
set_option maxHeartbeats 8000000 in
set_option maxRecDepth 20000 in
theorem law_loop {g : Gm} {G : Gl} {nm : String} {sb Ln : Nat} {xs : Nat → Int32} (C : Cx g (Y_law nm) G) (hX : va_X sb Ln xs (g_s g) (g_s g).heap ∧ sb < gB G ∧ gB G ≤ (g_s g).heap.size) (hLn : Ln < 2 ^ 31) {Qf : Unit → State → Prop} (hL3 : Ln ≤ 3072)
    (hend : ∀ (L : Shp) (S : Sto) (k n m : Nat), k ≤ 10000 → n ≤ 2000000 → VO g (Y_law nm) G Qf k n 1290 [(0, .ref sb), (1, rf G 0), (2, rf G 104), (3, .int (nI m))] [] L S (some ()) some) :
    ∀ (t m : Nat) (L : Shp) (S : Sto) (k n : Nat), Ln < m + t → m ≤ Ln + 6 → Ext L → Iv L.length S → L.length ≤ 146 + m → k ≤ 999 + m → n ≤ 100000 + 400 * m → VO g (Y_law nm) G Qf k n 18 [(0, .ref sb), (1, rf G 0), (2, rf G 104), (3, .int (nI m))] [] L S (some ()) some := by
  intro t
  induction t with
  | zero =>
    intro m L S k n h1 h2 hL hv hl hk hn
    refine v_iload_n (pc := 18) C d_law_18 rfl 3 rfl ?_
    refine v_aloadX (pc := 19) C d_law_19 rfl 0 rfl ?_
    refine v_slenx (pc := 20) C hX d_law_20 ?_
    refine v_bipush (pc := 21) C d_law_21 bp_6 ?_
    refine v_isub (pc := 23) C d_law_23 ?_
    refine v_icmp_gt_t (pc := 24) C d_law_24 1290 rfl ((gt_iff hL3 (by omega)).mpr (by omega)) ?_
    exact hend L S k n m (by omega) (by omega)
  | succ t ih =>
    intro m L S k n h1 h2 hL hv hl hk hn
    refine v_iload_n (pc := 18) C d_law_18 rfl 3 rfl ?_
    refine v_aloadX (pc := 19) C d_law_19 rfl 0 rfl ?_
    refine v_slenx (pc := 20) C hX d_law_20 ?_
    refine v_bipush (pc := 21) C d_law_21 bp_6 ?_
    refine v_isub (pc := 23) C d_law_23 ?_
    by_cases hm : m + 6 ≤ Ln
    · refine v_icmp_gt_f (pc := 24) C d_law_24 1290 rfl (fun q => by have := (gt_iff hL3 (by omega)).mp q; omega) ?_
      have hj : ∀ (L : Shp) (S : Sto) (k n : Nat), Ext L → Iv L.length S → L.length ≤ 147 + m → k ≤ 1000 + m → n ≤ 100000 + 400 * m + 400 → VO g (Y_law nm) G Qf k n 1284 [(0, .ref sb), (1, rf G 0), (2, rf G 104), (3, .int (nI m))] [] L S (some ()) some := by
        intro L S k n hL hv hl hk hn
        refine v_iincT (pc := 1284) (p := 3) (v := nI (m + 6)) (lv' := [(3, .int (nI (m + 6))), (0, .ref sb), (1, rf G 0), (2, rf G 104)]) C d_law_1284 rfl (nI_add m 6) (show 3 < 4 by decide) rfl ?_
        refine v_goto (pc := 1287) (tgt := 18) C d_law_1287 rfl ?_
        refine v_sub [1, 2, 3, 0] rfl ?_
        exact ih (m + 6) L S k n (by omega) (by omega) hL hv (by omega) (by omega) (by omega)
      refine v_aloadX (pc := 27) C d_law_27 rfl 0 rfl ?_
      refine v_iload_n (pc := 28) C d_law_28 rfl 3 rfl ?_
      refine v_sldx (pc := 29) C hX rfl (by omega) hLn d_law_29 ?_
      refine v_bipush (pc := 30) C d_law_30 bp_31 ?_
      refine v_iand (pc := 32) C d_law_32 ?_
      obtain ⟨j, hjl, e⟩ := pk_andE (xs m) (m := 31) 5 (by decide)
      have hj32 : j = 0 ∨ j = 1 ∨ j = 2 ∨ j = 3 ∨ j = 4 ∨ j = 5 ∨ j = 6 ∨ j = 7 ∨ j = 8 ∨ j = 9 ∨ j = 10 ∨ j = 11 ∨ j = 12 ∨ j = 13 ∨ j = 14 ∨ j = 15 ∨ j = 16 ∨ j = 17 ∨ j = 18 ∨ j = 19 ∨ j = 20 ∨ j = 21 ∨ j = 22 ∨ j = 23 ∨ j = 24 ∨ j = 25 ∨ j = 26 ∨ j = 27 ∨ j = 28 ∨ j = 29 ∨ j = 30 ∨ j = 31 := by omega
      rcases hj32 with rfl | rfl | rfl | rfl | rfl | rfl | rfl | rfl | rfl | rfl | rfl | rfl | rfl | rfl | rfl | rfl | rfl | rfl | rfl | rfl | rfl | rfl | rfl | rfl | rfl | rfl | rfl | rfl | rfl | rfl | rfl | rfl
      · exact v_tableIn (pc := 33) (tgt := 168) C d_law_33 (by rw [e]; decide) (by rw [e]; decide) (by rw [e] <;> rfl) rfl (lc_set C hX hLn hm (by omega) hj hL hv hl hk hn)
      · exact v_tableIn (pc := 33) (tgt := 201) C d_law_33 (by rw [e]; decide) (by rw [e]; decide) (by rw [e] <;> rfl) rfl (lc_comes C hX hLn hm (by omega) hj hL hv hl hk hn)
      · exact v_tableIn (pc := 33) (tgt := 244) C d_law_33 (by rw [e]; decide) (by rw [e]; decide) (by rw [e] <;> rfl) rfl (lc_wall C hX hLn hm (by omega) hj hL hv hl hk hn)
      · exact v_tableIn (pc := 33) (tgt := 323) C d_law_33 (by rw [e]; decide) (by rw [e]; decide) (by rw [e] <;> rfl) rfl (lc_spot C hX hLn hm (by omega) hj hL hv hl hk hn)
      · exact v_tableIn (pc := 33) (tgt := 356) C d_law_33 (by rw [e]; decide) (by rw [e]; decide) (by rw [e] <;> rfl) rfl (lc_shot C hX hLn hm (by omega) hj hL hv hl hk hn)
      · exact v_tableIn (pc := 33) (tgt := 409) C d_law_33 (by rw [e]; decide) (by rw [e]; decide) (by rw [e] <;> rfl) rfl (lc_gets C hX hLn hm (by omega) hj hL hv hl hk hn)
      · exact v_tableIn (pc := 33) (tgt := 452) C d_law_33 (by rw [e]; decide) (by rw [e]; decide) (by rw [e] <;> rfl) rfl (lc_feed C hX hLn hm (by omega) hj hL hv hl hk hn)
      · exact v_tableIn (pc := 33) (tgt := 515) C d_law_33 (by rw [e]; decide) (by rw [e]; decide) (by rw [e] <;> rfl) rfl (lc_end C hX hLn hm (by omega) hj hL hv hl hk hn)
      · exact v_tableIn (pc := 33) (tgt := 538) C d_law_33 (by rw [e]; decide) (by rw [e]; decide) (by rw [e] <;> rfl) rfl (lc_text C hX hLn hm (by omega) hj hL hv hl hk hn)
      · exact v_tableIn (pc := 33) (tgt := 561) C d_law_33 (by rw [e]; decide) (by rw [e]; decide) (by rw [e] <;> rfl) rfl (lc_fault C hX hLn hm (by omega) hj hL hv hl hk hn)
      · exact v_tableIn (pc := 33) (tgt := 584) C d_law_33 (by rw [e]; decide) (by rw [e]; decide) (by rw [e] <;> rfl) rfl (lc_hearer C hX hLn hm (by omega) hj hL hv hl hk hn)
      · exact v_tableIn (pc := 33) (tgt := 617) C d_law_33 (by rw [e]; decide) (by rw [e]; decide) (by rw [e] <;> rfl) rfl (lc_turning C hX hLn hm (by omega) hj hL hv hl hk hn)
      · exact v_tableIn (pc := 33) (tgt := 660) C d_law_33 (by rw [e]; decide) (by rw [e]; decide) (by rw [e] <;> rfl) rfl (lc_story C hX hLn hm (by omega) hj hL hv hl hk hn)
      · exact v_tableIn (pc := 33) (tgt := 693) C d_law_33 (by rw [e]; decide) (by rw [e]; decide) (by rw [e] <;> rfl) rfl (lc_stories C hX hLn hm (by omega) hj hL hv hl hk hn)
      · exact v_tableIn (pc := 33) (tgt := 726) C d_law_33 (by rw [e]; decide) (by rw [e]; decide) (by rw [e] <;> rfl) rfl (lc_ear C hX hLn hm (by omega) hj hL hv hl hk hn)
      · exact v_tableIn (pc := 33) (tgt := 749) C d_law_33 (by rw [e]; decide) (by rw [e]; decide) (by rw [e] <;> rfl) rfl (lc_got C hX hLn hm (by omega) hj hL hv hl hk hn)
      · exact v_tableIn (pc := 33) (tgt := 792) C d_law_33 (by rw [e]; decide) (by rw [e]; decide) (by rw [e] <;> rfl) rfl (lc_from C hX hLn hm (by omega) hj hL hv hl hk hn)
      · exact v_tableIn (pc := 33) (tgt := 815) C d_law_33 (by rw [e]; decide) (by rw [e]; decide) (by rw [e] <;> rfl) rfl (lc_click C hX hLn hm (by omega) hj hL hv hl hk hn)
      · exact v_tableIn (pc := 33) (tgt := 848) C d_law_33 (by rw [e]; decide) (by rw [e]; decide) (by rw [e] <;> rfl) rfl (lc_fits C hX hLn hm (by omega) hj hL hv hl hk hn)
      · exact v_tableIn (pc := 33) (tgt := 901) C d_law_33 (by rw [e]; decide) (by rw [e]; decide) (by rw [e] <;> rfl) rfl (lc_couple C hX hLn hm (by omega) hj hL hv hl hk hn)
      · exact v_tableIn (pc := 33) (tgt := 934) C d_law_33 (by rw [e]; decide) (by rw [e]; decide) (by rw [e] <;> rfl) rfl (lc_must C hX hLn hm (by omega) hj hL hv hl hk hn)
      · exact v_tableIn (pc := 33) (tgt := 977) C d_law_33 (by rw [e]; decide) (by rw [e]; decide) (by rw [e] <;> rfl) rfl (lc_voice C hX hLn hm (by omega) hj hL hv hl hk hn)
      · exact v_tableIn (pc := 33) (tgt := 1030) C d_law_33 (by rw [e]; decide) (by rw [e]; decide) (by rw [e] <;> rfl) rfl (lc_over C hX hLn hm (by omega) hj hL hv hl hk hn)
      · exact v_tableIn (pc := 33) (tgt := 1063) C d_law_33 (by rw [e]; decide) (by rw [e]; decide) (by rw [e] <;> rfl) rfl (lc_noise C hX hLn hm (by omega) hj hL hv hl hk hn)
      · exact v_tableIn (pc := 33) (tgt := 1116) C d_law_33 (by rw [e]; decide) (by rw [e]; decide) (by rw [e] <;> rfl) rfl (lc_noises C hX hLn hm (by omega) hj hL hv hl hk hn)
      · exact v_tableIn (pc := 33) (tgt := 1139) C d_law_33 (by rw [e]; decide) (by rw [e]; decide) (by rw [e] <;> rfl) rfl (lc_ball C hX hLn hm (by omega) hj hL hv hl hk hn)
      · exact v_tableIn (pc := 33) (tgt := 1172) C d_law_33 (by rw [e]; decide) (by rw [e]; decide) (by rw [e] <;> rfl) rfl (lc_trials C hX hLn hm (by omega) hj hL hv hl hk hn)
      · exact v_tableIn (pc := 33) (tgt := 1195) C d_law_33 (by rw [e]; decide) (by rw [e]; decide) (by rw [e] <;> rfl) rfl (lc_apart C hX hLn hm (by omega) hj hL hv hl hk hn)
      · exact v_tableIn (pc := 33) (tgt := 1228) C d_law_33 (by rw [e]; decide) (by rw [e]; decide) (by rw [e] <;> rfl) rfl (lc_roofs C hX hLn hm (by omega) hj hL hv hl hk hn)
      · exact v_tableIn (pc := 33) (tgt := 1261) C d_law_33 (by rw [e]; decide) (by rw [e]; decide) (by rw [e] <;> rfl) rfl (lc_look C hX hLn hm (by omega) hj hL hv hl hk hn)
      · exact v_tableOut (pc := 33) (tgt := 1284) C d_law_33 (by rw [e]; decide) rfl (hj L S k n hL hv (by omega) (by omega) (by omega))
      · exact v_tableOut (pc := 33) (tgt := 1284) C d_law_33 (by rw [e]; decide) rfl (hj L S k n hL hv (by omega) (by omega) (by omega))
    · refine v_icmp_gt_t (pc := 24) C d_law_24 1290 rfl ((gt_iff hL3 (by omega)).mpr (by omega)) ?_
      exact hend L S k n m (by omega) (by omega)
