-- Cw_attend
theorem d_Cw_attend_0 : decode (mB Y_Cw_attend) 0 = .ok (.aload_n 0, 1) := by decide +kernel
theorem d_Cw_attend_1 : decode (mB Y_Cw_attend) 1 = .ok (.getfield 22, 3) := by decide +kernel
theorem d_Cw_attend_4 : decode (mB Y_Cw_attend) 4 = .ok (.iload_n 1, 1) := by decide +kernel
theorem d_Cw_attend_5 : decode (mB Y_Cw_attend) 5 = .ok (.iaload, 1) := by decide +kernel
theorem d_Cw_attend_6 : decode (mB Y_Cw_attend) 6 = .ok (.istore_n 3, 1) := by decide +kernel
theorem d_Cw_attend_7 : decode (mB Y_Cw_attend) 7 = .ok (.aload_n 0, 1) := by decide +kernel
theorem d_Cw_attend_8 : decode (mB Y_Cw_attend) 8 = .ok (.getfield 9, 3) := by decide +kernel
theorem d_Cw_attend_11 : decode (mB Y_Cw_attend) 11 = .ok (.aload_n 2, 1) := by decide +kernel
theorem d_Cw_attend_12 : decode (mB Y_Cw_attend) 12 = .ok (.iload_n 3, 1) := by decide +kernel
theorem d_Cw_attend_13 : decode (mB Y_Cw_attend) 13 = .ok (.invokevirtual 35, 3) := by decide +kernel
theorem d_Cw_attend_16 : decode (mB Y_Cw_attend) 16 = .ok (.aload_n 0, 1) := by decide +kernel
theorem d_Cw_attend_17 : decode (mB Y_Cw_attend) 17 = .ok (.getfield 9, 3) := by decide +kernel
theorem d_Cw_attend_20 : decode (mB Y_Cw_attend) 20 = .ok (.getfield 41, 3) := by decide +kernel
theorem d_Cw_attend_23 : decode (mB Y_Cw_attend) 23 = .ok (.istore 4, 2) := by decide +kernel
theorem d_Cw_attend_25 : decode (mB Y_Cw_attend) 25 = .ok (.aload_n 0, 1) := by decide +kernel
theorem d_Cw_attend_26 : decode (mB Y_Cw_attend) 26 = .ok (.getfield 9, 3) := by decide +kernel
theorem d_Cw_attend_29 : decode (mB Y_Cw_attend) 29 = .ok (.getfield 45, 3) := by decide +kernel
theorem d_Cw_attend_32 : decode (mB Y_Cw_attend) 32 = .ok (.iconst (-1), 1) := by decide +kernel
theorem d_Cw_attend_33 : decode (mB Y_Cw_attend) 33 = .ok (.if_icmp .eq 7, 3) := by decide +kernel
theorem d_Cw_attend_36 : decode (mB Y_Cw_attend) 36 = .ok (.iconst 1, 1) := by decide +kernel
theorem d_Cw_attend_37 : decode (mB Y_Cw_attend) 37 = .ok (.goto 4, 3) := by decide +kernel
theorem d_Cw_attend_40 : decode (mB Y_Cw_attend) 40 = .ok (.iconst 0, 1) := by decide +kernel
theorem d_Cw_attend_41 : decode (mB Y_Cw_attend) 41 = .ok (.istore 5, 2) := by decide +kernel
theorem d_Cw_attend_43 : decode (mB Y_Cw_attend) 43 = .ok (.aload_n 0, 1) := by decide +kernel
theorem d_Cw_attend_44 : decode (mB Y_Cw_attend) 44 = .ok (.getfield 29, 3) := by decide +kernel
theorem d_Cw_attend_47 : decode (mB Y_Cw_attend) 47 = .ok (.iconst 0, 1) := by decide +kernel
theorem d_Cw_attend_48 : decode (mB Y_Cw_attend) 48 = .ok (.aload_n 0, 1) := by decide +kernel
theorem d_Cw_attend_49 : decode (mB Y_Cw_attend) 49 = .ok (.getfield 9, 3) := by decide +kernel
theorem d_Cw_attend_52 : decode (mB Y_Cw_attend) 52 = .ok (.getfield 48, 3) := by decide +kernel
theorem d_Cw_attend_55 : decode (mB Y_Cw_attend) 55 = .ok (.invokestatic 51, 3) := by decide +kernel
theorem d_Cw_attend_58 : decode (mB Y_Cw_attend) 58 = .ok (.iastore, 1) := by decide +kernel
theorem d_Cw_attend_59 : decode (mB Y_Cw_attend) 59 = .ok (.aload_n 0, 1) := by decide +kernel
theorem d_Cw_attend_60 : decode (mB Y_Cw_attend) 60 = .ok (.getfield 29, 3) := by decide +kernel
theorem d_Cw_attend_63 : decode (mB Y_Cw_attend) 63 = .ok (.iconst 1, 1) := by decide +kernel
theorem d_Cw_attend_64 : decode (mB Y_Cw_attend) 64 = .ok (.iload 5, 2) := by decide +kernel
theorem d_Cw_attend_66 : decode (mB Y_Cw_attend) 66 = .ok (.ifCond .eq 13, 3) := by decide +kernel
theorem d_Cw_attend_69 : decode (mB Y_Cw_attend) 69 = .ok (.aload_n 0, 1) := by decide +kernel
theorem d_Cw_attend_70 : decode (mB Y_Cw_attend) 70 = .ok (.getfield 9, 3) := by decide +kernel
theorem d_Cw_attend_73 : decode (mB Y_Cw_attend) 73 = .ok (.getfield 55, 3) := by decide +kernel
theorem d_Cw_attend_76 : decode (mB Y_Cw_attend) 76 = .ok (.goto 4, 3) := by decide +kernel
theorem d_Cw_attend_79 : decode (mB Y_Cw_attend) 79 = .ok (.iconst 0, 1) := by decide +kernel
theorem d_Cw_attend_80 : decode (mB Y_Cw_attend) 80 = .ok (.iastore, 1) := by decide +kernel
theorem d_Cw_attend_81 : decode (mB Y_Cw_attend) 81 = .ok (.aload_n 0, 1) := by decide +kernel
theorem d_Cw_attend_82 : decode (mB Y_Cw_attend) 82 = .ok (.getfield 29, 3) := by decide +kernel
theorem d_Cw_attend_85 : decode (mB Y_Cw_attend) 85 = .ok (.iconst 2, 1) := by decide +kernel
theorem d_Cw_attend_86 : decode (mB Y_Cw_attend) 86 = .ok (.iload 4, 2) := by decide +kernel
theorem d_Cw_attend_88 : decode (mB Y_Cw_attend) 88 = .ok (.iconst (-1), 1) := by decide +kernel
theorem d_Cw_attend_89 : decode (mB Y_Cw_attend) 89 = .ok (.if_icmp .ne 7, 3) := by decide +kernel
theorem d_Cw_attend_92 : decode (mB Y_Cw_attend) 92 = .ok (.iconst 0, 1) := by decide +kernel
theorem d_Cw_attend_93 : decode (mB Y_Cw_attend) 93 = .ok (.goto 13, 3) := by decide +kernel
theorem d_Cw_attend_96 : decode (mB Y_Cw_attend) 96 = .ok (.aload_n 0, 1) := by decide +kernel
theorem d_Cw_attend_97 : decode (mB Y_Cw_attend) 97 = .ok (.getfield 9, 3) := by decide +kernel
theorem d_Cw_attend_100 : decode (mB Y_Cw_attend) 100 = .ok (.getfield 58, 3) := by decide +kernel
theorem d_Cw_attend_103 : decode (mB Y_Cw_attend) 103 = .ok (.iload 4, 2) := by decide +kernel
theorem d_Cw_attend_105 : decode (mB Y_Cw_attend) 105 = .ok (.iaload, 1) := by decide +kernel
theorem d_Cw_attend_106 : decode (mB Y_Cw_attend) 106 = .ok (.iastore, 1) := by decide +kernel
theorem d_Cw_attend_107 : decode (mB Y_Cw_attend) 107 = .ok (.aload_n 0, 1) := by decide +kernel
theorem d_Cw_attend_108 : decode (mB Y_Cw_attend) 108 = .ok (.getfield 29, 3) := by decide +kernel
theorem d_Cw_attend_111 : decode (mB Y_Cw_attend) 111 = .ok (.iconst 3, 1) := by decide +kernel
theorem d_Cw_attend_112 : decode (mB Y_Cw_attend) 112 = .ok (.iload 5, 2) := by decide +kernel
theorem d_Cw_attend_114 : decode (mB Y_Cw_attend) 114 = .ok (.ifCond .eq 21, 3) := by decide +kernel
theorem d_Cw_attend_117 : decode (mB Y_Cw_attend) 117 = .ok (.aload_n 0, 1) := by decide +kernel
theorem d_Cw_attend_118 : decode (mB Y_Cw_attend) 118 = .ok (.getfield 9, 3) := by decide +kernel
theorem d_Cw_attend_121 : decode (mB Y_Cw_attend) 121 = .ok (.getfield 61, 3) := by decide +kernel
theorem d_Cw_attend_124 : decode (mB Y_Cw_attend) 124 = .ok (.aload_n 0, 1) := by decide +kernel
theorem d_Cw_attend_125 : decode (mB Y_Cw_attend) 125 = .ok (.getfield 9, 3) := by decide +kernel
theorem d_Cw_attend_128 : decode (mB Y_Cw_attend) 128 = .ok (.getfield 45, 3) := by decide +kernel
theorem d_Cw_attend_131 : decode (mB Y_Cw_attend) 131 = .ok (.isub, 1) := by decide +kernel
theorem d_Cw_attend_132 : decode (mB Y_Cw_attend) 132 = .ok (.goto 4, 3) := by decide +kernel
theorem d_Cw_attend_135 : decode (mB Y_Cw_attend) 135 = .ok (.iconst 0, 1) := by decide +kernel
theorem d_Cw_attend_136 : decode (mB Y_Cw_attend) 136 = .ok (.iastore, 1) := by decide +kernel
theorem d_Cw_attend_137 : decode (mB Y_Cw_attend) 137 = .ok (.aload_n 0, 1) := by decide +kernel
theorem d_Cw_attend_138 : decode (mB Y_Cw_attend) 138 = .ok (.getfield 29, 3) := by decide +kernel
theorem d_Cw_attend_141 : decode (mB Y_Cw_attend) 141 = .ok (.iconst 4, 1) := by decide +kernel
theorem d_Cw_attend_142 : decode (mB Y_Cw_attend) 142 = .ok (.aload_n 0, 1) := by decide +kernel
theorem d_Cw_attend_143 : decode (mB Y_Cw_attend) 143 = .ok (.getfield 9, 3) := by decide +kernel
theorem d_Cw_attend_146 : decode (mB Y_Cw_attend) 146 = .ok (.getfield 64, 3) := by decide +kernel
theorem d_Cw_attend_149 : decode (mB Y_Cw_attend) 149 = .ok (.iastore, 1) := by decide +kernel
theorem d_Cw_attend_150 : decode (mB Y_Cw_attend) 150 = .ok (.aload_n 0, 1) := by decide +kernel
theorem d_Cw_attend_151 : decode (mB Y_Cw_attend) 151 = .ok (.getfield 29, 3) := by decide +kernel
theorem d_Cw_attend_154 : decode (mB Y_Cw_attend) 154 = .ok (.iconst 5, 1) := by decide +kernel
theorem d_Cw_attend_155 : decode (mB Y_Cw_attend) 155 = .ok (.aload_n 0, 1) := by decide +kernel
theorem d_Cw_attend_156 : decode (mB Y_Cw_attend) 156 = .ok (.getfield 9, 3) := by decide +kernel
theorem d_Cw_attend_159 : decode (mB Y_Cw_attend) 159 = .ok (.getfield 48, 3) := by decide +kernel
theorem d_Cw_attend_162 : decode (mB Y_Cw_attend) 162 = .ok (.iastore, 1) := by decide +kernel
theorem d_Cw_attend_163 : decode (mB Y_Cw_attend) 163 = .ok (.aload_n 0, 1) := by decide +kernel
theorem d_Cw_attend_164 : decode (mB Y_Cw_attend) 164 = .ok (.aload_n 2, 1) := by decide +kernel
theorem d_Cw_attend_165 : decode (mB Y_Cw_attend) 165 = .ok (.getfield 67, 3) := by decide +kernel
theorem d_Cw_attend_168 : decode (mB Y_Cw_attend) 168 = .ok (.iload_n 3, 1) := by decide +kernel
theorem d_Cw_attend_169 : decode (mB Y_Cw_attend) 169 = .ok (.invokestatic 72, 3) := by decide +kernel
theorem d_Cw_attend_172 : decode (mB Y_Cw_attend) 172 = .ok (.putfield 76, 3) := by decide +kernel
theorem d_Cw_attend_175 : decode (mB Y_Cw_attend) 175 = .ok (.aload_n 0, 1) := by decide +kernel
theorem d_Cw_attend_176 : decode (mB Y_Cw_attend) 176 = .ok (.iload 5, 2) := by decide +kernel
theorem d_Cw_attend_178 : decode (mB Y_Cw_attend) 178 = .ok (.ifCond .eq 17, 3) := by decide +kernel
theorem d_Cw_attend_181 : decode (mB Y_Cw_attend) 181 = .ok (.aload_n 0, 1) := by decide +kernel
theorem d_Cw_attend_182 : decode (mB Y_Cw_attend) 182 = .ok (.getfield 9, 3) := by decide +kernel
theorem d_Cw_attend_185 : decode (mB Y_Cw_attend) 185 = .ok (.getfield 79, 3) := by decide +kernel
theorem d_Cw_attend_188 : decode (mB Y_Cw_attend) 188 = .ok (.iload_n 3, 1) := by decide +kernel
theorem d_Cw_attend_189 : decode (mB Y_Cw_attend) 189 = .ok (.invokestatic 72, 3) := by decide +kernel
theorem d_Cw_attend_192 : decode (mB Y_Cw_attend) 192 = .ok (.goto 4, 3) := by decide +kernel
theorem d_Cw_attend_195 : decode (mB Y_Cw_attend) 195 = .ok (.iconst (-1), 1) := by decide +kernel
theorem d_Cw_attend_196 : decode (mB Y_Cw_attend) 196 = .ok (.putfield 82, 3) := by decide +kernel
theorem d_Cw_attend_199 : decode (mB Y_Cw_attend) 199 = .ok (.aload_n 0, 1) := by decide +kernel
theorem d_Cw_attend_200 : decode (mB Y_Cw_attend) 200 = .ok (.iload 4, 2) := by decide +kernel
theorem d_Cw_attend_202 : decode (mB Y_Cw_attend) 202 = .ok (.iconst (-1), 1) := by decide +kernel
theorem d_Cw_attend_203 : decode (mB Y_Cw_attend) 203 = .ok (.if_icmp .ne 7, 3) := by decide +kernel
theorem d_Cw_attend_206 : decode (mB Y_Cw_attend) 206 = .ok (.iconst (-1), 1) := by decide +kernel
theorem d_Cw_attend_207 : decode (mB Y_Cw_attend) 207 = .ok (.goto 17, 3) := by decide +kernel
theorem d_Cw_attend_210 : decode (mB Y_Cw_attend) 210 = .ok (.aload_n 0, 1) := by decide +kernel
theorem d_Cw_attend_211 : decode (mB Y_Cw_attend) 211 = .ok (.getfield 9, 3) := by decide +kernel
theorem d_Cw_attend_214 : decode (mB Y_Cw_attend) 214 = .ok (.getfield 85, 3) := by decide +kernel
theorem d_Cw_attend_217 : decode (mB Y_Cw_attend) 217 = .ok (.iload 4, 2) := by decide +kernel
theorem d_Cw_attend_219 : decode (mB Y_Cw_attend) 219 = .ok (.iaload, 1) := by decide +kernel
theorem d_Cw_attend_220 : decode (mB Y_Cw_attend) 220 = .ok (.iload_n 3, 1) := by decide +kernel
theorem d_Cw_attend_221 : decode (mB Y_Cw_attend) 221 = .ok (.invokestatic 72, 3) := by decide +kernel
theorem d_Cw_attend_224 : decode (mB Y_Cw_attend) 224 = .ok (.putfield 88, 3) := by decide +kernel
theorem d_Cw_attend_227 : decode (mB Y_Cw_attend) 227 = .ok (.return_, 1) := by decide +kernel
theorem ro_Cw_attend_B_loudness : roomy Y_Cw_attend Y_B_loudness := ⟨Nat.le_of_ble_eq_true rfl, Nat.le_of_ble_eq_true rfl⟩
theorem ro_Cw_attend_B_sectorOf : roomy Y_Cw_attend Y_B_sectorOf := ⟨Nat.le_of_ble_eq_true rfl, Nat.le_of_ble_eq_true rfl⟩
theorem ro_Cw_attend_Hd_listen : roomy Y_Cw_attend Y_Hd_listen := ⟨Nat.le_of_ble_eq_true rfl, Nat.le_of_ble_eq_true rfl⟩
def r_Cw_attend (x1 : Int32) (a2 : Nat) (S : Sto) : Option Sto :=
  chk (inr x1 20) (
  lt (S 47 x1.toNatClampNeg) (fun v1 =>
  (r_Hd_listen a2 v1 S).bind (fun S2 =>
  lt (S2 13 7) (fun v3 =>
  jn (fun (v4 : Int32) =>
    (r_B_loudness (S2 13 1)).bind (fun r5 =>
    chk (inr (0 : Int32) 6) (
    ltS (sw S2 49 ((0 : Int32).toNatClampNeg) r5) (fun S6 =>
    jn (fun (v7 : Int32) =>
      chk (inr (1 : Int32) 6) (
      ltS (sw S6 49 ((1 : Int32).toNatClampNeg) v7) (fun S8 =>
      jn (fun (v9 : Int32) =>
        chk (inr (2 : Int32) 6) (
        ltS (sw S8 49 ((2 : Int32).toNatClampNeg) v9) (fun S10 =>
        jn (fun (v11 : Int32) =>
          chk (inr (3 : Int32) 6) (
          ltS (sw S10 49 ((3 : Int32).toNatClampNeg) v11) (fun S12 =>
          chk (inr (4 : Int32) 6) (
          ltS (sw S12 49 ((4 : Int32).toNatClampNeg) (S12 13 6)) (fun S13 =>
          chk (inr (5 : Int32) 6) (
          ltS (sw S13 49 ((5 : Int32).toNatClampNeg) (S13 13 1)) (fun S14 =>
          (r_B_sectorOf (S14 a2 0) v1).bind (fun r15 =>
          ltS (sw S14 33 7 r15) (fun S16 =>
          jn (fun (v17 : Int32) =>
            ltS (sw S16 33 8 v17) (fun S18 =>
            jn (fun (v19 : Int32) =>
              ltS (sw S18 33 9 v19) (fun S20 =>
              some S20)) (fun j224 =>
            if v3 = (-1) then
              j224 ((-1))
            else
              chk (inr v3 10) (
              (r_B_sectorOf (S18 16 v3.toNatClampNeg) v1).bind (fun r21 =>
              j224 (r21)))))) (fun j196 =>
          if v4 = 0 then
            j196 ((-1))
          else
            (r_B_sectorOf (S16 13 4) v1).bind (fun r22 =>
            j196 (r22)))))))))))) (fun j136 =>
        if v4 = 0 then
          j136 (0)
        else
          j136 ((S10 13 2) - (S10 13 3)))))) (fun j106 =>
      if v3 = (-1) then
        j106 (0)
      else
        chk (inr v3 10) (
        j106 (S8 15 v3.toNatClampNeg)))))) (fun j80 =>
    if v4 = 0 then
      j80 (0)
    else
      j80 (S6 13 5)))))) (fun j41 =>
  if (S2 13 3) = (-1) then
    j41 (0)
  else
    j41 (1))))))
set_option maxHeartbeats 4000000 in
set_option maxRecDepth 20000 in
theorem c_Cw_attend {G : Gl} {L : Shp} (hL : Ext L) (S : Sto) (x1 : Int32) (a2 : Nat) (h2 : isShot L a2) : Ct Y_Cw_attend G [rf G 33, .int x1, rf G a2] L S (fv L) (r_Cw_attend x1 a2 S) := by
  refine ct_of (by decide +kernel) (Nat.le_of_ble_eq_true rfl) (fun g C => ?_)
  show VO g Y_Cw_attend G (fun z => Qm g Y_Cw_attend G (fv L z)) 0 0 0 [(0, rf G 33), (1, .int x1), (2, rf G a2)] [] L S (r_Cw_attend x1 a2 S) some
  unfold r_Cw_attend
  refine v_aload_n (pc := 0) C d_Cw_attend_0 rfl 0 rfl ?_
  refine v_getR (pc := 1) C fl_Cw_22 (sh_33 hL) rfl d_Cw_attend_1 ?_
  refine v_iload_n (pc := 4) C d_Cw_attend_4 rfl 1 rfl ?_
  refine v_iald (pc := 5) C (sh_47 hL) d_Cw_attend_5 (fun _ => ?_)
  refine v_lt (fun v1 => ?_)
  refine v_istore_n (pc := 6) (lv' := [(3, .int v1), (0, rf G 33), (1, .int x1), (2, rf G a2)]) C d_Cw_attend_6 rfl (by decide) rfl ?_
  refine v_aload_n (pc := 7) C d_Cw_attend_7 rfl 1 rfl ?_
  refine v_getR (pc := 8) C fl_Cw_9 (sh_33 hL) rfl d_Cw_attend_8 ?_
  refine v_aload_n (pc := 11) C d_Cw_attend_11 rfl 3 rfl ?_
  refine v_iload_n (pc := 12) C d_Cw_attend_12 rfl 0 rfl ?_
  refine v_cv (pc := 13) (inv_V (As := [rf G a2, .int v1]) (st := []) C ml_Cw_35 mv_Hd_listen ro_Cw_attend_Hd_listen (sh_13 hL) rfl rfl rfl rfl (Nat.le_of_ble_eq_true rfl) d_Cw_attend_13) (c_Hd_listen hL S a2 v1 h2) ⟨rfl, rfl⟩ ⟨Nat.zero_le _, Nat.zero_le _⟩ (fun S2 => ?_)
  refine v_aload_n (pc := 16) C d_Cw_attend_16 rfl 1 rfl ?_
  refine v_getR (pc := 17) C fl_Cw_9 (sh_33 hL) rfl d_Cw_attend_17 ?_
  refine v_getI (pc := 20) C fl_Cw_41 (sh_13 hL) rfl d_Cw_attend_20 ?_
  refine v_lt (fun v3 => ?_)
  refine v_istore (pc := 23) (lv' := [(4, .int v3), (3, .int v1), (0, rf G 33), (1, .int x1), (2, rf G a2)]) C d_Cw_attend_23 (by decide) rfl ?_
  refine v_aload_n (pc := 25) C d_Cw_attend_25 rfl 2 rfl ?_
  refine v_getR (pc := 26) C fl_Cw_9 (sh_33 hL) rfl d_Cw_attend_26 ?_
  refine v_getI (pc := 29) C fl_Cw_45 (sh_13 hL) rfl d_Cw_attend_29 ?_
  refine v_iconst (pc := 32) C d_Cw_attend_32 ic_m1 ?_
  refine v_jn (fun j => ∀ (v4 : Int32), VO g Y_Cw_attend G (fun z => Qm g Y_Cw_attend G (fv L z)) 0 0 41 [(0, rf G 33), (2, rf G a2), (3, .int v1), (4, .int v3)] [.int v4] L S2 (j (v4)) some) (fun v4 => ?_) (fun j41 hj41 => ?_)
  · refine v_istore (pc := 41) (lv' := [(5, .int v4), (0, rf G 33), (2, rf G a2), (3, .int v1), (4, .int v3)]) C d_Cw_attend_41 (by decide) rfl ?_
    refine v_aload_n (pc := 43) C d_Cw_attend_43 rfl 1 rfl ?_
    refine v_getR (pc := 44) C fl_Cw_29 (sh_33 hL) rfl d_Cw_attend_44 ?_
    refine v_iconst (pc := 47) C d_Cw_attend_47 ic_0 ?_
    refine v_aload_n (pc := 48) C d_Cw_attend_48 rfl 1 rfl ?_
    refine v_getR (pc := 49) C fl_Cw_9 (sh_33 hL) rfl d_Cw_attend_49 ?_
    refine v_getI (pc := 52) C fl_Cw_48 (sh_13 hL) rfl d_Cw_attend_52 ?_
    refine v_cp (pc := 55) (inv_SN (As := [.int (S2 13 1)]) (st := [.int 0, rf G 49]) C mn_Cw_51 ms_B_loudness ro_Cw_attend_B_loudness rfl rfl (Nat.le_of_ble_eq_true rfl) d_Cw_attend_55) (c_B_loudness hL S2 (S2 13 1)) ⟨rfl, rfl⟩ ⟨Nat.zero_le _, Nat.zero_le _⟩ (fun r5 => ?_)
    refine v_iast (pc := 58) C (sh_49 hL) d_Cw_attend_58 (fun _ S6 => ?_)
    refine v_aload_n (pc := 59) C d_Cw_attend_59 rfl 1 rfl ?_
    refine v_getR (pc := 60) C fl_Cw_29 (sh_33 hL) rfl d_Cw_attend_60 ?_
    refine v_iconst (pc := 63) C d_Cw_attend_63 ic_1 ?_
    refine v_iload (pc := 64) C d_Cw_attend_64 0 rfl ?_
    refine v_jn (fun j => ∀ (v7 : Int32), VO g Y_Cw_attend G (fun z => Qm g Y_Cw_attend G (fv L z)) 0 0 80 [(0, rf G 33), (2, rf G a2), (3, .int v1), (4, .int v3), (5, .int v4)] [.int v7, .int 1, rf G 49] L S6 (j (v7)) some) (fun v7 => ?_) (fun j80 hj80 => ?_)
    · refine v_iast (pc := 80) C (sh_49 hL) d_Cw_attend_80 (fun _ S8 => ?_)
      refine v_aload_n (pc := 81) C d_Cw_attend_81 rfl 0 rfl ?_
      refine v_getR (pc := 82) C fl_Cw_29 (sh_33 hL) rfl d_Cw_attend_82 ?_
      refine v_iconst (pc := 85) C d_Cw_attend_85 ic_2 ?_
      refine v_iload (pc := 86) C d_Cw_attend_86 3 rfl ?_
      refine v_iconst (pc := 88) C d_Cw_attend_88 ic_m1 ?_
      refine v_jn (fun j => ∀ (v9 : Int32), VO g Y_Cw_attend G (fun z => Qm g Y_Cw_attend G (fv L z)) 0 0 106 [(0, rf G 33), (2, rf G a2), (3, .int v1), (4, .int v3), (5, .int v4)] [.int v9, .int 2, rf G 49] L S8 (j (v9)) some) (fun v9 => ?_) (fun j106 hj106 => ?_)
      · refine v_iast (pc := 106) C (sh_49 hL) d_Cw_attend_106 (fun _ S10 => ?_)
        refine v_aload_n (pc := 107) C d_Cw_attend_107 rfl 0 rfl ?_
        refine v_getR (pc := 108) C fl_Cw_29 (sh_33 hL) rfl d_Cw_attend_108 ?_
        refine v_iconst (pc := 111) C d_Cw_attend_111 ic_3 ?_
        refine v_iload (pc := 112) C d_Cw_attend_112 4 rfl ?_
        refine v_jn (fun j => ∀ (v11 : Int32), VO g Y_Cw_attend G (fun z => Qm g Y_Cw_attend G (fv L z)) 0 0 136 [(0, rf G 33), (2, rf G a2), (3, .int v1), (4, .int v3), (5, .int v4)] [.int v11, .int 3, rf G 49] L S10 (j (v11)) some) (fun v11 => ?_) (fun j136 hj136 => ?_)
        · refine v_iast (pc := 136) C (sh_49 hL) d_Cw_attend_136 (fun _ S12 => ?_)
          refine v_aload_n (pc := 137) C d_Cw_attend_137 rfl 0 rfl ?_
          refine v_getR (pc := 138) C fl_Cw_29 (sh_33 hL) rfl d_Cw_attend_138 ?_
          refine v_iconst (pc := 141) C d_Cw_attend_141 ic_4 ?_
          refine v_aload_n (pc := 142) C d_Cw_attend_142 rfl 0 rfl ?_
          refine v_getR (pc := 143) C fl_Cw_9 (sh_33 hL) rfl d_Cw_attend_143 ?_
          refine v_getI (pc := 146) C fl_Cw_64 (sh_13 hL) rfl d_Cw_attend_146 ?_
          refine v_iast (pc := 149) C (sh_49 hL) d_Cw_attend_149 (fun _ S13 => ?_)
          refine v_aload_n (pc := 150) C d_Cw_attend_150 rfl 0 rfl ?_
          refine v_getR (pc := 151) C fl_Cw_29 (sh_33 hL) rfl d_Cw_attend_151 ?_
          refine v_iconst (pc := 154) C d_Cw_attend_154 ic_5 ?_
          refine v_aload_n (pc := 155) C d_Cw_attend_155 rfl 0 rfl ?_
          refine v_getR (pc := 156) C fl_Cw_9 (sh_33 hL) rfl d_Cw_attend_156 ?_
          refine v_getI (pc := 159) C fl_Cw_48 (sh_13 hL) rfl d_Cw_attend_159 ?_
          refine v_iast (pc := 162) C (sh_49 hL) d_Cw_attend_162 (fun _ S14 => ?_)
          refine v_aload_n (pc := 163) C d_Cw_attend_163 rfl 0 rfl ?_
          refine v_aload_n (pc := 164) C d_Cw_attend_164 rfl 1 rfl ?_
          refine v_getI (pc := 165) C fl_Cw_67 h2 rfl d_Cw_attend_165 ?_
          refine v_iload_n (pc := 168) C d_Cw_attend_168 rfl 2 rfl ?_
          refine v_cp (pc := 169) (inv_SN (As := [.int (S14 a2 0), .int v1]) (st := [rf G 33]) C mn_Cw_72 ms_B_sectorOf ro_Cw_attend_B_sectorOf rfl rfl (Nat.le_of_ble_eq_true rfl) d_Cw_attend_169) (c_B_sectorOf hL S14 (S14 a2 0) v1) ⟨rfl, rfl⟩ ⟨Nat.zero_le _, Nat.zero_le _⟩ (fun r15 => ?_)
          refine v_putI (pc := 172) C fp_Cw_76 (sh_33 hL) rfl d_Cw_attend_172 (fun S16 => ?_)
          refine v_aload_n (pc := 175) C d_Cw_attend_175 rfl 0 rfl ?_
          refine v_iload (pc := 176) C d_Cw_attend_176 4 rfl ?_
          refine v_jn (fun j => ∀ (v17 : Int32), VO g Y_Cw_attend G (fun z => Qm g Y_Cw_attend G (fv L z)) 0 0 196 [(0, rf G 33), (3, .int v1), (4, .int v3)] [.int v17, rf G 33] L S16 (j (v17)) some) (fun v17 => ?_) (fun j196 hj196 => ?_)
          · refine v_putI (pc := 196) C fp_Cw_82 (sh_33 hL) rfl d_Cw_attend_196 (fun S18 => ?_)
            refine v_aload_n (pc := 199) C d_Cw_attend_199 rfl 0 rfl ?_
            refine v_iload (pc := 200) C d_Cw_attend_200 2 rfl ?_
            refine v_iconst (pc := 202) C d_Cw_attend_202 ic_m1 ?_
            refine v_jn (fun j => ∀ (v19 : Int32), VO g Y_Cw_attend G (fun z => Qm g Y_Cw_attend G (fv L z)) 0 0 224 [] [.int v19, rf G 33] L S18 (j (v19)) some) (fun v19 => ?_) (fun j224 hj224 => ?_)
            · refine v_putI (pc := 224) C fp_Cw_88 (sh_33 hL) rfl d_Cw_attend_224 (fun S20 => ?_)
              exact v_vret C d_Cw_attend_227 rfl ⟨Nat.zero_le _, Nat.zero_le _⟩ rfl rfl
            · refine v_icmp_ne (pc := 203) (tgt := 210) C d_Cw_attend_203 rfl (fun _ => ?_) (fun _ => ?_)
              · refine v_aload_n (pc := 210) C d_Cw_attend_210 rfl 0 rfl ?_
                refine v_getR (pc := 211) C fl_Cw_9 (sh_33 hL) rfl d_Cw_attend_211 ?_
                refine v_getR (pc := 214) C fl_Cw_85 (sh_13 hL) rfl d_Cw_attend_214 ?_
                refine v_iload (pc := 217) C d_Cw_attend_217 2 rfl ?_
                refine v_iald (pc := 219) C (sh_16 hL) d_Cw_attend_219 (fun _ => ?_)
                refine v_iload_n (pc := 220) C d_Cw_attend_220 rfl 1 rfl ?_
                refine v_cp (pc := 221) (inv_SN (As := [.int (S18 16 v3.toNatClampNeg), .int v1]) (st := [rf G 33]) C mn_Cw_72 ms_B_sectorOf ro_Cw_attend_B_sectorOf rfl rfl (Nat.le_of_ble_eq_true rfl) d_Cw_attend_221) (c_B_sectorOf hL S18 (S18 16 v3.toNatClampNeg) v1) ⟨rfl, rfl⟩ ⟨Nat.zero_le _, Nat.zero_le _⟩ (fun r21 => ?_)
                refine v_sub [] rfl ?_
                exact hj224 r21
              · refine v_iconst (pc := 206) C d_Cw_attend_206 ic_m1 ?_
                refine v_goto (pc := 207) (tgt := 224) C d_Cw_attend_207 rfl ?_
                refine v_sub [] rfl ?_
                exact hj224 (-1)
          · refine v_if_eq (pc := 178) (tgt := 195) C d_Cw_attend_178 rfl (fun _ => ?_) (fun _ => ?_)
            · refine v_iconst (pc := 195) C d_Cw_attend_195 ic_m1 ?_
              refine v_sub [0, 2, 3] rfl ?_
              exact hj196 (-1)
            · refine v_aload_n (pc := 181) C d_Cw_attend_181 rfl 0 rfl ?_
              refine v_getR (pc := 182) C fl_Cw_9 (sh_33 hL) rfl d_Cw_attend_182 ?_
              refine v_getI (pc := 185) C fl_Cw_79 (sh_13 hL) rfl d_Cw_attend_185 ?_
              refine v_iload_n (pc := 188) C d_Cw_attend_188 rfl 2 rfl ?_
              refine v_cp (pc := 189) (inv_SN (As := [.int (S16 13 4), .int v1]) (st := [rf G 33]) C mn_Cw_72 ms_B_sectorOf ro_Cw_attend_B_sectorOf rfl rfl (Nat.le_of_ble_eq_true rfl) d_Cw_attend_189) (c_B_sectorOf hL S16 (S16 13 4) v1) ⟨rfl, rfl⟩ ⟨Nat.zero_le _, Nat.zero_le _⟩ (fun r22 => ?_)
              refine v_goto (pc := 192) (tgt := 196) C d_Cw_attend_192 rfl ?_
              refine v_sub [0, 2, 3] rfl ?_
              exact hj196 r22
        · refine v_if_eq (pc := 114) (tgt := 135) C d_Cw_attend_114 rfl (fun _ => ?_) (fun _ => ?_)
          · refine v_iconst (pc := 135) C d_Cw_attend_135 ic_0 ?_
            exact hj136 0
          · refine v_aload_n (pc := 117) C d_Cw_attend_117 rfl 0 rfl ?_
            refine v_getR (pc := 118) C fl_Cw_9 (sh_33 hL) rfl d_Cw_attend_118 ?_
            refine v_getI (pc := 121) C fl_Cw_61 (sh_13 hL) rfl d_Cw_attend_121 ?_
            refine v_aload_n (pc := 124) C d_Cw_attend_124 rfl 0 rfl ?_
            refine v_getR (pc := 125) C fl_Cw_9 (sh_33 hL) rfl d_Cw_attend_125 ?_
            refine v_getI (pc := 128) C fl_Cw_45 (sh_13 hL) rfl d_Cw_attend_128 ?_
            refine v_isub (pc := 131) C d_Cw_attend_131 ?_
            refine v_goto (pc := 132) (tgt := 136) C d_Cw_attend_132 rfl ?_
            exact hj136 ((S10 13 2) - (S10 13 3))
      · refine v_icmp_ne (pc := 89) (tgt := 96) C d_Cw_attend_89 rfl (fun _ => ?_) (fun _ => ?_)
        · refine v_aload_n (pc := 96) C d_Cw_attend_96 rfl 0 rfl ?_
          refine v_getR (pc := 97) C fl_Cw_9 (sh_33 hL) rfl d_Cw_attend_97 ?_
          refine v_getR (pc := 100) C fl_Cw_58 (sh_13 hL) rfl d_Cw_attend_100 ?_
          refine v_iload (pc := 103) C d_Cw_attend_103 3 rfl ?_
          refine v_iald (pc := 105) C (sh_15 hL) d_Cw_attend_105 (fun _ => ?_)
          exact hj106 (S8 15 v3.toNatClampNeg)
        · refine v_iconst (pc := 92) C d_Cw_attend_92 ic_0 ?_
          refine v_goto (pc := 93) (tgt := 106) C d_Cw_attend_93 rfl ?_
          exact hj106 0
    · refine v_if_eq (pc := 66) (tgt := 79) C d_Cw_attend_66 rfl (fun _ => ?_) (fun _ => ?_)
      · refine v_iconst (pc := 79) C d_Cw_attend_79 ic_0 ?_
        refine v_sub [1, 2, 3, 4, 0] rfl ?_
        exact hj80 0
      · refine v_aload_n (pc := 69) C d_Cw_attend_69 rfl 1 rfl ?_
        refine v_getR (pc := 70) C fl_Cw_9 (sh_33 hL) rfl d_Cw_attend_70 ?_
        refine v_getI (pc := 73) C fl_Cw_55 (sh_13 hL) rfl d_Cw_attend_73 ?_
        refine v_goto (pc := 76) (tgt := 80) C d_Cw_attend_76 rfl ?_
        refine v_sub [1, 2, 3, 4, 0] rfl ?_
        exact hj80 (S6 13 5)
  · refine v_icmp_eq (pc := 33) (tgt := 40) C d_Cw_attend_33 rfl (fun _ => ?_) (fun _ => ?_)
    · refine v_iconst (pc := 40) C d_Cw_attend_40 ic_0 ?_
      refine v_sub [2, 4, 1, 0] rfl ?_
      exact hj41 0
    · refine v_iconst (pc := 36) C d_Cw_attend_36 ic_1 ?_
      refine v_goto (pc := 37) (tgt := 41) C d_Cw_attend_37 rfl ?_
      refine v_sub [2, 4, 1, 0] rfl ?_
      exact hj41 1
-- Sc_pop
theorem d_Sc_pop_0 : decode (mB Y_Sc_pop) 0 = .ok (.aload_n 0, 1) := by decide +kernel
theorem d_Sc_pop_1 : decode (mB Y_Sc_pop) 1 = .ok (.getfield 16, 3) := by decide +kernel
theorem d_Sc_pop_4 : decode (mB Y_Sc_pop) 4 = .ok (.ifCond .ne 5, 3) := by decide +kernel
theorem d_Sc_pop_7 : decode (mB Y_Sc_pop) 7 = .ok (.iconst 0, 1) := by decide +kernel
theorem d_Sc_pop_8 : decode (mB Y_Sc_pop) 8 = .ok (.ireturn, 1) := by decide +kernel
theorem d_Sc_pop_9 : decode (mB Y_Sc_pop) 9 = .ok (.aload_n 0, 1) := by decide +kernel
theorem d_Sc_pop_10 : decode (mB Y_Sc_pop) 10 = .ok (.dup, 1) := by decide +kernel
theorem d_Sc_pop_11 : decode (mB Y_Sc_pop) 11 = .ok (.getfield 16, 3) := by decide +kernel
theorem d_Sc_pop_14 : decode (mB Y_Sc_pop) 14 = .ok (.iconst 1, 1) := by decide +kernel
theorem d_Sc_pop_15 : decode (mB Y_Sc_pop) 15 = .ok (.isub, 1) := by decide +kernel
theorem d_Sc_pop_16 : decode (mB Y_Sc_pop) 16 = .ok (.putfield 16, 3) := by decide +kernel
theorem d_Sc_pop_19 : decode (mB Y_Sc_pop) 19 = .ok (.aload_n 0, 1) := by decide +kernel
theorem d_Sc_pop_20 : decode (mB Y_Sc_pop) 20 = .ok (.getfield 13, 3) := by decide +kernel
theorem d_Sc_pop_23 : decode (mB Y_Sc_pop) 23 = .ok (.aload_n 0, 1) := by decide +kernel
theorem d_Sc_pop_24 : decode (mB Y_Sc_pop) 24 = .ok (.getfield 16, 3) := by decide +kernel
theorem d_Sc_pop_27 : decode (mB Y_Sc_pop) 27 = .ok (.iaload, 1) := by decide +kernel
theorem d_Sc_pop_28 : decode (mB Y_Sc_pop) 28 = .ok (.ireturn, 1) := by decide +kernel
def r_Sc_pop (a0 : Nat) (S : Sto) : Option (Int32 × Sto) :=
  if (S a0 2) = 0 then
    some (0, S)
  else
    ltS (sw S a0 2 ((S a0 2) - 1)) (fun S1 =>
    chk (inr (S1 a0 2) 32) (
    some (S1 (a0 + 2) ((S1 a0 2).toNatClampNeg), S1)))
set_option maxHeartbeats 4000000 in
set_option maxRecDepth 20000 in
theorem c_Sc_pop {G : Gl} {L : Shp} (hL : Ext L) (S : Sto) (a0 : Nat) (h0 : isScript L a0) : Ct Y_Sc_pop G [rf G a0] L S (fi L) (r_Sc_pop a0 S) := by
  refine ct_of (by decide +kernel) (Nat.le_of_ble_eq_true rfl) (fun g C => ?_)
  show VO g Y_Sc_pop G (fun z => Qm g Y_Sc_pop G (fi L z)) 0 0 0 [(0, rf G a0)] [] L S (r_Sc_pop a0 S) some
  unfold r_Sc_pop
  refine v_aload_n (pc := 0) C d_Sc_pop_0 rfl 0 rfl ?_
  refine v_getI (pc := 1) C fl_Sc_16 h0.1 rfl d_Sc_pop_1 ?_
  refine v_if_ne (pc := 4) (tgt := 9) C d_Sc_pop_4 rfl (fun _ => ?_) (fun _ => ?_)
  · refine v_aload_n (pc := 9) C d_Sc_pop_9 rfl 0 rfl ?_
    refine v_dup (pc := 10) C d_Sc_pop_10 rfl ?_
    refine v_getI (pc := 11) C fl_Sc_16 h0.1 rfl d_Sc_pop_11 ?_
    refine v_iconst (pc := 14) C d_Sc_pop_14 ic_1 ?_
    refine v_isub (pc := 15) C d_Sc_pop_15 ?_
    refine v_putI (pc := 16) C fp_Sc_16 h0.1 rfl d_Sc_pop_16 (fun S1 => ?_)
    refine v_aload_n (pc := 19) C d_Sc_pop_19 rfl 0 rfl ?_
    refine v_getR (pc := 20) C fl_Sc_13 h0.1 rfl d_Sc_pop_20 ?_
    refine v_aload_n (pc := 23) C d_Sc_pop_23 rfl 0 rfl ?_
    refine v_getI (pc := 24) C fl_Sc_16 h0.1 rfl d_Sc_pop_24 ?_
    refine v_iald (pc := 27) C h0.2 d_Sc_pop_27 (fun _ => ?_)
    exact v_iret (z := (S1 (a0 + 2) ((S1 a0 2).toNatClampNeg), S1)) C d_Sc_pop_28 rfl ⟨Nat.zero_le _, Nat.zero_le _⟩ (rfl) rfl
  · refine v_iconst (pc := 7) C d_Sc_pop_7 ic_0 ?_
    exact v_iret (z := (0, S)) C d_Sc_pop_8 rfl ⟨Nat.zero_le _, Nat.zero_le _⟩ (rfl) rfl
-- Sc_push
theorem d_Sc_push_0 : decode (mB Y_Sc_push) 0 = .ok (.aload_n 0, 1) := by decide +kernel
theorem d_Sc_push_1 : decode (mB Y_Sc_push) 1 = .ok (.getfield 16, 3) := by decide +kernel
theorem d_Sc_push_4 : decode (mB Y_Sc_push) 4 = .ok (.aload_n 0, 1) := by decide +kernel
theorem d_Sc_push_5 : decode (mB Y_Sc_push) 5 = .ok (.getfield 13, 3) := by decide +kernel
theorem d_Sc_push_8 : decode (mB Y_Sc_push) 8 = .ok (.arraylength, 1) := by decide +kernel
theorem d_Sc_push_9 : decode (mB Y_Sc_push) 9 = .ok (.if_icmp .ge 23, 3) := by decide +kernel
theorem d_Sc_push_12 : decode (mB Y_Sc_push) 12 = .ok (.aload_n 0, 1) := by decide +kernel
theorem d_Sc_push_13 : decode (mB Y_Sc_push) 13 = .ok (.getfield 13, 3) := by decide +kernel
theorem d_Sc_push_16 : decode (mB Y_Sc_push) 16 = .ok (.aload_n 0, 1) := by decide +kernel
theorem d_Sc_push_17 : decode (mB Y_Sc_push) 17 = .ok (.getfield 16, 3) := by decide +kernel
theorem d_Sc_push_20 : decode (mB Y_Sc_push) 20 = .ok (.iload_n 1, 1) := by decide +kernel
theorem d_Sc_push_21 : decode (mB Y_Sc_push) 21 = .ok (.iastore, 1) := by decide +kernel
theorem d_Sc_push_22 : decode (mB Y_Sc_push) 22 = .ok (.aload_n 0, 1) := by decide +kernel
theorem d_Sc_push_23 : decode (mB Y_Sc_push) 23 = .ok (.dup, 1) := by decide +kernel
theorem d_Sc_push_24 : decode (mB Y_Sc_push) 24 = .ok (.getfield 16, 3) := by decide +kernel
theorem d_Sc_push_27 : decode (mB Y_Sc_push) 27 = .ok (.iconst 1, 1) := by decide +kernel
theorem d_Sc_push_28 : decode (mB Y_Sc_push) 28 = .ok (.iadd, 1) := by decide +kernel
theorem d_Sc_push_29 : decode (mB Y_Sc_push) 29 = .ok (.putfield 16, 3) := by decide +kernel
theorem d_Sc_push_32 : decode (mB Y_Sc_push) 32 = .ok (.return_, 1) := by decide +kernel
def r_Sc_push (a0 : Nat) (x1 : Int32) (S : Sto) : Option Sto :=
  if 32 ≤ (S a0 2) then
    some S
  else
    chk (inr (S a0 2) 32) (
    ltS (sw S (a0 + 2) ((S a0 2).toNatClampNeg) x1) (fun S1 =>
    ltS (sw S1 a0 2 ((S1 a0 2) + 1)) (fun S2 =>
    some S2)))
set_option maxHeartbeats 4000000 in
set_option maxRecDepth 20000 in
theorem c_Sc_push {G : Gl} {L : Shp} (hL : Ext L) (S : Sto) (a0 : Nat) (x1 : Int32) (h0 : isScript L a0) : Ct Y_Sc_push G [rf G a0, .int x1] L S (fv L) (r_Sc_push a0 x1 S) := by
  refine ct_of (by decide +kernel) (Nat.le_of_ble_eq_true rfl) (fun g C => ?_)
  show VO g Y_Sc_push G (fun z => Qm g Y_Sc_push G (fv L z)) 0 0 0 [(0, rf G a0), (1, .int x1)] [] L S (r_Sc_push a0 x1 S) some
  unfold r_Sc_push
  refine v_aload_n (pc := 0) C d_Sc_push_0 rfl 0 rfl ?_
  refine v_getI (pc := 1) C fl_Sc_16 h0.1 rfl d_Sc_push_1 ?_
  refine v_aload_n (pc := 4) C d_Sc_push_4 rfl 0 rfl ?_
  refine v_getR (pc := 5) C fl_Sc_13 h0.1 rfl d_Sc_push_5 ?_
  refine v_alen (pc := 8) (v := 32) (t := 0) C h0.2 rfl rfl rfl d_Sc_push_8 ?_
  refine v_icmp_ge (pc := 9) (tgt := 32) C d_Sc_push_9 rfl (fun _ => ?_) (fun _ => ?_)
  · exact v_vret C d_Sc_push_32 rfl ⟨Nat.zero_le _, Nat.zero_le _⟩ rfl rfl
  · refine v_aload_n (pc := 12) C d_Sc_push_12 rfl 0 rfl ?_
    refine v_getR (pc := 13) C fl_Sc_13 h0.1 rfl d_Sc_push_13 ?_
    refine v_aload_n (pc := 16) C d_Sc_push_16 rfl 0 rfl ?_
    refine v_getI (pc := 17) C fl_Sc_16 h0.1 rfl d_Sc_push_17 ?_
    refine v_iload_n (pc := 20) C d_Sc_push_20 rfl 1 rfl ?_
    refine v_iast (pc := 21) C h0.2 d_Sc_push_21 (fun _ S1 => ?_)
    refine v_aload_n (pc := 22) C d_Sc_push_22 rfl 0 rfl ?_
    refine v_dup (pc := 23) C d_Sc_push_23 rfl ?_
    refine v_getI (pc := 24) C fl_Sc_16 h0.1 rfl d_Sc_push_24 ?_
    refine v_iconst (pc := 27) C d_Sc_push_27 ic_1 ?_
    refine v_iadd (pc := 28) C d_Sc_push_28 ?_
    refine v_putI (pc := 29) C fp_Sc_16 h0.1 rfl d_Sc_push_29 (fun S2 => ?_)
    exact v_vret C d_Sc_push_32 rfl ⟨Nat.zero_le _, Nat.zero_le _⟩ rfl rfl
-- Sc_join
theorem d_Sc_join_0 : decode (mB Y_Sc_join) 0 = .ok (.iload_n 0, 1) := by decide +kernel
theorem d_Sc_join_1 : decode (mB Y_Sc_join) 1 = .ok (.lookupswitch 116 #[(2, 112), (42, 75), (43, 67), (45, 71), (60, 79), (61, 90), (62, 101)], 67) := by decide +kernel
theorem d_Sc_join_68 : decode (mB Y_Sc_join) 68 = .ok (.iload_n 1, 1) := by decide +kernel
theorem d_Sc_join_69 : decode (mB Y_Sc_join) 69 = .ok (.iload_n 2, 1) := by decide +kernel
theorem d_Sc_join_70 : decode (mB Y_Sc_join) 70 = .ok (.iadd, 1) := by decide +kernel
theorem d_Sc_join_71 : decode (mB Y_Sc_join) 71 = .ok (.ireturn, 1) := by decide +kernel
theorem d_Sc_join_72 : decode (mB Y_Sc_join) 72 = .ok (.iload_n 1, 1) := by decide +kernel
theorem d_Sc_join_73 : decode (mB Y_Sc_join) 73 = .ok (.iload_n 2, 1) := by decide +kernel
theorem d_Sc_join_74 : decode (mB Y_Sc_join) 74 = .ok (.isub, 1) := by decide +kernel
theorem d_Sc_join_75 : decode (mB Y_Sc_join) 75 = .ok (.ireturn, 1) := by decide +kernel
theorem d_Sc_join_76 : decode (mB Y_Sc_join) 76 = .ok (.iload_n 1, 1) := by decide +kernel
theorem d_Sc_join_77 : decode (mB Y_Sc_join) 77 = .ok (.iload_n 2, 1) := by decide +kernel
theorem d_Sc_join_78 : decode (mB Y_Sc_join) 78 = .ok (.imul, 1) := by decide +kernel
theorem d_Sc_join_79 : decode (mB Y_Sc_join) 79 = .ok (.ireturn, 1) := by decide +kernel
theorem d_Sc_join_80 : decode (mB Y_Sc_join) 80 = .ok (.iload_n 1, 1) := by decide +kernel
theorem d_Sc_join_81 : decode (mB Y_Sc_join) 81 = .ok (.iload_n 2, 1) := by decide +kernel
theorem d_Sc_join_82 : decode (mB Y_Sc_join) 82 = .ok (.if_icmp .ge 7, 3) := by decide +kernel
theorem d_Sc_join_85 : decode (mB Y_Sc_join) 85 = .ok (.iconst 1, 1) := by decide +kernel
theorem d_Sc_join_86 : decode (mB Y_Sc_join) 86 = .ok (.goto 4, 3) := by decide +kernel
theorem d_Sc_join_89 : decode (mB Y_Sc_join) 89 = .ok (.iconst 0, 1) := by decide +kernel
theorem d_Sc_join_90 : decode (mB Y_Sc_join) 90 = .ok (.ireturn, 1) := by decide +kernel
theorem d_Sc_join_91 : decode (mB Y_Sc_join) 91 = .ok (.iload_n 1, 1) := by decide +kernel
theorem d_Sc_join_92 : decode (mB Y_Sc_join) 92 = .ok (.iload_n 2, 1) := by decide +kernel
theorem d_Sc_join_93 : decode (mB Y_Sc_join) 93 = .ok (.if_icmp .ne 7, 3) := by decide +kernel
theorem d_Sc_join_96 : decode (mB Y_Sc_join) 96 = .ok (.iconst 1, 1) := by decide +kernel
theorem d_Sc_join_97 : decode (mB Y_Sc_join) 97 = .ok (.goto 4, 3) := by decide +kernel
theorem d_Sc_join_100 : decode (mB Y_Sc_join) 100 = .ok (.iconst 0, 1) := by decide +kernel
theorem d_Sc_join_101 : decode (mB Y_Sc_join) 101 = .ok (.ireturn, 1) := by decide +kernel
theorem d_Sc_join_102 : decode (mB Y_Sc_join) 102 = .ok (.iload_n 1, 1) := by decide +kernel
theorem d_Sc_join_103 : decode (mB Y_Sc_join) 103 = .ok (.iload_n 2, 1) := by decide +kernel
theorem d_Sc_join_104 : decode (mB Y_Sc_join) 104 = .ok (.if_icmp .le 7, 3) := by decide +kernel
theorem d_Sc_join_107 : decode (mB Y_Sc_join) 107 = .ok (.iconst 1, 1) := by decide +kernel
theorem d_Sc_join_108 : decode (mB Y_Sc_join) 108 = .ok (.goto 4, 3) := by decide +kernel
theorem d_Sc_join_111 : decode (mB Y_Sc_join) 111 = .ok (.iconst 0, 1) := by decide +kernel
theorem d_Sc_join_112 : decode (mB Y_Sc_join) 112 = .ok (.ireturn, 1) := by decide +kernel
theorem d_Sc_join_113 : decode (mB Y_Sc_join) 113 = .ok (.iload_n 1, 1) := by decide +kernel
theorem d_Sc_join_114 : decode (mB Y_Sc_join) 114 = .ok (.iload_n 2, 1) := by decide +kernel
theorem d_Sc_join_115 : decode (mB Y_Sc_join) 115 = .ok (.iand, 1) := by decide +kernel
theorem d_Sc_join_116 : decode (mB Y_Sc_join) 116 = .ok (.ireturn, 1) := by decide +kernel
theorem d_Sc_join_117 : decode (mB Y_Sc_join) 117 = .ok (.iload_n 1, 1) := by decide +kernel
theorem d_Sc_join_118 : decode (mB Y_Sc_join) 118 = .ok (.iload_n 2, 1) := by decide +kernel
theorem d_Sc_join_119 : decode (mB Y_Sc_join) 119 = .ok (.ior, 1) := by decide +kernel
theorem d_Sc_join_120 : decode (mB Y_Sc_join) 120 = .ok (.ireturn, 1) := by decide +kernel
def r_Sc_join (x0 : Int32) (x1 : Int32) (x2 : Int32) : Int32 := (if x0 = 2 then x1 &&& x2 else (if x0 = 42 then x1 * x2 else (if x0 = 43 then x1 + x2 else (if x0 = 45 then x1 - x2 else (if x0 = 60 then (if x2 ≤ x1 then 0 else 1) else (if x0 = 61 then (if x1 = x2 then 1 else 0) else (if x0 = 62 then (if x1 ≤ x2 then 0 else 1) else x1 ||| x2)))))))
set_option maxHeartbeats 4000000 in
set_option maxRecDepth 20000 in
theorem c_Sc_join {G : Gl} {L : Shp} (hL : Ext L) (S : Sto) (x0 : Int32) (x1 : Int32) (x2 : Int32)  : Ct Y_Sc_join G [.int x0, .int x1, .int x2] L S (fp L S) (some (r_Sc_join x0 x1 x2)) := by
  refine ct_of (by decide +kernel) (Nat.le_of_ble_eq_true rfl) (fun g C => ?_)
  have e : (some (r_Sc_join x0 x1 x2) : Option Int32) =
      if x0 = 2 then
        some (x1 &&& x2)
      else
        if x0 = 42 then
          some (x1 * x2)
        else
          if x0 = 43 then
            some (x1 + x2)
          else
            if x0 = 45 then
              some (x1 - x2)
            else
              if x0 = 60 then
                if x2 ≤ x1 then
                  some 0
                else
                  some 1
              else
                if x0 = 61 then
                  if x1 = x2 then
                    some 1
                  else
                    some 0
                else
                  if x0 = 62 then
                    if x1 ≤ x2 then
                      some 0
                    else
                      some 1
                  else
                    some (x1 ||| x2) := by
    unfold r_Sc_join
    simp only [some_ite, lt, ltJ]
  rw [e]
  show VO g Y_Sc_join G (fun z => Qm g Y_Sc_join G (fp L S z)) 0 0 0 [(0, .int x0), (1, .int x1), (2, .int x2)] [] L S _ some
  refine v_iload_n (pc := 0) C d_Sc_join_0 rfl 0 rfl ?_
  refine v_case (x := x0) (c := 2) (fun hc1 => ?_) (fun hc1 => ?_)
  · refine v_lookup (pc := 1) (tgt := 113) C d_Sc_join_1 (by decide) (by rw [hc1] <;> rfl) rfl ?_
    refine v_iload_n (pc := 113) C d_Sc_join_113 rfl 1 rfl ?_
    refine v_iload_n (pc := 114) C d_Sc_join_114 rfl 2 rfl ?_
    refine v_iand (pc := 115) C d_Sc_join_115 ?_
    exact v_iret (z := (x1 &&& x2)) C d_Sc_join_116 rfl ⟨Nat.zero_le _, Nat.zero_le _⟩ (rfl) rfl
  · refine v_case (x := x0) (c := 42) (fun hc2 => ?_) (fun hc2 => ?_)
    · refine v_lookup (pc := 1) (tgt := 76) C d_Sc_join_1 (by decide) (by rw [hc2] <;> rfl) rfl ?_
      refine v_iload_n (pc := 76) C d_Sc_join_76 rfl 1 rfl ?_
      refine v_iload_n (pc := 77) C d_Sc_join_77 rfl 2 rfl ?_
      refine v_imul (pc := 78) C d_Sc_join_78 ?_
      exact v_iret (z := (x1 * x2)) C d_Sc_join_79 rfl ⟨Nat.zero_le _, Nat.zero_le _⟩ (rfl) rfl
    · refine v_case (x := x0) (c := 43) (fun hc3 => ?_) (fun hc3 => ?_)
      · refine v_lookup (pc := 1) (tgt := 68) C d_Sc_join_1 (by decide) (by rw [hc3] <;> rfl) rfl ?_
        refine v_iload_n (pc := 68) C d_Sc_join_68 rfl 1 rfl ?_
        refine v_iload_n (pc := 69) C d_Sc_join_69 rfl 2 rfl ?_
        refine v_iadd (pc := 70) C d_Sc_join_70 ?_
        exact v_iret (z := (x1 + x2)) C d_Sc_join_71 rfl ⟨Nat.zero_le _, Nat.zero_le _⟩ (rfl) rfl
      · refine v_case (x := x0) (c := 45) (fun hc4 => ?_) (fun hc4 => ?_)
        · refine v_lookup (pc := 1) (tgt := 72) C d_Sc_join_1 (by decide) (by rw [hc4] <;> rfl) rfl ?_
          refine v_iload_n (pc := 72) C d_Sc_join_72 rfl 1 rfl ?_
          refine v_iload_n (pc := 73) C d_Sc_join_73 rfl 2 rfl ?_
          refine v_isub (pc := 74) C d_Sc_join_74 ?_
          exact v_iret (z := (x1 - x2)) C d_Sc_join_75 rfl ⟨Nat.zero_le _, Nat.zero_le _⟩ (rfl) rfl
        · refine v_case (x := x0) (c := 60) (fun hc5 => ?_) (fun hc5 => ?_)
          · refine v_lookup (pc := 1) (tgt := 80) C d_Sc_join_1 (by decide) (by rw [hc5] <;> rfl) rfl ?_
            refine v_iload_n (pc := 80) C d_Sc_join_80 rfl 1 rfl ?_
            refine v_iload_n (pc := 81) C d_Sc_join_81 rfl 2 rfl ?_
            refine v_icmp_ge (pc := 82) (tgt := 89) C d_Sc_join_82 rfl (fun _ => ?_) (fun _ => ?_)
            · refine v_iconst (pc := 89) C d_Sc_join_89 ic_0 ?_
              exact v_iret (z := 0) C d_Sc_join_90 rfl ⟨Nat.zero_le _, Nat.zero_le _⟩ (rfl) rfl
            · refine v_iconst (pc := 85) C d_Sc_join_85 ic_1 ?_
              refine v_goto (pc := 86) (tgt := 90) C d_Sc_join_86 rfl ?_
              exact v_iret (z := 1) C d_Sc_join_90 rfl ⟨Nat.zero_le _, Nat.zero_le _⟩ (rfl) rfl
          · refine v_case (x := x0) (c := 61) (fun hc6 => ?_) (fun hc6 => ?_)
            · refine v_lookup (pc := 1) (tgt := 91) C d_Sc_join_1 (by decide) (by rw [hc6] <;> rfl) rfl ?_
              refine v_iload_n (pc := 91) C d_Sc_join_91 rfl 1 rfl ?_
              refine v_iload_n (pc := 92) C d_Sc_join_92 rfl 2 rfl ?_
              refine v_icmp_ne (pc := 93) (tgt := 100) C d_Sc_join_93 rfl (fun _ => ?_) (fun _ => ?_)
              · refine v_iconst (pc := 100) C d_Sc_join_100 ic_0 ?_
                exact v_iret (z := 0) C d_Sc_join_101 rfl ⟨Nat.zero_le _, Nat.zero_le _⟩ (rfl) rfl
              · refine v_iconst (pc := 96) C d_Sc_join_96 ic_1 ?_
                refine v_goto (pc := 97) (tgt := 101) C d_Sc_join_97 rfl ?_
                exact v_iret (z := 1) C d_Sc_join_101 rfl ⟨Nat.zero_le _, Nat.zero_le _⟩ (rfl) rfl
            · refine v_case (x := x0) (c := 62) (fun hc7 => ?_) (fun hc7 => ?_)
              · refine v_lookup (pc := 1) (tgt := 102) C d_Sc_join_1 (by decide) (by rw [hc7] <;> rfl) rfl ?_
                refine v_iload_n (pc := 102) C d_Sc_join_102 rfl 1 rfl ?_
                refine v_iload_n (pc := 103) C d_Sc_join_103 rfl 2 rfl ?_
                refine v_icmp_le (pc := 104) (tgt := 111) C d_Sc_join_104 rfl (fun _ => ?_) (fun _ => ?_)
                · refine v_iconst (pc := 111) C d_Sc_join_111 ic_0 ?_
                  exact v_iret (z := 0) C d_Sc_join_112 rfl ⟨Nat.zero_le _, Nat.zero_le _⟩ (rfl) rfl
                · refine v_iconst (pc := 107) C d_Sc_join_107 ic_1 ?_
                  refine v_goto (pc := 108) (tgt := 112) C d_Sc_join_108 rfl ?_
                  exact v_iret (z := 1) C d_Sc_join_112 rfl ⟨Nat.zero_le _, Nat.zero_le _⟩ (rfl) rfl
              · refine v_lookup (pc := 1) (tgt := 117) C d_Sc_join_1 (by decide) (by show Op.lookupswitch.offset [(2, 112), (42, 75), (43, 67), (45, 71), (60, 79), (61, 90), (62, 101)] _ _ = _; rw [lv_osw hc1 (by decide), lv_osw hc2 (by decide), lv_osw hc3 (by decide), lv_osw hc4 (by decide), lv_osw hc5 (by decide), lv_osw hc6 (by decide), lv_osw hc7 (by decide)] <;> rfl) rfl ?_
                refine v_iload_n (pc := 117) C d_Sc_join_117 rfl 1 rfl ?_
                refine v_iload_n (pc := 118) C d_Sc_join_118 rfl 2 rfl ?_
                refine v_ior (pc := 119) C d_Sc_join_119 ?_
                exact v_iret (z := (x1 ||| x2)) C d_Sc_join_120 rfl ⟨Nat.zero_le _, Nat.zero_le _⟩ (rfl) rfl
-- Sc_decide
theorem d_Sc_decide_0 : decode (mB Y_Sc_decide) 0 = .ok (.aload_n 0, 1) := by decide +kernel
theorem d_Sc_decide_1 : decode (mB Y_Sc_decide) 1 = .ok (.iconst 0, 1) := by decide +kernel
theorem d_Sc_decide_2 : decode (mB Y_Sc_decide) 2 = .ok (.putfield 16, 3) := by decide +kernel
theorem d_Sc_decide_5 : decode (mB Y_Sc_decide) 5 = .ok (.iconst 0, 1) := by decide +kernel
theorem d_Sc_decide_6 : decode (mB Y_Sc_decide) 6 = .ok (.istore_n 2, 1) := by decide +kernel
theorem d_Sc_decide_7 : decode (mB Y_Sc_decide) 7 = .ok (.iload_n 2, 1) := by decide +kernel
theorem d_Sc_decide_8 : decode (mB Y_Sc_decide) 8 = .ok (.aload_n 0, 1) := by decide +kernel
theorem d_Sc_decide_9 : decode (mB Y_Sc_decide) 9 = .ok (.getfield 9, 3) := by decide +kernel
theorem d_Sc_decide_12 : decode (mB Y_Sc_decide) 12 = .ok (.arraylength, 1) := by decide +kernel
theorem d_Sc_decide_13 : decode (mB Y_Sc_decide) 13 = .ok (.if_icmp .ge 156, 3) := by decide +kernel
theorem d_Sc_decide_16 : decode (mB Y_Sc_decide) 16 = .ok (.aload_n 0, 1) := by decide +kernel
theorem d_Sc_decide_17 : decode (mB Y_Sc_decide) 17 = .ok (.getfield 9, 3) := by decide +kernel
theorem d_Sc_decide_20 : decode (mB Y_Sc_decide) 20 = .ok (.iload_n 2, 1) := by decide +kernel
theorem d_Sc_decide_21 : decode (mB Y_Sc_decide) 21 = .ok (.iaload, 1) := by decide +kernel
theorem d_Sc_decide_22 : decode (mB Y_Sc_decide) 22 = .ok (.bipush 17, 2) := by decide +kernel
theorem d_Sc_decide_24 : decode (mB Y_Sc_decide) 24 = .ok (.iushr, 1) := by decide +kernel
theorem d_Sc_decide_25 : decode (mB Y_Sc_decide) 25 = .ok (.istore_n 3, 1) := by decide +kernel
theorem d_Sc_decide_26 : decode (mB Y_Sc_decide) 26 = .ok (.aload_n 0, 1) := by decide +kernel
theorem d_Sc_decide_27 : decode (mB Y_Sc_decide) 27 = .ok (.getfield 9, 3) := by decide +kernel
theorem d_Sc_decide_30 : decode (mB Y_Sc_decide) 30 = .ok (.iload_n 2, 1) := by decide +kernel
theorem d_Sc_decide_31 : decode (mB Y_Sc_decide) 31 = .ok (.iaload, 1) := by decide +kernel
theorem d_Sc_decide_32 : decode (mB Y_Sc_decide) 32 = .ok (.ldc 20, 2) := by decide +kernel
theorem d_Sc_decide_34 : decode (mB Y_Sc_decide) 34 = .ok (.iand, 1) := by decide +kernel
theorem d_Sc_decide_35 : decode (mB Y_Sc_decide) 35 = .ok (.istore 4, 2) := by decide +kernel
theorem d_Sc_decide_37 : decode (mB Y_Sc_decide) 37 = .ok (.iload_n 3, 1) := by decide +kernel
theorem d_Sc_decide_38 : decode (mB Y_Sc_decide) 38 = .ok (.bipush 59, 2) := by decide +kernel
theorem d_Sc_decide_40 : decode (mB Y_Sc_decide) 40 = .ok (.if_icmp .ne 13, 3) := by decide +kernel
theorem d_Sc_decide_43 : decode (mB Y_Sc_decide) 43 = .ok (.aload_n 0, 1) := by decide +kernel
theorem d_Sc_decide_44 : decode (mB Y_Sc_decide) 44 = .ok (.invokevirtual 21, 3) := by decide +kernel
theorem d_Sc_decide_47 : decode (mB Y_Sc_decide) 47 = .ok (.ifCond .eq 116, 3) := by decide +kernel
theorem d_Sc_decide_50 : decode (mB Y_Sc_decide) 50 = .ok (.iload 4, 2) := by decide +kernel
theorem d_Sc_decide_52 : decode (mB Y_Sc_decide) 52 = .ok (.ireturn, 1) := by decide +kernel
theorem d_Sc_decide_53 : decode (mB Y_Sc_decide) 53 = .ok (.iload_n 3, 1) := by decide +kernel
theorem d_Sc_decide_54 : decode (mB Y_Sc_decide) 54 = .ok (.bipush 12, 2) := by decide +kernel
theorem d_Sc_decide_56 : decode (mB Y_Sc_decide) 56 = .ok (.if_icmp .ne 12, 3) := by decide +kernel
theorem d_Sc_decide_59 : decode (mB Y_Sc_decide) 59 = .ok (.aload_n 0, 1) := by decide +kernel
theorem d_Sc_decide_60 : decode (mB Y_Sc_decide) 60 = .ok (.iload 4, 2) := by decide +kernel
theorem d_Sc_decide_62 : decode (mB Y_Sc_decide) 62 = .ok (.invokevirtual 25, 3) := by decide +kernel
theorem d_Sc_decide_65 : decode (mB Y_Sc_decide) 65 = .ok (.goto 98, 3) := by decide +kernel
theorem d_Sc_decide_68 : decode (mB Y_Sc_decide) 68 = .ok (.iload_n 3, 1) := by decide +kernel
theorem d_Sc_decide_69 : decode (mB Y_Sc_decide) 69 = .ok (.bipush 13, 2) := by decide +kernel
theorem d_Sc_decide_71 : decode (mB Y_Sc_decide) 71 = .ok (.if_icmp .ne 25, 3) := by decide +kernel
theorem d_Sc_decide_74 : decode (mB Y_Sc_decide) 74 = .ok (.aload_n 0, 1) := by decide +kernel
theorem d_Sc_decide_75 : decode (mB Y_Sc_decide) 75 = .ok (.iload 4, 2) := by decide +kernel
theorem d_Sc_decide_77 : decode (mB Y_Sc_decide) 77 = .ok (.aload_n 1, 1) := by decide +kernel
theorem d_Sc_decide_78 : decode (mB Y_Sc_decide) 78 = .ok (.arraylength, 1) := by decide +kernel
theorem d_Sc_decide_79 : decode (mB Y_Sc_decide) 79 = .ok (.if_icmp .ge 10, 3) := by decide +kernel
theorem d_Sc_decide_82 : decode (mB Y_Sc_decide) 82 = .ok (.aload_n 1, 1) := by decide +kernel
theorem d_Sc_decide_83 : decode (mB Y_Sc_decide) 83 = .ok (.iload 4, 2) := by decide +kernel
theorem d_Sc_decide_85 : decode (mB Y_Sc_decide) 85 = .ok (.iaload, 1) := by decide +kernel
theorem d_Sc_decide_86 : decode (mB Y_Sc_decide) 86 = .ok (.goto 4, 3) := by decide +kernel
theorem d_Sc_decide_89 : decode (mB Y_Sc_decide) 89 = .ok (.iconst 0, 1) := by decide +kernel
theorem d_Sc_decide_90 : decode (mB Y_Sc_decide) 90 = .ok (.invokevirtual 25, 3) := by decide +kernel
theorem d_Sc_decide_93 : decode (mB Y_Sc_decide) 93 = .ok (.goto 70, 3) := by decide +kernel
theorem d_Sc_decide_96 : decode (mB Y_Sc_decide) 96 = .ok (.iload_n 3, 1) := by decide +kernel
theorem d_Sc_decide_97 : decode (mB Y_Sc_decide) 97 = .ok (.iconst 3, 1) := by decide +kernel
theorem d_Sc_decide_98 : decode (mB Y_Sc_decide) 98 = .ok (.if_icmp .ne 16, 3) := by decide +kernel
theorem d_Sc_decide_101 : decode (mB Y_Sc_decide) 101 = .ok (.aload_n 0, 1) := by decide +kernel
theorem d_Sc_decide_102 : decode (mB Y_Sc_decide) 102 = .ok (.iconst 1, 1) := by decide +kernel
theorem d_Sc_decide_103 : decode (mB Y_Sc_decide) 103 = .ok (.aload_n 0, 1) := by decide +kernel
theorem d_Sc_decide_104 : decode (mB Y_Sc_decide) 104 = .ok (.invokevirtual 21, 3) := by decide +kernel
theorem d_Sc_decide_107 : decode (mB Y_Sc_decide) 107 = .ok (.isub, 1) := by decide +kernel
theorem d_Sc_decide_108 : decode (mB Y_Sc_decide) 108 = .ok (.invokevirtual 25, 3) := by decide +kernel
theorem d_Sc_decide_111 : decode (mB Y_Sc_decide) 111 = .ok (.goto 52, 3) := by decide +kernel
theorem d_Sc_decide_114 : decode (mB Y_Sc_decide) 114 = .ok (.iload_n 3, 1) := by decide +kernel
theorem d_Sc_decide_115 : decode (mB Y_Sc_decide) 115 = .ok (.bipush 47, 2) := by decide +kernel
theorem d_Sc_decide_117 : decode (mB Y_Sc_decide) 117 = .ok (.if_icmp .ne 26, 3) := by decide +kernel
theorem d_Sc_decide_120 : decode (mB Y_Sc_decide) 120 = .ok (.aload_n 0, 1) := by decide +kernel
theorem d_Sc_decide_121 : decode (mB Y_Sc_decide) 121 = .ok (.iload 4, 2) := by decide +kernel
theorem d_Sc_decide_123 : decode (mB Y_Sc_decide) 123 = .ok (.ifCond .ne 7, 3) := by decide +kernel
theorem d_Sc_decide_126 : decode (mB Y_Sc_decide) 126 = .ok (.iconst 0, 1) := by decide +kernel
theorem d_Sc_decide_127 : decode (mB Y_Sc_decide) 127 = .ok (.goto 10, 3) := by decide +kernel
theorem d_Sc_decide_130 : decode (mB Y_Sc_decide) 130 = .ok (.aload_n 0, 1) := by decide +kernel
theorem d_Sc_decide_131 : decode (mB Y_Sc_decide) 131 = .ok (.invokevirtual 21, 3) := by decide +kernel
theorem d_Sc_decide_134 : decode (mB Y_Sc_decide) 134 = .ok (.iload 4, 2) := by decide +kernel
theorem d_Sc_decide_136 : decode (mB Y_Sc_decide) 136 = .ok (.idiv, 1) := by decide +kernel
theorem d_Sc_decide_137 : decode (mB Y_Sc_decide) 137 = .ok (.invokevirtual 25, 3) := by decide +kernel
theorem d_Sc_decide_140 : decode (mB Y_Sc_decide) 140 = .ok (.goto 23, 3) := by decide +kernel
theorem d_Sc_decide_143 : decode (mB Y_Sc_decide) 143 = .ok (.aload_n 0, 1) := by decide +kernel
theorem d_Sc_decide_144 : decode (mB Y_Sc_decide) 144 = .ok (.invokevirtual 21, 3) := by decide +kernel
theorem d_Sc_decide_147 : decode (mB Y_Sc_decide) 147 = .ok (.istore 5, 2) := by decide +kernel
theorem d_Sc_decide_149 : decode (mB Y_Sc_decide) 149 = .ok (.aload_n 0, 1) := by decide +kernel
theorem d_Sc_decide_150 : decode (mB Y_Sc_decide) 150 = .ok (.iload_n 3, 1) := by decide +kernel
theorem d_Sc_decide_151 : decode (mB Y_Sc_decide) 151 = .ok (.aload_n 0, 1) := by decide +kernel
theorem d_Sc_decide_152 : decode (mB Y_Sc_decide) 152 = .ok (.invokevirtual 21, 3) := by decide +kernel
theorem d_Sc_decide_155 : decode (mB Y_Sc_decide) 155 = .ok (.iload 5, 2) := by decide +kernel
theorem d_Sc_decide_157 : decode (mB Y_Sc_decide) 157 = .ok (.invokestatic 29, 3) := by decide +kernel
theorem d_Sc_decide_160 : decode (mB Y_Sc_decide) 160 = .ok (.invokevirtual 25, 3) := by decide +kernel
theorem d_Sc_decide_163 : decode (mB Y_Sc_decide) 163 = .ok (.iinc 2 1, 3) := by decide +kernel
theorem d_Sc_decide_166 : decode (mB Y_Sc_decide) 166 = .ok (.goto (-159), 3) := by decide +kernel
theorem d_Sc_decide_169 : decode (mB Y_Sc_decide) 169 = .ok (.iconst 0, 1) := by decide +kernel
theorem d_Sc_decide_170 : decode (mB Y_Sc_decide) 170 = .ok (.ireturn, 1) := by decide +kernel
theorem ro_Sc_decide_Sc_join : roomy Y_Sc_decide Y_Sc_join := ⟨Nat.le_of_ble_eq_true rfl, Nat.le_of_ble_eq_true rfl⟩
theorem ro_Sc_decide_Sc_pop : roomy Y_Sc_decide Y_Sc_pop := ⟨Nat.le_of_ble_eq_true rfl, Nat.le_of_ble_eq_true rfl⟩
theorem ro_Sc_decide_Sc_push : roomy Y_Sc_decide Y_Sc_push := ⟨Nat.le_of_ble_eq_true rfl, Nat.le_of_ble_eq_true rfl⟩
def r_Sc_decide_L7 (a0_ : Nat) (a1_ : Nat) (m1_ : Nat) : Nat → Int32 → Sto → Option ((Int32 × Sto) ⊕ (Int32 × Sto))
  | 0, _, _ => none
  | n + 1, x2_, S =>
    ltN ((S a0_ 0).toNatClampNeg) (fun r1 =>
    if (nI ((S r1 400).toNatClampNeg)) ≤ x2_ then
      some (.inl (x2_, S))
    else
      ltN ((S a0_ 0).toNatClampNeg) (fun r2 =>
      chk (inr x2_ ((S r2 400).toNatClampNeg)) (
      lt (((S r2 x2_.toNatClampNeg).toUInt32 >>> ((17 : Int32).toUInt32 &&& Int32.toUInt32 31)).toInt32) (fun v3 =>
      ltN ((S a0_ 0).toNatClampNeg) (fun r4 =>
      chk (inr x2_ ((S r4 400).toNatClampNeg)) (
      lt ((S r4 x2_.toNatClampNeg) &&& 131071) (fun v5 =>
      jn (fun (S6 : Sto) =>
        lt (x2_ + 1) (fun v7 =>
        r_Sc_decide_L7 a0_ a1_ m1_ n v7 S6)) (fun j163 =>
      if v3 = 59 then
        (r_Sc_pop a0_ S).bind (fun (r24, S25) =>
        if r24 = 0 then
          j163 (S25)
        else
          some (.inr (v5, S25)))
      else
        if v3 = 12 then
          (r_Sc_push a0_ v5 S).bind (fun S23 =>
          j163 (S23))
        else
          if v3 = 13 then
            jn (fun (v21 : Int32) =>
              (r_Sc_push a0_ v21 S).bind (fun S22 =>
              j163 (S22))) (fun j90 =>
            if (nI m1_) ≤ v5 then
              j90 (0)
            else
              chk (inr v5 m1_) (
              j90 (S a1_ v5.toNatClampNeg)))
          else
            if v3 = 3 then
              (r_Sc_pop a0_ S).bind (fun (r18, S19) =>
              (r_Sc_push a0_ (1 - r18) S19).bind (fun S20 =>
              j163 (S20)))
            else
              if v3 = 47 then
                jn (fun ((v13, S14) : Int32 × Sto) =>
                  (r_Sc_push a0_ v13 S14).bind (fun S15 =>
                  j163 (S15))) (fun j137 =>
                if v5 = 0 then
                  j137 (0, S)
                else
                  (r_Sc_pop a0_ S).bind (fun (r16, S17) =>
                  chk (nz v5) (
                  j137 (r16 / v5, S17))))
              else
                (r_Sc_pop a0_ S).bind (fun (r8, S9) =>
                (r_Sc_pop a0_ S9).bind (fun (r10, S11) =>
                (r_Sc_push a0_ (r_Sc_join v3 r10 r8) S11).bind (fun S12 =>
                j163 (S12))))))))))))
set_option maxHeartbeats 4000000 in
set_option maxRecDepth 20000 in
theorem w_Sc_decide_L7 {g : Gm} {G : Gl} {L : Shp} (C : Cx g Y_Sc_decide G) (hL : Ext L) (a0_ : Nat) (a1_ : Nat) (m1_ : Nat) (h0_ : isScript L a0_) (h1_ : isInts L a1_ m1_) :
    ∀ (n : Nat) (x2_ : Int32) (S : Sto) (K : ((Int32 × Sto) ⊕ (Int32 × Sto)) → Option (Int32 × Sto)), (∀ (x2_ : Int32) (S : Sto), VO g Y_Sc_decide G (fun z => Qm g Y_Sc_decide G (fi L z)) 0 0 169 [] [] L S (some (.inl (x2_, S))) K) → (∀ x, K (.inr x) = some x) → VO g Y_Sc_decide G (fun z => Qm g Y_Sc_decide G (fi L z)) 0 0 7 [(0, rf G a0_), (1, rf G a1_), (2, .int x2_)] [] L S (r_Sc_decide_L7 a0_ a1_ m1_ n x2_ S) K := by
  intro n
  induction n with
  | zero => intro x2_ S K; intros; exact v_none
  | succ n ih =>
    intro x2_ S K hK hR
    rw [r_Sc_decide_L7]
    refine v_iload_n (pc := 7) C d_Sc_decide_7 rfl 2 rfl ?_
    refine v_aload_n (pc := 8) C d_Sc_decide_8 rfl 0 rfl ?_
    refine v_getD (pc := 9) C fl_Sc_9 h0_.1 rfl d_Sc_decide_9 (fun r1 hr1 => ?_)
    refine v_alen (pc := 12) (v := nI ((S r1 400).toNatClampNeg)) (t := 0) C hr1 rfl rfl rfl d_Sc_decide_12 ?_
    refine v_icmp_ge (pc := 13) (tgt := 169) C d_Sc_decide_13 rfl (fun _ => ?_) (fun _ => ?_)
    · refine v_sub [] rfl ?_
      exact hK x2_ S
    · refine v_aload_n (pc := 16) C d_Sc_decide_16 rfl 0 rfl ?_
      refine v_getD (pc := 17) C fl_Sc_9 h0_.1 rfl d_Sc_decide_17 (fun r2 hr2 => ?_)
      refine v_iload_n (pc := 20) C d_Sc_decide_20 rfl 2 rfl ?_
      refine v_iald5 (pc := 21) C hr2 d_Sc_decide_21 (fun _ => ?_)
      refine v_bipush (pc := 22) C d_Sc_decide_22 bp_17 ?_
      refine v_iushr (pc := 24) C d_Sc_decide_24 ?_
      refine v_lt (fun v3 => ?_)
      refine v_istore_n (pc := 25) (lv' := [(3, .int v3), (0, rf G a0_), (1, rf G a1_), (2, .int x2_)]) C d_Sc_decide_25 rfl (by decide) rfl ?_
      refine v_aload_n (pc := 26) C d_Sc_decide_26 rfl 1 rfl ?_
      refine v_getD (pc := 27) C fl_Sc_9 h0_.1 rfl d_Sc_decide_27 (fun r4 hr4 => ?_)
      refine v_iload_n (pc := 30) C d_Sc_decide_30 rfl 3 rfl ?_
      refine v_iald5 (pc := 31) C hr4 d_Sc_decide_31 (fun _ => ?_)
      refine v_ldc (pc := 32) C d_Sc_decide_32 kc_Sc_20 ?_
      refine v_iand (pc := 34) C d_Sc_decide_34 ?_
      refine v_lt (fun v5 => ?_)
      refine v_istore (pc := 35) (lv' := [(4, .int v5), (3, .int v3), (0, rf G a0_), (1, rf G a1_), (2, .int x2_)]) C d_Sc_decide_35 (by decide) rfl ?_
      refine v_iload_n (pc := 37) C d_Sc_decide_37 rfl 1 rfl ?_
      refine v_bipush (pc := 38) C d_Sc_decide_38 bp_59 ?_
      refine v_jn (fun j => ∀ (S6 : Sto), VO g Y_Sc_decide G (fun z => Qm g Y_Sc_decide G (fi L z)) 0 0 163 [(0, rf G a0_), (1, rf G a1_), (2, .int x2_)] [] L S6 (j (S6)) K) (fun S6 => ?_) (fun j163 hj163 => ?_)
      · refine v_iinc (pc := 163) (p := 2) (c := 1) C d_Sc_decide_163 rfl (by decide) (by decide) (fun v7 => [(2, .int v7), (0, rf G a0_), (1, rf G a1_)]) (fun _ => rfl) (fun v7 => ?_)
        refine v_goto (pc := 166) (tgt := 7) C d_Sc_decide_166 rfl ?_
        refine v_sub [1, 2, 0] rfl ?_
        exact ih v7 S6 K hK hR
      · refine v_icmp_ne (pc := 40) (tgt := 53) C d_Sc_decide_40 rfl (fun _ => ?_) (fun _ => ?_)
        · refine v_iload_n (pc := 53) C d_Sc_decide_53 rfl 1 rfl ?_
          refine v_bipush (pc := 54) C d_Sc_decide_54 bp_12 ?_
          refine v_icmp_ne (pc := 56) (tgt := 68) C d_Sc_decide_56 rfl (fun _ => ?_) (fun _ => ?_)
          · refine v_iload_n (pc := 68) C d_Sc_decide_68 rfl 1 rfl ?_
            refine v_bipush (pc := 69) C d_Sc_decide_69 bp_13 ?_
            refine v_icmp_ne (pc := 71) (tgt := 96) C d_Sc_decide_71 rfl (fun _ => ?_) (fun _ => ?_)
            · refine v_iload_n (pc := 96) C d_Sc_decide_96 rfl 1 rfl ?_
              refine v_iconst (pc := 97) C d_Sc_decide_97 ic_3 ?_
              refine v_icmp_ne (pc := 98) (tgt := 114) C d_Sc_decide_98 rfl (fun _ => ?_) (fun _ => ?_)
              · refine v_iload_n (pc := 114) C d_Sc_decide_114 rfl 1 rfl ?_
                refine v_bipush (pc := 115) C d_Sc_decide_115 bp_47 ?_
                refine v_icmp_ne (pc := 117) (tgt := 143) C d_Sc_decide_117 rfl (fun _ => ?_) (fun _ => ?_)
                · refine v_aload_n (pc := 143) C d_Sc_decide_143 rfl 2 rfl ?_
                  refine v_ci (pc := 144) (inv_V (As := []) (st := []) C ml_Sc_21 mv_Sc_pop ro_Sc_decide_Sc_pop h0_.1 rfl rfl rfl rfl (Nat.le_of_ble_eq_true rfl) d_Sc_decide_144) (c_Sc_pop hL S a0_ h0_) ⟨rfl, rfl⟩ ⟨Nat.zero_le _, Nat.zero_le _⟩ (fun r8 S9 => ?_)
                  refine v_istore (pc := 147) (lv' := [(5, .int r8), (4, .int v5), (3, .int v3), (0, rf G a0_), (1, rf G a1_), (2, .int x2_)]) C d_Sc_decide_147 (by decide) rfl ?_
                  refine v_aload_n (pc := 149) C d_Sc_decide_149 rfl 3 rfl ?_
                  refine v_iload_n (pc := 150) C d_Sc_decide_150 rfl 2 rfl ?_
                  refine v_aload_n (pc := 151) C d_Sc_decide_151 rfl 3 rfl ?_
                  refine v_ci (pc := 152) (inv_V (As := []) (st := [.int v3, rf G a0_]) C ml_Sc_21 mv_Sc_pop ro_Sc_decide_Sc_pop h0_.1 rfl rfl rfl rfl (Nat.le_of_ble_eq_true rfl) d_Sc_decide_152) (c_Sc_pop hL S9 a0_ h0_) ⟨rfl, rfl⟩ ⟨Nat.zero_le _, Nat.zero_le _⟩ (fun r10 S11 => ?_)
                  refine v_iload (pc := 155) C d_Sc_decide_155 0 rfl ?_
                  refine v_ct (pc := 157) (inv_S (As := [.int v3, .int r10, .int r8]) (st := [rf G a0_]) C ml_Sc_29 ms_Sc_join ro_Sc_decide_Sc_join rfl rfl (Nat.le_of_ble_eq_true rfl) d_Sc_decide_157) (c_Sc_join hL S11 v3 r10 r8) ⟨rfl, rfl⟩ ⟨Nat.zero_le _, Nat.zero_le _⟩ ?_
                  refine v_cv (pc := 160) (inv_V (As := [.int (r_Sc_join v3 r10 r8)]) (st := []) C ml_Sc_25 mv_Sc_push ro_Sc_decide_Sc_push h0_.1 rfl rfl rfl rfl (Nat.le_of_ble_eq_true rfl) d_Sc_decide_160) (c_Sc_push hL S11 a0_ (r_Sc_join v3 r10 r8) h0_) ⟨rfl, rfl⟩ ⟨Nat.zero_le _, Nat.zero_le _⟩ (fun S12 => ?_)
                  refine v_sub [3, 4, 5] rfl ?_
                  exact hj163 S12
                · refine v_aload_n (pc := 120) C d_Sc_decide_120 rfl 2 rfl ?_
                  refine v_iload (pc := 121) C d_Sc_decide_121 0 rfl ?_
                  refine v_jn (fun j => ∀ (v13 : Int32) (S14 : Sto), VO g Y_Sc_decide G (fun z => Qm g Y_Sc_decide G (fi L z)) 0 0 137 [(0, rf G a0_), (1, rf G a1_), (2, .int x2_)] [.int v13, rf G a0_] L S14 (j (v13, S14)) K) (fun v13 S14 => ?_) (fun j137 hj137 => ?_)
                  · refine v_cv (pc := 137) (inv_V (As := [.int v13]) (st := []) C ml_Sc_25 mv_Sc_push ro_Sc_decide_Sc_push h0_.1 rfl rfl rfl rfl (Nat.le_of_ble_eq_true rfl) d_Sc_decide_137) (c_Sc_push hL S14 a0_ v13 h0_) ⟨rfl, rfl⟩ ⟨Nat.zero_le _, Nat.zero_le _⟩ (fun S15 => ?_)
                    refine v_goto (pc := 140) (tgt := 163) C d_Sc_decide_140 rfl ?_
                    exact hj163 S15
                  · refine v_if_ne (pc := 123) (tgt := 130) C d_Sc_decide_123 rfl (fun _ => ?_) (fun _ => ?_)
                    · refine v_aload_n (pc := 130) C d_Sc_decide_130 rfl 2 rfl ?_
                      refine v_ci (pc := 131) (inv_V (As := []) (st := [rf G a0_]) C ml_Sc_21 mv_Sc_pop ro_Sc_decide_Sc_pop h0_.1 rfl rfl rfl rfl (Nat.le_of_ble_eq_true rfl) d_Sc_decide_131) (c_Sc_pop hL S a0_ h0_) ⟨rfl, rfl⟩ ⟨Nat.zero_le _, Nat.zero_le _⟩ (fun r16 S17 => ?_)
                      refine v_iload (pc := 134) C d_Sc_decide_134 0 rfl ?_
                      refine v_chk (fun hne => ?_)
                      refine v_idiv (pc := 136) C d_Sc_decide_136 (nz_ne hne) ?_
                      refine v_sub [2, 3, 4] rfl ?_
                      exact hj137 (r16 / v5) S17
                    · refine v_iconst (pc := 126) C d_Sc_decide_126 ic_0 ?_
                      refine v_goto (pc := 127) (tgt := 137) C d_Sc_decide_127 rfl ?_
                      refine v_sub [2, 3, 4] rfl ?_
                      exact hj137 0 S
              · refine v_aload_n (pc := 101) C d_Sc_decide_101 rfl 2 rfl ?_
                refine v_iconst (pc := 102) C d_Sc_decide_102 ic_1 ?_
                refine v_aload_n (pc := 103) C d_Sc_decide_103 rfl 2 rfl ?_
                refine v_ci (pc := 104) (inv_V (As := []) (st := [.int 1, rf G a0_]) C ml_Sc_21 mv_Sc_pop ro_Sc_decide_Sc_pop h0_.1 rfl rfl rfl rfl (Nat.le_of_ble_eq_true rfl) d_Sc_decide_104) (c_Sc_pop hL S a0_ h0_) ⟨rfl, rfl⟩ ⟨Nat.zero_le _, Nat.zero_le _⟩ (fun r18 S19 => ?_)
                refine v_isub (pc := 107) C d_Sc_decide_107 ?_
                refine v_cv (pc := 108) (inv_V (As := [.int (1 - r18)]) (st := []) C ml_Sc_25 mv_Sc_push ro_Sc_decide_Sc_push h0_.1 rfl rfl rfl rfl (Nat.le_of_ble_eq_true rfl) d_Sc_decide_108) (c_Sc_push hL S19 a0_ (1 - r18) h0_) ⟨rfl, rfl⟩ ⟨Nat.zero_le _, Nat.zero_le _⟩ (fun S20 => ?_)
                refine v_goto (pc := 111) (tgt := 163) C d_Sc_decide_111 rfl ?_
                refine v_sub [2, 3, 4] rfl ?_
                exact hj163 S20
            · refine v_aload_n (pc := 74) C d_Sc_decide_74 rfl 2 rfl ?_
              refine v_iload (pc := 75) C d_Sc_decide_75 0 rfl ?_
              refine v_aload_n (pc := 77) C d_Sc_decide_77 rfl 3 rfl ?_
              refine v_alen (pc := 78) (v := nI m1_) (t := 0) C h1_ rfl rfl rfl d_Sc_decide_78 ?_
              refine v_jn (fun j => ∀ (v21 : Int32), VO g Y_Sc_decide G (fun z => Qm g Y_Sc_decide G (fi L z)) 0 0 90 [(0, rf G a0_), (1, rf G a1_), (2, .int x2_)] [.int v21, rf G a0_] L S (j (v21)) K) (fun v21 => ?_) (fun j90 hj90 => ?_)
              · refine v_cv (pc := 90) (inv_V (As := [.int v21]) (st := []) C ml_Sc_25 mv_Sc_push ro_Sc_decide_Sc_push h0_.1 rfl rfl rfl rfl (Nat.le_of_ble_eq_true rfl) d_Sc_decide_90) (c_Sc_push hL S a0_ v21 h0_) ⟨rfl, rfl⟩ ⟨Nat.zero_le _, Nat.zero_le _⟩ (fun S22 => ?_)
                refine v_goto (pc := 93) (tgt := 163) C d_Sc_decide_93 rfl ?_
                exact hj163 S22
              · refine v_icmp_ge (pc := 79) (tgt := 89) C d_Sc_decide_79 rfl (fun _ => ?_) (fun _ => ?_)
                · refine v_iconst (pc := 89) C d_Sc_decide_89 ic_0 ?_
                  refine v_sub [2, 3, 4] rfl ?_
                  exact hj90 0
                · refine v_aload_n (pc := 82) C d_Sc_decide_82 rfl 3 rfl ?_
                  refine v_iload (pc := 83) C d_Sc_decide_83 0 rfl ?_
                  refine v_iald (pc := 85) C h1_ d_Sc_decide_85 (fun _ => ?_)
                  refine v_goto (pc := 86) (tgt := 90) C d_Sc_decide_86 rfl ?_
                  refine v_sub [2, 3, 4] rfl ?_
                  exact hj90 (S a1_ v5.toNatClampNeg)
          · refine v_aload_n (pc := 59) C d_Sc_decide_59 rfl 2 rfl ?_
            refine v_iload (pc := 60) C d_Sc_decide_60 0 rfl ?_
            refine v_cv (pc := 62) (inv_V (As := [.int v5]) (st := []) C ml_Sc_25 mv_Sc_push ro_Sc_decide_Sc_push h0_.1 rfl rfl rfl rfl (Nat.le_of_ble_eq_true rfl) d_Sc_decide_62) (c_Sc_push hL S a0_ v5 h0_) ⟨rfl, rfl⟩ ⟨Nat.zero_le _, Nat.zero_le _⟩ (fun S23 => ?_)
            refine v_goto (pc := 65) (tgt := 163) C d_Sc_decide_65 rfl ?_
            refine v_sub [2, 3, 4] rfl ?_
            exact hj163 S23
        · refine v_aload_n (pc := 43) C d_Sc_decide_43 rfl 2 rfl ?_
          refine v_ci (pc := 44) (inv_V (As := []) (st := []) C ml_Sc_21 mv_Sc_pop ro_Sc_decide_Sc_pop h0_.1 rfl rfl rfl rfl (Nat.le_of_ble_eq_true rfl) d_Sc_decide_44) (c_Sc_pop hL S a0_ h0_) ⟨rfl, rfl⟩ ⟨Nat.zero_le _, Nat.zero_le _⟩ (fun r24 S25 => ?_)
          refine v_if_eq (pc := 47) (tgt := 163) C d_Sc_decide_47 rfl (fun _ => ?_) (fun _ => ?_)
          · refine v_sub [2, 3, 4] rfl ?_
            exact hj163 S25
          · refine v_iload (pc := 50) C d_Sc_decide_50 0 rfl ?_
            exact v_iret (z := (v5, S25)) C d_Sc_decide_52 rfl ⟨Nat.zero_le _, Nat.zero_le _⟩ (hR _) rfl
def r_Sc_decide (a0 : Nat) (a1 : Nat) (m1 : Nat) (S : Sto) : Option (Int32 × Sto) :=
  ltS (sw S a0 2 0) (fun S1 =>
  (r_Sc_decide_L7 a0 a1 m1 fu 0 S1).bind (fun x => match x with
  | .inl (v2, S3) =>
    some (0, S3)
  | .inr r => some r))
set_option maxHeartbeats 4000000 in
set_option maxRecDepth 20000 in
theorem c_Sc_decide {G : Gl} {L : Shp} (hL : Ext L) (S : Sto) (a0 : Nat) (a1 : Nat) (m1 : Nat) (h0 : isScript L a0) (h1 : isInts L a1 m1) : Ct Y_Sc_decide G [rf G a0, rf G a1] L S (fi L) (r_Sc_decide a0 a1 m1 S) := by
  refine ct_of (by decide +kernel) (Nat.le_of_ble_eq_true rfl) (fun g C => ?_)
  show VO g Y_Sc_decide G (fun z => Qm g Y_Sc_decide G (fi L z)) 0 0 0 [(0, rf G a0), (1, rf G a1)] [] L S (r_Sc_decide a0 a1 m1 S) some
  unfold r_Sc_decide
  refine v_aload_n (pc := 0) C d_Sc_decide_0 rfl 0 rfl ?_
  refine v_iconst (pc := 1) C d_Sc_decide_1 ic_0 ?_
  refine v_putI (pc := 2) C fp_Sc_16 h0.1 rfl d_Sc_decide_2 (fun S1 => ?_)
  refine v_iconst (pc := 5) C d_Sc_decide_5 ic_0 ?_
  refine v_istore_n (pc := 6) (lv' := [(2, .int 0), (0, rf G a0), (1, rf G a1)]) C d_Sc_decide_6 rfl (by decide) rfl ?_
  refine v_sub [1, 2, 0] rfl ?_
  refine v_bind ?_
  refine w_Sc_decide_L7 C hL a0 a1 m1 h0 h1 fu 0 S1 _ (fun v2 S3 => ?_) (fun z => rfl)
  refine v_some ?_
  refine v_iconst (pc := 169) C d_Sc_decide_169 ic_0 ?_
  exact v_iret (z := (0, S3)) C d_Sc_decide_170 rfl ⟨Nat.zero_le _, Nat.zero_le _⟩ (rfl) rfl
-- Cw_sectorBy
theorem d_Cw_sectorBy_0 : decode (mB Y_Cw_sectorBy) 0 = .ok (.aload_n 0, 1) := by decide +kernel
theorem d_Cw_sectorBy_1 : decode (mB Y_Cw_sectorBy) 1 = .ok (.getfield 17, 3) := by decide +kernel
theorem d_Cw_sectorBy_4 : decode (mB Y_Cw_sectorBy) 4 = .ok (.iload_n 1, 1) := by decide +kernel
theorem d_Cw_sectorBy_5 : decode (mB Y_Cw_sectorBy) 5 = .ok (.aaload, 1) := by decide +kernel
theorem d_Cw_sectorBy_6 : decode (mB Y_Cw_sectorBy) 6 = .ok (.aload_n 0, 1) := by decide +kernel
theorem d_Cw_sectorBy_7 : decode (mB Y_Cw_sectorBy) 7 = .ok (.getfield 29, 3) := by decide +kernel
theorem d_Cw_sectorBy_10 : decode (mB Y_Cw_sectorBy) 10 = .ok (.invokevirtual 91, 3) := by decide +kernel
theorem d_Cw_sectorBy_13 : decode (mB Y_Cw_sectorBy) 13 = .ok (.tableswitch 42 1 3 #[27, 32, 37], 27) := by decide +kernel
theorem d_Cw_sectorBy_40 : decode (mB Y_Cw_sectorBy) 40 = .ok (.aload_n 0, 1) := by decide +kernel
theorem d_Cw_sectorBy_41 : decode (mB Y_Cw_sectorBy) 41 = .ok (.getfield 76, 3) := by decide +kernel
theorem d_Cw_sectorBy_44 : decode (mB Y_Cw_sectorBy) 44 = .ok (.ireturn, 1) := by decide +kernel
theorem d_Cw_sectorBy_45 : decode (mB Y_Cw_sectorBy) 45 = .ok (.aload_n 0, 1) := by decide +kernel
theorem d_Cw_sectorBy_46 : decode (mB Y_Cw_sectorBy) 46 = .ok (.getfield 82, 3) := by decide +kernel
theorem d_Cw_sectorBy_49 : decode (mB Y_Cw_sectorBy) 49 = .ok (.ireturn, 1) := by decide +kernel
theorem d_Cw_sectorBy_50 : decode (mB Y_Cw_sectorBy) 50 = .ok (.aload_n 0, 1) := by decide +kernel
theorem d_Cw_sectorBy_51 : decode (mB Y_Cw_sectorBy) 51 = .ok (.getfield 88, 3) := by decide +kernel
theorem d_Cw_sectorBy_54 : decode (mB Y_Cw_sectorBy) 54 = .ok (.ireturn, 1) := by decide +kernel
theorem d_Cw_sectorBy_55 : decode (mB Y_Cw_sectorBy) 55 = .ok (.iconst (-1), 1) := by decide +kernel
theorem d_Cw_sectorBy_56 : decode (mB Y_Cw_sectorBy) 56 = .ok (.ireturn, 1) := by decide +kernel
theorem ro_Cw_sectorBy_Sc_decide : roomy Y_Cw_sectorBy Y_Sc_decide := ⟨Nat.le_of_ble_eq_true rfl, Nat.le_of_ble_eq_true rfl⟩
def r_Cw_sectorBy (x1 : Int32) (S : Sto) : Option (Int32 × Sto) :=
  chk (inr x1 4) (
  ltN x1.toNatClampNeg (fun j1 =>
  (r_Sc_decide (35 + 3 * j1) 49 6 S).bind (fun (r2, S3) =>
  if r2 = 1 then
    some (S3 33 7, S3)
  else
    if r2 = 2 then
      some (S3 33 8, S3)
    else
      if r2 = 3 then
        some (S3 33 9, S3)
      else
        some ((-1), S3))))
set_option maxHeartbeats 4000000 in
set_option maxRecDepth 20000 in
theorem c_Cw_sectorBy {G : Gl} {L : Shp} (hL : Ext L) (S : Sto) (x1 : Int32)  : Ct Y_Cw_sectorBy G [rf G 33, .int x1] L S (fi L) (r_Cw_sectorBy x1 S) := by
  refine ct_of (by decide +kernel) (Nat.le_of_ble_eq_true rfl) (fun g C => ?_)
  show VO g Y_Cw_sectorBy G (fun z => Qm g Y_Cw_sectorBy G (fi L z)) 0 0 0 [(0, rf G 33), (1, .int x1)] [] L S (r_Cw_sectorBy x1 S) some
  unfold r_Cw_sectorBy
  refine v_aload_n (pc := 0) C d_Cw_sectorBy_0 rfl 0 rfl ?_
  refine v_getR (pc := 1) C fl_Cw_17 (sh_33 hL) rfl d_Cw_sectorBy_1 ?_
  refine v_iload_n (pc := 4) C d_Cw_sectorBy_4 rfl 1 rfl ?_
  refine v_aald (pc := 5) (c0 := 35) (e := 3) C (sh_34 hL) rfl (by decide) d_Cw_sectorBy_5 (fun j1 hj1 => ?_)
  refine v_aload_n (pc := 6) C d_Cw_sectorBy_6 rfl 0 rfl ?_
  refine v_getR (pc := 7) C fl_Cw_29 (sh_33 hL) rfl d_Cw_sectorBy_7 ?_
  refine v_ci (pc := 10) (inv_V (As := [rf G 49]) (st := []) C ml_Cw_91 mv_Sc_decide ro_Cw_sectorBy_Sc_decide (law_at hL hj1).1 rfl rfl rfl rfl (Nat.le_of_ble_eq_true rfl) d_Cw_sectorBy_10) (c_Sc_decide hL S (35 + 3 * j1) 49 6 (law_at hL hj1) (sh_49 hL)) ⟨rfl, rfl⟩ ⟨Nat.zero_le _, Nat.zero_le _⟩ (fun r2 S3 => ?_)
  refine v_case (x := r2) (c := 1) (fun hc4 => ?_) (fun hc4 => ?_)
  · refine v_tableIn (pc := 13) (tgt := 40) C d_Cw_sectorBy_13 (by rw [hc4]; decide) (by rw [hc4]; decide) (by rw [hc4] <;> rfl) rfl ?_
    refine v_aload_n (pc := 40) C d_Cw_sectorBy_40 rfl 0 rfl ?_
    refine v_getI (pc := 41) C fl_Cw_76 (sh_33 hL) rfl d_Cw_sectorBy_41 ?_
    exact v_iret (z := (S3 33 7, S3)) C d_Cw_sectorBy_44 rfl ⟨Nat.zero_le _, Nat.zero_le _⟩ (rfl) rfl
  · refine v_case (x := r2) (c := 2) (fun hc5 => ?_) (fun hc5 => ?_)
    · refine v_tableIn (pc := 13) (tgt := 45) C d_Cw_sectorBy_13 (by rw [hc5]; decide) (by rw [hc5]; decide) (by rw [hc5] <;> rfl) rfl ?_
      refine v_aload_n (pc := 45) C d_Cw_sectorBy_45 rfl 0 rfl ?_
      refine v_getI (pc := 46) C fl_Cw_82 (sh_33 hL) rfl d_Cw_sectorBy_46 ?_
      exact v_iret (z := (S3 33 8, S3)) C d_Cw_sectorBy_49 rfl ⟨Nat.zero_le _, Nat.zero_le _⟩ (rfl) rfl
    · refine v_case (x := r2) (c := 3) (fun hc6 => ?_) (fun hc6 => ?_)
      · refine v_tableIn (pc := 13) (tgt := 50) C d_Cw_sectorBy_13 (by rw [hc6]; decide) (by rw [hc6]; decide) (by rw [hc6] <;> rfl) rfl ?_
        refine v_aload_n (pc := 50) C d_Cw_sectorBy_50 rfl 0 rfl ?_
        refine v_getI (pc := 51) C fl_Cw_88 (sh_33 hL) rfl d_Cw_sectorBy_51 ?_
        exact v_iret (z := (S3 33 9, S3)) C d_Cw_sectorBy_54 rfl ⟨Nat.zero_le _, Nat.zero_le _⟩ (rfl) rfl
      · refine v_tableOut (pc := 13) (tgt := 55) C d_Cw_sectorBy_13 (by have q0 := lv_neT (a := 1) hc4 (by decide); have q1 := lv_neT (a := 2) hc5 (by decide); have q2 := lv_neT (a := 3) hc6 (by decide); omega) rfl ?_
        refine v_iconst (pc := 55) C d_Cw_sectorBy_55 ic_m1 ?_
        exact v_iret (z := ((-1), S3)) C d_Cw_sectorBy_56 rfl ⟨Nat.zero_le _, Nat.zero_le _⟩ (rfl) rfl
