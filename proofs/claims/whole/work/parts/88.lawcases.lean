set_option maxHeartbeats 4000000 in
set_option maxRecDepth 20000 in
theorem lc_set {g : Gm} {G : Gl} {nm : String} {sb Ln : Nat} {xs : Nat → Int32} (C : Cx g (Y_law nm) G) (hX : va_X sb Ln xs (g_s g) (g_s g).heap ∧ sb < gB G ∧ gB G ≤ (g_s g).heap.size) (hLn : Ln < 2 ^ 31) {Qf : Unit → State → Prop} {m : Nat} (hm : m + 6 ≤ Ln) (hm2 : m ≤ 3072) (hj : ∀ (L : Shp) (S : Sto) (k n : Nat), Ext L → Iv L.length S → L.length ≤ 147 + m → k ≤ 1000 + m → n ≤ 100000 + 400 * m + 400 → VO g (Y_law nm) G Qf k n 1284 [(0, .ref sb), (1, rf G 0), (2, rf G 104), (3, .int (nI m))] [] L S (some ()) some) {L : Shp} {S : Sto} {k n : Nat} (hL : Ext L) (hv : Iv L.length S) (hlen0 : L.length ≤ 146 + m) (hk0 : k ≤ 999 + m) (hn0 : n ≤ 100000 + 400 * m) : VO g (Y_law nm) G Qf k n 168 [(0, .ref sb), (1, rf G 0), (2, rf G 104), (3, .int (nI m))] [] L S (some ()) some := by
  have hkn : k ≤ (mR (Y_law nm)).cells ∧ n ≤ (mR (Y_law nm)).slots := ⟨by show k ≤ 600000; omega, by show n ≤ 7302249; omega⟩
  obtain ⟨r, S1, S2, e1, e2, hv2⟩ := st_set hv (xs (m + 1)) (xs (m + 2))
  refine v_aload_n (pc := 168) C d_law_168 rfl 1 rfl ?_
  refine v_aloadX (pc := 169) C d_law_169 rfl 0 rfl ?_
  refine v_iload_n (pc := 170) C d_law_170 rfl 3 rfl ?_
  refine v_iconst (pc := 171) C d_law_171 ic_1 ?_
  refine v_iadd (pc := 172) C d_law_172 ?_
  refine v_sldx (pc := 173) C hX (nI_add m 1) (by omega) hLn d_law_173 ?_
  refine v_aloadX (pc := 174) C d_law_174 rfl 0 rfl ?_
  refine v_iload_n (pc := 175) C d_law_175 rfl 3 rfl ?_
  refine v_iconst (pc := 176) C d_law_176 ic_2 ?_
  refine v_iadd (pc := 177) C d_law_177 ?_
  refine v_sldx (pc := 178) C hX (nI_add m 2) (by omega) hLn d_law_178 ?_
  refine v_csi (pc := 179) (inv_V (As := [.int (xs (m + 1)), .int (xs (m + 2))]) (st := []) C ml_LAW_13 mv_B_set (ro_law_B_set _) (sh_0 hL) rfl rfl rfl rfl (Nat.le_of_ble_eq_true rfl) d_law_179) (c_B_set hL S (xs (m + 1)) (xs (m + 2))) e1 ⟨rfl, rfl⟩ hkn ?_
  refine v_aload_n (pc := 182) C d_law_182 rfl 2 rfl ?_
  refine v_aloadX (pc := 183) C d_law_183 rfl 0 rfl ?_
  refine v_iload_n (pc := 184) C d_law_184 rfl 3 rfl ?_
  refine v_iconst (pc := 185) C d_law_185 ic_1 ?_
  refine v_iadd (pc := 186) C d_law_186 ?_
  refine v_sldx (pc := 187) C hX (nI_add m 1) (by omega) hLn d_law_187 ?_
  refine v_aloadX (pc := 188) C d_law_188 rfl 0 rfl ?_
  refine v_iload_n (pc := 189) C d_law_189 rfl 3 rfl ?_
  refine v_iconst (pc := 190) C d_law_190 ic_2 ?_
  refine v_iadd (pc := 191) C d_law_191 ?_
  refine v_sldx (pc := 192) C hX (nI_add m 2) (by omega) hLn d_law_192 ?_
  refine v_csi (pc := 193) (inv_V (As := [.int (xs (m + 1)), .int (xs (m + 2))]) (st := [.int r]) C ml_LAW_17 mv_M_set (ro_law_M_set _) (sh_104 hL) rfl rfl rfl rfl (Nat.le_of_ble_eq_true rfl) d_law_193) (c_M_set hL S1 (xs (m + 1)) (xs (m + 2))) e2 ⟨rfl, rfl⟩ hkn ?_
  refine v_icmp_eq_t (pc := 196) C d_law_196 1284 rfl rfl ?_
  exact hj L S2 k n hL hv2 (by omega) (by omega) (by omega)
set_option maxHeartbeats 4000000 in
set_option maxRecDepth 20000 in
theorem lc_comes {g : Gm} {G : Gl} {nm : String} {sb Ln : Nat} {xs : Nat → Int32} (C : Cx g (Y_law nm) G) (hX : va_X sb Ln xs (g_s g) (g_s g).heap ∧ sb < gB G ∧ gB G ≤ (g_s g).heap.size) (hLn : Ln < 2 ^ 31) {Qf : Unit → State → Prop} {m : Nat} (hm : m + 6 ≤ Ln) (hm2 : m ≤ 3072) (hj : ∀ (L : Shp) (S : Sto) (k n : Nat), Ext L → Iv L.length S → L.length ≤ 147 + m → k ≤ 1000 + m → n ≤ 100000 + 400 * m + 400 → VO g (Y_law nm) G Qf k n 1284 [(0, .ref sb), (1, rf G 0), (2, rf G 104), (3, .int (nI m))] [] L S (some ()) some) {L : Shp} {S : Sto} {k n : Nat} (hL : Ext L) (hv : Iv L.length S) (hlen0 : L.length ≤ 146 + m) (hk0 : k ≤ 999 + m) (hn0 : n ≤ 100000 + 400 * m) : VO g (Y_law nm) G Qf k n 201 [(0, .ref sb), (1, rf G 0), (2, rf G 104), (3, .int (nI m))] [] L S (some ()) some := by
  have hkn : k ≤ (mR (Y_law nm)).cells ∧ n ≤ (mR (Y_law nm)).slots := ⟨by show k ≤ 600000; omega, by show n ≤ 7302249; omega⟩
  obtain ⟨r, S2, e1, e2, hv2⟩ := st_comes hv (xs (m + 1)) (xs (m + 2)) (xs (m + 3))
  refine v_aload_n (pc := 201) C d_law_201 rfl 1 rfl ?_
  refine v_aloadX (pc := 202) C d_law_202 rfl 0 rfl ?_
  refine v_iload_n (pc := 203) C d_law_203 rfl 3 rfl ?_
  refine v_iconst (pc := 204) C d_law_204 ic_1 ?_
  refine v_iadd (pc := 205) C d_law_205 ?_
  refine v_sldx (pc := 206) C hX (nI_add m 1) (by omega) hLn d_law_206 ?_
  refine v_aloadX (pc := 207) C d_law_207 rfl 0 rfl ?_
  refine v_iload_n (pc := 208) C d_law_208 rfl 3 rfl ?_
  refine v_iconst (pc := 209) C d_law_209 ic_2 ?_
  refine v_iadd (pc := 210) C d_law_210 ?_
  refine v_sldx (pc := 211) C hX (nI_add m 2) (by omega) hLn d_law_211 ?_
  refine v_aloadX (pc := 212) C d_law_212 rfl 0 rfl ?_
  refine v_iload_n (pc := 213) C d_law_213 rfl 3 rfl ?_
  refine v_iconst (pc := 214) C d_law_214 ic_3 ?_
  refine v_iadd (pc := 215) C d_law_215 ?_
  refine v_sldx (pc := 216) C hX (nI_add m 3) (by omega) hLn d_law_216 ?_
  refine v_csp (pc := 217) (inv_V (As := [.int (xs (m + 1)), .int (xs (m + 2)), .int (xs (m + 3))]) (st := []) C ml_LAW_18 mv_B_comes (ro_law_B_comes _) (sh_0 hL) rfl rfl rfl rfl (Nat.le_of_ble_eq_true rfl) d_law_217) (c_B_comes hL S (xs (m + 1)) (xs (m + 2)) (xs (m + 3))) e1 ⟨rfl, rfl⟩ hkn ?_
  refine v_aload_n (pc := 220) C d_law_220 rfl 2 rfl ?_
  refine v_aloadX (pc := 221) C d_law_221 rfl 0 rfl ?_
  refine v_iload_n (pc := 222) C d_law_222 rfl 3 rfl ?_
  refine v_iconst (pc := 223) C d_law_223 ic_1 ?_
  refine v_iadd (pc := 224) C d_law_224 ?_
  refine v_sldx (pc := 225) C hX (nI_add m 1) (by omega) hLn d_law_225 ?_
  refine v_aloadX (pc := 226) C d_law_226 rfl 0 rfl ?_
  refine v_iload_n (pc := 227) C d_law_227 rfl 3 rfl ?_
  refine v_iconst (pc := 228) C d_law_228 ic_2 ?_
  refine v_iadd (pc := 229) C d_law_229 ?_
  refine v_sldx (pc := 230) C hX (nI_add m 2) (by omega) hLn d_law_230 ?_
  refine v_aloadX (pc := 231) C d_law_231 rfl 0 rfl ?_
  refine v_iload_n (pc := 232) C d_law_232 rfl 3 rfl ?_
  refine v_iconst (pc := 233) C d_law_233 ic_3 ?_
  refine v_iadd (pc := 234) C d_law_234 ?_
  refine v_sldx (pc := 235) C hX (nI_add m 3) (by omega) hLn d_law_235 ?_
  refine v_csi (pc := 236) (inv_V (As := [.int (xs (m + 1)), .int (xs (m + 2)), .int (xs (m + 3))]) (st := [.int r]) C ml_LAW_22 mv_M_comes (ro_law_M_comes _) (sh_104 hL) rfl rfl rfl rfl (Nat.le_of_ble_eq_true rfl) d_law_236) (c_M_comes hL S (xs (m + 1)) (xs (m + 2)) (xs (m + 3))) e2 ⟨rfl, rfl⟩ hkn ?_
  refine v_icmp_eq_t (pc := 239) C d_law_239 1284 rfl rfl ?_
  exact hj L S2 k n hL hv2 (by omega) (by omega) (by omega)
set_option maxHeartbeats 4000000 in
set_option maxRecDepth 20000 in
theorem lc_wall {g : Gm} {G : Gl} {nm : String} {sb Ln : Nat} {xs : Nat → Int32} (C : Cx g (Y_law nm) G) (hX : va_X sb Ln xs (g_s g) (g_s g).heap ∧ sb < gB G ∧ gB G ≤ (g_s g).heap.size) (hLn : Ln < 2 ^ 31) {Qf : Unit → State → Prop} {m : Nat} (hm : m + 6 ≤ Ln) (hm2 : m ≤ 3072) (hj : ∀ (L : Shp) (S : Sto) (k n : Nat), Ext L → Iv L.length S → L.length ≤ 147 + m → k ≤ 1000 + m → n ≤ 100000 + 400 * m + 400 → VO g (Y_law nm) G Qf k n 1284 [(0, .ref sb), (1, rf G 0), (2, rf G 104), (3, .int (nI m))] [] L S (some ()) some) {L : Shp} {S : Sto} {k n : Nat} (hL : Ext L) (hv : Iv L.length S) (hlen0 : L.length ≤ 146 + m) (hk0 : k ≤ 999 + m) (hn0 : n ≤ 100000 + 400 * m) : VO g (Y_law nm) G Qf k n 244 [(0, .ref sb), (1, rf G 0), (2, rf G 104), (3, .int (nI m))] [] L S (some ()) some := by
  have hkn : k ≤ (mR (Y_law nm)).cells ∧ n ≤ (mR (Y_law nm)).slots := ⟨by show k ≤ 600000; omega, by show n ≤ 7302249; omega⟩
  by_cases hz : xs (m + 1) = 0
  · obtain ⟨r, S1, S2, e1, e2, hv2⟩ := st_wall hv 0 (xs (m + 2)) (xs (m + 3)) (xs (m + 4)) (xs (m + 5)) (by decide)
    refine v_aload_n (pc := 244) C d_law_244 rfl 1 rfl ?_
    refine v_aloadX (pc := 245) C d_law_245 rfl 0 rfl ?_
    refine v_iload_n (pc := 246) C d_law_246 rfl 3 rfl ?_
    refine v_iconst (pc := 247) C d_law_247 ic_1 ?_
    refine v_iadd (pc := 248) C d_law_248 ?_
    refine v_sldx (pc := 249) C hX (nI_add m 1) (by omega) hLn d_law_249 ?_
    refine v_if_eq_t (pc := 250) C d_law_250 257 rfl hz ?_
    refine v_iconst (pc := 257) C d_law_257 ic_0 ?_
    refine v_aloadX (pc := 258) C d_law_258 rfl 0 rfl ?_
    refine v_iload_n (pc := 259) C d_law_259 rfl 3 rfl ?_
    refine v_iconst (pc := 260) C d_law_260 ic_2 ?_
    refine v_iadd (pc := 261) C d_law_261 ?_
    refine v_sldx (pc := 262) C hX (nI_add m 2) (by omega) hLn d_law_262 ?_
    refine v_aloadX (pc := 263) C d_law_263 rfl 0 rfl ?_
    refine v_iload_n (pc := 264) C d_law_264 rfl 3 rfl ?_
    refine v_iconst (pc := 265) C d_law_265 ic_3 ?_
    refine v_iadd (pc := 266) C d_law_266 ?_
    refine v_sldx (pc := 267) C hX (nI_add m 3) (by omega) hLn d_law_267 ?_
    refine v_aloadX (pc := 268) C d_law_268 rfl 0 rfl ?_
    refine v_iload_n (pc := 269) C d_law_269 rfl 3 rfl ?_
    refine v_iconst (pc := 270) C d_law_270 ic_4 ?_
    refine v_iadd (pc := 271) C d_law_271 ?_
    refine v_sldx (pc := 272) C hX (nI_add m 4) (by omega) hLn d_law_272 ?_
    refine v_aloadX (pc := 273) C d_law_273 rfl 0 rfl ?_
    refine v_iload_n (pc := 274) C d_law_274 rfl 3 rfl ?_
    refine v_iconst (pc := 275) C d_law_275 ic_5 ?_
    refine v_iadd (pc := 276) C d_law_276 ?_
    refine v_sldx (pc := 277) C hX (nI_add m 5) (by omega) hLn d_law_277 ?_
    refine v_csi (pc := 278) (inv_V (As := [.int 0, .int (xs (m + 2)), .int (xs (m + 3)), .int (xs (m + 4)), .int (xs (m + 5))]) (st := []) C ml_LAW_23 mv_B_wall (ro_law_B_wall _) (sh_0 hL) rfl rfl rfl rfl (Nat.le_of_ble_eq_true rfl) d_law_278) (c_B_wall hL S 0 (xs (m + 2)) (xs (m + 3)) (xs (m + 4)) (xs (m + 5))) e1 ⟨rfl, rfl⟩ hkn ?_
    refine v_aload_n (pc := 281) C d_law_281 rfl 2 rfl ?_
    refine v_aloadX (pc := 282) C d_law_282 rfl 0 rfl ?_
    refine v_iload_n (pc := 283) C d_law_283 rfl 3 rfl ?_
    refine v_iconst (pc := 284) C d_law_284 ic_1 ?_
    refine v_iadd (pc := 285) C d_law_285 ?_
    refine v_sldx (pc := 286) C hX (nI_add m 1) (by omega) hLn d_law_286 ?_
    refine v_if_eq_t (pc := 287) C d_law_287 294 rfl hz ?_
    refine v_iconst (pc := 294) C d_law_294 ic_0 ?_
    refine v_aloadX (pc := 295) C d_law_295 rfl 0 rfl ?_
    refine v_iload_n (pc := 296) C d_law_296 rfl 3 rfl ?_
    refine v_iconst (pc := 297) C d_law_297 ic_2 ?_
    refine v_iadd (pc := 298) C d_law_298 ?_
    refine v_sldx (pc := 299) C hX (nI_add m 2) (by omega) hLn d_law_299 ?_
    refine v_aloadX (pc := 300) C d_law_300 rfl 0 rfl ?_
    refine v_iload_n (pc := 301) C d_law_301 rfl 3 rfl ?_
    refine v_iconst (pc := 302) C d_law_302 ic_3 ?_
    refine v_iadd (pc := 303) C d_law_303 ?_
    refine v_sldx (pc := 304) C hX (nI_add m 3) (by omega) hLn d_law_304 ?_
    refine v_aloadX (pc := 305) C d_law_305 rfl 0 rfl ?_
    refine v_iload_n (pc := 306) C d_law_306 rfl 3 rfl ?_
    refine v_iconst (pc := 307) C d_law_307 ic_4 ?_
    refine v_iadd (pc := 308) C d_law_308 ?_
    refine v_sldx (pc := 309) C hX (nI_add m 4) (by omega) hLn d_law_309 ?_
    refine v_aloadX (pc := 310) C d_law_310 rfl 0 rfl ?_
    refine v_iload_n (pc := 311) C d_law_311 rfl 3 rfl ?_
    refine v_iconst (pc := 312) C d_law_312 ic_5 ?_
    refine v_iadd (pc := 313) C d_law_313 ?_
    refine v_sldx (pc := 314) C hX (nI_add m 5) (by omega) hLn d_law_314 ?_
    refine v_csi (pc := 315) (inv_V (As := [.int 0, .int (xs (m + 2)), .int (xs (m + 3)), .int (xs (m + 4)), .int (xs (m + 5))]) (st := [.int r]) C ml_LAW_27 mv_M_wall (ro_law_M_wall _) (sh_104 hL) rfl rfl rfl rfl (Nat.le_of_ble_eq_true rfl) d_law_315) (c_M_wall hL S1 0 (xs (m + 2)) (xs (m + 3)) (xs (m + 4)) (xs (m + 5))) e2 ⟨rfl, rfl⟩ hkn ?_
    refine v_icmp_eq_t (pc := 318) C d_law_318 1284 rfl rfl ?_
    exact hj L S2 k n hL hv2 (by omega) (by omega) (by omega)
  · obtain ⟨r, S1, S2, e1, e2, hv2⟩ := st_wall hv 1 (xs (m + 2)) (xs (m + 3)) (xs (m + 4)) (xs (m + 5)) (by decide)
    refine v_aload_n (pc := 244) C d_law_244 rfl 1 rfl ?_
    refine v_aloadX (pc := 245) C d_law_245 rfl 0 rfl ?_
    refine v_iload_n (pc := 246) C d_law_246 rfl 3 rfl ?_
    refine v_iconst (pc := 247) C d_law_247 ic_1 ?_
    refine v_iadd (pc := 248) C d_law_248 ?_
    refine v_sldx (pc := 249) C hX (nI_add m 1) (by omega) hLn d_law_249 ?_
    refine v_if_eq_f (pc := 250) C d_law_250 257 rfl hz ?_
    refine v_iconst (pc := 253) C d_law_253 ic_1 ?_
    refine v_goto (pc := 254) (tgt := 258) C d_law_254 rfl ?_
    refine v_aloadX (pc := 258) C d_law_258 rfl 0 rfl ?_
    refine v_iload_n (pc := 259) C d_law_259 rfl 3 rfl ?_
    refine v_iconst (pc := 260) C d_law_260 ic_2 ?_
    refine v_iadd (pc := 261) C d_law_261 ?_
    refine v_sldx (pc := 262) C hX (nI_add m 2) (by omega) hLn d_law_262 ?_
    refine v_aloadX (pc := 263) C d_law_263 rfl 0 rfl ?_
    refine v_iload_n (pc := 264) C d_law_264 rfl 3 rfl ?_
    refine v_iconst (pc := 265) C d_law_265 ic_3 ?_
    refine v_iadd (pc := 266) C d_law_266 ?_
    refine v_sldx (pc := 267) C hX (nI_add m 3) (by omega) hLn d_law_267 ?_
    refine v_aloadX (pc := 268) C d_law_268 rfl 0 rfl ?_
    refine v_iload_n (pc := 269) C d_law_269 rfl 3 rfl ?_
    refine v_iconst (pc := 270) C d_law_270 ic_4 ?_
    refine v_iadd (pc := 271) C d_law_271 ?_
    refine v_sldx (pc := 272) C hX (nI_add m 4) (by omega) hLn d_law_272 ?_
    refine v_aloadX (pc := 273) C d_law_273 rfl 0 rfl ?_
    refine v_iload_n (pc := 274) C d_law_274 rfl 3 rfl ?_
    refine v_iconst (pc := 275) C d_law_275 ic_5 ?_
    refine v_iadd (pc := 276) C d_law_276 ?_
    refine v_sldx (pc := 277) C hX (nI_add m 5) (by omega) hLn d_law_277 ?_
    refine v_csi (pc := 278) (inv_V (As := [.int 1, .int (xs (m + 2)), .int (xs (m + 3)), .int (xs (m + 4)), .int (xs (m + 5))]) (st := []) C ml_LAW_23 mv_B_wall (ro_law_B_wall _) (sh_0 hL) rfl rfl rfl rfl (Nat.le_of_ble_eq_true rfl) d_law_278) (c_B_wall hL S 1 (xs (m + 2)) (xs (m + 3)) (xs (m + 4)) (xs (m + 5))) e1 ⟨rfl, rfl⟩ hkn ?_
    refine v_aload_n (pc := 281) C d_law_281 rfl 2 rfl ?_
    refine v_aloadX (pc := 282) C d_law_282 rfl 0 rfl ?_
    refine v_iload_n (pc := 283) C d_law_283 rfl 3 rfl ?_
    refine v_iconst (pc := 284) C d_law_284 ic_1 ?_
    refine v_iadd (pc := 285) C d_law_285 ?_
    refine v_sldx (pc := 286) C hX (nI_add m 1) (by omega) hLn d_law_286 ?_
    refine v_if_eq_f (pc := 287) C d_law_287 294 rfl hz ?_
    refine v_iconst (pc := 290) C d_law_290 ic_1 ?_
    refine v_goto (pc := 291) (tgt := 295) C d_law_291 rfl ?_
    refine v_aloadX (pc := 295) C d_law_295 rfl 0 rfl ?_
    refine v_iload_n (pc := 296) C d_law_296 rfl 3 rfl ?_
    refine v_iconst (pc := 297) C d_law_297 ic_2 ?_
    refine v_iadd (pc := 298) C d_law_298 ?_
    refine v_sldx (pc := 299) C hX (nI_add m 2) (by omega) hLn d_law_299 ?_
    refine v_aloadX (pc := 300) C d_law_300 rfl 0 rfl ?_
    refine v_iload_n (pc := 301) C d_law_301 rfl 3 rfl ?_
    refine v_iconst (pc := 302) C d_law_302 ic_3 ?_
    refine v_iadd (pc := 303) C d_law_303 ?_
    refine v_sldx (pc := 304) C hX (nI_add m 3) (by omega) hLn d_law_304 ?_
    refine v_aloadX (pc := 305) C d_law_305 rfl 0 rfl ?_
    refine v_iload_n (pc := 306) C d_law_306 rfl 3 rfl ?_
    refine v_iconst (pc := 307) C d_law_307 ic_4 ?_
    refine v_iadd (pc := 308) C d_law_308 ?_
    refine v_sldx (pc := 309) C hX (nI_add m 4) (by omega) hLn d_law_309 ?_
    refine v_aloadX (pc := 310) C d_law_310 rfl 0 rfl ?_
    refine v_iload_n (pc := 311) C d_law_311 rfl 3 rfl ?_
    refine v_iconst (pc := 312) C d_law_312 ic_5 ?_
    refine v_iadd (pc := 313) C d_law_313 ?_
    refine v_sldx (pc := 314) C hX (nI_add m 5) (by omega) hLn d_law_314 ?_
    refine v_csi (pc := 315) (inv_V (As := [.int 1, .int (xs (m + 2)), .int (xs (m + 3)), .int (xs (m + 4)), .int (xs (m + 5))]) (st := [.int r]) C ml_LAW_27 mv_M_wall (ro_law_M_wall _) (sh_104 hL) rfl rfl rfl rfl (Nat.le_of_ble_eq_true rfl) d_law_315) (c_M_wall hL S1 1 (xs (m + 2)) (xs (m + 3)) (xs (m + 4)) (xs (m + 5))) e2 ⟨rfl, rfl⟩ hkn ?_
    refine v_icmp_eq_t (pc := 318) C d_law_318 1284 rfl rfl ?_
    exact hj L S2 k n hL hv2 (by omega) (by omega) (by omega)
set_option maxHeartbeats 4000000 in
set_option maxRecDepth 20000 in
theorem lc_spot {g : Gm} {G : Gl} {nm : String} {sb Ln : Nat} {xs : Nat → Int32} (C : Cx g (Y_law nm) G) (hX : va_X sb Ln xs (g_s g) (g_s g).heap ∧ sb < gB G ∧ gB G ≤ (g_s g).heap.size) (hLn : Ln < 2 ^ 31) {Qf : Unit → State → Prop} {m : Nat} (hm : m + 6 ≤ Ln) (hm2 : m ≤ 3072) (hj : ∀ (L : Shp) (S : Sto) (k n : Nat), Ext L → Iv L.length S → L.length ≤ 147 + m → k ≤ 1000 + m → n ≤ 100000 + 400 * m + 400 → VO g (Y_law nm) G Qf k n 1284 [(0, .ref sb), (1, rf G 0), (2, rf G 104), (3, .int (nI m))] [] L S (some ()) some) {L : Shp} {S : Sto} {k n : Nat} (hL : Ext L) (hv : Iv L.length S) (hlen0 : L.length ≤ 146 + m) (hk0 : k ≤ 999 + m) (hn0 : n ≤ 100000 + 400 * m) : VO g (Y_law nm) G Qf k n 323 [(0, .ref sb), (1, rf G 0), (2, rf G 104), (3, .int (nI m))] [] L S (some ()) some := by
  have hkn : k ≤ (mR (Y_law nm)).cells ∧ n ≤ (mR (Y_law nm)).slots := ⟨by show k ≤ 600000; omega, by show n ≤ 7302249; omega⟩
  obtain ⟨r, S1, S2, e1, e2, hv2⟩ := st_spot hv (xs (m + 1)) (xs (m + 2))
  refine v_aload_n (pc := 323) C d_law_323 rfl 1 rfl ?_
  refine v_aloadX (pc := 324) C d_law_324 rfl 0 rfl ?_
  refine v_iload_n (pc := 325) C d_law_325 rfl 3 rfl ?_
  refine v_iconst (pc := 326) C d_law_326 ic_1 ?_
  refine v_iadd (pc := 327) C d_law_327 ?_
  refine v_sldx (pc := 328) C hX (nI_add m 1) (by omega) hLn d_law_328 ?_
  refine v_aloadX (pc := 329) C d_law_329 rfl 0 rfl ?_
  refine v_iload_n (pc := 330) C d_law_330 rfl 3 rfl ?_
  refine v_iconst (pc := 331) C d_law_331 ic_2 ?_
  refine v_iadd (pc := 332) C d_law_332 ?_
  refine v_sldx (pc := 333) C hX (nI_add m 2) (by omega) hLn d_law_333 ?_
  refine v_csi (pc := 334) (inv_V (As := [.int (xs (m + 1)), .int (xs (m + 2))]) (st := []) C ml_LAW_28 mv_B_spot (ro_law_B_spot _) (sh_0 hL) rfl rfl rfl rfl (Nat.le_of_ble_eq_true rfl) d_law_334) (c_B_spot hL S (xs (m + 1)) (xs (m + 2))) e1 ⟨rfl, rfl⟩ hkn ?_
  refine v_aload_n (pc := 337) C d_law_337 rfl 2 rfl ?_
  refine v_aloadX (pc := 338) C d_law_338 rfl 0 rfl ?_
  refine v_iload_n (pc := 339) C d_law_339 rfl 3 rfl ?_
  refine v_iconst (pc := 340) C d_law_340 ic_1 ?_
  refine v_iadd (pc := 341) C d_law_341 ?_
  refine v_sldx (pc := 342) C hX (nI_add m 1) (by omega) hLn d_law_342 ?_
  refine v_aloadX (pc := 343) C d_law_343 rfl 0 rfl ?_
  refine v_iload_n (pc := 344) C d_law_344 rfl 3 rfl ?_
  refine v_iconst (pc := 345) C d_law_345 ic_2 ?_
  refine v_iadd (pc := 346) C d_law_346 ?_
  refine v_sldx (pc := 347) C hX (nI_add m 2) (by omega) hLn d_law_347 ?_
  refine v_csi (pc := 348) (inv_V (As := [.int (xs (m + 1)), .int (xs (m + 2))]) (st := [.int r]) C ml_LAW_31 mv_M_spot (ro_law_M_spot _) (sh_104 hL) rfl rfl rfl rfl (Nat.le_of_ble_eq_true rfl) d_law_348) (c_M_spot hL S1 (xs (m + 1)) (xs (m + 2))) e2 ⟨rfl, rfl⟩ hkn ?_
  refine v_icmp_eq_t (pc := 351) C d_law_351 1284 rfl rfl ?_
  exact hj L S2 k n hL hv2 (by omega) (by omega) (by omega)
set_option maxHeartbeats 4000000 in
set_option maxRecDepth 20000 in
theorem lc_shot {g : Gm} {G : Gl} {nm : String} {sb Ln : Nat} {xs : Nat → Int32} (C : Cx g (Y_law nm) G) (hX : va_X sb Ln xs (g_s g) (g_s g).heap ∧ sb < gB G ∧ gB G ≤ (g_s g).heap.size) (hLn : Ln < 2 ^ 31) {Qf : Unit → State → Prop} {m : Nat} (hm : m + 6 ≤ Ln) (hm2 : m ≤ 3072) (hj : ∀ (L : Shp) (S : Sto) (k n : Nat), Ext L → Iv L.length S → L.length ≤ 147 + m → k ≤ 1000 + m → n ≤ 100000 + 400 * m + 400 → VO g (Y_law nm) G Qf k n 1284 [(0, .ref sb), (1, rf G 0), (2, rf G 104), (3, .int (nI m))] [] L S (some ()) some) {L : Shp} {S : Sto} {k n : Nat} (hL : Ext L) (hv : Iv L.length S) (hlen0 : L.length ≤ 146 + m) (hk0 : k ≤ 999 + m) (hn0 : n ≤ 100000 + 400 * m) : VO g (Y_law nm) G Qf k n 356 [(0, .ref sb), (1, rf G 0), (2, rf G 104), (3, .int (nI m))] [] L S (some ()) some := by
  have hkn : k ≤ (mR (Y_law nm)).cells ∧ n ≤ (mR (Y_law nm)).slots := ⟨by show k ≤ 600000; omega, by show n ≤ 7302249; omega⟩
  obtain ⟨r, S1, S2, e1, e2, hv2⟩ := st_shot hv (xs (m + 1)) (xs (m + 2)) (xs (m + 3)) (xs (m + 4))
  refine v_aload_n (pc := 356) C d_law_356 rfl 1 rfl ?_
  refine v_aloadX (pc := 357) C d_law_357 rfl 0 rfl ?_
  refine v_iload_n (pc := 358) C d_law_358 rfl 3 rfl ?_
  refine v_iconst (pc := 359) C d_law_359 ic_1 ?_
  refine v_iadd (pc := 360) C d_law_360 ?_
  refine v_sldx (pc := 361) C hX (nI_add m 1) (by omega) hLn d_law_361 ?_
  refine v_aloadX (pc := 362) C d_law_362 rfl 0 rfl ?_
  refine v_iload_n (pc := 363) C d_law_363 rfl 3 rfl ?_
  refine v_iconst (pc := 364) C d_law_364 ic_2 ?_
  refine v_iadd (pc := 365) C d_law_365 ?_
  refine v_sldx (pc := 366) C hX (nI_add m 2) (by omega) hLn d_law_366 ?_
  refine v_aloadX (pc := 367) C d_law_367 rfl 0 rfl ?_
  refine v_iload_n (pc := 368) C d_law_368 rfl 3 rfl ?_
  refine v_iconst (pc := 369) C d_law_369 ic_3 ?_
  refine v_iadd (pc := 370) C d_law_370 ?_
  refine v_sldx (pc := 371) C hX (nI_add m 3) (by omega) hLn d_law_371 ?_
  refine v_aloadX (pc := 372) C d_law_372 rfl 0 rfl ?_
  refine v_iload_n (pc := 373) C d_law_373 rfl 3 rfl ?_
  refine v_iconst (pc := 374) C d_law_374 ic_4 ?_
  refine v_iadd (pc := 375) C d_law_375 ?_
  refine v_sldx (pc := 376) C hX (nI_add m 4) (by omega) hLn d_law_376 ?_
  refine v_csi (pc := 377) (inv_V (As := [.int (xs (m + 1)), .int (xs (m + 2)), .int (xs (m + 3)), .int (xs (m + 4))]) (st := []) C ml_LAW_32 mv_B_shot (ro_law_B_shot _) (sh_0 hL) rfl rfl rfl rfl (Nat.le_of_ble_eq_true rfl) d_law_377) (c_B_shot hL S (xs (m + 1)) (xs (m + 2)) (xs (m + 3)) (xs (m + 4))) e1 ⟨rfl, rfl⟩ hkn ?_
  refine v_aload_n (pc := 380) C d_law_380 rfl 2 rfl ?_
  refine v_aloadX (pc := 381) C d_law_381 rfl 0 rfl ?_
  refine v_iload_n (pc := 382) C d_law_382 rfl 3 rfl ?_
  refine v_iconst (pc := 383) C d_law_383 ic_1 ?_
  refine v_iadd (pc := 384) C d_law_384 ?_
  refine v_sldx (pc := 385) C hX (nI_add m 1) (by omega) hLn d_law_385 ?_
  refine v_aloadX (pc := 386) C d_law_386 rfl 0 rfl ?_
  refine v_iload_n (pc := 387) C d_law_387 rfl 3 rfl ?_
  refine v_iconst (pc := 388) C d_law_388 ic_2 ?_
  refine v_iadd (pc := 389) C d_law_389 ?_
  refine v_sldx (pc := 390) C hX (nI_add m 2) (by omega) hLn d_law_390 ?_
  refine v_aloadX (pc := 391) C d_law_391 rfl 0 rfl ?_
  refine v_iload_n (pc := 392) C d_law_392 rfl 3 rfl ?_
  refine v_iconst (pc := 393) C d_law_393 ic_3 ?_
  refine v_iadd (pc := 394) C d_law_394 ?_
  refine v_sldx (pc := 395) C hX (nI_add m 3) (by omega) hLn d_law_395 ?_
  refine v_aloadX (pc := 396) C d_law_396 rfl 0 rfl ?_
  refine v_iload_n (pc := 397) C d_law_397 rfl 3 rfl ?_
  refine v_iconst (pc := 398) C d_law_398 ic_4 ?_
  refine v_iadd (pc := 399) C d_law_399 ?_
  refine v_sldx (pc := 400) C hX (nI_add m 4) (by omega) hLn d_law_400 ?_
  refine v_csi (pc := 401) (inv_V (As := [.int (xs (m + 1)), .int (xs (m + 2)), .int (xs (m + 3)), .int (xs (m + 4))]) (st := [.int r]) C ml_LAW_36 mv_M_shot (ro_law_M_shot _) (sh_104 hL) rfl rfl rfl rfl (Nat.le_of_ble_eq_true rfl) d_law_401) (c_M_shot hL S1 (xs (m + 1)) (xs (m + 2)) (xs (m + 3)) (xs (m + 4))) e2 ⟨rfl, rfl⟩ hkn ?_
  refine v_icmp_eq_t (pc := 404) C d_law_404 1284 rfl rfl ?_
  exact hj L S2 k n hL hv2 (by omega) (by omega) (by omega)
set_option maxHeartbeats 4000000 in
set_option maxRecDepth 20000 in
theorem lc_gets {g : Gm} {G : Gl} {nm : String} {sb Ln : Nat} {xs : Nat → Int32} (C : Cx g (Y_law nm) G) (hX : va_X sb Ln xs (g_s g) (g_s g).heap ∧ sb < gB G ∧ gB G ≤ (g_s g).heap.size) (hLn : Ln < 2 ^ 31) {Qf : Unit → State → Prop} {m : Nat} (hm : m + 6 ≤ Ln) (hm2 : m ≤ 3072) (hj : ∀ (L : Shp) (S : Sto) (k n : Nat), Ext L → Iv L.length S → L.length ≤ 147 + m → k ≤ 1000 + m → n ≤ 100000 + 400 * m + 400 → VO g (Y_law nm) G Qf k n 1284 [(0, .ref sb), (1, rf G 0), (2, rf G 104), (3, .int (nI m))] [] L S (some ()) some) {L : Shp} {S : Sto} {k n : Nat} (hL : Ext L) (hv : Iv L.length S) (hlen0 : L.length ≤ 146 + m) (hk0 : k ≤ 999 + m) (hn0 : n ≤ 100000 + 400 * m) : VO g (Y_law nm) G Qf k n 409 [(0, .ref sb), (1, rf G 0), (2, rf G 104), (3, .int (nI m))] [] L S (some ()) some := by
  have hkn : k ≤ (mR (Y_law nm)).cells ∧ n ≤ (mR (Y_law nm)).slots := ⟨by show k ≤ 600000; omega, by show n ≤ 7302249; omega⟩
  obtain ⟨r, S1, S2, e1, e2, hv2⟩ := st_gets hv (xs (m + 1)) (xs (m + 2)) (xs (m + 3))
  refine v_aload_n (pc := 409) C d_law_409 rfl 1 rfl ?_
  refine v_aloadX (pc := 410) C d_law_410 rfl 0 rfl ?_
  refine v_iload_n (pc := 411) C d_law_411 rfl 3 rfl ?_
  refine v_iconst (pc := 412) C d_law_412 ic_1 ?_
  refine v_iadd (pc := 413) C d_law_413 ?_
  refine v_sldx (pc := 414) C hX (nI_add m 1) (by omega) hLn d_law_414 ?_
  refine v_aloadX (pc := 415) C d_law_415 rfl 0 rfl ?_
  refine v_iload_n (pc := 416) C d_law_416 rfl 3 rfl ?_
  refine v_iconst (pc := 417) C d_law_417 ic_2 ?_
  refine v_iadd (pc := 418) C d_law_418 ?_
  refine v_sldx (pc := 419) C hX (nI_add m 2) (by omega) hLn d_law_419 ?_
  refine v_aloadX (pc := 420) C d_law_420 rfl 0 rfl ?_
  refine v_iload_n (pc := 421) C d_law_421 rfl 3 rfl ?_
  refine v_iconst (pc := 422) C d_law_422 ic_3 ?_
  refine v_iadd (pc := 423) C d_law_423 ?_
  refine v_sldx (pc := 424) C hX (nI_add m 3) (by omega) hLn d_law_424 ?_
  refine v_csi (pc := 425) (inv_V (As := [.int (xs (m + 1)), .int (xs (m + 2)), .int (xs (m + 3))]) (st := []) C ml_LAW_37 mv_B_gets (ro_law_B_gets _) (sh_0 hL) rfl rfl rfl rfl (Nat.le_of_ble_eq_true rfl) d_law_425) (c_B_gets hL S (xs (m + 1)) (xs (m + 2)) (xs (m + 3))) e1 ⟨rfl, rfl⟩ hkn ?_
  refine v_aload_n (pc := 428) C d_law_428 rfl 2 rfl ?_
  refine v_aloadX (pc := 429) C d_law_429 rfl 0 rfl ?_
  refine v_iload_n (pc := 430) C d_law_430 rfl 3 rfl ?_
  refine v_iconst (pc := 431) C d_law_431 ic_1 ?_
  refine v_iadd (pc := 432) C d_law_432 ?_
  refine v_sldx (pc := 433) C hX (nI_add m 1) (by omega) hLn d_law_433 ?_
  refine v_aloadX (pc := 434) C d_law_434 rfl 0 rfl ?_
  refine v_iload_n (pc := 435) C d_law_435 rfl 3 rfl ?_
  refine v_iconst (pc := 436) C d_law_436 ic_2 ?_
  refine v_iadd (pc := 437) C d_law_437 ?_
  refine v_sldx (pc := 438) C hX (nI_add m 2) (by omega) hLn d_law_438 ?_
  refine v_aloadX (pc := 439) C d_law_439 rfl 0 rfl ?_
  refine v_iload_n (pc := 440) C d_law_440 rfl 3 rfl ?_
  refine v_iconst (pc := 441) C d_law_441 ic_3 ?_
  refine v_iadd (pc := 442) C d_law_442 ?_
  refine v_sldx (pc := 443) C hX (nI_add m 3) (by omega) hLn d_law_443 ?_
  refine v_csi (pc := 444) (inv_V (As := [.int (xs (m + 1)), .int (xs (m + 2)), .int (xs (m + 3))]) (st := [.int r]) C ml_LAW_40 mv_M_gets (ro_law_M_gets _) (sh_104 hL) rfl rfl rfl rfl (Nat.le_of_ble_eq_true rfl) d_law_444) (c_M_gets hL S1 (xs (m + 1)) (xs (m + 2)) (xs (m + 3))) e2 ⟨rfl, rfl⟩ hkn ?_
  refine v_icmp_eq_t (pc := 447) C d_law_447 1284 rfl rfl ?_
  exact hj L S2 k n hL hv2 (by omega) (by omega) (by omega)
set_option maxHeartbeats 4000000 in
set_option maxRecDepth 20000 in
theorem lc_feed {g : Gm} {G : Gl} {nm : String} {sb Ln : Nat} {xs : Nat → Int32} (C : Cx g (Y_law nm) G) (hX : va_X sb Ln xs (g_s g) (g_s g).heap ∧ sb < gB G ∧ gB G ≤ (g_s g).heap.size) (hLn : Ln < 2 ^ 31) {Qf : Unit → State → Prop} {m : Nat} (hm : m + 6 ≤ Ln) (hm2 : m ≤ 3072) (hj : ∀ (L : Shp) (S : Sto) (k n : Nat), Ext L → Iv L.length S → L.length ≤ 147 + m → k ≤ 1000 + m → n ≤ 100000 + 400 * m + 400 → VO g (Y_law nm) G Qf k n 1284 [(0, .ref sb), (1, rf G 0), (2, rf G 104), (3, .int (nI m))] [] L S (some ()) some) {L : Shp} {S : Sto} {k n : Nat} (hL : Ext L) (hv : Iv L.length S) (hlen0 : L.length ≤ 146 + m) (hk0 : k ≤ 999 + m) (hn0 : n ≤ 100000 + 400 * m) : VO g (Y_law nm) G Qf k n 452 [(0, .ref sb), (1, rf G 0), (2, rf G 104), (3, .int (nI m))] [] L S (some ()) some := by
  have hkn : k ≤ (mR (Y_law nm)).cells ∧ n ≤ (mR (Y_law nm)).slots := ⟨by show k ≤ 600000; omega, by show n ≤ 7302249; omega⟩
  obtain ⟨r, S1, S2, e1, e2, hv2⟩ := st_feed hv (xs (m + 1)) (xs (m + 2)) (xs (m + 3)) (xs (m + 4)) (xs (m + 5))
  refine v_aload_n (pc := 452) C d_law_452 rfl 1 rfl ?_
  refine v_aloadX (pc := 453) C d_law_453 rfl 0 rfl ?_
  refine v_iload_n (pc := 454) C d_law_454 rfl 3 rfl ?_
  refine v_iconst (pc := 455) C d_law_455 ic_1 ?_
  refine v_iadd (pc := 456) C d_law_456 ?_
  refine v_sldx (pc := 457) C hX (nI_add m 1) (by omega) hLn d_law_457 ?_
  refine v_aloadX (pc := 458) C d_law_458 rfl 0 rfl ?_
  refine v_iload_n (pc := 459) C d_law_459 rfl 3 rfl ?_
  refine v_iconst (pc := 460) C d_law_460 ic_2 ?_
  refine v_iadd (pc := 461) C d_law_461 ?_
  refine v_sldx (pc := 462) C hX (nI_add m 2) (by omega) hLn d_law_462 ?_
  refine v_aloadX (pc := 463) C d_law_463 rfl 0 rfl ?_
  refine v_iload_n (pc := 464) C d_law_464 rfl 3 rfl ?_
  refine v_iconst (pc := 465) C d_law_465 ic_3 ?_
  refine v_iadd (pc := 466) C d_law_466 ?_
  refine v_sldx (pc := 467) C hX (nI_add m 3) (by omega) hLn d_law_467 ?_
  refine v_aloadX (pc := 468) C d_law_468 rfl 0 rfl ?_
  refine v_iload_n (pc := 469) C d_law_469 rfl 3 rfl ?_
  refine v_iconst (pc := 470) C d_law_470 ic_4 ?_
  refine v_iadd (pc := 471) C d_law_471 ?_
  refine v_sldx (pc := 472) C hX (nI_add m 4) (by omega) hLn d_law_472 ?_
  refine v_aloadX (pc := 473) C d_law_473 rfl 0 rfl ?_
  refine v_iload_n (pc := 474) C d_law_474 rfl 3 rfl ?_
  refine v_iconst (pc := 475) C d_law_475 ic_5 ?_
  refine v_iadd (pc := 476) C d_law_476 ?_
  refine v_sldx (pc := 477) C hX (nI_add m 5) (by omega) hLn d_law_477 ?_
  refine v_csi (pc := 478) (inv_V (As := [.int (xs (m + 1)), .int (xs (m + 2)), .int (xs (m + 3)), .int (xs (m + 4)), .int (xs (m + 5))]) (st := []) C ml_LAW_41 mv_B_feed (ro_law_B_feed _) (sh_0 hL) rfl rfl rfl rfl (Nat.le_of_ble_eq_true rfl) d_law_478) (c_B_feed hL S (xs (m + 1)) (xs (m + 2)) (xs (m + 3)) (xs (m + 4)) (xs (m + 5))) e1 ⟨rfl, rfl⟩ hkn ?_
  refine v_aload_n (pc := 481) C d_law_481 rfl 2 rfl ?_
  refine v_aloadX (pc := 482) C d_law_482 rfl 0 rfl ?_
  refine v_iload_n (pc := 483) C d_law_483 rfl 3 rfl ?_
  refine v_iconst (pc := 484) C d_law_484 ic_1 ?_
  refine v_iadd (pc := 485) C d_law_485 ?_
  refine v_sldx (pc := 486) C hX (nI_add m 1) (by omega) hLn d_law_486 ?_
  refine v_aloadX (pc := 487) C d_law_487 rfl 0 rfl ?_
  refine v_iload_n (pc := 488) C d_law_488 rfl 3 rfl ?_
  refine v_iconst (pc := 489) C d_law_489 ic_2 ?_
  refine v_iadd (pc := 490) C d_law_490 ?_
  refine v_sldx (pc := 491) C hX (nI_add m 2) (by omega) hLn d_law_491 ?_
  refine v_aloadX (pc := 492) C d_law_492 rfl 0 rfl ?_
  refine v_iload_n (pc := 493) C d_law_493 rfl 3 rfl ?_
  refine v_iconst (pc := 494) C d_law_494 ic_3 ?_
  refine v_iadd (pc := 495) C d_law_495 ?_
  refine v_sldx (pc := 496) C hX (nI_add m 3) (by omega) hLn d_law_496 ?_
  refine v_aloadX (pc := 497) C d_law_497 rfl 0 rfl ?_
  refine v_iload_n (pc := 498) C d_law_498 rfl 3 rfl ?_
  refine v_iconst (pc := 499) C d_law_499 ic_4 ?_
  refine v_iadd (pc := 500) C d_law_500 ?_
  refine v_sldx (pc := 501) C hX (nI_add m 4) (by omega) hLn d_law_501 ?_
  refine v_aloadX (pc := 502) C d_law_502 rfl 0 rfl ?_
  refine v_iload_n (pc := 503) C d_law_503 rfl 3 rfl ?_
  refine v_iconst (pc := 504) C d_law_504 ic_5 ?_
  refine v_iadd (pc := 505) C d_law_505 ?_
  refine v_sldx (pc := 506) C hX (nI_add m 5) (by omega) hLn d_law_506 ?_
  refine v_csi (pc := 507) (inv_V (As := [.int (xs (m + 1)), .int (xs (m + 2)), .int (xs (m + 3)), .int (xs (m + 4)), .int (xs (m + 5))]) (st := [.int r]) C ml_LAW_45 mv_M_feed (ro_law_M_feed _) (sh_104 hL) rfl rfl rfl rfl (Nat.le_of_ble_eq_true rfl) d_law_507) (c_M_feed hL S1 (xs (m + 1)) (xs (m + 2)) (xs (m + 3)) (xs (m + 4)) (xs (m + 5))) e2 ⟨rfl, rfl⟩ hkn ?_
  refine v_icmp_eq_t (pc := 510) C d_law_510 1284 rfl rfl ?_
  exact hj L S2 k n hL hv2 (by omega) (by omega) (by omega)
set_option maxHeartbeats 4000000 in
set_option maxRecDepth 20000 in
theorem lc_end {g : Gm} {G : Gl} {nm : String} {sb Ln : Nat} {xs : Nat → Int32} (C : Cx g (Y_law nm) G) (hX : va_X sb Ln xs (g_s g) (g_s g).heap ∧ sb < gB G ∧ gB G ≤ (g_s g).heap.size) (hLn : Ln < 2 ^ 31) {Qf : Unit → State → Prop} {m : Nat} (hm : m + 6 ≤ Ln) (hm2 : m ≤ 3072) (hj : ∀ (L : Shp) (S : Sto) (k n : Nat), Ext L → Iv L.length S → L.length ≤ 147 + m → k ≤ 1000 + m → n ≤ 100000 + 400 * m + 400 → VO g (Y_law nm) G Qf k n 1284 [(0, .ref sb), (1, rf G 0), (2, rf G 104), (3, .int (nI m))] [] L S (some ()) some) {L : Shp} {S : Sto} {k n : Nat} (hL : Ext L) (hv : Iv L.length S) (hlen0 : L.length ≤ 146 + m) (hk0 : k ≤ 999 + m) (hn0 : n ≤ 100000 + 400 * m) : VO g (Y_law nm) G Qf k n 515 [(0, .ref sb), (1, rf G 0), (2, rf G 104), (3, .int (nI m))] [] L S (some ()) some := by
  have hkn : k ≤ (mR (Y_law nm)).cells ∧ n ≤ (mR (Y_law nm)).slots := ⟨by show k ≤ 600000; omega, by show n ≤ 7302249; omega⟩
  obtain ⟨r, S1, S2, e1, e2, hv2⟩ := st_end hv (xs (m + 1))
  refine v_aload_n (pc := 515) C d_law_515 rfl 1 rfl ?_
  refine v_aloadX (pc := 516) C d_law_516 rfl 0 rfl ?_
  refine v_iload_n (pc := 517) C d_law_517 rfl 3 rfl ?_
  refine v_iconst (pc := 518) C d_law_518 ic_1 ?_
  refine v_iadd (pc := 519) C d_law_519 ?_
  refine v_sldx (pc := 520) C hX (nI_add m 1) (by omega) hLn d_law_520 ?_
  refine v_csi (pc := 521) (inv_V (As := [.int (xs (m + 1))]) (st := []) C ml_LAW_46 mv_B_end (ro_law_B_end _) (sh_0 hL) rfl rfl rfl rfl (Nat.le_of_ble_eq_true rfl) d_law_521) (c_B_end hL S (xs (m + 1))) e1 ⟨rfl, rfl⟩ hkn ?_
  refine v_aload_n (pc := 524) C d_law_524 rfl 2 rfl ?_
  refine v_aloadX (pc := 525) C d_law_525 rfl 0 rfl ?_
  refine v_iload_n (pc := 526) C d_law_526 rfl 3 rfl ?_
  refine v_iconst (pc := 527) C d_law_527 ic_1 ?_
  refine v_iadd (pc := 528) C d_law_528 ?_
  refine v_sldx (pc := 529) C hX (nI_add m 1) (by omega) hLn d_law_529 ?_
  refine v_csi (pc := 530) (inv_V (As := [.int (xs (m + 1))]) (st := [.int r]) C ml_LAW_50 mv_M_end (ro_law_M_end _) (sh_104 hL) rfl rfl rfl rfl (Nat.le_of_ble_eq_true rfl) d_law_530) (c_M_end hL S1 (xs (m + 1))) e2 ⟨rfl, rfl⟩ hkn ?_
  refine v_icmp_eq_t (pc := 533) C d_law_533 1284 rfl rfl ?_
  exact hj L S2 k n hL hv2 (by omega) (by omega) (by omega)
set_option maxHeartbeats 4000000 in
set_option maxRecDepth 20000 in
theorem lc_text {g : Gm} {G : Gl} {nm : String} {sb Ln : Nat} {xs : Nat → Int32} (C : Cx g (Y_law nm) G) (hX : va_X sb Ln xs (g_s g) (g_s g).heap ∧ sb < gB G ∧ gB G ≤ (g_s g).heap.size) (hLn : Ln < 2 ^ 31) {Qf : Unit → State → Prop} {m : Nat} (hm : m + 6 ≤ Ln) (hm2 : m ≤ 3072) (hj : ∀ (L : Shp) (S : Sto) (k n : Nat), Ext L → Iv L.length S → L.length ≤ 147 + m → k ≤ 1000 + m → n ≤ 100000 + 400 * m + 400 → VO g (Y_law nm) G Qf k n 1284 [(0, .ref sb), (1, rf G 0), (2, rf G 104), (3, .int (nI m))] [] L S (some ()) some) {L : Shp} {S : Sto} {k n : Nat} (hL : Ext L) (hv : Iv L.length S) (hlen0 : L.length ≤ 146 + m) (hk0 : k ≤ 999 + m) (hn0 : n ≤ 100000 + 400 * m) : VO g (Y_law nm) G Qf k n 538 [(0, .ref sb), (1, rf G 0), (2, rf G 104), (3, .int (nI m))] [] L S (some ()) some := by
  have hkn : k ≤ (mR (Y_law nm)).cells ∧ n ≤ (mR (Y_law nm)).slots := ⟨by show k ≤ 600000; omega, by show n ≤ 7302249; omega⟩
  have hk : k + (mR Y_B_text).cells ≤ (mR (Y_law nm)).cells := by show k + 1 ≤ 600000; omega
  have hn : n + (mR Y_B_text).slots ≤ (mR (Y_law nm)).slots := by show n + 400 ≤ 7302249; omega
  have hkn2 : k + (mR Y_B_text).cells ≤ (mR (Y_law nm)).cells ∧ n + (mR Y_B_text).slots ≤ (mR (Y_law nm)).slots := ⟨hk, hn⟩
  obtain ⟨r, S1, S2, b, e1, e2, hv2⟩ := st_text hv (by omega) (List.getElem?_eq_some_iff.mp (sh_145 hL)).1 (xs (m + 1))
  refine v_aload_n (pc := 538) C d_law_538 rfl 1 rfl ?_
  refine v_aloadX (pc := 539) C d_law_539 rfl 0 rfl ?_
  refine v_iload_n (pc := 540) C d_law_540 rfl 3 rfl ?_
  refine v_iconst (pc := 541) C d_law_541 ic_1 ?_
  refine v_iadd (pc := 542) C d_law_542 ?_
  refine v_sldx (pc := 543) C hX (nI_add m 1) (by omega) hLn d_law_543 ?_
  refine v_csa (pc := 544) (inv_V (As := [.int (xs (m + 1))]) (st := []) C ml_LAW_51 mv_B_text (ro_law_B_text _) (sh_0 hL) rfl rfl rfl rfl (Nat.le_of_ble_eq_true rfl) d_law_544) (c_B_text hL S rfl (by omega) (xs (m + 1))) e1 hk hn ?_
  generalize hL2 : (if b = true then L ++ [(5, 0, [])] else L) = L2
  have hL' : Ext L2 := by rw [← hL2]; exact hL.grow b
  have hlen : L2.length = if b = true then L.length + 1 else L.length := by rw [← hL2]; split <;> simp
  refine v_aload_n (pc := 547) C d_law_547 rfl 2 rfl ?_
  refine v_aloadX (pc := 548) C d_law_548 rfl 0 rfl ?_
  refine v_iload_n (pc := 549) C d_law_549 rfl 3 rfl ?_
  refine v_iconst (pc := 550) C d_law_550 ic_1 ?_
  refine v_iadd (pc := 551) C d_law_551 ?_
  refine v_sldx (pc := 552) C hX (nI_add m 1) (by omega) hLn d_law_552 ?_
  refine v_csi (pc := 553) (inv_V (As := [.int (xs (m + 1))]) (st := [.int r]) C ml_LAW_55 mv_M_text (ro_law_M_text _) (sh_104 hL') rfl rfl rfl rfl (Nat.le_of_ble_eq_true rfl) d_law_553) (c_M_text hL' S1 (xs (m + 1))) e2 ⟨rfl, rfl⟩ hkn2 ?_
  refine v_icmp_eq_t (pc := 556) C d_law_556 1284 rfl rfl ?_
  exact hj L2 S2 (k + 1) (n + 400) hL' (by rw [hlen]; exact hv2) (by rw [hlen]; split <;> omega) (by omega) (by omega)
set_option maxHeartbeats 4000000 in
set_option maxRecDepth 20000 in
theorem lc_fault {g : Gm} {G : Gl} {nm : String} {sb Ln : Nat} {xs : Nat → Int32} (C : Cx g (Y_law nm) G) (hX : va_X sb Ln xs (g_s g) (g_s g).heap ∧ sb < gB G ∧ gB G ≤ (g_s g).heap.size) (hLn : Ln < 2 ^ 31) {Qf : Unit → State → Prop} {m : Nat} (hm : m + 6 ≤ Ln) (hm2 : m ≤ 3072) (hj : ∀ (L : Shp) (S : Sto) (k n : Nat), Ext L → Iv L.length S → L.length ≤ 147 + m → k ≤ 1000 + m → n ≤ 100000 + 400 * m + 400 → VO g (Y_law nm) G Qf k n 1284 [(0, .ref sb), (1, rf G 0), (2, rf G 104), (3, .int (nI m))] [] L S (some ()) some) {L : Shp} {S : Sto} {k n : Nat} (hL : Ext L) (hv : Iv L.length S) (hlen0 : L.length ≤ 146 + m) (hk0 : k ≤ 999 + m) (hn0 : n ≤ 100000 + 400 * m) : VO g (Y_law nm) G Qf k n 561 [(0, .ref sb), (1, rf G 0), (2, rf G 104), (3, .int (nI m))] [] L S (some ()) some := by
  have hkn : k ≤ (mR (Y_law nm)).cells ∧ n ≤ (mR (Y_law nm)).slots := ⟨by show k ≤ 600000; omega, by show n ≤ 7302249; omega⟩
  obtain ⟨r, S2, e1, e2, hv2⟩ := st_fault hv (xs (m + 1))
  refine v_aload_n (pc := 561) C d_law_561 rfl 1 rfl ?_
  refine v_aloadX (pc := 562) C d_law_562 rfl 0 rfl ?_
  refine v_iload_n (pc := 563) C d_law_563 rfl 3 rfl ?_
  refine v_iconst (pc := 564) C d_law_564 ic_1 ?_
  refine v_iadd (pc := 565) C d_law_565 ?_
  refine v_sldx (pc := 566) C hX (nI_add m 1) (by omega) hLn d_law_566 ?_
  refine v_cst (pc := 567) (inv_V (As := [.int (xs (m + 1))]) (st := []) C ml_LAW_56 mv_B_fault (ro_law_B_fault _) (sh_0 hL) rfl rfl rfl rfl (Nat.le_of_ble_eq_true rfl) d_law_567) (c_B_fault hL S (xs (m + 1))) e1 ⟨rfl, rfl⟩ hkn ?_
  refine v_aload_n (pc := 570) C d_law_570 rfl 2 rfl ?_
  refine v_aloadX (pc := 571) C d_law_571 rfl 0 rfl ?_
  refine v_iload_n (pc := 572) C d_law_572 rfl 3 rfl ?_
  refine v_iconst (pc := 573) C d_law_573 ic_1 ?_
  refine v_iadd (pc := 574) C d_law_574 ?_
  refine v_sldx (pc := 575) C hX (nI_add m 1) (by omega) hLn d_law_575 ?_
  refine v_csi (pc := 576) (inv_V (As := [.int (xs (m + 1))]) (st := [.int r]) C ml_LAW_59 mv_M_fault (ro_law_M_fault _) (sh_104 hL) rfl rfl rfl rfl (Nat.le_of_ble_eq_true rfl) d_law_576) (c_M_fault hL S (xs (m + 1))) e2 ⟨rfl, rfl⟩ hkn ?_
  refine v_icmp_eq_t (pc := 579) C d_law_579 1284 rfl rfl ?_
  exact hj L S2 k n hL hv2 (by omega) (by omega) (by omega)
set_option maxHeartbeats 4000000 in
set_option maxRecDepth 20000 in
theorem lc_hearer {g : Gm} {G : Gl} {nm : String} {sb Ln : Nat} {xs : Nat → Int32} (C : Cx g (Y_law nm) G) (hX : va_X sb Ln xs (g_s g) (g_s g).heap ∧ sb < gB G ∧ gB G ≤ (g_s g).heap.size) (hLn : Ln < 2 ^ 31) {Qf : Unit → State → Prop} {m : Nat} (hm : m + 6 ≤ Ln) (hm2 : m ≤ 3072) (hj : ∀ (L : Shp) (S : Sto) (k n : Nat), Ext L → Iv L.length S → L.length ≤ 147 + m → k ≤ 1000 + m → n ≤ 100000 + 400 * m + 400 → VO g (Y_law nm) G Qf k n 1284 [(0, .ref sb), (1, rf G 0), (2, rf G 104), (3, .int (nI m))] [] L S (some ()) some) {L : Shp} {S : Sto} {k n : Nat} (hL : Ext L) (hv : Iv L.length S) (hlen0 : L.length ≤ 146 + m) (hk0 : k ≤ 999 + m) (hn0 : n ≤ 100000 + 400 * m) : VO g (Y_law nm) G Qf k n 584 [(0, .ref sb), (1, rf G 0), (2, rf G 104), (3, .int (nI m))] [] L S (some ()) some := by
  have hkn : k ≤ (mR (Y_law nm)).cells ∧ n ≤ (mR (Y_law nm)).slots := ⟨by show k ≤ 600000; omega, by show n ≤ 7302249; omega⟩
  obtain ⟨r, S1, S2, e1, e2, hv2⟩ := st_hearer hv (xs (m + 1)) (xs (m + 2))
  refine v_aload_n (pc := 584) C d_law_584 rfl 1 rfl ?_
  refine v_aloadX (pc := 585) C d_law_585 rfl 0 rfl ?_
  refine v_iload_n (pc := 586) C d_law_586 rfl 3 rfl ?_
  refine v_iconst (pc := 587) C d_law_587 ic_1 ?_
  refine v_iadd (pc := 588) C d_law_588 ?_
  refine v_sldx (pc := 589) C hX (nI_add m 1) (by omega) hLn d_law_589 ?_
  refine v_aloadX (pc := 590) C d_law_590 rfl 0 rfl ?_
  refine v_iload_n (pc := 591) C d_law_591 rfl 3 rfl ?_
  refine v_iconst (pc := 592) C d_law_592 ic_2 ?_
  refine v_iadd (pc := 593) C d_law_593 ?_
  refine v_sldx (pc := 594) C hX (nI_add m 2) (by omega) hLn d_law_594 ?_
  refine v_csi (pc := 595) (inv_V (As := [.int (xs (m + 1)), .int (xs (m + 2))]) (st := []) C ml_LAW_60 mv_B_hearer (ro_law_B_hearer _) (sh_0 hL) rfl rfl rfl rfl (Nat.le_of_ble_eq_true rfl) d_law_595) (c_B_hearer hL S (xs (m + 1)) (xs (m + 2))) e1 ⟨rfl, rfl⟩ hkn ?_
  refine v_aload_n (pc := 598) C d_law_598 rfl 2 rfl ?_
  refine v_aloadX (pc := 599) C d_law_599 rfl 0 rfl ?_
  refine v_iload_n (pc := 600) C d_law_600 rfl 3 rfl ?_
  refine v_iconst (pc := 601) C d_law_601 ic_1 ?_
  refine v_iadd (pc := 602) C d_law_602 ?_
  refine v_sldx (pc := 603) C hX (nI_add m 1) (by omega) hLn d_law_603 ?_
  refine v_aloadX (pc := 604) C d_law_604 rfl 0 rfl ?_
  refine v_iload_n (pc := 605) C d_law_605 rfl 3 rfl ?_
  refine v_iconst (pc := 606) C d_law_606 ic_2 ?_
  refine v_iadd (pc := 607) C d_law_607 ?_
  refine v_sldx (pc := 608) C hX (nI_add m 2) (by omega) hLn d_law_608 ?_
  refine v_csi (pc := 609) (inv_V (As := [.int (xs (m + 1)), .int (xs (m + 2))]) (st := [.int r]) C ml_LAW_64 mv_M_hearer (ro_law_M_hearer _) (sh_104 hL) rfl rfl rfl rfl (Nat.le_of_ble_eq_true rfl) d_law_609) (c_M_hearer hL S1 (xs (m + 1)) (xs (m + 2))) e2 ⟨rfl, rfl⟩ hkn ?_
  refine v_icmp_eq_t (pc := 612) C d_law_612 1284 rfl rfl ?_
  exact hj L S2 k n hL hv2 (by omega) (by omega) (by omega)
set_option maxHeartbeats 4000000 in
set_option maxRecDepth 20000 in
theorem lc_turning {g : Gm} {G : Gl} {nm : String} {sb Ln : Nat} {xs : Nat → Int32} (C : Cx g (Y_law nm) G) (hX : va_X sb Ln xs (g_s g) (g_s g).heap ∧ sb < gB G ∧ gB G ≤ (g_s g).heap.size) (hLn : Ln < 2 ^ 31) {Qf : Unit → State → Prop} {m : Nat} (hm : m + 6 ≤ Ln) (hm2 : m ≤ 3072) (hj : ∀ (L : Shp) (S : Sto) (k n : Nat), Ext L → Iv L.length S → L.length ≤ 147 + m → k ≤ 1000 + m → n ≤ 100000 + 400 * m + 400 → VO g (Y_law nm) G Qf k n 1284 [(0, .ref sb), (1, rf G 0), (2, rf G 104), (3, .int (nI m))] [] L S (some ()) some) {L : Shp} {S : Sto} {k n : Nat} (hL : Ext L) (hv : Iv L.length S) (hlen0 : L.length ≤ 146 + m) (hk0 : k ≤ 999 + m) (hn0 : n ≤ 100000 + 400 * m) : VO g (Y_law nm) G Qf k n 617 [(0, .ref sb), (1, rf G 0), (2, rf G 104), (3, .int (nI m))] [] L S (some ()) some := by
  have hkn : k ≤ (mR (Y_law nm)).cells ∧ n ≤ (mR (Y_law nm)).slots := ⟨by show k ≤ 600000; omega, by show n ≤ 7302249; omega⟩
  obtain ⟨r, S1, S2, e1, e2, hv2⟩ := st_turning hv (xs (m + 1)) (xs (m + 2)) (xs (m + 3))
  refine v_aload_n (pc := 617) C d_law_617 rfl 1 rfl ?_
  refine v_aloadX (pc := 618) C d_law_618 rfl 0 rfl ?_
  refine v_iload_n (pc := 619) C d_law_619 rfl 3 rfl ?_
  refine v_iconst (pc := 620) C d_law_620 ic_1 ?_
  refine v_iadd (pc := 621) C d_law_621 ?_
  refine v_sldx (pc := 622) C hX (nI_add m 1) (by omega) hLn d_law_622 ?_
  refine v_aloadX (pc := 623) C d_law_623 rfl 0 rfl ?_
  refine v_iload_n (pc := 624) C d_law_624 rfl 3 rfl ?_
  refine v_iconst (pc := 625) C d_law_625 ic_2 ?_
  refine v_iadd (pc := 626) C d_law_626 ?_
  refine v_sldx (pc := 627) C hX (nI_add m 2) (by omega) hLn d_law_627 ?_
  refine v_aloadX (pc := 628) C d_law_628 rfl 0 rfl ?_
  refine v_iload_n (pc := 629) C d_law_629 rfl 3 rfl ?_
  refine v_iconst (pc := 630) C d_law_630 ic_3 ?_
  refine v_iadd (pc := 631) C d_law_631 ?_
  refine v_sldx (pc := 632) C hX (nI_add m 3) (by omega) hLn d_law_632 ?_
  refine v_csi (pc := 633) (inv_V (As := [.int (xs (m + 1)), .int (xs (m + 2)), .int (xs (m + 3))]) (st := []) C ml_LAW_65 mv_B_turning (ro_law_B_turning _) (sh_0 hL) rfl rfl rfl rfl (Nat.le_of_ble_eq_true rfl) d_law_633) (c_B_turning hL S (xs (m + 1)) (xs (m + 2)) (xs (m + 3))) e1 ⟨rfl, rfl⟩ hkn ?_
  refine v_aload_n (pc := 636) C d_law_636 rfl 2 rfl ?_
  refine v_aloadX (pc := 637) C d_law_637 rfl 0 rfl ?_
  refine v_iload_n (pc := 638) C d_law_638 rfl 3 rfl ?_
  refine v_iconst (pc := 639) C d_law_639 ic_1 ?_
  refine v_iadd (pc := 640) C d_law_640 ?_
  refine v_sldx (pc := 641) C hX (nI_add m 1) (by omega) hLn d_law_641 ?_
  refine v_aloadX (pc := 642) C d_law_642 rfl 0 rfl ?_
  refine v_iload_n (pc := 643) C d_law_643 rfl 3 rfl ?_
  refine v_iconst (pc := 644) C d_law_644 ic_2 ?_
  refine v_iadd (pc := 645) C d_law_645 ?_
  refine v_sldx (pc := 646) C hX (nI_add m 2) (by omega) hLn d_law_646 ?_
  refine v_aloadX (pc := 647) C d_law_647 rfl 0 rfl ?_
  refine v_iload_n (pc := 648) C d_law_648 rfl 3 rfl ?_
  refine v_iconst (pc := 649) C d_law_649 ic_3 ?_
  refine v_iadd (pc := 650) C d_law_650 ?_
  refine v_sldx (pc := 651) C hX (nI_add m 3) (by omega) hLn d_law_651 ?_
  refine v_csi (pc := 652) (inv_V (As := [.int (xs (m + 1)), .int (xs (m + 2)), .int (xs (m + 3))]) (st := [.int r]) C ml_LAW_68 mv_M_turning (ro_law_M_turning _) (sh_104 hL) rfl rfl rfl rfl (Nat.le_of_ble_eq_true rfl) d_law_652) (c_M_turning hL S1 (xs (m + 1)) (xs (m + 2)) (xs (m + 3))) e2 ⟨rfl, rfl⟩ hkn ?_
  refine v_icmp_eq_t (pc := 655) C d_law_655 1284 rfl rfl ?_
  exact hj L S2 k n hL hv2 (by omega) (by omega) (by omega)
set_option maxHeartbeats 4000000 in
set_option maxRecDepth 20000 in
theorem lc_story {g : Gm} {G : Gl} {nm : String} {sb Ln : Nat} {xs : Nat → Int32} (C : Cx g (Y_law nm) G) (hX : va_X sb Ln xs (g_s g) (g_s g).heap ∧ sb < gB G ∧ gB G ≤ (g_s g).heap.size) (hLn : Ln < 2 ^ 31) {Qf : Unit → State → Prop} {m : Nat} (hm : m + 6 ≤ Ln) (hm2 : m ≤ 3072) (hj : ∀ (L : Shp) (S : Sto) (k n : Nat), Ext L → Iv L.length S → L.length ≤ 147 + m → k ≤ 1000 + m → n ≤ 100000 + 400 * m + 400 → VO g (Y_law nm) G Qf k n 1284 [(0, .ref sb), (1, rf G 0), (2, rf G 104), (3, .int (nI m))] [] L S (some ()) some) {L : Shp} {S : Sto} {k n : Nat} (hL : Ext L) (hv : Iv L.length S) (hlen0 : L.length ≤ 146 + m) (hk0 : k ≤ 999 + m) (hn0 : n ≤ 100000 + 400 * m) : VO g (Y_law nm) G Qf k n 660 [(0, .ref sb), (1, rf G 0), (2, rf G 104), (3, .int (nI m))] [] L S (some ()) some := by
  have hkn : k ≤ (mR (Y_law nm)).cells ∧ n ≤ (mR (Y_law nm)).slots := ⟨by show k ≤ 600000; omega, by show n ≤ 7302249; omega⟩
  obtain ⟨r, S1, S2, e1, e2, hv2⟩ := st_story hv (xs (m + 1)) (xs (m + 2))
  refine v_aload_n (pc := 660) C d_law_660 rfl 1 rfl ?_
  refine v_aloadX (pc := 661) C d_law_661 rfl 0 rfl ?_
  refine v_iload_n (pc := 662) C d_law_662 rfl 3 rfl ?_
  refine v_iconst (pc := 663) C d_law_663 ic_1 ?_
  refine v_iadd (pc := 664) C d_law_664 ?_
  refine v_sldx (pc := 665) C hX (nI_add m 1) (by omega) hLn d_law_665 ?_
  refine v_aloadX (pc := 666) C d_law_666 rfl 0 rfl ?_
  refine v_iload_n (pc := 667) C d_law_667 rfl 3 rfl ?_
  refine v_iconst (pc := 668) C d_law_668 ic_2 ?_
  refine v_iadd (pc := 669) C d_law_669 ?_
  refine v_sldx (pc := 670) C hX (nI_add m 2) (by omega) hLn d_law_670 ?_
  refine v_csi (pc := 671) (inv_V (As := [.int (xs (m + 1)), .int (xs (m + 2))]) (st := []) C ml_LAW_69 mv_B_story (ro_law_B_story _) (sh_0 hL) rfl rfl rfl rfl (Nat.le_of_ble_eq_true rfl) d_law_671) (c_B_story hL S (xs (m + 1)) (xs (m + 2))) e1 ⟨rfl, rfl⟩ hkn ?_
  refine v_aload_n (pc := 674) C d_law_674 rfl 2 rfl ?_
  refine v_aloadX (pc := 675) C d_law_675 rfl 0 rfl ?_
  refine v_iload_n (pc := 676) C d_law_676 rfl 3 rfl ?_
  refine v_iconst (pc := 677) C d_law_677 ic_1 ?_
  refine v_iadd (pc := 678) C d_law_678 ?_
  refine v_sldx (pc := 679) C hX (nI_add m 1) (by omega) hLn d_law_679 ?_
  refine v_aloadX (pc := 680) C d_law_680 rfl 0 rfl ?_
  refine v_iload_n (pc := 681) C d_law_681 rfl 3 rfl ?_
  refine v_iconst (pc := 682) C d_law_682 ic_2 ?_
  refine v_iadd (pc := 683) C d_law_683 ?_
  refine v_sldx (pc := 684) C hX (nI_add m 2) (by omega) hLn d_law_684 ?_
  refine v_csi (pc := 685) (inv_V (As := [.int (xs (m + 1)), .int (xs (m + 2))]) (st := [.int r]) C ml_LAW_72 mv_M_story (ro_law_M_story _) (sh_104 hL) rfl rfl rfl rfl (Nat.le_of_ble_eq_true rfl) d_law_685) (c_M_story hL S1 (xs (m + 1)) (xs (m + 2))) e2 ⟨rfl, rfl⟩ hkn ?_
  refine v_icmp_eq_t (pc := 688) C d_law_688 1284 rfl rfl ?_
  exact hj L S2 k n hL hv2 (by omega) (by omega) (by omega)
set_option maxHeartbeats 4000000 in
set_option maxRecDepth 20000 in
theorem lc_stories {g : Gm} {G : Gl} {nm : String} {sb Ln : Nat} {xs : Nat → Int32} (C : Cx g (Y_law nm) G) (hX : va_X sb Ln xs (g_s g) (g_s g).heap ∧ sb < gB G ∧ gB G ≤ (g_s g).heap.size) (hLn : Ln < 2 ^ 31) {Qf : Unit → State → Prop} {m : Nat} (hm : m + 6 ≤ Ln) (hm2 : m ≤ 3072) (hj : ∀ (L : Shp) (S : Sto) (k n : Nat), Ext L → Iv L.length S → L.length ≤ 147 + m → k ≤ 1000 + m → n ≤ 100000 + 400 * m + 400 → VO g (Y_law nm) G Qf k n 1284 [(0, .ref sb), (1, rf G 0), (2, rf G 104), (3, .int (nI m))] [] L S (some ()) some) {L : Shp} {S : Sto} {k n : Nat} (hL : Ext L) (hv : Iv L.length S) (hlen0 : L.length ≤ 146 + m) (hk0 : k ≤ 999 + m) (hn0 : n ≤ 100000 + 400 * m) : VO g (Y_law nm) G Qf k n 693 [(0, .ref sb), (1, rf G 0), (2, rf G 104), (3, .int (nI m))] [] L S (some ()) some := by
  have hkn : k ≤ (mR (Y_law nm)).cells ∧ n ≤ (mR (Y_law nm)).slots := ⟨by show k ≤ 600000; omega, by show n ≤ 7302249; omega⟩
  obtain ⟨r, S1, S2, e1, e2, hv2⟩ := st_stories hv (xs (m + 1)) (xs (m + 2))
  refine v_aload_n (pc := 693) C d_law_693 rfl 1 rfl ?_
  refine v_aloadX (pc := 694) C d_law_694 rfl 0 rfl ?_
  refine v_iload_n (pc := 695) C d_law_695 rfl 3 rfl ?_
  refine v_iconst (pc := 696) C d_law_696 ic_1 ?_
  refine v_iadd (pc := 697) C d_law_697 ?_
  refine v_sldx (pc := 698) C hX (nI_add m 1) (by omega) hLn d_law_698 ?_
  refine v_aloadX (pc := 699) C d_law_699 rfl 0 rfl ?_
  refine v_iload_n (pc := 700) C d_law_700 rfl 3 rfl ?_
  refine v_iconst (pc := 701) C d_law_701 ic_2 ?_
  refine v_iadd (pc := 702) C d_law_702 ?_
  refine v_sldx (pc := 703) C hX (nI_add m 2) (by omega) hLn d_law_703 ?_
  refine v_csi (pc := 704) (inv_V (As := [.int (xs (m + 1)), .int (xs (m + 2))]) (st := []) C ml_LAW_73 mv_B_stories (ro_law_B_stories _) (sh_0 hL) rfl rfl rfl rfl (Nat.le_of_ble_eq_true rfl) d_law_704) (c_B_stories hL S (xs (m + 1)) (xs (m + 2))) e1 ⟨rfl, rfl⟩ hkn ?_
  refine v_aload_n (pc := 707) C d_law_707 rfl 2 rfl ?_
  refine v_aloadX (pc := 708) C d_law_708 rfl 0 rfl ?_
  refine v_iload_n (pc := 709) C d_law_709 rfl 3 rfl ?_
  refine v_iconst (pc := 710) C d_law_710 ic_1 ?_
  refine v_iadd (pc := 711) C d_law_711 ?_
  refine v_sldx (pc := 712) C hX (nI_add m 1) (by omega) hLn d_law_712 ?_
  refine v_aloadX (pc := 713) C d_law_713 rfl 0 rfl ?_
  refine v_iload_n (pc := 714) C d_law_714 rfl 3 rfl ?_
  refine v_iconst (pc := 715) C d_law_715 ic_2 ?_
  refine v_iadd (pc := 716) C d_law_716 ?_
  refine v_sldx (pc := 717) C hX (nI_add m 2) (by omega) hLn d_law_717 ?_
  refine v_csi (pc := 718) (inv_V (As := [.int (xs (m + 1)), .int (xs (m + 2))]) (st := [.int r]) C ml_LAW_76 mv_M_stories (ro_law_M_stories _) (sh_104 hL) rfl rfl rfl rfl (Nat.le_of_ble_eq_true rfl) d_law_718) (c_M_stories hL S1 (xs (m + 1)) (xs (m + 2))) e2 ⟨rfl, rfl⟩ hkn ?_
  refine v_icmp_eq_t (pc := 721) C d_law_721 1284 rfl rfl ?_
  exact hj L S2 k n hL hv2 (by omega) (by omega) (by omega)
set_option maxHeartbeats 4000000 in
set_option maxRecDepth 20000 in
theorem lc_ear {g : Gm} {G : Gl} {nm : String} {sb Ln : Nat} {xs : Nat → Int32} (C : Cx g (Y_law nm) G) (hX : va_X sb Ln xs (g_s g) (g_s g).heap ∧ sb < gB G ∧ gB G ≤ (g_s g).heap.size) (hLn : Ln < 2 ^ 31) {Qf : Unit → State → Prop} {m : Nat} (hm : m + 6 ≤ Ln) (hm2 : m ≤ 3072) (hj : ∀ (L : Shp) (S : Sto) (k n : Nat), Ext L → Iv L.length S → L.length ≤ 147 + m → k ≤ 1000 + m → n ≤ 100000 + 400 * m + 400 → VO g (Y_law nm) G Qf k n 1284 [(0, .ref sb), (1, rf G 0), (2, rf G 104), (3, .int (nI m))] [] L S (some ()) some) {L : Shp} {S : Sto} {k n : Nat} (hL : Ext L) (hv : Iv L.length S) (hlen0 : L.length ≤ 146 + m) (hk0 : k ≤ 999 + m) (hn0 : n ≤ 100000 + 400 * m) : VO g (Y_law nm) G Qf k n 726 [(0, .ref sb), (1, rf G 0), (2, rf G 104), (3, .int (nI m))] [] L S (some ()) some := by
  have hkn : k ≤ (mR (Y_law nm)).cells ∧ n ≤ (mR (Y_law nm)).slots := ⟨by show k ≤ 600000; omega, by show n ≤ 7302249; omega⟩
  obtain ⟨r, S1, S2, e1, e2, hv2⟩ := st_ear hv (xs (m + 1))
  refine v_aload_n (pc := 726) C d_law_726 rfl 1 rfl ?_
  refine v_aloadX (pc := 727) C d_law_727 rfl 0 rfl ?_
  refine v_iload_n (pc := 728) C d_law_728 rfl 3 rfl ?_
  refine v_iconst (pc := 729) C d_law_729 ic_1 ?_
  refine v_iadd (pc := 730) C d_law_730 ?_
  refine v_sldx (pc := 731) C hX (nI_add m 1) (by omega) hLn d_law_731 ?_
  refine v_csi (pc := 732) (inv_V (As := [.int (xs (m + 1))]) (st := []) C ml_LAW_77 mv_B_ear (ro_law_B_ear _) (sh_0 hL) rfl rfl rfl rfl (Nat.le_of_ble_eq_true rfl) d_law_732) (c_B_ear hL S (xs (m + 1))) e1 ⟨rfl, rfl⟩ hkn ?_
  refine v_aload_n (pc := 735) C d_law_735 rfl 2 rfl ?_
  refine v_aloadX (pc := 736) C d_law_736 rfl 0 rfl ?_
  refine v_iload_n (pc := 737) C d_law_737 rfl 3 rfl ?_
  refine v_iconst (pc := 738) C d_law_738 ic_1 ?_
  refine v_iadd (pc := 739) C d_law_739 ?_
  refine v_sldx (pc := 740) C hX (nI_add m 1) (by omega) hLn d_law_740 ?_
  refine v_csi (pc := 741) (inv_V (As := [.int (xs (m + 1))]) (st := [.int r]) C ml_LAW_80 mv_M_ear (ro_law_M_ear _) (sh_104 hL) rfl rfl rfl rfl (Nat.le_of_ble_eq_true rfl) d_law_741) (c_M_ear hL S1 (xs (m + 1))) e2 ⟨rfl, rfl⟩ hkn ?_
  refine v_icmp_eq_t (pc := 744) C d_law_744 1284 rfl rfl ?_
  exact hj L S2 k n hL hv2 (by omega) (by omega) (by omega)
set_option maxHeartbeats 4000000 in
set_option maxRecDepth 20000 in
theorem lc_got {g : Gm} {G : Gl} {nm : String} {sb Ln : Nat} {xs : Nat → Int32} (C : Cx g (Y_law nm) G) (hX : va_X sb Ln xs (g_s g) (g_s g).heap ∧ sb < gB G ∧ gB G ≤ (g_s g).heap.size) (hLn : Ln < 2 ^ 31) {Qf : Unit → State → Prop} {m : Nat} (hm : m + 6 ≤ Ln) (hm2 : m ≤ 3072) (hj : ∀ (L : Shp) (S : Sto) (k n : Nat), Ext L → Iv L.length S → L.length ≤ 147 + m → k ≤ 1000 + m → n ≤ 100000 + 400 * m + 400 → VO g (Y_law nm) G Qf k n 1284 [(0, .ref sb), (1, rf G 0), (2, rf G 104), (3, .int (nI m))] [] L S (some ()) some) {L : Shp} {S : Sto} {k n : Nat} (hL : Ext L) (hv : Iv L.length S) (hlen0 : L.length ≤ 146 + m) (hk0 : k ≤ 999 + m) (hn0 : n ≤ 100000 + 400 * m) : VO g (Y_law nm) G Qf k n 749 [(0, .ref sb), (1, rf G 0), (2, rf G 104), (3, .int (nI m))] [] L S (some ()) some := by
  have hkn : k ≤ (mR (Y_law nm)).cells ∧ n ≤ (mR (Y_law nm)).slots := ⟨by show k ≤ 600000; omega, by show n ≤ 7302249; omega⟩
  obtain ⟨r, S1, S2, e1, e2, hv2⟩ := st_got hv (xs (m + 1)) (xs (m + 2)) (xs (m + 3))
  refine v_aload_n (pc := 749) C d_law_749 rfl 1 rfl ?_
  refine v_aloadX (pc := 750) C d_law_750 rfl 0 rfl ?_
  refine v_iload_n (pc := 751) C d_law_751 rfl 3 rfl ?_
  refine v_iconst (pc := 752) C d_law_752 ic_1 ?_
  refine v_iadd (pc := 753) C d_law_753 ?_
  refine v_sldx (pc := 754) C hX (nI_add m 1) (by omega) hLn d_law_754 ?_
  refine v_aloadX (pc := 755) C d_law_755 rfl 0 rfl ?_
  refine v_iload_n (pc := 756) C d_law_756 rfl 3 rfl ?_
  refine v_iconst (pc := 757) C d_law_757 ic_2 ?_
  refine v_iadd (pc := 758) C d_law_758 ?_
  refine v_sldx (pc := 759) C hX (nI_add m 2) (by omega) hLn d_law_759 ?_
  refine v_aloadX (pc := 760) C d_law_760 rfl 0 rfl ?_
  refine v_iload_n (pc := 761) C d_law_761 rfl 3 rfl ?_
  refine v_iconst (pc := 762) C d_law_762 ic_3 ?_
  refine v_iadd (pc := 763) C d_law_763 ?_
  refine v_sldx (pc := 764) C hX (nI_add m 3) (by omega) hLn d_law_764 ?_
  refine v_csi (pc := 765) (inv_V (As := [.int (xs (m + 1)), .int (xs (m + 2)), .int (xs (m + 3))]) (st := []) C ml_LAW_81 mv_B_got (ro_law_B_got _) (sh_0 hL) rfl rfl rfl rfl (Nat.le_of_ble_eq_true rfl) d_law_765) (c_B_got hL S (xs (m + 1)) (xs (m + 2)) (xs (m + 3))) e1 ⟨rfl, rfl⟩ hkn ?_
  refine v_aload_n (pc := 768) C d_law_768 rfl 2 rfl ?_
  refine v_aloadX (pc := 769) C d_law_769 rfl 0 rfl ?_
  refine v_iload_n (pc := 770) C d_law_770 rfl 3 rfl ?_
  refine v_iconst (pc := 771) C d_law_771 ic_1 ?_
  refine v_iadd (pc := 772) C d_law_772 ?_
  refine v_sldx (pc := 773) C hX (nI_add m 1) (by omega) hLn d_law_773 ?_
  refine v_aloadX (pc := 774) C d_law_774 rfl 0 rfl ?_
  refine v_iload_n (pc := 775) C d_law_775 rfl 3 rfl ?_
  refine v_iconst (pc := 776) C d_law_776 ic_2 ?_
  refine v_iadd (pc := 777) C d_law_777 ?_
  refine v_sldx (pc := 778) C hX (nI_add m 2) (by omega) hLn d_law_778 ?_
  refine v_aloadX (pc := 779) C d_law_779 rfl 0 rfl ?_
  refine v_iload_n (pc := 780) C d_law_780 rfl 3 rfl ?_
  refine v_iconst (pc := 781) C d_law_781 ic_3 ?_
  refine v_iadd (pc := 782) C d_law_782 ?_
  refine v_sldx (pc := 783) C hX (nI_add m 3) (by omega) hLn d_law_783 ?_
  refine v_csi (pc := 784) (inv_V (As := [.int (xs (m + 1)), .int (xs (m + 2)), .int (xs (m + 3))]) (st := [.int r]) C ml_LAW_85 mv_M_got (ro_law_M_got _) (sh_104 hL) rfl rfl rfl rfl (Nat.le_of_ble_eq_true rfl) d_law_784) (c_M_got hL S1 (xs (m + 1)) (xs (m + 2)) (xs (m + 3))) e2 ⟨rfl, rfl⟩ hkn ?_
  refine v_icmp_eq_t (pc := 787) C d_law_787 1284 rfl rfl ?_
  exact hj L S2 k n hL hv2 (by omega) (by omega) (by omega)
set_option maxHeartbeats 4000000 in
set_option maxRecDepth 20000 in
theorem lc_from {g : Gm} {G : Gl} {nm : String} {sb Ln : Nat} {xs : Nat → Int32} (C : Cx g (Y_law nm) G) (hX : va_X sb Ln xs (g_s g) (g_s g).heap ∧ sb < gB G ∧ gB G ≤ (g_s g).heap.size) (hLn : Ln < 2 ^ 31) {Qf : Unit → State → Prop} {m : Nat} (hm : m + 6 ≤ Ln) (hm2 : m ≤ 3072) (hj : ∀ (L : Shp) (S : Sto) (k n : Nat), Ext L → Iv L.length S → L.length ≤ 147 + m → k ≤ 1000 + m → n ≤ 100000 + 400 * m + 400 → VO g (Y_law nm) G Qf k n 1284 [(0, .ref sb), (1, rf G 0), (2, rf G 104), (3, .int (nI m))] [] L S (some ()) some) {L : Shp} {S : Sto} {k n : Nat} (hL : Ext L) (hv : Iv L.length S) (hlen0 : L.length ≤ 146 + m) (hk0 : k ≤ 999 + m) (hn0 : n ≤ 100000 + 400 * m) : VO g (Y_law nm) G Qf k n 792 [(0, .ref sb), (1, rf G 0), (2, rf G 104), (3, .int (nI m))] [] L S (some ()) some := by
  have hkn : k ≤ (mR (Y_law nm)).cells ∧ n ≤ (mR (Y_law nm)).slots := ⟨by show k ≤ 600000; omega, by show n ≤ 7302249; omega⟩
  obtain ⟨r, S1, S2, e1, e2, hv2⟩ := st_from hv (xs (m + 1))
  refine v_aload_n (pc := 792) C d_law_792 rfl 1 rfl ?_
  refine v_aloadX (pc := 793) C d_law_793 rfl 0 rfl ?_
  refine v_iload_n (pc := 794) C d_law_794 rfl 3 rfl ?_
  refine v_iconst (pc := 795) C d_law_795 ic_1 ?_
  refine v_iadd (pc := 796) C d_law_796 ?_
  refine v_sldx (pc := 797) C hX (nI_add m 1) (by omega) hLn d_law_797 ?_
  refine v_csi (pc := 798) (inv_V (As := [.int (xs (m + 1))]) (st := []) C ml_LAW_86 mv_B_from (ro_law_B_from _) (sh_0 hL) rfl rfl rfl rfl (Nat.le_of_ble_eq_true rfl) d_law_798) (c_B_from hL S (xs (m + 1))) e1 ⟨rfl, rfl⟩ hkn ?_
  refine v_aload_n (pc := 801) C d_law_801 rfl 2 rfl ?_
  refine v_aloadX (pc := 802) C d_law_802 rfl 0 rfl ?_
  refine v_iload_n (pc := 803) C d_law_803 rfl 3 rfl ?_
  refine v_iconst (pc := 804) C d_law_804 ic_1 ?_
  refine v_iadd (pc := 805) C d_law_805 ?_
  refine v_sldx (pc := 806) C hX (nI_add m 1) (by omega) hLn d_law_806 ?_
  refine v_csi (pc := 807) (inv_V (As := [.int (xs (m + 1))]) (st := [.int r]) C ml_LAW_89 mv_M_from (ro_law_M_from _) (sh_104 hL) rfl rfl rfl rfl (Nat.le_of_ble_eq_true rfl) d_law_807) (c_M_from hL S1 (xs (m + 1))) e2 ⟨rfl, rfl⟩ hkn ?_
  refine v_icmp_eq_t (pc := 810) C d_law_810 1284 rfl rfl ?_
  exact hj L S2 k n hL hv2 (by omega) (by omega) (by omega)
set_option maxHeartbeats 4000000 in
set_option maxRecDepth 20000 in
theorem lc_click {g : Gm} {G : Gl} {nm : String} {sb Ln : Nat} {xs : Nat → Int32} (C : Cx g (Y_law nm) G) (hX : va_X sb Ln xs (g_s g) (g_s g).heap ∧ sb < gB G ∧ gB G ≤ (g_s g).heap.size) (hLn : Ln < 2 ^ 31) {Qf : Unit → State → Prop} {m : Nat} (hm : m + 6 ≤ Ln) (hm2 : m ≤ 3072) (hj : ∀ (L : Shp) (S : Sto) (k n : Nat), Ext L → Iv L.length S → L.length ≤ 147 + m → k ≤ 1000 + m → n ≤ 100000 + 400 * m + 400 → VO g (Y_law nm) G Qf k n 1284 [(0, .ref sb), (1, rf G 0), (2, rf G 104), (3, .int (nI m))] [] L S (some ()) some) {L : Shp} {S : Sto} {k n : Nat} (hL : Ext L) (hv : Iv L.length S) (hlen0 : L.length ≤ 146 + m) (hk0 : k ≤ 999 + m) (hn0 : n ≤ 100000 + 400 * m) : VO g (Y_law nm) G Qf k n 815 [(0, .ref sb), (1, rf G 0), (2, rf G 104), (3, .int (nI m))] [] L S (some ()) some := by
  have hkn : k ≤ (mR (Y_law nm)).cells ∧ n ≤ (mR (Y_law nm)).slots := ⟨by show k ≤ 600000; omega, by show n ≤ 7302249; omega⟩
  obtain ⟨r, S1, S2, e1, e2, hv2⟩ := st_click hv (xs (m + 1)) (xs (m + 2))
  refine v_aload_n (pc := 815) C d_law_815 rfl 1 rfl ?_
  refine v_aloadX (pc := 816) C d_law_816 rfl 0 rfl ?_
  refine v_iload_n (pc := 817) C d_law_817 rfl 3 rfl ?_
  refine v_iconst (pc := 818) C d_law_818 ic_1 ?_
  refine v_iadd (pc := 819) C d_law_819 ?_
  refine v_sldx (pc := 820) C hX (nI_add m 1) (by omega) hLn d_law_820 ?_
  refine v_aloadX (pc := 821) C d_law_821 rfl 0 rfl ?_
  refine v_iload_n (pc := 822) C d_law_822 rfl 3 rfl ?_
  refine v_iconst (pc := 823) C d_law_823 ic_2 ?_
  refine v_iadd (pc := 824) C d_law_824 ?_
  refine v_sldx (pc := 825) C hX (nI_add m 2) (by omega) hLn d_law_825 ?_
  refine v_csi (pc := 826) (inv_V (As := [.int (xs (m + 1)), .int (xs (m + 2))]) (st := []) C ml_LAW_90 mv_B_click (ro_law_B_click _) (sh_0 hL) rfl rfl rfl rfl (Nat.le_of_ble_eq_true rfl) d_law_826) (c_B_click hL S (xs (m + 1)) (xs (m + 2))) e1 ⟨rfl, rfl⟩ hkn ?_
  refine v_aload_n (pc := 829) C d_law_829 rfl 2 rfl ?_
  refine v_aloadX (pc := 830) C d_law_830 rfl 0 rfl ?_
  refine v_iload_n (pc := 831) C d_law_831 rfl 3 rfl ?_
  refine v_iconst (pc := 832) C d_law_832 ic_1 ?_
  refine v_iadd (pc := 833) C d_law_833 ?_
  refine v_sldx (pc := 834) C hX (nI_add m 1) (by omega) hLn d_law_834 ?_
  refine v_aloadX (pc := 835) C d_law_835 rfl 0 rfl ?_
  refine v_iload_n (pc := 836) C d_law_836 rfl 3 rfl ?_
  refine v_iconst (pc := 837) C d_law_837 ic_2 ?_
  refine v_iadd (pc := 838) C d_law_838 ?_
  refine v_sldx (pc := 839) C hX (nI_add m 2) (by omega) hLn d_law_839 ?_
  refine v_csi (pc := 840) (inv_V (As := [.int (xs (m + 1)), .int (xs (m + 2))]) (st := [.int r]) C ml_LAW_93 mv_M_click (ro_law_M_click _) (sh_104 hL) rfl rfl rfl rfl (Nat.le_of_ble_eq_true rfl) d_law_840) (c_M_click hL S1 (xs (m + 1)) (xs (m + 2))) e2 ⟨rfl, rfl⟩ hkn ?_
  refine v_icmp_eq_t (pc := 843) C d_law_843 1284 rfl rfl ?_
  exact hj L S2 k n hL hv2 (by omega) (by omega) (by omega)
set_option maxHeartbeats 4000000 in
set_option maxRecDepth 20000 in
theorem lc_fits {g : Gm} {G : Gl} {nm : String} {sb Ln : Nat} {xs : Nat → Int32} (C : Cx g (Y_law nm) G) (hX : va_X sb Ln xs (g_s g) (g_s g).heap ∧ sb < gB G ∧ gB G ≤ (g_s g).heap.size) (hLn : Ln < 2 ^ 31) {Qf : Unit → State → Prop} {m : Nat} (hm : m + 6 ≤ Ln) (hm2 : m ≤ 3072) (hj : ∀ (L : Shp) (S : Sto) (k n : Nat), Ext L → Iv L.length S → L.length ≤ 147 + m → k ≤ 1000 + m → n ≤ 100000 + 400 * m + 400 → VO g (Y_law nm) G Qf k n 1284 [(0, .ref sb), (1, rf G 0), (2, rf G 104), (3, .int (nI m))] [] L S (some ()) some) {L : Shp} {S : Sto} {k n : Nat} (hL : Ext L) (hv : Iv L.length S) (hlen0 : L.length ≤ 146 + m) (hk0 : k ≤ 999 + m) (hn0 : n ≤ 100000 + 400 * m) : VO g (Y_law nm) G Qf k n 848 [(0, .ref sb), (1, rf G 0), (2, rf G 104), (3, .int (nI m))] [] L S (some ()) some := by
  have hkn : k ≤ (mR (Y_law nm)).cells ∧ n ≤ (mR (Y_law nm)).slots := ⟨by show k ≤ 600000; omega, by show n ≤ 7302249; omega⟩
  obtain ⟨r, S1, S2, e1, e2, hv2⟩ := st_fits hv (xs (m + 1)) (xs (m + 2)) (xs (m + 3)) (xs (m + 4))
  refine v_aload_n (pc := 848) C d_law_848 rfl 1 rfl ?_
  refine v_aloadX (pc := 849) C d_law_849 rfl 0 rfl ?_
  refine v_iload_n (pc := 850) C d_law_850 rfl 3 rfl ?_
  refine v_iconst (pc := 851) C d_law_851 ic_1 ?_
  refine v_iadd (pc := 852) C d_law_852 ?_
  refine v_sldx (pc := 853) C hX (nI_add m 1) (by omega) hLn d_law_853 ?_
  refine v_aloadX (pc := 854) C d_law_854 rfl 0 rfl ?_
  refine v_iload_n (pc := 855) C d_law_855 rfl 3 rfl ?_
  refine v_iconst (pc := 856) C d_law_856 ic_2 ?_
  refine v_iadd (pc := 857) C d_law_857 ?_
  refine v_sldx (pc := 858) C hX (nI_add m 2) (by omega) hLn d_law_858 ?_
  refine v_aloadX (pc := 859) C d_law_859 rfl 0 rfl ?_
  refine v_iload_n (pc := 860) C d_law_860 rfl 3 rfl ?_
  refine v_iconst (pc := 861) C d_law_861 ic_3 ?_
  refine v_iadd (pc := 862) C d_law_862 ?_
  refine v_sldx (pc := 863) C hX (nI_add m 3) (by omega) hLn d_law_863 ?_
  refine v_aloadX (pc := 864) C d_law_864 rfl 0 rfl ?_
  refine v_iload_n (pc := 865) C d_law_865 rfl 3 rfl ?_
  refine v_iconst (pc := 866) C d_law_866 ic_4 ?_
  refine v_iadd (pc := 867) C d_law_867 ?_
  refine v_sldx (pc := 868) C hX (nI_add m 4) (by omega) hLn d_law_868 ?_
  refine v_csi (pc := 869) (inv_V (As := [.int (xs (m + 1)), .int (xs (m + 2)), .int (xs (m + 3)), .int (xs (m + 4))]) (st := []) C ml_LAW_94 mv_B_fits (ro_law_B_fits _) (sh_0 hL) rfl rfl rfl rfl (Nat.le_of_ble_eq_true rfl) d_law_869) (c_B_fits hL S (xs (m + 1)) (xs (m + 2)) (xs (m + 3)) (xs (m + 4))) e1 ⟨rfl, rfl⟩ hkn ?_
  refine v_aload_n (pc := 872) C d_law_872 rfl 2 rfl ?_
  refine v_aloadX (pc := 873) C d_law_873 rfl 0 rfl ?_
  refine v_iload_n (pc := 874) C d_law_874 rfl 3 rfl ?_
  refine v_iconst (pc := 875) C d_law_875 ic_1 ?_
  refine v_iadd (pc := 876) C d_law_876 ?_
  refine v_sldx (pc := 877) C hX (nI_add m 1) (by omega) hLn d_law_877 ?_
  refine v_aloadX (pc := 878) C d_law_878 rfl 0 rfl ?_
  refine v_iload_n (pc := 879) C d_law_879 rfl 3 rfl ?_
  refine v_iconst (pc := 880) C d_law_880 ic_2 ?_
  refine v_iadd (pc := 881) C d_law_881 ?_
  refine v_sldx (pc := 882) C hX (nI_add m 2) (by omega) hLn d_law_882 ?_
  refine v_aloadX (pc := 883) C d_law_883 rfl 0 rfl ?_
  refine v_iload_n (pc := 884) C d_law_884 rfl 3 rfl ?_
  refine v_iconst (pc := 885) C d_law_885 ic_3 ?_
  refine v_iadd (pc := 886) C d_law_886 ?_
  refine v_sldx (pc := 887) C hX (nI_add m 3) (by omega) hLn d_law_887 ?_
  refine v_aloadX (pc := 888) C d_law_888 rfl 0 rfl ?_
  refine v_iload_n (pc := 889) C d_law_889 rfl 3 rfl ?_
  refine v_iconst (pc := 890) C d_law_890 ic_4 ?_
  refine v_iadd (pc := 891) C d_law_891 ?_
  refine v_sldx (pc := 892) C hX (nI_add m 4) (by omega) hLn d_law_892 ?_
  refine v_csi (pc := 893) (inv_V (As := [.int (xs (m + 1)), .int (xs (m + 2)), .int (xs (m + 3)), .int (xs (m + 4))]) (st := [.int r]) C ml_LAW_97 mv_M_fits (ro_law_M_fits _) (sh_104 hL) rfl rfl rfl rfl (Nat.le_of_ble_eq_true rfl) d_law_893) (c_M_fits hL S1 (xs (m + 1)) (xs (m + 2)) (xs (m + 3)) (xs (m + 4))) e2 ⟨rfl, rfl⟩ hkn ?_
  refine v_icmp_eq_t (pc := 896) C d_law_896 1284 rfl rfl ?_
  exact hj L S2 k n hL hv2 (by omega) (by omega) (by omega)
set_option maxHeartbeats 4000000 in
set_option maxRecDepth 20000 in
theorem lc_couple {g : Gm} {G : Gl} {nm : String} {sb Ln : Nat} {xs : Nat → Int32} (C : Cx g (Y_law nm) G) (hX : va_X sb Ln xs (g_s g) (g_s g).heap ∧ sb < gB G ∧ gB G ≤ (g_s g).heap.size) (hLn : Ln < 2 ^ 31) {Qf : Unit → State → Prop} {m : Nat} (hm : m + 6 ≤ Ln) (hm2 : m ≤ 3072) (hj : ∀ (L : Shp) (S : Sto) (k n : Nat), Ext L → Iv L.length S → L.length ≤ 147 + m → k ≤ 1000 + m → n ≤ 100000 + 400 * m + 400 → VO g (Y_law nm) G Qf k n 1284 [(0, .ref sb), (1, rf G 0), (2, rf G 104), (3, .int (nI m))] [] L S (some ()) some) {L : Shp} {S : Sto} {k n : Nat} (hL : Ext L) (hv : Iv L.length S) (hlen0 : L.length ≤ 146 + m) (hk0 : k ≤ 999 + m) (hn0 : n ≤ 100000 + 400 * m) : VO g (Y_law nm) G Qf k n 901 [(0, .ref sb), (1, rf G 0), (2, rf G 104), (3, .int (nI m))] [] L S (some ()) some := by
  have hkn : k ≤ (mR (Y_law nm)).cells ∧ n ≤ (mR (Y_law nm)).slots := ⟨by show k ≤ 600000; omega, by show n ≤ 7302249; omega⟩
  obtain ⟨r, S1, S2, e1, e2, hv2⟩ := st_couple hv (xs (m + 1)) (xs (m + 2))
  refine v_aload_n (pc := 901) C d_law_901 rfl 1 rfl ?_
  refine v_aloadX (pc := 902) C d_law_902 rfl 0 rfl ?_
  refine v_iload_n (pc := 903) C d_law_903 rfl 3 rfl ?_
  refine v_iconst (pc := 904) C d_law_904 ic_1 ?_
  refine v_iadd (pc := 905) C d_law_905 ?_
  refine v_sldx (pc := 906) C hX (nI_add m 1) (by omega) hLn d_law_906 ?_
  refine v_aloadX (pc := 907) C d_law_907 rfl 0 rfl ?_
  refine v_iload_n (pc := 908) C d_law_908 rfl 3 rfl ?_
  refine v_iconst (pc := 909) C d_law_909 ic_2 ?_
  refine v_iadd (pc := 910) C d_law_910 ?_
  refine v_sldx (pc := 911) C hX (nI_add m 2) (by omega) hLn d_law_911 ?_
  refine v_csi (pc := 912) (inv_V (As := [.int (xs (m + 1)), .int (xs (m + 2))]) (st := []) C ml_LAW_98 mv_B_couple (ro_law_B_couple _) (sh_0 hL) rfl rfl rfl rfl (Nat.le_of_ble_eq_true rfl) d_law_912) (c_B_couple hL S (xs (m + 1)) (xs (m + 2))) e1 ⟨rfl, rfl⟩ hkn ?_
  refine v_aload_n (pc := 915) C d_law_915 rfl 2 rfl ?_
  refine v_aloadX (pc := 916) C d_law_916 rfl 0 rfl ?_
  refine v_iload_n (pc := 917) C d_law_917 rfl 3 rfl ?_
  refine v_iconst (pc := 918) C d_law_918 ic_1 ?_
  refine v_iadd (pc := 919) C d_law_919 ?_
  refine v_sldx (pc := 920) C hX (nI_add m 1) (by omega) hLn d_law_920 ?_
  refine v_aloadX (pc := 921) C d_law_921 rfl 0 rfl ?_
  refine v_iload_n (pc := 922) C d_law_922 rfl 3 rfl ?_
  refine v_iconst (pc := 923) C d_law_923 ic_2 ?_
  refine v_iadd (pc := 924) C d_law_924 ?_
  refine v_sldx (pc := 925) C hX (nI_add m 2) (by omega) hLn d_law_925 ?_
  refine v_csi (pc := 926) (inv_V (As := [.int (xs (m + 1)), .int (xs (m + 2))]) (st := [.int r]) C ml_LAW_101 mv_M_couple (ro_law_M_couple _) (sh_104 hL) rfl rfl rfl rfl (Nat.le_of_ble_eq_true rfl) d_law_926) (c_M_couple hL S1 (xs (m + 1)) (xs (m + 2))) e2 ⟨rfl, rfl⟩ hkn ?_
  refine v_icmp_eq_t (pc := 929) C d_law_929 1284 rfl rfl ?_
  exact hj L S2 k n hL hv2 (by omega) (by omega) (by omega)
set_option maxHeartbeats 4000000 in
set_option maxRecDepth 20000 in
theorem lc_must {g : Gm} {G : Gl} {nm : String} {sb Ln : Nat} {xs : Nat → Int32} (C : Cx g (Y_law nm) G) (hX : va_X sb Ln xs (g_s g) (g_s g).heap ∧ sb < gB G ∧ gB G ≤ (g_s g).heap.size) (hLn : Ln < 2 ^ 31) {Qf : Unit → State → Prop} {m : Nat} (hm : m + 6 ≤ Ln) (hm2 : m ≤ 3072) (hj : ∀ (L : Shp) (S : Sto) (k n : Nat), Ext L → Iv L.length S → L.length ≤ 147 + m → k ≤ 1000 + m → n ≤ 100000 + 400 * m + 400 → VO g (Y_law nm) G Qf k n 1284 [(0, .ref sb), (1, rf G 0), (2, rf G 104), (3, .int (nI m))] [] L S (some ()) some) {L : Shp} {S : Sto} {k n : Nat} (hL : Ext L) (hv : Iv L.length S) (hlen0 : L.length ≤ 146 + m) (hk0 : k ≤ 999 + m) (hn0 : n ≤ 100000 + 400 * m) : VO g (Y_law nm) G Qf k n 934 [(0, .ref sb), (1, rf G 0), (2, rf G 104), (3, .int (nI m))] [] L S (some ()) some := by
  have hkn : k ≤ (mR (Y_law nm)).cells ∧ n ≤ (mR (Y_law nm)).slots := ⟨by show k ≤ 600000; omega, by show n ≤ 7302249; omega⟩
  obtain ⟨r, S1, S2, e1, e2, hv2⟩ := st_must hv (xs (m + 1)) (xs (m + 2)) (xs (m + 3))
  refine v_aload_n (pc := 934) C d_law_934 rfl 1 rfl ?_
  refine v_aloadX (pc := 935) C d_law_935 rfl 0 rfl ?_
  refine v_iload_n (pc := 936) C d_law_936 rfl 3 rfl ?_
  refine v_iconst (pc := 937) C d_law_937 ic_1 ?_
  refine v_iadd (pc := 938) C d_law_938 ?_
  refine v_sldx (pc := 939) C hX (nI_add m 1) (by omega) hLn d_law_939 ?_
  refine v_aloadX (pc := 940) C d_law_940 rfl 0 rfl ?_
  refine v_iload_n (pc := 941) C d_law_941 rfl 3 rfl ?_
  refine v_iconst (pc := 942) C d_law_942 ic_2 ?_
  refine v_iadd (pc := 943) C d_law_943 ?_
  refine v_sldx (pc := 944) C hX (nI_add m 2) (by omega) hLn d_law_944 ?_
  refine v_aloadX (pc := 945) C d_law_945 rfl 0 rfl ?_
  refine v_iload_n (pc := 946) C d_law_946 rfl 3 rfl ?_
  refine v_iconst (pc := 947) C d_law_947 ic_3 ?_
  refine v_iadd (pc := 948) C d_law_948 ?_
  refine v_sldx (pc := 949) C hX (nI_add m 3) (by omega) hLn d_law_949 ?_
  refine v_csi (pc := 950) (inv_V (As := [.int (xs (m + 1)), .int (xs (m + 2)), .int (xs (m + 3))]) (st := []) C ml_LAW_102 mv_B_must (ro_law_B_must _) (sh_0 hL) rfl rfl rfl rfl (Nat.le_of_ble_eq_true rfl) d_law_950) (c_B_must hL S (xs (m + 1)) (xs (m + 2)) (xs (m + 3))) e1 ⟨rfl, rfl⟩ hkn ?_
  refine v_aload_n (pc := 953) C d_law_953 rfl 2 rfl ?_
  refine v_aloadX (pc := 954) C d_law_954 rfl 0 rfl ?_
  refine v_iload_n (pc := 955) C d_law_955 rfl 3 rfl ?_
  refine v_iconst (pc := 956) C d_law_956 ic_1 ?_
  refine v_iadd (pc := 957) C d_law_957 ?_
  refine v_sldx (pc := 958) C hX (nI_add m 1) (by omega) hLn d_law_958 ?_
  refine v_aloadX (pc := 959) C d_law_959 rfl 0 rfl ?_
  refine v_iload_n (pc := 960) C d_law_960 rfl 3 rfl ?_
  refine v_iconst (pc := 961) C d_law_961 ic_2 ?_
  refine v_iadd (pc := 962) C d_law_962 ?_
  refine v_sldx (pc := 963) C hX (nI_add m 2) (by omega) hLn d_law_963 ?_
  refine v_aloadX (pc := 964) C d_law_964 rfl 0 rfl ?_
  refine v_iload_n (pc := 965) C d_law_965 rfl 3 rfl ?_
  refine v_iconst (pc := 966) C d_law_966 ic_3 ?_
  refine v_iadd (pc := 967) C d_law_967 ?_
  refine v_sldx (pc := 968) C hX (nI_add m 3) (by omega) hLn d_law_968 ?_
  refine v_csi (pc := 969) (inv_V (As := [.int (xs (m + 1)), .int (xs (m + 2)), .int (xs (m + 3))]) (st := [.int r]) C ml_LAW_105 mv_M_must (ro_law_M_must _) (sh_104 hL) rfl rfl rfl rfl (Nat.le_of_ble_eq_true rfl) d_law_969) (c_M_must hL S1 (xs (m + 1)) (xs (m + 2)) (xs (m + 3))) e2 ⟨rfl, rfl⟩ hkn ?_
  refine v_icmp_eq_t (pc := 972) C d_law_972 1284 rfl rfl ?_
  exact hj L S2 k n hL hv2 (by omega) (by omega) (by omega)
set_option maxHeartbeats 4000000 in
set_option maxRecDepth 20000 in
theorem lc_voice {g : Gm} {G : Gl} {nm : String} {sb Ln : Nat} {xs : Nat → Int32} (C : Cx g (Y_law nm) G) (hX : va_X sb Ln xs (g_s g) (g_s g).heap ∧ sb < gB G ∧ gB G ≤ (g_s g).heap.size) (hLn : Ln < 2 ^ 31) {Qf : Unit → State → Prop} {m : Nat} (hm : m + 6 ≤ Ln) (hm2 : m ≤ 3072) (hj : ∀ (L : Shp) (S : Sto) (k n : Nat), Ext L → Iv L.length S → L.length ≤ 147 + m → k ≤ 1000 + m → n ≤ 100000 + 400 * m + 400 → VO g (Y_law nm) G Qf k n 1284 [(0, .ref sb), (1, rf G 0), (2, rf G 104), (3, .int (nI m))] [] L S (some ()) some) {L : Shp} {S : Sto} {k n : Nat} (hL : Ext L) (hv : Iv L.length S) (hlen0 : L.length ≤ 146 + m) (hk0 : k ≤ 999 + m) (hn0 : n ≤ 100000 + 400 * m) : VO g (Y_law nm) G Qf k n 977 [(0, .ref sb), (1, rf G 0), (2, rf G 104), (3, .int (nI m))] [] L S (some ()) some := by
  have hkn : k ≤ (mR (Y_law nm)).cells ∧ n ≤ (mR (Y_law nm)).slots := ⟨by show k ≤ 600000; omega, by show n ≤ 7302249; omega⟩
  obtain ⟨r, S1, S2, e1, e2, hv2⟩ := st_voice hv (xs (m + 1)) (xs (m + 2)) (xs (m + 3)) (xs (m + 4))
  refine v_aload_n (pc := 977) C d_law_977 rfl 1 rfl ?_
  refine v_aloadX (pc := 978) C d_law_978 rfl 0 rfl ?_
  refine v_iload_n (pc := 979) C d_law_979 rfl 3 rfl ?_
  refine v_iconst (pc := 980) C d_law_980 ic_1 ?_
  refine v_iadd (pc := 981) C d_law_981 ?_
  refine v_sldx (pc := 982) C hX (nI_add m 1) (by omega) hLn d_law_982 ?_
  refine v_aloadX (pc := 983) C d_law_983 rfl 0 rfl ?_
  refine v_iload_n (pc := 984) C d_law_984 rfl 3 rfl ?_
  refine v_iconst (pc := 985) C d_law_985 ic_2 ?_
  refine v_iadd (pc := 986) C d_law_986 ?_
  refine v_sldx (pc := 987) C hX (nI_add m 2) (by omega) hLn d_law_987 ?_
  refine v_aloadX (pc := 988) C d_law_988 rfl 0 rfl ?_
  refine v_iload_n (pc := 989) C d_law_989 rfl 3 rfl ?_
  refine v_iconst (pc := 990) C d_law_990 ic_3 ?_
  refine v_iadd (pc := 991) C d_law_991 ?_
  refine v_sldx (pc := 992) C hX (nI_add m 3) (by omega) hLn d_law_992 ?_
  refine v_aloadX (pc := 993) C d_law_993 rfl 0 rfl ?_
  refine v_iload_n (pc := 994) C d_law_994 rfl 3 rfl ?_
  refine v_iconst (pc := 995) C d_law_995 ic_4 ?_
  refine v_iadd (pc := 996) C d_law_996 ?_
  refine v_sldx (pc := 997) C hX (nI_add m 4) (by omega) hLn d_law_997 ?_
  refine v_csi (pc := 998) (inv_V (As := [.int (xs (m + 1)), .int (xs (m + 2)), .int (xs (m + 3)), .int (xs (m + 4))]) (st := []) C ml_LAW_106 mv_B_voice (ro_law_B_voice _) (sh_0 hL) rfl rfl rfl rfl (Nat.le_of_ble_eq_true rfl) d_law_998) (c_B_voice hL S (xs (m + 1)) (xs (m + 2)) (xs (m + 3)) (xs (m + 4))) e1 ⟨rfl, rfl⟩ hkn ?_
  refine v_aload_n (pc := 1001) C d_law_1001 rfl 2 rfl ?_
  refine v_aloadX (pc := 1002) C d_law_1002 rfl 0 rfl ?_
  refine v_iload_n (pc := 1003) C d_law_1003 rfl 3 rfl ?_
  refine v_iconst (pc := 1004) C d_law_1004 ic_1 ?_
  refine v_iadd (pc := 1005) C d_law_1005 ?_
  refine v_sldx (pc := 1006) C hX (nI_add m 1) (by omega) hLn d_law_1006 ?_
  refine v_aloadX (pc := 1007) C d_law_1007 rfl 0 rfl ?_
  refine v_iload_n (pc := 1008) C d_law_1008 rfl 3 rfl ?_
  refine v_iconst (pc := 1009) C d_law_1009 ic_2 ?_
  refine v_iadd (pc := 1010) C d_law_1010 ?_
  refine v_sldx (pc := 1011) C hX (nI_add m 2) (by omega) hLn d_law_1011 ?_
  refine v_aloadX (pc := 1012) C d_law_1012 rfl 0 rfl ?_
  refine v_iload_n (pc := 1013) C d_law_1013 rfl 3 rfl ?_
  refine v_iconst (pc := 1014) C d_law_1014 ic_3 ?_
  refine v_iadd (pc := 1015) C d_law_1015 ?_
  refine v_sldx (pc := 1016) C hX (nI_add m 3) (by omega) hLn d_law_1016 ?_
  refine v_aloadX (pc := 1017) C d_law_1017 rfl 0 rfl ?_
  refine v_iload_n (pc := 1018) C d_law_1018 rfl 3 rfl ?_
  refine v_iconst (pc := 1019) C d_law_1019 ic_4 ?_
  refine v_iadd (pc := 1020) C d_law_1020 ?_
  refine v_sldx (pc := 1021) C hX (nI_add m 4) (by omega) hLn d_law_1021 ?_
  refine v_csi (pc := 1022) (inv_V (As := [.int (xs (m + 1)), .int (xs (m + 2)), .int (xs (m + 3)), .int (xs (m + 4))]) (st := [.int r]) C ml_LAW_109 mv_M_voice (ro_law_M_voice _) (sh_104 hL) rfl rfl rfl rfl (Nat.le_of_ble_eq_true rfl) d_law_1022) (c_M_voice hL S1 (xs (m + 1)) (xs (m + 2)) (xs (m + 3)) (xs (m + 4))) e2 ⟨rfl, rfl⟩ hkn ?_
  refine v_icmp_eq_t (pc := 1025) C d_law_1025 1284 rfl rfl ?_
  exact hj L S2 k n hL hv2 (by omega) (by omega) (by omega)
set_option maxHeartbeats 4000000 in
set_option maxRecDepth 20000 in
theorem lc_over {g : Gm} {G : Gl} {nm : String} {sb Ln : Nat} {xs : Nat → Int32} (C : Cx g (Y_law nm) G) (hX : va_X sb Ln xs (g_s g) (g_s g).heap ∧ sb < gB G ∧ gB G ≤ (g_s g).heap.size) (hLn : Ln < 2 ^ 31) {Qf : Unit → State → Prop} {m : Nat} (hm : m + 6 ≤ Ln) (hm2 : m ≤ 3072) (hj : ∀ (L : Shp) (S : Sto) (k n : Nat), Ext L → Iv L.length S → L.length ≤ 147 + m → k ≤ 1000 + m → n ≤ 100000 + 400 * m + 400 → VO g (Y_law nm) G Qf k n 1284 [(0, .ref sb), (1, rf G 0), (2, rf G 104), (3, .int (nI m))] [] L S (some ()) some) {L : Shp} {S : Sto} {k n : Nat} (hL : Ext L) (hv : Iv L.length S) (hlen0 : L.length ≤ 146 + m) (hk0 : k ≤ 999 + m) (hn0 : n ≤ 100000 + 400 * m) : VO g (Y_law nm) G Qf k n 1030 [(0, .ref sb), (1, rf G 0), (2, rf G 104), (3, .int (nI m))] [] L S (some ()) some := by
  have hkn : k ≤ (mR (Y_law nm)).cells ∧ n ≤ (mR (Y_law nm)).slots := ⟨by show k ≤ 600000; omega, by show n ≤ 7302249; omega⟩
  obtain ⟨r, S2, e1, e2, hv2⟩ := st_over hv (xs (m + 1)) (xs (m + 2))
  refine v_aload_n (pc := 1030) C d_law_1030 rfl 1 rfl ?_
  refine v_aloadX (pc := 1031) C d_law_1031 rfl 0 rfl ?_
  refine v_iload_n (pc := 1032) C d_law_1032 rfl 3 rfl ?_
  refine v_iconst (pc := 1033) C d_law_1033 ic_1 ?_
  refine v_iadd (pc := 1034) C d_law_1034 ?_
  refine v_sldx (pc := 1035) C hX (nI_add m 1) (by omega) hLn d_law_1035 ?_
  refine v_aloadX (pc := 1036) C d_law_1036 rfl 0 rfl ?_
  refine v_iload_n (pc := 1037) C d_law_1037 rfl 3 rfl ?_
  refine v_iconst (pc := 1038) C d_law_1038 ic_2 ?_
  refine v_iadd (pc := 1039) C d_law_1039 ?_
  refine v_sldx (pc := 1040) C hX (nI_add m 2) (by omega) hLn d_law_1040 ?_
  refine v_csp (pc := 1041) (inv_V (As := [.int (xs (m + 1)), .int (xs (m + 2))]) (st := []) C ml_LAW_110 mv_B_over (ro_law_B_over _) (sh_0 hL) rfl rfl rfl rfl (Nat.le_of_ble_eq_true rfl) d_law_1041) (c_B_over hL S (xs (m + 1)) (xs (m + 2))) e1 ⟨rfl, rfl⟩ hkn ?_
  refine v_aload_n (pc := 1044) C d_law_1044 rfl 2 rfl ?_
  refine v_aloadX (pc := 1045) C d_law_1045 rfl 0 rfl ?_
  refine v_iload_n (pc := 1046) C d_law_1046 rfl 3 rfl ?_
  refine v_iconst (pc := 1047) C d_law_1047 ic_1 ?_
  refine v_iadd (pc := 1048) C d_law_1048 ?_
  refine v_sldx (pc := 1049) C hX (nI_add m 1) (by omega) hLn d_law_1049 ?_
  refine v_aloadX (pc := 1050) C d_law_1050 rfl 0 rfl ?_
  refine v_iload_n (pc := 1051) C d_law_1051 rfl 3 rfl ?_
  refine v_iconst (pc := 1052) C d_law_1052 ic_2 ?_
  refine v_iadd (pc := 1053) C d_law_1053 ?_
  refine v_sldx (pc := 1054) C hX (nI_add m 2) (by omega) hLn d_law_1054 ?_
  refine v_csi (pc := 1055) (inv_V (As := [.int (xs (m + 1)), .int (xs (m + 2))]) (st := [.int r]) C ml_LAW_113 mv_M_over (ro_law_M_over _) (sh_104 hL) rfl rfl rfl rfl (Nat.le_of_ble_eq_true rfl) d_law_1055) (c_M_over hL S (xs (m + 1)) (xs (m + 2))) e2 ⟨rfl, rfl⟩ hkn ?_
  refine v_icmp_eq_t (pc := 1058) C d_law_1058 1284 rfl rfl ?_
  exact hj L S2 k n hL hv2 (by omega) (by omega) (by omega)
set_option maxHeartbeats 4000000 in
set_option maxRecDepth 20000 in
theorem lc_noise {g : Gm} {G : Gl} {nm : String} {sb Ln : Nat} {xs : Nat → Int32} (C : Cx g (Y_law nm) G) (hX : va_X sb Ln xs (g_s g) (g_s g).heap ∧ sb < gB G ∧ gB G ≤ (g_s g).heap.size) (hLn : Ln < 2 ^ 31) {Qf : Unit → State → Prop} {m : Nat} (hm : m + 6 ≤ Ln) (hm2 : m ≤ 3072) (hj : ∀ (L : Shp) (S : Sto) (k n : Nat), Ext L → Iv L.length S → L.length ≤ 147 + m → k ≤ 1000 + m → n ≤ 100000 + 400 * m + 400 → VO g (Y_law nm) G Qf k n 1284 [(0, .ref sb), (1, rf G 0), (2, rf G 104), (3, .int (nI m))] [] L S (some ()) some) {L : Shp} {S : Sto} {k n : Nat} (hL : Ext L) (hv : Iv L.length S) (hlen0 : L.length ≤ 146 + m) (hk0 : k ≤ 999 + m) (hn0 : n ≤ 100000 + 400 * m) : VO g (Y_law nm) G Qf k n 1063 [(0, .ref sb), (1, rf G 0), (2, rf G 104), (3, .int (nI m))] [] L S (some ()) some := by
  have hkn : k ≤ (mR (Y_law nm)).cells ∧ n ≤ (mR (Y_law nm)).slots := ⟨by show k ≤ 600000; omega, by show n ≤ 7302249; omega⟩
  obtain ⟨r, S1, S2, e1, e2, hv2⟩ := st_noise hv (xs (m + 1)) (xs (m + 2)) (xs (m + 3)) (xs (m + 4))
  refine v_aload_n (pc := 1063) C d_law_1063 rfl 1 rfl ?_
  refine v_aloadX (pc := 1064) C d_law_1064 rfl 0 rfl ?_
  refine v_iload_n (pc := 1065) C d_law_1065 rfl 3 rfl ?_
  refine v_iconst (pc := 1066) C d_law_1066 ic_1 ?_
  refine v_iadd (pc := 1067) C d_law_1067 ?_
  refine v_sldx (pc := 1068) C hX (nI_add m 1) (by omega) hLn d_law_1068 ?_
  refine v_aloadX (pc := 1069) C d_law_1069 rfl 0 rfl ?_
  refine v_iload_n (pc := 1070) C d_law_1070 rfl 3 rfl ?_
  refine v_iconst (pc := 1071) C d_law_1071 ic_2 ?_
  refine v_iadd (pc := 1072) C d_law_1072 ?_
  refine v_sldx (pc := 1073) C hX (nI_add m 2) (by omega) hLn d_law_1073 ?_
  refine v_aloadX (pc := 1074) C d_law_1074 rfl 0 rfl ?_
  refine v_iload_n (pc := 1075) C d_law_1075 rfl 3 rfl ?_
  refine v_iconst (pc := 1076) C d_law_1076 ic_3 ?_
  refine v_iadd (pc := 1077) C d_law_1077 ?_
  refine v_sldx (pc := 1078) C hX (nI_add m 3) (by omega) hLn d_law_1078 ?_
  refine v_aloadX (pc := 1079) C d_law_1079 rfl 0 rfl ?_
  refine v_iload_n (pc := 1080) C d_law_1080 rfl 3 rfl ?_
  refine v_iconst (pc := 1081) C d_law_1081 ic_4 ?_
  refine v_iadd (pc := 1082) C d_law_1082 ?_
  refine v_sldx (pc := 1083) C hX (nI_add m 4) (by omega) hLn d_law_1083 ?_
  refine v_csi (pc := 1084) (inv_V (As := [.int (xs (m + 1)), .int (xs (m + 2)), .int (xs (m + 3)), .int (xs (m + 4))]) (st := []) C ml_LAW_114 mv_B_noise (ro_law_B_noise _) (sh_0 hL) rfl rfl rfl rfl (Nat.le_of_ble_eq_true rfl) d_law_1084) (c_B_noise hL S (xs (m + 1)) (xs (m + 2)) (xs (m + 3)) (xs (m + 4))) e1 ⟨rfl, rfl⟩ hkn ?_
  refine v_aload_n (pc := 1087) C d_law_1087 rfl 2 rfl ?_
  refine v_aloadX (pc := 1088) C d_law_1088 rfl 0 rfl ?_
  refine v_iload_n (pc := 1089) C d_law_1089 rfl 3 rfl ?_
  refine v_iconst (pc := 1090) C d_law_1090 ic_1 ?_
  refine v_iadd (pc := 1091) C d_law_1091 ?_
  refine v_sldx (pc := 1092) C hX (nI_add m 1) (by omega) hLn d_law_1092 ?_
  refine v_aloadX (pc := 1093) C d_law_1093 rfl 0 rfl ?_
  refine v_iload_n (pc := 1094) C d_law_1094 rfl 3 rfl ?_
  refine v_iconst (pc := 1095) C d_law_1095 ic_2 ?_
  refine v_iadd (pc := 1096) C d_law_1096 ?_
  refine v_sldx (pc := 1097) C hX (nI_add m 2) (by omega) hLn d_law_1097 ?_
  refine v_aloadX (pc := 1098) C d_law_1098 rfl 0 rfl ?_
  refine v_iload_n (pc := 1099) C d_law_1099 rfl 3 rfl ?_
  refine v_iconst (pc := 1100) C d_law_1100 ic_3 ?_
  refine v_iadd (pc := 1101) C d_law_1101 ?_
  refine v_sldx (pc := 1102) C hX (nI_add m 3) (by omega) hLn d_law_1102 ?_
  refine v_aloadX (pc := 1103) C d_law_1103 rfl 0 rfl ?_
  refine v_iload_n (pc := 1104) C d_law_1104 rfl 3 rfl ?_
  refine v_iconst (pc := 1105) C d_law_1105 ic_4 ?_
  refine v_iadd (pc := 1106) C d_law_1106 ?_
  refine v_sldx (pc := 1107) C hX (nI_add m 4) (by omega) hLn d_law_1107 ?_
  refine v_csi (pc := 1108) (inv_V (As := [.int (xs (m + 1)), .int (xs (m + 2)), .int (xs (m + 3)), .int (xs (m + 4))]) (st := [.int r]) C ml_LAW_117 mv_M_noise (ro_law_M_noise _) (sh_104 hL) rfl rfl rfl rfl (Nat.le_of_ble_eq_true rfl) d_law_1108) (c_M_noise hL S1 (xs (m + 1)) (xs (m + 2)) (xs (m + 3)) (xs (m + 4))) e2 ⟨rfl, rfl⟩ hkn ?_
  refine v_icmp_eq_t (pc := 1111) C d_law_1111 1284 rfl rfl ?_
  exact hj L S2 k n hL hv2 (by omega) (by omega) (by omega)
set_option maxHeartbeats 4000000 in
set_option maxRecDepth 20000 in
theorem lc_noises {g : Gm} {G : Gl} {nm : String} {sb Ln : Nat} {xs : Nat → Int32} (C : Cx g (Y_law nm) G) (hX : va_X sb Ln xs (g_s g) (g_s g).heap ∧ sb < gB G ∧ gB G ≤ (g_s g).heap.size) (hLn : Ln < 2 ^ 31) {Qf : Unit → State → Prop} {m : Nat} (hm : m + 6 ≤ Ln) (hm2 : m ≤ 3072) (hj : ∀ (L : Shp) (S : Sto) (k n : Nat), Ext L → Iv L.length S → L.length ≤ 147 + m → k ≤ 1000 + m → n ≤ 100000 + 400 * m + 400 → VO g (Y_law nm) G Qf k n 1284 [(0, .ref sb), (1, rf G 0), (2, rf G 104), (3, .int (nI m))] [] L S (some ()) some) {L : Shp} {S : Sto} {k n : Nat} (hL : Ext L) (hv : Iv L.length S) (hlen0 : L.length ≤ 146 + m) (hk0 : k ≤ 999 + m) (hn0 : n ≤ 100000 + 400 * m) : VO g (Y_law nm) G Qf k n 1116 [(0, .ref sb), (1, rf G 0), (2, rf G 104), (3, .int (nI m))] [] L S (some ()) some := by
  have hkn : k ≤ (mR (Y_law nm)).cells ∧ n ≤ (mR (Y_law nm)).slots := ⟨by show k ≤ 600000; omega, by show n ≤ 7302249; omega⟩
  obtain ⟨r, S1, S2, e1, e2, hv2⟩ := st_noises hv (xs (m + 1))
  refine v_aload_n (pc := 1116) C d_law_1116 rfl 1 rfl ?_
  refine v_aloadX (pc := 1117) C d_law_1117 rfl 0 rfl ?_
  refine v_iload_n (pc := 1118) C d_law_1118 rfl 3 rfl ?_
  refine v_iconst (pc := 1119) C d_law_1119 ic_1 ?_
  refine v_iadd (pc := 1120) C d_law_1120 ?_
  refine v_sldx (pc := 1121) C hX (nI_add m 1) (by omega) hLn d_law_1121 ?_
  refine v_csi (pc := 1122) (inv_V (As := [.int (xs (m + 1))]) (st := []) C ml_LAW_118 mv_B_noises (ro_law_B_noises _) (sh_0 hL) rfl rfl rfl rfl (Nat.le_of_ble_eq_true rfl) d_law_1122) (c_B_noises hL S (xs (m + 1))) e1 ⟨rfl, rfl⟩ hkn ?_
  refine v_aload_n (pc := 1125) C d_law_1125 rfl 2 rfl ?_
  refine v_aloadX (pc := 1126) C d_law_1126 rfl 0 rfl ?_
  refine v_iload_n (pc := 1127) C d_law_1127 rfl 3 rfl ?_
  refine v_iconst (pc := 1128) C d_law_1128 ic_1 ?_
  refine v_iadd (pc := 1129) C d_law_1129 ?_
  refine v_sldx (pc := 1130) C hX (nI_add m 1) (by omega) hLn d_law_1130 ?_
  refine v_csi (pc := 1131) (inv_V (As := [.int (xs (m + 1))]) (st := [.int r]) C ml_LAW_121 mv_M_noises (ro_law_M_noises _) (sh_104 hL) rfl rfl rfl rfl (Nat.le_of_ble_eq_true rfl) d_law_1131) (c_M_noises hL S1 (xs (m + 1))) e2 ⟨rfl, rfl⟩ hkn ?_
  refine v_icmp_eq_t (pc := 1134) C d_law_1134 1284 rfl rfl ?_
  exact hj L S2 k n hL hv2 (by omega) (by omega) (by omega)
set_option maxHeartbeats 4000000 in
set_option maxRecDepth 20000 in
theorem lc_ball {g : Gm} {G : Gl} {nm : String} {sb Ln : Nat} {xs : Nat → Int32} (C : Cx g (Y_law nm) G) (hX : va_X sb Ln xs (g_s g) (g_s g).heap ∧ sb < gB G ∧ gB G ≤ (g_s g).heap.size) (hLn : Ln < 2 ^ 31) {Qf : Unit → State → Prop} {m : Nat} (hm : m + 6 ≤ Ln) (hm2 : m ≤ 3072) (hj : ∀ (L : Shp) (S : Sto) (k n : Nat), Ext L → Iv L.length S → L.length ≤ 147 + m → k ≤ 1000 + m → n ≤ 100000 + 400 * m + 400 → VO g (Y_law nm) G Qf k n 1284 [(0, .ref sb), (1, rf G 0), (2, rf G 104), (3, .int (nI m))] [] L S (some ()) some) {L : Shp} {S : Sto} {k n : Nat} (hL : Ext L) (hv : Iv L.length S) (hlen0 : L.length ≤ 146 + m) (hk0 : k ≤ 999 + m) (hn0 : n ≤ 100000 + 400 * m) : VO g (Y_law nm) G Qf k n 1139 [(0, .ref sb), (1, rf G 0), (2, rf G 104), (3, .int (nI m))] [] L S (some ()) some := by
  have hkn : k ≤ (mR (Y_law nm)).cells ∧ n ≤ (mR (Y_law nm)).slots := ⟨by show k ≤ 600000; omega, by show n ≤ 7302249; omega⟩
  obtain ⟨r, S1, S2, e1, e2, hv2⟩ := st_ball hv (xs (m + 1)) (xs (m + 2))
  refine v_aload_n (pc := 1139) C d_law_1139 rfl 1 rfl ?_
  refine v_aloadX (pc := 1140) C d_law_1140 rfl 0 rfl ?_
  refine v_iload_n (pc := 1141) C d_law_1141 rfl 3 rfl ?_
  refine v_iconst (pc := 1142) C d_law_1142 ic_1 ?_
  refine v_iadd (pc := 1143) C d_law_1143 ?_
  refine v_sldx (pc := 1144) C hX (nI_add m 1) (by omega) hLn d_law_1144 ?_
  refine v_aloadX (pc := 1145) C d_law_1145 rfl 0 rfl ?_
  refine v_iload_n (pc := 1146) C d_law_1146 rfl 3 rfl ?_
  refine v_iconst (pc := 1147) C d_law_1147 ic_2 ?_
  refine v_iadd (pc := 1148) C d_law_1148 ?_
  refine v_sldx (pc := 1149) C hX (nI_add m 2) (by omega) hLn d_law_1149 ?_
  refine v_csi (pc := 1150) (inv_V (As := [.int (xs (m + 1)), .int (xs (m + 2))]) (st := []) C ml_LAW_122 mv_B_ball (ro_law_B_ball _) (sh_0 hL) rfl rfl rfl rfl (Nat.le_of_ble_eq_true rfl) d_law_1150) (c_B_ball hL S (xs (m + 1)) (xs (m + 2))) e1 ⟨rfl, rfl⟩ hkn ?_
  refine v_aload_n (pc := 1153) C d_law_1153 rfl 2 rfl ?_
  refine v_aloadX (pc := 1154) C d_law_1154 rfl 0 rfl ?_
  refine v_iload_n (pc := 1155) C d_law_1155 rfl 3 rfl ?_
  refine v_iconst (pc := 1156) C d_law_1156 ic_1 ?_
  refine v_iadd (pc := 1157) C d_law_1157 ?_
  refine v_sldx (pc := 1158) C hX (nI_add m 1) (by omega) hLn d_law_1158 ?_
  refine v_aloadX (pc := 1159) C d_law_1159 rfl 0 rfl ?_
  refine v_iload_n (pc := 1160) C d_law_1160 rfl 3 rfl ?_
  refine v_iconst (pc := 1161) C d_law_1161 ic_2 ?_
  refine v_iadd (pc := 1162) C d_law_1162 ?_
  refine v_sldx (pc := 1163) C hX (nI_add m 2) (by omega) hLn d_law_1163 ?_
  refine v_csi (pc := 1164) (inv_V (As := [.int (xs (m + 1)), .int (xs (m + 2))]) (st := [.int r]) C ml_LAW_125 mv_M_ball (ro_law_M_ball _) (sh_104 hL) rfl rfl rfl rfl (Nat.le_of_ble_eq_true rfl) d_law_1164) (c_M_ball hL S1 (xs (m + 1)) (xs (m + 2))) e2 ⟨rfl, rfl⟩ hkn ?_
  refine v_icmp_eq_t (pc := 1167) C d_law_1167 1284 rfl rfl ?_
  exact hj L S2 k n hL hv2 (by omega) (by omega) (by omega)
set_option maxHeartbeats 4000000 in
set_option maxRecDepth 20000 in
theorem lc_trials {g : Gm} {G : Gl} {nm : String} {sb Ln : Nat} {xs : Nat → Int32} (C : Cx g (Y_law nm) G) (hX : va_X sb Ln xs (g_s g) (g_s g).heap ∧ sb < gB G ∧ gB G ≤ (g_s g).heap.size) (hLn : Ln < 2 ^ 31) {Qf : Unit → State → Prop} {m : Nat} (hm : m + 6 ≤ Ln) (hm2 : m ≤ 3072) (hj : ∀ (L : Shp) (S : Sto) (k n : Nat), Ext L → Iv L.length S → L.length ≤ 147 + m → k ≤ 1000 + m → n ≤ 100000 + 400 * m + 400 → VO g (Y_law nm) G Qf k n 1284 [(0, .ref sb), (1, rf G 0), (2, rf G 104), (3, .int (nI m))] [] L S (some ()) some) {L : Shp} {S : Sto} {k n : Nat} (hL : Ext L) (hv : Iv L.length S) (hlen0 : L.length ≤ 146 + m) (hk0 : k ≤ 999 + m) (hn0 : n ≤ 100000 + 400 * m) : VO g (Y_law nm) G Qf k n 1172 [(0, .ref sb), (1, rf G 0), (2, rf G 104), (3, .int (nI m))] [] L S (some ()) some := by
  have hkn : k ≤ (mR (Y_law nm)).cells ∧ n ≤ (mR (Y_law nm)).slots := ⟨by show k ≤ 600000; omega, by show n ≤ 7302249; omega⟩
  obtain ⟨r, S1, S2, e1, e2, hv2⟩ := st_trials hv (xs (m + 1))
  refine v_aload_n (pc := 1172) C d_law_1172 rfl 1 rfl ?_
  refine v_aloadX (pc := 1173) C d_law_1173 rfl 0 rfl ?_
  refine v_iload_n (pc := 1174) C d_law_1174 rfl 3 rfl ?_
  refine v_iconst (pc := 1175) C d_law_1175 ic_1 ?_
  refine v_iadd (pc := 1176) C d_law_1176 ?_
  refine v_sldx (pc := 1177) C hX (nI_add m 1) (by omega) hLn d_law_1177 ?_
  refine v_csi (pc := 1178) (inv_V (As := [.int (xs (m + 1))]) (st := []) C ml_LAW_126 mv_B_trials (ro_law_B_trials _) (sh_0 hL) rfl rfl rfl rfl (Nat.le_of_ble_eq_true rfl) d_law_1178) (c_B_trials hL S (xs (m + 1))) e1 ⟨rfl, rfl⟩ hkn ?_
  refine v_aload_n (pc := 1181) C d_law_1181 rfl 2 rfl ?_
  refine v_aloadX (pc := 1182) C d_law_1182 rfl 0 rfl ?_
  refine v_iload_n (pc := 1183) C d_law_1183 rfl 3 rfl ?_
  refine v_iconst (pc := 1184) C d_law_1184 ic_1 ?_
  refine v_iadd (pc := 1185) C d_law_1185 ?_
  refine v_sldx (pc := 1186) C hX (nI_add m 1) (by omega) hLn d_law_1186 ?_
  refine v_csi (pc := 1187) (inv_V (As := [.int (xs (m + 1))]) (st := [.int r]) C ml_LAW_129 mv_M_trials (ro_law_M_trials _) (sh_104 hL) rfl rfl rfl rfl (Nat.le_of_ble_eq_true rfl) d_law_1187) (c_M_trials hL S1 (xs (m + 1))) e2 ⟨rfl, rfl⟩ hkn ?_
  refine v_icmp_eq_t (pc := 1190) C d_law_1190 1284 rfl rfl ?_
  exact hj L S2 k n hL hv2 (by omega) (by omega) (by omega)
set_option maxHeartbeats 4000000 in
set_option maxRecDepth 20000 in
theorem lc_apart {g : Gm} {G : Gl} {nm : String} {sb Ln : Nat} {xs : Nat → Int32} (C : Cx g (Y_law nm) G) (hX : va_X sb Ln xs (g_s g) (g_s g).heap ∧ sb < gB G ∧ gB G ≤ (g_s g).heap.size) (hLn : Ln < 2 ^ 31) {Qf : Unit → State → Prop} {m : Nat} (hm : m + 6 ≤ Ln) (hm2 : m ≤ 3072) (hj : ∀ (L : Shp) (S : Sto) (k n : Nat), Ext L → Iv L.length S → L.length ≤ 147 + m → k ≤ 1000 + m → n ≤ 100000 + 400 * m + 400 → VO g (Y_law nm) G Qf k n 1284 [(0, .ref sb), (1, rf G 0), (2, rf G 104), (3, .int (nI m))] [] L S (some ()) some) {L : Shp} {S : Sto} {k n : Nat} (hL : Ext L) (hv : Iv L.length S) (hlen0 : L.length ≤ 146 + m) (hk0 : k ≤ 999 + m) (hn0 : n ≤ 100000 + 400 * m) : VO g (Y_law nm) G Qf k n 1195 [(0, .ref sb), (1, rf G 0), (2, rf G 104), (3, .int (nI m))] [] L S (some ()) some := by
  have hkn : k ≤ (mR (Y_law nm)).cells ∧ n ≤ (mR (Y_law nm)).slots := ⟨by show k ≤ 600000; omega, by show n ≤ 7302249; omega⟩
  obtain ⟨r, S1, S2, e1, e2, hv2⟩ := st_apart hv (xs (m + 1)) (xs (m + 2))
  refine v_aload_n (pc := 1195) C d_law_1195 rfl 1 rfl ?_
  refine v_aloadX (pc := 1196) C d_law_1196 rfl 0 rfl ?_
  refine v_iload_n (pc := 1197) C d_law_1197 rfl 3 rfl ?_
  refine v_iconst (pc := 1198) C d_law_1198 ic_1 ?_
  refine v_iadd (pc := 1199) C d_law_1199 ?_
  refine v_sldx (pc := 1200) C hX (nI_add m 1) (by omega) hLn d_law_1200 ?_
  refine v_aloadX (pc := 1201) C d_law_1201 rfl 0 rfl ?_
  refine v_iload_n (pc := 1202) C d_law_1202 rfl 3 rfl ?_
  refine v_iconst (pc := 1203) C d_law_1203 ic_2 ?_
  refine v_iadd (pc := 1204) C d_law_1204 ?_
  refine v_sldx (pc := 1205) C hX (nI_add m 2) (by omega) hLn d_law_1205 ?_
  refine v_csi (pc := 1206) (inv_V (As := [.int (xs (m + 1)), .int (xs (m + 2))]) (st := []) C ml_LAW_130 mv_B_apart (ro_law_B_apart _) (sh_0 hL) rfl rfl rfl rfl (Nat.le_of_ble_eq_true rfl) d_law_1206) (c_B_apart hL S (xs (m + 1)) (xs (m + 2))) e1 ⟨rfl, rfl⟩ hkn ?_
  refine v_aload_n (pc := 1209) C d_law_1209 rfl 2 rfl ?_
  refine v_aloadX (pc := 1210) C d_law_1210 rfl 0 rfl ?_
  refine v_iload_n (pc := 1211) C d_law_1211 rfl 3 rfl ?_
  refine v_iconst (pc := 1212) C d_law_1212 ic_1 ?_
  refine v_iadd (pc := 1213) C d_law_1213 ?_
  refine v_sldx (pc := 1214) C hX (nI_add m 1) (by omega) hLn d_law_1214 ?_
  refine v_aloadX (pc := 1215) C d_law_1215 rfl 0 rfl ?_
  refine v_iload_n (pc := 1216) C d_law_1216 rfl 3 rfl ?_
  refine v_iconst (pc := 1217) C d_law_1217 ic_2 ?_
  refine v_iadd (pc := 1218) C d_law_1218 ?_
  refine v_sldx (pc := 1219) C hX (nI_add m 2) (by omega) hLn d_law_1219 ?_
  refine v_csi (pc := 1220) (inv_V (As := [.int (xs (m + 1)), .int (xs (m + 2))]) (st := [.int r]) C ml_LAW_133 mv_M_apart (ro_law_M_apart _) (sh_104 hL) rfl rfl rfl rfl (Nat.le_of_ble_eq_true rfl) d_law_1220) (c_M_apart hL S1 (xs (m + 1)) (xs (m + 2))) e2 ⟨rfl, rfl⟩ hkn ?_
  refine v_icmp_eq_t (pc := 1223) C d_law_1223 1284 rfl rfl ?_
  exact hj L S2 k n hL hv2 (by omega) (by omega) (by omega)
set_option maxHeartbeats 4000000 in
set_option maxRecDepth 20000 in
theorem lc_roofs {g : Gm} {G : Gl} {nm : String} {sb Ln : Nat} {xs : Nat → Int32} (C : Cx g (Y_law nm) G) (hX : va_X sb Ln xs (g_s g) (g_s g).heap ∧ sb < gB G ∧ gB G ≤ (g_s g).heap.size) (hLn : Ln < 2 ^ 31) {Qf : Unit → State → Prop} {m : Nat} (hm : m + 6 ≤ Ln) (hm2 : m ≤ 3072) (hj : ∀ (L : Shp) (S : Sto) (k n : Nat), Ext L → Iv L.length S → L.length ≤ 147 + m → k ≤ 1000 + m → n ≤ 100000 + 400 * m + 400 → VO g (Y_law nm) G Qf k n 1284 [(0, .ref sb), (1, rf G 0), (2, rf G 104), (3, .int (nI m))] [] L S (some ()) some) {L : Shp} {S : Sto} {k n : Nat} (hL : Ext L) (hv : Iv L.length S) (hlen0 : L.length ≤ 146 + m) (hk0 : k ≤ 999 + m) (hn0 : n ≤ 100000 + 400 * m) : VO g (Y_law nm) G Qf k n 1228 [(0, .ref sb), (1, rf G 0), (2, rf G 104), (3, .int (nI m))] [] L S (some ()) some := by
  have hkn : k ≤ (mR (Y_law nm)).cells ∧ n ≤ (mR (Y_law nm)).slots := ⟨by show k ≤ 600000; omega, by show n ≤ 7302249; omega⟩
  obtain ⟨r, S1, S2, e1, e2, hv2⟩ := st_roofs hv (xs (m + 1)) (xs (m + 2))
  refine v_aload_n (pc := 1228) C d_law_1228 rfl 1 rfl ?_
  refine v_aloadX (pc := 1229) C d_law_1229 rfl 0 rfl ?_
  refine v_iload_n (pc := 1230) C d_law_1230 rfl 3 rfl ?_
  refine v_iconst (pc := 1231) C d_law_1231 ic_1 ?_
  refine v_iadd (pc := 1232) C d_law_1232 ?_
  refine v_sldx (pc := 1233) C hX (nI_add m 1) (by omega) hLn d_law_1233 ?_
  refine v_aloadX (pc := 1234) C d_law_1234 rfl 0 rfl ?_
  refine v_iload_n (pc := 1235) C d_law_1235 rfl 3 rfl ?_
  refine v_iconst (pc := 1236) C d_law_1236 ic_2 ?_
  refine v_iadd (pc := 1237) C d_law_1237 ?_
  refine v_sldx (pc := 1238) C hX (nI_add m 2) (by omega) hLn d_law_1238 ?_
  refine v_csi (pc := 1239) (inv_V (As := [.int (xs (m + 1)), .int (xs (m + 2))]) (st := []) C ml_LAW_134 mv_B_roofs (ro_law_B_roofs _) (sh_0 hL) rfl rfl rfl rfl (Nat.le_of_ble_eq_true rfl) d_law_1239) (c_B_roofs hL S (xs (m + 1)) (xs (m + 2))) e1 ⟨rfl, rfl⟩ hkn ?_
  refine v_aload_n (pc := 1242) C d_law_1242 rfl 2 rfl ?_
  refine v_aloadX (pc := 1243) C d_law_1243 rfl 0 rfl ?_
  refine v_iload_n (pc := 1244) C d_law_1244 rfl 3 rfl ?_
  refine v_iconst (pc := 1245) C d_law_1245 ic_1 ?_
  refine v_iadd (pc := 1246) C d_law_1246 ?_
  refine v_sldx (pc := 1247) C hX (nI_add m 1) (by omega) hLn d_law_1247 ?_
  refine v_aloadX (pc := 1248) C d_law_1248 rfl 0 rfl ?_
  refine v_iload_n (pc := 1249) C d_law_1249 rfl 3 rfl ?_
  refine v_iconst (pc := 1250) C d_law_1250 ic_2 ?_
  refine v_iadd (pc := 1251) C d_law_1251 ?_
  refine v_sldx (pc := 1252) C hX (nI_add m 2) (by omega) hLn d_law_1252 ?_
  refine v_csi (pc := 1253) (inv_V (As := [.int (xs (m + 1)), .int (xs (m + 2))]) (st := [.int r]) C ml_LAW_137 mv_M_roofs (ro_law_M_roofs _) (sh_104 hL) rfl rfl rfl rfl (Nat.le_of_ble_eq_true rfl) d_law_1253) (c_M_roofs hL S1 (xs (m + 1)) (xs (m + 2))) e2 ⟨rfl, rfl⟩ hkn ?_
  refine v_icmp_eq_t (pc := 1256) C d_law_1256 1284 rfl rfl ?_
  exact hj L S2 k n hL hv2 (by omega) (by omega) (by omega)
set_option maxHeartbeats 4000000 in
set_option maxRecDepth 20000 in
theorem lc_look {g : Gm} {G : Gl} {nm : String} {sb Ln : Nat} {xs : Nat → Int32} (C : Cx g (Y_law nm) G) (hX : va_X sb Ln xs (g_s g) (g_s g).heap ∧ sb < gB G ∧ gB G ≤ (g_s g).heap.size) (hLn : Ln < 2 ^ 31) {Qf : Unit → State → Prop} {m : Nat} (hm : m + 6 ≤ Ln) (hm2 : m ≤ 3072) (hj : ∀ (L : Shp) (S : Sto) (k n : Nat), Ext L → Iv L.length S → L.length ≤ 147 + m → k ≤ 1000 + m → n ≤ 100000 + 400 * m + 400 → VO g (Y_law nm) G Qf k n 1284 [(0, .ref sb), (1, rf G 0), (2, rf G 104), (3, .int (nI m))] [] L S (some ()) some) {L : Shp} {S : Sto} {k n : Nat} (hL : Ext L) (hv : Iv L.length S) (hlen0 : L.length ≤ 146 + m) (hk0 : k ≤ 999 + m) (hn0 : n ≤ 100000 + 400 * m) : VO g (Y_law nm) G Qf k n 1261 [(0, .ref sb), (1, rf G 0), (2, rf G 104), (3, .int (nI m))] [] L S (some ()) some := by
  have hkn : k ≤ (mR (Y_law nm)).cells ∧ n ≤ (mR (Y_law nm)).slots := ⟨by show k ≤ 600000; omega, by show n ≤ 7302249; omega⟩
  obtain ⟨r, S2, e1, e2, hv2⟩ := st_look hv (xs (m + 1))
  refine v_aload_n (pc := 1261) C d_law_1261 rfl 1 rfl ?_
  refine v_aloadX (pc := 1262) C d_law_1262 rfl 0 rfl ?_
  refine v_iload_n (pc := 1263) C d_law_1263 rfl 3 rfl ?_
  refine v_iconst (pc := 1264) C d_law_1264 ic_1 ?_
  refine v_iadd (pc := 1265) C d_law_1265 ?_
  refine v_sldx (pc := 1266) C hX (nI_add m 1) (by omega) hLn d_law_1266 ?_
  refine v_csp (pc := 1267) (inv_V (As := [.int (xs (m + 1))]) (st := []) C ml_LAW_138 mv_B_look (ro_law_B_look _) (sh_0 hL) rfl rfl rfl rfl (Nat.le_of_ble_eq_true rfl) d_law_1267) (c_B_look hL S (xs (m + 1))) e1 ⟨rfl, rfl⟩ hkn ?_
  refine v_aload_n (pc := 1270) C d_law_1270 rfl 2 rfl ?_
  refine v_aloadX (pc := 1271) C d_law_1271 rfl 0 rfl ?_
  refine v_iload_n (pc := 1272) C d_law_1272 rfl 3 rfl ?_
  refine v_iconst (pc := 1273) C d_law_1273 ic_1 ?_
  refine v_iadd (pc := 1274) C d_law_1274 ?_
  refine v_sldx (pc := 1275) C hX (nI_add m 1) (by omega) hLn d_law_1275 ?_
  refine v_csi (pc := 1276) (inv_V (As := [.int (xs (m + 1))]) (st := [.int r]) C ml_LAW_141 mv_M_look (ro_law_M_look _) (sh_104 hL) rfl rfl rfl rfl (Nat.le_of_ble_eq_true rfl) d_law_1276) (c_M_look hL S (xs (m + 1))) e2 ⟨rfl, rfl⟩ hkn ?_
  refine v_icmp_eq_t (pc := 1279) C d_law_1279 1284 rfl rfl ?_
  exact hj L S2 k n hL hv2 (by omega) (by omega) (by omega)
