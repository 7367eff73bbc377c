theorem fl_B_12 : FLk "BangSquare" 12 11 0 := ⟨RX11, TX11, 18, rfl, by decide, gd_in (in_t2 (List.mem_of_getElem? (i := 195) rfl)) rfl, igX11⟩
theorem ff_B_12 : FFk "BangSquare" 12 11 0 (.object "BangSquare$Square") := ⟨RX11, TX11, 18, tyX11, rfl, by decide, gd_in (in_t2 (List.mem_of_getElem? (i := 195) rfl)) rfl, igX11, tyX11_ok, nmX11, rfl, rfl, tyX11_ok 0 (by decide)⟩
theorem fl_B_21 : FLk "BangSquare" 21 11 1 := ⟨RX11, TX11, 18, rfl, by decide, gd_in (in_t2 (List.mem_of_getElem? (i := 196) rfl)) rfl, igX11⟩
theorem ff_B_21 : FFk "BangSquare" 21 11 1 (.object "BangSquare$Heard") := ⟨RX11, TX11, 18, tyX11, rfl, by decide, gd_in (in_t2 (List.mem_of_getElem? (i := 196) rfl)) rfl, igX11, tyX11_ok, nmX11, rfl, rfl, tyX11_ok 1 (by decide)⟩
theorem fl_B_25 : FLk "BangSquare" 25 11 2 := ⟨RX11, TX11, 18, rfl, by decide, gd_in (in_t2 (List.mem_of_getElem? (i := 197) rfl)) rfl, igX11⟩
theorem ff_B_25 : FFk "BangSquare" 25 11 2 (.array .int) := ⟨RX11, TX11, 18, tyX11, rfl, by decide, gd_in (in_t2 (List.mem_of_getElem? (i := 197) rfl)) rfl, igX11, tyX11_ok, nmX11, rfl, rfl, tyX11_ok 2 (by decide)⟩
theorem fl_B_37 : FLk "BangSquare" 37 11 3 := ⟨RX11, TX11, 18, rfl, by decide, gd_in (in_t2 (List.mem_of_getElem? (i := 198) rfl)) rfl, igX11⟩
theorem ff_B_37 : FFk "BangSquare" 37 11 3 (.array (.object "BangSquare$Shot")) := ⟨RX11, TX11, 18, tyX11, rfl, by decide, gd_in (in_t2 (List.mem_of_getElem? (i := 198) rfl)) rfl, igX11, tyX11_ok, nmX11, rfl, rfl, tyX11_ok 3 (by decide)⟩
theorem fl_B_45 : FLk "BangSquare" 45 11 5 := ⟨RX11, TX11, 18, rfl, by decide, gd_in (in_t2 (List.mem_of_getElem? (i := 200) rfl)) rfl, igX11⟩
theorem ff_B_45 : FFk "BangSquare" 45 11 5 (.object "BangSquare$Reader") := ⟨RX11, TX11, 18, tyX11, rfl, by decide, gd_in (in_t2 (List.mem_of_getElem? (i := 200) rfl)) rfl, igX11, tyX11_ok, nmX11, rfl, rfl, tyX11_ok 5 (by decide)⟩
theorem fl_B_54 : FLk "BangSquare" 54 11 6 := ⟨RX11, TX11, 18, rfl, by decide, gd_in (in_t2 (List.mem_of_getElem? (i := 201) rfl)) rfl, igX11⟩
theorem ff_B_54 : FFk "BangSquare" 54 11 6 (.object "BangSquare$Crowd") := ⟨RX11, TX11, 18, tyX11, rfl, by decide, gd_in (in_t2 (List.mem_of_getElem? (i := 201) rfl)) rfl, igX11, tyX11_ok, nmX11, rfl, rfl, tyX11_ok 6 (by decide)⟩
theorem fl_B_58 : FLk "BangSquare" 58 11 7 := ⟨RX11, TX11, 18, rfl, by decide, gd_in (in_t2 (List.mem_of_getElem? (i := 202) rfl)) rfl, igX11⟩
theorem ff_B_58 : FFk "BangSquare" 58 11 7 (.array .int) := ⟨RX11, TX11, 18, tyX11, rfl, by decide, gd_in (in_t2 (List.mem_of_getElem? (i := 202) rfl)) rfl, igX11, tyX11_ok, nmX11, rfl, rfl, tyX11_ok 7 (by decide)⟩
theorem fl_B_61 : FLk "BangSquare" 61 11 8 := ⟨RX11, TX11, 18, rfl, by decide, gd_in (in_t2 (List.mem_of_getElem? (i := 203) rfl)) rfl, igX11⟩
theorem ff_B_61 : FFk "BangSquare" 61 11 8 (.array .int) := ⟨RX11, TX11, 18, tyX11, rfl, by decide, gd_in (in_t2 (List.mem_of_getElem? (i := 203) rfl)) rfl, igX11, tyX11_ok, nmX11, rfl, rfl, tyX11_ok 8 (by decide)⟩
theorem fl_B_69 : FLk "BangSquare" 69 11 9 := ⟨RX11, TX11, 18, rfl, by decide, gd_in (in_t2 (List.mem_of_getElem? (i := 204) rfl)) rfl, igX11⟩
theorem ff_B_69 : FFk "BangSquare" 69 11 9 (.object "BangSquare$Spans") := ⟨RX11, TX11, 18, tyX11, rfl, by decide, gd_in (in_t2 (List.mem_of_getElem? (i := 204) rfl)) rfl, igX11, tyX11_ok, nmX11, rfl, rfl, tyX11_ok 9 (by decide)⟩
theorem fl_B_75 : FLk "BangSquare" 75 11 10 := ⟨RX11, TX11, 18, rfl, by decide, gd_in (in_t2 (List.mem_of_getElem? (i := 205) rfl)) rfl, igX11⟩
theorem ff_B_75 : FFk "BangSquare" 75 11 10 (.array (.object "BangSquare$Tape")) := ⟨RX11, TX11, 18, tyX11, rfl, by decide, gd_in (in_t2 (List.mem_of_getElem? (i := 205) rfl)) rfl, igX11, tyX11_ok, nmX11, rfl, rfl, tyX11_ok 10 (by decide)⟩
theorem fl_B_82 : FLk "BangSquare" 82 11 11 := ⟨RX11, TX11, 18, rfl, by decide, gd_in (in_t2 (List.mem_of_getElem? (i := 206) rfl)) rfl, igX11⟩
theorem fp_B_82 : FPk "BangSquare" 82 11 11 .int := ⟨RX11, TX11, 18, tyX11, rfl, by decide, gd_in (in_t2 (List.mem_of_getElem? (i := 206) rfl)) rfl, igX11, tyX11_ok, nmX11, rfl, tyX11_ok 11 (by decide)⟩
theorem fl_B_89 : FLk "BangSquare" 89 11 12 := ⟨RX11, TX11, 18, rfl, by decide, gd_in (in_t2 (List.mem_of_getElem? (i := 207) rfl)) rfl, igX11⟩
theorem ff_B_89 : FFk "BangSquare" 89 11 12 (.object "BangSquare$Noises") := ⟨RX11, TX11, 18, tyX11, rfl, by decide, gd_in (in_t2 (List.mem_of_getElem? (i := 207) rfl)) rfl, igX11, tyX11_ok, nmX11, rfl, rfl, tyX11_ok 12 (by decide)⟩
theorem fl_B_93 : FLk "BangSquare" 93 11 13 := ⟨RX11, TX11, 18, rfl, by decide, gd_in (in_t2 (List.mem_of_getElem? (i := 208) rfl)) rfl, igX11⟩
theorem ff_B_93 : FFk "BangSquare" 93 11 13 (.object "BangSquare$Shot") := ⟨RX11, TX11, 18, tyX11, rfl, by decide, gd_in (in_t2 (List.mem_of_getElem? (i := 208) rfl)) rfl, igX11, tyX11_ok, nmX11, rfl, rfl, tyX11_ok 13 (by decide)⟩
theorem fl_B_97 : FLk "BangSquare" 97 11 14 := ⟨RX11, TX11, 18, rfl, by decide, gd_in (in_t2 (List.mem_of_getElem? (i := 209) rfl)) rfl, igX11⟩
theorem fp_B_97 : FPk "BangSquare" 97 11 14 .int := ⟨RX11, TX11, 18, tyX11, rfl, by decide, gd_in (in_t2 (List.mem_of_getElem? (i := 209) rfl)) rfl, igX11, tyX11_ok, nmX11, rfl, tyX11_ok 14 (by decide)⟩
theorem fl_B_100 : FLk "BangSquare" 100 11 16 := ⟨RX11, TX11, 18, rfl, by decide, gd_in (in_t2 (List.mem_of_getElem? (i := 211) rfl)) rfl, igX11⟩
theorem ff_B_100 : FFk "BangSquare" 100 11 16 (.array .int) := ⟨RX11, TX11, 18, tyX11, rfl, by decide, gd_in (in_t2 (List.mem_of_getElem? (i := 211) rfl)) rfl, igX11, tyX11_ok, nmX11, rfl, rfl, tyX11_ok 16 (by decide)⟩
theorem fl_B_108 : FLk "BangSquare" 108 11 17 := ⟨RX11, TX11, 18, rfl, by decide, gd_in (in_t2 (List.mem_of_getElem? (i := 212) rfl)) rfl, igX11⟩
theorem ff_B_108 : FFk "BangSquare" 108 11 17 (.object "BangSquare$Roofs") := ⟨RX11, TX11, 18, tyX11, rfl, by decide, gd_in (in_t2 (List.mem_of_getElem? (i := 212) rfl)) rfl, igX11, tyX11_ok, nmX11, rfl, rfl, tyX11_ok 17 (by decide)⟩
theorem fl_B_116 : FLk "BangSquare" 116 8 0 := ⟨RX8, TX8, 5, rfl, by decide, gd_in (in_t1 (List.mem_of_getElem? (i := 63) rfl)) rfl, igX8⟩
theorem fp_B_116 : FPk "BangSquare" 116 8 0 .int := ⟨RX8, TX8, 5, tyX8, rfl, by decide, gd_in (in_t1 (List.mem_of_getElem? (i := 63) rfl)) rfl, igX8, tyX8_ok, nmX8, rfl, tyX8_ok 0 (by decide)⟩
theorem fl_B_119 : FLk "BangSquare" 119 8 1 := ⟨RX8, TX8, 5, rfl, by decide, gd_in (in_t1 (List.mem_of_getElem? (i := 66) rfl)) rfl, igX8⟩
theorem fp_B_119 : FPk "BangSquare" 119 8 1 .int := ⟨RX8, TX8, 5, tyX8, rfl, by decide, gd_in (in_t1 (List.mem_of_getElem? (i := 66) rfl)) rfl, igX8, tyX8_ok, nmX8, rfl, tyX8_ok 1 (by decide)⟩
theorem fl_B_122 : FLk "BangSquare" 122 8 2 := ⟨RX8, TX8, 5, rfl, by decide, gd_in (in_t1 (List.mem_of_getElem? (i := 68) rfl)) rfl, igX8⟩
theorem fp_B_122 : FPk "BangSquare" 122 8 2 .int := ⟨RX8, TX8, 5, tyX8, rfl, by decide, gd_in (in_t1 (List.mem_of_getElem? (i := 68) rfl)) rfl, igX8, tyX8_ok, nmX8, rfl, tyX8_ok 2 (by decide)⟩
theorem fl_B_143 : FLk "BangSquare" 143 8 4 := ⟨RX8, TX8, 5, rfl, by decide, gd_in (in_t1 (List.mem_of_getElem? (i := 73) rfl)) rfl, igX8⟩
theorem fp_B_143 : FPk "BangSquare" 143 8 4 .int := ⟨RX8, TX8, 5, tyX8, rfl, by decide, gd_in (in_t1 (List.mem_of_getElem? (i := 73) rfl)) rfl, igX8, tyX8_ok, nmX8, rfl, tyX8_ok 4 (by decide)⟩
theorem fl_B_146 : FLk "BangSquare" 146 8 3 := ⟨RX8, TX8, 5, rfl, by decide, gd_in (in_t1 (List.mem_of_getElem? (i := 71) rfl)) rfl, igX8⟩
theorem fl_B_157 : FLk "BangSquare" 157 11 4 := ⟨RX11, TX11, 18, rfl, by decide, gd_in (in_t2 (List.mem_of_getElem? (i := 199) rfl)) rfl, igX11⟩
theorem fp_B_157 : FPk "BangSquare" 157 11 4 .int := ⟨RX11, TX11, 18, tyX11, rfl, by decide, gd_in (in_t2 (List.mem_of_getElem? (i := 199) rfl)) rfl, igX11, tyX11_ok, nmX11, rfl, tyX11_ok 4 (by decide)⟩
theorem fl_B_172 : FLk "BangSquare" 172 1 2 := ⟨RX1, TX1, 11, rfl, by decide, gd_in (in_t1 (List.mem_of_getElem? (i := 97) rfl)) rfl, igX1⟩
theorem fp_B_172 : FPk "BangSquare" 172 1 2 .int := ⟨RX1, TX1, 11, tyX1, rfl, by decide, gd_in (in_t1 (List.mem_of_getElem? (i := 97) rfl)) rfl, igX1, tyX1_ok, nmX1, rfl, tyX1_ok 2 (by decide)⟩
theorem fl_B_175 : FLk "BangSquare" 175 1 3 := ⟨RX1, TX1, 11, rfl, by decide, gd_in (in_t1 (List.mem_of_getElem? (i := 100) rfl)) rfl, igX1⟩
theorem fp_B_175 : FPk "BangSquare" 175 1 3 .int := ⟨RX1, TX1, 11, tyX1, rfl, by decide, gd_in (in_t1 (List.mem_of_getElem? (i := 100) rfl)) rfl, igX1, tyX1_ok, nmX1, rfl, tyX1_ok 3 (by decide)⟩
theorem fl_B_178 : FLk "BangSquare" 178 1 4 := ⟨RX1, TX1, 11, rfl, by decide, gd_in (in_t1 (List.mem_of_getElem? (i := 103) rfl)) rfl, igX1⟩
theorem fp_B_178 : FPk "BangSquare" 178 1 4 .int := ⟨RX1, TX1, 11, tyX1, rfl, by decide, gd_in (in_t1 (List.mem_of_getElem? (i := 103) rfl)) rfl, igX1, tyX1_ok, nmX1, rfl, tyX1_ok 4 (by decide)⟩
theorem fl_B_181 : FLk "BangSquare" 181 1 5 := ⟨RX1, TX1, 11, rfl, by decide, gd_in (in_t1 (List.mem_of_getElem? (i := 106) rfl)) rfl, igX1⟩
theorem fp_B_181 : FPk "BangSquare" 181 1 5 .int := ⟨RX1, TX1, 11, tyX1, rfl, by decide, gd_in (in_t1 (List.mem_of_getElem? (i := 106) rfl)) rfl, igX1, tyX1_ok, nmX1, rfl, tyX1_ok 5 (by decide)⟩
theorem fl_B_184 : FLk "BangSquare" 184 1 6 := ⟨RX1, TX1, 11, rfl, by decide, gd_in (in_t1 (List.mem_of_getElem? (i := 110) rfl)) rfl, igX1⟩
theorem fp_B_184 : FPk "BangSquare" 184 1 6 .int := ⟨RX1, TX1, 11, tyX1, rfl, by decide, gd_in (in_t1 (List.mem_of_getElem? (i := 110) rfl)) rfl, igX1, tyX1_ok, nmX1, rfl, tyX1_ok 6 (by decide)⟩
theorem fl_B_190 : FLk "BangSquare" 190 1 8 := ⟨RX1, TX1, 11, rfl, by decide, gd_in (in_t1 (List.mem_of_getElem? (i := 115) rfl)) rfl, igX1⟩
theorem fl_B_193 : FLk "BangSquare" 193 1 9 := ⟨RX1, TX1, 11, rfl, by decide, gd_in (in_t1 (List.mem_of_getElem? (i := 118) rfl)) rfl, igX1⟩
theorem fl_B_196 : FLk "BangSquare" 196 1 10 := ⟨RX1, TX1, 11, rfl, by decide, gd_in (in_t1 (List.mem_of_getElem? (i := 122) rfl)) rfl, igX1⟩
theorem fl_B_199 : FLk "BangSquare" 199 3 1 := ⟨RX3, TX3, 19, rfl, by decide, gd_in (in_t1 (List.mem_of_getElem? (i := 183) rfl)) rfl, igX3⟩
theorem fp_B_199 : FPk "BangSquare" 199 3 1 .int := ⟨RX3, TX3, 19, tyX3, rfl, by decide, gd_in (in_t1 (List.mem_of_getElem? (i := 183) rfl)) rfl, igX3, tyX3_ok, nmX3, rfl, tyX3_ok 1 (by decide)⟩
theorem fl_B_208 : FLk "BangSquare" 208 2 0 := ⟨RX2, TX2, 7, rfl, by decide, gd_in (in_t2 (List.mem_of_getElem? (i := 152) rfl)) rfl, igX2⟩
theorem fl_B_216 : FLk "BangSquare" 216 0 1 := ⟨RX0, TX0, 10, rfl, by decide, gd_in (in_t2 (List.mem_of_getElem? (i := 29) rfl)) rfl, igX0⟩
theorem fl_B_220 : FLk "BangSquare" 220 3 2 := ⟨RX3, TX3, 19, rfl, by decide, gd_in (in_t1 (List.mem_of_getElem? (i := 185) rfl)) rfl, igX3⟩
theorem fp_B_220 : FPk "BangSquare" 220 3 2 .int := ⟨RX3, TX3, 19, tyX3, rfl, by decide, gd_in (in_t1 (List.mem_of_getElem? (i := 185) rfl)) rfl, igX3, tyX3_ok, nmX3, rfl, tyX3_ok 2 (by decide)⟩
theorem fl_B_223 : FLk "BangSquare" 223 3 3 := ⟨RX3, TX3, 19, rfl, by decide, gd_in (in_t1 (List.mem_of_getElem? (i := 187) rfl)) rfl, igX3⟩
theorem fp_B_223 : FPk "BangSquare" 223 3 3 .int := ⟨RX3, TX3, 19, tyX3, rfl, by decide, gd_in (in_t1 (List.mem_of_getElem? (i := 187) rfl)) rfl, igX3, tyX3_ok, nmX3, rfl, tyX3_ok 3 (by decide)⟩
theorem fl_B_226 : FLk "BangSquare" 226 0 4 := ⟨RX0, TX0, 10, rfl, by decide, gd_in (in_t2 (List.mem_of_getElem? (i := 35) rfl)) rfl, igX0⟩
theorem fp_B_226 : FPk "BangSquare" 226 0 4 .int := ⟨RX0, TX0, 10, tyX0, rfl, by decide, gd_in (in_t2 (List.mem_of_getElem? (i := 35) rfl)) rfl, igX0, tyX0_ok, nmX0, rfl, tyX0_ok 4 (by decide)⟩
theorem fl_B_229 : FLk "BangSquare" 229 0 2 := ⟨RX0, TX0, 10, rfl, by decide, gd_in (in_t2 (List.mem_of_getElem? (i := 31) rfl)) rfl, igX0⟩
theorem fl_B_232 : FLk "BangSquare" 232 0 3 := ⟨RX0, TX0, 10, rfl, by decide, gd_in (in_t2 (List.mem_of_getElem? (i := 33) rfl)) rfl, igX0⟩
theorem fl_B_246 : FLk "BangSquare" 246 7 3 := ⟨RX7, TX7, 4, rfl, by decide, gd_in (in_t2 (List.mem_of_getElem? (i := 78) rfl)) rfl, igX7⟩
theorem fp_B_246 : FPk "BangSquare" 246 7 3 .int := ⟨RX7, TX7, 4, tyX7, rfl, by decide, gd_in (in_t2 (List.mem_of_getElem? (i := 78) rfl)) rfl, igX7, tyX7_ok, nmX7, rfl, tyX7_ok 3 (by decide)⟩
theorem fl_B_252 : FLk "BangSquare" 252 7 1 := ⟨RX7, TX7, 4, rfl, by decide, gd_in (in_t2 (List.mem_of_getElem? (i := 74) rfl)) rfl, igX7⟩
theorem fl_B_255 : FLk "BangSquare" 255 7 2 := ⟨RX7, TX7, 4, rfl, by decide, gd_in (in_t2 (List.mem_of_getElem? (i := 76) rfl)) rfl, igX7⟩
theorem fl_B_261 : FLk "BangSquare" 261 7 0 := ⟨RX7, TX7, 4, rfl, by decide, gd_in (in_t2 (List.mem_of_getElem? (i := 72) rfl)) rfl, igX7⟩
theorem fl_B_277 : FLk "BangSquare" 277 9 7 := ⟨RX9, TX9, 12, rfl, by decide, gd_in (in_t2 (List.mem_of_getElem? (i := 109) rfl)) rfl, igX9⟩
theorem fp_B_277 : FPk "BangSquare" 277 9 7 .int := ⟨RX9, TX9, 12, tyX9, rfl, by decide, gd_in (in_t2 (List.mem_of_getElem? (i := 109) rfl)) rfl, igX9, tyX9_ok, nmX9, rfl, tyX9_ok 7 (by decide)⟩
theorem fl_B_280 : FLk "BangSquare" 280 9 8 := ⟨RX9, TX9, 12, rfl, by decide, gd_in (in_t2 (List.mem_of_getElem? (i := 111) rfl)) rfl, igX9⟩
theorem fp_B_280 : FPk "BangSquare" 280 9 8 .int := ⟨RX9, TX9, 12, tyX9, rfl, by decide, gd_in (in_t2 (List.mem_of_getElem? (i := 111) rfl)) rfl, igX9, tyX9_ok, nmX9, rfl, tyX9_ok 8 (by decide)⟩
theorem fl_B_283 : FLk "BangSquare" 283 9 3 := ⟨RX9, TX9, 12, rfl, by decide, gd_in (in_t2 (List.mem_of_getElem? (i := 103) rfl)) rfl, igX9⟩
theorem fp_B_283 : FPk "BangSquare" 283 9 3 .int := ⟨RX9, TX9, 12, tyX9, rfl, by decide, gd_in (in_t2 (List.mem_of_getElem? (i := 103) rfl)) rfl, igX9, tyX9_ok, nmX9, rfl, tyX9_ok 3 (by decide)⟩
theorem fl_B_289 : FLk "BangSquare" 289 9 9 := ⟨RX9, TX9, 12, rfl, by decide, gd_in (in_t2 (List.mem_of_getElem? (i := 113) rfl)) rfl, igX9⟩
theorem fp_B_289 : FPk "BangSquare" 289 9 9 .int := ⟨RX9, TX9, 12, tyX9, rfl, by decide, gd_in (in_t2 (List.mem_of_getElem? (i := 113) rfl)) rfl, igX9, tyX9_ok, nmX9, rfl, tyX9_ok 9 (by decide)⟩
theorem fl_B_292 : FLk "BangSquare" 292 9 10 := ⟨RX9, TX9, 12, rfl, by decide, gd_in (in_t2 (List.mem_of_getElem? (i := 115) rfl)) rfl, igX9⟩
theorem fp_B_292 : FPk "BangSquare" 292 9 10 .int := ⟨RX9, TX9, 12, tyX9, rfl, by decide, gd_in (in_t2 (List.mem_of_getElem? (i := 115) rfl)) rfl, igX9, tyX9_ok, nmX9, rfl, tyX9_ok 10 (by decide)⟩
theorem fl_B_295 : FLk "BangSquare" 295 9 11 := ⟨RX9, TX9, 12, rfl, by decide, gd_in (in_t2 (List.mem_of_getElem? (i := 117) rfl)) rfl, igX9⟩
theorem fp_B_295 : FPk "BangSquare" 295 9 11 .int := ⟨RX9, TX9, 12, tyX9, rfl, by decide, gd_in (in_t2 (List.mem_of_getElem? (i := 117) rfl)) rfl, igX9, tyX9_ok, nmX9, rfl, tyX9_ok 11 (by decide)⟩
theorem fl_B_306 : FLk "BangSquare" 306 9 4 := ⟨RX9, TX9, 12, rfl, by decide, gd_in (in_t2 (List.mem_of_getElem? (i := 105) rfl)) rfl, igX9⟩
theorem fl_B_321 : FLk "BangSquare" 321 2 5 := ⟨RX2, TX2, 7, rfl, by decide, gd_in (in_t2 (List.mem_of_getElem? (i := 158) rfl)) rfl, igX2⟩
theorem fp_B_321 : FPk "BangSquare" 321 2 5 .int := ⟨RX2, TX2, 7, tyX2, rfl, by decide, gd_in (in_t2 (List.mem_of_getElem? (i := 158) rfl)) rfl, igX2, tyX2_ok, nmX2, rfl, tyX2_ok 5 (by decide)⟩
theorem fl_B_325 : FLk "BangSquare" 325 11 15 := ⟨RX11, TX11, 18, rfl, by decide, gd_in (in_t2 (List.mem_of_getElem? (i := 210) rfl)) rfl, igX11⟩
theorem fp_B_325 : FPk "BangSquare" 325 11 15 .int := ⟨RX11, TX11, 18, tyX11, rfl, by decide, gd_in (in_t2 (List.mem_of_getElem? (i := 210) rfl)) rfl, igX11, tyX11_ok, nmX11, rfl, tyX11_ok 15 (by decide)⟩
theorem fl_Cw_9 : FLk "BangSquare$Crowd" 9 0 0 := ⟨RX0, TX0, 10, rfl, by decide, gd_in (in_t2 (List.mem_of_getElem? (i := 27) rfl)) rfl, igX0⟩
theorem ff_Cw_9 : FFk "BangSquare$Crowd" 9 0 0 (.object "BangSquare$Heard") := ⟨RX0, TX0, 10, tyX0, rfl, by decide, gd_in (in_t2 (List.mem_of_getElem? (i := 27) rfl)) rfl, igX0, tyX0_ok, nmX0, rfl, rfl, tyX0_ok 0 (by decide)⟩
theorem fl_Cw_17 : FLk "BangSquare$Crowd" 17 0 1 := ⟨RX0, TX0, 10, rfl, by decide, gd_in (in_t2 (List.mem_of_getElem? (i := 28) rfl)) rfl, igX0⟩
theorem ff_Cw_17 : FFk "BangSquare$Crowd" 17 0 1 (.array (.object "BangSquare$Script")) := ⟨RX0, TX0, 10, tyX0, rfl, by decide, gd_in (in_t2 (List.mem_of_getElem? (i := 28) rfl)) rfl, igX0, tyX0_ok, nmX0, rfl, rfl, tyX0_ok 1 (by decide)⟩
theorem fl_Cw_22 : FLk "BangSquare$Crowd" 22 0 2 := ⟨RX0, TX0, 10, rfl, by decide, gd_in (in_t2 (List.mem_of_getElem? (i := 30) rfl)) rfl, igX0⟩
theorem ff_Cw_22 : FFk "BangSquare$Crowd" 22 0 2 (.array .int) := ⟨RX0, TX0, 10, tyX0, rfl, by decide, gd_in (in_t2 (List.mem_of_getElem? (i := 30) rfl)) rfl, igX0, tyX0_ok, nmX0, rfl, rfl, tyX0_ok 2 (by decide)⟩
theorem fl_Cw_26 : FLk "BangSquare$Crowd" 26 0 3 := ⟨RX0, TX0, 10, rfl, by decide, gd_in (in_t2 (List.mem_of_getElem? (i := 32) rfl)) rfl, igX0⟩
theorem ff_Cw_26 : FFk "BangSquare$Crowd" 26 0 3 (.array .int) := ⟨RX0, TX0, 10, tyX0, rfl, by decide, gd_in (in_t2 (List.mem_of_getElem? (i := 32) rfl)) rfl, igX0, tyX0_ok, nmX0, rfl, rfl, tyX0_ok 3 (by decide)⟩
theorem fl_Cw_29 : FLk "BangSquare$Crowd" 29 0 5 := ⟨RX0, TX0, 10, rfl, by decide, gd_in (in_t2 (List.mem_of_getElem? (i := 36) rfl)) rfl, igX0⟩
theorem ff_Cw_29 : FFk "BangSquare$Crowd" 29 0 5 (.array .int) := ⟨RX0, TX0, 10, tyX0, rfl, by decide, gd_in (in_t2 (List.mem_of_getElem? (i := 36) rfl)) rfl, igX0, tyX0_ok, nmX0, rfl, rfl, tyX0_ok 5 (by decide)⟩
theorem fl_Cw_32 : FLk "BangSquare$Crowd" 32 0 6 := ⟨RX0, TX0, 10, rfl, by decide, gd_in (in_t2 (List.mem_of_getElem? (i := 37) rfl)) rfl, igX0⟩
theorem ff_Cw_32 : FFk "BangSquare$Crowd" 32 0 6 (.array .int) := ⟨RX0, TX0, 10, tyX0, rfl, by decide, gd_in (in_t2 (List.mem_of_getElem? (i := 37) rfl)) rfl, igX0, tyX0_ok, nmX0, rfl, rfl, tyX0_ok 6 (by decide)⟩
theorem fl_Cw_41 : FLk "BangSquare$Crowd" 41 1 7 := ⟨RX1, TX1, 11, rfl, by decide, gd_in (in_t1 (List.mem_of_getElem? (i := 111) rfl)) rfl, igX1⟩
theorem fp_Cw_41 : FPk "BangSquare$Crowd" 41 1 7 .int := ⟨RX1, TX1, 11, tyX1, rfl, by decide, gd_in (in_t1 (List.mem_of_getElem? (i := 111) rfl)) rfl, igX1, tyX1_ok, nmX1, rfl, tyX1_ok 7 (by decide)⟩
theorem fl_Cw_45 : FLk "BangSquare$Crowd" 45 1 3 := ⟨RX1, TX1, 11, rfl, by decide, gd_in (in_t1 (List.mem_of_getElem? (i := 98) rfl)) rfl, igX1⟩
theorem fp_Cw_45 : FPk "BangSquare$Crowd" 45 1 3 .int := ⟨RX1, TX1, 11, tyX1, rfl, by decide, gd_in (in_t1 (List.mem_of_getElem? (i := 98) rfl)) rfl, igX1, tyX1_ok, nmX1, rfl, tyX1_ok 3 (by decide)⟩
theorem fl_Cw_48 : FLk "BangSquare$Crowd" 48 1 1 := ⟨RX1, TX1, 11, rfl, by decide, gd_in (in_t1 (List.mem_of_getElem? (i := 93) rfl)) rfl, igX1⟩
theorem fp_Cw_48 : FPk "BangSquare$Crowd" 48 1 1 .int := ⟨RX1, TX1, 11, tyX1, rfl, by decide, gd_in (in_t1 (List.mem_of_getElem? (i := 93) rfl)) rfl, igX1, tyX1_ok, nmX1, rfl, tyX1_ok 1 (by decide)⟩
theorem fl_Cw_55 : FLk "BangSquare$Crowd" 55 1 5 := ⟨RX1, TX1, 11, rfl, by decide, gd_in (in_t1 (List.mem_of_getElem? (i := 105) rfl)) rfl, igX1⟩
theorem fp_Cw_55 : FPk "BangSquare$Crowd" 55 1 5 .int := ⟨RX1, TX1, 11, tyX1, rfl, by decide, gd_in (in_t1 (List.mem_of_getElem? (i := 105) rfl)) rfl, igX1, tyX1_ok, nmX1, rfl, tyX1_ok 5 (by decide)⟩
theorem fl_Cw_58 : FLk "BangSquare$Crowd" 58 1 9 := ⟨RX1, TX1, 11, rfl, by decide, gd_in (in_t1 (List.mem_of_getElem? (i := 117) rfl)) rfl, igX1⟩
theorem fl_Cw_61 : FLk "BangSquare$Crowd" 61 1 2 := ⟨RX1, TX1, 11, rfl, by decide, gd_in (in_t1 (List.mem_of_getElem? (i := 95) rfl)) rfl, igX1⟩
theorem fp_Cw_61 : FPk "BangSquare$Crowd" 61 1 2 .int := ⟨RX1, TX1, 11, tyX1, rfl, by decide, gd_in (in_t1 (List.mem_of_getElem? (i := 95) rfl)) rfl, igX1, tyX1_ok, nmX1, rfl, tyX1_ok 2 (by decide)⟩
theorem fl_Cw_64 : FLk "BangSquare$Crowd" 64 1 6 := ⟨RX1, TX1, 11, rfl, by decide, gd_in (in_t1 (List.mem_of_getElem? (i := 107) rfl)) rfl, igX1⟩
theorem fp_Cw_64 : FPk "BangSquare$Crowd" 64 1 6 .int := ⟨RX1, TX1, 11, tyX1, rfl, by decide, gd_in (in_t1 (List.mem_of_getElem? (i := 107) rfl)) rfl, igX1, tyX1_ok, nmX1, rfl, tyX1_ok 6 (by decide)⟩
theorem fl_Cw_67 : FLk "BangSquare$Crowd" 67 6 0 := ⟨RX6, TX6, 4, rfl, by decide, gd_in (in_t1 (List.mem_of_getElem? (i := 159) rfl)) rfl, igX6⟩
theorem fp_Cw_67 : FPk "BangSquare$Crowd" 67 6 0 .int := ⟨RX6, TX6, 4, tyX6, rfl, by decide, gd_in (in_t1 (List.mem_of_getElem? (i := 159) rfl)) rfl, igX6, tyX6_ok, nmX6, rfl, tyX6_ok 0 (by decide)⟩
theorem fl_Cw_76 : FLk "BangSquare$Crowd" 76 0 7 := ⟨RX0, TX0, 10, rfl, by decide, gd_in (in_t2 (List.mem_of_getElem? (i := 38) rfl)) rfl, igX0⟩
theorem fp_Cw_76 : FPk "BangSquare$Crowd" 76 0 7 .int := ⟨RX0, TX0, 10, tyX0, rfl, by decide, gd_in (in_t2 (List.mem_of_getElem? (i := 38) rfl)) rfl, igX0, tyX0_ok, nmX0, rfl, tyX0_ok 7 (by decide)⟩
theorem fl_Cw_79 : FLk "BangSquare$Crowd" 79 1 4 := ⟨RX1, TX1, 11, rfl, by decide, gd_in (in_t1 (List.mem_of_getElem? (i := 102) rfl)) rfl, igX1⟩
theorem fp_Cw_79 : FPk "BangSquare$Crowd" 79 1 4 .int := ⟨RX1, TX1, 11, tyX1, rfl, by decide, gd_in (in_t1 (List.mem_of_getElem? (i := 102) rfl)) rfl, igX1, tyX1_ok, nmX1, rfl, tyX1_ok 4 (by decide)⟩
theorem fl_Cw_82 : FLk "BangSquare$Crowd" 82 0 8 := ⟨RX0, TX0, 10, rfl, by decide, gd_in (in_t2 (List.mem_of_getElem? (i := 39) rfl)) rfl, igX0⟩
theorem fp_Cw_82 : FPk "BangSquare$Crowd" 82 0 8 .int := ⟨RX0, TX0, 10, tyX0, rfl, by decide, gd_in (in_t2 (List.mem_of_getElem? (i := 39) rfl)) rfl, igX0, tyX0_ok, nmX0, rfl, tyX0_ok 8 (by decide)⟩
theorem fl_Cw_85 : FLk "BangSquare$Crowd" 85 1 10 := ⟨RX1, TX1, 11, rfl, by decide, gd_in (in_t1 (List.mem_of_getElem? (i := 120) rfl)) rfl, igX1⟩
theorem fl_Cw_88 : FLk "BangSquare$Crowd" 88 0 9 := ⟨RX0, TX0, 10, rfl, by decide, gd_in (in_t2 (List.mem_of_getElem? (i := 40) rfl)) rfl, igX0⟩
theorem fp_Cw_88 : FPk "BangSquare$Crowd" 88 0 9 .int := ⟨RX0, TX0, 10, tyX0, rfl, by decide, gd_in (in_t2 (List.mem_of_getElem? (i := 40) rfl)) rfl, igX0, tyX0_ok, nmX0, rfl, tyX0_ok 9 (by decide)⟩
theorem fl_Cw_95 : FLk "BangSquare$Crowd" 95 0 4 := ⟨RX0, TX0, 10, rfl, by decide, gd_in (in_t2 (List.mem_of_getElem? (i := 34) rfl)) rfl, igX0⟩
theorem fp_Cw_95 : FPk "BangSquare$Crowd" 95 0 4 .int := ⟨RX0, TX0, 10, tyX0, rfl, by decide, gd_in (in_t2 (List.mem_of_getElem? (i := 34) rfl)) rfl, igX0, tyX0_ok, nmX0, rfl, tyX0_ok 4 (by decide)⟩
theorem fl_Hd_9 : FLk "BangSquare$Heard" 9 1 0 := ⟨RX1, TX1, 11, rfl, by decide, gd_in (in_t1 (List.mem_of_getElem? (i := 91) rfl)) rfl, igX1⟩
theorem ff_Hd_9 : FFk "BangSquare$Heard" 9 1 0 (.object "BangSquare$Square") := ⟨RX1, TX1, 11, tyX1, rfl, by decide, gd_in (in_t1 (List.mem_of_getElem? (i := 91) rfl)) rfl, igX1, tyX1_ok, nmX1, rfl, rfl, tyX1_ok 0 (by decide)⟩
theorem fl_Hd_15 : FLk "BangSquare$Heard" 15 1 8 := ⟨RX1, TX1, 11, rfl, by decide, gd_in (in_t1 (List.mem_of_getElem? (i := 113) rfl)) rfl, igX1⟩
theorem ff_Hd_15 : FFk "BangSquare$Heard" 15 1 8 (.array .int) := ⟨RX1, TX1, 11, tyX1, rfl, by decide, gd_in (in_t1 (List.mem_of_getElem? (i := 113) rfl)) rfl, igX1, tyX1_ok, nmX1, rfl, rfl, tyX1_ok 8 (by decide)⟩
theorem fl_Hd_19 : FLk "BangSquare$Heard" 19 1 9 := ⟨RX1, TX1, 11, rfl, by decide, gd_in (in_t1 (List.mem_of_getElem? (i := 116) rfl)) rfl, igX1⟩
theorem ff_Hd_19 : FFk "BangSquare$Heard" 19 1 9 (.array .int) := ⟨RX1, TX1, 11, tyX1, rfl, by decide, gd_in (in_t1 (List.mem_of_getElem? (i := 116) rfl)) rfl, igX1, tyX1_ok, nmX1, rfl, rfl, tyX1_ok 9 (by decide)⟩
theorem fl_Hd_22 : FLk "BangSquare$Heard" 22 1 10 := ⟨RX1, TX1, 11, rfl, by decide, gd_in (in_t1 (List.mem_of_getElem? (i := 119) rfl)) rfl, igX1⟩
theorem ff_Hd_22 : FFk "BangSquare$Heard" 22 1 10 (.array .int) := ⟨RX1, TX1, 11, tyX1, rfl, by decide, gd_in (in_t1 (List.mem_of_getElem? (i := 119) rfl)) rfl, igX1, tyX1_ok, nmX1, rfl, rfl, tyX1_ok 10 (by decide)⟩
theorem fl_Hd_25 : FLk "BangSquare$Heard" 25 6 0 := ⟨RX6, TX6, 4, rfl, by decide, gd_in (in_t1 (List.mem_of_getElem? (i := 158) rfl)) rfl, igX6⟩
theorem fp_Hd_25 : FPk "BangSquare$Heard" 25 6 0 .int := ⟨RX6, TX6, 4, tyX6, rfl, by decide, gd_in (in_t1 (List.mem_of_getElem? (i := 158) rfl)) rfl, igX6, tyX6_ok, nmX6, rfl, tyX6_ok 0 (by decide)⟩
theorem fl_Hd_35 : FLk "BangSquare$Heard" 35 1 1 := ⟨RX1, TX1, 11, rfl, by decide, gd_in (in_t1 (List.mem_of_getElem? (i := 92) rfl)) rfl, igX1⟩
theorem fp_Hd_35 : FPk "BangSquare$Heard" 35 1 1 .int := ⟨RX1, TX1, 11, tyX1, rfl, by decide, gd_in (in_t1 (List.mem_of_getElem? (i := 92) rfl)) rfl, igX1, tyX1_ok, nmX1, rfl, tyX1_ok 1 (by decide)⟩
theorem fl_Hd_38 : FLk "BangSquare$Heard" 38 6 1 := ⟨RX6, TX6, 4, rfl, by decide, gd_in (in_t1 (List.mem_of_getElem? (i := 161) rfl)) rfl, igX6⟩
theorem fp_Hd_38 : FPk "BangSquare$Heard" 38 6 1 .int := ⟨RX6, TX6, 4, tyX6, rfl, by decide, gd_in (in_t1 (List.mem_of_getElem? (i := 161) rfl)) rfl, igX6, tyX6_ok, nmX6, rfl, tyX6_ok 1 (by decide)⟩
theorem fl_Hd_46 : FLk "BangSquare$Heard" 46 1 2 := ⟨RX1, TX1, 11, rfl, by decide, gd_in (in_t1 (List.mem_of_getElem? (i := 94) rfl)) rfl, igX1⟩
theorem fp_Hd_46 : FPk "BangSquare$Heard" 46 1 2 .int := ⟨RX1, TX1, 11, tyX1, rfl, by decide, gd_in (in_t1 (List.mem_of_getElem? (i := 94) rfl)) rfl, igX1, tyX1_ok, nmX1, rfl, tyX1_ok 2 (by decide)⟩
theorem fl_Hd_49 : FLk "BangSquare$Heard" 49 1 3 := ⟨RX1, TX1, 11, rfl, by decide, gd_in (in_t1 (List.mem_of_getElem? (i := 99) rfl)) rfl, igX1⟩
theorem fp_Hd_49 : FPk "BangSquare$Heard" 49 1 3 .int := ⟨RX1, TX1, 11, tyX1, rfl, by decide, gd_in (in_t1 (List.mem_of_getElem? (i := 99) rfl)) rfl, igX1, tyX1_ok, nmX1, rfl, tyX1_ok 3 (by decide)⟩
theorem fl_Hd_52 : FLk "BangSquare$Heard" 52 1 4 := ⟨RX1, TX1, 11, rfl, by decide, gd_in (in_t1 (List.mem_of_getElem? (i := 101) rfl)) rfl, igX1⟩
theorem fp_Hd_52 : FPk "BangSquare$Heard" 52 1 4 .int := ⟨RX1, TX1, 11, tyX1, rfl, by decide, gd_in (in_t1 (List.mem_of_getElem? (i := 101) rfl)) rfl, igX1, tyX1_ok, nmX1, rfl, tyX1_ok 4 (by decide)⟩
theorem fl_Hd_55 : FLk "BangSquare$Heard" 55 1 5 := ⟨RX1, TX1, 11, rfl, by decide, gd_in (in_t1 (List.mem_of_getElem? (i := 104) rfl)) rfl, igX1⟩
theorem fp_Hd_55 : FPk "BangSquare$Heard" 55 1 5 .int := ⟨RX1, TX1, 11, tyX1, rfl, by decide, gd_in (in_t1 (List.mem_of_getElem? (i := 104) rfl)) rfl, igX1, tyX1_ok, nmX1, rfl, tyX1_ok 5 (by decide)⟩
theorem fl_Hd_58 : FLk "BangSquare$Heard" 58 6 2 := ⟨RX6, TX6, 4, rfl, by decide, gd_in (in_t1 (List.mem_of_getElem? (i := 163) rfl)) rfl, igX6⟩
theorem fp_Hd_58 : FPk "BangSquare$Heard" 58 6 2 .int := ⟨RX6, TX6, 4, tyX6, rfl, by decide, gd_in (in_t1 (List.mem_of_getElem? (i := 163) rfl)) rfl, igX6, tyX6_ok, nmX6, rfl, tyX6_ok 2 (by decide)⟩
theorem fl_Hd_86 : FLk "BangSquare$Heard" 86 6 3 := ⟨RX6, TX6, 4, rfl, by decide, gd_in (in_t1 (List.mem_of_getElem? (i := 165) rfl)) rfl, igX6⟩
theorem fp_Hd_86 : FPk "BangSquare$Heard" 86 6 3 .int := ⟨RX6, TX6, 4, tyX6, rfl, by decide, gd_in (in_t1 (List.mem_of_getElem? (i := 165) rfl)) rfl, igX6, tyX6_ok, nmX6, rfl, tyX6_ok 3 (by decide)⟩
theorem fl_Hd_92 : FLk "BangSquare$Heard" 92 1 6 := ⟨RX1, TX1, 11, rfl, by decide, gd_in (in_t1 (List.mem_of_getElem? (i := 108) rfl)) rfl, igX1⟩
theorem fp_Hd_92 : FPk "BangSquare$Heard" 92 1 6 .int := ⟨RX1, TX1, 11, tyX1, rfl, by decide, gd_in (in_t1 (List.mem_of_getElem? (i := 108) rfl)) rfl, igX1, tyX1_ok, nmX1, rfl, tyX1_ok 6 (by decide)⟩
theorem fl_Hd_95 : FLk "BangSquare$Heard" 95 1 7 := ⟨RX1, TX1, 11, rfl, by decide, gd_in (in_t1 (List.mem_of_getElem? (i := 112) rfl)) rfl, igX1⟩
theorem fp_Hd_95 : FPk "BangSquare$Heard" 95 1 7 .int := ⟨RX1, TX1, 11, tyX1, rfl, by decide, gd_in (in_t1 (List.mem_of_getElem? (i := 112) rfl)) rfl, igX1, tyX1_ok, nmX1, rfl, tyX1_ok 7 (by decide)⟩
theorem fl_Hd_98 : FLk "BangSquare$Heard" 98 8 3 := ⟨RX8, TX8, 5, rfl, by decide, gd_in (in_t1 (List.mem_of_getElem? (i := 70) rfl)) rfl, igX8⟩
theorem fl_Hd_102 : FLk "BangSquare$Heard" 102 8 4 := ⟨RX8, TX8, 5, rfl, by decide, gd_in (in_t1 (List.mem_of_getElem? (i := 72) rfl)) rfl, igX8⟩
theorem fp_Hd_102 : FPk "BangSquare$Heard" 102 8 4 .int := ⟨RX8, TX8, 5, tyX8, rfl, by decide, gd_in (in_t1 (List.mem_of_getElem? (i := 72) rfl)) rfl, igX8, tyX8_ok, nmX8, rfl, tyX8_ok 4 (by decide)⟩
theorem fl_Hd_113 : FLk "BangSquare$Heard" 113 8 0 := ⟨RX8, TX8, 5, rfl, by decide, gd_in (in_t1 (List.mem_of_getElem? (i := 64) rfl)) rfl, igX8⟩
theorem fp_Hd_113 : FPk "BangSquare$Heard" 113 8 0 .int := ⟨RX8, TX8, 5, tyX8, rfl, by decide, gd_in (in_t1 (List.mem_of_getElem? (i := 64) rfl)) rfl, igX8, tyX8_ok, nmX8, rfl, tyX8_ok 0 (by decide)⟩
theorem fl_Hd_116 : FLk "BangSquare$Heard" 116 10 4 := ⟨RX10, TX10, 5, rfl, by decide, gd_in (in_t1 (List.mem_of_getElem? (i := 50) rfl)) rfl, igX10⟩
theorem fp_Hd_116 : FPk "BangSquare$Heard" 116 10 4 .int := ⟨RX10, TX10, 5, tyX10, rfl, by decide, gd_in (in_t1 (List.mem_of_getElem? (i := 50) rfl)) rfl, igX10, tyX10_ok, nmX10, rfl, tyX10_ok 4 (by decide)⟩
theorem fl_Ns_12 : FLk "BangSquare$Noises" 12 2 0 := ⟨RX2, TX2, 7, rfl, by decide, gd_in (in_t2 (List.mem_of_getElem? (i := 151) rfl)) rfl, igX2⟩
theorem ff_Ns_12 : FFk "BangSquare$Noises" 12 2 0 (.object "BangSquare$Script") := ⟨RX2, TX2, 7, tyX2, rfl, by decide, gd_in (in_t2 (List.mem_of_getElem? (i := 151) rfl)) rfl, igX2, tyX2_ok, nmX2, rfl, rfl, tyX2_ok 0 (by decide)⟩
theorem fl_Ns_18 : FLk "BangSquare$Noises" 18 2 1 := ⟨RX2, TX2, 7, rfl, by decide, gd_in (in_t2 (List.mem_of_getElem? (i := 153) rfl)) rfl, igX2⟩
theorem ff_Ns_18 : FFk "BangSquare$Noises" 18 2 1 (.array .int) := ⟨RX2, TX2, 7, tyX2, rfl, by decide, gd_in (in_t2 (List.mem_of_getElem? (i := 153) rfl)) rfl, igX2, tyX2_ok, nmX2, rfl, rfl, tyX2_ok 1 (by decide)⟩
theorem fl_Ns_22 : FLk "BangSquare$Noises" 22 2 2 := ⟨RX2, TX2, 7, rfl, by decide, gd_in (in_t2 (List.mem_of_getElem? (i := 154) rfl)) rfl, igX2⟩
theorem ff_Ns_22 : FFk "BangSquare$Noises" 22 2 2 (.array .int) := ⟨RX2, TX2, 7, tyX2, rfl, by decide, gd_in (in_t2 (List.mem_of_getElem? (i := 154) rfl)) rfl, igX2, tyX2_ok, nmX2, rfl, rfl, tyX2_ok 2 (by decide)⟩
theorem fl_Ns_25 : FLk "BangSquare$Noises" 25 2 3 := ⟨RX2, TX2, 7, rfl, by decide, gd_in (in_t2 (List.mem_of_getElem? (i := 155) rfl)) rfl, igX2⟩
theorem ff_Ns_25 : FFk "BangSquare$Noises" 25 2 3 (.array .int) := ⟨RX2, TX2, 7, tyX2, rfl, by decide, gd_in (in_t2 (List.mem_of_getElem? (i := 155) rfl)) rfl, igX2, tyX2_ok, nmX2, rfl, rfl, tyX2_ok 3 (by decide)⟩
theorem fl_Ns_28 : FLk "BangSquare$Noises" 28 2 4 := ⟨RX2, TX2, 7, rfl, by decide, gd_in (in_t2 (List.mem_of_getElem? (i := 156) rfl)) rfl, igX2⟩
theorem ff_Ns_28 : FFk "BangSquare$Noises" 28 2 4 (.array .int) := ⟨RX2, TX2, 7, tyX2, rfl, by decide, gd_in (in_t2 (List.mem_of_getElem? (i := 156) rfl)) rfl, igX2, tyX2_ok, nmX2, rfl, rfl, tyX2_ok 4 (by decide)⟩
theorem fl_Ns_31 : FLk "BangSquare$Noises" 31 2 6 := ⟨RX2, TX2, 7, rfl, by decide, gd_in (in_t2 (List.mem_of_getElem? (i := 159) rfl)) rfl, igX2⟩
theorem ff_Ns_31 : FFk "BangSquare$Noises" 31 2 6 (.array .int) := ⟨RX2, TX2, 7, tyX2, rfl, by decide, gd_in (in_t2 (List.mem_of_getElem? (i := 159) rfl)) rfl, igX2, tyX2_ok, nmX2, rfl, rfl, tyX2_ok 6 (by decide)⟩
theorem fl_Ns_34 : FLk "BangSquare$Noises" 34 2 5 := ⟨RX2, TX2, 7, rfl, by decide, gd_in (in_t2 (List.mem_of_getElem? (i := 157) rfl)) rfl, igX2⟩
theorem fp_Ns_34 : FPk "BangSquare$Noises" 34 2 5 .int := ⟨RX2, TX2, 7, tyX2, rfl, by decide, gd_in (in_t2 (List.mem_of_getElem? (i := 157) rfl)) rfl, igX2, tyX2_ok, nmX2, rfl, tyX2_ok 5 (by decide)⟩
theorem fl_Rd_9 : FLk "BangSquare$Reader" 9 3 0 := ⟨RX3, TX3, 19, rfl, by decide, gd_in (in_t1 (List.mem_of_getElem? (i := 181) rfl)) rfl, igX3⟩
theorem ff_Rd_9 : FFk "BangSquare$Reader" 9 3 0 (.array .byte) := ⟨RX3, TX3, 19, tyX3, rfl, by decide, gd_in (in_t1 (List.mem_of_getElem? (i := 181) rfl)) rfl, igX3, tyX3_ok, nmX3, rfl, rfl, tyX3_ok 0 (by decide)⟩
theorem fl_Rd_15 : FLk "BangSquare$Reader" 15 3 3 := ⟨RX3, TX3, 19, rfl, by decide, gd_in (in_t1 (List.mem_of_getElem? (i := 186) rfl)) rfl, igX3⟩
theorem fp_Rd_15 : FPk "BangSquare$Reader" 15 3 3 .int := ⟨RX3, TX3, 19, tyX3, rfl, by decide, gd_in (in_t1 (List.mem_of_getElem? (i := 186) rfl)) rfl, igX3, tyX3_ok, nmX3, rfl, tyX3_ok 3 (by decide)⟩
theorem fl_Rd_19 : FLk "BangSquare$Reader" 19 3 15 := ⟨RX3, TX3, 19, rfl, by decide, gd_in (in_t1 (List.mem_of_getElem? (i := 199) rfl)) rfl, igX3⟩
theorem ff_Rd_19 : FFk "BangSquare$Reader" 19 3 15 (.array .int) := ⟨RX3, TX3, 19, tyX3, rfl, by decide, gd_in (in_t1 (List.mem_of_getElem? (i := 199) rfl)) rfl, igX3, tyX3_ok, nmX3, rfl, rfl, tyX3_ok 15 (by decide)⟩
theorem fl_Rd_23 : FLk "BangSquare$Reader" 23 3 17 := ⟨RX3, TX3, 19, rfl, by decide, gd_in (in_t1 (List.mem_of_getElem? (i := 201) rfl)) rfl, igX3⟩
theorem ff_Rd_23 : FFk "BangSquare$Reader" 23 3 17 (.array .int) := ⟨RX3, TX3, 19, tyX3, rfl, by decide, gd_in (in_t1 (List.mem_of_getElem? (i := 201) rfl)) rfl, igX3, tyX3_ok, nmX3, rfl, rfl, tyX3_ok 17 (by decide)⟩
theorem fl_Rd_26 : FLk "BangSquare$Reader" 26 3 1 := ⟨RX3, TX3, 19, rfl, by decide, gd_in (in_t1 (List.mem_of_getElem? (i := 182) rfl)) rfl, igX3⟩
theorem fp_Rd_26 : FPk "BangSquare$Reader" 26 3 1 .int := ⟨RX3, TX3, 19, tyX3, rfl, by decide, gd_in (in_t1 (List.mem_of_getElem? (i := 182) rfl)) rfl, igX3, tyX3_ok, nmX3, rfl, tyX3_ok 1 (by decide)⟩
theorem fl_Rd_29 : FLk "BangSquare$Reader" 29 3 2 := ⟨RX3, TX3, 19, rfl, by decide, gd_in (in_t1 (List.mem_of_getElem? (i := 184) rfl)) rfl, igX3⟩
theorem fp_Rd_29 : FPk "BangSquare$Reader" 29 3 2 .int := ⟨RX3, TX3, 19, tyX3, rfl, by decide, gd_in (in_t1 (List.mem_of_getElem? (i := 184) rfl)) rfl, igX3, tyX3_ok, nmX3, rfl, tyX3_ok 2 (by decide)⟩
theorem fl_Rd_39 : FLk "BangSquare$Reader" 39 3 6 := ⟨RX3, TX3, 19, rfl, by decide, gd_in (in_t1 (List.mem_of_getElem? (i := 190) rfl)) rfl, igX3⟩
theorem fp_Rd_39 : FPk "BangSquare$Reader" 39 3 6 .int := ⟨RX3, TX3, 19, tyX3, rfl, by decide, gd_in (in_t1 (List.mem_of_getElem? (i := 190) rfl)) rfl, igX3, tyX3_ok, nmX3, rfl, tyX3_ok 6 (by decide)⟩
theorem fl_Rd_42 : FLk "BangSquare$Reader" 42 3 9 := ⟨RX3, TX3, 19, rfl, by decide, gd_in (in_t1 (List.mem_of_getElem? (i := 193) rfl)) rfl, igX3⟩
theorem fp_Rd_42 : FPk "BangSquare$Reader" 42 3 9 .int := ⟨RX3, TX3, 19, tyX3, rfl, by decide, gd_in (in_t1 (List.mem_of_getElem? (i := 193) rfl)) rfl, igX3, tyX3_ok, nmX3, rfl, tyX3_ok 9 (by decide)⟩
theorem fl_Rd_49 : FLk "BangSquare$Reader" 49 3 8 := ⟨RX3, TX3, 19, rfl, by decide, gd_in (in_t1 (List.mem_of_getElem? (i := 192) rfl)) rfl, igX3⟩
theorem fp_Rd_49 : FPk "BangSquare$Reader" 49 3 8 .int := ⟨RX3, TX3, 19, tyX3, rfl, by decide, gd_in (in_t1 (List.mem_of_getElem? (i := 192) rfl)) rfl, igX3, tyX3_ok, nmX3, rfl, tyX3_ok 8 (by decide)⟩
theorem fl_Rd_52 : FLk "BangSquare$Reader" 52 3 18 := ⟨RX3, TX3, 19, rfl, by decide, gd_in (in_t1 (List.mem_of_getElem? (i := 202) rfl)) rfl, igX3⟩
theorem fp_Rd_52 : FPk "BangSquare$Reader" 52 3 18 .int := ⟨RX3, TX3, 19, tyX3, rfl, by decide, gd_in (in_t1 (List.mem_of_getElem? (i := 202) rfl)) rfl, igX3, tyX3_ok, nmX3, rfl, tyX3_ok 18 (by decide)⟩
theorem fl_Rd_61 : FLk "BangSquare$Reader" 61 5 0 := ⟨RX5, TX5, 3, rfl, by decide, gd_in (in_t2 (List.mem_of_getElem? (i := 17) rfl)) rfl, igX5⟩
theorem fp_Rd_61 : FPk "BangSquare$Reader" 61 5 0 (.array .int) := ⟨RX5, TX5, 3, tyX5, rfl, by decide, gd_in (in_t2 (List.mem_of_getElem? (i := 17) rfl)) rfl, igX5, tyX5_ok, nmX5, rfl, tyX5_ok 0 (by decide)⟩
theorem fl_Rd_64 : FLk "BangSquare$Reader" 64 3 11 := ⟨RX3, TX3, 19, rfl, by decide, gd_in (in_t1 (List.mem_of_getElem? (i := 195) rfl)) rfl, igX3⟩
theorem fp_Rd_64 : FPk "BangSquare$Reader" 64 3 11 .int := ⟨RX3, TX3, 19, tyX3, rfl, by decide, gd_in (in_t1 (List.mem_of_getElem? (i := 195) rfl)) rfl, igX3, tyX3_ok, nmX3, rfl, tyX3_ok 11 (by decide)⟩
theorem fl_Rd_67 : FLk "BangSquare$Reader" 67 3 4 := ⟨RX3, TX3, 19, rfl, by decide, gd_in (in_t1 (List.mem_of_getElem? (i := 188) rfl)) rfl, igX3⟩
theorem fp_Rd_67 : FPk "BangSquare$Reader" 67 3 4 .boolean := ⟨RX3, TX3, 19, tyX3, rfl, by decide, gd_in (in_t1 (List.mem_of_getElem? (i := 188) rfl)) rfl, igX3, tyX3_ok, nmX3, rfl, tyX3_ok 4 (by decide)⟩
theorem fl_Rd_71 : FLk "BangSquare$Reader" 71 3 5 := ⟨RX3, TX3, 19, rfl, by decide, gd_in (in_t1 (List.mem_of_getElem? (i := 189) rfl)) rfl, igX3⟩
theorem fp_Rd_71 : FPk "BangSquare$Reader" 71 3 5 .int := ⟨RX3, TX3, 19, tyX3, rfl, by decide, gd_in (in_t1 (List.mem_of_getElem? (i := 189) rfl)) rfl, igX3, tyX3_ok, nmX3, rfl, tyX3_ok 5 (by decide)⟩
theorem fl_Rd_74 : FLk "BangSquare$Reader" 74 3 13 := ⟨RX3, TX3, 19, rfl, by decide, gd_in (in_t1 (List.mem_of_getElem? (i := 197) rfl)) rfl, igX3⟩
theorem fp_Rd_74 : FPk "BangSquare$Reader" 74 3 13 .int := ⟨RX3, TX3, 19, tyX3, rfl, by decide, gd_in (in_t1 (List.mem_of_getElem? (i := 197) rfl)) rfl, igX3, tyX3_ok, nmX3, rfl, tyX3_ok 13 (by decide)⟩
theorem fl_Rd_77 : FLk "BangSquare$Reader" 77 3 14 := ⟨RX3, TX3, 19, rfl, by decide, gd_in (in_t1 (List.mem_of_getElem? (i := 198) rfl)) rfl, igX3⟩
theorem fp_Rd_77 : FPk "BangSquare$Reader" 77 3 14 .int := ⟨RX3, TX3, 19, tyX3, rfl, by decide, gd_in (in_t1 (List.mem_of_getElem? (i := 198) rfl)) rfl, igX3, tyX3_ok, nmX3, rfl, tyX3_ok 14 (by decide)⟩
theorem fl_Rd_80 : FLk "BangSquare$Reader" 80 3 16 := ⟨RX3, TX3, 19, rfl, by decide, gd_in (in_t1 (List.mem_of_getElem? (i := 200) rfl)) rfl, igX3⟩
theorem fp_Rd_80 : FPk "BangSquare$Reader" 80 3 16 .int := ⟨RX3, TX3, 19, tyX3, rfl, by decide, gd_in (in_t1 (List.mem_of_getElem? (i := 200) rfl)) rfl, igX3, tyX3_ok, nmX3, rfl, tyX3_ok 16 (by decide)⟩
theorem fl_Rd_121 : FLk "BangSquare$Reader" 121 3 7 := ⟨RX3, TX3, 19, rfl, by decide, gd_in (in_t1 (List.mem_of_getElem? (i := 191) rfl)) rfl, igX3⟩
theorem fp_Rd_121 : FPk "BangSquare$Reader" 121 3 7 .int := ⟨RX3, TX3, 19, tyX3, rfl, by decide, gd_in (in_t1 (List.mem_of_getElem? (i := 191) rfl)) rfl, igX3, tyX3_ok, nmX3, rfl, tyX3_ok 7 (by decide)⟩
theorem fl_Rd_152 : FLk "BangSquare$Reader" 152 3 12 := ⟨RX3, TX3, 19, rfl, by decide, gd_in (in_t1 (List.mem_of_getElem? (i := 196) rfl)) rfl, igX3⟩
theorem fp_Rd_152 : FPk "BangSquare$Reader" 152 3 12 .int := ⟨RX3, TX3, 19, tyX3, rfl, by decide, gd_in (in_t1 (List.mem_of_getElem? (i := 196) rfl)) rfl, igX3, tyX3_ok, nmX3, rfl, tyX3_ok 12 (by decide)⟩
theorem fl_Rd_155 : FLk "BangSquare$Reader" 155 3 10 := ⟨RX3, TX3, 19, rfl, by decide, gd_in (in_t1 (List.mem_of_getElem? (i := 194) rfl)) rfl, igX3⟩
theorem fp_Rd_155 : FPk "BangSquare$Reader" 155 3 10 .boolean := ⟨RX3, TX3, 19, tyX3, rfl, by decide, gd_in (in_t1 (List.mem_of_getElem? (i := 194) rfl)) rfl, igX3, tyX3_ok, nmX3, rfl, tyX3_ok 10 (by decide)⟩
theorem fl_Rf_9 : FLk "BangSquare$Roofs" 9 4 0 := ⟨RX4, TX4, 4, rfl, by decide, gd_in (in_t2 (List.mem_of_getElem? (i := 181) rfl)) rfl, igX4⟩
theorem ff_Rf_9 : FFk "BangSquare$Roofs" 9 4 0 (.object "BangSquare$Square") := ⟨RX4, TX4, 4, tyX4, rfl, by decide, gd_in (in_t2 (List.mem_of_getElem? (i := 181) rfl)) rfl, igX4, tyX4_ok, nmX4, rfl, rfl, tyX4_ok 0 (by decide)⟩
theorem fl_Rf_15 : FLk "BangSquare$Roofs" 15 4 1 := ⟨RX4, TX4, 4, rfl, by decide, gd_in (in_t2 (List.mem_of_getElem? (i := 182) rfl)) rfl, igX4⟩
theorem ff_Rf_15 : FFk "BangSquare$Roofs" 15 4 1 (.array .int) := ⟨RX4, TX4, 4, tyX4, rfl, by decide, gd_in (in_t2 (List.mem_of_getElem? (i := 182) rfl)) rfl, igX4, tyX4_ok, nmX4, rfl, rfl, tyX4_ok 1 (by decide)⟩
theorem fl_Rf_19 : FLk "BangSquare$Roofs" 19 4 2 := ⟨RX4, TX4, 4, rfl, by decide, gd_in (in_t2 (List.mem_of_getElem? (i := 183) rfl)) rfl, igX4⟩
theorem ff_Rf_19 : FFk "BangSquare$Roofs" 19 4 2 (.array .int) := ⟨RX4, TX4, 4, tyX4, rfl, by decide, gd_in (in_t2 (List.mem_of_getElem? (i := 183) rfl)) rfl, igX4, tyX4_ok, nmX4, rfl, rfl, tyX4_ok 2 (by decide)⟩
theorem fl_Rf_22 : FLk "BangSquare$Roofs" 22 4 3 := ⟨RX4, TX4, 4, rfl, by decide, gd_in (in_t2 (List.mem_of_getElem? (i := 184) rfl)) rfl, igX4⟩
theorem ff_Rf_22 : FFk "BangSquare$Roofs" 22 4 3 (.array .long) := ⟨RX4, TX4, 4, tyX4, rfl, by decide, gd_in (in_t2 (List.mem_of_getElem? (i := 184) rfl)) rfl, igX4, tyX4_ok, nmX4, rfl, rfl, tyX4_ok 3 (by decide)⟩
theorem fl_Sc_9 : FLk "BangSquare$Script" 9 5 0 := ⟨RX5, TX5, 3, rfl, by decide, gd_in (in_t2 (List.mem_of_getElem? (i := 16) rfl)) rfl, igX5⟩
theorem fp_Sc_9 : FPk "BangSquare$Script" 9 5 0 (.array .int) := ⟨RX5, TX5, 3, tyX5, rfl, by decide, gd_in (in_t2 (List.mem_of_getElem? (i := 16) rfl)) rfl, igX5, tyX5_ok, nmX5, rfl, tyX5_ok 0 (by decide)⟩
theorem fl_Sc_13 : FLk "BangSquare$Script" 13 5 1 := ⟨RX5, TX5, 3, rfl, by decide, gd_in (in_t2 (List.mem_of_getElem? (i := 18) rfl)) rfl, igX5⟩
theorem ff_Sc_13 : FFk "BangSquare$Script" 13 5 1 (.array .int) := ⟨RX5, TX5, 3, tyX5, rfl, by decide, gd_in (in_t2 (List.mem_of_getElem? (i := 18) rfl)) rfl, igX5, tyX5_ok, nmX5, rfl, rfl, tyX5_ok 1 (by decide)⟩
theorem fl_Sc_16 : FLk "BangSquare$Script" 16 5 2 := ⟨RX5, TX5, 3, rfl, by decide, gd_in (in_t2 (List.mem_of_getElem? (i := 19) rfl)) rfl, igX5⟩
theorem fp_Sc_16 : FPk "BangSquare$Script" 16 5 2 .int := ⟨RX5, TX5, 3, tyX5, rfl, by decide, gd_in (in_t2 (List.mem_of_getElem? (i := 19) rfl)) rfl, igX5, tyX5_ok, nmX5, rfl, tyX5_ok 2 (by decide)⟩
theorem fl_Sh_9 : FLk "BangSquare$Shot" 9 6 2 := ⟨RX6, TX6, 4, rfl, by decide, gd_in (in_t1 (List.mem_of_getElem? (i := 162) rfl)) rfl, igX6⟩
theorem fp_Sh_9 : FPk "BangSquare$Shot" 9 6 2 .int := ⟨RX6, TX6, 4, tyX6, rfl, by decide, gd_in (in_t1 (List.mem_of_getElem? (i := 162) rfl)) rfl, igX6, tyX6_ok, nmX6, rfl, tyX6_ok 2 (by decide)⟩
theorem fl_Sh_15 : FLk "BangSquare$Shot" 15 6 0 := ⟨RX6, TX6, 4, rfl, by decide, gd_in (in_t1 (List.mem_of_getElem? (i := 157) rfl)) rfl, igX6⟩
theorem fp_Sh_15 : FPk "BangSquare$Shot" 15 6 0 .int := ⟨RX6, TX6, 4, tyX6, rfl, by decide, gd_in (in_t1 (List.mem_of_getElem? (i := 157) rfl)) rfl, igX6, tyX6_ok, nmX6, rfl, tyX6_ok 0 (by decide)⟩
theorem fl_Sh_18 : FLk "BangSquare$Shot" 18 6 1 := ⟨RX6, TX6, 4, rfl, by decide, gd_in (in_t1 (List.mem_of_getElem? (i := 160) rfl)) rfl, igX6⟩
theorem fp_Sh_18 : FPk "BangSquare$Shot" 18 6 1 .int := ⟨RX6, TX6, 4, tyX6, rfl, by decide, gd_in (in_t1 (List.mem_of_getElem? (i := 160) rfl)) rfl, igX6, tyX6_ok, nmX6, rfl, tyX6_ok 1 (by decide)⟩
theorem fl_Sh_21 : FLk "BangSquare$Shot" 21 6 3 := ⟨RX6, TX6, 4, rfl, by decide, gd_in (in_t1 (List.mem_of_getElem? (i := 164) rfl)) rfl, igX6⟩
theorem fp_Sh_21 : FPk "BangSquare$Shot" 21 6 3 .int := ⟨RX6, TX6, 4, tyX6, rfl, by decide, gd_in (in_t1 (List.mem_of_getElem? (i := 164) rfl)) rfl, igX6, tyX6_ok, nmX6, rfl, tyX6_ok 3 (by decide)⟩
theorem fl_Sp_15 : FLk "BangSquare$Spans" 15 7 0 := ⟨RX7, TX7, 4, rfl, by decide, gd_in (in_t2 (List.mem_of_getElem? (i := 71) rfl)) rfl, igX7⟩
theorem ff_Sp_15 : FFk "BangSquare$Spans" 15 7 0 (.array .int) := ⟨RX7, TX7, 4, tyX7, rfl, by decide, gd_in (in_t2 (List.mem_of_getElem? (i := 71) rfl)) rfl, igX7, tyX7_ok, nmX7, rfl, rfl, tyX7_ok 0 (by decide)⟩
theorem fl_Sp_21 : FLk "BangSquare$Spans" 21 7 1 := ⟨RX7, TX7, 4, rfl, by decide, gd_in (in_t2 (List.mem_of_getElem? (i := 73) rfl)) rfl, igX7⟩
theorem ff_Sp_21 : FFk "BangSquare$Spans" 21 7 1 (.array .int) := ⟨RX7, TX7, 4, tyX7, rfl, by decide, gd_in (in_t2 (List.mem_of_getElem? (i := 73) rfl)) rfl, igX7, tyX7_ok, nmX7, rfl, rfl, tyX7_ok 1 (by decide)⟩
theorem fl_Sp_24 : FLk "BangSquare$Spans" 24 7 2 := ⟨RX7, TX7, 4, rfl, by decide, gd_in (in_t2 (List.mem_of_getElem? (i := 75) rfl)) rfl, igX7⟩
theorem ff_Sp_24 : FFk "BangSquare$Spans" 24 7 2 (.array .int) := ⟨RX7, TX7, 4, tyX7, rfl, by decide, gd_in (in_t2 (List.mem_of_getElem? (i := 75) rfl)) rfl, igX7, tyX7_ok, nmX7, rfl, rfl, tyX7_ok 2 (by decide)⟩
theorem fl_Sp_27 : FLk "BangSquare$Spans" 27 7 3 := ⟨RX7, TX7, 4, rfl, by decide, gd_in (in_t2 (List.mem_of_getElem? (i := 77) rfl)) rfl, igX7⟩
theorem fp_Sp_27 : FPk "BangSquare$Spans" 27 7 3 .int := ⟨RX7, TX7, 4, tyX7, rfl, by decide, gd_in (in_t2 (List.mem_of_getElem? (i := 77) rfl)) rfl, igX7, tyX7_ok, nmX7, rfl, tyX7_ok 3 (by decide)⟩
theorem fl_Sq_9 : FLk "BangSquare$Square" 9 8 0 := ⟨RX8, TX8, 5, rfl, by decide, gd_in (in_t1 (List.mem_of_getElem? (i := 62) rfl)) rfl, igX8⟩
theorem fp_Sq_9 : FPk "BangSquare$Square" 9 8 0 .int := ⟨RX8, TX8, 5, tyX8, rfl, by decide, gd_in (in_t1 (List.mem_of_getElem? (i := 62) rfl)) rfl, igX8, tyX8_ok, nmX8, rfl, tyX8_ok 0 (by decide)⟩
theorem fl_Sq_17 : FLk "BangSquare$Square" 17 8 3 := ⟨RX8, TX8, 5, rfl, by decide, gd_in (in_t1 (List.mem_of_getElem? (i := 69) rfl)) rfl, igX8⟩
theorem ff_Sq_17 : FFk "BangSquare$Square" 17 8 3 (.array (.object "BangSquare$Wall")) := ⟨RX8, TX8, 5, tyX8, rfl, by decide, gd_in (in_t1 (List.mem_of_getElem? (i := 69) rfl)) rfl, igX8, tyX8_ok, nmX8, rfl, rfl, tyX8_ok 3 (by decide)⟩
theorem fl_Sq_29 : FLk "BangSquare$Square" 29 8 1 := ⟨RX8, TX8, 5, rfl, by decide, gd_in (in_t1 (List.mem_of_getElem? (i := 65) rfl)) rfl, igX8⟩
theorem fp_Sq_29 : FPk "BangSquare$Square" 29 8 1 .int := ⟨RX8, TX8, 5, tyX8, rfl, by decide, gd_in (in_t1 (List.mem_of_getElem? (i := 65) rfl)) rfl, igX8, tyX8_ok, nmX8, rfl, tyX8_ok 1 (by decide)⟩
theorem fl_Sq_32 : FLk "BangSquare$Square" 32 8 2 := ⟨RX8, TX8, 5, rfl, by decide, gd_in (in_t1 (List.mem_of_getElem? (i := 67) rfl)) rfl, igX8⟩
theorem fp_Sq_32 : FPk "BangSquare$Square" 32 8 2 .int := ⟨RX8, TX8, 5, tyX8, rfl, by decide, gd_in (in_t1 (List.mem_of_getElem? (i := 67) rfl)) rfl, igX8, tyX8_ok, nmX8, rfl, tyX8_ok 2 (by decide)⟩
theorem fl_Tp_9 : FLk "BangSquare$Tape" 9 9 0 := ⟨RX9, TX9, 12, rfl, by decide, gd_in (in_t2 (List.mem_of_getElem? (i := 99) rfl)) rfl, igX9⟩
theorem ff_Tp_9 : FFk "BangSquare$Tape" 9 9 0 (.object "BangSquare$Heard") := ⟨RX9, TX9, 12, tyX9, rfl, by decide, gd_in (in_t2 (List.mem_of_getElem? (i := 99) rfl)) rfl, igX9, tyX9_ok, nmX9, rfl, rfl, tyX9_ok 0 (by decide)⟩
theorem fl_Tp_15 : FLk "BangSquare$Tape" 15 9 1 := ⟨RX9, TX9, 12, rfl, by decide, gd_in (in_t2 (List.mem_of_getElem? (i := 100) rfl)) rfl, igX9⟩
theorem ff_Tp_15 : FFk "BangSquare$Tape" 15 9 1 (.array .int) := ⟨RX9, TX9, 12, tyX9, rfl, by decide, gd_in (in_t2 (List.mem_of_getElem? (i := 100) rfl)) rfl, igX9, tyX9_ok, nmX9, rfl, rfl, tyX9_ok 1 (by decide)⟩
theorem fl_Tp_19 : FLk "BangSquare$Tape" 19 9 2 := ⟨RX9, TX9, 12, rfl, by decide, gd_in (in_t2 (List.mem_of_getElem? (i := 101) rfl)) rfl, igX9⟩
theorem ff_Tp_19 : FFk "BangSquare$Tape" 19 9 2 (.array .int) := ⟨RX9, TX9, 12, tyX9, rfl, by decide, gd_in (in_t2 (List.mem_of_getElem? (i := 101) rfl)) rfl, igX9, tyX9_ok, nmX9, rfl, rfl, tyX9_ok 2 (by decide)⟩
theorem fl_Tp_27 : FLk "BangSquare$Tape" 27 9 4 := ⟨RX9, TX9, 12, rfl, by decide, gd_in (in_t2 (List.mem_of_getElem? (i := 104) rfl)) rfl, igX9⟩
theorem ff_Tp_27 : FFk "BangSquare$Tape" 27 9 4 (.object "BangSquare$Spans") := ⟨RX9, TX9, 12, tyX9, rfl, by decide, gd_in (in_t2 (List.mem_of_getElem? (i := 104) rfl)) rfl, igX9, tyX9_ok, nmX9, rfl, rfl, tyX9_ok 4 (by decide)⟩
theorem fl_Tp_34 : FLk "BangSquare$Tape" 34 9 5 := ⟨RX9, TX9, 12, rfl, by decide, gd_in (in_t2 (List.mem_of_getElem? (i := 106) rfl)) rfl, igX9⟩
theorem ff_Tp_34 : FFk "BangSquare$Tape" 34 9 5 (.object "BangSquare$Shot") := ⟨RX9, TX9, 12, tyX9, rfl, by decide, gd_in (in_t2 (List.mem_of_getElem? (i := 106) rfl)) rfl, igX9, tyX9_ok, nmX9, rfl, rfl, tyX9_ok 5 (by decide)⟩
theorem fl_Tp_38 : FLk "BangSquare$Tape" 38 9 6 := ⟨RX9, TX9, 12, rfl, by decide, gd_in (in_t2 (List.mem_of_getElem? (i := 107) rfl)) rfl, igX9⟩
theorem ff_Tp_38 : FFk "BangSquare$Tape" 38 9 6 (.array .int) := ⟨RX9, TX9, 12, tyX9, rfl, by decide, gd_in (in_t2 (List.mem_of_getElem? (i := 107) rfl)) rfl, igX9, tyX9_ok, nmX9, rfl, rfl, tyX9_ok 6 (by decide)⟩
theorem fl_Tp_41 : FLk "BangSquare$Tape" 41 9 3 := ⟨RX9, TX9, 12, rfl, by decide, gd_in (in_t2 (List.mem_of_getElem? (i := 102) rfl)) rfl, igX9⟩
theorem fp_Tp_41 : FPk "BangSquare$Tape" 41 9 3 .int := ⟨RX9, TX9, 12, tyX9, rfl, by decide, gd_in (in_t2 (List.mem_of_getElem? (i := 102) rfl)) rfl, igX9, tyX9_ok, nmX9, rfl, tyX9_ok 3 (by decide)⟩
theorem fl_Tp_51 : FLk "BangSquare$Tape" 51 1 8 := ⟨RX1, TX1, 11, rfl, by decide, gd_in (in_t1 (List.mem_of_getElem? (i := 114) rfl)) rfl, igX1⟩
theorem fl_Tp_56 : FLk "BangSquare$Tape" 56 1 2 := ⟨RX1, TX1, 11, rfl, by decide, gd_in (in_t1 (List.mem_of_getElem? (i := 96) rfl)) rfl, igX1⟩
theorem fp_Tp_56 : FPk "BangSquare$Tape" 56 1 2 .int := ⟨RX1, TX1, 11, tyX1, rfl, by decide, gd_in (in_t1 (List.mem_of_getElem? (i := 96) rfl)) rfl, igX1, tyX1_ok, nmX1, rfl, tyX1_ok 2 (by decide)⟩
theorem fl_Tp_67 : FLk "BangSquare$Tape" 67 9 7 := ⟨RX9, TX9, 12, rfl, by decide, gd_in (in_t2 (List.mem_of_getElem? (i := 108) rfl)) rfl, igX9⟩
theorem fp_Tp_67 : FPk "BangSquare$Tape" 67 9 7 .int := ⟨RX9, TX9, 12, tyX9, rfl, by decide, gd_in (in_t2 (List.mem_of_getElem? (i := 108) rfl)) rfl, igX9, tyX9_ok, nmX9, rfl, tyX9_ok 7 (by decide)⟩
theorem fl_Tp_70 : FLk "BangSquare$Tape" 70 1 6 := ⟨RX1, TX1, 11, rfl, by decide, gd_in (in_t1 (List.mem_of_getElem? (i := 109) rfl)) rfl, igX1⟩
theorem fp_Tp_70 : FPk "BangSquare$Tape" 70 1 6 .int := ⟨RX1, TX1, 11, tyX1, rfl, by decide, gd_in (in_t1 (List.mem_of_getElem? (i := 109) rfl)) rfl, igX1, tyX1_ok, nmX1, rfl, tyX1_ok 6 (by decide)⟩
theorem fl_Tp_73 : FLk "BangSquare$Tape" 73 9 8 := ⟨RX9, TX9, 12, rfl, by decide, gd_in (in_t2 (List.mem_of_getElem? (i := 110) rfl)) rfl, igX9⟩
theorem fp_Tp_73 : FPk "BangSquare$Tape" 73 9 8 .int := ⟨RX9, TX9, 12, tyX9, rfl, by decide, gd_in (in_t2 (List.mem_of_getElem? (i := 110) rfl)) rfl, igX9, tyX9_ok, nmX9, rfl, tyX9_ok 8 (by decide)⟩
theorem fl_Tp_76 : FLk "BangSquare$Tape" 76 1 10 := ⟨RX1, TX1, 11, rfl, by decide, gd_in (in_t1 (List.mem_of_getElem? (i := 121) rfl)) rfl, igX1⟩
theorem fl_Tp_86 : FLk "BangSquare$Tape" 86 9 9 := ⟨RX9, TX9, 12, rfl, by decide, gd_in (in_t2 (List.mem_of_getElem? (i := 112) rfl)) rfl, igX9⟩
theorem fp_Tp_86 : FPk "BangSquare$Tape" 86 9 9 .int := ⟨RX9, TX9, 12, tyX9, rfl, by decide, gd_in (in_t2 (List.mem_of_getElem? (i := 112) rfl)) rfl, igX9, tyX9_ok, nmX9, rfl, tyX9_ok 9 (by decide)⟩
theorem fl_Tp_89 : FLk "BangSquare$Tape" 89 9 10 := ⟨RX9, TX9, 12, rfl, by decide, gd_in (in_t2 (List.mem_of_getElem? (i := 114) rfl)) rfl, igX9⟩
theorem fp_Tp_89 : FPk "BangSquare$Tape" 89 9 10 .int := ⟨RX9, TX9, 12, tyX9, rfl, by decide, gd_in (in_t2 (List.mem_of_getElem? (i := 114) rfl)) rfl, igX9, tyX9_ok, nmX9, rfl, tyX9_ok 10 (by decide)⟩
theorem fl_Tp_92 : FLk "BangSquare$Tape" 92 9 11 := ⟨RX9, TX9, 12, rfl, by decide, gd_in (in_t2 (List.mem_of_getElem? (i := 116) rfl)) rfl, igX9⟩
theorem fp_Tp_92 : FPk "BangSquare$Tape" 92 9 11 .int := ⟨RX9, TX9, 12, tyX9, rfl, by decide, gd_in (in_t2 (List.mem_of_getElem? (i := 116) rfl)) rfl, igX9, tyX9_ok, nmX9, rfl, tyX9_ok 11 (by decide)⟩
theorem fl_Wl_9 : FLk "BangSquare$Wall" 9 10 0 := ⟨RX10, TX10, 5, rfl, by decide, gd_in (in_t1 (List.mem_of_getElem? (i := 45) rfl)) rfl, igX10⟩
theorem fp_Wl_9 : FPk "BangSquare$Wall" 9 10 0 .boolean := ⟨RX10, TX10, 5, tyX10, rfl, by decide, gd_in (in_t1 (List.mem_of_getElem? (i := 45) rfl)) rfl, igX10, tyX10_ok, nmX10, rfl, tyX10_ok 0 (by decide)⟩
theorem fl_Wl_15 : FLk "BangSquare$Wall" 15 10 1 := ⟨RX10, TX10, 5, rfl, by decide, gd_in (in_t1 (List.mem_of_getElem? (i := 46) rfl)) rfl, igX10⟩
theorem fp_Wl_15 : FPk "BangSquare$Wall" 15 10 1 .int := ⟨RX10, TX10, 5, tyX10, rfl, by decide, gd_in (in_t1 (List.mem_of_getElem? (i := 46) rfl)) rfl, igX10, tyX10_ok, nmX10, rfl, tyX10_ok 1 (by decide)⟩
theorem fl_Wl_19 : FLk "BangSquare$Wall" 19 10 2 := ⟨RX10, TX10, 5, rfl, by decide, gd_in (in_t1 (List.mem_of_getElem? (i := 47) rfl)) rfl, igX10⟩
theorem fp_Wl_19 : FPk "BangSquare$Wall" 19 10 2 .int := ⟨RX10, TX10, 5, tyX10, rfl, by decide, gd_in (in_t1 (List.mem_of_getElem? (i := 47) rfl)) rfl, igX10, tyX10_ok, nmX10, rfl, tyX10_ok 2 (by decide)⟩
theorem fl_Wl_22 : FLk "BangSquare$Wall" 22 10 3 := ⟨RX10, TX10, 5, rfl, by decide, gd_in (in_t1 (List.mem_of_getElem? (i := 48) rfl)) rfl, igX10⟩
theorem fp_Wl_22 : FPk "BangSquare$Wall" 22 10 3 .int := ⟨RX10, TX10, 5, tyX10, rfl, by decide, gd_in (in_t1 (List.mem_of_getElem? (i := 48) rfl)) rfl, igX10, tyX10_ok, nmX10, rfl, tyX10_ok 3 (by decide)⟩
theorem fl_Wl_25 : FLk "BangSquare$Wall" 25 10 4 := ⟨RX10, TX10, 5, rfl, by decide, gd_in (in_t1 (List.mem_of_getElem? (i := 49) rfl)) rfl, igX10⟩
theorem fp_Wl_25 : FPk "BangSquare$Wall" 25 10 4 .int := ⟨RX10, TX10, 5, tyX10, rfl, by decide, gd_in (in_t1 (List.mem_of_getElem? (i := 49) rfl)) rfl, igX10, tyX10_ok, nmX10, rfl, tyX10_ok 4 (by decide)⟩
theorem fl_M_7 : FLk "BangSquareModel" 7 12 1 := ⟨RX12, TX12, 74, rfl, by decide, gd_in (in_t5 (List.mem_of_getElem? (i := 140) rfl)) rfl, igX12⟩
theorem fp_M_7 : FPk "BangSquareModel" 7 12 1 .int := ⟨RX12, TX12, 74, tyX12, rfl, by decide, gd_in (in_t5 (List.mem_of_getElem? (i := 140) rfl)) rfl, igX12, tyX12_ok, nmX12, rfl, tyX12_ok 1 (by decide)⟩
theorem fl_M_13 : FLk "BangSquareModel" 13 12 4 := ⟨RX12, TX12, 74, rfl, by decide, gd_in (in_t5 (List.mem_of_getElem? (i := 143) rfl)) rfl, igX12⟩
theorem fp_M_13 : FPk "BangSquareModel" 13 12 4 .int := ⟨RX12, TX12, 74, tyX12, rfl, by decide, gd_in (in_t5 (List.mem_of_getElem? (i := 143) rfl)) rfl, igX12, tyX12_ok, nmX12, rfl, tyX12_ok 4 (by decide)⟩
theorem fl_M_16 : FLk "BangSquareModel" 16 12 6 := ⟨RX12, TX12, 74, rfl, by decide, gd_in (in_t5 (List.mem_of_getElem? (i := 145) rfl)) rfl, igX12⟩
theorem ff_M_16 : FFk "BangSquareModel" 16 12 6 (.array .boolean) := ⟨RX12, TX12, 74, tyX12, rfl, by decide, gd_in (in_t5 (List.mem_of_getElem? (i := 145) rfl)) rfl, igX12, tyX12_ok, nmX12, rfl, rfl, tyX12_ok 6 (by decide)⟩
theorem fl_M_20 : FLk "BangSquareModel" 20 12 7 := ⟨RX12, TX12, 74, rfl, by decide, gd_in (in_t5 (List.mem_of_getElem? (i := 146) rfl)) rfl, igX12⟩
theorem ff_M_20 : FFk "BangSquareModel" 20 12 7 (.array .int) := ⟨RX12, TX12, 74, tyX12, rfl, by decide, gd_in (in_t5 (List.mem_of_getElem? (i := 146) rfl)) rfl, igX12, tyX12_ok, nmX12, rfl, rfl, tyX12_ok 7 (by decide)⟩
theorem fl_M_24 : FLk "BangSquareModel" 24 12 8 := ⟨RX12, TX12, 74, rfl, by decide, gd_in (in_t5 (List.mem_of_getElem? (i := 147) rfl)) rfl, igX12⟩
theorem ff_M_24 : FFk "BangSquareModel" 24 12 8 (.array .int) := ⟨RX12, TX12, 74, tyX12, rfl, by decide, gd_in (in_t5 (List.mem_of_getElem? (i := 147) rfl)) rfl, igX12, tyX12_ok, nmX12, rfl, rfl, tyX12_ok 8 (by decide)⟩
theorem fl_M_27 : FLk "BangSquareModel" 27 12 9 := ⟨RX12, TX12, 74, rfl, by decide, gd_in (in_t5 (List.mem_of_getElem? (i := 148) rfl)) rfl, igX12⟩
theorem ff_M_27 : FFk "BangSquareModel" 27 12 9 (.array .int) := ⟨RX12, TX12, 74, tyX12, rfl, by decide, gd_in (in_t5 (List.mem_of_getElem? (i := 148) rfl)) rfl, igX12, tyX12_ok, nmX12, rfl, rfl, tyX12_ok 9 (by decide)⟩
theorem fl_M_30 : FLk "BangSquareModel" 30 12 10 := ⟨RX12, TX12, 74, rfl, by decide, gd_in (in_t5 (List.mem_of_getElem? (i := 149) rfl)) rfl, igX12⟩
theorem ff_M_30 : FFk "BangSquareModel" 30 12 10 (.array .int) := ⟨RX12, TX12, 74, tyX12, rfl, by decide, gd_in (in_t5 (List.mem_of_getElem? (i := 149) rfl)) rfl, igX12, tyX12_ok, nmX12, rfl, rfl, tyX12_ok 10 (by decide)⟩
theorem fl_M_33 : FLk "BangSquareModel" 33 12 11 := ⟨RX12, TX12, 74, rfl, by decide, gd_in (in_t5 (List.mem_of_getElem? (i := 150) rfl)) rfl, igX12⟩
theorem ff_M_33 : FFk "BangSquareModel" 33 12 11 (.array .int) := ⟨RX12, TX12, 74, tyX12, rfl, by decide, gd_in (in_t5 (List.mem_of_getElem? (i := 150) rfl)) rfl, igX12, tyX12_ok, nmX12, rfl, rfl, tyX12_ok 11 (by decide)⟩
theorem fl_M_36 : FLk "BangSquareModel" 36 12 13 := ⟨RX12, TX12, 74, rfl, by decide, gd_in (in_t5 (List.mem_of_getElem? (i := 152) rfl)) rfl, igX12⟩
theorem ff_M_36 : FFk "BangSquareModel" 36 12 13 (.array .int) := ⟨RX12, TX12, 74, tyX12, rfl, by decide, gd_in (in_t5 (List.mem_of_getElem? (i := 152) rfl)) rfl, igX12, tyX12_ok, nmX12, rfl, rfl, tyX12_ok 13 (by decide)⟩
theorem fl_M_39 : FLk "BangSquareModel" 39 12 14 := ⟨RX12, TX12, 74, rfl, by decide, gd_in (in_t5 (List.mem_of_getElem? (i := 153) rfl)) rfl, igX12⟩
theorem ff_M_39 : FFk "BangSquareModel" 39 12 14 (.array .int) := ⟨RX12, TX12, 74, tyX12, rfl, by decide, gd_in (in_t5 (List.mem_of_getElem? (i := 153) rfl)) rfl, igX12, tyX12_ok, nmX12, rfl, rfl, tyX12_ok 14 (by decide)⟩
theorem fl_M_42 : FLk "BangSquareModel" 42 12 15 := ⟨RX12, TX12, 74, rfl, by decide, gd_in (in_t5 (List.mem_of_getElem? (i := 154) rfl)) rfl, igX12⟩
theorem ff_M_42 : FFk "BangSquareModel" 42 12 15 (.array .int) := ⟨RX12, TX12, 74, tyX12, rfl, by decide, gd_in (in_t5 (List.mem_of_getElem? (i := 154) rfl)) rfl, igX12, tyX12_ok, nmX12, rfl, rfl, tyX12_ok 15 (by decide)⟩
theorem fl_M_45 : FLk "BangSquareModel" 45 12 16 := ⟨RX12, TX12, 74, rfl, by decide, gd_in (in_t5 (List.mem_of_getElem? (i := 155) rfl)) rfl, igX12⟩
theorem ff_M_45 : FFk "BangSquareModel" 45 12 16 (.array .int) := ⟨RX12, TX12, 74, tyX12, rfl, by decide, gd_in (in_t5 (List.mem_of_getElem? (i := 155) rfl)) rfl, igX12, tyX12_ok, nmX12, rfl, rfl, tyX12_ok 16 (by decide)⟩
theorem fl_M_48 : FLk "BangSquareModel" 48 12 23 := ⟨RX12, TX12, 74, rfl, by decide, gd_in (in_t5 (List.mem_of_getElem? (i := 162) rfl)) rfl, igX12⟩
theorem ff_M_48 : FFk "BangSquareModel" 48 12 23 (.array .int) := ⟨RX12, TX12, 74, tyX12, rfl, by decide, gd_in (in_t5 (List.mem_of_getElem? (i := 162) rfl)) rfl, igX12, tyX12_ok, nmX12, rfl, rfl, tyX12_ok 23 (by decide)⟩
theorem fl_M_51 : FLk "BangSquareModel" 51 12 24 := ⟨RX12, TX12, 74, rfl, by decide, gd_in (in_t5 (List.mem_of_getElem? (i := 163) rfl)) rfl, igX12⟩
theorem ff_M_51 : FFk "BangSquareModel" 51 12 24 (.array .int) := ⟨RX12, TX12, 74, tyX12, rfl, by decide, gd_in (in_t5 (List.mem_of_getElem? (i := 163) rfl)) rfl, igX12, tyX12_ok, nmX12, rfl, rfl, tyX12_ok 24 (by decide)⟩
theorem fl_M_54 : FLk "BangSquareModel" 54 12 25 := ⟨RX12, TX12, 74, rfl, by decide, gd_in (in_t5 (List.mem_of_getElem? (i := 164) rfl)) rfl, igX12⟩
theorem ff_M_54 : FFk "BangSquareModel" 54 12 25 (.array .int) := ⟨RX12, TX12, 74, tyX12, rfl, by decide, gd_in (in_t5 (List.mem_of_getElem? (i := 164) rfl)) rfl, igX12, tyX12_ok, nmX12, rfl, rfl, tyX12_ok 25 (by decide)⟩
theorem fl_M_57 : FLk "BangSquareModel" 57 12 26 := ⟨RX12, TX12, 74, rfl, by decide, gd_in (in_t5 (List.mem_of_getElem? (i := 165) rfl)) rfl, igX12⟩
theorem ff_M_57 : FFk "BangSquareModel" 57 12 26 (.array .int) := ⟨RX12, TX12, 74, tyX12, rfl, by decide, gd_in (in_t5 (List.mem_of_getElem? (i := 165) rfl)) rfl, igX12, tyX12_ok, nmX12, rfl, rfl, tyX12_ok 26 (by decide)⟩
theorem fl_M_60 : FLk "BangSquareModel" 60 12 32 := ⟨RX12, TX12, 74, rfl, by decide, gd_in (in_t5 (List.mem_of_getElem? (i := 171) rfl)) rfl, igX12⟩
theorem ff_M_60 : FFk "BangSquareModel" 60 12 32 (.array .int) := ⟨RX12, TX12, 74, tyX12, rfl, by decide, gd_in (in_t5 (List.mem_of_getElem? (i := 171) rfl)) rfl, igX12, tyX12_ok, nmX12, rfl, rfl, tyX12_ok 32 (by decide)⟩
theorem fl_M_63 : FLk "BangSquareModel" 63 12 33 := ⟨RX12, TX12, 74, rfl, by decide, gd_in (in_t5 (List.mem_of_getElem? (i := 172) rfl)) rfl, igX12⟩
theorem ff_M_63 : FFk "BangSquareModel" 63 12 33 (.array .int) := ⟨RX12, TX12, 74, tyX12, rfl, by decide, gd_in (in_t5 (List.mem_of_getElem? (i := 172) rfl)) rfl, igX12, tyX12_ok, nmX12, rfl, rfl, tyX12_ok 33 (by decide)⟩
theorem fl_M_66 : FLk "BangSquareModel" 66 12 34 := ⟨RX12, TX12, 74, rfl, by decide, gd_in (in_t5 (List.mem_of_getElem? (i := 173) rfl)) rfl, igX12⟩
theorem ff_M_66 : FFk "BangSquareModel" 66 12 34 (.array .int) := ⟨RX12, TX12, 74, tyX12, rfl, by decide, gd_in (in_t5 (List.mem_of_getElem? (i := 173) rfl)) rfl, igX12, tyX12_ok, nmX12, rfl, rfl, tyX12_ok 34 (by decide)⟩
theorem fl_M_69 : FLk "BangSquareModel" 69 12 35 := ⟨RX12, TX12, 74, rfl, by decide, gd_in (in_t5 (List.mem_of_getElem? (i := 174) rfl)) rfl, igX12⟩
theorem ff_M_69 : FFk "BangSquareModel" 69 12 35 (.array .int) := ⟨RX12, TX12, 74, tyX12, rfl, by decide, gd_in (in_t5 (List.mem_of_getElem? (i := 174) rfl)) rfl, igX12, tyX12_ok, nmX12, rfl, rfl, tyX12_ok 35 (by decide)⟩
theorem fl_M_72 : FLk "BangSquareModel" 72 12 36 := ⟨RX12, TX12, 74, rfl, by decide, gd_in (in_t5 (List.mem_of_getElem? (i := 175) rfl)) rfl, igX12⟩
theorem ff_M_72 : FFk "BangSquareModel" 72 12 36 (.array .int) := ⟨RX12, TX12, 74, tyX12, rfl, by decide, gd_in (in_t5 (List.mem_of_getElem? (i := 175) rfl)) rfl, igX12, tyX12_ok, nmX12, rfl, rfl, tyX12_ok 36 (by decide)⟩
theorem fl_M_75 : FLk "BangSquareModel" 75 12 37 := ⟨RX12, TX12, 74, rfl, by decide, gd_in (in_t5 (List.mem_of_getElem? (i := 176) rfl)) rfl, igX12⟩
theorem ff_M_75 : FFk "BangSquareModel" 75 12 37 (.array .int) := ⟨RX12, TX12, 74, tyX12, rfl, by decide, gd_in (in_t5 (List.mem_of_getElem? (i := 176) rfl)) rfl, igX12, tyX12_ok, nmX12, rfl, rfl, tyX12_ok 37 (by decide)⟩
theorem fl_M_78 : FLk "BangSquareModel" 78 12 38 := ⟨RX12, TX12, 74, rfl, by decide, gd_in (in_t5 (List.mem_of_getElem? (i := 177) rfl)) rfl, igX12⟩
theorem ff_M_78 : FFk "BangSquareModel" 78 12 38 (.array .int) := ⟨RX12, TX12, 74, tyX12, rfl, by decide, gd_in (in_t5 (List.mem_of_getElem? (i := 177) rfl)) rfl, igX12, tyX12_ok, nmX12, rfl, rfl, tyX12_ok 38 (by decide)⟩
theorem fl_M_81 : FLk "BangSquareModel" 81 12 42 := ⟨RX12, TX12, 74, rfl, by decide, gd_in (in_t5 (List.mem_of_getElem? (i := 181) rfl)) rfl, igX12⟩
theorem ff_M_81 : FFk "BangSquareModel" 81 12 42 (.array .int) := ⟨RX12, TX12, 74, tyX12, rfl, by decide, gd_in (in_t5 (List.mem_of_getElem? (i := 181) rfl)) rfl, igX12, tyX12_ok, nmX12, rfl, rfl, tyX12_ok 42 (by decide)⟩
theorem fl_M_84 : FLk "BangSquareModel" 84 12 47 := ⟨RX12, TX12, 74, rfl, by decide, gd_in (in_t5 (List.mem_of_getElem? (i := 186) rfl)) rfl, igX12⟩
theorem fp_M_84 : FPk "BangSquareModel" 84 12 47 .int := ⟨RX12, TX12, 74, tyX12, rfl, by decide, gd_in (in_t5 (List.mem_of_getElem? (i := 186) rfl)) rfl, igX12, tyX12_ok, nmX12, rfl, tyX12_ok 47 (by decide)⟩
theorem fl_M_87 : FLk "BangSquareModel" 87 12 48 := ⟨RX12, TX12, 74, rfl, by decide, gd_in (in_t5 (List.mem_of_getElem? (i := 187) rfl)) rfl, igX12⟩
theorem ff_M_87 : FFk "BangSquareModel" 87 12 48 (.array .int) := ⟨RX12, TX12, 74, tyX12, rfl, by decide, gd_in (in_t5 (List.mem_of_getElem? (i := 187) rfl)) rfl, igX12, tyX12_ok, nmX12, rfl, rfl, tyX12_ok 48 (by decide)⟩
theorem fl_M_90 : FLk "BangSquareModel" 90 12 49 := ⟨RX12, TX12, 74, rfl, by decide, gd_in (in_t5 (List.mem_of_getElem? (i := 188) rfl)) rfl, igX12⟩
theorem ff_M_90 : FFk "BangSquareModel" 90 12 49 (.array .int) := ⟨RX12, TX12, 74, tyX12, rfl, by decide, gd_in (in_t5 (List.mem_of_getElem? (i := 188) rfl)) rfl, igX12, tyX12_ok, nmX12, rfl, rfl, tyX12_ok 49 (by decide)⟩
theorem fl_M_93 : FLk "BangSquareModel" 93 12 51 := ⟨RX12, TX12, 74, rfl, by decide, gd_in (in_t5 (List.mem_of_getElem? (i := 190) rfl)) rfl, igX12⟩
theorem ff_M_93 : FFk "BangSquareModel" 93 12 51 (.array .int) := ⟨RX12, TX12, 74, tyX12, rfl, by decide, gd_in (in_t5 (List.mem_of_getElem? (i := 190) rfl)) rfl, igX12, tyX12_ok, nmX12, rfl, rfl, tyX12_ok 51 (by decide)⟩
theorem fl_M_96 : FLk "BangSquareModel" 96 12 52 := ⟨RX12, TX12, 74, rfl, by decide, gd_in (in_t5 (List.mem_of_getElem? (i := 191) rfl)) rfl, igX12⟩
theorem ff_M_96 : FFk "BangSquareModel" 96 12 52 (.array .int) := ⟨RX12, TX12, 74, tyX12, rfl, by decide, gd_in (in_t5 (List.mem_of_getElem? (i := 191) rfl)) rfl, igX12, tyX12_ok, nmX12, rfl, rfl, tyX12_ok 52 (by decide)⟩
theorem fl_M_99 : FLk "BangSquareModel" 99 12 53 := ⟨RX12, TX12, 74, rfl, by decide, gd_in (in_t5 (List.mem_of_getElem? (i := 192) rfl)) rfl, igX12⟩
theorem ff_M_99 : FFk "BangSquareModel" 99 12 53 (.array .int) := ⟨RX12, TX12, 74, tyX12, rfl, by decide, gd_in (in_t5 (List.mem_of_getElem? (i := 192) rfl)) rfl, igX12, tyX12_ok, nmX12, rfl, rfl, tyX12_ok 53 (by decide)⟩
theorem fl_M_102 : FLk "BangSquareModel" 102 12 55 := ⟨RX12, TX12, 74, rfl, by decide, gd_in (in_t5 (List.mem_of_getElem? (i := 194) rfl)) rfl, igX12⟩
theorem ff_M_102 : FFk "BangSquareModel" 102 12 55 (.array .int) := ⟨RX12, TX12, 74, tyX12, rfl, by decide, gd_in (in_t5 (List.mem_of_getElem? (i := 194) rfl)) rfl, igX12, tyX12_ok, nmX12, rfl, rfl, tyX12_ok 55 (by decide)⟩
theorem fl_M_105 : FLk "BangSquareModel" 105 12 56 := ⟨RX12, TX12, 74, rfl, by decide, gd_in (in_t5 (List.mem_of_getElem? (i := 195) rfl)) rfl, igX12⟩
theorem ff_M_105 : FFk "BangSquareModel" 105 12 56 (.array .int) := ⟨RX12, TX12, 74, tyX12, rfl, by decide, gd_in (in_t5 (List.mem_of_getElem? (i := 195) rfl)) rfl, igX12, tyX12_ok, nmX12, rfl, rfl, tyX12_ok 56 (by decide)⟩
theorem fl_M_108 : FLk "BangSquareModel" 108 12 57 := ⟨RX12, TX12, 74, rfl, by decide, gd_in (in_t5 (List.mem_of_getElem? (i := 196) rfl)) rfl, igX12⟩
theorem ff_M_108 : FFk "BangSquareModel" 108 12 57 (.array .int) := ⟨RX12, TX12, 74, tyX12, rfl, by decide, gd_in (in_t5 (List.mem_of_getElem? (i := 196) rfl)) rfl, igX12, tyX12_ok, nmX12, rfl, rfl, tyX12_ok 57 (by decide)⟩
theorem fl_M_111 : FLk "BangSquareModel" 111 12 58 := ⟨RX12, TX12, 74, rfl, by decide, gd_in (in_t5 (List.mem_of_getElem? (i := 197) rfl)) rfl, igX12⟩
theorem ff_M_111 : FFk "BangSquareModel" 111 12 58 (.array .int) := ⟨RX12, TX12, 74, tyX12, rfl, by decide, gd_in (in_t5 (List.mem_of_getElem? (i := 197) rfl)) rfl, igX12, tyX12_ok, nmX12, rfl, rfl, tyX12_ok 58 (by decide)⟩
theorem fl_M_114 : FLk "BangSquareModel" 114 12 59 := ⟨RX12, TX12, 74, rfl, by decide, gd_in (in_t5 (List.mem_of_getElem? (i := 198) rfl)) rfl, igX12⟩
theorem ff_M_114 : FFk "BangSquareModel" 114 12 59 (.array .int) := ⟨RX12, TX12, 74, tyX12, rfl, by decide, gd_in (in_t5 (List.mem_of_getElem? (i := 198) rfl)) rfl, igX12, tyX12_ok, nmX12, rfl, rfl, tyX12_ok 59 (by decide)⟩
theorem fl_M_117 : FLk "BangSquareModel" 117 12 62 := ⟨RX12, TX12, 74, rfl, by decide, gd_in (in_t5 (List.mem_of_getElem? (i := 201) rfl)) rfl, igX12⟩
theorem ff_M_117 : FFk "BangSquareModel" 117 12 62 (.array .int) := ⟨RX12, TX12, 74, tyX12, rfl, by decide, gd_in (in_t5 (List.mem_of_getElem? (i := 201) rfl)) rfl, igX12, tyX12_ok, nmX12, rfl, rfl, tyX12_ok 62 (by decide)⟩
theorem fl_M_120 : FLk "BangSquareModel" 120 12 63 := ⟨RX12, TX12, 74, rfl, by decide, gd_in (in_t5 (List.mem_of_getElem? (i := 202) rfl)) rfl, igX12⟩
theorem ff_M_120 : FFk "BangSquareModel" 120 12 63 (.array .int) := ⟨RX12, TX12, 74, tyX12, rfl, by decide, gd_in (in_t5 (List.mem_of_getElem? (i := 202) rfl)) rfl, igX12, tyX12_ok, nmX12, rfl, rfl, tyX12_ok 63 (by decide)⟩
theorem fl_M_123 : FLk "BangSquareModel" 123 12 64 := ⟨RX12, TX12, 74, rfl, by decide, gd_in (in_t5 (List.mem_of_getElem? (i := 203) rfl)) rfl, igX12⟩
theorem ff_M_123 : FFk "BangSquareModel" 123 12 64 (.array .int) := ⟨RX12, TX12, 74, tyX12, rfl, by decide, gd_in (in_t5 (List.mem_of_getElem? (i := 203) rfl)) rfl, igX12, tyX12_ok, nmX12, rfl, rfl, tyX12_ok 64 (by decide)⟩
theorem fl_M_126 : FLk "BangSquareModel" 126 12 66 := ⟨RX12, TX12, 74, rfl, by decide, gd_in (in_t5 (List.mem_of_getElem? (i := 205) rfl)) rfl, igX12⟩
theorem ff_M_126 : FFk "BangSquareModel" 126 12 66 (.array .int) := ⟨RX12, TX12, 74, tyX12, rfl, by decide, gd_in (in_t5 (List.mem_of_getElem? (i := 205) rfl)) rfl, igX12, tyX12_ok, nmX12, rfl, rfl, tyX12_ok 66 (by decide)⟩
theorem fl_M_129 : FLk "BangSquareModel" 129 12 67 := ⟨RX12, TX12, 74, rfl, by decide, gd_in (in_t5 (List.mem_of_getElem? (i := 206) rfl)) rfl, igX12⟩
theorem ff_M_129 : FFk "BangSquareModel" 129 12 67 (.array .int) := ⟨RX12, TX12, 74, tyX12, rfl, by decide, gd_in (in_t5 (List.mem_of_getElem? (i := 206) rfl)) rfl, igX12, tyX12_ok, nmX12, rfl, rfl, tyX12_ok 67 (by decide)⟩
theorem fl_M_132 : FLk "BangSquareModel" 132 12 68 := ⟨RX12, TX12, 74, rfl, by decide, gd_in (in_t5 (List.mem_of_getElem? (i := 207) rfl)) rfl, igX12⟩
theorem ff_M_132 : FFk "BangSquareModel" 132 12 68 (.array .int) := ⟨RX12, TX12, 74, tyX12, rfl, by decide, gd_in (in_t5 (List.mem_of_getElem? (i := 207) rfl)) rfl, igX12, tyX12_ok, nmX12, rfl, rfl, tyX12_ok 68 (by decide)⟩
theorem fl_M_135 : FLk "BangSquareModel" 135 12 69 := ⟨RX12, TX12, 74, rfl, by decide, gd_in (in_t5 (List.mem_of_getElem? (i := 208) rfl)) rfl, igX12⟩
theorem ff_M_135 : FFk "BangSquareModel" 135 12 69 (.array .int) := ⟨RX12, TX12, 74, tyX12, rfl, by decide, gd_in (in_t5 (List.mem_of_getElem? (i := 208) rfl)) rfl, igX12, tyX12_ok, nmX12, rfl, rfl, tyX12_ok 69 (by decide)⟩
theorem fl_M_138 : FLk "BangSquareModel" 138 12 70 := ⟨RX12, TX12, 74, rfl, by decide, gd_in (in_t5 (List.mem_of_getElem? (i := 209) rfl)) rfl, igX12⟩
theorem fp_M_138 : FPk "BangSquareModel" 138 12 70 .int := ⟨RX12, TX12, 74, tyX12, rfl, by decide, gd_in (in_t5 (List.mem_of_getElem? (i := 209) rfl)) rfl, igX12, tyX12_ok, nmX12, rfl, tyX12_ok 70 (by decide)⟩
theorem fl_M_141 : FLk "BangSquareModel" 141 12 71 := ⟨RX12, TX12, 74, rfl, by decide, gd_in (in_t5 (List.mem_of_getElem? (i := 210) rfl)) rfl, igX12⟩
theorem fp_M_141 : FPk "BangSquareModel" 141 12 71 .int := ⟨RX12, TX12, 74, tyX12, rfl, by decide, gd_in (in_t5 (List.mem_of_getElem? (i := 210) rfl)) rfl, igX12, tyX12_ok, nmX12, rfl, tyX12_ok 71 (by decide)⟩
theorem fl_M_144 : FLk "BangSquareModel" 144 12 72 := ⟨RX12, TX12, 74, rfl, by decide, gd_in (in_t5 (List.mem_of_getElem? (i := 211) rfl)) rfl, igX12⟩
theorem ff_M_144 : FFk "BangSquareModel" 144 12 72 (.array .int) := ⟨RX12, TX12, 74, tyX12, rfl, by decide, gd_in (in_t5 (List.mem_of_getElem? (i := 211) rfl)) rfl, igX12, tyX12_ok, nmX12, rfl, rfl, tyX12_ok 72 (by decide)⟩
theorem fl_M_147 : FLk "BangSquareModel" 147 12 73 := ⟨RX12, TX12, 74, rfl, by decide, gd_in (in_t5 (List.mem_of_getElem? (i := 212) rfl)) rfl, igX12⟩
theorem ff_M_147 : FFk "BangSquareModel" 147 12 73 (.array .int) := ⟨RX12, TX12, 74, tyX12, rfl, by decide, gd_in (in_t5 (List.mem_of_getElem? (i := 212) rfl)) rfl, igX12, tyX12_ok, nmX12, rfl, rfl, tyX12_ok 73 (by decide)⟩
theorem fl_M_150 : FLk "BangSquareModel" 150 12 0 := ⟨RX12, TX12, 74, rfl, by decide, gd_in (in_t5 (List.mem_of_getElem? (i := 139) rfl)) rfl, igX12⟩
theorem fp_M_150 : FPk "BangSquareModel" 150 12 0 .int := ⟨RX12, TX12, 74, tyX12, rfl, by decide, gd_in (in_t5 (List.mem_of_getElem? (i := 139) rfl)) rfl, igX12, tyX12_ok, nmX12, rfl, tyX12_ok 0 (by decide)⟩
theorem fl_M_161 : FLk "BangSquareModel" 161 12 2 := ⟨RX12, TX12, 74, rfl, by decide, gd_in (in_t5 (List.mem_of_getElem? (i := 141) rfl)) rfl, igX12⟩
theorem fp_M_161 : FPk "BangSquareModel" 161 12 2 .int := ⟨RX12, TX12, 74, tyX12, rfl, by decide, gd_in (in_t5 (List.mem_of_getElem? (i := 141) rfl)) rfl, igX12, tyX12_ok, nmX12, rfl, tyX12_ok 2 (by decide)⟩
theorem fl_M_164 : FLk "BangSquareModel" 164 12 3 := ⟨RX12, TX12, 74, rfl, by decide, gd_in (in_t5 (List.mem_of_getElem? (i := 142) rfl)) rfl, igX12⟩
theorem fp_M_164 : FPk "BangSquareModel" 164 12 3 .int := ⟨RX12, TX12, 74, tyX12, rfl, by decide, gd_in (in_t5 (List.mem_of_getElem? (i := 142) rfl)) rfl, igX12, tyX12_ok, nmX12, rfl, tyX12_ok 3 (by decide)⟩
theorem fl_M_199 : FLk "BangSquareModel" 199 12 5 := ⟨RX12, TX12, 74, rfl, by decide, gd_in (in_t5 (List.mem_of_getElem? (i := 144) rfl)) rfl, igX12⟩
theorem fp_M_199 : FPk "BangSquareModel" 199 12 5 .int := ⟨RX12, TX12, 74, tyX12, rfl, by decide, gd_in (in_t5 (List.mem_of_getElem? (i := 144) rfl)) rfl, igX12, tyX12_ok, nmX12, rfl, tyX12_ok 5 (by decide)⟩
theorem fl_M_202 : FLk "BangSquareModel" 202 12 12 := ⟨RX12, TX12, 74, rfl, by decide, gd_in (in_t5 (List.mem_of_getElem? (i := 151) rfl)) rfl, igX12⟩
theorem fp_M_202 : FPk "BangSquareModel" 202 12 12 .int := ⟨RX12, TX12, 74, tyX12, rfl, by decide, gd_in (in_t5 (List.mem_of_getElem? (i := 151) rfl)) rfl, igX12, tyX12_ok, nmX12, rfl, tyX12_ok 12 (by decide)⟩
theorem fl_M_206 : FLk "BangSquareModel" 206 12 19 := ⟨RX12, TX12, 74, rfl, by decide, gd_in (in_t5 (List.mem_of_getElem? (i := 158) rfl)) rfl, igX12⟩
theorem fp_M_206 : FPk "BangSquareModel" 206 12 19 .int := ⟨RX12, TX12, 74, tyX12, rfl, by decide, gd_in (in_t5 (List.mem_of_getElem? (i := 158) rfl)) rfl, igX12, tyX12_ok, nmX12, rfl, tyX12_ok 19 (by decide)⟩
theorem fl_M_209 : FLk "BangSquareModel" 209 12 20 := ⟨RX12, TX12, 74, rfl, by decide, gd_in (in_t5 (List.mem_of_getElem? (i := 159) rfl)) rfl, igX12⟩
theorem fp_M_209 : FPk "BangSquareModel" 209 12 20 .int := ⟨RX12, TX12, 74, tyX12, rfl, by decide, gd_in (in_t5 (List.mem_of_getElem? (i := 159) rfl)) rfl, igX12, tyX12_ok, nmX12, rfl, tyX12_ok 20 (by decide)⟩
theorem fl_M_212 : FLk "BangSquareModel" 212 12 21 := ⟨RX12, TX12, 74, rfl, by decide, gd_in (in_t5 (List.mem_of_getElem? (i := 160) rfl)) rfl, igX12⟩
theorem fp_M_212 : FPk "BangSquareModel" 212 12 21 .int := ⟨RX12, TX12, 74, tyX12, rfl, by decide, gd_in (in_t5 (List.mem_of_getElem? (i := 160) rfl)) rfl, igX12, tyX12_ok, nmX12, rfl, tyX12_ok 21 (by decide)⟩
theorem fl_M_218 : FLk "BangSquareModel" 218 12 22 := ⟨RX12, TX12, 74, rfl, by decide, gd_in (in_t5 (List.mem_of_getElem? (i := 161) rfl)) rfl, igX12⟩
theorem fp_M_218 : FPk "BangSquareModel" 218 12 22 .int := ⟨RX12, TX12, 74, tyX12, rfl, by decide, gd_in (in_t5 (List.mem_of_getElem? (i := 161) rfl)) rfl, igX12, tyX12_ok, nmX12, rfl, tyX12_ok 22 (by decide)⟩
theorem fl_M_221 : FLk "BangSquareModel" 221 12 17 := ⟨RX12, TX12, 74, rfl, by decide, gd_in (in_t5 (List.mem_of_getElem? (i := 156) rfl)) rfl, igX12⟩
theorem fp_M_221 : FPk "BangSquareModel" 221 12 17 .int := ⟨RX12, TX12, 74, tyX12, rfl, by decide, gd_in (in_t5 (List.mem_of_getElem? (i := 156) rfl)) rfl, igX12, tyX12_ok, nmX12, rfl, tyX12_ok 17 (by decide)⟩
theorem fl_M_224 : FLk "BangSquareModel" 224 12 18 := ⟨RX12, TX12, 74, rfl, by decide, gd_in (in_t5 (List.mem_of_getElem? (i := 157) rfl)) rfl, igX12⟩
theorem fp_M_224 : FPk "BangSquareModel" 224 12 18 .int := ⟨RX12, TX12, 74, tyX12, rfl, by decide, gd_in (in_t5 (List.mem_of_getElem? (i := 157) rfl)) rfl, igX12, tyX12_ok, nmX12, rfl, tyX12_ok 18 (by decide)⟩
theorem fl_M_245 : FLk "BangSquareModel" 245 12 27 := ⟨RX12, TX12, 74, rfl, by decide, gd_in (in_t5 (List.mem_of_getElem? (i := 166) rfl)) rfl, igX12⟩
theorem fp_M_245 : FPk "BangSquareModel" 245 12 27 .int := ⟨RX12, TX12, 74, tyX12, rfl, by decide, gd_in (in_t5 (List.mem_of_getElem? (i := 166) rfl)) rfl, igX12, tyX12_ok, nmX12, rfl, tyX12_ok 27 (by decide)⟩
theorem fl_M_252 : FLk "BangSquareModel" 252 12 28 := ⟨RX12, TX12, 74, rfl, by decide, gd_in (in_t5 (List.mem_of_getElem? (i := 167) rfl)) rfl, igX12⟩
theorem fp_M_252 : FPk "BangSquareModel" 252 12 28 .int := ⟨RX12, TX12, 74, tyX12, rfl, by decide, gd_in (in_t5 (List.mem_of_getElem? (i := 167) rfl)) rfl, igX12, tyX12_ok, nmX12, rfl, tyX12_ok 28 (by decide)⟩
theorem fl_M_258 : FLk "BangSquareModel" 258 12 29 := ⟨RX12, TX12, 74, rfl, by decide, gd_in (in_t5 (List.mem_of_getElem? (i := 168) rfl)) rfl, igX12⟩
theorem fp_M_258 : FPk "BangSquareModel" 258 12 29 .int := ⟨RX12, TX12, 74, tyX12, rfl, by decide, gd_in (in_t5 (List.mem_of_getElem? (i := 168) rfl)) rfl, igX12, tyX12_ok, nmX12, rfl, tyX12_ok 29 (by decide)⟩
theorem fl_M_261 : FLk "BangSquareModel" 261 12 30 := ⟨RX12, TX12, 74, rfl, by decide, gd_in (in_t5 (List.mem_of_getElem? (i := 169) rfl)) rfl, igX12⟩
theorem fp_M_261 : FPk "BangSquareModel" 261 12 30 .int := ⟨RX12, TX12, 74, tyX12, rfl, by decide, gd_in (in_t5 (List.mem_of_getElem? (i := 169) rfl)) rfl, igX12, tyX12_ok, nmX12, rfl, tyX12_ok 30 (by decide)⟩
theorem fl_M_264 : FLk "BangSquareModel" 264 12 31 := ⟨RX12, TX12, 74, rfl, by decide, gd_in (in_t5 (List.mem_of_getElem? (i := 170) rfl)) rfl, igX12⟩
theorem fp_M_264 : FPk "BangSquareModel" 264 12 31 .int := ⟨RX12, TX12, 74, tyX12, rfl, by decide, gd_in (in_t5 (List.mem_of_getElem? (i := 170) rfl)) rfl, igX12, tyX12_ok, nmX12, rfl, tyX12_ok 31 (by decide)⟩
theorem fl_M_280 : FLk "BangSquareModel" 280 12 44 := ⟨RX12, TX12, 74, rfl, by decide, gd_in (in_t5 (List.mem_of_getElem? (i := 183) rfl)) rfl, igX12⟩
theorem fp_M_280 : FPk "BangSquareModel" 280 12 44 .int := ⟨RX12, TX12, 74, tyX12, rfl, by decide, gd_in (in_t5 (List.mem_of_getElem? (i := 183) rfl)) rfl, igX12, tyX12_ok, nmX12, rfl, tyX12_ok 44 (by decide)⟩
theorem fl_M_283 : FLk "BangSquareModel" 283 12 45 := ⟨RX12, TX12, 74, rfl, by decide, gd_in (in_t5 (List.mem_of_getElem? (i := 184) rfl)) rfl, igX12⟩
theorem fp_M_283 : FPk "BangSquareModel" 283 12 45 .int := ⟨RX12, TX12, 74, tyX12, rfl, by decide, gd_in (in_t5 (List.mem_of_getElem? (i := 184) rfl)) rfl, igX12, tyX12_ok, nmX12, rfl, tyX12_ok 45 (by decide)⟩
theorem fl_M_286 : FLk "BangSquareModel" 286 12 40 := ⟨RX12, TX12, 74, rfl, by decide, gd_in (in_t5 (List.mem_of_getElem? (i := 179) rfl)) rfl, igX12⟩
theorem fp_M_286 : FPk "BangSquareModel" 286 12 40 .int := ⟨RX12, TX12, 74, tyX12, rfl, by decide, gd_in (in_t5 (List.mem_of_getElem? (i := 179) rfl)) rfl, igX12, tyX12_ok, nmX12, rfl, tyX12_ok 40 (by decide)⟩
theorem fl_M_289 : FLk "BangSquareModel" 289 12 39 := ⟨RX12, TX12, 74, rfl, by decide, gd_in (in_t5 (List.mem_of_getElem? (i := 178) rfl)) rfl, igX12⟩
theorem fp_M_289 : FPk "BangSquareModel" 289 12 39 .boolean := ⟨RX12, TX12, 74, tyX12, rfl, by decide, gd_in (in_t5 (List.mem_of_getElem? (i := 178) rfl)) rfl, igX12, tyX12_ok, nmX12, rfl, tyX12_ok 39 (by decide)⟩
theorem fl_M_318 : FLk "BangSquareModel" 318 12 43 := ⟨RX12, TX12, 74, rfl, by decide, gd_in (in_t5 (List.mem_of_getElem? (i := 182) rfl)) rfl, igX12⟩
theorem fp_M_318 : FPk "BangSquareModel" 318 12 43 .int := ⟨RX12, TX12, 74, tyX12, rfl, by decide, gd_in (in_t5 (List.mem_of_getElem? (i := 182) rfl)) rfl, igX12, tyX12_ok, nmX12, rfl, tyX12_ok 43 (by decide)⟩
theorem fl_M_321 : FLk "BangSquareModel" 321 12 41 := ⟨RX12, TX12, 74, rfl, by decide, gd_in (in_t5 (List.mem_of_getElem? (i := 180) rfl)) rfl, igX12⟩
theorem fp_M_321 : FPk "BangSquareModel" 321 12 41 .int := ⟨RX12, TX12, 74, tyX12, rfl, by decide, gd_in (in_t5 (List.mem_of_getElem? (i := 180) rfl)) rfl, igX12, tyX12_ok, nmX12, rfl, tyX12_ok 41 (by decide)⟩
theorem fl_M_346 : FLk "BangSquareModel" 346 12 46 := ⟨RX12, TX12, 74, rfl, by decide, gd_in (in_t5 (List.mem_of_getElem? (i := 185) rfl)) rfl, igX12⟩
theorem fp_M_346 : FPk "BangSquareModel" 346 12 46 .int := ⟨RX12, TX12, 74, tyX12, rfl, by decide, gd_in (in_t5 (List.mem_of_getElem? (i := 185) rfl)) rfl, igX12, tyX12_ok, nmX12, rfl, tyX12_ok 46 (by decide)⟩
theorem fl_M_359 : FLk "BangSquareModel" 359 12 50 := ⟨RX12, TX12, 74, rfl, by decide, gd_in (in_t5 (List.mem_of_getElem? (i := 189) rfl)) rfl, igX12⟩
theorem fp_M_359 : FPk "BangSquareModel" 359 12 50 .int := ⟨RX12, TX12, 74, tyX12, rfl, by decide, gd_in (in_t5 (List.mem_of_getElem? (i := 189) rfl)) rfl, igX12, tyX12_ok, nmX12, rfl, tyX12_ok 50 (by decide)⟩
theorem fl_M_381 : FLk "BangSquareModel" 381 12 54 := ⟨RX12, TX12, 74, rfl, by decide, gd_in (in_t5 (List.mem_of_getElem? (i := 193) rfl)) rfl, igX12⟩
theorem fp_M_381 : FPk "BangSquareModel" 381 12 54 .int := ⟨RX12, TX12, 74, tyX12, rfl, by decide, gd_in (in_t5 (List.mem_of_getElem? (i := 193) rfl)) rfl, igX12, tyX12_ok, nmX12, rfl, tyX12_ok 54 (by decide)⟩
theorem fl_M_400 : FLk "BangSquareModel" 400 12 60 := ⟨RX12, TX12, 74, rfl, by decide, gd_in (in_t5 (List.mem_of_getElem? (i := 199) rfl)) rfl, igX12⟩
theorem fp_M_400 : FPk "BangSquareModel" 400 12 60 .int := ⟨RX12, TX12, 74, tyX12, rfl, by decide, gd_in (in_t5 (List.mem_of_getElem? (i := 199) rfl)) rfl, igX12, tyX12_ok, nmX12, rfl, tyX12_ok 60 (by decide)⟩
theorem fl_M_403 : FLk "BangSquareModel" 403 12 61 := ⟨RX12, TX12, 74, rfl, by decide, gd_in (in_t5 (List.mem_of_getElem? (i := 200) rfl)) rfl, igX12⟩
theorem fp_M_403 : FPk "BangSquareModel" 403 12 61 .int := ⟨RX12, TX12, 74, tyX12, rfl, by decide, gd_in (in_t5 (List.mem_of_getElem? (i := 200) rfl)) rfl, igX12, tyX12_ok, nmX12, rfl, tyX12_ok 61 (by decide)⟩
theorem fl_M_426 : FLk "BangSquareModel" 426 12 65 := ⟨RX12, TX12, 74, rfl, by decide, gd_in (in_t5 (List.mem_of_getElem? (i := 204) rfl)) rfl, igX12⟩
theorem fp_M_426 : FPk "BangSquareModel" 426 12 65 .int := ⟨RX12, TX12, 74, tyX12, rfl, by decide, gd_in (in_t5 (List.mem_of_getElem? (i := 204) rfl)) rfl, igX12, tyX12_ok, nmX12, rfl, tyX12_ok 65 (by decide)⟩
