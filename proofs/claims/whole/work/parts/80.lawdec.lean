theorem d_law0_0 : decode code 0 = .ok (.new 7, 3) := by decide +kernel
theorem d_law0_3 : decode code 3 = .ok (.dup, 1) := by decide +kernel
theorem d_law0_4 : decode code 4 = .ok (.invokespecial 9, 3) := by decide +kernel
theorem d_law0_7 : decode code 7 = .ok (.astore_n 1, 1) := by decide +kernel
theorem d_law0_8 : decode code 8 = .ok (.new 10, 3) := by decide +kernel
theorem d_law0_11 : decode code 11 = .ok (.dup, 1) := by decide +kernel
theorem d_law0_12 : decode code 12 = .ok (.invokespecial 12, 3) := by decide +kernel
theorem d_law0_15 : decode code 15 = .ok (.astore_n 2, 1) := by decide +kernel
theorem d_law0_16 : decode code 16 = .ok (.iconst 0, 1) := by decide +kernel
theorem d_law0_17 : decode code 17 = .ok (.istore_n 3, 1) := by decide +kernel
theorem d_law0_18 : decode code 18 = .ok (.iload_n 3, 1) := by decide +kernel
theorem d_law0_19 : decode code 19 = .ok (.aload_n 0, 1) := by decide +kernel
theorem d_law0_20 : decode code 20 = .ok (.arraylength, 1) := by decide +kernel
theorem d_law0_21 : decode code 21 = .ok (.bipush 6, 2) := by decide +kernel
theorem d_law0_23 : decode code 23 = .ok (.isub, 1) := by decide +kernel
theorem d_law0_24 : decode code 24 = .ok (.if_icmp .gt 1266, 3) := by decide +kernel
theorem d_law0_27 : decode code 27 = .ok (.aload_n 0, 1) := by decide +kernel
theorem d_law0_28 : decode code 28 = .ok (.iload_n 3, 1) := by decide +kernel
theorem d_law0_29 : decode code 29 = .ok (.iaload, 1) := by decide +kernel
theorem d_law0_30 : decode code 30 = .ok (.bipush 31, 2) := by decide +kernel
theorem d_law0_32 : decode code 32 = .ok (.iand, 1) := by decide +kernel
theorem d_law0_33 : decode code 33 = .ok (.tableswitch 1251 0 29 #[135, 168, 211, 290, 323, 376, 419, 482, 505, 528, 551, 584, 627, 660, 693, 716, 759, 782, 815, 868, 901, 944, 997, 1030, 1083, 1106, 1139, 1162, 1195, 1228], 135) := by decide +kernel
theorem d_law0_168 : decode code 168 = .ok (.aload_n 1, 1) := by decide +kernel
theorem d_law0_169 : decode code 169 = .ok (.aload_n 0, 1) := by decide +kernel
theorem d_law0_170 : decode code 170 = .ok (.iload_n 3, 1) := by decide +kernel
theorem d_law0_171 : decode code 171 = .ok (.iconst 1, 1) := by decide +kernel
theorem d_law0_172 : decode code 172 = .ok (.iadd, 1) := by decide +kernel
theorem d_law0_173 : decode code 173 = .ok (.iaload, 1) := by decide +kernel
theorem d_law0_174 : decode code 174 = .ok (.aload_n 0, 1) := by decide +kernel
theorem d_law0_175 : decode code 175 = .ok (.iload_n 3, 1) := by decide +kernel
theorem d_law0_176 : decode code 176 = .ok (.iconst 2, 1) := by decide +kernel
theorem d_law0_177 : decode code 177 = .ok (.iadd, 1) := by decide +kernel
theorem d_law0_178 : decode code 178 = .ok (.iaload, 1) := by decide +kernel
theorem d_law0_179 : decode code 179 = .ok (.invokevirtual 13, 3) := by decide +kernel
theorem d_law0_182 : decode code 182 = .ok (.aload_n 2, 1) := by decide +kernel
theorem d_law0_183 : decode code 183 = .ok (.aload_n 0, 1) := by decide +kernel
theorem d_law0_184 : decode code 184 = .ok (.iload_n 3, 1) := by decide +kernel
theorem d_law0_185 : decode code 185 = .ok (.iconst 1, 1) := by decide +kernel
theorem d_law0_186 : decode code 186 = .ok (.iadd, 1) := by decide +kernel
theorem d_law0_187 : decode code 187 = .ok (.iaload, 1) := by decide +kernel
theorem d_law0_188 : decode code 188 = .ok (.aload_n 0, 1) := by decide +kernel
theorem d_law0_189 : decode code 189 = .ok (.iload_n 3, 1) := by decide +kernel
theorem d_law0_190 : decode code 190 = .ok (.iconst 2, 1) := by decide +kernel
theorem d_law0_191 : decode code 191 = .ok (.iadd, 1) := by decide +kernel
theorem d_law0_192 : decode code 192 = .ok (.iaload, 1) := by decide +kernel
theorem d_law0_193 : decode code 193 = .ok (.invokevirtual 17, 3) := by decide +kernel
theorem d_law0_196 : decode code 196 = .ok (.if_icmp .eq 1088, 3) := by decide +kernel
theorem d_law0_199 : decode code 199 = .ok (.iconst 0, 1) := by decide +kernel
theorem d_law0_200 : decode code 200 = .ok (.ireturn, 1) := by decide +kernel
theorem d_law0_201 : decode code 201 = .ok (.aload_n 1, 1) := by decide +kernel
theorem d_law0_202 : decode code 202 = .ok (.aload_n 0, 1) := by decide +kernel
theorem d_law0_203 : decode code 203 = .ok (.iload_n 3, 1) := by decide +kernel
theorem d_law0_204 : decode code 204 = .ok (.iconst 1, 1) := by decide +kernel
theorem d_law0_205 : decode code 205 = .ok (.iadd, 1) := by decide +kernel
theorem d_law0_206 : decode code 206 = .ok (.iaload, 1) := by decide +kernel
theorem d_law0_207 : decode code 207 = .ok (.aload_n 0, 1) := by decide +kernel
theorem d_law0_208 : decode code 208 = .ok (.iload_n 3, 1) := by decide +kernel
theorem d_law0_209 : decode code 209 = .ok (.iconst 2, 1) := by decide +kernel
theorem d_law0_210 : decode code 210 = .ok (.iadd, 1) := by decide +kernel
theorem d_law0_211 : decode code 211 = .ok (.iaload, 1) := by decide +kernel
theorem d_law0_212 : decode code 212 = .ok (.aload_n 0, 1) := by decide +kernel
theorem d_law0_213 : decode code 213 = .ok (.iload_n 3, 1) := by decide +kernel
theorem d_law0_214 : decode code 214 = .ok (.iconst 3, 1) := by decide +kernel
theorem d_law0_215 : decode code 215 = .ok (.iadd, 1) := by decide +kernel
theorem d_law0_216 : decode code 216 = .ok (.iaload, 1) := by decide +kernel
theorem d_law0_217 : decode code 217 = .ok (.invokevirtual 18, 3) := by decide +kernel
theorem d_law0_220 : decode code 220 = .ok (.aload_n 2, 1) := by decide +kernel
theorem d_law0_221 : decode code 221 = .ok (.aload_n 0, 1) := by decide +kernel
theorem d_law0_222 : decode code 222 = .ok (.iload_n 3, 1) := by decide +kernel
theorem d_law0_223 : decode code 223 = .ok (.iconst 1, 1) := by decide +kernel
theorem d_law0_224 : decode code 224 = .ok (.iadd, 1) := by decide +kernel
theorem d_law0_225 : decode code 225 = .ok (.iaload, 1) := by decide +kernel
theorem d_law0_226 : decode code 226 = .ok (.aload_n 0, 1) := by decide +kernel
theorem d_law0_227 : decode code 227 = .ok (.iload_n 3, 1) := by decide +kernel
theorem d_law0_228 : decode code 228 = .ok (.iconst 2, 1) := by decide +kernel
theorem d_law0_229 : decode code 229 = .ok (.iadd, 1) := by decide +kernel
theorem d_law0_230 : decode code 230 = .ok (.iaload, 1) := by decide +kernel
theorem d_law0_231 : decode code 231 = .ok (.aload_n 0, 1) := by decide +kernel
theorem d_law0_232 : decode code 232 = .ok (.iload_n 3, 1) := by decide +kernel
theorem d_law0_233 : decode code 233 = .ok (.iconst 3, 1) := by decide +kernel
theorem d_law0_234 : decode code 234 = .ok (.iadd, 1) := by decide +kernel
theorem d_law0_235 : decode code 235 = .ok (.iaload, 1) := by decide +kernel
theorem d_law0_236 : decode code 236 = .ok (.invokevirtual 22, 3) := by decide +kernel
theorem d_law0_239 : decode code 239 = .ok (.if_icmp .eq 1045, 3) := by decide +kernel
theorem d_law0_242 : decode code 242 = .ok (.iconst 0, 1) := by decide +kernel
theorem d_law0_243 : decode code 243 = .ok (.ireturn, 1) := by decide +kernel
theorem d_law0_244 : decode code 244 = .ok (.aload_n 1, 1) := by decide +kernel
theorem d_law0_245 : decode code 245 = .ok (.aload_n 0, 1) := by decide +kernel
theorem d_law0_246 : decode code 246 = .ok (.iload_n 3, 1) := by decide +kernel
theorem d_law0_247 : decode code 247 = .ok (.iconst 1, 1) := by decide +kernel
theorem d_law0_248 : decode code 248 = .ok (.iadd, 1) := by decide +kernel
theorem d_law0_249 : decode code 249 = .ok (.iaload, 1) := by decide +kernel
theorem d_law0_250 : decode code 250 = .ok (.ifCond .eq 7, 3) := by decide +kernel
theorem d_law0_253 : decode code 253 = .ok (.iconst 1, 1) := by decide +kernel
theorem d_law0_254 : decode code 254 = .ok (.goto 4, 3) := by decide +kernel
theorem d_law0_257 : decode code 257 = .ok (.iconst 0, 1) := by decide +kernel
theorem d_law0_258 : decode code 258 = .ok (.aload_n 0, 1) := by decide +kernel
theorem d_law0_259 : decode code 259 = .ok (.iload_n 3, 1) := by decide +kernel
theorem d_law0_260 : decode code 260 = .ok (.iconst 2, 1) := by decide +kernel
theorem d_law0_261 : decode code 261 = .ok (.iadd, 1) := by decide +kernel
theorem d_law0_262 : decode code 262 = .ok (.iaload, 1) := by decide +kernel
theorem d_law0_263 : decode code 263 = .ok (.aload_n 0, 1) := by decide +kernel
theorem d_law0_264 : decode code 264 = .ok (.iload_n 3, 1) := by decide +kernel
theorem d_law0_265 : decode code 265 = .ok (.iconst 3, 1) := by decide +kernel
theorem d_law0_266 : decode code 266 = .ok (.iadd, 1) := by decide +kernel
theorem d_law0_267 : decode code 267 = .ok (.iaload, 1) := by decide +kernel
theorem d_law0_268 : decode code 268 = .ok (.aload_n 0, 1) := by decide +kernel
theorem d_law0_269 : decode code 269 = .ok (.iload_n 3, 1) := by decide +kernel
theorem d_law0_270 : decode code 270 = .ok (.iconst 4, 1) := by decide +kernel
theorem d_law0_271 : decode code 271 = .ok (.iadd, 1) := by decide +kernel
theorem d_law0_272 : decode code 272 = .ok (.iaload, 1) := by decide +kernel
theorem d_law0_273 : decode code 273 = .ok (.aload_n 0, 1) := by decide +kernel
theorem d_law0_274 : decode code 274 = .ok (.iload_n 3, 1) := by decide +kernel
theorem d_law0_275 : decode code 275 = .ok (.iconst 5, 1) := by decide +kernel
theorem d_law0_276 : decode code 276 = .ok (.iadd, 1) := by decide +kernel
theorem d_law0_277 : decode code 277 = .ok (.iaload, 1) := by decide +kernel
theorem d_law0_278 : decode code 278 = .ok (.invokevirtual 23, 3) := by decide +kernel
theorem d_law0_281 : decode code 281 = .ok (.aload_n 2, 1) := by decide +kernel
theorem d_law0_282 : decode code 282 = .ok (.aload_n 0, 1) := by decide +kernel
theorem d_law0_283 : decode code 283 = .ok (.iload_n 3, 1) := by decide +kernel
theorem d_law0_284 : decode code 284 = .ok (.iconst 1, 1) := by decide +kernel
theorem d_law0_285 : decode code 285 = .ok (.iadd, 1) := by decide +kernel
theorem d_law0_286 : decode code 286 = .ok (.iaload, 1) := by decide +kernel
theorem d_law0_287 : decode code 287 = .ok (.ifCond .eq 7, 3) := by decide +kernel
theorem d_law0_290 : decode code 290 = .ok (.iconst 1, 1) := by decide +kernel
theorem d_law0_291 : decode code 291 = .ok (.goto 4, 3) := by decide +kernel
theorem d_law0_294 : decode code 294 = .ok (.iconst 0, 1) := by decide +kernel
theorem d_law0_295 : decode code 295 = .ok (.aload_n 0, 1) := by decide +kernel
theorem d_law0_296 : decode code 296 = .ok (.iload_n 3, 1) := by decide +kernel
theorem d_law0_297 : decode code 297 = .ok (.iconst 2, 1) := by decide +kernel
theorem d_law0_298 : decode code 298 = .ok (.iadd, 1) := by decide +kernel
theorem d_law0_299 : decode code 299 = .ok (.iaload, 1) := by decide +kernel
theorem d_law0_300 : decode code 300 = .ok (.aload_n 0, 1) := by decide +kernel
theorem d_law0_301 : decode code 301 = .ok (.iload_n 3, 1) := by decide +kernel
theorem d_law0_302 : decode code 302 = .ok (.iconst 3, 1) := by decide +kernel
theorem d_law0_303 : decode code 303 = .ok (.iadd, 1) := by decide +kernel
theorem d_law0_304 : decode code 304 = .ok (.iaload, 1) := by decide +kernel
theorem d_law0_305 : decode code 305 = .ok (.aload_n 0, 1) := by decide +kernel
theorem d_law0_306 : decode code 306 = .ok (.iload_n 3, 1) := by decide +kernel
theorem d_law0_307 : decode code 307 = .ok (.iconst 4, 1) := by decide +kernel
theorem d_law0_308 : decode code 308 = .ok (.iadd, 1) := by decide +kernel
theorem d_law0_309 : decode code 309 = .ok (.iaload, 1) := by decide +kernel
theorem d_law0_310 : decode code 310 = .ok (.aload_n 0, 1) := by decide +kernel
theorem d_law0_311 : decode code 311 = .ok (.iload_n 3, 1) := by decide +kernel
theorem d_law0_312 : decode code 312 = .ok (.iconst 5, 1) := by decide +kernel
theorem d_law0_313 : decode code 313 = .ok (.iadd, 1) := by decide +kernel
theorem d_law0_314 : decode code 314 = .ok (.iaload, 1) := by decide +kernel
theorem d_law0_315 : decode code 315 = .ok (.invokevirtual 27, 3) := by decide +kernel
theorem d_law0_318 : decode code 318 = .ok (.if_icmp .eq 966, 3) := by decide +kernel
theorem d_law0_321 : decode code 321 = .ok (.iconst 0, 1) := by decide +kernel
theorem d_law0_322 : decode code 322 = .ok (.ireturn, 1) := by decide +kernel
theorem d_law0_323 : decode code 323 = .ok (.aload_n 1, 1) := by decide +kernel
theorem d_law0_324 : decode code 324 = .ok (.aload_n 0, 1) := by decide +kernel
theorem d_law0_325 : decode code 325 = .ok (.iload_n 3, 1) := by decide +kernel
theorem d_law0_326 : decode code 326 = .ok (.iconst 1, 1) := by decide +kernel
theorem d_law0_327 : decode code 327 = .ok (.iadd, 1) := by decide +kernel
theorem d_law0_328 : decode code 328 = .ok (.iaload, 1) := by decide +kernel
theorem d_law0_329 : decode code 329 = .ok (.aload_n 0, 1) := by decide +kernel
theorem d_law0_330 : decode code 330 = .ok (.iload_n 3, 1) := by decide +kernel
theorem d_law0_331 : decode code 331 = .ok (.iconst 2, 1) := by decide +kernel
