/-! decode rows (written by wip/gen/names.py) -/
theorem dL_count_0 : decode bL_count 0 = .ok (.aload_n 2, 1) := by decide +kernel
theorem dL_count_1 : decode bL_count 1 = .ok (.iconst 0, 1) := by decide +kernel
theorem dL_count_2 : decode bL_count 2 = .ok (.aload_n 0, 1) := by decide +kernel
theorem dL_count_3 : decode bL_count 3 = .ok (.iload_n 1, 1) := by decide +kernel
theorem dL_count_4 : decode bL_count 4 = .ok (.invokevirtual 46, 3) := by decide +kernel
theorem dL_count_7 : decode bL_count 7 = .ok (.i2l, 1) := by decide +kernel
theorem dL_count_8 : decode bL_count 8 = .ok (.lastore, 1) := by decide +kernel
theorem dL_count_9 : decode bL_count 9 = .ok (.goto 6, 3) := by decide +kernel
theorem dL_count_12 : decode bL_count 12 = .ok (.astore_n 3, 1) := by decide +kernel
theorem dL_count_13 : decode bL_count 13 = .ok (.iconst 1, 1) := by decide +kernel
theorem dL_count_14 : decode bL_count 14 = .ok (.ireturn, 1) := by decide +kernel
theorem dL_count_15 : decode bL_count 15 = .ok (.iconst 0, 1) := by decide +kernel
theorem dL_count_16 : decode bL_count 16 = .ok (.ireturn, 1) := by decide +kernel
theorem dL_get_0 : decode bL_get 0 = .ok (.aload_n 3, 1) := by decide +kernel
theorem dL_get_1 : decode bL_get 1 = .ok (.iconst 0, 1) := by decide +kernel
theorem dL_get_2 : decode bL_get 2 = .ok (.aload_n 0, 1) := by decide +kernel
theorem dL_get_3 : decode bL_get 3 = .ok (.iload_n 1, 1) := by decide +kernel
theorem dL_get_4 : decode bL_get 4 = .ok (.iload_n 2, 1) := by decide +kernel
theorem dL_get_5 : decode bL_get 5 = .ok (.invokevirtual 25, 3) := by decide +kernel
theorem dL_get_8 : decode bL_get 8 = .ok (.i2l, 1) := by decide +kernel
theorem dL_get_9 : decode bL_get 9 = .ok (.lastore, 1) := by decide +kernel
theorem dL_get_10 : decode bL_get 10 = .ok (.goto 7, 3) := by decide +kernel
theorem dL_get_13 : decode bL_get 13 = .ok (.astore 4, 2) := by decide +kernel
theorem dL_get_15 : decode bL_get 15 = .ok (.iconst 1, 1) := by decide +kernel
theorem dL_get_16 : decode bL_get 16 = .ok (.ireturn, 1) := by decide +kernel
theorem dL_get_17 : decode bL_get 17 = .ok (.iconst 0, 1) := by decide +kernel
theorem dL_get_18 : decode bL_get 18 = .ok (.ireturn, 1) := by decide +kernel
theorem dL_law_0 : decode bL_law 0 = .ok (.new 8, 3) := by decide +kernel
theorem dL_law_3 : decode bL_law 3 = .ok (.dup, 1) := by decide +kernel
theorem dL_law_4 : decode bL_law 4 = .ok (.invokespecial 49, 3) := by decide +kernel
theorem dL_law_7 : decode bL_law 7 = .ok (.astore_n 1, 1) := by decide +kernel
theorem dL_law_8 : decode bL_law 8 = .ok (.new 50, 3) := by decide +kernel
theorem dL_law_11 : decode bL_law 11 = .ok (.dup, 1) := by decide +kernel
theorem dL_law_12 : decode bL_law 12 = .ok (.invokespecial 52, 3) := by decide +kernel
theorem dL_law_15 : decode bL_law 15 = .ok (.astore_n 2, 1) := by decide +kernel
theorem dL_law_16 : decode bL_law 16 = .ok (.iconst 1, 1) := by decide +kernel
theorem dL_law_17 : decode bL_law 17 = .ok (.newarray .long, 2) := by decide +kernel
theorem dL_law_19 : decode bL_law 19 = .ok (.astore_n 3, 1) := by decide +kernel
theorem dL_law_20 : decode bL_law 20 = .ok (.iconst 0, 1) := by decide +kernel
theorem dL_law_21 : decode bL_law 21 = .ok (.istore 4, 2) := by decide +kernel
theorem dL_law_23 : decode bL_law 23 = .ok (.iload 4, 2) := by decide +kernel
theorem dL_law_25 : decode bL_law 25 = .ok (.aload_n 0, 1) := by decide +kernel
theorem dL_law_26 : decode bL_law 26 = .ok (.arraylength, 1) := by decide +kernel
theorem dL_law_27 : decode bL_law 27 = .ok (.iconst 4, 1) := by decide +kernel
theorem dL_law_28 : decode bL_law 28 = .ok (.isub, 1) := by decide +kernel
theorem dL_law_29 : decode bL_law 29 = .ok (.if_icmp .gt 831, 3) := by decide +kernel
theorem dL_law_32 : decode bL_law 32 = .ok (.aload_n 0, 1) := by decide +kernel
theorem dL_law_33 : decode bL_law 33 = .ok (.iload 4, 2) := by decide +kernel
theorem dL_law_35 : decode bL_law 35 = .ok (.iaload, 1) := by decide +kernel
theorem dL_law_36 : decode bL_law 36 = .ok (.bipush 15, 2) := by decide +kernel
theorem dL_law_38 : decode bL_law 38 = .ok (.iand, 1) := by decide +kernel
theorem dL_law_39 : decode bL_law 39 = .ok (.tableswitch 815 0 12 #[65, 121, 189, 269, 337, 417, 485, 553, 609, 622, 678, 703, 759], 65) := by decide +kernel
theorem dL_law_104 : decode bL_law 104 = .ok (.aload_n 1, 1) := by decide +kernel
theorem dL_law_105 : decode bL_law 105 = .ok (.aload_n 0, 1) := by decide +kernel
theorem dL_law_106 : decode bL_law 106 = .ok (.iload 4, 2) := by decide +kernel
theorem dL_law_108 : decode bL_law 108 = .ok (.iconst 1, 1) := by decide +kernel
theorem dL_law_109 : decode bL_law 109 = .ok (.iadd, 1) := by decide +kernel
theorem dL_law_110 : decode bL_law 110 = .ok (.iaload, 1) := by decide +kernel
theorem dL_law_111 : decode bL_law 111 = .ok (.aload_n 3, 1) := by decide +kernel
theorem dL_law_112 : decode bL_law 112 = .ok (.invokestatic 53, 3) := by decide +kernel
theorem dL_law_115 : decode bL_law 115 = .ok (.istore 5, 2) := by decide +kernel
theorem dL_law_117 : decode bL_law 117 = .ok (.aload_n 2, 1) := by decide +kernel
theorem dL_law_118 : decode bL_law 118 = .ok (.aload_n 0, 1) := by decide +kernel
theorem dL_law_119 : decode bL_law 119 = .ok (.iload 4, 2) := by decide +kernel
theorem dL_law_121 : decode bL_law 121 = .ok (.iconst 1, 1) := by decide +kernel
theorem dL_law_122 : decode bL_law 122 = .ok (.iadd, 1) := by decide +kernel
theorem dL_law_123 : decode bL_law 123 = .ok (.iaload, 1) := by decide +kernel
theorem dL_law_124 : decode bL_law 124 = .ok (.invokevirtual 58, 3) := by decide +kernel
theorem dL_law_127 : decode bL_law 127 = .ok (.istore 6, 2) := by decide +kernel
theorem dL_law_129 : decode bL_law 129 = .ok (.aload_n 2, 1) := by decide +kernel
theorem dL_law_130 : decode bL_law 130 = .ok (.invokevirtual 59, 3) := by decide +kernel
theorem dL_law_133 : decode bL_law 133 = .ok (.iload 5, 2) := by decide +kernel
theorem dL_law_135 : decode bL_law 135 = .ok (.if_icmp .eq 5, 3) := by decide +kernel
theorem dL_law_138 : decode bL_law 138 = .ok (.iconst 0, 1) := by decide +kernel
theorem dL_law_139 : decode bL_law 139 = .ok (.ireturn, 1) := by decide +kernel
theorem dL_law_140 : decode bL_law 140 = .ok (.iload 5, 2) := by decide +kernel
theorem dL_law_142 : decode bL_law 142 = .ok (.ifCond .ne 15, 3) := by decide +kernel
theorem dL_law_145 : decode bL_law 145 = .ok (.aload_n 3, 1) := by decide +kernel
theorem dL_law_146 : decode bL_law 146 = .ok (.iconst 0, 1) := by decide +kernel
theorem dL_law_147 : decode bL_law 147 = .ok (.laload, 1) := by decide +kernel
theorem dL_law_148 : decode bL_law 148 = .ok (.iload 6, 2) := by decide +kernel
theorem dL_law_150 : decode bL_law 150 = .ok (.i2l, 1) := by decide +kernel
theorem dL_law_151 : decode bL_law 151 = .ok (.lcmp, 1) := by decide +kernel
theorem dL_law_152 : decode bL_law 152 = .ok (.ifCond .eq 5, 3) := by decide +kernel
theorem dL_law_155 : decode bL_law 155 = .ok (.iconst 0, 1) := by decide +kernel
theorem dL_law_156 : decode bL_law 156 = .ok (.ireturn, 1) := by decide +kernel
theorem dL_law_157 : decode bL_law 157 = .ok (.goto 697, 3) := by decide +kernel
theorem dL_law_160 : decode bL_law 160 = .ok (.aload_n 1, 1) := by decide +kernel
theorem dL_law_161 : decode bL_law 161 = .ok (.aload_n 0, 1) := by decide +kernel
theorem dL_law_162 : decode bL_law 162 = .ok (.iload 4, 2) := by decide +kernel
theorem dL_law_164 : decode bL_law 164 = .ok (.iconst 1, 1) := by decide +kernel
theorem dL_law_165 : decode bL_law 165 = .ok (.iadd, 1) := by decide +kernel
theorem dL_law_166 : decode bL_law 166 = .ok (.iaload, 1) := by decide +kernel
theorem dL_law_167 : decode bL_law 167 = .ok (.aload_n 0, 1) := by decide +kernel
theorem dL_law_168 : decode bL_law 168 = .ok (.iload 4, 2) := by decide +kernel
theorem dL_law_170 : decode bL_law 170 = .ok (.iconst 2, 1) := by decide +kernel
theorem dL_law_171 : decode bL_law 171 = .ok (.iadd, 1) := by decide +kernel
theorem dL_law_172 : decode bL_law 172 = .ok (.iaload, 1) := by decide +kernel
theorem dL_law_173 : decode bL_law 173 = .ok (.aload_n 3, 1) := by decide +kernel
theorem dL_law_174 : decode bL_law 174 = .ok (.invokestatic 63, 3) := by decide +kernel
theorem dL_law_177 : decode bL_law 177 = .ok (.istore 5, 2) := by decide +kernel
theorem dL_law_179 : decode bL_law 179 = .ok (.aload_n 2, 1) := by decide +kernel
theorem dL_law_180 : decode bL_law 180 = .ok (.aload_n 0, 1) := by decide +kernel
theorem dL_law_181 : decode bL_law 181 = .ok (.iload 4, 2) := by decide +kernel
theorem dL_law_183 : decode bL_law 183 = .ok (.iconst 1, 1) := by decide +kernel
theorem dL_law_184 : decode bL_law 184 = .ok (.iadd, 1) := by decide +kernel
theorem dL_law_185 : decode bL_law 185 = .ok (.iaload, 1) := by decide +kernel
theorem dL_law_186 : decode bL_law 186 = .ok (.aload_n 0, 1) := by decide +kernel
theorem dL_law_187 : decode bL_law 187 = .ok (.iload 4, 2) := by decide +kernel
theorem dL_law_189 : decode bL_law 189 = .ok (.iconst 2, 1) := by decide +kernel
theorem dL_law_190 : decode bL_law 190 = .ok (.iadd, 1) := by decide +kernel
theorem dL_law_191 : decode bL_law 191 = .ok (.iaload, 1) := by decide +kernel
theorem dL_law_192 : decode bL_law 192 = .ok (.invokevirtual 66, 3) := by decide +kernel
theorem dL_law_195 : decode bL_law 195 = .ok (.istore 6, 2) := by decide +kernel
theorem dL_law_197 : decode bL_law 197 = .ok (.aload_n 2, 1) := by decide +kernel
theorem dL_law_198 : decode bL_law 198 = .ok (.invokevirtual 59, 3) := by decide +kernel
theorem dL_law_201 : decode bL_law 201 = .ok (.iload 5, 2) := by decide +kernel
theorem dL_law_203 : decode bL_law 203 = .ok (.if_icmp .eq 5, 3) := by decide +kernel
theorem dL_law_206 : decode bL_law 206 = .ok (.iconst 0, 1) := by decide +kernel
theorem dL_law_207 : decode bL_law 207 = .ok (.ireturn, 1) := by decide +kernel
theorem dL_law_208 : decode bL_law 208 = .ok (.iload 5, 2) := by decide +kernel
theorem dL_law_210 : decode bL_law 210 = .ok (.ifCond .ne 15, 3) := by decide +kernel
theorem dL_law_213 : decode bL_law 213 = .ok (.aload_n 3, 1) := by decide +kernel
theorem dL_law_214 : decode bL_law 214 = .ok (.iconst 0, 1) := by decide +kernel
theorem dL_law_215 : decode bL_law 215 = .ok (.laload, 1) := by decide +kernel
theorem dL_law_216 : decode bL_law 216 = .ok (.iload 6, 2) := by decide +kernel
theorem dL_law_218 : decode bL_law 218 = .ok (.i2l, 1) := by decide +kernel
theorem dL_law_219 : decode bL_law 219 = .ok (.lcmp, 1) := by decide +kernel
theorem dL_law_220 : decode bL_law 220 = .ok (.ifCond .eq 5, 3) := by decide +kernel
theorem dL_law_223 : decode bL_law 223 = .ok (.iconst 0, 1) := by decide +kernel
theorem dL_law_224 : decode bL_law 224 = .ok (.ireturn, 1) := by decide +kernel
theorem dL_law_225 : decode bL_law 225 = .ok (.goto 629, 3) := by decide +kernel
theorem dL_law_228 : decode bL_law 228 = .ok (.aload_n 1, 1) := by decide +kernel
theorem dL_law_229 : decode bL_law 229 = .ok (.aload_n 0, 1) := by decide +kernel
theorem dL_law_230 : decode bL_law 230 = .ok (.iload 4, 2) := by decide +kernel
theorem dL_law_232 : decode bL_law 232 = .ok (.iconst 1, 1) := by decide +kernel
theorem dL_law_233 : decode bL_law 233 = .ok (.iadd, 1) := by decide +kernel
theorem dL_law_234 : decode bL_law 234 = .ok (.iaload, 1) := by decide +kernel
theorem dL_law_235 : decode bL_law 235 = .ok (.aload_n 0, 1) := by decide +kernel
theorem dL_law_236 : decode bL_law 236 = .ok (.iload 4, 2) := by decide +kernel
theorem dL_law_238 : decode bL_law 238 = .ok (.iconst 2, 1) := by decide +kernel
theorem dL_law_239 : decode bL_law 239 = .ok (.iadd, 1) := by decide +kernel
theorem dL_law_240 : decode bL_law 240 = .ok (.iaload, 1) := by decide +kernel
theorem dL_law_241 : decode bL_law 241 = .ok (.aload_n 0, 1) := by decide +kernel
theorem dL_law_242 : decode bL_law 242 = .ok (.iload 4, 2) := by decide +kernel
theorem dL_law_244 : decode bL_law 244 = .ok (.iconst 3, 1) := by decide +kernel
theorem dL_law_245 : decode bL_law 245 = .ok (.iadd, 1) := by decide +kernel
theorem dL_law_246 : decode bL_law 246 = .ok (.iaload, 1) := by decide +kernel
theorem dL_law_247 : decode bL_law 247 = .ok (.aload_n 3, 1) := by decide +kernel
theorem dL_law_248 : decode bL_law 248 = .ok (.invokestatic 67, 3) := by decide +kernel
theorem dL_law_251 : decode bL_law 251 = .ok (.istore 5, 2) := by decide +kernel
theorem dL_law_253 : decode bL_law 253 = .ok (.aload_n 2, 1) := by decide +kernel
theorem dL_law_254 : decode bL_law 254 = .ok (.aload_n 0, 1) := by decide +kernel
theorem dL_law_255 : decode bL_law 255 = .ok (.iload 4, 2) := by decide +kernel
theorem dL_law_257 : decode bL_law 257 = .ok (.iconst 1, 1) := by decide +kernel
theorem dL_law_258 : decode bL_law 258 = .ok (.iadd, 1) := by decide +kernel
theorem dL_law_259 : decode bL_law 259 = .ok (.iaload, 1) := by decide +kernel
theorem dL_law_260 : decode bL_law 260 = .ok (.aload_n 0, 1) := by decide +kernel
theorem dL_law_261 : decode bL_law 261 = .ok (.iload 4, 2) := by decide +kernel
theorem dL_law_263 : decode bL_law 263 = .ok (.iconst 2, 1) := by decide +kernel
theorem dL_law_264 : decode bL_law 264 = .ok (.iadd, 1) := by decide +kernel
theorem dL_law_265 : decode bL_law 265 = .ok (.iaload, 1) := by decide +kernel
theorem dL_law_266 : decode bL_law 266 = .ok (.aload_n 0, 1) := by decide +kernel
theorem dL_law_267 : decode bL_law 267 = .ok (.iload 4, 2) := by decide +kernel
theorem dL_law_269 : decode bL_law 269 = .ok (.iconst 3, 1) := by decide +kernel
theorem dL_law_270 : decode bL_law 270 = .ok (.iadd, 1) := by decide +kernel
theorem dL_law_271 : decode bL_law 271 = .ok (.iaload, 1) := by decide +kernel
theorem dL_law_272 : decode bL_law 272 = .ok (.invokevirtual 70, 3) := by decide +kernel
theorem dL_law_275 : decode bL_law 275 = .ok (.istore 6, 2) := by decide +kernel
theorem dL_law_277 : decode bL_law 277 = .ok (.aload_n 2, 1) := by decide +kernel
theorem dL_law_278 : decode bL_law 278 = .ok (.invokevirtual 59, 3) := by decide +kernel
theorem dL_law_281 : decode bL_law 281 = .ok (.iload 5, 2) := by decide +kernel
theorem dL_law_283 : decode bL_law 283 = .ok (.if_icmp .eq 5, 3) := by decide +kernel
theorem dL_law_286 : decode bL_law 286 = .ok (.iconst 0, 1) := by decide +kernel
theorem dL_law_287 : decode bL_law 287 = .ok (.ireturn, 1) := by decide +kernel
theorem dL_law_288 : decode bL_law 288 = .ok (.iload 5, 2) := by decide +kernel
theorem dL_law_290 : decode bL_law 290 = .ok (.ifCond .ne 15, 3) := by decide +kernel
theorem dL_law_293 : decode bL_law 293 = .ok (.aload_n 3, 1) := by decide +kernel
theorem dL_law_294 : decode bL_law 294 = .ok (.iconst 0, 1) := by decide +kernel
theorem dL_law_295 : decode bL_law 295 = .ok (.laload, 1) := by decide +kernel
theorem dL_law_296 : decode bL_law 296 = .ok (.iload 6, 2) := by decide +kernel
theorem dL_law_298 : decode bL_law 298 = .ok (.i2l, 1) := by decide +kernel
theorem dL_law_299 : decode bL_law 299 = .ok (.lcmp, 1) := by decide +kernel
theorem dL_law_300 : decode bL_law 300 = .ok (.ifCond .eq 5, 3) := by decide +kernel
theorem dL_law_303 : decode bL_law 303 = .ok (.iconst 0, 1) := by decide +kernel
theorem dL_law_304 : decode bL_law 304 = .ok (.ireturn, 1) := by decide +kernel
theorem dL_law_305 : decode bL_law 305 = .ok (.goto 549, 3) := by decide +kernel
theorem dL_law_308 : decode bL_law 308 = .ok (.aload_n 1, 1) := by decide +kernel
theorem dL_law_309 : decode bL_law 309 = .ok (.aload_n 0, 1) := by decide +kernel
theorem dL_law_310 : decode bL_law 310 = .ok (.iload 4, 2) := by decide +kernel
theorem dL_law_312 : decode bL_law 312 = .ok (.iconst 1, 1) := by decide +kernel
theorem dL_law_313 : decode bL_law 313 = .ok (.iadd, 1) := by decide +kernel
theorem dL_law_314 : decode bL_law 314 = .ok (.iaload, 1) := by decide +kernel
theorem dL_law_315 : decode bL_law 315 = .ok (.aload_n 0, 1) := by decide +kernel
theorem dL_law_316 : decode bL_law 316 = .ok (.iload 4, 2) := by decide +kernel
theorem dL_law_318 : decode bL_law 318 = .ok (.iconst 2, 1) := by decide +kernel
theorem dL_law_319 : decode bL_law 319 = .ok (.iadd, 1) := by decide +kernel
theorem dL_law_320 : decode bL_law 320 = .ok (.iaload, 1) := by decide +kernel
theorem dL_law_321 : decode bL_law 321 = .ok (.aload_n 3, 1) := by decide +kernel
theorem dL_law_322 : decode bL_law 322 = .ok (.invokestatic 71, 3) := by decide +kernel
theorem dL_law_325 : decode bL_law 325 = .ok (.istore 5, 2) := by decide +kernel
theorem dL_law_327 : decode bL_law 327 = .ok (.aload_n 2, 1) := by decide +kernel
theorem dL_law_328 : decode bL_law 328 = .ok (.aload_n 0, 1) := by decide +kernel
theorem dL_law_329 : decode bL_law 329 = .ok (.iload 4, 2) := by decide +kernel
theorem dL_law_331 : decode bL_law 331 = .ok (.iconst 1, 1) := by decide +kernel
theorem dL_law_332 : decode bL_law 332 = .ok (.iadd, 1) := by decide +kernel
theorem dL_law_333 : decode bL_law 333 = .ok (.iaload, 1) := by decide +kernel
theorem dL_law_334 : decode bL_law 334 = .ok (.aload_n 0, 1) := by decide +kernel
theorem dL_law_335 : decode bL_law 335 = .ok (.iload 4, 2) := by decide +kernel
theorem dL_law_337 : decode bL_law 337 = .ok (.iconst 2, 1) := by decide +kernel
theorem dL_law_338 : decode bL_law 338 = .ok (.iadd, 1) := by decide +kernel
theorem dL_law_339 : decode bL_law 339 = .ok (.iaload, 1) := by decide +kernel
theorem dL_law_340 : decode bL_law 340 = .ok (.invokevirtual 73, 3) := by decide +kernel
theorem dL_law_343 : decode bL_law 343 = .ok (.istore 6, 2) := by decide +kernel
theorem dL_law_345 : decode bL_law 345 = .ok (.aload_n 2, 1) := by decide +kernel
theorem dL_law_346 : decode bL_law 346 = .ok (.invokevirtual 59, 3) := by decide +kernel
theorem dL_law_349 : decode bL_law 349 = .ok (.iload 5, 2) := by decide +kernel
theorem dL_law_351 : decode bL_law 351 = .ok (.if_icmp .eq 5, 3) := by decide +kernel
theorem dL_law_354 : decode bL_law 354 = .ok (.iconst 0, 1) := by decide +kernel
theorem dL_law_355 : decode bL_law 355 = .ok (.ireturn, 1) := by decide +kernel
theorem dL_law_356 : decode bL_law 356 = .ok (.iload 5, 2) := by decide +kernel
theorem dL_law_358 : decode bL_law 358 = .ok (.ifCond .ne 15, 3) := by decide +kernel
theorem dL_law_361 : decode bL_law 361 = .ok (.aload_n 3, 1) := by decide +kernel
theorem dL_law_362 : decode bL_law 362 = .ok (.iconst 0, 1) := by decide +kernel
theorem dL_law_363 : decode bL_law 363 = .ok (.laload, 1) := by decide +kernel
theorem dL_law_364 : decode bL_law 364 = .ok (.iload 6, 2) := by decide +kernel
theorem dL_law_366 : decode bL_law 366 = .ok (.i2l, 1) := by decide +kernel
theorem dL_law_367 : decode bL_law 367 = .ok (.lcmp, 1) := by decide +kernel
theorem dL_law_368 : decode bL_law 368 = .ok (.ifCond .eq 5, 3) := by decide +kernel
theorem dL_law_371 : decode bL_law 371 = .ok (.iconst 0, 1) := by decide +kernel
theorem dL_law_372 : decode bL_law 372 = .ok (.ireturn, 1) := by decide +kernel
theorem dL_law_373 : decode bL_law 373 = .ok (.goto 481, 3) := by decide +kernel
theorem dL_law_376 : decode bL_law 376 = .ok (.aload_n 1, 1) := by decide +kernel
theorem dL_law_377 : decode bL_law 377 = .ok (.aload_n 0, 1) := by decide +kernel
theorem dL_law_378 : decode bL_law 378 = .ok (.iload 4, 2) := by decide +kernel
theorem dL_law_380 : decode bL_law 380 = .ok (.iconst 1, 1) := by decide +kernel
theorem dL_law_381 : decode bL_law 381 = .ok (.iadd, 1) := by decide +kernel
theorem dL_law_382 : decode bL_law 382 = .ok (.iaload, 1) := by decide +kernel
theorem dL_law_383 : decode bL_law 383 = .ok (.aload_n 0, 1) := by decide +kernel
theorem dL_law_384 : decode bL_law 384 = .ok (.iload 4, 2) := by decide +kernel
theorem dL_law_386 : decode bL_law 386 = .ok (.iconst 2, 1) := by decide +kernel
theorem dL_law_387 : decode bL_law 387 = .ok (.iadd, 1) := by decide +kernel
theorem dL_law_388 : decode bL_law 388 = .ok (.iaload, 1) := by decide +kernel
theorem dL_law_389 : decode bL_law 389 = .ok (.aload_n 0, 1) := by decide +kernel
theorem dL_law_390 : decode bL_law 390 = .ok (.iload 4, 2) := by decide +kernel
theorem dL_law_392 : decode bL_law 392 = .ok (.iconst 3, 1) := by decide +kernel
theorem dL_law_393 : decode bL_law 393 = .ok (.iadd, 1) := by decide +kernel
theorem dL_law_394 : decode bL_law 394 = .ok (.iaload, 1) := by decide +kernel
theorem dL_law_395 : decode bL_law 395 = .ok (.aload_n 3, 1) := by decide +kernel
theorem dL_law_396 : decode bL_law 396 = .ok (.invokestatic 74, 3) := by decide +kernel
theorem dL_law_399 : decode bL_law 399 = .ok (.istore 5, 2) := by decide +kernel
theorem dL_law_401 : decode bL_law 401 = .ok (.aload_n 2, 1) := by decide +kernel
theorem dL_law_402 : decode bL_law 402 = .ok (.aload_n 0, 1) := by decide +kernel
theorem dL_law_403 : decode bL_law 403 = .ok (.iload 4, 2) := by decide +kernel
theorem dL_law_405 : decode bL_law 405 = .ok (.iconst 1, 1) := by decide +kernel
theorem dL_law_406 : decode bL_law 406 = .ok (.iadd, 1) := by decide +kernel
theorem dL_law_407 : decode bL_law 407 = .ok (.iaload, 1) := by decide +kernel
theorem dL_law_408 : decode bL_law 408 = .ok (.aload_n 0, 1) := by decide +kernel
theorem dL_law_409 : decode bL_law 409 = .ok (.iload 4, 2) := by decide +kernel
theorem dL_law_411 : decode bL_law 411 = .ok (.iconst 2, 1) := by decide +kernel
theorem dL_law_412 : decode bL_law 412 = .ok (.iadd, 1) := by decide +kernel
theorem dL_law_413 : decode bL_law 413 = .ok (.iaload, 1) := by decide +kernel
theorem dL_law_414 : decode bL_law 414 = .ok (.aload_n 0, 1) := by decide +kernel
theorem dL_law_415 : decode bL_law 415 = .ok (.iload 4, 2) := by decide +kernel
theorem dL_law_417 : decode bL_law 417 = .ok (.iconst 3, 1) := by decide +kernel
theorem dL_law_418 : decode bL_law 418 = .ok (.iadd, 1) := by decide +kernel
theorem dL_law_419 : decode bL_law 419 = .ok (.iaload, 1) := by decide +kernel
theorem dL_law_420 : decode bL_law 420 = .ok (.invokevirtual 76, 3) := by decide +kernel
theorem dL_law_423 : decode bL_law 423 = .ok (.istore 6, 2) := by decide +kernel
theorem dL_law_425 : decode bL_law 425 = .ok (.aload_n 2, 1) := by decide +kernel
theorem dL_law_426 : decode bL_law 426 = .ok (.invokevirtual 59, 3) := by decide +kernel
theorem dL_law_429 : decode bL_law 429 = .ok (.iload 5, 2) := by decide +kernel
theorem dL_law_431 : decode bL_law 431 = .ok (.if_icmp .eq 5, 3) := by decide +kernel
theorem dL_law_434 : decode bL_law 434 = .ok (.iconst 0, 1) := by decide +kernel
theorem dL_law_435 : decode bL_law 435 = .ok (.ireturn, 1) := by decide +kernel
theorem dL_law_436 : decode bL_law 436 = .ok (.iload 5, 2) := by decide +kernel
theorem dL_law_438 : decode bL_law 438 = .ok (.ifCond .ne 15, 3) := by decide +kernel
theorem dL_law_441 : decode bL_law 441 = .ok (.aload_n 3, 1) := by decide +kernel
theorem dL_law_442 : decode bL_law 442 = .ok (.iconst 0, 1) := by decide +kernel
theorem dL_law_443 : decode bL_law 443 = .ok (.laload, 1) := by decide +kernel
theorem dL_law_444 : decode bL_law 444 = .ok (.iload 6, 2) := by decide +kernel
theorem dL_law_446 : decode bL_law 446 = .ok (.i2l, 1) := by decide +kernel
theorem dL_law_447 : decode bL_law 447 = .ok (.lcmp, 1) := by decide +kernel
theorem dL_law_448 : decode bL_law 448 = .ok (.ifCond .eq 5, 3) := by decide +kernel
theorem dL_law_451 : decode bL_law 451 = .ok (.iconst 0, 1) := by decide +kernel
theorem dL_law_452 : decode bL_law 452 = .ok (.ireturn, 1) := by decide +kernel
theorem dL_law_453 : decode bL_law 453 = .ok (.goto 401, 3) := by decide +kernel
theorem dL_law_456 : decode bL_law 456 = .ok (.aload_n 1, 1) := by decide +kernel
theorem dL_law_457 : decode bL_law 457 = .ok (.aload_n 0, 1) := by decide +kernel
theorem dL_law_458 : decode bL_law 458 = .ok (.iload 4, 2) := by decide +kernel
theorem dL_law_460 : decode bL_law 460 = .ok (.iconst 1, 1) := by decide +kernel
theorem dL_law_461 : decode bL_law 461 = .ok (.iadd, 1) := by decide +kernel
theorem dL_law_462 : decode bL_law 462 = .ok (.iaload, 1) := by decide +kernel
theorem dL_law_463 : decode bL_law 463 = .ok (.aload_n 0, 1) := by decide +kernel
theorem dL_law_464 : decode bL_law 464 = .ok (.iload 4, 2) := by decide +kernel
theorem dL_law_466 : decode bL_law 466 = .ok (.iconst 2, 1) := by decide +kernel
theorem dL_law_467 : decode bL_law 467 = .ok (.iadd, 1) := by decide +kernel
theorem dL_law_468 : decode bL_law 468 = .ok (.iaload, 1) := by decide +kernel
theorem dL_law_469 : decode bL_law 469 = .ok (.aload_n 3, 1) := by decide +kernel
theorem dL_law_470 : decode bL_law 470 = .ok (.invokestatic 77, 3) := by decide +kernel
theorem dL_law_473 : decode bL_law 473 = .ok (.istore 5, 2) := by decide +kernel
theorem dL_law_475 : decode bL_law 475 = .ok (.aload_n 2, 1) := by decide +kernel
theorem dL_law_476 : decode bL_law 476 = .ok (.aload_n 0, 1) := by decide +kernel
theorem dL_law_477 : decode bL_law 477 = .ok (.iload 4, 2) := by decide +kernel
theorem dL_law_479 : decode bL_law 479 = .ok (.iconst 1, 1) := by decide +kernel
theorem dL_law_480 : decode bL_law 480 = .ok (.iadd, 1) := by decide +kernel
theorem dL_law_481 : decode bL_law 481 = .ok (.iaload, 1) := by decide +kernel
theorem dL_law_482 : decode bL_law 482 = .ok (.aload_n 0, 1) := by decide +kernel
theorem dL_law_483 : decode bL_law 483 = .ok (.iload 4, 2) := by decide +kernel
theorem dL_law_485 : decode bL_law 485 = .ok (.iconst 2, 1) := by decide +kernel
theorem dL_law_486 : decode bL_law 486 = .ok (.iadd, 1) := by decide +kernel
theorem dL_law_487 : decode bL_law 487 = .ok (.iaload, 1) := by decide +kernel
theorem dL_law_488 : decode bL_law 488 = .ok (.invokevirtual 79, 3) := by decide +kernel
theorem dL_law_491 : decode bL_law 491 = .ok (.istore 6, 2) := by decide +kernel
theorem dL_law_493 : decode bL_law 493 = .ok (.aload_n 2, 1) := by decide +kernel
theorem dL_law_494 : decode bL_law 494 = .ok (.invokevirtual 59, 3) := by decide +kernel
theorem dL_law_497 : decode bL_law 497 = .ok (.iload 5, 2) := by decide +kernel
theorem dL_law_499 : decode bL_law 499 = .ok (.if_icmp .eq 5, 3) := by decide +kernel
theorem dL_law_502 : decode bL_law 502 = .ok (.iconst 0, 1) := by decide +kernel
theorem dL_law_503 : decode bL_law 503 = .ok (.ireturn, 1) := by decide +kernel
theorem dL_law_504 : decode bL_law 504 = .ok (.iload 5, 2) := by decide +kernel
theorem dL_law_506 : decode bL_law 506 = .ok (.ifCond .ne 15, 3) := by decide +kernel
theorem dL_law_509 : decode bL_law 509 = .ok (.aload_n 3, 1) := by decide +kernel
theorem dL_law_510 : decode bL_law 510 = .ok (.iconst 0, 1) := by decide +kernel
theorem dL_law_511 : decode bL_law 511 = .ok (.laload, 1) := by decide +kernel
theorem dL_law_512 : decode bL_law 512 = .ok (.iload 6, 2) := by decide +kernel
theorem dL_law_514 : decode bL_law 514 = .ok (.i2l, 1) := by decide +kernel
theorem dL_law_515 : decode bL_law 515 = .ok (.lcmp, 1) := by decide +kernel
theorem dL_law_516 : decode bL_law 516 = .ok (.ifCond .eq 5, 3) := by decide +kernel
theorem dL_law_519 : decode bL_law 519 = .ok (.iconst 0, 1) := by decide +kernel
theorem dL_law_520 : decode bL_law 520 = .ok (.ireturn, 1) := by decide +kernel
theorem dL_law_521 : decode bL_law 521 = .ok (.goto 333, 3) := by decide +kernel
theorem dL_law_524 : decode bL_law 524 = .ok (.aload_n 1, 1) := by decide +kernel
theorem dL_law_525 : decode bL_law 525 = .ok (.aload_n 0, 1) := by decide +kernel
theorem dL_law_526 : decode bL_law 526 = .ok (.iload 4, 2) := by decide +kernel
theorem dL_law_528 : decode bL_law 528 = .ok (.iconst 1, 1) := by decide +kernel
theorem dL_law_529 : decode bL_law 529 = .ok (.iadd, 1) := by decide +kernel
theorem dL_law_530 : decode bL_law 530 = .ok (.iaload, 1) := by decide +kernel
theorem dL_law_531 : decode bL_law 531 = .ok (.aload_n 0, 1) := by decide +kernel
theorem dL_law_532 : decode bL_law 532 = .ok (.iload 4, 2) := by decide +kernel
theorem dL_law_534 : decode bL_law 534 = .ok (.iconst 2, 1) := by decide +kernel
theorem dL_law_535 : decode bL_law 535 = .ok (.iadd, 1) := by decide +kernel
theorem dL_law_536 : decode bL_law 536 = .ok (.iaload, 1) := by decide +kernel
theorem dL_law_537 : decode bL_law 537 = .ok (.aload_n 3, 1) := by decide +kernel
theorem dL_law_538 : decode bL_law 538 = .ok (.invokestatic 80, 3) := by decide +kernel
theorem dL_law_541 : decode bL_law 541 = .ok (.istore 5, 2) := by decide +kernel
theorem dL_law_543 : decode bL_law 543 = .ok (.aload_n 2, 1) := by decide +kernel
theorem dL_law_544 : decode bL_law 544 = .ok (.aload_n 0, 1) := by decide +kernel
theorem dL_law_545 : decode bL_law 545 = .ok (.iload 4, 2) := by decide +kernel
theorem dL_law_547 : decode bL_law 547 = .ok (.iconst 1, 1) := by decide +kernel
theorem dL_law_548 : decode bL_law 548 = .ok (.iadd, 1) := by decide +kernel
theorem dL_law_549 : decode bL_law 549 = .ok (.iaload, 1) := by decide +kernel
theorem dL_law_550 : decode bL_law 550 = .ok (.aload_n 0, 1) := by decide +kernel
theorem dL_law_551 : decode bL_law 551 = .ok (.iload 4, 2) := by decide +kernel
theorem dL_law_553 : decode bL_law 553 = .ok (.iconst 2, 1) := by decide +kernel
theorem dL_law_554 : decode bL_law 554 = .ok (.iadd, 1) := by decide +kernel
theorem dL_law_555 : decode bL_law 555 = .ok (.iaload, 1) := by decide +kernel
theorem dL_law_556 : decode bL_law 556 = .ok (.invokevirtual 82, 3) := by decide +kernel
theorem dL_law_559 : decode bL_law 559 = .ok (.istore 6, 2) := by decide +kernel
theorem dL_law_561 : decode bL_law 561 = .ok (.aload_n 2, 1) := by decide +kernel
theorem dL_law_562 : decode bL_law 562 = .ok (.invokevirtual 59, 3) := by decide +kernel
theorem dL_law_565 : decode bL_law 565 = .ok (.iload 5, 2) := by decide +kernel
theorem dL_law_567 : decode bL_law 567 = .ok (.if_icmp .eq 5, 3) := by decide +kernel
theorem dL_law_570 : decode bL_law 570 = .ok (.iconst 0, 1) := by decide +kernel
theorem dL_law_571 : decode bL_law 571 = .ok (.ireturn, 1) := by decide +kernel
theorem dL_law_572 : decode bL_law 572 = .ok (.iload 5, 2) := by decide +kernel
theorem dL_law_574 : decode bL_law 574 = .ok (.ifCond .ne 15, 3) := by decide +kernel
theorem dL_law_577 : decode bL_law 577 = .ok (.aload_n 3, 1) := by decide +kernel
theorem dL_law_578 : decode bL_law 578 = .ok (.iconst 0, 1) := by decide +kernel
theorem dL_law_579 : decode bL_law 579 = .ok (.laload, 1) := by decide +kernel
theorem dL_law_580 : decode bL_law 580 = .ok (.iload 6, 2) := by decide +kernel
theorem dL_law_582 : decode bL_law 582 = .ok (.i2l, 1) := by decide +kernel
theorem dL_law_583 : decode bL_law 583 = .ok (.lcmp, 1) := by decide +kernel
theorem dL_law_584 : decode bL_law 584 = .ok (.ifCond .eq 5, 3) := by decide +kernel
theorem dL_law_587 : decode bL_law 587 = .ok (.iconst 0, 1) := by decide +kernel
theorem dL_law_588 : decode bL_law 588 = .ok (.ireturn, 1) := by decide +kernel
theorem dL_law_589 : decode bL_law 589 = .ok (.goto 265, 3) := by decide +kernel
theorem dL_law_592 : decode bL_law 592 = .ok (.aload_n 1, 1) := by decide +kernel
theorem dL_law_593 : decode bL_law 593 = .ok (.aload_n 0, 1) := by decide +kernel
theorem dL_law_594 : decode bL_law 594 = .ok (.iload 4, 2) := by decide +kernel
theorem dL_law_596 : decode bL_law 596 = .ok (.iconst 1, 1) := by decide +kernel
theorem dL_law_597 : decode bL_law 597 = .ok (.iadd, 1) := by decide +kernel
theorem dL_law_598 : decode bL_law 598 = .ok (.iaload, 1) := by decide +kernel
theorem dL_law_599 : decode bL_law 599 = .ok (.aload_n 3, 1) := by decide +kernel
theorem dL_law_600 : decode bL_law 600 = .ok (.invokestatic 83, 3) := by decide +kernel
theorem dL_law_603 : decode bL_law 603 = .ok (.istore 5, 2) := by decide +kernel
theorem dL_law_605 : decode bL_law 605 = .ok (.aload_n 2, 1) := by decide +kernel
theorem dL_law_606 : decode bL_law 606 = .ok (.aload_n 0, 1) := by decide +kernel
theorem dL_law_607 : decode bL_law 607 = .ok (.iload 4, 2) := by decide +kernel
theorem dL_law_609 : decode bL_law 609 = .ok (.iconst 1, 1) := by decide +kernel
theorem dL_law_610 : decode bL_law 610 = .ok (.iadd, 1) := by decide +kernel
theorem dL_law_611 : decode bL_law 611 = .ok (.iaload, 1) := by decide +kernel
theorem dL_law_612 : decode bL_law 612 = .ok (.invokevirtual 85, 3) := by decide +kernel
theorem dL_law_615 : decode bL_law 615 = .ok (.istore 6, 2) := by decide +kernel
theorem dL_law_617 : decode bL_law 617 = .ok (.aload_n 2, 1) := by decide +kernel
theorem dL_law_618 : decode bL_law 618 = .ok (.invokevirtual 59, 3) := by decide +kernel
theorem dL_law_621 : decode bL_law 621 = .ok (.iload 5, 2) := by decide +kernel
theorem dL_law_623 : decode bL_law 623 = .ok (.if_icmp .eq 5, 3) := by decide +kernel
theorem dL_law_626 : decode bL_law 626 = .ok (.iconst 0, 1) := by decide +kernel
theorem dL_law_627 : decode bL_law 627 = .ok (.ireturn, 1) := by decide +kernel
theorem dL_law_628 : decode bL_law 628 = .ok (.iload 5, 2) := by decide +kernel
theorem dL_law_630 : decode bL_law 630 = .ok (.ifCond .ne 15, 3) := by decide +kernel
theorem dL_law_633 : decode bL_law 633 = .ok (.aload_n 3, 1) := by decide +kernel
theorem dL_law_634 : decode bL_law 634 = .ok (.iconst 0, 1) := by decide +kernel
theorem dL_law_635 : decode bL_law 635 = .ok (.laload, 1) := by decide +kernel
theorem dL_law_636 : decode bL_law 636 = .ok (.iload 6, 2) := by decide +kernel
theorem dL_law_638 : decode bL_law 638 = .ok (.i2l, 1) := by decide +kernel
theorem dL_law_639 : decode bL_law 639 = .ok (.lcmp, 1) := by decide +kernel
theorem dL_law_640 : decode bL_law 640 = .ok (.ifCond .eq 5, 3) := by decide +kernel
theorem dL_law_643 : decode bL_law 643 = .ok (.iconst 0, 1) := by decide +kernel
theorem dL_law_644 : decode bL_law 644 = .ok (.ireturn, 1) := by decide +kernel
theorem dL_law_645 : decode bL_law 645 = .ok (.goto 209, 3) := by decide +kernel
theorem dL_law_648 : decode bL_law 648 = .ok (.aload_n 1, 1) := by decide +kernel
theorem dL_law_649 : decode bL_law 649 = .ok (.invokevirtual 86, 3) := by decide +kernel
theorem dL_law_652 : decode bL_law 652 = .ok (.aload_n 2, 1) := by decide +kernel
theorem dL_law_653 : decode bL_law 653 = .ok (.invokevirtual 89, 3) := by decide +kernel
theorem dL_law_656 : decode bL_law 656 = .ok (.if_icmp .eq 198, 3) := by decide +kernel
theorem dL_law_659 : decode bL_law 659 = .ok (.iconst 0, 1) := by decide +kernel
theorem dL_law_660 : decode bL_law 660 = .ok (.ireturn, 1) := by decide +kernel
theorem dL_law_661 : decode bL_law 661 = .ok (.aload_n 1, 1) := by decide +kernel
theorem dL_law_662 : decode bL_law 662 = .ok (.aload_n 0, 1) := by decide +kernel
theorem dL_law_663 : decode bL_law 663 = .ok (.iload 4, 2) := by decide +kernel
theorem dL_law_665 : decode bL_law 665 = .ok (.iconst 1, 1) := by decide +kernel
theorem dL_law_666 : decode bL_law 666 = .ok (.iadd, 1) := by decide +kernel
theorem dL_law_667 : decode bL_law 667 = .ok (.iaload, 1) := by decide +kernel
theorem dL_law_668 : decode bL_law 668 = .ok (.aload_n 3, 1) := by decide +kernel
theorem dL_law_669 : decode bL_law 669 = .ok (.invokestatic 90, 3) := by decide +kernel
theorem dL_law_672 : decode bL_law 672 = .ok (.istore 5, 2) := by decide +kernel
theorem dL_law_674 : decode bL_law 674 = .ok (.aload_n 2, 1) := by decide +kernel
theorem dL_law_675 : decode bL_law 675 = .ok (.aload_n 0, 1) := by decide +kernel
theorem dL_law_676 : decode bL_law 676 = .ok (.iload 4, 2) := by decide +kernel
theorem dL_law_678 : decode bL_law 678 = .ok (.iconst 1, 1) := by decide +kernel
theorem dL_law_679 : decode bL_law 679 = .ok (.iadd, 1) := by decide +kernel
theorem dL_law_680 : decode bL_law 680 = .ok (.iaload, 1) := by decide +kernel
theorem dL_law_681 : decode bL_law 681 = .ok (.invokevirtual 92, 3) := by decide +kernel
theorem dL_law_684 : decode bL_law 684 = .ok (.istore 6, 2) := by decide +kernel
theorem dL_law_686 : decode bL_law 686 = .ok (.aload_n 2, 1) := by decide +kernel
theorem dL_law_687 : decode bL_law 687 = .ok (.invokevirtual 59, 3) := by decide +kernel
theorem dL_law_690 : decode bL_law 690 = .ok (.iload 5, 2) := by decide +kernel
theorem dL_law_692 : decode bL_law 692 = .ok (.if_icmp .eq 5, 3) := by decide +kernel
theorem dL_law_695 : decode bL_law 695 = .ok (.iconst 0, 1) := by decide +kernel
theorem dL_law_696 : decode bL_law 696 = .ok (.ireturn, 1) := by decide +kernel
theorem dL_law_697 : decode bL_law 697 = .ok (.iload 5, 2) := by decide +kernel
theorem dL_law_699 : decode bL_law 699 = .ok (.ifCond .ne 15, 3) := by decide +kernel
theorem dL_law_702 : decode bL_law 702 = .ok (.aload_n 3, 1) := by decide +kernel
theorem dL_law_703 : decode bL_law 703 = .ok (.iconst 0, 1) := by decide +kernel
theorem dL_law_704 : decode bL_law 704 = .ok (.laload, 1) := by decide +kernel
theorem dL_law_705 : decode bL_law 705 = .ok (.iload 6, 2) := by decide +kernel
theorem dL_law_707 : decode bL_law 707 = .ok (.i2l, 1) := by decide +kernel
theorem dL_law_708 : decode bL_law 708 = .ok (.lcmp, 1) := by decide +kernel
theorem dL_law_709 : decode bL_law 709 = .ok (.ifCond .eq 5, 3) := by decide +kernel
theorem dL_law_712 : decode bL_law 712 = .ok (.iconst 0, 1) := by decide +kernel
theorem dL_law_713 : decode bL_law 713 = .ok (.ireturn, 1) := by decide +kernel
theorem dL_law_714 : decode bL_law 714 = .ok (.goto 140, 3) := by decide +kernel
theorem dL_law_717 : decode bL_law 717 = .ok (.aload_n 1, 1) := by decide +kernel
theorem dL_law_718 : decode bL_law 718 = .ok (.aload_n 0, 1) := by decide +kernel
theorem dL_law_719 : decode bL_law 719 = .ok (.iload 4, 2) := by decide +kernel
theorem dL_law_721 : decode bL_law 721 = .ok (.iconst 1, 1) := by decide +kernel
theorem dL_law_722 : decode bL_law 722 = .ok (.iadd, 1) := by decide +kernel
theorem dL_law_723 : decode bL_law 723 = .ok (.iaload, 1) := by decide +kernel
theorem dL_law_724 : decode bL_law 724 = .ok (.invokevirtual 93, 3) := by decide +kernel
theorem dL_law_727 : decode bL_law 727 = .ok (.aload_n 2, 1) := by decide +kernel
theorem dL_law_728 : decode bL_law 728 = .ok (.aload_n 0, 1) := by decide +kernel
theorem dL_law_729 : decode bL_law 729 = .ok (.iload 4, 2) := by decide +kernel
theorem dL_law_731 : decode bL_law 731 = .ok (.iconst 1, 1) := by decide +kernel
theorem dL_law_732 : decode bL_law 732 = .ok (.iadd, 1) := by decide +kernel
theorem dL_law_733 : decode bL_law 733 = .ok (.iaload, 1) := by decide +kernel
theorem dL_law_734 : decode bL_law 734 = .ok (.invokevirtual 96, 3) := by decide +kernel
theorem dL_law_737 : decode bL_law 737 = .ok (.if_icmp .eq 117, 3) := by decide +kernel
theorem dL_law_740 : decode bL_law 740 = .ok (.iconst 0, 1) := by decide +kernel
theorem dL_law_741 : decode bL_law 741 = .ok (.ireturn, 1) := by decide +kernel
theorem dL_law_742 : decode bL_law 742 = .ok (.aload_n 1, 1) := by decide +kernel
theorem dL_law_743 : decode bL_law 743 = .ok (.aload_n 0, 1) := by decide +kernel
theorem dL_law_744 : decode bL_law 744 = .ok (.iload 4, 2) := by decide +kernel
theorem dL_law_746 : decode bL_law 746 = .ok (.iconst 1, 1) := by decide +kernel
theorem dL_law_747 : decode bL_law 747 = .ok (.iadd, 1) := by decide +kernel
theorem dL_law_748 : decode bL_law 748 = .ok (.iaload, 1) := by decide +kernel
theorem dL_law_749 : decode bL_law 749 = .ok (.aload_n 3, 1) := by decide +kernel
theorem dL_law_750 : decode bL_law 750 = .ok (.invokestatic 97, 3) := by decide +kernel
theorem dL_law_753 : decode bL_law 753 = .ok (.istore 5, 2) := by decide +kernel
theorem dL_law_755 : decode bL_law 755 = .ok (.aload_n 2, 1) := by decide +kernel
theorem dL_law_756 : decode bL_law 756 = .ok (.aload_n 0, 1) := by decide +kernel
theorem dL_law_757 : decode bL_law 757 = .ok (.iload 4, 2) := by decide +kernel
theorem dL_law_759 : decode bL_law 759 = .ok (.iconst 1, 1) := by decide +kernel
theorem dL_law_760 : decode bL_law 760 = .ok (.iadd, 1) := by decide +kernel
theorem dL_law_761 : decode bL_law 761 = .ok (.iaload, 1) := by decide +kernel
theorem dL_law_762 : decode bL_law 762 = .ok (.invokevirtual 99, 3) := by decide +kernel
theorem dL_law_765 : decode bL_law 765 = .ok (.istore 6, 2) := by decide +kernel
theorem dL_law_767 : decode bL_law 767 = .ok (.aload_n 2, 1) := by decide +kernel
theorem dL_law_768 : decode bL_law 768 = .ok (.invokevirtual 59, 3) := by decide +kernel
theorem dL_law_771 : decode bL_law 771 = .ok (.iload 5, 2) := by decide +kernel
theorem dL_law_773 : decode bL_law 773 = .ok (.if_icmp .eq 5, 3) := by decide +kernel
theorem dL_law_776 : decode bL_law 776 = .ok (.iconst 0, 1) := by decide +kernel
theorem dL_law_777 : decode bL_law 777 = .ok (.ireturn, 1) := by decide +kernel
theorem dL_law_778 : decode bL_law 778 = .ok (.iload 5, 2) := by decide +kernel
theorem dL_law_780 : decode bL_law 780 = .ok (.ifCond .ne 15, 3) := by decide +kernel
theorem dL_law_783 : decode bL_law 783 = .ok (.aload_n 3, 1) := by decide +kernel
theorem dL_law_784 : decode bL_law 784 = .ok (.iconst 0, 1) := by decide +kernel
theorem dL_law_785 : decode bL_law 785 = .ok (.laload, 1) := by decide +kernel
theorem dL_law_786 : decode bL_law 786 = .ok (.iload 6, 2) := by decide +kernel
theorem dL_law_788 : decode bL_law 788 = .ok (.i2l, 1) := by decide +kernel
theorem dL_law_789 : decode bL_law 789 = .ok (.lcmp, 1) := by decide +kernel
theorem dL_law_790 : decode bL_law 790 = .ok (.ifCond .eq 5, 3) := by decide +kernel
theorem dL_law_793 : decode bL_law 793 = .ok (.iconst 0, 1) := by decide +kernel
theorem dL_law_794 : decode bL_law 794 = .ok (.ireturn, 1) := by decide +kernel
theorem dL_law_795 : decode bL_law 795 = .ok (.goto 59, 3) := by decide +kernel
theorem dL_law_798 : decode bL_law 798 = .ok (.aload_n 1, 1) := by decide +kernel
theorem dL_law_799 : decode bL_law 799 = .ok (.aload_n 0, 1) := by decide +kernel
theorem dL_law_800 : decode bL_law 800 = .ok (.iload 4, 2) := by decide +kernel
theorem dL_law_802 : decode bL_law 802 = .ok (.iconst 1, 1) := by decide +kernel
theorem dL_law_803 : decode bL_law 803 = .ok (.iadd, 1) := by decide +kernel
theorem dL_law_804 : decode bL_law 804 = .ok (.iaload, 1) := by decide +kernel
theorem dL_law_805 : decode bL_law 805 = .ok (.aload_n 3, 1) := by decide +kernel
theorem dL_law_806 : decode bL_law 806 = .ok (.invokestatic 100, 3) := by decide +kernel
theorem dL_law_809 : decode bL_law 809 = .ok (.istore 5, 2) := by decide +kernel
theorem dL_law_811 : decode bL_law 811 = .ok (.aload_n 2, 1) := by decide +kernel
theorem dL_law_812 : decode bL_law 812 = .ok (.aload_n 0, 1) := by decide +kernel
theorem dL_law_813 : decode bL_law 813 = .ok (.iload 4, 2) := by decide +kernel
theorem dL_law_815 : decode bL_law 815 = .ok (.iconst 1, 1) := by decide +kernel
theorem dL_law_816 : decode bL_law 816 = .ok (.iadd, 1) := by decide +kernel
theorem dL_law_817 : decode bL_law 817 = .ok (.iaload, 1) := by decide +kernel
theorem dL_law_818 : decode bL_law 818 = .ok (.invokevirtual 102, 3) := by decide +kernel
theorem dL_law_821 : decode bL_law 821 = .ok (.istore 6, 2) := by decide +kernel
theorem dL_law_823 : decode bL_law 823 = .ok (.aload_n 2, 1) := by decide +kernel
theorem dL_law_824 : decode bL_law 824 = .ok (.invokevirtual 59, 3) := by decide +kernel
theorem dL_law_827 : decode bL_law 827 = .ok (.iload 5, 2) := by decide +kernel
theorem dL_law_829 : decode bL_law 829 = .ok (.if_icmp .eq 5, 3) := by decide +kernel
theorem dL_law_832 : decode bL_law 832 = .ok (.iconst 0, 1) := by decide +kernel
theorem dL_law_833 : decode bL_law 833 = .ok (.ireturn, 1) := by decide +kernel
theorem dL_law_834 : decode bL_law 834 = .ok (.iload 5, 2) := by decide +kernel
theorem dL_law_836 : decode bL_law 836 = .ok (.ifCond .ne 15, 3) := by decide +kernel
theorem dL_law_839 : decode bL_law 839 = .ok (.aload_n 3, 1) := by decide +kernel
theorem dL_law_840 : decode bL_law 840 = .ok (.iconst 0, 1) := by decide +kernel
theorem dL_law_841 : decode bL_law 841 = .ok (.laload, 1) := by decide +kernel
theorem dL_law_842 : decode bL_law 842 = .ok (.iload 6, 2) := by decide +kernel
theorem dL_law_844 : decode bL_law 844 = .ok (.i2l, 1) := by decide +kernel
theorem dL_law_845 : decode bL_law 845 = .ok (.lcmp, 1) := by decide +kernel
theorem dL_law_846 : decode bL_law 846 = .ok (.ifCond .eq 5, 3) := by decide +kernel
theorem dL_law_849 : decode bL_law 849 = .ok (.iconst 0, 1) := by decide +kernel
theorem dL_law_850 : decode bL_law 850 = .ok (.ireturn, 1) := by decide +kernel
theorem dL_law_851 : decode bL_law 851 = .ok (.goto 3, 3) := by decide +kernel
theorem dL_law_854 : decode bL_law 854 = .ok (.iinc 4 4, 3) := by decide +kernel
theorem dL_law_857 : decode bL_law 857 = .ok (.goto (-834), 3) := by decide +kernel
theorem dL_law_860 : decode bL_law 860 = .ok (.iconst 1, 1) := by decide +kernel
theorem dL_law_861 : decode bL_law 861 = .ok (.ireturn, 1) := by decide +kernel
theorem dL_make_0 : decode bL_make 0 = .ok (.aload_n 3, 1) := by decide +kernel
theorem dL_make_1 : decode bL_make 1 = .ok (.iconst 0, 1) := by decide +kernel
theorem dL_make_2 : decode bL_make 2 = .ok (.aload_n 0, 1) := by decide +kernel
theorem dL_make_3 : decode bL_make 3 = .ok (.iload_n 1, 1) := by decide +kernel
theorem dL_make_4 : decode bL_make 4 = .ok (.iload_n 2, 1) := by decide +kernel
theorem dL_make_5 : decode bL_make 5 = .ok (.invokevirtual 15, 3) := by decide +kernel
theorem dL_make_8 : decode bL_make 8 = .ok (.i2l, 1) := by decide +kernel
theorem dL_make_9 : decode bL_make 9 = .ok (.lastore, 1) := by decide +kernel
theorem dL_make_10 : decode bL_make 10 = .ok (.goto 7, 3) := by decide +kernel
theorem dL_make_13 : decode bL_make 13 = .ok (.astore 4, 2) := by decide +kernel
theorem dL_make_15 : decode bL_make 15 = .ok (.iconst 1, 1) := by decide +kernel
theorem dL_make_16 : decode bL_make 16 = .ok (.ireturn, 1) := by decide +kernel
theorem dL_make_17 : decode bL_make 17 = .ok (.iconst 0, 1) := by decide +kernel
theorem dL_make_18 : decode bL_make 18 = .ok (.ireturn, 1) := by decide +kernel
theorem dL_next_0 : decode bL_next 0 = .ok (.aload_n 2, 1) := by decide +kernel
theorem dL_next_1 : decode bL_next 1 = .ok (.iconst 0, 1) := by decide +kernel
theorem dL_next_2 : decode bL_next 2 = .ok (.aload_n 0, 1) := by decide +kernel
theorem dL_next_3 : decode bL_next 3 = .ok (.iload_n 1, 1) := by decide +kernel
theorem dL_next_4 : decode bL_next 4 = .ok (.invokevirtual 43, 3) := by decide +kernel
theorem dL_next_7 : decode bL_next 7 = .ok (.i2l, 1) := by decide +kernel
theorem dL_next_8 : decode bL_next 8 = .ok (.lastore, 1) := by decide +kernel
theorem dL_next_9 : decode bL_next 9 = .ok (.goto 6, 3) := by decide +kernel
theorem dL_next_12 : decode bL_next 12 = .ok (.astore_n 3, 1) := by decide +kernel
theorem dL_next_13 : decode bL_next 13 = .ok (.iconst 1, 1) := by decide +kernel
theorem dL_next_14 : decode bL_next 14 = .ok (.ireturn, 1) := by decide +kernel
theorem dL_next_15 : decode bL_next 15 = .ok (.iconst 0, 1) := by decide +kernel
theorem dL_next_16 : decode bL_next 16 = .ok (.ireturn, 1) := by decide +kernel
theorem dL_number_0 : decode bL_number 0 = .ok (.aload_n 2, 1) := by decide +kernel
theorem dL_number_1 : decode bL_number 1 = .ok (.iconst 0, 1) := by decide +kernel
theorem dL_number_2 : decode bL_number 2 = .ok (.aload_n 0, 1) := by decide +kernel
theorem dL_number_3 : decode bL_number 3 = .ok (.iload_n 1, 1) := by decide +kernel
theorem dL_number_4 : decode bL_number 4 = .ok (.invokevirtual 40, 3) := by decide +kernel
theorem dL_number_7 : decode bL_number 7 = .ok (.i2l, 1) := by decide +kernel
theorem dL_number_8 : decode bL_number 8 = .ok (.lastore, 1) := by decide +kernel
theorem dL_number_9 : decode bL_number 9 = .ok (.goto 6, 3) := by decide +kernel
theorem dL_number_12 : decode bL_number 12 = .ok (.astore_n 3, 1) := by decide +kernel
theorem dL_number_13 : decode bL_number 13 = .ok (.iconst 1, 1) := by decide +kernel
theorem dL_number_14 : decode bL_number 14 = .ok (.ireturn, 1) := by decide +kernel
theorem dL_number_15 : decode bL_number 15 = .ok (.iconst 0, 1) := by decide +kernel
theorem dL_number_16 : decode bL_number 16 = .ok (.ireturn, 1) := by decide +kernel
theorem dL_put_0 : decode bL_put 0 = .ok (.aload 4, 2) := by decide +kernel
theorem dL_put_2 : decode bL_put 2 = .ok (.iconst 0, 1) := by decide +kernel
theorem dL_put_3 : decode bL_put 3 = .ok (.aload_n 0, 1) := by decide +kernel
theorem dL_put_4 : decode bL_put 4 = .ok (.iload_n 1, 1) := by decide +kernel
theorem dL_put_5 : decode bL_put 5 = .ok (.iload_n 2, 1) := by decide +kernel
theorem dL_put_6 : decode bL_put 6 = .ok (.iload_n 3, 1) := by decide +kernel
theorem dL_put_7 : decode bL_put 7 = .ok (.invokevirtual 28, 3) := by decide +kernel
theorem dL_put_10 : decode bL_put 10 = .ok (.i2l, 1) := by decide +kernel
theorem dL_put_11 : decode bL_put 11 = .ok (.lastore, 1) := by decide +kernel
theorem dL_put_12 : decode bL_put 12 = .ok (.goto 7, 3) := by decide +kernel
theorem dL_put_15 : decode bL_put 15 = .ok (.astore 5, 2) := by decide +kernel
theorem dL_put_17 : decode bL_put 17 = .ok (.iconst 1, 1) := by decide +kernel
theorem dL_put_18 : decode bL_put 18 = .ok (.ireturn, 1) := by decide +kernel
theorem dL_put_19 : decode bL_put 19 = .ok (.iconst 0, 1) := by decide +kernel
theorem dL_put_20 : decode bL_put 20 = .ok (.ireturn, 1) := by decide +kernel
theorem dL_root_0 : decode bL_root 0 = .ok (.aload_n 3, 1) := by decide +kernel
theorem dL_root_1 : decode bL_root 1 = .ok (.iconst 0, 1) := by decide +kernel
theorem dL_root_2 : decode bL_root 2 = .ok (.aload_n 0, 1) := by decide +kernel
theorem dL_root_3 : decode bL_root 3 = .ok (.iload_n 1, 1) := by decide +kernel
theorem dL_root_4 : decode bL_root 4 = .ok (.iload_n 2, 1) := by decide +kernel
theorem dL_root_5 : decode bL_root 5 = .ok (.invokevirtual 34, 3) := by decide +kernel
theorem dL_root_8 : decode bL_root 8 = .ok (.i2l, 1) := by decide +kernel
theorem dL_root_9 : decode bL_root 9 = .ok (.lastore, 1) := by decide +kernel
theorem dL_root_10 : decode bL_root 10 = .ok (.goto 7, 3) := by decide +kernel
theorem dL_root_13 : decode bL_root 13 = .ok (.astore 4, 2) := by decide +kernel
theorem dL_root_15 : decode bL_root 15 = .ok (.iconst 1, 1) := by decide +kernel
theorem dL_root_16 : decode bL_root 16 = .ok (.ireturn, 1) := by decide +kernel
theorem dL_root_17 : decode bL_root 17 = .ok (.iconst 0, 1) := by decide +kernel
theorem dL_root_18 : decode bL_root 18 = .ok (.ireturn, 1) := by decide +kernel
theorem dL_rooted_0 : decode bL_rooted 0 = .ok (.aload_n 2, 1) := by decide +kernel
theorem dL_rooted_1 : decode bL_rooted 1 = .ok (.iconst 0, 1) := by decide +kernel
theorem dL_rooted_2 : decode bL_rooted 2 = .ok (.aload_n 0, 1) := by decide +kernel
theorem dL_rooted_3 : decode bL_rooted 3 = .ok (.iload_n 1, 1) := by decide +kernel
theorem dL_rooted_4 : decode bL_rooted 4 = .ok (.invokevirtual 37, 3) := by decide +kernel
theorem dL_rooted_7 : decode bL_rooted 7 = .ok (.i2l, 1) := by decide +kernel
theorem dL_rooted_8 : decode bL_rooted 8 = .ok (.lastore, 1) := by decide +kernel
theorem dL_rooted_9 : decode bL_rooted 9 = .ok (.goto 6, 3) := by decide +kernel
theorem dL_rooted_12 : decode bL_rooted 12 = .ok (.astore_n 3, 1) := by decide +kernel
theorem dL_rooted_13 : decode bL_rooted 13 = .ok (.iconst 1, 1) := by decide +kernel
theorem dL_rooted_14 : decode bL_rooted 14 = .ok (.ireturn, 1) := by decide +kernel
theorem dL_rooted_15 : decode bL_rooted 15 = .ok (.iconst 0, 1) := by decide +kernel
theorem dL_rooted_16 : decode bL_rooted 16 = .ok (.ireturn, 1) := by decide +kernel
theorem dL_set_0 : decode bL_set 0 = .ok (.aload 4, 2) := by decide +kernel
theorem dL_set_2 : decode bL_set 2 = .ok (.iconst 0, 1) := by decide +kernel
theorem dL_set_3 : decode bL_set 3 = .ok (.aload_n 0, 1) := by decide +kernel
theorem dL_set_4 : decode bL_set 4 = .ok (.iload_n 1, 1) := by decide +kernel
theorem dL_set_5 : decode bL_set 5 = .ok (.iload_n 2, 1) := by decide +kernel
theorem dL_set_6 : decode bL_set 6 = .ok (.iload_n 3, 1) := by decide +kernel
theorem dL_set_7 : decode bL_set 7 = .ok (.invokevirtual 19, 3) := by decide +kernel
theorem dL_set_10 : decode bL_set 10 = .ok (.i2l, 1) := by decide +kernel
theorem dL_set_11 : decode bL_set 11 = .ok (.lastore, 1) := by decide +kernel
theorem dL_set_12 : decode bL_set 12 = .ok (.goto 7, 3) := by decide +kernel
theorem dL_set_15 : decode bL_set 15 = .ok (.astore 5, 2) := by decide +kernel
theorem dL_set_17 : decode bL_set 17 = .ok (.iconst 1, 1) := by decide +kernel
theorem dL_set_18 : decode bL_set 18 = .ok (.ireturn, 1) := by decide +kernel
theorem dL_set_19 : decode bL_set 19 = .ok (.iconst 0, 1) := by decide +kernel
theorem dL_set_20 : decode bL_set 20 = .ok (.ireturn, 1) := by decide +kernel
theorem dL_space_0 : decode bL_space 0 = .ok (.aload_n 2, 1) := by decide +kernel
theorem dL_space_1 : decode bL_space 1 = .ok (.iconst 0, 1) := by decide +kernel
theorem dL_space_2 : decode bL_space 2 = .ok (.aload_n 0, 1) := by decide +kernel
theorem dL_space_3 : decode bL_space 3 = .ok (.iload_n 1, 1) := by decide +kernel
theorem dL_space_4 : decode bL_space 4 = .ok (.invokevirtual 7, 3) := by decide +kernel
theorem dL_space_7 : decode bL_space 7 = .ok (.i2l, 1) := by decide +kernel
theorem dL_space_8 : decode bL_space 8 = .ok (.lastore, 1) := by decide +kernel
theorem dL_space_9 : decode bL_space 9 = .ok (.goto 6, 3) := by decide +kernel
theorem dL_space_12 : decode bL_space 12 = .ok (.astore_n 3, 1) := by decide +kernel
theorem dL_space_13 : decode bL_space 13 = .ok (.iconst 1, 1) := by decide +kernel
theorem dL_space_14 : decode bL_space 14 = .ok (.ireturn, 1) := by decide +kernel
theorem dL_space_15 : decode bL_space 15 = .ok (.iconst 0, 1) := by decide +kernel
theorem dL_space_16 : decode bL_space 16 = .ok (.ireturn, 1) := by decide +kernel
theorem dL_word_0 : decode bL_word 0 = .ok (.aload_n 3, 1) := by decide +kernel
theorem dL_word_1 : decode bL_word 1 = .ok (.iconst 0, 1) := by decide +kernel
theorem dL_word_2 : decode bL_word 2 = .ok (.aload_n 0, 1) := by decide +kernel
theorem dL_word_3 : decode bL_word 3 = .ok (.iload_n 1, 1) := by decide +kernel
theorem dL_word_4 : decode bL_word 4 = .ok (.iload_n 2, 1) := by decide +kernel
theorem dL_word_5 : decode bL_word 5 = .ok (.invokevirtual 31, 3) := by decide +kernel
theorem dL_word_8 : decode bL_word 8 = .ok (.i2l, 1) := by decide +kernel
theorem dL_word_9 : decode bL_word 9 = .ok (.lastore, 1) := by decide +kernel
theorem dL_word_10 : decode bL_word 10 = .ok (.goto 7, 3) := by decide +kernel
theorem dL_word_13 : decode bL_word 13 = .ok (.astore 4, 2) := by decide +kernel
theorem dL_word_15 : decode bL_word 15 = .ok (.iconst 1, 1) := by decide +kernel
theorem dL_word_16 : decode bL_word 16 = .ok (.ireturn, 1) := by decide +kernel
theorem dL_word_17 : decode bL_word 17 = .ok (.iconst 0, 1) := by decide +kernel
theorem dL_word_18 : decode bL_word 18 = .ok (.ireturn, 1) := by decide +kernel
