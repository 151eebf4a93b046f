theorem dX10_token_32 : decode cX10_token 32 = .ok (.aload_n 0, 1) := by decide +kernel
theorem dX10_token_33 : decode cX10_token 33 = .ok (.aload_n 0, 1) := by decide +kernel
theorem dX10_token_34 : decode cX10_token 34 = .ok (.getfield 167, 3) := by decide +kernel
theorem dX10_token_37 : decode cX10_token 37 = .ok (.invokevirtual 170, 3) := by decide +kernel
theorem dX10_token_40 : decode cX10_token 40 = .ok (.bipush 10, 2) := by decide +kernel
theorem dX10_token_42 : decode cX10_token 42 = .ok (.if_icmp .ne 16, 3) := by decide +kernel
theorem dX10_token_45 : decode cX10_token 45 = .ok (.aload_n 0, 1) := by decide +kernel
theorem dX10_token_46 : decode cX10_token 46 = .ok (.dup, 1) := by decide +kernel
theorem dX10_token_47 : decode cX10_token 47 = .ok (.getfield 167, 3) := by decide +kernel
theorem dX10_token_50 : decode cX10_token 50 = .ok (.iconst 1, 1) := by decide +kernel
theorem dX10_token_51 : decode cX10_token 51 = .ok (.iadd, 1) := by decide +kernel
theorem dX10_token_52 : decode cX10_token 52 = .ok (.putfield 167, 3) := by decide +kernel
theorem dX10_token_55 : decode cX10_token 55 = .ok (.goto (-47), 3) := by decide +kernel
theorem dX10_token_58 : decode cX10_token 58 = .ok (.aload_n 0, 1) := by decide +kernel
theorem dX10_token_59 : decode cX10_token 59 = .ok (.aload_n 0, 1) := by decide +kernel
theorem dX10_token_60 : decode cX10_token 60 = .ok (.getfield 167, 3) := by decide +kernel
theorem dX10_token_63 : decode cX10_token 63 = .ok (.putfield 174, 3) := by decide +kernel
theorem dX10_token_66 : decode cX10_token 66 = .ok (.aload_n 0, 1) := by decide +kernel
theorem dX10_token_67 : decode cX10_token 67 = .ok (.aload_n 0, 1) := by decide +kernel
theorem dX10_token_68 : decode cX10_token 68 = .ok (.getfield 174, 3) := by decide +kernel
theorem dX10_token_71 : decode cX10_token 71 = .ok (.invokevirtual 170, 3) := by decide +kernel
theorem dX10_token_74 : decode cX10_token 74 = .ok (.istore_n 1, 1) := by decide +kernel
theorem dX10_token_75 : decode cX10_token 75 = .ok (.aload_n 0, 1) := by decide +kernel
theorem dX10_token_76 : decode cX10_token 76 = .ok (.getfield 174, 3) := by decide +kernel
theorem dX10_token_79 : decode cX10_token 79 = .ok (.aload_n 0, 1) := by decide +kernel
theorem dX10_token_80 : decode cX10_token 80 = .ok (.getfield 157, 3) := by decide +kernel
theorem dX10_token_83 : decode cX10_token 83 = .ok (.if_icmp .ne 11, 3) := by decide +kernel
theorem dX10_token_86 : decode cX10_token 86 = .ok (.aload_n 0, 1) := by decide +kernel
theorem dX10_token_87 : decode cX10_token 87 = .ok (.iconst 0, 1) := by decide +kernel
theorem dX10_token_88 : decode cX10_token 88 = .ok (.putfield 177, 3) := by decide +kernel
theorem dX10_token_91 : decode cX10_token 91 = .ok (.goto 319, 3) := by decide +kernel
theorem dX10_token_94 : decode cX10_token 94 = .ok (.iload_n 1, 1) := by decide +kernel
theorem dX10_token_95 : decode cX10_token 95 = .ok (.invokestatic 180, 3) := by decide +kernel
theorem dX10_token_98 : decode cX10_token 98 = .ok (.ifCond .eq 105, 3) := by decide +kernel
theorem dX10_token_101 : decode cX10_token 101 = .ok (.aload_n 0, 1) := by decide +kernel
theorem dX10_token_102 : decode cX10_token 102 = .ok (.iconst 0, 1) := by decide +kernel
theorem dX10_token_103 : decode cX10_token 103 = .ok (.putfield 184, 3) := by decide +kernel
theorem dX10_token_106 : decode cX10_token 106 = .ok (.aload_n 0, 1) := by decide +kernel
theorem dX10_token_107 : decode cX10_token 107 = .ok (.aload_n 0, 1) := by decide +kernel
theorem dX10_token_108 : decode cX10_token 108 = .ok (.getfield 167, 3) := by decide +kernel
theorem dX10_token_111 : decode cX10_token 111 = .ok (.invokevirtual 170, 3) := by decide +kernel
theorem dX10_token_114 : decode cX10_token 114 = .ok (.invokestatic 180, 3) := by decide +kernel
theorem dX10_token_117 : decode cX10_token 117 = .ok (.ifCond .eq 60, 3) := by decide +kernel
theorem dX10_token_120 : decode cX10_token 120 = .ok (.aload_n 0, 1) := by decide +kernel
theorem dX10_token_121 : decode cX10_token 121 = .ok (.aload_n 0, 1) := by decide +kernel
theorem dX10_token_122 : decode cX10_token 122 = .ok (.getfield 167, 3) := by decide +kernel
theorem dX10_token_125 : decode cX10_token 125 = .ok (.aload_n 0, 1) := by decide +kernel
theorem dX10_token_126 : decode cX10_token 126 = .ok (.getfield 174, 3) := by decide +kernel
theorem dX10_token_129 : decode cX10_token 129 = .ok (.isub, 1) := by decide +kernel
theorem dX10_token_130 : decode cX10_token 130 = .ok (.bipush 9, 2) := by decide +kernel
theorem dX10_token_132 : decode cX10_token 132 = .ok (.if_icmp .ge 25, 3) := by decide +kernel
theorem dX10_token_135 : decode cX10_token 135 = .ok (.bipush 10, 2) := by decide +kernel
theorem dX10_token_137 : decode cX10_token 137 = .ok (.aload_n 0, 1) := by decide +kernel
theorem dX10_token_138 : decode cX10_token 138 = .ok (.getfield 184, 3) := by decide +kernel
theorem dX10_token_141 : decode cX10_token 141 = .ok (.imul, 1) := by decide +kernel
theorem dX10_token_142 : decode cX10_token 142 = .ok (.aload_n 0, 1) := by decide +kernel
theorem dX10_token_143 : decode cX10_token 143 = .ok (.aload_n 0, 1) := by decide +kernel
theorem dX10_token_144 : decode cX10_token 144 = .ok (.getfield 167, 3) := by decide +kernel
theorem dX10_token_147 : decode cX10_token 147 = .ok (.invokevirtual 170, 3) := by decide +kernel
theorem dX10_token_150 : decode cX10_token 150 = .ok (.iadd, 1) := by decide +kernel
theorem dX10_token_151 : decode cX10_token 151 = .ok (.bipush 48, 2) := by decide +kernel
theorem dX10_token_153 : decode cX10_token 153 = .ok (.isub, 1) := by decide +kernel
theorem dX10_token_154 : decode cX10_token 154 = .ok (.goto 7, 3) := by decide +kernel
theorem dX10_token_157 : decode cX10_token 157 = .ok (.aload_n 0, 1) := by decide +kernel
theorem dX10_token_158 : decode cX10_token 158 = .ok (.getfield 184, 3) := by decide +kernel
theorem dX10_token_161 : decode cX10_token 161 = .ok (.putfield 184, 3) := by decide +kernel
theorem dX10_token_164 : decode cX10_token 164 = .ok (.aload_n 0, 1) := by decide +kernel
theorem dX10_token_165 : decode cX10_token 165 = .ok (.dup, 1) := by decide +kernel
theorem dX10_token_166 : decode cX10_token 166 = .ok (.getfield 167, 3) := by decide +kernel
theorem dX10_token_169 : decode cX10_token 169 = .ok (.iconst 1, 1) := by decide +kernel
theorem dX10_token_170 : decode cX10_token 170 = .ok (.iadd, 1) := by decide +kernel
theorem dX10_token_171 : decode cX10_token 171 = .ok (.putfield 167, 3) := by decide +kernel
theorem dX10_token_174 : decode cX10_token 174 = .ok (.goto (-68), 3) := by decide +kernel
theorem dX10_token_177 : decode cX10_token 177 = .ok (.aload_n 0, 1) := by decide +kernel
theorem dX10_token_178 : decode cX10_token 178 = .ok (.aload_n 0, 1) := by decide +kernel
theorem dX10_token_179 : decode cX10_token 179 = .ok (.getfield 167, 3) := by decide +kernel
theorem dX10_token_182 : decode cX10_token 182 = .ok (.aload_n 0, 1) := by decide +kernel
theorem dX10_token_183 : decode cX10_token 183 = .ok (.getfield 174, 3) := by decide +kernel
theorem dX10_token_186 : decode cX10_token 186 = .ok (.isub, 1) := by decide +kernel
theorem dX10_token_187 : decode cX10_token 187 = .ok (.bipush 9, 2) := by decide +kernel
theorem dX10_token_189 : decode cX10_token 189 = .ok (.if_icmp .le 7, 3) := by decide +kernel
theorem dX10_token_192 : decode cX10_token 192 = .ok (.iconst 5, 1) := by decide +kernel
theorem dX10_token_193 : decode cX10_token 193 = .ok (.goto 4, 3) := by decide +kernel
theorem dX10_token_196 : decode cX10_token 196 = .ok (.iconst 1, 1) := by decide +kernel
theorem dX10_token_197 : decode cX10_token 197 = .ok (.putfield 177, 3) := by decide +kernel
theorem dX10_token_200 : decode cX10_token 200 = .ok (.goto 210, 3) := by decide +kernel
theorem dX10_token_203 : decode cX10_token 203 = .ok (.iload_n 1, 1) := by decide +kernel
theorem dX10_token_204 : decode cX10_token 204 = .ok (.invokestatic 187, 3) := by decide +kernel
theorem dX10_token_207 : decode cX10_token 207 = .ok (.ifCond .eq 160, 3) := by decide +kernel
theorem dX10_token_210 : decode cX10_token 210 = .ok (.aload_n 0, 1) := by decide +kernel
theorem dX10_token_211 : decode cX10_token 211 = .ok (.lconst 0, 1) := by decide +kernel
theorem dX10_token_212 : decode cX10_token 212 = .ok (.putfield 190, 3) := by decide +kernel
theorem dX10_token_215 : decode cX10_token 215 = .ok (.aload_n 0, 1) := by decide +kernel
theorem dX10_token_216 : decode cX10_token 216 = .ok (.aload_n 0, 1) := by decide +kernel
theorem dX10_token_217 : decode cX10_token 217 = .ok (.getfield 167, 3) := by decide +kernel
theorem dX10_token_220 : decode cX10_token 220 = .ok (.invokevirtual 170, 3) := by decide +kernel
theorem dX10_token_223 : decode cX10_token 223 = .ok (.invokestatic 187, 3) := by decide +kernel
theorem dX10_token_226 : decode cX10_token 226 = .ok (.ifCond .ne 17, 3) := by decide +kernel
theorem dX10_token_229 : decode cX10_token 229 = .ok (.aload_n 0, 1) := by decide +kernel
theorem dX10_token_230 : decode cX10_token 230 = .ok (.aload_n 0, 1) := by decide +kernel
theorem dX10_token_231 : decode cX10_token 231 = .ok (.getfield 167, 3) := by decide +kernel
theorem dX10_token_234 : decode cX10_token 234 = .ok (.invokevirtual 170, 3) := by decide +kernel
theorem dX10_token_237 : decode cX10_token 237 = .ok (.invokestatic 180, 3) := by decide +kernel
theorem dX10_token_240 : decode cX10_token 240 = .ok (.ifCond .eq 37, 3) := by decide +kernel
theorem dX10_token_243 : decode cX10_token 243 = .ok (.aload_n 0, 1) := by decide +kernel
theorem dX10_token_244 : decode cX10_token 244 = .ok (.aload_n 0, 1) := by decide +kernel
theorem dX10_token_245 : decode cX10_token 245 = .ok (.getfield 190, 3) := by decide +kernel
theorem dX10_token_248 : decode cX10_token 248 = .ok (.bipush 8, 2) := by decide +kernel
theorem dX10_token_250 : decode cX10_token 250 = .ok (.lshl, 1) := by decide +kernel
theorem dX10_token_251 : decode cX10_token 251 = .ok (.aload_n 0, 1) := by decide +kernel
theorem dX10_token_252 : decode cX10_token 252 = .ok (.aload_n 0, 1) := by decide +kernel
theorem dX10_token_253 : decode cX10_token 253 = .ok (.getfield 167, 3) := by decide +kernel
theorem dX10_token_256 : decode cX10_token 256 = .ok (.invokevirtual 170, 3) := by decide +kernel
theorem dX10_token_259 : decode cX10_token 259 = .ok (.i2l, 1) := by decide +kernel
theorem dX10_token_260 : decode cX10_token 260 = .ok (.lor, 1) := by decide +kernel
theorem dX10_token_261 : decode cX10_token 261 = .ok (.putfield 190, 3) := by decide +kernel
theorem dX10_token_264 : decode cX10_token 264 = .ok (.aload_n 0, 1) := by decide +kernel
theorem dX10_token_265 : decode cX10_token 265 = .ok (.dup, 1) := by decide +kernel
theorem dX10_token_266 : decode cX10_token 266 = .ok (.getfield 167, 3) := by decide +kernel
theorem dX10_token_269 : decode cX10_token 269 = .ok (.iconst 1, 1) := by decide +kernel
theorem dX10_token_270 : decode cX10_token 270 = .ok (.iadd, 1) := by decide +kernel
theorem dX10_token_271 : decode cX10_token 271 = .ok (.putfield 167, 3) := by decide +kernel
theorem dX10_token_274 : decode cX10_token 274 = .ok (.goto (-59), 3) := by decide +kernel
theorem dX10_token_277 : decode cX10_token 277 = .ok (.aload_n 0, 1) := by decide +kernel
theorem dX10_token_278 : decode cX10_token 278 = .ok (.aload_n 0, 1) := by decide +kernel
theorem dX10_token_279 : decode cX10_token 279 = .ok (.getfield 167, 3) := by decide +kernel
theorem dX10_token_282 : decode cX10_token 282 = .ok (.aload_n 0, 1) := by decide +kernel
theorem dX10_token_283 : decode cX10_token 283 = .ok (.getfield 174, 3) := by decide +kernel
theorem dX10_token_286 : decode cX10_token 286 = .ok (.isub, 1) := by decide +kernel
theorem dX10_token_287 : decode cX10_token 287 = .ok (.bipush 8, 2) := by decide +kernel
theorem dX10_token_289 : decode cX10_token 289 = .ok (.if_icmp .le 7, 3) := by decide +kernel
theorem dX10_token_292 : decode cX10_token 292 = .ok (.iconst 5, 1) := by decide +kernel
theorem dX10_token_293 : decode cX10_token 293 = .ok (.goto 4, 3) := by decide +kernel
theorem dX10_token_296 : decode cX10_token 296 = .ok (.iconst 2, 1) := by decide +kernel
theorem dX10_token_297 : decode cX10_token 297 = .ok (.putfield 177, 3) := by decide +kernel
theorem dX10_token_300 : decode cX10_token 300 = .ok (.iconst 0, 1) := by decide +kernel
theorem dX10_token_301 : decode cX10_token 301 = .ok (.istore_n 2, 1) := by decide +kernel
theorem dX10_token_302 : decode cX10_token 302 = .ok (.iload_n 2, 1) := by decide +kernel
theorem dX10_token_303 : decode cX10_token 303 = .ok (.bipush 15, 2) := by decide +kernel
theorem dX10_token_305 : decode cX10_token 305 = .ok (.if_icmp .ge 59, 3) := by decide +kernel
theorem dX10_token_308 : decode cX10_token 308 = .ok (.aload_n 0, 1) := by decide +kernel
theorem dX10_token_309 : decode cX10_token 309 = .ok (.getfield 177, 3) := by decide +kernel
theorem dX10_token_312 : decode cX10_token 312 = .ok (.iconst 2, 1) := by decide +kernel
theorem dX10_token_313 : decode cX10_token 313 = .ok (.if_icmp .ne 51, 3) := by decide +kernel
theorem dX10_token_316 : decode cX10_token 316 = .ok (.aload_n 0, 1) := by decide +kernel
theorem dX10_token_317 : decode cX10_token 317 = .ok (.aload_n 0, 1) := by decide +kernel
theorem dX10_token_318 : decode cX10_token 318 = .ok (.getfield 43, 3) := by decide +kernel
theorem dX10_token_321 : decode cX10_token 321 = .ok (.iload_n 2, 1) := by decide +kernel
theorem dX10_token_322 : decode cX10_token 322 = .ok (.laload, 1) := by decide +kernel
theorem dX10_token_323 : decode cX10_token 323 = .ok (.aload_n 0, 1) := by decide +kernel
theorem dX10_token_324 : decode cX10_token 324 = .ok (.getfield 190, 3) := by decide +kernel
theorem dX10_token_327 : decode cX10_token 327 = .ok (.lcmp, 1) := by decide +kernel
theorem dX10_token_328 : decode cX10_token 328 = .ok (.ifCond .ne 23, 3) := by decide +kernel
theorem dX10_token_331 : decode cX10_token 331 = .ok (.iload_n 2, 1) := by decide +kernel
theorem dX10_token_332 : decode cX10_token 332 = .ok (.iconst 2, 1) := by decide +kernel
theorem dX10_token_333 : decode cX10_token 333 = .ok (.if_icmp .ge 9, 3) := by decide +kernel
theorem dX10_token_336 : decode cX10_token 336 = .ok (.iconst 3, 1) := by decide +kernel
theorem dX10_token_337 : decode cX10_token 337 = .ok (.iload_n 2, 1) := by decide +kernel
theorem dX10_token_338 : decode cX10_token 338 = .ok (.iadd, 1) := by decide +kernel
theorem dX10_token_339 : decode cX10_token 339 = .ok (.goto 16, 3) := by decide +kernel
theorem dX10_token_342 : decode cX10_token 342 = .ok (.bipush 10, 2) := by decide +kernel
theorem dX10_token_344 : decode cX10_token 344 = .ok (.iload_n 2, 1) := by decide +kernel
theorem dX10_token_345 : decode cX10_token 345 = .ok (.iadd, 1) := by decide +kernel
theorem dX10_token_346 : decode cX10_token 346 = .ok (.iconst 2, 1) := by decide +kernel
theorem dX10_token_347 : decode cX10_token 347 = .ok (.isub, 1) := by decide +kernel
theorem dX10_token_348 : decode cX10_token 348 = .ok (.goto 7, 3) := by decide +kernel
theorem dX10_token_351 : decode cX10_token 351 = .ok (.aload_n 0, 1) := by decide +kernel
theorem dX10_token_352 : decode cX10_token 352 = .ok (.getfield 177, 3) := by decide +kernel
theorem dX10_token_355 : decode cX10_token 355 = .ok (.putfield 177, 3) := by decide +kernel
theorem dX10_token_358 : decode cX10_token 358 = .ok (.iinc 2 1, 3) := by decide +kernel
theorem dX10_token_361 : decode cX10_token 361 = .ok (.goto (-59), 3) := by decide +kernel
theorem dX10_token_364 : decode cX10_token 364 = .ok (.goto 46, 3) := by decide +kernel
theorem dX10_token_367 : decode cX10_token 367 = .ok (.aload_n 0, 1) := by decide +kernel
theorem dX10_token_368 : decode cX10_token 368 = .ok (.dup, 1) := by decide +kernel
theorem dX10_token_369 : decode cX10_token 369 = .ok (.getfield 167, 3) := by decide +kernel
theorem dX10_token_372 : decode cX10_token 372 = .ok (.iconst 1, 1) := by decide +kernel
theorem dX10_token_373 : decode cX10_token 373 = .ok (.iadd, 1) := by decide +kernel
theorem dX10_token_374 : decode cX10_token 374 = .ok (.putfield 167, 3) := by decide +kernel
theorem dX10_token_377 : decode cX10_token 377 = .ok (.aload_n 0, 1) := by decide +kernel
theorem dX10_token_378 : decode cX10_token 378 = .ok (.iload_n 1, 1) := by decide +kernel
theorem dX10_token_379 : decode cX10_token 379 = .ok (.bipush 61, 2) := by decide +kernel
theorem dX10_token_381 : decode cX10_token 381 = .ok (.if_icmp .eq 21, 3) := by decide +kernel
theorem dX10_token_384 : decode cX10_token 384 = .ok (.iload_n 1, 1) := by decide +kernel
theorem dX10_token_385 : decode cX10_token 385 = .ok (.bipush 59, 2) := by decide +kernel
theorem dX10_token_387 : decode cX10_token 387 = .ok (.if_icmp .eq 15, 3) := by decide +kernel
theorem dX10_token_390 : decode cX10_token 390 = .ok (.iload_n 1, 1) := by decide +kernel
theorem dX10_token_391 : decode cX10_token 391 = .ok (.bipush 40, 2) := by decide +kernel
theorem dX10_token_393 : decode cX10_token 393 = .ok (.if_icmp .eq 9, 3) := by decide +kernel
theorem dX10_token_396 : decode cX10_token 396 = .ok (.iload_n 1, 1) := by decide +kernel
theorem dX10_token_397 : decode cX10_token 397 = .ok (.bipush 41, 2) := by decide +kernel
theorem dX10_token_399 : decode cX10_token 399 = .ok (.if_icmp .ne 7, 3) := by decide +kernel
theorem dX10_token_402 : decode cX10_token 402 = .ok (.iload_n 1, 1) := by decide +kernel
theorem dX10_token_403 : decode cX10_token 403 = .ok (.goto 4, 3) := by decide +kernel
theorem dX10_token_406 : decode cX10_token 406 = .ok (.iconst 5, 1) := by decide +kernel
theorem dX10_token_407 : decode cX10_token 407 = .ok (.putfield 177, 3) := by decide +kernel
theorem dX10_token_410 : decode cX10_token 410 = .ok (.return_, 1) := by decide +kernel
theorem dX10_fail_0 : decode cX10_fail 0 = .ok (.aload_n 0, 1) := by decide +kernel
theorem dX10_fail_1 : decode cX10_fail 1 = .ok (.getfield 164, 3) := by decide +kernel
theorem dX10_fail_4 : decode cX10_fail 4 = .ok (.ifCond .ne 13, 3) := by decide +kernel
theorem dX10_fail_7 : decode cX10_fail 7 = .ok (.aload_n 0, 1) := by decide +kernel
theorem dX10_fail_8 : decode cX10_fail 8 = .ok (.iload_n 1, 1) := by decide +kernel
theorem dX10_fail_9 : decode cX10_fail 9 = .ok (.putfield 164, 3) := by decide +kernel
theorem dX10_fail_12 : decode cX10_fail 12 = .ok (.aload_n 0, 1) := by decide +kernel
theorem dX10_fail_13 : decode cX10_fail 13 = .ok (.iload_n 2, 1) := by decide +kernel
theorem dX10_fail_14 : decode cX10_fail 14 = .ok (.putfield 194, 3) := by decide +kernel
theorem dX10_fail_17 : decode cX10_fail 17 = .ok (.return_, 1) := by decide +kernel
theorem dX10_can_0 : decode cX10_can 0 = .ok (.aload_n 0, 1) := by decide +kernel
theorem dX10_can_1 : decode cX10_can 1 = .ok (.getfield 164, 3) := by decide +kernel
theorem dX10_can_4 : decode cX10_can 4 = .ok (.ifCond .ne 36, 3) := by decide +kernel
theorem dX10_can_7 : decode cX10_can 7 = .ok (.iload_n 1, 1) := by decide +kernel
theorem dX10_can_8 : decode cX10_can 8 = .ok (.ifCond .eq 11, 3) := by decide +kernel
theorem dX10_can_11 : decode cX10_can 11 = .ok (.aload_n 0, 1) := by decide +kernel
theorem dX10_can_12 : decode cX10_can 12 = .ok (.getfield 177, 3) := by decide +kernel
theorem dX10_can_15 : decode cX10_can 15 = .ok (.iconst 5, 1) := by decide +kernel
theorem dX10_can_16 : decode cX10_can 16 = .ok (.if_icmp .ne 24, 3) := by decide +kernel
theorem dX10_can_19 : decode cX10_can 19 = .ok (.aload_n 0, 1) := by decide +kernel
theorem dX10_can_20 : decode cX10_can 20 = .ok (.aload_n 0, 1) := by decide +kernel
theorem dX10_can_21 : decode cX10_can 21 = .ok (.getfield 177, 3) := by decide +kernel
theorem dX10_can_24 : decode cX10_can 24 = .ok (.iconst 5, 1) := by decide +kernel
theorem dX10_can_25 : decode cX10_can 25 = .ok (.if_icmp .ne 7, 3) := by decide +kernel
theorem dX10_can_28 : decode cX10_can 28 = .ok (.iconst 1, 1) := by decide +kernel
theorem dX10_can_29 : decode cX10_can 29 = .ok (.goto 4, 3) := by decide +kernel
theorem dX10_can_32 : decode cX10_can 32 = .ok (.iconst 2, 1) := by decide +kernel
theorem dX10_can_33 : decode cX10_can 33 = .ok (.aload_n 0, 1) := by decide +kernel
theorem dX10_can_34 : decode cX10_can 34 = .ok (.getfield 174, 3) := by decide +kernel
theorem dX10_can_37 : decode cX10_can 37 = .ok (.invokevirtual 197, 3) := by decide +kernel
theorem dX10_can_40 : decode cX10_can 40 = .ok (.aload_n 0, 1) := by decide +kernel
theorem dX10_can_41 : decode cX10_can 41 = .ok (.getfield 164, 3) := by decide +kernel
theorem dX10_can_44 : decode cX10_can 44 = .ok (.ifCond .ne 7, 3) := by decide +kernel
theorem dX10_can_47 : decode cX10_can 47 = .ok (.iconst 1, 1) := by decide +kernel
theorem dX10_can_48 : decode cX10_can 48 = .ok (.goto 4, 3) := by decide +kernel
theorem dX10_can_51 : decode cX10_can 51 = .ok (.iconst 0, 1) := by decide +kernel
theorem dX10_can_52 : decode cX10_can 52 = .ok (.ireturn, 1) := by decide +kernel
theorem dX10_need_0 : decode cX10_need 0 = .ok (.aload_n 0, 1) := by decide +kernel
theorem dX10_need_1 : decode cX10_need 1 = .ok (.aload_n 0, 1) := by decide +kernel
theorem dX10_need_2 : decode cX10_need 2 = .ok (.getfield 177, 3) := by decide +kernel
theorem dX10_need_5 : decode cX10_need 5 = .ok (.iload_n 1, 1) := by decide +kernel
theorem dX10_need_6 : decode cX10_need 6 = .ok (.if_icmp .ne 7, 3) := by decide +kernel
theorem dX10_need_9 : decode cX10_need 9 = .ok (.iconst 1, 1) := by decide +kernel
theorem dX10_need_10 : decode cX10_need 10 = .ok (.goto 4, 3) := by decide +kernel
theorem dX10_need_13 : decode cX10_need 13 = .ok (.iconst 0, 1) := by decide +kernel
theorem dX10_need_14 : decode cX10_need 14 = .ok (.invokevirtual 201, 3) := by decide +kernel
theorem dX10_need_17 : decode cX10_need 17 = .ok (.ifCond .eq 7, 3) := by decide +kernel
theorem dX10_need_20 : decode cX10_need 20 = .ok (.aload_n 0, 1) := by decide +kernel
theorem dX10_need_21 : decode cX10_need 21 = .ok (.invokevirtual 205, 3) := by decide +kernel
theorem dX10_need_24 : decode cX10_need 24 = .ok (.aload_n 0, 1) := by decide +kernel
theorem dX10_need_25 : decode cX10_need 25 = .ok (.getfield 164, 3) := by decide +kernel
theorem dX10_need_28 : decode cX10_need 28 = .ok (.ifCond .ne 7, 3) := by decide +kernel
theorem dX10_need_31 : decode cX10_need 31 = .ok (.iconst 1, 1) := by decide +kernel
theorem dX10_need_32 : decode cX10_need 32 = .ok (.goto 4, 3) := by decide +kernel
theorem dX10_need_35 : decode cX10_need 35 = .ok (.iconst 0, 1) := by decide +kernel
theorem dX10_need_36 : decode cX10_need 36 = .ok (.ireturn, 1) := by decide +kernel
theorem dX10_room_0 : decode cX10_room 0 = .ok (.aload_n 0, 1) := by decide +kernel
theorem dX10_room_1 : decode cX10_room 1 = .ok (.getfield 164, 3) := by decide +kernel
theorem dX10_room_4 : decode cX10_room 4 = .ok (.ifCond .ne 16, 3) := by decide +kernel
theorem dX10_room_7 : decode cX10_room 7 = .ok (.iload_n 1, 1) := by decide +kernel
theorem dX10_room_8 : decode cX10_room 8 = .ok (.ifCond .ne 12, 3) := by decide +kernel
theorem dX10_room_11 : decode cX10_room 11 = .ok (.aload_n 0, 1) := by decide +kernel
theorem dX10_room_12 : decode cX10_room 12 = .ok (.iconst 3, 1) := by decide +kernel
theorem dX10_room_13 : decode cX10_room 13 = .ok (.aload_n 0, 1) := by decide +kernel
theorem dX10_room_14 : decode cX10_room 14 = .ok (.getfield 174, 3) := by decide +kernel
theorem dX10_room_17 : decode cX10_room 17 = .ok (.invokevirtual 197, 3) := by decide +kernel
theorem dX10_room_20 : decode cX10_room 20 = .ok (.aload_n 0, 1) := by decide +kernel
theorem dX10_room_21 : decode cX10_room 21 = .ok (.getfield 164, 3) := by decide +kernel
theorem dX10_room_24 : decode cX10_room 24 = .ok (.ifCond .ne 7, 3) := by decide +kernel
theorem dX10_room_27 : decode cX10_room 27 = .ok (.iconst 1, 1) := by decide +kernel
theorem dX10_room_28 : decode cX10_room 28 = .ok (.goto 4, 3) := by decide +kernel
theorem dX10_room_31 : decode cX10_room 31 = .ok (.iconst 0, 1) := by decide +kernel
theorem dX10_room_32 : decode cX10_room 32 = .ok (.ireturn, 1) := by decide +kernel
theorem dX10_emit_0 : decode cX10_emit 0 = .ok (.aload_n 0, 1) := by decide +kernel
theorem dX10_emit_1 : decode cX10_emit 1 = .ok (.getfield 65, 3) := by decide +kernel
theorem dX10_emit_4 : decode cX10_emit 4 = .ok (.aload_n 0, 1) := by decide +kernel
theorem dX10_emit_5 : decode cX10_emit 5 = .ok (.getfield 208, 3) := by decide +kernel
theorem dX10_emit_8 : decode cX10_emit 8 = .ok (.iload_n 1, 1) := by decide +kernel
theorem dX10_emit_9 : decode cX10_emit 9 = .ok (.iastore, 1) := by decide +kernel
theorem dX10_emit_10 : decode cX10_emit 10 = .ok (.aload_n 0, 1) := by decide +kernel
theorem dX10_emit_11 : decode cX10_emit 11 = .ok (.getfield 68, 3) := by decide +kernel
theorem dX10_emit_14 : decode cX10_emit 14 = .ok (.aload_n 0, 1) := by decide +kernel
theorem dX10_emit_15 : decode cX10_emit 15 = .ok (.getfield 208, 3) := by decide +kernel
theorem dX10_emit_18 : decode cX10_emit 18 = .ok (.iload_n 2, 1) := by decide +kernel
theorem dX10_emit_19 : decode cX10_emit 19 = .ok (.iastore, 1) := by decide +kernel
theorem dX10_emit_20 : decode cX10_emit 20 = .ok (.aload_n 0, 1) := by decide +kernel
theorem dX10_emit_21 : decode cX10_emit 21 = .ok (.dup, 1) := by decide +kernel
theorem dX10_emit_22 : decode cX10_emit 22 = .ok (.getfield 208, 3) := by decide +kernel
theorem dX10_emit_25 : decode cX10_emit 25 = .ok (.iconst 1, 1) := by decide +kernel
theorem dX10_emit_26 : decode cX10_emit 26 = .ok (.iadd, 1) := by decide +kernel
theorem dX10_emit_27 : decode cX10_emit 27 = .ok (.putfield 208, 3) := by decide +kernel
theorem dX10_emit_30 : decode cX10_emit 30 = .ok (.aload_n 0, 1) := by decide +kernel
theorem dX10_emit_31 : decode cX10_emit 31 = .ok (.getfield 208, 3) := by decide +kernel
theorem dX10_emit_34 : decode cX10_emit 34 = .ok (.iconst 1, 1) := by decide +kernel
theorem dX10_emit_35 : decode cX10_emit 35 = .ok (.isub, 1) := by decide +kernel
theorem dX10_emit_36 : decode cX10_emit 36 = .ok (.ireturn, 1) := by decide +kernel
theorem dX10_push_0 : decode cX10_push 0 = .ok (.aload_n 0, 1) := by decide +kernel
theorem dX10_push_1 : decode cX10_push 1 = .ok (.dup, 1) := by decide +kernel
theorem dX10_push_2 : decode cX10_push 2 = .ok (.getfield 211, 3) := by decide +kernel
theorem dX10_push_5 : decode cX10_push 5 = .ok (.iconst 1, 1) := by decide +kernel
theorem dX10_push_6 : decode cX10_push 6 = .ok (.iadd, 1) := by decide +kernel
theorem dX10_push_7 : decode cX10_push 7 = .ok (.putfield 211, 3) := by decide +kernel
theorem dX10_push_10 : decode cX10_push 10 = .ok (.aload_n 0, 1) := by decide +kernel
theorem dX10_push_11 : decode cX10_push 11 = .ok (.getfield 89, 3) := by decide +kernel
theorem dX10_push_14 : decode cX10_push 14 = .ok (.aload_n 0, 1) := by decide +kernel
theorem dX10_push_15 : decode cX10_push 15 = .ok (.getfield 211, 3) := by decide +kernel
theorem dX10_push_18 : decode cX10_push 18 = .ok (.iload_n 1, 1) := by decide +kernel
theorem dX10_push_19 : decode cX10_push 19 = .ok (.iastore, 1) := by decide +kernel
theorem dX10_push_20 : decode cX10_push 20 = .ok (.aload_n 0, 1) := by decide +kernel
theorem dX10_push_21 : decode cX10_push 21 = .ok (.getfield 92, 3) := by decide +kernel
theorem dX10_push_24 : decode cX10_push 24 = .ok (.aload_n 0, 1) := by decide +kernel
theorem dX10_push_25 : decode cX10_push 25 = .ok (.getfield 211, 3) := by decide +kernel
theorem dX10_push_28 : decode cX10_push 28 = .ok (.iconst 0, 1) := by decide +kernel
theorem dX10_push_29 : decode cX10_push 29 = .ok (.iastore, 1) := by decide +kernel
theorem dX10_push_30 : decode cX10_push 30 = .ok (.aload_n 0, 1) := by decide +kernel
theorem dX10_push_31 : decode cX10_push 31 = .ok (.getfield 95, 3) := by decide +kernel
theorem dX10_push_34 : decode cX10_push 34 = .ok (.aload_n 0, 1) := by decide +kernel
theorem dX10_push_35 : decode cX10_push 35 = .ok (.getfield 211, 3) := by decide +kernel
theorem dX10_push_38 : decode cX10_push 38 = .ok (.iconst 0, 1) := by decide +kernel
theorem dX10_push_39 : decode cX10_push 39 = .ok (.iastore, 1) := by decide +kernel
theorem dX10_push_40 : decode cX10_push 40 = .ok (.return_, 1) := by decide +kernel
theorem dX10_expression_0 : decode cX10_expression 0 = .ok (.aload_n 0, 1) := by decide +kernel
theorem dX10_expression_1 : decode cX10_expression 1 = .ok (.iconst (-1), 1) := by decide +kernel
theorem dX10_expression_2 : decode cX10_expression 2 = .ok (.putfield 211, 3) := by decide +kernel
theorem dX10_expression_5 : decode cX10_expression 5 = .ok (.aload_n 0, 1) := by decide +kernel
theorem dX10_expression_6 : decode cX10_expression 6 = .ok (.iconst (-1), 1) := by decide +kernel
theorem dX10_expression_7 : decode cX10_expression 7 = .ok (.putfield 214, 3) := by decide +kernel
theorem dX10_expression_10 : decode cX10_expression 10 = .ok (.aload_n 0, 1) := by decide +kernel
theorem dX10_expression_11 : decode cX10_expression 11 = .ok (.iconst 0, 1) := by decide +kernel
theorem dX10_expression_12 : decode cX10_expression 12 = .ok (.invokevirtual 217, 3) := by decide +kernel
theorem dX10_expression_15 : decode cX10_expression 15 = .ok (.aload_n 0, 1) := by decide +kernel
theorem dX10_expression_16 : decode cX10_expression 16 = .ok (.getfield 211, 3) := by decide +kernel
theorem dX10_expression_19 : decode cX10_expression 19 = .ok (.ifCond .lt 44, 3) := by decide +kernel
theorem dX10_expression_22 : decode cX10_expression 22 = .ok (.aload_n 0, 1) := by decide +kernel
theorem dX10_expression_23 : decode cX10_expression 23 = .ok (.getfield 164, 3) := by decide +kernel
theorem dX10_expression_26 : decode cX10_expression 26 = .ok (.ifCond .ne 37, 3) := by decide +kernel
theorem dX10_expression_29 : decode cX10_expression 29 = .ok (.aload_n 0, 1) := by decide +kernel
theorem dX10_expression_30 : decode cX10_expression 30 = .ok (.getfield 89, 3) := by decide +kernel
theorem dX10_expression_33 : decode cX10_expression 33 = .ok (.aload_n 0, 1) := by decide +kernel
theorem dX10_expression_34 : decode cX10_expression 34 = .ok (.getfield 211, 3) := by decide +kernel
theorem dX10_expression_37 : decode cX10_expression 37 = .ok (.iaload, 1) := by decide +kernel
theorem dX10_expression_38 : decode cX10_expression 38 = .ok (.ifCond .ne 14, 3) := by decide +kernel
theorem dX10_expression_41 : decode cX10_expression 41 = .ok (.aload_n 0, 1) := by decide +kernel
theorem dX10_expression_42 : decode cX10_expression 42 = .ok (.aload_n 0, 1) := by decide +kernel
theorem dX10_expression_43 : decode cX10_expression 43 = .ok (.getfield 211, 3) := by decide +kernel
theorem dX10_expression_46 : decode cX10_expression 46 = .ok (.invokevirtual 221, 3) := by decide +kernel
theorem dX10_expression_49 : decode cX10_expression 49 = .ok (.goto (-34), 3) := by decide +kernel
theorem dX10_expression_52 : decode cX10_expression 52 = .ok (.aload_n 0, 1) := by decide +kernel
theorem dX10_expression_53 : decode cX10_expression 53 = .ok (.aload_n 0, 1) := by decide +kernel
theorem dX10_expression_54 : decode cX10_expression 54 = .ok (.getfield 211, 3) := by decide +kernel
theorem dX10_expression_57 : decode cX10_expression 57 = .ok (.invokevirtual 224, 3) := by decide +kernel
theorem dX10_expression_60 : decode cX10_expression 60 = .ok (.goto (-45), 3) := by decide +kernel
theorem dX10_expression_63 : decode cX10_expression 63 = .ok (.return_, 1) := by decide +kernel
theorem dX10_atoms_0 : decode cX10_atoms 0 = .ok (.aload_n 0, 1) := by decide +kernel
theorem dX10_atoms_1 : decode cX10_atoms 1 = .ok (.getfield 92, 3) := by decide +kernel
theorem dX10_atoms_4 : decode cX10_atoms 4 = .ok (.iload_n 1, 1) := by decide +kernel
theorem dX10_atoms_5 : decode cX10_atoms 5 = .ok (.iaload, 1) := by decide +kernel
theorem dX10_atoms_6 : decode cX10_atoms 6 = .ok (.ifCond .ne 19, 3) := by decide +kernel
theorem dX10_atoms_9 : decode cX10_atoms 9 = .ok (.aload_n 0, 1) := by decide +kernel
theorem dX10_atoms_10 : decode cX10_atoms 10 = .ok (.getfield 177, 3) := by decide +kernel
theorem dX10_atoms_13 : decode cX10_atoms 13 = .ok (.iconst 3, 1) := by decide +kernel
theorem dX10_atoms_14 : decode cX10_atoms 14 = .ok (.if_icmp .ne 11, 3) := by decide +kernel
theorem dX10_atoms_17 : decode cX10_atoms 17 = .ok (.aload_n 0, 1) := by decide +kernel
theorem dX10_atoms_18 : decode cX10_atoms 18 = .ok (.getfield 89, 3) := by decide +kernel
theorem dX10_atoms_21 : decode cX10_atoms 21 = .ok (.iload_n 1, 1) := by decide +kernel
theorem dX10_atoms_22 : decode cX10_atoms 22 = .ok (.iconst 1, 1) := by decide +kernel
theorem dX10_atoms_23 : decode cX10_atoms 23 = .ok (.iastore, 1) := by decide +kernel
theorem dX10_atoms_24 : decode cX10_atoms 24 = .ok (.return_, 1) := by decide +kernel
theorem dX10_atoms_25 : decode cX10_atoms 25 = .ok (.aload_n 0, 1) := by decide +kernel
theorem dX10_atoms_26 : decode cX10_atoms 26 = .ok (.getfield 92, 3) := by decide +kernel
theorem dX10_atoms_29 : decode cX10_atoms 29 = .ok (.iload_n 1, 1) := by decide +kernel
theorem dX10_atoms_30 : decode cX10_atoms 30 = .ok (.iaload, 1) := by decide +kernel
theorem dX10_atoms_31 : decode cX10_atoms 31 = .ok (.iconst 1, 1) := by decide +kernel
theorem dX10_atoms_32 : decode cX10_atoms 32 = .ok (.if_icmp .ne 23, 3) := by decide +kernel
theorem dX10_atoms_35 : decode cX10_atoms 35 = .ok (.aload_n 0, 1) := by decide +kernel
theorem dX10_atoms_36 : decode cX10_atoms 36 = .ok (.bipush 41, 2) := by decide +kernel
theorem dX10_atoms_38 : decode cX10_atoms 38 = .ok (.invokevirtual 227, 3) := by decide +kernel
theorem dX10_atoms_41 : decode cX10_atoms 41 = .ok (.ifCond .ne 4, 3) := by decide +kernel
theorem dX10_atoms_44 : decode cX10_atoms 44 = .ok (.return_, 1) := by decide +kernel
theorem dX10_atoms_45 : decode cX10_atoms 45 = .ok (.aload_n 0, 1) := by decide +kernel
theorem dX10_atoms_46 : decode cX10_atoms 46 = .ok (.dup, 1) := by decide +kernel
theorem dX10_atoms_47 : decode cX10_atoms 47 = .ok (.getfield 230, 3) := by decide +kernel
theorem dX10_atoms_50 : decode cX10_atoms 50 = .ok (.iconst 1, 1) := by decide +kernel
theorem dX10_atoms_51 : decode cX10_atoms 51 = .ok (.isub, 1) := by decide +kernel
theorem dX10_atoms_52 : decode cX10_atoms 52 = .ok (.putfield 230, 3) := by decide +kernel
theorem dX10_atoms_55 : decode cX10_atoms 55 = .ok (.aload_n 0, 1) := by decide +kernel
theorem dX10_atoms_56 : decode cX10_atoms 56 = .ok (.getfield 92, 3) := by decide +kernel
theorem dX10_atoms_59 : decode cX10_atoms 59 = .ok (.iload_n 1, 1) := by decide +kernel
theorem dX10_atoms_60 : decode cX10_atoms 60 = .ok (.iconst 2, 1) := by decide +kernel
theorem dX10_atoms_61 : decode cX10_atoms 61 = .ok (.iastore, 1) := by decide +kernel
theorem dX10_atoms_62 : decode cX10_atoms 62 = .ok (.aload_n 0, 1) := by decide +kernel
theorem dX10_atoms_63 : decode cX10_atoms 63 = .ok (.getfield 177, 3) := by decide +kernel
theorem dX10_atoms_66 : decode cX10_atoms 66 = .ok (.iconst 1, 1) := by decide +kernel
theorem dX10_atoms_67 : decode cX10_atoms 67 = .ok (.if_icmp .eq 38, 3) := by decide +kernel
theorem dX10_atoms_70 : decode cX10_atoms 70 = .ok (.aload_n 0, 1) := by decide +kernel
theorem dX10_atoms_71 : decode cX10_atoms 71 = .ok (.getfield 177, 3) := by decide +kernel
theorem dX10_atoms_74 : decode cX10_atoms 74 = .ok (.iconst 2, 1) := by decide +kernel
theorem dX10_atoms_75 : decode cX10_atoms 75 = .ok (.if_icmp .eq 30, 3) := by decide +kernel
theorem dX10_atoms_78 : decode cX10_atoms 78 = .ok (.aload_n 0, 1) := by decide +kernel
theorem dX10_atoms_79 : decode cX10_atoms 79 = .ok (.getfield 177, 3) := by decide +kernel
theorem dX10_atoms_82 : decode cX10_atoms 82 = .ok (.bipush 40, 2) := by decide +kernel
theorem dX10_atoms_84 : decode cX10_atoms 84 = .ok (.if_icmp .eq 21, 3) := by decide +kernel
theorem dX10_atoms_87 : decode cX10_atoms 87 = .ok (.aload_n 0, 1) := by decide +kernel
theorem dX10_atoms_88 : decode cX10_atoms 88 = .ok (.getfield 177, 3) := by decide +kernel
theorem dX10_atoms_91 : decode cX10_atoms 91 = .ok (.bipush 10, 2) := by decide +kernel
theorem dX10_atoms_93 : decode cX10_atoms 93 = .ok (.if_icmp .lt 16, 3) := by decide +kernel
theorem dX10_atoms_96 : decode cX10_atoms 96 = .ok (.aload_n 0, 1) := by decide +kernel
theorem dX10_atoms_97 : decode cX10_atoms 97 = .ok (.getfield 177, 3) := by decide +kernel
theorem dX10_atoms_100 : decode cX10_atoms 100 = .ok (.bipush 23, 2) := by decide +kernel
theorem dX10_atoms_102 : decode cX10_atoms 102 = .ok (.if_icmp .ge 7, 3) := by decide +kernel
theorem dX10_atoms_105 : decode cX10_atoms 105 = .ok (.iconst 1, 1) := by decide +kernel
theorem dX10_atoms_106 : decode cX10_atoms 106 = .ok (.goto 4, 3) := by decide +kernel
theorem dX10_atoms_109 : decode cX10_atoms 109 = .ok (.iconst 0, 1) := by decide +kernel
theorem dX10_atoms_110 : decode cX10_atoms 110 = .ok (.istore_n 2, 1) := by decide +kernel
theorem dX10_atoms_111 : decode cX10_atoms 111 = .ok (.iload_n 2, 1) := by decide +kernel
theorem dX10_atoms_112 : decode cX10_atoms 112 = .ok (.ifCond .ne 53, 3) := by decide +kernel
theorem dX10_atoms_115 : decode cX10_atoms 115 = .ok (.aload_n 0, 1) := by decide +kernel
theorem dX10_atoms_116 : decode cX10_atoms 116 = .ok (.getfield 95, 3) := by decide +kernel
theorem dX10_atoms_119 : decode cX10_atoms 119 = .ok (.iload_n 1, 1) := by decide +kernel
theorem dX10_atoms_120 : decode cX10_atoms 120 = .ok (.iaload, 1) := by decide +kernel
theorem dX10_atoms_121 : decode cX10_atoms 121 = .ok (.ifCond .ne 10, 3) := by decide +kernel
theorem dX10_atoms_124 : decode cX10_atoms 124 = .ok (.aload_n 0, 1) := by decide +kernel
theorem dX10_atoms_125 : decode cX10_atoms 125 = .ok (.iconst 0, 1) := by decide +kernel
theorem dX10_atoms_126 : decode cX10_atoms 126 = .ok (.invokevirtual 201, 3) := by decide +kernel
theorem dX10_atoms_129 : decode cX10_atoms 129 = .ok (.pop, 1) := by decide +kernel
theorem dX10_atoms_130 : decode cX10_atoms 130 = .ok (.return_, 1) := by decide +kernel
theorem dX10_atoms_131 : decode cX10_atoms 131 = .ok (.aload_n 0, 1) := by decide +kernel
theorem dX10_atoms_132 : decode cX10_atoms 132 = .ok (.getfield 95, 3) := by decide +kernel
theorem dX10_atoms_135 : decode cX10_atoms 135 = .ok (.iload_n 1, 1) := by decide +kernel
theorem dX10_atoms_136 : decode cX10_atoms 136 = .ok (.iaload, 1) := by decide +kernel
theorem dX10_atoms_137 : decode cX10_atoms 137 = .ok (.iconst 1, 1) := by decide +kernel
theorem dX10_atoms_138 : decode cX10_atoms 138 = .ok (.if_icmp .le 16, 3) := by decide +kernel
theorem dX10_atoms_141 : decode cX10_atoms 141 = .ok (.aload_n 0, 1) := by decide +kernel
theorem dX10_atoms_142 : decode cX10_atoms 142 = .ok (.bipush 8, 2) := by decide +kernel
theorem dX10_atoms_144 : decode cX10_atoms 144 = .ok (.aload_n 0, 1) := by decide +kernel
theorem dX10_atoms_145 : decode cX10_atoms 145 = .ok (.getfield 95, 3) := by decide +kernel
theorem dX10_atoms_148 : decode cX10_atoms 148 = .ok (.iload_n 1, 1) := by decide +kernel
theorem dX10_atoms_149 : decode cX10_atoms 149 = .ok (.iaload, 1) := by decide +kernel
theorem dX10_atoms_150 : decode cX10_atoms 150 = .ok (.invokevirtual 233, 3) := by decide +kernel
theorem dX10_atoms_153 : decode cX10_atoms 153 = .ok (.pop, 1) := by decide +kernel
theorem dX10_atoms_154 : decode cX10_atoms 154 = .ok (.aload_n 0, 1) := by decide +kernel
theorem dX10_atoms_155 : decode cX10_atoms 155 = .ok (.dup, 1) := by decide +kernel
theorem dX10_atoms_156 : decode cX10_atoms 156 = .ok (.getfield 211, 3) := by decide +kernel
theorem dX10_atoms_159 : decode cX10_atoms 159 = .ok (.iconst 1, 1) := by decide +kernel
theorem dX10_atoms_160 : decode cX10_atoms 160 = .ok (.isub, 1) := by decide +kernel
theorem dX10_atoms_161 : decode cX10_atoms 161 = .ok (.putfield 211, 3) := by decide +kernel
theorem dX10_atoms_164 : decode cX10_atoms 164 = .ok (.return_, 1) := by decide +kernel
theorem dX10_atoms_165 : decode cX10_atoms 165 = .ok (.aload_n 0, 1) := by decide +kernel
theorem dX10_atoms_166 : decode cX10_atoms 166 = .ok (.aload_n 0, 1) := by decide +kernel
theorem dX10_atoms_167 : decode cX10_atoms 167 = .ok (.getfield 95, 3) := by decide +kernel
theorem dX10_atoms_170 : decode cX10_atoms 170 = .ok (.iload_n 1, 1) := by decide +kernel
theorem dX10_atoms_171 : decode cX10_atoms 171 = .ok (.iaload, 1) := by decide +kernel
theorem dX10_atoms_172 : decode cX10_atoms 172 = .ok (.bipush 10, 2) := by decide +kernel
theorem dX10_atoms_174 : decode cX10_atoms 174 = .ok (.if_icmp .ge 7, 3) := by decide +kernel
theorem dX10_atoms_177 : decode cX10_atoms 177 = .ok (.iconst 1, 1) := by decide +kernel
theorem dX10_atoms_178 : decode cX10_atoms 178 = .ok (.goto 4, 3) := by decide +kernel
theorem dX10_atoms_181 : decode cX10_atoms 181 = .ok (.iconst 0, 1) := by decide +kernel
theorem dX10_atoms_182 : decode cX10_atoms 182 = .ok (.invokevirtual 237, 3) := by decide +kernel
theorem dX10_atoms_185 : decode cX10_atoms 185 = .ok (.ifCond .ne 4, 3) := by decide +kernel
theorem dX10_atoms_188 : decode cX10_atoms 188 = .ok (.return_, 1) := by decide +kernel
theorem dX10_atoms_189 : decode cX10_atoms 189 = .ok (.aload_n 0, 1) := by decide +kernel
theorem dX10_atoms_190 : decode cX10_atoms 190 = .ok (.getfield 95, 3) := by decide +kernel
theorem dX10_atoms_193 : decode cX10_atoms 193 = .ok (.iload_n 1, 1) := by decide +kernel
theorem dX10_atoms_194 : decode cX10_atoms 194 = .ok (.dup2, 1) := by decide +kernel
theorem dX10_atoms_195 : decode cX10_atoms 195 = .ok (.iaload, 1) := by decide +kernel
theorem dX10_atoms_196 : decode cX10_atoms 196 = .ok (.iconst 1, 1) := by decide +kernel
theorem dX10_atoms_197 : decode cX10_atoms 197 = .ok (.iadd, 1) := by decide +kernel
theorem dX10_atoms_198 : decode cX10_atoms 198 = .ok (.iastore, 1) := by decide +kernel
theorem dX10_atoms_199 : decode cX10_atoms 199 = .ok (.aload_n 0, 1) := by decide +kernel
theorem dX10_atoms_200 : decode cX10_atoms 200 = .ok (.getfield 177, 3) := by decide +kernel
theorem dX10_atoms_203 : decode cX10_atoms 203 = .ok (.bipush 40, 2) := by decide +kernel
theorem dX10_atoms_205 : decode cX10_atoms 205 = .ok (.if_icmp .ne 51, 3) := by decide +kernel
theorem dX10_atoms_208 : decode cX10_atoms 208 = .ok (.aload_n 0, 1) := by decide +kernel
theorem dX10_atoms_209 : decode cX10_atoms 209 = .ok (.aload_n 0, 1) := by decide +kernel
theorem dX10_atoms_210 : decode cX10_atoms 210 = .ok (.getfield 230, 3) := by decide +kernel
theorem dX10_atoms_213 : decode cX10_atoms 213 = .ok (.bipush 12, 2) := by decide +kernel
theorem dX10_atoms_215 : decode cX10_atoms 215 = .ok (.if_icmp .ge 7, 3) := by decide +kernel
theorem dX10_atoms_218 : decode cX10_atoms 218 = .ok (.iconst 1, 1) := by decide +kernel
theorem dX10_atoms_219 : decode cX10_atoms 219 = .ok (.goto 4, 3) := by decide +kernel
theorem dX10_atoms_222 : decode cX10_atoms 222 = .ok (.iconst 0, 1) := by decide +kernel
theorem dX10_atoms_223 : decode cX10_atoms 223 = .ok (.invokevirtual 237, 3) := by decide +kernel
theorem dX10_atoms_226 : decode cX10_atoms 226 = .ok (.ifCond .eq 29, 3) := by decide +kernel
theorem dX10_atoms_229 : decode cX10_atoms 229 = .ok (.aload_n 0, 1) := by decide +kernel
theorem dX10_atoms_230 : decode cX10_atoms 230 = .ok (.dup, 1) := by decide +kernel
theorem dX10_atoms_231 : decode cX10_atoms 231 = .ok (.getfield 230, 3) := by decide +kernel
theorem dX10_atoms_234 : decode cX10_atoms 234 = .ok (.iconst 1, 1) := by decide +kernel
theorem dX10_atoms_235 : decode cX10_atoms 235 = .ok (.iadd, 1) := by decide +kernel
theorem dX10_atoms_236 : decode cX10_atoms 236 = .ok (.putfield 230, 3) := by decide +kernel
theorem dX10_atoms_239 : decode cX10_atoms 239 = .ok (.aload_n 0, 1) := by decide +kernel
theorem dX10_atoms_240 : decode cX10_atoms 240 = .ok (.invokevirtual 205, 3) := by decide +kernel
theorem dX10_atoms_243 : decode cX10_atoms 243 = .ok (.aload_n 0, 1) := by decide +kernel
theorem dX10_atoms_244 : decode cX10_atoms 244 = .ok (.getfield 92, 3) := by decide +kernel
theorem dX10_atoms_247 : decode cX10_atoms 247 = .ok (.iload_n 1, 1) := by decide +kernel
theorem dX10_atoms_248 : decode cX10_atoms 248 = .ok (.iconst 1, 1) := by decide +kernel
theorem dX10_atoms_249 : decode cX10_atoms 249 = .ok (.iastore, 1) := by decide +kernel
theorem dX10_atoms_250 : decode cX10_atoms 250 = .ok (.aload_n 0, 1) := by decide +kernel
theorem dX10_atoms_251 : decode cX10_atoms 251 = .ok (.iconst 0, 1) := by decide +kernel
theorem dX10_atoms_252 : decode cX10_atoms 252 = .ok (.invokevirtual 217, 3) := by decide +kernel
theorem dX10_atoms_255 : decode cX10_atoms 255 = .ok (.return_, 1) := by decide +kernel
theorem dX10_atoms_256 : decode cX10_atoms 256 = .ok (.aload_n 0, 1) := by decide +kernel
theorem dX10_atoms_257 : decode cX10_atoms 257 = .ok (.getfield 177, 3) := by decide +kernel
theorem dX10_atoms_260 : decode cX10_atoms 260 = .ok (.iconst 1, 1) := by decide +kernel
theorem dX10_atoms_261 : decode cX10_atoms 261 = .ok (.if_icmp .ne 16, 3) := by decide +kernel
theorem dX10_atoms_264 : decode cX10_atoms 264 = .ok (.aload_n 0, 1) := by decide +kernel
theorem dX10_atoms_265 : decode cX10_atoms 265 = .ok (.iconst 1, 1) := by decide +kernel
theorem dX10_atoms_266 : decode cX10_atoms 266 = .ok (.aload_n 0, 1) := by decide +kernel
theorem dX10_atoms_267 : decode cX10_atoms 267 = .ok (.getfield 184, 3) := by decide +kernel
theorem dX10_atoms_270 : decode cX10_atoms 270 = .ok (.invokevirtual 233, 3) := by decide +kernel
theorem dX10_atoms_273 : decode cX10_atoms 273 = .ok (.pop, 1) := by decide +kernel
theorem dX10_atoms_274 : decode cX10_atoms 274 = .ok (.goto 83, 3) := by decide +kernel
theorem dX10_atoms_277 : decode cX10_atoms 277 = .ok (.aload_n 0, 1) := by decide +kernel
theorem dX10_atoms_278 : decode cX10_atoms 278 = .ok (.getfield 177, 3) := by decide +kernel
theorem dX10_atoms_281 : decode cX10_atoms 281 = .ok (.iconst 2, 1) := by decide +kernel
theorem dX10_atoms_282 : decode cX10_atoms 282 = .ok (.if_icmp .ne 43, 3) := by decide +kernel
theorem dX10_atoms_285 : decode cX10_atoms 285 = .ok (.aload_n 0, 1) := by decide +kernel
theorem dX10_atoms_286 : decode cX10_atoms 286 = .ok (.iconst 4, 1) := by decide +kernel
theorem dX10_atoms_287 : decode cX10_atoms 287 = .ok (.iconst 0, 1) := by decide +kernel
theorem dX10_atoms_288 : decode cX10_atoms 288 = .ok (.invokevirtual 233, 3) := by decide +kernel
theorem dX10_atoms_291 : decode cX10_atoms 291 = .ok (.istore_n 3, 1) := by decide +kernel
theorem dX10_atoms_292 : decode cX10_atoms 292 = .ok (.aload_n 0, 1) := by decide +kernel
theorem dX10_atoms_293 : decode cX10_atoms 293 = .ok (.getfield 71, 3) := by decide +kernel
theorem dX10_atoms_296 : decode cX10_atoms 296 = .ok (.iload_n 3, 1) := by decide +kernel
theorem dX10_atoms_297 : decode cX10_atoms 297 = .ok (.aload_n 0, 1) := by decide +kernel
theorem dX10_atoms_298 : decode cX10_atoms 298 = .ok (.getfield 190, 3) := by decide +kernel
theorem dX10_atoms_301 : decode cX10_atoms 301 = .ok (.lastore, 1) := by decide +kernel
theorem dX10_atoms_302 : decode cX10_atoms 302 = .ok (.aload_n 0, 1) := by decide +kernel
theorem dX10_atoms_303 : decode cX10_atoms 303 = .ok (.getfield 74, 3) := by decide +kernel
theorem dX10_atoms_306 : decode cX10_atoms 306 = .ok (.iload_n 3, 1) := by decide +kernel
theorem dX10_atoms_307 : decode cX10_atoms 307 = .ok (.aload_n 0, 1) := by decide +kernel
theorem dX10_atoms_308 : decode cX10_atoms 308 = .ok (.getfield 174, 3) := by decide +kernel
theorem dX10_atoms_311 : decode cX10_atoms 311 = .ok (.iastore, 1) := by decide +kernel
theorem dX10_atoms_312 : decode cX10_atoms 312 = .ok (.aload_n 0, 1) := by decide +kernel
theorem dX10_atoms_313 : decode cX10_atoms 313 = .ok (.getfield 77, 3) := by decide +kernel
theorem dX10_atoms_316 : decode cX10_atoms 316 = .ok (.iload_n 3, 1) := by decide +kernel
theorem dX10_atoms_317 : decode cX10_atoms 317 = .ok (.aload_n 0, 1) := by decide +kernel
theorem dX10_atoms_318 : decode cX10_atoms 318 = .ok (.getfield 214, 3) := by decide +kernel
theorem dX10_atoms_321 : decode cX10_atoms 321 = .ok (.iastore, 1) := by decide +kernel
theorem dX10_atoms_322 : decode cX10_atoms 322 = .ok (.goto 35, 3) := by decide +kernel
theorem dX10_atoms_325 : decode cX10_atoms 325 = .ok (.aload_n 0, 1) := by decide +kernel
theorem dX10_atoms_326 : decode cX10_atoms 326 = .ok (.getfield 177, 3) := by decide +kernel
theorem dX10_atoms_329 : decode cX10_atoms 329 = .ok (.bipush 18, 2) := by decide +kernel
theorem dX10_atoms_331 : decode cX10_atoms 331 = .ok (.if_icmp .ne 13, 3) := by decide +kernel
theorem dX10_atoms_334 : decode cX10_atoms 334 = .ok (.aload_n 0, 1) := by decide +kernel
theorem dX10_atoms_335 : decode cX10_atoms 335 = .ok (.iconst 2, 1) := by decide +kernel
theorem dX10_atoms_336 : decode cX10_atoms 336 = .ok (.iconst 0, 1) := by decide +kernel
theorem dX10_atoms_337 : decode cX10_atoms 337 = .ok (.invokevirtual 233, 3) := by decide +kernel
theorem dX10_atoms_340 : decode cX10_atoms 340 = .ok (.pop, 1) := by decide +kernel
theorem dX10_atoms_341 : decode cX10_atoms 341 = .ok (.goto 16, 3) := by decide +kernel
theorem dX10_atoms_344 : decode cX10_atoms 344 = .ok (.aload_n 0, 1) := by decide +kernel
theorem dX10_atoms_345 : decode cX10_atoms 345 = .ok (.iconst 3, 1) := by decide +kernel
theorem dX10_atoms_346 : decode cX10_atoms 346 = .ok (.aload_n 0, 1) := by decide +kernel
theorem dX10_atoms_347 : decode cX10_atoms 347 = .ok (.getfield 177, 3) := by decide +kernel
theorem dX10_atoms_350 : decode cX10_atoms 350 = .ok (.bipush 10, 2) := by decide +kernel
theorem dX10_atoms_352 : decode cX10_atoms 352 = .ok (.isub, 1) := by decide +kernel
theorem dX10_atoms_353 : decode cX10_atoms 353 = .ok (.invokevirtual 233, 3) := by decide +kernel
theorem dX10_atoms_356 : decode cX10_atoms 356 = .ok (.pop, 1) := by decide +kernel
theorem dX10_atoms_357 : decode cX10_atoms 357 = .ok (.aload_n 0, 1) := by decide +kernel
theorem dX10_atoms_358 : decode cX10_atoms 358 = .ok (.invokevirtual 205, 3) := by decide +kernel
theorem dX10_atoms_361 : decode cX10_atoms 361 = .ok (.return_, 1) := by decide +kernel
theorem dX10_let_0 : decode cX10_let 0 = .ok (.aload_n 0, 1) := by decide +kernel
theorem dX10_let_1 : decode cX10_let 1 = .ok (.getfield 92, 3) := by decide +kernel
theorem dX10_let_4 : decode cX10_let 4 = .ok (.iload_n 1, 1) := by decide +kernel
theorem dX10_let_5 : decode cX10_let 5 = .ok (.iaload, 1) := by decide +kernel
theorem dX10_let_6 : decode cX10_let 6 = .ok (.ifCond .ne 110, 3) := by decide +kernel
theorem dX10_let_9 : decode cX10_let 9 = .ok (.aload_n 0, 1) := by decide +kernel
theorem dX10_let_10 : decode cX10_let 10 = .ok (.aload_n 0, 1) := by decide +kernel
theorem dX10_let_11 : decode cX10_let 11 = .ok (.getfield 230, 3) := by decide +kernel
theorem dX10_let_14 : decode cX10_let 14 = .ok (.bipush 12, 2) := by decide +kernel
theorem dX10_let_16 : decode cX10_let 16 = .ok (.if_icmp .ge 7, 3) := by decide +kernel
theorem dX10_let_19 : decode cX10_let 19 = .ok (.iconst 1, 1) := by decide +kernel
theorem dX10_let_20 : decode cX10_let 20 = .ok (.goto 4, 3) := by decide +kernel
theorem dX10_let_23 : decode cX10_let 23 = .ok (.iconst 0, 1) := by decide +kernel
theorem dX10_let_24 : decode cX10_let 24 = .ok (.invokevirtual 237, 3) := by decide +kernel
theorem dX10_let_27 : decode cX10_let 27 = .ok (.ifCond .ne 4, 3) := by decide +kernel
theorem dX10_let_30 : decode cX10_let 30 = .ok (.return_, 1) := by decide +kernel
theorem dX10_let_31 : decode cX10_let 31 = .ok (.aload_n 0, 1) := by decide +kernel
theorem dX10_let_32 : decode cX10_let 32 = .ok (.dup, 1) := by decide +kernel
theorem dX10_let_33 : decode cX10_let 33 = .ok (.getfield 230, 3) := by decide +kernel
theorem dX10_let_36 : decode cX10_let 36 = .ok (.iconst 1, 1) := by decide +kernel
theorem dX10_let_37 : decode cX10_let 37 = .ok (.iadd, 1) := by decide +kernel
theorem dX10_let_38 : decode cX10_let 38 = .ok (.putfield 230, 3) := by decide +kernel
theorem dX10_let_41 : decode cX10_let 41 = .ok (.aload_n 0, 1) := by decide +kernel
theorem dX10_let_42 : decode cX10_let 42 = .ok (.invokevirtual 205, 3) := by decide +kernel
theorem dX10_let_45 : decode cX10_let 45 = .ok (.aload_n 0, 1) := by decide +kernel
theorem dX10_let_46 : decode cX10_let 46 = .ok (.getfield 98, 3) := by decide +kernel
theorem dX10_let_49 : decode cX10_let 49 = .ok (.iload_n 1, 1) := by decide +kernel
theorem dX10_let_50 : decode cX10_let 50 = .ok (.aload_n 0, 1) := by decide +kernel
theorem dX10_let_51 : decode cX10_let 51 = .ok (.getfield 240, 3) := by decide +kernel
theorem dX10_let_54 : decode cX10_let 54 = .ok (.iastore, 1) := by decide +kernel
theorem dX10_let_55 : decode cX10_let 55 = .ok (.aload_n 0, 1) := by decide +kernel
theorem dX10_let_56 : decode cX10_let 56 = .ok (.getfield 80, 3) := by decide +kernel
theorem dX10_let_59 : decode cX10_let 59 = .ok (.aload_n 0, 1) := by decide +kernel
theorem dX10_let_60 : decode cX10_let 60 = .ok (.getfield 240, 3) := by decide +kernel
theorem dX10_let_63 : decode cX10_let 63 = .ok (.aload_n 0, 1) := by decide +kernel
theorem dX10_let_64 : decode cX10_let 64 = .ok (.getfield 214, 3) := by decide +kernel
theorem dX10_let_67 : decode cX10_let 67 = .ok (.iastore, 1) := by decide +kernel
theorem dX10_let_68 : decode cX10_let 68 = .ok (.aload_n 0, 1) := by decide +kernel
theorem dX10_let_69 : decode cX10_let 69 = .ok (.getfield 83, 3) := by decide +kernel
theorem dX10_let_72 : decode cX10_let 72 = .ok (.aload_n 0, 1) := by decide +kernel
theorem dX10_let_73 : decode cX10_let 73 = .ok (.getfield 240, 3) := by decide +kernel
theorem dX10_let_76 : decode cX10_let 76 = .ok (.iconst 0, 1) := by decide +kernel
theorem dX10_let_77 : decode cX10_let 77 = .ok (.iastore, 1) := by decide +kernel
theorem dX10_let_78 : decode cX10_let 78 = .ok (.aload_n 0, 1) := by decide +kernel
theorem dX10_let_79 : decode cX10_let 79 = .ok (.aload_n 0, 1) := by decide +kernel
theorem dX10_let_80 : decode cX10_let 80 = .ok (.getfield 240, 3) := by decide +kernel
theorem dX10_let_83 : decode cX10_let 83 = .ok (.putfield 214, 3) := by decide +kernel
theorem dX10_let_86 : decode cX10_let 86 = .ok (.aload_n 0, 1) := by decide +kernel
theorem dX10_let_87 : decode cX10_let 87 = .ok (.dup, 1) := by decide +kernel
theorem dX10_let_88 : decode cX10_let 88 = .ok (.getfield 240, 3) := by decide +kernel
theorem dX10_let_91 : decode cX10_let 91 = .ok (.iconst 1, 1) := by decide +kernel
theorem dX10_let_92 : decode cX10_let 92 = .ok (.iadd, 1) := by decide +kernel
theorem dX10_let_93 : decode cX10_let 93 = .ok (.putfield 240, 3) := by decide +kernel
theorem dX10_let_96 : decode cX10_let 96 = .ok (.aload_n 0, 1) := by decide +kernel
theorem dX10_let_97 : decode cX10_let 97 = .ok (.bipush 9, 2) := by decide +kernel
theorem dX10_let_99 : decode cX10_let 99 = .ok (.aload_n 0, 1) := by decide +kernel
theorem dX10_let_100 : decode cX10_let 100 = .ok (.getfield 98, 3) := by decide +kernel
theorem dX10_let_103 : decode cX10_let 103 = .ok (.iload_n 1, 1) := by decide +kernel
theorem dX10_let_104 : decode cX10_let 104 = .ok (.iaload, 1) := by decide +kernel
theorem dX10_let_105 : decode cX10_let 105 = .ok (.invokevirtual 233, 3) := by decide +kernel
theorem dX10_let_108 : decode cX10_let 108 = .ok (.pop, 1) := by decide +kernel
theorem dX10_let_109 : decode cX10_let 109 = .ok (.aload_n 0, 1) := by decide +kernel
theorem dX10_let_110 : decode cX10_let 110 = .ok (.getfield 92, 3) := by decide +kernel
theorem dX10_let_113 : decode cX10_let 113 = .ok (.iload_n 1, 1) := by decide +kernel
theorem dX10_let_114 : decode cX10_let 114 = .ok (.iconst 1, 1) := by decide +kernel
theorem dX10_let_115 : decode cX10_let 115 = .ok (.iastore, 1) := by decide +kernel
theorem dX10_let_116 : decode cX10_let 116 = .ok (.aload_n 0, 1) := by decide +kernel
theorem dX10_let_117 : decode cX10_let 117 = .ok (.getfield 98, 3) := by decide +kernel
theorem dX10_let_120 : decode cX10_let 120 = .ok (.iload_n 1, 1) := by decide +kernel
theorem dX10_let_121 : decode cX10_let 121 = .ok (.iaload, 1) := by decide +kernel
theorem dX10_let_122 : decode cX10_let 122 = .ok (.istore_n 2, 1) := by decide +kernel
theorem dX10_let_123 : decode cX10_let 123 = .ok (.aload_n 0, 1) := by decide +kernel
theorem dX10_let_124 : decode cX10_let 124 = .ok (.getfield 92, 3) := by decide +kernel
theorem dX10_let_127 : decode cX10_let 127 = .ok (.iload_n 1, 1) := by decide +kernel
theorem dX10_let_128 : decode cX10_let 128 = .ok (.iaload, 1) := by decide +kernel
theorem dX10_let_129 : decode cX10_let 129 = .ok (.iconst 2, 1) := by decide +kernel
theorem dX10_let_130 : decode cX10_let 130 = .ok (.if_icmp .ne 33, 3) := by decide +kernel
theorem dX10_let_133 : decode cX10_let 133 = .ok (.aload_n 0, 1) := by decide +kernel
theorem dX10_let_134 : decode cX10_let 134 = .ok (.bipush 10, 2) := by decide +kernel
theorem dX10_let_136 : decode cX10_let 136 = .ok (.aload_n 0, 1) := by decide +kernel
theorem dX10_let_137 : decode cX10_let 137 = .ok (.getfield 101, 3) := by decide +kernel
theorem dX10_let_140 : decode cX10_let 140 = .ok (.iload_n 1, 1) := by decide +kernel
theorem dX10_let_141 : decode cX10_let 141 = .ok (.iaload, 1) := by decide +kernel
theorem dX10_let_142 : decode cX10_let 142 = .ok (.invokevirtual 233, 3) := by decide +kernel
theorem dX10_let_145 : decode cX10_let 145 = .ok (.pop, 1) := by decide +kernel
theorem dX10_let_146 : decode cX10_let 146 = .ok (.aload_n 0, 1) := by decide +kernel
theorem dX10_let_147 : decode cX10_let 147 = .ok (.bipush 59, 2) := by decide +kernel
theorem dX10_let_149 : decode cX10_let 149 = .ok (.invokevirtual 227, 3) := by decide +kernel
theorem dX10_let_152 : decode cX10_let 152 = .ok (.ifCond .ne 4, 3) := by decide +kernel
theorem dX10_let_155 : decode cX10_let 155 = .ok (.return_, 1) := by decide +kernel
theorem dX10_let_156 : decode cX10_let 156 = .ok (.aload_n 0, 1) := by decide +kernel
theorem dX10_let_157 : decode cX10_let 157 = .ok (.getfield 92, 3) := by decide +kernel
theorem dX10_let_160 : decode cX10_let 160 = .ok (.iload_n 1, 1) := by decide +kernel
theorem dX10_let_161 : decode cX10_let 161 = .ok (.iconst 1, 1) := by decide +kernel
theorem dX10_let_162 : decode cX10_let 162 = .ok (.iastore, 1) := by decide +kernel
theorem dX10_let_163 : decode cX10_let 163 = .ok (.aload_n 0, 1) := by decide +kernel
theorem dX10_let_164 : decode cX10_let 164 = .ok (.getfield 92, 3) := by decide +kernel
theorem dX10_let_167 : decode cX10_let 167 = .ok (.iload_n 1, 1) := by decide +kernel
theorem dX10_let_168 : decode cX10_let 168 = .ok (.iaload, 1) := by decide +kernel
theorem dX10_let_169 : decode cX10_let 169 = .ok (.iconst 3, 1) := by decide +kernel
theorem dX10_let_170 : decode cX10_let 170 = .ok (.if_icmp .ne 34, 3) := by decide +kernel
theorem dX10_let_173 : decode cX10_let 173 = .ok (.aload_n 0, 1) := by decide +kernel
theorem dX10_let_174 : decode cX10_let 174 = .ok (.dup, 1) := by decide +kernel
theorem dX10_let_175 : decode cX10_let 175 = .ok (.getfield 230, 3) := by decide +kernel
theorem dX10_let_178 : decode cX10_let 178 = .ok (.iconst 1, 1) := by decide +kernel
theorem dX10_let_179 : decode cX10_let 179 = .ok (.isub, 1) := by decide +kernel
theorem dX10_let_180 : decode cX10_let 180 = .ok (.putfield 230, 3) := by decide +kernel
theorem dX10_let_183 : decode cX10_let 183 = .ok (.aload_n 0, 1) := by decide +kernel
theorem dX10_let_184 : decode cX10_let 184 = .ok (.aload_n 0, 1) := by decide +kernel
theorem dX10_let_185 : decode cX10_let 185 = .ok (.getfield 80, 3) := by decide +kernel
theorem dX10_let_188 : decode cX10_let 188 = .ok (.iload_n 2, 1) := by decide +kernel
theorem dX10_let_189 : decode cX10_let 189 = .ok (.iaload, 1) := by decide +kernel
theorem dX10_let_190 : decode cX10_let 190 = .ok (.putfield 214, 3) := by decide +kernel
theorem dX10_let_193 : decode cX10_let 193 = .ok (.aload_n 0, 1) := by decide +kernel
theorem dX10_let_194 : decode cX10_let 194 = .ok (.dup, 1) := by decide +kernel
theorem dX10_let_195 : decode cX10_let 195 = .ok (.getfield 211, 3) := by decide +kernel
theorem dX10_let_198 : decode cX10_let 198 = .ok (.iconst 1, 1) := by decide +kernel
theorem dX10_let_199 : decode cX10_let 199 = .ok (.isub, 1) := by decide +kernel
theorem dX10_let_200 : decode cX10_let 200 = .ok (.putfield 211, 3) := by decide +kernel
theorem dX10_let_203 : decode cX10_let 203 = .ok (.return_, 1) := by decide +kernel
theorem dX10_let_204 : decode cX10_let 204 = .ok (.aload_n 0, 1) := by decide +kernel
theorem dX10_let_205 : decode cX10_let 205 = .ok (.getfield 83, 3) := by decide +kernel
theorem dX10_let_208 : decode cX10_let 208 = .ok (.iload_n 2, 1) := by decide +kernel
theorem dX10_let_209 : decode cX10_let 209 = .ok (.iaload, 1) := by decide +kernel
theorem dX10_let_210 : decode cX10_let 210 = .ok (.ifCond .le 28, 3) := by decide +kernel
theorem dX10_let_213 : decode cX10_let 213 = .ok (.aload_n 0, 1) := by decide +kernel
theorem dX10_let_214 : decode cX10_let 214 = .ok (.getfield 177, 3) := by decide +kernel
theorem dX10_let_217 : decode cX10_let 217 = .ok (.iconst 4, 1) := by decide +kernel
theorem dX10_let_218 : decode cX10_let 218 = .ok (.if_icmp .ne 20, 3) := by decide +kernel
theorem dX10_let_221 : decode cX10_let 221 = .ok (.aload_n 0, 1) := by decide +kernel
theorem dX10_let_222 : decode cX10_let 222 = .ok (.invokevirtual 205, 3) := by decide +kernel
theorem dX10_let_225 : decode cX10_let 225 = .ok (.aload_n 0, 1) := by decide +kernel
theorem dX10_let_226 : decode cX10_let 226 = .ok (.getfield 92, 3) := by decide +kernel
theorem dX10_let_229 : decode cX10_let 229 = .ok (.iload_n 1, 1) := by decide +kernel
theorem dX10_let_230 : decode cX10_let 230 = .ok (.iconst 3, 1) := by decide +kernel
theorem dX10_let_231 : decode cX10_let 231 = .ok (.iastore, 1) := by decide +kernel
theorem dX10_let_232 : decode cX10_let 232 = .ok (.aload_n 0, 1) := by decide +kernel
theorem dX10_let_233 : decode cX10_let 233 = .ok (.iconst 0, 1) := by decide +kernel
theorem dX10_let_234 : decode cX10_let 234 = .ok (.invokevirtual 217, 3) := by decide +kernel
theorem dX10_let_237 : decode cX10_let 237 = .ok (.return_, 1) := by decide +kernel
theorem dX10_let_238 : decode cX10_let 238 = .ok (.aload_n 0, 1) := by decide +kernel
theorem dX10_let_239 : decode cX10_let 239 = .ok (.aload_n 0, 1) := by decide +kernel
theorem dX10_let_240 : decode cX10_let 240 = .ok (.getfield 177, 3) := by decide +kernel
theorem dX10_let_243 : decode cX10_let 243 = .ok (.iconst 2, 1) := by decide +kernel
theorem dX10_let_244 : decode cX10_let 244 = .ok (.if_icmp .ne 7, 3) := by decide +kernel
theorem dX10_let_247 : decode cX10_let 247 = .ok (.iconst 1, 1) := by decide +kernel
theorem dX10_let_248 : decode cX10_let 248 = .ok (.goto 4, 3) := by decide +kernel
theorem dX10_let_251 : decode cX10_let 251 = .ok (.iconst 0, 1) := by decide +kernel
theorem dX10_let_252 : decode cX10_let 252 = .ok (.invokevirtual 201, 3) := by decide +kernel
theorem dX10_let_255 : decode cX10_let 255 = .ok (.ifCond .eq 26, 3) := by decide +kernel
theorem dX10_let_258 : decode cX10_let 258 = .ok (.aload_n 0, 1) := by decide +kernel
theorem dX10_let_259 : decode cX10_let 259 = .ok (.aload_n 0, 1) := by decide +kernel
theorem dX10_let_260 : decode cX10_let 260 = .ok (.getfield 83, 3) := by decide +kernel
theorem dX10_let_263 : decode cX10_let 263 = .ok (.iload_n 2, 1) := by decide +kernel
theorem dX10_let_264 : decode cX10_let 264 = .ok (.iaload, 1) := by decide +kernel
theorem dX10_let_265 : decode cX10_let 265 = .ok (.bipush 6, 2) := by decide +kernel
theorem dX10_let_267 : decode cX10_let 267 = .ok (.if_icmp .ge 7, 3) := by decide +kernel
theorem dX10_let_270 : decode cX10_let 270 = .ok (.iconst 1, 1) := by decide +kernel
theorem dX10_let_271 : decode cX10_let 271 = .ok (.goto 4, 3) := by decide +kernel
theorem dX10_let_274 : decode cX10_let 274 = .ok (.iconst 0, 1) := by decide +kernel
theorem dX10_let_275 : decode cX10_let 275 = .ok (.invokevirtual 237, 3) := by decide +kernel
theorem dX10_let_278 : decode cX10_let 278 = .ok (.ifCond .ne 4, 3) := by decide +kernel
theorem dX10_let_281 : decode cX10_let 281 = .ok (.return_, 1) := by decide +kernel
theorem dX10_let_282 : decode cX10_let 282 = .ok (.iconst 0, 1) := by decide +kernel
theorem dX10_let_283 : decode cX10_let 283 = .ok (.istore_n 3, 1) := by decide +kernel
theorem dX10_let_284 : decode cX10_let 284 = .ok (.iload_n 3, 1) := by decide +kernel
theorem dX10_let_285 : decode cX10_let 285 = .ok (.aload_n 0, 1) := by decide +kernel
theorem dX10_let_286 : decode cX10_let 286 = .ok (.getfield 243, 3) := by decide +kernel
theorem dX10_let_289 : decode cX10_let 289 = .ok (.if_icmp .ge 43, 3) := by decide +kernel
theorem dX10_let_292 : decode cX10_let 292 = .ok (.aload_n 0, 1) := by decide +kernel
theorem dX10_let_293 : decode cX10_let 293 = .ok (.getfield 104, 3) := by decide +kernel
theorem dX10_let_296 : decode cX10_let 296 = .ok (.iload_n 3, 1) := by decide +kernel
theorem dX10_let_297 : decode cX10_let 297 = .ok (.iaload, 1) := by decide +kernel
theorem dX10_let_298 : decode cX10_let 298 = .ok (.iload_n 2, 1) := by decide +kernel
theorem dX10_let_299 : decode cX10_let 299 = .ok (.if_icmp .ne 27, 3) := by decide +kernel
theorem dX10_let_302 : decode cX10_let 302 = .ok (.aload_n 0, 1) := by decide +kernel
theorem dX10_let_303 : decode cX10_let 303 = .ok (.getfield 86, 3) := by decide +kernel
theorem dX10_let_306 : decode cX10_let 306 = .ok (.iload_n 3, 1) := by decide +kernel
theorem dX10_let_307 : decode cX10_let 307 = .ok (.laload, 1) := by decide +kernel
theorem dX10_let_308 : decode cX10_let 308 = .ok (.aload_n 0, 1) := by decide +kernel
theorem dX10_let_309 : decode cX10_let 309 = .ok (.getfield 190, 3) := by decide +kernel
theorem dX10_let_312 : decode cX10_let 312 = .ok (.lcmp, 1) := by decide +kernel
theorem dX10_let_313 : decode cX10_let 313 = .ok (.ifCond .ne 13, 3) := by decide +kernel
theorem dX10_let_316 : decode cX10_let 316 = .ok (.aload_n 0, 1) := by decide +kernel
theorem dX10_let_317 : decode cX10_let 317 = .ok (.iconst 4, 1) := by decide +kernel
theorem dX10_let_318 : decode cX10_let 318 = .ok (.aload_n 0, 1) := by decide +kernel
theorem dX10_let_319 : decode cX10_let 319 = .ok (.getfield 174, 3) := by decide +kernel
theorem dX10_let_322 : decode cX10_let 322 = .ok (.invokevirtual 197, 3) := by decide +kernel
theorem dX10_let_325 : decode cX10_let 325 = .ok (.return_, 1) := by decide +kernel
theorem dX10_let_326 : decode cX10_let 326 = .ok (.iinc 3 1, 3) := by decide +kernel
theorem dX10_let_329 : decode cX10_let 329 = .ok (.goto (-45), 3) := by decide +kernel
theorem dX10_let_332 : decode cX10_let 332 = .ok (.aload_n 0, 1) := by decide +kernel
theorem dX10_let_333 : decode cX10_let 333 = .ok (.getfield 86, 3) := by decide +kernel
theorem dX10_let_336 : decode cX10_let 336 = .ok (.aload_n 0, 1) := by decide +kernel
theorem dX10_let_337 : decode cX10_let 337 = .ok (.getfield 243, 3) := by decide +kernel
theorem dX10_let_340 : decode cX10_let 340 = .ok (.aload_n 0, 1) := by decide +kernel
theorem dX10_let_341 : decode cX10_let 341 = .ok (.getfield 190, 3) := by decide +kernel
theorem dX10_let_344 : decode cX10_let 344 = .ok (.lastore, 1) := by decide +kernel
theorem dX10_let_345 : decode cX10_let 345 = .ok (.aload_n 0, 1) := by decide +kernel
theorem dX10_let_346 : decode cX10_let 346 = .ok (.getfield 104, 3) := by decide +kernel
theorem dX10_let_349 : decode cX10_let 349 = .ok (.aload_n 0, 1) := by decide +kernel
theorem dX10_let_350 : decode cX10_let 350 = .ok (.getfield 243, 3) := by decide +kernel
theorem dX10_let_353 : decode cX10_let 353 = .ok (.iload_n 2, 1) := by decide +kernel
theorem dX10_let_354 : decode cX10_let 354 = .ok (.iastore, 1) := by decide +kernel
theorem dX10_let_355 : decode cX10_let 355 = .ok (.aload_n 0, 1) := by decide +kernel
theorem dX10_let_356 : decode cX10_let 356 = .ok (.getfield 107, 3) := by decide +kernel
theorem dX10_let_359 : decode cX10_let 359 = .ok (.aload_n 0, 1) := by decide +kernel
theorem dX10_let_360 : decode cX10_let 360 = .ok (.getfield 243, 3) := by decide +kernel
theorem dX10_let_363 : decode cX10_let 363 = .ok (.aload_n 0, 1) := by decide +kernel
theorem dX10_let_364 : decode cX10_let 364 = .ok (.getfield 246, 3) := by decide +kernel
theorem dX10_let_367 : decode cX10_let 367 = .ok (.iconst 1, 1) := by decide +kernel
theorem dX10_let_368 : decode cX10_let 368 = .ok (.isub, 1) := by decide +kernel
theorem dX10_let_369 : decode cX10_let 369 = .ok (.iastore, 1) := by decide +kernel
theorem dX10_let_370 : decode cX10_let 370 = .ok (.aload_n 0, 1) := by decide +kernel
theorem dX10_let_371 : decode cX10_let 371 = .ok (.getfield 101, 3) := by decide +kernel
theorem dX10_let_374 : decode cX10_let 374 = .ok (.iload_n 1, 1) := by decide +kernel
theorem dX10_let_375 : decode cX10_let 375 = .ok (.aload_n 0, 1) := by decide +kernel
theorem dX10_let_376 : decode cX10_let 376 = .ok (.getfield 243, 3) := by decide +kernel
theorem dX10_let_379 : decode cX10_let 379 = .ok (.iastore, 1) := by decide +kernel
theorem dX10_let_380 : decode cX10_let 380 = .ok (.aload_n 0, 1) := by decide +kernel
theorem dX10_let_381 : decode cX10_let 381 = .ok (.dup, 1) := by decide +kernel
theorem dX10_let_382 : decode cX10_let 382 = .ok (.getfield 243, 3) := by decide +kernel
theorem dX10_let_385 : decode cX10_let 385 = .ok (.iconst 1, 1) := by decide +kernel
theorem dX10_let_386 : decode cX10_let 386 = .ok (.iadd, 1) := by decide +kernel
theorem dX10_let_387 : decode cX10_let 387 = .ok (.putfield 243, 3) := by decide +kernel
theorem dX10_let_390 : decode cX10_let 390 = .ok (.aload_n 0, 1) := by decide +kernel
theorem dX10_let_391 : decode cX10_let 391 = .ok (.getfield 83, 3) := by decide +kernel
theorem dX10_let_394 : decode cX10_let 394 = .ok (.iload_n 2, 1) := by decide +kernel
theorem dX10_let_395 : decode cX10_let 395 = .ok (.dup2, 1) := by decide +kernel
theorem dX10_let_396 : decode cX10_let 396 = .ok (.iaload, 1) := by decide +kernel
theorem dX10_let_397 : decode cX10_let 397 = .ok (.iconst 1, 1) := by decide +kernel
theorem dX10_let_398 : decode cX10_let 398 = .ok (.iadd, 1) := by decide +kernel
theorem dX10_let_399 : decode cX10_let 399 = .ok (.iastore, 1) := by decide +kernel
theorem dX10_let_400 : decode cX10_let 400 = .ok (.aload_n 0, 1) := by decide +kernel
theorem dX10_let_401 : decode cX10_let 401 = .ok (.invokevirtual 205, 3) := by decide +kernel
theorem dX10_let_404 : decode cX10_let 404 = .ok (.aload_n 0, 1) := by decide +kernel
theorem dX10_let_405 : decode cX10_let 405 = .ok (.bipush 61, 2) := by decide +kernel
theorem dX10_let_407 : decode cX10_let 407 = .ok (.invokevirtual 227, 3) := by decide +kernel
theorem dX10_let_410 : decode cX10_let 410 = .ok (.ifCond .eq 15, 3) := by decide +kernel
theorem dX10_let_413 : decode cX10_let 413 = .ok (.aload_n 0, 1) := by decide +kernel
theorem dX10_let_414 : decode cX10_let 414 = .ok (.getfield 92, 3) := by decide +kernel
theorem dX10_let_417 : decode cX10_let 417 = .ok (.iload_n 1, 1) := by decide +kernel
theorem dX10_let_418 : decode cX10_let 418 = .ok (.iconst 2, 1) := by decide +kernel
theorem dX10_let_419 : decode cX10_let 419 = .ok (.iastore, 1) := by decide +kernel
theorem dX10_let_420 : decode cX10_let 420 = .ok (.aload_n 0, 1) := by decide +kernel
theorem dX10_let_421 : decode cX10_let 421 = .ok (.iconst 0, 1) := by decide +kernel
theorem dX10_let_422 : decode cX10_let 422 = .ok (.invokevirtual 217, 3) := by decide +kernel
theorem dX10_let_425 : decode cX10_let 425 = .ok (.return_, 1) := by decide +kernel
theorem dX10_definition_0 : decode cX10_definition 0 = .ok (.aload_n 0, 1) := by decide +kernel
theorem dX10_definition_1 : decode cX10_definition 1 = .ok (.aload_n 0, 1) := by decide +kernel
theorem dX10_definition_2 : decode cX10_definition 2 = .ok (.getfield 177, 3) := by decide +kernel
theorem dX10_definition_5 : decode cX10_definition 5 = .ok (.iconst 2, 1) := by decide +kernel
theorem dX10_definition_6 : decode cX10_definition 6 = .ok (.if_icmp .ne 7, 3) := by decide +kernel
theorem dX10_definition_9 : decode cX10_definition 9 = .ok (.iconst 1, 1) := by decide +kernel
theorem dX10_definition_10 : decode cX10_definition 10 = .ok (.goto 4, 3) := by decide +kernel
theorem dX10_definition_13 : decode cX10_definition 13 = .ok (.iconst 0, 1) := by decide +kernel
theorem dX10_definition_14 : decode cX10_definition 14 = .ok (.invokevirtual 201, 3) := by decide +kernel
theorem dX10_definition_17 : decode cX10_definition 17 = .ok (.ifCond .eq 24, 3) := by decide +kernel
theorem dX10_definition_20 : decode cX10_definition 20 = .ok (.aload_n 0, 1) := by decide +kernel
theorem dX10_definition_21 : decode cX10_definition 21 = .ok (.aload_n 0, 1) := by decide +kernel
theorem dX10_definition_22 : decode cX10_definition 22 = .ok (.getfield 246, 3) := by decide +kernel
theorem dX10_definition_25 : decode cX10_definition 25 = .ok (.bipush 20, 2) := by decide +kernel
theorem dX10_definition_27 : decode cX10_definition 27 = .ok (.if_icmp .ge 7, 3) := by decide +kernel
theorem dX10_definition_30 : decode cX10_definition 30 = .ok (.iconst 1, 1) := by decide +kernel
theorem dX10_definition_31 : decode cX10_definition 31 = .ok (.goto 4, 3) := by decide +kernel
theorem dX10_definition_34 : decode cX10_definition 34 = .ok (.iconst 0, 1) := by decide +kernel
theorem dX10_definition_35 : decode cX10_definition 35 = .ok (.invokevirtual 237, 3) := by decide +kernel
theorem dX10_definition_38 : decode cX10_definition 38 = .ok (.ifCond .ne 4, 3) := by decide +kernel
theorem dX10_definition_41 : decode cX10_definition 41 = .ok (.return_, 1) := by decide +kernel
theorem dX10_definition_42 : decode cX10_definition 42 = .ok (.iconst 0, 1) := by decide +kernel
theorem dX10_definition_43 : decode cX10_definition 43 = .ok (.istore_n 1, 1) := by decide +kernel
theorem dX10_definition_44 : decode cX10_definition 44 = .ok (.iload_n 1, 1) := by decide +kernel
theorem dX10_definition_45 : decode cX10_definition 45 = .ok (.aload_n 0, 1) := by decide +kernel
theorem dX10_definition_46 : decode cX10_definition 46 = .ok (.getfield 246, 3) := by decide +kernel
theorem dX10_definition_49 : decode cX10_definition 49 = .ok (.if_icmp .ge 33, 3) := by decide +kernel
theorem dX10_definition_52 : decode cX10_definition 52 = .ok (.aload_n 0, 1) := by decide +kernel
theorem dX10_definition_53 : decode cX10_definition 53 = .ok (.getfield 47, 3) := by decide +kernel
theorem dX10_definition_56 : decode cX10_definition 56 = .ok (.iload_n 1, 1) := by decide +kernel
theorem dX10_definition_57 : decode cX10_definition 57 = .ok (.laload, 1) := by decide +kernel
theorem dX10_definition_58 : decode cX10_definition 58 = .ok (.aload_n 0, 1) := by decide +kernel
theorem dX10_definition_59 : decode cX10_definition 59 = .ok (.getfield 190, 3) := by decide +kernel
theorem dX10_definition_62 : decode cX10_definition 62 = .ok (.lcmp, 1) := by decide +kernel
theorem dX10_definition_63 : decode cX10_definition 63 = .ok (.ifCond .ne 13, 3) := by decide +kernel
theorem dX10_definition_66 : decode cX10_definition 66 = .ok (.aload_n 0, 1) := by decide +kernel
theorem dX10_definition_67 : decode cX10_definition 67 = .ok (.iconst 4, 1) := by decide +kernel
theorem dX10_definition_68 : decode cX10_definition 68 = .ok (.aload_n 0, 1) := by decide +kernel
theorem dX10_definition_69 : decode cX10_definition 69 = .ok (.getfield 174, 3) := by decide +kernel
theorem dX10_definition_72 : decode cX10_definition 72 = .ok (.invokevirtual 197, 3) := by decide +kernel
theorem dX10_definition_75 : decode cX10_definition 75 = .ok (.return_, 1) := by decide +kernel
theorem dX10_definition_76 : decode cX10_definition 76 = .ok (.iinc 1 1, 3) := by decide +kernel
theorem dX10_definition_79 : decode cX10_definition 79 = .ok (.goto (-35), 3) := by decide +kernel
theorem dX10_definition_82 : decode cX10_definition 82 = .ok (.aload_n 0, 1) := by decide +kernel
theorem dX10_definition_83 : decode cX10_definition 83 = .ok (.getfield 246, 3) := by decide +kernel
theorem dX10_definition_86 : decode cX10_definition 86 = .ok (.istore_n 1, 1) := by decide +kernel
theorem dX10_definition_87 : decode cX10_definition 87 = .ok (.aload_n 0, 1) := by decide +kernel
theorem dX10_definition_88 : decode cX10_definition 88 = .ok (.getfield 47, 3) := by decide +kernel
theorem dX10_definition_91 : decode cX10_definition 91 = .ok (.iload_n 1, 1) := by decide +kernel
theorem dX10_definition_92 : decode cX10_definition 92 = .ok (.aload_n 0, 1) := by decide +kernel
theorem dX10_definition_93 : decode cX10_definition 93 = .ok (.getfield 190, 3) := by decide +kernel
theorem dX10_definition_96 : decode cX10_definition 96 = .ok (.lastore, 1) := by decide +kernel
theorem dX10_definition_97 : decode cX10_definition 97 = .ok (.aload_n 0, 1) := by decide +kernel
theorem dX10_definition_98 : decode cX10_definition 98 = .ok (.getfield 50, 3) := by decide +kernel
theorem dX10_definition_101 : decode cX10_definition 101 = .ok (.iload_n 1, 1) := by decide +kernel
theorem dX10_definition_102 : decode cX10_definition 102 = .ok (.iconst 0, 1) := by decide +kernel
theorem dX10_definition_103 : decode cX10_definition 103 = .ok (.iastore, 1) := by decide +kernel
theorem dX10_definition_104 : decode cX10_definition 104 = .ok (.aload_n 0, 1) := by decide +kernel
theorem dX10_definition_105 : decode cX10_definition 105 = .ok (.invokevirtual 205, 3) := by decide +kernel
theorem dX10_definition_108 : decode cX10_definition 108 = .ok (.aload_n 0, 1) := by decide +kernel
theorem dX10_definition_109 : decode cX10_definition 109 = .ok (.getfield 164, 3) := by decide +kernel
theorem dX10_definition_112 : decode cX10_definition 112 = .ok (.ifCond .ne 117, 3) := by decide +kernel
theorem dX10_definition_115 : decode cX10_definition 115 = .ok (.aload_n 0, 1) := by decide +kernel
theorem dX10_definition_116 : decode cX10_definition 116 = .ok (.getfield 177, 3) := by decide +kernel
theorem dX10_definition_119 : decode cX10_definition 119 = .ok (.iconst 2, 1) := by decide +kernel
theorem dX10_definition_120 : decode cX10_definition 120 = .ok (.if_icmp .ne 109, 3) := by decide +kernel
theorem dX10_definition_123 : decode cX10_definition 123 = .ok (.aload_n 0, 1) := by decide +kernel
theorem dX10_definition_124 : decode cX10_definition 124 = .ok (.aload_n 0, 1) := by decide +kernel
theorem dX10_definition_125 : decode cX10_definition 125 = .ok (.getfield 50, 3) := by decide +kernel
theorem dX10_definition_128 : decode cX10_definition 128 = .ok (.iload_n 1, 1) := by decide +kernel
theorem dX10_definition_129 : decode cX10_definition 129 = .ok (.iaload, 1) := by decide +kernel
theorem dX10_definition_130 : decode cX10_definition 130 = .ok (.bipush 8, 2) := by decide +kernel
theorem dX10_definition_132 : decode cX10_definition 132 = .ok (.if_icmp .ge 7, 3) := by decide +kernel
theorem dX10_definition_135 : decode cX10_definition 135 = .ok (.iconst 1, 1) := by decide +kernel
theorem dX10_definition_136 : decode cX10_definition 136 = .ok (.goto 4, 3) := by decide +kernel
theorem dX10_definition_139 : decode cX10_definition 139 = .ok (.iconst 0, 1) := by decide +kernel
theorem dX10_definition_140 : decode cX10_definition 140 = .ok (.invokevirtual 237, 3) := by decide +kernel
theorem dX10_definition_143 : decode cX10_definition 143 = .ok (.ifCond .eq (-35), 3) := by decide +kernel
theorem dX10_definition_146 : decode cX10_definition 146 = .ok (.iconst 0, 1) := by decide +kernel
theorem dX10_definition_147 : decode cX10_definition 147 = .ok (.istore_n 2, 1) := by decide +kernel
theorem dX10_definition_148 : decode cX10_definition 148 = .ok (.iload_n 2, 1) := by decide +kernel
theorem dX10_definition_149 : decode cX10_definition 149 = .ok (.aload_n 0, 1) := by decide +kernel
theorem dX10_definition_150 : decode cX10_definition 150 = .ok (.getfield 50, 3) := by decide +kernel
theorem dX10_definition_153 : decode cX10_definition 153 = .ok (.iload_n 1, 1) := by decide +kernel
theorem dX10_definition_154 : decode cX10_definition 154 = .ok (.iaload, 1) := by decide +kernel
theorem dX10_definition_155 : decode cX10_definition 155 = .ok (.if_icmp .ge 37, 3) := by decide +kernel
theorem dX10_definition_158 : decode cX10_definition 158 = .ok (.aload_n 0, 1) := by decide +kernel
theorem dX10_definition_159 : decode cX10_definition 159 = .ok (.getfield 53, 3) := by decide +kernel
theorem dX10_definition_162 : decode cX10_definition 162 = .ok (.bipush 8, 2) := by decide +kernel
theorem dX10_definition_164 : decode cX10_definition 164 = .ok (.iload_n 1, 1) := by decide +kernel
theorem dX10_definition_165 : decode cX10_definition 165 = .ok (.imul, 1) := by decide +kernel
theorem dX10_definition_166 : decode cX10_definition 166 = .ok (.iload_n 2, 1) := by decide +kernel
theorem dX10_definition_167 : decode cX10_definition 167 = .ok (.iadd, 1) := by decide +kernel
theorem dX10_definition_168 : decode cX10_definition 168 = .ok (.laload, 1) := by decide +kernel
theorem dX10_definition_169 : decode cX10_definition 169 = .ok (.aload_n 0, 1) := by decide +kernel
theorem dX10_definition_170 : decode cX10_definition 170 = .ok (.getfield 190, 3) := by decide +kernel
theorem dX10_definition_173 : decode cX10_definition 173 = .ok (.lcmp, 1) := by decide +kernel
theorem dX10_definition_174 : decode cX10_definition 174 = .ok (.ifCond .ne 12, 3) := by decide +kernel
theorem dX10_definition_177 : decode cX10_definition 177 = .ok (.aload_n 0, 1) := by decide +kernel
theorem dX10_definition_178 : decode cX10_definition 178 = .ok (.iconst 4, 1) := by decide +kernel
theorem dX10_definition_179 : decode cX10_definition 179 = .ok (.aload_n 0, 1) := by decide +kernel
theorem dX10_definition_180 : decode cX10_definition 180 = .ok (.getfield 174, 3) := by decide +kernel
theorem dX10_definition_183 : decode cX10_definition 183 = .ok (.invokevirtual 197, 3) := by decide +kernel
theorem dX10_definition_186 : decode cX10_definition 186 = .ok (.iinc 2 1, 3) := by decide +kernel
theorem dX10_definition_189 : decode cX10_definition 189 = .ok (.goto (-41), 3) := by decide +kernel
theorem dX10_definition_192 : decode cX10_definition 192 = .ok (.aload_n 0, 1) := by decide +kernel
theorem dX10_definition_193 : decode cX10_definition 193 = .ok (.getfield 53, 3) := by decide +kernel
theorem dX10_definition_196 : decode cX10_definition 196 = .ok (.bipush 8, 2) := by decide +kernel
theorem dX10_definition_198 : decode cX10_definition 198 = .ok (.iload_n 1, 1) := by decide +kernel
theorem dX10_definition_199 : decode cX10_definition 199 = .ok (.imul, 1) := by decide +kernel
theorem dX10_definition_200 : decode cX10_definition 200 = .ok (.aload_n 0, 1) := by decide +kernel
theorem dX10_definition_201 : decode cX10_definition 201 = .ok (.getfield 50, 3) := by decide +kernel
theorem dX10_definition_204 : decode cX10_definition 204 = .ok (.iload_n 1, 1) := by decide +kernel
theorem dX10_definition_205 : decode cX10_definition 205 = .ok (.iaload, 1) := by decide +kernel
theorem dX10_definition_206 : decode cX10_definition 206 = .ok (.iadd, 1) := by decide +kernel
theorem dX10_definition_207 : decode cX10_definition 207 = .ok (.aload_n 0, 1) := by decide +kernel
theorem dX10_definition_208 : decode cX10_definition 208 = .ok (.getfield 190, 3) := by decide +kernel
theorem dX10_definition_211 : decode cX10_definition 211 = .ok (.lastore, 1) := by decide +kernel
theorem dX10_definition_212 : decode cX10_definition 212 = .ok (.aload_n 0, 1) := by decide +kernel
theorem dX10_definition_213 : decode cX10_definition 213 = .ok (.getfield 50, 3) := by decide +kernel
theorem dX10_definition_216 : decode cX10_definition 216 = .ok (.iload_n 1, 1) := by decide +kernel
theorem dX10_definition_217 : decode cX10_definition 217 = .ok (.dup2, 1) := by decide +kernel
theorem dX10_definition_218 : decode cX10_definition 218 = .ok (.iaload, 1) := by decide +kernel
theorem dX10_definition_219 : decode cX10_definition 219 = .ok (.iconst 1, 1) := by decide +kernel
theorem dX10_definition_220 : decode cX10_definition 220 = .ok (.iadd, 1) := by decide +kernel
theorem dX10_definition_221 : decode cX10_definition 221 = .ok (.iastore, 1) := by decide +kernel
theorem dX10_definition_222 : decode cX10_definition 222 = .ok (.aload_n 0, 1) := by decide +kernel
theorem dX10_definition_223 : decode cX10_definition 223 = .ok (.invokevirtual 205, 3) := by decide +kernel
theorem dX10_definition_226 : decode cX10_definition 226 = .ok (.goto (-118), 3) := by decide +kernel
theorem dX10_definition_229 : decode cX10_definition 229 = .ok (.aload_n 0, 1) := by decide +kernel
theorem dX10_definition_230 : decode cX10_definition 230 = .ok (.bipush 61, 2) := by decide +kernel
theorem dX10_definition_232 : decode cX10_definition 232 = .ok (.invokevirtual 227, 3) := by decide +kernel
theorem dX10_definition_235 : decode cX10_definition 235 = .ok (.ifCond .ne 4, 3) := by decide +kernel
theorem dX10_definition_238 : decode cX10_definition 238 = .ok (.return_, 1) := by decide +kernel
theorem dX10_definition_239 : decode cX10_definition 239 = .ok (.aload_n 0, 1) := by decide +kernel
theorem dX10_definition_240 : decode cX10_definition 240 = .ok (.getfield 56, 3) := by decide +kernel
theorem dX10_definition_243 : decode cX10_definition 243 = .ok (.iload_n 1, 1) := by decide +kernel
theorem dX10_definition_244 : decode cX10_definition 244 = .ok (.aload_n 0, 1) := by decide +kernel
theorem dX10_definition_245 : decode cX10_definition 245 = .ok (.getfield 208, 3) := by decide +kernel
theorem dX10_definition_248 : decode cX10_definition 248 = .ok (.iastore, 1) := by decide +kernel
theorem dX10_definition_249 : decode cX10_definition 249 = .ok (.aload_n 0, 1) := by decide +kernel
theorem dX10_definition_250 : decode cX10_definition 250 = .ok (.dup, 1) := by decide +kernel
theorem dX10_definition_251 : decode cX10_definition 251 = .ok (.getfield 246, 3) := by decide +kernel
theorem dX10_definition_254 : decode cX10_definition 254 = .ok (.iconst 1, 1) := by decide +kernel
theorem dX10_definition_255 : decode cX10_definition 255 = .ok (.iadd, 1) := by decide +kernel
theorem dX10_definition_256 : decode cX10_definition 256 = .ok (.putfield 246, 3) := by decide +kernel
theorem dX10_definition_259 : decode cX10_definition 259 = .ok (.aload_n 0, 1) := by decide +kernel
theorem dX10_definition_260 : decode cX10_definition 260 = .ok (.invokevirtual 249, 3) := by decide +kernel
theorem dX10_definition_263 : decode cX10_definition 263 = .ok (.aload_n 0, 1) := by decide +kernel
theorem dX10_definition_264 : decode cX10_definition 264 = .ok (.getfield 59, 3) := by decide +kernel
theorem dX10_definition_267 : decode cX10_definition 267 = .ok (.iload_n 1, 1) := by decide +kernel
theorem dX10_definition_268 : decode cX10_definition 268 = .ok (.aload_n 0, 1) := by decide +kernel
theorem dX10_definition_269 : decode cX10_definition 269 = .ok (.getfield 208, 3) := by decide +kernel
theorem dX10_definition_272 : decode cX10_definition 272 = .ok (.iastore, 1) := by decide +kernel
theorem dX10_definition_273 : decode cX10_definition 273 = .ok (.aload_n 0, 1) := by decide +kernel
theorem dX10_definition_274 : decode cX10_definition 274 = .ok (.bipush 59, 2) := by decide +kernel
theorem dX10_definition_276 : decode cX10_definition 276 = .ok (.invokevirtual 227, 3) := by decide +kernel
theorem dX10_definition_279 : decode cX10_definition 279 = .ok (.pop, 1) := by decide +kernel
theorem dX10_definition_280 : decode cX10_definition 280 = .ok (.return_, 1) := by decide +kernel
theorem dX10_resolve_0 : decode cX10_resolve 0 = .ok (.iconst 0, 1) := by decide +kernel
theorem dX10_resolve_1 : decode cX10_resolve 1 = .ok (.istore_n 1, 1) := by decide +kernel
theorem dX10_resolve_2 : decode cX10_resolve 2 = .ok (.iload_n 1, 1) := by decide +kernel
theorem dX10_resolve_3 : decode cX10_resolve 3 = .ok (.aload_n 0, 1) := by decide +kernel
theorem dX10_resolve_4 : decode cX10_resolve 4 = .ok (.getfield 246, 3) := by decide +kernel
theorem dX10_resolve_7 : decode cX10_resolve 7 = .ok (.if_icmp .ge 136, 3) := by decide +kernel
theorem dX10_resolve_10 : decode cX10_resolve 10 = .ok (.aload_n 0, 1) := by decide +kernel
theorem dX10_resolve_11 : decode cX10_resolve 11 = .ok (.getfield 62, 3) := by decide +kernel
theorem dX10_resolve_14 : decode cX10_resolve 14 = .ok (.iload_n 1, 1) := by decide +kernel
theorem dX10_resolve_15 : decode cX10_resolve 15 = .ok (.iconst 0, 1) := by decide +kernel
theorem dX10_resolve_16 : decode cX10_resolve 16 = .ok (.iastore, 1) := by decide +kernel
theorem dX10_resolve_17 : decode cX10_resolve 17 = .ok (.aload_n 0, 1) := by decide +kernel
theorem dX10_resolve_18 : decode cX10_resolve 18 = .ok (.getfield 56, 3) := by decide +kernel
theorem dX10_resolve_21 : decode cX10_resolve 21 = .ok (.iload_n 1, 1) := by decide +kernel
theorem dX10_resolve_22 : decode cX10_resolve 22 = .ok (.iaload, 1) := by decide +kernel
theorem dX10_resolve_23 : decode cX10_resolve 23 = .ok (.istore_n 2, 1) := by decide +kernel
theorem dX10_resolve_24 : decode cX10_resolve 24 = .ok (.iload_n 2, 1) := by decide +kernel
theorem dX10_resolve_25 : decode cX10_resolve 25 = .ok (.aload_n 0, 1) := by decide +kernel
theorem dX10_resolve_26 : decode cX10_resolve 26 = .ok (.getfield 59, 3) := by decide +kernel
theorem dX10_resolve_29 : decode cX10_resolve 29 = .ok (.iload_n 1, 1) := by decide +kernel
theorem dX10_resolve_30 : decode cX10_resolve 30 = .ok (.iaload, 1) := by decide +kernel
theorem dX10_resolve_31 : decode cX10_resolve 31 = .ok (.if_icmp .ge 106, 3) := by decide +kernel
theorem dX10_resolve_34 : decode cX10_resolve 34 = .ok (.aload_n 0, 1) := by decide +kernel
theorem dX10_resolve_35 : decode cX10_resolve 35 = .ok (.getfield 65, 3) := by decide +kernel
theorem dX10_resolve_38 : decode cX10_resolve 38 = .ok (.iload_n 2, 1) := by decide +kernel
theorem dX10_resolve_39 : decode cX10_resolve 39 = .ok (.iaload, 1) := by decide +kernel
theorem dX10_resolve_40 : decode cX10_resolve 40 = .ok (.iconst 4, 1) := by decide +kernel
theorem dX10_resolve_41 : decode cX10_resolve 41 = .ok (.if_icmp .ne 24, 3) := by decide +kernel
theorem dX10_resolve_44 : decode cX10_resolve 44 = .ok (.aload_n 0, 1) := by decide +kernel
theorem dX10_resolve_45 : decode cX10_resolve 45 = .ok (.iload_n 1, 1) := by decide +kernel
theorem dX10_resolve_46 : decode cX10_resolve 46 = .ok (.iload_n 2, 1) := by decide +kernel
theorem dX10_resolve_47 : decode cX10_resolve 47 = .ok (.invokevirtual 252, 3) := by decide +kernel
theorem dX10_resolve_50 : decode cX10_resolve 50 = .ok (.ifCond .ne 15, 3) := by decide +kernel
theorem dX10_resolve_53 : decode cX10_resolve 53 = .ok (.aload_n 0, 1) := by decide +kernel
theorem dX10_resolve_54 : decode cX10_resolve 54 = .ok (.iconst 5, 1) := by decide +kernel
theorem dX10_resolve_55 : decode cX10_resolve 55 = .ok (.aload_n 0, 1) := by decide +kernel
theorem dX10_resolve_56 : decode cX10_resolve 56 = .ok (.getfield 74, 3) := by decide +kernel
theorem dX10_resolve_59 : decode cX10_resolve 59 = .ok (.iload_n 2, 1) := by decide +kernel
theorem dX10_resolve_60 : decode cX10_resolve 60 = .ok (.iaload, 1) := by decide +kernel
theorem dX10_resolve_61 : decode cX10_resolve 61 = .ok (.invokevirtual 197, 3) := by decide +kernel
theorem dX10_resolve_64 : decode cX10_resolve 64 = .ok (.return_, 1) := by decide +kernel
theorem dX10_resolve_65 : decode cX10_resolve 65 = .ok (.aload_n 0, 1) := by decide +kernel
theorem dX10_resolve_66 : decode cX10_resolve 66 = .ok (.getfield 62, 3) := by decide +kernel
theorem dX10_resolve_69 : decode cX10_resolve 69 = .ok (.iload_n 1, 1) := by decide +kernel
theorem dX10_resolve_70 : decode cX10_resolve 70 = .ok (.dup2, 1) := by decide +kernel
theorem dX10_resolve_71 : decode cX10_resolve 71 = .ok (.iaload, 1) := by decide +kernel
theorem dX10_resolve_72 : decode cX10_resolve 72 = .ok (.aload_n 0, 1) := by decide +kernel
theorem dX10_resolve_73 : decode cX10_resolve 73 = .ok (.getfield 65, 3) := by decide +kernel
theorem dX10_resolve_76 : decode cX10_resolve 76 = .ok (.iload_n 2, 1) := by decide +kernel
theorem dX10_resolve_77 : decode cX10_resolve 77 = .ok (.iaload, 1) := by decide +kernel
theorem dX10_resolve_78 : decode cX10_resolve 78 = .ok (.iconst 1, 1) := by decide +kernel
theorem dX10_resolve_79 : decode cX10_resolve 79 = .ok (.if_icmp .eq 23, 3) := by decide +kernel
theorem dX10_resolve_82 : decode cX10_resolve 82 = .ok (.aload_n 0, 1) := by decide +kernel
theorem dX10_resolve_83 : decode cX10_resolve 83 = .ok (.getfield 65, 3) := by decide +kernel
theorem dX10_resolve_86 : decode cX10_resolve 86 = .ok (.iload_n 2, 1) := by decide +kernel
theorem dX10_resolve_87 : decode cX10_resolve 87 = .ok (.iaload, 1) := by decide +kernel
theorem dX10_resolve_88 : decode cX10_resolve 88 = .ok (.iconst 2, 1) := by decide +kernel
theorem dX10_resolve_89 : decode cX10_resolve 89 = .ok (.if_icmp .eq 13, 3) := by decide +kernel
theorem dX10_resolve_92 : decode cX10_resolve 92 = .ok (.aload_n 0, 1) := by decide +kernel
theorem dX10_resolve_93 : decode cX10_resolve 93 = .ok (.getfield 65, 3) := by decide +kernel
theorem dX10_resolve_96 : decode cX10_resolve 96 = .ok (.iload_n 2, 1) := by decide +kernel
theorem dX10_resolve_97 : decode cX10_resolve 97 = .ok (.iaload, 1) := by decide +kernel
theorem dX10_resolve_98 : decode cX10_resolve 98 = .ok (.iconst 3, 1) := by decide +kernel
theorem dX10_resolve_99 : decode cX10_resolve 99 = .ok (.if_icmp .ne 7, 3) := by decide +kernel
theorem dX10_resolve_102 : decode cX10_resolve 102 = .ok (.iconst 1, 1) := by decide +kernel
theorem dX10_resolve_103 : decode cX10_resolve 103 = .ok (.goto 26, 3) := by decide +kernel
theorem dX10_resolve_106 : decode cX10_resolve 106 = .ok (.aload_n 0, 1) := by decide +kernel
theorem dX10_resolve_107 : decode cX10_resolve 107 = .ok (.getfield 65, 3) := by decide +kernel
theorem dX10_resolve_110 : decode cX10_resolve 110 = .ok (.iload_n 2, 1) := by decide +kernel
theorem dX10_resolve_111 : decode cX10_resolve 111 = .ok (.iaload, 1) := by decide +kernel
theorem dX10_resolve_112 : decode cX10_resolve 112 = .ok (.bipush 8, 2) := by decide +kernel
theorem dX10_resolve_114 : decode cX10_resolve 114 = .ok (.if_icmp .ne 14, 3) := by decide +kernel
theorem dX10_resolve_117 : decode cX10_resolve 117 = .ok (.aload_n 0, 1) := by decide +kernel
theorem dX10_resolve_118 : decode cX10_resolve 118 = .ok (.getfield 68, 3) := by decide +kernel
theorem dX10_resolve_121 : decode cX10_resolve 121 = .ok (.iload_n 2, 1) := by decide +kernel
theorem dX10_resolve_122 : decode cX10_resolve 122 = .ok (.iaload, 1) := by decide +kernel
theorem dX10_resolve_123 : decode cX10_resolve 123 = .ok (.iconst 1, 1) := by decide +kernel
theorem dX10_resolve_124 : decode cX10_resolve 124 = .ok (.isub, 1) := by decide +kernel
theorem dX10_resolve_125 : decode cX10_resolve 125 = .ok (.goto 4, 3) := by decide +kernel
theorem dX10_resolve_128 : decode cX10_resolve 128 = .ok (.iconst 0, 1) := by decide +kernel
theorem dX10_resolve_129 : decode cX10_resolve 129 = .ok (.iadd, 1) := by decide +kernel
theorem dX10_resolve_130 : decode cX10_resolve 130 = .ok (.iastore, 1) := by decide +kernel
theorem dX10_resolve_131 : decode cX10_resolve 131 = .ok (.iinc 2 1, 3) := by decide +kernel
theorem dX10_resolve_134 : decode cX10_resolve 134 = .ok (.goto (-110), 3) := by decide +kernel
theorem dX10_resolve_137 : decode cX10_resolve 137 = .ok (.iinc 1 1, 3) := by decide +kernel
theorem dX10_resolve_140 : decode cX10_resolve 140 = .ok (.goto (-138), 3) := by decide +kernel
theorem dX10_resolve_143 : decode cX10_resolve 143 = .ok (.iconst 0, 1) := by decide +kernel
theorem dX10_resolve_144 : decode cX10_resolve 144 = .ok (.istore_n 1, 1) := by decide +kernel
theorem dX10_resolve_145 : decode cX10_resolve 145 = .ok (.iload_n 1, 1) := by decide +kernel
theorem dX10_resolve_146 : decode cX10_resolve 146 = .ok (.aload_n 0, 1) := by decide +kernel
theorem dX10_resolve_147 : decode cX10_resolve 147 = .ok (.getfield 243, 3) := by decide +kernel
theorem dX10_resolve_150 : decode cX10_resolve 150 = .ok (.if_icmp .ge 24, 3) := by decide +kernel
theorem dX10_resolve_153 : decode cX10_resolve 153 = .ok (.aload_n 0, 1) := by decide +kernel
theorem dX10_resolve_154 : decode cX10_resolve 154 = .ok (.getfield 62, 3) := by decide +kernel
theorem dX10_resolve_157 : decode cX10_resolve 157 = .ok (.aload_n 0, 1) := by decide +kernel
theorem dX10_resolve_158 : decode cX10_resolve 158 = .ok (.getfield 107, 3) := by decide +kernel
theorem dX10_resolve_161 : decode cX10_resolve 161 = .ok (.iload_n 1, 1) := by decide +kernel
theorem dX10_resolve_162 : decode cX10_resolve 162 = .ok (.iaload, 1) := by decide +kernel
theorem dX10_resolve_163 : decode cX10_resolve 163 = .ok (.dup2, 1) := by decide +kernel
theorem dX10_resolve_164 : decode cX10_resolve 164 = .ok (.iaload, 1) := by decide +kernel
theorem dX10_resolve_165 : decode cX10_resolve 165 = .ok (.iconst 1, 1) := by decide +kernel
theorem dX10_resolve_166 : decode cX10_resolve 166 = .ok (.iadd, 1) := by decide +kernel
theorem dX10_resolve_167 : decode cX10_resolve 167 = .ok (.iastore, 1) := by decide +kernel
theorem dX10_resolve_168 : decode cX10_resolve 168 = .ok (.iinc 1 1, 3) := by decide +kernel
theorem dX10_resolve_171 : decode cX10_resolve 171 = .ok (.goto (-26), 3) := by decide +kernel
theorem dX10_resolve_174 : decode cX10_resolve 174 = .ok (.return_, 1) := by decide +kernel
theorem dX10_find_0 : decode cX10_find 0 = .ok (.aload_n 0, 1) := by decide +kernel
theorem dX10_find_1 : decode cX10_find 1 = .ok (.getfield 77, 3) := by decide +kernel
theorem dX10_find_4 : decode cX10_find 4 = .ok (.iload_n 2, 1) := by decide +kernel
theorem dX10_find_5 : decode cX10_find 5 = .ok (.iaload, 1) := by decide +kernel
theorem dX10_find_6 : decode cX10_find 6 = .ok (.istore_n 3, 1) := by decide +kernel
theorem dX10_find_7 : decode cX10_find 7 = .ok (.iload_n 3, 1) := by decide +kernel
theorem dX10_find_8 : decode cX10_find 8 = .ok (.ifCond .lt 77, 3) := by decide +kernel
theorem dX10_find_11 : decode cX10_find 11 = .ok (.iconst 0, 1) := by decide +kernel
theorem dX10_find_12 : decode cX10_find 12 = .ok (.istore 4, 2) := by decide +kernel
theorem dX10_find_14 : decode cX10_find 14 = .ok (.iload 4, 2) := by decide +kernel
theorem dX10_find_16 : decode cX10_find 16 = .ok (.aload_n 0, 1) := by decide +kernel
theorem dX10_find_17 : decode cX10_find 17 = .ok (.getfield 243, 3) := by decide +kernel
theorem dX10_find_20 : decode cX10_find 20 = .ok (.if_icmp .ge 55, 3) := by decide +kernel
theorem dX10_find_23 : decode cX10_find 23 = .ok (.aload_n 0, 1) := by decide +kernel
theorem dX10_find_24 : decode cX10_find 24 = .ok (.getfield 104, 3) := by decide +kernel
theorem dX10_find_27 : decode cX10_find 27 = .ok (.iload 4, 2) := by decide +kernel
theorem dX10_find_29 : decode cX10_find 29 = .ok (.iaload, 1) := by decide +kernel
theorem dX10_find_30 : decode cX10_find 30 = .ok (.iload_n 3, 1) := by decide +kernel
theorem dX10_find_31 : decode cX10_find 31 = .ok (.if_icmp .ne 38, 3) := by decide +kernel
theorem dX10_find_34 : decode cX10_find 34 = .ok (.aload_n 0, 1) := by decide +kernel
theorem dX10_find_35 : decode cX10_find 35 = .ok (.getfield 86, 3) := by decide +kernel
theorem dX10_find_38 : decode cX10_find 38 = .ok (.iload 4, 2) := by decide +kernel
theorem dX10_find_40 : decode cX10_find 40 = .ok (.laload, 1) := by decide +kernel
theorem dX10_find_41 : decode cX10_find 41 = .ok (.aload_n 0, 1) := by decide +kernel
theorem dX10_find_42 : decode cX10_find 42 = .ok (.getfield 71, 3) := by decide +kernel
theorem dX10_find_45 : decode cX10_find 45 = .ok (.iload_n 2, 1) := by decide +kernel
theorem dX10_find_46 : decode cX10_find 46 = .ok (.laload, 1) := by decide +kernel
theorem dX10_find_47 : decode cX10_find 47 = .ok (.lcmp, 1) := by decide +kernel
theorem dX10_find_48 : decode cX10_find 48 = .ok (.ifCond .ne 21, 3) := by decide +kernel
theorem dX10_find_51 : decode cX10_find 51 = .ok (.aload_n 0, 1) := by decide +kernel
theorem dX10_find_52 : decode cX10_find 52 = .ok (.getfield 65, 3) := by decide +kernel
theorem dX10_find_55 : decode cX10_find 55 = .ok (.iload_n 2, 1) := by decide +kernel
theorem dX10_find_56 : decode cX10_find 56 = .ok (.bipush 7, 2) := by decide +kernel
theorem dX10_find_58 : decode cX10_find 58 = .ok (.iastore, 1) := by decide +kernel
theorem dX10_find_59 : decode cX10_find 59 = .ok (.aload_n 0, 1) := by decide +kernel
theorem dX10_find_60 : decode cX10_find 60 = .ok (.getfield 68, 3) := by decide +kernel
theorem dX10_find_63 : decode cX10_find 63 = .ok (.iload_n 2, 1) := by decide +kernel
theorem dX10_find_64 : decode cX10_find 64 = .ok (.iload 4, 2) := by decide +kernel
theorem dX10_find_66 : decode cX10_find 66 = .ok (.iastore, 1) := by decide +kernel
theorem dX10_find_67 : decode cX10_find 67 = .ok (.iconst 1, 1) := by decide +kernel
theorem dX10_find_68 : decode cX10_find 68 = .ok (.ireturn, 1) := by decide +kernel
theorem dX10_find_69 : decode cX10_find 69 = .ok (.iinc 4 1, 3) := by decide +kernel
theorem dX10_find_72 : decode cX10_find 72 = .ok (.goto (-58), 3) := by decide +kernel
theorem dX10_find_75 : decode cX10_find 75 = .ok (.aload_n 0, 1) := by decide +kernel
theorem dX10_find_76 : decode cX10_find 76 = .ok (.getfield 80, 3) := by decide +kernel
theorem dX10_find_79 : decode cX10_find 79 = .ok (.iload_n 3, 1) := by decide +kernel
theorem dX10_find_80 : decode cX10_find 80 = .ok (.iaload, 1) := by decide +kernel
theorem dX10_find_81 : decode cX10_find 81 = .ok (.istore_n 3, 1) := by decide +kernel
theorem dX10_find_82 : decode cX10_find 82 = .ok (.goto (-75), 3) := by decide +kernel
theorem dX10_find_85 : decode cX10_find 85 = .ok (.iconst 0, 1) := by decide +kernel
theorem dX10_find_86 : decode cX10_find 86 = .ok (.istore_n 3, 1) := by decide +kernel
theorem dX10_find_87 : decode cX10_find 87 = .ok (.iload_n 3, 1) := by decide +kernel
theorem dX10_find_88 : decode cX10_find 88 = .ok (.aload_n 0, 1) := by decide +kernel
theorem dX10_find_89 : decode cX10_find 89 = .ok (.getfield 50, 3) := by decide +kernel
theorem dX10_find_92 : decode cX10_find 92 = .ok (.iload_n 1, 1) := by decide +kernel
theorem dX10_find_93 : decode cX10_find 93 = .ok (.iaload, 1) := by decide +kernel
theorem dX10_find_94 : decode cX10_find 94 = .ok (.if_icmp .ge 49, 3) := by decide +kernel
theorem dX10_find_97 : decode cX10_find 97 = .ok (.aload_n 0, 1) := by decide +kernel
theorem dX10_find_98 : decode cX10_find 98 = .ok (.getfield 53, 3) := by decide +kernel
theorem dX10_find_101 : decode cX10_find 101 = .ok (.bipush 8, 2) := by decide +kernel
theorem dX10_find_103 : decode cX10_find 103 = .ok (.iload_n 1, 1) := by decide +kernel
theorem dX10_find_104 : decode cX10_find 104 = .ok (.imul, 1) := by decide +kernel
theorem dX10_find_105 : decode cX10_find 105 = .ok (.iload_n 3, 1) := by decide +kernel
theorem dX10_find_106 : decode cX10_find 106 = .ok (.iadd, 1) := by decide +kernel
theorem dX10_find_107 : decode cX10_find 107 = .ok (.laload, 1) := by decide +kernel
theorem dX10_find_108 : decode cX10_find 108 = .ok (.aload_n 0, 1) := by decide +kernel
theorem dX10_find_109 : decode cX10_find 109 = .ok (.getfield 71, 3) := by decide +kernel
theorem dX10_find_112 : decode cX10_find 112 = .ok (.iload_n 2, 1) := by decide +kernel
theorem dX10_find_113 : decode cX10_find 113 = .ok (.laload, 1) := by decide +kernel
theorem dX10_find_114 : decode cX10_find 114 = .ok (.lcmp, 1) := by decide +kernel
theorem dX10_find_115 : decode cX10_find 115 = .ok (.ifCond .ne 22, 3) := by decide +kernel
theorem dX10_find_118 : decode cX10_find 118 = .ok (.aload_n 0, 1) := by decide +kernel
theorem dX10_find_119 : decode cX10_find 119 = .ok (.getfield 65, 3) := by decide +kernel
theorem dX10_find_122 : decode cX10_find 122 = .ok (.iload_n 2, 1) := by decide +kernel
theorem dX10_find_123 : decode cX10_find 123 = .ok (.bipush 6, 2) := by decide +kernel
theorem dX10_find_125 : decode cX10_find 125 = .ok (.iastore, 1) := by decide +kernel
theorem dX10_find_126 : decode cX10_find 126 = .ok (.aload_n 0, 1) := by decide +kernel
theorem dX10_find_127 : decode cX10_find 127 = .ok (.getfield 68, 3) := by decide +kernel
theorem dX10_find_130 : decode cX10_find 130 = .ok (.iload_n 2, 1) := by decide +kernel
theorem dX10_find_131 : decode cX10_find 131 = .ok (.iload_n 3, 1) := by decide +kernel
theorem dX10_find_132 : decode cX10_find 132 = .ok (.iconst 1, 1) := by decide +kernel
theorem dX10_find_133 : decode cX10_find 133 = .ok (.iadd, 1) := by decide +kernel
theorem dX10_find_134 : decode cX10_find 134 = .ok (.iastore, 1) := by decide +kernel
theorem dX10_find_135 : decode cX10_find 135 = .ok (.iconst 1, 1) := by decide +kernel
theorem dX10_find_136 : decode cX10_find 136 = .ok (.ireturn, 1) := by decide +kernel
theorem dX10_find_137 : decode cX10_find 137 = .ok (.iinc 3 1, 3) := by decide +kernel
theorem dX10_find_140 : decode cX10_find 140 = .ok (.goto (-53), 3) := by decide +kernel
theorem dX10_find_143 : decode cX10_find 143 = .ok (.iconst 0, 1) := by decide +kernel
theorem dX10_find_144 : decode cX10_find 144 = .ok (.istore_n 3, 1) := by decide +kernel
theorem dX10_find_145 : decode cX10_find 145 = .ok (.iload_n 3, 1) := by decide +kernel
theorem dX10_find_146 : decode cX10_find 146 = .ok (.aload_n 0, 1) := by decide +kernel
theorem dX10_find_147 : decode cX10_find 147 = .ok (.getfield 246, 3) := by decide +kernel
theorem dX10_find_150 : decode cX10_find 150 = .ok (.if_icmp .ge 41, 3) := by decide +kernel
theorem dX10_find_153 : decode cX10_find 153 = .ok (.aload_n 0, 1) := by decide +kernel
theorem dX10_find_154 : decode cX10_find 154 = .ok (.getfield 47, 3) := by decide +kernel
theorem dX10_find_157 : decode cX10_find 157 = .ok (.iload_n 3, 1) := by decide +kernel
theorem dX10_find_158 : decode cX10_find 158 = .ok (.laload, 1) := by decide +kernel
theorem dX10_find_159 : decode cX10_find 159 = .ok (.aload_n 0, 1) := by decide +kernel
theorem dX10_find_160 : decode cX10_find 160 = .ok (.getfield 71, 3) := by decide +kernel
theorem dX10_find_163 : decode cX10_find 163 = .ok (.iload_n 2, 1) := by decide +kernel
theorem dX10_find_164 : decode cX10_find 164 = .ok (.laload, 1) := by decide +kernel
theorem dX10_find_165 : decode cX10_find 165 = .ok (.lcmp, 1) := by decide +kernel
theorem dX10_find_166 : decode cX10_find 166 = .ok (.ifCond .ne 19, 3) := by decide +kernel
theorem dX10_find_169 : decode cX10_find 169 = .ok (.aload_n 0, 1) := by decide +kernel
theorem dX10_find_170 : decode cX10_find 170 = .ok (.getfield 65, 3) := by decide +kernel
theorem dX10_find_173 : decode cX10_find 173 = .ok (.iload_n 2, 1) := by decide +kernel
theorem dX10_find_174 : decode cX10_find 174 = .ok (.iconst 5, 1) := by decide +kernel
theorem dX10_find_175 : decode cX10_find 175 = .ok (.iastore, 1) := by decide +kernel
theorem dX10_find_176 : decode cX10_find 176 = .ok (.aload_n 0, 1) := by decide +kernel
theorem dX10_find_177 : decode cX10_find 177 = .ok (.getfield 68, 3) := by decide +kernel
theorem dX10_find_180 : decode cX10_find 180 = .ok (.iload_n 2, 1) := by decide +kernel
theorem dX10_find_181 : decode cX10_find 181 = .ok (.iload_n 3, 1) := by decide +kernel
theorem dX10_find_182 : decode cX10_find 182 = .ok (.iastore, 1) := by decide +kernel
theorem dX10_find_183 : decode cX10_find 183 = .ok (.iconst 1, 1) := by decide +kernel
theorem dX10_find_184 : decode cX10_find 184 = .ok (.ireturn, 1) := by decide +kernel
theorem dX10_find_185 : decode cX10_find 185 = .ok (.iinc 3 1, 3) := by decide +kernel
theorem dX10_find_188 : decode cX10_find 188 = .ok (.goto (-43), 3) := by decide +kernel
theorem dX10_find_191 : decode cX10_find 191 = .ok (.iconst 0, 1) := by decide +kernel
theorem dX10_find_192 : decode cX10_find 192 = .ok (.ireturn, 1) := by decide +kernel
theorem dX10_node_0 : decode cX10_node 0 = .ok (.iconst 0, 1) := by decide +kernel
theorem dX10_node_1 : decode cX10_node 1 = .ok (.istore 5, 2) := by decide +kernel
theorem dX10_node_3 : decode cX10_node 3 = .ok (.aload_n 0, 1) := by decide +kernel
theorem dX10_node_4 : decode cX10_node 4 = .ok (.getfield 110, 3) := by decide +kernel
theorem dX10_node_7 : decode cX10_node 7 = .ok (.iload 5, 2) := by decide +kernel
theorem dX10_node_9 : decode cX10_node 9 = .ok (.iaload, 1) := by decide +kernel
theorem dX10_node_10 : decode cX10_node 10 = .ok (.bipush 7, 2) := by decide +kernel
theorem dX10_node_12 : decode cX10_node 12 = .ok (.if_icmp .eq 9, 3) := by decide +kernel
theorem dX10_node_15 : decode cX10_node 15 = .ok (.iinc 5 1, 3) := by decide +kernel
theorem dX10_node_18 : decode cX10_node 18 = .ok (.goto (-15), 3) := by decide +kernel
theorem dX10_node_21 : decode cX10_node 21 = .ok (.aload_n 0, 1) := by decide +kernel
theorem dX10_node_22 : decode cX10_node 22 = .ok (.getfield 110, 3) := by decide +kernel
theorem dX10_node_25 : decode cX10_node 25 = .ok (.iload 5, 2) := by decide +kernel
theorem dX10_node_27 : decode cX10_node 27 = .ok (.iload_n 1, 1) := by decide +kernel
theorem dX10_node_28 : decode cX10_node 28 = .ok (.iastore, 1) := by decide +kernel
theorem dX10_node_29 : decode cX10_node 29 = .ok (.aload_n 0, 1) := by decide +kernel
theorem dX10_node_30 : decode cX10_node 30 = .ok (.getfield 113, 3) := by decide +kernel
theorem dX10_node_33 : decode cX10_node 33 = .ok (.iload 5, 2) := by decide +kernel
theorem dX10_node_35 : decode cX10_node 35 = .ok (.iload_n 2, 1) := by decide +kernel
theorem dX10_node_36 : decode cX10_node 36 = .ok (.iastore, 1) := by decide +kernel
theorem dX10_node_37 : decode cX10_node 37 = .ok (.aload_n 0, 1) := by decide +kernel
theorem dX10_node_38 : decode cX10_node 38 = .ok (.getfield 116, 3) := by decide +kernel
theorem dX10_node_41 : decode cX10_node 41 = .ok (.iload 5, 2) := by decide +kernel
theorem dX10_node_43 : decode cX10_node 43 = .ok (.iload_n 3, 1) := by decide +kernel
theorem dX10_node_44 : decode cX10_node 44 = .ok (.iastore, 1) := by decide +kernel
theorem dX10_node_45 : decode cX10_node 45 = .ok (.aload_n 0, 1) := by decide +kernel
theorem dX10_node_46 : decode cX10_node 46 = .ok (.getfield 119, 3) := by decide +kernel
theorem dX10_node_49 : decode cX10_node 49 = .ok (.iload 5, 2) := by decide +kernel
theorem dX10_node_51 : decode cX10_node 51 = .ok (.iload 4, 2) := by decide +kernel
theorem dX10_node_53 : decode cX10_node 53 = .ok (.iastore, 1) := by decide +kernel
theorem dX10_node_54 : decode cX10_node 54 = .ok (.aload_n 0, 1) := by decide +kernel
theorem dX10_node_55 : decode cX10_node 55 = .ok (.dup, 1) := by decide +kernel
theorem dX10_node_56 : decode cX10_node 56 = .ok (.getfield 256, 3) := by decide +kernel
theorem dX10_node_59 : decode cX10_node 59 = .ok (.iconst 1, 1) := by decide +kernel
theorem dX10_node_60 : decode cX10_node 60 = .ok (.iadd, 1) := by decide +kernel
theorem dX10_node_61 : decode cX10_node 61 = .ok (.putfield 256, 3) := by decide +kernel
theorem dX10_node_64 : decode cX10_node 64 = .ok (.aload_n 0, 1) := by decide +kernel
theorem dX10_node_65 : decode cX10_node 65 = .ok (.aload_n 0, 1) := by decide +kernel
theorem dX10_node_66 : decode cX10_node 66 = .ok (.getfield 256, 3) := by decide +kernel
theorem dX10_node_69 : decode cX10_node 69 = .ok (.aload_n 0, 1) := by decide +kernel
theorem dX10_node_70 : decode cX10_node 70 = .ok (.getfield 259, 3) := by decide +kernel
theorem dX10_node_73 : decode cX10_node 73 = .ok (.if_icmp .le 10, 3) := by decide +kernel
theorem dX10_node_76 : decode cX10_node 76 = .ok (.aload_n 0, 1) := by decide +kernel
theorem dX10_node_77 : decode cX10_node 77 = .ok (.getfield 256, 3) := by decide +kernel
theorem dX10_node_80 : decode cX10_node 80 = .ok (.goto 7, 3) := by decide +kernel
theorem dX10_node_83 : decode cX10_node 83 = .ok (.aload_n 0, 1) := by decide +kernel
theorem dX10_node_84 : decode cX10_node 84 = .ok (.getfield 259, 3) := by decide +kernel
theorem dX10_node_87 : decode cX10_node 87 = .ok (.putfield 259, 3) := by decide +kernel
theorem dX10_node_90 : decode cX10_node 90 = .ok (.aload_n 0, 1) := by decide +kernel
theorem dX10_node_91 : decode cX10_node 91 = .ok (.dup, 1) := by decide +kernel
theorem dX10_node_92 : decode cX10_node 92 = .ok (.getfield 262, 3) := by decide +kernel
theorem dX10_node_95 : decode cX10_node 95 = .ok (.iconst 1, 1) := by decide +kernel
theorem dX10_node_96 : decode cX10_node 96 = .ok (.iadd, 1) := by decide +kernel
theorem dX10_node_97 : decode cX10_node 97 = .ok (.putfield 262, 3) := by decide +kernel
theorem dX10_node_100 : decode cX10_node 100 = .ok (.iload 4, 2) := by decide +kernel
theorem dX10_node_102 : decode cX10_node 102 = .ok (.ifCond .lt 14, 3) := by decide +kernel
theorem dX10_node_105 : decode cX10_node 105 = .ok (.aload_n 0, 1) := by decide +kernel
theorem dX10_node_106 : decode cX10_node 106 = .ok (.getfield 125, 3) := by decide +kernel
theorem dX10_node_109 : decode cX10_node 109 = .ok (.iload 4, 2) := by decide +kernel
theorem dX10_node_111 : decode cX10_node 111 = .ok (.dup2, 1) := by decide +kernel
theorem dX10_node_112 : decode cX10_node 112 = .ok (.iaload, 1) := by decide +kernel
theorem dX10_node_113 : decode cX10_node 113 = .ok (.iconst 1, 1) := by decide +kernel
theorem dX10_node_114 : decode cX10_node 114 = .ok (.iadd, 1) := by decide +kernel
theorem dX10_node_115 : decode cX10_node 115 = .ok (.iastore, 1) := by decide +kernel
theorem dX10_node_116 : decode cX10_node 116 = .ok (.iload 5, 2) := by decide +kernel
theorem dX10_node_118 : decode cX10_node 118 = .ok (.ireturn, 1) := by decide +kernel
theorem dX10_begin_0 : decode cX10_begin 0 = .ok (.iconst 0, 1) := by decide +kernel
theorem dX10_begin_1 : decode cX10_begin 1 = .ok (.istore_n 1, 1) := by decide +kernel
theorem dX10_begin_2 : decode cX10_begin 2 = .ok (.iload_n 1, 1) := by decide +kernel
theorem dX10_begin_3 : decode cX10_begin 3 = .ok (.sipush 400, 3) := by decide +kernel
theorem dX10_begin_6 : decode cX10_begin 6 = .ok (.if_icmp .ge 17, 3) := by decide +kernel
theorem dX10_begin_9 : decode cX10_begin 9 = .ok (.aload_n 0, 1) := by decide +kernel
theorem dX10_begin_10 : decode cX10_begin 10 = .ok (.getfield 110, 3) := by decide +kernel
theorem dX10_begin_13 : decode cX10_begin 13 = .ok (.iload_n 1, 1) := by decide +kernel
theorem dX10_begin_14 : decode cX10_begin 14 = .ok (.bipush 7, 2) := by decide +kernel
theorem dX10_begin_16 : decode cX10_begin 16 = .ok (.iastore, 1) := by decide +kernel
theorem dX10_begin_17 : decode cX10_begin 17 = .ok (.iinc 1 1, 3) := by decide +kernel
theorem dX10_begin_20 : decode cX10_begin 20 = .ok (.goto (-18), 3) := by decide +kernel
theorem dX10_begin_23 : decode cX10_begin 23 = .ok (.aload_n 0, 1) := by decide +kernel
theorem dX10_begin_24 : decode cX10_begin 24 = .ok (.iconst 0, 1) := by decide +kernel
theorem dX10_begin_25 : decode cX10_begin 25 = .ok (.putfield 256, 3) := by decide +kernel
theorem dX10_begin_28 : decode cX10_begin 28 = .ok (.aload_n 0, 1) := by decide +kernel
theorem dX10_begin_29 : decode cX10_begin 29 = .ok (.iconst 0, 1) := by decide +kernel
theorem dX10_begin_30 : decode cX10_begin 30 = .ok (.putfield 259, 3) := by decide +kernel
theorem dX10_begin_33 : decode cX10_begin 33 = .ok (.aload_n 0, 1) := by decide +kernel
theorem dX10_begin_34 : decode cX10_begin 34 = .ok (.iconst 0, 1) := by decide +kernel
theorem dX10_begin_35 : decode cX10_begin 35 = .ok (.putfield 262, 3) := by decide +kernel
theorem dX10_begin_38 : decode cX10_begin 38 = .ok (.iconst 0, 1) := by decide +kernel
theorem dX10_begin_39 : decode cX10_begin 39 = .ok (.istore_n 1, 1) := by decide +kernel
theorem dX10_begin_40 : decode cX10_begin 40 = .ok (.iload_n 1, 1) := by decide +kernel
theorem dX10_begin_41 : decode cX10_begin 41 = .ok (.bipush 20, 2) := by decide +kernel
theorem dX10_begin_43 : decode cX10_begin 43 = .ok (.if_icmp .ge 23, 3) := by decide +kernel
theorem dX10_begin_46 : decode cX10_begin 46 = .ok (.aload_n 0, 1) := by decide +kernel
theorem dX10_begin_47 : decode cX10_begin 47 = .ok (.getfield 122, 3) := by decide +kernel
theorem dX10_begin_50 : decode cX10_begin 50 = .ok (.iload_n 1, 1) := by decide +kernel
theorem dX10_begin_51 : decode cX10_begin 51 = .ok (.iconst 0, 1) := by decide +kernel
theorem dX10_begin_52 : decode cX10_begin 52 = .ok (.iastore, 1) := by decide +kernel
theorem dX10_begin_53 : decode cX10_begin 53 = .ok (.aload_n 0, 1) := by decide +kernel
theorem dX10_begin_54 : decode cX10_begin 54 = .ok (.getfield 125, 3) := by decide +kernel
theorem dX10_begin_57 : decode cX10_begin 57 = .ok (.iload_n 1, 1) := by decide +kernel
theorem dX10_begin_58 : decode cX10_begin 58 = .ok (.iconst 0, 1) := by decide +kernel
theorem dX10_begin_59 : decode cX10_begin 59 = .ok (.iastore, 1) := by decide +kernel
theorem dX10_begin_60 : decode cX10_begin 60 = .ok (.iinc 1 1, 3) := by decide +kernel
theorem dX10_begin_63 : decode cX10_begin 63 = .ok (.goto (-23), 3) := by decide +kernel
theorem dX10_begin_66 : decode cX10_begin 66 = .ok (.iconst 0, 1) := by decide +kernel
theorem dX10_begin_67 : decode cX10_begin 67 = .ok (.istore_n 1, 1) := by decide +kernel
theorem dX10_begin_68 : decode cX10_begin 68 = .ok (.iconst 0, 1) := by decide +kernel
theorem dX10_begin_69 : decode cX10_begin 69 = .ok (.istore_n 2, 1) := by decide +kernel
theorem dX10_begin_70 : decode cX10_begin 70 = .ok (.iload_n 2, 1) := by decide +kernel
theorem dX10_begin_71 : decode cX10_begin 71 = .ok (.aload_n 0, 1) := by decide +kernel
theorem dX10_begin_72 : decode cX10_begin 72 = .ok (.getfield 246, 3) := by decide +kernel
theorem dX10_begin_75 : decode cX10_begin 75 = .ok (.if_icmp .ge 39, 3) := by decide +kernel
theorem dX10_begin_78 : decode cX10_begin 78 = .ok (.aload_n 0, 1) := by decide +kernel
theorem dX10_begin_79 : decode cX10_begin 79 = .ok (.iconst 2, 1) := by decide +kernel
theorem dX10_begin_80 : decode cX10_begin 80 = .ok (.iload_n 2, 1) := by decide +kernel
theorem dX10_begin_81 : decode cX10_begin 81 = .ok (.bipush (-3), 2) := by decide +kernel
theorem dX10_begin_83 : decode cX10_begin 83 = .ok (.bipush (-3), 2) := by decide +kernel
theorem dX10_begin_85 : decode cX10_begin 85 = .ok (.invokevirtual 265, 3) := by decide +kernel
theorem dX10_begin_88 : decode cX10_begin 88 = .ok (.istore_n 3, 1) := by decide +kernel
theorem dX10_begin_89 : decode cX10_begin 89 = .ok (.aload_n 0, 1) := by decide +kernel
theorem dX10_begin_90 : decode cX10_begin 90 = .ok (.getfield 47, 3) := by decide +kernel
theorem dX10_begin_93 : decode cX10_begin 93 = .ok (.iload_n 2, 1) := by decide +kernel
theorem dX10_begin_94 : decode cX10_begin 94 = .ok (.laload, 1) := by decide +kernel
theorem dX10_begin_95 : decode cX10_begin 95 = .ok (.ldc2_w 269, 3) := by decide +kernel
theorem dX10_begin_98 : decode cX10_begin 98 = .ok (.lcmp, 1) := by decide +kernel
theorem dX10_begin_99 : decode cX10_begin 99 = .ok (.ifCond .ne 7, 3) := by decide +kernel
theorem dX10_begin_102 : decode cX10_begin 102 = .ok (.iload_n 3, 1) := by decide +kernel
theorem dX10_begin_103 : decode cX10_begin 103 = .ok (.goto 4, 3) := by decide +kernel
theorem dX10_begin_106 : decode cX10_begin 106 = .ok (.iload_n 1, 1) := by decide +kernel
theorem dX10_begin_107 : decode cX10_begin 107 = .ok (.istore_n 1, 1) := by decide +kernel
theorem dX10_begin_108 : decode cX10_begin 108 = .ok (.iinc 2 1, 3) := by decide +kernel
theorem dX10_begin_111 : decode cX10_begin 111 = .ok (.goto (-41), 3) := by decide +kernel
theorem dX10_begin_114 : decode cX10_begin 114 = .ok (.aload_n 0, 1) := by decide +kernel
theorem dX10_begin_115 : decode cX10_begin 115 = .ok (.iconst 1, 1) := by decide +kernel
theorem dX10_begin_116 : decode cX10_begin 116 = .ok (.putfield 271, 3) := by decide +kernel
theorem dX10_begin_119 : decode cX10_begin 119 = .ok (.aload_n 0, 1) := by decide +kernel
theorem dX10_begin_120 : decode cX10_begin 120 = .ok (.getfield 128, 3) := by decide +kernel
theorem dX10_begin_123 : decode cX10_begin 123 = .ok (.iconst 0, 1) := by decide +kernel
theorem dX10_begin_124 : decode cX10_begin 124 = .ok (.iload_n 1, 1) := by decide +kernel
theorem dX10_begin_125 : decode cX10_begin 125 = .ok (.iastore, 1) := by decide +kernel
theorem dX10_begin_126 : decode cX10_begin 126 = .ok (.aload_n 0, 1) := by decide +kernel
theorem dX10_begin_127 : decode cX10_begin 127 = .ok (.iconst 1, 1) := by decide +kernel
theorem dX10_begin_128 : decode cX10_begin 128 = .ok (.putfield 274, 3) := by decide +kernel
theorem dX10_begin_131 : decode cX10_begin 131 = .ok (.aload_n 0, 1) := by decide +kernel
theorem dX10_begin_132 : decode cX10_begin 132 = .ok (.getfield 131, 3) := by decide +kernel
theorem dX10_begin_135 : decode cX10_begin 135 = .ok (.iconst 0, 1) := by decide +kernel
theorem dX10_begin_136 : decode cX10_begin 136 = .ok (.iconst 0, 1) := by decide +kernel
theorem dX10_begin_137 : decode cX10_begin 137 = .ok (.iastore, 1) := by decide +kernel
theorem dX10_begin_138 : decode cX10_begin 138 = .ok (.aload_n 0, 1) := by decide +kernel
theorem dX10_begin_139 : decode cX10_begin 139 = .ok (.iconst 0, 1) := by decide +kernel
theorem dX10_begin_140 : decode cX10_begin 140 = .ok (.putfield 277, 3) := by decide +kernel
theorem dX10_begin_143 : decode cX10_begin 143 = .ok (.aload_n 0, 1) := by decide +kernel
theorem dX10_begin_144 : decode cX10_begin 144 = .ok (.iconst 0, 1) := by decide +kernel
theorem dX10_begin_145 : decode cX10_begin 145 = .ok (.putfield 280, 3) := by decide +kernel
theorem dX10_begin_148 : decode cX10_begin 148 = .ok (.aload_n 0, 1) := by decide +kernel
theorem dX10_begin_149 : decode cX10_begin 149 = .ok (.iconst 0, 1) := by decide +kernel
theorem dX10_begin_150 : decode cX10_begin 150 = .ok (.putfield 283, 3) := by decide +kernel
theorem dX10_begin_153 : decode cX10_begin 153 = .ok (.return_, 1) := by decide +kernel
theorem dX10_read_0 : decode cX10_read 0 = .ok (.aload_n 0, 1) := by decide +kernel
theorem dX10_read_1 : decode cX10_read 1 = .ok (.iconst 0, 1) := by decide +kernel
theorem dX10_read_2 : decode cX10_read 2 = .ok (.putfield 153, 3) := by decide +kernel
theorem dX10_read_5 : decode cX10_read 5 = .ok (.aload_n 0, 1) := by decide +kernel
theorem dX10_read_6 : decode cX10_read 6 = .ok (.iconst 0, 1) := by decide +kernel
theorem dX10_read_7 : decode cX10_read 7 = .ok (.putfield 246, 3) := by decide +kernel
theorem dX10_read_10 : decode cX10_read 10 = .ok (.aload_n 0, 1) := by decide +kernel
theorem dX10_read_11 : decode cX10_read 11 = .ok (.iconst 0, 1) := by decide +kernel
theorem dX10_read_12 : decode cX10_read 12 = .ok (.putfield 208, 3) := by decide +kernel
theorem dX10_read_15 : decode cX10_read 15 = .ok (.aload_n 0, 1) := by decide +kernel
theorem dX10_read_16 : decode cX10_read 16 = .ok (.iconst 0, 1) := by decide +kernel
theorem dX10_read_17 : decode cX10_read 17 = .ok (.putfield 240, 3) := by decide +kernel
theorem dX10_read_20 : decode cX10_read 20 = .ok (.aload_n 0, 1) := by decide +kernel
theorem dX10_read_21 : decode cX10_read 21 = .ok (.iconst 0, 1) := by decide +kernel
theorem dX10_read_22 : decode cX10_read 22 = .ok (.putfield 243, 3) := by decide +kernel
theorem dX10_read_25 : decode cX10_read 25 = .ok (.aload_n 0, 1) := by decide +kernel
theorem dX10_read_26 : decode cX10_read 26 = .ok (.iconst 0, 1) := by decide +kernel
theorem dX10_read_27 : decode cX10_read 27 = .ok (.putfield 230, 3) := by decide +kernel
theorem dX10_read_30 : decode cX10_read 30 = .ok (.aload_n 0, 1) := by decide +kernel
theorem dX10_read_31 : decode cX10_read 31 = .ok (.iconst 0, 1) := by decide +kernel
theorem dX10_read_32 : decode cX10_read 32 = .ok (.putfield 167, 3) := by decide +kernel
theorem dX10_read_35 : decode cX10_read 35 = .ok (.aload_n 0, 1) := by decide +kernel
theorem dX10_read_36 : decode cX10_read 36 = .ok (.iconst 0, 1) := by decide +kernel
theorem dX10_read_37 : decode cX10_read 37 = .ok (.putfield 164, 3) := by decide +kernel
theorem dX10_read_40 : decode cX10_read 40 = .ok (.aload_n 0, 1) := by decide +kernel
theorem dX10_read_41 : decode cX10_read 41 = .ok (.invokevirtual 205, 3) := by decide +kernel
theorem dX10_read_44 : decode cX10_read 44 = .ok (.aload_n 0, 1) := by decide +kernel
theorem dX10_read_45 : decode cX10_read 45 = .ok (.invokevirtual 286, 3) := by decide +kernel
theorem dX10_read_48 : decode cX10_read 48 = .ok (.aload_n 0, 1) := by decide +kernel
theorem dX10_read_49 : decode cX10_read 49 = .ok (.getfield 164, 3) := by decide +kernel
theorem dX10_read_52 : decode cX10_read 52 = .ok (.ifCond .ne 17, 3) := by decide +kernel
theorem dX10_read_55 : decode cX10_read 55 = .ok (.aload_n 0, 1) := by decide +kernel
theorem dX10_read_56 : decode cX10_read 56 = .ok (.getfield 177, 3) := by decide +kernel
theorem dX10_read_59 : decode cX10_read 59 = .ok (.ifCond .eq 10, 3) := by decide +kernel
theorem dX10_read_62 : decode cX10_read 62 = .ok (.aload_n 0, 1) := by decide +kernel
theorem dX10_read_63 : decode cX10_read 63 = .ok (.invokevirtual 286, 3) := by decide +kernel
theorem dX10_read_66 : decode cX10_read 66 = .ok (.goto (-18), 3) := by decide +kernel
theorem dX10_read_69 : decode cX10_read 69 = .ok (.aload_n 0, 1) := by decide +kernel
theorem dX10_read_70 : decode cX10_read 70 = .ok (.getfield 164, 3) := by decide +kernel
theorem dX10_read_73 : decode cX10_read 73 = .ok (.ifCond .ne 7, 3) := by decide +kernel
theorem dX10_read_76 : decode cX10_read 76 = .ok (.aload_n 0, 1) := by decide +kernel
theorem dX10_read_77 : decode cX10_read 77 = .ok (.invokevirtual 289, 3) := by decide +kernel
theorem dX10_read_80 : decode cX10_read 80 = .ok (.iconst 0, 1) := by decide +kernel
theorem dX10_read_81 : decode cX10_read 81 = .ok (.istore_n 1, 1) := by decide +kernel
theorem dX10_read_82 : decode cX10_read 82 = .ok (.iconst 0, 1) := by decide +kernel
theorem dX10_read_83 : decode cX10_read 83 = .ok (.istore_n 2, 1) := by decide +kernel
theorem dX10_read_84 : decode cX10_read 84 = .ok (.iload_n 2, 1) := by decide +kernel
theorem dX10_read_85 : decode cX10_read 85 = .ok (.aload_n 0, 1) := by decide +kernel
theorem dX10_read_86 : decode cX10_read 86 = .ok (.getfield 246, 3) := by decide +kernel
theorem dX10_read_89 : decode cX10_read 89 = .ok (.if_icmp .ge 41, 3) := by decide +kernel
theorem dX10_read_92 : decode cX10_read 92 = .ok (.iload_n 1, 1) := by decide +kernel
theorem dX10_read_93 : decode cX10_read 93 = .ok (.ifCond .ne 25, 3) := by decide +kernel
theorem dX10_read_96 : decode cX10_read 96 = .ok (.aload_n 0, 1) := by decide +kernel
theorem dX10_read_97 : decode cX10_read 97 = .ok (.getfield 47, 3) := by decide +kernel
theorem dX10_read_100 : decode cX10_read 100 = .ok (.iload_n 2, 1) := by decide +kernel
theorem dX10_read_101 : decode cX10_read 101 = .ok (.laload, 1) := by decide +kernel
theorem dX10_read_102 : decode cX10_read 102 = .ok (.ldc2_w 269, 3) := by decide +kernel
theorem dX10_read_105 : decode cX10_read 105 = .ok (.lcmp, 1) := by decide +kernel
theorem dX10_read_106 : decode cX10_read 106 = .ok (.ifCond .ne 16, 3) := by decide +kernel
theorem dX10_read_109 : decode cX10_read 109 = .ok (.aload_n 0, 1) := by decide +kernel
theorem dX10_read_110 : decode cX10_read 110 = .ok (.getfield 50, 3) := by decide +kernel
theorem dX10_read_113 : decode cX10_read 113 = .ok (.iload_n 2, 1) := by decide +kernel
theorem dX10_read_114 : decode cX10_read 114 = .ok (.iaload, 1) := by decide +kernel
theorem dX10_read_115 : decode cX10_read 115 = .ok (.ifCond .ne 7, 3) := by decide +kernel
theorem dX10_read_118 : decode cX10_read 118 = .ok (.iconst 1, 1) := by decide +kernel
theorem dX10_read_119 : decode cX10_read 119 = .ok (.goto 4, 3) := by decide +kernel
theorem dX10_read_122 : decode cX10_read 122 = .ok (.iconst 0, 1) := by decide +kernel
theorem dX10_read_123 : decode cX10_read 123 = .ok (.istore_n 1, 1) := by decide +kernel
theorem dX10_read_124 : decode cX10_read 124 = .ok (.iinc 2 1, 3) := by decide +kernel
theorem dX10_read_127 : decode cX10_read 127 = .ok (.goto (-43), 3) := by decide +kernel
theorem dX10_read_130 : decode cX10_read 130 = .ok (.iload_n 1, 1) := by decide +kernel
theorem dX10_read_131 : decode cX10_read 131 = .ok (.ifCond .ne 13, 3) := by decide +kernel
theorem dX10_read_134 : decode cX10_read 134 = .ok (.aload_n 0, 1) := by decide +kernel
theorem dX10_read_135 : decode cX10_read 135 = .ok (.bipush 6, 2) := by decide +kernel
theorem dX10_read_137 : decode cX10_read 137 = .ok (.aload_n 0, 1) := by decide +kernel
theorem dX10_read_138 : decode cX10_read 138 = .ok (.getfield 157, 3) := by decide +kernel
theorem dX10_read_141 : decode cX10_read 141 = .ok (.invokevirtual 197, 3) := by decide +kernel
theorem dX10_read_144 : decode cX10_read 144 = .ok (.aload_n 0, 1) := by decide +kernel
theorem dX10_read_145 : decode cX10_read 145 = .ok (.iconst 0, 1) := by decide +kernel
theorem dX10_read_146 : decode cX10_read 146 = .ok (.putfield 157, 3) := by decide +kernel
theorem dX10_read_149 : decode cX10_read 149 = .ok (.aload_n 0, 1) := by decide +kernel
theorem dX10_read_150 : decode cX10_read 150 = .ok (.aload_n 0, 1) := by decide +kernel
theorem dX10_read_151 : decode cX10_read 151 = .ok (.getfield 164, 3) := by decide +kernel
theorem dX10_read_154 : decode cX10_read 154 = .ok (.ifCond .ne 7, 3) := by decide +kernel
theorem dX10_read_157 : decode cX10_read 157 = .ok (.iconst 1, 1) := by decide +kernel
theorem dX10_read_158 : decode cX10_read 158 = .ok (.goto 4, 3) := by decide +kernel
theorem dX10_read_161 : decode cX10_read 161 = .ok (.iconst 0, 1) := by decide +kernel
theorem dX10_read_162 : decode cX10_read 162 = .ok (.putfield 292, 3) := by decide +kernel
theorem dX10_read_165 : decode cX10_read 165 = .ok (.aload_n 0, 1) := by decide +kernel
theorem dX10_read_166 : decode cX10_read 166 = .ok (.iconst 0, 1) := by decide +kernel
theorem dX10_read_167 : decode cX10_read 167 = .ok (.putfield 296, 3) := by decide +kernel
theorem dX10_read_170 : decode cX10_read 170 = .ok (.aload_n 0, 1) := by decide +kernel
theorem dX10_read_171 : decode cX10_read 171 = .ok (.iconst (-1), 1) := by decide +kernel
theorem dX10_read_172 : decode cX10_read 172 = .ok (.putfield 299, 3) := by decide +kernel
theorem dX10_read_175 : decode cX10_read 175 = .ok (.aload_n 0, 1) := by decide +kernel
theorem dX10_read_176 : decode cX10_read 176 = .ok (.getfield 292, 3) := by decide +kernel
theorem dX10_read_179 : decode cX10_read 179 = .ok (.ifCond .ne 11, 3) := by decide +kernel
theorem dX10_read_182 : decode cX10_read 182 = .ok (.bipush (-10), 2) := by decide +kernel
theorem dX10_read_184 : decode cX10_read 184 = .ok (.aload_n 0, 1) := by decide +kernel
theorem dX10_read_185 : decode cX10_read 185 = .ok (.getfield 194, 3) := by decide +kernel
theorem dX10_read_188 : decode cX10_read 188 = .ok (.isub, 1) := by decide +kernel
theorem dX10_read_189 : decode cX10_read 189 = .ok (.ireturn, 1) := by decide +kernel
theorem dX10_read_190 : decode cX10_read 190 = .ok (.aload_n 0, 1) := by decide +kernel
theorem dX10_read_191 : decode cX10_read 191 = .ok (.invokevirtual 302, 3) := by decide +kernel
theorem dX10_read_194 : decode cX10_read 194 = .ok (.aload_n 0, 1) := by decide +kernel
theorem dX10_read_195 : decode cX10_read 195 = .ok (.getfield 246, 3) := by decide +kernel
theorem dX10_read_198 : decode cX10_read 198 = .ok (.ireturn, 1) := by decide +kernel
theorem dX10_fault_0 : decode cX10_fault 0 = .ok (.aload_n 0, 1) := by decide +kernel
theorem dX10_fault_1 : decode cX10_fault 1 = .ok (.iconst 0, 1) := by decide +kernel
theorem dX10_fault_2 : decode cX10_fault 2 = .ok (.putfield 153, 3) := by decide +kernel
theorem dX10_fault_5 : decode cX10_fault 5 = .ok (.aload_n 0, 1) := by decide +kernel
theorem dX10_fault_6 : decode cX10_fault 6 = .ok (.getfield 164, 3) := by decide +kernel
theorem dX10_fault_9 : decode cX10_fault 9 = .ok (.ireturn, 1) := by decide +kernel
theorem dX10_followed_0 : decode cX10_followed 0 = .ok (.iload_n 1, 1) := by decide +kernel
theorem dX10_followed_1 : decode cX10_followed 1 = .ok (.istore_n 2, 1) := by decide +kernel
theorem dX10_followed_2 : decode cX10_followed 2 = .ok (.iconst 0, 1) := by decide +kernel
theorem dX10_followed_3 : decode cX10_followed 3 = .ok (.istore_n 3, 1) := by decide +kernel
theorem dX10_followed_4 : decode cX10_followed 4 = .ok (.iload_n 3, 1) := by decide +kernel
theorem dX10_followed_5 : decode cX10_followed 5 = .ok (.sipush 400, 3) := by decide +kernel
theorem dX10_followed_8 : decode cX10_followed 8 = .ok (.if_icmp .gt 27, 3) := by decide +kernel
theorem dX10_followed_11 : decode cX10_followed 11 = .ok (.aload_n 0, 1) := by decide +kernel
theorem dX10_followed_12 : decode cX10_followed 12 = .ok (.getfield 110, 3) := by decide +kernel
theorem dX10_followed_15 : decode cX10_followed 15 = .ok (.iload_n 2, 1) := by decide +kernel
theorem dX10_followed_16 : decode cX10_followed 16 = .ok (.iaload, 1) := by decide +kernel
theorem dX10_followed_17 : decode cX10_followed 17 = .ok (.bipush 6, 2) := by decide +kernel
theorem dX10_followed_19 : decode cX10_followed 19 = .ok (.if_icmp .ne 16, 3) := by decide +kernel
theorem dX10_followed_22 : decode cX10_followed 22 = .ok (.aload_n 0, 1) := by decide +kernel
theorem dX10_followed_23 : decode cX10_followed 23 = .ok (.getfield 113, 3) := by decide +kernel
theorem dX10_followed_26 : decode cX10_followed 26 = .ok (.iload_n 2, 1) := by decide +kernel
theorem dX10_followed_27 : decode cX10_followed 27 = .ok (.iaload, 1) := by decide +kernel
theorem dX10_followed_28 : decode cX10_followed 28 = .ok (.istore_n 2, 1) := by decide +kernel
theorem dX10_followed_29 : decode cX10_followed 29 = .ok (.iinc 3 1, 3) := by decide +kernel
theorem dX10_followed_32 : decode cX10_followed 32 = .ok (.goto (-28), 3) := by decide +kernel
theorem dX10_followed_35 : decode cX10_followed 35 = .ok (.aload_n 0, 1) := by decide +kernel
theorem dX10_followed_36 : decode cX10_followed 36 = .ok (.getfield 110, 3) := by decide +kernel
theorem dX10_followed_39 : decode cX10_followed 39 = .ok (.iload_n 2, 1) := by decide +kernel
theorem dX10_followed_40 : decode cX10_followed 40 = .ok (.iaload, 1) := by decide +kernel
theorem dX10_followed_41 : decode cX10_followed 41 = .ok (.bipush 6, 2) := by decide +kernel
theorem dX10_followed_43 : decode cX10_followed 43 = .ok (.if_icmp .ne 7, 3) := by decide +kernel
theorem dX10_followed_46 : decode cX10_followed 46 = .ok (.iconst (-1), 1) := by decide +kernel
theorem dX10_followed_47 : decode cX10_followed 47 = .ok (.goto 4, 3) := by decide +kernel
theorem dX10_followed_50 : decode cX10_followed 50 = .ok (.iload_n 2, 1) := by decide +kernel
theorem dX10_followed_51 : decode cX10_followed 51 = .ok (.ireturn, 1) := by decide +kernel
theorem dX10_wants_0 : decode cX10_wants 0 = .ok (.iload_n 0, 1) := by decide +kernel
theorem dX10_wants_1 : decode cX10_wants 1 = .ok (.bipush 6, 2) := by decide +kernel
theorem dX10_wants_3 : decode cX10_wants 3 = .ok (.if_icmp .ne 7, 3) := by decide +kernel
theorem dX10_wants_6 : decode cX10_wants 6 = .ok (.iconst 3, 1) := by decide +kernel
theorem dX10_wants_7 : decode cX10_wants 7 = .ok (.goto 20, 3) := by decide +kernel
theorem dX10_wants_10 : decode cX10_wants 10 = .ok (.iload_n 0, 1) := by decide +kernel
theorem dX10_wants_11 : decode cX10_wants 11 = .ok (.bipush 8, 2) := by decide +kernel
theorem dX10_wants_13 : decode cX10_wants 13 = .ok (.if_icmp .le 13, 3) := by decide +kernel
theorem dX10_wants_16 : decode cX10_wants 16 = .ok (.iload_n 0, 1) := by decide +kernel
theorem dX10_wants_17 : decode cX10_wants 17 = .ok (.bipush 12, 2) := by decide +kernel
theorem dX10_wants_19 : decode cX10_wants 19 = .ok (.if_icmp .ge 7, 3) := by decide +kernel
theorem dX10_wants_22 : decode cX10_wants 22 = .ok (.iconst 1, 1) := by decide +kernel
theorem dX10_wants_23 : decode cX10_wants 23 = .ok (.goto 4, 3) := by decide +kernel
theorem dX10_wants_26 : decode cX10_wants 26 = .ok (.iconst 2, 1) := by decide +kernel
theorem dX10_wants_27 : decode cX10_wants 27 = .ok (.ireturn, 1) := by decide +kernel
theorem dX10_isValue_0 : decode cX10_isValue 0 = .ok (.iload_n 1, 1) := by decide +kernel
theorem dX10_isValue_1 : decode cX10_isValue 1 = .ok (.istore_n 2, 1) := by decide +kernel
theorem dX10_isValue_2 : decode cX10_isValue 2 = .ok (.iconst 0, 1) := by decide +kernel
theorem dX10_isValue_3 : decode cX10_isValue 3 = .ok (.istore_n 3, 1) := by decide +kernel
theorem dX10_isValue_4 : decode cX10_isValue 4 = .ok (.iload_n 2, 1) := by decide +kernel
theorem dX10_isValue_5 : decode cX10_isValue 5 = .ok (.ifCond .lt 36, 3) := by decide +kernel
theorem dX10_isValue_8 : decode cX10_isValue 8 = .ok (.aload_n 0, 1) := by decide +kernel
theorem dX10_isValue_9 : decode cX10_isValue 9 = .ok (.getfield 110, 3) := by decide +kernel
theorem dX10_isValue_12 : decode cX10_isValue 12 = .ok (.iload_n 2, 1) := by decide +kernel
theorem dX10_isValue_13 : decode cX10_isValue 13 = .ok (.iaload, 1) := by decide +kernel
theorem dX10_isValue_14 : decode cX10_isValue 14 = .ok (.iconst 1, 1) := by decide +kernel
theorem dX10_isValue_15 : decode cX10_isValue 15 = .ok (.if_icmp .ne 26, 3) := by decide +kernel
theorem dX10_isValue_18 : decode cX10_isValue 18 = .ok (.iload_n 3, 1) := by decide +kernel
theorem dX10_isValue_19 : decode cX10_isValue 19 = .ok (.bipush 10, 2) := by decide +kernel
theorem dX10_isValue_21 : decode cX10_isValue 21 = .ok (.if_icmp .ge 20, 3) := by decide +kernel
theorem dX10_isValue_24 : decode cX10_isValue 24 = .ok (.iinc 3 1, 3) := by decide +kernel
theorem dX10_isValue_27 : decode cX10_isValue 27 = .ok (.aload_n 0, 1) := by decide +kernel
theorem dX10_isValue_28 : decode cX10_isValue 28 = .ok (.aload_n 0, 1) := by decide +kernel
theorem dX10_isValue_29 : decode cX10_isValue 29 = .ok (.getfield 113, 3) := by decide +kernel
theorem dX10_isValue_32 : decode cX10_isValue 32 = .ok (.iload_n 2, 1) := by decide +kernel
theorem dX10_isValue_33 : decode cX10_isValue 33 = .ok (.iaload, 1) := by decide +kernel
theorem dX10_isValue_34 : decode cX10_isValue 34 = .ok (.invokevirtual 305, 3) := by decide +kernel
theorem dX10_isValue_37 : decode cX10_isValue 37 = .ok (.istore_n 2, 1) := by decide +kernel
theorem dX10_isValue_38 : decode cX10_isValue 38 = .ok (.goto (-34), 3) := by decide +kernel
theorem dX10_isValue_41 : decode cX10_isValue 41 = .ok (.iload_n 2, 1) := by decide +kernel
theorem dX10_isValue_42 : decode cX10_isValue 42 = .ok (.ifCond .lt 13, 3) := by decide +kernel
theorem dX10_isValue_45 : decode cX10_isValue 45 = .ok (.aload_n 0, 1) := by decide +kernel
theorem dX10_isValue_46 : decode cX10_isValue 46 = .ok (.getfield 110, 3) := by decide +kernel
theorem dX10_isValue_49 : decode cX10_isValue 49 = .ok (.iload_n 2, 1) := by decide +kernel
theorem dX10_isValue_50 : decode cX10_isValue 50 = .ok (.iaload, 1) := by decide +kernel
theorem dX10_isValue_51 : decode cX10_isValue 51 = .ok (.iconst 1, 1) := by decide +kernel
theorem dX10_isValue_52 : decode cX10_isValue 52 = .ok (.if_icmp .ne 5, 3) := by decide +kernel
theorem dX10_isValue_55 : decode cX10_isValue 55 = .ok (.iconst 0, 1) := by decide +kernel
theorem dX10_isValue_56 : decode cX10_isValue 56 = .ok (.ireturn, 1) := by decide +kernel
theorem dX10_isValue_57 : decode cX10_isValue 57 = .ok (.aload_n 0, 1) := by decide +kernel
theorem dX10_isValue_58 : decode cX10_isValue 58 = .ok (.getfield 110, 3) := by decide +kernel
theorem dX10_isValue_61 : decode cX10_isValue 61 = .ok (.iload_n 2, 1) := by decide +kernel
theorem dX10_isValue_62 : decode cX10_isValue 62 = .ok (.iaload, 1) := by decide +kernel
theorem dX10_isValue_63 : decode cX10_isValue 63 = .ok (.iconst 2, 1) := by decide +kernel
theorem dX10_isValue_64 : decode cX10_isValue 64 = .ok (.if_icmp .ne 24, 3) := by decide +kernel
theorem dX10_isValue_67 : decode cX10_isValue 67 = .ok (.iload_n 3, 1) := by decide +kernel
theorem dX10_isValue_68 : decode cX10_isValue 68 = .ok (.aload_n 0, 1) := by decide +kernel
theorem dX10_isValue_69 : decode cX10_isValue 69 = .ok (.getfield 50, 3) := by decide +kernel
theorem dX10_isValue_72 : decode cX10_isValue 72 = .ok (.aload_n 0, 1) := by decide +kernel
theorem dX10_isValue_73 : decode cX10_isValue 73 = .ok (.getfield 113, 3) := by decide +kernel
theorem dX10_isValue_76 : decode cX10_isValue 76 = .ok (.iload_n 2, 1) := by decide +kernel
theorem dX10_isValue_77 : decode cX10_isValue 77 = .ok (.iaload, 1) := by decide +kernel
theorem dX10_isValue_78 : decode cX10_isValue 78 = .ok (.iaload, 1) := by decide +kernel
theorem dX10_isValue_79 : decode cX10_isValue 79 = .ok (.if_icmp .ge 7, 3) := by decide +kernel
theorem dX10_isValue_82 : decode cX10_isValue 82 = .ok (.iconst 1, 1) := by decide +kernel
theorem dX10_isValue_83 : decode cX10_isValue 83 = .ok (.goto 4, 3) := by decide +kernel
theorem dX10_isValue_86 : decode cX10_isValue 86 = .ok (.iconst 0, 1) := by decide +kernel
theorem dX10_isValue_87 : decode cX10_isValue 87 = .ok (.ireturn, 1) := by decide +kernel
theorem dX10_isValue_88 : decode cX10_isValue 88 = .ok (.aload_n 0, 1) := by decide +kernel
theorem dX10_isValue_89 : decode cX10_isValue 89 = .ok (.getfield 110, 3) := by decide +kernel
theorem dX10_isValue_92 : decode cX10_isValue 92 = .ok (.iload_n 2, 1) := by decide +kernel
theorem dX10_isValue_93 : decode cX10_isValue 93 = .ok (.iaload, 1) := by decide +kernel
theorem dX10_isValue_94 : decode cX10_isValue 94 = .ok (.iconst 3, 1) := by decide +kernel
theorem dX10_isValue_95 : decode cX10_isValue 95 = .ok (.if_icmp .ne 24, 3) := by decide +kernel
theorem dX10_isValue_98 : decode cX10_isValue 98 = .ok (.iload_n 3, 1) := by decide +kernel
theorem dX10_isValue_99 : decode cX10_isValue 99 = .ok (.aload_n 0, 1) := by decide +kernel
theorem dX10_isValue_100 : decode cX10_isValue 100 = .ok (.getfield 113, 3) := by decide +kernel
theorem dX10_isValue_103 : decode cX10_isValue 103 = .ok (.iload_n 2, 1) := by decide +kernel
theorem dX10_isValue_104 : decode cX10_isValue 104 = .ok (.iaload, 1) := by decide +kernel
theorem dX10_isValue_105 : decode cX10_isValue 105 = .ok (.invokestatic 308, 3) := by decide +kernel
theorem dX10_isValue_108 : decode cX10_isValue 108 = .ok (.if_icmp .ge 7, 3) := by decide +kernel
theorem dX10_isValue_111 : decode cX10_isValue 111 = .ok (.iconst 1, 1) := by decide +kernel
theorem dX10_isValue_112 : decode cX10_isValue 112 = .ok (.goto 16, 3) := by decide +kernel
theorem dX10_isValue_115 : decode cX10_isValue 115 = .ok (.iconst 0, 1) := by decide +kernel
theorem dX10_isValue_116 : decode cX10_isValue 116 = .ok (.goto 12, 3) := by decide +kernel
theorem dX10_isValue_119 : decode cX10_isValue 119 = .ok (.iload_n 3, 1) := by decide +kernel
theorem dX10_isValue_120 : decode cX10_isValue 120 = .ok (.ifCond .ne 7, 3) := by decide +kernel
theorem dX10_isValue_123 : decode cX10_isValue 123 = .ok (.iconst 1, 1) := by decide +kernel
theorem dX10_isValue_124 : decode cX10_isValue 124 = .ok (.goto 4, 3) := by decide +kernel
theorem dX10_isValue_127 : decode cX10_isValue 127 = .ok (.iconst 0, 1) := by decide +kernel
theorem dX10_isValue_128 : decode cX10_isValue 128 = .ok (.ireturn, 1) := by decide +kernel
theorem dX10_size_0 : decode cX10_size 0 = .ok (.aload_n 0, 1) := by decide +kernel
theorem dX10_size_1 : decode cX10_size 1 = .ok (.getfield 271, 3) := by decide +kernel
theorem dX10_size_4 : decode cX10_size 4 = .ok (.aload_n 0, 1) := by decide +kernel
theorem dX10_size_5 : decode cX10_size 5 = .ok (.getfield 131, 3) := by decide +kernel
theorem dX10_size_8 : decode cX10_size 8 = .ok (.aload_n 0, 1) := by decide +kernel
theorem dX10_size_9 : decode cX10_size 9 = .ok (.getfield 274, 3) := by decide +kernel
theorem dX10_size_12 : decode cX10_size 12 = .ok (.iconst 1, 1) := by decide +kernel
theorem dX10_size_13 : decode cX10_size 13 = .ok (.isub, 1) := by decide +kernel
theorem dX10_size_14 : decode cX10_size 14 = .ok (.iaload, 1) := by decide +kernel
theorem dX10_size_15 : decode cX10_size 15 = .ok (.isub, 1) := by decide +kernel
theorem dX10_size_16 : decode cX10_size 16 = .ok (.ireturn, 1) := by decide +kernel
theorem dX10_topNode_0 : decode cX10_topNode 0 = .ok (.aload_n 0, 1) := by decide +kernel
theorem dX10_topNode_1 : decode cX10_topNode 1 = .ok (.getfield 128, 3) := by decide +kernel
theorem dX10_topNode_4 : decode cX10_topNode 4 = .ok (.aload_n 0, 1) := by decide +kernel
theorem dX10_topNode_5 : decode cX10_topNode 5 = .ok (.getfield 271, 3) := by decide +kernel
theorem dX10_topNode_8 : decode cX10_topNode 8 = .ok (.iconst 1, 1) := by decide +kernel
theorem dX10_topNode_9 : decode cX10_topNode 9 = .ok (.isub, 1) := by decide +kernel
theorem dX10_topNode_10 : decode cX10_topNode 10 = .ok (.iaload, 1) := by decide +kernel
theorem dX10_topNode_11 : decode cX10_topNode 11 = .ok (.ireturn, 1) := by decide +kernel
theorem dX10_thing_0 : decode cX10_thing 0 = .ok (.aload_n 0, 1) := by decide +kernel
theorem dX10_thing_1 : decode cX10_thing 1 = .ok (.getfield 116, 3) := by decide +kernel
theorem dX10_thing_4 : decode cX10_thing 4 = .ok (.aload_n 0, 1) := by decide +kernel
theorem dX10_thing_5 : decode cX10_thing 5 = .ok (.getfield 128, 3) := by decide +kernel
theorem dX10_thing_8 : decode cX10_thing 8 = .ok (.aload_n 0, 1) := by decide +kernel
theorem dX10_thing_9 : decode cX10_thing 9 = .ok (.getfield 271, 3) := by decide +kernel
theorem dX10_thing_12 : decode cX10_thing 12 = .ok (.iconst 1, 1) := by decide +kernel
theorem dX10_thing_13 : decode cX10_thing 13 = .ok (.isub, 1) := by decide +kernel
theorem dX10_thing_14 : decode cX10_thing 14 = .ok (.iload_n 1, 1) := by decide +kernel
theorem dX10_thing_15 : decode cX10_thing 15 = .ok (.isub, 1) := by decide +kernel
theorem dX10_thing_16 : decode cX10_thing 16 = .ok (.iaload, 1) := by decide +kernel
theorem dX10_thing_17 : decode cX10_thing 17 = .ok (.iaload, 1) := by decide +kernel
theorem dX10_thing_18 : decode cX10_thing 18 = .ok (.ireturn, 1) := by decide +kernel
theorem dX10_look_0 : decode cX10_look 0 = .ok (.aload_n 0, 1) := by decide +kernel
theorem dX10_look_1 : decode cX10_look 1 = .ok (.invokevirtual 311, 3) := by decide +kernel
theorem dX10_look_4 : decode cX10_look 4 = .ok (.istore_n 1, 1) := by decide +kernel
theorem dX10_look_5 : decode cX10_look 5 = .ok (.aload_n 0, 1) := by decide +kernel
theorem dX10_look_6 : decode cX10_look 6 = .ok (.invokevirtual 315, 3) := by decide +kernel
theorem dX10_look_9 : decode cX10_look 9 = .ok (.iconst 1, 1) := by decide +kernel
theorem dX10_look_10 : decode cX10_look 10 = .ok (.isub, 1) := by decide +kernel
theorem dX10_look_11 : decode cX10_look 11 = .ok (.istore_n 2, 1) := by decide +kernel
theorem dX10_look_12 : decode cX10_look 12 = .ok (.aload_n 0, 1) := by decide +kernel
theorem dX10_look_13 : decode cX10_look 13 = .ok (.iconst (-1), 1) := by decide +kernel
theorem dX10_look_14 : decode cX10_look 14 = .ok (.putfield 318, 3) := by decide +kernel
theorem dX10_look_17 : decode cX10_look 17 = .ok (.aload_n 0, 1) := by decide +kernel
theorem dX10_look_18 : decode cX10_look 18 = .ok (.iconst 0, 1) := by decide +kernel
theorem dX10_look_19 : decode cX10_look 19 = .ok (.putfield 321, 3) := by decide +kernel
theorem dX10_look_22 : decode cX10_look 22 = .ok (.aload_n 0, 1) := by decide +kernel
theorem dX10_look_23 : decode cX10_look 23 = .ok (.getfield 110, 3) := by decide +kernel
theorem dX10_look_26 : decode cX10_look 26 = .ok (.iload_n 1, 1) := by decide +kernel
theorem dX10_look_27 : decode cX10_look 27 = .ok (.iaload, 1) := by decide +kernel
theorem dX10_look_28 : decode cX10_look 28 = .ok (.tableswitch 119 1 6 #[42, 44, 78, 119, 119, 40], 40) := by decide +kernel
theorem dX10_look_68 : decode cX10_look 68 = .ok (.iconst 0, 1) := by decide +kernel
theorem dX10_look_69 : decode cX10_look 69 = .ok (.ireturn, 1) := by decide +kernel
theorem dX10_look_70 : decode cX10_look 70 = .ok (.iconst 1, 1) := by decide +kernel
theorem dX10_look_71 : decode cX10_look 71 = .ok (.ireturn, 1) := by decide +kernel
theorem dX10_look_72 : decode cX10_look 72 = .ok (.iload_n 2, 1) := by decide +kernel
theorem dX10_look_73 : decode cX10_look 73 = .ok (.aload_n 0, 1) := by decide +kernel
theorem dX10_look_74 : decode cX10_look 74 = .ok (.getfield 50, 3) := by decide +kernel
theorem dX10_look_77 : decode cX10_look 77 = .ok (.aload_n 0, 1) := by decide +kernel
theorem dX10_look_78 : decode cX10_look 78 = .ok (.getfield 113, 3) := by decide +kernel
theorem dX10_look_81 : decode cX10_look 81 = .ok (.iload_n 1, 1) := by decide +kernel
theorem dX10_look_82 : decode cX10_look 82 = .ok (.iaload, 1) := by decide +kernel
theorem dX10_look_83 : decode cX10_look 83 = .ok (.iaload, 1) := by decide +kernel
theorem dX10_look_84 : decode cX10_look 84 = .ok (.if_icmp .lt 7, 3) := by decide +kernel
theorem dX10_look_87 : decode cX10_look 87 = .ok (.iconst 2, 1) := by decide +kernel
theorem dX10_look_88 : decode cX10_look 88 = .ok (.goto 17, 3) := by decide +kernel
theorem dX10_look_91 : decode cX10_look 91 = .ok (.aload_n 0, 1) := by decide +kernel
theorem dX10_look_92 : decode cX10_look 92 = .ok (.getfield 274, 3) := by decide +kernel
theorem dX10_look_95 : decode cX10_look 95 = .ok (.iconst 1, 1) := by decide +kernel
theorem dX10_look_96 : decode cX10_look 96 = .ok (.if_icmp .le 7, 3) := by decide +kernel
theorem dX10_look_99 : decode cX10_look 99 = .ok (.iconst 5, 1) := by decide +kernel
theorem dX10_look_100 : decode cX10_look 100 = .ok (.goto 5, 3) := by decide +kernel
theorem dX10_look_103 : decode cX10_look 103 = .ok (.bipush 6, 2) := by decide +kernel
theorem dX10_look_105 : decode cX10_look 105 = .ok (.ireturn, 1) := by decide +kernel
theorem dX10_look_106 : decode cX10_look 106 = .ok (.iload_n 2, 1) := by decide +kernel
theorem dX10_look_107 : decode cX10_look 107 = .ok (.aload_n 0, 1) := by decide +kernel
theorem dX10_look_108 : decode cX10_look 108 = .ok (.getfield 113, 3) := by decide +kernel
theorem dX10_look_111 : decode cX10_look 111 = .ok (.iload_n 1, 1) := by decide +kernel
theorem dX10_look_112 : decode cX10_look 112 = .ok (.iaload, 1) := by decide +kernel
theorem dX10_look_113 : decode cX10_look 113 = .ok (.invokestatic 308, 3) := by decide +kernel
theorem dX10_look_116 : decode cX10_look 116 = .ok (.if_icmp .lt 16, 3) := by decide +kernel
theorem dX10_look_119 : decode cX10_look 119 = .ok (.aload_n 0, 1) := by decide +kernel
theorem dX10_look_120 : decode cX10_look 120 = .ok (.aload_n 0, 1) := by decide +kernel
theorem dX10_look_121 : decode cX10_look 121 = .ok (.getfield 113, 3) := by decide +kernel
theorem dX10_look_124 : decode cX10_look 124 = .ok (.iload_n 1, 1) := by decide +kernel
theorem dX10_look_125 : decode cX10_look 125 = .ok (.iaload, 1) := by decide +kernel
theorem dX10_look_126 : decode cX10_look 126 = .ok (.invokevirtual 324, 3) := by decide +kernel
theorem dX10_look_129 : decode cX10_look 129 = .ok (.goto 17, 3) := by decide +kernel
theorem dX10_look_132 : decode cX10_look 132 = .ok (.aload_n 0, 1) := by decide +kernel
theorem dX10_look_133 : decode cX10_look 133 = .ok (.getfield 274, 3) := by decide +kernel
theorem dX10_look_136 : decode cX10_look 136 = .ok (.iconst 1, 1) := by decide +kernel
theorem dX10_look_137 : decode cX10_look 137 = .ok (.if_icmp .le 7, 3) := by decide +kernel
theorem dX10_look_140 : decode cX10_look 140 = .ok (.iconst 5, 1) := by decide +kernel
theorem dX10_look_141 : decode cX10_look 141 = .ok (.goto 5, 3) := by decide +kernel
theorem dX10_look_144 : decode cX10_look 144 = .ok (.bipush 6, 2) := by decide +kernel
theorem dX10_look_146 : decode cX10_look 146 = .ok (.ireturn, 1) := by decide +kernel
theorem dX10_look_147 : decode cX10_look 147 = .ok (.iload_n 2, 1) := by decide +kernel
theorem dX10_look_148 : decode cX10_look 148 = .ok (.ifCond .le 11, 3) := by decide +kernel
theorem dX10_look_151 : decode cX10_look 151 = .ok (.aload_n 0, 1) := by decide +kernel
theorem dX10_look_152 : decode cX10_look 152 = .ok (.iconst 1, 1) := by decide +kernel
theorem dX10_look_153 : decode cX10_look 153 = .ok (.putfield 321, 3) := by decide +kernel
theorem dX10_look_156 : decode cX10_look 156 = .ok (.bipush 7, 2) := by decide +kernel
theorem dX10_look_158 : decode cX10_look 158 = .ok (.ireturn, 1) := by decide +kernel
theorem dX10_look_159 : decode cX10_look 159 = .ok (.aload_n 0, 1) := by decide +kernel
theorem dX10_look_160 : decode cX10_look 160 = .ok (.getfield 274, 3) := by decide +kernel
theorem dX10_look_163 : decode cX10_look 163 = .ok (.iconst 1, 1) := by decide +kernel
theorem dX10_look_164 : decode cX10_look 164 = .ok (.if_icmp .le 7, 3) := by decide +kernel
theorem dX10_look_167 : decode cX10_look 167 = .ok (.iconst 5, 1) := by decide +kernel
theorem dX10_look_168 : decode cX10_look 168 = .ok (.goto 5, 3) := by decide +kernel
theorem dX10_look_171 : decode cX10_look 171 = .ok (.bipush 6, 2) := by decide +kernel
theorem dX10_look_173 : decode cX10_look 173 = .ok (.ireturn, 1) := by decide +kernel
theorem dX10_lookPrimitive_0 : decode cX10_lookPrimitive 0 = .ok (.iload_n 1, 1) := by decide +kernel
theorem dX10_lookPrimitive_1 : decode cX10_lookPrimitive 1 = .ok (.bipush 7, 2) := by decide +kernel
theorem dX10_lookPrimitive_3 : decode cX10_lookPrimitive 3 = .ok (.if_icmp .ne 5, 3) := by decide +kernel
theorem dX10_lookPrimitive_6 : decode cX10_lookPrimitive 6 = .ok (.iconst 4, 1) := by decide +kernel
theorem dX10_lookPrimitive_7 : decode cX10_lookPrimitive 7 = .ok (.ireturn, 1) := by decide +kernel
theorem dX10_lookPrimitive_8 : decode cX10_lookPrimitive 8 = .ok (.iload_n 1, 1) := by decide +kernel
theorem dX10_lookPrimitive_9 : decode cX10_lookPrimitive 9 = .ok (.bipush 6, 2) := by decide +kernel
theorem dX10_lookPrimitive_11 : decode cX10_lookPrimitive 11 = .ok (.if_icmp .ge 7, 3) := by decide +kernel
theorem dX10_lookPrimitive_14 : decode cX10_lookPrimitive 14 = .ok (.iconst 2, 1) := by decide +kernel
theorem dX10_lookPrimitive_15 : decode cX10_lookPrimitive 15 = .ok (.goto 4, 3) := by decide +kernel
theorem dX10_lookPrimitive_18 : decode cX10_lookPrimitive 18 = .ok (.iconst 1, 1) := by decide +kernel
theorem dX10_lookPrimitive_19 : decode cX10_lookPrimitive 19 = .ok (.istore_n 2, 1) := by decide +kernel
theorem dX10_lookPrimitive_20 : decode cX10_lookPrimitive 20 = .ok (.iconst 1, 1) := by decide +kernel
theorem dX10_lookPrimitive_21 : decode cX10_lookPrimitive 21 = .ok (.istore_n 3, 1) := by decide +kernel
theorem dX10_lookPrimitive_22 : decode cX10_lookPrimitive 22 = .ok (.iload_n 3, 1) := by decide +kernel
theorem dX10_lookPrimitive_23 : decode cX10_lookPrimitive 23 = .ok (.iload_n 2, 1) := by decide +kernel
theorem dX10_lookPrimitive_24 : decode cX10_lookPrimitive 24 = .ok (.if_icmp .gt 181, 3) := by decide +kernel
theorem dX10_lookPrimitive_27 : decode cX10_lookPrimitive 27 = .ok (.aload_n 0, 1) := by decide +kernel
theorem dX10_lookPrimitive_28 : decode cX10_lookPrimitive 28 = .ok (.aload_n 0, 1) := by decide +kernel
theorem dX10_lookPrimitive_29 : decode cX10_lookPrimitive 29 = .ok (.iload_n 3, 1) := by decide +kernel
theorem dX10_lookPrimitive_30 : decode cX10_lookPrimitive 30 = .ok (.invokevirtual 327, 3) := by decide +kernel
theorem dX10_lookPrimitive_33 : decode cX10_lookPrimitive 33 = .ok (.invokevirtual 305, 3) := by decide +kernel
theorem dX10_lookPrimitive_36 : decode cX10_lookPrimitive 36 = .ok (.istore 4, 2) := by decide +kernel
theorem dX10_lookPrimitive_38 : decode cX10_lookPrimitive 38 = .ok (.iload 4, 2) := by decide +kernel
theorem dX10_lookPrimitive_40 : decode cX10_lookPrimitive 40 = .ok (.ifCond .ge 11, 3) := by decide +kernel
theorem dX10_lookPrimitive_43 : decode cX10_lookPrimitive 43 = .ok (.aload_n 0, 1) := by decide +kernel
theorem dX10_lookPrimitive_44 : decode cX10_lookPrimitive 44 = .ok (.iconst 5, 1) := by decide +kernel
theorem dX10_lookPrimitive_45 : decode cX10_lookPrimitive 45 = .ok (.putfield 321, 3) := by decide +kernel
theorem dX10_lookPrimitive_48 : decode cX10_lookPrimitive 48 = .ok (.bipush 7, 2) := by decide +kernel
theorem dX10_lookPrimitive_50 : decode cX10_lookPrimitive 50 = .ok (.ireturn, 1) := by decide +kernel
theorem dX10_lookPrimitive_51 : decode cX10_lookPrimitive 51 = .ok (.aload_n 0, 1) := by decide +kernel
theorem dX10_lookPrimitive_52 : decode cX10_lookPrimitive 52 = .ok (.iload 4, 2) := by decide +kernel
theorem dX10_lookPrimitive_54 : decode cX10_lookPrimitive 54 = .ok (.invokevirtual 330, 3) := by decide +kernel
theorem dX10_lookPrimitive_57 : decode cX10_lookPrimitive 57 = .ok (.ifCond .ne 70, 3) := by decide +kernel
theorem dX10_lookPrimitive_60 : decode cX10_lookPrimitive 60 = .ok (.iconst 0, 1) := by decide +kernel
theorem dX10_lookPrimitive_61 : decode cX10_lookPrimitive 61 = .ok (.istore 5, 2) := by decide +kernel
theorem dX10_lookPrimitive_63 : decode cX10_lookPrimitive 63 = .ok (.iload 5, 2) := by decide +kernel
theorem dX10_lookPrimitive_65 : decode cX10_lookPrimitive 65 = .ok (.aload_n 0, 1) := by decide +kernel
theorem dX10_lookPrimitive_66 : decode cX10_lookPrimitive 66 = .ok (.getfield 274, 3) := by decide +kernel
theorem dX10_lookPrimitive_69 : decode cX10_lookPrimitive 69 = .ok (.if_icmp .ge 38, 3) := by decide +kernel
theorem dX10_lookPrimitive_72 : decode cX10_lookPrimitive 72 = .ok (.aload_n 0, 1) := by decide +kernel
theorem dX10_lookPrimitive_73 : decode cX10_lookPrimitive 73 = .ok (.aload_n 0, 1) := by decide +kernel
theorem dX10_lookPrimitive_74 : decode cX10_lookPrimitive 74 = .ok (.getfield 128, 3) := by decide +kernel
theorem dX10_lookPrimitive_77 : decode cX10_lookPrimitive 77 = .ok (.aload_n 0, 1) := by decide +kernel
theorem dX10_lookPrimitive_78 : decode cX10_lookPrimitive 78 = .ok (.getfield 131, 3) := by decide +kernel
theorem dX10_lookPrimitive_81 : decode cX10_lookPrimitive 81 = .ok (.iload 5, 2) := by decide +kernel
theorem dX10_lookPrimitive_83 : decode cX10_lookPrimitive 83 = .ok (.iaload, 1) := by decide +kernel
theorem dX10_lookPrimitive_84 : decode cX10_lookPrimitive 84 = .ok (.iaload, 1) := by decide +kernel
theorem dX10_lookPrimitive_85 : decode cX10_lookPrimitive 85 = .ok (.iload 4, 2) := by decide +kernel
theorem dX10_lookPrimitive_87 : decode cX10_lookPrimitive 87 = .ok (.if_icmp .ne 7, 3) := by decide +kernel
theorem dX10_lookPrimitive_90 : decode cX10_lookPrimitive 90 = .ok (.iconst 5, 1) := by decide +kernel
theorem dX10_lookPrimitive_91 : decode cX10_lookPrimitive 91 = .ok (.goto 7, 3) := by decide +kernel
theorem dX10_lookPrimitive_94 : decode cX10_lookPrimitive 94 = .ok (.aload_n 0, 1) := by decide +kernel
theorem dX10_lookPrimitive_95 : decode cX10_lookPrimitive 95 = .ok (.getfield 321, 3) := by decide +kernel
theorem dX10_lookPrimitive_98 : decode cX10_lookPrimitive 98 = .ok (.putfield 321, 3) := by decide +kernel
theorem dX10_lookPrimitive_101 : decode cX10_lookPrimitive 101 = .ok (.iinc 5 1, 3) := by decide +kernel
theorem dX10_lookPrimitive_104 : decode cX10_lookPrimitive 104 = .ok (.goto (-41), 3) := by decide +kernel
theorem dX10_lookPrimitive_107 : decode cX10_lookPrimitive 107 = .ok (.aload_n 0, 1) := by decide +kernel
theorem dX10_lookPrimitive_108 : decode cX10_lookPrimitive 108 = .ok (.iload 4, 2) := by decide +kernel
theorem dX10_lookPrimitive_110 : decode cX10_lookPrimitive 110 = .ok (.putfield 318, 3) := by decide +kernel
theorem dX10_lookPrimitive_113 : decode cX10_lookPrimitive 113 = .ok (.aload_n 0, 1) := by decide +kernel
theorem dX10_lookPrimitive_114 : decode cX10_lookPrimitive 114 = .ok (.getfield 321, 3) := by decide +kernel
theorem dX10_lookPrimitive_117 : decode cX10_lookPrimitive 117 = .ok (.ifCond .le 8, 3) := by decide +kernel
theorem dX10_lookPrimitive_120 : decode cX10_lookPrimitive 120 = .ok (.bipush 7, 2) := by decide +kernel
theorem dX10_lookPrimitive_122 : decode cX10_lookPrimitive 122 = .ok (.goto 4, 3) := by decide +kernel
theorem dX10_lookPrimitive_125 : decode cX10_lookPrimitive 125 = .ok (.iconst 3, 1) := by decide +kernel
theorem dX10_lookPrimitive_126 : decode cX10_lookPrimitive 126 = .ok (.ireturn, 1) := by decide +kernel
theorem dX10_lookPrimitive_127 : decode cX10_lookPrimitive 127 = .ok (.iload_n 1, 1) := by decide +kernel
theorem dX10_lookPrimitive_128 : decode cX10_lookPrimitive 128 = .ok (.bipush 7, 2) := by decide +kernel
theorem dX10_lookPrimitive_130 : decode cX10_lookPrimitive 130 = .ok (.if_icmp .ge 21, 3) := by decide +kernel
theorem dX10_lookPrimitive_133 : decode cX10_lookPrimitive 133 = .ok (.aload_n 0, 1) := by decide +kernel
theorem dX10_lookPrimitive_134 : decode cX10_lookPrimitive 134 = .ok (.getfield 110, 3) := by decide +kernel
theorem dX10_lookPrimitive_137 : decode cX10_lookPrimitive 137 = .ok (.iload 4, 2) := by decide +kernel
theorem dX10_lookPrimitive_139 : decode cX10_lookPrimitive 139 = .ok (.iaload, 1) := by decide +kernel
theorem dX10_lookPrimitive_140 : decode cX10_lookPrimitive 140 = .ok (.ifCond .ne 7, 3) := by decide +kernel
theorem dX10_lookPrimitive_143 : decode cX10_lookPrimitive 143 = .ok (.iconst 1, 1) := by decide +kernel
theorem dX10_lookPrimitive_144 : decode cX10_lookPrimitive 144 = .ok (.goto 40, 3) := by decide +kernel
theorem dX10_lookPrimitive_147 : decode cX10_lookPrimitive 147 = .ok (.iconst 0, 1) := by decide +kernel
theorem dX10_lookPrimitive_148 : decode cX10_lookPrimitive 148 = .ok (.goto 36, 3) := by decide +kernel
theorem dX10_lookPrimitive_151 : decode cX10_lookPrimitive 151 = .ok (.iload_n 1, 1) := by decide +kernel
theorem dX10_lookPrimitive_152 : decode cX10_lookPrimitive 152 = .ok (.bipush 12, 2) := by decide +kernel
theorem dX10_lookPrimitive_154 : decode cX10_lookPrimitive 154 = .ok (.if_icmp .eq 25, 3) := by decide +kernel
theorem dX10_lookPrimitive_157 : decode cX10_lookPrimitive 157 = .ok (.aload_n 0, 1) := by decide +kernel
theorem dX10_lookPrimitive_158 : decode cX10_lookPrimitive 158 = .ok (.getfield 110, 3) := by decide +kernel
theorem dX10_lookPrimitive_161 : decode cX10_lookPrimitive 161 = .ok (.iload 4, 2) := by decide +kernel
theorem dX10_lookPrimitive_163 : decode cX10_lookPrimitive 163 = .ok (.iaload, 1) := by decide +kernel
theorem dX10_lookPrimitive_164 : decode cX10_lookPrimitive 164 = .ok (.iconst 4, 1) := by decide +kernel
theorem dX10_lookPrimitive_165 : decode cX10_lookPrimitive 165 = .ok (.if_icmp .eq 14, 3) := by decide +kernel
theorem dX10_lookPrimitive_168 : decode cX10_lookPrimitive 168 = .ok (.aload_n 0, 1) := by decide +kernel
theorem dX10_lookPrimitive_169 : decode cX10_lookPrimitive 169 = .ok (.getfield 110, 3) := by decide +kernel
theorem dX10_lookPrimitive_172 : decode cX10_lookPrimitive 172 = .ok (.iload 4, 2) := by decide +kernel
theorem dX10_lookPrimitive_174 : decode cX10_lookPrimitive 174 = .ok (.iaload, 1) := by decide +kernel
theorem dX10_lookPrimitive_175 : decode cX10_lookPrimitive 175 = .ok (.iconst 5, 1) := by decide +kernel
theorem dX10_lookPrimitive_176 : decode cX10_lookPrimitive 176 = .ok (.if_icmp .ne 7, 3) := by decide +kernel
theorem dX10_lookPrimitive_179 : decode cX10_lookPrimitive 179 = .ok (.iconst 1, 1) := by decide +kernel
theorem dX10_lookPrimitive_180 : decode cX10_lookPrimitive 180 = .ok (.goto 4, 3) := by decide +kernel
theorem dX10_lookPrimitive_183 : decode cX10_lookPrimitive 183 = .ok (.iconst 0, 1) := by decide +kernel
theorem dX10_lookPrimitive_184 : decode cX10_lookPrimitive 184 = .ok (.istore 5, 2) := by decide +kernel
theorem dX10_lookPrimitive_186 : decode cX10_lookPrimitive 186 = .ok (.iload 5, 2) := by decide +kernel
theorem dX10_lookPrimitive_188 : decode cX10_lookPrimitive 188 = .ok (.ifCond .ne 11, 3) := by decide +kernel
theorem dX10_lookPrimitive_191 : decode cX10_lookPrimitive 191 = .ok (.aload_n 0, 1) := by decide +kernel
theorem dX10_lookPrimitive_192 : decode cX10_lookPrimitive 192 = .ok (.iconst 2, 1) := by decide +kernel
theorem dX10_lookPrimitive_193 : decode cX10_lookPrimitive 193 = .ok (.putfield 321, 3) := by decide +kernel
theorem dX10_lookPrimitive_196 : decode cX10_lookPrimitive 196 = .ok (.bipush 7, 2) := by decide +kernel
theorem dX10_lookPrimitive_198 : decode cX10_lookPrimitive 198 = .ok (.ireturn, 1) := by decide +kernel
theorem dX10_lookPrimitive_199 : decode cX10_lookPrimitive 199 = .ok (.iinc 3 1, 3) := by decide +kernel
theorem dX10_lookPrimitive_202 : decode cX10_lookPrimitive 202 = .ok (.goto (-180), 3) := by decide +kernel
theorem dX10_lookPrimitive_205 : decode cX10_lookPrimitive 205 = .ok (.iload_n 1, 1) := by decide +kernel
theorem dX10_lookPrimitive_206 : decode cX10_lookPrimitive 206 = .ok (.iconst 3, 1) := by decide +kernel
theorem dX10_lookPrimitive_207 : decode cX10_lookPrimitive 207 = .ok (.if_icmp .ne 28, 3) := by decide +kernel
theorem dX10_lookPrimitive_210 : decode cX10_lookPrimitive 210 = .ok (.aload_n 0, 1) := by decide +kernel
theorem dX10_lookPrimitive_211 : decode cX10_lookPrimitive 211 = .ok (.getfield 113, 3) := by decide +kernel
theorem dX10_lookPrimitive_214 : decode cX10_lookPrimitive 214 = .ok (.aload_n 0, 1) := by decide +kernel
theorem dX10_lookPrimitive_215 : decode cX10_lookPrimitive 215 = .ok (.aload_n 0, 1) := by decide +kernel
theorem dX10_lookPrimitive_216 : decode cX10_lookPrimitive 216 = .ok (.iconst 2, 1) := by decide +kernel
theorem dX10_lookPrimitive_217 : decode cX10_lookPrimitive 217 = .ok (.invokevirtual 327, 3) := by decide +kernel
theorem dX10_lookPrimitive_220 : decode cX10_lookPrimitive 220 = .ok (.invokevirtual 305, 3) := by decide +kernel
theorem dX10_lookPrimitive_223 : decode cX10_lookPrimitive 223 = .ok (.iaload, 1) := by decide +kernel
theorem dX10_lookPrimitive_224 : decode cX10_lookPrimitive 224 = .ok (.ifCond .ne 11, 3) := by decide +kernel
theorem dX10_lookPrimitive_227 : decode cX10_lookPrimitive 227 = .ok (.aload_n 0, 1) := by decide +kernel
theorem dX10_lookPrimitive_228 : decode cX10_lookPrimitive 228 = .ok (.iconst 3, 1) := by decide +kernel
theorem dX10_lookPrimitive_229 : decode cX10_lookPrimitive 229 = .ok (.putfield 321, 3) := by decide +kernel
theorem dX10_lookPrimitive_232 : decode cX10_lookPrimitive 232 = .ok (.goto 38, 3) := by decide +kernel
theorem dX10_lookPrimitive_235 : decode cX10_lookPrimitive 235 = .ok (.iload_n 1, 1) := by decide +kernel
theorem dX10_lookPrimitive_236 : decode cX10_lookPrimitive 236 = .ok (.bipush 9, 2) := by decide +kernel
theorem dX10_lookPrimitive_238 : decode cX10_lookPrimitive 238 = .ok (.if_icmp .eq 9, 3) := by decide +kernel
theorem dX10_lookPrimitive_241 : decode cX10_lookPrimitive 241 = .ok (.iload_n 1, 1) := by decide +kernel
theorem dX10_lookPrimitive_242 : decode cX10_lookPrimitive 242 = .ok (.bipush 10, 2) := by decide +kernel
theorem dX10_lookPrimitive_244 : decode cX10_lookPrimitive 244 = .ok (.if_icmp .ne 26, 3) := by decide +kernel
theorem dX10_lookPrimitive_247 : decode cX10_lookPrimitive 247 = .ok (.aload_n 0, 1) := by decide +kernel
theorem dX10_lookPrimitive_248 : decode cX10_lookPrimitive 248 = .ok (.getfield 110, 3) := by decide +kernel
theorem dX10_lookPrimitive_251 : decode cX10_lookPrimitive 251 = .ok (.aload_n 0, 1) := by decide +kernel
theorem dX10_lookPrimitive_252 : decode cX10_lookPrimitive 252 = .ok (.aload_n 0, 1) := by decide +kernel
theorem dX10_lookPrimitive_253 : decode cX10_lookPrimitive 253 = .ok (.iconst 1, 1) := by decide +kernel
theorem dX10_lookPrimitive_254 : decode cX10_lookPrimitive 254 = .ok (.invokevirtual 327, 3) := by decide +kernel
theorem dX10_lookPrimitive_257 : decode cX10_lookPrimitive 257 = .ok (.invokevirtual 305, 3) := by decide +kernel
theorem dX10_lookPrimitive_260 : decode cX10_lookPrimitive 260 = .ok (.iaload, 1) := by decide +kernel
theorem dX10_lookPrimitive_261 : decode cX10_lookPrimitive 261 = .ok (.iconst 5, 1) := by decide +kernel
theorem dX10_lookPrimitive_262 : decode cX10_lookPrimitive 262 = .ok (.if_icmp .ne 8, 3) := by decide +kernel
theorem dX10_lookPrimitive_265 : decode cX10_lookPrimitive 265 = .ok (.aload_n 0, 1) := by decide +kernel
theorem dX10_lookPrimitive_266 : decode cX10_lookPrimitive 266 = .ok (.iconst 4, 1) := by decide +kernel
theorem dX10_lookPrimitive_267 : decode cX10_lookPrimitive 267 = .ok (.putfield 321, 3) := by decide +kernel
theorem dX10_lookPrimitive_270 : decode cX10_lookPrimitive 270 = .ok (.aload_n 0, 1) := by decide +kernel
theorem dX10_lookPrimitive_271 : decode cX10_lookPrimitive 271 = .ok (.getfield 321, 3) := by decide +kernel
theorem dX10_lookPrimitive_274 : decode cX10_lookPrimitive 274 = .ok (.ifCond .le 8, 3) := by decide +kernel
theorem dX10_lookPrimitive_277 : decode cX10_lookPrimitive 277 = .ok (.bipush 7, 2) := by decide +kernel
theorem dX10_lookPrimitive_279 : decode cX10_lookPrimitive 279 = .ok (.goto 4, 3) := by decide +kernel
theorem dX10_lookPrimitive_282 : decode cX10_lookPrimitive 282 = .ok (.iconst 4, 1) := by decide +kernel
theorem dX10_lookPrimitive_283 : decode cX10_lookPrimitive 283 = .ok (.ireturn, 1) := by decide +kernel
theorem dX10_isFull_0 : decode cX10_isFull 0 = .ok (.aload_n 0, 1) := by decide +kernel
theorem dX10_isFull_1 : decode cX10_isFull 1 = .ok (.getfield 277, 3) := by decide +kernel
theorem dX10_isFull_4 : decode cX10_isFull 4 = .ok (.sipush 5000, 3) := by decide +kernel
theorem dX10_isFull_7 : decode cX10_isFull 7 = .ok (.if_icmp .ne 5, 3) := by decide +kernel
theorem dX10_isFull_10 : decode cX10_isFull 10 = .ok (.iconst 1, 1) := by decide +kernel
theorem dX10_isFull_11 : decode cX10_isFull 11 = .ok (.ireturn, 1) := by decide +kernel
theorem dX10_isFull_12 : decode cX10_isFull 12 = .ok (.iload_n 1, 1) := by decide +kernel
theorem dX10_isFull_13 : decode cX10_isFull 13 = .ok (.iconst 1, 1) := by decide +kernel
theorem dX10_isFull_14 : decode cX10_isFull 14 = .ok (.if_icmp .eq 8, 3) := by decide +kernel
theorem dX10_isFull_17 : decode cX10_isFull 17 = .ok (.iload_n 1, 1) := by decide +kernel
theorem dX10_isFull_18 : decode cX10_isFull 18 = .ok (.iconst 3, 1) := by decide +kernel
theorem dX10_isFull_19 : decode cX10_isFull 19 = .ok (.if_icmp .ne 19, 3) := by decide +kernel
theorem dX10_isFull_22 : decode cX10_isFull 22 = .ok (.aload_n 0, 1) := by decide +kernel
theorem dX10_isFull_23 : decode cX10_isFull 23 = .ok (.getfield 271, 3) := by decide +kernel
theorem dX10_isFull_26 : decode cX10_isFull 26 = .ok (.sipush 600, 3) := by decide +kernel
theorem dX10_isFull_29 : decode cX10_isFull 29 = .ok (.if_icmp .ne 7, 3) := by decide +kernel
theorem dX10_isFull_32 : decode cX10_isFull 32 = .ok (.iconst 1, 1) := by decide +kernel
theorem dX10_isFull_33 : decode cX10_isFull 33 = .ok (.goto 4, 3) := by decide +kernel
theorem dX10_isFull_36 : decode cX10_isFull 36 = .ok (.iconst 0, 1) := by decide +kernel
theorem dX10_isFull_37 : decode cX10_isFull 37 = .ok (.ireturn, 1) := by decide +kernel
theorem dX10_isFull_38 : decode cX10_isFull 38 = .ok (.iload_n 1, 1) := by decide +kernel
theorem dX10_isFull_39 : decode cX10_isFull 39 = .ok (.iconst 2, 1) := by decide +kernel
theorem dX10_isFull_40 : decode cX10_isFull 40 = .ok (.if_icmp .ne 32, 3) := by decide +kernel
theorem dX10_isFull_43 : decode cX10_isFull 43 = .ok (.aload_n 0, 1) := by decide +kernel
theorem dX10_isFull_44 : decode cX10_isFull 44 = .ok (.getfield 256, 3) := by decide +kernel
theorem dX10_isFull_47 : decode cX10_isFull 47 = .ok (.aload_n 0, 1) := by decide +kernel
theorem dX10_isFull_48 : decode cX10_isFull 48 = .ok (.getfield 62, 3) := by decide +kernel
theorem dX10_isFull_51 : decode cX10_isFull 51 = .ok (.aload_n 0, 1) := by decide +kernel
theorem dX10_isFull_52 : decode cX10_isFull 52 = .ok (.getfield 113, 3) := by decide +kernel
theorem dX10_isFull_55 : decode cX10_isFull 55 = .ok (.aload_n 0, 1) := by decide +kernel
theorem dX10_isFull_56 : decode cX10_isFull 56 = .ok (.invokevirtual 311, 3) := by decide +kernel
theorem dX10_isFull_59 : decode cX10_isFull 59 = .ok (.iaload, 1) := by decide +kernel
theorem dX10_isFull_60 : decode cX10_isFull 60 = .ok (.iaload, 1) := by decide +kernel
theorem dX10_isFull_61 : decode cX10_isFull 61 = .ok (.iadd, 1) := by decide +kernel
theorem dX10_isFull_62 : decode cX10_isFull 62 = .ok (.sipush 400, 3) := by decide +kernel
theorem dX10_isFull_65 : decode cX10_isFull 65 = .ok (.if_icmp .le 7, 3) := by decide +kernel
theorem dX10_isFull_68 : decode cX10_isFull 68 = .ok (.iconst 1, 1) := by decide +kernel
theorem dX10_isFull_69 : decode cX10_isFull 69 = .ok (.goto 4, 3) := by decide +kernel
theorem dX10_isFull_72 : decode cX10_isFull 72 = .ok (.iconst 0, 1) := by decide +kernel
theorem dX10_isFull_73 : decode cX10_isFull 73 = .ok (.ireturn, 1) := by decide +kernel
theorem dX10_stepOne_0 : decode cX10_stepOne 0 = .ok (.aload_n 0, 1) := by decide +kernel
theorem dX10_stepOne_1 : decode cX10_stepOne 1 = .ok (.invokevirtual 333, 3) := by decide +kernel
theorem dX10_stepOne_4 : decode cX10_stepOne 4 = .ok (.istore_n 1, 1) := by decide +kernel
theorem dX10_stepOne_5 : decode cX10_stepOne 5 = .ok (.iload_n 1, 1) := by decide +kernel
theorem dX10_stepOne_6 : decode cX10_stepOne 6 = .ok (.iconst 5, 1) := by decide +kernel
theorem dX10_stepOne_7 : decode cX10_stepOne 7 = .ok (.if_icmp .le 28, 3) := by decide +kernel
theorem dX10_stepOne_10 : decode cX10_stepOne 10 = .ok (.aload_n 0, 1) := by decide +kernel
theorem dX10_stepOne_11 : decode cX10_stepOne 11 = .ok (.iload_n 1, 1) := by decide +kernel
theorem dX10_stepOne_12 : decode cX10_stepOne 12 = .ok (.bipush 6, 2) := by decide +kernel
theorem dX10_stepOne_14 : decode cX10_stepOne 14 = .ok (.if_icmp .ne 7, 3) := by decide +kernel
theorem dX10_stepOne_17 : decode cX10_stepOne 17 = .ok (.iconst 1, 1) := by decide +kernel
theorem dX10_stepOne_18 : decode cX10_stepOne 18 = .ok (.goto 4, 3) := by decide +kernel
theorem dX10_stepOne_21 : decode cX10_stepOne 21 = .ok (.iconst 2, 1) := by decide +kernel
theorem dX10_stepOne_22 : decode cX10_stepOne 22 = .ok (.putfield 280, 3) := by decide +kernel
theorem dX10_stepOne_25 : decode cX10_stepOne 25 = .ok (.aload_n 0, 1) := by decide +kernel
theorem dX10_stepOne_26 : decode cX10_stepOne 26 = .ok (.aload_n 0, 1) := by decide +kernel
theorem dX10_stepOne_27 : decode cX10_stepOne 27 = .ok (.getfield 321, 3) := by decide +kernel
theorem dX10_stepOne_30 : decode cX10_stepOne 30 = .ok (.putfield 283, 3) := by decide +kernel
theorem dX10_stepOne_33 : decode cX10_stepOne 33 = .ok (.iconst 0, 1) := by decide +kernel
theorem dX10_stepOne_34 : decode cX10_stepOne 34 = .ok (.ireturn, 1) := by decide +kernel
theorem dX10_stepOne_35 : decode cX10_stepOne 35 = .ok (.aload_n 0, 1) := by decide +kernel
theorem dX10_stepOne_36 : decode cX10_stepOne 36 = .ok (.iconst 0, 1) := by decide +kernel
theorem dX10_stepOne_37 : decode cX10_stepOne 37 = .ok (.putfield 283, 3) := by decide +kernel
theorem dX10_stepOne_40 : decode cX10_stepOne 40 = .ok (.aload_n 0, 1) := by decide +kernel
theorem dX10_stepOne_41 : decode cX10_stepOne 41 = .ok (.iload_n 1, 1) := by decide +kernel
theorem dX10_stepOne_42 : decode cX10_stepOne 42 = .ok (.invokevirtual 336, 3) := by decide +kernel
theorem dX10_stepOne_45 : decode cX10_stepOne 45 = .ok (.ifCond .eq 10, 3) := by decide +kernel
theorem dX10_stepOne_48 : decode cX10_stepOne 48 = .ok (.aload_n 0, 1) := by decide +kernel
theorem dX10_stepOne_49 : decode cX10_stepOne 49 = .ok (.iconst 3, 1) := by decide +kernel
theorem dX10_stepOne_50 : decode cX10_stepOne 50 = .ok (.putfield 280, 3) := by decide +kernel
theorem dX10_stepOne_53 : decode cX10_stepOne 53 = .ok (.iconst 0, 1) := by decide +kernel
theorem dX10_stepOne_54 : decode cX10_stepOne 54 = .ok (.ireturn, 1) := by decide +kernel
theorem dX10_stepOne_55 : decode cX10_stepOne 55 = .ok (.aload_n 0, 1) := by decide +kernel
theorem dX10_stepOne_56 : decode cX10_stepOne 56 = .ok (.iconst 0, 1) := by decide +kernel
theorem dX10_stepOne_57 : decode cX10_stepOne 57 = .ok (.putfield 280, 3) := by decide +kernel
theorem dX10_stepOne_60 : decode cX10_stepOne 60 = .ok (.aload_n 0, 1) := by decide +kernel
theorem dX10_stepOne_61 : decode cX10_stepOne 61 = .ok (.dup, 1) := by decide +kernel
theorem dX10_stepOne_62 : decode cX10_stepOne 62 = .ok (.getfield 277, 3) := by decide +kernel
theorem dX10_stepOne_65 : decode cX10_stepOne 65 = .ok (.iconst 1, 1) := by decide +kernel
theorem dX10_stepOne_66 : decode cX10_stepOne 66 = .ok (.iadd, 1) := by decide +kernel
theorem dX10_stepOne_67 : decode cX10_stepOne 67 = .ok (.putfield 277, 3) := by decide +kernel
theorem dX10_stepOne_70 : decode cX10_stepOne 70 = .ok (.aload_n 0, 1) := by decide +kernel
theorem dX10_stepOne_71 : decode cX10_stepOne 71 = .ok (.invokevirtual 311, 3) := by decide +kernel
theorem dX10_stepOne_74 : decode cX10_stepOne 74 = .ok (.istore_n 2, 1) := by decide +kernel
theorem dX10_stepOne_75 : decode cX10_stepOne 75 = .ok (.iload_n 1, 1) := by decide +kernel
theorem dX10_stepOne_76 : decode cX10_stepOne 76 = .ok (.tableswitch 159 0 4 #[36, 56, 84, 97, 146], 36) := by decide +kernel
theorem dX10_stepOne_112 : decode cX10_stepOne 112 = .ok (.aload_n 0, 1) := by decide +kernel
theorem dX10_stepOne_113 : decode cX10_stepOne 113 = .ok (.getfield 128, 3) := by decide +kernel
theorem dX10_stepOne_116 : decode cX10_stepOne 116 = .ok (.aload_n 0, 1) := by decide +kernel
theorem dX10_stepOne_117 : decode cX10_stepOne 117 = .ok (.getfield 271, 3) := by decide +kernel
theorem dX10_stepOne_120 : decode cX10_stepOne 120 = .ok (.iconst 1, 1) := by decide +kernel
theorem dX10_stepOne_121 : decode cX10_stepOne 121 = .ok (.isub, 1) := by decide +kernel
theorem dX10_stepOne_122 : decode cX10_stepOne 122 = .ok (.aload_n 0, 1) := by decide +kernel
theorem dX10_stepOne_123 : decode cX10_stepOne 123 = .ok (.getfield 113, 3) := by decide +kernel
theorem dX10_stepOne_126 : decode cX10_stepOne 126 = .ok (.iload_n 2, 1) := by decide +kernel
theorem dX10_stepOne_127 : decode cX10_stepOne 127 = .ok (.iaload, 1) := by decide +kernel
theorem dX10_stepOne_128 : decode cX10_stepOne 128 = .ok (.iastore, 1) := by decide +kernel
theorem dX10_stepOne_129 : decode cX10_stepOne 129 = .ok (.goto 129, 3) := by decide +kernel
theorem dX10_stepOne_132 : decode cX10_stepOne 132 = .ok (.aload_n 0, 1) := by decide +kernel
theorem dX10_stepOne_133 : decode cX10_stepOne 133 = .ok (.getfield 128, 3) := by decide +kernel
theorem dX10_stepOne_136 : decode cX10_stepOne 136 = .ok (.aload_n 0, 1) := by decide +kernel
theorem dX10_stepOne_137 : decode cX10_stepOne 137 = .ok (.getfield 271, 3) := by decide +kernel
theorem dX10_stepOne_140 : decode cX10_stepOne 140 = .ok (.aload_n 0, 1) := by decide +kernel
theorem dX10_stepOne_141 : decode cX10_stepOne 141 = .ok (.getfield 113, 3) := by decide +kernel
theorem dX10_stepOne_144 : decode cX10_stepOne 144 = .ok (.iload_n 2, 1) := by decide +kernel
theorem dX10_stepOne_145 : decode cX10_stepOne 145 = .ok (.iaload, 1) := by decide +kernel
theorem dX10_stepOne_146 : decode cX10_stepOne 146 = .ok (.iastore, 1) := by decide +kernel
theorem dX10_stepOne_147 : decode cX10_stepOne 147 = .ok (.aload_n 0, 1) := by decide +kernel
theorem dX10_stepOne_148 : decode cX10_stepOne 148 = .ok (.dup, 1) := by decide +kernel
theorem dX10_stepOne_149 : decode cX10_stepOne 149 = .ok (.getfield 271, 3) := by decide +kernel
theorem dX10_stepOne_152 : decode cX10_stepOne 152 = .ok (.iconst 1, 1) := by decide +kernel
theorem dX10_stepOne_153 : decode cX10_stepOne 153 = .ok (.iadd, 1) := by decide +kernel
theorem dX10_stepOne_154 : decode cX10_stepOne 154 = .ok (.putfield 271, 3) := by decide +kernel
theorem dX10_stepOne_157 : decode cX10_stepOne 157 = .ok (.goto 101, 3) := by decide +kernel
theorem dX10_stepOne_160 : decode cX10_stepOne 160 = .ok (.aload_n 0, 1) := by decide +kernel
theorem dX10_stepOne_161 : decode cX10_stepOne 161 = .ok (.aload_n 0, 1) := by decide +kernel
theorem dX10_stepOne_162 : decode cX10_stepOne 162 = .ok (.getfield 113, 3) := by decide +kernel
theorem dX10_stepOne_165 : decode cX10_stepOne 165 = .ok (.iload_n 2, 1) := by decide +kernel
theorem dX10_stepOne_166 : decode cX10_stepOne 166 = .ok (.iaload, 1) := by decide +kernel
theorem dX10_stepOne_167 : decode cX10_stepOne 167 = .ok (.invokevirtual 339, 3) := by decide +kernel
theorem dX10_stepOne_170 : decode cX10_stepOne 170 = .ok (.goto 88, 3) := by decide +kernel
theorem dX10_stepOne_173 : decode cX10_stepOne 173 = .ok (.aload_n 0, 1) := by decide +kernel
theorem dX10_stepOne_174 : decode cX10_stepOne 174 = .ok (.getfield 131, 3) := by decide +kernel
theorem dX10_stepOne_177 : decode cX10_stepOne 177 = .ok (.aload_n 0, 1) := by decide +kernel
theorem dX10_stepOne_178 : decode cX10_stepOne 178 = .ok (.getfield 274, 3) := by decide +kernel
theorem dX10_stepOne_181 : decode cX10_stepOne 181 = .ok (.aload_n 0, 1) := by decide +kernel
theorem dX10_stepOne_182 : decode cX10_stepOne 182 = .ok (.getfield 271, 3) := by decide +kernel
theorem dX10_stepOne_185 : decode cX10_stepOne 185 = .ok (.iastore, 1) := by decide +kernel
theorem dX10_stepOne_186 : decode cX10_stepOne 186 = .ok (.aload_n 0, 1) := by decide +kernel
theorem dX10_stepOne_187 : decode cX10_stepOne 187 = .ok (.dup, 1) := by decide +kernel
theorem dX10_stepOne_188 : decode cX10_stepOne 188 = .ok (.getfield 274, 3) := by decide +kernel
theorem dX10_stepOne_191 : decode cX10_stepOne 191 = .ok (.iconst 1, 1) := by decide +kernel
theorem dX10_stepOne_192 : decode cX10_stepOne 192 = .ok (.iadd, 1) := by decide +kernel
theorem dX10_stepOne_193 : decode cX10_stepOne 193 = .ok (.putfield 274, 3) := by decide +kernel
theorem dX10_stepOne_196 : decode cX10_stepOne 196 = .ok (.aload_n 0, 1) := by decide +kernel
theorem dX10_stepOne_197 : decode cX10_stepOne 197 = .ok (.getfield 128, 3) := by decide +kernel
theorem dX10_stepOne_200 : decode cX10_stepOne 200 = .ok (.aload_n 0, 1) := by decide +kernel
theorem dX10_stepOne_201 : decode cX10_stepOne 201 = .ok (.getfield 271, 3) := by decide +kernel
theorem dX10_stepOne_204 : decode cX10_stepOne 204 = .ok (.aload_n 0, 1) := by decide +kernel
theorem dX10_stepOne_205 : decode cX10_stepOne 205 = .ok (.getfield 318, 3) := by decide +kernel
theorem dX10_stepOne_208 : decode cX10_stepOne 208 = .ok (.iastore, 1) := by decide +kernel
theorem dX10_stepOne_209 : decode cX10_stepOne 209 = .ok (.aload_n 0, 1) := by decide +kernel
theorem dX10_stepOne_210 : decode cX10_stepOne 210 = .ok (.dup, 1) := by decide +kernel
theorem dX10_stepOne_211 : decode cX10_stepOne 211 = .ok (.getfield 271, 3) := by decide +kernel
theorem dX10_stepOne_214 : decode cX10_stepOne 214 = .ok (.iconst 1, 1) := by decide +kernel
theorem dX10_stepOne_215 : decode cX10_stepOne 215 = .ok (.iadd, 1) := by decide +kernel
theorem dX10_stepOne_216 : decode cX10_stepOne 216 = .ok (.putfield 271, 3) := by decide +kernel
theorem dX10_stepOne_219 : decode cX10_stepOne 219 = .ok (.goto 39, 3) := by decide +kernel
theorem dX10_stepOne_222 : decode cX10_stepOne 222 = .ok (.aload_n 0, 1) := by decide +kernel
theorem dX10_stepOne_223 : decode cX10_stepOne 223 = .ok (.aload_n 0, 1) := by decide +kernel
theorem dX10_stepOne_224 : decode cX10_stepOne 224 = .ok (.getfield 113, 3) := by decide +kernel
theorem dX10_stepOne_227 : decode cX10_stepOne 227 = .ok (.iload_n 2, 1) := by decide +kernel
theorem dX10_stepOne_228 : decode cX10_stepOne 228 = .ok (.iaload, 1) := by decide +kernel
theorem dX10_stepOne_229 : decode cX10_stepOne 229 = .ok (.invokevirtual 342, 3) := by decide +kernel
theorem dX10_stepOne_232 : decode cX10_stepOne 232 = .ok (.goto 26, 3) := by decide +kernel
theorem dX10_stepOne_235 : decode cX10_stepOne 235 = .ok (.aload_n 0, 1) := by decide +kernel
theorem dX10_stepOne_236 : decode cX10_stepOne 236 = .ok (.dup, 1) := by decide +kernel
theorem dX10_stepOne_237 : decode cX10_stepOne 237 = .ok (.getfield 274, 3) := by decide +kernel
theorem dX10_stepOne_240 : decode cX10_stepOne 240 = .ok (.iconst 1, 1) := by decide +kernel
theorem dX10_stepOne_241 : decode cX10_stepOne 241 = .ok (.isub, 1) := by decide +kernel
theorem dX10_stepOne_242 : decode cX10_stepOne 242 = .ok (.putfield 274, 3) := by decide +kernel
theorem dX10_stepOne_245 : decode cX10_stepOne 245 = .ok (.aload_n 0, 1) := by decide +kernel
theorem dX10_stepOne_246 : decode cX10_stepOne 246 = .ok (.aload_n 0, 1) := by decide +kernel
theorem dX10_stepOne_247 : decode cX10_stepOne 247 = .ok (.getfield 131, 3) := by decide +kernel
theorem dX10_stepOne_250 : decode cX10_stepOne 250 = .ok (.aload_n 0, 1) := by decide +kernel
theorem dX10_stepOne_251 : decode cX10_stepOne 251 = .ok (.getfield 274, 3) := by decide +kernel
theorem dX10_stepOne_254 : decode cX10_stepOne 254 = .ok (.iaload, 1) := by decide +kernel
theorem dX10_stepOne_255 : decode cX10_stepOne 255 = .ok (.putfield 271, 3) := by decide +kernel
theorem dX10_stepOne_258 : decode cX10_stepOne 258 = .ok (.iconst 1, 1) := by decide +kernel
theorem dX10_stepOne_259 : decode cX10_stepOne 259 = .ok (.ireturn, 1) := by decide +kernel
theorem dX10_build_0 : decode cX10_build 0 = .ok (.iconst 0, 1) := by decide +kernel
theorem dX10_build_1 : decode cX10_build 1 = .ok (.istore_n 2, 1) := by decide +kernel
theorem dX10_build_2 : decode cX10_build 2 = .ok (.aload_n 0, 1) := by decide +kernel
theorem dX10_build_3 : decode cX10_build 3 = .ok (.getfield 50, 3) := by decide +kernel
theorem dX10_build_6 : decode cX10_build 6 = .ok (.iload_n 1, 1) := by decide +kernel
theorem dX10_build_7 : decode cX10_build 7 = .ok (.iaload, 1) := by decide +kernel
theorem dX10_build_8 : decode cX10_build 8 = .ok (.istore_n 3, 1) := by decide +kernel
theorem dX10_build_9 : decode cX10_build 9 = .ok (.aload_n 0, 1) := by decide +kernel
theorem dX10_build_10 : decode cX10_build 10 = .ok (.getfield 122, 3) := by decide +kernel
theorem dX10_build_13 : decode cX10_build 13 = .ok (.iload_n 1, 1) := by decide +kernel
theorem dX10_build_14 : decode cX10_build 14 = .ok (.dup2, 1) := by decide +kernel
theorem dX10_build_15 : decode cX10_build 15 = .ok (.iaload, 1) := by decide +kernel
theorem dX10_build_16 : decode cX10_build 16 = .ok (.iconst 1, 1) := by decide +kernel
theorem dX10_build_17 : decode cX10_build 17 = .ok (.iadd, 1) := by decide +kernel
theorem dX10_build_18 : decode cX10_build 18 = .ok (.iastore, 1) := by decide +kernel
theorem dX10_build_19 : decode cX10_build 19 = .ok (.aload_n 0, 1) := by decide +kernel
theorem dX10_build_20 : decode cX10_build 20 = .ok (.getfield 56, 3) := by decide +kernel
theorem dX10_build_23 : decode cX10_build 23 = .ok (.iload_n 1, 1) := by decide +kernel
theorem dX10_build_24 : decode cX10_build 24 = .ok (.iaload, 1) := by decide +kernel
theorem dX10_build_25 : decode cX10_build 25 = .ok (.istore 4, 2) := by decide +kernel
theorem dX10_build_27 : decode cX10_build 27 = .ok (.iload 4, 2) := by decide +kernel
theorem dX10_build_29 : decode cX10_build 29 = .ok (.aload_n 0, 1) := by decide +kernel
theorem dX10_build_30 : decode cX10_build 30 = .ok (.getfield 59, 3) := by decide +kernel
theorem dX10_build_33 : decode cX10_build 33 = .ok (.iload_n 1, 1) := by decide +kernel
theorem dX10_build_34 : decode cX10_build 34 = .ok (.iaload, 1) := by decide +kernel
theorem dX10_build_35 : decode cX10_build 35 = .ok (.if_icmp .ge 343, 3) := by decide +kernel
theorem dX10_build_38 : decode cX10_build 38 = .ok (.aload_n 0, 1) := by decide +kernel
theorem dX10_build_39 : decode cX10_build 39 = .ok (.getfield 68, 3) := by decide +kernel
theorem dX10_build_42 : decode cX10_build 42 = .ok (.iload 4, 2) := by decide +kernel
theorem dX10_build_44 : decode cX10_build 44 = .ok (.iaload, 1) := by decide +kernel
theorem dX10_build_45 : decode cX10_build 45 = .ok (.istore 5, 2) := by decide +kernel
theorem dX10_build_47 : decode cX10_build 47 = .ok (.aload_n 0, 1) := by decide +kernel
theorem dX10_build_48 : decode cX10_build 48 = .ok (.getfield 65, 3) := by decide +kernel
theorem dX10_build_51 : decode cX10_build 51 = .ok (.iload 4, 2) := by decide +kernel
theorem dX10_build_53 : decode cX10_build 53 = .ok (.iaload, 1) := by decide +kernel
theorem dX10_build_54 : decode cX10_build 54 = .ok (.tableswitch 297 1 9 #[50, 72, 93, 297, 115, 129, 147, 166, 228], 50) := by decide +kernel
theorem dX10_build_104 : decode cX10_build 104 = .ok (.aload_n 0, 1) := by decide +kernel
theorem dX10_build_105 : decode cX10_build 105 = .ok (.getfield 137, 3) := by decide +kernel
theorem dX10_build_108 : decode cX10_build 108 = .ok (.iload_n 2, 1) := by decide +kernel
theorem dX10_build_109 : decode cX10_build 109 = .ok (.aload_n 0, 1) := by decide +kernel
theorem dX10_build_110 : decode cX10_build 110 = .ok (.iconst 0, 1) := by decide +kernel
theorem dX10_build_111 : decode cX10_build 111 = .ok (.iload 5, 2) := by decide +kernel
theorem dX10_build_113 : decode cX10_build 113 = .ok (.bipush (-3), 2) := by decide +kernel
theorem dX10_build_115 : decode cX10_build 115 = .ok (.iload_n 1, 1) := by decide +kernel
theorem dX10_build_116 : decode cX10_build 116 = .ok (.invokevirtual 265, 3) := by decide +kernel
theorem dX10_build_119 : decode cX10_build 119 = .ok (.iastore, 1) := by decide +kernel
theorem dX10_build_120 : decode cX10_build 120 = .ok (.iinc 2 1, 3) := by decide +kernel
theorem dX10_build_123 : decode cX10_build 123 = .ok (.goto 249, 3) := by decide +kernel
theorem dX10_build_126 : decode cX10_build 126 = .ok (.aload_n 0, 1) := by decide +kernel
theorem dX10_build_127 : decode cX10_build 127 = .ok (.getfield 137, 3) := by decide +kernel
theorem dX10_build_130 : decode cX10_build 130 = .ok (.iload_n 2, 1) := by decide +kernel
theorem dX10_build_131 : decode cX10_build 131 = .ok (.aload_n 0, 1) := by decide +kernel
theorem dX10_build_132 : decode cX10_build 132 = .ok (.iconst 5, 1) := by decide +kernel
theorem dX10_build_133 : decode cX10_build 133 = .ok (.iconst 0, 1) := by decide +kernel
theorem dX10_build_134 : decode cX10_build 134 = .ok (.bipush (-3), 2) := by decide +kernel
theorem dX10_build_136 : decode cX10_build 136 = .ok (.iload_n 1, 1) := by decide +kernel
theorem dX10_build_137 : decode cX10_build 137 = .ok (.invokevirtual 265, 3) := by decide +kernel
theorem dX10_build_140 : decode cX10_build 140 = .ok (.iastore, 1) := by decide +kernel
theorem dX10_build_141 : decode cX10_build 141 = .ok (.iinc 2 1, 3) := by decide +kernel
theorem dX10_build_144 : decode cX10_build 144 = .ok (.goto 228, 3) := by decide +kernel
theorem dX10_build_147 : decode cX10_build 147 = .ok (.aload_n 0, 1) := by decide +kernel
theorem dX10_build_148 : decode cX10_build 148 = .ok (.getfield 137, 3) := by decide +kernel
theorem dX10_build_151 : decode cX10_build 151 = .ok (.iload_n 2, 1) := by decide +kernel
theorem dX10_build_152 : decode cX10_build 152 = .ok (.aload_n 0, 1) := by decide +kernel
theorem dX10_build_153 : decode cX10_build 153 = .ok (.iconst 3, 1) := by decide +kernel
theorem dX10_build_154 : decode cX10_build 154 = .ok (.iload 5, 2) := by decide +kernel
theorem dX10_build_156 : decode cX10_build 156 = .ok (.bipush (-3), 2) := by decide +kernel
theorem dX10_build_158 : decode cX10_build 158 = .ok (.iload_n 1, 1) := by decide +kernel
theorem dX10_build_159 : decode cX10_build 159 = .ok (.invokevirtual 265, 3) := by decide +kernel
theorem dX10_build_162 : decode cX10_build 162 = .ok (.iastore, 1) := by decide +kernel
theorem dX10_build_163 : decode cX10_build 163 = .ok (.iinc 2 1, 3) := by decide +kernel
theorem dX10_build_166 : decode cX10_build 166 = .ok (.goto 206, 3) := by decide +kernel
theorem dX10_build_169 : decode cX10_build 169 = .ok (.aload_n 0, 1) := by decide +kernel
theorem dX10_build_170 : decode cX10_build 170 = .ok (.getfield 137, 3) := by decide +kernel
theorem dX10_build_173 : decode cX10_build 173 = .ok (.iload_n 2, 1) := by decide +kernel
theorem dX10_build_174 : decode cX10_build 174 = .ok (.iload 5, 2) := by decide +kernel
theorem dX10_build_176 : decode cX10_build 176 = .ok (.iastore, 1) := by decide +kernel
theorem dX10_build_177 : decode cX10_build 177 = .ok (.iinc 2 1, 3) := by decide +kernel
theorem dX10_build_180 : decode cX10_build 180 = .ok (.goto 192, 3) := by decide +kernel
theorem dX10_build_183 : decode cX10_build 183 = .ok (.aload_n 0, 1) := by decide +kernel
theorem dX10_build_184 : decode cX10_build 184 = .ok (.getfield 137, 3) := by decide +kernel
theorem dX10_build_187 : decode cX10_build 187 = .ok (.iload_n 2, 1) := by decide +kernel
theorem dX10_build_188 : decode cX10_build 188 = .ok (.aload_n 0, 1) := by decide +kernel
theorem dX10_build_189 : decode cX10_build 189 = .ok (.iload 5, 2) := by decide +kernel
theorem dX10_build_191 : decode cX10_build 191 = .ok (.invokevirtual 327, 3) := by decide +kernel
theorem dX10_build_194 : decode cX10_build 194 = .ok (.iastore, 1) := by decide +kernel
theorem dX10_build_195 : decode cX10_build 195 = .ok (.iinc 2 1, 3) := by decide +kernel
theorem dX10_build_198 : decode cX10_build 198 = .ok (.goto 174, 3) := by decide +kernel
theorem dX10_build_201 : decode cX10_build 201 = .ok (.aload_n 0, 1) := by decide +kernel
theorem dX10_build_202 : decode cX10_build 202 = .ok (.getfield 137, 3) := by decide +kernel
theorem dX10_build_205 : decode cX10_build 205 = .ok (.iload_n 2, 1) := by decide +kernel
theorem dX10_build_206 : decode cX10_build 206 = .ok (.aload_n 0, 1) := by decide +kernel
theorem dX10_build_207 : decode cX10_build 207 = .ok (.getfield 140, 3) := by decide +kernel
theorem dX10_build_210 : decode cX10_build 210 = .ok (.iload 5, 2) := by decide +kernel
theorem dX10_build_212 : decode cX10_build 212 = .ok (.iaload, 1) := by decide +kernel
theorem dX10_build_213 : decode cX10_build 213 = .ok (.iastore, 1) := by decide +kernel
theorem dX10_build_214 : decode cX10_build 214 = .ok (.iinc 2 1, 3) := by decide +kernel
theorem dX10_build_217 : decode cX10_build 217 = .ok (.goto 155, 3) := by decide +kernel
theorem dX10_build_220 : decode cX10_build 220 = .ok (.iload_n 2, 1) := by decide +kernel
theorem dX10_build_221 : decode cX10_build 221 = .ok (.iload 5, 2) := by decide +kernel
theorem dX10_build_223 : decode cX10_build 223 = .ok (.isub, 1) := by decide +kernel
theorem dX10_build_224 : decode cX10_build 224 = .ok (.istore_n 2, 1) := by decide +kernel
theorem dX10_build_225 : decode cX10_build 225 = .ok (.aload_n 0, 1) := by decide +kernel
theorem dX10_build_226 : decode cX10_build 226 = .ok (.getfield 137, 3) := by decide +kernel
theorem dX10_build_229 : decode cX10_build 229 = .ok (.iload_n 2, 1) := by decide +kernel
theorem dX10_build_230 : decode cX10_build 230 = .ok (.iaload, 1) := by decide +kernel
theorem dX10_build_231 : decode cX10_build 231 = .ok (.istore 6, 2) := by decide +kernel
theorem dX10_build_233 : decode cX10_build 233 = .ok (.iconst 1, 1) := by decide +kernel
theorem dX10_build_234 : decode cX10_build 234 = .ok (.istore 7, 2) := by decide +kernel
theorem dX10_build_236 : decode cX10_build 236 = .ok (.iload 7, 2) := by decide +kernel
theorem dX10_build_238 : decode cX10_build 238 = .ok (.iload 5, 2) := by decide +kernel
theorem dX10_build_240 : decode cX10_build 240 = .ok (.if_icmp .ge 28, 3) := by decide +kernel
theorem dX10_build_243 : decode cX10_build 243 = .ok (.aload_n 0, 1) := by decide +kernel
theorem dX10_build_244 : decode cX10_build 244 = .ok (.iconst 1, 1) := by decide +kernel
theorem dX10_build_245 : decode cX10_build 245 = .ok (.iload 6, 2) := by decide +kernel
theorem dX10_build_247 : decode cX10_build 247 = .ok (.aload_n 0, 1) := by decide +kernel
theorem dX10_build_248 : decode cX10_build 248 = .ok (.getfield 137, 3) := by decide +kernel
theorem dX10_build_251 : decode cX10_build 251 = .ok (.iload_n 2, 1) := by decide +kernel
theorem dX10_build_252 : decode cX10_build 252 = .ok (.iload 7, 2) := by decide +kernel
theorem dX10_build_254 : decode cX10_build 254 = .ok (.iadd, 1) := by decide +kernel
theorem dX10_build_255 : decode cX10_build 255 = .ok (.iaload, 1) := by decide +kernel
theorem dX10_build_256 : decode cX10_build 256 = .ok (.iload_n 1, 1) := by decide +kernel
theorem dX10_build_257 : decode cX10_build 257 = .ok (.invokevirtual 265, 3) := by decide +kernel
theorem dX10_build_260 : decode cX10_build 260 = .ok (.istore 6, 2) := by decide +kernel
theorem dX10_build_262 : decode cX10_build 262 = .ok (.iinc 7 1, 3) := by decide +kernel
theorem dX10_build_265 : decode cX10_build 265 = .ok (.goto (-29), 3) := by decide +kernel
theorem dX10_build_268 : decode cX10_build 268 = .ok (.aload_n 0, 1) := by decide +kernel
theorem dX10_build_269 : decode cX10_build 269 = .ok (.getfield 137, 3) := by decide +kernel
theorem dX10_build_272 : decode cX10_build 272 = .ok (.iload_n 2, 1) := by decide +kernel
theorem dX10_build_273 : decode cX10_build 273 = .ok (.iload 6, 2) := by decide +kernel
theorem dX10_build_275 : decode cX10_build 275 = .ok (.iastore, 1) := by decide +kernel
theorem dX10_build_276 : decode cX10_build 276 = .ok (.iinc 2 1, 3) := by decide +kernel
theorem dX10_build_279 : decode cX10_build 279 = .ok (.goto 93, 3) := by decide +kernel
theorem dX10_build_282 : decode cX10_build 282 = .ok (.iconst 0, 1) := by decide +kernel
theorem dX10_build_283 : decode cX10_build 283 = .ok (.istore 7, 2) := by decide +kernel
theorem dX10_build_285 : decode cX10_build 285 = .ok (.iload 7, 2) := by decide +kernel
theorem dX10_build_287 : decode cX10_build 287 = .ok (.aload_n 0, 1) := by decide +kernel
theorem dX10_build_288 : decode cX10_build 288 = .ok (.getfield 243, 3) := by decide +kernel
theorem dX10_build_291 : decode cX10_build 291 = .ok (.if_icmp .ge 57, 3) := by decide +kernel
theorem dX10_build_294 : decode cX10_build 294 = .ok (.aload_n 0, 1) := by decide +kernel
theorem dX10_build_295 : decode cX10_build 295 = .ok (.getfield 104, 3) := by decide +kernel
theorem dX10_build_298 : decode cX10_build 298 = .ok (.iload 7, 2) := by decide +kernel
theorem dX10_build_300 : decode cX10_build 300 = .ok (.iaload, 1) := by decide +kernel
theorem dX10_build_301 : decode cX10_build 301 = .ok (.iload 5, 2) := by decide +kernel
theorem dX10_build_303 : decode cX10_build 303 = .ok (.if_icmp .ne 39, 3) := by decide +kernel
theorem dX10_build_306 : decode cX10_build 306 = .ok (.aload_n 0, 1) := by decide +kernel
theorem dX10_build_307 : decode cX10_build 307 = .ok (.getfield 140, 3) := by decide +kernel
theorem dX10_build_310 : decode cX10_build 310 = .ok (.iload 7, 2) := by decide +kernel
theorem dX10_build_312 : decode cX10_build 312 = .ok (.aload_n 0, 1) := by decide +kernel
theorem dX10_build_313 : decode cX10_build 313 = .ok (.bipush 6, 2) := by decide +kernel
theorem dX10_build_315 : decode cX10_build 315 = .ok (.iconst 0, 1) := by decide +kernel
theorem dX10_build_316 : decode cX10_build 316 = .ok (.bipush (-3), 2) := by decide +kernel
theorem dX10_build_318 : decode cX10_build 318 = .ok (.iload_n 1, 1) := by decide +kernel
theorem dX10_build_319 : decode cX10_build 319 = .ok (.invokevirtual 265, 3) := by decide +kernel
theorem dX10_build_322 : decode cX10_build 322 = .ok (.iastore, 1) := by decide +kernel
theorem dX10_build_323 : decode cX10_build 323 = .ok (.aload_n 0, 1) := by decide +kernel
theorem dX10_build_324 : decode cX10_build 324 = .ok (.getfield 113, 3) := by decide +kernel
theorem dX10_build_327 : decode cX10_build 327 = .ok (.aload_n 0, 1) := by decide +kernel
theorem dX10_build_328 : decode cX10_build 328 = .ok (.getfield 140, 3) := by decide +kernel
theorem dX10_build_331 : decode cX10_build 331 = .ok (.iload 7, 2) := by decide +kernel
theorem dX10_build_333 : decode cX10_build 333 = .ok (.iaload, 1) := by decide +kernel
theorem dX10_build_334 : decode cX10_build 334 = .ok (.aload_n 0, 1) := by decide +kernel
theorem dX10_build_335 : decode cX10_build 335 = .ok (.getfield 140, 3) := by decide +kernel
theorem dX10_build_338 : decode cX10_build 338 = .ok (.iload 7, 2) := by decide +kernel
theorem dX10_build_340 : decode cX10_build 340 = .ok (.iaload, 1) := by decide +kernel
theorem dX10_build_341 : decode cX10_build 341 = .ok (.iastore, 1) := by decide +kernel
theorem dX10_build_342 : decode cX10_build 342 = .ok (.iinc 7 1, 3) := by decide +kernel
theorem dX10_build_345 : decode cX10_build 345 = .ok (.goto (-60), 3) := by decide +kernel
theorem dX10_build_348 : decode cX10_build 348 = .ok (.goto 24, 3) := by decide +kernel
theorem dX10_build_351 : decode cX10_build 351 = .ok (.iinc 2 (-1), 3) := by decide +kernel
theorem dX10_build_354 : decode cX10_build 354 = .ok (.aload_n 0, 1) := by decide +kernel
theorem dX10_build_355 : decode cX10_build 355 = .ok (.getfield 113, 3) := by decide +kernel
theorem dX10_build_358 : decode cX10_build 358 = .ok (.aload_n 0, 1) := by decide +kernel
theorem dX10_build_359 : decode cX10_build 359 = .ok (.getfield 140, 3) := by decide +kernel
theorem dX10_build_362 : decode cX10_build 362 = .ok (.iload 5, 2) := by decide +kernel
theorem dX10_build_364 : decode cX10_build 364 = .ok (.iaload, 1) := by decide +kernel
theorem dX10_build_365 : decode cX10_build 365 = .ok (.aload_n 0, 1) := by decide +kernel
theorem dX10_build_366 : decode cX10_build 366 = .ok (.getfield 137, 3) := by decide +kernel
theorem dX10_build_369 : decode cX10_build 369 = .ok (.iload_n 2, 1) := by decide +kernel
theorem dX10_build_370 : decode cX10_build 370 = .ok (.iaload, 1) := by decide +kernel
theorem dX10_build_371 : decode cX10_build 371 = .ok (.iastore, 1) := by decide +kernel
theorem dX10_build_372 : decode cX10_build 372 = .ok (.iinc 4 1, 3) := by decide +kernel
theorem dX10_build_375 : decode cX10_build 375 = .ok (.goto (-348), 3) := by decide +kernel
theorem dX10_build_378 : decode cX10_build 378 = .ok (.aload_n 0, 1) := by decide +kernel
theorem dX10_build_379 : decode cX10_build 379 = .ok (.getfield 128, 3) := by decide +kernel
theorem dX10_build_382 : decode cX10_build 382 = .ok (.aload_n 0, 1) := by decide +kernel
theorem dX10_build_383 : decode cX10_build 383 = .ok (.getfield 271, 3) := by decide +kernel
theorem dX10_build_386 : decode cX10_build 386 = .ok (.iconst 1, 1) := by decide +kernel
theorem dX10_build_387 : decode cX10_build 387 = .ok (.isub, 1) := by decide +kernel
theorem dX10_build_388 : decode cX10_build 388 = .ok (.iload_n 3, 1) := by decide +kernel
theorem dX10_build_389 : decode cX10_build 389 = .ok (.isub, 1) := by decide +kernel
