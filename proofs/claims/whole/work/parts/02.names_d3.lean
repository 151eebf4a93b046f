theorem dX10_build_390 : decode cX10_build 390 = .ok (.iaload, 1) := by decide +kernel
theorem dX10_build_391 : decode cX10_build 391 = .ok (.istore 4, 2) := by decide +kernel
theorem dX10_build_393 : decode cX10_build 393 = .ok (.aload_n 0, 1) := by decide +kernel
theorem dX10_build_394 : decode cX10_build 394 = .ok (.iload 4, 2) := by decide +kernel
theorem dX10_build_396 : decode cX10_build 396 = .ok (.bipush 6, 2) := by decide +kernel
theorem dX10_build_398 : decode cX10_build 398 = .ok (.aload_n 0, 1) := by decide +kernel
theorem dX10_build_399 : decode cX10_build 399 = .ok (.getfield 137, 3) := by decide +kernel
theorem dX10_build_402 : decode cX10_build 402 = .ok (.iconst 0, 1) := by decide +kernel
theorem dX10_build_403 : decode cX10_build 403 = .ok (.iaload, 1) := by decide +kernel
theorem dX10_build_404 : decode cX10_build 404 = .ok (.bipush (-3), 2) := by decide +kernel
theorem dX10_build_406 : decode cX10_build 406 = .ok (.invokevirtual 345, 3) := by decide +kernel
theorem dX10_build_409 : decode cX10_build 409 = .ok (.aload_n 0, 1) := by decide +kernel
theorem dX10_build_410 : decode cX10_build 410 = .ok (.dup, 1) := by decide +kernel
theorem dX10_build_411 : decode cX10_build 411 = .ok (.getfield 271, 3) := by decide +kernel
theorem dX10_build_414 : decode cX10_build 414 = .ok (.iload_n 3, 1) := by decide +kernel
theorem dX10_build_415 : decode cX10_build 415 = .ok (.isub, 1) := by decide +kernel
theorem dX10_build_416 : decode cX10_build 416 = .ok (.putfield 271, 3) := by decide +kernel
theorem dX10_build_419 : decode cX10_build 419 = .ok (.aload_n 0, 1) := by decide +kernel
theorem dX10_build_420 : decode cX10_build 420 = .ok (.getfield 128, 3) := by decide +kernel
theorem dX10_build_423 : decode cX10_build 423 = .ok (.aload_n 0, 1) := by decide +kernel
theorem dX10_build_424 : decode cX10_build 424 = .ok (.getfield 271, 3) := by decide +kernel
theorem dX10_build_427 : decode cX10_build 427 = .ok (.iconst 1, 1) := by decide +kernel
theorem dX10_build_428 : decode cX10_build 428 = .ok (.isub, 1) := by decide +kernel
theorem dX10_build_429 : decode cX10_build 429 = .ok (.aload_n 0, 1) := by decide +kernel
theorem dX10_build_430 : decode cX10_build 430 = .ok (.getfield 137, 3) := by decide +kernel
theorem dX10_build_433 : decode cX10_build 433 = .ok (.iconst 0, 1) := by decide +kernel
theorem dX10_build_434 : decode cX10_build 434 = .ok (.iaload, 1) := by decide +kernel
theorem dX10_build_435 : decode cX10_build 435 = .ok (.iastore, 1) := by decide +kernel
theorem dX10_build_436 : decode cX10_build 436 = .ok (.return_, 1) := by decide +kernel
theorem dX10_become_0 : decode cX10_become 0 = .ok (.aload_n 0, 1) := by decide +kernel
theorem dX10_become_1 : decode cX10_become 1 = .ok (.getfield 110, 3) := by decide +kernel
theorem dX10_become_4 : decode cX10_become 4 = .ok (.iload_n 1, 1) := by decide +kernel
theorem dX10_become_5 : decode cX10_become 5 = .ok (.iload_n 2, 1) := by decide +kernel
theorem dX10_become_6 : decode cX10_become 6 = .ok (.iastore, 1) := by decide +kernel
theorem dX10_become_7 : decode cX10_become 7 = .ok (.aload_n 0, 1) := by decide +kernel
theorem dX10_become_8 : decode cX10_become 8 = .ok (.getfield 113, 3) := by decide +kernel
theorem dX10_become_11 : decode cX10_become 11 = .ok (.iload_n 1, 1) := by decide +kernel
theorem dX10_become_12 : decode cX10_become 12 = .ok (.iload_n 3, 1) := by decide +kernel
theorem dX10_become_13 : decode cX10_become 13 = .ok (.iastore, 1) := by decide +kernel
theorem dX10_become_14 : decode cX10_become 14 = .ok (.aload_n 0, 1) := by decide +kernel
theorem dX10_become_15 : decode cX10_become 15 = .ok (.getfield 116, 3) := by decide +kernel
theorem dX10_become_18 : decode cX10_become 18 = .ok (.iload_n 1, 1) := by decide +kernel
theorem dX10_become_19 : decode cX10_become 19 = .ok (.iload 4, 2) := by decide +kernel
theorem dX10_become_21 : decode cX10_become 21 = .ok (.iastore, 1) := by decide +kernel
theorem dX10_become_22 : decode cX10_become 22 = .ok (.return_, 1) := by decide +kernel
theorem dX10_compute_0 : decode cX10_compute 0 = .ok (.iload_n 1, 1) := by decide +kernel
theorem dX10_compute_1 : decode cX10_compute 1 = .ok (.invokestatic 308, 3) := by decide +kernel
theorem dX10_compute_4 : decode cX10_compute 4 = .ok (.istore_n 2, 1) := by decide +kernel
theorem dX10_compute_5 : decode cX10_compute 5 = .ok (.iload_n 1, 1) := by decide +kernel
theorem dX10_compute_6 : decode cX10_compute 6 = .ok (.bipush 7, 2) := by decide +kernel
theorem dX10_compute_8 : decode cX10_compute 8 = .ok (.if_icmp .ne 11, 3) := by decide +kernel
theorem dX10_compute_11 : decode cX10_compute 11 = .ok (.aload_n 0, 1) := by decide +kernel
theorem dX10_compute_12 : decode cX10_compute 12 = .ok (.iconst 1, 1) := by decide +kernel
theorem dX10_compute_13 : decode cX10_compute 13 = .ok (.invokevirtual 327, 3) := by decide +kernel
theorem dX10_compute_16 : decode cX10_compute 16 = .ok (.goto 12, 3) := by decide +kernel
theorem dX10_compute_19 : decode cX10_compute 19 = .ok (.aload_n 0, 1) := by decide +kernel
theorem dX10_compute_20 : decode cX10_compute 20 = .ok (.aload_n 0, 1) := by decide +kernel
theorem dX10_compute_21 : decode cX10_compute 21 = .ok (.iconst 1, 1) := by decide +kernel
theorem dX10_compute_22 : decode cX10_compute 22 = .ok (.invokevirtual 327, 3) := by decide +kernel
theorem dX10_compute_25 : decode cX10_compute 25 = .ok (.invokevirtual 305, 3) := by decide +kernel
theorem dX10_compute_28 : decode cX10_compute 28 = .ok (.istore_n 3, 1) := by decide +kernel
theorem dX10_compute_29 : decode cX10_compute 29 = .ok (.iload_n 2, 1) := by decide +kernel
theorem dX10_compute_30 : decode cX10_compute 30 = .ok (.iconst 1, 1) := by decide +kernel
theorem dX10_compute_31 : decode cX10_compute 31 = .ok (.if_icmp .le 34, 3) := by decide +kernel
theorem dX10_compute_34 : decode cX10_compute 34 = .ok (.iload_n 1, 1) := by decide +kernel
theorem dX10_compute_35 : decode cX10_compute 35 = .ok (.bipush 7, 2) := by decide +kernel
theorem dX10_compute_37 : decode cX10_compute 37 = .ok (.if_icmp .eq 8, 3) := by decide +kernel
theorem dX10_compute_40 : decode cX10_compute 40 = .ok (.iload_n 1, 1) := by decide +kernel
theorem dX10_compute_41 : decode cX10_compute 41 = .ok (.iconst 5, 1) := by decide +kernel
theorem dX10_compute_42 : decode cX10_compute 42 = .ok (.if_icmp .le 11, 3) := by decide +kernel
theorem dX10_compute_45 : decode cX10_compute 45 = .ok (.aload_n 0, 1) := by decide +kernel
theorem dX10_compute_46 : decode cX10_compute 46 = .ok (.iconst 2, 1) := by decide +kernel
theorem dX10_compute_47 : decode cX10_compute 47 = .ok (.invokevirtual 327, 3) := by decide +kernel
theorem dX10_compute_50 : decode cX10_compute 50 = .ok (.goto 16, 3) := by decide +kernel
theorem dX10_compute_53 : decode cX10_compute 53 = .ok (.aload_n 0, 1) := by decide +kernel
theorem dX10_compute_54 : decode cX10_compute 54 = .ok (.aload_n 0, 1) := by decide +kernel
theorem dX10_compute_55 : decode cX10_compute 55 = .ok (.iconst 2, 1) := by decide +kernel
theorem dX10_compute_56 : decode cX10_compute 56 = .ok (.invokevirtual 327, 3) := by decide +kernel
theorem dX10_compute_59 : decode cX10_compute 59 = .ok (.invokevirtual 305, 3) := by decide +kernel
theorem dX10_compute_62 : decode cX10_compute 62 = .ok (.goto 4, 3) := by decide +kernel
theorem dX10_compute_65 : decode cX10_compute 65 = .ok (.iconst 0, 1) := by decide +kernel
theorem dX10_compute_66 : decode cX10_compute 66 = .ok (.istore 4, 2) := by decide +kernel
theorem dX10_compute_68 : decode cX10_compute 68 = .ok (.iload_n 2, 1) := by decide +kernel
theorem dX10_compute_69 : decode cX10_compute 69 = .ok (.iconst 2, 1) := by decide +kernel
theorem dX10_compute_70 : decode cX10_compute 70 = .ok (.if_icmp .le 11, 3) := by decide +kernel
theorem dX10_compute_73 : decode cX10_compute 73 = .ok (.aload_n 0, 1) := by decide +kernel
theorem dX10_compute_74 : decode cX10_compute 74 = .ok (.iconst 3, 1) := by decide +kernel
theorem dX10_compute_75 : decode cX10_compute 75 = .ok (.invokevirtual 327, 3) := by decide +kernel
theorem dX10_compute_78 : decode cX10_compute 78 = .ok (.goto 4, 3) := by decide +kernel
theorem dX10_compute_81 : decode cX10_compute 81 = .ok (.iconst 0, 1) := by decide +kernel
theorem dX10_compute_82 : decode cX10_compute 82 = .ok (.istore 5, 2) := by decide +kernel
theorem dX10_compute_84 : decode cX10_compute 84 = .ok (.aload_n 0, 1) := by decide +kernel
theorem dX10_compute_85 : decode cX10_compute 85 = .ok (.getfield 128, 3) := by decide +kernel
theorem dX10_compute_88 : decode cX10_compute 88 = .ok (.aload_n 0, 1) := by decide +kernel
theorem dX10_compute_89 : decode cX10_compute 89 = .ok (.getfield 271, 3) := by decide +kernel
theorem dX10_compute_92 : decode cX10_compute 92 = .ok (.iconst 1, 1) := by decide +kernel
theorem dX10_compute_93 : decode cX10_compute 93 = .ok (.isub, 1) := by decide +kernel
theorem dX10_compute_94 : decode cX10_compute 94 = .ok (.iload_n 2, 1) := by decide +kernel
theorem dX10_compute_95 : decode cX10_compute 95 = .ok (.isub, 1) := by decide +kernel
theorem dX10_compute_96 : decode cX10_compute 96 = .ok (.iaload, 1) := by decide +kernel
theorem dX10_compute_97 : decode cX10_compute 97 = .ok (.istore 6, 2) := by decide +kernel
theorem dX10_compute_99 : decode cX10_compute 99 = .ok (.aload_n 0, 1) := by decide +kernel
theorem dX10_compute_100 : decode cX10_compute 100 = .ok (.getfield 113, 3) := by decide +kernel
theorem dX10_compute_103 : decode cX10_compute 103 = .ok (.iload_n 3, 1) := by decide +kernel
theorem dX10_compute_104 : decode cX10_compute 104 = .ok (.iaload, 1) := by decide +kernel
theorem dX10_compute_105 : decode cX10_compute 105 = .ok (.istore 7, 2) := by decide +kernel
theorem dX10_compute_107 : decode cX10_compute 107 = .ok (.iload_n 2, 1) := by decide +kernel
theorem dX10_compute_108 : decode cX10_compute 108 = .ok (.iconst 1, 1) := by decide +kernel
theorem dX10_compute_109 : decode cX10_compute 109 = .ok (.if_icmp .le 13, 3) := by decide +kernel
theorem dX10_compute_112 : decode cX10_compute 112 = .ok (.aload_n 0, 1) := by decide +kernel
theorem dX10_compute_113 : decode cX10_compute 113 = .ok (.getfield 113, 3) := by decide +kernel
theorem dX10_compute_116 : decode cX10_compute 116 = .ok (.iload 4, 2) := by decide +kernel
theorem dX10_compute_118 : decode cX10_compute 118 = .ok (.iaload, 1) := by decide +kernel
theorem dX10_compute_119 : decode cX10_compute 119 = .ok (.goto 4, 3) := by decide +kernel
theorem dX10_compute_122 : decode cX10_compute 122 = .ok (.iconst 0, 1) := by decide +kernel
theorem dX10_compute_123 : decode cX10_compute 123 = .ok (.istore 8, 2) := by decide +kernel
theorem dX10_compute_125 : decode cX10_compute 125 = .ok (.iload_n 1, 1) := by decide +kernel
theorem dX10_compute_126 : decode cX10_compute 126 = .ok (.tableswitch 277 0 11 #[62, 79, 96, 113, 130, 154, 178, 203, 277, 216, 231, 250], 62) := by decide +kernel
theorem dX10_compute_188 : decode cX10_compute 188 = .ok (.aload_n 0, 1) := by decide +kernel
theorem dX10_compute_189 : decode cX10_compute 189 = .ok (.iload 6, 2) := by decide +kernel
theorem dX10_compute_191 : decode cX10_compute 191 = .ok (.iconst 0, 1) := by decide +kernel
theorem dX10_compute_192 : decode cX10_compute 192 = .ok (.iload 7, 2) := by decide +kernel
theorem dX10_compute_194 : decode cX10_compute 194 = .ok (.iload 8, 2) := by decide +kernel
theorem dX10_compute_196 : decode cX10_compute 196 = .ok (.iadd, 1) := by decide +kernel
theorem dX10_compute_197 : decode cX10_compute 197 = .ok (.bipush (-3), 2) := by decide +kernel
theorem dX10_compute_199 : decode cX10_compute 199 = .ok (.invokevirtual 345, 3) := by decide +kernel
theorem dX10_compute_202 : decode cX10_compute 202 = .ok (.goto 213, 3) := by decide +kernel
theorem dX10_compute_205 : decode cX10_compute 205 = .ok (.aload_n 0, 1) := by decide +kernel
theorem dX10_compute_206 : decode cX10_compute 206 = .ok (.iload 6, 2) := by decide +kernel
theorem dX10_compute_208 : decode cX10_compute 208 = .ok (.iconst 0, 1) := by decide +kernel
theorem dX10_compute_209 : decode cX10_compute 209 = .ok (.iload 7, 2) := by decide +kernel
theorem dX10_compute_211 : decode cX10_compute 211 = .ok (.iload 8, 2) := by decide +kernel
theorem dX10_compute_213 : decode cX10_compute 213 = .ok (.isub, 1) := by decide +kernel
theorem dX10_compute_214 : decode cX10_compute 214 = .ok (.bipush (-3), 2) := by decide +kernel
theorem dX10_compute_216 : decode cX10_compute 216 = .ok (.invokevirtual 345, 3) := by decide +kernel
theorem dX10_compute_219 : decode cX10_compute 219 = .ok (.goto 196, 3) := by decide +kernel
theorem dX10_compute_222 : decode cX10_compute 222 = .ok (.aload_n 0, 1) := by decide +kernel
theorem dX10_compute_223 : decode cX10_compute 223 = .ok (.iload 6, 2) := by decide +kernel
theorem dX10_compute_225 : decode cX10_compute 225 = .ok (.iconst 0, 1) := by decide +kernel
theorem dX10_compute_226 : decode cX10_compute 226 = .ok (.iload 7, 2) := by decide +kernel
theorem dX10_compute_228 : decode cX10_compute 228 = .ok (.iload 8, 2) := by decide +kernel
theorem dX10_compute_230 : decode cX10_compute 230 = .ok (.imul, 1) := by decide +kernel
theorem dX10_compute_231 : decode cX10_compute 231 = .ok (.bipush (-3), 2) := by decide +kernel
theorem dX10_compute_233 : decode cX10_compute 233 = .ok (.invokevirtual 345, 3) := by decide +kernel
theorem dX10_compute_236 : decode cX10_compute 236 = .ok (.goto 179, 3) := by decide +kernel
theorem dX10_compute_239 : decode cX10_compute 239 = .ok (.aload_n 0, 1) := by decide +kernel
theorem dX10_compute_240 : decode cX10_compute 240 = .ok (.iload 6, 2) := by decide +kernel
theorem dX10_compute_242 : decode cX10_compute 242 = .ok (.iconst 0, 1) := by decide +kernel
theorem dX10_compute_243 : decode cX10_compute 243 = .ok (.iload 7, 2) := by decide +kernel
theorem dX10_compute_245 : decode cX10_compute 245 = .ok (.iload 8, 2) := by decide +kernel
theorem dX10_compute_247 : decode cX10_compute 247 = .ok (.idiv, 1) := by decide +kernel
theorem dX10_compute_248 : decode cX10_compute 248 = .ok (.bipush (-3), 2) := by decide +kernel
theorem dX10_compute_250 : decode cX10_compute 250 = .ok (.invokevirtual 345, 3) := by decide +kernel
theorem dX10_compute_253 : decode cX10_compute 253 = .ok (.goto 162, 3) := by decide +kernel
theorem dX10_compute_256 : decode cX10_compute 256 = .ok (.aload_n 0, 1) := by decide +kernel
theorem dX10_compute_257 : decode cX10_compute 257 = .ok (.iload 6, 2) := by decide +kernel
theorem dX10_compute_259 : decode cX10_compute 259 = .ok (.iconst 0, 1) := by decide +kernel
theorem dX10_compute_260 : decode cX10_compute 260 = .ok (.iload 7, 2) := by decide +kernel
theorem dX10_compute_262 : decode cX10_compute 262 = .ok (.iload 8, 2) := by decide +kernel
theorem dX10_compute_264 : decode cX10_compute 264 = .ok (.if_icmp .ge 7, 3) := by decide +kernel
theorem dX10_compute_267 : decode cX10_compute 267 = .ok (.iconst 1, 1) := by decide +kernel
theorem dX10_compute_268 : decode cX10_compute 268 = .ok (.goto 4, 3) := by decide +kernel
theorem dX10_compute_271 : decode cX10_compute 271 = .ok (.iconst 0, 1) := by decide +kernel
theorem dX10_compute_272 : decode cX10_compute 272 = .ok (.bipush (-3), 2) := by decide +kernel
theorem dX10_compute_274 : decode cX10_compute 274 = .ok (.invokevirtual 345, 3) := by decide +kernel
theorem dX10_compute_277 : decode cX10_compute 277 = .ok (.goto 138, 3) := by decide +kernel
theorem dX10_compute_280 : decode cX10_compute 280 = .ok (.aload_n 0, 1) := by decide +kernel
theorem dX10_compute_281 : decode cX10_compute 281 = .ok (.iload 6, 2) := by decide +kernel
theorem dX10_compute_283 : decode cX10_compute 283 = .ok (.iconst 0, 1) := by decide +kernel
theorem dX10_compute_284 : decode cX10_compute 284 = .ok (.iload 7, 2) := by decide +kernel
theorem dX10_compute_286 : decode cX10_compute 286 = .ok (.iload 8, 2) := by decide +kernel
theorem dX10_compute_288 : decode cX10_compute 288 = .ok (.if_icmp .ne 7, 3) := by decide +kernel
theorem dX10_compute_291 : decode cX10_compute 291 = .ok (.iconst 1, 1) := by decide +kernel
theorem dX10_compute_292 : decode cX10_compute 292 = .ok (.goto 4, 3) := by decide +kernel
theorem dX10_compute_295 : decode cX10_compute 295 = .ok (.iconst 0, 1) := by decide +kernel
theorem dX10_compute_296 : decode cX10_compute 296 = .ok (.bipush (-3), 2) := by decide +kernel
theorem dX10_compute_298 : decode cX10_compute 298 = .ok (.invokevirtual 345, 3) := by decide +kernel
theorem dX10_compute_301 : decode cX10_compute 301 = .ok (.goto 114, 3) := by decide +kernel
theorem dX10_compute_304 : decode cX10_compute 304 = .ok (.aload_n 0, 1) := by decide +kernel
theorem dX10_compute_305 : decode cX10_compute 305 = .ok (.iload 6, 2) := by decide +kernel
theorem dX10_compute_307 : decode cX10_compute 307 = .ok (.bipush 6, 2) := by decide +kernel
theorem dX10_compute_309 : decode cX10_compute 309 = .ok (.iload 7, 2) := by decide +kernel
theorem dX10_compute_311 : decode cX10_compute 311 = .ok (.ifCond .eq 8, 3) := by decide +kernel
theorem dX10_compute_314 : decode cX10_compute 314 = .ok (.iload 4, 2) := by decide +kernel
theorem dX10_compute_316 : decode cX10_compute 316 = .ok (.goto 5, 3) := by decide +kernel
theorem dX10_compute_319 : decode cX10_compute 319 = .ok (.iload 5, 2) := by decide +kernel
theorem dX10_compute_321 : decode cX10_compute 321 = .ok (.bipush (-3), 2) := by decide +kernel
theorem dX10_compute_323 : decode cX10_compute 323 = .ok (.invokevirtual 345, 3) := by decide +kernel
theorem dX10_compute_326 : decode cX10_compute 326 = .ok (.goto 89, 3) := by decide +kernel
theorem dX10_compute_329 : decode cX10_compute 329 = .ok (.aload_n 0, 1) := by decide +kernel
theorem dX10_compute_330 : decode cX10_compute 330 = .ok (.iload 6, 2) := by decide +kernel
theorem dX10_compute_332 : decode cX10_compute 332 = .ok (.iconst 4, 1) := by decide +kernel
theorem dX10_compute_333 : decode cX10_compute 333 = .ok (.iload_n 3, 1) := by decide +kernel
theorem dX10_compute_334 : decode cX10_compute 334 = .ok (.iload 4, 2) := by decide +kernel
theorem dX10_compute_336 : decode cX10_compute 336 = .ok (.invokevirtual 345, 3) := by decide +kernel
theorem dX10_compute_339 : decode cX10_compute 339 = .ok (.goto 76, 3) := by decide +kernel
theorem dX10_compute_342 : decode cX10_compute 342 = .ok (.aload_n 0, 1) := by decide +kernel
theorem dX10_compute_343 : decode cX10_compute 343 = .ok (.iload 6, 2) := by decide +kernel
theorem dX10_compute_345 : decode cX10_compute 345 = .ok (.bipush 6, 2) := by decide +kernel
theorem dX10_compute_347 : decode cX10_compute 347 = .ok (.iload 7, 2) := by decide +kernel
theorem dX10_compute_349 : decode cX10_compute 349 = .ok (.bipush (-3), 2) := by decide +kernel
theorem dX10_compute_351 : decode cX10_compute 351 = .ok (.invokevirtual 345, 3) := by decide +kernel
theorem dX10_compute_354 : decode cX10_compute 354 = .ok (.goto 61, 3) := by decide +kernel
theorem dX10_compute_357 : decode cX10_compute 357 = .ok (.aload_n 0, 1) := by decide +kernel
theorem dX10_compute_358 : decode cX10_compute 358 = .ok (.iload 6, 2) := by decide +kernel
theorem dX10_compute_360 : decode cX10_compute 360 = .ok (.bipush 6, 2) := by decide +kernel
theorem dX10_compute_362 : decode cX10_compute 362 = .ok (.aload_n 0, 1) := by decide +kernel
theorem dX10_compute_363 : decode cX10_compute 363 = .ok (.getfield 116, 3) := by decide +kernel
theorem dX10_compute_366 : decode cX10_compute 366 = .ok (.iload_n 3, 1) := by decide +kernel
theorem dX10_compute_367 : decode cX10_compute 367 = .ok (.iaload, 1) := by decide +kernel
theorem dX10_compute_368 : decode cX10_compute 368 = .ok (.bipush (-3), 2) := by decide +kernel
theorem dX10_compute_370 : decode cX10_compute 370 = .ok (.invokevirtual 345, 3) := by decide +kernel
theorem dX10_compute_373 : decode cX10_compute 373 = .ok (.goto 42, 3) := by decide +kernel
theorem dX10_compute_376 : decode cX10_compute 376 = .ok (.aload_n 0, 1) := by decide +kernel
theorem dX10_compute_377 : decode cX10_compute 377 = .ok (.iload 6, 2) := by decide +kernel
theorem dX10_compute_379 : decode cX10_compute 379 = .ok (.iconst 0, 1) := by decide +kernel
theorem dX10_compute_380 : decode cX10_compute 380 = .ok (.aload_n 0, 1) := by decide +kernel
theorem dX10_compute_381 : decode cX10_compute 381 = .ok (.getfield 110, 3) := by decide +kernel
theorem dX10_compute_384 : decode cX10_compute 384 = .ok (.iload_n 3, 1) := by decide +kernel
theorem dX10_compute_385 : decode cX10_compute 385 = .ok (.iaload, 1) := by decide +kernel
theorem dX10_compute_386 : decode cX10_compute 386 = .ok (.iconst 5, 1) := by decide +kernel
theorem dX10_compute_387 : decode cX10_compute 387 = .ok (.if_icmp .ne 7, 3) := by decide +kernel
theorem dX10_compute_390 : decode cX10_compute 390 = .ok (.iconst 1, 1) := by decide +kernel
theorem dX10_compute_391 : decode cX10_compute 391 = .ok (.goto 4, 3) := by decide +kernel
theorem dX10_compute_394 : decode cX10_compute 394 = .ok (.iconst 0, 1) := by decide +kernel
theorem dX10_compute_395 : decode cX10_compute 395 = .ok (.bipush (-3), 2) := by decide +kernel
theorem dX10_compute_397 : decode cX10_compute 397 = .ok (.invokevirtual 345, 3) := by decide +kernel
theorem dX10_compute_400 : decode cX10_compute 400 = .ok (.goto 15, 3) := by decide +kernel
theorem dX10_compute_403 : decode cX10_compute 403 = .ok (.aload_n 0, 1) := by decide +kernel
theorem dX10_compute_404 : decode cX10_compute 404 = .ok (.iload 6, 2) := by decide +kernel
theorem dX10_compute_406 : decode cX10_compute 406 = .ok (.bipush 6, 2) := by decide +kernel
theorem dX10_compute_408 : decode cX10_compute 408 = .ok (.iload 4, 2) := by decide +kernel
theorem dX10_compute_410 : decode cX10_compute 410 = .ok (.bipush (-3), 2) := by decide +kernel
theorem dX10_compute_412 : decode cX10_compute 412 = .ok (.invokevirtual 345, 3) := by decide +kernel
theorem dX10_compute_415 : decode cX10_compute 415 = .ok (.aload_n 0, 1) := by decide +kernel
theorem dX10_compute_416 : decode cX10_compute 416 = .ok (.dup, 1) := by decide +kernel
theorem dX10_compute_417 : decode cX10_compute 417 = .ok (.getfield 271, 3) := by decide +kernel
theorem dX10_compute_420 : decode cX10_compute 420 = .ok (.iload_n 2, 1) := by decide +kernel
theorem dX10_compute_421 : decode cX10_compute 421 = .ok (.isub, 1) := by decide +kernel
theorem dX10_compute_422 : decode cX10_compute 422 = .ok (.putfield 271, 3) := by decide +kernel
theorem dX10_compute_425 : decode cX10_compute 425 = .ok (.aload_n 0, 1) := by decide +kernel
theorem dX10_compute_426 : decode cX10_compute 426 = .ok (.getfield 128, 3) := by decide +kernel
theorem dX10_compute_429 : decode cX10_compute 429 = .ok (.aload_n 0, 1) := by decide +kernel
theorem dX10_compute_430 : decode cX10_compute 430 = .ok (.getfield 271, 3) := by decide +kernel
theorem dX10_compute_433 : decode cX10_compute 433 = .ok (.iconst 1, 1) := by decide +kernel
theorem dX10_compute_434 : decode cX10_compute 434 = .ok (.isub, 1) := by decide +kernel
theorem dX10_compute_435 : decode cX10_compute 435 = .ok (.iload 6, 2) := by decide +kernel
theorem dX10_compute_437 : decode cX10_compute 437 = .ok (.iastore, 1) := by decide +kernel
theorem dX10_compute_438 : decode cX10_compute 438 = .ok (.return_, 1) := by decide +kernel
theorem dX10_step_0 : decode cX10_step 0 = .ok (.aload_n 0, 1) := by decide +kernel
theorem dX10_step_1 : decode cX10_step 1 = .ok (.iconst 0, 1) := by decide +kernel
theorem dX10_step_2 : decode cX10_step 2 = .ok (.putfield 153, 3) := by decide +kernel
theorem dX10_step_5 : decode cX10_step 5 = .ok (.aload_n 0, 1) := by decide +kernel
theorem dX10_step_6 : decode cX10_step 6 = .ok (.getfield 292, 3) := by decide +kernel
theorem dX10_step_9 : decode cX10_step 9 = .ok (.ifCond .ne 6, 3) := by decide +kernel
theorem dX10_step_12 : decode cX10_step 12 = .ok (.bipush (-3), 2) := by decide +kernel
theorem dX10_step_14 : decode cX10_step 14 = .ok (.ireturn, 1) := by decide +kernel
theorem dX10_step_15 : decode cX10_step 15 = .ok (.iload_n 1, 1) := by decide +kernel
theorem dX10_step_16 : decode cX10_step 16 = .ok (.iconst 1, 1) := by decide +kernel
theorem dX10_step_17 : decode cX10_step 17 = .ok (.sipush 2000, 3) := by decide +kernel
theorem dX10_step_20 : decode cX10_step 20 = .ok (.invokestatic 160, 3) := by decide +kernel
theorem dX10_step_23 : decode cX10_step 23 = .ok (.ifCond .ne 5, 3) := by decide +kernel
theorem dX10_step_26 : decode cX10_step 26 = .ok (.iconst (-1), 1) := by decide +kernel
theorem dX10_step_27 : decode cX10_step 27 = .ok (.ireturn, 1) := by decide +kernel
theorem dX10_step_28 : decode cX10_step 28 = .ok (.iconst 0, 1) := by decide +kernel
theorem dX10_step_29 : decode cX10_step 29 = .ok (.istore_n 2, 1) := by decide +kernel
theorem dX10_step_30 : decode cX10_step 30 = .ok (.iconst 1, 1) := by decide +kernel
theorem dX10_step_31 : decode cX10_step 31 = .ok (.istore_n 3, 1) := by decide +kernel
theorem dX10_step_32 : decode cX10_step 32 = .ok (.iload_n 3, 1) := by decide +kernel
theorem dX10_step_33 : decode cX10_step 33 = .ok (.ifCond .eq 83, 3) := by decide +kernel
theorem dX10_step_36 : decode cX10_step 36 = .ok (.iload_n 2, 1) := by decide +kernel
theorem dX10_step_37 : decode cX10_step 37 = .ok (.ifCond .le 38, 3) := by decide +kernel
theorem dX10_step_40 : decode cX10_step 40 = .ok (.aload_n 0, 1) := by decide +kernel
theorem dX10_step_41 : decode cX10_step 41 = .ok (.getfield 299, 3) := by decide +kernel
theorem dX10_step_44 : decode cX10_step 44 = .ok (.ifCond .lt 31, 3) := by decide +kernel
theorem dX10_step_47 : decode cX10_step 47 = .ok (.aload_n 0, 1) := by decide +kernel
theorem dX10_step_48 : decode cX10_step 48 = .ok (.invokevirtual 333, 3) := by decide +kernel
theorem dX10_step_51 : decode cX10_step 51 = .ok (.iconst 2, 1) := by decide +kernel
theorem dX10_step_52 : decode cX10_step 52 = .ok (.if_icmp .ne 23, 3) := by decide +kernel
theorem dX10_step_55 : decode cX10_step 55 = .ok (.aload_n 0, 1) := by decide +kernel
theorem dX10_step_56 : decode cX10_step 56 = .ok (.getfield 113, 3) := by decide +kernel
theorem dX10_step_59 : decode cX10_step 59 = .ok (.aload_n 0, 1) := by decide +kernel
theorem dX10_step_60 : decode cX10_step 60 = .ok (.invokevirtual 311, 3) := by decide +kernel
theorem dX10_step_63 : decode cX10_step 63 = .ok (.iaload, 1) := by decide +kernel
theorem dX10_step_64 : decode cX10_step 64 = .ok (.aload_n 0, 1) := by decide +kernel
theorem dX10_step_65 : decode cX10_step 65 = .ok (.getfield 299, 3) := by decide +kernel
theorem dX10_step_68 : decode cX10_step 68 = .ok (.if_icmp .ne 7, 3) := by decide +kernel
theorem dX10_step_71 : decode cX10_step 71 = .ok (.iconst 1, 1) := by decide +kernel
theorem dX10_step_72 : decode cX10_step 72 = .ok (.goto 4, 3) := by decide +kernel
theorem dX10_step_75 : decode cX10_step 75 = .ok (.iconst 0, 1) := by decide +kernel
theorem dX10_step_76 : decode cX10_step 76 = .ok (.istore 4, 2) := by decide +kernel
theorem dX10_step_78 : decode cX10_step 78 = .ok (.iload 4, 2) := by decide +kernel
theorem dX10_step_80 : decode cX10_step 80 = .ok (.ifCond .ne 19, 3) := by decide +kernel
theorem dX10_step_83 : decode cX10_step 83 = .ok (.iload_n 2, 1) := by decide +kernel
theorem dX10_step_84 : decode cX10_step 84 = .ok (.iload_n 1, 1) := by decide +kernel
theorem dX10_step_85 : decode cX10_step 85 = .ok (.if_icmp .ge 14, 3) := by decide +kernel
theorem dX10_step_88 : decode cX10_step 88 = .ok (.aload_n 0, 1) := by decide +kernel
theorem dX10_step_89 : decode cX10_step 89 = .ok (.invokevirtual 349, 3) := by decide +kernel
theorem dX10_step_92 : decode cX10_step 92 = .ok (.ifCond .eq 7, 3) := by decide +kernel
theorem dX10_step_95 : decode cX10_step 95 = .ok (.iconst 1, 1) := by decide +kernel
theorem dX10_step_96 : decode cX10_step 96 = .ok (.goto 4, 3) := by decide +kernel
theorem dX10_step_99 : decode cX10_step 99 = .ok (.iconst 0, 1) := by decide +kernel
theorem dX10_step_100 : decode cX10_step 100 = .ok (.istore_n 3, 1) := by decide +kernel
theorem dX10_step_101 : decode cX10_step 101 = .ok (.iload_n 2, 1) := by decide +kernel
theorem dX10_step_102 : decode cX10_step 102 = .ok (.iload_n 3, 1) := by decide +kernel
theorem dX10_step_103 : decode cX10_step 103 = .ok (.ifCond .eq 7, 3) := by decide +kernel
theorem dX10_step_106 : decode cX10_step 106 = .ok (.iconst 1, 1) := by decide +kernel
theorem dX10_step_107 : decode cX10_step 107 = .ok (.goto 4, 3) := by decide +kernel
theorem dX10_step_110 : decode cX10_step 110 = .ok (.iconst 0, 1) := by decide +kernel
theorem dX10_step_111 : decode cX10_step 111 = .ok (.iadd, 1) := by decide +kernel
theorem dX10_step_112 : decode cX10_step 112 = .ok (.istore_n 2, 1) := by decide +kernel
theorem dX10_step_113 : decode cX10_step 113 = .ok (.goto (-81), 3) := by decide +kernel
theorem dX10_step_116 : decode cX10_step 116 = .ok (.iload_n 2, 1) := by decide +kernel
theorem dX10_step_117 : decode cX10_step 117 = .ok (.ireturn, 1) := by decide +kernel
theorem dX10_state_0 : decode cX10_state 0 = .ok (.aload_n 0, 1) := by decide +kernel
theorem dX10_state_1 : decode cX10_state 1 = .ok (.iconst 0, 1) := by decide +kernel
theorem dX10_state_2 : decode cX10_state 2 = .ok (.putfield 153, 3) := by decide +kernel
theorem dX10_state_5 : decode cX10_state 5 = .ok (.aload_n 0, 1) := by decide +kernel
theorem dX10_state_6 : decode cX10_state 6 = .ok (.getfield 292, 3) := by decide +kernel
theorem dX10_state_9 : decode cX10_state 9 = .ok (.ifCond .eq 10, 3) := by decide +kernel
theorem dX10_state_12 : decode cX10_state 12 = .ok (.aload_n 0, 1) := by decide +kernel
theorem dX10_state_13 : decode cX10_state 13 = .ok (.getfield 280, 3) := by decide +kernel
theorem dX10_state_16 : decode cX10_state 16 = .ok (.goto 5, 3) := by decide +kernel
theorem dX10_state_19 : decode cX10_state 19 = .ok (.bipush (-3), 2) := by decide +kernel
theorem dX10_state_21 : decode cX10_state 21 = .ok (.ireturn, 1) := by decide +kernel
theorem dX10_error_0 : decode cX10_error 0 = .ok (.aload_n 0, 1) := by decide +kernel
theorem dX10_error_1 : decode cX10_error 1 = .ok (.iconst 0, 1) := by decide +kernel
theorem dX10_error_2 : decode cX10_error 2 = .ok (.putfield 153, 3) := by decide +kernel
theorem dX10_error_5 : decode cX10_error 5 = .ok (.aload_n 0, 1) := by decide +kernel
theorem dX10_error_6 : decode cX10_error 6 = .ok (.getfield 292, 3) := by decide +kernel
theorem dX10_error_9 : decode cX10_error 9 = .ok (.ifCond .eq 10, 3) := by decide +kernel
theorem dX10_error_12 : decode cX10_error 12 = .ok (.aload_n 0, 1) := by decide +kernel
theorem dX10_error_13 : decode cX10_error 13 = .ok (.getfield 283, 3) := by decide +kernel
theorem dX10_error_16 : decode cX10_error 16 = .ok (.goto 5, 3) := by decide +kernel
theorem dX10_error_19 : decode cX10_error 19 = .ok (.bipush (-3), 2) := by decide +kernel
theorem dX10_error_21 : decode cX10_error 21 = .ok (.ireturn, 1) := by decide +kernel
theorem dX10_next_0 : decode cX10_next 0 = .ok (.aload_n 0, 1) := by decide +kernel
theorem dX10_next_1 : decode cX10_next 1 = .ok (.iconst 0, 1) := by decide +kernel
theorem dX10_next_2 : decode cX10_next 2 = .ok (.putfield 153, 3) := by decide +kernel
theorem dX10_next_5 : decode cX10_next 5 = .ok (.aload_n 0, 1) := by decide +kernel
theorem dX10_next_6 : decode cX10_next 6 = .ok (.getfield 292, 3) := by decide +kernel
theorem dX10_next_9 : decode cX10_next 9 = .ok (.ifCond .eq 10, 3) := by decide +kernel
theorem dX10_next_12 : decode cX10_next 12 = .ok (.aload_n 0, 1) := by decide +kernel
theorem dX10_next_13 : decode cX10_next 13 = .ok (.invokevirtual 333, 3) := by decide +kernel
theorem dX10_next_16 : decode cX10_next 16 = .ok (.goto 5, 3) := by decide +kernel
theorem dX10_next_19 : decode cX10_next 19 = .ok (.bipush (-3), 2) := by decide +kernel
theorem dX10_next_21 : decode cX10_next 21 = .ok (.ireturn, 1) := by decide +kernel
theorem dX10_stopAt_0 : decode cX10_stopAt 0 = .ok (.aload_n 0, 1) := by decide +kernel
theorem dX10_stopAt_1 : decode cX10_stopAt 1 = .ok (.iconst 0, 1) := by decide +kernel
theorem dX10_stopAt_2 : decode cX10_stopAt 2 = .ok (.putfield 153, 3) := by decide +kernel
theorem dX10_stopAt_5 : decode cX10_stopAt 5 = .ok (.aload_n 0, 1) := by decide +kernel
theorem dX10_stopAt_6 : decode cX10_stopAt 6 = .ok (.getfield 292, 3) := by decide +kernel
theorem dX10_stopAt_9 : decode cX10_stopAt 9 = .ok (.ifCond .ne 6, 3) := by decide +kernel
theorem dX10_stopAt_12 : decode cX10_stopAt 12 = .ok (.bipush (-3), 2) := by decide +kernel
theorem dX10_stopAt_14 : decode cX10_stopAt 14 = .ok (.ireturn, 1) := by decide +kernel
theorem dX10_stopAt_15 : decode cX10_stopAt 15 = .ok (.iload_n 1, 1) := by decide +kernel
theorem dX10_stopAt_16 : decode cX10_stopAt 16 = .ok (.iconst (-1), 1) := by decide +kernel
theorem dX10_stopAt_17 : decode cX10_stopAt 17 = .ok (.aload_n 0, 1) := by decide +kernel
theorem dX10_stopAt_18 : decode cX10_stopAt 18 = .ok (.getfield 246, 3) := by decide +kernel
theorem dX10_stopAt_21 : decode cX10_stopAt 21 = .ok (.iconst 1, 1) := by decide +kernel
theorem dX10_stopAt_22 : decode cX10_stopAt 22 = .ok (.isub, 1) := by decide +kernel
theorem dX10_stopAt_23 : decode cX10_stopAt 23 = .ok (.invokestatic 160, 3) := by decide +kernel
theorem dX10_stopAt_26 : decode cX10_stopAt 26 = .ok (.ifCond .ne 5, 3) := by decide +kernel
theorem dX10_stopAt_29 : decode cX10_stopAt 29 = .ok (.iconst (-1), 1) := by decide +kernel
theorem dX10_stopAt_30 : decode cX10_stopAt 30 = .ok (.ireturn, 1) := by decide +kernel
theorem dX10_stopAt_31 : decode cX10_stopAt 31 = .ok (.aload_n 0, 1) := by decide +kernel
theorem dX10_stopAt_32 : decode cX10_stopAt 32 = .ok (.getfield 299, 3) := by decide +kernel
theorem dX10_stopAt_35 : decode cX10_stopAt 35 = .ok (.istore_n 2, 1) := by decide +kernel
theorem dX10_stopAt_36 : decode cX10_stopAt 36 = .ok (.aload_n 0, 1) := by decide +kernel
theorem dX10_stopAt_37 : decode cX10_stopAt 37 = .ok (.iload_n 1, 1) := by decide +kernel
theorem dX10_stopAt_38 : decode cX10_stopAt 38 = .ok (.putfield 299, 3) := by decide +kernel
theorem dX10_stopAt_41 : decode cX10_stopAt 41 = .ok (.iload_n 2, 1) := by decide +kernel
theorem dX10_stopAt_42 : decode cX10_stopAt 42 = .ok (.ireturn, 1) := by decide +kernel
theorem dX10_back_0 : decode cX10_back 0 = .ok (.aload_n 0, 1) := by decide +kernel
theorem dX10_back_1 : decode cX10_back 1 = .ok (.iconst 0, 1) := by decide +kernel
theorem dX10_back_2 : decode cX10_back 2 = .ok (.putfield 153, 3) := by decide +kernel
theorem dX10_back_5 : decode cX10_back 5 = .ok (.aload_n 0, 1) := by decide +kernel
theorem dX10_back_6 : decode cX10_back 6 = .ok (.getfield 292, 3) := by decide +kernel
theorem dX10_back_9 : decode cX10_back 9 = .ok (.ifCond .ne 6, 3) := by decide +kernel
theorem dX10_back_12 : decode cX10_back 12 = .ok (.bipush (-3), 2) := by decide +kernel
theorem dX10_back_14 : decode cX10_back 14 = .ok (.ireturn, 1) := by decide +kernel
theorem dX10_back_15 : decode cX10_back 15 = .ok (.iload_n 1, 1) := by decide +kernel
theorem dX10_back_16 : decode cX10_back 16 = .ok (.iconst 0, 1) := by decide +kernel
theorem dX10_back_17 : decode cX10_back 17 = .ok (.aload_n 0, 1) := by decide +kernel
theorem dX10_back_18 : decode cX10_back 18 = .ok (.getfield 277, 3) := by decide +kernel
theorem dX10_back_21 : decode cX10_back 21 = .ok (.invokestatic 160, 3) := by decide +kernel
theorem dX10_back_24 : decode cX10_back 24 = .ok (.ifCond .ne 5, 3) := by decide +kernel
theorem dX10_back_27 : decode cX10_back 27 = .ok (.iconst (-1), 1) := by decide +kernel
theorem dX10_back_28 : decode cX10_back 28 = .ok (.ireturn, 1) := by decide +kernel
theorem dX10_back_29 : decode cX10_back 29 = .ok (.aload_n 0, 1) := by decide +kernel
theorem dX10_back_30 : decode cX10_back 30 = .ok (.getfield 277, 3) := by decide +kernel
theorem dX10_back_33 : decode cX10_back 33 = .ok (.iload_n 1, 1) := by decide +kernel
theorem dX10_back_34 : decode cX10_back 34 = .ok (.isub, 1) := by decide +kernel
theorem dX10_back_35 : decode cX10_back 35 = .ok (.istore_n 2, 1) := by decide +kernel
theorem dX10_back_36 : decode cX10_back 36 = .ok (.iconst 0, 1) := by decide +kernel
theorem dX10_back_37 : decode cX10_back 37 = .ok (.istore_n 3, 1) := by decide +kernel
theorem dX10_back_38 : decode cX10_back 38 = .ok (.iload_n 3, 1) := by decide +kernel
theorem dX10_back_39 : decode cX10_back 39 = .ok (.aload_n 0, 1) := by decide +kernel
theorem dX10_back_40 : decode cX10_back 40 = .ok (.getfield 296, 3) := by decide +kernel
theorem dX10_back_43 : decode cX10_back 43 = .ok (.if_icmp .ge 19, 3) := by decide +kernel
theorem dX10_back_46 : decode cX10_back 46 = .ok (.aload_n 0, 1) := by decide +kernel
theorem dX10_back_47 : decode cX10_back 47 = .ok (.getfield 134, 3) := by decide +kernel
theorem dX10_back_50 : decode cX10_back 50 = .ok (.iload_n 3, 1) := by decide +kernel
theorem dX10_back_51 : decode cX10_back 51 = .ok (.iaload, 1) := by decide +kernel
theorem dX10_back_52 : decode cX10_back 52 = .ok (.iload_n 2, 1) := by decide +kernel
theorem dX10_back_53 : decode cX10_back 53 = .ok (.if_icmp .gt 9, 3) := by decide +kernel
theorem dX10_back_56 : decode cX10_back 56 = .ok (.iinc 3 1, 3) := by decide +kernel
theorem dX10_back_59 : decode cX10_back 59 = .ok (.goto (-21), 3) := by decide +kernel
theorem dX10_back_62 : decode cX10_back 62 = .ok (.iload_n 1, 1) := by decide +kernel
theorem dX10_back_63 : decode cX10_back 63 = .ok (.ifCond .le 94, 3) := by decide +kernel
theorem dX10_back_66 : decode cX10_back 66 = .ok (.aload_n 0, 1) := by decide +kernel
theorem dX10_back_67 : decode cX10_back 67 = .ok (.invokevirtual 302, 3) := by decide +kernel
theorem dX10_back_70 : decode cX10_back 70 = .ok (.aload_n 0, 1) := by decide +kernel
theorem dX10_back_71 : decode cX10_back 71 = .ok (.iload_n 3, 1) := by decide +kernel
theorem dX10_back_72 : decode cX10_back 72 = .ok (.putfield 296, 3) := by decide +kernel
theorem dX10_back_75 : decode cX10_back 75 = .ok (.iconst 0, 1) := by decide +kernel
theorem dX10_back_76 : decode cX10_back 76 = .ok (.istore 4, 2) := by decide +kernel
theorem dX10_back_78 : decode cX10_back 78 = .ok (.iconst 1, 1) := by decide +kernel
theorem dX10_back_79 : decode cX10_back 79 = .ok (.istore 5, 2) := by decide +kernel
theorem dX10_back_81 : decode cX10_back 81 = .ok (.iload 5, 2) := by decide +kernel
theorem dX10_back_83 : decode cX10_back 83 = .ok (.ifCond .eq 74, 3) := by decide +kernel
theorem dX10_back_86 : decode cX10_back 86 = .ok (.iload 4, 2) := by decide +kernel
theorem dX10_back_88 : decode cX10_back 88 = .ok (.aload_n 0, 1) := by decide +kernel
theorem dX10_back_89 : decode cX10_back 89 = .ok (.getfield 296, 3) := by decide +kernel
theorem dX10_back_92 : decode cX10_back 92 = .ok (.if_icmp .ge 28, 3) := by decide +kernel
theorem dX10_back_95 : decode cX10_back 95 = .ok (.aload_n 0, 1) := by decide +kernel
theorem dX10_back_96 : decode cX10_back 96 = .ok (.getfield 134, 3) := by decide +kernel
theorem dX10_back_99 : decode cX10_back 99 = .ok (.iload 4, 2) := by decide +kernel
theorem dX10_back_101 : decode cX10_back 101 = .ok (.iaload, 1) := by decide +kernel
theorem dX10_back_102 : decode cX10_back 102 = .ok (.aload_n 0, 1) := by decide +kernel
theorem dX10_back_103 : decode cX10_back 103 = .ok (.getfield 277, 3) := by decide +kernel
theorem dX10_back_106 : decode cX10_back 106 = .ok (.if_icmp .ne 14, 3) := by decide +kernel
theorem dX10_back_109 : decode cX10_back 109 = .ok (.aload_n 0, 1) := by decide +kernel
theorem dX10_back_110 : decode cX10_back 110 = .ok (.invokevirtual 353, 3) := by decide +kernel
theorem dX10_back_113 : decode cX10_back 113 = .ok (.pop, 1) := by decide +kernel
theorem dX10_back_114 : decode cX10_back 114 = .ok (.iinc 4 1, 3) := by decide +kernel
theorem dX10_back_117 : decode cX10_back 117 = .ok (.goto (-31), 3) := by decide +kernel
theorem dX10_back_120 : decode cX10_back 120 = .ok (.aload_n 0, 1) := by decide +kernel
theorem dX10_back_121 : decode cX10_back 121 = .ok (.getfield 277, 3) := by decide +kernel
theorem dX10_back_124 : decode cX10_back 124 = .ok (.iload_n 2, 1) := by decide +kernel
theorem dX10_back_125 : decode cX10_back 125 = .ok (.if_icmp .ge 7, 3) := by decide +kernel
theorem dX10_back_128 : decode cX10_back 128 = .ok (.iconst 1, 1) := by decide +kernel
theorem dX10_back_129 : decode cX10_back 129 = .ok (.goto 4, 3) := by decide +kernel
theorem dX10_back_132 : decode cX10_back 132 = .ok (.iconst 0, 1) := by decide +kernel
theorem dX10_back_133 : decode cX10_back 133 = .ok (.istore 5, 2) := by decide +kernel
theorem dX10_back_135 : decode cX10_back 135 = .ok (.iload 5, 2) := by decide +kernel
theorem dX10_back_137 : decode cX10_back 137 = .ok (.ifCond .eq 14, 3) := by decide +kernel
theorem dX10_back_140 : decode cX10_back 140 = .ok (.aload_n 0, 1) := by decide +kernel
theorem dX10_back_141 : decode cX10_back 141 = .ok (.invokevirtual 349, 3) := by decide +kernel
theorem dX10_back_144 : decode cX10_back 144 = .ok (.ifCond .eq 7, 3) := by decide +kernel
theorem dX10_back_147 : decode cX10_back 147 = .ok (.iconst 1, 1) := by decide +kernel
theorem dX10_back_148 : decode cX10_back 148 = .ok (.goto 4, 3) := by decide +kernel
theorem dX10_back_151 : decode cX10_back 151 = .ok (.iconst 0, 1) := by decide +kernel
theorem dX10_back_152 : decode cX10_back 152 = .ok (.istore 6, 2) := by decide +kernel
theorem dX10_back_154 : decode cX10_back 154 = .ok (.goto (-73), 3) := by decide +kernel
theorem dX10_back_157 : decode cX10_back 157 = .ok (.aload_n 0, 1) := by decide +kernel
theorem dX10_back_158 : decode cX10_back 158 = .ok (.iconst 0, 1) := by decide +kernel
theorem dX10_back_159 : decode cX10_back 159 = .ok (.putfield 280, 3) := by decide +kernel
theorem dX10_back_162 : decode cX10_back 162 = .ok (.aload_n 0, 1) := by decide +kernel
theorem dX10_back_163 : decode cX10_back 163 = .ok (.iconst 0, 1) := by decide +kernel
theorem dX10_back_164 : decode cX10_back 164 = .ok (.putfield 283, 3) := by decide +kernel
theorem dX10_back_167 : decode cX10_back 167 = .ok (.aload_n 0, 1) := by decide +kernel
theorem dX10_back_168 : decode cX10_back 168 = .ok (.getfield 277, 3) := by decide +kernel
theorem dX10_back_171 : decode cX10_back 171 = .ok (.ireturn, 1) := by decide +kernel
theorem dX10_keep_0 : decode cX10_keep 0 = .ok (.aload_n 0, 1) := by decide +kernel
theorem dX10_keep_1 : decode cX10_keep 1 = .ok (.getfield 143, 3) := by decide +kernel
theorem dX10_keep_4 : decode cX10_keep 4 = .ok (.iload_n 1, 1) := by decide +kernel
theorem dX10_keep_5 : decode cX10_keep 5 = .ok (.baload, 1) := by decide +kernel
theorem dX10_keep_6 : decode cX10_keep 6 = .ok (.ifCond .ne 30, 3) := by decide +kernel
theorem dX10_keep_9 : decode cX10_keep 9 = .ok (.aload_n 0, 1) := by decide +kernel
theorem dX10_keep_10 : decode cX10_keep 10 = .ok (.getfield 143, 3) := by decide +kernel
theorem dX10_keep_13 : decode cX10_keep 13 = .ok (.iload_n 1, 1) := by decide +kernel
theorem dX10_keep_14 : decode cX10_keep 14 = .ok (.iconst 1, 1) := by decide +kernel
theorem dX10_keep_15 : decode cX10_keep 15 = .ok (.bastore, 1) := by decide +kernel
theorem dX10_keep_16 : decode cX10_keep 16 = .ok (.aload_n 0, 1) := by decide +kernel
theorem dX10_keep_17 : decode cX10_keep 17 = .ok (.getfield 147, 3) := by decide +kernel
theorem dX10_keep_20 : decode cX10_keep 20 = .ok (.aload_n 0, 1) := by decide +kernel
theorem dX10_keep_21 : decode cX10_keep 21 = .ok (.getfield 356, 3) := by decide +kernel
theorem dX10_keep_24 : decode cX10_keep 24 = .ok (.iload_n 1, 1) := by decide +kernel
theorem dX10_keep_25 : decode cX10_keep 25 = .ok (.iastore, 1) := by decide +kernel
theorem dX10_keep_26 : decode cX10_keep 26 = .ok (.aload_n 0, 1) := by decide +kernel
theorem dX10_keep_27 : decode cX10_keep 27 = .ok (.dup, 1) := by decide +kernel
theorem dX10_keep_28 : decode cX10_keep 28 = .ok (.getfield 356, 3) := by decide +kernel
theorem dX10_keep_31 : decode cX10_keep 31 = .ok (.iconst 1, 1) := by decide +kernel
theorem dX10_keep_32 : decode cX10_keep 32 = .ok (.iadd, 1) := by decide +kernel
theorem dX10_keep_33 : decode cX10_keep 33 = .ok (.putfield 356, 3) := by decide +kernel
theorem dX10_keep_36 : decode cX10_keep 36 = .ok (.return_, 1) := by decide +kernel
theorem dX10_fields_0 : decode cX10_fields 0 = .ok (.iload_n 0, 1) := by decide +kernel
theorem dX10_fields_1 : decode cX10_fields 1 = .ok (.iconst 1, 1) := by decide +kernel
theorem dX10_fields_2 : decode cX10_fields 2 = .ok (.if_icmp .eq 8, 3) := by decide +kernel
theorem dX10_fields_5 : decode cX10_fields 5 = .ok (.iload_n 0, 1) := by decide +kernel
theorem dX10_fields_6 : decode cX10_fields 6 = .ok (.iconst 4, 1) := by decide +kernel
theorem dX10_fields_7 : decode cX10_fields 7 = .ok (.if_icmp .ne 7, 3) := by decide +kernel
theorem dX10_fields_10 : decode cX10_fields 10 = .ok (.iconst 2, 1) := by decide +kernel
theorem dX10_fields_11 : decode cX10_fields 11 = .ok (.goto 14, 3) := by decide +kernel
theorem dX10_fields_14 : decode cX10_fields 14 = .ok (.iload_n 0, 1) := by decide +kernel
theorem dX10_fields_15 : decode cX10_fields 15 = .ok (.bipush 6, 2) := by decide +kernel
theorem dX10_fields_17 : decode cX10_fields 17 = .ok (.if_icmp .ne 7, 3) := by decide +kernel
theorem dX10_fields_20 : decode cX10_fields 20 = .ok (.iconst 1, 1) := by decide +kernel
theorem dX10_fields_21 : decode cX10_fields 21 = .ok (.goto 4, 3) := by decide +kernel
theorem dX10_fields_24 : decode cX10_fields 24 = .ok (.iconst 0, 1) := by decide +kernel
theorem dX10_fields_25 : decode cX10_fields 25 = .ok (.ireturn, 1) := by decide +kernel
theorem dX10_findKept_0 : decode cX10_findKept 0 = .ok (.iconst 0, 1) := by decide +kernel
theorem dX10_findKept_1 : decode cX10_findKept 1 = .ok (.istore_n 1, 1) := by decide +kernel
theorem dX10_findKept_2 : decode cX10_findKept 2 = .ok (.iload_n 1, 1) := by decide +kernel
theorem dX10_findKept_3 : decode cX10_findKept 3 = .ok (.sipush 400, 3) := by decide +kernel
theorem dX10_findKept_6 : decode cX10_findKept 6 = .ok (.if_icmp .ge 16, 3) := by decide +kernel
theorem dX10_findKept_9 : decode cX10_findKept 9 = .ok (.aload_n 0, 1) := by decide +kernel
theorem dX10_findKept_10 : decode cX10_findKept 10 = .ok (.getfield 143, 3) := by decide +kernel
theorem dX10_findKept_13 : decode cX10_findKept 13 = .ok (.iload_n 1, 1) := by decide +kernel
theorem dX10_findKept_14 : decode cX10_findKept 14 = .ok (.iconst 0, 1) := by decide +kernel
theorem dX10_findKept_15 : decode cX10_findKept 15 = .ok (.bastore, 1) := by decide +kernel
theorem dX10_findKept_16 : decode cX10_findKept 16 = .ok (.iinc 1 1, 3) := by decide +kernel
theorem dX10_findKept_19 : decode cX10_findKept 19 = .ok (.goto (-17), 3) := by decide +kernel
theorem dX10_findKept_22 : decode cX10_findKept 22 = .ok (.aload_n 0, 1) := by decide +kernel
theorem dX10_findKept_23 : decode cX10_findKept 23 = .ok (.iconst 0, 1) := by decide +kernel
theorem dX10_findKept_24 : decode cX10_findKept 24 = .ok (.putfield 356, 3) := by decide +kernel
theorem dX10_findKept_27 : decode cX10_findKept 27 = .ok (.iconst 0, 1) := by decide +kernel
theorem dX10_findKept_28 : decode cX10_findKept 28 = .ok (.istore_n 1, 1) := by decide +kernel
theorem dX10_findKept_29 : decode cX10_findKept 29 = .ok (.iload_n 1, 1) := by decide +kernel
theorem dX10_findKept_30 : decode cX10_findKept 30 = .ok (.aload_n 0, 1) := by decide +kernel
theorem dX10_findKept_31 : decode cX10_findKept 31 = .ok (.getfield 246, 3) := by decide +kernel
theorem dX10_findKept_34 : decode cX10_findKept 34 = .ok (.if_icmp .ge 14, 3) := by decide +kernel
theorem dX10_findKept_37 : decode cX10_findKept 37 = .ok (.aload_n 0, 1) := by decide +kernel
theorem dX10_findKept_38 : decode cX10_findKept 38 = .ok (.iload_n 1, 1) := by decide +kernel
theorem dX10_findKept_39 : decode cX10_findKept 39 = .ok (.invokevirtual 359, 3) := by decide +kernel
theorem dX10_findKept_42 : decode cX10_findKept 42 = .ok (.iinc 1 1, 3) := by decide +kernel
theorem dX10_findKept_45 : decode cX10_findKept 45 = .ok (.goto (-16), 3) := by decide +kernel
theorem dX10_findKept_48 : decode cX10_findKept 48 = .ok (.iconst 0, 1) := by decide +kernel
theorem dX10_findKept_49 : decode cX10_findKept 49 = .ok (.istore_n 1, 1) := by decide +kernel
theorem dX10_findKept_50 : decode cX10_findKept 50 = .ok (.iload_n 1, 1) := by decide +kernel
theorem dX10_findKept_51 : decode cX10_findKept 51 = .ok (.aload_n 0, 1) := by decide +kernel
theorem dX10_findKept_52 : decode cX10_findKept 52 = .ok (.getfield 271, 3) := by decide +kernel
theorem dX10_findKept_55 : decode cX10_findKept 55 = .ok (.if_icmp .ge 19, 3) := by decide +kernel
theorem dX10_findKept_58 : decode cX10_findKept 58 = .ok (.aload_n 0, 1) := by decide +kernel
theorem dX10_findKept_59 : decode cX10_findKept 59 = .ok (.aload_n 0, 1) := by decide +kernel
theorem dX10_findKept_60 : decode cX10_findKept 60 = .ok (.getfield 128, 3) := by decide +kernel
theorem dX10_findKept_63 : decode cX10_findKept 63 = .ok (.iload_n 1, 1) := by decide +kernel
theorem dX10_findKept_64 : decode cX10_findKept 64 = .ok (.iaload, 1) := by decide +kernel
theorem dX10_findKept_65 : decode cX10_findKept 65 = .ok (.invokevirtual 359, 3) := by decide +kernel
theorem dX10_findKept_68 : decode cX10_findKept 68 = .ok (.iinc 1 1, 3) := by decide +kernel
theorem dX10_findKept_71 : decode cX10_findKept 71 = .ok (.goto (-21), 3) := by decide +kernel
theorem dX10_findKept_74 : decode cX10_findKept 74 = .ok (.iconst 0, 1) := by decide +kernel
theorem dX10_findKept_75 : decode cX10_findKept 75 = .ok (.istore_n 1, 1) := by decide +kernel
theorem dX10_findKept_76 : decode cX10_findKept 76 = .ok (.iload_n 1, 1) := by decide +kernel
theorem dX10_findKept_77 : decode cX10_findKept 77 = .ok (.aload_n 0, 1) := by decide +kernel
theorem dX10_findKept_78 : decode cX10_findKept 78 = .ok (.getfield 356, 3) := by decide +kernel
theorem dX10_findKept_81 : decode cX10_findKept 81 = .ok (.if_icmp .ge 61, 3) := by decide +kernel
theorem dX10_findKept_84 : decode cX10_findKept 84 = .ok (.aload_n 0, 1) := by decide +kernel
theorem dX10_findKept_85 : decode cX10_findKept 85 = .ok (.getfield 147, 3) := by decide +kernel
theorem dX10_findKept_88 : decode cX10_findKept 88 = .ok (.iload_n 1, 1) := by decide +kernel
theorem dX10_findKept_89 : decode cX10_findKept 89 = .ok (.iaload, 1) := by decide +kernel
theorem dX10_findKept_90 : decode cX10_findKept 90 = .ok (.istore_n 2, 1) := by decide +kernel
theorem dX10_findKept_91 : decode cX10_findKept 91 = .ok (.aload_n 0, 1) := by decide +kernel
theorem dX10_findKept_92 : decode cX10_findKept 92 = .ok (.getfield 110, 3) := by decide +kernel
theorem dX10_findKept_95 : decode cX10_findKept 95 = .ok (.iload_n 2, 1) := by decide +kernel
theorem dX10_findKept_96 : decode cX10_findKept 96 = .ok (.iaload, 1) := by decide +kernel
theorem dX10_findKept_97 : decode cX10_findKept 97 = .ok (.invokestatic 362, 3) := by decide +kernel
theorem dX10_findKept_100 : decode cX10_findKept 100 = .ok (.ifCond .le 13, 3) := by decide +kernel
theorem dX10_findKept_103 : decode cX10_findKept 103 = .ok (.aload_n 0, 1) := by decide +kernel
theorem dX10_findKept_104 : decode cX10_findKept 104 = .ok (.aload_n 0, 1) := by decide +kernel
theorem dX10_findKept_105 : decode cX10_findKept 105 = .ok (.getfield 113, 3) := by decide +kernel
theorem dX10_findKept_108 : decode cX10_findKept 108 = .ok (.iload_n 2, 1) := by decide +kernel
theorem dX10_findKept_109 : decode cX10_findKept 109 = .ok (.iaload, 1) := by decide +kernel
theorem dX10_findKept_110 : decode cX10_findKept 110 = .ok (.invokevirtual 359, 3) := by decide +kernel
theorem dX10_findKept_113 : decode cX10_findKept 113 = .ok (.aload_n 0, 1) := by decide +kernel
theorem dX10_findKept_114 : decode cX10_findKept 114 = .ok (.getfield 110, 3) := by decide +kernel
theorem dX10_findKept_117 : decode cX10_findKept 117 = .ok (.iload_n 2, 1) := by decide +kernel
theorem dX10_findKept_118 : decode cX10_findKept 118 = .ok (.iaload, 1) := by decide +kernel
theorem dX10_findKept_119 : decode cX10_findKept 119 = .ok (.invokestatic 362, 3) := by decide +kernel
theorem dX10_findKept_122 : decode cX10_findKept 122 = .ok (.iconst 1, 1) := by decide +kernel
theorem dX10_findKept_123 : decode cX10_findKept 123 = .ok (.if_icmp .le 13, 3) := by decide +kernel
theorem dX10_findKept_126 : decode cX10_findKept 126 = .ok (.aload_n 0, 1) := by decide +kernel
theorem dX10_findKept_127 : decode cX10_findKept 127 = .ok (.aload_n 0, 1) := by decide +kernel
theorem dX10_findKept_128 : decode cX10_findKept 128 = .ok (.getfield 116, 3) := by decide +kernel
theorem dX10_findKept_131 : decode cX10_findKept 131 = .ok (.iload_n 2, 1) := by decide +kernel
theorem dX10_findKept_132 : decode cX10_findKept 132 = .ok (.iaload, 1) := by decide +kernel
theorem dX10_findKept_133 : decode cX10_findKept 133 = .ok (.invokevirtual 359, 3) := by decide +kernel
theorem dX10_findKept_136 : decode cX10_findKept 136 = .ok (.iinc 1 1, 3) := by decide +kernel
theorem dX10_findKept_139 : decode cX10_findKept 139 = .ok (.goto (-63), 3) := by decide +kernel
theorem dX10_findKept_142 : decode cX10_findKept 142 = .ok (.aload_n 0, 1) := by decide +kernel
theorem dX10_findKept_143 : decode cX10_findKept 143 = .ok (.getfield 356, 3) := by decide +kernel
theorem dX10_findKept_146 : decode cX10_findKept 146 = .ok (.ireturn, 1) := by decide +kernel
theorem dX10_sweepAll_0 : decode cX10_sweepAll 0 = .ok (.aload_n 0, 1) := by decide +kernel
theorem dX10_sweepAll_1 : decode cX10_sweepAll 1 = .ok (.invokevirtual 365, 3) := by decide +kernel
theorem dX10_sweepAll_4 : decode cX10_sweepAll 4 = .ok (.istore_n 1, 1) := by decide +kernel
theorem dX10_sweepAll_5 : decode cX10_sweepAll 5 = .ok (.iconst 0, 1) := by decide +kernel
theorem dX10_sweepAll_6 : decode cX10_sweepAll 6 = .ok (.istore_n 2, 1) := by decide +kernel
theorem dX10_sweepAll_7 : decode cX10_sweepAll 7 = .ok (.iconst 0, 1) := by decide +kernel
theorem dX10_sweepAll_8 : decode cX10_sweepAll 8 = .ok (.istore_n 3, 1) := by decide +kernel
theorem dX10_sweepAll_9 : decode cX10_sweepAll 9 = .ok (.iload_n 3, 1) := by decide +kernel
theorem dX10_sweepAll_10 : decode cX10_sweepAll 10 = .ok (.sipush 400, 3) := by decide +kernel
theorem dX10_sweepAll_13 : decode cX10_sweepAll 13 = .ok (.if_icmp .ge 40, 3) := by decide +kernel
theorem dX10_sweepAll_16 : decode cX10_sweepAll 16 = .ok (.aload_n 0, 1) := by decide +kernel
theorem dX10_sweepAll_17 : decode cX10_sweepAll 17 = .ok (.getfield 110, 3) := by decide +kernel
theorem dX10_sweepAll_20 : decode cX10_sweepAll 20 = .ok (.iload_n 3, 1) := by decide +kernel
theorem dX10_sweepAll_21 : decode cX10_sweepAll 21 = .ok (.iaload, 1) := by decide +kernel
theorem dX10_sweepAll_22 : decode cX10_sweepAll 22 = .ok (.bipush 7, 2) := by decide +kernel
theorem dX10_sweepAll_24 : decode cX10_sweepAll 24 = .ok (.if_icmp .eq 23, 3) := by decide +kernel
theorem dX10_sweepAll_27 : decode cX10_sweepAll 27 = .ok (.aload_n 0, 1) := by decide +kernel
theorem dX10_sweepAll_28 : decode cX10_sweepAll 28 = .ok (.getfield 143, 3) := by decide +kernel
theorem dX10_sweepAll_31 : decode cX10_sweepAll 31 = .ok (.iload_n 3, 1) := by decide +kernel
theorem dX10_sweepAll_32 : decode cX10_sweepAll 32 = .ok (.baload, 1) := by decide +kernel
theorem dX10_sweepAll_33 : decode cX10_sweepAll 33 = .ok (.ifCond .ne 14, 3) := by decide +kernel
theorem dX10_sweepAll_36 : decode cX10_sweepAll 36 = .ok (.aload_n 0, 1) := by decide +kernel
theorem dX10_sweepAll_37 : decode cX10_sweepAll 37 = .ok (.getfield 110, 3) := by decide +kernel
theorem dX10_sweepAll_40 : decode cX10_sweepAll 40 = .ok (.iload_n 3, 1) := by decide +kernel
theorem dX10_sweepAll_41 : decode cX10_sweepAll 41 = .ok (.bipush 7, 2) := by decide +kernel
theorem dX10_sweepAll_43 : decode cX10_sweepAll 43 = .ok (.iastore, 1) := by decide +kernel
theorem dX10_sweepAll_44 : decode cX10_sweepAll 44 = .ok (.iinc 2 1, 3) := by decide +kernel
theorem dX10_sweepAll_47 : decode cX10_sweepAll 47 = .ok (.iinc 3 1, 3) := by decide +kernel
theorem dX10_sweepAll_50 : decode cX10_sweepAll 50 = .ok (.goto (-41), 3) := by decide +kernel
theorem dX10_sweepAll_53 : decode cX10_sweepAll 53 = .ok (.aload_n 0, 1) := by decide +kernel
theorem dX10_sweepAll_54 : decode cX10_sweepAll 54 = .ok (.dup, 1) := by decide +kernel
theorem dX10_sweepAll_55 : decode cX10_sweepAll 55 = .ok (.getfield 256, 3) := by decide +kernel
theorem dX10_sweepAll_58 : decode cX10_sweepAll 58 = .ok (.iload_n 2, 1) := by decide +kernel
theorem dX10_sweepAll_59 : decode cX10_sweepAll 59 = .ok (.isub, 1) := by decide +kernel
theorem dX10_sweepAll_60 : decode cX10_sweepAll 60 = .ok (.putfield 256, 3) := by decide +kernel
theorem dX10_sweepAll_63 : decode cX10_sweepAll 63 = .ok (.iload_n 2, 1) := by decide +kernel
theorem dX10_sweepAll_64 : decode cX10_sweepAll 64 = .ok (.ireturn, 1) := by decide +kernel
theorem dX10_sweep_0 : decode cX10_sweep 0 = .ok (.aload_n 0, 1) := by decide +kernel
theorem dX10_sweep_1 : decode cX10_sweep 1 = .ok (.iconst 0, 1) := by decide +kernel
theorem dX10_sweep_2 : decode cX10_sweep 2 = .ok (.putfield 153, 3) := by decide +kernel
theorem dX10_sweep_5 : decode cX10_sweep 5 = .ok (.aload_n 0, 1) := by decide +kernel
theorem dX10_sweep_6 : decode cX10_sweep 6 = .ok (.getfield 292, 3) := by decide +kernel
theorem dX10_sweep_9 : decode cX10_sweep 9 = .ok (.ifCond .ne 6, 3) := by decide +kernel
theorem dX10_sweep_12 : decode cX10_sweep 12 = .ok (.bipush (-3), 2) := by decide +kernel
theorem dX10_sweep_14 : decode cX10_sweep 14 = .ok (.ireturn, 1) := by decide +kernel
theorem dX10_sweep_15 : decode cX10_sweep 15 = .ok (.aload_n 0, 1) := by decide +kernel
theorem dX10_sweep_16 : decode cX10_sweep 16 = .ok (.invokevirtual 353, 3) := by decide +kernel
theorem dX10_sweep_19 : decode cX10_sweep 19 = .ok (.istore_n 1, 1) := by decide +kernel
theorem dX10_sweep_20 : decode cX10_sweep 20 = .ok (.iload_n 1, 1) := by decide +kernel
theorem dX10_sweep_21 : decode cX10_sweep 21 = .ok (.ifCond .le 26, 3) := by decide +kernel
theorem dX10_sweep_24 : decode cX10_sweep 24 = .ok (.aload_n 0, 1) := by decide +kernel
theorem dX10_sweep_25 : decode cX10_sweep 25 = .ok (.getfield 134, 3) := by decide +kernel
theorem dX10_sweep_28 : decode cX10_sweep 28 = .ok (.aload_n 0, 1) := by decide +kernel
theorem dX10_sweep_29 : decode cX10_sweep 29 = .ok (.getfield 296, 3) := by decide +kernel
theorem dX10_sweep_32 : decode cX10_sweep 32 = .ok (.aload_n 0, 1) := by decide +kernel
theorem dX10_sweep_33 : decode cX10_sweep 33 = .ok (.getfield 277, 3) := by decide +kernel
theorem dX10_sweep_36 : decode cX10_sweep 36 = .ok (.iastore, 1) := by decide +kernel
theorem dX10_sweep_37 : decode cX10_sweep 37 = .ok (.aload_n 0, 1) := by decide +kernel
theorem dX10_sweep_38 : decode cX10_sweep 38 = .ok (.dup, 1) := by decide +kernel
theorem dX10_sweep_39 : decode cX10_sweep 39 = .ok (.getfield 296, 3) := by decide +kernel
theorem dX10_sweep_42 : decode cX10_sweep 42 = .ok (.iconst 1, 1) := by decide +kernel
theorem dX10_sweep_43 : decode cX10_sweep 43 = .ok (.iadd, 1) := by decide +kernel
theorem dX10_sweep_44 : decode cX10_sweep 44 = .ok (.putfield 296, 3) := by decide +kernel
theorem dX10_sweep_47 : decode cX10_sweep 47 = .ok (.aload_n 0, 1) := by decide +kernel
theorem dX10_sweep_48 : decode cX10_sweep 48 = .ok (.iconst 0, 1) := by decide +kernel
theorem dX10_sweep_49 : decode cX10_sweep 49 = .ok (.putfield 280, 3) := by decide +kernel
theorem dX10_sweep_52 : decode cX10_sweep 52 = .ok (.aload_n 0, 1) := by decide +kernel
theorem dX10_sweep_53 : decode cX10_sweep 53 = .ok (.iconst 0, 1) := by decide +kernel
theorem dX10_sweep_54 : decode cX10_sweep 54 = .ok (.putfield 283, 3) := by decide +kernel
theorem dX10_sweep_57 : decode cX10_sweep 57 = .ok (.iload_n 1, 1) := by decide +kernel
theorem dX10_sweep_58 : decode cX10_sweep 58 = .ok (.ireturn, 1) := by decide +kernel
theorem dX10_count_0 : decode cX10_count 0 = .ok (.aload_n 0, 1) := by decide +kernel
theorem dX10_count_1 : decode cX10_count 1 = .ok (.iconst 0, 1) := by decide +kernel
theorem dX10_count_2 : decode cX10_count 2 = .ok (.putfield 153, 3) := by decide +kernel
theorem dX10_count_5 : decode cX10_count 5 = .ok (.aload_n 0, 1) := by decide +kernel
theorem dX10_count_6 : decode cX10_count 6 = .ok (.getfield 292, 3) := by decide +kernel
theorem dX10_count_9 : decode cX10_count 9 = .ok (.ifCond .ne 6, 3) := by decide +kernel
theorem dX10_count_12 : decode cX10_count 12 = .ok (.bipush (-3), 2) := by decide +kernel
theorem dX10_count_14 : decode cX10_count 14 = .ok (.ireturn, 1) := by decide +kernel
theorem dX10_count_15 : decode cX10_count 15 = .ok (.iload_n 1, 1) := by decide +kernel
theorem dX10_count_16 : decode cX10_count 16 = .ok (.tableswitch 81 0 6 #[44, 49, 54, 59, 66, 71, 76], 44) := by decide +kernel
theorem dX10_count_60 : decode cX10_count 60 = .ok (.aload_n 0, 1) := by decide +kernel
theorem dX10_count_61 : decode cX10_count 61 = .ok (.getfield 256, 3) := by decide +kernel
theorem dX10_count_64 : decode cX10_count 64 = .ok (.ireturn, 1) := by decide +kernel
theorem dX10_count_65 : decode cX10_count 65 = .ok (.aload_n 0, 1) := by decide +kernel
theorem dX10_count_66 : decode cX10_count 66 = .ok (.invokevirtual 365, 3) := by decide +kernel
theorem dX10_count_69 : decode cX10_count 69 = .ok (.ireturn, 1) := by decide +kernel
theorem dX10_count_70 : decode cX10_count 70 = .ok (.aload_n 0, 1) := by decide +kernel
theorem dX10_count_71 : decode cX10_count 71 = .ok (.invokevirtual 315, 3) := by decide +kernel
theorem dX10_count_74 : decode cX10_count 74 = .ok (.ireturn, 1) := by decide +kernel
theorem dX10_count_75 : decode cX10_count 75 = .ok (.aload_n 0, 1) := by decide +kernel
theorem dX10_count_76 : decode cX10_count 76 = .ok (.getfield 274, 3) := by decide +kernel
theorem dX10_count_79 : decode cX10_count 79 = .ok (.iconst 1, 1) := by decide +kernel
theorem dX10_count_80 : decode cX10_count 80 = .ok (.isub, 1) := by decide +kernel
theorem dX10_count_81 : decode cX10_count 81 = .ok (.ireturn, 1) := by decide +kernel
theorem dX10_count_82 : decode cX10_count 82 = .ok (.aload_n 0, 1) := by decide +kernel
theorem dX10_count_83 : decode cX10_count 83 = .ok (.getfield 277, 3) := by decide +kernel
theorem dX10_count_86 : decode cX10_count 86 = .ok (.ireturn, 1) := by decide +kernel
theorem dX10_count_87 : decode cX10_count 87 = .ok (.aload_n 0, 1) := by decide +kernel
theorem dX10_count_88 : decode cX10_count 88 = .ok (.getfield 262, 3) := by decide +kernel
theorem dX10_count_91 : decode cX10_count 91 = .ok (.ireturn, 1) := by decide +kernel
theorem dX10_count_92 : decode cX10_count 92 = .ok (.aload_n 0, 1) := by decide +kernel
theorem dX10_count_93 : decode cX10_count 93 = .ok (.getfield 259, 3) := by decide +kernel
theorem dX10_count_96 : decode cX10_count 96 = .ok (.ireturn, 1) := by decide +kernel
theorem dX10_count_97 : decode cX10_count 97 = .ok (.iconst (-1), 1) := by decide +kernel
theorem dX10_count_98 : decode cX10_count 98 = .ok (.ireturn, 1) := by decide +kernel
theorem dX10_isNode_0 : decode cX10_isNode 0 = .ok (.iload_n 1, 1) := by decide +kernel
theorem dX10_isNode_1 : decode cX10_isNode 1 = .ok (.iconst 0, 1) := by decide +kernel
theorem dX10_isNode_2 : decode cX10_isNode 2 = .ok (.sipush 399, 3) := by decide +kernel
theorem dX10_isNode_5 : decode cX10_isNode 5 = .ok (.invokestatic 160, 3) := by decide +kernel
theorem dX10_isNode_8 : decode cX10_isNode 8 = .ok (.ifCond .eq 18, 3) := by decide +kernel
theorem dX10_isNode_11 : decode cX10_isNode 11 = .ok (.aload_n 0, 1) := by decide +kernel
theorem dX10_isNode_12 : decode cX10_isNode 12 = .ok (.getfield 110, 3) := by decide +kernel
theorem dX10_isNode_15 : decode cX10_isNode 15 = .ok (.iload_n 1, 1) := by decide +kernel
theorem dX10_isNode_16 : decode cX10_isNode 16 = .ok (.iaload, 1) := by decide +kernel
theorem dX10_isNode_17 : decode cX10_isNode 17 = .ok (.bipush 7, 2) := by decide +kernel
theorem dX10_isNode_19 : decode cX10_isNode 19 = .ok (.if_icmp .eq 7, 3) := by decide +kernel
theorem dX10_isNode_22 : decode cX10_isNode 22 = .ok (.iconst 1, 1) := by decide +kernel
theorem dX10_isNode_23 : decode cX10_isNode 23 = .ok (.goto 4, 3) := by decide +kernel
theorem dX10_isNode_26 : decode cX10_isNode 26 = .ok (.iconst 0, 1) := by decide +kernel
theorem dX10_isNode_27 : decode cX10_isNode 27 = .ok (.ireturn, 1) := by decide +kernel
theorem dX10_holders_0 : decode cX10_holders 0 = .ok (.aload_n 0, 1) := by decide +kernel
theorem dX10_holders_1 : decode cX10_holders 1 = .ok (.invokevirtual 365, 3) := by decide +kernel
theorem dX10_holders_4 : decode cX10_holders 4 = .ok (.istore_n 2, 1) := by decide +kernel
theorem dX10_holders_5 : decode cX10_holders 5 = .ok (.iconst 0, 1) := by decide +kernel
theorem dX10_holders_6 : decode cX10_holders 6 = .ok (.istore_n 3, 1) := by decide +kernel
theorem dX10_holders_7 : decode cX10_holders 7 = .ok (.iconst 0, 1) := by decide +kernel
theorem dX10_holders_8 : decode cX10_holders 8 = .ok (.istore 4, 2) := by decide +kernel
theorem dX10_holders_10 : decode cX10_holders 10 = .ok (.iload 4, 2) := by decide +kernel
theorem dX10_holders_12 : decode cX10_holders 12 = .ok (.iload_n 2, 1) := by decide +kernel
theorem dX10_holders_13 : decode cX10_holders 13 = .ok (.if_icmp .ge 83, 3) := by decide +kernel
theorem dX10_holders_16 : decode cX10_holders 16 = .ok (.aload_n 0, 1) := by decide +kernel
theorem dX10_holders_17 : decode cX10_holders 17 = .ok (.getfield 147, 3) := by decide +kernel
theorem dX10_holders_20 : decode cX10_holders 20 = .ok (.iload 4, 2) := by decide +kernel
theorem dX10_holders_22 : decode cX10_holders 22 = .ok (.iaload, 1) := by decide +kernel
theorem dX10_holders_23 : decode cX10_holders 23 = .ok (.istore 5, 2) := by decide +kernel
theorem dX10_holders_25 : decode cX10_holders 25 = .ok (.iload_n 3, 1) := by decide +kernel
theorem dX10_holders_26 : decode cX10_holders 26 = .ok (.aload_n 0, 1) := by decide +kernel
theorem dX10_holders_27 : decode cX10_holders 27 = .ok (.getfield 110, 3) := by decide +kernel
theorem dX10_holders_30 : decode cX10_holders 30 = .ok (.iload 5, 2) := by decide +kernel
theorem dX10_holders_32 : decode cX10_holders 32 = .ok (.iaload, 1) := by decide +kernel
theorem dX10_holders_33 : decode cX10_holders 33 = .ok (.invokestatic 362, 3) := by decide +kernel
theorem dX10_holders_36 : decode cX10_holders 36 = .ok (.ifCond .le 18, 3) := by decide +kernel
theorem dX10_holders_39 : decode cX10_holders 39 = .ok (.aload_n 0, 1) := by decide +kernel
theorem dX10_holders_40 : decode cX10_holders 40 = .ok (.getfield 113, 3) := by decide +kernel
theorem dX10_holders_43 : decode cX10_holders 43 = .ok (.iload 5, 2) := by decide +kernel
theorem dX10_holders_45 : decode cX10_holders 45 = .ok (.iaload, 1) := by decide +kernel
theorem dX10_holders_46 : decode cX10_holders 46 = .ok (.iload_n 1, 1) := by decide +kernel
theorem dX10_holders_47 : decode cX10_holders 47 = .ok (.if_icmp .ne 7, 3) := by decide +kernel
theorem dX10_holders_50 : decode cX10_holders 50 = .ok (.iconst 1, 1) := by decide +kernel
theorem dX10_holders_51 : decode cX10_holders 51 = .ok (.goto 4, 3) := by decide +kernel
theorem dX10_holders_54 : decode cX10_holders 54 = .ok (.iconst 0, 1) := by decide +kernel
theorem dX10_holders_55 : decode cX10_holders 55 = .ok (.iadd, 1) := by decide +kernel
theorem dX10_holders_56 : decode cX10_holders 56 = .ok (.istore_n 3, 1) := by decide +kernel
theorem dX10_holders_57 : decode cX10_holders 57 = .ok (.iload_n 3, 1) := by decide +kernel
theorem dX10_holders_58 : decode cX10_holders 58 = .ok (.aload_n 0, 1) := by decide +kernel
theorem dX10_holders_59 : decode cX10_holders 59 = .ok (.getfield 110, 3) := by decide +kernel
theorem dX10_holders_62 : decode cX10_holders 62 = .ok (.iload 5, 2) := by decide +kernel
theorem dX10_holders_64 : decode cX10_holders 64 = .ok (.iaload, 1) := by decide +kernel
theorem dX10_holders_65 : decode cX10_holders 65 = .ok (.invokestatic 362, 3) := by decide +kernel
theorem dX10_holders_68 : decode cX10_holders 68 = .ok (.iconst 1, 1) := by decide +kernel
theorem dX10_holders_69 : decode cX10_holders 69 = .ok (.if_icmp .le 18, 3) := by decide +kernel
theorem dX10_holders_72 : decode cX10_holders 72 = .ok (.aload_n 0, 1) := by decide +kernel
theorem dX10_holders_73 : decode cX10_holders 73 = .ok (.getfield 116, 3) := by decide +kernel
theorem dX10_holders_76 : decode cX10_holders 76 = .ok (.iload 5, 2) := by decide +kernel
theorem dX10_holders_78 : decode cX10_holders 78 = .ok (.iaload, 1) := by decide +kernel
theorem dX10_holders_79 : decode cX10_holders 79 = .ok (.iload_n 1, 1) := by decide +kernel
theorem dX10_holders_80 : decode cX10_holders 80 = .ok (.if_icmp .ne 7, 3) := by decide +kernel
theorem dX10_holders_83 : decode cX10_holders 83 = .ok (.iconst 1, 1) := by decide +kernel
theorem dX10_holders_84 : decode cX10_holders 84 = .ok (.goto 4, 3) := by decide +kernel
theorem dX10_holders_87 : decode cX10_holders 87 = .ok (.iconst 0, 1) := by decide +kernel
theorem dX10_holders_88 : decode cX10_holders 88 = .ok (.iadd, 1) := by decide +kernel
theorem dX10_holders_89 : decode cX10_holders 89 = .ok (.istore_n 3, 1) := by decide +kernel
theorem dX10_holders_90 : decode cX10_holders 90 = .ok (.iinc 4 1, 3) := by decide +kernel
theorem dX10_holders_93 : decode cX10_holders 93 = .ok (.goto (-83), 3) := by decide +kernel
theorem dX10_holders_96 : decode cX10_holders 96 = .ok (.iconst 0, 1) := by decide +kernel
theorem dX10_holders_97 : decode cX10_holders 97 = .ok (.istore 4, 2) := by decide +kernel
theorem dX10_holders_99 : decode cX10_holders 99 = .ok (.iload 4, 2) := by decide +kernel
theorem dX10_holders_101 : decode cX10_holders 101 = .ok (.aload_n 0, 1) := by decide +kernel
theorem dX10_holders_102 : decode cX10_holders 102 = .ok (.getfield 271, 3) := by decide +kernel
theorem dX10_holders_105 : decode cX10_holders 105 = .ok (.if_icmp .ge 28, 3) := by decide +kernel
theorem dX10_holders_108 : decode cX10_holders 108 = .ok (.iload_n 3, 1) := by decide +kernel
theorem dX10_holders_109 : decode cX10_holders 109 = .ok (.aload_n 0, 1) := by decide +kernel
theorem dX10_holders_110 : decode cX10_holders 110 = .ok (.getfield 128, 3) := by decide +kernel
theorem dX10_holders_113 : decode cX10_holders 113 = .ok (.iload 4, 2) := by decide +kernel
theorem dX10_holders_115 : decode cX10_holders 115 = .ok (.iaload, 1) := by decide +kernel
theorem dX10_holders_116 : decode cX10_holders 116 = .ok (.iload_n 1, 1) := by decide +kernel
theorem dX10_holders_117 : decode cX10_holders 117 = .ok (.if_icmp .ne 7, 3) := by decide +kernel
theorem dX10_holders_120 : decode cX10_holders 120 = .ok (.iconst 1, 1) := by decide +kernel
theorem dX10_holders_121 : decode cX10_holders 121 = .ok (.goto 4, 3) := by decide +kernel
theorem dX10_holders_124 : decode cX10_holders 124 = .ok (.iconst 0, 1) := by decide +kernel
theorem dX10_holders_125 : decode cX10_holders 125 = .ok (.iadd, 1) := by decide +kernel
theorem dX10_holders_126 : decode cX10_holders 126 = .ok (.istore_n 3, 1) := by decide +kernel
theorem dX10_holders_127 : decode cX10_holders 127 = .ok (.iinc 4 1, 3) := by decide +kernel
theorem dX10_holders_130 : decode cX10_holders 130 = .ok (.goto (-31), 3) := by decide +kernel
theorem dX10_holders_133 : decode cX10_holders 133 = .ok (.iload_n 3, 1) := by decide +kernel
theorem dX10_holders_134 : decode cX10_holders 134 = .ok (.ireturn, 1) := by decide +kernel
theorem dX10_node__0 : decode cX10_node_ 0 = .ok (.aload_n 0, 1) := by decide +kernel
theorem dX10_node__1 : decode cX10_node_ 1 = .ok (.iconst 0, 1) := by decide +kernel
theorem dX10_node__2 : decode cX10_node_ 2 = .ok (.putfield 153, 3) := by decide +kernel
theorem dX10_node__5 : decode cX10_node_ 5 = .ok (.aload_n 0, 1) := by decide +kernel
theorem dX10_node__6 : decode cX10_node_ 6 = .ok (.getfield 292, 3) := by decide +kernel
theorem dX10_node__9 : decode cX10_node_ 9 = .ok (.ifCond .ne 6, 3) := by decide +kernel
theorem dX10_node__12 : decode cX10_node_ 12 = .ok (.bipush (-3), 2) := by decide +kernel
theorem dX10_node__14 : decode cX10_node_ 14 = .ok (.ireturn, 1) := by decide +kernel
theorem dX10_node__15 : decode cX10_node_ 15 = .ok (.aload_n 0, 1) := by decide +kernel
theorem dX10_node__16 : decode cX10_node_ 16 = .ok (.iload_n 1, 1) := by decide +kernel
theorem dX10_node__17 : decode cX10_node_ 17 = .ok (.invokevirtual 368, 3) := by decide +kernel
theorem dX10_node__20 : decode cX10_node_ 20 = .ok (.ifCond .eq 12, 3) := by decide +kernel
theorem dX10_node__23 : decode cX10_node_ 23 = .ok (.iload_n 2, 1) := by decide +kernel
theorem dX10_node__24 : decode cX10_node_ 24 = .ok (.iconst 0, 1) := by decide +kernel
theorem dX10_node__25 : decode cX10_node_ 25 = .ok (.iconst 5, 1) := by decide +kernel
theorem dX10_node__26 : decode cX10_node_ 26 = .ok (.invokestatic 160, 3) := by decide +kernel
theorem dX10_node__29 : decode cX10_node_ 29 = .ok (.ifCond .ne 5, 3) := by decide +kernel
theorem dX10_node__32 : decode cX10_node_ 32 = .ok (.iconst (-1), 1) := by decide +kernel
theorem dX10_node__33 : decode cX10_node_ 33 = .ok (.ireturn, 1) := by decide +kernel
theorem dX10_node__34 : decode cX10_node_ 34 = .ok (.iload_n 2, 1) := by decide +kernel
theorem dX10_node__35 : decode cX10_node_ 35 = .ok (.tableswitch 85 0 4 #[33, 40, 47, 72, 79], 33) := by decide +kernel
theorem dX10_node__68 : decode cX10_node_ 68 = .ok (.aload_n 0, 1) := by decide +kernel
theorem dX10_node__69 : decode cX10_node_ 69 = .ok (.getfield 110, 3) := by decide +kernel
theorem dX10_node__72 : decode cX10_node_ 72 = .ok (.iload_n 1, 1) := by decide +kernel
theorem dX10_node__73 : decode cX10_node_ 73 = .ok (.iaload, 1) := by decide +kernel
theorem dX10_node__74 : decode cX10_node_ 74 = .ok (.ireturn, 1) := by decide +kernel
theorem dX10_node__75 : decode cX10_node_ 75 = .ok (.aload_n 0, 1) := by decide +kernel
theorem dX10_node__76 : decode cX10_node_ 76 = .ok (.getfield 113, 3) := by decide +kernel
theorem dX10_node__79 : decode cX10_node_ 79 = .ok (.iload_n 1, 1) := by decide +kernel
theorem dX10_node__80 : decode cX10_node_ 80 = .ok (.iaload, 1) := by decide +kernel
theorem dX10_node__81 : decode cX10_node_ 81 = .ok (.ireturn, 1) := by decide +kernel
theorem dX10_node__82 : decode cX10_node_ 82 = .ok (.aload_n 0, 1) := by decide +kernel
theorem dX10_node__83 : decode cX10_node_ 83 = .ok (.getfield 110, 3) := by decide +kernel
theorem dX10_node__86 : decode cX10_node_ 86 = .ok (.iload_n 1, 1) := by decide +kernel
theorem dX10_node__87 : decode cX10_node_ 87 = .ok (.iaload, 1) := by decide +kernel
theorem dX10_node__88 : decode cX10_node_ 88 = .ok (.invokestatic 362, 3) := by decide +kernel
theorem dX10_node__91 : decode cX10_node_ 91 = .ok (.iconst 2, 1) := by decide +kernel
theorem dX10_node__92 : decode cX10_node_ 92 = .ok (.if_icmp .ne 12, 3) := by decide +kernel
theorem dX10_node__95 : decode cX10_node_ 95 = .ok (.aload_n 0, 1) := by decide +kernel
theorem dX10_node__96 : decode cX10_node_ 96 = .ok (.getfield 116, 3) := by decide +kernel
theorem dX10_node__99 : decode cX10_node_ 99 = .ok (.iload_n 1, 1) := by decide +kernel
theorem dX10_node__100 : decode cX10_node_ 100 = .ok (.iaload, 1) := by decide +kernel
theorem dX10_node__101 : decode cX10_node_ 101 = .ok (.goto 5, 3) := by decide +kernel
theorem dX10_node__104 : decode cX10_node_ 104 = .ok (.bipush (-3), 2) := by decide +kernel
theorem dX10_node__106 : decode cX10_node_ 106 = .ok (.ireturn, 1) := by decide +kernel
theorem dX10_node__107 : decode cX10_node_ 107 = .ok (.aload_n 0, 1) := by decide +kernel
theorem dX10_node__108 : decode cX10_node_ 108 = .ok (.getfield 119, 3) := by decide +kernel
theorem dX10_node__111 : decode cX10_node_ 111 = .ok (.iload_n 1, 1) := by decide +kernel
theorem dX10_node__112 : decode cX10_node_ 112 = .ok (.iaload, 1) := by decide +kernel
theorem dX10_node__113 : decode cX10_node_ 113 = .ok (.ireturn, 1) := by decide +kernel
theorem dX10_node__114 : decode cX10_node_ 114 = .ok (.aload_n 0, 1) := by decide +kernel
theorem dX10_node__115 : decode cX10_node_ 115 = .ok (.iload_n 1, 1) := by decide +kernel
theorem dX10_node__116 : decode cX10_node_ 116 = .ok (.invokevirtual 371, 3) := by decide +kernel
theorem dX10_node__119 : decode cX10_node_ 119 = .ok (.ireturn, 1) := by decide +kernel
theorem dX10_node__120 : decode cX10_node_ 120 = .ok (.aload_n 0, 1) := by decide +kernel
theorem dX10_node__121 : decode cX10_node_ 121 = .ok (.invokevirtual 365, 3) := by decide +kernel
theorem dX10_node__124 : decode cX10_node_ 124 = .ok (.istore_n 3, 1) := by decide +kernel
theorem dX10_node__125 : decode cX10_node_ 125 = .ok (.aload_n 0, 1) := by decide +kernel
theorem dX10_node__126 : decode cX10_node_ 126 = .ok (.getfield 143, 3) := by decide +kernel
theorem dX10_node__129 : decode cX10_node_ 129 = .ok (.iload_n 1, 1) := by decide +kernel
theorem dX10_node__130 : decode cX10_node_ 130 = .ok (.baload, 1) := by decide +kernel
theorem dX10_node__131 : decode cX10_node_ 131 = .ok (.ifCond .eq 7, 3) := by decide +kernel
theorem dX10_node__134 : decode cX10_node_ 134 = .ok (.iconst 1, 1) := by decide +kernel
theorem dX10_node__135 : decode cX10_node_ 135 = .ok (.goto 4, 3) := by decide +kernel
theorem dX10_node__138 : decode cX10_node_ 138 = .ok (.iconst 0, 1) := by decide +kernel
theorem dX10_node__139 : decode cX10_node_ 139 = .ok (.ireturn, 1) := by decide +kernel
theorem dX10_top_0 : decode cX10_top 0 = .ok (.aload_n 0, 1) := by decide +kernel
theorem dX10_top_1 : decode cX10_top 1 = .ok (.iconst 0, 1) := by decide +kernel
theorem dX10_top_2 : decode cX10_top 2 = .ok (.putfield 153, 3) := by decide +kernel
theorem dX10_top_5 : decode cX10_top 5 = .ok (.aload_n 0, 1) := by decide +kernel
theorem dX10_top_6 : decode cX10_top 6 = .ok (.getfield 292, 3) := by decide +kernel
theorem dX10_top_9 : decode cX10_top 9 = .ok (.ifCond .ne 6, 3) := by decide +kernel
theorem dX10_top_12 : decode cX10_top 12 = .ok (.bipush (-3), 2) := by decide +kernel
theorem dX10_top_14 : decode cX10_top 14 = .ok (.ireturn, 1) := by decide +kernel
theorem dX10_top_15 : decode cX10_top 15 = .ok (.iload_n 1, 1) := by decide +kernel
theorem dX10_top_16 : decode cX10_top 16 = .ok (.iconst 0, 1) := by decide +kernel
theorem dX10_top_17 : decode cX10_top 17 = .ok (.aload_n 0, 1) := by decide +kernel
theorem dX10_top_18 : decode cX10_top 18 = .ok (.invokevirtual 315, 3) := by decide +kernel
theorem dX10_top_21 : decode cX10_top 21 = .ok (.iconst 1, 1) := by decide +kernel
theorem dX10_top_22 : decode cX10_top 22 = .ok (.isub, 1) := by decide +kernel
theorem dX10_top_23 : decode cX10_top 23 = .ok (.invokestatic 160, 3) := by decide +kernel
theorem dX10_top_26 : decode cX10_top 26 = .ok (.ifCond .eq 19, 3) := by decide +kernel
theorem dX10_top_29 : decode cX10_top 29 = .ok (.aload_n 0, 1) := by decide +kernel
theorem dX10_top_30 : decode cX10_top 30 = .ok (.getfield 128, 3) := by decide +kernel
theorem dX10_top_33 : decode cX10_top 33 = .ok (.aload_n 0, 1) := by decide +kernel
theorem dX10_top_34 : decode cX10_top 34 = .ok (.getfield 271, 3) := by decide +kernel
theorem dX10_top_37 : decode cX10_top 37 = .ok (.iconst 1, 1) := by decide +kernel
theorem dX10_top_38 : decode cX10_top 38 = .ok (.isub, 1) := by decide +kernel
theorem dX10_top_39 : decode cX10_top 39 = .ok (.iload_n 1, 1) := by decide +kernel
theorem dX10_top_40 : decode cX10_top 40 = .ok (.isub, 1) := by decide +kernel
theorem dX10_top_41 : decode cX10_top 41 = .ok (.iaload, 1) := by decide +kernel
theorem dX10_top_42 : decode cX10_top 42 = .ok (.goto 4, 3) := by decide +kernel
theorem dX10_top_45 : decode cX10_top 45 = .ok (.iconst (-1), 1) := by decide +kernel
theorem dX10_top_46 : decode cX10_top 46 = .ok (.ireturn, 1) := by decide +kernel
theorem dX10_why_0 : decode cX10_why 0 = .ok (.aload_n 0, 1) := by decide +kernel
theorem dX10_why_1 : decode cX10_why 1 = .ok (.iconst 0, 1) := by decide +kernel
theorem dX10_why_2 : decode cX10_why 2 = .ok (.putfield 153, 3) := by decide +kernel
theorem dX10_why_5 : decode cX10_why 5 = .ok (.aload_n 0, 1) := by decide +kernel
theorem dX10_why_6 : decode cX10_why 6 = .ok (.getfield 292, 3) := by decide +kernel
theorem dX10_why_9 : decode cX10_why 9 = .ok (.ifCond .ne 6, 3) := by decide +kernel
theorem dX10_why_12 : decode cX10_why 12 = .ok (.bipush (-3), 2) := by decide +kernel
theorem dX10_why_14 : decode cX10_why 14 = .ok (.ireturn, 1) := by decide +kernel
theorem dX10_why_15 : decode cX10_why 15 = .ok (.iload_n 1, 1) := by decide +kernel
theorem dX10_why_16 : decode cX10_why 16 = .ok (.iconst 0, 1) := by decide +kernel
theorem dX10_why_17 : decode cX10_why 17 = .ok (.aload_n 0, 1) := by decide +kernel
theorem dX10_why_18 : decode cX10_why 18 = .ok (.getfield 274, 3) := by decide +kernel
theorem dX10_why_21 : decode cX10_why 21 = .ok (.iconst 2, 1) := by decide +kernel
theorem dX10_why_22 : decode cX10_why 22 = .ok (.isub, 1) := by decide +kernel
theorem dX10_why_23 : decode cX10_why 23 = .ok (.invokestatic 160, 3) := by decide +kernel
theorem dX10_why_26 : decode cX10_why 26 = .ok (.ifCond .eq 26, 3) := by decide +kernel
theorem dX10_why_29 : decode cX10_why 29 = .ok (.aload_n 0, 1) := by decide +kernel
theorem dX10_why_30 : decode cX10_why 30 = .ok (.getfield 128, 3) := by decide +kernel
theorem dX10_why_33 : decode cX10_why 33 = .ok (.aload_n 0, 1) := by decide +kernel
theorem dX10_why_34 : decode cX10_why 34 = .ok (.getfield 131, 3) := by decide +kernel
theorem dX10_why_37 : decode cX10_why 37 = .ok (.aload_n 0, 1) := by decide +kernel
theorem dX10_why_38 : decode cX10_why 38 = .ok (.getfield 274, 3) := by decide +kernel
theorem dX10_why_41 : decode cX10_why 41 = .ok (.iconst 1, 1) := by decide +kernel
theorem dX10_why_42 : decode cX10_why 42 = .ok (.isub, 1) := by decide +kernel
theorem dX10_why_43 : decode cX10_why 43 = .ok (.iload_n 1, 1) := by decide +kernel
theorem dX10_why_44 : decode cX10_why 44 = .ok (.isub, 1) := by decide +kernel
theorem dX10_why_45 : decode cX10_why 45 = .ok (.iaload, 1) := by decide +kernel
theorem dX10_why_46 : decode cX10_why 46 = .ok (.iconst 1, 1) := by decide +kernel
theorem dX10_why_47 : decode cX10_why 47 = .ok (.isub, 1) := by decide +kernel
theorem dX10_why_48 : decode cX10_why 48 = .ok (.iaload, 1) := by decide +kernel
theorem dX10_why_49 : decode cX10_why 49 = .ok (.goto 4, 3) := by decide +kernel
theorem dX10_why_52 : decode cX10_why 52 = .ok (.iconst (-1), 1) := by decide +kernel
theorem dX10_why_53 : decode cX10_why 53 = .ok (.ireturn, 1) := by decide +kernel
theorem dX10_way_0 : decode cX10_way 0 = .ok (.aload_n 0, 1) := by decide +kernel
theorem dX10_way_1 : decode cX10_way 1 = .ok (.iconst 0, 1) := by decide +kernel
theorem dX10_way_2 : decode cX10_way 2 = .ok (.putfield 153, 3) := by decide +kernel
theorem dX10_way_5 : decode cX10_way 5 = .ok (.aload_n 0, 1) := by decide +kernel
theorem dX10_way_6 : decode cX10_way 6 = .ok (.getfield 292, 3) := by decide +kernel
theorem dX10_way_9 : decode cX10_way 9 = .ok (.ifCond .ne 6, 3) := by decide +kernel
theorem dX10_way_12 : decode cX10_way 12 = .ok (.bipush (-3), 2) := by decide +kernel
theorem dX10_way_14 : decode cX10_way 14 = .ok (.ireturn, 1) := by decide +kernel
theorem dX10_way_15 : decode cX10_way 15 = .ok (.aload_n 0, 1) := by decide +kernel
theorem dX10_way_16 : decode cX10_way 16 = .ok (.iload_n 1, 1) := by decide +kernel
theorem dX10_way_17 : decode cX10_way 17 = .ok (.invokevirtual 368, 3) := by decide +kernel
theorem dX10_way_20 : decode cX10_way 20 = .ok (.ifCond .eq 10, 3) := by decide +kernel
theorem dX10_way_23 : decode cX10_way 23 = .ok (.aload_n 0, 1) := by decide +kernel
theorem dX10_way_24 : decode cX10_way 24 = .ok (.invokevirtual 365, 3) := by decide +kernel
theorem dX10_way_27 : decode cX10_way 27 = .ok (.goto 4, 3) := by decide +kernel
theorem dX10_way_30 : decode cX10_way 30 = .ok (.iconst 0, 1) := by decide +kernel
theorem dX10_way_31 : decode cX10_way 31 = .ok (.istore_n 3, 1) := by decide +kernel
theorem dX10_way_32 : decode cX10_way 32 = .ok (.aload_n 0, 1) := by decide +kernel
theorem dX10_way_33 : decode cX10_way 33 = .ok (.iload_n 1, 1) := by decide +kernel
theorem dX10_way_34 : decode cX10_way 34 = .ok (.invokevirtual 368, 3) := by decide +kernel
theorem dX10_way_37 : decode cX10_way 37 = .ok (.ifCond .eq 17, 3) := by decide +kernel
theorem dX10_way_40 : decode cX10_way 40 = .ok (.aload_n 0, 1) := by decide +kernel
theorem dX10_way_41 : decode cX10_way 41 = .ok (.getfield 143, 3) := by decide +kernel
theorem dX10_way_44 : decode cX10_way 44 = .ok (.iload_n 1, 1) := by decide +kernel
theorem dX10_way_45 : decode cX10_way 45 = .ok (.baload, 1) := by decide +kernel
theorem dX10_way_46 : decode cX10_way 46 = .ok (.ifCond .eq 8, 3) := by decide +kernel
theorem dX10_way_49 : decode cX10_way 49 = .ok (.iload_n 2, 1) := by decide +kernel
theorem dX10_way_50 : decode cX10_way 50 = .ok (.iconst (-1), 1) := by decide +kernel
theorem dX10_way_51 : decode cX10_way 51 = .ok (.if_icmp .ge 5, 3) := by decide +kernel
theorem dX10_way_54 : decode cX10_way 54 = .ok (.iconst (-1), 1) := by decide +kernel
theorem dX10_way_55 : decode cX10_way 55 = .ok (.ireturn, 1) := by decide +kernel
theorem dX10_way_56 : decode cX10_way 56 = .ok (.iconst 0, 1) := by decide +kernel
theorem dX10_way_57 : decode cX10_way 57 = .ok (.istore 4, 2) := by decide +kernel
theorem dX10_way_59 : decode cX10_way 59 = .ok (.iload 4, 2) := by decide +kernel
theorem dX10_way_61 : decode cX10_way 61 = .ok (.sipush 400, 3) := by decide +kernel
theorem dX10_way_64 : decode cX10_way 64 = .ok (.if_icmp .ge 17, 3) := by decide +kernel
theorem dX10_way_67 : decode cX10_way 67 = .ok (.aload_n 0, 1) := by decide +kernel
theorem dX10_way_68 : decode cX10_way 68 = .ok (.getfield 150, 3) := by decide +kernel
theorem dX10_way_71 : decode cX10_way 71 = .ok (.iload 4, 2) := by decide +kernel
theorem dX10_way_73 : decode cX10_way 73 = .ok (.iconst (-1), 1) := by decide +kernel
theorem dX10_way_74 : decode cX10_way 74 = .ok (.iastore, 1) := by decide +kernel
theorem dX10_way_75 : decode cX10_way 75 = .ok (.iinc 4 1, 3) := by decide +kernel
theorem dX10_way_78 : decode cX10_way 78 = .ok (.goto (-19), 3) := by decide +kernel
theorem dX10_way_81 : decode cX10_way 81 = .ok (.aload_n 0, 1) := by decide +kernel
theorem dX10_way_82 : decode cX10_way 82 = .ok (.getfield 150, 3) := by decide +kernel
theorem dX10_way_85 : decode cX10_way 85 = .ok (.iload_n 1, 1) := by decide +kernel
theorem dX10_way_86 : decode cX10_way 86 = .ok (.iconst 1, 1) := by decide +kernel
theorem dX10_way_87 : decode cX10_way 87 = .ok (.iastore, 1) := by decide +kernel
theorem dX10_way_88 : decode cX10_way 88 = .ok (.iconst 1, 1) := by decide +kernel
theorem dX10_way_89 : decode cX10_way 89 = .ok (.istore 4, 2) := by decide +kernel
theorem dX10_way_91 : decode cX10_way 91 = .ok (.iconst 1, 1) := by decide +kernel
theorem dX10_way_92 : decode cX10_way 92 = .ok (.istore 5, 2) := by decide +kernel
theorem dX10_way_94 : decode cX10_way 94 = .ok (.iload 4, 2) := by decide +kernel
theorem dX10_way_96 : decode cX10_way 96 = .ok (.ifCond .eq 126, 3) := by decide +kernel
theorem dX10_way_99 : decode cX10_way 99 = .ok (.iconst 0, 1) := by decide +kernel
theorem dX10_way_100 : decode cX10_way 100 = .ok (.istore 4, 2) := by decide +kernel
theorem dX10_way_102 : decode cX10_way 102 = .ok (.iconst 0, 1) := by decide +kernel
theorem dX10_way_103 : decode cX10_way 103 = .ok (.istore 6, 2) := by decide +kernel
theorem dX10_way_105 : decode cX10_way 105 = .ok (.iload 6, 2) := by decide +kernel
theorem dX10_way_107 : decode cX10_way 107 = .ok (.sipush 400, 3) := by decide +kernel
theorem dX10_way_110 : decode cX10_way 110 = .ok (.if_icmp .ge 106, 3) := by decide +kernel
theorem dX10_way_113 : decode cX10_way 113 = .ok (.aload_n 0, 1) := by decide +kernel
theorem dX10_way_114 : decode cX10_way 114 = .ok (.getfield 110, 3) := by decide +kernel
theorem dX10_way_117 : decode cX10_way 117 = .ok (.iload 6, 2) := by decide +kernel
theorem dX10_way_119 : decode cX10_way 119 = .ok (.iaload, 1) := by decide +kernel
theorem dX10_way_120 : decode cX10_way 120 = .ok (.bipush 7, 2) := by decide +kernel
theorem dX10_way_122 : decode cX10_way 122 = .ok (.if_icmp .eq 88, 3) := by decide +kernel
theorem dX10_way_125 : decode cX10_way 125 = .ok (.aload_n 0, 1) := by decide +kernel
theorem dX10_way_126 : decode cX10_way 126 = .ok (.getfield 150, 3) := by decide +kernel
theorem dX10_way_129 : decode cX10_way 129 = .ok (.iload 6, 2) := by decide +kernel
theorem dX10_way_131 : decode cX10_way 131 = .ok (.iaload, 1) := by decide +kernel
theorem dX10_way_132 : decode cX10_way 132 = .ok (.ifCond .ge 78, 3) := by decide +kernel
theorem dX10_way_135 : decode cX10_way 135 = .ok (.aload_n 0, 1) := by decide +kernel
theorem dX10_way_136 : decode cX10_way 136 = .ok (.getfield 110, 3) := by decide +kernel
theorem dX10_way_139 : decode cX10_way 139 = .ok (.iload 6, 2) := by decide +kernel
theorem dX10_way_141 : decode cX10_way 141 = .ok (.iaload, 1) := by decide +kernel
theorem dX10_way_142 : decode cX10_way 142 = .ok (.invokestatic 362, 3) := by decide +kernel
theorem dX10_way_145 : decode cX10_way 145 = .ok (.ifCond .le 20, 3) := by decide +kernel
theorem dX10_way_148 : decode cX10_way 148 = .ok (.aload_n 0, 1) := by decide +kernel
theorem dX10_way_149 : decode cX10_way 149 = .ok (.getfield 150, 3) := by decide +kernel
theorem dX10_way_152 : decode cX10_way 152 = .ok (.aload_n 0, 1) := by decide +kernel
theorem dX10_way_153 : decode cX10_way 153 = .ok (.getfield 113, 3) := by decide +kernel
theorem dX10_way_156 : decode cX10_way 156 = .ok (.iload 6, 2) := by decide +kernel
theorem dX10_way_158 : decode cX10_way 158 = .ok (.iaload, 1) := by decide +kernel
theorem dX10_way_159 : decode cX10_way 159 = .ok (.iaload, 1) := by decide +kernel
theorem dX10_way_160 : decode cX10_way 160 = .ok (.iload 5, 2) := by decide +kernel
theorem dX10_way_162 : decode cX10_way 162 = .ok (.if_icmp .eq 34, 3) := by decide +kernel
theorem dX10_way_165 : decode cX10_way 165 = .ok (.aload_n 0, 1) := by decide +kernel
theorem dX10_way_166 : decode cX10_way 166 = .ok (.getfield 110, 3) := by decide +kernel
theorem dX10_way_169 : decode cX10_way 169 = .ok (.iload 6, 2) := by decide +kernel
theorem dX10_way_171 : decode cX10_way 171 = .ok (.iaload, 1) := by decide +kernel
theorem dX10_way_172 : decode cX10_way 172 = .ok (.invokestatic 362, 3) := by decide +kernel
theorem dX10_way_175 : decode cX10_way 175 = .ok (.iconst 1, 1) := by decide +kernel
theorem dX10_way_176 : decode cX10_way 176 = .ok (.if_icmp .le 34, 3) := by decide +kernel
theorem dX10_way_179 : decode cX10_way 179 = .ok (.aload_n 0, 1) := by decide +kernel
theorem dX10_way_180 : decode cX10_way 180 = .ok (.getfield 150, 3) := by decide +kernel
theorem dX10_way_183 : decode cX10_way 183 = .ok (.aload_n 0, 1) := by decide +kernel
theorem dX10_way_184 : decode cX10_way 184 = .ok (.getfield 116, 3) := by decide +kernel
theorem dX10_way_187 : decode cX10_way 187 = .ok (.iload 6, 2) := by decide +kernel
theorem dX10_way_189 : decode cX10_way 189 = .ok (.iaload, 1) := by decide +kernel
theorem dX10_way_190 : decode cX10_way 190 = .ok (.iaload, 1) := by decide +kernel
theorem dX10_way_191 : decode cX10_way 191 = .ok (.iload 5, 2) := by decide +kernel
theorem dX10_way_193 : decode cX10_way 193 = .ok (.if_icmp .ne 17, 3) := by decide +kernel
theorem dX10_way_196 : decode cX10_way 196 = .ok (.aload_n 0, 1) := by decide +kernel
theorem dX10_way_197 : decode cX10_way 197 = .ok (.getfield 150, 3) := by decide +kernel
theorem dX10_way_200 : decode cX10_way 200 = .ok (.iload 6, 2) := by decide +kernel
theorem dX10_way_202 : decode cX10_way 202 = .ok (.iload 5, 2) := by decide +kernel
theorem dX10_way_204 : decode cX10_way 204 = .ok (.iconst 1, 1) := by decide +kernel
theorem dX10_way_205 : decode cX10_way 205 = .ok (.iadd, 1) := by decide +kernel
theorem dX10_way_206 : decode cX10_way 206 = .ok (.iastore, 1) := by decide +kernel
theorem dX10_way_207 : decode cX10_way 207 = .ok (.iconst 1, 1) := by decide +kernel
theorem dX10_way_208 : decode cX10_way 208 = .ok (.istore 4, 2) := by decide +kernel
theorem dX10_way_210 : decode cX10_way 210 = .ok (.iinc 6 1, 3) := by decide +kernel
theorem dX10_way_213 : decode cX10_way 213 = .ok (.goto (-108), 3) := by decide +kernel
theorem dX10_way_216 : decode cX10_way 216 = .ok (.iinc 5 1, 3) := by decide +kernel
theorem dX10_way_219 : decode cX10_way 219 = .ok (.goto (-125), 3) := by decide +kernel
theorem dX10_way_222 : decode cX10_way 222 = .ok (.iconst (-1), 1) := by decide +kernel
theorem dX10_way_223 : decode cX10_way 223 = .ok (.istore 5, 2) := by decide +kernel
theorem dX10_way_225 : decode cX10_way 225 = .ok (.iconst 0, 1) := by decide +kernel
theorem dX10_way_226 : decode cX10_way 226 = .ok (.istore 6, 2) := by decide +kernel
theorem dX10_way_228 : decode cX10_way 228 = .ok (.iload 6, 2) := by decide +kernel
theorem dX10_way_230 : decode cX10_way 230 = .ok (.sipush 400, 3) := by decide +kernel
theorem dX10_way_233 : decode cX10_way 233 = .ok (.if_icmp .ge 54, 3) := by decide +kernel
theorem dX10_way_236 : decode cX10_way 236 = .ok (.aload_n 0, 1) := by decide +kernel
theorem dX10_way_237 : decode cX10_way 237 = .ok (.iload 6, 2) := by decide +kernel
theorem dX10_way_239 : decode cX10_way 239 = .ok (.invokevirtual 374, 3) := by decide +kernel
theorem dX10_way_242 : decode cX10_way 242 = .ok (.ifCond .eq 39, 3) := by decide +kernel
theorem dX10_way_245 : decode cX10_way 245 = .ok (.aload_n 0, 1) := by decide +kernel
theorem dX10_way_246 : decode cX10_way 246 = .ok (.getfield 150, 3) := by decide +kernel
theorem dX10_way_249 : decode cX10_way 249 = .ok (.iload 6, 2) := by decide +kernel
theorem dX10_way_251 : decode cX10_way 251 = .ok (.iaload, 1) := by decide +kernel
theorem dX10_way_252 : decode cX10_way 252 = .ok (.ifCond .le 29, 3) := by decide +kernel
theorem dX10_way_255 : decode cX10_way 255 = .ok (.iload 5, 2) := by decide +kernel
theorem dX10_way_257 : decode cX10_way 257 = .ok (.ifCond .lt 20, 3) := by decide +kernel
theorem dX10_way_260 : decode cX10_way 260 = .ok (.aload_n 0, 1) := by decide +kernel
theorem dX10_way_261 : decode cX10_way 261 = .ok (.getfield 150, 3) := by decide +kernel
theorem dX10_way_264 : decode cX10_way 264 = .ok (.iload 6, 2) := by decide +kernel
theorem dX10_way_266 : decode cX10_way 266 = .ok (.iaload, 1) := by decide +kernel
theorem dX10_way_267 : decode cX10_way 267 = .ok (.aload_n 0, 1) := by decide +kernel
theorem dX10_way_268 : decode cX10_way 268 = .ok (.getfield 150, 3) := by decide +kernel
theorem dX10_way_271 : decode cX10_way 271 = .ok (.iload 5, 2) := by decide +kernel
theorem dX10_way_273 : decode cX10_way 273 = .ok (.iaload, 1) := by decide +kernel
theorem dX10_way_274 : decode cX10_way 274 = .ok (.if_icmp .ge 7, 3) := by decide +kernel
theorem dX10_way_277 : decode cX10_way 277 = .ok (.iload 6, 2) := by decide +kernel
theorem dX10_way_279 : decode cX10_way 279 = .ok (.istore 5, 2) := by decide +kernel
theorem dX10_way_281 : decode cX10_way 281 = .ok (.iinc 6 1, 3) := by decide +kernel
theorem dX10_way_284 : decode cX10_way 284 = .ok (.goto (-56), 3) := by decide +kernel
theorem dX10_way_287 : decode cX10_way 287 = .ok (.iload_n 2, 1) := by decide +kernel
theorem dX10_way_288 : decode cX10_way 288 = .ok (.aload_n 0, 1) := by decide +kernel
theorem dX10_way_289 : decode cX10_way 289 = .ok (.getfield 150, 3) := by decide +kernel
theorem dX10_way_292 : decode cX10_way 292 = .ok (.iload 5, 2) := by decide +kernel
theorem dX10_way_294 : decode cX10_way 294 = .ok (.iaload, 1) := by decide +kernel
theorem dX10_way_295 : decode cX10_way 295 = .ok (.if_icmp .lt 5, 3) := by decide +kernel
theorem dX10_way_298 : decode cX10_way 298 = .ok (.iconst (-1), 1) := by decide +kernel
theorem dX10_way_299 : decode cX10_way 299 = .ok (.ireturn, 1) := by decide +kernel
theorem dX10_way_300 : decode cX10_way 300 = .ok (.iload_n 2, 1) := by decide +kernel
theorem dX10_way_301 : decode cX10_way 301 = .ok (.ifCond .ge 11, 3) := by decide +kernel
theorem dX10_way_304 : decode cX10_way 304 = .ok (.aload_n 0, 1) := by decide +kernel
theorem dX10_way_305 : decode cX10_way 305 = .ok (.getfield 150, 3) := by decide +kernel
theorem dX10_way_308 : decode cX10_way 308 = .ok (.iload 5, 2) := by decide +kernel
theorem dX10_way_310 : decode cX10_way 310 = .ok (.iaload, 1) := by decide +kernel
theorem dX10_way_311 : decode cX10_way 311 = .ok (.ireturn, 1) := by decide +kernel
theorem dX10_way_312 : decode cX10_way 312 = .ok (.iconst 0, 1) := by decide +kernel
theorem dX10_way_313 : decode cX10_way 313 = .ok (.istore 6, 2) := by decide +kernel
theorem dX10_way_315 : decode cX10_way 315 = .ok (.iload 6, 2) := by decide +kernel
theorem dX10_way_317 : decode cX10_way 317 = .ok (.iload_n 2, 1) := by decide +kernel
theorem dX10_way_318 : decode cX10_way 318 = .ok (.if_icmp .ge 139, 3) := by decide +kernel
theorem dX10_way_321 : decode cX10_way 321 = .ok (.aload_n 0, 1) := by decide +kernel
theorem dX10_way_322 : decode cX10_way 322 = .ok (.getfield 113, 3) := by decide +kernel
theorem dX10_way_325 : decode cX10_way 325 = .ok (.iload 5, 2) := by decide +kernel
theorem dX10_way_327 : decode cX10_way 327 = .ok (.iaload, 1) := by decide +kernel
theorem dX10_way_328 : decode cX10_way 328 = .ok (.istore 7, 2) := by decide +kernel
theorem dX10_way_330 : decode cX10_way 330 = .ok (.aload_n 0, 1) := by decide +kernel
theorem dX10_way_331 : decode cX10_way 331 = .ok (.getfield 110, 3) := by decide +kernel
theorem dX10_way_334 : decode cX10_way 334 = .ok (.iload 5, 2) := by decide +kernel
theorem dX10_way_336 : decode cX10_way 336 = .ok (.iaload, 1) := by decide +kernel
theorem dX10_way_337 : decode cX10_way 337 = .ok (.invokestatic 362, 3) := by decide +kernel
theorem dX10_way_340 : decode cX10_way 340 = .ok (.iconst 1, 1) := by decide +kernel
theorem dX10_way_341 : decode cX10_way 341 = .ok (.if_icmp .le 13, 3) := by decide +kernel
theorem dX10_way_344 : decode cX10_way 344 = .ok (.aload_n 0, 1) := by decide +kernel
theorem dX10_way_345 : decode cX10_way 345 = .ok (.getfield 116, 3) := by decide +kernel
theorem dX10_way_348 : decode cX10_way 348 = .ok (.iload 5, 2) := by decide +kernel
theorem dX10_way_350 : decode cX10_way 350 = .ok (.iaload, 1) := by decide +kernel
theorem dX10_way_351 : decode cX10_way 351 = .ok (.goto 5, 3) := by decide +kernel
theorem dX10_way_354 : decode cX10_way 354 = .ok (.iload 7, 2) := by decide +kernel
theorem dX10_way_356 : decode cX10_way 356 = .ok (.istore 8, 2) := by decide +kernel
theorem dX10_way_358 : decode cX10_way 358 = .ok (.aload_n 0, 1) := by decide +kernel
theorem dX10_way_359 : decode cX10_way 359 = .ok (.getfield 150, 3) := by decide +kernel
theorem dX10_way_362 : decode cX10_way 362 = .ok (.iload 7, 2) := by decide +kernel
theorem dX10_way_364 : decode cX10_way 364 = .ok (.iaload, 1) := by decide +kernel
theorem dX10_way_365 : decode cX10_way 365 = .ok (.aload_n 0, 1) := by decide +kernel
theorem dX10_way_366 : decode cX10_way 366 = .ok (.getfield 150, 3) := by decide +kernel
theorem dX10_way_369 : decode cX10_way 369 = .ok (.iload 5, 2) := by decide +kernel
theorem dX10_way_371 : decode cX10_way 371 = .ok (.iaload, 1) := by decide +kernel
theorem dX10_way_372 : decode cX10_way 372 = .ok (.iconst 1, 1) := by decide +kernel
theorem dX10_way_373 : decode cX10_way 373 = .ok (.isub, 1) := by decide +kernel
theorem dX10_way_374 : decode cX10_way 374 = .ok (.if_icmp .ne 7, 3) := by decide +kernel
theorem dX10_way_377 : decode cX10_way 377 = .ok (.iconst 1, 1) := by decide +kernel
theorem dX10_way_378 : decode cX10_way 378 = .ok (.goto 4, 3) := by decide +kernel
theorem dX10_way_381 : decode cX10_way 381 = .ok (.iconst 0, 1) := by decide +kernel
theorem dX10_way_382 : decode cX10_way 382 = .ok (.istore 9, 2) := by decide +kernel
theorem dX10_way_384 : decode cX10_way 384 = .ok (.aload_n 0, 1) := by decide +kernel
theorem dX10_way_385 : decode cX10_way 385 = .ok (.getfield 150, 3) := by decide +kernel
theorem dX10_way_388 : decode cX10_way 388 = .ok (.iload 8, 2) := by decide +kernel
theorem dX10_way_390 : decode cX10_way 390 = .ok (.iaload, 1) := by decide +kernel
theorem dX10_way_391 : decode cX10_way 391 = .ok (.aload_n 0, 1) := by decide +kernel
theorem dX10_way_392 : decode cX10_way 392 = .ok (.getfield 150, 3) := by decide +kernel
theorem dX10_way_395 : decode cX10_way 395 = .ok (.iload 5, 2) := by decide +kernel
theorem dX10_way_397 : decode cX10_way 397 = .ok (.iaload, 1) := by decide +kernel
theorem dX10_way_398 : decode cX10_way 398 = .ok (.iconst 1, 1) := by decide +kernel
theorem dX10_way_399 : decode cX10_way 399 = .ok (.isub, 1) := by decide +kernel
theorem dX10_way_400 : decode cX10_way 400 = .ok (.if_icmp .ne 7, 3) := by decide +kernel
theorem dX10_way_403 : decode cX10_way 403 = .ok (.iconst 1, 1) := by decide +kernel
theorem dX10_way_404 : decode cX10_way 404 = .ok (.goto 4, 3) := by decide +kernel
theorem dX10_way_407 : decode cX10_way 407 = .ok (.iconst 0, 1) := by decide +kernel
theorem dX10_way_408 : decode cX10_way 408 = .ok (.istore 10, 2) := by decide +kernel
theorem dX10_way_410 : decode cX10_way 410 = .ok (.iload 9, 2) := by decide +kernel
theorem dX10_way_412 : decode cX10_way 412 = .ok (.ifCond .eq 25, 3) := by decide +kernel
theorem dX10_way_415 : decode cX10_way 415 = .ok (.iload 10, 2) := by decide +kernel
theorem dX10_way_417 : decode cX10_way 417 = .ok (.ifCond .eq 20, 3) := by decide +kernel
theorem dX10_way_420 : decode cX10_way 420 = .ok (.iload 7, 2) := by decide +kernel
theorem dX10_way_422 : decode cX10_way 422 = .ok (.iload 8, 2) := by decide +kernel
theorem dX10_way_424 : decode cX10_way 424 = .ok (.if_icmp .ge 8, 3) := by decide +kernel
theorem dX10_way_427 : decode cX10_way 427 = .ok (.iload 7, 2) := by decide +kernel
theorem dX10_way_429 : decode cX10_way 429 = .ok (.goto 20, 3) := by decide +kernel
theorem dX10_way_432 : decode cX10_way 432 = .ok (.iload 8, 2) := by decide +kernel
theorem dX10_way_434 : decode cX10_way 434 = .ok (.goto 15, 3) := by decide +kernel
theorem dX10_way_437 : decode cX10_way 437 = .ok (.iload 9, 2) := by decide +kernel
theorem dX10_way_439 : decode cX10_way 439 = .ok (.ifCond .eq 8, 3) := by decide +kernel
theorem dX10_way_442 : decode cX10_way 442 = .ok (.iload 7, 2) := by decide +kernel
theorem dX10_way_444 : decode cX10_way 444 = .ok (.goto 5, 3) := by decide +kernel
theorem dX10_way_447 : decode cX10_way 447 = .ok (.iload 8, 2) := by decide +kernel
theorem dX10_way_449 : decode cX10_way 449 = .ok (.istore 5, 2) := by decide +kernel
theorem dX10_way_451 : decode cX10_way 451 = .ok (.iinc 6 1, 3) := by decide +kernel
theorem dX10_way_454 : decode cX10_way 454 = .ok (.goto (-139), 3) := by decide +kernel
theorem dX10_way_457 : decode cX10_way 457 = .ok (.iload 5, 2) := by decide +kernel
theorem dX10_way_459 : decode cX10_way 459 = .ok (.ireturn, 1) := by decide +kernel
theorem dX10_isRoot_0 : decode cX10_isRoot 0 = .ok (.iload_n 1, 1) := by decide +kernel
theorem dX10_isRoot_1 : decode cX10_isRoot 1 = .ok (.aload_n 0, 1) := by decide +kernel
theorem dX10_isRoot_2 : decode cX10_isRoot 2 = .ok (.getfield 246, 3) := by decide +kernel
theorem dX10_isRoot_5 : decode cX10_isRoot 5 = .ok (.if_icmp .ge 5, 3) := by decide +kernel
theorem dX10_isRoot_8 : decode cX10_isRoot 8 = .ok (.iconst 1, 1) := by decide +kernel
theorem dX10_isRoot_9 : decode cX10_isRoot 9 = .ok (.ireturn, 1) := by decide +kernel
theorem dX10_isRoot_10 : decode cX10_isRoot 10 = .ok (.iconst 0, 1) := by decide +kernel
theorem dX10_isRoot_11 : decode cX10_isRoot 11 = .ok (.istore_n 2, 1) := by decide +kernel
theorem dX10_isRoot_12 : decode cX10_isRoot 12 = .ok (.iload_n 2, 1) := by decide +kernel
theorem dX10_isRoot_13 : decode cX10_isRoot 13 = .ok (.aload_n 0, 1) := by decide +kernel
theorem dX10_isRoot_14 : decode cX10_isRoot 14 = .ok (.getfield 271, 3) := by decide +kernel
theorem dX10_isRoot_17 : decode cX10_isRoot 17 = .ok (.if_icmp .ge 21, 3) := by decide +kernel
theorem dX10_isRoot_20 : decode cX10_isRoot 20 = .ok (.aload_n 0, 1) := by decide +kernel
theorem dX10_isRoot_21 : decode cX10_isRoot 21 = .ok (.getfield 128, 3) := by decide +kernel
theorem dX10_isRoot_24 : decode cX10_isRoot 24 = .ok (.iload_n 2, 1) := by decide +kernel
theorem dX10_isRoot_25 : decode cX10_isRoot 25 = .ok (.iaload, 1) := by decide +kernel
theorem dX10_isRoot_26 : decode cX10_isRoot 26 = .ok (.iload_n 1, 1) := by decide +kernel
theorem dX10_isRoot_27 : decode cX10_isRoot 27 = .ok (.if_icmp .ne 5, 3) := by decide +kernel
theorem dX10_isRoot_30 : decode cX10_isRoot 30 = .ok (.iconst 1, 1) := by decide +kernel
theorem dX10_isRoot_31 : decode cX10_isRoot 31 = .ok (.ireturn, 1) := by decide +kernel
theorem dX10_isRoot_32 : decode cX10_isRoot 32 = .ok (.iinc 2 1, 3) := by decide +kernel
theorem dX10_isRoot_35 : decode cX10_isRoot 35 = .ok (.goto (-23), 3) := by decide +kernel
theorem dX10_isRoot_38 : decode cX10_isRoot 38 = .ok (.iconst 0, 1) := by decide +kernel
theorem dX10_isRoot_39 : decode cX10_isRoot 39 = .ok (.ireturn, 1) := by decide +kernel
theorem dX10_profile_0 : decode cX10_profile 0 = .ok (.aload_n 0, 1) := by decide +kernel
theorem dX10_profile_1 : decode cX10_profile 1 = .ok (.iconst 0, 1) := by decide +kernel
theorem dX10_profile_2 : decode cX10_profile 2 = .ok (.putfield 153, 3) := by decide +kernel
theorem dX10_profile_5 : decode cX10_profile 5 = .ok (.aload_n 0, 1) := by decide +kernel
theorem dX10_profile_6 : decode cX10_profile 6 = .ok (.getfield 292, 3) := by decide +kernel
theorem dX10_profile_9 : decode cX10_profile 9 = .ok (.ifCond .ne 6, 3) := by decide +kernel
theorem dX10_profile_12 : decode cX10_profile 12 = .ok (.bipush (-3), 2) := by decide +kernel
theorem dX10_profile_14 : decode cX10_profile 14 = .ok (.ireturn, 1) := by decide +kernel
theorem dX10_profile_15 : decode cX10_profile 15 = .ok (.iload_n 1, 1) := by decide +kernel
theorem dX10_profile_16 : decode cX10_profile 16 = .ok (.iconst 0, 1) := by decide +kernel
theorem dX10_profile_17 : decode cX10_profile 17 = .ok (.aload_n 0, 1) := by decide +kernel
theorem dX10_profile_18 : decode cX10_profile 18 = .ok (.getfield 246, 3) := by decide +kernel
theorem dX10_profile_21 : decode cX10_profile 21 = .ok (.iconst 1, 1) := by decide +kernel
theorem dX10_profile_22 : decode cX10_profile 22 = .ok (.isub, 1) := by decide +kernel
theorem dX10_profile_23 : decode cX10_profile 23 = .ok (.invokestatic 160, 3) := by decide +kernel
theorem dX10_profile_26 : decode cX10_profile 26 = .ok (.ifCond .eq 12, 3) := by decide +kernel
theorem dX10_profile_29 : decode cX10_profile 29 = .ok (.iload_n 2, 1) := by decide +kernel
theorem dX10_profile_30 : decode cX10_profile 30 = .ok (.iconst 0, 1) := by decide +kernel
theorem dX10_profile_31 : decode cX10_profile 31 = .ok (.iconst 1, 1) := by decide +kernel
theorem dX10_profile_32 : decode cX10_profile 32 = .ok (.invokestatic 160, 3) := by decide +kernel
theorem dX10_profile_35 : decode cX10_profile 35 = .ok (.ifCond .ne 5, 3) := by decide +kernel
theorem dX10_profile_38 : decode cX10_profile 38 = .ok (.iconst (-1), 1) := by decide +kernel
theorem dX10_profile_39 : decode cX10_profile 39 = .ok (.ireturn, 1) := by decide +kernel
theorem dX10_profile_40 : decode cX10_profile 40 = .ok (.iload_n 2, 1) := by decide +kernel
theorem dX10_profile_41 : decode cX10_profile 41 = .ok (.ifCond .ne 12, 3) := by decide +kernel
theorem dX10_profile_44 : decode cX10_profile 44 = .ok (.aload_n 0, 1) := by decide +kernel
theorem dX10_profile_45 : decode cX10_profile 45 = .ok (.getfield 122, 3) := by decide +kernel
theorem dX10_profile_48 : decode cX10_profile 48 = .ok (.iload_n 1, 1) := by decide +kernel
theorem dX10_profile_49 : decode cX10_profile 49 = .ok (.iaload, 1) := by decide +kernel
theorem dX10_profile_50 : decode cX10_profile 50 = .ok (.goto 9, 3) := by decide +kernel
theorem dX10_profile_53 : decode cX10_profile 53 = .ok (.aload_n 0, 1) := by decide +kernel
theorem dX10_profile_54 : decode cX10_profile 54 = .ok (.getfield 125, 3) := by decide +kernel
theorem dX10_profile_57 : decode cX10_profile 57 = .ok (.iload_n 1, 1) := by decide +kernel
theorem dX10_profile_58 : decode cX10_profile 58 = .ok (.iaload, 1) := by decide +kernel
theorem dX10_profile_59 : decode cX10_profile 59 = .ok (.ireturn, 1) := by decide +kernel
theorem dX10_rest_0 : decode cX10_rest 0 = .ok (.aload_n 0, 1) := by decide +kernel
theorem dX10_rest_1 : decode cX10_rest 1 = .ok (.iconst 0, 1) := by decide +kernel
theorem dX10_rest_2 : decode cX10_rest 2 = .ok (.putfield 153, 3) := by decide +kernel
theorem dX10_rest_5 : decode cX10_rest 5 = .ok (.aload_n 0, 1) := by decide +kernel
theorem dX10_rest_6 : decode cX10_rest 6 = .ok (.getfield 292, 3) := by decide +kernel
theorem dX10_rest_9 : decode cX10_rest 9 = .ok (.ifCond .eq 11, 3) := by decide +kernel
theorem dX10_rest_12 : decode cX10_rest 12 = .ok (.aload_n 0, 1) := by decide +kernel
theorem dX10_rest_13 : decode cX10_rest 13 = .ok (.getfield 280, 3) := by decide +kernel
theorem dX10_rest_16 : decode cX10_rest 16 = .ok (.iconst 1, 1) := by decide +kernel
theorem dX10_rest_17 : decode cX10_rest 17 = .ok (.if_icmp .eq 6, 3) := by decide +kernel
theorem dX10_rest_20 : decode cX10_rest 20 = .ok (.bipush (-3), 2) := by decide +kernel
theorem dX10_rest_22 : decode cX10_rest 22 = .ok (.ireturn, 1) := by decide +kernel
theorem dX10_rest_23 : decode cX10_rest 23 = .ok (.aload_n 0, 1) := by decide +kernel
theorem dX10_rest_24 : decode cX10_rest 24 = .ok (.getfield 110, 3) := by decide +kernel
theorem dX10_rest_27 : decode cX10_rest 27 = .ok (.aload_n 0, 1) := by decide +kernel
theorem dX10_rest_28 : decode cX10_rest 28 = .ok (.invokevirtual 311, 3) := by decide +kernel
theorem dX10_rest_31 : decode cX10_rest 31 = .ok (.iaload, 1) := by decide +kernel
theorem dX10_rest_32 : decode cX10_rest 32 = .ok (.istore_n 1, 1) := by decide +kernel
theorem dX10_rest_33 : decode cX10_rest 33 = .ok (.iload_n 1, 1) := by decide +kernel
theorem dX10_rest_34 : decode cX10_rest 34 = .ok (.ifCond .ne 7, 3) := by decide +kernel
theorem dX10_rest_37 : decode cX10_rest 37 = .ok (.iconst 0, 1) := by decide +kernel
theorem dX10_rest_38 : decode cX10_rest 38 = .ok (.goto 22, 3) := by decide +kernel
theorem dX10_rest_41 : decode cX10_rest 41 = .ok (.iload_n 1, 1) := by decide +kernel
theorem dX10_rest_42 : decode cX10_rest 42 = .ok (.iconst 4, 1) := by decide +kernel
theorem dX10_rest_43 : decode cX10_rest 43 = .ok (.if_icmp .ne 7, 3) := by decide +kernel
theorem dX10_rest_46 : decode cX10_rest 46 = .ok (.iconst 1, 1) := by decide +kernel
theorem dX10_rest_47 : decode cX10_rest 47 = .ok (.goto 13, 3) := by decide +kernel
theorem dX10_rest_50 : decode cX10_rest 50 = .ok (.iload_n 1, 1) := by decide +kernel
theorem dX10_rest_51 : decode cX10_rest 51 = .ok (.iconst 5, 1) := by decide +kernel
theorem dX10_rest_52 : decode cX10_rest 52 = .ok (.if_icmp .ne 7, 3) := by decide +kernel
theorem dX10_rest_55 : decode cX10_rest 55 = .ok (.iconst 2, 1) := by decide +kernel
theorem dX10_rest_56 : decode cX10_rest 56 = .ok (.goto 4, 3) := by decide +kernel
theorem dX10_rest_59 : decode cX10_rest 59 = .ok (.iconst 3, 1) := by decide +kernel
theorem dX10_rest_60 : decode cX10_rest 60 = .ok (.ireturn, 1) := by decide +kernel
theorem dX10_share_0 : decode cX10_share 0 = .ok (.aload_n 0, 1) := by decide +kernel
theorem dX10_share_1 : decode cX10_share 1 = .ok (.iconst 0, 1) := by decide +kernel
theorem dX10_share_2 : decode cX10_share 2 = .ok (.putfield 153, 3) := by decide +kernel
theorem dX10_share_5 : decode cX10_share 5 = .ok (.aload_n 0, 1) := by decide +kernel
theorem dX10_share_6 : decode cX10_share 6 = .ok (.getfield 292, 3) := by decide +kernel
theorem dX10_share_9 : decode cX10_share 9 = .ok (.ifCond .ne 10, 3) := by decide +kernel
theorem dX10_share_12 : decode cX10_share 12 = .ok (.aload_n 0, 1) := by decide +kernel
theorem dX10_share_13 : decode cX10_share 13 = .ok (.iconst 1, 1) := by decide +kernel
theorem dX10_share_14 : decode cX10_share 14 = .ok (.putfield 153, 3) := by decide +kernel
theorem dX10_share_17 : decode cX10_share 17 = .ok (.iconst 0, 1) := by decide +kernel
theorem dX10_share_18 : decode cX10_share 18 = .ok (.ireturn, 1) := by decide +kernel
theorem dX10_share_19 : decode cX10_share 19 = .ok (.sipush 1000, 3) := by decide +kernel
theorem dX10_share_22 : decode cX10_share 22 = .ok (.aload_n 0, 1) := by decide +kernel
theorem dX10_share_23 : decode cX10_share 23 = .ok (.invokevirtual 365, 3) := by decide +kernel
theorem dX10_share_26 : decode cX10_share 26 = .ok (.imul, 1) := by decide +kernel
theorem dX10_share_27 : decode cX10_share 27 = .ok (.aload_n 0, 1) := by decide +kernel
theorem dX10_share_28 : decode cX10_share 28 = .ok (.getfield 256, 3) := by decide +kernel
theorem dX10_share_31 : decode cX10_share 31 = .ok (.idiv, 1) := by decide +kernel
theorem dX10_share_32 : decode cX10_share 32 = .ok (.ireturn, 1) := by decide +kernel
theorem dL_share_0 : decode cL_share 0 = .ok (.aload_n 1, 1) := by decide +kernel
theorem dL_share_1 : decode cL_share 1 = .ok (.iconst 0, 1) := by decide +kernel
theorem dL_share_2 : decode cL_share 2 = .ok (.aload_n 0, 1) := by decide +kernel
theorem dL_share_3 : decode cL_share 3 = .ok (.invokevirtual 7, 3) := by decide +kernel
theorem dL_share_6 : decode cL_share 6 = .ok (.i2l, 1) := by decide +kernel
theorem dL_share_7 : decode cL_share 7 = .ok (.lastore, 1) := by decide +kernel
theorem dL_share_8 : decode cL_share 8 = .ok (.goto 6, 3) := by decide +kernel
theorem dL_share_11 : decode cL_share 11 = .ok (.astore_n 2, 1) := by decide +kernel
theorem dL_share_12 : decode cL_share 12 = .ok (.iconst 1, 1) := by decide +kernel
theorem dL_share_13 : decode cL_share 13 = .ok (.ireturn, 1) := by decide +kernel
theorem dL_share_14 : decode cL_share 14 = .ok (.iconst 0, 1) := by decide +kernel
theorem dL_share_15 : decode cL_share 15 = .ok (.ireturn, 1) := by decide +kernel
theorem dL_law_0 : decode cL_law 0 = .ok (.new 8, 3) := by decide +kernel
theorem dL_law_3 : decode cL_law 3 = .ok (.dup, 1) := by decide +kernel
theorem dL_law_4 : decode cL_law 4 = .ok (.invokespecial 15, 3) := by decide +kernel
theorem dL_law_7 : decode cL_law 7 = .ok (.astore_n 1, 1) := by decide +kernel
theorem dL_law_8 : decode cL_law 8 = .ok (.new 16, 3) := by decide +kernel
theorem dL_law_11 : decode cL_law 11 = .ok (.dup, 1) := by decide +kernel
theorem dL_law_12 : decode cL_law 12 = .ok (.invokespecial 18, 3) := by decide +kernel
theorem dL_law_15 : decode cL_law 15 = .ok (.astore_n 2, 1) := by decide +kernel
theorem dL_law_16 : decode cL_law 16 = .ok (.iconst 1, 1) := by decide +kernel
theorem dL_law_17 : decode cL_law 17 = .ok (.newarray .long, 2) := by decide +kernel
theorem dL_law_19 : decode cL_law 19 = .ok (.astore_n 3, 1) := by decide +kernel
theorem dL_law_20 : decode cL_law 20 = .ok (.iconst 0, 1) := by decide +kernel
theorem dL_law_21 : decode cL_law 21 = .ok (.istore 4, 2) := by decide +kernel
theorem dL_law_23 : decode cL_law 23 = .ok (.iload 4, 2) := by decide +kernel
theorem dL_law_25 : decode cL_law 25 = .ok (.aload_n 0, 1) := by decide +kernel
theorem dL_law_26 : decode cL_law 26 = .ok (.arraylength, 1) := by decide +kernel
theorem dL_law_27 : decode cL_law 27 = .ok (.bipush 6, 2) := by decide +kernel
theorem dL_law_29 : decode cL_law 29 = .ok (.isub, 1) := by decide +kernel
theorem dL_law_30 : decode cL_law 30 = .ok (.if_icmp .gt 602, 3) := by decide +kernel
theorem dL_law_33 : decode cL_law 33 = .ok (.aload_n 0, 1) := by decide +kernel
theorem dL_law_34 : decode cL_law 34 = .ok (.iload 4, 2) := by decide +kernel
theorem dL_law_36 : decode cL_law 36 = .ok (.iaload, 1) := by decide +kernel
theorem dL_law_37 : decode cL_law 37 = .ok (.bipush 31, 2) := by decide +kernel
theorem dL_law_39 : decode cL_law 39 = .ok (.iand, 1) := by decide +kernel
theorem dL_law_40 : decode cL_law 40 = .ok (.tableswitch 586 0 18 #[92, 165, 190, 203, 216, 241, 254, 267, 280, 305, 330, 343, 368, 405, 430, 455, 492, 529, 542], 92) := by decide +kernel
theorem dL_law_132 : decode cL_law 132 = .ok (.aload_n 1, 1) := by decide +kernel
theorem dL_law_133 : decode cL_law 133 = .ok (.aload_n 0, 1) := by decide +kernel
theorem dL_law_134 : decode cL_law 134 = .ok (.iload 4, 2) := by decide +kernel
theorem dL_law_136 : decode cL_law 136 = .ok (.iconst 1, 1) := by decide +kernel
theorem dL_law_137 : decode cL_law 137 = .ok (.iadd, 1) := by decide +kernel
theorem dL_law_138 : decode cL_law 138 = .ok (.iaload, 1) := by decide +kernel
theorem dL_law_139 : decode cL_law 139 = .ok (.aload_n 0, 1) := by decide +kernel
theorem dL_law_140 : decode cL_law 140 = .ok (.iload 4, 2) := by decide +kernel
theorem dL_law_142 : decode cL_law 142 = .ok (.iconst 2, 1) := by decide +kernel
theorem dL_law_143 : decode cL_law 143 = .ok (.iadd, 1) := by decide +kernel
theorem dL_law_144 : decode cL_law 144 = .ok (.iaload, 1) := by decide +kernel
theorem dL_law_145 : decode cL_law 145 = .ok (.aload_n 0, 1) := by decide +kernel
theorem dL_law_146 : decode cL_law 146 = .ok (.iload 4, 2) := by decide +kernel
theorem dL_law_148 : decode cL_law 148 = .ok (.iconst 3, 1) := by decide +kernel
theorem dL_law_149 : decode cL_law 149 = .ok (.iadd, 1) := by decide +kernel
theorem dL_law_150 : decode cL_law 150 = .ok (.iaload, 1) := by decide +kernel
theorem dL_law_151 : decode cL_law 151 = .ok (.aload_n 0, 1) := by decide +kernel
theorem dL_law_152 : decode cL_law 152 = .ok (.iload 4, 2) := by decide +kernel
theorem dL_law_154 : decode cL_law 154 = .ok (.iconst 4, 1) := by decide +kernel
theorem dL_law_155 : decode cL_law 155 = .ok (.iadd, 1) := by decide +kernel
theorem dL_law_156 : decode cL_law 156 = .ok (.iaload, 1) := by decide +kernel
theorem dL_law_157 : decode cL_law 157 = .ok (.aload_n 0, 1) := by decide +kernel
theorem dL_law_158 : decode cL_law 158 = .ok (.iload 4, 2) := by decide +kernel
theorem dL_law_160 : decode cL_law 160 = .ok (.iconst 5, 1) := by decide +kernel
theorem dL_law_161 : decode cL_law 161 = .ok (.iadd, 1) := by decide +kernel
theorem dL_law_162 : decode cL_law 162 = .ok (.iaload, 1) := by decide +kernel
theorem dL_law_163 : decode cL_law 163 = .ok (.invokevirtual 19, 3) := by decide +kernel
theorem dL_law_166 : decode cL_law 166 = .ok (.aload_n 2, 1) := by decide +kernel
theorem dL_law_167 : decode cL_law 167 = .ok (.aload_n 0, 1) := by decide +kernel
theorem dL_law_168 : decode cL_law 168 = .ok (.iload 4, 2) := by decide +kernel
theorem dL_law_170 : decode cL_law 170 = .ok (.iconst 1, 1) := by decide +kernel
theorem dL_law_171 : decode cL_law 171 = .ok (.iadd, 1) := by decide +kernel
theorem dL_law_172 : decode cL_law 172 = .ok (.iaload, 1) := by decide +kernel
theorem dL_law_173 : decode cL_law 173 = .ok (.aload_n 0, 1) := by decide +kernel
theorem dL_law_174 : decode cL_law 174 = .ok (.iload 4, 2) := by decide +kernel
theorem dL_law_176 : decode cL_law 176 = .ok (.iconst 2, 1) := by decide +kernel
theorem dL_law_177 : decode cL_law 177 = .ok (.iadd, 1) := by decide +kernel
theorem dL_law_178 : decode cL_law 178 = .ok (.iaload, 1) := by decide +kernel
theorem dL_law_179 : decode cL_law 179 = .ok (.aload_n 0, 1) := by decide +kernel
theorem dL_law_180 : decode cL_law 180 = .ok (.iload 4, 2) := by decide +kernel
theorem dL_law_182 : decode cL_law 182 = .ok (.iconst 3, 1) := by decide +kernel
theorem dL_law_183 : decode cL_law 183 = .ok (.iadd, 1) := by decide +kernel
theorem dL_law_184 : decode cL_law 184 = .ok (.iaload, 1) := by decide +kernel
theorem dL_law_185 : decode cL_law 185 = .ok (.aload_n 0, 1) := by decide +kernel
theorem dL_law_186 : decode cL_law 186 = .ok (.iload 4, 2) := by decide +kernel
theorem dL_law_188 : decode cL_law 188 = .ok (.iconst 4, 1) := by decide +kernel
theorem dL_law_189 : decode cL_law 189 = .ok (.iadd, 1) := by decide +kernel
theorem dL_law_190 : decode cL_law 190 = .ok (.iaload, 1) := by decide +kernel
theorem dL_law_191 : decode cL_law 191 = .ok (.aload_n 0, 1) := by decide +kernel
theorem dL_law_192 : decode cL_law 192 = .ok (.iload 4, 2) := by decide +kernel
theorem dL_law_194 : decode cL_law 194 = .ok (.iconst 5, 1) := by decide +kernel
theorem dL_law_195 : decode cL_law 195 = .ok (.iadd, 1) := by decide +kernel
theorem dL_law_196 : decode cL_law 196 = .ok (.iaload, 1) := by decide +kernel
theorem dL_law_197 : decode cL_law 197 = .ok (.invokevirtual 23, 3) := by decide +kernel
theorem dL_law_200 : decode cL_law 200 = .ok (.if_icmp .eq 426, 3) := by decide +kernel
theorem dL_law_203 : decode cL_law 203 = .ok (.iconst 0, 1) := by decide +kernel
theorem dL_law_204 : decode cL_law 204 = .ok (.ireturn, 1) := by decide +kernel
theorem dL_law_205 : decode cL_law 205 = .ok (.aload_n 1, 1) := by decide +kernel
theorem dL_law_206 : decode cL_law 206 = .ok (.aload_n 0, 1) := by decide +kernel
theorem dL_law_207 : decode cL_law 207 = .ok (.iload 4, 2) := by decide +kernel
theorem dL_law_209 : decode cL_law 209 = .ok (.iconst 1, 1) := by decide +kernel
theorem dL_law_210 : decode cL_law 210 = .ok (.iadd, 1) := by decide +kernel
theorem dL_law_211 : decode cL_law 211 = .ok (.iaload, 1) := by decide +kernel
theorem dL_law_212 : decode cL_law 212 = .ok (.invokevirtual 24, 3) := by decide +kernel
theorem dL_law_215 : decode cL_law 215 = .ok (.aload_n 2, 1) := by decide +kernel
theorem dL_law_216 : decode cL_law 216 = .ok (.aload_n 0, 1) := by decide +kernel
theorem dL_law_217 : decode cL_law 217 = .ok (.iload 4, 2) := by decide +kernel
theorem dL_law_219 : decode cL_law 219 = .ok (.iconst 1, 1) := by decide +kernel
theorem dL_law_220 : decode cL_law 220 = .ok (.iadd, 1) := by decide +kernel
theorem dL_law_221 : decode cL_law 221 = .ok (.iaload, 1) := by decide +kernel
theorem dL_law_222 : decode cL_law 222 = .ok (.invokevirtual 28, 3) := by decide +kernel
theorem dL_law_225 : decode cL_law 225 = .ok (.if_icmp .eq 401, 3) := by decide +kernel
theorem dL_law_228 : decode cL_law 228 = .ok (.iconst 0, 1) := by decide +kernel
theorem dL_law_229 : decode cL_law 229 = .ok (.ireturn, 1) := by decide +kernel
theorem dL_law_230 : decode cL_law 230 = .ok (.aload_n 1, 1) := by decide +kernel
theorem dL_law_231 : decode cL_law 231 = .ok (.invokevirtual 29, 3) := by decide +kernel
theorem dL_law_234 : decode cL_law 234 = .ok (.aload_n 2, 1) := by decide +kernel
theorem dL_law_235 : decode cL_law 235 = .ok (.invokevirtual 32, 3) := by decide +kernel
theorem dL_law_238 : decode cL_law 238 = .ok (.if_icmp .eq 388, 3) := by decide +kernel
theorem dL_law_241 : decode cL_law 241 = .ok (.iconst 0, 1) := by decide +kernel
theorem dL_law_242 : decode cL_law 242 = .ok (.ireturn, 1) := by decide +kernel
theorem dL_law_243 : decode cL_law 243 = .ok (.aload_n 1, 1) := by decide +kernel
theorem dL_law_244 : decode cL_law 244 = .ok (.invokevirtual 33, 3) := by decide +kernel
theorem dL_law_247 : decode cL_law 247 = .ok (.aload_n 2, 1) := by decide +kernel
theorem dL_law_248 : decode cL_law 248 = .ok (.invokevirtual 36, 3) := by decide +kernel
theorem dL_law_251 : decode cL_law 251 = .ok (.if_icmp .eq 375, 3) := by decide +kernel
theorem dL_law_254 : decode cL_law 254 = .ok (.iconst 0, 1) := by decide +kernel
theorem dL_law_255 : decode cL_law 255 = .ok (.ireturn, 1) := by decide +kernel
theorem dL_law_256 : decode cL_law 256 = .ok (.aload_n 1, 1) := by decide +kernel
theorem dL_law_257 : decode cL_law 257 = .ok (.aload_n 0, 1) := by decide +kernel
theorem dL_law_258 : decode cL_law 258 = .ok (.iload 4, 2) := by decide +kernel
theorem dL_law_260 : decode cL_law 260 = .ok (.iconst 1, 1) := by decide +kernel
theorem dL_law_261 : decode cL_law 261 = .ok (.iadd, 1) := by decide +kernel
theorem dL_law_262 : decode cL_law 262 = .ok (.iaload, 1) := by decide +kernel
theorem dL_law_263 : decode cL_law 263 = .ok (.invokevirtual 37, 3) := by decide +kernel
theorem dL_law_266 : decode cL_law 266 = .ok (.aload_n 2, 1) := by decide +kernel
theorem dL_law_267 : decode cL_law 267 = .ok (.aload_n 0, 1) := by decide +kernel
theorem dL_law_268 : decode cL_law 268 = .ok (.iload 4, 2) := by decide +kernel
theorem dL_law_270 : decode cL_law 270 = .ok (.iconst 1, 1) := by decide +kernel
theorem dL_law_271 : decode cL_law 271 = .ok (.iadd, 1) := by decide +kernel
theorem dL_law_272 : decode cL_law 272 = .ok (.iaload, 1) := by decide +kernel
theorem dL_law_273 : decode cL_law 273 = .ok (.invokevirtual 40, 3) := by decide +kernel
theorem dL_law_276 : decode cL_law 276 = .ok (.if_icmp .eq 350, 3) := by decide +kernel
theorem dL_law_279 : decode cL_law 279 = .ok (.iconst 0, 1) := by decide +kernel
theorem dL_law_280 : decode cL_law 280 = .ok (.ireturn, 1) := by decide +kernel
theorem dL_law_281 : decode cL_law 281 = .ok (.aload_n 1, 1) := by decide +kernel
theorem dL_law_282 : decode cL_law 282 = .ok (.invokevirtual 41, 3) := by decide +kernel
theorem dL_law_285 : decode cL_law 285 = .ok (.aload_n 2, 1) := by decide +kernel
theorem dL_law_286 : decode cL_law 286 = .ok (.invokevirtual 44, 3) := by decide +kernel
theorem dL_law_289 : decode cL_law 289 = .ok (.if_icmp .eq 337, 3) := by decide +kernel
theorem dL_law_292 : decode cL_law 292 = .ok (.iconst 0, 1) := by decide +kernel
theorem dL_law_293 : decode cL_law 293 = .ok (.ireturn, 1) := by decide +kernel
theorem dL_law_294 : decode cL_law 294 = .ok (.aload_n 1, 1) := by decide +kernel
theorem dL_law_295 : decode cL_law 295 = .ok (.invokevirtual 45, 3) := by decide +kernel
theorem dL_law_298 : decode cL_law 298 = .ok (.aload_n 2, 1) := by decide +kernel
theorem dL_law_299 : decode cL_law 299 = .ok (.invokevirtual 48, 3) := by decide +kernel
theorem dL_law_302 : decode cL_law 302 = .ok (.if_icmp .eq 324, 3) := by decide +kernel
theorem dL_law_305 : decode cL_law 305 = .ok (.iconst 0, 1) := by decide +kernel
theorem dL_law_306 : decode cL_law 306 = .ok (.ireturn, 1) := by decide +kernel
theorem dL_law_307 : decode cL_law 307 = .ok (.aload_n 1, 1) := by decide +kernel
theorem dL_law_308 : decode cL_law 308 = .ok (.invokevirtual 49, 3) := by decide +kernel
theorem dL_law_311 : decode cL_law 311 = .ok (.aload_n 2, 1) := by decide +kernel
theorem dL_law_312 : decode cL_law 312 = .ok (.invokevirtual 52, 3) := by decide +kernel
theorem dL_law_315 : decode cL_law 315 = .ok (.if_icmp .eq 311, 3) := by decide +kernel
theorem dL_law_318 : decode cL_law 318 = .ok (.iconst 0, 1) := by decide +kernel
theorem dL_law_319 : decode cL_law 319 = .ok (.ireturn, 1) := by decide +kernel
theorem dL_law_320 : decode cL_law 320 = .ok (.aload_n 1, 1) := by decide +kernel
theorem dL_law_321 : decode cL_law 321 = .ok (.aload_n 0, 1) := by decide +kernel
theorem dL_law_322 : decode cL_law 322 = .ok (.iload 4, 2) := by decide +kernel
theorem dL_law_324 : decode cL_law 324 = .ok (.iconst 1, 1) := by decide +kernel
theorem dL_law_325 : decode cL_law 325 = .ok (.iadd, 1) := by decide +kernel
theorem dL_law_326 : decode cL_law 326 = .ok (.iaload, 1) := by decide +kernel
theorem dL_law_327 : decode cL_law 327 = .ok (.invokevirtual 53, 3) := by decide +kernel
theorem dL_law_330 : decode cL_law 330 = .ok (.aload_n 2, 1) := by decide +kernel
theorem dL_law_331 : decode cL_law 331 = .ok (.aload_n 0, 1) := by decide +kernel
theorem dL_law_332 : decode cL_law 332 = .ok (.iload 4, 2) := by decide +kernel
theorem dL_law_334 : decode cL_law 334 = .ok (.iconst 1, 1) := by decide +kernel
theorem dL_law_335 : decode cL_law 335 = .ok (.iadd, 1) := by decide +kernel
theorem dL_law_336 : decode cL_law 336 = .ok (.iaload, 1) := by decide +kernel
theorem dL_law_337 : decode cL_law 337 = .ok (.invokevirtual 56, 3) := by decide +kernel
theorem dL_law_340 : decode cL_law 340 = .ok (.if_icmp .eq 286, 3) := by decide +kernel
theorem dL_law_343 : decode cL_law 343 = .ok (.iconst 0, 1) := by decide +kernel
theorem dL_law_344 : decode cL_law 344 = .ok (.ireturn, 1) := by decide +kernel
theorem dL_law_345 : decode cL_law 345 = .ok (.aload_n 1, 1) := by decide +kernel
theorem dL_law_346 : decode cL_law 346 = .ok (.aload_n 0, 1) := by decide +kernel
theorem dL_law_347 : decode cL_law 347 = .ok (.iload 4, 2) := by decide +kernel
theorem dL_law_349 : decode cL_law 349 = .ok (.iconst 1, 1) := by decide +kernel
theorem dL_law_350 : decode cL_law 350 = .ok (.iadd, 1) := by decide +kernel
theorem dL_law_351 : decode cL_law 351 = .ok (.iaload, 1) := by decide +kernel
theorem dL_law_352 : decode cL_law 352 = .ok (.invokevirtual 57, 3) := by decide +kernel
theorem dL_law_355 : decode cL_law 355 = .ok (.aload_n 2, 1) := by decide +kernel
theorem dL_law_356 : decode cL_law 356 = .ok (.aload_n 0, 1) := by decide +kernel
theorem dL_law_357 : decode cL_law 357 = .ok (.iload 4, 2) := by decide +kernel
theorem dL_law_359 : decode cL_law 359 = .ok (.iconst 1, 1) := by decide +kernel
theorem dL_law_360 : decode cL_law 360 = .ok (.iadd, 1) := by decide +kernel
theorem dL_law_361 : decode cL_law 361 = .ok (.iaload, 1) := by decide +kernel
theorem dL_law_362 : decode cL_law 362 = .ok (.invokevirtual 60, 3) := by decide +kernel
theorem dL_law_365 : decode cL_law 365 = .ok (.if_icmp .eq 261, 3) := by decide +kernel
theorem dL_law_368 : decode cL_law 368 = .ok (.iconst 0, 1) := by decide +kernel
theorem dL_law_369 : decode cL_law 369 = .ok (.ireturn, 1) := by decide +kernel
theorem dL_law_370 : decode cL_law 370 = .ok (.aload_n 1, 1) := by decide +kernel
theorem dL_law_371 : decode cL_law 371 = .ok (.invokevirtual 61, 3) := by decide +kernel
theorem dL_law_374 : decode cL_law 374 = .ok (.aload_n 2, 1) := by decide +kernel
theorem dL_law_375 : decode cL_law 375 = .ok (.invokevirtual 64, 3) := by decide +kernel
theorem dL_law_378 : decode cL_law 378 = .ok (.if_icmp .eq 248, 3) := by decide +kernel
theorem dL_law_381 : decode cL_law 381 = .ok (.iconst 0, 1) := by decide +kernel
theorem dL_law_382 : decode cL_law 382 = .ok (.ireturn, 1) := by decide +kernel
theorem dL_law_383 : decode cL_law 383 = .ok (.aload_n 1, 1) := by decide +kernel
theorem dL_law_384 : decode cL_law 384 = .ok (.aload_n 0, 1) := by decide +kernel
theorem dL_law_385 : decode cL_law 385 = .ok (.iload 4, 2) := by decide +kernel
theorem dL_law_387 : decode cL_law 387 = .ok (.iconst 1, 1) := by decide +kernel
theorem dL_law_388 : decode cL_law 388 = .ok (.iadd, 1) := by decide +kernel
theorem dL_law_389 : decode cL_law 389 = .ok (.iaload, 1) := by decide +kernel
theorem dL_law_390 : decode cL_law 390 = .ok (.invokevirtual 65, 3) := by decide +kernel
theorem dL_law_393 : decode cL_law 393 = .ok (.aload_n 2, 1) := by decide +kernel
theorem dL_law_394 : decode cL_law 394 = .ok (.aload_n 0, 1) := by decide +kernel
theorem dL_law_395 : decode cL_law 395 = .ok (.iload 4, 2) := by decide +kernel
theorem dL_law_397 : decode cL_law 397 = .ok (.iconst 1, 1) := by decide +kernel
theorem dL_law_398 : decode cL_law 398 = .ok (.iadd, 1) := by decide +kernel
theorem dL_law_399 : decode cL_law 399 = .ok (.iaload, 1) := by decide +kernel
theorem dL_law_400 : decode cL_law 400 = .ok (.invokevirtual 68, 3) := by decide +kernel
theorem dL_law_403 : decode cL_law 403 = .ok (.if_icmp .eq 223, 3) := by decide +kernel
theorem dL_law_406 : decode cL_law 406 = .ok (.iconst 0, 1) := by decide +kernel
theorem dL_law_407 : decode cL_law 407 = .ok (.ireturn, 1) := by decide +kernel
theorem dL_law_408 : decode cL_law 408 = .ok (.aload_n 1, 1) := by decide +kernel
theorem dL_law_409 : decode cL_law 409 = .ok (.aload_n 0, 1) := by decide +kernel
theorem dL_law_410 : decode cL_law 410 = .ok (.iload 4, 2) := by decide +kernel
theorem dL_law_412 : decode cL_law 412 = .ok (.iconst 1, 1) := by decide +kernel
theorem dL_law_413 : decode cL_law 413 = .ok (.iadd, 1) := by decide +kernel
theorem dL_law_414 : decode cL_law 414 = .ok (.iaload, 1) := by decide +kernel
theorem dL_law_415 : decode cL_law 415 = .ok (.aload_n 0, 1) := by decide +kernel
theorem dL_law_416 : decode cL_law 416 = .ok (.iload 4, 2) := by decide +kernel
theorem dL_law_418 : decode cL_law 418 = .ok (.iconst 2, 1) := by decide +kernel
theorem dL_law_419 : decode cL_law 419 = .ok (.iadd, 1) := by decide +kernel
theorem dL_law_420 : decode cL_law 420 = .ok (.iaload, 1) := by decide +kernel
theorem dL_law_421 : decode cL_law 421 = .ok (.invokevirtual 69, 3) := by decide +kernel
theorem dL_law_424 : decode cL_law 424 = .ok (.aload_n 2, 1) := by decide +kernel
theorem dL_law_425 : decode cL_law 425 = .ok (.aload_n 0, 1) := by decide +kernel
theorem dL_law_426 : decode cL_law 426 = .ok (.iload 4, 2) := by decide +kernel
theorem dL_law_428 : decode cL_law 428 = .ok (.iconst 1, 1) := by decide +kernel
theorem dL_law_429 : decode cL_law 429 = .ok (.iadd, 1) := by decide +kernel
theorem dL_law_430 : decode cL_law 430 = .ok (.iaload, 1) := by decide +kernel
theorem dL_law_431 : decode cL_law 431 = .ok (.aload_n 0, 1) := by decide +kernel
theorem dL_law_432 : decode cL_law 432 = .ok (.iload 4, 2) := by decide +kernel
theorem dL_law_434 : decode cL_law 434 = .ok (.iconst 2, 1) := by decide +kernel
theorem dL_law_435 : decode cL_law 435 = .ok (.iadd, 1) := by decide +kernel
theorem dL_law_436 : decode cL_law 436 = .ok (.iaload, 1) := by decide +kernel
theorem dL_law_437 : decode cL_law 437 = .ok (.invokevirtual 73, 3) := by decide +kernel
theorem dL_law_440 : decode cL_law 440 = .ok (.if_icmp .eq 186, 3) := by decide +kernel
theorem dL_law_443 : decode cL_law 443 = .ok (.iconst 0, 1) := by decide +kernel
theorem dL_law_444 : decode cL_law 444 = .ok (.ireturn, 1) := by decide +kernel
theorem dL_law_445 : decode cL_law 445 = .ok (.aload_n 1, 1) := by decide +kernel
theorem dL_law_446 : decode cL_law 446 = .ok (.aload_n 0, 1) := by decide +kernel
theorem dL_law_447 : decode cL_law 447 = .ok (.iload 4, 2) := by decide +kernel
theorem dL_law_449 : decode cL_law 449 = .ok (.iconst 1, 1) := by decide +kernel
theorem dL_law_450 : decode cL_law 450 = .ok (.iadd, 1) := by decide +kernel
theorem dL_law_451 : decode cL_law 451 = .ok (.iaload, 1) := by decide +kernel
theorem dL_law_452 : decode cL_law 452 = .ok (.invokevirtual 74, 3) := by decide +kernel
theorem dL_law_455 : decode cL_law 455 = .ok (.aload_n 2, 1) := by decide +kernel
theorem dL_law_456 : decode cL_law 456 = .ok (.aload_n 0, 1) := by decide +kernel
theorem dL_law_457 : decode cL_law 457 = .ok (.iload 4, 2) := by decide +kernel
theorem dL_law_459 : decode cL_law 459 = .ok (.iconst 1, 1) := by decide +kernel
theorem dL_law_460 : decode cL_law 460 = .ok (.iadd, 1) := by decide +kernel
theorem dL_law_461 : decode cL_law 461 = .ok (.iaload, 1) := by decide +kernel
theorem dL_law_462 : decode cL_law 462 = .ok (.invokevirtual 77, 3) := by decide +kernel
theorem dL_law_465 : decode cL_law 465 = .ok (.if_icmp .eq 161, 3) := by decide +kernel
theorem dL_law_468 : decode cL_law 468 = .ok (.iconst 0, 1) := by decide +kernel
theorem dL_law_469 : decode cL_law 469 = .ok (.ireturn, 1) := by decide +kernel
theorem dL_law_470 : decode cL_law 470 = .ok (.aload_n 1, 1) := by decide +kernel
theorem dL_law_471 : decode cL_law 471 = .ok (.aload_n 0, 1) := by decide +kernel
theorem dL_law_472 : decode cL_law 472 = .ok (.iload 4, 2) := by decide +kernel
theorem dL_law_474 : decode cL_law 474 = .ok (.iconst 1, 1) := by decide +kernel
theorem dL_law_475 : decode cL_law 475 = .ok (.iadd, 1) := by decide +kernel
theorem dL_law_476 : decode cL_law 476 = .ok (.iaload, 1) := by decide +kernel
theorem dL_law_477 : decode cL_law 477 = .ok (.invokevirtual 78, 3) := by decide +kernel
theorem dL_law_480 : decode cL_law 480 = .ok (.aload_n 2, 1) := by decide +kernel
theorem dL_law_481 : decode cL_law 481 = .ok (.aload_n 0, 1) := by decide +kernel
theorem dL_law_482 : decode cL_law 482 = .ok (.iload 4, 2) := by decide +kernel
theorem dL_law_484 : decode cL_law 484 = .ok (.iconst 1, 1) := by decide +kernel
theorem dL_law_485 : decode cL_law 485 = .ok (.iadd, 1) := by decide +kernel
theorem dL_law_486 : decode cL_law 486 = .ok (.iaload, 1) := by decide +kernel
theorem dL_law_487 : decode cL_law 487 = .ok (.invokevirtual 81, 3) := by decide +kernel
theorem dL_law_490 : decode cL_law 490 = .ok (.if_icmp .eq 136, 3) := by decide +kernel
theorem dL_law_493 : decode cL_law 493 = .ok (.iconst 0, 1) := by decide +kernel
theorem dL_law_494 : decode cL_law 494 = .ok (.ireturn, 1) := by decide +kernel
theorem dL_law_495 : decode cL_law 495 = .ok (.aload_n 1, 1) := by decide +kernel
theorem dL_law_496 : decode cL_law 496 = .ok (.aload_n 0, 1) := by decide +kernel
theorem dL_law_497 : decode cL_law 497 = .ok (.iload 4, 2) := by decide +kernel
theorem dL_law_499 : decode cL_law 499 = .ok (.iconst 1, 1) := by decide +kernel
theorem dL_law_500 : decode cL_law 500 = .ok (.iadd, 1) := by decide +kernel
theorem dL_law_501 : decode cL_law 501 = .ok (.iaload, 1) := by decide +kernel
theorem dL_law_502 : decode cL_law 502 = .ok (.aload_n 0, 1) := by decide +kernel
theorem dL_law_503 : decode cL_law 503 = .ok (.iload 4, 2) := by decide +kernel
theorem dL_law_505 : decode cL_law 505 = .ok (.iconst 2, 1) := by decide +kernel
theorem dL_law_506 : decode cL_law 506 = .ok (.iadd, 1) := by decide +kernel
theorem dL_law_507 : decode cL_law 507 = .ok (.iaload, 1) := by decide +kernel
theorem dL_law_508 : decode cL_law 508 = .ok (.invokevirtual 82, 3) := by decide +kernel
theorem dL_law_511 : decode cL_law 511 = .ok (.aload_n 2, 1) := by decide +kernel
theorem dL_law_512 : decode cL_law 512 = .ok (.aload_n 0, 1) := by decide +kernel
theorem dL_law_513 : decode cL_law 513 = .ok (.iload 4, 2) := by decide +kernel
theorem dL_law_515 : decode cL_law 515 = .ok (.iconst 1, 1) := by decide +kernel
theorem dL_law_516 : decode cL_law 516 = .ok (.iadd, 1) := by decide +kernel
theorem dL_law_517 : decode cL_law 517 = .ok (.iaload, 1) := by decide +kernel
theorem dL_law_518 : decode cL_law 518 = .ok (.aload_n 0, 1) := by decide +kernel
theorem dL_law_519 : decode cL_law 519 = .ok (.iload 4, 2) := by decide +kernel
theorem dL_law_521 : decode cL_law 521 = .ok (.iconst 2, 1) := by decide +kernel
theorem dL_law_522 : decode cL_law 522 = .ok (.iadd, 1) := by decide +kernel
theorem dL_law_523 : decode cL_law 523 = .ok (.iaload, 1) := by decide +kernel
theorem dL_law_524 : decode cL_law 524 = .ok (.invokevirtual 85, 3) := by decide +kernel
theorem dL_law_527 : decode cL_law 527 = .ok (.if_icmp .eq 99, 3) := by decide +kernel
theorem dL_law_530 : decode cL_law 530 = .ok (.iconst 0, 1) := by decide +kernel
theorem dL_law_531 : decode cL_law 531 = .ok (.ireturn, 1) := by decide +kernel
theorem dL_law_532 : decode cL_law 532 = .ok (.aload_n 1, 1) := by decide +kernel
theorem dL_law_533 : decode cL_law 533 = .ok (.aload_n 0, 1) := by decide +kernel
theorem dL_law_534 : decode cL_law 534 = .ok (.iload 4, 2) := by decide +kernel
theorem dL_law_536 : decode cL_law 536 = .ok (.iconst 1, 1) := by decide +kernel
theorem dL_law_537 : decode cL_law 537 = .ok (.iadd, 1) := by decide +kernel
theorem dL_law_538 : decode cL_law 538 = .ok (.iaload, 1) := by decide +kernel
theorem dL_law_539 : decode cL_law 539 = .ok (.aload_n 0, 1) := by decide +kernel
theorem dL_law_540 : decode cL_law 540 = .ok (.iload 4, 2) := by decide +kernel
theorem dL_law_542 : decode cL_law 542 = .ok (.iconst 2, 1) := by decide +kernel
theorem dL_law_543 : decode cL_law 543 = .ok (.iadd, 1) := by decide +kernel
theorem dL_law_544 : decode cL_law 544 = .ok (.iaload, 1) := by decide +kernel
theorem dL_law_545 : decode cL_law 545 = .ok (.invokevirtual 86, 3) := by decide +kernel
theorem dL_law_548 : decode cL_law 548 = .ok (.aload_n 2, 1) := by decide +kernel
theorem dL_law_549 : decode cL_law 549 = .ok (.aload_n 0, 1) := by decide +kernel
theorem dL_law_550 : decode cL_law 550 = .ok (.iload 4, 2) := by decide +kernel
theorem dL_law_552 : decode cL_law 552 = .ok (.iconst 1, 1) := by decide +kernel
theorem dL_law_553 : decode cL_law 553 = .ok (.iadd, 1) := by decide +kernel
theorem dL_law_554 : decode cL_law 554 = .ok (.iaload, 1) := by decide +kernel
theorem dL_law_555 : decode cL_law 555 = .ok (.aload_n 0, 1) := by decide +kernel
theorem dL_law_556 : decode cL_law 556 = .ok (.iload 4, 2) := by decide +kernel
theorem dL_law_558 : decode cL_law 558 = .ok (.iconst 2, 1) := by decide +kernel
theorem dL_law_559 : decode cL_law 559 = .ok (.iadd, 1) := by decide +kernel
theorem dL_law_560 : decode cL_law 560 = .ok (.iaload, 1) := by decide +kernel
theorem dL_law_561 : decode cL_law 561 = .ok (.invokevirtual 89, 3) := by decide +kernel
theorem dL_law_564 : decode cL_law 564 = .ok (.if_icmp .eq 62, 3) := by decide +kernel
theorem dL_law_567 : decode cL_law 567 = .ok (.iconst 0, 1) := by decide +kernel
theorem dL_law_568 : decode cL_law 568 = .ok (.ireturn, 1) := by decide +kernel
theorem dL_law_569 : decode cL_law 569 = .ok (.aload_n 1, 1) := by decide +kernel
theorem dL_law_570 : decode cL_law 570 = .ok (.invokevirtual 90, 3) := by decide +kernel
theorem dL_law_573 : decode cL_law 573 = .ok (.aload_n 2, 1) := by decide +kernel
theorem dL_law_574 : decode cL_law 574 = .ok (.invokevirtual 93, 3) := by decide +kernel
theorem dL_law_577 : decode cL_law 577 = .ok (.if_icmp .eq 49, 3) := by decide +kernel
theorem dL_law_580 : decode cL_law 580 = .ok (.iconst 0, 1) := by decide +kernel
theorem dL_law_581 : decode cL_law 581 = .ok (.ireturn, 1) := by decide +kernel
theorem dL_law_582 : decode cL_law 582 = .ok (.aload_n 1, 1) := by decide +kernel
theorem dL_law_583 : decode cL_law 583 = .ok (.aload_n 3, 1) := by decide +kernel
theorem dL_law_584 : decode cL_law 584 = .ok (.invokestatic 94, 3) := by decide +kernel
theorem dL_law_587 : decode cL_law 587 = .ok (.istore 5, 2) := by decide +kernel
theorem dL_law_589 : decode cL_law 589 = .ok (.aload_n 2, 1) := by decide +kernel
theorem dL_law_590 : decode cL_law 590 = .ok (.invokevirtual 99, 3) := by decide +kernel
theorem dL_law_593 : decode cL_law 593 = .ok (.istore 6, 2) := by decide +kernel
theorem dL_law_595 : decode cL_law 595 = .ok (.aload_n 2, 1) := by decide +kernel
theorem dL_law_596 : decode cL_law 596 = .ok (.invokevirtual 100, 3) := by decide +kernel
theorem dL_law_599 : decode cL_law 599 = .ok (.iload 5, 2) := by decide +kernel
theorem dL_law_601 : decode cL_law 601 = .ok (.if_icmp .eq 5, 3) := by decide +kernel
theorem dL_law_604 : decode cL_law 604 = .ok (.iconst 0, 1) := by decide +kernel
theorem dL_law_605 : decode cL_law 605 = .ok (.ireturn, 1) := by decide +kernel
theorem dL_law_606 : decode cL_law 606 = .ok (.iload 5, 2) := by decide +kernel
theorem dL_law_608 : decode cL_law 608 = .ok (.ifCond .ne 15, 3) := by decide +kernel
theorem dL_law_611 : decode cL_law 611 = .ok (.aload_n 3, 1) := by decide +kernel
theorem dL_law_612 : decode cL_law 612 = .ok (.iconst 0, 1) := by decide +kernel
theorem dL_law_613 : decode cL_law 613 = .ok (.laload, 1) := by decide +kernel
theorem dL_law_614 : decode cL_law 614 = .ok (.iload 6, 2) := by decide +kernel
theorem dL_law_616 : decode cL_law 616 = .ok (.i2l, 1) := by decide +kernel
theorem dL_law_617 : decode cL_law 617 = .ok (.lcmp, 1) := by decide +kernel
theorem dL_law_618 : decode cL_law 618 = .ok (.ifCond .eq 5, 3) := by decide +kernel
theorem dL_law_621 : decode cL_law 621 = .ok (.iconst 0, 1) := by decide +kernel
theorem dL_law_622 : decode cL_law 622 = .ok (.ireturn, 1) := by decide +kernel
theorem dL_law_623 : decode cL_law 623 = .ok (.goto 3, 3) := by decide +kernel
theorem dL_law_626 : decode cL_law 626 = .ok (.iinc 4 6, 3) := by decide +kernel
theorem dL_law_629 : decode cL_law 629 = .ok (.goto (-606), 3) := by decide +kernel
theorem dL_law_632 : decode cL_law 632 = .ok (.iconst 1, 1) := by decide +kernel
theorem dL_law_633 : decode cL_law 633 = .ok (.ireturn, 1) := by decide +kernel
