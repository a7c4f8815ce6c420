theorem dX9_instruction_16 : decode cX9_instruction 16 = .ok (.aload_n 0, 1) := by decide +kernel
theorem dX9_instruction_17 : decode cX9_instruction 17 = .ok (.dup, 1) := by decide +kernel
theorem dX9_instruction_18 : decode cX9_instruction 18 = .ok (.getfield 229, 3) := by decide +kernel
theorem dX9_instruction_21 : decode cX9_instruction 21 = .ok (.iconst 1, 1) := by decide +kernel
theorem dX9_instruction_22 : decode cX9_instruction 22 = .ok (.iadd, 1) := by decide +kernel
theorem dX9_instruction_23 : decode cX9_instruction 23 = .ok (.putfield 229, 3) := by decide +kernel
theorem dX9_instruction_26 : decode cX9_instruction 26 = .ok (.aload_n 0, 1) := by decide +kernel
theorem dX9_instruction_27 : decode cX9_instruction 27 = .ok (.dup, 1) := by decide +kernel
theorem dX9_instruction_28 : decode cX9_instruction 28 = .ok (.getfield 232, 3) := by decide +kernel
theorem dX9_instruction_31 : decode cX9_instruction 31 = .ok (.lconst 1, 1) := by decide +kernel
theorem dX9_instruction_32 : decode cX9_instruction 32 = .ok (.ladd, 1) := by decide +kernel
theorem dX9_instruction_33 : decode cX9_instruction 33 = .ok (.putfield 232, 3) := by decide +kernel
theorem dX9_instruction_36 : decode cX9_instruction 36 = .ok (.aload_n 0, 1) := by decide +kernel
theorem dX9_instruction_37 : decode cX9_instruction 37 = .ok (.aload_n 0, 1) := by decide +kernel
theorem dX9_instruction_38 : decode cX9_instruction 38 = .ok (.getfield 176, 3) := by decide +kernel
theorem dX9_instruction_41 : decode cX9_instruction 41 = .ok (.invokevirtual 100, 3) := by decide +kernel
theorem dX9_instruction_44 : decode cX9_instruction 44 = .ok (.istore_n 1, 1) := by decide +kernel
theorem dX9_instruction_45 : decode cX9_instruction 45 = .ok (.iload_n 1, 1) := by decide +kernel
theorem dX9_instruction_46 : decode cX9_instruction 46 = .ok (.invokestatic 236, 3) := by decide +kernel
theorem dX9_instruction_49 : decode cX9_instruction 49 = .ok (.istore_n 2, 1) := by decide +kernel
theorem dX9_instruction_50 : decode cX9_instruction 50 = .ok (.aload_n 0, 1) := by decide +kernel
theorem dX9_instruction_51 : decode cX9_instruction 51 = .ok (.iload_n 2, 1) := by decide +kernel
theorem dX9_instruction_52 : decode cX9_instruction 52 = .ok (.iconst 1, 1) := by decide +kernel
theorem dX9_instruction_53 : decode cX9_instruction 53 = .ok (.if_icmp .le 19, 3) := by decide +kernel
theorem dX9_instruction_56 : decode cX9_instruction 56 = .ok (.aload_n 0, 1) := by decide +kernel
theorem dX9_instruction_57 : decode cX9_instruction 57 = .ok (.aload_n 0, 1) := by decide +kernel
theorem dX9_instruction_58 : decode cX9_instruction 58 = .ok (.getfield 176, 3) := by decide +kernel
theorem dX9_instruction_61 : decode cX9_instruction 61 = .ok (.iconst 1, 1) := by decide +kernel
theorem dX9_instruction_62 : decode cX9_instruction 62 = .ok (.iadd, 1) := by decide +kernel
theorem dX9_instruction_63 : decode cX9_instruction 63 = .ok (.ldc 36, 2) := by decide +kernel
theorem dX9_instruction_65 : decode cX9_instruction 65 = .ok (.iand, 1) := by decide +kernel
theorem dX9_instruction_66 : decode cX9_instruction 66 = .ok (.invokevirtual 100, 3) := by decide +kernel
theorem dX9_instruction_69 : decode cX9_instruction 69 = .ok (.goto 4, 3) := by decide +kernel
theorem dX9_instruction_72 : decode cX9_instruction 72 = .ok (.iconst 0, 1) := by decide +kernel
theorem dX9_instruction_73 : decode cX9_instruction 73 = .ok (.putfield 117, 3) := by decide +kernel
theorem dX9_instruction_76 : decode cX9_instruction 76 = .ok (.aload_n 0, 1) := by decide +kernel
theorem dX9_instruction_77 : decode cX9_instruction 77 = .ok (.iload_n 2, 1) := by decide +kernel
theorem dX9_instruction_78 : decode cX9_instruction 78 = .ok (.iconst 2, 1) := by decide +kernel
theorem dX9_instruction_79 : decode cX9_instruction 79 = .ok (.if_icmp .le 27, 3) := by decide +kernel
theorem dX9_instruction_82 : decode cX9_instruction 82 = .ok (.aload_n 0, 1) := by decide +kernel
theorem dX9_instruction_83 : decode cX9_instruction 83 = .ok (.getfield 117, 3) := by decide +kernel
theorem dX9_instruction_86 : decode cX9_instruction 86 = .ok (.aload_n 0, 1) := by decide +kernel
theorem dX9_instruction_87 : decode cX9_instruction 87 = .ok (.aload_n 0, 1) := by decide +kernel
theorem dX9_instruction_88 : decode cX9_instruction 88 = .ok (.getfield 176, 3) := by decide +kernel
theorem dX9_instruction_91 : decode cX9_instruction 91 = .ok (.iconst 2, 1) := by decide +kernel
theorem dX9_instruction_92 : decode cX9_instruction 92 = .ok (.iadd, 1) := by decide +kernel
theorem dX9_instruction_93 : decode cX9_instruction 93 = .ok (.ldc 36, 2) := by decide +kernel
theorem dX9_instruction_95 : decode cX9_instruction 95 = .ok (.iand, 1) := by decide +kernel
theorem dX9_instruction_96 : decode cX9_instruction 96 = .ok (.invokevirtual 100, 3) := by decide +kernel
theorem dX9_instruction_99 : decode cX9_instruction 99 = .ok (.bipush 8, 2) := by decide +kernel
theorem dX9_instruction_101 : decode cX9_instruction 101 = .ok (.ishl, 1) := by decide +kernel
theorem dX9_instruction_102 : decode cX9_instruction 102 = .ok (.ior, 1) := by decide +kernel
theorem dX9_instruction_103 : decode cX9_instruction 103 = .ok (.goto 7, 3) := by decide +kernel
theorem dX9_instruction_106 : decode cX9_instruction 106 = .ok (.aload_n 0, 1) := by decide +kernel
theorem dX9_instruction_107 : decode cX9_instruction 107 = .ok (.getfield 117, 3) := by decide +kernel
theorem dX9_instruction_110 : decode cX9_instruction 110 = .ok (.putfield 120, 3) := by decide +kernel
theorem dX9_instruction_113 : decode cX9_instruction 113 = .ok (.aload_n 0, 1) := by decide +kernel
theorem dX9_instruction_114 : decode cX9_instruction 114 = .ok (.aload_n 0, 1) := by decide +kernel
theorem dX9_instruction_115 : decode cX9_instruction 115 = .ok (.getfield 176, 3) := by decide +kernel
theorem dX9_instruction_118 : decode cX9_instruction 118 = .ok (.iload_n 2, 1) := by decide +kernel
theorem dX9_instruction_119 : decode cX9_instruction 119 = .ok (.iadd, 1) := by decide +kernel
theorem dX9_instruction_120 : decode cX9_instruction 120 = .ok (.ldc 36, 2) := by decide +kernel
theorem dX9_instruction_122 : decode cX9_instruction 122 = .ok (.iand, 1) := by decide +kernel
theorem dX9_instruction_123 : decode cX9_instruction 123 = .ok (.putfield 176, 3) := by decide +kernel
theorem dX9_instruction_126 : decode cX9_instruction 126 = .ok (.iload_n 1, 1) := by decide +kernel
theorem dX9_instruction_127 : decode cX9_instruction 127 = .ok (.iconst 4, 1) := by decide +kernel
theorem dX9_instruction_128 : decode cX9_instruction 128 = .ok (.ishr, 1) := by decide +kernel
theorem dX9_instruction_129 : decode cX9_instruction 129 = .ok (.iconst 1, 1) := by decide +kernel
theorem dX9_instruction_130 : decode cX9_instruction 130 = .ok (.iand, 1) := by decide +kernel
theorem dX9_instruction_131 : decode cX9_instruction 131 = .ok (.iconst 1, 1) := by decide +kernel
theorem dX9_instruction_132 : decode cX9_instruction 132 = .ok (.if_icmp .ne 7, 3) := by decide +kernel
theorem dX9_instruction_135 : decode cX9_instruction 135 = .ok (.iconst 1, 1) := by decide +kernel
theorem dX9_instruction_136 : decode cX9_instruction 136 = .ok (.goto 4, 3) := by decide +kernel
theorem dX9_instruction_139 : decode cX9_instruction 139 = .ok (.iconst 0, 1) := by decide +kernel
theorem dX9_instruction_140 : decode cX9_instruction 140 = .ok (.istore_n 3, 1) := by decide +kernel
theorem dX9_instruction_141 : decode cX9_instruction 141 = .ok (.iload_n 1, 1) := by decide +kernel
theorem dX9_instruction_142 : decode cX9_instruction 142 = .ok (.bipush 15, 2) := by decide +kernel
theorem dX9_instruction_144 : decode cX9_instruction 144 = .ok (.iand, 1) := by decide +kernel
theorem dX9_instruction_145 : decode cX9_instruction 145 = .ok (.tableswitch 275 0 15 #[79, 275, 147, 177, 183, 275, 189, 195, 201, 207, 228, 177, 183, 275, 254, 195], 79) := by decide +kernel
theorem dX9_instruction_224 : decode cX9_instruction 224 = .ok (.iload_n 3, 1) := by decide +kernel
theorem dX9_instruction_225 : decode cX9_instruction 225 = .ok (.ifCond .ne 10, 3) := by decide +kernel
theorem dX9_instruction_228 : decode cX9_instruction 228 = .ok (.iload_n 1, 1) := by decide +kernel
theorem dX9_instruction_229 : decode cX9_instruction 229 = .ok (.sipush 128, 3) := by decide +kernel
theorem dX9_instruction_232 : decode cX9_instruction 232 = .ok (.if_icmp .ne 11, 3) := by decide +kernel
theorem dX9_instruction_235 : decode cX9_instruction 235 = .ok (.aload_n 0, 1) := by decide +kernel
theorem dX9_instruction_236 : decode cX9_instruction 236 = .ok (.iload_n 1, 1) := by decide +kernel
theorem dX9_instruction_237 : decode cX9_instruction 237 = .ok (.invokevirtual 239, 3) := by decide +kernel
theorem dX9_instruction_240 : decode cX9_instruction 240 = .ok (.goto 51, 3) := by decide +kernel
theorem dX9_instruction_243 : decode cX9_instruction 243 = .ok (.iload_n 1, 1) := by decide +kernel
theorem dX9_instruction_244 : decode cX9_instruction 244 = .ok (.sipush 128, 3) := by decide +kernel
theorem dX9_instruction_247 : decode cX9_instruction 247 = .ok (.if_icmp .ge 11, 3) := by decide +kernel
theorem dX9_instruction_250 : decode cX9_instruction 250 = .ok (.aload_n 0, 1) := by decide +kernel
theorem dX9_instruction_251 : decode cX9_instruction 251 = .ok (.iload_n 1, 1) := by decide +kernel
theorem dX9_instruction_252 : decode cX9_instruction 252 = .ok (.invokevirtual 242, 3) := by decide +kernel
theorem dX9_instruction_255 : decode cX9_instruction 255 = .ok (.goto 36, 3) := by decide +kernel
theorem dX9_instruction_258 : decode cX9_instruction 258 = .ok (.iload_n 1, 1) := by decide +kernel
theorem dX9_instruction_259 : decode cX9_instruction 259 = .ok (.sipush 160, 3) := by decide +kernel
theorem dX9_instruction_262 : decode cX9_instruction 262 = .ok (.if_icmp .ne 12, 3) := by decide +kernel
theorem dX9_instruction_265 : decode cX9_instruction 265 = .ok (.aload_n 0, 1) := by decide +kernel
theorem dX9_instruction_266 : decode cX9_instruction 266 = .ok (.iconst 2, 1) := by decide +kernel
theorem dX9_instruction_267 : decode cX9_instruction 267 = .ok (.iconst 0, 1) := by decide +kernel
theorem dX9_instruction_268 : decode cX9_instruction 268 = .ok (.invokevirtual 173, 3) := by decide +kernel
theorem dX9_instruction_271 : decode cX9_instruction 271 = .ok (.goto 20, 3) := by decide +kernel
theorem dX9_instruction_274 : decode cX9_instruction 274 = .ok (.aload_n 0, 1) := by decide +kernel
theorem dX9_instruction_275 : decode cX9_instruction 275 = .ok (.iload_n 1, 1) := by decide +kernel
theorem dX9_instruction_276 : decode cX9_instruction 276 = .ok (.sipush 192, 3) := by decide +kernel
theorem dX9_instruction_279 : decode cX9_instruction 279 = .ok (.if_icmp .ne 7, 3) := by decide +kernel
theorem dX9_instruction_282 : decode cX9_instruction 282 = .ok (.iconst 2, 1) := by decide +kernel
theorem dX9_instruction_283 : decode cX9_instruction 283 = .ok (.goto 4, 3) := by decide +kernel
theorem dX9_instruction_286 : decode cX9_instruction 286 = .ok (.iconst 1, 1) := by decide +kernel
theorem dX9_instruction_287 : decode cX9_instruction 287 = .ok (.iconst 0, 1) := by decide +kernel
theorem dX9_instruction_288 : decode cX9_instruction 288 = .ok (.invokevirtual 192, 3) := by decide +kernel
theorem dX9_instruction_291 : decode cX9_instruction 291 = .ok (.ireturn, 1) := by decide +kernel
theorem dX9_instruction_292 : decode cX9_instruction 292 = .ok (.iload_n 3, 1) := by decide +kernel
theorem dX9_instruction_293 : decode cX9_instruction 293 = .ok (.ifCond .eq 11, 3) := by decide +kernel
theorem dX9_instruction_296 : decode cX9_instruction 296 = .ok (.aload_n 0, 1) := by decide +kernel
theorem dX9_instruction_297 : decode cX9_instruction 297 = .ok (.iload_n 1, 1) := by decide +kernel
theorem dX9_instruction_298 : decode cX9_instruction 298 = .ok (.invokevirtual 245, 3) := by decide +kernel
theorem dX9_instruction_301 : decode cX9_instruction 301 = .ok (.goto 20, 3) := by decide +kernel
theorem dX9_instruction_304 : decode cX9_instruction 304 = .ok (.iload_n 1, 1) := by decide +kernel
theorem dX9_instruction_305 : decode cX9_instruction 305 = .ok (.sipush 162, 3) := by decide +kernel
theorem dX9_instruction_308 : decode cX9_instruction 308 = .ok (.if_icmp .ne 12, 3) := by decide +kernel
theorem dX9_instruction_311 : decode cX9_instruction 311 = .ok (.aload_n 0, 1) := by decide +kernel
theorem dX9_instruction_312 : decode cX9_instruction 312 = .ok (.iconst 1, 1) := by decide +kernel
theorem dX9_instruction_313 : decode cX9_instruction 313 = .ok (.iconst 0, 1) := by decide +kernel
theorem dX9_instruction_314 : decode cX9_instruction 314 = .ok (.invokevirtual 173, 3) := by decide +kernel
theorem dX9_instruction_317 : decode cX9_instruction 317 = .ok (.goto 4, 3) := by decide +kernel
theorem dX9_instruction_320 : decode cX9_instruction 320 = .ok (.iconst 2, 1) := by decide +kernel
theorem dX9_instruction_321 : decode cX9_instruction 321 = .ok (.ireturn, 1) := by decide +kernel
theorem dX9_instruction_322 : decode cX9_instruction 322 = .ok (.aload_n 0, 1) := by decide +kernel
theorem dX9_instruction_323 : decode cX9_instruction 323 = .ok (.iload_n 1, 1) := by decide +kernel
theorem dX9_instruction_324 : decode cX9_instruction 324 = .ok (.invokevirtual 248, 3) := by decide +kernel
theorem dX9_instruction_327 : decode cX9_instruction 327 = .ok (.ireturn, 1) := by decide +kernel
theorem dX9_instruction_328 : decode cX9_instruction 328 = .ok (.aload_n 0, 1) := by decide +kernel
theorem dX9_instruction_329 : decode cX9_instruction 329 = .ok (.iload_n 1, 1) := by decide +kernel
theorem dX9_instruction_330 : decode cX9_instruction 330 = .ok (.invokevirtual 251, 3) := by decide +kernel
theorem dX9_instruction_333 : decode cX9_instruction 333 = .ok (.ireturn, 1) := by decide +kernel
theorem dX9_instruction_334 : decode cX9_instruction 334 = .ok (.aload_n 0, 1) := by decide +kernel
theorem dX9_instruction_335 : decode cX9_instruction 335 = .ok (.iload_n 1, 1) := by decide +kernel
theorem dX9_instruction_336 : decode cX9_instruction 336 = .ok (.invokevirtual 254, 3) := by decide +kernel
theorem dX9_instruction_339 : decode cX9_instruction 339 = .ok (.ireturn, 1) := by decide +kernel
theorem dX9_instruction_340 : decode cX9_instruction 340 = .ok (.aload_n 0, 1) := by decide +kernel
theorem dX9_instruction_341 : decode cX9_instruction 341 = .ok (.iload_n 1, 1) := by decide +kernel
theorem dX9_instruction_342 : decode cX9_instruction 342 = .ok (.invokevirtual 257, 3) := by decide +kernel
theorem dX9_instruction_345 : decode cX9_instruction 345 = .ok (.ireturn, 1) := by decide +kernel
theorem dX9_instruction_346 : decode cX9_instruction 346 = .ok (.aload_n 0, 1) := by decide +kernel
theorem dX9_instruction_347 : decode cX9_instruction 347 = .ok (.iload_n 1, 1) := by decide +kernel
theorem dX9_instruction_348 : decode cX9_instruction 348 = .ok (.invokevirtual 260, 3) := by decide +kernel
theorem dX9_instruction_351 : decode cX9_instruction 351 = .ok (.ireturn, 1) := by decide +kernel
theorem dX9_instruction_352 : decode cX9_instruction 352 = .ok (.iload_n 1, 1) := by decide +kernel
theorem dX9_instruction_353 : decode cX9_instruction 353 = .ok (.sipush 137, 3) := by decide +kernel
theorem dX9_instruction_356 : decode cX9_instruction 356 = .ok (.if_icmp .ne 11, 3) := by decide +kernel
theorem dX9_instruction_359 : decode cX9_instruction 359 = .ok (.aload_n 0, 1) := by decide +kernel
theorem dX9_instruction_360 : decode cX9_instruction 360 = .ok (.iconst 0, 1) := by decide +kernel
theorem dX9_instruction_361 : decode cX9_instruction 361 = .ok (.invokevirtual 186, 3) := by decide +kernel
theorem dX9_instruction_364 : decode cX9_instruction 364 = .ok (.goto 8, 3) := by decide +kernel
theorem dX9_instruction_367 : decode cX9_instruction 367 = .ok (.aload_n 0, 1) := by decide +kernel
theorem dX9_instruction_368 : decode cX9_instruction 368 = .ok (.iload_n 1, 1) := by decide +kernel
theorem dX9_instruction_369 : decode cX9_instruction 369 = .ok (.invokevirtual 245, 3) := by decide +kernel
theorem dX9_instruction_372 : decode cX9_instruction 372 = .ok (.ireturn, 1) := by decide +kernel
theorem dX9_instruction_373 : decode cX9_instruction 373 = .ok (.iload_n 1, 1) := by decide +kernel
theorem dX9_instruction_374 : decode cX9_instruction 374 = .ok (.bipush 80, 2) := by decide +kernel
theorem dX9_instruction_376 : decode cX9_instruction 376 = .ok (.if_icmp .lt 9, 3) := by decide +kernel
theorem dX9_instruction_379 : decode cX9_instruction 379 = .ok (.iload_n 1, 1) := by decide +kernel
theorem dX9_instruction_380 : decode cX9_instruction 380 = .ok (.bipush 106, 2) := by decide +kernel
theorem dX9_instruction_382 : decode cX9_instruction 382 = .ok (.if_icmp .ne 11, 3) := by decide +kernel
theorem dX9_instruction_385 : decode cX9_instruction 385 = .ok (.aload_n 0, 1) := by decide +kernel
theorem dX9_instruction_386 : decode cX9_instruction 386 = .ok (.iload_n 1, 1) := by decide +kernel
theorem dX9_instruction_387 : decode cX9_instruction 387 = .ok (.invokevirtual 254, 3) := by decide +kernel
theorem dX9_instruction_390 : decode cX9_instruction 390 = .ok (.goto 8, 3) := by decide +kernel
theorem dX9_instruction_393 : decode cX9_instruction 393 = .ok (.aload_n 0, 1) := by decide +kernel
theorem dX9_instruction_394 : decode cX9_instruction 394 = .ok (.iload_n 1, 1) := by decide +kernel
theorem dX9_instruction_395 : decode cX9_instruction 395 = .ok (.invokevirtual 263, 3) := by decide +kernel
theorem dX9_instruction_398 : decode cX9_instruction 398 = .ok (.ireturn, 1) := by decide +kernel
theorem dX9_instruction_399 : decode cX9_instruction 399 = .ok (.iload_n 1, 1) := by decide +kernel
theorem dX9_instruction_400 : decode cX9_instruction 400 = .ok (.sipush 158, 3) := by decide +kernel
theorem dX9_instruction_403 : decode cX9_instruction 403 = .ok (.if_icmp .ne 11, 3) := by decide +kernel
theorem dX9_instruction_406 : decode cX9_instruction 406 = .ok (.aload_n 0, 1) := by decide +kernel
theorem dX9_instruction_407 : decode cX9_instruction 407 = .ok (.iconst 5, 1) := by decide +kernel
theorem dX9_instruction_408 : decode cX9_instruction 408 = .ok (.invokevirtual 189, 3) := by decide +kernel
theorem dX9_instruction_411 : decode cX9_instruction 411 = .ok (.goto 8, 3) := by decide +kernel
theorem dX9_instruction_414 : decode cX9_instruction 414 = .ok (.aload_n 0, 1) := by decide +kernel
theorem dX9_instruction_415 : decode cX9_instruction 415 = .ok (.iload_n 1, 1) := by decide +kernel
theorem dX9_instruction_416 : decode cX9_instruction 416 = .ok (.invokevirtual 254, 3) := by decide +kernel
theorem dX9_instruction_419 : decode cX9_instruction 419 = .ok (.ireturn, 1) := by decide +kernel
theorem dX9_instruction_420 : decode cX9_instruction 420 = .ok (.aload_n 0, 1) := by decide +kernel
theorem dX9_instruction_421 : decode cX9_instruction 421 = .ok (.iload_n 1, 1) := by decide +kernel
theorem dX9_instruction_422 : decode cX9_instruction 422 = .ok (.invokevirtual 245, 3) := by decide +kernel
theorem dX9_instruction_425 : decode cX9_instruction 425 = .ok (.ireturn, 1) := by decide +kernel
theorem dX9_clock_0 : decode cX9_clock 0 = .ok (.aload_n 0, 1) := by decide +kernel
theorem dX9_clock_1 : decode cX9_clock 1 = .ok (.dup, 1) := by decide +kernel
theorem dX9_clock_2 : decode cX9_clock 2 = .ok (.getfield 266, 3) := by decide +kernel
theorem dX9_clock_5 : decode cX9_clock 5 = .ok (.lconst 1, 1) := by decide +kernel
theorem dX9_clock_6 : decode cX9_clock 6 = .ok (.ladd, 1) := by decide +kernel
theorem dX9_clock_7 : decode cX9_clock 7 = .ok (.putfield 266, 3) := by decide +kernel
theorem dX9_clock_10 : decode cX9_clock 10 = .ok (.aload_n 0, 1) := by decide +kernel
theorem dX9_clock_11 : decode cX9_clock 11 = .ok (.getfield 37, 3) := by decide +kernel
theorem dX9_clock_14 : decode cX9_clock 14 = .ok (.ifCond .ne 7, 3) := by decide +kernel
theorem dX9_clock_17 : decode cX9_clock 17 = .ok (.iconst 1, 1) := by decide +kernel
theorem dX9_clock_18 : decode cX9_clock 18 = .ok (.goto 4, 3) := by decide +kernel
theorem dX9_clock_21 : decode cX9_clock 21 = .ok (.iconst 0, 1) := by decide +kernel
theorem dX9_clock_22 : decode cX9_clock 22 = .ok (.istore_n 1, 1) := by decide +kernel
theorem dX9_clock_23 : decode cX9_clock 23 = .ok (.aload_n 0, 1) := by decide +kernel
theorem dX9_clock_24 : decode cX9_clock 24 = .ok (.getfield 40, 3) := by decide +kernel
theorem dX9_clock_27 : decode cX9_clock 27 = .ok (.ifCond .ne 7, 3) := by decide +kernel
theorem dX9_clock_30 : decode cX9_clock 30 = .ok (.iconst 1, 1) := by decide +kernel
theorem dX9_clock_31 : decode cX9_clock 31 = .ok (.goto 4, 3) := by decide +kernel
theorem dX9_clock_34 : decode cX9_clock 34 = .ok (.iconst 0, 1) := by decide +kernel
theorem dX9_clock_35 : decode cX9_clock 35 = .ok (.istore_n 2, 1) := by decide +kernel
theorem dX9_clock_36 : decode cX9_clock 36 = .ok (.aload_n 0, 1) := by decide +kernel
theorem dX9_clock_37 : decode cX9_clock 37 = .ok (.getfield 58, 3) := by decide +kernel
theorem dX9_clock_40 : decode cX9_clock 40 = .ok (.bipush 64, 2) := by decide +kernel
theorem dX9_clock_42 : decode cX9_clock 42 = .ok (.iand, 1) := by decide +kernel
theorem dX9_clock_43 : decode cX9_clock 43 = .ok (.ifCond .eq 7, 3) := by decide +kernel
theorem dX9_clock_46 : decode cX9_clock 46 = .ok (.iconst 1, 1) := by decide +kernel
theorem dX9_clock_47 : decode cX9_clock 47 = .ok (.goto 4, 3) := by decide +kernel
theorem dX9_clock_50 : decode cX9_clock 50 = .ok (.iconst 0, 1) := by decide +kernel
theorem dX9_clock_51 : decode cX9_clock 51 = .ok (.istore_n 3, 1) := by decide +kernel
theorem dX9_clock_52 : decode cX9_clock 52 = .ok (.aload_n 0, 1) := by decide +kernel
theorem dX9_clock_53 : decode cX9_clock 53 = .ok (.iload_n 1, 1) := by decide +kernel
theorem dX9_clock_54 : decode cX9_clock 54 = .ok (.ifCond .eq 19, 3) := by decide +kernel
theorem dX9_clock_57 : decode cX9_clock 57 = .ok (.iload_n 3, 1) := by decide +kernel
theorem dX9_clock_58 : decode cX9_clock 58 = .ok (.ifCond .eq 10, 3) := by decide +kernel
theorem dX9_clock_61 : decode cX9_clock 61 = .ok (.aload_n 0, 1) := by decide +kernel
theorem dX9_clock_62 : decode cX9_clock 62 = .ok (.getfield 64, 3) := by decide +kernel
theorem dX9_clock_65 : decode cX9_clock 65 = .ok (.goto 14, 3) := by decide +kernel
theorem dX9_clock_68 : decode cX9_clock 68 = .ok (.ldc 36, 2) := by decide +kernel
theorem dX9_clock_70 : decode cX9_clock 70 = .ok (.goto 9, 3) := by decide +kernel
theorem dX9_clock_73 : decode cX9_clock 73 = .ok (.aload_n 0, 1) := by decide +kernel
theorem dX9_clock_74 : decode cX9_clock 74 = .ok (.getfield 37, 3) := by decide +kernel
theorem dX9_clock_77 : decode cX9_clock 77 = .ok (.iconst 1, 1) := by decide +kernel
theorem dX9_clock_78 : decode cX9_clock 78 = .ok (.isub, 1) := by decide +kernel
theorem dX9_clock_79 : decode cX9_clock 79 = .ok (.putfield 37, 3) := by decide +kernel
theorem dX9_clock_82 : decode cX9_clock 82 = .ok (.aload_n 0, 1) := by decide +kernel
theorem dX9_clock_83 : decode cX9_clock 83 = .ok (.iload_n 2, 1) := by decide +kernel
theorem dX9_clock_84 : decode cX9_clock 84 = .ok (.ifCond .eq 8, 3) := by decide +kernel
theorem dX9_clock_87 : decode cX9_clock 87 = .ok (.ldc 36, 2) := by decide +kernel
theorem dX9_clock_89 : decode cX9_clock 89 = .ok (.goto 9, 3) := by decide +kernel
theorem dX9_clock_92 : decode cX9_clock 92 = .ok (.aload_n 0, 1) := by decide +kernel
theorem dX9_clock_93 : decode cX9_clock 93 = .ok (.getfield 40, 3) := by decide +kernel
theorem dX9_clock_96 : decode cX9_clock 96 = .ok (.iconst 1, 1) := by decide +kernel
theorem dX9_clock_97 : decode cX9_clock 97 = .ok (.isub, 1) := by decide +kernel
theorem dX9_clock_98 : decode cX9_clock 98 = .ok (.putfield 40, 3) := by decide +kernel
theorem dX9_clock_101 : decode cX9_clock 101 = .ok (.iload_n 1, 1) := by decide +kernel
theorem dX9_clock_102 : decode cX9_clock 102 = .ok (.ifCond .eq 26, 3) := by decide +kernel
theorem dX9_clock_105 : decode cX9_clock 105 = .ok (.aload_n 0, 1) := by decide +kernel
theorem dX9_clock_106 : decode cX9_clock 106 = .ok (.getfield 67, 3) := by decide +kernel
theorem dX9_clock_109 : decode cX9_clock 109 = .ok (.ifCond .eq 19, 3) := by decide +kernel
theorem dX9_clock_112 : decode cX9_clock 112 = .ok (.aload_n 0, 1) := by decide +kernel
theorem dX9_clock_113 : decode cX9_clock 113 = .ok (.dup, 1) := by decide +kernel
theorem dX9_clock_114 : decode cX9_clock 114 = .ok (.getfield 55, 3) := by decide +kernel
theorem dX9_clock_117 : decode cX9_clock 117 = .ok (.bipush 64, 2) := by decide +kernel
theorem dX9_clock_119 : decode cX9_clock 119 = .ok (.ior, 1) := by decide +kernel
theorem dX9_clock_120 : decode cX9_clock 120 = .ok (.putfield 55, 3) := by decide +kernel
theorem dX9_clock_123 : decode cX9_clock 123 = .ok (.aload_n 0, 1) := by decide +kernel
theorem dX9_clock_124 : decode cX9_clock 124 = .ok (.iload_n 3, 1) := by decide +kernel
theorem dX9_clock_125 : decode cX9_clock 125 = .ok (.putfield 67, 3) := by decide +kernel
theorem dX9_clock_128 : decode cX9_clock 128 = .ok (.iload_n 2, 1) := by decide +kernel
theorem dX9_clock_129 : decode cX9_clock 129 = .ok (.ifCond .eq 26, 3) := by decide +kernel
theorem dX9_clock_132 : decode cX9_clock 132 = .ok (.aload_n 0, 1) := by decide +kernel
theorem dX9_clock_133 : decode cX9_clock 133 = .ok (.getfield 71, 3) := by decide +kernel
theorem dX9_clock_136 : decode cX9_clock 136 = .ok (.ifCond .eq 19, 3) := by decide +kernel
theorem dX9_clock_139 : decode cX9_clock 139 = .ok (.aload_n 0, 1) := by decide +kernel
theorem dX9_clock_140 : decode cX9_clock 140 = .ok (.dup, 1) := by decide +kernel
theorem dX9_clock_141 : decode cX9_clock 141 = .ok (.getfield 55, 3) := by decide +kernel
theorem dX9_clock_144 : decode cX9_clock 144 = .ok (.bipush 32, 2) := by decide +kernel
theorem dX9_clock_146 : decode cX9_clock 146 = .ok (.ior, 1) := by decide +kernel
theorem dX9_clock_147 : decode cX9_clock 147 = .ok (.putfield 55, 3) := by decide +kernel
theorem dX9_clock_150 : decode cX9_clock 150 = .ok (.aload_n 0, 1) := by decide +kernel
theorem dX9_clock_151 : decode cX9_clock 151 = .ok (.iconst 0, 1) := by decide +kernel
theorem dX9_clock_152 : decode cX9_clock 152 = .ok (.putfield 71, 3) := by decide +kernel
theorem dX9_clock_155 : decode cX9_clock 155 = .ok (.return_, 1) := by decide +kernel
theorem dX9_taken2_0 : decode cX9_taken2 0 = .ok (.aload_n 0, 1) := by decide +kernel
theorem dX9_taken2_1 : decode cX9_taken2 1 = .ok (.dup, 1) := by decide +kernel
theorem dX9_taken2_2 : decode cX9_taken2 2 = .ok (.getfield 269, 3) := by decide +kernel
theorem dX9_taken2_5 : decode cX9_taken2 5 = .ok (.lconst 1, 1) := by decide +kernel
theorem dX9_taken2_6 : decode cX9_taken2 6 = .ok (.ladd, 1) := by decide +kernel
theorem dX9_taken2_7 : decode cX9_taken2 7 = .ok (.putfield 269, 3) := by decide +kernel
theorem dX9_taken2_10 : decode cX9_taken2 10 = .ok (.aload_n 0, 1) := by decide +kernel
theorem dX9_taken2_11 : decode cX9_taken2 11 = .ok (.iload_n 1, 1) := by decide +kernel
theorem dX9_taken2_12 : decode cX9_taken2 12 = .ok (.iconst 0, 1) := by decide +kernel
theorem dX9_taken2_13 : decode cX9_taken2 13 = .ok (.invokevirtual 204, 3) := by decide +kernel
theorem dX9_taken2_16 : decode cX9_taken2 16 = .ok (.bipush 7, 2) := by decide +kernel
theorem dX9_taken2_18 : decode cX9_taken2 18 = .ok (.ireturn, 1) := by decide +kernel
theorem dX9_once_0 : decode cX9_once 0 = .ok (.aload_n 0, 1) := by decide +kernel
theorem dX9_once_1 : decode cX9_once 1 = .ok (.getfield 226, 3) := by decide +kernel
theorem dX9_once_4 : decode cX9_once 4 = .ok (.ifCond .eq 5, 3) := by decide +kernel
theorem dX9_once_7 : decode cX9_once 7 = .ok (.iconst 0, 1) := by decide +kernel
theorem dX9_once_8 : decode cX9_once 8 = .ok (.ireturn, 1) := by decide +kernel
theorem dX9_once_9 : decode cX9_once 9 = .ok (.aload_n 0, 1) := by decide +kernel
theorem dX9_once_10 : decode cX9_once 10 = .ok (.getfield 272, 3) := by decide +kernel
theorem dX9_once_13 : decode cX9_once 13 = .ok (.ifCond .eq 21, 3) := by decide +kernel
theorem dX9_once_16 : decode cX9_once 16 = .ok (.aload_n 0, 1) := by decide +kernel
theorem dX9_once_17 : decode cX9_once 17 = .ok (.iconst 0, 1) := by decide +kernel
theorem dX9_once_18 : decode cX9_once 18 = .ok (.putfield 272, 3) := by decide +kernel
theorem dX9_once_21 : decode cX9_once 21 = .ok (.aload_n 0, 1) := by decide +kernel
theorem dX9_once_22 : decode cX9_once 22 = .ok (.iconst 0, 1) := by decide +kernel
theorem dX9_once_23 : decode cX9_once 23 = .ok (.putfield 223, 3) := by decide +kernel
theorem dX9_once_26 : decode cX9_once 26 = .ok (.aload_n 0, 1) := by decide +kernel
theorem dX9_once_27 : decode cX9_once 27 = .ok (.ldc_w 275, 3) := by decide +kernel
theorem dX9_once_30 : decode cX9_once 30 = .ok (.invokevirtual 276, 3) := by decide +kernel
theorem dX9_once_33 : decode cX9_once 33 = .ok (.ireturn, 1) := by decide +kernel
theorem dX9_once_34 : decode cX9_once 34 = .ok (.aload_n 0, 1) := by decide +kernel
theorem dX9_once_35 : decode cX9_once 35 = .ok (.getfield 55, 3) := by decide +kernel
theorem dX9_once_38 : decode cX9_once 38 = .ok (.aload_n 0, 1) := by decide +kernel
theorem dX9_once_39 : decode cX9_once 39 = .ok (.getfield 52, 3) := by decide +kernel
theorem dX9_once_42 : decode cX9_once 42 = .ok (.iand, 1) := by decide +kernel
theorem dX9_once_43 : decode cX9_once 43 = .ok (.ifCond .ne 10, 3) := by decide +kernel
theorem dX9_once_46 : decode cX9_once 46 = .ok (.aload_n 0, 1) := by decide +kernel
theorem dX9_once_47 : decode cX9_once 47 = .ok (.invokevirtual 86, 3) := by decide +kernel
theorem dX9_once_50 : decode cX9_once 50 = .ok (.ifCond .eq 23, 3) := by decide +kernel
theorem dX9_once_53 : decode cX9_once 53 = .ok (.aload_n 0, 1) := by decide +kernel
theorem dX9_once_54 : decode cX9_once 54 = .ok (.iconst 0, 1) := by decide +kernel
theorem dX9_once_55 : decode cX9_once 55 = .ok (.putfield 223, 3) := by decide +kernel
theorem dX9_once_58 : decode cX9_once 58 = .ok (.aload_n 0, 1) := by decide +kernel
theorem dX9_once_59 : decode cX9_once 59 = .ok (.iconst 4, 1) := by decide +kernel
theorem dX9_once_60 : decode cX9_once 60 = .ok (.invokevirtual 157, 3) := by decide +kernel
theorem dX9_once_63 : decode cX9_once 63 = .ok (.ifCond .ne 10, 3) := by decide +kernel
theorem dX9_once_66 : decode cX9_once 66 = .ok (.aload_n 0, 1) := by decide +kernel
theorem dX9_once_67 : decode cX9_once 67 = .ok (.ldc 203, 2) := by decide +kernel
theorem dX9_once_69 : decode cX9_once 69 = .ok (.invokevirtual 276, 3) := by decide +kernel
theorem dX9_once_72 : decode cX9_once 72 = .ok (.ireturn, 1) := by decide +kernel
theorem dX9_once_73 : decode cX9_once 73 = .ok (.aload_n 0, 1) := by decide +kernel
theorem dX9_once_74 : decode cX9_once 74 = .ok (.getfield 223, 3) := by decide +kernel
theorem dX9_once_77 : decode cX9_once 77 = .ok (.ifCond .eq 7, 3) := by decide +kernel
theorem dX9_once_80 : decode cX9_once 80 = .ok (.iconst 1, 1) := by decide +kernel
theorem dX9_once_81 : decode cX9_once 81 = .ok (.goto 7, 3) := by decide +kernel
theorem dX9_once_84 : decode cX9_once 84 = .ok (.aload_n 0, 1) := by decide +kernel
theorem dX9_once_85 : decode cX9_once 85 = .ok (.invokevirtual 279, 3) := by decide +kernel
theorem dX9_once_88 : decode cX9_once 88 = .ok (.ireturn, 1) := by decide +kernel
theorem dX9_step_0 : decode cX9_step 0 = .ok (.aload_n 0, 1) := by decide +kernel
theorem dX9_step_1 : decode cX9_step 1 = .ok (.iconst 0, 1) := by decide +kernel
theorem dX9_step_2 : decode cX9_step 2 = .ok (.putfield 32, 3) := by decide +kernel
theorem dX9_step_5 : decode cX9_step 5 = .ok (.aload_n 0, 1) := by decide +kernel
theorem dX9_step_6 : decode cX9_step 6 = .ok (.invokevirtual 282, 3) := by decide +kernel
theorem dX9_step_9 : decode cX9_step 9 = .ok (.istore_n 1, 1) := by decide +kernel
theorem dX9_step_10 : decode cX9_step 10 = .ok (.iconst 0, 1) := by decide +kernel
theorem dX9_step_11 : decode cX9_step 11 = .ok (.istore_n 2, 1) := by decide +kernel
theorem dX9_step_12 : decode cX9_step 12 = .ok (.iload_n 2, 1) := by decide +kernel
theorem dX9_step_13 : decode cX9_step 13 = .ok (.iload_n 1, 1) := by decide +kernel
theorem dX9_step_14 : decode cX9_step 14 = .ok (.if_icmp .ge 13, 3) := by decide +kernel
theorem dX9_step_17 : decode cX9_step 17 = .ok (.aload_n 0, 1) := by decide +kernel
theorem dX9_step_18 : decode cX9_step 18 = .ok (.invokevirtual 285, 3) := by decide +kernel
theorem dX9_step_21 : decode cX9_step 21 = .ok (.iinc 2 1, 3) := by decide +kernel
theorem dX9_step_24 : decode cX9_step 24 = .ok (.goto (-12), 3) := by decide +kernel
theorem dX9_step_27 : decode cX9_step 27 = .ok (.iload_n 1, 1) := by decide +kernel
theorem dX9_step_28 : decode cX9_step 28 = .ok (.ireturn, 1) := by decide +kernel
theorem dX9_find_0 : decode cX9_find 0 = .ok (.iconst 0, 1) := by decide +kernel
theorem dX9_find_1 : decode cX9_find 1 = .ok (.istore_n 2, 1) := by decide +kernel
theorem dX9_find_2 : decode cX9_find 2 = .ok (.iload_n 2, 1) := by decide +kernel
theorem dX9_find_3 : decode cX9_find 3 = .ok (.aload_n 0, 1) := by decide +kernel
theorem dX9_find_4 : decode cX9_find 4 = .ok (.getfield 288, 3) := by decide +kernel
theorem dX9_find_7 : decode cX9_find 7 = .ok (.if_icmp .ge 21, 3) := by decide +kernel
theorem dX9_find_10 : decode cX9_find 10 = .ok (.aload_n 0, 1) := by decide +kernel
theorem dX9_find_11 : decode cX9_find 11 = .ok (.getfield 23, 3) := by decide +kernel
theorem dX9_find_14 : decode cX9_find 14 = .ok (.iload_n 2, 1) := by decide +kernel
theorem dX9_find_15 : decode cX9_find 15 = .ok (.iaload, 1) := by decide +kernel
theorem dX9_find_16 : decode cX9_find 16 = .ok (.iload_n 1, 1) := by decide +kernel
theorem dX9_find_17 : decode cX9_find 17 = .ok (.if_icmp .ne 5, 3) := by decide +kernel
theorem dX9_find_20 : decode cX9_find 20 = .ok (.iload_n 2, 1) := by decide +kernel
theorem dX9_find_21 : decode cX9_find 21 = .ok (.ireturn, 1) := by decide +kernel
theorem dX9_find_22 : decode cX9_find 22 = .ok (.iinc 2 1, 3) := by decide +kernel
theorem dX9_find_25 : decode cX9_find 25 = .ok (.goto (-23), 3) := by decide +kernel
theorem dX9_find_28 : decode cX9_find 28 = .ok (.iconst (-1), 1) := by decide +kernel
theorem dX9_find_29 : decode cX9_find 29 = .ok (.ireturn, 1) := by decide +kernel
theorem dX9_run_0 : decode cX9_run 0 = .ok (.aload_n 0, 1) := by decide +kernel
theorem dX9_run_1 : decode cX9_run 1 = .ok (.iload_n 1, 1) := by decide +kernel
theorem dX9_run_2 : decode cX9_run 2 = .ok (.ifCond .lt 10, 3) := by decide +kernel
theorem dX9_run_5 : decode cX9_run 5 = .ok (.iload_n 1, 1) := by decide +kernel
theorem dX9_run_6 : decode cX9_run 6 = .ok (.ldc_w 291, 3) := by decide +kernel
theorem dX9_run_9 : decode cX9_run 9 = .ok (.if_icmp .le 7, 3) := by decide +kernel
theorem dX9_run_12 : decode cX9_run 12 = .ok (.iconst 1, 1) := by decide +kernel
theorem dX9_run_13 : decode cX9_run 13 = .ok (.goto 4, 3) := by decide +kernel
theorem dX9_run_16 : decode cX9_run 16 = .ok (.iconst 0, 1) := by decide +kernel
theorem dX9_run_17 : decode cX9_run 17 = .ok (.invokevirtual 292, 3) := by decide +kernel
theorem dX9_run_20 : decode cX9_run 20 = .ok (.ifCond .eq 5, 3) := by decide +kernel
theorem dX9_run_23 : decode cX9_run 23 = .ok (.iconst 0, 1) := by decide +kernel
theorem dX9_run_24 : decode cX9_run 24 = .ok (.ireturn, 1) := by decide +kernel
theorem dX9_run_25 : decode cX9_run 25 = .ok (.aload_n 0, 1) := by decide +kernel
theorem dX9_run_26 : decode cX9_run 26 = .ok (.getfield 226, 3) := by decide +kernel
theorem dX9_run_29 : decode cX9_run 29 = .ok (.ifCond .eq 5, 3) := by decide +kernel
theorem dX9_run_32 : decode cX9_run 32 = .ok (.iconst 2, 1) := by decide +kernel
theorem dX9_run_33 : decode cX9_run 33 = .ok (.ireturn, 1) := by decide +kernel
theorem dX9_run_34 : decode cX9_run 34 = .ok (.iconst 0, 1) := by decide +kernel
theorem dX9_run_35 : decode cX9_run 35 = .ok (.istore_n 2, 1) := by decide +kernel
theorem dX9_run_36 : decode cX9_run 36 = .ok (.iload_n 2, 1) := by decide +kernel
theorem dX9_run_37 : decode cX9_run 37 = .ok (.iload_n 1, 1) := by decide +kernel
theorem dX9_run_38 : decode cX9_run 38 = .ok (.if_icmp .ge 36, 3) := by decide +kernel
theorem dX9_run_41 : decode cX9_run 41 = .ok (.aload_n 0, 1) := by decide +kernel
theorem dX9_run_42 : decode cX9_run 42 = .ok (.invokevirtual 296, 3) := by decide +kernel
theorem dX9_run_45 : decode cX9_run 45 = .ok (.pop, 1) := by decide +kernel
theorem dX9_run_46 : decode cX9_run 46 = .ok (.aload_n 0, 1) := by decide +kernel
theorem dX9_run_47 : decode cX9_run 47 = .ok (.getfield 226, 3) := by decide +kernel
theorem dX9_run_50 : decode cX9_run 50 = .ok (.ifCond .eq 5, 3) := by decide +kernel
theorem dX9_run_53 : decode cX9_run 53 = .ok (.iconst 2, 1) := by decide +kernel
theorem dX9_run_54 : decode cX9_run 54 = .ok (.ireturn, 1) := by decide +kernel
theorem dX9_run_55 : decode cX9_run 55 = .ok (.aload_n 0, 1) := by decide +kernel
theorem dX9_run_56 : decode cX9_run 56 = .ok (.aload_n 0, 1) := by decide +kernel
theorem dX9_run_57 : decode cX9_run 57 = .ok (.getfield 176, 3) := by decide +kernel
theorem dX9_run_60 : decode cX9_run 60 = .ok (.invokevirtual 299, 3) := by decide +kernel
theorem dX9_run_63 : decode cX9_run 63 = .ok (.ifCond .lt 5, 3) := by decide +kernel
theorem dX9_run_66 : decode cX9_run 66 = .ok (.iconst 1, 1) := by decide +kernel
theorem dX9_run_67 : decode cX9_run 67 = .ok (.ireturn, 1) := by decide +kernel
theorem dX9_run_68 : decode cX9_run 68 = .ok (.iinc 2 1, 3) := by decide +kernel
theorem dX9_run_71 : decode cX9_run 71 = .ok (.goto (-35), 3) := by decide +kernel
theorem dX9_run_74 : decode cX9_run 74 = .ok (.iconst 0, 1) := by decide +kernel
theorem dX9_run_75 : decode cX9_run 75 = .ok (.ireturn, 1) := by decide +kernel
theorem dX9_load_0 : decode cX9_load 0 = .ok (.aload_n 0, 1) := by decide +kernel
theorem dX9_load_1 : decode cX9_load 1 = .ok (.iload 4, 2) := by decide +kernel
theorem dX9_load_3 : decode cX9_load 3 = .ok (.iconst 1, 1) := by decide +kernel
theorem dX9_load_4 : decode cX9_load 4 = .ok (.if_icmp .lt 23, 3) := by decide +kernel
theorem dX9_load_7 : decode cX9_load 7 = .ok (.iload 4, 2) := by decide +kernel
theorem dX9_load_9 : decode cX9_load 9 = .ok (.bipush 8, 2) := by decide +kernel
theorem dX9_load_11 : decode cX9_load 11 = .ok (.if_icmp .gt 16, 3) := by decide +kernel
theorem dX9_load_14 : decode cX9_load 14 = .ok (.iload_n 1, 1) := by decide +kernel
theorem dX9_load_15 : decode cX9_load 15 = .ok (.ifCond .lt 12, 3) := by decide +kernel
theorem dX9_load_18 : decode cX9_load 18 = .ok (.iload_n 1, 1) := by decide +kernel
theorem dX9_load_19 : decode cX9_load 19 = .ok (.ldc 77, 2) := by decide +kernel
theorem dX9_load_21 : decode cX9_load 21 = .ok (.iload 4, 2) := by decide +kernel
theorem dX9_load_23 : decode cX9_load 23 = .ok (.isub, 1) := by decide +kernel
theorem dX9_load_24 : decode cX9_load 24 = .ok (.if_icmp .le 7, 3) := by decide +kernel
theorem dX9_load_27 : decode cX9_load 27 = .ok (.iconst 1, 1) := by decide +kernel
theorem dX9_load_28 : decode cX9_load 28 = .ok (.goto 4, 3) := by decide +kernel
theorem dX9_load_31 : decode cX9_load 31 = .ok (.iconst 0, 1) := by decide +kernel
theorem dX9_load_32 : decode cX9_load 32 = .ok (.invokevirtual 292, 3) := by decide +kernel
theorem dX9_load_35 : decode cX9_load 35 = .ok (.ifCond .eq 4, 3) := by decide +kernel
theorem dX9_load_38 : decode cX9_load 38 = .ok (.return_, 1) := by decide +kernel
theorem dX9_load_39 : decode cX9_load 39 = .ok (.iconst 0, 1) := by decide +kernel
theorem dX9_load_40 : decode cX9_load 40 = .ok (.istore 5, 2) := by decide +kernel
theorem dX9_load_42 : decode cX9_load 42 = .ok (.iload 5, 2) := by decide +kernel
theorem dX9_load_44 : decode cX9_load 44 = .ok (.iload 4, 2) := by decide +kernel
theorem dX9_load_46 : decode cX9_load 46 = .ok (.if_icmp .ge 48, 3) := by decide +kernel
theorem dX9_load_49 : decode cX9_load 49 = .ok (.aload_n 0, 1) := by decide +kernel
theorem dX9_load_50 : decode cX9_load 50 = .ok (.iload_n 1, 1) := by decide +kernel
theorem dX9_load_51 : decode cX9_load 51 = .ok (.iload 5, 2) := by decide +kernel
theorem dX9_load_53 : decode cX9_load 53 = .ok (.iadd, 1) := by decide +kernel
theorem dX9_load_54 : decode cX9_load 54 = .ok (.invokevirtual 78, 3) := by decide +kernel
theorem dX9_load_57 : decode cX9_load 57 = .ok (.istore 6, 2) := by decide +kernel
theorem dX9_load_59 : decode cX9_load 59 = .ok (.iload 6, 2) := by decide +kernel
theorem dX9_load_61 : decode cX9_load 61 = .ok (.ifCond .lt 27, 3) := by decide +kernel
theorem dX9_load_64 : decode cX9_load 64 = .ok (.aload_n 0, 1) := by decide +kernel
theorem dX9_load_65 : decode cX9_load 65 = .ok (.getfield 8, 3) := by decide +kernel
theorem dX9_load_68 : decode cX9_load 68 = .ok (.iload 6, 2) := by decide +kernel
theorem dX9_load_70 : decode cX9_load 70 = .ok (.lload_n 2, 1) := by decide +kernel
theorem dX9_load_71 : decode cX9_load 71 = .ok (.bipush 8, 2) := by decide +kernel
theorem dX9_load_73 : decode cX9_load 73 = .ok (.iload 4, 2) := by decide +kernel
theorem dX9_load_75 : decode cX9_load 75 = .ok (.iconst 1, 1) := by decide +kernel
theorem dX9_load_76 : decode cX9_load 76 = .ok (.isub, 1) := by decide +kernel
theorem dX9_load_77 : decode cX9_load 77 = .ok (.iload 5, 2) := by decide +kernel
theorem dX9_load_79 : decode cX9_load 79 = .ok (.isub, 1) := by decide +kernel
theorem dX9_load_80 : decode cX9_load 80 = .ok (.imul, 1) := by decide +kernel
theorem dX9_load_81 : decode cX9_load 81 = .ok (.lshr, 1) := by decide +kernel
theorem dX9_load_82 : decode cX9_load 82 = .ok (.ldc2_w 302, 3) := by decide +kernel
theorem dX9_load_85 : decode cX9_load 85 = .ok (.land, 1) := by decide +kernel
theorem dX9_load_86 : decode cX9_load 86 = .ok (.l2i, 1) := by decide +kernel
theorem dX9_load_87 : decode cX9_load 87 = .ok (.iastore, 1) := by decide +kernel
theorem dX9_load_88 : decode cX9_load 88 = .ok (.iinc 5 1, 3) := by decide +kernel
theorem dX9_load_91 : decode cX9_load 91 = .ok (.goto (-49), 3) := by decide +kernel
theorem dX9_load_94 : decode cX9_load 94 = .ok (.return_, 1) := by decide +kernel
theorem dX9_reset_0 : decode cX9_reset 0 = .ok (.aload_n 0, 1) := by decide +kernel
theorem dX9_reset_1 : decode cX9_reset 1 = .ok (.iconst 0, 1) := by decide +kernel
theorem dX9_reset_2 : decode cX9_reset 2 = .ok (.putfield 32, 3) := by decide +kernel
theorem dX9_reset_5 : decode cX9_reset 5 = .ok (.aload_n 0, 1) := by decide +kernel
theorem dX9_reset_6 : decode cX9_reset 6 = .ok (.invokevirtual 29, 3) := by decide +kernel
theorem dX9_reset_9 : decode cX9_reset 9 = .ok (.aload_n 0, 1) := by decide +kernel
theorem dX9_reset_10 : decode cX9_reset 10 = .ok (.getfield 14, 3) := by decide +kernel
theorem dX9_reset_13 : decode cX9_reset 13 = .ok (.iconst 3, 1) := by decide +kernel
theorem dX9_reset_14 : decode cX9_reset 14 = .ok (.sipush 253, 3) := by decide +kernel
theorem dX9_reset_17 : decode cX9_reset 17 = .ok (.iastore, 1) := by decide +kernel
theorem dX9_reset_18 : decode cX9_reset 18 = .ok (.aload_n 0, 1) := by decide +kernel
theorem dX9_reset_19 : decode cX9_reset 19 = .ok (.iconst 4, 1) := by decide +kernel
theorem dX9_reset_20 : decode cX9_reset 20 = .ok (.iconst 1, 1) := by decide +kernel
theorem dX9_reset_21 : decode cX9_reset 21 = .ok (.invokevirtual 110, 3) := by decide +kernel
theorem dX9_reset_24 : decode cX9_reset 24 = .ok (.aload_n 0, 1) := by decide +kernel
theorem dX9_reset_25 : decode cX9_reset 25 = .ok (.bipush 8, 2) := by decide +kernel
theorem dX9_reset_27 : decode cX9_reset 27 = .ok (.iconst 0, 1) := by decide +kernel
theorem dX9_reset_28 : decode cX9_reset 28 = .ok (.invokevirtual 110, 3) := by decide +kernel
theorem dX9_reset_31 : decode cX9_reset 31 = .ok (.aload_n 0, 1) := by decide +kernel
theorem dX9_reset_32 : decode cX9_reset 32 = .ok (.iconst 0, 1) := by decide +kernel
theorem dX9_reset_33 : decode cX9_reset 33 = .ok (.putfield 223, 3) := by decide +kernel
theorem dX9_reset_36 : decode cX9_reset 36 = .ok (.aload_n 0, 1) := by decide +kernel
theorem dX9_reset_37 : decode cX9_reset 37 = .ok (.iconst 0, 1) := by decide +kernel
theorem dX9_reset_38 : decode cX9_reset 38 = .ok (.putfield 226, 3) := by decide +kernel
theorem dX9_reset_41 : decode cX9_reset 41 = .ok (.aload_n 0, 1) := by decide +kernel
theorem dX9_reset_42 : decode cX9_reset 42 = .ok (.iconst 0, 1) := by decide +kernel
theorem dX9_reset_43 : decode cX9_reset 43 = .ok (.putfield 272, 3) := by decide +kernel
theorem dX9_reset_46 : decode cX9_reset 46 = .ok (.aload_n 0, 1) := by decide +kernel
theorem dX9_reset_47 : decode cX9_reset 47 = .ok (.aload_n 0, 1) := by decide +kernel
theorem dX9_reset_48 : decode cX9_reset 48 = .ok (.ldc_w 304, 3) := by decide +kernel
theorem dX9_reset_51 : decode cX9_reset 51 = .ok (.invokevirtual 179, 3) := by decide +kernel
theorem dX9_reset_54 : decode cX9_reset 54 = .ok (.putfield 176, 3) := by decide +kernel
theorem dX9_reset_57 : decode cX9_reset 57 = .ok (.return_, 1) := by decide +kernel
theorem dX9_nmi_0 : decode cX9_nmi 0 = .ok (.aload_n 0, 1) := by decide +kernel
theorem dX9_nmi_1 : decode cX9_nmi 1 = .ok (.iconst 0, 1) := by decide +kernel
theorem dX9_nmi_2 : decode cX9_nmi 2 = .ok (.putfield 32, 3) := by decide +kernel
theorem dX9_nmi_5 : decode cX9_nmi 5 = .ok (.aload_n 0, 1) := by decide +kernel
theorem dX9_nmi_6 : decode cX9_nmi 6 = .ok (.iconst 1, 1) := by decide +kernel
theorem dX9_nmi_7 : decode cX9_nmi 7 = .ok (.putfield 272, 3) := by decide +kernel
theorem dX9_nmi_10 : decode cX9_nmi 10 = .ok (.return_, 1) := by decide +kernel
theorem dX9_receive_0 : decode cX9_receive 0 = .ok (.aload_n 0, 1) := by decide +kernel
theorem dX9_receive_1 : decode cX9_receive 1 = .ok (.iconst 0, 1) := by decide +kernel
theorem dX9_receive_2 : decode cX9_receive 2 = .ok (.putfield 32, 3) := by decide +kernel
theorem dX9_receive_5 : decode cX9_receive 5 = .ok (.aload_n 0, 1) := by decide +kernel
theorem dX9_receive_6 : decode cX9_receive 6 = .ok (.getfield 46, 3) := by decide +kernel
theorem dX9_receive_9 : decode cX9_receive 9 = .ok (.bipush 64, 2) := by decide +kernel
theorem dX9_receive_11 : decode cX9_receive 11 = .ok (.if_icmp .eq 14, 3) := by decide +kernel
theorem dX9_receive_14 : decode cX9_receive 14 = .ok (.iload_n 1, 1) := by decide +kernel
theorem dX9_receive_15 : decode cX9_receive 15 = .ok (.ifCond .lt 10, 3) := by decide +kernel
theorem dX9_receive_18 : decode cX9_receive 18 = .ok (.iload_n 1, 1) := by decide +kernel
theorem dX9_receive_19 : decode cX9_receive 19 = .ok (.sipush 255, 3) := by decide +kernel
theorem dX9_receive_22 : decode cX9_receive 22 = .ok (.if_icmp .le 5, 3) := by decide +kernel
theorem dX9_receive_25 : decode cX9_receive 25 = .ok (.iconst (-1), 1) := by decide +kernel
theorem dX9_receive_26 : decode cX9_receive 26 = .ok (.ireturn, 1) := by decide +kernel
theorem dX9_receive_27 : decode cX9_receive 27 = .ok (.aload_n 0, 1) := by decide +kernel
theorem dX9_receive_28 : decode cX9_receive 28 = .ok (.getfield 17, 3) := by decide +kernel
theorem dX9_receive_31 : decode cX9_receive 31 = .ok (.aload_n 0, 1) := by decide +kernel
theorem dX9_receive_32 : decode cX9_receive 32 = .ok (.getfield 46, 3) := by decide +kernel
theorem dX9_receive_35 : decode cX9_receive 35 = .ok (.iload_n 1, 1) := by decide +kernel
theorem dX9_receive_36 : decode cX9_receive 36 = .ok (.iastore, 1) := by decide +kernel
theorem dX9_receive_37 : decode cX9_receive 37 = .ok (.aload_n 0, 1) := by decide +kernel
theorem dX9_receive_38 : decode cX9_receive 38 = .ok (.dup, 1) := by decide +kernel
theorem dX9_receive_39 : decode cX9_receive 39 = .ok (.getfield 46, 3) := by decide +kernel
theorem dX9_receive_42 : decode cX9_receive 42 = .ok (.iconst 1, 1) := by decide +kernel
theorem dX9_receive_43 : decode cX9_receive 43 = .ok (.iadd, 1) := by decide +kernel
theorem dX9_receive_44 : decode cX9_receive 44 = .ok (.putfield 46, 3) := by decide +kernel
theorem dX9_receive_47 : decode cX9_receive 47 = .ok (.aload_n 0, 1) := by decide +kernel
theorem dX9_receive_48 : decode cX9_receive 48 = .ok (.getfield 46, 3) := by decide +kernel
theorem dX9_receive_51 : decode cX9_receive 51 = .ok (.ireturn, 1) := by decide +kernel
theorem dX9_sent_0 : decode cX9_sent 0 = .ok (.aload_n 0, 1) := by decide +kernel
theorem dX9_sent_1 : decode cX9_sent 1 = .ok (.iconst 0, 1) := by decide +kernel
theorem dX9_sent_2 : decode cX9_sent 2 = .ok (.putfield 32, 3) := by decide +kernel
theorem dX9_sent_5 : decode cX9_sent 5 = .ok (.iload_n 1, 1) := by decide +kernel
theorem dX9_sent_6 : decode cX9_sent 6 = .ok (.ifCond .lt 36, 3) := by decide +kernel
theorem dX9_sent_9 : decode cX9_sent 9 = .ok (.iload_n 1, 1) := by decide +kernel
theorem dX9_sent_10 : decode cX9_sent 10 = .ok (.aload_n 0, 1) := by decide +kernel
theorem dX9_sent_11 : decode cX9_sent 11 = .ok (.getfield 97, 3) := by decide +kernel
theorem dX9_sent_14 : decode cX9_sent 14 = .ok (.if_icmp .ge 28, 3) := by decide +kernel
theorem dX9_sent_17 : decode cX9_sent 17 = .ok (.iload_n 1, 1) := by decide +kernel
theorem dX9_sent_18 : decode cX9_sent 18 = .ok (.aload_n 0, 1) := by decide +kernel
theorem dX9_sent_19 : decode cX9_sent 19 = .ok (.getfield 97, 3) := by decide +kernel
theorem dX9_sent_22 : decode cX9_sent 22 = .ok (.sipush 256, 3) := by decide +kernel
theorem dX9_sent_25 : decode cX9_sent 25 = .ok (.isub, 1) := by decide +kernel
theorem dX9_sent_26 : decode cX9_sent 26 = .ok (.if_icmp .lt 16, 3) := by decide +kernel
theorem dX9_sent_29 : decode cX9_sent 29 = .ok (.aload_n 0, 1) := by decide +kernel
theorem dX9_sent_30 : decode cX9_sent 30 = .ok (.getfield 20, 3) := by decide +kernel
theorem dX9_sent_33 : decode cX9_sent 33 = .ok (.iload_n 1, 1) := by decide +kernel
theorem dX9_sent_34 : decode cX9_sent 34 = .ok (.sipush 256, 3) := by decide +kernel
theorem dX9_sent_37 : decode cX9_sent 37 = .ok (.irem, 1) := by decide +kernel
theorem dX9_sent_38 : decode cX9_sent 38 = .ok (.iaload, 1) := by decide +kernel
theorem dX9_sent_39 : decode cX9_sent 39 = .ok (.goto 4, 3) := by decide +kernel
theorem dX9_sent_42 : decode cX9_sent 42 = .ok (.iconst (-1), 1) := by decide +kernel
theorem dX9_sent_43 : decode cX9_sent 43 = .ok (.ireturn, 1) := by decide +kernel
theorem dX9_look_0 : decode cX9_look 0 = .ok (.aload_n 0, 1) := by decide +kernel
theorem dX9_look_1 : decode cX9_look 1 = .ok (.iload_n 1, 1) := by decide +kernel
theorem dX9_look_2 : decode cX9_look 2 = .ok (.ifCond .lt 9, 3) := by decide +kernel
theorem dX9_look_5 : decode cX9_look 5 = .ok (.iload_n 1, 1) := by decide +kernel
theorem dX9_look_6 : decode cX9_look 6 = .ok (.ldc 36, 2) := by decide +kernel
theorem dX9_look_8 : decode cX9_look 8 = .ok (.if_icmp .le 7, 3) := by decide +kernel
theorem dX9_look_11 : decode cX9_look 11 = .ok (.iconst 1, 1) := by decide +kernel
theorem dX9_look_12 : decode cX9_look 12 = .ok (.goto 4, 3) := by decide +kernel
theorem dX9_look_15 : decode cX9_look 15 = .ok (.iconst 0, 1) := by decide +kernel
theorem dX9_look_16 : decode cX9_look 16 = .ok (.invokevirtual 292, 3) := by decide +kernel
theorem dX9_look_19 : decode cX9_look 19 = .ok (.ifCond .eq 5, 3) := by decide +kernel
theorem dX9_look_22 : decode cX9_look 22 = .ok (.iconst 0, 1) := by decide +kernel
theorem dX9_look_23 : decode cX9_look 23 = .ok (.ireturn, 1) := by decide +kernel
theorem dX9_look_24 : decode cX9_look 24 = .ok (.aload_n 0, 1) := by decide +kernel
theorem dX9_look_25 : decode cX9_look 25 = .ok (.iload_n 1, 1) := by decide +kernel
theorem dX9_look_26 : decode cX9_look 26 = .ok (.invokevirtual 90, 3) := by decide +kernel
theorem dX9_look_29 : decode cX9_look 29 = .ok (.ireturn, 1) := by decide +kernel
theorem dX9_register_0 : decode cX9_register 0 = .ok (.aload_n 0, 1) := by decide +kernel
theorem dX9_register_1 : decode cX9_register 1 = .ok (.iconst 0, 1) := by decide +kernel
theorem dX9_register_2 : decode cX9_register 2 = .ok (.putfield 32, 3) := by decide +kernel
theorem dX9_register_5 : decode cX9_register 5 = .ok (.iload_n 1, 1) := by decide +kernel
theorem dX9_register_6 : decode cX9_register 6 = .ok (.iconst 5, 1) := by decide +kernel
theorem dX9_register_7 : decode cX9_register 7 = .ok (.if_icmp .ne 10, 3) := by decide +kernel
theorem dX9_register_10 : decode cX9_register 10 = .ok (.aload_n 0, 1) := by decide +kernel
theorem dX9_register_11 : decode cX9_register 11 = .ok (.getfield 176, 3) := by decide +kernel
theorem dX9_register_14 : decode cX9_register 14 = .ok (.goto 37, 3) := by decide +kernel
theorem dX9_register_17 : decode cX9_register 17 = .ok (.iload_n 1, 1) := by decide +kernel
theorem dX9_register_18 : decode cX9_register 18 = .ok (.iconst 4, 1) := by decide +kernel
theorem dX9_register_19 : decode cX9_register 19 = .ok (.if_icmp .ne 13, 3) := by decide +kernel
theorem dX9_register_22 : decode cX9_register 22 = .ok (.aload_n 0, 1) := by decide +kernel
theorem dX9_register_23 : decode cX9_register 23 = .ok (.getfield 107, 3) := by decide +kernel
theorem dX9_register_26 : decode cX9_register 26 = .ok (.bipush 48, 2) := by decide +kernel
theorem dX9_register_28 : decode cX9_register 28 = .ok (.ior, 1) := by decide +kernel
theorem dX9_register_29 : decode cX9_register 29 = .ok (.goto 22, 3) := by decide +kernel
theorem dX9_register_32 : decode cX9_register 32 = .ok (.iload_n 1, 1) := by decide +kernel
theorem dX9_register_33 : decode cX9_register 33 = .ok (.ifCond .lt 17, 3) := by decide +kernel
theorem dX9_register_36 : decode cX9_register 36 = .ok (.iload_n 1, 1) := by decide +kernel
theorem dX9_register_37 : decode cX9_register 37 = .ok (.iconst 4, 1) := by decide +kernel
theorem dX9_register_38 : decode cX9_register 38 = .ok (.if_icmp .ge 12, 3) := by decide +kernel
theorem dX9_register_41 : decode cX9_register 41 = .ok (.aload_n 0, 1) := by decide +kernel
theorem dX9_register_42 : decode cX9_register 42 = .ok (.getfield 14, 3) := by decide +kernel
theorem dX9_register_45 : decode cX9_register 45 = .ok (.iload_n 1, 1) := by decide +kernel
theorem dX9_register_46 : decode cX9_register 46 = .ok (.iaload, 1) := by decide +kernel
theorem dX9_register_47 : decode cX9_register 47 = .ok (.goto 4, 3) := by decide +kernel
theorem dX9_register_50 : decode cX9_register 50 = .ok (.iconst (-1), 1) := by decide +kernel
theorem dX9_register_51 : decode cX9_register 51 = .ok (.ireturn, 1) := by decide +kernel
theorem dX9_set_0 : decode cX9_set 0 = .ok (.aload_n 0, 1) := by decide +kernel
theorem dX9_set_1 : decode cX9_set 1 = .ok (.iload_n 1, 1) := by decide +kernel
theorem dX9_set_2 : decode cX9_set 2 = .ok (.ifCond .lt 8, 3) := by decide +kernel
theorem dX9_set_5 : decode cX9_set 5 = .ok (.iload_n 1, 1) := by decide +kernel
theorem dX9_set_6 : decode cX9_set 6 = .ok (.iconst 5, 1) := by decide +kernel
theorem dX9_set_7 : decode cX9_set 7 = .ok (.if_icmp .le 7, 3) := by decide +kernel
theorem dX9_set_10 : decode cX9_set 10 = .ok (.iconst 1, 1) := by decide +kernel
theorem dX9_set_11 : decode cX9_set 11 = .ok (.goto 4, 3) := by decide +kernel
theorem dX9_set_14 : decode cX9_set 14 = .ok (.iconst 0, 1) := by decide +kernel
theorem dX9_set_15 : decode cX9_set 15 = .ok (.invokevirtual 292, 3) := by decide +kernel
theorem dX9_set_18 : decode cX9_set 18 = .ok (.ifCond .eq 4, 3) := by decide +kernel
theorem dX9_set_21 : decode cX9_set 21 = .ok (.return_, 1) := by decide +kernel
theorem dX9_set_22 : decode cX9_set 22 = .ok (.iload_n 1, 1) := by decide +kernel
theorem dX9_set_23 : decode cX9_set 23 = .ok (.iconst 5, 1) := by decide +kernel
theorem dX9_set_24 : decode cX9_set 24 = .ok (.if_icmp .ne 14, 3) := by decide +kernel
theorem dX9_set_27 : decode cX9_set 27 = .ok (.aload_n 0, 1) := by decide +kernel
theorem dX9_set_28 : decode cX9_set 28 = .ok (.iload_n 2, 1) := by decide +kernel
theorem dX9_set_29 : decode cX9_set 29 = .ok (.ldc 36, 2) := by decide +kernel
theorem dX9_set_31 : decode cX9_set 31 = .ok (.iand, 1) := by decide +kernel
theorem dX9_set_32 : decode cX9_set 32 = .ok (.putfield 176, 3) := by decide +kernel
theorem dX9_set_35 : decode cX9_set 35 = .ok (.goto 34, 3) := by decide +kernel
theorem dX9_set_38 : decode cX9_set 38 = .ok (.iload_n 1, 1) := by decide +kernel
theorem dX9_set_39 : decode cX9_set 39 = .ok (.iconst 4, 1) := by decide +kernel
theorem dX9_set_40 : decode cX9_set 40 = .ok (.if_icmp .ne 18, 3) := by decide +kernel
theorem dX9_set_43 : decode cX9_set 43 = .ok (.aload_n 0, 1) := by decide +kernel
theorem dX9_set_44 : decode cX9_set 44 = .ok (.iload_n 2, 1) := by decide +kernel
theorem dX9_set_45 : decode cX9_set 45 = .ok (.sipush 255, 3) := by decide +kernel
theorem dX9_set_48 : decode cX9_set 48 = .ok (.iand, 1) := by decide +kernel
theorem dX9_set_49 : decode cX9_set 49 = .ok (.bipush 48, 2) := by decide +kernel
theorem dX9_set_51 : decode cX9_set 51 = .ok (.ior, 1) := by decide +kernel
theorem dX9_set_52 : decode cX9_set 52 = .ok (.putfield 107, 3) := by decide +kernel
theorem dX9_set_55 : decode cX9_set 55 = .ok (.goto 14, 3) := by decide +kernel
theorem dX9_set_58 : decode cX9_set 58 = .ok (.aload_n 0, 1) := by decide +kernel
theorem dX9_set_59 : decode cX9_set 59 = .ok (.getfield 14, 3) := by decide +kernel
theorem dX9_set_62 : decode cX9_set 62 = .ok (.iload_n 1, 1) := by decide +kernel
theorem dX9_set_63 : decode cX9_set 63 = .ok (.iload_n 2, 1) := by decide +kernel
theorem dX9_set_64 : decode cX9_set 64 = .ok (.sipush 255, 3) := by decide +kernel
theorem dX9_set_67 : decode cX9_set 67 = .ok (.iand, 1) := by decide +kernel
theorem dX9_set_68 : decode cX9_set 68 = .ok (.iastore, 1) := by decide +kernel
theorem dX9_set_69 : decode cX9_set 69 = .ok (.return_, 1) := by decide +kernel
theorem dX9_setBreak_0 : decode cX9_setBreak 0 = .ok (.aload_n 0, 1) := by decide +kernel
theorem dX9_setBreak_1 : decode cX9_setBreak 1 = .ok (.iconst 0, 1) := by decide +kernel
theorem dX9_setBreak_2 : decode cX9_setBreak 2 = .ok (.putfield 32, 3) := by decide +kernel
theorem dX9_setBreak_5 : decode cX9_setBreak 5 = .ok (.iload_n 1, 1) := by decide +kernel
theorem dX9_setBreak_6 : decode cX9_setBreak 6 = .ok (.ifCond .lt 26, 3) := by decide +kernel
theorem dX9_setBreak_9 : decode cX9_setBreak 9 = .ok (.iload_n 1, 1) := by decide +kernel
theorem dX9_setBreak_10 : decode cX9_setBreak 10 = .ok (.ldc 36, 2) := by decide +kernel
theorem dX9_setBreak_12 : decode cX9_setBreak 12 = .ok (.if_icmp .gt 20, 3) := by decide +kernel
theorem dX9_setBreak_15 : decode cX9_setBreak 15 = .ok (.aload_n 0, 1) := by decide +kernel
theorem dX9_setBreak_16 : decode cX9_setBreak 16 = .ok (.getfield 288, 3) := by decide +kernel
theorem dX9_setBreak_19 : decode cX9_setBreak 19 = .ok (.bipush 16, 2) := by decide +kernel
theorem dX9_setBreak_21 : decode cX9_setBreak 21 = .ok (.if_icmp .eq 11, 3) := by decide +kernel
theorem dX9_setBreak_24 : decode cX9_setBreak 24 = .ok (.aload_n 0, 1) := by decide +kernel
theorem dX9_setBreak_25 : decode cX9_setBreak 25 = .ok (.iload_n 1, 1) := by decide +kernel
theorem dX9_setBreak_26 : decode cX9_setBreak 26 = .ok (.invokevirtual 299, 3) := by decide +kernel
theorem dX9_setBreak_29 : decode cX9_setBreak 29 = .ok (.ifCond .lt 5, 3) := by decide +kernel
theorem dX9_setBreak_32 : decode cX9_setBreak 32 = .ok (.iconst 0, 1) := by decide +kernel
theorem dX9_setBreak_33 : decode cX9_setBreak 33 = .ok (.ireturn, 1) := by decide +kernel
theorem dX9_setBreak_34 : decode cX9_setBreak 34 = .ok (.aload_n 0, 1) := by decide +kernel
theorem dX9_setBreak_35 : decode cX9_setBreak 35 = .ok (.getfield 23, 3) := by decide +kernel
theorem dX9_setBreak_38 : decode cX9_setBreak 38 = .ok (.aload_n 0, 1) := by decide +kernel
theorem dX9_setBreak_39 : decode cX9_setBreak 39 = .ok (.getfield 288, 3) := by decide +kernel
theorem dX9_setBreak_42 : decode cX9_setBreak 42 = .ok (.iload_n 1, 1) := by decide +kernel
theorem dX9_setBreak_43 : decode cX9_setBreak 43 = .ok (.iastore, 1) := by decide +kernel
theorem dX9_setBreak_44 : decode cX9_setBreak 44 = .ok (.aload_n 0, 1) := by decide +kernel
theorem dX9_setBreak_45 : decode cX9_setBreak 45 = .ok (.dup, 1) := by decide +kernel
theorem dX9_setBreak_46 : decode cX9_setBreak 46 = .ok (.getfield 288, 3) := by decide +kernel
theorem dX9_setBreak_49 : decode cX9_setBreak 49 = .ok (.iconst 1, 1) := by decide +kernel
theorem dX9_setBreak_50 : decode cX9_setBreak 50 = .ok (.iadd, 1) := by decide +kernel
theorem dX9_setBreak_51 : decode cX9_setBreak 51 = .ok (.putfield 288, 3) := by decide +kernel
theorem dX9_setBreak_54 : decode cX9_setBreak 54 = .ok (.iconst 1, 1) := by decide +kernel
theorem dX9_setBreak_55 : decode cX9_setBreak 55 = .ok (.ireturn, 1) := by decide +kernel
theorem dX9_clearBreak_0 : decode cX9_clearBreak 0 = .ok (.aload_n 0, 1) := by decide +kernel
theorem dX9_clearBreak_1 : decode cX9_clearBreak 1 = .ok (.iconst 0, 1) := by decide +kernel
theorem dX9_clearBreak_2 : decode cX9_clearBreak 2 = .ok (.putfield 32, 3) := by decide +kernel
theorem dX9_clearBreak_5 : decode cX9_clearBreak 5 = .ok (.aload_n 0, 1) := by decide +kernel
theorem dX9_clearBreak_6 : decode cX9_clearBreak 6 = .ok (.iload_n 1, 1) := by decide +kernel
theorem dX9_clearBreak_7 : decode cX9_clearBreak 7 = .ok (.invokevirtual 299, 3) := by decide +kernel
theorem dX9_clearBreak_10 : decode cX9_clearBreak 10 = .ok (.istore_n 2, 1) := by decide +kernel
theorem dX9_clearBreak_11 : decode cX9_clearBreak 11 = .ok (.iload_n 2, 1) := by decide +kernel
theorem dX9_clearBreak_12 : decode cX9_clearBreak 12 = .ok (.ifCond .ge 5, 3) := by decide +kernel
theorem dX9_clearBreak_15 : decode cX9_clearBreak 15 = .ok (.iconst 0, 1) := by decide +kernel
theorem dX9_clearBreak_16 : decode cX9_clearBreak 16 = .ok (.ireturn, 1) := by decide +kernel
theorem dX9_clearBreak_17 : decode cX9_clearBreak 17 = .ok (.aload_n 0, 1) := by decide +kernel
theorem dX9_clearBreak_18 : decode cX9_clearBreak 18 = .ok (.dup, 1) := by decide +kernel
theorem dX9_clearBreak_19 : decode cX9_clearBreak 19 = .ok (.getfield 288, 3) := by decide +kernel
theorem dX9_clearBreak_22 : decode cX9_clearBreak 22 = .ok (.iconst 1, 1) := by decide +kernel
theorem dX9_clearBreak_23 : decode cX9_clearBreak 23 = .ok (.isub, 1) := by decide +kernel
theorem dX9_clearBreak_24 : decode cX9_clearBreak 24 = .ok (.putfield 288, 3) := by decide +kernel
theorem dX9_clearBreak_27 : decode cX9_clearBreak 27 = .ok (.aload_n 0, 1) := by decide +kernel
theorem dX9_clearBreak_28 : decode cX9_clearBreak 28 = .ok (.getfield 23, 3) := by decide +kernel
theorem dX9_clearBreak_31 : decode cX9_clearBreak 31 = .ok (.iload_n 2, 1) := by decide +kernel
theorem dX9_clearBreak_32 : decode cX9_clearBreak 32 = .ok (.aload_n 0, 1) := by decide +kernel
theorem dX9_clearBreak_33 : decode cX9_clearBreak 33 = .ok (.getfield 23, 3) := by decide +kernel
theorem dX9_clearBreak_36 : decode cX9_clearBreak 36 = .ok (.aload_n 0, 1) := by decide +kernel
theorem dX9_clearBreak_37 : decode cX9_clearBreak 37 = .ok (.getfield 288, 3) := by decide +kernel
theorem dX9_clearBreak_40 : decode cX9_clearBreak 40 = .ok (.iaload, 1) := by decide +kernel
theorem dX9_clearBreak_41 : decode cX9_clearBreak 41 = .ok (.iastore, 1) := by decide +kernel
theorem dX9_clearBreak_42 : decode cX9_clearBreak 42 = .ok (.iconst 1, 1) := by decide +kernel
theorem dX9_clearBreak_43 : decode cX9_clearBreak 43 = .ok (.ireturn, 1) := by decide +kernel
theorem dX9_trace_0 : decode cX9_trace 0 = .ok (.aload_n 0, 1) := by decide +kernel
theorem dX9_trace_1 : decode cX9_trace 1 = .ok (.iconst 0, 1) := by decide +kernel
theorem dX9_trace_2 : decode cX9_trace 2 = .ok (.putfield 32, 3) := by decide +kernel
theorem dX9_trace_5 : decode cX9_trace 5 = .ok (.aload_n 0, 1) := by decide +kernel
theorem dX9_trace_6 : decode cX9_trace 6 = .ok (.getfield 229, 3) := by decide +kernel
theorem dX9_trace_9 : decode cX9_trace 9 = .ok (.bipush 32, 2) := by decide +kernel
theorem dX9_trace_11 : decode cX9_trace 11 = .ok (.if_icmp .ge 10, 3) := by decide +kernel
theorem dX9_trace_14 : decode cX9_trace 14 = .ok (.aload_n 0, 1) := by decide +kernel
theorem dX9_trace_15 : decode cX9_trace 15 = .ok (.getfield 229, 3) := by decide +kernel
theorem dX9_trace_18 : decode cX9_trace 18 = .ok (.goto 5, 3) := by decide +kernel
theorem dX9_trace_21 : decode cX9_trace 21 = .ok (.bipush 32, 2) := by decide +kernel
theorem dX9_trace_23 : decode cX9_trace 23 = .ok (.istore_n 2, 1) := by decide +kernel
theorem dX9_trace_24 : decode cX9_trace 24 = .ok (.iload_n 1, 1) := by decide +kernel
theorem dX9_trace_25 : decode cX9_trace 25 = .ok (.ifCond .lt 27, 3) := by decide +kernel
theorem dX9_trace_28 : decode cX9_trace 28 = .ok (.iload_n 1, 1) := by decide +kernel
theorem dX9_trace_29 : decode cX9_trace 29 = .ok (.iload_n 2, 1) := by decide +kernel
theorem dX9_trace_30 : decode cX9_trace 30 = .ok (.if_icmp .ge 22, 3) := by decide +kernel
theorem dX9_trace_33 : decode cX9_trace 33 = .ok (.aload_n 0, 1) := by decide +kernel
theorem dX9_trace_34 : decode cX9_trace 34 = .ok (.getfield 26, 3) := by decide +kernel
theorem dX9_trace_37 : decode cX9_trace 37 = .ok (.aload_n 0, 1) := by decide +kernel
theorem dX9_trace_38 : decode cX9_trace 38 = .ok (.getfield 229, 3) := by decide +kernel
theorem dX9_trace_41 : decode cX9_trace 41 = .ok (.iload_n 2, 1) := by decide +kernel
theorem dX9_trace_42 : decode cX9_trace 42 = .ok (.isub, 1) := by decide +kernel
theorem dX9_trace_43 : decode cX9_trace 43 = .ok (.iload_n 1, 1) := by decide +kernel
theorem dX9_trace_44 : decode cX9_trace 44 = .ok (.iadd, 1) := by decide +kernel
theorem dX9_trace_45 : decode cX9_trace 45 = .ok (.bipush 32, 2) := by decide +kernel
theorem dX9_trace_47 : decode cX9_trace 47 = .ok (.irem, 1) := by decide +kernel
theorem dX9_trace_48 : decode cX9_trace 48 = .ok (.iaload, 1) := by decide +kernel
theorem dX9_trace_49 : decode cX9_trace 49 = .ok (.goto 4, 3) := by decide +kernel
theorem dX9_trace_52 : decode cX9_trace 52 = .ok (.iconst (-1), 1) := by decide +kernel
theorem dX9_trace_53 : decode cX9_trace 53 = .ok (.ireturn, 1) := by decide +kernel
theorem dX9_count_0 : decode cX9_count 0 = .ok (.aload_n 0, 1) := by decide +kernel
theorem dX9_count_1 : decode cX9_count 1 = .ok (.iconst 0, 1) := by decide +kernel
theorem dX9_count_2 : decode cX9_count 2 = .ok (.putfield 32, 3) := by decide +kernel
theorem dX9_count_5 : decode cX9_count 5 = .ok (.iload_n 1, 1) := by decide +kernel
theorem dX9_count_6 : decode cX9_count 6 = .ok (.tableswitch 182 0 14 #[74, 79, 84, 90, 96, 102, 108, 114, 120, 126, 132, 145, 158, 171, 177], 74) := by decide +kernel
theorem dX9_count_80 : decode cX9_count 80 = .ok (.aload_n 0, 1) := by decide +kernel
theorem dX9_count_81 : decode cX9_count 81 = .ok (.getfield 266, 3) := by decide +kernel
theorem dX9_count_84 : decode cX9_count 84 = .ok (.lreturn, 1) := by decide +kernel
theorem dX9_count_85 : decode cX9_count 85 = .ok (.aload_n 0, 1) := by decide +kernel
theorem dX9_count_86 : decode cX9_count 86 = .ok (.getfield 232, 3) := by decide +kernel
theorem dX9_count_89 : decode cX9_count 89 = .ok (.lreturn, 1) := by decide +kernel
theorem dX9_count_90 : decode cX9_count 90 = .ok (.aload_n 0, 1) := by decide +kernel
theorem dX9_count_91 : decode cX9_count 91 = .ok (.getfield 97, 3) := by decide +kernel
theorem dX9_count_94 : decode cX9_count 94 = .ok (.i2l, 1) := by decide +kernel
theorem dX9_count_95 : decode cX9_count 95 = .ok (.lreturn, 1) := by decide +kernel
theorem dX9_count_96 : decode cX9_count 96 = .ok (.aload_n 0, 1) := by decide +kernel
theorem dX9_count_97 : decode cX9_count 97 = .ok (.getfield 46, 3) := by decide +kernel
theorem dX9_count_100 : decode cX9_count 100 = .ok (.i2l, 1) := by decide +kernel
theorem dX9_count_101 : decode cX9_count 101 = .ok (.lreturn, 1) := by decide +kernel
theorem dX9_count_102 : decode cX9_count 102 = .ok (.aload_n 0, 1) := by decide +kernel
theorem dX9_count_103 : decode cX9_count 103 = .ok (.getfield 43, 3) := by decide +kernel
theorem dX9_count_106 : decode cX9_count 106 = .ok (.i2l, 1) := by decide +kernel
theorem dX9_count_107 : decode cX9_count 107 = .ok (.lreturn, 1) := by decide +kernel
theorem dX9_count_108 : decode cX9_count 108 = .ok (.aload_n 0, 1) := by decide +kernel
theorem dX9_count_109 : decode cX9_count 109 = .ok (.getfield 37, 3) := by decide +kernel
theorem dX9_count_112 : decode cX9_count 112 = .ok (.i2l, 1) := by decide +kernel
theorem dX9_count_113 : decode cX9_count 113 = .ok (.lreturn, 1) := by decide +kernel
theorem dX9_count_114 : decode cX9_count 114 = .ok (.aload_n 0, 1) := by decide +kernel
theorem dX9_count_115 : decode cX9_count 115 = .ok (.getfield 40, 3) := by decide +kernel
theorem dX9_count_118 : decode cX9_count 118 = .ok (.i2l, 1) := by decide +kernel
theorem dX9_count_119 : decode cX9_count 119 = .ok (.lreturn, 1) := by decide +kernel
theorem dX9_count_120 : decode cX9_count 120 = .ok (.aload_n 0, 1) := by decide +kernel
theorem dX9_count_121 : decode cX9_count 121 = .ok (.getfield 64, 3) := by decide +kernel
theorem dX9_count_124 : decode cX9_count 124 = .ok (.i2l, 1) := by decide +kernel
theorem dX9_count_125 : decode cX9_count 125 = .ok (.lreturn, 1) := by decide +kernel
theorem dX9_count_126 : decode cX9_count 126 = .ok (.aload_n 0, 1) := by decide +kernel
theorem dX9_count_127 : decode cX9_count 127 = .ok (.getfield 55, 3) := by decide +kernel
theorem dX9_count_130 : decode cX9_count 130 = .ok (.i2l, 1) := by decide +kernel
theorem dX9_count_131 : decode cX9_count 131 = .ok (.lreturn, 1) := by decide +kernel
theorem dX9_count_132 : decode cX9_count 132 = .ok (.aload_n 0, 1) := by decide +kernel
theorem dX9_count_133 : decode cX9_count 133 = .ok (.getfield 52, 3) := by decide +kernel
theorem dX9_count_136 : decode cX9_count 136 = .ok (.i2l, 1) := by decide +kernel
theorem dX9_count_137 : decode cX9_count 137 = .ok (.lreturn, 1) := by decide +kernel
theorem dX9_count_138 : decode cX9_count 138 = .ok (.aload_n 0, 1) := by decide +kernel
theorem dX9_count_139 : decode cX9_count 139 = .ok (.getfield 223, 3) := by decide +kernel
theorem dX9_count_142 : decode cX9_count 142 = .ok (.ifCond .eq 7, 3) := by decide +kernel
theorem dX9_count_145 : decode cX9_count 145 = .ok (.lconst 1, 1) := by decide +kernel
theorem dX9_count_146 : decode cX9_count 146 = .ok (.goto 4, 3) := by decide +kernel
theorem dX9_count_149 : decode cX9_count 149 = .ok (.lconst 0, 1) := by decide +kernel
theorem dX9_count_150 : decode cX9_count 150 = .ok (.lreturn, 1) := by decide +kernel
theorem dX9_count_151 : decode cX9_count 151 = .ok (.aload_n 0, 1) := by decide +kernel
theorem dX9_count_152 : decode cX9_count 152 = .ok (.getfield 226, 3) := by decide +kernel
theorem dX9_count_155 : decode cX9_count 155 = .ok (.ifCond .eq 7, 3) := by decide +kernel
theorem dX9_count_158 : decode cX9_count 158 = .ok (.lconst 1, 1) := by decide +kernel
theorem dX9_count_159 : decode cX9_count 159 = .ok (.goto 4, 3) := by decide +kernel
theorem dX9_count_162 : decode cX9_count 162 = .ok (.lconst 0, 1) := by decide +kernel
theorem dX9_count_163 : decode cX9_count 163 = .ok (.lreturn, 1) := by decide +kernel
theorem dX9_count_164 : decode cX9_count 164 = .ok (.aload_n 0, 1) := by decide +kernel
theorem dX9_count_165 : decode cX9_count 165 = .ok (.getfield 272, 3) := by decide +kernel
theorem dX9_count_168 : decode cX9_count 168 = .ok (.ifCond .eq 7, 3) := by decide +kernel
theorem dX9_count_171 : decode cX9_count 171 = .ok (.lconst 1, 1) := by decide +kernel
theorem dX9_count_172 : decode cX9_count 172 = .ok (.goto 4, 3) := by decide +kernel
theorem dX9_count_175 : decode cX9_count 175 = .ok (.lconst 0, 1) := by decide +kernel
theorem dX9_count_176 : decode cX9_count 176 = .ok (.lreturn, 1) := by decide +kernel
theorem dX9_count_177 : decode cX9_count 177 = .ok (.aload_n 0, 1) := by decide +kernel
theorem dX9_count_178 : decode cX9_count 178 = .ok (.getfield 288, 3) := by decide +kernel
theorem dX9_count_181 : decode cX9_count 181 = .ok (.i2l, 1) := by decide +kernel
theorem dX9_count_182 : decode cX9_count 182 = .ok (.lreturn, 1) := by decide +kernel
theorem dX9_count_183 : decode cX9_count 183 = .ok (.aload_n 0, 1) := by decide +kernel
theorem dX9_count_184 : decode cX9_count 184 = .ok (.getfield 269, 3) := by decide +kernel
theorem dX9_count_187 : decode cX9_count 187 = .ok (.lreturn, 1) := by decide +kernel
theorem dX9_count_188 : decode cX9_count 188 = .ok (.ldc2_w 305, 3) := by decide +kernel
theorem dX9_count_191 : decode cX9_count 191 = .ok (.lreturn, 1) := by decide +kernel
theorem dL_load_0 : decode cL_load 0 = .ok (.aload_n 0, 1) := by decide +kernel
theorem dL_load_1 : decode cL_load 1 = .ok (.iload_n 1, 1) := by decide +kernel
theorem dL_load_2 : decode cL_load 2 = .ok (.lload_n 2, 1) := by decide +kernel
theorem dL_load_3 : decode cL_load 3 = .ok (.iload 4, 2) := by decide +kernel
theorem dL_load_5 : decode cL_load 5 = .ok (.invokevirtual 7, 3) := by decide +kernel
theorem dL_load_8 : decode cL_load 8 = .ok (.goto 7, 3) := by decide +kernel
theorem dL_load_11 : decode cL_load 11 = .ok (.astore 5, 2) := by decide +kernel
theorem dL_load_13 : decode cL_load 13 = .ok (.iconst 1, 1) := by decide +kernel
theorem dL_load_14 : decode cL_load 14 = .ok (.ireturn, 1) := by decide +kernel
theorem dL_load_15 : decode cL_load 15 = .ok (.iconst 0, 1) := by decide +kernel
theorem dL_load_16 : decode cL_load 16 = .ok (.ireturn, 1) := by decide +kernel
theorem dL_run_0 : decode cL_run 0 = .ok (.aload_n 2, 1) := by decide +kernel
theorem dL_run_1 : decode cL_run 1 = .ok (.iconst 0, 1) := by decide +kernel
theorem dL_run_2 : decode cL_run 2 = .ok (.aload_n 0, 1) := by decide +kernel
theorem dL_run_3 : decode cL_run 3 = .ok (.iload_n 1, 1) := by decide +kernel
theorem dL_run_4 : decode cL_run 4 = .ok (.invokevirtual 15, 3) := by decide +kernel
theorem dL_run_7 : decode cL_run 7 = .ok (.i2l, 1) := by decide +kernel
theorem dL_run_8 : decode cL_run 8 = .ok (.lastore, 1) := by decide +kernel
theorem dL_run_9 : decode cL_run 9 = .ok (.goto 6, 3) := by decide +kernel
theorem dL_run_12 : decode cL_run 12 = .ok (.astore_n 3, 1) := by decide +kernel
theorem dL_run_13 : decode cL_run 13 = .ok (.iconst 1, 1) := by decide +kernel
theorem dL_run_14 : decode cL_run 14 = .ok (.ireturn, 1) := by decide +kernel
theorem dL_run_15 : decode cL_run 15 = .ok (.iconst 0, 1) := by decide +kernel
theorem dL_run_16 : decode cL_run 16 = .ok (.ireturn, 1) := by decide +kernel
theorem dL_look_0 : decode cL_look 0 = .ok (.aload_n 2, 1) := by decide +kernel
theorem dL_look_1 : decode cL_look 1 = .ok (.iconst 0, 1) := by decide +kernel
theorem dL_look_2 : decode cL_look 2 = .ok (.aload_n 0, 1) := by decide +kernel
theorem dL_look_3 : decode cL_look 3 = .ok (.iload_n 1, 1) := by decide +kernel
theorem dL_look_4 : decode cL_look 4 = .ok (.invokevirtual 19, 3) := by decide +kernel
theorem dL_look_7 : decode cL_look 7 = .ok (.i2l, 1) := by decide +kernel
theorem dL_look_8 : decode cL_look 8 = .ok (.lastore, 1) := by decide +kernel
theorem dL_look_9 : decode cL_look 9 = .ok (.goto 6, 3) := by decide +kernel
theorem dL_look_12 : decode cL_look 12 = .ok (.astore_n 3, 1) := by decide +kernel
theorem dL_look_13 : decode cL_look 13 = .ok (.iconst 1, 1) := by decide +kernel
theorem dL_look_14 : decode cL_look 14 = .ok (.ireturn, 1) := by decide +kernel
theorem dL_look_15 : decode cL_look 15 = .ok (.iconst 0, 1) := by decide +kernel
theorem dL_look_16 : decode cL_look 16 = .ok (.ireturn, 1) := by decide +kernel
theorem dL_set_0 : decode cL_set 0 = .ok (.aload_n 0, 1) := by decide +kernel
theorem dL_set_1 : decode cL_set 1 = .ok (.iload_n 1, 1) := by decide +kernel
theorem dL_set_2 : decode cL_set 2 = .ok (.iload_n 2, 1) := by decide +kernel
theorem dL_set_3 : decode cL_set 3 = .ok (.invokevirtual 22, 3) := by decide +kernel
theorem dL_set_6 : decode cL_set 6 = .ok (.goto 6, 3) := by decide +kernel
theorem dL_set_9 : decode cL_set 9 = .ok (.astore_n 3, 1) := by decide +kernel
theorem dL_set_10 : decode cL_set 10 = .ok (.iconst 1, 1) := by decide +kernel
theorem dL_set_11 : decode cL_set 11 = .ok (.ireturn, 1) := by decide +kernel
theorem dL_set_12 : decode cL_set 12 = .ok (.iconst 0, 1) := by decide +kernel
theorem dL_set_13 : decode cL_set 13 = .ok (.ireturn, 1) := by decide +kernel
theorem dL_law_0 : decode cL_law 0 = .ok (.new 8, 3) := by decide +kernel
theorem dL_law_3 : decode cL_law 3 = .ok (.dup, 1) := by decide +kernel
theorem dL_law_4 : decode cL_law 4 = .ok (.invokespecial 26, 3) := by decide +kernel
theorem dL_law_7 : decode cL_law 7 = .ok (.astore_n 1, 1) := by decide +kernel
theorem dL_law_8 : decode cL_law 8 = .ok (.new 27, 3) := by decide +kernel
theorem dL_law_11 : decode cL_law 11 = .ok (.dup, 1) := by decide +kernel
theorem dL_law_12 : decode cL_law 12 = .ok (.invokespecial 29, 3) := by decide +kernel
theorem dL_law_15 : decode cL_law 15 = .ok (.astore_n 2, 1) := by decide +kernel
theorem dL_law_16 : decode cL_law 16 = .ok (.iconst 1, 1) := by decide +kernel
theorem dL_law_17 : decode cL_law 17 = .ok (.newarray .long, 2) := by decide +kernel
theorem dL_law_19 : decode cL_law 19 = .ok (.astore_n 3, 1) := by decide +kernel
theorem dL_law_20 : decode cL_law 20 = .ok (.iconst 0, 1) := by decide +kernel
theorem dL_law_21 : decode cL_law 21 = .ok (.istore 4, 2) := by decide +kernel
theorem dL_law_23 : decode cL_law 23 = .ok (.iload 4, 2) := by decide +kernel
theorem dL_law_25 : decode cL_law 25 = .ok (.aload_n 0, 1) := by decide +kernel
theorem dL_law_26 : decode cL_law 26 = .ok (.arraylength, 1) := by decide +kernel
theorem dL_law_27 : decode cL_law 27 = .ok (.iconst 5, 1) := by decide +kernel
theorem dL_law_28 : decode cL_law 28 = .ok (.isub, 1) := by decide +kernel
theorem dL_law_29 : decode cL_law 29 = .ok (.if_icmp .gt 548, 3) := by decide +kernel
theorem dL_law_32 : decode cL_law 32 = .ok (.aload_n 0, 1) := by decide +kernel
theorem dL_law_33 : decode cL_law 33 = .ok (.iload 4, 2) := by decide +kernel
theorem dL_law_35 : decode cL_law 35 = .ok (.iaload, 1) := by decide +kernel
theorem dL_law_36 : decode cL_law 36 = .ok (.bipush 15, 2) := by decide +kernel
theorem dL_law_38 : decode cL_law 38 = .ok (.iand, 1) := by decide +kernel
theorem dL_law_39 : decode cL_law 39 = .ok (.tableswitch 532 0 13 #[69, 161, 172, 185, 241, 252, 277, 302, 358, 383, 431, 456, 481, 506], 69) := by decide +kernel
theorem dL_law_108 : decode cL_law 108 = .ok (.aload_n 1, 1) := by decide +kernel
theorem dL_law_109 : decode cL_law 109 = .ok (.aload_n 0, 1) := by decide +kernel
theorem dL_law_110 : decode cL_law 110 = .ok (.iload 4, 2) := by decide +kernel
theorem dL_law_112 : decode cL_law 112 = .ok (.iconst 1, 1) := by decide +kernel
theorem dL_law_113 : decode cL_law 113 = .ok (.iadd, 1) := by decide +kernel
theorem dL_law_114 : decode cL_law 114 = .ok (.iaload, 1) := by decide +kernel
theorem dL_law_115 : decode cL_law 115 = .ok (.aload_n 0, 1) := by decide +kernel
theorem dL_law_116 : decode cL_law 116 = .ok (.iload 4, 2) := by decide +kernel
theorem dL_law_118 : decode cL_law 118 = .ok (.iconst 2, 1) := by decide +kernel
theorem dL_law_119 : decode cL_law 119 = .ok (.iadd, 1) := by decide +kernel
theorem dL_law_120 : decode cL_law 120 = .ok (.iaload, 1) := by decide +kernel
theorem dL_law_121 : decode cL_law 121 = .ok (.i2l, 1) := by decide +kernel
theorem dL_law_122 : decode cL_law 122 = .ok (.bipush 32, 2) := by decide +kernel
theorem dL_law_124 : decode cL_law 124 = .ok (.lshl, 1) := by decide +kernel
theorem dL_law_125 : decode cL_law 125 = .ok (.aload_n 0, 1) := by decide +kernel
theorem dL_law_126 : decode cL_law 126 = .ok (.iload 4, 2) := by decide +kernel
theorem dL_law_128 : decode cL_law 128 = .ok (.iconst 3, 1) := by decide +kernel
theorem dL_law_129 : decode cL_law 129 = .ok (.iadd, 1) := by decide +kernel
theorem dL_law_130 : decode cL_law 130 = .ok (.iaload, 1) := by decide +kernel
theorem dL_law_131 : decode cL_law 131 = .ok (.i2l, 1) := by decide +kernel
theorem dL_law_132 : decode cL_law 132 = .ok (.ldc2_w 30, 3) := by decide +kernel
theorem dL_law_135 : decode cL_law 135 = .ok (.land, 1) := by decide +kernel
theorem dL_law_136 : decode cL_law 136 = .ok (.lor, 1) := by decide +kernel
theorem dL_law_137 : decode cL_law 137 = .ok (.aload_n 0, 1) := by decide +kernel
theorem dL_law_138 : decode cL_law 138 = .ok (.iload 4, 2) := by decide +kernel
theorem dL_law_140 : decode cL_law 140 = .ok (.iconst 4, 1) := by decide +kernel
theorem dL_law_141 : decode cL_law 141 = .ok (.iadd, 1) := by decide +kernel
theorem dL_law_142 : decode cL_law 142 = .ok (.iaload, 1) := by decide +kernel
theorem dL_law_143 : decode cL_law 143 = .ok (.invokestatic 32, 3) := by decide +kernel
theorem dL_law_146 : decode cL_law 146 = .ok (.istore 5, 2) := by decide +kernel
theorem dL_law_148 : decode cL_law 148 = .ok (.aload_n 2, 1) := by decide +kernel
theorem dL_law_149 : decode cL_law 149 = .ok (.aload_n 0, 1) := by decide +kernel
theorem dL_law_150 : decode cL_law 150 = .ok (.iload 4, 2) := by decide +kernel
theorem dL_law_152 : decode cL_law 152 = .ok (.iconst 1, 1) := by decide +kernel
theorem dL_law_153 : decode cL_law 153 = .ok (.iadd, 1) := by decide +kernel
theorem dL_law_154 : decode cL_law 154 = .ok (.iaload, 1) := by decide +kernel
theorem dL_law_155 : decode cL_law 155 = .ok (.aload_n 0, 1) := by decide +kernel
theorem dL_law_156 : decode cL_law 156 = .ok (.iload 4, 2) := by decide +kernel
theorem dL_law_158 : decode cL_law 158 = .ok (.iconst 2, 1) := by decide +kernel
theorem dL_law_159 : decode cL_law 159 = .ok (.iadd, 1) := by decide +kernel
theorem dL_law_160 : decode cL_law 160 = .ok (.iaload, 1) := by decide +kernel
theorem dL_law_161 : decode cL_law 161 = .ok (.i2l, 1) := by decide +kernel
theorem dL_law_162 : decode cL_law 162 = .ok (.bipush 32, 2) := by decide +kernel
theorem dL_law_164 : decode cL_law 164 = .ok (.lshl, 1) := by decide +kernel
theorem dL_law_165 : decode cL_law 165 = .ok (.aload_n 0, 1) := by decide +kernel
theorem dL_law_166 : decode cL_law 166 = .ok (.iload 4, 2) := by decide +kernel
theorem dL_law_168 : decode cL_law 168 = .ok (.iconst 3, 1) := by decide +kernel
theorem dL_law_169 : decode cL_law 169 = .ok (.iadd, 1) := by decide +kernel
theorem dL_law_170 : decode cL_law 170 = .ok (.iaload, 1) := by decide +kernel
theorem dL_law_171 : decode cL_law 171 = .ok (.i2l, 1) := by decide +kernel
theorem dL_law_172 : decode cL_law 172 = .ok (.ldc2_w 30, 3) := by decide +kernel
theorem dL_law_175 : decode cL_law 175 = .ok (.land, 1) := by decide +kernel
theorem dL_law_176 : decode cL_law 176 = .ok (.lor, 1) := by decide +kernel
theorem dL_law_177 : decode cL_law 177 = .ok (.aload_n 0, 1) := by decide +kernel
theorem dL_law_178 : decode cL_law 178 = .ok (.iload 4, 2) := by decide +kernel
theorem dL_law_180 : decode cL_law 180 = .ok (.iconst 4, 1) := by decide +kernel
theorem dL_law_181 : decode cL_law 181 = .ok (.iadd, 1) := by decide +kernel
theorem dL_law_182 : decode cL_law 182 = .ok (.iaload, 1) := by decide +kernel
theorem dL_law_183 : decode cL_law 183 = .ok (.invokevirtual 37, 3) := by decide +kernel
theorem dL_law_186 : decode cL_law 186 = .ok (.aload_n 2, 1) := by decide +kernel
theorem dL_law_187 : decode cL_law 187 = .ok (.invokevirtual 38, 3) := by decide +kernel
theorem dL_law_190 : decode cL_law 190 = .ok (.iload 5, 2) := by decide +kernel
theorem dL_law_192 : decode cL_law 192 = .ok (.if_icmp .eq 5, 3) := by decide +kernel
theorem dL_law_195 : decode cL_law 195 = .ok (.iconst 0, 1) := by decide +kernel
theorem dL_law_196 : decode cL_law 196 = .ok (.ireturn, 1) := by decide +kernel
theorem dL_law_197 : decode cL_law 197 = .ok (.goto 374, 3) := by decide +kernel
theorem dL_law_200 : decode cL_law 200 = .ok (.aload_n 1, 1) := by decide +kernel
theorem dL_law_201 : decode cL_law 201 = .ok (.invokevirtual 42, 3) := by decide +kernel
theorem dL_law_204 : decode cL_law 204 = .ok (.aload_n 2, 1) := by decide +kernel
theorem dL_law_205 : decode cL_law 205 = .ok (.invokevirtual 45, 3) := by decide +kernel
theorem dL_law_208 : decode cL_law 208 = .ok (.goto 363, 3) := by decide +kernel
theorem dL_law_211 : decode cL_law 211 = .ok (.aload_n 1, 1) := by decide +kernel
theorem dL_law_212 : decode cL_law 212 = .ok (.invokevirtual 46, 3) := by decide +kernel
theorem dL_law_215 : decode cL_law 215 = .ok (.aload_n 2, 1) := by decide +kernel
theorem dL_law_216 : decode cL_law 216 = .ok (.invokevirtual 49, 3) := by decide +kernel
theorem dL_law_219 : decode cL_law 219 = .ok (.if_icmp .eq 352, 3) := by decide +kernel
theorem dL_law_222 : decode cL_law 222 = .ok (.iconst 0, 1) := by decide +kernel
theorem dL_law_223 : decode cL_law 223 = .ok (.ireturn, 1) := by decide +kernel
theorem dL_law_224 : decode cL_law 224 = .ok (.aload_n 1, 1) := by decide +kernel
theorem dL_law_225 : decode cL_law 225 = .ok (.aload_n 0, 1) := by decide +kernel
theorem dL_law_226 : decode cL_law 226 = .ok (.iload 4, 2) := by decide +kernel
theorem dL_law_228 : decode cL_law 228 = .ok (.iconst 1, 1) := by decide +kernel
theorem dL_law_229 : decode cL_law 229 = .ok (.iadd, 1) := by decide +kernel
theorem dL_law_230 : decode cL_law 230 = .ok (.iaload, 1) := by decide +kernel
theorem dL_law_231 : decode cL_law 231 = .ok (.aload_n 3, 1) := by decide +kernel
theorem dL_law_232 : decode cL_law 232 = .ok (.invokestatic 50, 3) := by decide +kernel
theorem dL_law_235 : decode cL_law 235 = .ok (.istore 5, 2) := by decide +kernel
theorem dL_law_237 : decode cL_law 237 = .ok (.aload_n 2, 1) := by decide +kernel
theorem dL_law_238 : decode cL_law 238 = .ok (.aload_n 0, 1) := by decide +kernel
theorem dL_law_239 : decode cL_law 239 = .ok (.iload 4, 2) := by decide +kernel
theorem dL_law_241 : decode cL_law 241 = .ok (.iconst 1, 1) := by decide +kernel
theorem dL_law_242 : decode cL_law 242 = .ok (.iadd, 1) := by decide +kernel
theorem dL_law_243 : decode cL_law 243 = .ok (.iaload, 1) := by decide +kernel
theorem dL_law_244 : decode cL_law 244 = .ok (.invokevirtual 53, 3) := by decide +kernel
theorem dL_law_247 : decode cL_law 247 = .ok (.istore 6, 2) := by decide +kernel
theorem dL_law_249 : decode cL_law 249 = .ok (.aload_n 2, 1) := by decide +kernel
theorem dL_law_250 : decode cL_law 250 = .ok (.invokevirtual 38, 3) := by decide +kernel
theorem dL_law_253 : decode cL_law 253 = .ok (.iload 5, 2) := by decide +kernel
theorem dL_law_255 : decode cL_law 255 = .ok (.if_icmp .eq 5, 3) := by decide +kernel
theorem dL_law_258 : decode cL_law 258 = .ok (.iconst 0, 1) := by decide +kernel
theorem dL_law_259 : decode cL_law 259 = .ok (.ireturn, 1) := by decide +kernel
theorem dL_law_260 : decode cL_law 260 = .ok (.iload 5, 2) := by decide +kernel
theorem dL_law_262 : decode cL_law 262 = .ok (.ifCond .ne 15, 3) := by decide +kernel
theorem dL_law_265 : decode cL_law 265 = .ok (.aload_n 3, 1) := by decide +kernel
theorem dL_law_266 : decode cL_law 266 = .ok (.iconst 0, 1) := by decide +kernel
theorem dL_law_267 : decode cL_law 267 = .ok (.laload, 1) := by decide +kernel
theorem dL_law_268 : decode cL_law 268 = .ok (.iload 6, 2) := by decide +kernel
theorem dL_law_270 : decode cL_law 270 = .ok (.i2l, 1) := by decide +kernel
theorem dL_law_271 : decode cL_law 271 = .ok (.lcmp, 1) := by decide +kernel
theorem dL_law_272 : decode cL_law 272 = .ok (.ifCond .eq 5, 3) := by decide +kernel
theorem dL_law_275 : decode cL_law 275 = .ok (.iconst 0, 1) := by decide +kernel
theorem dL_law_276 : decode cL_law 276 = .ok (.ireturn, 1) := by decide +kernel
theorem dL_law_277 : decode cL_law 277 = .ok (.goto 294, 3) := by decide +kernel
theorem dL_law_280 : decode cL_law 280 = .ok (.aload_n 1, 1) := by decide +kernel
theorem dL_law_281 : decode cL_law 281 = .ok (.invokevirtual 54, 3) := by decide +kernel
theorem dL_law_284 : decode cL_law 284 = .ok (.aload_n 2, 1) := by decide +kernel
theorem dL_law_285 : decode cL_law 285 = .ok (.invokevirtual 57, 3) := by decide +kernel
theorem dL_law_288 : decode cL_law 288 = .ok (.goto 283, 3) := by decide +kernel
theorem dL_law_291 : decode cL_law 291 = .ok (.aload_n 1, 1) := by decide +kernel
theorem dL_law_292 : decode cL_law 292 = .ok (.aload_n 0, 1) := by decide +kernel
theorem dL_law_293 : decode cL_law 293 = .ok (.iload 4, 2) := by decide +kernel
theorem dL_law_295 : decode cL_law 295 = .ok (.iconst 1, 1) := by decide +kernel
theorem dL_law_296 : decode cL_law 296 = .ok (.iadd, 1) := by decide +kernel
theorem dL_law_297 : decode cL_law 297 = .ok (.iaload, 1) := by decide +kernel
theorem dL_law_298 : decode cL_law 298 = .ok (.invokevirtual 58, 3) := by decide +kernel
theorem dL_law_301 : decode cL_law 301 = .ok (.aload_n 2, 1) := by decide +kernel
theorem dL_law_302 : decode cL_law 302 = .ok (.aload_n 0, 1) := by decide +kernel
theorem dL_law_303 : decode cL_law 303 = .ok (.iload 4, 2) := by decide +kernel
theorem dL_law_305 : decode cL_law 305 = .ok (.iconst 1, 1) := by decide +kernel
theorem dL_law_306 : decode cL_law 306 = .ok (.iadd, 1) := by decide +kernel
theorem dL_law_307 : decode cL_law 307 = .ok (.iaload, 1) := by decide +kernel
theorem dL_law_308 : decode cL_law 308 = .ok (.invokevirtual 61, 3) := by decide +kernel
theorem dL_law_311 : decode cL_law 311 = .ok (.if_icmp .eq 260, 3) := by decide +kernel
theorem dL_law_314 : decode cL_law 314 = .ok (.iconst 0, 1) := by decide +kernel
theorem dL_law_315 : decode cL_law 315 = .ok (.ireturn, 1) := by decide +kernel
theorem dL_law_316 : decode cL_law 316 = .ok (.aload_n 1, 1) := by decide +kernel
theorem dL_law_317 : decode cL_law 317 = .ok (.aload_n 0, 1) := by decide +kernel
theorem dL_law_318 : decode cL_law 318 = .ok (.iload 4, 2) := by decide +kernel
theorem dL_law_320 : decode cL_law 320 = .ok (.iconst 1, 1) := by decide +kernel
theorem dL_law_321 : decode cL_law 321 = .ok (.iadd, 1) := by decide +kernel
theorem dL_law_322 : decode cL_law 322 = .ok (.iaload, 1) := by decide +kernel
theorem dL_law_323 : decode cL_law 323 = .ok (.invokevirtual 62, 3) := by decide +kernel
theorem dL_law_326 : decode cL_law 326 = .ok (.aload_n 2, 1) := by decide +kernel
theorem dL_law_327 : decode cL_law 327 = .ok (.aload_n 0, 1) := by decide +kernel
theorem dL_law_328 : decode cL_law 328 = .ok (.iload 4, 2) := by decide +kernel
theorem dL_law_330 : decode cL_law 330 = .ok (.iconst 1, 1) := by decide +kernel
theorem dL_law_331 : decode cL_law 331 = .ok (.iadd, 1) := by decide +kernel
theorem dL_law_332 : decode cL_law 332 = .ok (.iaload, 1) := by decide +kernel
theorem dL_law_333 : decode cL_law 333 = .ok (.invokevirtual 65, 3) := by decide +kernel
theorem dL_law_336 : decode cL_law 336 = .ok (.if_icmp .eq 235, 3) := by decide +kernel
theorem dL_law_339 : decode cL_law 339 = .ok (.iconst 0, 1) := by decide +kernel
theorem dL_law_340 : decode cL_law 340 = .ok (.ireturn, 1) := by decide +kernel
theorem dL_law_341 : decode cL_law 341 = .ok (.aload_n 1, 1) := by decide +kernel
theorem dL_law_342 : decode cL_law 342 = .ok (.aload_n 0, 1) := by decide +kernel
theorem dL_law_343 : decode cL_law 343 = .ok (.iload 4, 2) := by decide +kernel
theorem dL_law_345 : decode cL_law 345 = .ok (.iconst 1, 1) := by decide +kernel
theorem dL_law_346 : decode cL_law 346 = .ok (.iadd, 1) := by decide +kernel
theorem dL_law_347 : decode cL_law 347 = .ok (.iaload, 1) := by decide +kernel
theorem dL_law_348 : decode cL_law 348 = .ok (.aload_n 3, 1) := by decide +kernel
theorem dL_law_349 : decode cL_law 349 = .ok (.invokestatic 66, 3) := by decide +kernel
theorem dL_law_352 : decode cL_law 352 = .ok (.istore 5, 2) := by decide +kernel
theorem dL_law_354 : decode cL_law 354 = .ok (.aload_n 2, 1) := by decide +kernel
theorem dL_law_355 : decode cL_law 355 = .ok (.aload_n 0, 1) := by decide +kernel
theorem dL_law_356 : decode cL_law 356 = .ok (.iload 4, 2) := by decide +kernel
theorem dL_law_358 : decode cL_law 358 = .ok (.iconst 1, 1) := by decide +kernel
theorem dL_law_359 : decode cL_law 359 = .ok (.iadd, 1) := by decide +kernel
theorem dL_law_360 : decode cL_law 360 = .ok (.iaload, 1) := by decide +kernel
theorem dL_law_361 : decode cL_law 361 = .ok (.invokevirtual 68, 3) := by decide +kernel
theorem dL_law_364 : decode cL_law 364 = .ok (.istore 6, 2) := by decide +kernel
theorem dL_law_366 : decode cL_law 366 = .ok (.aload_n 2, 1) := by decide +kernel
theorem dL_law_367 : decode cL_law 367 = .ok (.invokevirtual 38, 3) := by decide +kernel
theorem dL_law_370 : decode cL_law 370 = .ok (.iload 5, 2) := by decide +kernel
theorem dL_law_372 : decode cL_law 372 = .ok (.if_icmp .eq 5, 3) := by decide +kernel
theorem dL_law_375 : decode cL_law 375 = .ok (.iconst 0, 1) := by decide +kernel
theorem dL_law_376 : decode cL_law 376 = .ok (.ireturn, 1) := by decide +kernel
theorem dL_law_377 : decode cL_law 377 = .ok (.iload 5, 2) := by decide +kernel
theorem dL_law_379 : decode cL_law 379 = .ok (.ifCond .ne 15, 3) := by decide +kernel
theorem dL_law_382 : decode cL_law 382 = .ok (.aload_n 3, 1) := by decide +kernel
theorem dL_law_383 : decode cL_law 383 = .ok (.iconst 0, 1) := by decide +kernel
theorem dL_law_384 : decode cL_law 384 = .ok (.laload, 1) := by decide +kernel
theorem dL_law_385 : decode cL_law 385 = .ok (.iload 6, 2) := by decide +kernel
theorem dL_law_387 : decode cL_law 387 = .ok (.i2l, 1) := by decide +kernel
theorem dL_law_388 : decode cL_law 388 = .ok (.lcmp, 1) := by decide +kernel
theorem dL_law_389 : decode cL_law 389 = .ok (.ifCond .eq 5, 3) := by decide +kernel
theorem dL_law_392 : decode cL_law 392 = .ok (.iconst 0, 1) := by decide +kernel
theorem dL_law_393 : decode cL_law 393 = .ok (.ireturn, 1) := by decide +kernel
theorem dL_law_394 : decode cL_law 394 = .ok (.goto 177, 3) := by decide +kernel
theorem dL_law_397 : decode cL_law 397 = .ok (.aload_n 1, 1) := by decide +kernel
theorem dL_law_398 : decode cL_law 398 = .ok (.aload_n 0, 1) := by decide +kernel
theorem dL_law_399 : decode cL_law 399 = .ok (.iload 4, 2) := by decide +kernel
theorem dL_law_401 : decode cL_law 401 = .ok (.iconst 1, 1) := by decide +kernel
theorem dL_law_402 : decode cL_law 402 = .ok (.iadd, 1) := by decide +kernel
theorem dL_law_403 : decode cL_law 403 = .ok (.iaload, 1) := by decide +kernel
theorem dL_law_404 : decode cL_law 404 = .ok (.invokevirtual 69, 3) := by decide +kernel
theorem dL_law_407 : decode cL_law 407 = .ok (.aload_n 2, 1) := by decide +kernel
theorem dL_law_408 : decode cL_law 408 = .ok (.aload_n 0, 1) := by decide +kernel
theorem dL_law_409 : decode cL_law 409 = .ok (.iload 4, 2) := by decide +kernel
theorem dL_law_411 : decode cL_law 411 = .ok (.iconst 1, 1) := by decide +kernel
theorem dL_law_412 : decode cL_law 412 = .ok (.iadd, 1) := by decide +kernel
theorem dL_law_413 : decode cL_law 413 = .ok (.iaload, 1) := by decide +kernel
theorem dL_law_414 : decode cL_law 414 = .ok (.invokevirtual 72, 3) := by decide +kernel
theorem dL_law_417 : decode cL_law 417 = .ok (.if_icmp .eq 154, 3) := by decide +kernel
theorem dL_law_420 : decode cL_law 420 = .ok (.iconst 0, 1) := by decide +kernel
theorem dL_law_421 : decode cL_law 421 = .ok (.ireturn, 1) := by decide +kernel
theorem dL_law_422 : decode cL_law 422 = .ok (.aload_n 1, 1) := by decide +kernel
theorem dL_law_423 : decode cL_law 423 = .ok (.aload_n 0, 1) := by decide +kernel
theorem dL_law_424 : decode cL_law 424 = .ok (.iload 4, 2) := by decide +kernel
theorem dL_law_426 : decode cL_law 426 = .ok (.iconst 1, 1) := by decide +kernel
theorem dL_law_427 : decode cL_law 427 = .ok (.iadd, 1) := by decide +kernel
theorem dL_law_428 : decode cL_law 428 = .ok (.iaload, 1) := by decide +kernel
theorem dL_law_429 : decode cL_law 429 = .ok (.aload_n 0, 1) := by decide +kernel
theorem dL_law_430 : decode cL_law 430 = .ok (.iload 4, 2) := by decide +kernel
theorem dL_law_432 : decode cL_law 432 = .ok (.iconst 2, 1) := by decide +kernel
theorem dL_law_433 : decode cL_law 433 = .ok (.iadd, 1) := by decide +kernel
theorem dL_law_434 : decode cL_law 434 = .ok (.iaload, 1) := by decide +kernel
theorem dL_law_435 : decode cL_law 435 = .ok (.invokestatic 73, 3) := by decide +kernel
theorem dL_law_438 : decode cL_law 438 = .ok (.istore 5, 2) := by decide +kernel
theorem dL_law_440 : decode cL_law 440 = .ok (.aload_n 2, 1) := by decide +kernel
theorem dL_law_441 : decode cL_law 441 = .ok (.aload_n 0, 1) := by decide +kernel
theorem dL_law_442 : decode cL_law 442 = .ok (.iload 4, 2) := by decide +kernel
theorem dL_law_444 : decode cL_law 444 = .ok (.iconst 1, 1) := by decide +kernel
theorem dL_law_445 : decode cL_law 445 = .ok (.iadd, 1) := by decide +kernel
theorem dL_law_446 : decode cL_law 446 = .ok (.iaload, 1) := by decide +kernel
theorem dL_law_447 : decode cL_law 447 = .ok (.aload_n 0, 1) := by decide +kernel
theorem dL_law_448 : decode cL_law 448 = .ok (.iload 4, 2) := by decide +kernel
theorem dL_law_450 : decode cL_law 450 = .ok (.iconst 2, 1) := by decide +kernel
theorem dL_law_451 : decode cL_law 451 = .ok (.iadd, 1) := by decide +kernel
theorem dL_law_452 : decode cL_law 452 = .ok (.iaload, 1) := by decide +kernel
theorem dL_law_453 : decode cL_law 453 = .ok (.invokevirtual 76, 3) := by decide +kernel
theorem dL_law_456 : decode cL_law 456 = .ok (.aload_n 2, 1) := by decide +kernel
theorem dL_law_457 : decode cL_law 457 = .ok (.invokevirtual 38, 3) := by decide +kernel
theorem dL_law_460 : decode cL_law 460 = .ok (.iload 5, 2) := by decide +kernel
theorem dL_law_462 : decode cL_law 462 = .ok (.if_icmp .eq 5, 3) := by decide +kernel
theorem dL_law_465 : decode cL_law 465 = .ok (.iconst 0, 1) := by decide +kernel
theorem dL_law_466 : decode cL_law 466 = .ok (.ireturn, 1) := by decide +kernel
theorem dL_law_467 : decode cL_law 467 = .ok (.goto 104, 3) := by decide +kernel
theorem dL_law_470 : decode cL_law 470 = .ok (.aload_n 1, 1) := by decide +kernel
theorem dL_law_471 : decode cL_law 471 = .ok (.aload_n 0, 1) := by decide +kernel
theorem dL_law_472 : decode cL_law 472 = .ok (.iload 4, 2) := by decide +kernel
theorem dL_law_474 : decode cL_law 474 = .ok (.iconst 1, 1) := by decide +kernel
theorem dL_law_475 : decode cL_law 475 = .ok (.iadd, 1) := by decide +kernel
theorem dL_law_476 : decode cL_law 476 = .ok (.iaload, 1) := by decide +kernel
theorem dL_law_477 : decode cL_law 477 = .ok (.invokevirtual 77, 3) := by decide +kernel
theorem dL_law_480 : decode cL_law 480 = .ok (.aload_n 2, 1) := by decide +kernel
theorem dL_law_481 : decode cL_law 481 = .ok (.aload_n 0, 1) := by decide +kernel
theorem dL_law_482 : decode cL_law 482 = .ok (.iload 4, 2) := by decide +kernel
theorem dL_law_484 : decode cL_law 484 = .ok (.iconst 1, 1) := by decide +kernel
theorem dL_law_485 : decode cL_law 485 = .ok (.iadd, 1) := by decide +kernel
theorem dL_law_486 : decode cL_law 486 = .ok (.iaload, 1) := by decide +kernel
theorem dL_law_487 : decode cL_law 487 = .ok (.invokevirtual 81, 3) := by decide +kernel
theorem dL_law_490 : decode cL_law 490 = .ok (.if_icmp .eq 81, 3) := by decide +kernel
theorem dL_law_493 : decode cL_law 493 = .ok (.iconst 0, 1) := by decide +kernel
theorem dL_law_494 : decode cL_law 494 = .ok (.ireturn, 1) := by decide +kernel
theorem dL_law_495 : decode cL_law 495 = .ok (.aload_n 1, 1) := by decide +kernel
theorem dL_law_496 : decode cL_law 496 = .ok (.aload_n 0, 1) := by decide +kernel
theorem dL_law_497 : decode cL_law 497 = .ok (.iload 4, 2) := by decide +kernel
theorem dL_law_499 : decode cL_law 499 = .ok (.iconst 1, 1) := by decide +kernel
theorem dL_law_500 : decode cL_law 500 = .ok (.iadd, 1) := by decide +kernel
theorem dL_law_501 : decode cL_law 501 = .ok (.iaload, 1) := by decide +kernel
theorem dL_law_502 : decode cL_law 502 = .ok (.invokevirtual 82, 3) := by decide +kernel
theorem dL_law_505 : decode cL_law 505 = .ok (.aload_n 2, 1) := by decide +kernel
theorem dL_law_506 : decode cL_law 506 = .ok (.aload_n 0, 1) := by decide +kernel
theorem dL_law_507 : decode cL_law 507 = .ok (.iload 4, 2) := by decide +kernel
theorem dL_law_509 : decode cL_law 509 = .ok (.iconst 1, 1) := by decide +kernel
theorem dL_law_510 : decode cL_law 510 = .ok (.iadd, 1) := by decide +kernel
theorem dL_law_511 : decode cL_law 511 = .ok (.iaload, 1) := by decide +kernel
theorem dL_law_512 : decode cL_law 512 = .ok (.invokevirtual 85, 3) := by decide +kernel
theorem dL_law_515 : decode cL_law 515 = .ok (.if_icmp .eq 56, 3) := by decide +kernel
theorem dL_law_518 : decode cL_law 518 = .ok (.iconst 0, 1) := by decide +kernel
theorem dL_law_519 : decode cL_law 519 = .ok (.ireturn, 1) := by decide +kernel
theorem dL_law_520 : decode cL_law 520 = .ok (.aload_n 1, 1) := by decide +kernel
theorem dL_law_521 : decode cL_law 521 = .ok (.aload_n 0, 1) := by decide +kernel
theorem dL_law_522 : decode cL_law 522 = .ok (.iload 4, 2) := by decide +kernel
theorem dL_law_524 : decode cL_law 524 = .ok (.iconst 1, 1) := by decide +kernel
theorem dL_law_525 : decode cL_law 525 = .ok (.iadd, 1) := by decide +kernel
theorem dL_law_526 : decode cL_law 526 = .ok (.iaload, 1) := by decide +kernel
theorem dL_law_527 : decode cL_law 527 = .ok (.invokevirtual 86, 3) := by decide +kernel
theorem dL_law_530 : decode cL_law 530 = .ok (.aload_n 2, 1) := by decide +kernel
theorem dL_law_531 : decode cL_law 531 = .ok (.aload_n 0, 1) := by decide +kernel
theorem dL_law_532 : decode cL_law 532 = .ok (.iload 4, 2) := by decide +kernel
theorem dL_law_534 : decode cL_law 534 = .ok (.iconst 1, 1) := by decide +kernel
theorem dL_law_535 : decode cL_law 535 = .ok (.iadd, 1) := by decide +kernel
theorem dL_law_536 : decode cL_law 536 = .ok (.iaload, 1) := by decide +kernel
theorem dL_law_537 : decode cL_law 537 = .ok (.invokevirtual 89, 3) := by decide +kernel
theorem dL_law_540 : decode cL_law 540 = .ok (.if_icmp .eq 31, 3) := by decide +kernel
theorem dL_law_543 : decode cL_law 543 = .ok (.iconst 0, 1) := by decide +kernel
theorem dL_law_544 : decode cL_law 544 = .ok (.ireturn, 1) := by decide +kernel
theorem dL_law_545 : decode cL_law 545 = .ok (.aload_n 1, 1) := by decide +kernel
theorem dL_law_546 : decode cL_law 546 = .ok (.aload_n 0, 1) := by decide +kernel
theorem dL_law_547 : decode cL_law 547 = .ok (.iload 4, 2) := by decide +kernel
theorem dL_law_549 : decode cL_law 549 = .ok (.iconst 1, 1) := by decide +kernel
theorem dL_law_550 : decode cL_law 550 = .ok (.iadd, 1) := by decide +kernel
theorem dL_law_551 : decode cL_law 551 = .ok (.iaload, 1) := by decide +kernel
theorem dL_law_552 : decode cL_law 552 = .ok (.invokevirtual 90, 3) := by decide +kernel
theorem dL_law_555 : decode cL_law 555 = .ok (.aload_n 2, 1) := by decide +kernel
theorem dL_law_556 : decode cL_law 556 = .ok (.aload_n 0, 1) := by decide +kernel
theorem dL_law_557 : decode cL_law 557 = .ok (.iload 4, 2) := by decide +kernel
theorem dL_law_559 : decode cL_law 559 = .ok (.iconst 1, 1) := by decide +kernel
theorem dL_law_560 : decode cL_law 560 = .ok (.iadd, 1) := by decide +kernel
theorem dL_law_561 : decode cL_law 561 = .ok (.iaload, 1) := by decide +kernel
theorem dL_law_562 : decode cL_law 562 = .ok (.invokevirtual 94, 3) := by decide +kernel
theorem dL_law_565 : decode cL_law 565 = .ok (.lcmp, 1) := by decide +kernel
theorem dL_law_566 : decode cL_law 566 = .ok (.ifCond .eq 5, 3) := by decide +kernel
theorem dL_law_569 : decode cL_law 569 = .ok (.iconst 0, 1) := by decide +kernel
theorem dL_law_570 : decode cL_law 570 = .ok (.ireturn, 1) := by decide +kernel
theorem dL_law_571 : decode cL_law 571 = .ok (.iinc 4 5, 3) := by decide +kernel
theorem dL_law_574 : decode cL_law 574 = .ok (.goto (-551), 3) := by decide +kernel
theorem dL_law_577 : decode cL_law 577 = .ok (.iconst 1, 1) := by decide +kernel
theorem dL_law_578 : decode cL_law 578 = .ok (.ireturn, 1) := by decide +kernel
