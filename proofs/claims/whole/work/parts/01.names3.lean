theorem dX8_init_327 : decode cX8_init 327 = .ok (.iconst 3, 1) := by decide +kernel
theorem dX8_init_328 : decode cX8_init 328 = .ok (.ldc 100, 2) := by decide +kernel
theorem dX8_init_330 : decode cX8_init 330 = .ok (.aastore, 1) := by decide +kernel
theorem dX8_init_331 : decode cX8_init 331 = .ok (.dup, 1) := by decide +kernel
theorem dX8_init_332 : decode cX8_init 332 = .ok (.iconst 4, 1) := by decide +kernel
theorem dX8_init_333 : decode cX8_init 333 = .ok (.ldc 102, 2) := by decide +kernel
theorem dX8_init_335 : decode cX8_init 335 = .ok (.aastore, 1) := by decide +kernel
theorem dX8_init_336 : decode cX8_init 336 = .ok (.dup, 1) := by decide +kernel
theorem dX8_init_337 : decode cX8_init 337 = .ok (.iconst 5, 1) := by decide +kernel
theorem dX8_init_338 : decode cX8_init 338 = .ok (.ldc 104, 2) := by decide +kernel
theorem dX8_init_340 : decode cX8_init 340 = .ok (.aastore, 1) := by decide +kernel
theorem dX8_init_341 : decode cX8_init 341 = .ok (.astore_n 1, 1) := by decide +kernel
theorem dX8_init_342 : decode cX8_init 342 = .ok (.iconst 0, 1) := by decide +kernel
theorem dX8_init_343 : decode cX8_init 343 = .ok (.istore_n 2, 1) := by decide +kernel
theorem dX8_init_344 : decode cX8_init 344 = .ok (.iload_n 2, 1) := by decide +kernel
theorem dX8_init_345 : decode cX8_init 345 = .ok (.bipush 6, 2) := by decide +kernel
theorem dX8_init_347 : decode cX8_init 347 = .ok (.if_icmp .ge 68, 3) := by decide +kernel
theorem dX8_init_350 : decode cX8_init 350 = .ok (.aload_n 0, 1) := by decide +kernel
theorem dX8_init_351 : decode cX8_init 351 = .ok (.getfield 9, 3) := by decide +kernel
theorem dX8_init_354 : decode cX8_init 354 = .ok (.bipush 86, 2) := by decide +kernel
theorem dX8_init_356 : decode cX8_init 356 = .ok (.bipush 9, 2) := by decide +kernel
theorem dX8_init_358 : decode cX8_init 358 = .ok (.iload_n 2, 1) := by decide +kernel
theorem dX8_init_359 : decode cX8_init 359 = .ok (.imul, 1) := by decide +kernel
theorem dX8_init_360 : decode cX8_init 360 = .ok (.iadd, 1) := by decide +kernel
theorem dX8_init_361 : decode cX8_init 361 = .ok (.aload_n 1, 1) := by decide +kernel
theorem dX8_init_362 : decode cX8_init 362 = .ok (.iload_n 2, 1) := by decide +kernel
theorem dX8_init_363 : decode cX8_init 363 = .ok (.aaload, 1) := by decide +kernel
theorem dX8_init_364 : decode cX8_init 364 = .ok (.invokevirtual 106, 3) := by decide +kernel
theorem dX8_init_367 : decode cX8_init 367 = .ok (.iastore, 1) := by decide +kernel
theorem dX8_init_368 : decode cX8_init 368 = .ok (.iconst 0, 1) := by decide +kernel
theorem dX8_init_369 : decode cX8_init 369 = .ok (.istore_n 3, 1) := by decide +kernel
theorem dX8_init_370 : decode cX8_init 370 = .ok (.iload_n 3, 1) := by decide +kernel
theorem dX8_init_371 : decode cX8_init 371 = .ok (.aload_n 1, 1) := by decide +kernel
theorem dX8_init_372 : decode cX8_init 372 = .ok (.iload_n 2, 1) := by decide +kernel
theorem dX8_init_373 : decode cX8_init 373 = .ok (.aaload, 1) := by decide +kernel
theorem dX8_init_374 : decode cX8_init 374 = .ok (.invokevirtual 106, 3) := by decide +kernel
theorem dX8_init_377 : decode cX8_init 377 = .ok (.if_icmp .ge 32, 3) := by decide +kernel
theorem dX8_init_380 : decode cX8_init 380 = .ok (.aload_n 0, 1) := by decide +kernel
theorem dX8_init_381 : decode cX8_init 381 = .ok (.getfield 9, 3) := by decide +kernel
theorem dX8_init_384 : decode cX8_init 384 = .ok (.bipush 86, 2) := by decide +kernel
theorem dX8_init_386 : decode cX8_init 386 = .ok (.bipush 9, 2) := by decide +kernel
theorem dX8_init_388 : decode cX8_init 388 = .ok (.iload_n 2, 1) := by decide +kernel
theorem dX8_init_389 : decode cX8_init 389 = .ok (.imul, 1) := by decide +kernel
theorem dX8_init_390 : decode cX8_init 390 = .ok (.iadd, 1) := by decide +kernel
theorem dX8_init_391 : decode cX8_init 391 = .ok (.iconst 1, 1) := by decide +kernel
theorem dX8_init_392 : decode cX8_init 392 = .ok (.iadd, 1) := by decide +kernel
theorem dX8_init_393 : decode cX8_init 393 = .ok (.iload_n 3, 1) := by decide +kernel
theorem dX8_init_394 : decode cX8_init 394 = .ok (.iadd, 1) := by decide +kernel
theorem dX8_init_395 : decode cX8_init 395 = .ok (.aload_n 1, 1) := by decide +kernel
theorem dX8_init_396 : decode cX8_init 396 = .ok (.iload_n 2, 1) := by decide +kernel
theorem dX8_init_397 : decode cX8_init 397 = .ok (.aaload, 1) := by decide +kernel
theorem dX8_init_398 : decode cX8_init 398 = .ok (.iload_n 3, 1) := by decide +kernel
theorem dX8_init_399 : decode cX8_init 399 = .ok (.invokevirtual 110, 3) := by decide +kernel
theorem dX8_init_402 : decode cX8_init 402 = .ok (.iastore, 1) := by decide +kernel
theorem dX8_init_403 : decode cX8_init 403 = .ok (.iinc 3 1, 3) := by decide +kernel
theorem dX8_init_406 : decode cX8_init 406 = .ok (.goto (-36), 3) := by decide +kernel
theorem dX8_init_409 : decode cX8_init 409 = .ok (.iinc 2 1, 3) := by decide +kernel
theorem dX8_init_412 : decode cX8_init 412 = .ok (.goto (-68), 3) := by decide +kernel
theorem dX8_init_415 : decode cX8_init 415 = .ok (.aload_n 0, 1) := by decide +kernel
theorem dX8_init_416 : decode cX8_init 416 = .ok (.invokevirtual 114, 3) := by decide +kernel
theorem dX8_init_419 : decode cX8_init 419 = .ok (.return_, 1) := by decide +kernel
theorem dX8_in_0 : decode cX8_in 0 = .ok (.lload_n 0, 1) := by decide +kernel
theorem dX8_in_1 : decode cX8_in 1 = .ok (.lload_n 2, 1) := by decide +kernel
theorem dX8_in_2 : decode cX8_in 2 = .ok (.lcmp, 1) := by decide +kernel
theorem dX8_in_3 : decode cX8_in 3 = .ok (.ifCond .lt 14, 3) := by decide +kernel
theorem dX8_in_6 : decode cX8_in 6 = .ok (.lload_n 0, 1) := by decide +kernel
theorem dX8_in_7 : decode cX8_in 7 = .ok (.lload 4, 2) := by decide +kernel
theorem dX8_in_9 : decode cX8_in 9 = .ok (.lcmp, 1) := by decide +kernel
theorem dX8_in_10 : decode cX8_in 10 = .ok (.ifCond .gt 7, 3) := by decide +kernel
theorem dX8_in_13 : decode cX8_in 13 = .ok (.iconst 1, 1) := by decide +kernel
theorem dX8_in_14 : decode cX8_in 14 = .ok (.goto 4, 3) := by decide +kernel
theorem dX8_in_17 : decode cX8_in 17 = .ok (.iconst 0, 1) := by decide +kernel
theorem dX8_in_18 : decode cX8_in 18 = .ok (.ireturn, 1) := by decide +kernel
theorem dX8_errs_0 : decode cX8_errs 0 = .ok (.aload_n 0, 1) := by decide +kernel
theorem dX8_errs_1 : decode cX8_errs 1 = .ok (.getfield 19, 3) := by decide +kernel
theorem dX8_errs_4 : decode cX8_errs 4 = .ok (.ldc 117, 2) := by decide +kernel
theorem dX8_errs_6 : decode cX8_errs 6 = .ok (.iload_n 1, 1) := by decide +kernel
theorem dX8_errs_7 : decode cX8_errs 7 = .ok (.isub, 1) := by decide +kernel
theorem dX8_errs_8 : decode cX8_errs 8 = .ok (.dup2, 1) := by decide +kernel
theorem dX8_errs_9 : decode cX8_errs 9 = .ok (.iaload, 1) := by decide +kernel
theorem dX8_errs_10 : decode cX8_errs 10 = .ok (.iconst 1, 1) := by decide +kernel
theorem dX8_errs_11 : decode cX8_errs 11 = .ok (.iadd, 1) := by decide +kernel
theorem dX8_errs_12 : decode cX8_errs 12 = .ok (.iastore, 1) := by decide +kernel
theorem dX8_errs_13 : decode cX8_errs 13 = .ok (.iload_n 1, 1) := by decide +kernel
theorem dX8_errs_14 : decode cX8_errs 14 = .ok (.ireturn, 1) := by decide +kernel
theorem dX8_errsLong_0 : decode cX8_errsLong 0 = .ok (.aload_n 0, 1) := by decide +kernel
theorem dX8_errsLong_1 : decode cX8_errsLong 1 = .ok (.getfield 19, 3) := by decide +kernel
theorem dX8_errsLong_4 : decode cX8_errsLong 4 = .ok (.ldc 117, 2) := by decide +kernel
theorem dX8_errsLong_6 : decode cX8_errsLong 6 = .ok (.iload_n 1, 1) := by decide +kernel
theorem dX8_errsLong_7 : decode cX8_errsLong 7 = .ok (.isub, 1) := by decide +kernel
theorem dX8_errsLong_8 : decode cX8_errsLong 8 = .ok (.dup2, 1) := by decide +kernel
theorem dX8_errsLong_9 : decode cX8_errsLong 9 = .ok (.iaload, 1) := by decide +kernel
theorem dX8_errsLong_10 : decode cX8_errsLong 10 = .ok (.iconst 1, 1) := by decide +kernel
theorem dX8_errsLong_11 : decode cX8_errsLong 11 = .ok (.iadd, 1) := by decide +kernel
theorem dX8_errsLong_12 : decode cX8_errsLong 12 = .ok (.iastore, 1) := by decide +kernel
theorem dX8_errsLong_13 : decode cX8_errsLong 13 = .ok (.ldc2_w 118, 3) := by decide +kernel
theorem dX8_errsLong_16 : decode cX8_errsLong 16 = .ok (.iload_n 1, 1) := by decide +kernel
theorem dX8_errsLong_17 : decode cX8_errsLong 17 = .ok (.ldc 117, 2) := by decide +kernel
theorem dX8_errsLong_19 : decode cX8_errsLong 19 = .ok (.isub, 1) := by decide +kernel
theorem dX8_errsLong_20 : decode cX8_errsLong 20 = .ok (.i2l, 1) := by decide +kernel
theorem dX8_errsLong_21 : decode cX8_errsLong 21 = .ok (.ladd, 1) := by decide +kernel
theorem dX8_errsLong_22 : decode cX8_errsLong 22 = .ok (.lreturn, 1) := by decide +kernel
theorem dX8_copy_0 : decode cX8_copy 0 = .ok (.iconst 0, 1) := by decide +kernel
theorem dX8_copy_1 : decode cX8_copy 1 = .ok (.istore_n 2, 1) := by decide +kernel
theorem dX8_copy_2 : decode cX8_copy 2 = .ok (.iload_n 2, 1) := by decide +kernel
theorem dX8_copy_3 : decode cX8_copy 3 = .ok (.sipush 204, 3) := by decide +kernel
theorem dX8_copy_6 : decode cX8_copy 6 = .ok (.if_icmp .ge 15, 3) := by decide +kernel
theorem dX8_copy_9 : decode cX8_copy 9 = .ok (.aload_n 1, 1) := by decide +kernel
theorem dX8_copy_10 : decode cX8_copy 10 = .ok (.iload_n 2, 1) := by decide +kernel
theorem dX8_copy_11 : decode cX8_copy 11 = .ok (.aload_n 0, 1) := by decide +kernel
theorem dX8_copy_12 : decode cX8_copy 12 = .ok (.iload_n 2, 1) := by decide +kernel
theorem dX8_copy_13 : decode cX8_copy 13 = .ok (.iaload, 1) := by decide +kernel
theorem dX8_copy_14 : decode cX8_copy 14 = .ok (.iastore, 1) := by decide +kernel
theorem dX8_copy_15 : decode cX8_copy 15 = .ok (.iinc 2 1, 3) := by decide +kernel
theorem dX8_copy_18 : decode cX8_copy 18 = .ok (.goto (-16), 3) := by decide +kernel
theorem dX8_copy_21 : decode cX8_copy 21 = .ok (.return_, 1) := by decide +kernel
theorem dX8_bits_0 : decode cX8_bits 0 = .ok (.iconst 0, 1) := by decide +kernel
theorem dX8_bits_1 : decode cX8_bits 1 = .ok (.istore_n 2, 1) := by decide +kernel
theorem dX8_bits_2 : decode cX8_bits 2 = .ok (.lload_n 0, 1) := by decide +kernel
theorem dX8_bits_3 : decode cX8_bits 3 = .ok (.lstore_n 3, 1) := by decide +kernel
theorem dX8_bits_4 : decode cX8_bits 4 = .ok (.lload_n 3, 1) := by decide +kernel
theorem dX8_bits_5 : decode cX8_bits 5 = .ok (.lconst 0, 1) := by decide +kernel
theorem dX8_bits_6 : decode cX8_bits 6 = .ok (.lcmp, 1) := by decide +kernel
theorem dX8_bits_7 : decode cX8_bits 7 = .ok (.ifCond .eq 15, 3) := by decide +kernel
theorem dX8_bits_10 : decode cX8_bits 10 = .ok (.iinc 2 1, 3) := by decide +kernel
theorem dX8_bits_13 : decode cX8_bits 13 = .ok (.lload_n 3, 1) := by decide +kernel
theorem dX8_bits_14 : decode cX8_bits 14 = .ok (.lload_n 3, 1) := by decide +kernel
theorem dX8_bits_15 : decode cX8_bits 15 = .ok (.lconst 1, 1) := by decide +kernel
theorem dX8_bits_16 : decode cX8_bits 16 = .ok (.lsub, 1) := by decide +kernel
theorem dX8_bits_17 : decode cX8_bits 17 = .ok (.land, 1) := by decide +kernel
theorem dX8_bits_18 : decode cX8_bits 18 = .ok (.lstore_n 3, 1) := by decide +kernel
theorem dX8_bits_19 : decode cX8_bits 19 = .ok (.goto (-15), 3) := by decide +kernel
theorem dX8_bits_22 : decode cX8_bits 22 = .ok (.iload_n 2, 1) := by decide +kernel
theorem dX8_bits_23 : decode cX8_bits 23 = .ok (.ireturn, 1) := by decide +kernel
theorem dX8_gaps_0 : decode cX8_gaps 0 = .ok (.aload_n 0, 1) := by decide +kernel
theorem dX8_gaps_1 : decode cX8_gaps 1 = .ok (.getfield 9, 3) := by decide +kernel
theorem dX8_gaps_4 : decode cX8_gaps 4 = .ok (.iconst 0, 1) := by decide +kernel
theorem dX8_gaps_5 : decode cX8_gaps 5 = .ok (.iaload, 1) := by decide +kernel
theorem dX8_gaps_6 : decode cX8_gaps 6 = .ok (.iconst 1, 1) := by decide +kernel
theorem dX8_gaps_7 : decode cX8_gaps 7 = .ok (.isub, 1) := by decide +kernel
theorem dX8_gaps_8 : decode cX8_gaps 8 = .ok (.ireturn, 1) := by decide +kernel
theorem dX8_threads_0 : decode cX8_threads 0 = .ok (.iconst 2, 1) := by decide +kernel
theorem dX8_threads_1 : decode cX8_threads 1 = .ok (.aload_n 0, 1) := by decide +kernel
theorem dX8_threads_2 : decode cX8_threads 2 = .ok (.getfield 9, 3) := by decide +kernel
theorem dX8_threads_5 : decode cX8_threads 5 = .ok (.iconst 0, 1) := by decide +kernel
theorem dX8_threads_6 : decode cX8_threads 6 = .ok (.iaload, 1) := by decide +kernel
theorem dX8_threads_7 : decode cX8_threads 7 = .ok (.imul, 1) := by decide +kernel
theorem dX8_threads_8 : decode cX8_threads 8 = .ok (.ireturn, 1) := by decide +kernel
theorem dX8_held_0 : decode cX8_held 0 = .ok (.aload_n 0, 1) := by decide +kernel
theorem dX8_held_1 : decode cX8_held 1 = .ok (.getfield 9, 3) := by decide +kernel
theorem dX8_held_4 : decode cX8_held 4 = .ok (.iconst 2, 1) := by decide +kernel
theorem dX8_held_5 : decode cX8_held 5 = .ok (.bipush 7, 2) := by decide +kernel
theorem dX8_held_7 : decode cX8_held 7 = .ok (.iload_n 1, 1) := by decide +kernel
theorem dX8_held_8 : decode cX8_held 8 = .ok (.imul, 1) := by decide +kernel
theorem dX8_held_9 : decode cX8_held 9 = .ok (.iadd, 1) := by decide +kernel
theorem dX8_held_10 : decode cX8_held 10 = .ok (.iload_n 2, 1) := by decide +kernel
theorem dX8_held_11 : decode cX8_held 11 = .ok (.iadd, 1) := by decide +kernel
theorem dX8_held_12 : decode cX8_held 12 = .ok (.iaload, 1) := by decide +kernel
theorem dX8_held_13 : decode cX8_held 13 = .ok (.ireturn, 1) := by decide +kernel
set_option maxRecDepth 20000 in
theorem ggX8_lists_X8_gaps : GoodIn wsX8_lists wsX8_gaps := goodIn_r _ [6, 7, 21, 22, 23, 24, 25, 26, 27, 28, 29, 30, 31, 32, 33, 34, 35, 36, 37, 38, 39, 40, 41, 42, 43, 44, 45, 46, 47, 48, 49, 50, 51, 52, 53] (by decide +kernel) (by decide +kernel)
set_option maxRecDepth 20000 in
theorem gX8_lists_X8_gaps : GoodIn wsX8_lists (wsV RX8 124 RX8 yX8_gaps wsX8_gaps) := goodIn_app (goodIn_of _ (by decide +kernel)) ggX8_lists_X8_gaps
set_option maxRecDepth 20000 in
theorem ggX8_lists_X8_held : GoodIn wsX8_lists wsX8_held := goodIn_r _ [11, 7, 21, 22, 23, 24, 25, 26, 27, 28, 29, 30, 31, 32, 33, 34, 35, 36, 37, 38, 39, 40, 41, 42, 43, 44, 45, 46, 47, 48, 49, 50, 51, 52, 53] (by decide +kernel) (by decide +kernel)
set_option maxRecDepth 20000 in
theorem gX8_lists_X8_held : GoodIn wsX8_lists (wsV RX8 127 RX8 yX8_held wsX8_held) := goodIn_app (goodIn_of _ (by decide +kernel)) ggX8_lists_X8_held
set_option maxRecDepth 20000 in
theorem ggX8_lists_X8_add : GoodIn wsX8_lists wsX8_add := goodIn_r _ [15, 16, 1, 17, 18, 19, 20, 8, 9, 10, 5, 11, 7, 21, 22, 23, 24, 25, 26, 27, 28, 29, 30, 31, 32, 33, 34, 35, 36, 37, 38, 39, 40, 41, 42, 43, 44, 45, 46, 47, 48, 49, 50, 51, 52, 53] (by decide +kernel) (by decide +kernel)
set_option maxRecDepth 20000 in
theorem gX8_lists_X8_add : GoodIn wsX8_lists (wsV RX8 131 RX8 yX8_add wsX8_add) := goodIn_app (goodIn_of _ (by decide +kernel)) ggX8_lists_X8_add
theorem dX8_lists_0 : decode cX8_lists 0 = .ok (.aload_n 0, 1) := by decide +kernel
theorem dX8_lists_1 : decode cX8_lists 1 = .ok (.iconst 0, 1) := by decide +kernel
theorem dX8_lists_2 : decode cX8_lists 2 = .ok (.putfield 120, 3) := by decide +kernel
theorem dX8_lists_5 : decode cX8_lists 5 = .ok (.iconst 0, 1) := by decide +kernel
theorem dX8_lists_6 : decode cX8_lists 6 = .ok (.istore_n 1, 1) := by decide +kernel
theorem dX8_lists_7 : decode cX8_lists 7 = .ok (.iload_n 1, 1) := by decide +kernel
theorem dX8_lists_8 : decode cX8_lists 8 = .ok (.bipush 12, 2) := by decide +kernel
theorem dX8_lists_10 : decode cX8_lists 10 = .ok (.if_icmp .ge 40, 3) := by decide +kernel
theorem dX8_lists_13 : decode cX8_lists 13 = .ok (.iconst 0, 1) := by decide +kernel
theorem dX8_lists_14 : decode cX8_lists 14 = .ok (.istore_n 2, 1) := by decide +kernel
theorem dX8_lists_15 : decode cX8_lists 15 = .ok (.iload_n 2, 1) := by decide +kernel
theorem dX8_lists_16 : decode cX8_lists 16 = .ok (.aload_n 0, 1) := by decide +kernel
theorem dX8_lists_17 : decode cX8_lists 17 = .ok (.invokevirtual 124, 3) := by decide +kernel
theorem dX8_lists_20 : decode cX8_lists 20 = .ok (.if_icmp .ge 24, 3) := by decide +kernel
theorem dX8_lists_23 : decode cX8_lists 23 = .ok (.aload_n 0, 1) := by decide +kernel
theorem dX8_lists_24 : decode cX8_lists 24 = .ok (.iload_n 1, 1) := by decide +kernel
theorem dX8_lists_25 : decode cX8_lists 25 = .ok (.iload_n 2, 1) := by decide +kernel
theorem dX8_lists_26 : decode cX8_lists 26 = .ok (.invokevirtual 127, 3) := by decide +kernel
theorem dX8_lists_29 : decode cX8_lists 29 = .ok (.ifCond .lt 9, 3) := by decide +kernel
theorem dX8_lists_32 : decode cX8_lists 32 = .ok (.aload_n 0, 1) := by decide +kernel
theorem dX8_lists_33 : decode cX8_lists 33 = .ok (.iload_n 1, 1) := by decide +kernel
theorem dX8_lists_34 : decode cX8_lists 34 = .ok (.iload_n 2, 1) := by decide +kernel
theorem dX8_lists_35 : decode cX8_lists 35 = .ok (.invokevirtual 131, 3) := by decide +kernel
theorem dX8_lists_38 : decode cX8_lists 38 = .ok (.iinc 2 1, 3) := by decide +kernel
theorem dX8_lists_41 : decode cX8_lists 41 = .ok (.goto (-26), 3) := by decide +kernel
theorem dX8_lists_44 : decode cX8_lists 44 = .ok (.iinc 1 1, 3) := by decide +kernel
theorem dX8_lists_47 : decode cX8_lists 47 = .ok (.goto (-40), 3) := by decide +kernel
theorem dX8_lists_50 : decode cX8_lists 50 = .ok (.return_, 1) := by decide +kernel
set_option maxRecDepth 20000 in
theorem ggX8_add_X8_held : GoodIn wsX8_add wsX8_held := goodIn_r _ [11, 12, 13, 14, 15, 16, 17, 18, 19, 20, 21, 22, 23, 24, 25, 26, 27, 28, 29, 30, 31, 32, 33, 34, 35, 36, 37, 38, 39, 40, 41, 42, 43, 44, 45] (by decide +kernel) (by decide +kernel)
set_option maxRecDepth 20000 in
theorem gX8_add_X8_held : GoodIn wsX8_add (wsV RX8 127 RX8 yX8_held wsX8_held) := goodIn_app (goodIn_of _ (by decide +kernel)) ggX8_add_X8_held
theorem dX8_add_0 : decode cX8_add 0 = .ok (.aload_n 0, 1) := by decide +kernel
theorem dX8_add_1 : decode cX8_add 1 = .ok (.getfield 22, 3) := by decide +kernel
theorem dX8_add_4 : decode cX8_add 4 = .ok (.aload_n 0, 1) := by decide +kernel
theorem dX8_add_5 : decode cX8_add 5 = .ok (.getfield 120, 3) := by decide +kernel
theorem dX8_add_8 : decode cX8_add 8 = .ok (.iload_n 1, 1) := by decide +kernel
theorem dX8_add_9 : decode cX8_add 9 = .ok (.iastore, 1) := by decide +kernel
theorem dX8_add_10 : decode cX8_add 10 = .ok (.aload_n 0, 1) := by decide +kernel
theorem dX8_add_11 : decode cX8_add 11 = .ok (.getfield 25, 3) := by decide +kernel
theorem dX8_add_14 : decode cX8_add 14 = .ok (.aload_n 0, 1) := by decide +kernel
theorem dX8_add_15 : decode cX8_add 15 = .ok (.getfield 120, 3) := by decide +kernel
theorem dX8_add_18 : decode cX8_add 18 = .ok (.iload_n 2, 1) := by decide +kernel
theorem dX8_add_19 : decode cX8_add 19 = .ok (.iastore, 1) := by decide +kernel
theorem dX8_add_20 : decode cX8_add 20 = .ok (.aload_n 0, 1) := by decide +kernel
theorem dX8_add_21 : decode cX8_add 21 = .ok (.getfield 28, 3) := by decide +kernel
theorem dX8_add_24 : decode cX8_add 24 = .ok (.aload_n 0, 1) := by decide +kernel
theorem dX8_add_25 : decode cX8_add 25 = .ok (.getfield 120, 3) := by decide +kernel
theorem dX8_add_28 : decode cX8_add 28 = .ok (.aload_n 0, 1) := by decide +kernel
theorem dX8_add_29 : decode cX8_add 29 = .ok (.iload_n 1, 1) := by decide +kernel
theorem dX8_add_30 : decode cX8_add 30 = .ok (.iload_n 2, 1) := by decide +kernel
theorem dX8_add_31 : decode cX8_add 31 = .ok (.invokevirtual 127, 3) := by decide +kernel
theorem dX8_add_34 : decode cX8_add 34 = .ok (.iastore, 1) := by decide +kernel
theorem dX8_add_35 : decode cX8_add 35 = .ok (.aload_n 0, 1) := by decide +kernel
theorem dX8_add_36 : decode cX8_add 36 = .ok (.getfield 34, 3) := by decide +kernel
theorem dX8_add_39 : decode cX8_add 39 = .ok (.aload_n 0, 1) := by decide +kernel
theorem dX8_add_40 : decode cX8_add 40 = .ok (.getfield 120, 3) := by decide +kernel
theorem dX8_add_43 : decode cX8_add 43 = .ok (.lconst 0, 1) := by decide +kernel
theorem dX8_add_44 : decode cX8_add 44 = .ok (.lastore, 1) := by decide +kernel
theorem dX8_add_45 : decode cX8_add 45 = .ok (.aload_n 0, 1) := by decide +kernel
theorem dX8_add_46 : decode cX8_add 46 = .ok (.getfield 31, 3) := by decide +kernel
theorem dX8_add_49 : decode cX8_add 49 = .ok (.aload_n 0, 1) := by decide +kernel
theorem dX8_add_50 : decode cX8_add 50 = .ok (.getfield 120, 3) := by decide +kernel
theorem dX8_add_53 : decode cX8_add 53 = .ok (.iconst 0, 1) := by decide +kernel
theorem dX8_add_54 : decode cX8_add 54 = .ok (.iastore, 1) := by decide +kernel
theorem dX8_add_55 : decode cX8_add 55 = .ok (.iconst 0, 1) := by decide +kernel
theorem dX8_add_56 : decode cX8_add 56 = .ok (.istore_n 3, 1) := by decide +kernel
theorem dX8_add_57 : decode cX8_add 57 = .ok (.iload_n 3, 1) := by decide +kernel
theorem dX8_add_58 : decode cX8_add 58 = .ok (.aload_n 0, 1) := by decide +kernel
theorem dX8_add_59 : decode cX8_add 59 = .ok (.getfield 120, 3) := by decide +kernel
theorem dX8_add_62 : decode cX8_add 62 = .ok (.if_icmp .ge 111, 3) := by decide +kernel
theorem dX8_add_65 : decode cX8_add 65 = .ok (.aload_n 0, 1) := by decide +kernel
theorem dX8_add_66 : decode cX8_add 66 = .ok (.getfield 25, 3) := by decide +kernel
theorem dX8_add_69 : decode cX8_add 69 = .ok (.iload_n 3, 1) := by decide +kernel
theorem dX8_add_70 : decode cX8_add 70 = .ok (.iaload, 1) := by decide +kernel
theorem dX8_add_71 : decode cX8_add 71 = .ok (.iload_n 2, 1) := by decide +kernel
theorem dX8_add_72 : decode cX8_add 72 = .ok (.isub, 1) := by decide +kernel
theorem dX8_add_73 : decode cX8_add 73 = .ok (.istore 4, 2) := by decide +kernel
theorem dX8_add_75 : decode cX8_add 75 = .ok (.aload_n 0, 1) := by decide +kernel
theorem dX8_add_76 : decode cX8_add 76 = .ok (.getfield 22, 3) := by decide +kernel
theorem dX8_add_79 : decode cX8_add 79 = .ok (.iload_n 3, 1) := by decide +kernel
theorem dX8_add_80 : decode cX8_add 80 = .ok (.iaload, 1) := by decide +kernel
theorem dX8_add_81 : decode cX8_add 81 = .ok (.iload_n 1, 1) := by decide +kernel
theorem dX8_add_82 : decode cX8_add 82 = .ok (.if_icmp .ge 85, 3) := by decide +kernel
theorem dX8_add_85 : decode cX8_add 85 = .ok (.iload 4, 2) := by decide +kernel
theorem dX8_add_87 : decode cX8_add 87 = .ok (.bipush (-2), 2) := by decide +kernel
theorem dX8_add_89 : decode cX8_add 89 = .ok (.if_icmp .le 78, 3) := by decide +kernel
theorem dX8_add_92 : decode cX8_add 92 = .ok (.iload 4, 2) := by decide +kernel
theorem dX8_add_94 : decode cX8_add 94 = .ok (.iconst 2, 1) := by decide +kernel
theorem dX8_add_95 : decode cX8_add 95 = .ok (.if_icmp .ge 72, 3) := by decide +kernel
theorem dX8_add_98 : decode cX8_add 98 = .ok (.aload_n 0, 1) := by decide +kernel
theorem dX8_add_99 : decode cX8_add 99 = .ok (.getfield 34, 3) := by decide +kernel
theorem dX8_add_102 : decode cX8_add 102 = .ok (.aload_n 0, 1) := by decide +kernel
theorem dX8_add_103 : decode cX8_add 103 = .ok (.getfield 120, 3) := by decide +kernel
theorem dX8_add_106 : decode cX8_add 106 = .ok (.dup2, 1) := by decide +kernel
theorem dX8_add_107 : decode cX8_add 107 = .ok (.laload, 1) := by decide +kernel
theorem dX8_add_108 : decode cX8_add 108 = .ok (.aload_n 0, 1) := by decide +kernel
theorem dX8_add_109 : decode cX8_add 109 = .ok (.getfield 34, 3) := by decide +kernel
theorem dX8_add_112 : decode cX8_add 112 = .ok (.iload_n 3, 1) := by decide +kernel
theorem dX8_add_113 : decode cX8_add 113 = .ok (.laload, 1) := by decide +kernel
theorem dX8_add_114 : decode cX8_add 114 = .ok (.lconst 1, 1) := by decide +kernel
theorem dX8_add_115 : decode cX8_add 115 = .ok (.iload_n 3, 1) := by decide +kernel
theorem dX8_add_116 : decode cX8_add 116 = .ok (.lshl, 1) := by decide +kernel
theorem dX8_add_117 : decode cX8_add 117 = .ok (.lor, 1) := by decide +kernel
theorem dX8_add_118 : decode cX8_add 118 = .ok (.lor, 1) := by decide +kernel
theorem dX8_add_119 : decode cX8_add 119 = .ok (.lastore, 1) := by decide +kernel
theorem dX8_add_120 : decode cX8_add 120 = .ok (.aload_n 0, 1) := by decide +kernel
theorem dX8_add_121 : decode cX8_add 121 = .ok (.getfield 31, 3) := by decide +kernel
theorem dX8_add_124 : decode cX8_add 124 = .ok (.aload_n 0, 1) := by decide +kernel
theorem dX8_add_125 : decode cX8_add 125 = .ok (.getfield 120, 3) := by decide +kernel
theorem dX8_add_128 : decode cX8_add 128 = .ok (.aload_n 0, 1) := by decide +kernel
theorem dX8_add_129 : decode cX8_add 129 = .ok (.getfield 31, 3) := by decide +kernel
theorem dX8_add_132 : decode cX8_add 132 = .ok (.iload_n 3, 1) := by decide +kernel
theorem dX8_add_133 : decode cX8_add 133 = .ok (.iaload, 1) := by decide +kernel
theorem dX8_add_134 : decode cX8_add 134 = .ok (.aload_n 0, 1) := by decide +kernel
theorem dX8_add_135 : decode cX8_add 135 = .ok (.getfield 31, 3) := by decide +kernel
theorem dX8_add_138 : decode cX8_add 138 = .ok (.aload_n 0, 1) := by decide +kernel
theorem dX8_add_139 : decode cX8_add 139 = .ok (.getfield 120, 3) := by decide +kernel
theorem dX8_add_142 : decode cX8_add 142 = .ok (.iaload, 1) := by decide +kernel
theorem dX8_add_143 : decode cX8_add 143 = .ok (.if_icmp .lt 14, 3) := by decide +kernel
theorem dX8_add_146 : decode cX8_add 146 = .ok (.aload_n 0, 1) := by decide +kernel
theorem dX8_add_147 : decode cX8_add 147 = .ok (.getfield 31, 3) := by decide +kernel
theorem dX8_add_150 : decode cX8_add 150 = .ok (.iload_n 3, 1) := by decide +kernel
theorem dX8_add_151 : decode cX8_add 151 = .ok (.iaload, 1) := by decide +kernel
theorem dX8_add_152 : decode cX8_add 152 = .ok (.iconst 1, 1) := by decide +kernel
theorem dX8_add_153 : decode cX8_add 153 = .ok (.iadd, 1) := by decide +kernel
theorem dX8_add_154 : decode cX8_add 154 = .ok (.goto 12, 3) := by decide +kernel
theorem dX8_add_157 : decode cX8_add 157 = .ok (.aload_n 0, 1) := by decide +kernel
theorem dX8_add_158 : decode cX8_add 158 = .ok (.getfield 31, 3) := by decide +kernel
theorem dX8_add_161 : decode cX8_add 161 = .ok (.aload_n 0, 1) := by decide +kernel
theorem dX8_add_162 : decode cX8_add 162 = .ok (.getfield 120, 3) := by decide +kernel
theorem dX8_add_165 : decode cX8_add 165 = .ok (.iaload, 1) := by decide +kernel
theorem dX8_add_166 : decode cX8_add 166 = .ok (.iastore, 1) := by decide +kernel
theorem dX8_add_167 : decode cX8_add 167 = .ok (.iinc 3 1, 3) := by decide +kernel
theorem dX8_add_170 : decode cX8_add 170 = .ok (.goto (-113), 3) := by decide +kernel
theorem dX8_add_173 : decode cX8_add 173 = .ok (.aload_n 0, 1) := by decide +kernel
theorem dX8_add_174 : decode cX8_add 174 = .ok (.dup, 1) := by decide +kernel
theorem dX8_add_175 : decode cX8_add 175 = .ok (.getfield 120, 3) := by decide +kernel
theorem dX8_add_178 : decode cX8_add 178 = .ok (.iconst 1, 1) := by decide +kernel
theorem dX8_add_179 : decode cX8_add 179 = .ok (.iadd, 1) := by decide +kernel
theorem dX8_add_180 : decode cX8_add 180 = .ok (.putfield 120, 3) := by decide +kernel
theorem dX8_add_183 : decode cX8_add 183 = .ok (.return_, 1) := by decide +kernel
set_option maxRecDepth 20000 in
theorem ggX8_anew_X8_lists : GoodIn wsX8_anew wsX8_lists := goodIn_r _ [6, 7, 8, 9, 10, 5, 11, 1, 12, 13, 14, 15, 16, 17, 18, 19, 20, 21, 22, 23, 24, 25, 26, 27, 28, 29, 30, 31, 32, 33, 34, 35, 36, 37, 38, 39, 40, 41, 42, 43, 44, 45, 46, 47, 48, 49, 50, 51, 52, 53, 54, 55, 56, 57] (by decide +kernel) (by decide +kernel)
set_option maxRecDepth 20000 in
theorem gX8_anew_X8_lists : GoodIn wsX8_anew (wsV RX8 114 RX8 yX8_lists wsX8_lists) := goodIn_app (goodIn_of _ (by decide +kernel)) ggX8_anew_X8_lists
theorem dX8_anew_0 : decode cX8_anew 0 = .ok (.aload_n 0, 1) := by decide +kernel
theorem dX8_anew_1 : decode cX8_anew 1 = .ok (.getfield 9, 3) := by decide +kernel
theorem dX8_anew_4 : decode cX8_anew 4 = .ok (.iconst 1, 1) := by decide +kernel
theorem dX8_anew_5 : decode cX8_anew 5 = .ok (.iconst 0, 1) := by decide +kernel
theorem dX8_anew_6 : decode cX8_anew 6 = .ok (.iastore, 1) := by decide +kernel
theorem dX8_anew_7 : decode cX8_anew 7 = .ok (.aload_n 0, 1) := by decide +kernel
theorem dX8_anew_8 : decode cX8_anew 8 = .ok (.invokevirtual 114, 3) := by decide +kernel
theorem dX8_anew_11 : decode cX8_anew 11 = .ok (.return_, 1) := by decide +kernel
theorem dX8_workedSet_0 : decode cX8_workedSet 0 = .ok (.lconst 0, 1) := by decide +kernel
theorem dX8_workedSet_1 : decode cX8_workedSet 1 = .ok (.lstore_n 1, 1) := by decide +kernel
theorem dX8_workedSet_2 : decode cX8_workedSet 2 = .ok (.iconst 0, 1) := by decide +kernel
theorem dX8_workedSet_3 : decode cX8_workedSet 3 = .ok (.istore_n 3, 1) := by decide +kernel
theorem dX8_workedSet_4 : decode cX8_workedSet 4 = .ok (.iload_n 3, 1) := by decide +kernel
theorem dX8_workedSet_5 : decode cX8_workedSet 5 = .ok (.aload_n 0, 1) := by decide +kernel
theorem dX8_workedSet_6 : decode cX8_workedSet 6 = .ok (.getfield 9, 3) := by decide +kernel
theorem dX8_workedSet_9 : decode cX8_workedSet 9 = .ok (.iconst 1, 1) := by decide +kernel
theorem dX8_workedSet_10 : decode cX8_workedSet 10 = .ok (.iaload, 1) := by decide +kernel
theorem dX8_workedSet_11 : decode cX8_workedSet 11 = .ok (.if_icmp .ge 24, 3) := by decide +kernel
theorem dX8_workedSet_14 : decode cX8_workedSet 14 = .ok (.lload_n 1, 1) := by decide +kernel
theorem dX8_workedSet_15 : decode cX8_workedSet 15 = .ok (.lconst 1, 1) := by decide +kernel
theorem dX8_workedSet_16 : decode cX8_workedSet 16 = .ok (.aload_n 0, 1) := by decide +kernel
theorem dX8_workedSet_17 : decode cX8_workedSet 17 = .ok (.getfield 9, 3) := by decide +kernel
theorem dX8_workedSet_20 : decode cX8_workedSet 20 = .ok (.sipush 156, 3) := by decide +kernel
theorem dX8_workedSet_23 : decode cX8_workedSet 23 = .ok (.iload_n 3, 1) := by decide +kernel
theorem dX8_workedSet_24 : decode cX8_workedSet 24 = .ok (.iadd, 1) := by decide +kernel
theorem dX8_workedSet_25 : decode cX8_workedSet 25 = .ok (.iaload, 1) := by decide +kernel
theorem dX8_workedSet_26 : decode cX8_workedSet 26 = .ok (.lshl, 1) := by decide +kernel
theorem dX8_workedSet_27 : decode cX8_workedSet 27 = .ok (.lor, 1) := by decide +kernel
theorem dX8_workedSet_28 : decode cX8_workedSet 28 = .ok (.lstore_n 1, 1) := by decide +kernel
theorem dX8_workedSet_29 : decode cX8_workedSet 29 = .ok (.iinc 3 1, 3) := by decide +kernel
theorem dX8_workedSet_32 : decode cX8_workedSet 32 = .ok (.goto (-28), 3) := by decide +kernel
theorem dX8_workedSet_35 : decode cX8_workedSet 35 = .ok (.lload_n 1, 1) := by decide +kernel
theorem dX8_workedSet_36 : decode cX8_workedSet 36 = .ok (.lreturn, 1) := by decide +kernel
set_option maxRecDepth 20000 in
theorem ggX8_isFree_X8_workedSet : GoodIn wsX8_isFree wsX8_workedSet := goodIn_r _ [7, 8, 9, 10, 11, 12, 13, 14, 15, 16, 17, 18, 19, 20, 21, 22, 23, 24, 25, 26, 27, 28, 29, 30, 31, 32, 33, 34, 35, 36, 37, 38, 39, 40, 41] (by decide +kernel) (by decide +kernel)
set_option maxRecDepth 20000 in
theorem gX8_isFree_X8_workedSet : GoodIn wsX8_isFree (wsV RX8 135 RX8 yX8_workedSet wsX8_workedSet) := goodIn_app (goodIn_of _ (by decide +kernel)) ggX8_isFree_X8_workedSet
theorem dX8_isFree_0 : decode cX8_isFree 0 = .ok (.aload_n 0, 1) := by decide +kernel
theorem dX8_isFree_1 : decode cX8_isFree 1 = .ok (.invokevirtual 135, 3) := by decide +kernel
theorem dX8_isFree_4 : decode cX8_isFree 4 = .ok (.lstore_n 2, 1) := by decide +kernel
theorem dX8_isFree_5 : decode cX8_isFree 5 = .ok (.lload_n 2, 1) := by decide +kernel
theorem dX8_isFree_6 : decode cX8_isFree 6 = .ok (.iload_n 1, 1) := by decide +kernel
theorem dX8_isFree_7 : decode cX8_isFree 7 = .ok (.lshr, 1) := by decide +kernel
theorem dX8_isFree_8 : decode cX8_isFree 8 = .ok (.lconst 1, 1) := by decide +kernel
theorem dX8_isFree_9 : decode cX8_isFree 9 = .ok (.land, 1) := by decide +kernel
theorem dX8_isFree_10 : decode cX8_isFree 10 = .ok (.lconst 0, 1) := by decide +kernel
theorem dX8_isFree_11 : decode cX8_isFree 11 = .ok (.lcmp, 1) := by decide +kernel
theorem dX8_isFree_12 : decode cX8_isFree 12 = .ok (.ifCond .ne 24, 3) := by decide +kernel
theorem dX8_isFree_15 : decode cX8_isFree 15 = .ok (.aload_n 0, 1) := by decide +kernel
theorem dX8_isFree_16 : decode cX8_isFree 16 = .ok (.getfield 34, 3) := by decide +kernel
theorem dX8_isFree_19 : decode cX8_isFree 19 = .ok (.iload_n 1, 1) := by decide +kernel
theorem dX8_isFree_20 : decode cX8_isFree 20 = .ok (.laload, 1) := by decide +kernel
theorem dX8_isFree_21 : decode cX8_isFree 21 = .ok (.lload_n 2, 1) := by decide +kernel
theorem dX8_isFree_22 : decode cX8_isFree 22 = .ok (.ldc2_w 139, 3) := by decide +kernel
theorem dX8_isFree_25 : decode cX8_isFree 25 = .ok (.lxor, 1) := by decide +kernel
theorem dX8_isFree_26 : decode cX8_isFree 26 = .ok (.land, 1) := by decide +kernel
theorem dX8_isFree_27 : decode cX8_isFree 27 = .ok (.lconst 0, 1) := by decide +kernel
theorem dX8_isFree_28 : decode cX8_isFree 28 = .ok (.lcmp, 1) := by decide +kernel
theorem dX8_isFree_29 : decode cX8_isFree 29 = .ok (.ifCond .ne 7, 3) := by decide +kernel
theorem dX8_isFree_32 : decode cX8_isFree 32 = .ok (.iconst 1, 1) := by decide +kernel
theorem dX8_isFree_33 : decode cX8_isFree 33 = .ok (.goto 4, 3) := by decide +kernel
theorem dX8_isFree_36 : decode cX8_isFree 36 = .ok (.iconst 0, 1) := by decide +kernel
theorem dX8_isFree_37 : decode cX8_isFree 37 = .ok (.ireturn, 1) := by decide +kernel
set_option maxRecDepth 20000 in
theorem ggX8_pairs_X8_in : GoodIn wsX8_pairs wsX8_in := goodIn_r _ [8] (by decide +kernel) (by decide +kernel)
set_option maxRecDepth 20000 in
theorem gX8_pairs_X8_in : GoodIn wsX8_pairs (va_wsS RX8 145 yX8_in wsX8_in) := goodIn_app (goodIn_of _ (by decide +kernel)) ggX8_pairs_X8_in
set_option maxRecDepth 20000 in
theorem ggX8_pairs_X8_errs : GoodIn wsX8_pairs wsX8_errs := goodIn_r _ [12, 13, 14, 41, 42, 43, 44, 45, 46, 47, 48, 49, 50, 51, 52, 53, 54, 55, 56, 57, 58, 59, 60, 61, 62, 63, 64, 65, 66, 67, 68, 69, 70, 71, 72, 73] (by decide +kernel) (by decide +kernel)
set_option maxRecDepth 20000 in
theorem gX8_pairs_X8_errs : GoodIn wsX8_pairs (wsV RX8 150 RX8 yX8_errs wsX8_errs) := goodIn_app (goodIn_of _ (by decide +kernel)) ggX8_pairs_X8_errs
set_option maxRecDepth 20000 in
theorem ggX8_pairs_X8_anew : GoodIn wsX8_pairs wsX8_anew := goodIn_r _ [18, 4, 19, 20, 21, 7, 22, 23, 24, 25, 26, 27, 28, 29, 30, 31, 32, 33, 34, 35, 36, 37, 38, 39, 40, 41, 42, 43, 44, 45, 46, 47, 48, 49, 50, 51, 52, 53, 54, 55, 56, 57, 58, 59, 60, 61, 62, 63, 64, 65, 66, 67, 68, 69, 70, 71, 72, 73] (by decide +kernel) (by decide +kernel)
set_option maxRecDepth 20000 in
theorem gX8_pairs_X8_anew : GoodIn wsX8_pairs (wsV RX8 154 RX8 yX8_anew wsX8_anew) := goodIn_app (goodIn_of _ (by decide +kernel)) ggX8_pairs_X8_anew
theorem dX8_pairs_0 : decode cX8_pairs 0 = .ok (.iload_n 1, 1) := by decide +kernel
theorem dX8_pairs_1 : decode cX8_pairs 1 = .ok (.i2l, 1) := by decide +kernel
theorem dX8_pairs_2 : decode cX8_pairs 2 = .ok (.ldc2_w 141, 3) := by decide +kernel
theorem dX8_pairs_5 : decode cX8_pairs 5 = .ok (.ldc2_w 143, 3) := by decide +kernel
theorem dX8_pairs_8 : decode cX8_pairs 8 = .ok (.invokestatic 145, 3) := by decide +kernel
theorem dX8_pairs_11 : decode cX8_pairs 11 = .ok (.ifCond .ne 10, 3) := by decide +kernel
theorem dX8_pairs_14 : decode cX8_pairs 14 = .ok (.aload_n 0, 1) := by decide +kernel
theorem dX8_pairs_15 : decode cX8_pairs 15 = .ok (.ldc 149, 2) := by decide +kernel
theorem dX8_pairs_17 : decode cX8_pairs 17 = .ok (.invokevirtual 150, 3) := by decide +kernel
theorem dX8_pairs_20 : decode cX8_pairs 20 = .ok (.ireturn, 1) := by decide +kernel
theorem dX8_pairs_21 : decode cX8_pairs 21 = .ok (.aload_n 0, 1) := by decide +kernel
theorem dX8_pairs_22 : decode cX8_pairs 22 = .ok (.getfield 9, 3) := by decide +kernel
theorem dX8_pairs_25 : decode cX8_pairs 25 = .ok (.iconst 0, 1) := by decide +kernel
theorem dX8_pairs_26 : decode cX8_pairs 26 = .ok (.iaload, 1) := by decide +kernel
theorem dX8_pairs_27 : decode cX8_pairs 27 = .ok (.istore_n 2, 1) := by decide +kernel
theorem dX8_pairs_28 : decode cX8_pairs 28 = .ok (.aload_n 0, 1) := by decide +kernel
theorem dX8_pairs_29 : decode cX8_pairs 29 = .ok (.getfield 9, 3) := by decide +kernel
theorem dX8_pairs_32 : decode cX8_pairs 32 = .ok (.iconst 0, 1) := by decide +kernel
theorem dX8_pairs_33 : decode cX8_pairs 33 = .ok (.iload_n 1, 1) := by decide +kernel
theorem dX8_pairs_34 : decode cX8_pairs 34 = .ok (.iastore, 1) := by decide +kernel
theorem dX8_pairs_35 : decode cX8_pairs 35 = .ok (.iconst 0, 1) := by decide +kernel
theorem dX8_pairs_36 : decode cX8_pairs 36 = .ok (.istore_n 3, 1) := by decide +kernel
theorem dX8_pairs_37 : decode cX8_pairs 37 = .ok (.iload_n 3, 1) := by decide +kernel
theorem dX8_pairs_38 : decode cX8_pairs 38 = .ok (.bipush 84, 2) := by decide +kernel
theorem dX8_pairs_40 : decode cX8_pairs 40 = .ok (.if_icmp .ge 18, 3) := by decide +kernel
theorem dX8_pairs_43 : decode cX8_pairs 43 = .ok (.aload_n 0, 1) := by decide +kernel
theorem dX8_pairs_44 : decode cX8_pairs 44 = .ok (.getfield 9, 3) := by decide +kernel
theorem dX8_pairs_47 : decode cX8_pairs 47 = .ok (.iconst 2, 1) := by decide +kernel
theorem dX8_pairs_48 : decode cX8_pairs 48 = .ok (.iload_n 3, 1) := by decide +kernel
theorem dX8_pairs_49 : decode cX8_pairs 49 = .ok (.iadd, 1) := by decide +kernel
theorem dX8_pairs_50 : decode cX8_pairs 50 = .ok (.iconst (-1), 1) := by decide +kernel
theorem dX8_pairs_51 : decode cX8_pairs 51 = .ok (.iastore, 1) := by decide +kernel
theorem dX8_pairs_52 : decode cX8_pairs 52 = .ok (.iinc 3 1, 3) := by decide +kernel
theorem dX8_pairs_55 : decode cX8_pairs 55 = .ok (.goto (-18), 3) := by decide +kernel
theorem dX8_pairs_58 : decode cX8_pairs 58 = .ok (.aload_n 0, 1) := by decide +kernel
theorem dX8_pairs_59 : decode cX8_pairs 59 = .ok (.invokevirtual 154, 3) := by decide +kernel
theorem dX8_pairs_62 : decode cX8_pairs 62 = .ok (.iload_n 2, 1) := by decide +kernel
theorem dX8_pairs_63 : decode cX8_pairs 63 = .ok (.ireturn, 1) := by decide +kernel
set_option maxRecDepth 20000 in
theorem ggX8_isPlaceOf_X8_in : GoodIn wsX8_isPlaceOf wsX8_in := goodIn_r _ [5] (by decide +kernel) (by decide +kernel)
set_option maxRecDepth 20000 in
theorem gX8_isPlaceOf_X8_in : GoodIn wsX8_isPlaceOf (va_wsS RX8 145 yX8_in wsX8_in) := goodIn_app (goodIn_of _ (by decide +kernel)) ggX8_isPlaceOf_X8_in
set_option maxRecDepth 20000 in
theorem ggX8_isPlaceOf_X8_gaps : GoodIn wsX8_isPlaceOf wsX8_gaps := goodIn_r _ [9, 10, 11, 12, 13, 14, 15, 16, 17, 18, 19, 20, 21, 22, 23, 24, 25, 26, 27, 28, 29, 30, 31, 32, 33, 34, 35, 36, 37, 38, 39, 40, 41, 42, 43] (by decide +kernel) (by decide +kernel)
set_option maxRecDepth 20000 in
theorem gX8_isPlaceOf_X8_gaps : GoodIn wsX8_isPlaceOf (wsV RX8 124 RX8 yX8_gaps wsX8_gaps) := goodIn_app (goodIn_of _ (by decide +kernel)) ggX8_isPlaceOf_X8_gaps
theorem dX8_isPlaceOf_0 : decode cX8_isPlaceOf 0 = .ok (.iload_n 1, 1) := by decide +kernel
theorem dX8_isPlaceOf_1 : decode cX8_isPlaceOf 1 = .ok (.i2l, 1) := by decide +kernel
theorem dX8_isPlaceOf_2 : decode cX8_isPlaceOf 2 = .ok (.lconst 0, 1) := by decide +kernel
theorem dX8_isPlaceOf_3 : decode cX8_isPlaceOf 3 = .ok (.ldc2_w 157, 3) := by decide +kernel
theorem dX8_isPlaceOf_6 : decode cX8_isPlaceOf 6 = .ok (.invokestatic 145, 3) := by decide +kernel
theorem dX8_isPlaceOf_9 : decode cX8_isPlaceOf 9 = .ok (.ifCond .eq 23, 3) := by decide +kernel
theorem dX8_isPlaceOf_12 : decode cX8_isPlaceOf 12 = .ok (.iload_n 2, 1) := by decide +kernel
theorem dX8_isPlaceOf_13 : decode cX8_isPlaceOf 13 = .ok (.i2l, 1) := by decide +kernel
theorem dX8_isPlaceOf_14 : decode cX8_isPlaceOf 14 = .ok (.lconst 0, 1) := by decide +kernel
theorem dX8_isPlaceOf_15 : decode cX8_isPlaceOf 15 = .ok (.aload_n 0, 1) := by decide +kernel
theorem dX8_isPlaceOf_16 : decode cX8_isPlaceOf 16 = .ok (.invokevirtual 124, 3) := by decide +kernel
theorem dX8_isPlaceOf_19 : decode cX8_isPlaceOf 19 = .ok (.iconst 1, 1) := by decide +kernel
theorem dX8_isPlaceOf_20 : decode cX8_isPlaceOf 20 = .ok (.isub, 1) := by decide +kernel
theorem dX8_isPlaceOf_21 : decode cX8_isPlaceOf 21 = .ok (.i2l, 1) := by decide +kernel
theorem dX8_isPlaceOf_22 : decode cX8_isPlaceOf 22 = .ok (.invokestatic 145, 3) := by decide +kernel
theorem dX8_isPlaceOf_25 : decode cX8_isPlaceOf 25 = .ok (.ifCond .eq 7, 3) := by decide +kernel
theorem dX8_isPlaceOf_28 : decode cX8_isPlaceOf 28 = .ok (.iconst 1, 1) := by decide +kernel
theorem dX8_isPlaceOf_29 : decode cX8_isPlaceOf 29 = .ok (.goto 4, 3) := by decide +kernel
theorem dX8_isPlaceOf_32 : decode cX8_isPlaceOf 32 = .ok (.iconst 0, 1) := by decide +kernel
theorem dX8_isPlaceOf_33 : decode cX8_isPlaceOf 33 = .ok (.ireturn, 1) := by decide +kernel
set_option maxRecDepth 20000 in
theorem ggX8_lay_X8_isPlaceOf : GoodIn wsX8_lay wsX8_isPlaceOf := goodIn_r _ [10, 11, 12, 13, 9, 14, 15, 16, 17, 18, 5, 47, 48, 49, 50, 51, 52, 53, 54, 55, 56, 57, 58, 59, 60, 61, 62, 63, 64, 65, 66, 67, 68, 69, 70, 71, 72, 73, 74, 75, 76, 77, 78, 79] (by decide +kernel) (by decide +kernel)
set_option maxRecDepth 20000 in
theorem gX8_lay_X8_isPlaceOf : GoodIn wsX8_lay (wsV RX8 159 RX8 yX8_isPlaceOf wsX8_isPlaceOf) := goodIn_app (goodIn_of _ (by decide +kernel)) ggX8_lay_X8_isPlaceOf
set_option maxRecDepth 20000 in
theorem ggX8_lay_X8_in : GoodIn wsX8_lay wsX8_in := goodIn_r _ [14] (by decide +kernel) (by decide +kernel)
set_option maxRecDepth 20000 in
theorem gX8_lay_X8_in : GoodIn wsX8_lay (va_wsS RX8 145 yX8_in wsX8_in) := goodIn_app (goodIn_of _ (by decide +kernel)) ggX8_lay_X8_in
set_option maxRecDepth 20000 in
theorem ggX8_lay_X8_errs : GoodIn wsX8_lay wsX8_errs := goodIn_r _ [22, 23, 24, 47, 48, 49, 50, 51, 52, 53, 54, 55, 56, 57, 58, 59, 60, 61, 62, 63, 64, 65, 66, 67, 68, 69, 70, 71, 72, 73, 74, 75, 76, 77, 78, 79] (by decide +kernel) (by decide +kernel)
set_option maxRecDepth 20000 in
theorem gX8_lay_X8_errs : GoodIn wsX8_lay (wsV RX8 150 RX8 yX8_errs wsX8_errs) := goodIn_app (goodIn_of _ (by decide +kernel)) ggX8_lay_X8_errs
set_option maxRecDepth 20000 in
theorem ggX8_lay_X8_held : GoodIn wsX8_lay wsX8_held := goodIn_r _ [28, 5, 47, 48, 49, 50, 51, 52, 53, 54, 55, 56, 57, 58, 59, 60, 61, 62, 63, 64, 65, 66, 67, 68, 69, 70, 71, 72, 73, 74, 75, 76, 77, 78, 79] (by decide +kernel) (by decide +kernel)
set_option maxRecDepth 20000 in
theorem gX8_lay_X8_held : GoodIn wsX8_lay (wsV RX8 127 RX8 yX8_held wsX8_held) := goodIn_app (goodIn_of _ (by decide +kernel)) ggX8_lay_X8_held
set_option maxRecDepth 20000 in
theorem ggX8_lay_X8_gaps : GoodIn wsX8_lay wsX8_gaps := goodIn_r _ [18, 5, 47, 48, 49, 50, 51, 52, 53, 54, 55, 56, 57, 58, 59, 60, 61, 62, 63, 64, 65, 66, 67, 68, 69, 70, 71, 72, 73, 74, 75, 76, 77, 78, 79] (by decide +kernel) (by decide +kernel)
set_option maxRecDepth 20000 in
theorem gX8_lay_X8_gaps : GoodIn wsX8_lay (wsV RX8 124 RX8 yX8_gaps wsX8_gaps) := goodIn_app (goodIn_of _ (by decide +kernel)) ggX8_lay_X8_gaps
set_option maxRecDepth 20000 in
theorem ggX8_lay_X8_anew : GoodIn wsX8_lay wsX8_anew := goodIn_r _ [32, 5, 33, 34, 35, 9, 36, 37, 15, 16, 17, 18, 25, 26, 27, 28, 38, 39, 40, 41, 42, 43, 44, 45, 46, 47, 48, 49, 50, 51, 52, 53, 54, 55, 56, 57, 58, 59, 60, 61, 62, 63, 64, 65, 66, 67, 68, 69, 70, 71, 72, 73, 74, 75, 76, 77, 78, 79] (by decide +kernel) (by decide +kernel)
set_option maxRecDepth 20000 in
theorem gX8_lay_X8_anew : GoodIn wsX8_lay (wsV RX8 154 RX8 yX8_anew wsX8_anew) := goodIn_app (goodIn_of _ (by decide +kernel)) ggX8_lay_X8_anew
theorem dX8_lay_0 : decode cX8_lay 0 = .ok (.aload_n 0, 1) := by decide +kernel
theorem dX8_lay_1 : decode cX8_lay 1 = .ok (.iload_n 1, 1) := by decide +kernel
theorem dX8_lay_2 : decode cX8_lay 2 = .ok (.iload_n 2, 1) := by decide +kernel
theorem dX8_lay_3 : decode cX8_lay 3 = .ok (.invokevirtual 159, 3) := by decide +kernel
theorem dX8_lay_6 : decode cX8_lay 6 = .ok (.ifCond .eq 17, 3) := by decide +kernel
theorem dX8_lay_9 : decode cX8_lay 9 = .ok (.iload_n 3, 1) := by decide +kernel
theorem dX8_lay_10 : decode cX8_lay 10 = .ok (.i2l, 1) := by decide +kernel
theorem dX8_lay_11 : decode cX8_lay 11 = .ok (.ldc2_w 139, 3) := by decide +kernel
theorem dX8_lay_14 : decode cX8_lay 14 = .ok (.ldc2_w 163, 3) := by decide +kernel
theorem dX8_lay_17 : decode cX8_lay 17 = .ok (.invokestatic 145, 3) := by decide +kernel
theorem dX8_lay_20 : decode cX8_lay 20 = .ok (.ifCond .ne 10, 3) := by decide +kernel
theorem dX8_lay_23 : decode cX8_lay 23 = .ok (.aload_n 0, 1) := by decide +kernel
theorem dX8_lay_24 : decode cX8_lay 24 = .ok (.ldc 149, 2) := by decide +kernel
theorem dX8_lay_26 : decode cX8_lay 26 = .ok (.invokevirtual 150, 3) := by decide +kernel
theorem dX8_lay_29 : decode cX8_lay 29 = .ok (.ireturn, 1) := by decide +kernel
theorem dX8_lay_30 : decode cX8_lay 30 = .ok (.iload_n 2, 1) := by decide +kernel
theorem dX8_lay_31 : decode cX8_lay 31 = .ok (.ifCond .le 18, 3) := by decide +kernel
theorem dX8_lay_34 : decode cX8_lay 34 = .ok (.aload_n 0, 1) := by decide +kernel
theorem dX8_lay_35 : decode cX8_lay 35 = .ok (.iload_n 1, 1) := by decide +kernel
theorem dX8_lay_36 : decode cX8_lay 36 = .ok (.iload_n 2, 1) := by decide +kernel
theorem dX8_lay_37 : decode cX8_lay 37 = .ok (.iconst 1, 1) := by decide +kernel
theorem dX8_lay_38 : decode cX8_lay 38 = .ok (.isub, 1) := by decide +kernel
theorem dX8_lay_39 : decode cX8_lay 39 = .ok (.invokevirtual 127, 3) := by decide +kernel
theorem dX8_lay_42 : decode cX8_lay 42 = .ok (.ifCond .lt 7, 3) := by decide +kernel
theorem dX8_lay_45 : decode cX8_lay 45 = .ok (.iconst 1, 1) := by decide +kernel
theorem dX8_lay_46 : decode cX8_lay 46 = .ok (.goto 4, 3) := by decide +kernel
theorem dX8_lay_49 : decode cX8_lay 49 = .ok (.iconst 0, 1) := by decide +kernel
theorem dX8_lay_50 : decode cX8_lay 50 = .ok (.istore 4, 2) := by decide +kernel
theorem dX8_lay_52 : decode cX8_lay 52 = .ok (.iload_n 2, 1) := by decide +kernel
theorem dX8_lay_53 : decode cX8_lay 53 = .ok (.aload_n 0, 1) := by decide +kernel
theorem dX8_lay_54 : decode cX8_lay 54 = .ok (.invokevirtual 124, 3) := by decide +kernel
theorem dX8_lay_57 : decode cX8_lay 57 = .ok (.iconst 1, 1) := by decide +kernel
theorem dX8_lay_58 : decode cX8_lay 58 = .ok (.isub, 1) := by decide +kernel
theorem dX8_lay_59 : decode cX8_lay 59 = .ok (.if_icmp .ge 18, 3) := by decide +kernel
theorem dX8_lay_62 : decode cX8_lay 62 = .ok (.aload_n 0, 1) := by decide +kernel
theorem dX8_lay_63 : decode cX8_lay 63 = .ok (.iload_n 1, 1) := by decide +kernel
theorem dX8_lay_64 : decode cX8_lay 64 = .ok (.iload_n 2, 1) := by decide +kernel
theorem dX8_lay_65 : decode cX8_lay 65 = .ok (.iconst 1, 1) := by decide +kernel
theorem dX8_lay_66 : decode cX8_lay 66 = .ok (.iadd, 1) := by decide +kernel
theorem dX8_lay_67 : decode cX8_lay 67 = .ok (.invokevirtual 127, 3) := by decide +kernel
theorem dX8_lay_70 : decode cX8_lay 70 = .ok (.ifCond .lt 7, 3) := by decide +kernel
theorem dX8_lay_73 : decode cX8_lay 73 = .ok (.iconst 1, 1) := by decide +kernel
theorem dX8_lay_74 : decode cX8_lay 74 = .ok (.goto 4, 3) := by decide +kernel
theorem dX8_lay_77 : decode cX8_lay 77 = .ok (.iconst 0, 1) := by decide +kernel
theorem dX8_lay_78 : decode cX8_lay 78 = .ok (.istore 5, 2) := by decide +kernel
theorem dX8_lay_80 : decode cX8_lay 80 = .ok (.iload_n 3, 1) := by decide +kernel
theorem dX8_lay_81 : decode cX8_lay 81 = .ok (.ifCond .lt 20, 3) := by decide +kernel
theorem dX8_lay_84 : decode cX8_lay 84 = .ok (.iload 4, 2) := by decide +kernel
theorem dX8_lay_86 : decode cX8_lay 86 = .ok (.ifCond .ne 8, 3) := by decide +kernel
theorem dX8_lay_89 : decode cX8_lay 89 = .ok (.iload 5, 2) := by decide +kernel
theorem dX8_lay_91 : decode cX8_lay 91 = .ok (.ifCond .eq 10, 3) := by decide +kernel
theorem dX8_lay_94 : decode cX8_lay 94 = .ok (.aload_n 0, 1) := by decide +kernel
theorem dX8_lay_95 : decode cX8_lay 95 = .ok (.ldc 165, 2) := by decide +kernel
theorem dX8_lay_97 : decode cX8_lay 97 = .ok (.invokevirtual 150, 3) := by decide +kernel
theorem dX8_lay_100 : decode cX8_lay 100 = .ok (.ireturn, 1) := by decide +kernel
theorem dX8_lay_101 : decode cX8_lay 101 = .ok (.aload_n 0, 1) := by decide +kernel
theorem dX8_lay_102 : decode cX8_lay 102 = .ok (.iload_n 1, 1) := by decide +kernel
theorem dX8_lay_103 : decode cX8_lay 103 = .ok (.iload_n 2, 1) := by decide +kernel
theorem dX8_lay_104 : decode cX8_lay 104 = .ok (.invokevirtual 127, 3) := by decide +kernel
theorem dX8_lay_107 : decode cX8_lay 107 = .ok (.istore 6, 2) := by decide +kernel
theorem dX8_lay_109 : decode cX8_lay 109 = .ok (.aload_n 0, 1) := by decide +kernel
theorem dX8_lay_110 : decode cX8_lay 110 = .ok (.getfield 9, 3) := by decide +kernel
theorem dX8_lay_113 : decode cX8_lay 113 = .ok (.iconst 2, 1) := by decide +kernel
theorem dX8_lay_114 : decode cX8_lay 114 = .ok (.bipush 7, 2) := by decide +kernel
theorem dX8_lay_116 : decode cX8_lay 116 = .ok (.iload_n 1, 1) := by decide +kernel
theorem dX8_lay_117 : decode cX8_lay 117 = .ok (.imul, 1) := by decide +kernel
theorem dX8_lay_118 : decode cX8_lay 118 = .ok (.iadd, 1) := by decide +kernel
theorem dX8_lay_119 : decode cX8_lay 119 = .ok (.iload_n 2, 1) := by decide +kernel
theorem dX8_lay_120 : decode cX8_lay 120 = .ok (.iadd, 1) := by decide +kernel
theorem dX8_lay_121 : decode cX8_lay 121 = .ok (.iload_n 3, 1) := by decide +kernel
theorem dX8_lay_122 : decode cX8_lay 122 = .ok (.iastore, 1) := by decide +kernel
theorem dX8_lay_123 : decode cX8_lay 123 = .ok (.aload_n 0, 1) := by decide +kernel
theorem dX8_lay_124 : decode cX8_lay 124 = .ok (.invokevirtual 154, 3) := by decide +kernel
theorem dX8_lay_127 : decode cX8_lay 127 = .ok (.iload 6, 2) := by decide +kernel
theorem dX8_lay_129 : decode cX8_lay 129 = .ok (.ireturn, 1) := by decide +kernel
set_option maxRecDepth 20000 in
theorem ggX8_look_X8_isPlaceOf : GoodIn wsX8_look wsX8_isPlaceOf := goodIn_r _ [6, 7, 8, 9, 5, 10, 11, 12, 13, 14, 15, 26, 27, 28, 29, 30, 31, 32, 33, 34, 35, 36, 37, 38, 39, 40, 41, 42, 43, 44, 45, 46, 47, 48, 49, 50, 51, 52, 53, 54, 55, 56, 57, 58] (by decide +kernel) (by decide +kernel)
set_option maxRecDepth 20000 in
theorem gX8_look_X8_isPlaceOf : GoodIn wsX8_look (wsV RX8 159 RX8 yX8_isPlaceOf wsX8_isPlaceOf) := goodIn_app (goodIn_of _ (by decide +kernel)) ggX8_look_X8_isPlaceOf
set_option maxRecDepth 20000 in
theorem ggX8_look_X8_held : GoodIn wsX8_look wsX8_held := goodIn_r _ [19, 15, 26, 27, 28, 29, 30, 31, 32, 33, 34, 35, 36, 37, 38, 39, 40, 41, 42, 43, 44, 45, 46, 47, 48, 49, 50, 51, 52, 53, 54, 55, 56, 57, 58] (by decide +kernel) (by decide +kernel)
set_option maxRecDepth 20000 in
theorem gX8_look_X8_held : GoodIn wsX8_look (wsV RX8 127 RX8 yX8_held wsX8_held) := goodIn_app (goodIn_of _ (by decide +kernel)) ggX8_look_X8_held
set_option maxRecDepth 20000 in
theorem ggX8_look_X8_errs : GoodIn wsX8_look wsX8_errs := goodIn_r _ [23, 24, 25, 26, 27, 28, 29, 30, 31, 32, 33, 34, 35, 36, 37, 38, 39, 40, 41, 42, 43, 44, 45, 46, 47, 48, 49, 50, 51, 52, 53, 54, 55, 56, 57, 58] (by decide +kernel) (by decide +kernel)
set_option maxRecDepth 20000 in
theorem gX8_look_X8_errs : GoodIn wsX8_look (wsV RX8 150 RX8 yX8_errs wsX8_errs) := goodIn_app (goodIn_of _ (by decide +kernel)) ggX8_look_X8_errs
theorem dX8_look_0 : decode cX8_look 0 = .ok (.aload_n 0, 1) := by decide +kernel
theorem dX8_look_1 : decode cX8_look 1 = .ok (.iload_n 1, 1) := by decide +kernel
theorem dX8_look_2 : decode cX8_look 2 = .ok (.iload_n 2, 1) := by decide +kernel
theorem dX8_look_3 : decode cX8_look 3 = .ok (.invokevirtual 159, 3) := by decide +kernel
theorem dX8_look_6 : decode cX8_look 6 = .ok (.ifCond .eq 12, 3) := by decide +kernel
theorem dX8_look_9 : decode cX8_look 9 = .ok (.aload_n 0, 1) := by decide +kernel
theorem dX8_look_10 : decode cX8_look 10 = .ok (.iload_n 1, 1) := by decide +kernel
theorem dX8_look_11 : decode cX8_look 11 = .ok (.iload_n 2, 1) := by decide +kernel
theorem dX8_look_12 : decode cX8_look 12 = .ok (.invokevirtual 127, 3) := by decide +kernel
theorem dX8_look_15 : decode cX8_look 15 = .ok (.goto 9, 3) := by decide +kernel
theorem dX8_look_18 : decode cX8_look 18 = .ok (.aload_n 0, 1) := by decide +kernel
theorem dX8_look_19 : decode cX8_look 19 = .ok (.ldc 149, 2) := by decide +kernel
theorem dX8_look_21 : decode cX8_look 21 = .ok (.invokevirtual 150, 3) := by decide +kernel
theorem dX8_look_24 : decode cX8_look 24 = .ok (.ireturn, 1) := by decide +kernel
set_option maxRecDepth 20000 in
theorem ggX8_feed_X8_in : GoodIn wsX8_feed wsX8_in := goodIn_r _ [9] (by decide +kernel) (by decide +kernel)
set_option maxRecDepth 20000 in
theorem gX8_feed_X8_in : GoodIn wsX8_feed (va_wsS RX8 145 yX8_in wsX8_in) := goodIn_app (goodIn_of _ (by decide +kernel)) ggX8_feed_X8_in
set_option maxRecDepth 20000 in
theorem ggX8_feed_X8_errs : GoodIn wsX8_feed wsX8_errs := goodIn_r _ [13, 14, 15, 16, 17, 18, 19, 20, 21, 22, 23, 24, 25, 26, 27, 28, 29, 30, 31, 32, 33, 34, 35, 36, 37, 38, 39, 40, 41, 42, 43, 44, 45, 46, 47, 48] (by decide +kernel) (by decide +kernel)
set_option maxRecDepth 20000 in
theorem gX8_feed_X8_errs : GoodIn wsX8_feed (wsV RX8 150 RX8 yX8_errs wsX8_errs) := goodIn_app (goodIn_of _ (by decide +kernel)) ggX8_feed_X8_errs
theorem dX8_feed_0 : decode cX8_feed 0 = .ok (.iload_n 1, 1) := by decide +kernel
theorem dX8_feed_1 : decode cX8_feed 1 = .ok (.i2l, 1) := by decide +kernel
theorem dX8_feed_2 : decode cX8_feed 2 = .ok (.lconst 0, 1) := by decide +kernel
theorem dX8_feed_3 : decode cX8_feed 3 = .ok (.ldc2_w 166, 3) := by decide +kernel
theorem dX8_feed_6 : decode cX8_feed 6 = .ok (.invokestatic 145, 3) := by decide +kernel
theorem dX8_feed_9 : decode cX8_feed 9 = .ok (.ifCond .ne 10, 3) := by decide +kernel
theorem dX8_feed_12 : decode cX8_feed 12 = .ok (.aload_n 0, 1) := by decide +kernel
theorem dX8_feed_13 : decode cX8_feed 13 = .ok (.ldc 149, 2) := by decide +kernel
theorem dX8_feed_15 : decode cX8_feed 15 = .ok (.invokevirtual 150, 3) := by decide +kernel
theorem dX8_feed_18 : decode cX8_feed 18 = .ok (.ireturn, 1) := by decide +kernel
theorem dX8_feed_19 : decode cX8_feed 19 = .ok (.aload_n 0, 1) := by decide +kernel
theorem dX8_feed_20 : decode cX8_feed 20 = .ok (.getfield 168, 3) := by decide +kernel
theorem dX8_feed_23 : decode cX8_feed 23 = .ok (.bipush 120, 2) := by decide +kernel
theorem dX8_feed_25 : decode cX8_feed 25 = .ok (.if_icmp .ne 10, 3) := by decide +kernel
theorem dX8_feed_28 : decode cX8_feed 28 = .ok (.aload_n 0, 1) := by decide +kernel
theorem dX8_feed_29 : decode cX8_feed 29 = .ok (.ldc 171, 2) := by decide +kernel
theorem dX8_feed_31 : decode cX8_feed 31 = .ok (.invokevirtual 150, 3) := by decide +kernel
theorem dX8_feed_34 : decode cX8_feed 34 = .ok (.ireturn, 1) := by decide +kernel
theorem dX8_feed_35 : decode cX8_feed 35 = .ok (.aload_n 0, 1) := by decide +kernel
theorem dX8_feed_36 : decode cX8_feed 36 = .ok (.getfield 38, 3) := by decide +kernel
theorem dX8_feed_39 : decode cX8_feed 39 = .ok (.aload_n 0, 1) := by decide +kernel
theorem dX8_feed_40 : decode cX8_feed 40 = .ok (.getfield 168, 3) := by decide +kernel
theorem dX8_feed_43 : decode cX8_feed 43 = .ok (.iload_n 1, 1) := by decide +kernel
theorem dX8_feed_44 : decode cX8_feed 44 = .ok (.iastore, 1) := by decide +kernel
theorem dX8_feed_45 : decode cX8_feed 45 = .ok (.aload_n 0, 1) := by decide +kernel
theorem dX8_feed_46 : decode cX8_feed 46 = .ok (.dup, 1) := by decide +kernel
theorem dX8_feed_47 : decode cX8_feed 47 = .ok (.getfield 168, 3) := by decide +kernel
theorem dX8_feed_50 : decode cX8_feed 50 = .ok (.iconst 1, 1) := by decide +kernel
theorem dX8_feed_51 : decode cX8_feed 51 = .ok (.iadd, 1) := by decide +kernel
theorem dX8_feed_52 : decode cX8_feed 52 = .ok (.putfield 168, 3) := by decide +kernel
theorem dX8_feed_55 : decode cX8_feed 55 = .ok (.aload_n 0, 1) := by decide +kernel
theorem dX8_feed_56 : decode cX8_feed 56 = .ok (.getfield 168, 3) := by decide +kernel
theorem dX8_feed_59 : decode cX8_feed 59 = .ok (.ireturn, 1) := by decide +kernel
set_option maxRecDepth 20000 in
theorem ggX8_prickingFault_X8_gaps : GoodIn wsX8_prickingFault wsX8_gaps := goodIn_r _ [9, 10, 14, 15, 16, 17, 18, 19, 20, 21, 22, 23, 24, 25, 26, 27, 28, 29, 30, 31, 32, 33, 34, 35, 36, 37, 38, 39, 40, 41, 42, 43, 44, 45, 46] (by decide +kernel) (by decide +kernel)
set_option maxRecDepth 20000 in
theorem gX8_prickingFault_X8_gaps : GoodIn wsX8_prickingFault (wsV RX8 124 RX8 yX8_gaps wsX8_gaps) := goodIn_app (goodIn_of _ (by decide +kernel)) ggX8_prickingFault_X8_gaps
set_option maxRecDepth 20000 in
theorem ggX8_prickingFault_X8_in : GoodIn wsX8_prickingFault wsX8_in := goodIn_r _ [13] (by decide +kernel) (by decide +kernel)
set_option maxRecDepth 20000 in
theorem gX8_prickingFault_X8_in : GoodIn wsX8_prickingFault (va_wsS RX8 145 yX8_in wsX8_in) := goodIn_app (goodIn_of _ (by decide +kernel)) ggX8_prickingFault_X8_in
theorem dX8_prickingFault_0 : decode cX8_prickingFault 0 = .ok (.aload_n 0, 1) := by decide +kernel
theorem dX8_prickingFault_1 : decode cX8_prickingFault 1 = .ok (.invokevirtual 124, 3) := by decide +kernel
theorem dX8_prickingFault_4 : decode cX8_prickingFault 4 = .ok (.iconst 1, 1) := by decide +kernel
theorem dX8_prickingFault_5 : decode cX8_prickingFault 5 = .ok (.iadd, 1) := by decide +kernel
theorem dX8_prickingFault_6 : decode cX8_prickingFault 6 = .ok (.istore_n 1, 1) := by decide +kernel
theorem dX8_prickingFault_7 : decode cX8_prickingFault 7 = .ok (.iconst 0, 1) := by decide +kernel
theorem dX8_prickingFault_8 : decode cX8_prickingFault 8 = .ok (.istore_n 2, 1) := by decide +kernel
theorem dX8_prickingFault_9 : decode cX8_prickingFault 9 = .ok (.iload_n 2, 1) := by decide +kernel
theorem dX8_prickingFault_10 : decode cX8_prickingFault 10 = .ok (.aload_n 0, 1) := by decide +kernel
theorem dX8_prickingFault_11 : decode cX8_prickingFault 11 = .ok (.getfield 168, 3) := by decide +kernel
theorem dX8_prickingFault_14 : decode cX8_prickingFault 14 = .ok (.if_icmp .ge 122, 3) := by decide +kernel
theorem dX8_prickingFault_17 : decode cX8_prickingFault 17 = .ok (.aload_n 0, 1) := by decide +kernel
theorem dX8_prickingFault_18 : decode cX8_prickingFault 18 = .ok (.getfield 38, 3) := by decide +kernel
theorem dX8_prickingFault_21 : decode cX8_prickingFault 21 = .ok (.iload_n 2, 1) := by decide +kernel
theorem dX8_prickingFault_22 : decode cX8_prickingFault 22 = .ok (.iaload, 1) := by decide +kernel
theorem dX8_prickingFault_23 : decode cX8_prickingFault 23 = .ok (.istore_n 3, 1) := by decide +kernel
theorem dX8_prickingFault_24 : decode cX8_prickingFault 24 = .ok (.iload_n 3, 1) := by decide +kernel
theorem dX8_prickingFault_25 : decode cX8_prickingFault 25 = .ok (.i2l, 1) := by decide +kernel
theorem dX8_prickingFault_26 : decode cX8_prickingFault 26 = .ok (.ldc2_w 172, 3) := by decide +kernel
theorem dX8_prickingFault_29 : decode cX8_prickingFault 29 = .ok (.ldc2_w 174, 3) := by decide +kernel
theorem dX8_prickingFault_32 : decode cX8_prickingFault 32 = .ok (.invokestatic 145, 3) := by decide +kernel
theorem dX8_prickingFault_35 : decode cX8_prickingFault 35 = .ok (.istore 4, 2) := by decide +kernel
theorem dX8_prickingFault_37 : decode cX8_prickingFault 37 = .ok (.iload_n 2, 1) := by decide +kernel
theorem dX8_prickingFault_38 : decode cX8_prickingFault 38 = .ok (.ifCond .le 28, 3) := by decide +kernel
theorem dX8_prickingFault_41 : decode cX8_prickingFault 41 = .ok (.aload_n 0, 1) := by decide +kernel
theorem dX8_prickingFault_42 : decode cX8_prickingFault 42 = .ok (.getfield 38, 3) := by decide +kernel
theorem dX8_prickingFault_45 : decode cX8_prickingFault 45 = .ok (.iload_n 2, 1) := by decide +kernel
theorem dX8_prickingFault_46 : decode cX8_prickingFault 46 = .ok (.iconst 1, 1) := by decide +kernel
theorem dX8_prickingFault_47 : decode cX8_prickingFault 47 = .ok (.isub, 1) := by decide +kernel
theorem dX8_prickingFault_48 : decode cX8_prickingFault 48 = .ok (.iaload, 1) := by decide +kernel
theorem dX8_prickingFault_49 : decode cX8_prickingFault 49 = .ok (.i2l, 1) := by decide +kernel
theorem dX8_prickingFault_50 : decode cX8_prickingFault 50 = .ok (.ldc2_w 172, 3) := by decide +kernel
theorem dX8_prickingFault_53 : decode cX8_prickingFault 53 = .ok (.ldc2_w 174, 3) := by decide +kernel
theorem dX8_prickingFault_56 : decode cX8_prickingFault 56 = .ok (.invokestatic 145, 3) := by decide +kernel
theorem dX8_prickingFault_59 : decode cX8_prickingFault 59 = .ok (.ifCond .eq 7, 3) := by decide +kernel
theorem dX8_prickingFault_62 : decode cX8_prickingFault 62 = .ok (.iconst 1, 1) := by decide +kernel
theorem dX8_prickingFault_63 : decode cX8_prickingFault 63 = .ok (.goto 4, 3) := by decide +kernel
theorem dX8_prickingFault_66 : decode cX8_prickingFault 66 = .ok (.iconst 0, 1) := by decide +kernel
theorem dX8_prickingFault_67 : decode cX8_prickingFault 67 = .ok (.istore 5, 2) := by decide +kernel
theorem dX8_prickingFault_69 : decode cX8_prickingFault 69 = .ok (.iload_n 2, 1) := by decide +kernel
theorem dX8_prickingFault_70 : decode cX8_prickingFault 70 = .ok (.iload_n 1, 1) := by decide +kernel
theorem dX8_prickingFault_71 : decode cX8_prickingFault 71 = .ok (.irem, 1) := by decide +kernel
theorem dX8_prickingFault_72 : decode cX8_prickingFault 72 = .ok (.iload_n 1, 1) := by decide +kernel
theorem dX8_prickingFault_73 : decode cX8_prickingFault 73 = .ok (.iconst 1, 1) := by decide +kernel
theorem dX8_prickingFault_74 : decode cX8_prickingFault 74 = .ok (.isub, 1) := by decide +kernel
theorem dX8_prickingFault_75 : decode cX8_prickingFault 75 = .ok (.if_icmp .ne 25, 3) := by decide +kernel
theorem dX8_prickingFault_78 : decode cX8_prickingFault 78 = .ok (.iload_n 3, 1) := by decide +kernel
theorem dX8_prickingFault_79 : decode cX8_prickingFault 79 = .ok (.bipush 47, 2) := by decide +kernel
theorem dX8_prickingFault_81 : decode cX8_prickingFault 81 = .ok (.if_icmp .ne 15, 3) := by decide +kernel
theorem dX8_prickingFault_84 : decode cX8_prickingFault 84 = .ok (.iload_n 2, 1) := by decide +kernel
theorem dX8_prickingFault_85 : decode cX8_prickingFault 85 = .ok (.iload_n 1, 1) := by decide +kernel
theorem dX8_prickingFault_86 : decode cX8_prickingFault 86 = .ok (.idiv, 1) := by decide +kernel
theorem dX8_prickingFault_87 : decode cX8_prickingFault 87 = .ok (.bipush 11, 2) := by decide +kernel
theorem dX8_prickingFault_89 : decode cX8_prickingFault 89 = .ok (.if_icmp .ge 7, 3) := by decide +kernel
theorem dX8_prickingFault_92 : decode cX8_prickingFault 92 = .ok (.iconst 1, 1) := by decide +kernel
theorem dX8_prickingFault_93 : decode cX8_prickingFault 93 = .ok (.goto 28, 3) := by decide +kernel
theorem dX8_prickingFault_96 : decode cX8_prickingFault 96 = .ok (.iconst 0, 1) := by decide +kernel
theorem dX8_prickingFault_97 : decode cX8_prickingFault 97 = .ok (.goto 24, 3) := by decide +kernel
theorem dX8_prickingFault_100 : decode cX8_prickingFault 100 = .ok (.iload_n 3, 1) := by decide +kernel
theorem dX8_prickingFault_101 : decode cX8_prickingFault 101 = .ok (.bipush 46, 2) := by decide +kernel
theorem dX8_prickingFault_103 : decode cX8_prickingFault 103 = .ok (.if_icmp .eq 13, 3) := by decide +kernel
theorem dX8_prickingFault_106 : decode cX8_prickingFault 106 = .ok (.iload 4, 2) := by decide +kernel
theorem dX8_prickingFault_108 : decode cX8_prickingFault 108 = .ok (.ifCond .eq 12, 3) := by decide +kernel
theorem dX8_prickingFault_111 : decode cX8_prickingFault 111 = .ok (.iload 5, 2) := by decide +kernel
theorem dX8_prickingFault_113 : decode cX8_prickingFault 113 = .ok (.ifCond .ne 7, 3) := by decide +kernel
theorem dX8_prickingFault_116 : decode cX8_prickingFault 116 = .ok (.iconst 1, 1) := by decide +kernel
theorem dX8_prickingFault_117 : decode cX8_prickingFault 117 = .ok (.goto 4, 3) := by decide +kernel
theorem dX8_prickingFault_120 : decode cX8_prickingFault 120 = .ok (.iconst 0, 1) := by decide +kernel
theorem dX8_prickingFault_121 : decode cX8_prickingFault 121 = .ok (.istore 6, 2) := by decide +kernel
theorem dX8_prickingFault_123 : decode cX8_prickingFault 123 = .ok (.iload 6, 2) := by decide +kernel
theorem dX8_prickingFault_125 : decode cX8_prickingFault 125 = .ok (.ifCond .ne 5, 3) := by decide +kernel
theorem dX8_prickingFault_128 : decode cX8_prickingFault 128 = .ok (.iload_n 2, 1) := by decide +kernel
theorem dX8_prickingFault_129 : decode cX8_prickingFault 129 = .ok (.ireturn, 1) := by decide +kernel
theorem dX8_prickingFault_130 : decode cX8_prickingFault 130 = .ok (.iinc 2 1, 3) := by decide +kernel
theorem dX8_prickingFault_133 : decode cX8_prickingFault 133 = .ok (.goto (-124), 3) := by decide +kernel
theorem dX8_prickingFault_136 : decode cX8_prickingFault 136 = .ok (.aload_n 0, 1) := by decide +kernel
theorem dX8_prickingFault_137 : decode cX8_prickingFault 137 = .ok (.getfield 168, 3) := by decide +kernel
theorem dX8_prickingFault_140 : decode cX8_prickingFault 140 = .ok (.iload_n 1, 1) := by decide +kernel
theorem dX8_prickingFault_141 : decode cX8_prickingFault 141 = .ok (.irem, 1) := by decide +kernel
theorem dX8_prickingFault_142 : decode cX8_prickingFault 142 = .ok (.iload_n 1, 1) := by decide +kernel
theorem dX8_prickingFault_143 : decode cX8_prickingFault 143 = .ok (.iconst 1, 1) := by decide +kernel
theorem dX8_prickingFault_144 : decode cX8_prickingFault 144 = .ok (.isub, 1) := by decide +kernel
theorem dX8_prickingFault_145 : decode cX8_prickingFault 145 = .ok (.if_icmp .ne 7, 3) := by decide +kernel
theorem dX8_prickingFault_148 : decode cX8_prickingFault 148 = .ok (.iconst (-1), 1) := by decide +kernel
theorem dX8_prickingFault_149 : decode cX8_prickingFault 149 = .ok (.goto 7, 3) := by decide +kernel
theorem dX8_prickingFault_152 : decode cX8_prickingFault 152 = .ok (.aload_n 0, 1) := by decide +kernel
theorem dX8_prickingFault_153 : decode cX8_prickingFault 153 = .ok (.getfield 168, 3) := by decide +kernel
theorem dX8_prickingFault_156 : decode cX8_prickingFault 156 = .ok (.ireturn, 1) := by decide +kernel
set_option maxRecDepth 20000 in
theorem ggX8_read_X8_prickingFault : GoodIn wsX8_read wsX8_prickingFault := goodIn_r _ [9, 1, 3, 10, 11, 12, 13, 14, 8, 15, 2, 16, 17, 18, 40, 41, 42, 43, 44, 45, 46, 47, 48, 49, 50, 51, 52, 53, 54, 55, 56, 57, 58, 59, 60, 61, 62, 63, 64, 65, 66, 67, 68, 69, 70, 71, 72] (by decide +kernel) (by decide +kernel)
set_option maxRecDepth 20000 in
theorem gX8_read_X8_prickingFault : GoodIn wsX8_read (wsV RX8 176 RX8 yX8_prickingFault wsX8_prickingFault) := goodIn_app (goodIn_of _ (by decide +kernel)) ggX8_read_X8_prickingFault
set_option maxRecDepth 20000 in
theorem ggX8_read_X8_gaps : GoodIn wsX8_read wsX8_gaps := goodIn_r _ [15, 2, 40, 41, 42, 43, 44, 45, 46, 47, 48, 49, 50, 51, 52, 53, 54, 55, 56, 57, 58, 59, 60, 61, 62, 63, 64, 65, 66, 67, 68, 69, 70, 71, 72] (by decide +kernel) (by decide +kernel)
set_option maxRecDepth 20000 in
theorem gX8_read_X8_gaps : GoodIn wsX8_read (wsV RX8 124 RX8 yX8_gaps wsX8_gaps) := goodIn_app (goodIn_of _ (by decide +kernel)) ggX8_read_X8_gaps
set_option maxRecDepth 20000 in
theorem ggX8_read_X8_anew : GoodIn wsX8_read wsX8_anew := goodIn_r _ [22, 2, 23, 24, 25, 8, 26, 4, 12, 13, 14, 15, 27, 28, 29, 30, 31, 32, 33, 34, 35, 36, 37, 38, 39, 40, 41, 42, 43, 44, 45, 46, 47, 48, 49, 50, 51, 52, 53, 54, 55, 56, 57, 58, 59, 60, 61, 62, 63, 64, 65, 66, 67, 68, 69, 70, 71, 72] (by decide +kernel) (by decide +kernel)
set_option maxRecDepth 20000 in
theorem gX8_read_X8_anew : GoodIn wsX8_read (wsV RX8 154 RX8 yX8_anew wsX8_anew) := goodIn_app (goodIn_of _ (by decide +kernel)) ggX8_read_X8_anew
theorem dX8_read_0 : decode cX8_read 0 = .ok (.aload_n 0, 1) := by decide +kernel
theorem dX8_read_1 : decode cX8_read 1 = .ok (.invokevirtual 176, 3) := by decide +kernel
theorem dX8_read_4 : decode cX8_read 4 = .ok (.istore_n 1, 1) := by decide +kernel
theorem dX8_read_5 : decode cX8_read 5 = .ok (.aload_n 0, 1) := by decide +kernel
theorem dX8_read_6 : decode cX8_read 6 = .ok (.getfield 168, 3) := by decide +kernel
theorem dX8_read_9 : decode cX8_read 9 = .ok (.istore_n 2, 1) := by decide +kernel
theorem dX8_read_10 : decode cX8_read 10 = .ok (.aload_n 0, 1) := by decide +kernel
theorem dX8_read_11 : decode cX8_read 11 = .ok (.iconst 0, 1) := by decide +kernel
theorem dX8_read_12 : decode cX8_read 12 = .ok (.putfield 168, 3) := by decide +kernel
theorem dX8_read_15 : decode cX8_read 15 = .ok (.iload_n 1, 1) := by decide +kernel
theorem dX8_read_16 : decode cX8_read 16 = .ok (.ifCond .lt 8, 3) := by decide +kernel
theorem dX8_read_19 : decode cX8_read 19 = .ok (.bipush (-10), 2) := by decide +kernel
theorem dX8_read_21 : decode cX8_read 21 = .ok (.iload_n 1, 1) := by decide +kernel
theorem dX8_read_22 : decode cX8_read 22 = .ok (.isub, 1) := by decide +kernel
theorem dX8_read_23 : decode cX8_read 23 = .ok (.ireturn, 1) := by decide +kernel
theorem dX8_read_24 : decode cX8_read 24 = .ok (.aload_n 0, 1) := by decide +kernel
theorem dX8_read_25 : decode cX8_read 25 = .ok (.invokevirtual 124, 3) := by decide +kernel
theorem dX8_read_28 : decode cX8_read 28 = .ok (.iconst 1, 1) := by decide +kernel
theorem dX8_read_29 : decode cX8_read 29 = .ok (.iadd, 1) := by decide +kernel
theorem dX8_read_30 : decode cX8_read 30 = .ok (.istore_n 3, 1) := by decide +kernel
theorem dX8_read_31 : decode cX8_read 31 = .ok (.iconst 0, 1) := by decide +kernel
theorem dX8_read_32 : decode cX8_read 32 = .ok (.istore 4, 2) := by decide +kernel
theorem dX8_read_34 : decode cX8_read 34 = .ok (.iload 4, 2) := by decide +kernel
theorem dX8_read_36 : decode cX8_read 36 = .ok (.bipush 84, 2) := by decide +kernel
theorem dX8_read_38 : decode cX8_read 38 = .ok (.if_icmp .ge 19, 3) := by decide +kernel
theorem dX8_read_41 : decode cX8_read 41 = .ok (.aload_n 0, 1) := by decide +kernel
theorem dX8_read_42 : decode cX8_read 42 = .ok (.getfield 9, 3) := by decide +kernel
theorem dX8_read_45 : decode cX8_read 45 = .ok (.iconst 2, 1) := by decide +kernel
theorem dX8_read_46 : decode cX8_read 46 = .ok (.iload 4, 2) := by decide +kernel
theorem dX8_read_48 : decode cX8_read 48 = .ok (.iadd, 1) := by decide +kernel
theorem dX8_read_49 : decode cX8_read 49 = .ok (.iconst (-1), 1) := by decide +kernel
theorem dX8_read_50 : decode cX8_read 50 = .ok (.iastore, 1) := by decide +kernel
theorem dX8_read_51 : decode cX8_read 51 = .ok (.iinc 4 1, 3) := by decide +kernel
theorem dX8_read_54 : decode cX8_read 54 = .ok (.goto (-20), 3) := by decide +kernel
theorem dX8_read_57 : decode cX8_read 57 = .ok (.iconst 0, 1) := by decide +kernel
theorem dX8_read_58 : decode cX8_read 58 = .ok (.istore 4, 2) := by decide +kernel
theorem dX8_read_60 : decode cX8_read 60 = .ok (.iload 4, 2) := by decide +kernel
theorem dX8_read_62 : decode cX8_read 62 = .ok (.iload_n 2, 1) := by decide +kernel
theorem dX8_read_63 : decode cX8_read 63 = .ok (.if_icmp .ge 60, 3) := by decide +kernel
theorem dX8_read_66 : decode cX8_read 66 = .ok (.iload 4, 2) := by decide +kernel
theorem dX8_read_68 : decode cX8_read 68 = .ok (.iload_n 3, 1) := by decide +kernel
theorem dX8_read_69 : decode cX8_read 69 = .ok (.irem, 1) := by decide +kernel
theorem dX8_read_70 : decode cX8_read 70 = .ok (.iload_n 3, 1) := by decide +kernel
theorem dX8_read_71 : decode cX8_read 71 = .ok (.iconst 1, 1) := by decide +kernel
theorem dX8_read_72 : decode cX8_read 72 = .ok (.isub, 1) := by decide +kernel
theorem dX8_read_73 : decode cX8_read 73 = .ok (.if_icmp .ge 44, 3) := by decide +kernel
theorem dX8_read_76 : decode cX8_read 76 = .ok (.aload_n 0, 1) := by decide +kernel
theorem dX8_read_77 : decode cX8_read 77 = .ok (.getfield 38, 3) := by decide +kernel
theorem dX8_read_80 : decode cX8_read 80 = .ok (.iload 4, 2) := by decide +kernel
theorem dX8_read_82 : decode cX8_read 82 = .ok (.iaload, 1) := by decide +kernel
theorem dX8_read_83 : decode cX8_read 83 = .ok (.bipush 46, 2) := by decide +kernel
theorem dX8_read_85 : decode cX8_read 85 = .ok (.if_icmp .eq 32, 3) := by decide +kernel
theorem dX8_read_88 : decode cX8_read 88 = .ok (.aload_n 0, 1) := by decide +kernel
theorem dX8_read_89 : decode cX8_read 89 = .ok (.getfield 9, 3) := by decide +kernel
theorem dX8_read_92 : decode cX8_read 92 = .ok (.iconst 2, 1) := by decide +kernel
theorem dX8_read_93 : decode cX8_read 93 = .ok (.bipush 7, 2) := by decide +kernel
theorem dX8_read_95 : decode cX8_read 95 = .ok (.iload 4, 2) := by decide +kernel
theorem dX8_read_97 : decode cX8_read 97 = .ok (.iload_n 3, 1) := by decide +kernel
theorem dX8_read_98 : decode cX8_read 98 = .ok (.idiv, 1) := by decide +kernel
theorem dX8_read_99 : decode cX8_read 99 = .ok (.imul, 1) := by decide +kernel
theorem dX8_read_100 : decode cX8_read 100 = .ok (.iadd, 1) := by decide +kernel
theorem dX8_read_101 : decode cX8_read 101 = .ok (.iload 4, 2) := by decide +kernel
theorem dX8_read_103 : decode cX8_read 103 = .ok (.iload_n 3, 1) := by decide +kernel
theorem dX8_read_104 : decode cX8_read 104 = .ok (.irem, 1) := by decide +kernel
theorem dX8_read_105 : decode cX8_read 105 = .ok (.iadd, 1) := by decide +kernel
theorem dX8_read_106 : decode cX8_read 106 = .ok (.aload_n 0, 1) := by decide +kernel
theorem dX8_read_107 : decode cX8_read 107 = .ok (.getfield 38, 3) := by decide +kernel
theorem dX8_read_110 : decode cX8_read 110 = .ok (.iload 4, 2) := by decide +kernel
theorem dX8_read_112 : decode cX8_read 112 = .ok (.iaload, 1) := by decide +kernel
theorem dX8_read_113 : decode cX8_read 113 = .ok (.bipush 97, 2) := by decide +kernel
theorem dX8_read_115 : decode cX8_read 115 = .ok (.isub, 1) := by decide +kernel
theorem dX8_read_116 : decode cX8_read 116 = .ok (.iastore, 1) := by decide +kernel
theorem dX8_read_117 : decode cX8_read 117 = .ok (.iinc 4 1, 3) := by decide +kernel
theorem dX8_read_120 : decode cX8_read 120 = .ok (.goto (-60), 3) := by decide +kernel
theorem dX8_read_123 : decode cX8_read 123 = .ok (.aload_n 0, 1) := by decide +kernel
theorem dX8_read_124 : decode cX8_read 124 = .ok (.invokevirtual 154, 3) := by decide +kernel
theorem dX8_read_127 : decode cX8_read 127 = .ok (.aload_n 0, 1) := by decide +kernel
theorem dX8_read_128 : decode cX8_read 128 = .ok (.getfield 120, 3) := by decide +kernel
theorem dX8_read_131 : decode cX8_read 131 = .ok (.ireturn, 1) := by decide +kernel
theorem dX8_isTold_0 : decode cX8_isTold 0 = .ok (.iload_n 0, 1) := by decide +kernel
theorem dX8_isTold_1 : decode cX8_isTold 1 = .ok (.bipush 99, 2) := by decide +kernel
theorem dX8_isTold_3 : decode cX8_isTold 3 = .ok (.if_icmp .eq 21, 3) := by decide +kernel
theorem dX8_isTold_6 : decode cX8_isTold 6 = .ok (.iload_n 0, 1) := by decide +kernel
theorem dX8_isTold_7 : decode cX8_isTold 7 = .ok (.bipush 67, 2) := by decide +kernel
theorem dX8_isTold_9 : decode cX8_isTold 9 = .ok (.if_icmp .eq 15, 3) := by decide +kernel
theorem dX8_isTold_12 : decode cX8_isTold 12 = .ok (.iload_n 0, 1) := by decide +kernel
theorem dX8_isTold_13 : decode cX8_isTold 13 = .ok (.bipush 116, 2) := by decide +kernel
theorem dX8_isTold_15 : decode cX8_isTold 15 = .ok (.if_icmp .eq 9, 3) := by decide +kernel
theorem dX8_isTold_18 : decode cX8_isTold 18 = .ok (.iload_n 0, 1) := by decide +kernel
theorem dX8_isTold_19 : decode cX8_isTold 19 = .ok (.bipush 84, 2) := by decide +kernel
theorem dX8_isTold_21 : decode cX8_isTold 21 = .ok (.if_icmp .ne 7, 3) := by decide +kernel
theorem dX8_isTold_24 : decode cX8_isTold 24 = .ok (.iconst 1, 1) := by decide +kernel
theorem dX8_isTold_25 : decode cX8_isTold 25 = .ok (.goto 4, 3) := by decide +kernel
theorem dX8_isTold_28 : decode cX8_isTold 28 = .ok (.iconst 0, 1) := by decide +kernel
theorem dX8_isTold_29 : decode cX8_isTold 29 = .ok (.ireturn, 1) := by decide +kernel
set_option maxRecDepth 20000 in
theorem ggX8_spell_X8_in : GoodIn wsX8_spell wsX8_in := goodIn_r _ [9] (by decide +kernel) (by decide +kernel)
set_option maxRecDepth 20000 in
theorem gX8_spell_X8_in : GoodIn wsX8_spell (va_wsS RX8 145 yX8_in wsX8_in) := goodIn_app (goodIn_of _ (by decide +kernel)) ggX8_spell_X8_in
set_option maxRecDepth 20000 in
theorem ggX8_spell_X8_errs : GoodIn wsX8_spell wsX8_errs := goodIn_r _ [13, 14, 15, 45, 46, 47, 48, 49, 50, 51, 52, 53, 54, 55, 56, 57, 58, 59, 60, 61, 62, 63, 64, 65, 66, 67, 68, 69, 70, 71, 72, 73, 74, 75, 76, 77] (by decide +kernel) (by decide +kernel)
set_option maxRecDepth 20000 in
theorem gX8_spell_X8_errs : GoodIn wsX8_spell (wsV RX8 150 RX8 yX8_errs wsX8_errs) := goodIn_app (goodIn_of _ (by decide +kernel)) ggX8_spell_X8_errs
set_option maxRecDepth 20000 in
theorem ggX8_spell_X8_isTold : GoodIn wsX8_spell wsX8_isTold := goodIn_r _ [18] (by decide +kernel) (by decide +kernel)
set_option maxRecDepth 20000 in
theorem gX8_spell_X8_isTold : GoodIn wsX8_spell (va_wsS RX8 179 yX8_isTold wsX8_isTold) := goodIn_app (goodIn_of _ (by decide +kernel)) ggX8_spell_X8_isTold
set_option maxRecDepth 20000 in
theorem ggX8_spell_X8_anew : GoodIn wsX8_spell wsX8_anew := goodIn_r _ [22, 5, 23, 24, 25, 8, 26, 27, 28, 29, 30, 31, 32, 33, 34, 35, 36, 37, 38, 39, 40, 41, 42, 43, 44, 45, 46, 47, 48, 49, 50, 51, 52, 53, 54, 55, 56, 57, 58, 59, 60, 61, 62, 63, 64, 65, 66, 67, 68, 69, 70, 71, 72, 73, 74, 75, 76, 77] (by decide +kernel) (by decide +kernel)
set_option maxRecDepth 20000 in
theorem gX8_spell_X8_anew : GoodIn wsX8_spell (wsV RX8 154 RX8 yX8_anew wsX8_anew) := goodIn_app (goodIn_of _ (by decide +kernel)) ggX8_spell_X8_anew
theorem dX8_spell_0 : decode cX8_spell 0 = .ok (.iload_n 1, 1) := by decide +kernel
theorem dX8_spell_1 : decode cX8_spell 1 = .ok (.i2l, 1) := by decide +kernel
theorem dX8_spell_2 : decode cX8_spell 2 = .ok (.lconst 0, 1) := by decide +kernel
theorem dX8_spell_3 : decode cX8_spell 3 = .ok (.ldc2_w 163, 3) := by decide +kernel
theorem dX8_spell_6 : decode cX8_spell 6 = .ok (.invokestatic 145, 3) := by decide +kernel
theorem dX8_spell_9 : decode cX8_spell 9 = .ok (.ifCond .ne 10, 3) := by decide +kernel
theorem dX8_spell_12 : decode cX8_spell 12 = .ok (.aload_n 0, 1) := by decide +kernel
theorem dX8_spell_13 : decode cX8_spell 13 = .ok (.ldc 149, 2) := by decide +kernel
theorem dX8_spell_15 : decode cX8_spell 15 = .ok (.invokevirtual 150, 3) := by decide +kernel
theorem dX8_spell_18 : decode cX8_spell 18 = .ok (.ireturn, 1) := by decide +kernel
theorem dX8_spell_19 : decode cX8_spell 19 = .ok (.aload_n 0, 1) := by decide +kernel
theorem dX8_spell_20 : decode cX8_spell 20 = .ok (.getfield 168, 3) := by decide +kernel
theorem dX8_spell_23 : decode cX8_spell 23 = .ok (.istore_n 2, 1) := by decide +kernel
theorem dX8_spell_24 : decode cX8_spell 24 = .ok (.aload_n 0, 1) := by decide +kernel
theorem dX8_spell_25 : decode cX8_spell 25 = .ok (.iconst 0, 1) := by decide +kernel
theorem dX8_spell_26 : decode cX8_spell 26 = .ok (.putfield 168, 3) := by decide +kernel
theorem dX8_spell_29 : decode cX8_spell 29 = .ok (.iconst 0, 1) := by decide +kernel
theorem dX8_spell_30 : decode cX8_spell 30 = .ok (.istore_n 3, 1) := by decide +kernel
theorem dX8_spell_31 : decode cX8_spell 31 = .ok (.iload_n 3, 1) := by decide +kernel
theorem dX8_spell_32 : decode cX8_spell 32 = .ok (.iload_n 2, 1) := by decide +kernel
theorem dX8_spell_33 : decode cX8_spell 33 = .ok (.if_icmp .ge 27, 3) := by decide +kernel
theorem dX8_spell_36 : decode cX8_spell 36 = .ok (.iload_n 3, 1) := by decide +kernel
theorem dX8_spell_37 : decode cX8_spell 37 = .ok (.bipush 8, 2) := by decide +kernel
theorem dX8_spell_39 : decode cX8_spell 39 = .ok (.if_icmp .ge 21, 3) := by decide +kernel
theorem dX8_spell_42 : decode cX8_spell 42 = .ok (.aload_n 0, 1) := by decide +kernel
theorem dX8_spell_43 : decode cX8_spell 43 = .ok (.getfield 38, 3) := by decide +kernel
theorem dX8_spell_46 : decode cX8_spell 46 = .ok (.iload_n 3, 1) := by decide +kernel
theorem dX8_spell_47 : decode cX8_spell 47 = .ok (.iaload, 1) := by decide +kernel
theorem dX8_spell_48 : decode cX8_spell 48 = .ok (.invokestatic 179, 3) := by decide +kernel
theorem dX8_spell_51 : decode cX8_spell 51 = .ok (.ifCond .eq 9, 3) := by decide +kernel
theorem dX8_spell_54 : decode cX8_spell 54 = .ok (.iinc 3 1, 3) := by decide +kernel
theorem dX8_spell_57 : decode cX8_spell 57 = .ok (.goto (-26), 3) := by decide +kernel
theorem dX8_spell_60 : decode cX8_spell 60 = .ok (.iload_n 2, 1) := by decide +kernel
theorem dX8_spell_61 : decode cX8_spell 61 = .ok (.ifCond .eq 8, 3) := by decide +kernel
theorem dX8_spell_64 : decode cX8_spell 64 = .ok (.iload_n 3, 1) := by decide +kernel
theorem dX8_spell_65 : decode cX8_spell 65 = .ok (.iload_n 2, 1) := by decide +kernel
theorem dX8_spell_66 : decode cX8_spell 66 = .ok (.if_icmp .ge 8, 3) := by decide +kernel
theorem dX8_spell_69 : decode cX8_spell 69 = .ok (.bipush (-10), 2) := by decide +kernel
theorem dX8_spell_71 : decode cX8_spell 71 = .ok (.iload_n 3, 1) := by decide +kernel
theorem dX8_spell_72 : decode cX8_spell 72 = .ok (.isub, 1) := by decide +kernel
theorem dX8_spell_73 : decode cX8_spell 73 = .ok (.ireturn, 1) := by decide +kernel
theorem dX8_spell_74 : decode cX8_spell 74 = .ok (.aload_n 0, 1) := by decide +kernel
theorem dX8_spell_75 : decode cX8_spell 75 = .ok (.getfield 9, 3) := by decide +kernel
theorem dX8_spell_78 : decode cX8_spell 78 = .ok (.bipush 86, 2) := by decide +kernel
theorem dX8_spell_80 : decode cX8_spell 80 = .ok (.bipush 9, 2) := by decide +kernel
theorem dX8_spell_82 : decode cX8_spell 82 = .ok (.iload_n 1, 1) := by decide +kernel
theorem dX8_spell_83 : decode cX8_spell 83 = .ok (.imul, 1) := by decide +kernel
theorem dX8_spell_84 : decode cX8_spell 84 = .ok (.iadd, 1) := by decide +kernel
theorem dX8_spell_85 : decode cX8_spell 85 = .ok (.iload_n 2, 1) := by decide +kernel
theorem dX8_spell_86 : decode cX8_spell 86 = .ok (.iastore, 1) := by decide +kernel
theorem dX8_spell_87 : decode cX8_spell 87 = .ok (.iconst 0, 1) := by decide +kernel
theorem dX8_spell_88 : decode cX8_spell 88 = .ok (.istore 4, 2) := by decide +kernel
theorem dX8_spell_90 : decode cX8_spell 90 = .ok (.iload 4, 2) := by decide +kernel
theorem dX8_spell_92 : decode cX8_spell 92 = .ok (.iload_n 2, 1) := by decide +kernel
theorem dX8_spell_93 : decode cX8_spell 93 = .ok (.if_icmp .ge 33, 3) := by decide +kernel
theorem dX8_spell_96 : decode cX8_spell 96 = .ok (.aload_n 0, 1) := by decide +kernel
theorem dX8_spell_97 : decode cX8_spell 97 = .ok (.getfield 9, 3) := by decide +kernel
theorem dX8_spell_100 : decode cX8_spell 100 = .ok (.bipush 86, 2) := by decide +kernel
theorem dX8_spell_102 : decode cX8_spell 102 = .ok (.bipush 9, 2) := by decide +kernel
theorem dX8_spell_104 : decode cX8_spell 104 = .ok (.iload_n 1, 1) := by decide +kernel
theorem dX8_spell_105 : decode cX8_spell 105 = .ok (.imul, 1) := by decide +kernel
theorem dX8_spell_106 : decode cX8_spell 106 = .ok (.iadd, 1) := by decide +kernel
theorem dX8_spell_107 : decode cX8_spell 107 = .ok (.iconst 1, 1) := by decide +kernel
theorem dX8_spell_108 : decode cX8_spell 108 = .ok (.iadd, 1) := by decide +kernel
theorem dX8_spell_109 : decode cX8_spell 109 = .ok (.iload 4, 2) := by decide +kernel
theorem dX8_spell_111 : decode cX8_spell 111 = .ok (.iadd, 1) := by decide +kernel
theorem dX8_spell_112 : decode cX8_spell 112 = .ok (.aload_n 0, 1) := by decide +kernel
theorem dX8_spell_113 : decode cX8_spell 113 = .ok (.getfield 38, 3) := by decide +kernel
theorem dX8_spell_116 : decode cX8_spell 116 = .ok (.iload 4, 2) := by decide +kernel
theorem dX8_spell_118 : decode cX8_spell 118 = .ok (.iaload, 1) := by decide +kernel
theorem dX8_spell_119 : decode cX8_spell 119 = .ok (.iastore, 1) := by decide +kernel
theorem dX8_spell_120 : decode cX8_spell 120 = .ok (.iinc 4 1, 3) := by decide +kernel
theorem dX8_spell_123 : decode cX8_spell 123 = .ok (.goto (-33), 3) := by decide +kernel
theorem dX8_spell_126 : decode cX8_spell 126 = .ok (.aload_n 0, 1) := by decide +kernel
theorem dX8_spell_127 : decode cX8_spell 127 = .ok (.invokevirtual 154, 3) := by decide +kernel
theorem dX8_spell_130 : decode cX8_spell 130 = .ok (.iload_n 2, 1) := by decide +kernel
theorem dX8_spell_131 : decode cX8_spell 131 = .ok (.ireturn, 1) := by decide +kernel
theorem dX8_letterOf_0 : decode cX8_letterOf 0 = .ok (.aload_n 0, 1) := by decide +kernel
theorem dX8_letterOf_1 : decode cX8_letterOf 1 = .ok (.getfield 9, 3) := by decide +kernel
theorem dX8_letterOf_4 : decode cX8_letterOf 4 = .ok (.bipush 86, 2) := by decide +kernel
theorem dX8_letterOf_6 : decode cX8_letterOf 6 = .ok (.bipush 9, 2) := by decide +kernel
theorem dX8_letterOf_8 : decode cX8_letterOf 8 = .ok (.iload_n 1, 1) := by decide +kernel
theorem dX8_letterOf_9 : decode cX8_letterOf 9 = .ok (.imul, 1) := by decide +kernel
theorem dX8_letterOf_10 : decode cX8_letterOf 10 = .ok (.iadd, 1) := by decide +kernel
theorem dX8_letterOf_11 : decode cX8_letterOf 11 = .ok (.iconst 1, 1) := by decide +kernel
theorem dX8_letterOf_12 : decode cX8_letterOf 12 = .ok (.iadd, 1) := by decide +kernel
theorem dX8_letterOf_13 : decode cX8_letterOf 13 = .ok (.iload_n 2, 1) := by decide +kernel
theorem dX8_letterOf_14 : decode cX8_letterOf 14 = .ok (.iadd, 1) := by decide +kernel
theorem dX8_letterOf_15 : decode cX8_letterOf 15 = .ok (.iaload, 1) := by decide +kernel
theorem dX8_letterOf_16 : decode cX8_letterOf 16 = .ok (.ireturn, 1) := by decide +kernel
set_option maxRecDepth 20000 in
theorem ggX8_letter_X8_in : GoodIn wsX8_letter wsX8_in := goodIn_r _ [7] (by decide +kernel) (by decide +kernel)
set_option maxRecDepth 20000 in
theorem gX8_letter_X8_in : GoodIn wsX8_letter (va_wsS RX8 145 yX8_in wsX8_in) := goodIn_app (goodIn_of _ (by decide +kernel)) ggX8_letter_X8_in
set_option maxRecDepth 20000 in
theorem ggX8_letter_X8_letterOf : GoodIn wsX8_letter wsX8_letterOf := goodIn_r _ [11, 2, 18, 19, 20, 21, 22, 23, 24, 25, 26, 27, 28, 29, 30, 31, 32, 33, 34, 35, 36, 37, 38, 39, 40, 41, 42, 43, 44, 45, 46, 47, 48, 49, 50] (by decide +kernel) (by decide +kernel)
set_option maxRecDepth 20000 in
theorem gX8_letter_X8_letterOf : GoodIn wsX8_letter (wsV RX8 183 RX8 yX8_letterOf wsX8_letterOf) := goodIn_app (goodIn_of _ (by decide +kernel)) ggX8_letter_X8_letterOf
set_option maxRecDepth 20000 in
theorem ggX8_letter_X8_errs : GoodIn wsX8_letter wsX8_errs := goodIn_r _ [15, 16, 17, 18, 19, 20, 21, 22, 23, 24, 25, 26, 27, 28, 29, 30, 31, 32, 33, 34, 35, 36, 37, 38, 39, 40, 41, 42, 43, 44, 45, 46, 47, 48, 49, 50] (by decide +kernel) (by decide +kernel)
set_option maxRecDepth 20000 in
theorem gX8_letter_X8_errs : GoodIn wsX8_letter (wsV RX8 150 RX8 yX8_errs wsX8_errs) := goodIn_app (goodIn_of _ (by decide +kernel)) ggX8_letter_X8_errs
theorem dX8_letter_0 : decode cX8_letter 0 = .ok (.iload_n 1, 1) := by decide +kernel
theorem dX8_letter_1 : decode cX8_letter 1 = .ok (.i2l, 1) := by decide +kernel
theorem dX8_letter_2 : decode cX8_letter 2 = .ok (.lconst 0, 1) := by decide +kernel
theorem dX8_letter_3 : decode cX8_letter 3 = .ok (.ldc2_w 163, 3) := by decide +kernel
theorem dX8_letter_6 : decode cX8_letter 6 = .ok (.invokestatic 145, 3) := by decide +kernel
theorem dX8_letter_9 : decode cX8_letter 9 = .ok (.ifCond .eq 36, 3) := by decide +kernel
theorem dX8_letter_12 : decode cX8_letter 12 = .ok (.iload_n 2, 1) := by decide +kernel
theorem dX8_letter_13 : decode cX8_letter 13 = .ok (.i2l, 1) := by decide +kernel
theorem dX8_letter_14 : decode cX8_letter 14 = .ok (.lconst 0, 1) := by decide +kernel
theorem dX8_letter_15 : decode cX8_letter 15 = .ok (.aload_n 0, 1) := by decide +kernel
theorem dX8_letter_16 : decode cX8_letter 16 = .ok (.getfield 9, 3) := by decide +kernel
theorem dX8_letter_19 : decode cX8_letter 19 = .ok (.bipush 86, 2) := by decide +kernel
theorem dX8_letter_21 : decode cX8_letter 21 = .ok (.bipush 9, 2) := by decide +kernel
theorem dX8_letter_23 : decode cX8_letter 23 = .ok (.iload_n 1, 1) := by decide +kernel
theorem dX8_letter_24 : decode cX8_letter 24 = .ok (.imul, 1) := by decide +kernel
theorem dX8_letter_25 : decode cX8_letter 25 = .ok (.iadd, 1) := by decide +kernel
theorem dX8_letter_26 : decode cX8_letter 26 = .ok (.iaload, 1) := by decide +kernel
theorem dX8_letter_27 : decode cX8_letter 27 = .ok (.iconst 1, 1) := by decide +kernel
theorem dX8_letter_28 : decode cX8_letter 28 = .ok (.isub, 1) := by decide +kernel
theorem dX8_letter_29 : decode cX8_letter 29 = .ok (.i2l, 1) := by decide +kernel
theorem dX8_letter_30 : decode cX8_letter 30 = .ok (.invokestatic 145, 3) := by decide +kernel
theorem dX8_letter_33 : decode cX8_letter 33 = .ok (.ifCond .eq 12, 3) := by decide +kernel
theorem dX8_letter_36 : decode cX8_letter 36 = .ok (.aload_n 0, 1) := by decide +kernel
theorem dX8_letter_37 : decode cX8_letter 37 = .ok (.iload_n 1, 1) := by decide +kernel
theorem dX8_letter_38 : decode cX8_letter 38 = .ok (.iload_n 2, 1) := by decide +kernel
theorem dX8_letter_39 : decode cX8_letter 39 = .ok (.invokevirtual 183, 3) := by decide +kernel
theorem dX8_letter_42 : decode cX8_letter 42 = .ok (.goto 9, 3) := by decide +kernel
theorem dX8_letter_45 : decode cX8_letter 45 = .ok (.aload_n 0, 1) := by decide +kernel
theorem dX8_letter_46 : decode cX8_letter 46 = .ok (.ldc 149, 2) := by decide +kernel
theorem dX8_letter_48 : decode cX8_letter 48 = .ok (.invokevirtual 150, 3) := by decide +kernel
theorem dX8_letter_51 : decode cX8_letter 51 = .ok (.ireturn, 1) := by decide +kernel
theorem dX8_begins_0 : decode cX8_begins 0 = .ok (.aload_n 0, 1) := by decide +kernel
theorem dX8_begins_1 : decode cX8_begins 1 = .ok (.iconst 0, 1) := by decide +kernel
theorem dX8_begins_2 : decode cX8_begins 2 = .ok (.putfield 186, 3) := by decide +kernel
theorem dX8_begins_5 : decode cX8_begins 5 = .ok (.iconst 0, 1) := by decide +kernel
theorem dX8_begins_6 : decode cX8_begins 6 = .ok (.istore_n 1, 1) := by decide +kernel
theorem dX8_begins_7 : decode cX8_begins 7 = .ok (.iload_n 1, 1) := by decide +kernel
theorem dX8_begins_8 : decode cX8_begins 8 = .ok (.bipush 16, 2) := by decide +kernel
theorem dX8_begins_10 : decode cX8_begins 10 = .ok (.if_icmp .ge 23, 3) := by decide +kernel
theorem dX8_begins_13 : decode cX8_begins 13 = .ok (.aload_n 0, 1) := by decide +kernel
theorem dX8_begins_14 : decode cX8_begins 14 = .ok (.getfield 41, 3) := by decide +kernel
theorem dX8_begins_17 : decode cX8_begins 17 = .ok (.iload_n 1, 1) := by decide +kernel
theorem dX8_begins_18 : decode cX8_begins 18 = .ok (.iload_n 1, 1) := by decide +kernel
theorem dX8_begins_19 : decode cX8_begins 19 = .ok (.iastore, 1) := by decide +kernel
theorem dX8_begins_20 : decode cX8_begins 20 = .ok (.aload_n 0, 1) := by decide +kernel
theorem dX8_begins_21 : decode cX8_begins 21 = .ok (.getfield 44, 3) := by decide +kernel
theorem dX8_begins_24 : decode cX8_begins 24 = .ok (.iload_n 1, 1) := by decide +kernel
theorem dX8_begins_25 : decode cX8_begins 25 = .ok (.iconst 0, 1) := by decide +kernel
theorem dX8_begins_26 : decode cX8_begins 26 = .ok (.iastore, 1) := by decide +kernel
theorem dX8_begins_27 : decode cX8_begins 27 = .ok (.iinc 1 1, 3) := by decide +kernel
theorem dX8_begins_30 : decode cX8_begins 30 = .ok (.goto (-23), 3) := by decide +kernel
theorem dX8_begins_33 : decode cX8_begins 33 = .ok (.return_, 1) := by decide +kernel
theorem dX8_cross_0 : decode cX8_cross 0 = .ok (.aload_n 0, 1) := by decide +kernel
theorem dX8_cross_1 : decode cX8_cross 1 = .ok (.getfield 41, 3) := by decide +kernel
theorem dX8_cross_4 : decode cX8_cross 4 = .ok (.iload_n 1, 1) := by decide +kernel
theorem dX8_cross_5 : decode cX8_cross 5 = .ok (.iaload, 1) := by decide +kernel
theorem dX8_cross_6 : decode cX8_cross 6 = .ok (.istore 4, 2) := by decide +kernel
theorem dX8_cross_8 : decode cX8_cross 8 = .ok (.aload_n 0, 1) := by decide +kernel
theorem dX8_cross_9 : decode cX8_cross 9 = .ok (.getfield 41, 3) := by decide +kernel
theorem dX8_cross_12 : decode cX8_cross 12 = .ok (.iload_n 1, 1) := by decide +kernel
theorem dX8_cross_13 : decode cX8_cross 13 = .ok (.iconst 1, 1) := by decide +kernel
theorem dX8_cross_14 : decode cX8_cross 14 = .ok (.iadd, 1) := by decide +kernel
theorem dX8_cross_15 : decode cX8_cross 15 = .ok (.iaload, 1) := by decide +kernel
theorem dX8_cross_16 : decode cX8_cross 16 = .ok (.istore 5, 2) := by decide +kernel
theorem dX8_cross_18 : decode cX8_cross 18 = .ok (.aload_n 0, 1) := by decide +kernel
theorem dX8_cross_19 : decode cX8_cross 19 = .ok (.getfield 41, 3) := by decide +kernel
theorem dX8_cross_22 : decode cX8_cross 22 = .ok (.iload_n 1, 1) := by decide +kernel
theorem dX8_cross_23 : decode cX8_cross 23 = .ok (.iload 5, 2) := by decide +kernel
theorem dX8_cross_25 : decode cX8_cross 25 = .ok (.iastore, 1) := by decide +kernel
theorem dX8_cross_26 : decode cX8_cross 26 = .ok (.aload_n 0, 1) := by decide +kernel
theorem dX8_cross_27 : decode cX8_cross 27 = .ok (.getfield 41, 3) := by decide +kernel
theorem dX8_cross_30 : decode cX8_cross 30 = .ok (.iload_n 1, 1) := by decide +kernel
theorem dX8_cross_31 : decode cX8_cross 31 = .ok (.iconst 1, 1) := by decide +kernel
theorem dX8_cross_32 : decode cX8_cross 32 = .ok (.iadd, 1) := by decide +kernel
theorem dX8_cross_33 : decode cX8_cross 33 = .ok (.iload 4, 2) := by decide +kernel
theorem dX8_cross_35 : decode cX8_cross 35 = .ok (.iastore, 1) := by decide +kernel
theorem dX8_cross_36 : decode cX8_cross 36 = .ok (.aload_n 0, 1) := by decide +kernel
theorem dX8_cross_37 : decode cX8_cross 37 = .ok (.getfield 47, 3) := by decide +kernel
theorem dX8_cross_40 : decode cX8_cross 40 = .ok (.aload_n 0, 1) := by decide +kernel
theorem dX8_cross_41 : decode cX8_cross 41 = .ok (.getfield 186, 3) := by decide +kernel
theorem dX8_cross_44 : decode cX8_cross 44 = .ok (.iload_n 1, 1) := by decide +kernel
theorem dX8_cross_45 : decode cX8_cross 45 = .ok (.iastore, 1) := by decide +kernel
theorem dX8_cross_46 : decode cX8_cross 46 = .ok (.aload_n 0, 1) := by decide +kernel
theorem dX8_cross_47 : decode cX8_cross 47 = .ok (.getfield 50, 3) := by decide +kernel
theorem dX8_cross_50 : decode cX8_cross 50 = .ok (.aload_n 0, 1) := by decide +kernel
theorem dX8_cross_51 : decode cX8_cross 51 = .ok (.getfield 186, 3) := by decide +kernel
theorem dX8_cross_54 : decode cX8_cross 54 = .ok (.iload_n 2, 1) := by decide +kernel
theorem dX8_cross_55 : decode cX8_cross 55 = .ok (.iastore, 1) := by decide +kernel
theorem dX8_cross_56 : decode cX8_cross 56 = .ok (.aload_n 0, 1) := by decide +kernel
theorem dX8_cross_57 : decode cX8_cross 57 = .ok (.getfield 53, 3) := by decide +kernel
theorem dX8_cross_60 : decode cX8_cross 60 = .ok (.aload_n 0, 1) := by decide +kernel
theorem dX8_cross_61 : decode cX8_cross 61 = .ok (.getfield 186, 3) := by decide +kernel
theorem dX8_cross_64 : decode cX8_cross 64 = .ok (.iload_n 2, 1) := by decide +kernel
theorem dX8_cross_65 : decode cX8_cross 65 = .ok (.iconst 1, 1) := by decide +kernel
theorem dX8_cross_66 : decode cX8_cross 66 = .ok (.if_icmp .ne 8, 3) := by decide +kernel
theorem dX8_cross_69 : decode cX8_cross 69 = .ok (.iload 4, 2) := by decide +kernel
theorem dX8_cross_71 : decode cX8_cross 71 = .ok (.goto 5, 3) := by decide +kernel
theorem dX8_cross_74 : decode cX8_cross 74 = .ok (.iload 5, 2) := by decide +kernel
theorem dX8_cross_76 : decode cX8_cross 76 = .ok (.iastore, 1) := by decide +kernel
theorem dX8_cross_77 : decode cX8_cross 77 = .ok (.aload_n 0, 1) := by decide +kernel
theorem dX8_cross_78 : decode cX8_cross 78 = .ok (.getfield 56, 3) := by decide +kernel
theorem dX8_cross_81 : decode cX8_cross 81 = .ok (.aload_n 0, 1) := by decide +kernel
theorem dX8_cross_82 : decode cX8_cross 82 = .ok (.getfield 186, 3) := by decide +kernel
theorem dX8_cross_85 : decode cX8_cross 85 = .ok (.iload_n 2, 1) := by decide +kernel
theorem dX8_cross_86 : decode cX8_cross 86 = .ok (.iconst 1, 1) := by decide +kernel
theorem dX8_cross_87 : decode cX8_cross 87 = .ok (.if_icmp .ne 8, 3) := by decide +kernel
theorem dX8_cross_90 : decode cX8_cross 90 = .ok (.iload 5, 2) := by decide +kernel
theorem dX8_cross_92 : decode cX8_cross 92 = .ok (.goto 5, 3) := by decide +kernel
theorem dX8_cross_95 : decode cX8_cross 95 = .ok (.iload 4, 2) := by decide +kernel
theorem dX8_cross_97 : decode cX8_cross 97 = .ok (.iastore, 1) := by decide +kernel
theorem dX8_cross_98 : decode cX8_cross 98 = .ok (.aload_n 0, 1) := by decide +kernel
theorem dX8_cross_99 : decode cX8_cross 99 = .ok (.getfield 59, 3) := by decide +kernel
theorem dX8_cross_102 : decode cX8_cross 102 = .ok (.aload_n 0, 1) := by decide +kernel
theorem dX8_cross_103 : decode cX8_cross 103 = .ok (.getfield 186, 3) := by decide +kernel
theorem dX8_cross_106 : decode cX8_cross 106 = .ok (.iload_n 3, 1) := by decide +kernel
theorem dX8_cross_107 : decode cX8_cross 107 = .ok (.iastore, 1) := by decide +kernel
theorem dX8_cross_108 : decode cX8_cross 108 = .ok (.aload_n 0, 1) := by decide +kernel
theorem dX8_cross_109 : decode cX8_cross 109 = .ok (.getfield 44, 3) := by decide +kernel
theorem dX8_cross_112 : decode cX8_cross 112 = .ok (.aload_n 0, 1) := by decide +kernel
theorem dX8_cross_113 : decode cX8_cross 113 = .ok (.getfield 53, 3) := by decide +kernel
theorem dX8_cross_116 : decode cX8_cross 116 = .ok (.aload_n 0, 1) := by decide +kernel
theorem dX8_cross_117 : decode cX8_cross 117 = .ok (.getfield 186, 3) := by decide +kernel
theorem dX8_cross_120 : decode cX8_cross 120 = .ok (.iaload, 1) := by decide +kernel
theorem dX8_cross_121 : decode cX8_cross 121 = .ok (.dup2, 1) := by decide +kernel
theorem dX8_cross_122 : decode cX8_cross 122 = .ok (.iaload, 1) := by decide +kernel
theorem dX8_cross_123 : decode cX8_cross 123 = .ok (.iconst 2, 1) := by decide +kernel
theorem dX8_cross_124 : decode cX8_cross 124 = .ok (.iadd, 1) := by decide +kernel
theorem dX8_cross_125 : decode cX8_cross 125 = .ok (.iastore, 1) := by decide +kernel
theorem dX8_cross_126 : decode cX8_cross 126 = .ok (.aload_n 0, 1) := by decide +kernel
theorem dX8_cross_127 : decode cX8_cross 127 = .ok (.getfield 44, 3) := by decide +kernel
theorem dX8_cross_130 : decode cX8_cross 130 = .ok (.aload_n 0, 1) := by decide +kernel
theorem dX8_cross_131 : decode cX8_cross 131 = .ok (.getfield 56, 3) := by decide +kernel
theorem dX8_cross_134 : decode cX8_cross 134 = .ok (.aload_n 0, 1) := by decide +kernel
theorem dX8_cross_135 : decode cX8_cross 135 = .ok (.getfield 186, 3) := by decide +kernel
theorem dX8_cross_138 : decode cX8_cross 138 = .ok (.iaload, 1) := by decide +kernel
theorem dX8_cross_139 : decode cX8_cross 139 = .ok (.dup2, 1) := by decide +kernel
theorem dX8_cross_140 : decode cX8_cross 140 = .ok (.iaload, 1) := by decide +kernel
theorem dX8_cross_141 : decode cX8_cross 141 = .ok (.iconst 1, 1) := by decide +kernel
theorem dX8_cross_142 : decode cX8_cross 142 = .ok (.iadd, 1) := by decide +kernel
theorem dX8_cross_143 : decode cX8_cross 143 = .ok (.iastore, 1) := by decide +kernel
theorem dX8_cross_144 : decode cX8_cross 144 = .ok (.aload_n 0, 1) := by decide +kernel
theorem dX8_cross_145 : decode cX8_cross 145 = .ok (.dup, 1) := by decide +kernel
theorem dX8_cross_146 : decode cX8_cross 146 = .ok (.getfield 186, 3) := by decide +kernel
theorem dX8_cross_149 : decode cX8_cross 149 = .ok (.iconst 1, 1) := by decide +kernel
theorem dX8_cross_150 : decode cX8_cross 150 = .ok (.iadd, 1) := by decide +kernel
theorem dX8_cross_151 : decode cX8_cross 151 = .ok (.putfield 186, 3) := by decide +kernel
theorem dX8_cross_154 : decode cX8_cross 154 = .ok (.return_, 1) := by decide +kernel
set_option maxRecDepth 20000 in
theorem ggX8_spells_X8_letterOf : GoodIn wsX8_spells wsX8_letterOf := goodIn_r _ [6, 1, 19, 20, 21, 22, 23, 24, 25, 26, 27, 28, 29, 30, 31, 32, 33, 34, 35, 36, 37, 38, 39, 40, 41, 42, 43, 44, 45, 46, 47, 48, 49, 50, 51] (by decide +kernel) (by decide +kernel)
set_option maxRecDepth 20000 in
theorem gX8_spells_X8_letterOf : GoodIn wsX8_spells (wsV RX8 183 RX8 yX8_letterOf wsX8_letterOf) := goodIn_app (goodIn_of _ (by decide +kernel)) ggX8_spells_X8_letterOf
set_option maxRecDepth 20000 in
theorem ggX8_spells_X8_cross : GoodIn wsX8_spells wsX8_cross := goodIn_r _ [10, 11, 12, 13, 14, 15, 16, 17, 18, 19, 20, 21, 22, 23, 24, 25, 26, 27, 28, 29, 30, 31, 32, 33, 34, 35, 36, 37, 38, 39, 40, 41, 42, 43, 44, 45, 46, 47, 48, 49, 50, 51] (by decide +kernel) (by decide +kernel)
set_option maxRecDepth 20000 in
theorem gX8_spells_X8_cross : GoodIn wsX8_spells (wsV RX8 189 RX8 yX8_cross wsX8_cross) := goodIn_app (goodIn_of _ (by decide +kernel)) ggX8_spells_X8_cross
theorem dX8_spells_0 : decode cX8_spells 0 = .ok (.iconst 0, 1) := by decide +kernel
theorem dX8_spells_1 : decode cX8_spells 1 = .ok (.istore 4, 2) := by decide +kernel
theorem dX8_spells_3 : decode cX8_spells 3 = .ok (.iload 4, 2) := by decide +kernel
theorem dX8_spells_5 : decode cX8_spells 5 = .ok (.aload_n 0, 1) := by decide +kernel
theorem dX8_spells_6 : decode cX8_spells 6 = .ok (.getfield 9, 3) := by decide +kernel
theorem dX8_spells_9 : decode cX8_spells 9 = .ok (.bipush 86, 2) := by decide +kernel
theorem dX8_spells_11 : decode cX8_spells 11 = .ok (.bipush 9, 2) := by decide +kernel
theorem dX8_spells_13 : decode cX8_spells 13 = .ok (.iload_n 1, 1) := by decide +kernel
theorem dX8_spells_14 : decode cX8_spells 14 = .ok (.imul, 1) := by decide +kernel
theorem dX8_spells_15 : decode cX8_spells 15 = .ok (.iadd, 1) := by decide +kernel
theorem dX8_spells_16 : decode cX8_spells 16 = .ok (.iaload, 1) := by decide +kernel
theorem dX8_spells_17 : decode cX8_spells 17 = .ok (.if_icmp .ge 99, 3) := by decide +kernel
theorem dX8_spells_20 : decode cX8_spells 20 = .ok (.aload_n 0, 1) := by decide +kernel
theorem dX8_spells_21 : decode cX8_spells 21 = .ok (.iload_n 1, 1) := by decide +kernel
theorem dX8_spells_22 : decode cX8_spells 22 = .ok (.iload 4, 2) := by decide +kernel
theorem dX8_spells_24 : decode cX8_spells 24 = .ok (.invokevirtual 183, 3) := by decide +kernel
theorem dX8_spells_27 : decode cX8_spells 27 = .ok (.istore 5, 2) := by decide +kernel
theorem dX8_spells_29 : decode cX8_spells 29 = .ok (.iload 5, 2) := by decide +kernel
theorem dX8_spells_31 : decode cX8_spells 31 = .ok (.bipush 99, 2) := by decide +kernel
theorem dX8_spells_33 : decode cX8_spells 33 = .ok (.if_icmp .eq 10, 3) := by decide +kernel
theorem dX8_spells_36 : decode cX8_spells 36 = .ok (.iload 5, 2) := by decide +kernel
theorem dX8_spells_38 : decode cX8_spells 38 = .ok (.bipush 67, 2) := by decide +kernel
theorem dX8_spells_40 : decode cX8_spells 40 = .ok (.if_icmp .ne 28, 3) := by decide +kernel
theorem dX8_spells_43 : decode cX8_spells 43 = .ok (.aload_n 0, 1) := by decide +kernel
theorem dX8_spells_44 : decode cX8_spells 44 = .ok (.iconst 2, 1) := by decide +kernel
theorem dX8_spells_45 : decode cX8_spells 45 = .ok (.iload_n 2, 1) := by decide +kernel
theorem dX8_spells_46 : decode cX8_spells 46 = .ok (.imul, 1) := by decide +kernel
theorem dX8_spells_47 : decode cX8_spells 47 = .ok (.iconst 1, 1) := by decide +kernel
theorem dX8_spells_48 : decode cX8_spells 48 = .ok (.iadd, 1) := by decide +kernel
theorem dX8_spells_49 : decode cX8_spells 49 = .ok (.iload 5, 2) := by decide +kernel
theorem dX8_spells_51 : decode cX8_spells 51 = .ok (.bipush 99, 2) := by decide +kernel
theorem dX8_spells_53 : decode cX8_spells 53 = .ok (.if_icmp .ne 7, 3) := by decide +kernel
theorem dX8_spells_56 : decode cX8_spells 56 = .ok (.iconst 1, 1) := by decide +kernel
theorem dX8_spells_57 : decode cX8_spells 57 = .ok (.goto 4, 3) := by decide +kernel
theorem dX8_spells_60 : decode cX8_spells 60 = .ok (.iconst 2, 1) := by decide +kernel
theorem dX8_spells_61 : decode cX8_spells 61 = .ok (.iload_n 3, 1) := by decide +kernel
theorem dX8_spells_62 : decode cX8_spells 62 = .ok (.invokevirtual 189, 3) := by decide +kernel
theorem dX8_spells_65 : decode cX8_spells 65 = .ok (.goto 45, 3) := by decide +kernel
theorem dX8_spells_68 : decode cX8_spells 68 = .ok (.aload_n 0, 1) := by decide +kernel
theorem dX8_spells_69 : decode cX8_spells 69 = .ok (.iconst 2, 1) := by decide +kernel
theorem dX8_spells_70 : decode cX8_spells 70 = .ok (.iload_n 2, 1) := by decide +kernel
theorem dX8_spells_71 : decode cX8_spells 71 = .ok (.imul, 1) := by decide +kernel
theorem dX8_spells_72 : decode cX8_spells 72 = .ok (.iload 5, 2) := by decide +kernel
theorem dX8_spells_74 : decode cX8_spells 74 = .ok (.bipush 116, 2) := by decide +kernel
theorem dX8_spells_76 : decode cX8_spells 76 = .ok (.if_icmp .ne 7, 3) := by decide +kernel
theorem dX8_spells_79 : decode cX8_spells 79 = .ok (.iconst 2, 1) := by decide +kernel
theorem dX8_spells_80 : decode cX8_spells 80 = .ok (.goto 4, 3) := by decide +kernel
theorem dX8_spells_83 : decode cX8_spells 83 = .ok (.iconst 1, 1) := by decide +kernel
theorem dX8_spells_84 : decode cX8_spells 84 = .ok (.iload_n 3, 1) := by decide +kernel
theorem dX8_spells_85 : decode cX8_spells 85 = .ok (.invokevirtual 189, 3) := by decide +kernel
theorem dX8_spells_88 : decode cX8_spells 88 = .ok (.aload_n 0, 1) := by decide +kernel
theorem dX8_spells_89 : decode cX8_spells 89 = .ok (.iconst 2, 1) := by decide +kernel
theorem dX8_spells_90 : decode cX8_spells 90 = .ok (.iload_n 2, 1) := by decide +kernel
theorem dX8_spells_91 : decode cX8_spells 91 = .ok (.imul, 1) := by decide +kernel
theorem dX8_spells_92 : decode cX8_spells 92 = .ok (.iconst 2, 1) := by decide +kernel
theorem dX8_spells_93 : decode cX8_spells 93 = .ok (.iadd, 1) := by decide +kernel
theorem dX8_spells_94 : decode cX8_spells 94 = .ok (.iload 5, 2) := by decide +kernel
theorem dX8_spells_96 : decode cX8_spells 96 = .ok (.bipush 116, 2) := by decide +kernel
theorem dX8_spells_98 : decode cX8_spells 98 = .ok (.if_icmp .ne 7, 3) := by decide +kernel
theorem dX8_spells_101 : decode cX8_spells 101 = .ok (.iconst 2, 1) := by decide +kernel
theorem dX8_spells_102 : decode cX8_spells 102 = .ok (.goto 4, 3) := by decide +kernel
theorem dX8_spells_105 : decode cX8_spells 105 = .ok (.iconst 1, 1) := by decide +kernel
theorem dX8_spells_106 : decode cX8_spells 106 = .ok (.iload_n 3, 1) := by decide +kernel
theorem dX8_spells_107 : decode cX8_spells 107 = .ok (.invokevirtual 189, 3) := by decide +kernel
theorem dX8_spells_110 : decode cX8_spells 110 = .ok (.iinc 4 1, 3) := by decide +kernel
theorem dX8_spells_113 : decode cX8_spells 113 = .ok (.goto (-110), 3) := by decide +kernel
theorem dX8_spells_116 : decode cX8_spells 116 = .ok (.return_, 1) := by decide +kernel
set_option maxRecDepth 20000 in
theorem ggX8_works_X8_spells : GoodIn wsX8_works wsX8_spells := goodIn_r _ [9, 10, 11, 12, 13, 8, 14, 15, 16, 17, 18, 3, 19, 20, 21, 22, 23, 24, 2, 25, 26, 27, 28, 29, 30, 31, 32, 33, 34, 35, 36, 37, 38, 39, 40, 41, 42, 43, 44, 45, 46, 47, 48, 49, 50, 51, 52, 53, 54, 55, 56, 57] (by decide +kernel) (by decide +kernel)
set_option maxRecDepth 20000 in
theorem gX8_works_X8_spells : GoodIn wsX8_works (wsV RX8 193 RX8 yX8_spells wsX8_spells) := goodIn_app (goodIn_of _ (by decide +kernel)) ggX8_works_X8_spells
theorem dX8_works_0 : decode cX8_works 0 = .ok (.iconst 2, 1) := by decide +kernel
theorem dX8_works_1 : decode cX8_works 1 = .ok (.aload_n 0, 1) := by decide +kernel
theorem dX8_works_2 : decode cX8_works 2 = .ok (.getfield 25, 3) := by decide +kernel
theorem dX8_works_5 : decode cX8_works 5 = .ok (.iload_n 1, 1) := by decide +kernel
theorem dX8_works_6 : decode cX8_works 6 = .ok (.iaload, 1) := by decide +kernel
theorem dX8_works_7 : decode cX8_works 7 = .ok (.imul, 1) := by decide +kernel
theorem dX8_works_8 : decode cX8_works 8 = .ok (.istore_n 3, 1) := by decide +kernel
theorem dX8_works_9 : decode cX8_works 9 = .ok (.iload_n 3, 1) := by decide +kernel
theorem dX8_works_10 : decode cX8_works 10 = .ok (.iconst 2, 1) := by decide +kernel
theorem dX8_works_11 : decode cX8_works 11 = .ok (.aload_n 0, 1) := by decide +kernel
theorem dX8_works_12 : decode cX8_works 12 = .ok (.getfield 25, 3) := by decide +kernel
theorem dX8_works_15 : decode cX8_works 15 = .ok (.iload_n 1, 1) := by decide +kernel
theorem dX8_works_16 : decode cX8_works 16 = .ok (.iaload, 1) := by decide +kernel
theorem dX8_works_17 : decode cX8_works 17 = .ok (.imul, 1) := by decide +kernel
theorem dX8_works_18 : decode cX8_works 18 = .ok (.iconst 4, 1) := by decide +kernel
theorem dX8_works_19 : decode cX8_works 19 = .ok (.iadd, 1) := by decide +kernel
theorem dX8_works_20 : decode cX8_works 20 = .ok (.if_icmp .ge 28, 3) := by decide +kernel
theorem dX8_works_23 : decode cX8_works 23 = .ok (.iload_n 2, 1) := by decide +kernel
theorem dX8_works_24 : decode cX8_works 24 = .ok (.ifCond .eq 24, 3) := by decide +kernel
theorem dX8_works_27 : decode cX8_works 27 = .ok (.aload_n 0, 1) := by decide +kernel
theorem dX8_works_28 : decode cX8_works 28 = .ok (.getfield 44, 3) := by decide +kernel
theorem dX8_works_31 : decode cX8_works 31 = .ok (.aload_n 0, 1) := by decide +kernel
theorem dX8_works_32 : decode cX8_works 32 = .ok (.getfield 41, 3) := by decide +kernel
theorem dX8_works_35 : decode cX8_works 35 = .ok (.iload_n 3, 1) := by decide +kernel
theorem dX8_works_36 : decode cX8_works 36 = .ok (.iaload, 1) := by decide +kernel
theorem dX8_works_37 : decode cX8_works 37 = .ok (.dup2, 1) := by decide +kernel
theorem dX8_works_38 : decode cX8_works 38 = .ok (.iaload, 1) := by decide +kernel
theorem dX8_works_39 : decode cX8_works 39 = .ok (.iconst 1, 1) := by decide +kernel
theorem dX8_works_40 : decode cX8_works 40 = .ok (.iadd, 1) := by decide +kernel
theorem dX8_works_41 : decode cX8_works 41 = .ok (.iastore, 1) := by decide +kernel
theorem dX8_works_42 : decode cX8_works 42 = .ok (.iinc 3 1, 3) := by decide +kernel
theorem dX8_works_45 : decode cX8_works 45 = .ok (.goto (-36), 3) := by decide +kernel
theorem dX8_works_48 : decode cX8_works 48 = .ok (.aload_n 0, 1) := by decide +kernel
theorem dX8_works_49 : decode cX8_works 49 = .ok (.aload_n 0, 1) := by decide +kernel
theorem dX8_works_50 : decode cX8_works 50 = .ok (.getfield 28, 3) := by decide +kernel
theorem dX8_works_53 : decode cX8_works 53 = .ok (.iload_n 1, 1) := by decide +kernel
theorem dX8_works_54 : decode cX8_works 54 = .ok (.iaload, 1) := by decide +kernel
theorem dX8_works_55 : decode cX8_works 55 = .ok (.aload_n 0, 1) := by decide +kernel
theorem dX8_works_56 : decode cX8_works 56 = .ok (.getfield 25, 3) := by decide +kernel
theorem dX8_works_59 : decode cX8_works 59 = .ok (.iload_n 1, 1) := by decide +kernel
theorem dX8_works_60 : decode cX8_works 60 = .ok (.iaload, 1) := by decide +kernel
theorem dX8_works_61 : decode cX8_works 61 = .ok (.iload_n 1, 1) := by decide +kernel
theorem dX8_works_62 : decode cX8_works 62 = .ok (.invokevirtual 193, 3) := by decide +kernel
theorem dX8_works_65 : decode cX8_works 65 = .ok (.return_, 1) := by decide +kernel
set_option maxRecDepth 20000 in
theorem ggX8_theWork_X8_begins : GoodIn wsX8_theWork wsX8_begins := goodIn_r _ [6, 7, 8, 9, 33, 34, 35, 36, 37, 38, 39, 40, 41, 42, 43, 44, 45, 46, 47, 48, 49, 50, 51, 52, 53, 54, 55, 56, 57, 58, 59, 60, 61, 62, 63, 64, 65] (by decide +kernel) (by decide +kernel)
set_option maxRecDepth 20000 in
theorem gX8_theWork_X8_begins : GoodIn wsX8_theWork (wsV RX8 196 RX8 yX8_begins wsX8_begins) := goodIn_app (goodIn_of _ (by decide +kernel)) ggX8_theWork_X8_begins
set_option maxRecDepth 20000 in
theorem ggX8_theWork_X8_works : GoodIn wsX8_theWork wsX8_works := goodIn_r _ [13, 14, 9, 8, 15, 16, 17, 18, 5, 19, 1, 20, 21, 22, 23, 24, 25, 26, 27, 28, 7, 29, 30, 31, 32, 33, 34, 35, 36, 37, 38, 39, 40, 41, 42, 43, 44, 45, 46, 47, 48, 49, 50, 51, 52, 53, 54, 55, 56, 57, 58, 59, 60, 61, 62, 63, 64, 65] (by decide +kernel) (by decide +kernel)
set_option maxRecDepth 20000 in
theorem gX8_theWork_X8_works : GoodIn wsX8_theWork (wsV RX8 199 RX8 yX8_works wsX8_works) := goodIn_app (goodIn_of _ (by decide +kernel)) ggX8_theWork_X8_works
theorem dX8_theWork_0 : decode cX8_theWork 0 = .ok (.aload_n 0, 1) := by decide +kernel
theorem dX8_theWork_1 : decode cX8_theWork 1 = .ok (.invokevirtual 196, 3) := by decide +kernel
theorem dX8_theWork_4 : decode cX8_theWork 4 = .ok (.iconst 0, 1) := by decide +kernel
theorem dX8_theWork_5 : decode cX8_theWork 5 = .ok (.istore_n 1, 1) := by decide +kernel
theorem dX8_theWork_6 : decode cX8_theWork 6 = .ok (.iload_n 1, 1) := by decide +kernel
theorem dX8_theWork_7 : decode cX8_theWork 7 = .ok (.aload_n 0, 1) := by decide +kernel
theorem dX8_theWork_8 : decode cX8_theWork 8 = .ok (.getfield 9, 3) := by decide +kernel
theorem dX8_theWork_11 : decode cX8_theWork 11 = .ok (.iconst 1, 1) := by decide +kernel
theorem dX8_theWork_12 : decode cX8_theWork 12 = .ok (.iaload, 1) := by decide +kernel
theorem dX8_theWork_13 : decode cX8_theWork 13 = .ok (.if_icmp .ge 24, 3) := by decide +kernel
theorem dX8_theWork_16 : decode cX8_theWork 16 = .ok (.aload_n 0, 1) := by decide +kernel
theorem dX8_theWork_17 : decode cX8_theWork 17 = .ok (.aload_n 0, 1) := by decide +kernel
theorem dX8_theWork_18 : decode cX8_theWork 18 = .ok (.getfield 9, 3) := by decide +kernel
theorem dX8_theWork_21 : decode cX8_theWork 21 = .ok (.sipush 156, 3) := by decide +kernel
theorem dX8_theWork_24 : decode cX8_theWork 24 = .ok (.iload_n 1, 1) := by decide +kernel
theorem dX8_theWork_25 : decode cX8_theWork 25 = .ok (.iadd, 1) := by decide +kernel
theorem dX8_theWork_26 : decode cX8_theWork 26 = .ok (.iaload, 1) := by decide +kernel
theorem dX8_theWork_27 : decode cX8_theWork 27 = .ok (.iconst 1, 1) := by decide +kernel
theorem dX8_theWork_28 : decode cX8_theWork 28 = .ok (.invokevirtual 199, 3) := by decide +kernel
theorem dX8_theWork_31 : decode cX8_theWork 31 = .ok (.iinc 1 1, 3) := by decide +kernel
theorem dX8_theWork_34 : decode cX8_theWork 34 = .ok (.goto (-28), 3) := by decide +kernel
theorem dX8_theWork_37 : decode cX8_theWork 37 = .ok (.return_, 1) := by decide +kernel
set_option maxRecDepth 20000 in
theorem ggX8_first_X8_begins : GoodIn wsX8_first wsX8_begins := goodIn_r _ [5, 6, 7, 8, 33, 34, 35, 36, 37, 38, 39, 40, 41, 42, 43, 44, 45, 46, 47, 48, 49, 50, 51, 52, 53, 54, 55, 56, 57, 58, 59, 60, 61, 62, 63, 64, 65] (by decide +kernel) (by decide +kernel)
set_option maxRecDepth 20000 in
theorem gX8_first_X8_begins : GoodIn wsX8_first (wsV RX8 196 RX8 yX8_begins wsX8_begins) := goodIn_app (goodIn_of _ (by decide +kernel)) ggX8_first_X8_begins
set_option maxRecDepth 20000 in
theorem ggX8_first_X8_works : GoodIn wsX8_first wsX8_works := goodIn_r _ [12, 13, 8, 7, 14, 15, 16, 17, 4, 18, 19, 20, 21, 22, 23, 24, 25, 26, 27, 28, 6, 29, 30, 31, 32, 33, 34, 35, 36, 37, 38, 39, 40, 41, 42, 43, 44, 45, 46, 47, 48, 49, 50, 51, 52, 53, 54, 55, 56, 57, 58, 59, 60, 61, 62, 63, 64, 65] (by decide +kernel) (by decide +kernel)
set_option maxRecDepth 20000 in
theorem gX8_first_X8_works : GoodIn wsX8_first (wsV RX8 199 RX8 yX8_works wsX8_works) := goodIn_app (goodIn_of _ (by decide +kernel)) ggX8_first_X8_works
theorem dX8_first_0 : decode cX8_first 0 = .ok (.aload_n 0, 1) := by decide +kernel
theorem dX8_first_1 : decode cX8_first 1 = .ok (.invokevirtual 196, 3) := by decide +kernel
theorem dX8_first_4 : decode cX8_first 4 = .ok (.iconst 0, 1) := by decide +kernel
theorem dX8_first_5 : decode cX8_first 5 = .ok (.istore_n 2, 1) := by decide +kernel
theorem dX8_first_6 : decode cX8_first 6 = .ok (.iload_n 2, 1) := by decide +kernel
theorem dX8_first_7 : decode cX8_first 7 = .ok (.iload_n 1, 1) := by decide +kernel
theorem dX8_first_8 : decode cX8_first 8 = .ok (.if_icmp .ge 15, 3) := by decide +kernel
theorem dX8_first_11 : decode cX8_first 11 = .ok (.aload_n 0, 1) := by decide +kernel
theorem dX8_first_12 : decode cX8_first 12 = .ok (.iload_n 2, 1) := by decide +kernel
theorem dX8_first_13 : decode cX8_first 13 = .ok (.iconst 1, 1) := by decide +kernel
theorem dX8_first_14 : decode cX8_first 14 = .ok (.invokevirtual 199, 3) := by decide +kernel
theorem dX8_first_17 : decode cX8_first 17 = .ok (.iinc 2 1, 3) := by decide +kernel
theorem dX8_first_20 : decode cX8_first 20 = .ok (.goto (-14), 3) := by decide +kernel
theorem dX8_first_23 : decode cX8_first 23 = .ok (.return_, 1) := by decide +kernel
set_option maxRecDepth 20000 in
theorem ggX8_whole_X8_theWork : GoodIn wsX8_whole wsX8_theWork := goodIn_r _ [6, 7, 8, 9, 10, 5, 11, 12, 13, 14, 15, 16, 17, 18, 19, 20, 21, 22, 23, 24, 25, 26, 27, 28, 29, 30, 31, 32, 33, 34, 35, 36, 37, 42, 43, 44, 45, 46, 47, 48, 49, 50, 51, 52, 53, 54, 55, 56, 57, 58, 59, 60, 61, 62, 63, 64, 65, 66, 67, 68, 69, 70, 71, 72, 73, 74] (by decide +kernel) (by decide +kernel)
set_option maxRecDepth 20000 in
theorem gX8_whole_X8_theWork : GoodIn wsX8_whole (wsV RX8 203 RX8 yX8_theWork wsX8_theWork) := goodIn_app (goodIn_of _ (by decide +kernel)) ggX8_whole_X8_theWork
set_option maxRecDepth 20000 in
theorem ggX8_whole_X8_first : GoodIn wsX8_whole wsX8_first := goodIn_r _ [41, 8, 9, 10, 5, 11, 12, 13, 14, 15, 16, 17, 18, 19, 20, 21, 22, 23, 24, 7, 25, 26, 27, 28, 29, 30, 31, 32, 33, 34, 35, 36, 37, 42, 43, 44, 45, 46, 47, 48, 49, 50, 51, 52, 53, 54, 55, 56, 57, 58, 59, 60, 61, 62, 63, 64, 65, 66, 67, 68, 69, 70, 71, 72, 73, 74] (by decide +kernel) (by decide +kernel)
set_option maxRecDepth 20000 in
theorem gX8_whole_X8_first : GoodIn wsX8_whole (wsV RX8 206 RX8 yX8_first wsX8_first) := goodIn_app (goodIn_of _ (by decide +kernel)) ggX8_whole_X8_first
theorem dX8_whole_0 : decode cX8_whole 0 = .ok (.iload_n 1, 1) := by decide +kernel
theorem dX8_whole_1 : decode cX8_whole 1 = .ok (.ifCond .ne 10, 3) := by decide +kernel
theorem dX8_whole_4 : decode cX8_whole 4 = .ok (.aload_n 0, 1) := by decide +kernel
theorem dX8_whole_5 : decode cX8_whole 5 = .ok (.invokevirtual 203, 3) := by decide +kernel
theorem dX8_whole_8 : decode cX8_whole 8 = .ok (.goto 11, 3) := by decide +kernel
theorem dX8_whole_11 : decode cX8_whole 11 = .ok (.aload_n 0, 1) := by decide +kernel
theorem dX8_whole_12 : decode cX8_whole 12 = .ok (.aload_n 0, 1) := by decide +kernel
theorem dX8_whole_13 : decode cX8_whole 13 = .ok (.getfield 120, 3) := by decide +kernel
theorem dX8_whole_16 : decode cX8_whole 16 = .ok (.invokevirtual 206, 3) := by decide +kernel
theorem dX8_whole_19 : decode cX8_whole 19 = .ok (.return_, 1) := by decide +kernel
theorem dX8_drop_0 : decode cX8_drop 0 = .ok (.aload_n 0, 1) := by decide +kernel
theorem dX8_drop_1 : decode cX8_drop 1 = .ok (.dup, 1) := by decide +kernel
theorem dX8_drop_2 : decode cX8_drop 2 = .ok (.getfield 210, 3) := by decide +kernel
theorem dX8_drop_5 : decode cX8_drop 5 = .ok (.iconst 1, 1) := by decide +kernel
theorem dX8_drop_6 : decode cX8_drop 6 = .ok (.isub, 1) := by decide +kernel
theorem dX8_drop_7 : decode cX8_drop 7 = .ok (.putfield 210, 3) := by decide +kernel
theorem dX8_drop_10 : decode cX8_drop 10 = .ok (.iload_n 1, 1) := by decide +kernel
theorem dX8_drop_11 : decode cX8_drop 11 = .ok (.istore_n 2, 1) := by decide +kernel
theorem dX8_drop_12 : decode cX8_drop 12 = .ok (.iload_n 2, 1) := by decide +kernel
theorem dX8_drop_13 : decode cX8_drop 13 = .ok (.aload_n 0, 1) := by decide +kernel
theorem dX8_drop_14 : decode cX8_drop 14 = .ok (.getfield 210, 3) := by decide +kernel
theorem dX8_drop_17 : decode cX8_drop 17 = .ok (.if_icmp .ge 37, 3) := by decide +kernel
theorem dX8_drop_20 : decode cX8_drop 20 = .ok (.aload_n 0, 1) := by decide +kernel
theorem dX8_drop_21 : decode cX8_drop 21 = .ok (.getfield 62, 3) := by decide +kernel
theorem dX8_drop_24 : decode cX8_drop 24 = .ok (.iload_n 2, 1) := by decide +kernel
theorem dX8_drop_25 : decode cX8_drop 25 = .ok (.aload_n 0, 1) := by decide +kernel
theorem dX8_drop_26 : decode cX8_drop 26 = .ok (.getfield 62, 3) := by decide +kernel
theorem dX8_drop_29 : decode cX8_drop 29 = .ok (.iload_n 2, 1) := by decide +kernel
theorem dX8_drop_30 : decode cX8_drop 30 = .ok (.iconst 1, 1) := by decide +kernel
theorem dX8_drop_31 : decode cX8_drop 31 = .ok (.iadd, 1) := by decide +kernel
theorem dX8_drop_32 : decode cX8_drop 32 = .ok (.iaload, 1) := by decide +kernel
theorem dX8_drop_33 : decode cX8_drop 33 = .ok (.iastore, 1) := by decide +kernel
theorem dX8_drop_34 : decode cX8_drop 34 = .ok (.aload_n 0, 1) := by decide +kernel
theorem dX8_drop_35 : decode cX8_drop 35 = .ok (.getfield 65, 3) := by decide +kernel
theorem dX8_drop_38 : decode cX8_drop 38 = .ok (.iload_n 2, 1) := by decide +kernel
theorem dX8_drop_39 : decode cX8_drop 39 = .ok (.aload_n 0, 1) := by decide +kernel
theorem dX8_drop_40 : decode cX8_drop 40 = .ok (.getfield 65, 3) := by decide +kernel
theorem dX8_drop_43 : decode cX8_drop 43 = .ok (.iload_n 2, 1) := by decide +kernel
theorem dX8_drop_44 : decode cX8_drop 44 = .ok (.iconst 1, 1) := by decide +kernel
theorem dX8_drop_45 : decode cX8_drop 45 = .ok (.iadd, 1) := by decide +kernel
theorem dX8_drop_46 : decode cX8_drop 46 = .ok (.iaload, 1) := by decide +kernel
theorem dX8_drop_47 : decode cX8_drop 47 = .ok (.iastore, 1) := by decide +kernel
theorem dX8_drop_48 : decode cX8_drop 48 = .ok (.iinc 2 1, 3) := by decide +kernel
theorem dX8_drop_51 : decode cX8_drop 51 = .ok (.goto (-39), 3) := by decide +kernel
theorem dX8_drop_54 : decode cX8_drop 54 = .ok (.return_, 1) := by decide +kernel
set_option maxRecDepth 20000 in
theorem ggX8_comes_X8_drop : GoodIn wsX8_comes wsX8_drop := goodIn_r _ [8, 1, 2, 3, 9, 10, 11, 12, 13, 14, 15, 16, 17, 18, 19, 20, 21, 22, 23, 24, 25, 26, 27, 28, 29, 30, 31, 32, 33, 34, 35, 36, 37, 38, 39, 40, 41] (by decide +kernel) (by decide +kernel)
set_option maxRecDepth 20000 in
theorem gX8_comes_X8_drop : GoodIn wsX8_comes (wsV RX8 213 RX8 yX8_drop wsX8_drop) := goodIn_app (goodIn_of _ (by decide +kernel)) ggX8_comes_X8_drop
theorem dX8_comes_0 : decode cX8_comes 0 = .ok (.aload_n 0, 1) := by decide +kernel
theorem dX8_comes_1 : decode cX8_comes 1 = .ok (.getfield 210, 3) := by decide +kernel
theorem dX8_comes_4 : decode cX8_comes 4 = .ok (.iconst 1, 1) := by decide +kernel
theorem dX8_comes_5 : decode cX8_comes 5 = .ok (.isub, 1) := by decide +kernel
theorem dX8_comes_6 : decode cX8_comes 6 = .ok (.istore_n 3, 1) := by decide +kernel
theorem dX8_comes_7 : decode cX8_comes 7 = .ok (.iload_n 3, 1) := by decide +kernel
theorem dX8_comes_8 : decode cX8_comes 8 = .ok (.ifCond .lt 33, 3) := by decide +kernel
theorem dX8_comes_11 : decode cX8_comes 11 = .ok (.aload_n 0, 1) := by decide +kernel
theorem dX8_comes_12 : decode cX8_comes 12 = .ok (.getfield 62, 3) := by decide +kernel
theorem dX8_comes_15 : decode cX8_comes 15 = .ok (.iload_n 3, 1) := by decide +kernel
theorem dX8_comes_16 : decode cX8_comes 16 = .ok (.iaload, 1) := by decide +kernel
theorem dX8_comes_17 : decode cX8_comes 17 = .ok (.iload_n 1, 1) := by decide +kernel
theorem dX8_comes_18 : decode cX8_comes 18 = .ok (.iconst 1, 1) := by decide +kernel
theorem dX8_comes_19 : decode cX8_comes 19 = .ok (.isub, 1) := by decide +kernel
theorem dX8_comes_20 : decode cX8_comes 20 = .ok (.if_icmp .lt 15, 3) := by decide +kernel
theorem dX8_comes_23 : decode cX8_comes 23 = .ok (.aload_n 0, 1) := by decide +kernel
theorem dX8_comes_24 : decode cX8_comes 24 = .ok (.getfield 62, 3) := by decide +kernel
theorem dX8_comes_27 : decode cX8_comes 27 = .ok (.iload_n 3, 1) := by decide +kernel
theorem dX8_comes_28 : decode cX8_comes 28 = .ok (.iaload, 1) := by decide +kernel
theorem dX8_comes_29 : decode cX8_comes 29 = .ok (.iload_n 1, 1) := by decide +kernel
theorem dX8_comes_30 : decode cX8_comes 30 = .ok (.iconst 1, 1) := by decide +kernel
theorem dX8_comes_31 : decode cX8_comes 31 = .ok (.iadd, 1) := by decide +kernel
theorem dX8_comes_32 : decode cX8_comes 32 = .ok (.if_icmp .le 9, 3) := by decide +kernel
theorem dX8_comes_35 : decode cX8_comes 35 = .ok (.iinc 3 (-1), 3) := by decide +kernel
theorem dX8_comes_38 : decode cX8_comes 38 = .ok (.goto (-31), 3) := by decide +kernel
theorem dX8_comes_41 : decode cX8_comes 41 = .ok (.iload_n 3, 1) := by decide +kernel
theorem dX8_comes_42 : decode cX8_comes 42 = .ok (.ifCond .lt 29, 3) := by decide +kernel
theorem dX8_comes_45 : decode cX8_comes 45 = .ok (.aload_n 0, 1) := by decide +kernel
theorem dX8_comes_46 : decode cX8_comes 46 = .ok (.getfield 62, 3) := by decide +kernel
theorem dX8_comes_49 : decode cX8_comes 49 = .ok (.iload_n 3, 1) := by decide +kernel
theorem dX8_comes_50 : decode cX8_comes 50 = .ok (.iaload, 1) := by decide +kernel
theorem dX8_comes_51 : decode cX8_comes 51 = .ok (.iload_n 1, 1) := by decide +kernel
theorem dX8_comes_52 : decode cX8_comes 52 = .ok (.if_icmp .ne 19, 3) := by decide +kernel
theorem dX8_comes_55 : decode cX8_comes 55 = .ok (.aload_n 0, 1) := by decide +kernel
theorem dX8_comes_56 : decode cX8_comes 56 = .ok (.getfield 65, 3) := by decide +kernel
theorem dX8_comes_59 : decode cX8_comes 59 = .ok (.iload_n 3, 1) := by decide +kernel
theorem dX8_comes_60 : decode cX8_comes 60 = .ok (.iaload, 1) := by decide +kernel
theorem dX8_comes_61 : decode cX8_comes 61 = .ok (.iload_n 2, 1) := by decide +kernel
theorem dX8_comes_62 : decode cX8_comes 62 = .ok (.if_icmp .eq 9, 3) := by decide +kernel
theorem dX8_comes_65 : decode cX8_comes 65 = .ok (.aload_n 0, 1) := by decide +kernel
theorem dX8_comes_66 : decode cX8_comes 66 = .ok (.iload_n 3, 1) := by decide +kernel
theorem dX8_comes_67 : decode cX8_comes 67 = .ok (.invokevirtual 213, 3) := by decide +kernel
theorem dX8_comes_70 : decode cX8_comes 70 = .ok (.return_, 1) := by decide +kernel
theorem dX8_comes_71 : decode cX8_comes 71 = .ok (.aload_n 0, 1) := by decide +kernel
theorem dX8_comes_72 : decode cX8_comes 72 = .ok (.getfield 62, 3) := by decide +kernel
theorem dX8_comes_75 : decode cX8_comes 75 = .ok (.aload_n 0, 1) := by decide +kernel
theorem dX8_comes_76 : decode cX8_comes 76 = .ok (.getfield 210, 3) := by decide +kernel
theorem dX8_comes_79 : decode cX8_comes 79 = .ok (.iload_n 1, 1) := by decide +kernel
theorem dX8_comes_80 : decode cX8_comes 80 = .ok (.iastore, 1) := by decide +kernel
theorem dX8_comes_81 : decode cX8_comes 81 = .ok (.aload_n 0, 1) := by decide +kernel
theorem dX8_comes_82 : decode cX8_comes 82 = .ok (.getfield 65, 3) := by decide +kernel
theorem dX8_comes_85 : decode cX8_comes 85 = .ok (.aload_n 0, 1) := by decide +kernel
theorem dX8_comes_86 : decode cX8_comes 86 = .ok (.getfield 210, 3) := by decide +kernel
theorem dX8_comes_89 : decode cX8_comes 89 = .ok (.iload_n 2, 1) := by decide +kernel
theorem dX8_comes_90 : decode cX8_comes 90 = .ok (.iastore, 1) := by decide +kernel
theorem dX8_comes_91 : decode cX8_comes 91 = .ok (.aload_n 0, 1) := by decide +kernel
theorem dX8_comes_92 : decode cX8_comes 92 = .ok (.dup, 1) := by decide +kernel
theorem dX8_comes_93 : decode cX8_comes 93 = .ok (.getfield 210, 3) := by decide +kernel
theorem dX8_comes_96 : decode cX8_comes 96 = .ok (.iconst 1, 1) := by decide +kernel
theorem dX8_comes_97 : decode cX8_comes 97 = .ok (.iadd, 1) := by decide +kernel
theorem dX8_comes_98 : decode cX8_comes 98 = .ok (.putfield 210, 3) := by decide +kernel
theorem dX8_comes_101 : decode cX8_comes 101 = .ok (.return_, 1) := by decide +kernel
set_option maxRecDepth 20000 in
theorem ggX8_layers_X8_comes : GoodIn wsX8_layers wsX8_comes := goodIn_r _ [11, 1, 6, 12, 13, 14, 15, 10, 16, 17, 18, 19, 20, 21, 22, 23, 24, 25, 26, 27, 28, 29, 30, 31, 32, 33, 34, 35, 36, 37, 38, 39, 40, 41, 42, 43, 44, 45, 46, 47, 48, 49] (by decide +kernel) (by decide +kernel)
set_option maxRecDepth 20000 in
theorem gX8_layers_X8_comes : GoodIn wsX8_layers (wsV RX8 216 RX8 yX8_comes wsX8_comes) := goodIn_app (goodIn_of _ (by decide +kernel)) ggX8_layers_X8_comes
theorem dX8_layers_0 : decode cX8_layers 0 = .ok (.aload_n 0, 1) := by decide +kernel
theorem dX8_layers_1 : decode cX8_layers 1 = .ok (.iconst 0, 1) := by decide +kernel
theorem dX8_layers_2 : decode cX8_layers 2 = .ok (.putfield 210, 3) := by decide +kernel
theorem dX8_layers_5 : decode cX8_layers 5 = .ok (.iconst 0, 1) := by decide +kernel
theorem dX8_layers_6 : decode cX8_layers 6 = .ok (.istore_n 1, 1) := by decide +kernel
theorem dX8_layers_7 : decode cX8_layers 7 = .ok (.iload_n 1, 1) := by decide +kernel
theorem dX8_layers_8 : decode cX8_layers 8 = .ok (.aload_n 0, 1) := by decide +kernel
theorem dX8_layers_9 : decode cX8_layers 9 = .ok (.getfield 186, 3) := by decide +kernel
theorem dX8_layers_12 : decode cX8_layers 12 = .ok (.if_icmp .ge 25, 3) := by decide +kernel
theorem dX8_layers_15 : decode cX8_layers 15 = .ok (.aload_n 0, 1) := by decide +kernel
theorem dX8_layers_16 : decode cX8_layers 16 = .ok (.aload_n 0, 1) := by decide +kernel
theorem dX8_layers_17 : decode cX8_layers 17 = .ok (.getfield 47, 3) := by decide +kernel
theorem dX8_layers_20 : decode cX8_layers 20 = .ok (.iload_n 1, 1) := by decide +kernel
theorem dX8_layers_21 : decode cX8_layers 21 = .ok (.iaload, 1) := by decide +kernel
theorem dX8_layers_22 : decode cX8_layers 22 = .ok (.aload_n 0, 1) := by decide +kernel
theorem dX8_layers_23 : decode cX8_layers 23 = .ok (.getfield 50, 3) := by decide +kernel
theorem dX8_layers_26 : decode cX8_layers 26 = .ok (.iload_n 1, 1) := by decide +kernel
theorem dX8_layers_27 : decode cX8_layers 27 = .ok (.iaload, 1) := by decide +kernel
theorem dX8_layers_28 : decode cX8_layers 28 = .ok (.invokevirtual 216, 3) := by decide +kernel
theorem dX8_layers_31 : decode cX8_layers 31 = .ok (.iinc 1 1, 3) := by decide +kernel
theorem dX8_layers_34 : decode cX8_layers 34 = .ok (.goto (-27), 3) := by decide +kernel
theorem dX8_layers_37 : decode cX8_layers 37 = .ok (.iconst 0, 1) := by decide +kernel
theorem dX8_layers_38 : decode cX8_layers 38 = .ok (.istore_n 1, 1) := by decide +kernel
theorem dX8_layers_39 : decode cX8_layers 39 = .ok (.iconst 0, 1) := by decide +kernel
theorem dX8_layers_40 : decode cX8_layers 40 = .ok (.istore_n 2, 1) := by decide +kernel
theorem dX8_layers_41 : decode cX8_layers 41 = .ok (.iload_n 2, 1) := by decide +kernel
theorem dX8_layers_42 : decode cX8_layers 42 = .ok (.aload_n 0, 1) := by decide +kernel
theorem dX8_layers_43 : decode cX8_layers 43 = .ok (.getfield 210, 3) := by decide +kernel
theorem dX8_layers_46 : decode cX8_layers 46 = .ok (.if_icmp .ge 109, 3) := by decide +kernel
theorem dX8_layers_49 : decode cX8_layers 49 = .ok (.aload_n 0, 1) := by decide +kernel
theorem dX8_layers_50 : decode cX8_layers 50 = .ok (.getfield 68, 3) := by decide +kernel
theorem dX8_layers_53 : decode cX8_layers 53 = .ok (.iload_n 2, 1) := by decide +kernel
theorem dX8_layers_54 : decode cX8_layers 54 = .ok (.iconst 0, 1) := by decide +kernel
theorem dX8_layers_55 : decode cX8_layers 55 = .ok (.iastore, 1) := by decide +kernel
theorem dX8_layers_56 : decode cX8_layers 56 = .ok (.iconst 0, 1) := by decide +kernel
theorem dX8_layers_57 : decode cX8_layers 57 = .ok (.istore_n 3, 1) := by decide +kernel
theorem dX8_layers_58 : decode cX8_layers 58 = .ok (.iload_n 3, 1) := by decide +kernel
theorem dX8_layers_59 : decode cX8_layers 59 = .ok (.iload_n 2, 1) := by decide +kernel
theorem dX8_layers_60 : decode cX8_layers 60 = .ok (.if_icmp .ge 66, 3) := by decide +kernel
theorem dX8_layers_63 : decode cX8_layers 63 = .ok (.aload_n 0, 1) := by decide +kernel
theorem dX8_layers_64 : decode cX8_layers 64 = .ok (.getfield 62, 3) := by decide +kernel
theorem dX8_layers_67 : decode cX8_layers 67 = .ok (.iload_n 3, 1) := by decide +kernel
theorem dX8_layers_68 : decode cX8_layers 68 = .ok (.iaload, 1) := by decide +kernel
theorem dX8_layers_69 : decode cX8_layers 69 = .ok (.aload_n 0, 1) := by decide +kernel
theorem dX8_layers_70 : decode cX8_layers 70 = .ok (.getfield 62, 3) := by decide +kernel
theorem dX8_layers_73 : decode cX8_layers 73 = .ok (.iload_n 2, 1) := by decide +kernel
theorem dX8_layers_74 : decode cX8_layers 74 = .ok (.iaload, 1) := by decide +kernel
theorem dX8_layers_75 : decode cX8_layers 75 = .ok (.isub, 1) := by decide +kernel
theorem dX8_layers_76 : decode cX8_layers 76 = .ok (.istore 4, 2) := by decide +kernel
theorem dX8_layers_78 : decode cX8_layers 78 = .ok (.iload 4, 2) := by decide +kernel
theorem dX8_layers_80 : decode cX8_layers 80 = .ok (.bipush (-2), 2) := by decide +kernel
theorem dX8_layers_82 : decode cX8_layers 82 = .ok (.if_icmp .le 38, 3) := by decide +kernel
theorem dX8_layers_85 : decode cX8_layers 85 = .ok (.iload 4, 2) := by decide +kernel
theorem dX8_layers_87 : decode cX8_layers 87 = .ok (.iconst 2, 1) := by decide +kernel
theorem dX8_layers_88 : decode cX8_layers 88 = .ok (.if_icmp .ge 32, 3) := by decide +kernel
theorem dX8_layers_91 : decode cX8_layers 91 = .ok (.aload_n 0, 1) := by decide +kernel
theorem dX8_layers_92 : decode cX8_layers 92 = .ok (.getfield 68, 3) := by decide +kernel
theorem dX8_layers_95 : decode cX8_layers 95 = .ok (.iload_n 3, 1) := by decide +kernel
theorem dX8_layers_96 : decode cX8_layers 96 = .ok (.iaload, 1) := by decide +kernel
theorem dX8_layers_97 : decode cX8_layers 97 = .ok (.aload_n 0, 1) := by decide +kernel
theorem dX8_layers_98 : decode cX8_layers 98 = .ok (.getfield 68, 3) := by decide +kernel
theorem dX8_layers_101 : decode cX8_layers 101 = .ok (.iload_n 2, 1) := by decide +kernel
theorem dX8_layers_102 : decode cX8_layers 102 = .ok (.iaload, 1) := by decide +kernel
theorem dX8_layers_103 : decode cX8_layers 103 = .ok (.if_icmp .lt 17, 3) := by decide +kernel
theorem dX8_layers_106 : decode cX8_layers 106 = .ok (.aload_n 0, 1) := by decide +kernel
theorem dX8_layers_107 : decode cX8_layers 107 = .ok (.getfield 68, 3) := by decide +kernel
theorem dX8_layers_110 : decode cX8_layers 110 = .ok (.iload_n 2, 1) := by decide +kernel
theorem dX8_layers_111 : decode cX8_layers 111 = .ok (.aload_n 0, 1) := by decide +kernel
theorem dX8_layers_112 : decode cX8_layers 112 = .ok (.getfield 68, 3) := by decide +kernel
theorem dX8_layers_115 : decode cX8_layers 115 = .ok (.iload_n 3, 1) := by decide +kernel
theorem dX8_layers_116 : decode cX8_layers 116 = .ok (.iaload, 1) := by decide +kernel
theorem dX8_layers_117 : decode cX8_layers 117 = .ok (.iconst 1, 1) := by decide +kernel
theorem dX8_layers_118 : decode cX8_layers 118 = .ok (.iadd, 1) := by decide +kernel
theorem dX8_layers_119 : decode cX8_layers 119 = .ok (.iastore, 1) := by decide +kernel
theorem dX8_layers_120 : decode cX8_layers 120 = .ok (.iinc 3 1, 3) := by decide +kernel
theorem dX8_layers_123 : decode cX8_layers 123 = .ok (.goto (-65), 3) := by decide +kernel
theorem dX8_layers_126 : decode cX8_layers 126 = .ok (.aload_n 0, 1) := by decide +kernel
theorem dX8_layers_127 : decode cX8_layers 127 = .ok (.getfield 68, 3) := by decide +kernel
theorem dX8_layers_130 : decode cX8_layers 130 = .ok (.iload_n 2, 1) := by decide +kernel
theorem dX8_layers_131 : decode cX8_layers 131 = .ok (.iaload, 1) := by decide +kernel
theorem dX8_layers_132 : decode cX8_layers 132 = .ok (.iload_n 1, 1) := by decide +kernel
theorem dX8_layers_133 : decode cX8_layers 133 = .ok (.if_icmp .lt 14, 3) := by decide +kernel
theorem dX8_layers_136 : decode cX8_layers 136 = .ok (.aload_n 0, 1) := by decide +kernel
theorem dX8_layers_137 : decode cX8_layers 137 = .ok (.getfield 68, 3) := by decide +kernel
theorem dX8_layers_140 : decode cX8_layers 140 = .ok (.iload_n 2, 1) := by decide +kernel
theorem dX8_layers_141 : decode cX8_layers 141 = .ok (.iaload, 1) := by decide +kernel
theorem dX8_layers_142 : decode cX8_layers 142 = .ok (.iconst 1, 1) := by decide +kernel
theorem dX8_layers_143 : decode cX8_layers 143 = .ok (.iadd, 1) := by decide +kernel
theorem dX8_layers_144 : decode cX8_layers 144 = .ok (.goto 4, 3) := by decide +kernel
theorem dX8_layers_147 : decode cX8_layers 147 = .ok (.iload_n 1, 1) := by decide +kernel
theorem dX8_layers_148 : decode cX8_layers 148 = .ok (.istore_n 1, 1) := by decide +kernel
theorem dX8_layers_149 : decode cX8_layers 149 = .ok (.iinc 2 1, 3) := by decide +kernel
theorem dX8_layers_152 : decode cX8_layers 152 = .ok (.goto (-111), 3) := by decide +kernel
theorem dX8_layers_155 : decode cX8_layers 155 = .ok (.iload_n 1, 1) := by decide +kernel
theorem dX8_layers_156 : decode cX8_layers 156 = .ok (.ireturn, 1) := by decide +kernel
theorem dX8_signIn_0 : decode cX8_signIn 0 = .ok (.iconst 0, 1) := by decide +kernel
theorem dX8_signIn_1 : decode cX8_signIn 1 = .ok (.istore_n 3, 1) := by decide +kernel
theorem dX8_signIn_2 : decode cX8_signIn 2 = .ok (.iload_n 3, 1) := by decide +kernel
theorem dX8_signIn_3 : decode cX8_signIn 3 = .ok (.aload_n 0, 1) := by decide +kernel
theorem dX8_signIn_4 : decode cX8_signIn 4 = .ok (.getfield 210, 3) := by decide +kernel
theorem dX8_signIn_7 : decode cX8_signIn 7 = .ok (.if_icmp .ge 36, 3) := by decide +kernel
theorem dX8_signIn_10 : decode cX8_signIn 10 = .ok (.aload_n 0, 1) := by decide +kernel
theorem dX8_signIn_11 : decode cX8_signIn 11 = .ok (.getfield 62, 3) := by decide +kernel
theorem dX8_signIn_14 : decode cX8_signIn 14 = .ok (.iload_n 3, 1) := by decide +kernel
theorem dX8_signIn_15 : decode cX8_signIn 15 = .ok (.iaload, 1) := by decide +kernel
theorem dX8_signIn_16 : decode cX8_signIn 16 = .ok (.iload_n 2, 1) := by decide +kernel
theorem dX8_signIn_17 : decode cX8_signIn 17 = .ok (.if_icmp .ne 20, 3) := by decide +kernel
theorem dX8_signIn_20 : decode cX8_signIn 20 = .ok (.aload_n 0, 1) := by decide +kernel
theorem dX8_signIn_21 : decode cX8_signIn 21 = .ok (.getfield 68, 3) := by decide +kernel
theorem dX8_signIn_24 : decode cX8_signIn 24 = .ok (.iload_n 3, 1) := by decide +kernel
theorem dX8_signIn_25 : decode cX8_signIn 25 = .ok (.iaload, 1) := by decide +kernel
theorem dX8_signIn_26 : decode cX8_signIn 26 = .ok (.iload_n 1, 1) := by decide +kernel
theorem dX8_signIn_27 : decode cX8_signIn 27 = .ok (.if_icmp .ne 10, 3) := by decide +kernel
theorem dX8_signIn_30 : decode cX8_signIn 30 = .ok (.aload_n 0, 1) := by decide +kernel
theorem dX8_signIn_31 : decode cX8_signIn 31 = .ok (.getfield 65, 3) := by decide +kernel
theorem dX8_signIn_34 : decode cX8_signIn 34 = .ok (.iload_n 3, 1) := by decide +kernel
theorem dX8_signIn_35 : decode cX8_signIn 35 = .ok (.iaload, 1) := by decide +kernel
theorem dX8_signIn_36 : decode cX8_signIn 36 = .ok (.ireturn, 1) := by decide +kernel
theorem dX8_signIn_37 : decode cX8_signIn 37 = .ok (.iinc 3 1, 3) := by decide +kernel
theorem dX8_signIn_40 : decode cX8_signIn 40 = .ok (.goto (-38), 3) := by decide +kernel
theorem dX8_signIn_43 : decode cX8_signIn 43 = .ok (.iconst 0, 1) := by decide +kernel
theorem dX8_signIn_44 : decode cX8_signIn 44 = .ok (.ireturn, 1) := by decide +kernel
set_option maxRecDepth 20000 in
theorem ggX8_word_X8_in : GoodIn wsX8_word wsX8_in := goodIn_r _ [11] (by decide +kernel) (by decide +kernel)
set_option maxRecDepth 20000 in
theorem gX8_word_X8_in : GoodIn wsX8_word (va_wsS RX8 145 yX8_in wsX8_in) := goodIn_app (goodIn_of _ (by decide +kernel)) ggX8_word_X8_in
set_option maxRecDepth 20000 in
theorem ggX8_word_X8_errs : GoodIn wsX8_word wsX8_errs := goodIn_r _ [15, 16, 17, 55, 56, 57, 58, 59, 60, 61, 62, 63, 64, 65, 66, 67, 68, 69, 70, 71, 72, 73, 74, 75, 76, 77, 78, 79, 80, 81, 82, 83, 84, 85, 86, 87] (by decide +kernel) (by decide +kernel)
set_option maxRecDepth 20000 in
theorem gX8_word_X8_errs : GoodIn wsX8_word (wsV RX8 150 RX8 yX8_errs wsX8_errs) := goodIn_app (goodIn_of _ (by decide +kernel)) ggX8_word_X8_errs
set_option maxRecDepth 20000 in
theorem ggX8_word_X8_begins : GoodIn wsX8_word wsX8_begins := goodIn_r _ [21, 5, 7, 22, 55, 56, 57, 58, 59, 60, 61, 62, 63, 64, 65, 66, 67, 68, 69, 70, 71, 72, 73, 74, 75, 76, 77, 78, 79, 80, 81, 82, 83, 84, 85, 86, 87] (by decide +kernel) (by decide +kernel)
set_option maxRecDepth 20000 in
theorem gX8_word_X8_begins : GoodIn wsX8_word (wsV RX8 196 RX8 yX8_begins wsX8_begins) := goodIn_app (goodIn_of _ (by decide +kernel)) ggX8_word_X8_begins
set_option maxRecDepth 20000 in
theorem ggX8_word_X8_spells : GoodIn wsX8_word wsX8_spells := goodIn_r _ [26, 4, 27, 28, 29, 10, 30, 31, 32, 33, 34, 7, 35, 5, 36, 37, 38, 39, 22, 55, 56, 57, 58, 59, 60, 61, 62, 63, 64, 65, 66, 67, 68, 69, 70, 71, 72, 73, 74, 75, 76, 77, 78, 79, 80, 81, 82, 83, 84, 85, 86, 87] (by decide +kernel) (by decide +kernel)
set_option maxRecDepth 20000 in
theorem gX8_word_X8_spells : GoodIn wsX8_word (wsV RX8 193 RX8 yX8_spells wsX8_spells) := goodIn_app (goodIn_of _ (by decide +kernel)) ggX8_word_X8_spells
set_option maxRecDepth 20000 in
theorem ggX8_word_X8_layers : GoodIn wsX8_word wsX8_layers := goodIn_r _ [43, 6, 5, 35, 36, 44, 45, 46, 47, 48, 10, 49, 50, 51, 52, 53, 54, 55, 56, 57, 58, 59, 60, 61, 62, 63, 64, 65, 66, 67, 68, 69, 70, 71, 72, 73, 74, 75, 76, 77, 78, 79, 80, 81, 82, 83, 84, 85, 86, 87] (by decide +kernel) (by decide +kernel)
set_option maxRecDepth 20000 in
theorem gX8_word_X8_layers : GoodIn wsX8_word (wsV RX8 221 RX8 yX8_layers wsX8_layers) := goodIn_app (goodIn_of _ (by decide +kernel)) ggX8_word_X8_layers
theorem dX8_word_0 : decode cX8_word 0 = .ok (.iload_n 1, 1) := by decide +kernel
theorem dX8_word_1 : decode cX8_word 1 = .ok (.i2l, 1) := by decide +kernel
theorem dX8_word_2 : decode cX8_word 2 = .ok (.lconst 0, 1) := by decide +kernel
theorem dX8_word_3 : decode cX8_word 3 = .ok (.ldc2_w 163, 3) := by decide +kernel
theorem dX8_word_6 : decode cX8_word 6 = .ok (.invokestatic 145, 3) := by decide +kernel
theorem dX8_word_9 : decode cX8_word 9 = .ok (.ifCond .eq 15, 3) := by decide +kernel
theorem dX8_word_12 : decode cX8_word 12 = .ok (.iload_n 2, 1) := by decide +kernel
theorem dX8_word_13 : decode cX8_word 13 = .ok (.i2l, 1) := by decide +kernel
theorem dX8_word_14 : decode cX8_word 14 = .ok (.lconst 0, 1) := by decide +kernel
theorem dX8_word_15 : decode cX8_word 15 = .ok (.ldc2_w 219, 3) := by decide +kernel
theorem dX8_word_18 : decode cX8_word 18 = .ok (.invokestatic 145, 3) := by decide +kernel
theorem dX8_word_21 : decode cX8_word 21 = .ok (.ifCond .ne 10, 3) := by decide +kernel
theorem dX8_word_24 : decode cX8_word 24 = .ok (.aload_n 0, 1) := by decide +kernel
theorem dX8_word_25 : decode cX8_word 25 = .ok (.ldc 149, 2) := by decide +kernel
theorem dX8_word_27 : decode cX8_word 27 = .ok (.invokevirtual 150, 3) := by decide +kernel
theorem dX8_word_30 : decode cX8_word 30 = .ok (.ireturn, 1) := by decide +kernel
theorem dX8_word_31 : decode cX8_word 31 = .ok (.iload_n 2, 1) := by decide +kernel
theorem dX8_word_32 : decode cX8_word 32 = .ok (.ifCond .ne 16, 3) := by decide +kernel
theorem dX8_word_35 : decode cX8_word 35 = .ok (.aload_n 0, 1) := by decide +kernel
theorem dX8_word_36 : decode cX8_word 36 = .ok (.getfield 9, 3) := by decide +kernel
theorem dX8_word_39 : decode cX8_word 39 = .ok (.bipush 86, 2) := by decide +kernel
theorem dX8_word_41 : decode cX8_word 41 = .ok (.bipush 9, 2) := by decide +kernel
theorem dX8_word_43 : decode cX8_word 43 = .ok (.iload_n 1, 1) := by decide +kernel
theorem dX8_word_44 : decode cX8_word 44 = .ok (.imul, 1) := by decide +kernel
theorem dX8_word_45 : decode cX8_word 45 = .ok (.iadd, 1) := by decide +kernel
theorem dX8_word_46 : decode cX8_word 46 = .ok (.iaload, 1) := by decide +kernel
theorem dX8_word_47 : decode cX8_word 47 = .ok (.ireturn, 1) := by decide +kernel
theorem dX8_word_48 : decode cX8_word 48 = .ok (.aload_n 0, 1) := by decide +kernel
theorem dX8_word_49 : decode cX8_word 49 = .ok (.invokevirtual 196, 3) := by decide +kernel
theorem dX8_word_52 : decode cX8_word 52 = .ok (.aload_n 0, 1) := by decide +kernel
theorem dX8_word_53 : decode cX8_word 53 = .ok (.iload_n 1, 1) := by decide +kernel
theorem dX8_word_54 : decode cX8_word 54 = .ok (.iconst 0, 1) := by decide +kernel
theorem dX8_word_55 : decode cX8_word 55 = .ok (.iconst 0, 1) := by decide +kernel
theorem dX8_word_56 : decode cX8_word 56 = .ok (.invokevirtual 193, 3) := by decide +kernel
theorem dX8_word_59 : decode cX8_word 59 = .ok (.aload_n 0, 1) := by decide +kernel
theorem dX8_word_60 : decode cX8_word 60 = .ok (.getfield 186, 3) := by decide +kernel
theorem dX8_word_63 : decode cX8_word 63 = .ok (.istore_n 3, 1) := by decide +kernel
theorem dX8_word_64 : decode cX8_word 64 = .ok (.iload_n 2, 1) := by decide +kernel
theorem dX8_word_65 : decode cX8_word 65 = .ok (.iconst 1, 1) := by decide +kernel
theorem dX8_word_66 : decode cX8_word 66 = .ok (.if_icmp .ne 5, 3) := by decide +kernel
theorem dX8_word_69 : decode cX8_word 69 = .ok (.iload_n 3, 1) := by decide +kernel
theorem dX8_word_70 : decode cX8_word 70 = .ok (.ireturn, 1) := by decide +kernel
theorem dX8_word_71 : decode cX8_word 71 = .ok (.iload_n 2, 1) := by decide +kernel
theorem dX8_word_72 : decode cX8_word 72 = .ok (.iconst 2, 1) := by decide +kernel
theorem dX8_word_73 : decode cX8_word 73 = .ok (.if_icmp .ne 14, 3) := by decide +kernel
theorem dX8_word_76 : decode cX8_word 76 = .ok (.aload_n 0, 1) := by decide +kernel
theorem dX8_word_77 : decode cX8_word 77 = .ok (.invokevirtual 221, 3) := by decide +kernel
theorem dX8_word_80 : decode cX8_word 80 = .ok (.istore 4, 2) := by decide +kernel
theorem dX8_word_82 : decode cX8_word 82 = .ok (.aload_n 0, 1) := by decide +kernel
theorem dX8_word_83 : decode cX8_word 83 = .ok (.getfield 210, 3) := by decide +kernel
theorem dX8_word_86 : decode cX8_word 86 = .ok (.ireturn, 1) := by decide +kernel
theorem dX8_word_87 : decode cX8_word 87 = .ok (.iload_n 2, 1) := by decide +kernel
theorem dX8_word_88 : decode cX8_word 88 = .ok (.iconst 3, 1) := by decide +kernel
theorem dX8_word_89 : decode cX8_word 89 = .ok (.if_icmp .le 28, 3) := by decide +kernel
theorem dX8_word_92 : decode cX8_word 92 = .ok (.iconst 0, 1) := by decide +kernel
theorem dX8_word_93 : decode cX8_word 93 = .ok (.istore 4, 2) := by decide +kernel
theorem dX8_word_95 : decode cX8_word 95 = .ok (.aload_n 0, 1) := by decide +kernel
theorem dX8_word_96 : decode cX8_word 96 = .ok (.getfield 41, 3) := by decide +kernel
theorem dX8_word_99 : decode cX8_word 99 = .ok (.iload 4, 2) := by decide +kernel
theorem dX8_word_101 : decode cX8_word 101 = .ok (.iaload, 1) := by decide +kernel
theorem dX8_word_102 : decode cX8_word 102 = .ok (.iload_n 2, 1) := by decide +kernel
theorem dX8_word_103 : decode cX8_word 103 = .ok (.iconst 4, 1) := by decide +kernel
theorem dX8_word_104 : decode cX8_word 104 = .ok (.isub, 1) := by decide +kernel
theorem dX8_word_105 : decode cX8_word 105 = .ok (.if_icmp .eq 9, 3) := by decide +kernel
theorem dX8_word_108 : decode cX8_word 108 = .ok (.iinc 4 1, 3) := by decide +kernel
theorem dX8_word_111 : decode cX8_word 111 = .ok (.goto (-16), 3) := by decide +kernel
theorem dX8_word_114 : decode cX8_word 114 = .ok (.iload 4, 2) := by decide +kernel
theorem dX8_word_116 : decode cX8_word 116 = .ok (.ireturn, 1) := by decide +kernel
theorem dX8_word_117 : decode cX8_word 117 = .ok (.iconst 1, 1) := by decide +kernel
theorem dX8_word_118 : decode cX8_word 118 = .ok (.istore 4, 2) := by decide +kernel
theorem dX8_word_120 : decode cX8_word 120 = .ok (.aload_n 0, 1) := by decide +kernel
theorem dX8_word_121 : decode cX8_word 121 = .ok (.getfield 41, 3) := by decide +kernel
theorem dX8_word_124 : decode cX8_word 124 = .ok (.iconst 0, 1) := by decide +kernel
theorem dX8_word_125 : decode cX8_word 125 = .ok (.iaload, 1) := by decide +kernel
theorem dX8_word_126 : decode cX8_word 126 = .ok (.ifCond .ne 33, 3) := by decide +kernel
theorem dX8_word_129 : decode cX8_word 129 = .ok (.aload_n 0, 1) := by decide +kernel
theorem dX8_word_130 : decode cX8_word 130 = .ok (.getfield 41, 3) := by decide +kernel
theorem dX8_word_133 : decode cX8_word 133 = .ok (.iconst 1, 1) := by decide +kernel
theorem dX8_word_134 : decode cX8_word 134 = .ok (.iaload, 1) := by decide +kernel
theorem dX8_word_135 : decode cX8_word 135 = .ok (.iconst 1, 1) := by decide +kernel
theorem dX8_word_136 : decode cX8_word 136 = .ok (.if_icmp .ne 23, 3) := by decide +kernel
theorem dX8_word_139 : decode cX8_word 139 = .ok (.aload_n 0, 1) := by decide +kernel
theorem dX8_word_140 : decode cX8_word 140 = .ok (.getfield 41, 3) := by decide +kernel
theorem dX8_word_143 : decode cX8_word 143 = .ok (.iconst 2, 1) := by decide +kernel
theorem dX8_word_144 : decode cX8_word 144 = .ok (.iaload, 1) := by decide +kernel
theorem dX8_word_145 : decode cX8_word 145 = .ok (.iconst 2, 1) := by decide +kernel
theorem dX8_word_146 : decode cX8_word 146 = .ok (.if_icmp .ne 13, 3) := by decide +kernel
theorem dX8_word_149 : decode cX8_word 149 = .ok (.aload_n 0, 1) := by decide +kernel
theorem dX8_word_150 : decode cX8_word 150 = .ok (.getfield 41, 3) := by decide +kernel
theorem dX8_word_153 : decode cX8_word 153 = .ok (.iconst 3, 1) := by decide +kernel
theorem dX8_word_154 : decode cX8_word 154 = .ok (.iaload, 1) := by decide +kernel
theorem dX8_word_155 : decode cX8_word 155 = .ok (.iconst 3, 1) := by decide +kernel
theorem dX8_word_156 : decode cX8_word 156 = .ok (.if_icmp .eq 21, 3) := by decide +kernel
theorem dX8_word_159 : decode cX8_word 159 = .ok (.aload_n 0, 1) := by decide +kernel
theorem dX8_word_160 : decode cX8_word 160 = .ok (.iconst 0, 1) := by decide +kernel
theorem dX8_word_161 : decode cX8_word 161 = .ok (.putfield 186, 3) := by decide +kernel
theorem dX8_word_164 : decode cX8_word 164 = .ok (.aload_n 0, 1) := by decide +kernel
theorem dX8_word_165 : decode cX8_word 165 = .ok (.iload_n 1, 1) := by decide +kernel
theorem dX8_word_166 : decode cX8_word 166 = .ok (.iconst 0, 1) := by decide +kernel
theorem dX8_word_167 : decode cX8_word 167 = .ok (.iconst 0, 1) := by decide +kernel
theorem dX8_word_168 : decode cX8_word 168 = .ok (.invokevirtual 193, 3) := by decide +kernel
theorem dX8_word_171 : decode cX8_word 171 = .ok (.iinc 4 1, 3) := by decide +kernel
theorem dX8_word_174 : decode cX8_word 174 = .ok (.goto (-54), 3) := by decide +kernel
theorem dX8_word_177 : decode cX8_word 177 = .ok (.iload 4, 2) := by decide +kernel
theorem dX8_word_179 : decode cX8_word 179 = .ok (.ireturn, 1) := by decide +kernel
theorem dX8_deep_0 : decode cX8_deep 0 = .ok (.aload_n 0, 1) := by decide +kernel
theorem dX8_deep_1 : decode cX8_deep 1 = .ok (.getfield 120, 3) := by decide +kernel
theorem dX8_deep_4 : decode cX8_deep 4 = .ok (.ifCond .ne 7, 3) := by decide +kernel
theorem dX8_deep_7 : decode cX8_deep 7 = .ok (.iconst 0, 1) := by decide +kernel
theorem dX8_deep_8 : decode cX8_deep 8 = .ok (.goto 16, 3) := by decide +kernel
theorem dX8_deep_11 : decode cX8_deep 11 = .ok (.aload_n 0, 1) := by decide +kernel
theorem dX8_deep_12 : decode cX8_deep 12 = .ok (.getfield 22, 3) := by decide +kernel
theorem dX8_deep_15 : decode cX8_deep 15 = .ok (.aload_n 0, 1) := by decide +kernel
theorem dX8_deep_16 : decode cX8_deep 16 = .ok (.getfield 120, 3) := by decide +kernel
theorem dX8_deep_19 : decode cX8_deep 19 = .ok (.iconst 1, 1) := by decide +kernel
theorem dX8_deep_20 : decode cX8_deep 20 = .ok (.isub, 1) := by decide +kernel
theorem dX8_deep_21 : decode cX8_deep 21 = .ok (.iaload, 1) := by decide +kernel
theorem dX8_deep_22 : decode cX8_deep 22 = .ok (.iconst 1, 1) := by decide +kernel
theorem dX8_deep_23 : decode cX8_deep 23 = .ok (.iadd, 1) := by decide +kernel
theorem dX8_deep_24 : decode cX8_deep 24 = .ok (.ireturn, 1) := by decide +kernel
theorem dX8_chain_0 : decode cX8_chain 0 = .ok (.iconst 0, 1) := by decide +kernel
theorem dX8_chain_1 : decode cX8_chain 1 = .ok (.istore_n 1, 1) := by decide +kernel
theorem dX8_chain_2 : decode cX8_chain 2 = .ok (.iconst 0, 1) := by decide +kernel
theorem dX8_chain_3 : decode cX8_chain 3 = .ok (.istore_n 2, 1) := by decide +kernel
theorem dX8_chain_4 : decode cX8_chain 4 = .ok (.iload_n 2, 1) := by decide +kernel
theorem dX8_chain_5 : decode cX8_chain 5 = .ok (.aload_n 0, 1) := by decide +kernel
theorem dX8_chain_6 : decode cX8_chain 6 = .ok (.getfield 120, 3) := by decide +kernel
theorem dX8_chain_9 : decode cX8_chain 9 = .ok (.if_icmp .ge 32, 3) := by decide +kernel
theorem dX8_chain_12 : decode cX8_chain 12 = .ok (.aload_n 0, 1) := by decide +kernel
theorem dX8_chain_13 : decode cX8_chain 13 = .ok (.getfield 31, 3) := by decide +kernel
theorem dX8_chain_16 : decode cX8_chain 16 = .ok (.iload_n 2, 1) := by decide +kernel
theorem dX8_chain_17 : decode cX8_chain 17 = .ok (.iaload, 1) := by decide +kernel
theorem dX8_chain_18 : decode cX8_chain 18 = .ok (.iload_n 1, 1) := by decide +kernel
theorem dX8_chain_19 : decode cX8_chain 19 = .ok (.if_icmp .lt 14, 3) := by decide +kernel
theorem dX8_chain_22 : decode cX8_chain 22 = .ok (.aload_n 0, 1) := by decide +kernel
theorem dX8_chain_23 : decode cX8_chain 23 = .ok (.getfield 31, 3) := by decide +kernel
theorem dX8_chain_26 : decode cX8_chain 26 = .ok (.iload_n 2, 1) := by decide +kernel
theorem dX8_chain_27 : decode cX8_chain 27 = .ok (.iaload, 1) := by decide +kernel
theorem dX8_chain_28 : decode cX8_chain 28 = .ok (.iconst 1, 1) := by decide +kernel
theorem dX8_chain_29 : decode cX8_chain 29 = .ok (.iadd, 1) := by decide +kernel
theorem dX8_chain_30 : decode cX8_chain 30 = .ok (.goto 4, 3) := by decide +kernel
theorem dX8_chain_33 : decode cX8_chain 33 = .ok (.iload_n 1, 1) := by decide +kernel
theorem dX8_chain_34 : decode cX8_chain 34 = .ok (.istore_n 1, 1) := by decide +kernel
theorem dX8_chain_35 : decode cX8_chain 35 = .ok (.iinc 2 1, 3) := by decide +kernel
theorem dX8_chain_38 : decode cX8_chain 38 = .ok (.goto (-34), 3) := by decide +kernel
theorem dX8_chain_41 : decode cX8_chain 41 = .ok (.iload_n 1, 1) := by decide +kernel
theorem dX8_chain_42 : decode cX8_chain 42 = .ok (.ireturn, 1) := by decide +kernel
set_option maxRecDepth 20000 in
theorem ggX8_takes_X8_takes : GoodIn wsX8_takes wsX8_takes := goodIn_r _ [0, 1, 2, 3, 4, 5, 6, 7, 8, 9, 10, 11, 12, 13, 14, 15, 16, 17, 18, 19, 20, 21, 22, 23, 24, 25, 26, 27, 28, 29, 30, 31, 32, 33, 34, 35, 36, 37, 38, 39, 40, 41] (by decide +kernel) (by decide +kernel)
set_option maxRecDepth 20000 in
theorem gX8_takes_X8_takes : GoodIn wsX8_takes (wsV RX8 228 RX8 yX8_takes wsX8_takes) := goodIn_app (goodIn_of _ (by decide +kernel)) ggX8_takes_X8_takes
theorem dX8_takes_0 : decode cX8_takes 0 = .ok (.iconst 0, 1) := by decide +kernel
theorem dX8_takes_1 : decode cX8_takes 1 = .ok (.istore_n 2, 1) := by decide +kernel
theorem dX8_takes_2 : decode cX8_takes 2 = .ok (.iload_n 2, 1) := by decide +kernel
theorem dX8_takes_3 : decode cX8_takes 3 = .ok (.aload_n 0, 1) := by decide +kernel
theorem dX8_takes_4 : decode cX8_takes 4 = .ok (.getfield 120, 3) := by decide +kernel
theorem dX8_takes_7 : decode cX8_takes 7 = .ok (.if_icmp .ge 83, 3) := by decide +kernel
theorem dX8_takes_10 : decode cX8_takes 10 = .ok (.aload_n 0, 1) := by decide +kernel
theorem dX8_takes_11 : decode cX8_takes 11 = .ok (.getfield 34, 3) := by decide +kernel
theorem dX8_takes_14 : decode cX8_takes 14 = .ok (.iload_n 1, 1) := by decide +kernel
theorem dX8_takes_15 : decode cX8_takes 15 = .ok (.laload, 1) := by decide +kernel
theorem dX8_takes_16 : decode cX8_takes 16 = .ok (.iload_n 2, 1) := by decide +kernel
theorem dX8_takes_17 : decode cX8_takes 17 = .ok (.lshr, 1) := by decide +kernel
theorem dX8_takes_18 : decode cX8_takes 18 = .ok (.lconst 1, 1) := by decide +kernel
theorem dX8_takes_19 : decode cX8_takes 19 = .ok (.land, 1) := by decide +kernel
theorem dX8_takes_20 : decode cX8_takes 20 = .ok (.lconst 0, 1) := by decide +kernel
theorem dX8_takes_21 : decode cX8_takes 21 = .ok (.lcmp, 1) := by decide +kernel
theorem dX8_takes_22 : decode cX8_takes 22 = .ok (.ifCond .eq 62, 3) := by decide +kernel
theorem dX8_takes_25 : decode cX8_takes 25 = .ok (.aload_n 0, 1) := by decide +kernel
theorem dX8_takes_26 : decode cX8_takes 26 = .ok (.getfield 224, 3) := by decide +kernel
theorem dX8_takes_29 : decode cX8_takes 29 = .ok (.iload_n 2, 1) := by decide +kernel
theorem dX8_takes_30 : decode cX8_takes 30 = .ok (.lshr, 1) := by decide +kernel
theorem dX8_takes_31 : decode cX8_takes 31 = .ok (.lconst 1, 1) := by decide +kernel
theorem dX8_takes_32 : decode cX8_takes 32 = .ok (.land, 1) := by decide +kernel
theorem dX8_takes_33 : decode cX8_takes 33 = .ok (.lconst 1, 1) := by decide +kernel
theorem dX8_takes_34 : decode cX8_takes 34 = .ok (.lcmp, 1) := by decide +kernel
theorem dX8_takes_35 : decode cX8_takes 35 = .ok (.ifCond .ne 6, 3) := by decide +kernel
theorem dX8_takes_38 : decode cX8_takes 38 = .ok (.goto 46, 3) := by decide +kernel
theorem dX8_takes_41 : decode cX8_takes 41 = .ok (.aload_n 0, 1) := by decide +kernel
theorem dX8_takes_42 : decode cX8_takes 42 = .ok (.dup, 1) := by decide +kernel
theorem dX8_takes_43 : decode cX8_takes 43 = .ok (.getfield 224, 3) := by decide +kernel
theorem dX8_takes_46 : decode cX8_takes 46 = .ok (.lconst 1, 1) := by decide +kernel
theorem dX8_takes_47 : decode cX8_takes 47 = .ok (.iload_n 2, 1) := by decide +kernel
theorem dX8_takes_48 : decode cX8_takes 48 = .ok (.lshl, 1) := by decide +kernel
theorem dX8_takes_49 : decode cX8_takes 49 = .ok (.lor, 1) := by decide +kernel
theorem dX8_takes_50 : decode cX8_takes 50 = .ok (.putfield 224, 3) := by decide +kernel
theorem dX8_takes_53 : decode cX8_takes 53 = .ok (.aload_n 0, 1) := by decide +kernel
theorem dX8_takes_54 : decode cX8_takes 54 = .ok (.getfield 71, 3) := by decide +kernel
theorem dX8_takes_57 : decode cX8_takes 57 = .ok (.iload_n 2, 1) := by decide +kernel
theorem dX8_takes_58 : decode cX8_takes 58 = .ok (.iaload, 1) := by decide +kernel
theorem dX8_takes_59 : decode cX8_takes 59 = .ok (.ifCond .lt 16, 3) := by decide +kernel
theorem dX8_takes_62 : decode cX8_takes 62 = .ok (.aload_n 0, 1) := by decide +kernel
theorem dX8_takes_63 : decode cX8_takes 63 = .ok (.aload_n 0, 1) := by decide +kernel
theorem dX8_takes_64 : decode cX8_takes 64 = .ok (.getfield 71, 3) := by decide +kernel
theorem dX8_takes_67 : decode cX8_takes 67 = .ok (.iload_n 2, 1) := by decide +kernel
theorem dX8_takes_68 : decode cX8_takes 68 = .ok (.iaload, 1) := by decide +kernel
theorem dX8_takes_69 : decode cX8_takes 69 = .ok (.invokevirtual 228, 3) := by decide +kernel
theorem dX8_takes_72 : decode cX8_takes 72 = .ok (.ifCond .eq 12, 3) := by decide +kernel
theorem dX8_takes_75 : decode cX8_takes 75 = .ok (.aload_n 0, 1) := by decide +kernel
theorem dX8_takes_76 : decode cX8_takes 76 = .ok (.getfield 71, 3) := by decide +kernel
theorem dX8_takes_79 : decode cX8_takes 79 = .ok (.iload_n 2, 1) := by decide +kernel
theorem dX8_takes_80 : decode cX8_takes 80 = .ok (.iload_n 1, 1) := by decide +kernel
theorem dX8_takes_81 : decode cX8_takes 81 = .ok (.iastore, 1) := by decide +kernel
theorem dX8_takes_82 : decode cX8_takes 82 = .ok (.iconst 1, 1) := by decide +kernel
theorem dX8_takes_83 : decode cX8_takes 83 = .ok (.ireturn, 1) := by decide +kernel
theorem dX8_takes_84 : decode cX8_takes 84 = .ok (.iinc 2 1, 3) := by decide +kernel
theorem dX8_takes_87 : decode cX8_takes 87 = .ok (.goto (-85), 3) := by decide +kernel
theorem dX8_takes_90 : decode cX8_takes 90 = .ok (.iconst 0, 1) := by decide +kernel
theorem dX8_takes_91 : decode cX8_takes 91 = .ok (.ireturn, 1) := by decide +kernel
set_option maxRecDepth 20000 in
theorem ggX8_wide_X8_takes : GoodIn wsX8_wide wsX8_takes := goodIn_r _ [8, 1, 9, 3, 2, 4, 5, 6, 7, 10, 11, 12, 13, 14, 15, 16, 17, 18, 19, 20, 21, 22, 23, 24, 25, 26, 27, 28, 29, 30, 31, 32, 33, 34, 35, 36, 37, 38, 39, 40, 41, 42] (by decide +kernel) (by decide +kernel)
set_option maxRecDepth 20000 in
theorem gX8_wide_X8_takes : GoodIn wsX8_wide (wsV RX8 228 RX8 yX8_takes wsX8_takes) := goodIn_app (goodIn_of _ (by decide +kernel)) ggX8_wide_X8_takes
theorem dX8_wide_0 : decode cX8_wide 0 = .ok (.iconst 0, 1) := by decide +kernel
theorem dX8_wide_1 : decode cX8_wide 1 = .ok (.istore_n 1, 1) := by decide +kernel
theorem dX8_wide_2 : decode cX8_wide 2 = .ok (.iload_n 1, 1) := by decide +kernel
theorem dX8_wide_3 : decode cX8_wide 3 = .ok (.aload_n 0, 1) := by decide +kernel
theorem dX8_wide_4 : decode cX8_wide 4 = .ok (.getfield 120, 3) := by decide +kernel
theorem dX8_wide_7 : decode cX8_wide 7 = .ok (.if_icmp .ge 16, 3) := by decide +kernel
theorem dX8_wide_10 : decode cX8_wide 10 = .ok (.aload_n 0, 1) := by decide +kernel
theorem dX8_wide_11 : decode cX8_wide 11 = .ok (.getfield 71, 3) := by decide +kernel
theorem dX8_wide_14 : decode cX8_wide 14 = .ok (.iload_n 1, 1) := by decide +kernel
theorem dX8_wide_15 : decode cX8_wide 15 = .ok (.iconst (-1), 1) := by decide +kernel
theorem dX8_wide_16 : decode cX8_wide 16 = .ok (.iastore, 1) := by decide +kernel
theorem dX8_wide_17 : decode cX8_wide 17 = .ok (.iinc 1 1, 3) := by decide +kernel
theorem dX8_wide_20 : decode cX8_wide 20 = .ok (.goto (-18), 3) := by decide +kernel
theorem dX8_wide_23 : decode cX8_wide 23 = .ok (.aload_n 0, 1) := by decide +kernel
theorem dX8_wide_24 : decode cX8_wide 24 = .ok (.getfield 120, 3) := by decide +kernel
theorem dX8_wide_27 : decode cX8_wide 27 = .ok (.istore_n 1, 1) := by decide +kernel
theorem dX8_wide_28 : decode cX8_wide 28 = .ok (.iconst 0, 1) := by decide +kernel
theorem dX8_wide_29 : decode cX8_wide 29 = .ok (.istore_n 2, 1) := by decide +kernel
theorem dX8_wide_30 : decode cX8_wide 30 = .ok (.iload_n 2, 1) := by decide +kernel
theorem dX8_wide_31 : decode cX8_wide 31 = .ok (.aload_n 0, 1) := by decide +kernel
theorem dX8_wide_32 : decode cX8_wide 32 = .ok (.getfield 120, 3) := by decide +kernel
theorem dX8_wide_35 : decode cX8_wide 35 = .ok (.if_icmp .ge 25, 3) := by decide +kernel
theorem dX8_wide_38 : decode cX8_wide 38 = .ok (.aload_n 0, 1) := by decide +kernel
theorem dX8_wide_39 : decode cX8_wide 39 = .ok (.lconst 0, 1) := by decide +kernel
theorem dX8_wide_40 : decode cX8_wide 40 = .ok (.putfield 224, 3) := by decide +kernel
theorem dX8_wide_43 : decode cX8_wide 43 = .ok (.aload_n 0, 1) := by decide +kernel
theorem dX8_wide_44 : decode cX8_wide 44 = .ok (.iload_n 2, 1) := by decide +kernel
theorem dX8_wide_45 : decode cX8_wide 45 = .ok (.invokevirtual 228, 3) := by decide +kernel
theorem dX8_wide_48 : decode cX8_wide 48 = .ok (.ifCond .eq 6, 3) := by decide +kernel
theorem dX8_wide_51 : decode cX8_wide 51 = .ok (.iinc 1 (-1), 3) := by decide +kernel
theorem dX8_wide_54 : decode cX8_wide 54 = .ok (.iinc 2 1, 3) := by decide +kernel
theorem dX8_wide_57 : decode cX8_wide 57 = .ok (.goto (-27), 3) := by decide +kernel
theorem dX8_wide_60 : decode cX8_wide 60 = .ok (.iload_n 1, 1) := by decide +kernel
theorem dX8_wide_61 : decode cX8_wide 61 = .ok (.ireturn, 1) := by decide +kernel
set_option maxRecDepth 20000 in
theorem ggX8_leastFree_X8_isFree : GoodIn wsX8_leastFree wsX8_isFree := goodIn_r _ [6, 7, 8, 9, 10, 11, 5, 12, 13, 14, 15, 16, 17, 18, 19, 20, 21, 22, 23, 24, 25, 26, 27, 28, 29, 30, 31, 32, 33, 34, 35, 36, 37, 38, 39, 40, 41, 42, 43, 44, 45, 46] (by decide +kernel) (by decide +kernel)
set_option maxRecDepth 20000 in
theorem gX8_leastFree_X8_isFree : GoodIn wsX8_leastFree (wsV RX8 231 RX8 yX8_isFree wsX8_isFree) := goodIn_app (goodIn_of _ (by decide +kernel)) ggX8_leastFree_X8_isFree
theorem dX8_leastFree_0 : decode cX8_leastFree 0 = .ok (.iconst 0, 1) := by decide +kernel
theorem dX8_leastFree_1 : decode cX8_leastFree 1 = .ok (.istore_n 1, 1) := by decide +kernel
theorem dX8_leastFree_2 : decode cX8_leastFree 2 = .ok (.iload_n 1, 1) := by decide +kernel
theorem dX8_leastFree_3 : decode cX8_leastFree 3 = .ok (.aload_n 0, 1) := by decide +kernel
theorem dX8_leastFree_4 : decode cX8_leastFree 4 = .ok (.getfield 120, 3) := by decide +kernel
theorem dX8_leastFree_7 : decode cX8_leastFree 7 = .ok (.if_icmp .ge 19, 3) := by decide +kernel
theorem dX8_leastFree_10 : decode cX8_leastFree 10 = .ok (.aload_n 0, 1) := by decide +kernel
theorem dX8_leastFree_11 : decode cX8_leastFree 11 = .ok (.iload_n 1, 1) := by decide +kernel
theorem dX8_leastFree_12 : decode cX8_leastFree 12 = .ok (.invokevirtual 231, 3) := by decide +kernel
theorem dX8_leastFree_15 : decode cX8_leastFree 15 = .ok (.ifCond .eq 5, 3) := by decide +kernel
theorem dX8_leastFree_18 : decode cX8_leastFree 18 = .ok (.iload_n 1, 1) := by decide +kernel
theorem dX8_leastFree_19 : decode cX8_leastFree 19 = .ok (.ireturn, 1) := by decide +kernel
theorem dX8_leastFree_20 : decode cX8_leastFree 20 = .ok (.iinc 1 1, 3) := by decide +kernel
theorem dX8_leastFree_23 : decode cX8_leastFree 23 = .ok (.goto (-21), 3) := by decide +kernel
theorem dX8_leastFree_26 : decode cX8_leastFree 26 = .ok (.iconst (-1), 1) := by decide +kernel
theorem dX8_leastFree_27 : decode cX8_leastFree 27 = .ok (.ireturn, 1) := by decide +kernel
set_option maxRecDepth 20000 in
theorem ggX8_freeMany_X8_isFree : GoodIn wsX8_freeMany wsX8_isFree := goodIn_r _ [6, 7, 8, 9, 10, 11, 5, 12, 13, 14, 15, 16, 17, 18, 19, 20, 21, 22, 23, 24, 25, 26, 27, 28, 29, 30, 31, 32, 33, 34, 35, 36, 37, 38, 39, 40, 41, 42, 43, 44, 45, 46] (by decide +kernel) (by decide +kernel)
set_option maxRecDepth 20000 in
theorem gX8_freeMany_X8_isFree : GoodIn wsX8_freeMany (wsV RX8 231 RX8 yX8_isFree wsX8_isFree) := goodIn_app (goodIn_of _ (by decide +kernel)) ggX8_freeMany_X8_isFree
theorem dX8_freeMany_0 : decode cX8_freeMany 0 = .ok (.iconst 0, 1) := by decide +kernel
theorem dX8_freeMany_1 : decode cX8_freeMany 1 = .ok (.istore_n 1, 1) := by decide +kernel
theorem dX8_freeMany_2 : decode cX8_freeMany 2 = .ok (.iconst 0, 1) := by decide +kernel
theorem dX8_freeMany_3 : decode cX8_freeMany 3 = .ok (.istore_n 2, 1) := by decide +kernel
theorem dX8_freeMany_4 : decode cX8_freeMany 4 = .ok (.iload_n 2, 1) := by decide +kernel
theorem dX8_freeMany_5 : decode cX8_freeMany 5 = .ok (.aload_n 0, 1) := by decide +kernel
theorem dX8_freeMany_6 : decode cX8_freeMany 6 = .ok (.getfield 120, 3) := by decide +kernel
theorem dX8_freeMany_9 : decode cX8_freeMany 9 = .ok (.if_icmp .ge 25, 3) := by decide +kernel
theorem dX8_freeMany_12 : decode cX8_freeMany 12 = .ok (.iload_n 1, 1) := by decide +kernel
theorem dX8_freeMany_13 : decode cX8_freeMany 13 = .ok (.aload_n 0, 1) := by decide +kernel
theorem dX8_freeMany_14 : decode cX8_freeMany 14 = .ok (.iload_n 2, 1) := by decide +kernel
theorem dX8_freeMany_15 : decode cX8_freeMany 15 = .ok (.invokevirtual 231, 3) := by decide +kernel
theorem dX8_freeMany_18 : decode cX8_freeMany 18 = .ok (.ifCond .eq 7, 3) := by decide +kernel
theorem dX8_freeMany_21 : decode cX8_freeMany 21 = .ok (.iconst 1, 1) := by decide +kernel
theorem dX8_freeMany_22 : decode cX8_freeMany 22 = .ok (.goto 4, 3) := by decide +kernel
theorem dX8_freeMany_25 : decode cX8_freeMany 25 = .ok (.iconst 0, 1) := by decide +kernel
theorem dX8_freeMany_26 : decode cX8_freeMany 26 = .ok (.iadd, 1) := by decide +kernel
theorem dX8_freeMany_27 : decode cX8_freeMany 27 = .ok (.istore_n 1, 1) := by decide +kernel
theorem dX8_freeMany_28 : decode cX8_freeMany 28 = .ok (.iinc 2 1, 3) := by decide +kernel
theorem dX8_freeMany_31 : decode cX8_freeMany 31 = .ok (.goto (-27), 3) := by decide +kernel
theorem dX8_freeMany_34 : decode cX8_freeMany 34 = .ok (.iload_n 1, 1) := by decide +kernel
theorem dX8_freeMany_35 : decode cX8_freeMany 35 = .ok (.ireturn, 1) := by decide +kernel
set_option maxRecDepth 20000 in
theorem ggX8_stitches_X8_deep : GoodIn wsX8_stitches wsX8_deep := goodIn_r _ [9, 1, 10, 50, 51, 52, 53, 54, 55, 56, 57, 58, 59, 60, 61, 62, 63, 64, 65, 66, 67, 68, 69, 70, 71, 72, 73, 74, 75, 76, 77, 78, 79, 80, 81, 82] (by decide +kernel) (by decide +kernel)
set_option maxRecDepth 20000 in
theorem gX8_stitches_X8_deep : GoodIn wsX8_stitches (wsV RX8 234 RX8 yX8_deep wsX8_deep) := goodIn_app (goodIn_of _ (by decide +kernel)) ggX8_stitches_X8_deep
set_option maxRecDepth 20000 in
theorem ggX8_stitches_X8_chain : GoodIn wsX8_stitches wsX8_chain := goodIn_r _ [14, 1, 15, 50, 51, 52, 53, 54, 55, 56, 57, 58, 59, 60, 61, 62, 63, 64, 65, 66, 67, 68, 69, 70, 71, 72, 73, 74, 75, 76, 77, 78, 79, 80, 81, 82] (by decide +kernel) (by decide +kernel)
set_option maxRecDepth 20000 in
theorem gX8_stitches_X8_chain : GoodIn wsX8_stitches (wsV RX8 237 RX8 yX8_chain wsX8_chain) := goodIn_app (goodIn_of _ (by decide +kernel)) ggX8_stitches_X8_chain
set_option maxRecDepth 20000 in
theorem ggX8_stitches_X8_wide : GoodIn wsX8_stitches wsX8_wide := goodIn_r _ [19, 1, 20, 21, 22, 23, 24, 8, 25, 26, 50, 51, 52, 53, 54, 55, 56, 57, 58, 59, 60, 61, 62, 63, 64, 65, 66, 67, 68, 69, 70, 71, 72, 73, 74, 75, 76, 77, 78, 79, 80, 81, 82] (by decide +kernel) (by decide +kernel)
set_option maxRecDepth 20000 in
theorem gX8_stitches_X8_wide : GoodIn wsX8_stitches (wsV RX8 240 RX8 yX8_wide wsX8_wide) := goodIn_app (goodIn_of _ (by decide +kernel)) ggX8_stitches_X8_wide
set_option maxRecDepth 20000 in
theorem ggX8_stitches_X8_freeMany : GoodIn wsX8_stitches wsX8_freeMany := goodIn_r _ [30, 1, 31, 32, 33, 8, 34, 26, 35, 36, 37, 38, 39, 2, 50, 51, 52, 53, 54, 55, 56, 57, 58, 59, 60, 61, 62, 63, 64, 65, 66, 67, 68, 69, 70, 71, 72, 73, 74, 75, 76, 77, 78, 79, 80, 81, 82] (by decide +kernel) (by decide +kernel)
set_option maxRecDepth 20000 in
theorem gX8_stitches_X8_freeMany : GoodIn wsX8_stitches (wsV RX8 243 RX8 yX8_freeMany wsX8_freeMany) := goodIn_app (goodIn_of _ (by decide +kernel)) ggX8_stitches_X8_freeMany
set_option maxRecDepth 20000 in
theorem ggX8_stitches_X8_leastFree : GoodIn wsX8_stitches wsX8_leastFree := goodIn_r _ [43, 1, 31, 32, 33, 8, 34, 26, 35, 36, 37, 38, 39, 2, 50, 51, 52, 53, 54, 55, 56, 57, 58, 59, 60, 61, 62, 63, 64, 65, 66, 67, 68, 69, 70, 71, 72, 73, 74, 75, 76, 77, 78, 79, 80, 81, 82] (by decide +kernel) (by decide +kernel)
set_option maxRecDepth 20000 in
theorem gX8_stitches_X8_leastFree : GoodIn wsX8_stitches (wsV RX8 246 RX8 yX8_leastFree wsX8_leastFree) := goodIn_app (goodIn_of _ (by decide +kernel)) ggX8_stitches_X8_leastFree
set_option maxRecDepth 20000 in
theorem ggX8_stitches_X8_errs : GoodIn wsX8_stitches wsX8_errs := goodIn_r _ [47, 48, 49, 50, 51, 52, 53, 54, 55, 56, 57, 58, 59, 60, 61, 62, 63, 64, 65, 66, 67, 68, 69, 70, 71, 72, 73, 74, 75, 76, 77, 78, 79, 80, 81, 82] (by decide +kernel) (by decide +kernel)
set_option maxRecDepth 20000 in
theorem gX8_stitches_X8_errs : GoodIn wsX8_stitches (wsV RX8 150 RX8 yX8_errs wsX8_errs) := goodIn_app (goodIn_of _ (by decide +kernel)) ggX8_stitches_X8_errs
theorem dX8_stitches_0 : decode cX8_stitches 0 = .ok (.iload_n 1, 1) := by decide +kernel
theorem dX8_stitches_1 : decode cX8_stitches 1 = .ok (.tableswitch 96 0 6 #[43, 48, 53, 58, 63, 68, 75], 43) := by decide +kernel
theorem dX8_stitches_44 : decode cX8_stitches 44 = .ok (.aload_n 0, 1) := by decide +kernel
theorem dX8_stitches_45 : decode cX8_stitches 45 = .ok (.getfield 120, 3) := by decide +kernel
theorem dX8_stitches_48 : decode cX8_stitches 48 = .ok (.ireturn, 1) := by decide +kernel
theorem dX8_stitches_49 : decode cX8_stitches 49 = .ok (.aload_n 0, 1) := by decide +kernel
theorem dX8_stitches_50 : decode cX8_stitches 50 = .ok (.invokevirtual 234, 3) := by decide +kernel
theorem dX8_stitches_53 : decode cX8_stitches 53 = .ok (.ireturn, 1) := by decide +kernel
theorem dX8_stitches_54 : decode cX8_stitches 54 = .ok (.aload_n 0, 1) := by decide +kernel
theorem dX8_stitches_55 : decode cX8_stitches 55 = .ok (.invokevirtual 237, 3) := by decide +kernel
theorem dX8_stitches_58 : decode cX8_stitches 58 = .ok (.ireturn, 1) := by decide +kernel
theorem dX8_stitches_59 : decode cX8_stitches 59 = .ok (.aload_n 0, 1) := by decide +kernel
theorem dX8_stitches_60 : decode cX8_stitches 60 = .ok (.invokevirtual 240, 3) := by decide +kernel
theorem dX8_stitches_63 : decode cX8_stitches 63 = .ok (.ireturn, 1) := by decide +kernel
theorem dX8_stitches_64 : decode cX8_stitches 64 = .ok (.aload_n 0, 1) := by decide +kernel
theorem dX8_stitches_65 : decode cX8_stitches 65 = .ok (.invokevirtual 243, 3) := by decide +kernel
theorem dX8_stitches_68 : decode cX8_stitches 68 = .ok (.ireturn, 1) := by decide +kernel
theorem dX8_stitches_69 : decode cX8_stitches 69 = .ok (.aload_n 0, 1) := by decide +kernel
theorem dX8_stitches_70 : decode cX8_stitches 70 = .ok (.getfield 9, 3) := by decide +kernel
theorem dX8_stitches_73 : decode cX8_stitches 73 = .ok (.iconst 1, 1) := by decide +kernel
theorem dX8_stitches_74 : decode cX8_stitches 74 = .ok (.iaload, 1) := by decide +kernel
theorem dX8_stitches_75 : decode cX8_stitches 75 = .ok (.ireturn, 1) := by decide +kernel
theorem dX8_stitches_76 : decode cX8_stitches 76 = .ok (.aload_n 0, 1) := by decide +kernel
theorem dX8_stitches_77 : decode cX8_stitches 77 = .ok (.invokevirtual 246, 3) := by decide +kernel
theorem dX8_stitches_80 : decode cX8_stitches 80 = .ok (.ifCond .ge 12, 3) := by decide +kernel
theorem dX8_stitches_83 : decode cX8_stitches 83 = .ok (.aload_n 0, 1) := by decide +kernel
theorem dX8_stitches_84 : decode cX8_stitches 84 = .ok (.ldc 249, 2) := by decide +kernel
theorem dX8_stitches_86 : decode cX8_stitches 86 = .ok (.invokevirtual 150, 3) := by decide +kernel
theorem dX8_stitches_89 : decode cX8_stitches 89 = .ok (.goto 7, 3) := by decide +kernel
theorem dX8_stitches_92 : decode cX8_stitches 92 = .ok (.aload_n 0, 1) := by decide +kernel
theorem dX8_stitches_93 : decode cX8_stitches 93 = .ok (.invokevirtual 246, 3) := by decide +kernel
theorem dX8_stitches_96 : decode cX8_stitches 96 = .ok (.ireturn, 1) := by decide +kernel
theorem dX8_stitches_97 : decode cX8_stitches 97 = .ok (.aload_n 0, 1) := by decide +kernel
theorem dX8_stitches_98 : decode cX8_stitches 98 = .ok (.ldc 149, 2) := by decide +kernel
theorem dX8_stitches_100 : decode cX8_stitches 100 = .ok (.invokevirtual 150, 3) := by decide +kernel
theorem dX8_stitches_103 : decode cX8_stitches 103 = .ok (.ireturn, 1) := by decide +kernel
set_option maxRecDepth 20000 in
theorem ggX8_isStitch_X8_in : GoodIn wsX8_isStitch wsX8_in := goodIn_r _ [5] (by decide +kernel) (by decide +kernel)
set_option maxRecDepth 20000 in
theorem gX8_isStitch_X8_in : GoodIn wsX8_isStitch (va_wsS RX8 145 yX8_in wsX8_in) := goodIn_app (goodIn_of _ (by decide +kernel)) ggX8_isStitch_X8_in
theorem dX8_isStitch_0 : decode cX8_isStitch 0 = .ok (.lload_n 1, 1) := by decide +kernel
theorem dX8_isStitch_1 : decode cX8_isStitch 1 = .ok (.lconst 0, 1) := by decide +kernel
theorem dX8_isStitch_2 : decode cX8_isStitch 2 = .ok (.aload_n 0, 1) := by decide +kernel
theorem dX8_isStitch_3 : decode cX8_isStitch 3 = .ok (.getfield 120, 3) := by decide +kernel
theorem dX8_isStitch_6 : decode cX8_isStitch 6 = .ok (.iconst 1, 1) := by decide +kernel
theorem dX8_isStitch_7 : decode cX8_isStitch 7 = .ok (.isub, 1) := by decide +kernel
theorem dX8_isStitch_8 : decode cX8_isStitch 8 = .ok (.i2l, 1) := by decide +kernel
theorem dX8_isStitch_9 : decode cX8_isStitch 9 = .ok (.invokestatic 145, 3) := by decide +kernel
theorem dX8_isStitch_12 : decode cX8_isStitch 12 = .ok (.ireturn, 1) := by decide +kernel
theorem dX8_behind_0 : decode cX8_behind 0 = .ok (.iconst 0, 1) := by decide +kernel
theorem dX8_behind_1 : decode cX8_behind 1 = .ok (.istore_n 2, 1) := by decide +kernel
theorem dX8_behind_2 : decode cX8_behind 2 = .ok (.iconst 0, 1) := by decide +kernel
theorem dX8_behind_3 : decode cX8_behind 3 = .ok (.istore_n 3, 1) := by decide +kernel
theorem dX8_behind_4 : decode cX8_behind 4 = .ok (.iload_n 3, 1) := by decide +kernel
theorem dX8_behind_5 : decode cX8_behind 5 = .ok (.aload_n 0, 1) := by decide +kernel
theorem dX8_behind_6 : decode cX8_behind 6 = .ok (.getfield 120, 3) := by decide +kernel
theorem dX8_behind_9 : decode cX8_behind 9 = .ok (.if_icmp .ge 23, 3) := by decide +kernel
theorem dX8_behind_12 : decode cX8_behind 12 = .ok (.iload_n 2, 1) := by decide +kernel
theorem dX8_behind_13 : decode cX8_behind 13 = .ok (.aload_n 0, 1) := by decide +kernel
theorem dX8_behind_14 : decode cX8_behind 14 = .ok (.getfield 34, 3) := by decide +kernel
theorem dX8_behind_17 : decode cX8_behind 17 = .ok (.iload_n 3, 1) := by decide +kernel
theorem dX8_behind_18 : decode cX8_behind 18 = .ok (.laload, 1) := by decide +kernel
theorem dX8_behind_19 : decode cX8_behind 19 = .ok (.iload_n 1, 1) := by decide +kernel
theorem dX8_behind_20 : decode cX8_behind 20 = .ok (.lshr, 1) := by decide +kernel
theorem dX8_behind_21 : decode cX8_behind 21 = .ok (.lconst 1, 1) := by decide +kernel
theorem dX8_behind_22 : decode cX8_behind 22 = .ok (.land, 1) := by decide +kernel
theorem dX8_behind_23 : decode cX8_behind 23 = .ok (.l2i, 1) := by decide +kernel
theorem dX8_behind_24 : decode cX8_behind 24 = .ok (.iadd, 1) := by decide +kernel
theorem dX8_behind_25 : decode cX8_behind 25 = .ok (.istore_n 2, 1) := by decide +kernel
theorem dX8_behind_26 : decode cX8_behind 26 = .ok (.iinc 3 1, 3) := by decide +kernel
theorem dX8_behind_29 : decode cX8_behind 29 = .ok (.goto (-25), 3) := by decide +kernel
theorem dX8_behind_32 : decode cX8_behind 32 = .ok (.iload_n 2, 1) := by decide +kernel
theorem dX8_behind_33 : decode cX8_behind 33 = .ok (.ireturn, 1) := by decide +kernel
set_option maxRecDepth 20000 in
theorem ggX8_stitch_X8_isStitch : GoodIn wsX8_stitch wsX8_isStitch := goodIn_r _ [11, 12, 13, 14, 10, 15, 39, 40, 41, 42, 43, 44, 45, 46, 47, 48, 49, 50, 51, 52, 53, 54, 55, 56, 57, 58, 59, 60, 61, 62, 63, 64, 65, 66, 67, 68, 69, 70, 71] (by decide +kernel) (by decide +kernel)
set_option maxRecDepth 20000 in
theorem gX8_stitch_X8_isStitch : GoodIn wsX8_stitch (wsV RX8 250 RX8 yX8_isStitch wsX8_isStitch) := goodIn_app (goodIn_of _ (by decide +kernel)) ggX8_stitch_X8_isStitch
set_option maxRecDepth 20000 in
theorem ggX8_stitch_X8_errs : GoodIn wsX8_stitch wsX8_errs := goodIn_r _ [19, 20, 21, 39, 40, 41, 42, 43, 44, 45, 46, 47, 48, 49, 50, 51, 52, 53, 54, 55, 56, 57, 58, 59, 60, 61, 62, 63, 64, 65, 66, 67, 68, 69, 70, 71] (by decide +kernel) (by decide +kernel)
set_option maxRecDepth 20000 in
theorem gX8_stitch_X8_errs : GoodIn wsX8_stitch (wsV RX8 150 RX8 yX8_errs wsX8_errs) := goodIn_app (goodIn_of _ (by decide +kernel)) ggX8_stitch_X8_errs
set_option maxRecDepth 20000 in
theorem ggX8_stitch_X8_bits : GoodIn wsX8_stitch wsX8_bits := goodIn_r _ [24] (by decide +kernel) (by decide +kernel)
set_option maxRecDepth 20000 in
theorem gX8_stitch_X8_bits : GoodIn wsX8_stitch (va_wsS RX8 254 yX8_bits wsX8_bits) := goodIn_app (goodIn_of _ (by decide +kernel)) ggX8_stitch_X8_bits
set_option maxRecDepth 20000 in
theorem ggX8_stitch_X8_behind : GoodIn wsX8_stitch wsX8_behind := goodIn_r _ [28, 12, 6, 39, 40, 41, 42, 43, 44, 45, 46, 47, 48, 49, 50, 51, 52, 53, 54, 55, 56, 57, 58, 59, 60, 61, 62, 63, 64, 65, 66, 67, 68, 69, 70, 71] (by decide +kernel) (by decide +kernel)
set_option maxRecDepth 20000 in
theorem gX8_stitch_X8_behind : GoodIn wsX8_stitch (wsV RX8 258 RX8 yX8_behind wsX8_behind) := goodIn_app (goodIn_of _ (by decide +kernel)) ggX8_stitch_X8_behind
set_option maxRecDepth 20000 in
theorem ggX8_stitch_X8_workedSet : GoodIn wsX8_stitch wsX8_workedSet := goodIn_r _ [32, 33, 39, 40, 41, 42, 43, 44, 45, 46, 47, 48, 49, 50, 51, 52, 53, 54, 55, 56, 57, 58, 59, 60, 61, 62, 63, 64, 65, 66, 67, 68, 69, 70, 71] (by decide +kernel) (by decide +kernel)
set_option maxRecDepth 20000 in
theorem gX8_stitch_X8_workedSet : GoodIn wsX8_stitch (wsV RX8 135 RX8 yX8_workedSet wsX8_workedSet) := goodIn_app (goodIn_of _ (by decide +kernel)) ggX8_stitch_X8_workedSet
set_option maxRecDepth 20000 in
theorem ggX8_stitch_X8_isFree : GoodIn wsX8_stitch wsX8_isFree := goodIn_r _ [37, 6, 38, 29, 30, 31, 10, 32, 33, 39, 40, 41, 42, 43, 44, 45, 46, 47, 48, 49, 50, 51, 52, 53, 54, 55, 56, 57, 58, 59, 60, 61, 62, 63, 64, 65, 66, 67, 68, 69, 70, 71] (by decide +kernel) (by decide +kernel)
set_option maxRecDepth 20000 in
theorem gX8_stitch_X8_isFree : GoodIn wsX8_stitch (wsV RX8 231 RX8 yX8_isFree wsX8_isFree) := goodIn_app (goodIn_of _ (by decide +kernel)) ggX8_stitch_X8_isFree
theorem dX8_stitch_0 : decode cX8_stitch 0 = .ok (.aload_n 0, 1) := by decide +kernel
theorem dX8_stitch_1 : decode cX8_stitch 1 = .ok (.iload_n 1, 1) := by decide +kernel
theorem dX8_stitch_2 : decode cX8_stitch 2 = .ok (.i2l, 1) := by decide +kernel
theorem dX8_stitch_3 : decode cX8_stitch 3 = .ok (.invokevirtual 250, 3) := by decide +kernel
theorem dX8_stitch_6 : decode cX8_stitch 6 = .ok (.ifCond .ne 10, 3) := by decide +kernel
theorem dX8_stitch_9 : decode cX8_stitch 9 = .ok (.aload_n 0, 1) := by decide +kernel
theorem dX8_stitch_10 : decode cX8_stitch 10 = .ok (.ldc 149, 2) := by decide +kernel
theorem dX8_stitch_12 : decode cX8_stitch 12 = .ok (.invokevirtual 150, 3) := by decide +kernel
theorem dX8_stitch_15 : decode cX8_stitch 15 = .ok (.ireturn, 1) := by decide +kernel
theorem dX8_stitch_16 : decode cX8_stitch 16 = .ok (.iload_n 2, 1) := by decide +kernel
theorem dX8_stitch_17 : decode cX8_stitch 17 = .ok (.tableswitch 115 0 7 #[47, 54, 61, 68, 75, 85, 91, 101], 47) := by decide +kernel
theorem dX8_stitch_64 : decode cX8_stitch 64 = .ok (.aload_n 0, 1) := by decide +kernel
theorem dX8_stitch_65 : decode cX8_stitch 65 = .ok (.getfield 22, 3) := by decide +kernel
theorem dX8_stitch_68 : decode cX8_stitch 68 = .ok (.iload_n 1, 1) := by decide +kernel
theorem dX8_stitch_69 : decode cX8_stitch 69 = .ok (.iaload, 1) := by decide +kernel
theorem dX8_stitch_70 : decode cX8_stitch 70 = .ok (.ireturn, 1) := by decide +kernel
theorem dX8_stitch_71 : decode cX8_stitch 71 = .ok (.aload_n 0, 1) := by decide +kernel
theorem dX8_stitch_72 : decode cX8_stitch 72 = .ok (.getfield 25, 3) := by decide +kernel
theorem dX8_stitch_75 : decode cX8_stitch 75 = .ok (.iload_n 1, 1) := by decide +kernel
theorem dX8_stitch_76 : decode cX8_stitch 76 = .ok (.iaload, 1) := by decide +kernel
theorem dX8_stitch_77 : decode cX8_stitch 77 = .ok (.ireturn, 1) := by decide +kernel
theorem dX8_stitch_78 : decode cX8_stitch 78 = .ok (.aload_n 0, 1) := by decide +kernel
theorem dX8_stitch_79 : decode cX8_stitch 79 = .ok (.getfield 28, 3) := by decide +kernel
theorem dX8_stitch_82 : decode cX8_stitch 82 = .ok (.iload_n 1, 1) := by decide +kernel
theorem dX8_stitch_83 : decode cX8_stitch 83 = .ok (.iaload, 1) := by decide +kernel
theorem dX8_stitch_84 : decode cX8_stitch 84 = .ok (.ireturn, 1) := by decide +kernel
theorem dX8_stitch_85 : decode cX8_stitch 85 = .ok (.aload_n 0, 1) := by decide +kernel
theorem dX8_stitch_86 : decode cX8_stitch 86 = .ok (.getfield 31, 3) := by decide +kernel
theorem dX8_stitch_89 : decode cX8_stitch 89 = .ok (.iload_n 1, 1) := by decide +kernel
theorem dX8_stitch_90 : decode cX8_stitch 90 = .ok (.iaload, 1) := by decide +kernel
theorem dX8_stitch_91 : decode cX8_stitch 91 = .ok (.ireturn, 1) := by decide +kernel
theorem dX8_stitch_92 : decode cX8_stitch 92 = .ok (.aload_n 0, 1) := by decide +kernel
theorem dX8_stitch_93 : decode cX8_stitch 93 = .ok (.getfield 34, 3) := by decide +kernel
theorem dX8_stitch_96 : decode cX8_stitch 96 = .ok (.iload_n 1, 1) := by decide +kernel
theorem dX8_stitch_97 : decode cX8_stitch 97 = .ok (.laload, 1) := by decide +kernel
theorem dX8_stitch_98 : decode cX8_stitch 98 = .ok (.invokestatic 254, 3) := by decide +kernel
theorem dX8_stitch_101 : decode cX8_stitch 101 = .ok (.ireturn, 1) := by decide +kernel
theorem dX8_stitch_102 : decode cX8_stitch 102 = .ok (.aload_n 0, 1) := by decide +kernel
theorem dX8_stitch_103 : decode cX8_stitch 103 = .ok (.iload_n 1, 1) := by decide +kernel
theorem dX8_stitch_104 : decode cX8_stitch 104 = .ok (.invokevirtual 258, 3) := by decide +kernel
theorem dX8_stitch_107 : decode cX8_stitch 107 = .ok (.ireturn, 1) := by decide +kernel
theorem dX8_stitch_108 : decode cX8_stitch 108 = .ok (.aload_n 0, 1) := by decide +kernel
theorem dX8_stitch_109 : decode cX8_stitch 109 = .ok (.invokevirtual 135, 3) := by decide +kernel
theorem dX8_stitch_112 : decode cX8_stitch 112 = .ok (.iload_n 1, 1) := by decide +kernel
theorem dX8_stitch_113 : decode cX8_stitch 113 = .ok (.lshr, 1) := by decide +kernel
theorem dX8_stitch_114 : decode cX8_stitch 114 = .ok (.lconst 1, 1) := by decide +kernel
theorem dX8_stitch_115 : decode cX8_stitch 115 = .ok (.land, 1) := by decide +kernel
theorem dX8_stitch_116 : decode cX8_stitch 116 = .ok (.l2i, 1) := by decide +kernel
theorem dX8_stitch_117 : decode cX8_stitch 117 = .ok (.ireturn, 1) := by decide +kernel
theorem dX8_stitch_118 : decode cX8_stitch 118 = .ok (.aload_n 0, 1) := by decide +kernel
theorem dX8_stitch_119 : decode cX8_stitch 119 = .ok (.iload_n 1, 1) := by decide +kernel
theorem dX8_stitch_120 : decode cX8_stitch 120 = .ok (.invokevirtual 231, 3) := by decide +kernel
theorem dX8_stitch_123 : decode cX8_stitch 123 = .ok (.ifCond .eq 7, 3) := by decide +kernel
theorem dX8_stitch_126 : decode cX8_stitch 126 = .ok (.iconst 1, 1) := by decide +kernel
