theorem dX10_search_303 : decode cX10_search 303 = .ok (.iload_n 1, 1) := by decide +kernel
theorem dX10_search_304 : decode cX10_search 304 = .ok (.iconst 1, 1) := by decide +kernel
theorem dX10_search_305 : decode cX10_search 305 = .ok (.bastore, 1) := by decide +kernel
theorem dX10_search_306 : decode cX10_search 306 = .ok (.aload_n 0, 1) := by decide +kernel
theorem dX10_search_307 : decode cX10_search 307 = .ok (.getfield 42, 3) := by decide +kernel
theorem dX10_search_310 : decode cX10_search 310 = .ok (.iload_n 1, 1) := by decide +kernel
theorem dX10_search_311 : decode cX10_search 311 = .ok (.aload_n 0, 1) := by decide +kernel
theorem dX10_search_312 : decode cX10_search 312 = .ok (.getfield 177, 3) := by decide +kernel
theorem dX10_search_315 : decode cX10_search 315 = .ok (.iastore, 1) := by decide +kernel
theorem dX10_search_316 : decode cX10_search 316 = .ok (.iconst 0, 1) := by decide +kernel
theorem dX10_search_317 : decode cX10_search 317 = .ok (.istore 5, 2) := by decide +kernel
theorem dX10_search_319 : decode cX10_search 319 = .ok (.iload 5, 2) := by decide +kernel
theorem dX10_search_321 : decode cX10_search 321 = .ok (.aload_n 0, 1) := by decide +kernel
theorem dX10_search_322 : decode cX10_search 322 = .ok (.getfield 177, 3) := by decide +kernel
theorem dX10_search_325 : decode cX10_search 325 = .ok (.if_icmp .ge 47, 3) := by decide +kernel
theorem dX10_search_328 : decode cX10_search 328 = .ok (.aload_n 0, 1) := by decide +kernel
theorem dX10_search_329 : decode cX10_search 329 = .ok (.getfield 45, 3) := by decide +kernel
theorem dX10_search_332 : decode cX10_search 332 = .ok (.bipush 20, 2) := by decide +kernel
theorem dX10_search_334 : decode cX10_search 334 = .ok (.iload_n 1, 1) := by decide +kernel
theorem dX10_search_335 : decode cX10_search 335 = .ok (.imul, 1) := by decide +kernel
theorem dX10_search_336 : decode cX10_search 336 = .ok (.iload 5, 2) := by decide +kernel
theorem dX10_search_338 : decode cX10_search 338 = .ok (.iadd, 1) := by decide +kernel
theorem dX10_search_339 : decode cX10_search 339 = .ok (.aload_n 0, 1) := by decide +kernel
theorem dX10_search_340 : decode cX10_search 340 = .ok (.getfield 55, 3) := by decide +kernel
theorem dX10_search_343 : decode cX10_search 343 = .ok (.iload 5, 2) := by decide +kernel
theorem dX10_search_345 : decode cX10_search 345 = .ok (.iaload, 1) := by decide +kernel
theorem dX10_search_346 : decode cX10_search 346 = .ok (.iastore, 1) := by decide +kernel
theorem dX10_search_347 : decode cX10_search 347 = .ok (.aload_n 0, 1) := by decide +kernel
theorem dX10_search_348 : decode cX10_search 348 = .ok (.getfield 48, 3) := by decide +kernel
theorem dX10_search_351 : decode cX10_search 351 = .ok (.bipush 20, 2) := by decide +kernel
theorem dX10_search_353 : decode cX10_search 353 = .ok (.iload_n 1, 1) := by decide +kernel
theorem dX10_search_354 : decode cX10_search 354 = .ok (.imul, 1) := by decide +kernel
theorem dX10_search_355 : decode cX10_search 355 = .ok (.iload 5, 2) := by decide +kernel
theorem dX10_search_357 : decode cX10_search 357 = .ok (.iadd, 1) := by decide +kernel
theorem dX10_search_358 : decode cX10_search 358 = .ok (.aload_n 0, 1) := by decide +kernel
theorem dX10_search_359 : decode cX10_search 359 = .ok (.getfield 58, 3) := by decide +kernel
theorem dX10_search_362 : decode cX10_search 362 = .ok (.iload 5, 2) := by decide +kernel
theorem dX10_search_364 : decode cX10_search 364 = .ok (.daload, 1) := by decide +kernel
theorem dX10_search_365 : decode cX10_search 365 = .ok (.dastore, 1) := by decide +kernel
theorem dX10_search_366 : decode cX10_search 366 = .ok (.iinc 5 1, 3) := by decide +kernel
theorem dX10_search_369 : decode cX10_search 369 = .ok (.goto (-50), 3) := by decide +kernel
theorem dX10_search_372 : decode cX10_search 372 = .ok (.aload_n 0, 1) := by decide +kernel
theorem dX10_search_373 : decode cX10_search 373 = .ok (.getfield 52, 3) := by decide +kernel
theorem dX10_search_376 : decode cX10_search 376 = .ok (.iconst 3, 1) := by decide +kernel
theorem dX10_search_377 : decode cX10_search 377 = .ok (.iload_n 1, 1) := by decide +kernel
theorem dX10_search_378 : decode cX10_search 378 = .ok (.imul, 1) := by decide +kernel
theorem dX10_search_379 : decode cX10_search 379 = .ok (.aload_n 0, 1) := by decide +kernel
theorem dX10_search_380 : decode cX10_search 380 = .ok (.getfield 180, 3) := by decide +kernel
theorem dX10_search_383 : decode cX10_search 383 = .ok (.iastore, 1) := by decide +kernel
theorem dX10_search_384 : decode cX10_search 384 = .ok (.aload_n 0, 1) := by decide +kernel
theorem dX10_search_385 : decode cX10_search 385 = .ok (.getfield 52, 3) := by decide +kernel
theorem dX10_search_388 : decode cX10_search 388 = .ok (.iconst 3, 1) := by decide +kernel
theorem dX10_search_389 : decode cX10_search 389 = .ok (.iload_n 1, 1) := by decide +kernel
theorem dX10_search_390 : decode cX10_search 390 = .ok (.imul, 1) := by decide +kernel
theorem dX10_search_391 : decode cX10_search 391 = .ok (.iconst 1, 1) := by decide +kernel
theorem dX10_search_392 : decode cX10_search 392 = .ok (.iadd, 1) := by decide +kernel
theorem dX10_search_393 : decode cX10_search 393 = .ok (.aload_n 0, 1) := by decide +kernel
theorem dX10_search_394 : decode cX10_search 394 = .ok (.getfield 200, 3) := by decide +kernel
theorem dX10_search_397 : decode cX10_search 397 = .ok (.iastore, 1) := by decide +kernel
theorem dX10_search_398 : decode cX10_search 398 = .ok (.aload_n 0, 1) := by decide +kernel
theorem dX10_search_399 : decode cX10_search 399 = .ok (.getfield 52, 3) := by decide +kernel
theorem dX10_search_402 : decode cX10_search 402 = .ok (.iconst 3, 1) := by decide +kernel
theorem dX10_search_403 : decode cX10_search 403 = .ok (.iload_n 1, 1) := by decide +kernel
theorem dX10_search_404 : decode cX10_search 404 = .ok (.imul, 1) := by decide +kernel
theorem dX10_search_405 : decode cX10_search 405 = .ok (.iconst 2, 1) := by decide +kernel
theorem dX10_search_406 : decode cX10_search 406 = .ok (.iadd, 1) := by decide +kernel
theorem dX10_search_407 : decode cX10_search 407 = .ok (.aload_n 0, 1) := by decide +kernel
theorem dX10_search_408 : decode cX10_search 408 = .ok (.getfield 206, 3) := by decide +kernel
theorem dX10_search_411 : decode cX10_search 411 = .ok (.iastore, 1) := by decide +kernel
theorem dX10_search_412 : decode cX10_search 412 = .ok (.aload_n 0, 1) := by decide +kernel
theorem dX10_search_413 : decode cX10_search 413 = .ok (.getfield 177, 3) := by decide +kernel
theorem dX10_search_416 : decode cX10_search 416 = .ok (.ireturn, 1) := by decide +kernel
theorem dX10_find_0 : decode cX10_find 0 = .ok (.iload_n 1, 1) := by decide +kernel
theorem dX10_find_1 : decode cX10_find 1 = .ok (.iconst 3, 1) := by decide +kernel
theorem dX10_find_2 : decode cX10_find 2 = .ok (.invokestatic 92, 3) := by decide +kernel
theorem dX10_find_5 : decode cX10_find 5 = .ok (.ifCond .eq 7, 3) := by decide +kernel
theorem dX10_find_8 : decode cX10_find 8 = .ok (.iconst 1, 1) := by decide +kernel
theorem dX10_find_9 : decode cX10_find 9 = .ok (.goto 34, 3) := by decide +kernel
theorem dX10_find_12 : decode cX10_find 12 = .ok (.aload_n 0, 1) := by decide +kernel
theorem dX10_find_13 : decode cX10_find 13 = .ok (.getfield 38, 3) := by decide +kernel
theorem dX10_find_16 : decode cX10_find 16 = .ok (.iload_n 1, 1) := by decide +kernel
theorem dX10_find_17 : decode cX10_find 17 = .ok (.baload, 1) := by decide +kernel
theorem dX10_find_18 : decode cX10_find 18 = .ok (.ifCond .ne 7, 3) := by decide +kernel
theorem dX10_find_21 : decode cX10_find 21 = .ok (.iconst 2, 1) := by decide +kernel
theorem dX10_find_22 : decode cX10_find 22 = .ok (.goto 21, 3) := by decide +kernel
theorem dX10_find_25 : decode cX10_find 25 = .ok (.iload_n 2, 1) := by decide +kernel
theorem dX10_find_26 : decode cX10_find 26 = .ok (.aload_n 0, 1) := by decide +kernel
theorem dX10_find_27 : decode cX10_find 27 = .ok (.getfield 42, 3) := by decide +kernel
theorem dX10_find_30 : decode cX10_find 30 = .ok (.iload_n 1, 1) := by decide +kernel
theorem dX10_find_31 : decode cX10_find 31 = .ok (.iaload, 1) := by decide +kernel
theorem dX10_find_32 : decode cX10_find 32 = .ok (.invokestatic 92, 3) := by decide +kernel
theorem dX10_find_35 : decode cX10_find 35 = .ok (.ifCond .eq 7, 3) := by decide +kernel
theorem dX10_find_38 : decode cX10_find 38 = .ok (.iconst 3, 1) := by decide +kernel
theorem dX10_find_39 : decode cX10_find 39 = .ok (.goto 4, 3) := by decide +kernel
theorem dX10_find_42 : decode cX10_find 42 = .ok (.iconst 0, 1) := by decide +kernel
theorem dX10_find_43 : decode cX10_find 43 = .ok (.ireturn, 1) := by decide +kernel
theorem dX10_hit_0 : decode cX10_hit 0 = .ok (.aload_n 0, 1) := by decide +kernel
theorem dX10_hit_1 : decode cX10_hit 1 = .ok (.aload_n 0, 1) := by decide +kernel
theorem dX10_hit_2 : decode cX10_hit 2 = .ok (.iload_n 1, 1) := by decide +kernel
theorem dX10_hit_3 : decode cX10_hit 3 = .ok (.iload_n 2, 1) := by decide +kernel
theorem dX10_hit_4 : decode cX10_hit 4 = .ok (.invokevirtual 231, 3) := by decide +kernel
theorem dX10_hit_7 : decode cX10_hit 7 = .ok (.putfield 73, 3) := by decide +kernel
theorem dX10_hit_10 : decode cX10_hit 10 = .ok (.aload_n 0, 1) := by decide +kernel
theorem dX10_hit_11 : decode cX10_hit 11 = .ok (.getfield 73, 3) := by decide +kernel
theorem dX10_hit_14 : decode cX10_hit 14 = .ok (.ifCond .le 7, 3) := by decide +kernel
theorem dX10_hit_17 : decode cX10_hit 17 = .ok (.iconst 0, 1) := by decide +kernel
theorem dX10_hit_18 : decode cX10_hit 18 = .ok (.goto 14, 3) := by decide +kernel
theorem dX10_hit_21 : decode cX10_hit 21 = .ok (.aload_n 0, 1) := by decide +kernel
theorem dX10_hit_22 : decode cX10_hit 22 = .ok (.getfield 45, 3) := by decide +kernel
theorem dX10_hit_25 : decode cX10_hit 25 = .ok (.bipush 20, 2) := by decide +kernel
theorem dX10_hit_27 : decode cX10_hit 27 = .ok (.iload_n 1, 1) := by decide +kernel
theorem dX10_hit_28 : decode cX10_hit 28 = .ok (.imul, 1) := by decide +kernel
theorem dX10_hit_29 : decode cX10_hit 29 = .ok (.iload_n 2, 1) := by decide +kernel
theorem dX10_hit_30 : decode cX10_hit 30 = .ok (.iadd, 1) := by decide +kernel
theorem dX10_hit_31 : decode cX10_hit 31 = .ok (.iaload, 1) := by decide +kernel
theorem dX10_hit_32 : decode cX10_hit 32 = .ok (.ireturn, 1) := by decide +kernel
theorem dX10_score__0 : decode cX10_score_ 0 = .ok (.aload_n 0, 1) := by decide +kernel
theorem dX10_score__1 : decode cX10_score_ 1 = .ok (.aload_n 0, 1) := by decide +kernel
theorem dX10_score__2 : decode cX10_score_ 2 = .ok (.iload_n 1, 1) := by decide +kernel
theorem dX10_score__3 : decode cX10_score_ 3 = .ok (.iload_n 2, 1) := by decide +kernel
theorem dX10_score__4 : decode cX10_score_ 4 = .ok (.invokevirtual 231, 3) := by decide +kernel
theorem dX10_score__7 : decode cX10_score_ 7 = .ok (.putfield 73, 3) := by decide +kernel
theorem dX10_score__10 : decode cX10_score_ 10 = .ok (.aload_n 0, 1) := by decide +kernel
theorem dX10_score__11 : decode cX10_score_ 11 = .ok (.getfield 73, 3) := by decide +kernel
theorem dX10_score__14 : decode cX10_score_ 14 = .ok (.ifCond .le 7, 3) := by decide +kernel
theorem dX10_score__17 : decode cX10_score_ 17 = .ok (.dconst 0, 1) := by decide +kernel
theorem dX10_score__18 : decode cX10_score_ 18 = .ok (.goto 14, 3) := by decide +kernel
theorem dX10_score__21 : decode cX10_score_ 21 = .ok (.aload_n 0, 1) := by decide +kernel
theorem dX10_score__22 : decode cX10_score_ 22 = .ok (.getfield 48, 3) := by decide +kernel
theorem dX10_score__25 : decode cX10_score_ 25 = .ok (.bipush 20, 2) := by decide +kernel
theorem dX10_score__27 : decode cX10_score_ 27 = .ok (.iload_n 1, 1) := by decide +kernel
theorem dX10_score__28 : decode cX10_score_ 28 = .ok (.imul, 1) := by decide +kernel
theorem dX10_score__29 : decode cX10_score_ 29 = .ok (.iload_n 2, 1) := by decide +kernel
theorem dX10_score__30 : decode cX10_score_ 30 = .ok (.iadd, 1) := by decide +kernel
theorem dX10_score__31 : decode cX10_score_ 31 = .ok (.daload, 1) := by decide +kernel
theorem dX10_score__32 : decode cX10_score_ 32 = .ok (.dreturn, 1) := by decide +kernel
theorem dX10_work_0 : decode cX10_work 0 = .ok (.aload_n 0, 1) := by decide +kernel
theorem dX10_work_1 : decode cX10_work 1 = .ok (.iload_n 1, 1) := by decide +kernel
theorem dX10_work_2 : decode cX10_work 2 = .ok (.iconst 3, 1) := by decide +kernel
theorem dX10_work_3 : decode cX10_work 3 = .ok (.invokestatic 92, 3) := by decide +kernel
theorem dX10_work_6 : decode cX10_work 6 = .ok (.ifCond .ne 11, 3) := by decide +kernel
theorem dX10_work_9 : decode cX10_work 9 = .ok (.iload_n 2, 1) := by decide +kernel
theorem dX10_work_10 : decode cX10_work 10 = .ok (.iconst 3, 1) := by decide +kernel
theorem dX10_work_11 : decode cX10_work 11 = .ok (.invokestatic 92, 3) := by decide +kernel
theorem dX10_work_14 : decode cX10_work 14 = .ok (.ifCond .eq 7, 3) := by decide +kernel
theorem dX10_work_17 : decode cX10_work 17 = .ok (.iconst 1, 1) := by decide +kernel
theorem dX10_work_18 : decode cX10_work 18 = .ok (.goto 17, 3) := by decide +kernel
theorem dX10_work_21 : decode cX10_work 21 = .ok (.aload_n 0, 1) := by decide +kernel
theorem dX10_work_22 : decode cX10_work 22 = .ok (.getfield 38, 3) := by decide +kernel
theorem dX10_work_25 : decode cX10_work 25 = .ok (.iload_n 1, 1) := by decide +kernel
theorem dX10_work_26 : decode cX10_work 26 = .ok (.baload, 1) := by decide +kernel
theorem dX10_work_27 : decode cX10_work 27 = .ok (.ifCond .ne 7, 3) := by decide +kernel
theorem dX10_work_30 : decode cX10_work 30 = .ok (.iconst 2, 1) := by decide +kernel
theorem dX10_work_31 : decode cX10_work 31 = .ok (.goto 4, 3) := by decide +kernel
theorem dX10_work_34 : decode cX10_work 34 = .ok (.iconst 0, 1) := by decide +kernel
theorem dX10_work_35 : decode cX10_work 35 = .ok (.putfield 73, 3) := by decide +kernel
theorem dX10_work_38 : decode cX10_work 38 = .ok (.aload_n 0, 1) := by decide +kernel
theorem dX10_work_39 : decode cX10_work 39 = .ok (.getfield 73, 3) := by decide +kernel
theorem dX10_work_42 : decode cX10_work 42 = .ok (.ifCond .le 7, 3) := by decide +kernel
theorem dX10_work_45 : decode cX10_work 45 = .ok (.iconst 0, 1) := by decide +kernel
theorem dX10_work_46 : decode cX10_work 46 = .ok (.goto 13, 3) := by decide +kernel
theorem dX10_work_49 : decode cX10_work 49 = .ok (.aload_n 0, 1) := by decide +kernel
theorem dX10_work_50 : decode cX10_work 50 = .ok (.getfield 52, 3) := by decide +kernel
theorem dX10_work_53 : decode cX10_work 53 = .ok (.iconst 3, 1) := by decide +kernel
theorem dX10_work_54 : decode cX10_work 54 = .ok (.iload_n 1, 1) := by decide +kernel
theorem dX10_work_55 : decode cX10_work 55 = .ok (.imul, 1) := by decide +kernel
theorem dX10_work_56 : decode cX10_work 56 = .ok (.iload_n 2, 1) := by decide +kernel
theorem dX10_work_57 : decode cX10_work 57 = .ok (.iadd, 1) := by decide +kernel
theorem dX10_work_58 : decode cX10_work 58 = .ok (.iaload, 1) := by decide +kernel
theorem dX10_work_59 : decode cX10_work 59 = .ok (.ireturn, 1) := by decide +kernel
theorem dX10_rankOf_0 : decode cX10_rankOf 0 = .ok (.iconst (-1), 1) := by decide +kernel
theorem dX10_rankOf_1 : decode cX10_rankOf 1 = .ok (.istore_n 3, 1) := by decide +kernel
theorem dX10_rankOf_2 : decode cX10_rankOf 2 = .ok (.iconst 0, 1) := by decide +kernel
theorem dX10_rankOf_3 : decode cX10_rankOf 3 = .ok (.istore 4, 2) := by decide +kernel
theorem dX10_rankOf_5 : decode cX10_rankOf 5 = .ok (.aload_n 0, 1) := by decide +kernel
theorem dX10_rankOf_6 : decode cX10_rankOf 6 = .ok (.getfield 38, 3) := by decide +kernel
theorem dX10_rankOf_9 : decode cX10_rankOf 9 = .ok (.iload_n 1, 1) := by decide +kernel
theorem dX10_rankOf_10 : decode cX10_rankOf 10 = .ok (.baload, 1) := by decide +kernel
theorem dX10_rankOf_11 : decode cX10_rankOf 11 = .ok (.ifCond .eq 43, 3) := by decide +kernel
theorem dX10_rankOf_14 : decode cX10_rankOf 14 = .ok (.iload 4, 2) := by decide +kernel
theorem dX10_rankOf_16 : decode cX10_rankOf 16 = .ok (.aload_n 0, 1) := by decide +kernel
theorem dX10_rankOf_17 : decode cX10_rankOf 17 = .ok (.getfield 42, 3) := by decide +kernel
theorem dX10_rankOf_20 : decode cX10_rankOf 20 = .ok (.iload_n 1, 1) := by decide +kernel
theorem dX10_rankOf_21 : decode cX10_rankOf 21 = .ok (.iaload, 1) := by decide +kernel
theorem dX10_rankOf_22 : decode cX10_rankOf 22 = .ok (.if_icmp .ge 32, 3) := by decide +kernel
theorem dX10_rankOf_25 : decode cX10_rankOf 25 = .ok (.aload_n 0, 1) := by decide +kernel
theorem dX10_rankOf_26 : decode cX10_rankOf 26 = .ok (.getfield 45, 3) := by decide +kernel
theorem dX10_rankOf_29 : decode cX10_rankOf 29 = .ok (.bipush 20, 2) := by decide +kernel
theorem dX10_rankOf_31 : decode cX10_rankOf 31 = .ok (.iload_n 1, 1) := by decide +kernel
theorem dX10_rankOf_32 : decode cX10_rankOf 32 = .ok (.imul, 1) := by decide +kernel
theorem dX10_rankOf_33 : decode cX10_rankOf 33 = .ok (.iload 4, 2) := by decide +kernel
theorem dX10_rankOf_35 : decode cX10_rankOf 35 = .ok (.iadd, 1) := by decide +kernel
theorem dX10_rankOf_36 : decode cX10_rankOf 36 = .ok (.iaload, 1) := by decide +kernel
theorem dX10_rankOf_37 : decode cX10_rankOf 37 = .ok (.iload_n 2, 1) := by decide +kernel
theorem dX10_rankOf_38 : decode cX10_rankOf 38 = .ok (.if_icmp .ne 8, 3) := by decide +kernel
theorem dX10_rankOf_41 : decode cX10_rankOf 41 = .ok (.iload 4, 2) := by decide +kernel
theorem dX10_rankOf_43 : decode cX10_rankOf 43 = .ok (.goto 4, 3) := by decide +kernel
theorem dX10_rankOf_46 : decode cX10_rankOf 46 = .ok (.iload_n 3, 1) := by decide +kernel
theorem dX10_rankOf_47 : decode cX10_rankOf 47 = .ok (.istore_n 3, 1) := by decide +kernel
theorem dX10_rankOf_48 : decode cX10_rankOf 48 = .ok (.iinc 4 1, 3) := by decide +kernel
theorem dX10_rankOf_51 : decode cX10_rankOf 51 = .ok (.goto (-46), 3) := by decide +kernel
theorem dX10_rankOf_54 : decode cX10_rankOf 54 = .ok (.iload_n 3, 1) := by decide +kernel
theorem dX10_rankOf_55 : decode cX10_rankOf 55 = .ok (.ireturn, 1) := by decide +kernel
theorem dX10_share_0 : decode cX10_share 0 = .ok (.iload_n 1, 1) := by decide +kernel
theorem dX10_share_1 : decode cX10_share 1 = .ok (.ifCond .ne 14, 3) := by decide +kernel
theorem dX10_share_4 : decode cX10_share 4 = .ok (.dconst 1, 1) := by decide +kernel
theorem dX10_share_5 : decode cX10_share 5 = .ok (.ldc2_w 234, 3) := by decide +kernel
theorem dX10_share_8 : decode cX10_share 8 = .ok (.iload_n 3, 1) := by decide +kernel
theorem dX10_share_9 : decode cX10_share 9 = .ok (.iconst 1, 1) := by decide +kernel
theorem dX10_share_10 : decode cX10_share 10 = .ok (.iadd, 1) := by decide +kernel
theorem dX10_share_11 : decode cX10_share 11 = .ok (.i2d, 1) := by decide +kernel
theorem dX10_share_12 : decode cX10_share 12 = .ok (.dadd, 1) := by decide +kernel
theorem dX10_share_13 : decode cX10_share 13 = .ok (.ddiv, 1) := by decide +kernel
theorem dX10_share_14 : decode cX10_share 14 = .ok (.dreturn, 1) := by decide +kernel
theorem dX10_share_15 : decode cX10_share 15 = .ok (.aload_n 0, 1) := by decide +kernel
theorem dX10_share_16 : decode cX10_share 16 = .ok (.getfield 48, 3) := by decide +kernel
theorem dX10_share_19 : decode cX10_share 19 = .ok (.bipush 20, 2) := by decide +kernel
theorem dX10_share_21 : decode cX10_share 21 = .ok (.iload_n 2, 1) := by decide +kernel
theorem dX10_share_22 : decode cX10_share 22 = .ok (.imul, 1) := by decide +kernel
theorem dX10_share_23 : decode cX10_share 23 = .ok (.daload, 1) := by decide +kernel
theorem dX10_share_24 : decode cX10_share 24 = .ok (.dstore 4, 2) := by decide +kernel
theorem dX10_share_26 : decode cX10_share 26 = .ok (.aload_n 0, 1) := by decide +kernel
theorem dX10_share_27 : decode cX10_share 27 = .ok (.getfield 48, 3) := by decide +kernel
theorem dX10_share_30 : decode cX10_share 30 = .ok (.bipush 20, 2) := by decide +kernel
theorem dX10_share_32 : decode cX10_share 32 = .ok (.iload_n 2, 1) := by decide +kernel
theorem dX10_share_33 : decode cX10_share 33 = .ok (.imul, 1) := by decide +kernel
theorem dX10_share_34 : decode cX10_share 34 = .ok (.aload_n 0, 1) := by decide +kernel
theorem dX10_share_35 : decode cX10_share 35 = .ok (.getfield 42, 3) := by decide +kernel
theorem dX10_share_38 : decode cX10_share 38 = .ok (.iload_n 2, 1) := by decide +kernel
theorem dX10_share_39 : decode cX10_share 39 = .ok (.iaload, 1) := by decide +kernel
theorem dX10_share_40 : decode cX10_share 40 = .ok (.iadd, 1) := by decide +kernel
theorem dX10_share_41 : decode cX10_share 41 = .ok (.iconst 1, 1) := by decide +kernel
theorem dX10_share_42 : decode cX10_share 42 = .ok (.isub, 1) := by decide +kernel
theorem dX10_share_43 : decode cX10_share 43 = .ok (.daload, 1) := by decide +kernel
theorem dX10_share_44 : decode cX10_share 44 = .ok (.dstore 6, 2) := by decide +kernel
theorem dX10_share_46 : decode cX10_share 46 = .ok (.dload 4, 2) := by decide +kernel
theorem dX10_share_48 : decode cX10_share 48 = .ok (.dload 6, 2) := by decide +kernel
theorem dX10_share_50 : decode cX10_share 50 = .ok (.dcmp .l, 1) := by decide +kernel
theorem dX10_share_51 : decode cX10_share 51 = .ok (.ifCond .ne 7, 3) := by decide +kernel
theorem dX10_share_54 : decode cX10_share 54 = .ok (.dconst 1, 1) := by decide +kernel
theorem dX10_share_55 : decode cX10_share 55 = .ok (.goto 23, 3) := by decide +kernel
theorem dX10_share_58 : decode cX10_share 58 = .ok (.aload_n 0, 1) := by decide +kernel
theorem dX10_share_59 : decode cX10_share 59 = .ok (.getfield 48, 3) := by decide +kernel
theorem dX10_share_62 : decode cX10_share 62 = .ok (.bipush 20, 2) := by decide +kernel
theorem dX10_share_64 : decode cX10_share 64 = .ok (.iload_n 2, 1) := by decide +kernel
theorem dX10_share_65 : decode cX10_share 65 = .ok (.imul, 1) := by decide +kernel
theorem dX10_share_66 : decode cX10_share 66 = .ok (.iload_n 3, 1) := by decide +kernel
theorem dX10_share_67 : decode cX10_share 67 = .ok (.iadd, 1) := by decide +kernel
theorem dX10_share_68 : decode cX10_share 68 = .ok (.daload, 1) := by decide +kernel
theorem dX10_share_69 : decode cX10_share 69 = .ok (.dload 6, 2) := by decide +kernel
theorem dX10_share_71 : decode cX10_share 71 = .ok (.dsub, 1) := by decide +kernel
theorem dX10_share_72 : decode cX10_share 72 = .ok (.dload 4, 2) := by decide +kernel
theorem dX10_share_74 : decode cX10_share 74 = .ok (.dload 6, 2) := by decide +kernel
theorem dX10_share_76 : decode cX10_share 76 = .ok (.dsub, 1) := by decide +kernel
theorem dX10_share_77 : decode cX10_share 77 = .ok (.ddiv, 1) := by decide +kernel
theorem dX10_share_78 : decode cX10_share 78 = .ok (.dreturn, 1) := by decide +kernel
theorem dX10_fuse_0 : decode cX10_fuse 0 = .ok (.aload_n 0, 1) := by decide +kernel
theorem dX10_fuse_1 : decode cX10_fuse 1 = .ok (.iload_n 1, 1) := by decide +kernel
theorem dX10_fuse_2 : decode cX10_fuse 2 = .ok (.iconst 3, 1) := by decide +kernel
theorem dX10_fuse_3 : decode cX10_fuse 3 = .ok (.invokestatic 92, 3) := by decide +kernel
theorem dX10_fuse_6 : decode cX10_fuse 6 = .ok (.ifCond .eq 7, 3) := by decide +kernel
theorem dX10_fuse_9 : decode cX10_fuse 9 = .ok (.iconst 1, 1) := by decide +kernel
theorem dX10_fuse_10 : decode cX10_fuse 10 = .ok (.goto 35, 3) := by decide +kernel
theorem dX10_fuse_13 : decode cX10_fuse 13 = .ok (.aload_n 0, 1) := by decide +kernel
theorem dX10_fuse_14 : decode cX10_fuse 14 = .ok (.getfield 38, 3) := by decide +kernel
theorem dX10_fuse_17 : decode cX10_fuse 17 = .ok (.iconst 0, 1) := by decide +kernel
theorem dX10_fuse_18 : decode cX10_fuse 18 = .ok (.baload, 1) := by decide +kernel
theorem dX10_fuse_19 : decode cX10_fuse 19 = .ok (.ifCond .ne 25, 3) := by decide +kernel
theorem dX10_fuse_22 : decode cX10_fuse 22 = .ok (.aload_n 0, 1) := by decide +kernel
theorem dX10_fuse_23 : decode cX10_fuse 23 = .ok (.getfield 38, 3) := by decide +kernel
theorem dX10_fuse_26 : decode cX10_fuse 26 = .ok (.iconst 1, 1) := by decide +kernel
theorem dX10_fuse_27 : decode cX10_fuse 27 = .ok (.baload, 1) := by decide +kernel
theorem dX10_fuse_28 : decode cX10_fuse 28 = .ok (.ifCond .ne 16, 3) := by decide +kernel
theorem dX10_fuse_31 : decode cX10_fuse 31 = .ok (.aload_n 0, 1) := by decide +kernel
theorem dX10_fuse_32 : decode cX10_fuse 32 = .ok (.getfield 38, 3) := by decide +kernel
theorem dX10_fuse_35 : decode cX10_fuse 35 = .ok (.iconst 2, 1) := by decide +kernel
theorem dX10_fuse_36 : decode cX10_fuse 36 = .ok (.baload, 1) := by decide +kernel
theorem dX10_fuse_37 : decode cX10_fuse 37 = .ok (.ifCond .ne 7, 3) := by decide +kernel
theorem dX10_fuse_40 : decode cX10_fuse 40 = .ok (.iconst 2, 1) := by decide +kernel
theorem dX10_fuse_41 : decode cX10_fuse 41 = .ok (.goto 4, 3) := by decide +kernel
theorem dX10_fuse_44 : decode cX10_fuse 44 = .ok (.iconst 0, 1) := by decide +kernel
theorem dX10_fuse_45 : decode cX10_fuse 45 = .ok (.putfield 73, 3) := by decide +kernel
theorem dX10_fuse_48 : decode cX10_fuse 48 = .ok (.aload_n 0, 1) := by decide +kernel
theorem dX10_fuse_49 : decode cX10_fuse 49 = .ok (.getfield 73, 3) := by decide +kernel
theorem dX10_fuse_52 : decode cX10_fuse 52 = .ok (.ifCond .le 5, 3) := by decide +kernel
theorem dX10_fuse_55 : decode cX10_fuse 55 = .ok (.iconst 0, 1) := by decide +kernel
theorem dX10_fuse_56 : decode cX10_fuse 56 = .ok (.ireturn, 1) := by decide +kernel
theorem dX10_fuse_57 : decode cX10_fuse 57 = .ok (.aload_n 0, 1) := by decide +kernel
theorem dX10_fuse_58 : decode cX10_fuse 58 = .ok (.iconst 0, 1) := by decide +kernel
theorem dX10_fuse_59 : decode cX10_fuse 59 = .ok (.putfield 177, 3) := by decide +kernel
theorem dX10_fuse_62 : decode cX10_fuse 62 = .ok (.iconst 0, 1) := by decide +kernel
theorem dX10_fuse_63 : decode cX10_fuse 63 = .ok (.istore_n 2, 1) := by decide +kernel
theorem dX10_fuse_64 : decode cX10_fuse 64 = .ok (.iload_n 2, 1) := by decide +kernel
theorem dX10_fuse_65 : decode cX10_fuse 65 = .ok (.aload_n 0, 1) := by decide +kernel
theorem dX10_fuse_66 : decode cX10_fuse 66 = .ok (.getfield 86, 3) := by decide +kernel
theorem dX10_fuse_69 : decode cX10_fuse 69 = .ok (.if_icmp .ge 88, 3) := by decide +kernel
theorem dX10_fuse_72 : decode cX10_fuse 72 = .ok (.dconst 0, 1) := by decide +kernel
theorem dX10_fuse_73 : decode cX10_fuse 73 = .ok (.dstore_n 3, 1) := by decide +kernel
theorem dX10_fuse_74 : decode cX10_fuse 74 = .ok (.iconst 0, 1) := by decide +kernel
theorem dX10_fuse_75 : decode cX10_fuse 75 = .ok (.istore 5, 2) := by decide +kernel
theorem dX10_fuse_77 : decode cX10_fuse 77 = .ok (.iconst 0, 1) := by decide +kernel
theorem dX10_fuse_78 : decode cX10_fuse 78 = .ok (.istore 6, 2) := by decide +kernel
theorem dX10_fuse_80 : decode cX10_fuse 80 = .ok (.iload 6, 2) := by decide +kernel
theorem dX10_fuse_82 : decode cX10_fuse 82 = .ok (.iconst 3, 1) := by decide +kernel
theorem dX10_fuse_83 : decode cX10_fuse 83 = .ok (.if_icmp .ge 42, 3) := by decide +kernel
theorem dX10_fuse_86 : decode cX10_fuse 86 = .ok (.aload_n 0, 1) := by decide +kernel
theorem dX10_fuse_87 : decode cX10_fuse 87 = .ok (.iload 6, 2) := by decide +kernel
theorem dX10_fuse_89 : decode cX10_fuse 89 = .ok (.iload_n 2, 1) := by decide +kernel
theorem dX10_fuse_90 : decode cX10_fuse 90 = .ok (.invokevirtual 236, 3) := by decide +kernel
theorem dX10_fuse_93 : decode cX10_fuse 93 = .ok (.istore 7, 2) := by decide +kernel
theorem dX10_fuse_95 : decode cX10_fuse 95 = .ok (.iload 7, 2) := by decide +kernel
theorem dX10_fuse_97 : decode cX10_fuse 97 = .ok (.iconst (-1), 1) := by decide +kernel
theorem dX10_fuse_98 : decode cX10_fuse 98 = .ok (.if_icmp .ne 6, 3) := by decide +kernel
theorem dX10_fuse_101 : decode cX10_fuse 101 = .ok (.goto 18, 3) := by decide +kernel
theorem dX10_fuse_104 : decode cX10_fuse 104 = .ok (.dload_n 3, 1) := by decide +kernel
theorem dX10_fuse_105 : decode cX10_fuse 105 = .ok (.aload_n 0, 1) := by decide +kernel
theorem dX10_fuse_106 : decode cX10_fuse 106 = .ok (.iload_n 1, 1) := by decide +kernel
theorem dX10_fuse_107 : decode cX10_fuse 107 = .ok (.iload 6, 2) := by decide +kernel
theorem dX10_fuse_109 : decode cX10_fuse 109 = .ok (.iload 7, 2) := by decide +kernel
theorem dX10_fuse_111 : decode cX10_fuse 111 = .ok (.invokevirtual 239, 3) := by decide +kernel
theorem dX10_fuse_114 : decode cX10_fuse 114 = .ok (.dadd, 1) := by decide +kernel
theorem dX10_fuse_115 : decode cX10_fuse 115 = .ok (.dstore_n 3, 1) := by decide +kernel
theorem dX10_fuse_116 : decode cX10_fuse 116 = .ok (.iinc 5 1, 3) := by decide +kernel
theorem dX10_fuse_119 : decode cX10_fuse 119 = .ok (.iinc 6 1, 3) := by decide +kernel
theorem dX10_fuse_122 : decode cX10_fuse 122 = .ok (.goto (-42), 3) := by decide +kernel
theorem dX10_fuse_125 : decode cX10_fuse 125 = .ok (.iload 5, 2) := by decide +kernel
theorem dX10_fuse_127 : decode cX10_fuse 127 = .ok (.ifCond .le 24, 3) := by decide +kernel
theorem dX10_fuse_130 : decode cX10_fuse 130 = .ok (.aload_n 0, 1) := by decide +kernel
theorem dX10_fuse_131 : decode cX10_fuse 131 = .ok (.iload_n 2, 1) := by decide +kernel
theorem dX10_fuse_132 : decode cX10_fuse 132 = .ok (.iload_n 1, 1) := by decide +kernel
theorem dX10_fuse_133 : decode cX10_fuse 133 = .ok (.iconst 2, 1) := by decide +kernel
theorem dX10_fuse_134 : decode cX10_fuse 134 = .ok (.if_icmp .ne 11, 3) := by decide +kernel
theorem dX10_fuse_137 : decode cX10_fuse 137 = .ok (.dload_n 3, 1) := by decide +kernel
theorem dX10_fuse_138 : decode cX10_fuse 138 = .ok (.iload 5, 2) := by decide +kernel
theorem dX10_fuse_140 : decode cX10_fuse 140 = .ok (.i2d, 1) := by decide +kernel
theorem dX10_fuse_141 : decode cX10_fuse 141 = .ok (.dmul, 1) := by decide +kernel
theorem dX10_fuse_142 : decode cX10_fuse 142 = .ok (.goto 4, 3) := by decide +kernel
theorem dX10_fuse_145 : decode cX10_fuse 145 = .ok (.dload_n 3, 1) := by decide +kernel
theorem dX10_fuse_146 : decode cX10_fuse 146 = .ok (.bipush 20, 2) := by decide +kernel
theorem dX10_fuse_148 : decode cX10_fuse 148 = .ok (.invokevirtual 186, 3) := by decide +kernel
theorem dX10_fuse_151 : decode cX10_fuse 151 = .ok (.iinc 2 1, 3) := by decide +kernel
theorem dX10_fuse_154 : decode cX10_fuse 154 = .ok (.goto (-90), 3) := by decide +kernel
theorem dX10_fuse_157 : decode cX10_fuse 157 = .ok (.aload_n 0, 1) := by decide +kernel
theorem dX10_fuse_158 : decode cX10_fuse 158 = .ok (.aload_n 0, 1) := by decide +kernel
theorem dX10_fuse_159 : decode cX10_fuse 159 = .ok (.getfield 177, 3) := by decide +kernel
theorem dX10_fuse_162 : decode cX10_fuse 162 = .ok (.putfield 79, 3) := by decide +kernel
theorem dX10_fuse_165 : decode cX10_fuse 165 = .ok (.iconst 0, 1) := by decide +kernel
theorem dX10_fuse_166 : decode cX10_fuse 166 = .ok (.istore_n 2, 1) := by decide +kernel
theorem dX10_fuse_167 : decode cX10_fuse 167 = .ok (.iload_n 2, 1) := by decide +kernel
theorem dX10_fuse_168 : decode cX10_fuse 168 = .ok (.aload_n 0, 1) := by decide +kernel
theorem dX10_fuse_169 : decode cX10_fuse 169 = .ok (.getfield 177, 3) := by decide +kernel
theorem dX10_fuse_172 : decode cX10_fuse 172 = .ok (.if_icmp .ge 33, 3) := by decide +kernel
theorem dX10_fuse_175 : decode cX10_fuse 175 = .ok (.aload_n 0, 1) := by decide +kernel
theorem dX10_fuse_176 : decode cX10_fuse 176 = .ok (.getfield 67, 3) := by decide +kernel
theorem dX10_fuse_179 : decode cX10_fuse 179 = .ok (.iload_n 2, 1) := by decide +kernel
theorem dX10_fuse_180 : decode cX10_fuse 180 = .ok (.aload_n 0, 1) := by decide +kernel
theorem dX10_fuse_181 : decode cX10_fuse 181 = .ok (.getfield 55, 3) := by decide +kernel
theorem dX10_fuse_184 : decode cX10_fuse 184 = .ok (.iload_n 2, 1) := by decide +kernel
theorem dX10_fuse_185 : decode cX10_fuse 185 = .ok (.iaload, 1) := by decide +kernel
theorem dX10_fuse_186 : decode cX10_fuse 186 = .ok (.iastore, 1) := by decide +kernel
theorem dX10_fuse_187 : decode cX10_fuse 187 = .ok (.aload_n 0, 1) := by decide +kernel
theorem dX10_fuse_188 : decode cX10_fuse 188 = .ok (.getfield 70, 3) := by decide +kernel
theorem dX10_fuse_191 : decode cX10_fuse 191 = .ok (.iload_n 2, 1) := by decide +kernel
theorem dX10_fuse_192 : decode cX10_fuse 192 = .ok (.aload_n 0, 1) := by decide +kernel
theorem dX10_fuse_193 : decode cX10_fuse 193 = .ok (.getfield 58, 3) := by decide +kernel
theorem dX10_fuse_196 : decode cX10_fuse 196 = .ok (.iload_n 2, 1) := by decide +kernel
theorem dX10_fuse_197 : decode cX10_fuse 197 = .ok (.daload, 1) := by decide +kernel
theorem dX10_fuse_198 : decode cX10_fuse 198 = .ok (.dastore, 1) := by decide +kernel
theorem dX10_fuse_199 : decode cX10_fuse 199 = .ok (.iinc 2 1, 3) := by decide +kernel
theorem dX10_fuse_202 : decode cX10_fuse 202 = .ok (.goto (-35), 3) := by decide +kernel
theorem dX10_fuse_205 : decode cX10_fuse 205 = .ok (.aload_n 0, 1) := by decide +kernel
theorem dX10_fuse_206 : decode cX10_fuse 206 = .ok (.getfield 177, 3) := by decide +kernel
theorem dX10_fuse_209 : decode cX10_fuse 209 = .ok (.ireturn, 1) := by decide +kernel
theorem dX10_fused_0 : decode cX10_fused 0 = .ok (.aload_n 0, 1) := by decide +kernel
theorem dX10_fused_1 : decode cX10_fused 1 = .ok (.iload_n 1, 1) := by decide +kernel
theorem dX10_fused_2 : decode cX10_fused 2 = .ok (.aload_n 0, 1) := by decide +kernel
theorem dX10_fused_3 : decode cX10_fused 3 = .ok (.getfield 79, 3) := by decide +kernel
theorem dX10_fused_6 : decode cX10_fused 6 = .ok (.invokestatic 92, 3) := by decide +kernel
theorem dX10_fused_9 : decode cX10_fused 9 = .ok (.ifCond .eq 7, 3) := by decide +kernel
theorem dX10_fused_12 : decode cX10_fused 12 = .ok (.iconst 1, 1) := by decide +kernel
theorem dX10_fused_13 : decode cX10_fused 13 = .ok (.goto 4, 3) := by decide +kernel
theorem dX10_fused_16 : decode cX10_fused 16 = .ok (.iconst 0, 1) := by decide +kernel
theorem dX10_fused_17 : decode cX10_fused 17 = .ok (.putfield 73, 3) := by decide +kernel
theorem dX10_fused_20 : decode cX10_fused 20 = .ok (.aload_n 0, 1) := by decide +kernel
theorem dX10_fused_21 : decode cX10_fused 21 = .ok (.getfield 73, 3) := by decide +kernel
theorem dX10_fused_24 : decode cX10_fused 24 = .ok (.ifCond .le 7, 3) := by decide +kernel
theorem dX10_fused_27 : decode cX10_fused 27 = .ok (.iconst 0, 1) := by decide +kernel
theorem dX10_fused_28 : decode cX10_fused 28 = .ok (.goto 9, 3) := by decide +kernel
theorem dX10_fused_31 : decode cX10_fused 31 = .ok (.aload_n 0, 1) := by decide +kernel
theorem dX10_fused_32 : decode cX10_fused 32 = .ok (.getfield 67, 3) := by decide +kernel
theorem dX10_fused_35 : decode cX10_fused 35 = .ok (.iload_n 1, 1) := by decide +kernel
theorem dX10_fused_36 : decode cX10_fused 36 = .ok (.iaload, 1) := by decide +kernel
theorem dX10_fused_37 : decode cX10_fused 37 = .ok (.ireturn, 1) := by decide +kernel
theorem dX10_rating_0 : decode cX10_rating 0 = .ok (.aload_n 0, 1) := by decide +kernel
theorem dX10_rating_1 : decode cX10_rating 1 = .ok (.iload_n 1, 1) := by decide +kernel
theorem dX10_rating_2 : decode cX10_rating 2 = .ok (.aload_n 0, 1) := by decide +kernel
theorem dX10_rating_3 : decode cX10_rating 3 = .ok (.getfield 79, 3) := by decide +kernel
theorem dX10_rating_6 : decode cX10_rating 6 = .ok (.invokestatic 92, 3) := by decide +kernel
theorem dX10_rating_9 : decode cX10_rating 9 = .ok (.ifCond .eq 7, 3) := by decide +kernel
theorem dX10_rating_12 : decode cX10_rating 12 = .ok (.iconst 1, 1) := by decide +kernel
theorem dX10_rating_13 : decode cX10_rating 13 = .ok (.goto 4, 3) := by decide +kernel
theorem dX10_rating_16 : decode cX10_rating 16 = .ok (.iconst 0, 1) := by decide +kernel
theorem dX10_rating_17 : decode cX10_rating 17 = .ok (.putfield 73, 3) := by decide +kernel
theorem dX10_rating_20 : decode cX10_rating 20 = .ok (.aload_n 0, 1) := by decide +kernel
theorem dX10_rating_21 : decode cX10_rating 21 = .ok (.getfield 73, 3) := by decide +kernel
theorem dX10_rating_24 : decode cX10_rating 24 = .ok (.ifCond .le 7, 3) := by decide +kernel
theorem dX10_rating_27 : decode cX10_rating 27 = .ok (.dconst 0, 1) := by decide +kernel
theorem dX10_rating_28 : decode cX10_rating 28 = .ok (.goto 9, 3) := by decide +kernel
theorem dX10_rating_31 : decode cX10_rating 31 = .ok (.aload_n 0, 1) := by decide +kernel
theorem dX10_rating_32 : decode cX10_rating 32 = .ok (.getfield 70, 3) := by decide +kernel
theorem dX10_rating_35 : decode cX10_rating 35 = .ok (.iload_n 1, 1) := by decide +kernel
theorem dX10_rating_36 : decode cX10_rating 36 = .ok (.daload, 1) := by decide +kernel
theorem dX10_rating_37 : decode cX10_rating 37 = .ok (.dreturn, 1) := by decide +kernel
theorem dJ9_max_7cf53_0 : decode cJ9_max_7cf53 0 = .ok (.iload_n 0, 1) := by decide +kernel
theorem dJ9_max_7cf53_1 : decode cJ9_max_7cf53 1 = .ok (.iload_n 1, 1) := by decide +kernel
theorem dJ9_max_7cf53_2 : decode cJ9_max_7cf53 2 = .ok (.if_icmp .lt 7, 3) := by decide +kernel
theorem dJ9_max_7cf53_5 : decode cJ9_max_7cf53 5 = .ok (.iload_n 0, 1) := by decide +kernel
theorem dJ9_max_7cf53_6 : decode cJ9_max_7cf53 6 = .ok (.goto 4, 3) := by decide +kernel
theorem dJ9_max_7cf53_9 : decode cJ9_max_7cf53 9 = .ok (.iload_n 1, 1) := by decide +kernel
theorem dJ9_max_7cf53_10 : decode cJ9_max_7cf53 10 = .ok (.ireturn, 1) := by decide +kernel
theorem dJ9_min_7cf53_0 : decode cJ9_min_7cf53 0 = .ok (.iload_n 0, 1) := by decide +kernel
theorem dJ9_min_7cf53_1 : decode cJ9_min_7cf53 1 = .ok (.iload_n 1, 1) := by decide +kernel
theorem dJ9_min_7cf53_2 : decode cJ9_min_7cf53 2 = .ok (.if_icmp .gt 7, 3) := by decide +kernel
theorem dJ9_min_7cf53_5 : decode cJ9_min_7cf53 5 = .ok (.iload_n 0, 1) := by decide +kernel
theorem dJ9_min_7cf53_6 : decode cJ9_min_7cf53 6 = .ok (.goto 4, 3) := by decide +kernel
theorem dJ9_min_7cf53_9 : decode cJ9_min_7cf53 9 = .ok (.iload_n 1, 1) := by decide +kernel
theorem dJ9_min_7cf53_10 : decode cJ9_min_7cf53 10 = .ok (.ireturn, 1) := by decide +kernel
theorem dL_document_0 : decode cL_document 0 = .ok (.aload_n 1, 1) := by decide +kernel
theorem dL_document_1 : decode cL_document 1 = .ok (.iconst 0, 1) := by decide +kernel
theorem dL_document_2 : decode cL_document 2 = .ok (.aload_n 0, 1) := by decide +kernel
theorem dL_document_3 : decode cL_document 3 = .ok (.invokevirtual 7, 3) := by decide +kernel
theorem dL_document_6 : decode cL_document 6 = .ok (.i2l, 1) := by decide +kernel
theorem dL_document_7 : decode cL_document 7 = .ok (.lastore, 1) := by decide +kernel
theorem dL_document_8 : decode cL_document 8 = .ok (.goto 6, 3) := by decide +kernel
theorem dL_document_11 : decode cL_document 11 = .ok (.astore_n 2, 1) := by decide +kernel
theorem dL_document_12 : decode cL_document 12 = .ok (.iconst 1, 1) := by decide +kernel
theorem dL_document_13 : decode cL_document 13 = .ok (.ireturn, 1) := by decide +kernel
theorem dL_document_14 : decode cL_document 14 = .ok (.iconst 0, 1) := by decide +kernel
theorem dL_document_15 : decode cL_document 15 = .ok (.ireturn, 1) := by decide +kernel
theorem dL_count_0 : decode cL_count 0 = .ok (.aload_n 3, 1) := by decide +kernel
theorem dL_count_1 : decode cL_count 1 = .ok (.iconst 0, 1) := by decide +kernel
theorem dL_count_2 : decode cL_count 2 = .ok (.aload_n 0, 1) := by decide +kernel
theorem dL_count_3 : decode cL_count 3 = .ok (.iload_n 1, 1) := by decide +kernel
theorem dL_count_4 : decode cL_count 4 = .ok (.iload_n 2, 1) := by decide +kernel
theorem dL_count_5 : decode cL_count 5 = .ok (.invokevirtual 15, 3) := by decide +kernel
theorem dL_count_8 : decode cL_count 8 = .ok (.i2l, 1) := by decide +kernel
theorem dL_count_9 : decode cL_count 9 = .ok (.lastore, 1) := by decide +kernel
theorem dL_count_10 : decode cL_count 10 = .ok (.goto 11, 3) := by decide +kernel
theorem dL_count_13 : decode cL_count 13 = .ok (.astore 4, 2) := by decide +kernel
theorem dL_count_15 : decode cL_count 15 = .ok (.iconst 1, 1) := by decide +kernel
theorem dL_count_16 : decode cL_count 16 = .ok (.ireturn, 1) := by decide +kernel
theorem dL_count_17 : decode cL_count 17 = .ok (.astore 4, 2) := by decide +kernel
theorem dL_count_19 : decode cL_count 19 = .ok (.iconst 2, 1) := by decide +kernel
theorem dL_count_20 : decode cL_count 20 = .ok (.ireturn, 1) := by decide +kernel
theorem dL_count_21 : decode cL_count 21 = .ok (.iconst 0, 1) := by decide +kernel
theorem dL_count_22 : decode cL_count 22 = .ok (.ireturn, 1) := by decide +kernel
theorem dL_weigh_0 : decode cL_weigh 0 = .ok (.aload_n 0, 1) := by decide +kernel
theorem dL_weigh_1 : decode cL_weigh 1 = .ok (.iload_n 1, 1) := by decide +kernel
theorem dL_weigh_2 : decode cL_weigh 2 = .ok (.iload_n 2, 1) := by decide +kernel
theorem dL_weigh_3 : decode cL_weigh 3 = .ok (.fload_n 3, 1) := by decide +kernel
theorem dL_weigh_4 : decode cL_weigh 4 = .ok (.invokevirtual 21, 3) := by decide +kernel
theorem dL_weigh_7 : decode cL_weigh 7 = .ok (.goto 11, 3) := by decide +kernel
theorem dL_weigh_10 : decode cL_weigh 10 = .ok (.astore 4, 2) := by decide +kernel
theorem dL_weigh_12 : decode cL_weigh 12 = .ok (.iconst 1, 1) := by decide +kernel
theorem dL_weigh_13 : decode cL_weigh 13 = .ok (.ireturn, 1) := by decide +kernel
theorem dL_weigh_14 : decode cL_weigh 14 = .ok (.astore 4, 2) := by decide +kernel
theorem dL_weigh_16 : decode cL_weigh 16 = .ok (.iconst 2, 1) := by decide +kernel
theorem dL_weigh_17 : decode cL_weigh 17 = .ok (.ireturn, 1) := by decide +kernel
theorem dL_weigh_18 : decode cL_weigh 18 = .ok (.iconst 0, 1) := by decide +kernel
theorem dL_weigh_19 : decode cL_weigh 19 = .ok (.ireturn, 1) := by decide +kernel
theorem dL_token_0 : decode cL_token 0 = .ok (.aload 6, 2) := by decide +kernel
theorem dL_token_2 : decode cL_token 2 = .ok (.iconst 0, 1) := by decide +kernel
theorem dL_token_3 : decode cL_token 3 = .ok (.aload_n 0, 1) := by decide +kernel
theorem dL_token_4 : decode cL_token 4 = .ok (.iload_n 1, 1) := by decide +kernel
theorem dL_token_5 : decode cL_token 5 = .ok (.fload_n 2, 1) := by decide +kernel
theorem dL_token_6 : decode cL_token 6 = .ok (.fload_n 3, 1) := by decide +kernel
theorem dL_token_7 : decode cL_token 7 = .ok (.fload 4, 2) := by decide +kernel
theorem dL_token_9 : decode cL_token 9 = .ok (.fload 5, 2) := by decide +kernel
theorem dL_token_11 : decode cL_token 11 = .ok (.invokevirtual 27, 3) := by decide +kernel
theorem dL_token_14 : decode cL_token 14 = .ok (.i2l, 1) := by decide +kernel
theorem dL_token_15 : decode cL_token 15 = .ok (.lastore, 1) := by decide +kernel
theorem dL_token_16 : decode cL_token 16 = .ok (.goto 15, 3) := by decide +kernel
theorem dL_token_19 : decode cL_token 19 = .ok (.astore 7, 2) := by decide +kernel
theorem dL_token_21 : decode cL_token 21 = .ok (.iconst 1, 1) := by decide +kernel
theorem dL_token_22 : decode cL_token 22 = .ok (.ireturn, 1) := by decide +kernel
theorem dL_token_23 : decode cL_token 23 = .ok (.astore 7, 2) := by decide +kernel
theorem dL_token_25 : decode cL_token 25 = .ok (.iconst 2, 1) := by decide +kernel
theorem dL_token_26 : decode cL_token 26 = .ok (.ireturn, 1) := by decide +kernel
theorem dL_token_27 : decode cL_token 27 = .ok (.astore 7, 2) := by decide +kernel
theorem dL_token_29 : decode cL_token 29 = .ok (.iconst 3, 1) := by decide +kernel
theorem dL_token_30 : decode cL_token 30 = .ok (.ireturn, 1) := by decide +kernel
theorem dL_token_31 : decode cL_token 31 = .ok (.iconst 0, 1) := by decide +kernel
theorem dL_token_32 : decode cL_token 32 = .ok (.ireturn, 1) := by decide +kernel
theorem dL_centroid_0 : decode cL_centroid 0 = .ok (.aload 5, 2) := by decide +kernel
theorem dL_centroid_2 : decode cL_centroid 2 = .ok (.iconst 0, 1) := by decide +kernel
theorem dL_centroid_3 : decode cL_centroid 3 = .ok (.aload_n 0, 1) := by decide +kernel
theorem dL_centroid_4 : decode cL_centroid 4 = .ok (.fload_n 1, 1) := by decide +kernel
theorem dL_centroid_5 : decode cL_centroid 5 = .ok (.fload_n 2, 1) := by decide +kernel
theorem dL_centroid_6 : decode cL_centroid 6 = .ok (.fload_n 3, 1) := by decide +kernel
theorem dL_centroid_7 : decode cL_centroid 7 = .ok (.fload 4, 2) := by decide +kernel
theorem dL_centroid_9 : decode cL_centroid 9 = .ok (.invokevirtual 31, 3) := by decide +kernel
theorem dL_centroid_12 : decode cL_centroid 12 = .ok (.i2l, 1) := by decide +kernel
theorem dL_centroid_13 : decode cL_centroid 13 = .ok (.lastore, 1) := by decide +kernel
theorem dL_centroid_14 : decode cL_centroid 14 = .ok (.goto 11, 3) := by decide +kernel
theorem dL_centroid_17 : decode cL_centroid 17 = .ok (.astore 6, 2) := by decide +kernel
theorem dL_centroid_19 : decode cL_centroid 19 = .ok (.iconst 1, 1) := by decide +kernel
theorem dL_centroid_20 : decode cL_centroid 20 = .ok (.ireturn, 1) := by decide +kernel
theorem dL_centroid_21 : decode cL_centroid 21 = .ok (.astore 6, 2) := by decide +kernel
theorem dL_centroid_23 : decode cL_centroid 23 = .ok (.iconst 2, 1) := by decide +kernel
theorem dL_centroid_24 : decode cL_centroid 24 = .ok (.ireturn, 1) := by decide +kernel
theorem dL_centroid_25 : decode cL_centroid 25 = .ok (.iconst 0, 1) := by decide +kernel
theorem dL_centroid_26 : decode cL_centroid 26 = .ok (.ireturn, 1) := by decide +kernel
theorem dL_word_0 : decode cL_word 0 = .ok (.aload_n 2, 1) := by decide +kernel
theorem dL_word_1 : decode cL_word 1 = .ok (.iconst 0, 1) := by decide +kernel
theorem dL_word_2 : decode cL_word 2 = .ok (.aload_n 0, 1) := by decide +kernel
theorem dL_word_3 : decode cL_word 3 = .ok (.iload_n 1, 1) := by decide +kernel
theorem dL_word_4 : decode cL_word 4 = .ok (.invokevirtual 35, 3) := by decide +kernel
theorem dL_word_7 : decode cL_word 7 = .ok (.i2l, 1) := by decide +kernel
theorem dL_word_8 : decode cL_word 8 = .ok (.lastore, 1) := by decide +kernel
theorem dL_word_9 : decode cL_word 9 = .ok (.goto 12, 3) := by decide +kernel
theorem dL_word_12 : decode cL_word 12 = .ok (.astore_n 3, 1) := by decide +kernel
theorem dL_word_13 : decode cL_word 13 = .ok (.iconst 1, 1) := by decide +kernel
theorem dL_word_14 : decode cL_word 14 = .ok (.ireturn, 1) := by decide +kernel
theorem dL_word_15 : decode cL_word 15 = .ok (.astore_n 3, 1) := by decide +kernel
theorem dL_word_16 : decode cL_word 16 = .ok (.iconst 2, 1) := by decide +kernel
theorem dL_word_17 : decode cL_word 17 = .ok (.ireturn, 1) := by decide +kernel
theorem dL_word_18 : decode cL_word 18 = .ok (.astore_n 3, 1) := by decide +kernel
theorem dL_word_19 : decode cL_word 19 = .ok (.iconst 3, 1) := by decide +kernel
theorem dL_word_20 : decode cL_word 20 = .ok (.ireturn, 1) := by decide +kernel
theorem dL_word_21 : decode cL_word 21 = .ok (.iconst 0, 1) := by decide +kernel
theorem dL_word_22 : decode cL_word 22 = .ok (.ireturn, 1) := by decide +kernel
theorem dL_impact_0 : decode cL_impact 0 = .ok (.aload_n 3, 1) := by decide +kernel
theorem dL_impact_1 : decode cL_impact 1 = .ok (.iconst 0, 1) := by decide +kernel
theorem dL_impact_2 : decode cL_impact 2 = .ok (.aload_n 0, 1) := by decide +kernel
theorem dL_impact_3 : decode cL_impact 3 = .ok (.iload_n 1, 1) := by decide +kernel
theorem dL_impact_4 : decode cL_impact 4 = .ok (.iload_n 2, 1) := by decide +kernel
theorem dL_impact_5 : decode cL_impact 5 = .ok (.invokevirtual 39, 3) := by decide +kernel
theorem dL_impact_8 : decode cL_impact 8 = .ok (.i2l, 1) := by decide +kernel
theorem dL_impact_9 : decode cL_impact 9 = .ok (.lastore, 1) := by decide +kernel
theorem dL_impact_10 : decode cL_impact 10 = .ok (.goto 15, 3) := by decide +kernel
theorem dL_impact_13 : decode cL_impact 13 = .ok (.astore 4, 2) := by decide +kernel
theorem dL_impact_15 : decode cL_impact 15 = .ok (.iconst 1, 1) := by decide +kernel
theorem dL_impact_16 : decode cL_impact 16 = .ok (.ireturn, 1) := by decide +kernel
theorem dL_impact_17 : decode cL_impact 17 = .ok (.astore 4, 2) := by decide +kernel
theorem dL_impact_19 : decode cL_impact 19 = .ok (.iconst 2, 1) := by decide +kernel
theorem dL_impact_20 : decode cL_impact 20 = .ok (.ireturn, 1) := by decide +kernel
theorem dL_impact_21 : decode cL_impact 21 = .ok (.astore 4, 2) := by decide +kernel
theorem dL_impact_23 : decode cL_impact 23 = .ok (.iconst 3, 1) := by decide +kernel
theorem dL_impact_24 : decode cL_impact 24 = .ok (.ireturn, 1) := by decide +kernel
theorem dL_impact_25 : decode cL_impact 25 = .ok (.iconst 0, 1) := by decide +kernel
theorem dL_impact_26 : decode cL_impact 26 = .ok (.ireturn, 1) := by decide +kernel
theorem dL_vector_0 : decode cL_vector 0 = .ok (.aload 5, 2) := by decide +kernel
theorem dL_vector_2 : decode cL_vector 2 = .ok (.iconst 0, 1) := by decide +kernel
theorem dL_vector_3 : decode cL_vector 3 = .ok (.aload_n 0, 1) := by decide +kernel
theorem dL_vector_4 : decode cL_vector 4 = .ok (.fload_n 1, 1) := by decide +kernel
theorem dL_vector_5 : decode cL_vector 5 = .ok (.fload_n 2, 1) := by decide +kernel
theorem dL_vector_6 : decode cL_vector 6 = .ok (.fload_n 3, 1) := by decide +kernel
theorem dL_vector_7 : decode cL_vector 7 = .ok (.fload 4, 2) := by decide +kernel
theorem dL_vector_9 : decode cL_vector 9 = .ok (.invokevirtual 42, 3) := by decide +kernel
theorem dL_vector_12 : decode cL_vector 12 = .ok (.i2l, 1) := by decide +kernel
theorem dL_vector_13 : decode cL_vector 13 = .ok (.lastore, 1) := by decide +kernel
theorem dL_vector_14 : decode cL_vector 14 = .ok (.goto 11, 3) := by decide +kernel
theorem dL_vector_17 : decode cL_vector 17 = .ok (.astore 6, 2) := by decide +kernel
theorem dL_vector_19 : decode cL_vector 19 = .ok (.iconst 1, 1) := by decide +kernel
theorem dL_vector_20 : decode cL_vector 20 = .ok (.ireturn, 1) := by decide +kernel
theorem dL_vector_21 : decode cL_vector 21 = .ok (.astore 6, 2) := by decide +kernel
theorem dL_vector_23 : decode cL_vector 23 = .ok (.iconst 2, 1) := by decide +kernel
theorem dL_vector_24 : decode cL_vector 24 = .ok (.ireturn, 1) := by decide +kernel
theorem dL_vector_25 : decode cL_vector 25 = .ok (.iconst 0, 1) := by decide +kernel
theorem dL_vector_26 : decode cL_vector 26 = .ok (.ireturn, 1) := by decide +kernel
theorem dL_search_0 : decode cL_search 0 = .ok (.aload 5, 2) := by decide +kernel
theorem dL_search_2 : decode cL_search 2 = .ok (.iconst 0, 1) := by decide +kernel
theorem dL_search_3 : decode cL_search 3 = .ok (.aload_n 0, 1) := by decide +kernel
theorem dL_search_4 : decode cL_search 4 = .ok (.iload_n 1, 1) := by decide +kernel
theorem dL_search_5 : decode cL_search 5 = .ok (.iload_n 2, 1) := by decide +kernel
theorem dL_search_6 : decode cL_search 6 = .ok (.iload_n 3, 1) := by decide +kernel
theorem dL_search_7 : decode cL_search 7 = .ok (.iload 4, 2) := by decide +kernel
theorem dL_search_9 : decode cL_search 9 = .ok (.invokevirtual 45, 3) := by decide +kernel
theorem dL_search_12 : decode cL_search 12 = .ok (.i2l, 1) := by decide +kernel
theorem dL_search_13 : decode cL_search 13 = .ok (.lastore, 1) := by decide +kernel
theorem dL_search_14 : decode cL_search 14 = .ok (.goto 11, 3) := by decide +kernel
theorem dL_search_17 : decode cL_search 17 = .ok (.astore 6, 2) := by decide +kernel
theorem dL_search_19 : decode cL_search 19 = .ok (.iconst 1, 1) := by decide +kernel
theorem dL_search_20 : decode cL_search 20 = .ok (.ireturn, 1) := by decide +kernel
theorem dL_search_21 : decode cL_search 21 = .ok (.astore 6, 2) := by decide +kernel
theorem dL_search_23 : decode cL_search 23 = .ok (.iconst 2, 1) := by decide +kernel
theorem dL_search_24 : decode cL_search 24 = .ok (.ireturn, 1) := by decide +kernel
theorem dL_search_25 : decode cL_search 25 = .ok (.iconst 0, 1) := by decide +kernel
theorem dL_search_26 : decode cL_search 26 = .ok (.ireturn, 1) := by decide +kernel
theorem dL_hit_0 : decode cL_hit 0 = .ok (.aload_n 3, 1) := by decide +kernel
theorem dL_hit_1 : decode cL_hit 1 = .ok (.iconst 0, 1) := by decide +kernel
theorem dL_hit_2 : decode cL_hit 2 = .ok (.aload_n 0, 1) := by decide +kernel
theorem dL_hit_3 : decode cL_hit 3 = .ok (.iload_n 1, 1) := by decide +kernel
theorem dL_hit_4 : decode cL_hit 4 = .ok (.iload_n 2, 1) := by decide +kernel
theorem dL_hit_5 : decode cL_hit 5 = .ok (.invokevirtual 49, 3) := by decide +kernel
theorem dL_hit_8 : decode cL_hit 8 = .ok (.i2l, 1) := by decide +kernel
theorem dL_hit_9 : decode cL_hit 9 = .ok (.lastore, 1) := by decide +kernel
theorem dL_hit_10 : decode cL_hit 10 = .ok (.goto 15, 3) := by decide +kernel
theorem dL_hit_13 : decode cL_hit 13 = .ok (.astore 4, 2) := by decide +kernel
theorem dL_hit_15 : decode cL_hit 15 = .ok (.iconst 1, 1) := by decide +kernel
theorem dL_hit_16 : decode cL_hit 16 = .ok (.ireturn, 1) := by decide +kernel
theorem dL_hit_17 : decode cL_hit 17 = .ok (.astore 4, 2) := by decide +kernel
theorem dL_hit_19 : decode cL_hit 19 = .ok (.iconst 2, 1) := by decide +kernel
theorem dL_hit_20 : decode cL_hit 20 = .ok (.ireturn, 1) := by decide +kernel
theorem dL_hit_21 : decode cL_hit 21 = .ok (.astore 4, 2) := by decide +kernel
theorem dL_hit_23 : decode cL_hit 23 = .ok (.iconst 3, 1) := by decide +kernel
theorem dL_hit_24 : decode cL_hit 24 = .ok (.ireturn, 1) := by decide +kernel
theorem dL_hit_25 : decode cL_hit 25 = .ok (.iconst 0, 1) := by decide +kernel
theorem dL_hit_26 : decode cL_hit 26 = .ok (.ireturn, 1) := by decide +kernel
theorem dL_score_0 : decode cL_score 0 = .ok (.aload_n 3, 1) := by decide +kernel
theorem dL_score_1 : decode cL_score 1 = .ok (.iconst 0, 1) := by decide +kernel
theorem dL_score_2 : decode cL_score 2 = .ok (.aload_n 0, 1) := by decide +kernel
theorem dL_score_3 : decode cL_score 3 = .ok (.iload_n 1, 1) := by decide +kernel
theorem dL_score_4 : decode cL_score 4 = .ok (.iload_n 2, 1) := by decide +kernel
theorem dL_score_5 : decode cL_score 5 = .ok (.invokevirtual 54, 3) := by decide +kernel
theorem dL_score_8 : decode cL_score 8 = .ok (.dastore, 1) := by decide +kernel
theorem dL_score_9 : decode cL_score 9 = .ok (.goto 15, 3) := by decide +kernel
theorem dL_score_12 : decode cL_score 12 = .ok (.astore 4, 2) := by decide +kernel
theorem dL_score_14 : decode cL_score 14 = .ok (.iconst 1, 1) := by decide +kernel
theorem dL_score_15 : decode cL_score 15 = .ok (.ireturn, 1) := by decide +kernel
theorem dL_score_16 : decode cL_score 16 = .ok (.astore 4, 2) := by decide +kernel
theorem dL_score_18 : decode cL_score 18 = .ok (.iconst 2, 1) := by decide +kernel
theorem dL_score_19 : decode cL_score 19 = .ok (.ireturn, 1) := by decide +kernel
theorem dL_score_20 : decode cL_score 20 = .ok (.astore 4, 2) := by decide +kernel
theorem dL_score_22 : decode cL_score 22 = .ok (.iconst 3, 1) := by decide +kernel
theorem dL_score_23 : decode cL_score 23 = .ok (.ireturn, 1) := by decide +kernel
theorem dL_score_24 : decode cL_score 24 = .ok (.iconst 0, 1) := by decide +kernel
theorem dL_score_25 : decode cL_score 25 = .ok (.ireturn, 1) := by decide +kernel
theorem dL_work_0 : decode cL_work 0 = .ok (.aload_n 3, 1) := by decide +kernel
theorem dL_work_1 : decode cL_work 1 = .ok (.iconst 0, 1) := by decide +kernel
theorem dL_work_2 : decode cL_work 2 = .ok (.aload_n 0, 1) := by decide +kernel
theorem dL_work_3 : decode cL_work 3 = .ok (.iload_n 1, 1) := by decide +kernel
theorem dL_work_4 : decode cL_work 4 = .ok (.iload_n 2, 1) := by decide +kernel
theorem dL_work_5 : decode cL_work 5 = .ok (.invokevirtual 58, 3) := by decide +kernel
theorem dL_work_8 : decode cL_work 8 = .ok (.i2l, 1) := by decide +kernel
theorem dL_work_9 : decode cL_work 9 = .ok (.lastore, 1) := by decide +kernel
theorem dL_work_10 : decode cL_work 10 = .ok (.goto 11, 3) := by decide +kernel
theorem dL_work_13 : decode cL_work 13 = .ok (.astore 4, 2) := by decide +kernel
theorem dL_work_15 : decode cL_work 15 = .ok (.iconst 1, 1) := by decide +kernel
theorem dL_work_16 : decode cL_work 16 = .ok (.ireturn, 1) := by decide +kernel
theorem dL_work_17 : decode cL_work 17 = .ok (.astore 4, 2) := by decide +kernel
theorem dL_work_19 : decode cL_work 19 = .ok (.iconst 2, 1) := by decide +kernel
theorem dL_work_20 : decode cL_work 20 = .ok (.ireturn, 1) := by decide +kernel
theorem dL_work_21 : decode cL_work 21 = .ok (.iconst 0, 1) := by decide +kernel
theorem dL_work_22 : decode cL_work 22 = .ok (.ireturn, 1) := by decide +kernel
theorem dL_fuse_0 : decode cL_fuse 0 = .ok (.aload_n 2, 1) := by decide +kernel
theorem dL_fuse_1 : decode cL_fuse 1 = .ok (.iconst 0, 1) := by decide +kernel
theorem dL_fuse_2 : decode cL_fuse 2 = .ok (.aload_n 0, 1) := by decide +kernel
theorem dL_fuse_3 : decode cL_fuse 3 = .ok (.iload_n 1, 1) := by decide +kernel
theorem dL_fuse_4 : decode cL_fuse 4 = .ok (.invokevirtual 61, 3) := by decide +kernel
theorem dL_fuse_7 : decode cL_fuse 7 = .ok (.i2l, 1) := by decide +kernel
theorem dL_fuse_8 : decode cL_fuse 8 = .ok (.lastore, 1) := by decide +kernel
theorem dL_fuse_9 : decode cL_fuse 9 = .ok (.goto 9, 3) := by decide +kernel
theorem dL_fuse_12 : decode cL_fuse 12 = .ok (.astore_n 3, 1) := by decide +kernel
theorem dL_fuse_13 : decode cL_fuse 13 = .ok (.iconst 1, 1) := by decide +kernel
theorem dL_fuse_14 : decode cL_fuse 14 = .ok (.ireturn, 1) := by decide +kernel
theorem dL_fuse_15 : decode cL_fuse 15 = .ok (.astore_n 3, 1) := by decide +kernel
theorem dL_fuse_16 : decode cL_fuse 16 = .ok (.iconst 2, 1) := by decide +kernel
theorem dL_fuse_17 : decode cL_fuse 17 = .ok (.ireturn, 1) := by decide +kernel
theorem dL_fuse_18 : decode cL_fuse 18 = .ok (.iconst 0, 1) := by decide +kernel
theorem dL_fuse_19 : decode cL_fuse 19 = .ok (.ireturn, 1) := by decide +kernel
theorem dL_fused_0 : decode cL_fused 0 = .ok (.aload_n 2, 1) := by decide +kernel
theorem dL_fused_1 : decode cL_fused 1 = .ok (.iconst 0, 1) := by decide +kernel
theorem dL_fused_2 : decode cL_fused 2 = .ok (.aload_n 0, 1) := by decide +kernel
theorem dL_fused_3 : decode cL_fused 3 = .ok (.iload_n 1, 1) := by decide +kernel
theorem dL_fused_4 : decode cL_fused 4 = .ok (.invokevirtual 64, 3) := by decide +kernel
theorem dL_fused_7 : decode cL_fused 7 = .ok (.i2l, 1) := by decide +kernel
theorem dL_fused_8 : decode cL_fused 8 = .ok (.lastore, 1) := by decide +kernel
theorem dL_fused_9 : decode cL_fused 9 = .ok (.goto 6, 3) := by decide +kernel
theorem dL_fused_12 : decode cL_fused 12 = .ok (.astore_n 3, 1) := by decide +kernel
theorem dL_fused_13 : decode cL_fused 13 = .ok (.iconst 1, 1) := by decide +kernel
theorem dL_fused_14 : decode cL_fused 14 = .ok (.ireturn, 1) := by decide +kernel
theorem dL_fused_15 : decode cL_fused 15 = .ok (.iconst 0, 1) := by decide +kernel
theorem dL_fused_16 : decode cL_fused 16 = .ok (.ireturn, 1) := by decide +kernel
theorem dL_rating_0 : decode cL_rating 0 = .ok (.aload_n 2, 1) := by decide +kernel
theorem dL_rating_1 : decode cL_rating 1 = .ok (.iconst 0, 1) := by decide +kernel
theorem dL_rating_2 : decode cL_rating 2 = .ok (.aload_n 0, 1) := by decide +kernel
theorem dL_rating_3 : decode cL_rating 3 = .ok (.iload_n 1, 1) := by decide +kernel
theorem dL_rating_4 : decode cL_rating 4 = .ok (.invokevirtual 67, 3) := by decide +kernel
theorem dL_rating_7 : decode cL_rating 7 = .ok (.dastore, 1) := by decide +kernel
theorem dL_rating_8 : decode cL_rating 8 = .ok (.goto 6, 3) := by decide +kernel
theorem dL_rating_11 : decode cL_rating 11 = .ok (.astore_n 3, 1) := by decide +kernel
theorem dL_rating_12 : decode cL_rating 12 = .ok (.iconst 1, 1) := by decide +kernel
theorem dL_rating_13 : decode cL_rating 13 = .ok (.ireturn, 1) := by decide +kernel
theorem dL_rating_14 : decode cL_rating 14 = .ok (.iconst 0, 1) := by decide +kernel
theorem dL_rating_15 : decode cL_rating 15 = .ok (.ireturn, 1) := by decide +kernel
theorem dL_quantised_0 : decode cL_quantised 0 = .ok (.aload_n 3, 1) := by decide +kernel
theorem dL_quantised_1 : decode cL_quantised 1 = .ok (.iconst 0, 1) := by decide +kernel
theorem dL_quantised_2 : decode cL_quantised 2 = .ok (.aload_n 0, 1) := by decide +kernel
theorem dL_quantised_3 : decode cL_quantised 3 = .ok (.iload_n 1, 1) := by decide +kernel
theorem dL_quantised_4 : decode cL_quantised 4 = .ok (.iload_n 2, 1) := by decide +kernel
theorem dL_quantised_5 : decode cL_quantised 5 = .ok (.invokevirtual 71, 3) := by decide +kernel
theorem dL_quantised_8 : decode cL_quantised 8 = .ok (.i2l, 1) := by decide +kernel
theorem dL_quantised_9 : decode cL_quantised 9 = .ok (.lastore, 1) := by decide +kernel
theorem dL_quantised_10 : decode cL_quantised 10 = .ok (.goto 7, 3) := by decide +kernel
theorem dL_quantised_13 : decode cL_quantised 13 = .ok (.astore 4, 2) := by decide +kernel
theorem dL_quantised_15 : decode cL_quantised 15 = .ok (.iconst 1, 1) := by decide +kernel
theorem dL_quantised_16 : decode cL_quantised 16 = .ok (.ireturn, 1) := by decide +kernel
theorem dL_quantised_17 : decode cL_quantised 17 = .ok (.iconst 0, 1) := by decide +kernel
theorem dL_quantised_18 : decode cL_quantised 18 = .ok (.ireturn, 1) := by decide +kernel
theorem dL_law_0 : decode cL_law 0 = .ok (.new 8, 3) := by decide +kernel
theorem dL_law_3 : decode cL_law 3 = .ok (.dup, 1) := by decide +kernel
theorem dL_law_4 : decode cL_law 4 = .ok (.invokespecial 74, 3) := by decide +kernel
theorem dL_law_7 : decode cL_law 7 = .ok (.astore_n 1, 1) := by decide +kernel
theorem dL_law_8 : decode cL_law 8 = .ok (.new 75, 3) := by decide +kernel
theorem dL_law_11 : decode cL_law 11 = .ok (.dup, 1) := by decide +kernel
theorem dL_law_12 : decode cL_law 12 = .ok (.invokespecial 77, 3) := by decide +kernel
theorem dL_law_15 : decode cL_law 15 = .ok (.astore_n 2, 1) := by decide +kernel
theorem dL_law_16 : decode cL_law 16 = .ok (.iconst 1, 1) := by decide +kernel
theorem dL_law_17 : decode cL_law 17 = .ok (.newarray .long, 2) := by decide +kernel
theorem dL_law_19 : decode cL_law 19 = .ok (.astore_n 3, 1) := by decide +kernel
theorem dL_law_20 : decode cL_law 20 = .ok (.iconst 1, 1) := by decide +kernel
theorem dL_law_21 : decode cL_law 21 = .ok (.newarray .double, 2) := by decide +kernel
theorem dL_law_23 : decode cL_law 23 = .ok (.astore 4, 2) := by decide +kernel
theorem dL_law_25 : decode cL_law 25 = .ok (.iconst 0, 1) := by decide +kernel
theorem dL_law_26 : decode cL_law 26 = .ok (.istore 5, 2) := by decide +kernel
theorem dL_law_28 : decode cL_law 28 = .ok (.iload 5, 2) := by decide +kernel
theorem dL_law_30 : decode cL_law 30 = .ok (.aload_n 0, 1) := by decide +kernel
theorem dL_law_31 : decode cL_law 31 = .ok (.arraylength, 1) := by decide +kernel
theorem dL_law_32 : decode cL_law 32 = .ok (.bipush 6, 2) := by decide +kernel
theorem dL_law_34 : decode cL_law 34 = .ok (.isub, 1) := by decide +kernel
theorem dL_law_35 : decode cL_law 35 = .ok (.if_icmp .gt 1439, 3) := by decide +kernel
theorem dL_law_38 : decode cL_law 38 = .ok (.aload_n 0, 1) := by decide +kernel
theorem dL_law_39 : decode cL_law 39 = .ok (.iload 5, 2) := by decide +kernel
theorem dL_law_41 : decode cL_law 41 = .ok (.iaload, 1) := by decide +kernel
theorem dL_law_42 : decode cL_law 42 = .ok (.bipush 31, 2) := by decide +kernel
theorem dL_law_44 : decode cL_law 44 = .ok (.iand, 1) := by decide +kernel
theorem dL_law_45 : decode cL_law 45 = .ok (.tableswitch 1423 0 17 #[87, 131, 199, 267, 403, 527, 538, 594, 662, 786, 878, 946, 1035, 1103, 1159, 1215, 1292, 1355], 87) := by decide +kernel
theorem dL_law_132 : decode cL_law 132 = .ok (.aload_n 1, 1) := by decide +kernel
theorem dL_law_133 : decode cL_law 133 = .ok (.aload_n 3, 1) := by decide +kernel
theorem dL_law_134 : decode cL_law 134 = .ok (.invokestatic 78, 3) := by decide +kernel
theorem dL_law_137 : decode cL_law 137 = .ok (.istore 6, 2) := by decide +kernel
theorem dL_law_139 : decode cL_law 139 = .ok (.aload_n 2, 1) := by decide +kernel
theorem dL_law_140 : decode cL_law 140 = .ok (.invokevirtual 83, 3) := by decide +kernel
theorem dL_law_143 : decode cL_law 143 = .ok (.istore 7, 2) := by decide +kernel
theorem dL_law_145 : decode cL_law 145 = .ok (.aload_n 2, 1) := by decide +kernel
theorem dL_law_146 : decode cL_law 146 = .ok (.invokevirtual 84, 3) := by decide +kernel
theorem dL_law_149 : decode cL_law 149 = .ok (.iload 6, 2) := by decide +kernel
theorem dL_law_151 : decode cL_law 151 = .ok (.if_icmp .eq 5, 3) := by decide +kernel
theorem dL_law_154 : decode cL_law 154 = .ok (.iconst 0, 1) := by decide +kernel
theorem dL_law_155 : decode cL_law 155 = .ok (.ireturn, 1) := by decide +kernel
theorem dL_law_156 : decode cL_law 156 = .ok (.iload 6, 2) := by decide +kernel
theorem dL_law_158 : decode cL_law 158 = .ok (.ifCond .ne 15, 3) := by decide +kernel
theorem dL_law_161 : decode cL_law 161 = .ok (.aload_n 3, 1) := by decide +kernel
theorem dL_law_162 : decode cL_law 162 = .ok (.iconst 0, 1) := by decide +kernel
theorem dL_law_163 : decode cL_law 163 = .ok (.laload, 1) := by decide +kernel
theorem dL_law_164 : decode cL_law 164 = .ok (.iload 7, 2) := by decide +kernel
theorem dL_law_166 : decode cL_law 166 = .ok (.i2l, 1) := by decide +kernel
theorem dL_law_167 : decode cL_law 167 = .ok (.lcmp, 1) := by decide +kernel
theorem dL_law_168 : decode cL_law 168 = .ok (.ifCond .eq 5, 3) := by decide +kernel
theorem dL_law_171 : decode cL_law 171 = .ok (.iconst 0, 1) := by decide +kernel
theorem dL_law_172 : decode cL_law 172 = .ok (.ireturn, 1) := by decide +kernel
theorem dL_law_173 : decode cL_law 173 = .ok (.goto 1295, 3) := by decide +kernel
theorem dL_law_176 : decode cL_law 176 = .ok (.aload_n 1, 1) := by decide +kernel
theorem dL_law_177 : decode cL_law 177 = .ok (.aload_n 0, 1) := by decide +kernel
theorem dL_law_178 : decode cL_law 178 = .ok (.iload 5, 2) := by decide +kernel
theorem dL_law_180 : decode cL_law 180 = .ok (.iconst 1, 1) := by decide +kernel
theorem dL_law_181 : decode cL_law 181 = .ok (.iadd, 1) := by decide +kernel
theorem dL_law_182 : decode cL_law 182 = .ok (.iaload, 1) := by decide +kernel
theorem dL_law_183 : decode cL_law 183 = .ok (.aload_n 0, 1) := by decide +kernel
theorem dL_law_184 : decode cL_law 184 = .ok (.iload 5, 2) := by decide +kernel
theorem dL_law_186 : decode cL_law 186 = .ok (.iconst 2, 1) := by decide +kernel
theorem dL_law_187 : decode cL_law 187 = .ok (.iadd, 1) := by decide +kernel
theorem dL_law_188 : decode cL_law 188 = .ok (.iaload, 1) := by decide +kernel
theorem dL_law_189 : decode cL_law 189 = .ok (.aload_n 3, 1) := by decide +kernel
theorem dL_law_190 : decode cL_law 190 = .ok (.invokestatic 87, 3) := by decide +kernel
theorem dL_law_193 : decode cL_law 193 = .ok (.istore 6, 2) := by decide +kernel
theorem dL_law_195 : decode cL_law 195 = .ok (.aload_n 2, 1) := by decide +kernel
theorem dL_law_196 : decode cL_law 196 = .ok (.aload_n 0, 1) := by decide +kernel
theorem dL_law_197 : decode cL_law 197 = .ok (.iload 5, 2) := by decide +kernel
theorem dL_law_199 : decode cL_law 199 = .ok (.iconst 1, 1) := by decide +kernel
theorem dL_law_200 : decode cL_law 200 = .ok (.iadd, 1) := by decide +kernel
theorem dL_law_201 : decode cL_law 201 = .ok (.iaload, 1) := by decide +kernel
theorem dL_law_202 : decode cL_law 202 = .ok (.aload_n 0, 1) := by decide +kernel
theorem dL_law_203 : decode cL_law 203 = .ok (.iload 5, 2) := by decide +kernel
theorem dL_law_205 : decode cL_law 205 = .ok (.iconst 2, 1) := by decide +kernel
theorem dL_law_206 : decode cL_law 206 = .ok (.iadd, 1) := by decide +kernel
theorem dL_law_207 : decode cL_law 207 = .ok (.iaload, 1) := by decide +kernel
theorem dL_law_208 : decode cL_law 208 = .ok (.invokevirtual 90, 3) := by decide +kernel
theorem dL_law_211 : decode cL_law 211 = .ok (.istore 7, 2) := by decide +kernel
theorem dL_law_213 : decode cL_law 213 = .ok (.aload_n 2, 1) := by decide +kernel
theorem dL_law_214 : decode cL_law 214 = .ok (.invokevirtual 84, 3) := by decide +kernel
theorem dL_law_217 : decode cL_law 217 = .ok (.iload 6, 2) := by decide +kernel
theorem dL_law_219 : decode cL_law 219 = .ok (.if_icmp .eq 5, 3) := by decide +kernel
theorem dL_law_222 : decode cL_law 222 = .ok (.iconst 0, 1) := by decide +kernel
theorem dL_law_223 : decode cL_law 223 = .ok (.ireturn, 1) := by decide +kernel
theorem dL_law_224 : decode cL_law 224 = .ok (.iload 6, 2) := by decide +kernel
theorem dL_law_226 : decode cL_law 226 = .ok (.ifCond .ne 15, 3) := by decide +kernel
theorem dL_law_229 : decode cL_law 229 = .ok (.aload_n 3, 1) := by decide +kernel
theorem dL_law_230 : decode cL_law 230 = .ok (.iconst 0, 1) := by decide +kernel
theorem dL_law_231 : decode cL_law 231 = .ok (.laload, 1) := by decide +kernel
theorem dL_law_232 : decode cL_law 232 = .ok (.iload 7, 2) := by decide +kernel
theorem dL_law_234 : decode cL_law 234 = .ok (.i2l, 1) := by decide +kernel
theorem dL_law_235 : decode cL_law 235 = .ok (.lcmp, 1) := by decide +kernel
theorem dL_law_236 : decode cL_law 236 = .ok (.ifCond .eq 5, 3) := by decide +kernel
theorem dL_law_239 : decode cL_law 239 = .ok (.iconst 0, 1) := by decide +kernel
theorem dL_law_240 : decode cL_law 240 = .ok (.ireturn, 1) := by decide +kernel
theorem dL_law_241 : decode cL_law 241 = .ok (.goto 1227, 3) := by decide +kernel
theorem dL_law_244 : decode cL_law 244 = .ok (.aload_n 1, 1) := by decide +kernel
theorem dL_law_245 : decode cL_law 245 = .ok (.aload_n 0, 1) := by decide +kernel
theorem dL_law_246 : decode cL_law 246 = .ok (.iload 5, 2) := by decide +kernel
theorem dL_law_248 : decode cL_law 248 = .ok (.iconst 1, 1) := by decide +kernel
theorem dL_law_249 : decode cL_law 249 = .ok (.iadd, 1) := by decide +kernel
theorem dL_law_250 : decode cL_law 250 = .ok (.iaload, 1) := by decide +kernel
theorem dL_law_251 : decode cL_law 251 = .ok (.aload_n 0, 1) := by decide +kernel
theorem dL_law_252 : decode cL_law 252 = .ok (.iload 5, 2) := by decide +kernel
theorem dL_law_254 : decode cL_law 254 = .ok (.iconst 2, 1) := by decide +kernel
theorem dL_law_255 : decode cL_law 255 = .ok (.iadd, 1) := by decide +kernel
theorem dL_law_256 : decode cL_law 256 = .ok (.iaload, 1) := by decide +kernel
theorem dL_law_257 : decode cL_law 257 = .ok (.aload_n 0, 1) := by decide +kernel
theorem dL_law_258 : decode cL_law 258 = .ok (.iload 5, 2) := by decide +kernel
theorem dL_law_260 : decode cL_law 260 = .ok (.iconst 3, 1) := by decide +kernel
theorem dL_law_261 : decode cL_law 261 = .ok (.iadd, 1) := by decide +kernel
theorem dL_law_262 : decode cL_law 262 = .ok (.iaload, 1) := by decide +kernel
theorem dL_law_263 : decode cL_law 263 = .ok (.i2f, 1) := by decide +kernel
theorem dL_law_264 : decode cL_law 264 = .ok (.ldc 91, 2) := by decide +kernel
theorem dL_law_266 : decode cL_law 266 = .ok (.fmul, 1) := by decide +kernel
theorem dL_law_267 : decode cL_law 267 = .ok (.invokestatic 92, 3) := by decide +kernel
theorem dL_law_270 : decode cL_law 270 = .ok (.istore 6, 2) := by decide +kernel
theorem dL_law_272 : decode cL_law 272 = .ok (.aload_n 2, 1) := by decide +kernel
theorem dL_law_273 : decode cL_law 273 = .ok (.aload_n 0, 1) := by decide +kernel
theorem dL_law_274 : decode cL_law 274 = .ok (.iload 5, 2) := by decide +kernel
theorem dL_law_276 : decode cL_law 276 = .ok (.iconst 1, 1) := by decide +kernel
theorem dL_law_277 : decode cL_law 277 = .ok (.iadd, 1) := by decide +kernel
theorem dL_law_278 : decode cL_law 278 = .ok (.iaload, 1) := by decide +kernel
theorem dL_law_279 : decode cL_law 279 = .ok (.aload_n 0, 1) := by decide +kernel
theorem dL_law_280 : decode cL_law 280 = .ok (.iload 5, 2) := by decide +kernel
theorem dL_law_282 : decode cL_law 282 = .ok (.iconst 2, 1) := by decide +kernel
theorem dL_law_283 : decode cL_law 283 = .ok (.iadd, 1) := by decide +kernel
theorem dL_law_284 : decode cL_law 284 = .ok (.iaload, 1) := by decide +kernel
theorem dL_law_285 : decode cL_law 285 = .ok (.aload_n 0, 1) := by decide +kernel
theorem dL_law_286 : decode cL_law 286 = .ok (.iload 5, 2) := by decide +kernel
theorem dL_law_288 : decode cL_law 288 = .ok (.iconst 3, 1) := by decide +kernel
theorem dL_law_289 : decode cL_law 289 = .ok (.iadd, 1) := by decide +kernel
theorem dL_law_290 : decode cL_law 290 = .ok (.iaload, 1) := by decide +kernel
theorem dL_law_291 : decode cL_law 291 = .ok (.i2f, 1) := by decide +kernel
theorem dL_law_292 : decode cL_law 292 = .ok (.ldc 91, 2) := by decide +kernel
theorem dL_law_294 : decode cL_law 294 = .ok (.fmul, 1) := by decide +kernel
theorem dL_law_295 : decode cL_law 295 = .ok (.invokevirtual 95, 3) := by decide +kernel
theorem dL_law_298 : decode cL_law 298 = .ok (.aload_n 2, 1) := by decide +kernel
theorem dL_law_299 : decode cL_law 299 = .ok (.invokevirtual 84, 3) := by decide +kernel
theorem dL_law_302 : decode cL_law 302 = .ok (.iload 6, 2) := by decide +kernel
theorem dL_law_304 : decode cL_law 304 = .ok (.if_icmp .eq 5, 3) := by decide +kernel
theorem dL_law_307 : decode cL_law 307 = .ok (.iconst 0, 1) := by decide +kernel
theorem dL_law_308 : decode cL_law 308 = .ok (.ireturn, 1) := by decide +kernel
theorem dL_law_309 : decode cL_law 309 = .ok (.goto 1159, 3) := by decide +kernel
theorem dL_law_312 : decode cL_law 312 = .ok (.aload_n 1, 1) := by decide +kernel
theorem dL_law_313 : decode cL_law 313 = .ok (.aload_n 0, 1) := by decide +kernel
theorem dL_law_314 : decode cL_law 314 = .ok (.iload 5, 2) := by decide +kernel
theorem dL_law_316 : decode cL_law 316 = .ok (.iconst 1, 1) := by decide +kernel
theorem dL_law_317 : decode cL_law 317 = .ok (.iadd, 1) := by decide +kernel
theorem dL_law_318 : decode cL_law 318 = .ok (.iaload, 1) := by decide +kernel
theorem dL_law_319 : decode cL_law 319 = .ok (.aload_n 0, 1) := by decide +kernel
theorem dL_law_320 : decode cL_law 320 = .ok (.iload 5, 2) := by decide +kernel
theorem dL_law_322 : decode cL_law 322 = .ok (.iconst 2, 1) := by decide +kernel
theorem dL_law_323 : decode cL_law 323 = .ok (.iadd, 1) := by decide +kernel
theorem dL_law_324 : decode cL_law 324 = .ok (.iaload, 1) := by decide +kernel
theorem dL_law_325 : decode cL_law 325 = .ok (.i2f, 1) := by decide +kernel
theorem dL_law_326 : decode cL_law 326 = .ok (.ldc 91, 2) := by decide +kernel
theorem dL_law_328 : decode cL_law 328 = .ok (.fmul, 1) := by decide +kernel
theorem dL_law_329 : decode cL_law 329 = .ok (.aload_n 0, 1) := by decide +kernel
theorem dL_law_330 : decode cL_law 330 = .ok (.iload 5, 2) := by decide +kernel
theorem dL_law_332 : decode cL_law 332 = .ok (.iconst 3, 1) := by decide +kernel
theorem dL_law_333 : decode cL_law 333 = .ok (.iadd, 1) := by decide +kernel
theorem dL_law_334 : decode cL_law 334 = .ok (.iaload, 1) := by decide +kernel
theorem dL_law_335 : decode cL_law 335 = .ok (.i2f, 1) := by decide +kernel
theorem dL_law_336 : decode cL_law 336 = .ok (.ldc 91, 2) := by decide +kernel
theorem dL_law_338 : decode cL_law 338 = .ok (.fmul, 1) := by decide +kernel
theorem dL_law_339 : decode cL_law 339 = .ok (.aload_n 0, 1) := by decide +kernel
theorem dL_law_340 : decode cL_law 340 = .ok (.iload 5, 2) := by decide +kernel
theorem dL_law_342 : decode cL_law 342 = .ok (.iconst 4, 1) := by decide +kernel
theorem dL_law_343 : decode cL_law 343 = .ok (.iadd, 1) := by decide +kernel
theorem dL_law_344 : decode cL_law 344 = .ok (.iaload, 1) := by decide +kernel
theorem dL_law_345 : decode cL_law 345 = .ok (.i2f, 1) := by decide +kernel
theorem dL_law_346 : decode cL_law 346 = .ok (.ldc 91, 2) := by decide +kernel
theorem dL_law_348 : decode cL_law 348 = .ok (.fmul, 1) := by decide +kernel
theorem dL_law_349 : decode cL_law 349 = .ok (.aload_n 0, 1) := by decide +kernel
theorem dL_law_350 : decode cL_law 350 = .ok (.iload 5, 2) := by decide +kernel
theorem dL_law_352 : decode cL_law 352 = .ok (.iconst 5, 1) := by decide +kernel
theorem dL_law_353 : decode cL_law 353 = .ok (.iadd, 1) := by decide +kernel
theorem dL_law_354 : decode cL_law 354 = .ok (.iaload, 1) := by decide +kernel
theorem dL_law_355 : decode cL_law 355 = .ok (.i2f, 1) := by decide +kernel
theorem dL_law_356 : decode cL_law 356 = .ok (.ldc 91, 2) := by decide +kernel
theorem dL_law_358 : decode cL_law 358 = .ok (.fmul, 1) := by decide +kernel
theorem dL_law_359 : decode cL_law 359 = .ok (.aload_n 3, 1) := by decide +kernel
theorem dL_law_360 : decode cL_law 360 = .ok (.invokestatic 96, 3) := by decide +kernel
theorem dL_law_363 : decode cL_law 363 = .ok (.istore 6, 2) := by decide +kernel
theorem dL_law_365 : decode cL_law 365 = .ok (.aload_n 2, 1) := by decide +kernel
theorem dL_law_366 : decode cL_law 366 = .ok (.aload_n 0, 1) := by decide +kernel
theorem dL_law_367 : decode cL_law 367 = .ok (.iload 5, 2) := by decide +kernel
theorem dL_law_369 : decode cL_law 369 = .ok (.iconst 1, 1) := by decide +kernel
theorem dL_law_370 : decode cL_law 370 = .ok (.iadd, 1) := by decide +kernel
theorem dL_law_371 : decode cL_law 371 = .ok (.iaload, 1) := by decide +kernel
theorem dL_law_372 : decode cL_law 372 = .ok (.aload_n 0, 1) := by decide +kernel
theorem dL_law_373 : decode cL_law 373 = .ok (.iload 5, 2) := by decide +kernel
theorem dL_law_375 : decode cL_law 375 = .ok (.iconst 2, 1) := by decide +kernel
theorem dL_law_376 : decode cL_law 376 = .ok (.iadd, 1) := by decide +kernel
theorem dL_law_377 : decode cL_law 377 = .ok (.iaload, 1) := by decide +kernel
theorem dL_law_378 : decode cL_law 378 = .ok (.i2f, 1) := by decide +kernel
theorem dL_law_379 : decode cL_law 379 = .ok (.ldc 91, 2) := by decide +kernel
theorem dL_law_381 : decode cL_law 381 = .ok (.fmul, 1) := by decide +kernel
theorem dL_law_382 : decode cL_law 382 = .ok (.aload_n 0, 1) := by decide +kernel
theorem dL_law_383 : decode cL_law 383 = .ok (.iload 5, 2) := by decide +kernel
theorem dL_law_385 : decode cL_law 385 = .ok (.iconst 3, 1) := by decide +kernel
theorem dL_law_386 : decode cL_law 386 = .ok (.iadd, 1) := by decide +kernel
theorem dL_law_387 : decode cL_law 387 = .ok (.iaload, 1) := by decide +kernel
theorem dL_law_388 : decode cL_law 388 = .ok (.i2f, 1) := by decide +kernel
theorem dL_law_389 : decode cL_law 389 = .ok (.ldc 91, 2) := by decide +kernel
theorem dL_law_391 : decode cL_law 391 = .ok (.fmul, 1) := by decide +kernel
theorem dL_law_392 : decode cL_law 392 = .ok (.aload_n 0, 1) := by decide +kernel
theorem dL_law_393 : decode cL_law 393 = .ok (.iload 5, 2) := by decide +kernel
theorem dL_law_395 : decode cL_law 395 = .ok (.iconst 4, 1) := by decide +kernel
theorem dL_law_396 : decode cL_law 396 = .ok (.iadd, 1) := by decide +kernel
theorem dL_law_397 : decode cL_law 397 = .ok (.iaload, 1) := by decide +kernel
theorem dL_law_398 : decode cL_law 398 = .ok (.i2f, 1) := by decide +kernel
theorem dL_law_399 : decode cL_law 399 = .ok (.ldc 91, 2) := by decide +kernel
theorem dL_law_401 : decode cL_law 401 = .ok (.fmul, 1) := by decide +kernel
theorem dL_law_402 : decode cL_law 402 = .ok (.aload_n 0, 1) := by decide +kernel
theorem dL_law_403 : decode cL_law 403 = .ok (.iload 5, 2) := by decide +kernel
theorem dL_law_405 : decode cL_law 405 = .ok (.iconst 5, 1) := by decide +kernel
theorem dL_law_406 : decode cL_law 406 = .ok (.iadd, 1) := by decide +kernel
theorem dL_law_407 : decode cL_law 407 = .ok (.iaload, 1) := by decide +kernel
theorem dL_law_408 : decode cL_law 408 = .ok (.i2f, 1) := by decide +kernel
theorem dL_law_409 : decode cL_law 409 = .ok (.ldc 91, 2) := by decide +kernel
theorem dL_law_411 : decode cL_law 411 = .ok (.fmul, 1) := by decide +kernel
theorem dL_law_412 : decode cL_law 412 = .ok (.invokevirtual 99, 3) := by decide +kernel
theorem dL_law_415 : decode cL_law 415 = .ok (.istore 7, 2) := by decide +kernel
theorem dL_law_417 : decode cL_law 417 = .ok (.aload_n 2, 1) := by decide +kernel
theorem dL_law_418 : decode cL_law 418 = .ok (.invokevirtual 84, 3) := by decide +kernel
theorem dL_law_421 : decode cL_law 421 = .ok (.iload 6, 2) := by decide +kernel
theorem dL_law_423 : decode cL_law 423 = .ok (.if_icmp .eq 5, 3) := by decide +kernel
theorem dL_law_426 : decode cL_law 426 = .ok (.iconst 0, 1) := by decide +kernel
theorem dL_law_427 : decode cL_law 427 = .ok (.ireturn, 1) := by decide +kernel
theorem dL_law_428 : decode cL_law 428 = .ok (.iload 6, 2) := by decide +kernel
theorem dL_law_430 : decode cL_law 430 = .ok (.ifCond .ne 15, 3) := by decide +kernel
theorem dL_law_433 : decode cL_law 433 = .ok (.aload_n 3, 1) := by decide +kernel
theorem dL_law_434 : decode cL_law 434 = .ok (.iconst 0, 1) := by decide +kernel
theorem dL_law_435 : decode cL_law 435 = .ok (.laload, 1) := by decide +kernel
theorem dL_law_436 : decode cL_law 436 = .ok (.iload 7, 2) := by decide +kernel
theorem dL_law_438 : decode cL_law 438 = .ok (.i2l, 1) := by decide +kernel
theorem dL_law_439 : decode cL_law 439 = .ok (.lcmp, 1) := by decide +kernel
theorem dL_law_440 : decode cL_law 440 = .ok (.ifCond .eq 5, 3) := by decide +kernel
theorem dL_law_443 : decode cL_law 443 = .ok (.iconst 0, 1) := by decide +kernel
theorem dL_law_444 : decode cL_law 444 = .ok (.ireturn, 1) := by decide +kernel
theorem dL_law_445 : decode cL_law 445 = .ok (.goto 1023, 3) := by decide +kernel
theorem dL_law_448 : decode cL_law 448 = .ok (.aload_n 1, 1) := by decide +kernel
theorem dL_law_449 : decode cL_law 449 = .ok (.aload_n 0, 1) := by decide +kernel
theorem dL_law_450 : decode cL_law 450 = .ok (.iload 5, 2) := by decide +kernel
theorem dL_law_452 : decode cL_law 452 = .ok (.iconst 1, 1) := by decide +kernel
theorem dL_law_453 : decode cL_law 453 = .ok (.iadd, 1) := by decide +kernel
theorem dL_law_454 : decode cL_law 454 = .ok (.iaload, 1) := by decide +kernel
theorem dL_law_455 : decode cL_law 455 = .ok (.i2f, 1) := by decide +kernel
theorem dL_law_456 : decode cL_law 456 = .ok (.ldc 91, 2) := by decide +kernel
theorem dL_law_458 : decode cL_law 458 = .ok (.fmul, 1) := by decide +kernel
theorem dL_law_459 : decode cL_law 459 = .ok (.aload_n 0, 1) := by decide +kernel
theorem dL_law_460 : decode cL_law 460 = .ok (.iload 5, 2) := by decide +kernel
theorem dL_law_462 : decode cL_law 462 = .ok (.iconst 2, 1) := by decide +kernel
theorem dL_law_463 : decode cL_law 463 = .ok (.iadd, 1) := by decide +kernel
theorem dL_law_464 : decode cL_law 464 = .ok (.iaload, 1) := by decide +kernel
theorem dL_law_465 : decode cL_law 465 = .ok (.i2f, 1) := by decide +kernel
theorem dL_law_466 : decode cL_law 466 = .ok (.ldc 91, 2) := by decide +kernel
theorem dL_law_468 : decode cL_law 468 = .ok (.fmul, 1) := by decide +kernel
theorem dL_law_469 : decode cL_law 469 = .ok (.aload_n 0, 1) := by decide +kernel
theorem dL_law_470 : decode cL_law 470 = .ok (.iload 5, 2) := by decide +kernel
theorem dL_law_472 : decode cL_law 472 = .ok (.iconst 3, 1) := by decide +kernel
theorem dL_law_473 : decode cL_law 473 = .ok (.iadd, 1) := by decide +kernel
theorem dL_law_474 : decode cL_law 474 = .ok (.iaload, 1) := by decide +kernel
theorem dL_law_475 : decode cL_law 475 = .ok (.i2f, 1) := by decide +kernel
theorem dL_law_476 : decode cL_law 476 = .ok (.ldc 91, 2) := by decide +kernel
theorem dL_law_478 : decode cL_law 478 = .ok (.fmul, 1) := by decide +kernel
theorem dL_law_479 : decode cL_law 479 = .ok (.aload_n 0, 1) := by decide +kernel
theorem dL_law_480 : decode cL_law 480 = .ok (.iload 5, 2) := by decide +kernel
theorem dL_law_482 : decode cL_law 482 = .ok (.iconst 4, 1) := by decide +kernel
theorem dL_law_483 : decode cL_law 483 = .ok (.iadd, 1) := by decide +kernel
theorem dL_law_484 : decode cL_law 484 = .ok (.iaload, 1) := by decide +kernel
theorem dL_law_485 : decode cL_law 485 = .ok (.i2f, 1) := by decide +kernel
theorem dL_law_486 : decode cL_law 486 = .ok (.ldc 91, 2) := by decide +kernel
theorem dL_law_488 : decode cL_law 488 = .ok (.fmul, 1) := by decide +kernel
theorem dL_law_489 : decode cL_law 489 = .ok (.aload_n 3, 1) := by decide +kernel
theorem dL_law_490 : decode cL_law 490 = .ok (.invokestatic 100, 3) := by decide +kernel
theorem dL_law_493 : decode cL_law 493 = .ok (.istore 6, 2) := by decide +kernel
theorem dL_law_495 : decode cL_law 495 = .ok (.aload_n 2, 1) := by decide +kernel
theorem dL_law_496 : decode cL_law 496 = .ok (.aload_n 0, 1) := by decide +kernel
theorem dL_law_497 : decode cL_law 497 = .ok (.iload 5, 2) := by decide +kernel
theorem dL_law_499 : decode cL_law 499 = .ok (.iconst 1, 1) := by decide +kernel
theorem dL_law_500 : decode cL_law 500 = .ok (.iadd, 1) := by decide +kernel
theorem dL_law_501 : decode cL_law 501 = .ok (.iaload, 1) := by decide +kernel
theorem dL_law_502 : decode cL_law 502 = .ok (.i2f, 1) := by decide +kernel
theorem dL_law_503 : decode cL_law 503 = .ok (.ldc 91, 2) := by decide +kernel
theorem dL_law_505 : decode cL_law 505 = .ok (.fmul, 1) := by decide +kernel
theorem dL_law_506 : decode cL_law 506 = .ok (.aload_n 0, 1) := by decide +kernel
theorem dL_law_507 : decode cL_law 507 = .ok (.iload 5, 2) := by decide +kernel
theorem dL_law_509 : decode cL_law 509 = .ok (.iconst 2, 1) := by decide +kernel
theorem dL_law_510 : decode cL_law 510 = .ok (.iadd, 1) := by decide +kernel
theorem dL_law_511 : decode cL_law 511 = .ok (.iaload, 1) := by decide +kernel
theorem dL_law_512 : decode cL_law 512 = .ok (.i2f, 1) := by decide +kernel
theorem dL_law_513 : decode cL_law 513 = .ok (.ldc 91, 2) := by decide +kernel
theorem dL_law_515 : decode cL_law 515 = .ok (.fmul, 1) := by decide +kernel
theorem dL_law_516 : decode cL_law 516 = .ok (.aload_n 0, 1) := by decide +kernel
theorem dL_law_517 : decode cL_law 517 = .ok (.iload 5, 2) := by decide +kernel
theorem dL_law_519 : decode cL_law 519 = .ok (.iconst 3, 1) := by decide +kernel
theorem dL_law_520 : decode cL_law 520 = .ok (.iadd, 1) := by decide +kernel
theorem dL_law_521 : decode cL_law 521 = .ok (.iaload, 1) := by decide +kernel
theorem dL_law_522 : decode cL_law 522 = .ok (.i2f, 1) := by decide +kernel
theorem dL_law_523 : decode cL_law 523 = .ok (.ldc 91, 2) := by decide +kernel
theorem dL_law_525 : decode cL_law 525 = .ok (.fmul, 1) := by decide +kernel
theorem dL_law_526 : decode cL_law 526 = .ok (.aload_n 0, 1) := by decide +kernel
theorem dL_law_527 : decode cL_law 527 = .ok (.iload 5, 2) := by decide +kernel
theorem dL_law_529 : decode cL_law 529 = .ok (.iconst 4, 1) := by decide +kernel
theorem dL_law_530 : decode cL_law 530 = .ok (.iadd, 1) := by decide +kernel
theorem dL_law_531 : decode cL_law 531 = .ok (.iaload, 1) := by decide +kernel
theorem dL_law_532 : decode cL_law 532 = .ok (.i2f, 1) := by decide +kernel
theorem dL_law_533 : decode cL_law 533 = .ok (.ldc 91, 2) := by decide +kernel
theorem dL_law_535 : decode cL_law 535 = .ok (.fmul, 1) := by decide +kernel
theorem dL_law_536 : decode cL_law 536 = .ok (.invokevirtual 103, 3) := by decide +kernel
theorem dL_law_539 : decode cL_law 539 = .ok (.istore 7, 2) := by decide +kernel
theorem dL_law_541 : decode cL_law 541 = .ok (.aload_n 2, 1) := by decide +kernel
theorem dL_law_542 : decode cL_law 542 = .ok (.invokevirtual 84, 3) := by decide +kernel
theorem dL_law_545 : decode cL_law 545 = .ok (.iload 6, 2) := by decide +kernel
theorem dL_law_547 : decode cL_law 547 = .ok (.if_icmp .eq 5, 3) := by decide +kernel
theorem dL_law_550 : decode cL_law 550 = .ok (.iconst 0, 1) := by decide +kernel
theorem dL_law_551 : decode cL_law 551 = .ok (.ireturn, 1) := by decide +kernel
theorem dL_law_552 : decode cL_law 552 = .ok (.iload 6, 2) := by decide +kernel
theorem dL_law_554 : decode cL_law 554 = .ok (.ifCond .ne 15, 3) := by decide +kernel
theorem dL_law_557 : decode cL_law 557 = .ok (.aload_n 3, 1) := by decide +kernel
theorem dL_law_558 : decode cL_law 558 = .ok (.iconst 0, 1) := by decide +kernel
theorem dL_law_559 : decode cL_law 559 = .ok (.laload, 1) := by decide +kernel
theorem dL_law_560 : decode cL_law 560 = .ok (.iload 7, 2) := by decide +kernel
theorem dL_law_562 : decode cL_law 562 = .ok (.i2l, 1) := by decide +kernel
theorem dL_law_563 : decode cL_law 563 = .ok (.lcmp, 1) := by decide +kernel
theorem dL_law_564 : decode cL_law 564 = .ok (.ifCond .eq 5, 3) := by decide +kernel
theorem dL_law_567 : decode cL_law 567 = .ok (.iconst 0, 1) := by decide +kernel
theorem dL_law_568 : decode cL_law 568 = .ok (.ireturn, 1) := by decide +kernel
theorem dL_law_569 : decode cL_law 569 = .ok (.goto 899, 3) := by decide +kernel
theorem dL_law_572 : decode cL_law 572 = .ok (.aload_n 1, 1) := by decide +kernel
theorem dL_law_573 : decode cL_law 573 = .ok (.invokevirtual 104, 3) := by decide +kernel
theorem dL_law_576 : decode cL_law 576 = .ok (.aload_n 2, 1) := by decide +kernel
theorem dL_law_577 : decode cL_law 577 = .ok (.invokevirtual 107, 3) := by decide +kernel
theorem dL_law_580 : decode cL_law 580 = .ok (.goto 888, 3) := by decide +kernel
theorem dL_law_583 : decode cL_law 583 = .ok (.aload_n 1, 1) := by decide +kernel
theorem dL_law_584 : decode cL_law 584 = .ok (.aload_n 0, 1) := by decide +kernel
theorem dL_law_585 : decode cL_law 585 = .ok (.iload 5, 2) := by decide +kernel
theorem dL_law_587 : decode cL_law 587 = .ok (.iconst 1, 1) := by decide +kernel
theorem dL_law_588 : decode cL_law 588 = .ok (.iadd, 1) := by decide +kernel
theorem dL_law_589 : decode cL_law 589 = .ok (.iaload, 1) := by decide +kernel
theorem dL_law_590 : decode cL_law 590 = .ok (.aload_n 3, 1) := by decide +kernel
theorem dL_law_591 : decode cL_law 591 = .ok (.invokestatic 108, 3) := by decide +kernel
theorem dL_law_594 : decode cL_law 594 = .ok (.istore 6, 2) := by decide +kernel
theorem dL_law_596 : decode cL_law 596 = .ok (.aload_n 2, 1) := by decide +kernel
theorem dL_law_597 : decode cL_law 597 = .ok (.aload_n 0, 1) := by decide +kernel
theorem dL_law_598 : decode cL_law 598 = .ok (.iload 5, 2) := by decide +kernel
theorem dL_law_600 : decode cL_law 600 = .ok (.iconst 1, 1) := by decide +kernel
theorem dL_law_601 : decode cL_law 601 = .ok (.iadd, 1) := by decide +kernel
theorem dL_law_602 : decode cL_law 602 = .ok (.iaload, 1) := by decide +kernel
theorem dL_law_603 : decode cL_law 603 = .ok (.invokevirtual 111, 3) := by decide +kernel
theorem dL_law_606 : decode cL_law 606 = .ok (.istore 7, 2) := by decide +kernel
theorem dL_law_608 : decode cL_law 608 = .ok (.aload_n 2, 1) := by decide +kernel
theorem dL_law_609 : decode cL_law 609 = .ok (.invokevirtual 84, 3) := by decide +kernel
theorem dL_law_612 : decode cL_law 612 = .ok (.iload 6, 2) := by decide +kernel
theorem dL_law_614 : decode cL_law 614 = .ok (.if_icmp .eq 5, 3) := by decide +kernel
theorem dL_law_617 : decode cL_law 617 = .ok (.iconst 0, 1) := by decide +kernel
theorem dL_law_618 : decode cL_law 618 = .ok (.ireturn, 1) := by decide +kernel
theorem dL_law_619 : decode cL_law 619 = .ok (.iload 6, 2) := by decide +kernel
theorem dL_law_621 : decode cL_law 621 = .ok (.ifCond .ne 15, 3) := by decide +kernel
theorem dL_law_624 : decode cL_law 624 = .ok (.aload_n 3, 1) := by decide +kernel
theorem dL_law_625 : decode cL_law 625 = .ok (.iconst 0, 1) := by decide +kernel
theorem dL_law_626 : decode cL_law 626 = .ok (.laload, 1) := by decide +kernel
theorem dL_law_627 : decode cL_law 627 = .ok (.iload 7, 2) := by decide +kernel
theorem dL_law_629 : decode cL_law 629 = .ok (.i2l, 1) := by decide +kernel
theorem dL_law_630 : decode cL_law 630 = .ok (.lcmp, 1) := by decide +kernel
theorem dL_law_631 : decode cL_law 631 = .ok (.ifCond .eq 5, 3) := by decide +kernel
theorem dL_law_634 : decode cL_law 634 = .ok (.iconst 0, 1) := by decide +kernel
theorem dL_law_635 : decode cL_law 635 = .ok (.ireturn, 1) := by decide +kernel
theorem dL_law_636 : decode cL_law 636 = .ok (.goto 832, 3) := by decide +kernel
theorem dL_law_639 : decode cL_law 639 = .ok (.aload_n 1, 1) := by decide +kernel
theorem dL_law_640 : decode cL_law 640 = .ok (.aload_n 0, 1) := by decide +kernel
theorem dL_law_641 : decode cL_law 641 = .ok (.iload 5, 2) := by decide +kernel
theorem dL_law_643 : decode cL_law 643 = .ok (.iconst 1, 1) := by decide +kernel
theorem dL_law_644 : decode cL_law 644 = .ok (.iadd, 1) := by decide +kernel
theorem dL_law_645 : decode cL_law 645 = .ok (.iaload, 1) := by decide +kernel
theorem dL_law_646 : decode cL_law 646 = .ok (.aload_n 0, 1) := by decide +kernel
theorem dL_law_647 : decode cL_law 647 = .ok (.iload 5, 2) := by decide +kernel
theorem dL_law_649 : decode cL_law 649 = .ok (.iconst 2, 1) := by decide +kernel
theorem dL_law_650 : decode cL_law 650 = .ok (.iadd, 1) := by decide +kernel
theorem dL_law_651 : decode cL_law 651 = .ok (.iaload, 1) := by decide +kernel
theorem dL_law_652 : decode cL_law 652 = .ok (.aload_n 3, 1) := by decide +kernel
theorem dL_law_653 : decode cL_law 653 = .ok (.invokestatic 112, 3) := by decide +kernel
theorem dL_law_656 : decode cL_law 656 = .ok (.istore 6, 2) := by decide +kernel
theorem dL_law_658 : decode cL_law 658 = .ok (.aload_n 2, 1) := by decide +kernel
theorem dL_law_659 : decode cL_law 659 = .ok (.aload_n 0, 1) := by decide +kernel
theorem dL_law_660 : decode cL_law 660 = .ok (.iload 5, 2) := by decide +kernel
theorem dL_law_662 : decode cL_law 662 = .ok (.iconst 1, 1) := by decide +kernel
theorem dL_law_663 : decode cL_law 663 = .ok (.iadd, 1) := by decide +kernel
theorem dL_law_664 : decode cL_law 664 = .ok (.iaload, 1) := by decide +kernel
theorem dL_law_665 : decode cL_law 665 = .ok (.aload_n 0, 1) := by decide +kernel
theorem dL_law_666 : decode cL_law 666 = .ok (.iload 5, 2) := by decide +kernel
theorem dL_law_668 : decode cL_law 668 = .ok (.iconst 2, 1) := by decide +kernel
theorem dL_law_669 : decode cL_law 669 = .ok (.iadd, 1) := by decide +kernel
theorem dL_law_670 : decode cL_law 670 = .ok (.iaload, 1) := by decide +kernel
theorem dL_law_671 : decode cL_law 671 = .ok (.invokevirtual 114, 3) := by decide +kernel
theorem dL_law_674 : decode cL_law 674 = .ok (.istore 7, 2) := by decide +kernel
theorem dL_law_676 : decode cL_law 676 = .ok (.aload_n 2, 1) := by decide +kernel
theorem dL_law_677 : decode cL_law 677 = .ok (.invokevirtual 84, 3) := by decide +kernel
theorem dL_law_680 : decode cL_law 680 = .ok (.iload 6, 2) := by decide +kernel
theorem dL_law_682 : decode cL_law 682 = .ok (.if_icmp .eq 5, 3) := by decide +kernel
theorem dL_law_685 : decode cL_law 685 = .ok (.iconst 0, 1) := by decide +kernel
theorem dL_law_686 : decode cL_law 686 = .ok (.ireturn, 1) := by decide +kernel
theorem dL_law_687 : decode cL_law 687 = .ok (.iload 6, 2) := by decide +kernel
theorem dL_law_689 : decode cL_law 689 = .ok (.ifCond .ne 15, 3) := by decide +kernel
theorem dL_law_692 : decode cL_law 692 = .ok (.aload_n 3, 1) := by decide +kernel
theorem dL_law_693 : decode cL_law 693 = .ok (.iconst 0, 1) := by decide +kernel
theorem dL_law_694 : decode cL_law 694 = .ok (.laload, 1) := by decide +kernel
theorem dL_law_695 : decode cL_law 695 = .ok (.iload 7, 2) := by decide +kernel
theorem dL_law_697 : decode cL_law 697 = .ok (.i2l, 1) := by decide +kernel
theorem dL_law_698 : decode cL_law 698 = .ok (.lcmp, 1) := by decide +kernel
theorem dL_law_699 : decode cL_law 699 = .ok (.ifCond .eq 5, 3) := by decide +kernel
theorem dL_law_702 : decode cL_law 702 = .ok (.iconst 0, 1) := by decide +kernel
theorem dL_law_703 : decode cL_law 703 = .ok (.ireturn, 1) := by decide +kernel
theorem dL_law_704 : decode cL_law 704 = .ok (.goto 764, 3) := by decide +kernel
theorem dL_law_707 : decode cL_law 707 = .ok (.aload_n 1, 1) := by decide +kernel
theorem dL_law_708 : decode cL_law 708 = .ok (.aload_n 0, 1) := by decide +kernel
theorem dL_law_709 : decode cL_law 709 = .ok (.iload 5, 2) := by decide +kernel
theorem dL_law_711 : decode cL_law 711 = .ok (.iconst 1, 1) := by decide +kernel
theorem dL_law_712 : decode cL_law 712 = .ok (.iadd, 1) := by decide +kernel
theorem dL_law_713 : decode cL_law 713 = .ok (.iaload, 1) := by decide +kernel
theorem dL_law_714 : decode cL_law 714 = .ok (.i2f, 1) := by decide +kernel
theorem dL_law_715 : decode cL_law 715 = .ok (.ldc 91, 2) := by decide +kernel
theorem dL_law_717 : decode cL_law 717 = .ok (.fmul, 1) := by decide +kernel
theorem dL_law_718 : decode cL_law 718 = .ok (.aload_n 0, 1) := by decide +kernel
theorem dL_law_719 : decode cL_law 719 = .ok (.iload 5, 2) := by decide +kernel
theorem dL_law_721 : decode cL_law 721 = .ok (.iconst 2, 1) := by decide +kernel
theorem dL_law_722 : decode cL_law 722 = .ok (.iadd, 1) := by decide +kernel
theorem dL_law_723 : decode cL_law 723 = .ok (.iaload, 1) := by decide +kernel
theorem dL_law_724 : decode cL_law 724 = .ok (.i2f, 1) := by decide +kernel
theorem dL_law_725 : decode cL_law 725 = .ok (.ldc 91, 2) := by decide +kernel
theorem dL_law_727 : decode cL_law 727 = .ok (.fmul, 1) := by decide +kernel
theorem dL_law_728 : decode cL_law 728 = .ok (.aload_n 0, 1) := by decide +kernel
theorem dL_law_729 : decode cL_law 729 = .ok (.iload 5, 2) := by decide +kernel
theorem dL_law_731 : decode cL_law 731 = .ok (.iconst 3, 1) := by decide +kernel
theorem dL_law_732 : decode cL_law 732 = .ok (.iadd, 1) := by decide +kernel
theorem dL_law_733 : decode cL_law 733 = .ok (.iaload, 1) := by decide +kernel
theorem dL_law_734 : decode cL_law 734 = .ok (.i2f, 1) := by decide +kernel
theorem dL_law_735 : decode cL_law 735 = .ok (.ldc 91, 2) := by decide +kernel
theorem dL_law_737 : decode cL_law 737 = .ok (.fmul, 1) := by decide +kernel
theorem dL_law_738 : decode cL_law 738 = .ok (.aload_n 0, 1) := by decide +kernel
theorem dL_law_739 : decode cL_law 739 = .ok (.iload 5, 2) := by decide +kernel
theorem dL_law_741 : decode cL_law 741 = .ok (.iconst 4, 1) := by decide +kernel
theorem dL_law_742 : decode cL_law 742 = .ok (.iadd, 1) := by decide +kernel
theorem dL_law_743 : decode cL_law 743 = .ok (.iaload, 1) := by decide +kernel
theorem dL_law_744 : decode cL_law 744 = .ok (.i2f, 1) := by decide +kernel
theorem dL_law_745 : decode cL_law 745 = .ok (.ldc 91, 2) := by decide +kernel
theorem dL_law_747 : decode cL_law 747 = .ok (.fmul, 1) := by decide +kernel
theorem dL_law_748 : decode cL_law 748 = .ok (.aload_n 3, 1) := by decide +kernel
theorem dL_law_749 : decode cL_law 749 = .ok (.invokestatic 115, 3) := by decide +kernel
theorem dL_law_752 : decode cL_law 752 = .ok (.istore 6, 2) := by decide +kernel
theorem dL_law_754 : decode cL_law 754 = .ok (.aload_n 2, 1) := by decide +kernel
theorem dL_law_755 : decode cL_law 755 = .ok (.aload_n 0, 1) := by decide +kernel
theorem dL_law_756 : decode cL_law 756 = .ok (.iload 5, 2) := by decide +kernel
theorem dL_law_758 : decode cL_law 758 = .ok (.iconst 1, 1) := by decide +kernel
theorem dL_law_759 : decode cL_law 759 = .ok (.iadd, 1) := by decide +kernel
theorem dL_law_760 : decode cL_law 760 = .ok (.iaload, 1) := by decide +kernel
theorem dL_law_761 : decode cL_law 761 = .ok (.i2f, 1) := by decide +kernel
theorem dL_law_762 : decode cL_law 762 = .ok (.ldc 91, 2) := by decide +kernel
theorem dL_law_764 : decode cL_law 764 = .ok (.fmul, 1) := by decide +kernel
theorem dL_law_765 : decode cL_law 765 = .ok (.aload_n 0, 1) := by decide +kernel
theorem dL_law_766 : decode cL_law 766 = .ok (.iload 5, 2) := by decide +kernel
theorem dL_law_768 : decode cL_law 768 = .ok (.iconst 2, 1) := by decide +kernel
theorem dL_law_769 : decode cL_law 769 = .ok (.iadd, 1) := by decide +kernel
theorem dL_law_770 : decode cL_law 770 = .ok (.iaload, 1) := by decide +kernel
theorem dL_law_771 : decode cL_law 771 = .ok (.i2f, 1) := by decide +kernel
theorem dL_law_772 : decode cL_law 772 = .ok (.ldc 91, 2) := by decide +kernel
theorem dL_law_774 : decode cL_law 774 = .ok (.fmul, 1) := by decide +kernel
theorem dL_law_775 : decode cL_law 775 = .ok (.aload_n 0, 1) := by decide +kernel
theorem dL_law_776 : decode cL_law 776 = .ok (.iload 5, 2) := by decide +kernel
theorem dL_law_778 : decode cL_law 778 = .ok (.iconst 3, 1) := by decide +kernel
theorem dL_law_779 : decode cL_law 779 = .ok (.iadd, 1) := by decide +kernel
theorem dL_law_780 : decode cL_law 780 = .ok (.iaload, 1) := by decide +kernel
theorem dL_law_781 : decode cL_law 781 = .ok (.i2f, 1) := by decide +kernel
theorem dL_law_782 : decode cL_law 782 = .ok (.ldc 91, 2) := by decide +kernel
theorem dL_law_784 : decode cL_law 784 = .ok (.fmul, 1) := by decide +kernel
theorem dL_law_785 : decode cL_law 785 = .ok (.aload_n 0, 1) := by decide +kernel
theorem dL_law_786 : decode cL_law 786 = .ok (.iload 5, 2) := by decide +kernel
theorem dL_law_788 : decode cL_law 788 = .ok (.iconst 4, 1) := by decide +kernel
theorem dL_law_789 : decode cL_law 789 = .ok (.iadd, 1) := by decide +kernel
theorem dL_law_790 : decode cL_law 790 = .ok (.iaload, 1) := by decide +kernel
theorem dL_law_791 : decode cL_law 791 = .ok (.i2f, 1) := by decide +kernel
theorem dL_law_792 : decode cL_law 792 = .ok (.ldc 91, 2) := by decide +kernel
theorem dL_law_794 : decode cL_law 794 = .ok (.fmul, 1) := by decide +kernel
theorem dL_law_795 : decode cL_law 795 = .ok (.invokevirtual 117, 3) := by decide +kernel
theorem dL_law_798 : decode cL_law 798 = .ok (.istore 7, 2) := by decide +kernel
theorem dL_law_800 : decode cL_law 800 = .ok (.aload_n 2, 1) := by decide +kernel
theorem dL_law_801 : decode cL_law 801 = .ok (.invokevirtual 84, 3) := by decide +kernel
theorem dL_law_804 : decode cL_law 804 = .ok (.iload 6, 2) := by decide +kernel
theorem dL_law_806 : decode cL_law 806 = .ok (.if_icmp .eq 5, 3) := by decide +kernel
theorem dL_law_809 : decode cL_law 809 = .ok (.iconst 0, 1) := by decide +kernel
theorem dL_law_810 : decode cL_law 810 = .ok (.ireturn, 1) := by decide +kernel
theorem dL_law_811 : decode cL_law 811 = .ok (.iload 6, 2) := by decide +kernel
theorem dL_law_813 : decode cL_law 813 = .ok (.ifCond .ne 15, 3) := by decide +kernel
theorem dL_law_816 : decode cL_law 816 = .ok (.aload_n 3, 1) := by decide +kernel
theorem dL_law_817 : decode cL_law 817 = .ok (.iconst 0, 1) := by decide +kernel
theorem dL_law_818 : decode cL_law 818 = .ok (.laload, 1) := by decide +kernel
theorem dL_law_819 : decode cL_law 819 = .ok (.iload 7, 2) := by decide +kernel
theorem dL_law_821 : decode cL_law 821 = .ok (.i2l, 1) := by decide +kernel
theorem dL_law_822 : decode cL_law 822 = .ok (.lcmp, 1) := by decide +kernel
theorem dL_law_823 : decode cL_law 823 = .ok (.ifCond .eq 5, 3) := by decide +kernel
theorem dL_law_826 : decode cL_law 826 = .ok (.iconst 0, 1) := by decide +kernel
theorem dL_law_827 : decode cL_law 827 = .ok (.ireturn, 1) := by decide +kernel
theorem dL_law_828 : decode cL_law 828 = .ok (.goto 640, 3) := by decide +kernel
theorem dL_law_831 : decode cL_law 831 = .ok (.aload_n 1, 1) := by decide +kernel
theorem dL_law_832 : decode cL_law 832 = .ok (.aload_n 0, 1) := by decide +kernel
theorem dL_law_833 : decode cL_law 833 = .ok (.iload 5, 2) := by decide +kernel
theorem dL_law_835 : decode cL_law 835 = .ok (.iconst 1, 1) := by decide +kernel
theorem dL_law_836 : decode cL_law 836 = .ok (.iadd, 1) := by decide +kernel
theorem dL_law_837 : decode cL_law 837 = .ok (.iaload, 1) := by decide +kernel
theorem dL_law_838 : decode cL_law 838 = .ok (.aload_n 0, 1) := by decide +kernel
theorem dL_law_839 : decode cL_law 839 = .ok (.iload 5, 2) := by decide +kernel
theorem dL_law_841 : decode cL_law 841 = .ok (.iconst 2, 1) := by decide +kernel
theorem dL_law_842 : decode cL_law 842 = .ok (.iadd, 1) := by decide +kernel
theorem dL_law_843 : decode cL_law 843 = .ok (.iaload, 1) := by decide +kernel
theorem dL_law_844 : decode cL_law 844 = .ok (.aload_n 0, 1) := by decide +kernel
theorem dL_law_845 : decode cL_law 845 = .ok (.iload 5, 2) := by decide +kernel
theorem dL_law_847 : decode cL_law 847 = .ok (.iconst 3, 1) := by decide +kernel
theorem dL_law_848 : decode cL_law 848 = .ok (.iadd, 1) := by decide +kernel
theorem dL_law_849 : decode cL_law 849 = .ok (.iaload, 1) := by decide +kernel
theorem dL_law_850 : decode cL_law 850 = .ok (.aload_n 0, 1) := by decide +kernel
theorem dL_law_851 : decode cL_law 851 = .ok (.iload 5, 2) := by decide +kernel
theorem dL_law_853 : decode cL_law 853 = .ok (.iconst 4, 1) := by decide +kernel
theorem dL_law_854 : decode cL_law 854 = .ok (.iadd, 1) := by decide +kernel
theorem dL_law_855 : decode cL_law 855 = .ok (.iaload, 1) := by decide +kernel
theorem dL_law_856 : decode cL_law 856 = .ok (.aload_n 3, 1) := by decide +kernel
theorem dL_law_857 : decode cL_law 857 = .ok (.invokestatic 118, 3) := by decide +kernel
theorem dL_law_860 : decode cL_law 860 = .ok (.istore 6, 2) := by decide +kernel
theorem dL_law_862 : decode cL_law 862 = .ok (.aload_n 2, 1) := by decide +kernel
theorem dL_law_863 : decode cL_law 863 = .ok (.aload_n 0, 1) := by decide +kernel
theorem dL_law_864 : decode cL_law 864 = .ok (.iload 5, 2) := by decide +kernel
theorem dL_law_866 : decode cL_law 866 = .ok (.iconst 1, 1) := by decide +kernel
theorem dL_law_867 : decode cL_law 867 = .ok (.iadd, 1) := by decide +kernel
theorem dL_law_868 : decode cL_law 868 = .ok (.iaload, 1) := by decide +kernel
theorem dL_law_869 : decode cL_law 869 = .ok (.aload_n 0, 1) := by decide +kernel
theorem dL_law_870 : decode cL_law 870 = .ok (.iload 5, 2) := by decide +kernel
theorem dL_law_872 : decode cL_law 872 = .ok (.iconst 2, 1) := by decide +kernel
theorem dL_law_873 : decode cL_law 873 = .ok (.iadd, 1) := by decide +kernel
theorem dL_law_874 : decode cL_law 874 = .ok (.iaload, 1) := by decide +kernel
theorem dL_law_875 : decode cL_law 875 = .ok (.aload_n 0, 1) := by decide +kernel
theorem dL_law_876 : decode cL_law 876 = .ok (.iload 5, 2) := by decide +kernel
theorem dL_law_878 : decode cL_law 878 = .ok (.iconst 3, 1) := by decide +kernel
theorem dL_law_879 : decode cL_law 879 = .ok (.iadd, 1) := by decide +kernel
theorem dL_law_880 : decode cL_law 880 = .ok (.iaload, 1) := by decide +kernel
theorem dL_law_881 : decode cL_law 881 = .ok (.aload_n 0, 1) := by decide +kernel
theorem dL_law_882 : decode cL_law 882 = .ok (.iload 5, 2) := by decide +kernel
theorem dL_law_884 : decode cL_law 884 = .ok (.iconst 4, 1) := by decide +kernel
theorem dL_law_885 : decode cL_law 885 = .ok (.iadd, 1) := by decide +kernel
theorem dL_law_886 : decode cL_law 886 = .ok (.iaload, 1) := by decide +kernel
theorem dL_law_887 : decode cL_law 887 = .ok (.invokevirtual 121, 3) := by decide +kernel
theorem dL_law_890 : decode cL_law 890 = .ok (.istore 7, 2) := by decide +kernel
theorem dL_law_892 : decode cL_law 892 = .ok (.aload_n 2, 1) := by decide +kernel
theorem dL_law_893 : decode cL_law 893 = .ok (.invokevirtual 84, 3) := by decide +kernel
theorem dL_law_896 : decode cL_law 896 = .ok (.iload 6, 2) := by decide +kernel
theorem dL_law_898 : decode cL_law 898 = .ok (.if_icmp .eq 5, 3) := by decide +kernel
theorem dL_law_901 : decode cL_law 901 = .ok (.iconst 0, 1) := by decide +kernel
theorem dL_law_902 : decode cL_law 902 = .ok (.ireturn, 1) := by decide +kernel
theorem dL_law_903 : decode cL_law 903 = .ok (.iload 6, 2) := by decide +kernel
theorem dL_law_905 : decode cL_law 905 = .ok (.ifCond .ne 15, 3) := by decide +kernel
theorem dL_law_908 : decode cL_law 908 = .ok (.aload_n 3, 1) := by decide +kernel
theorem dL_law_909 : decode cL_law 909 = .ok (.iconst 0, 1) := by decide +kernel
theorem dL_law_910 : decode cL_law 910 = .ok (.laload, 1) := by decide +kernel
theorem dL_law_911 : decode cL_law 911 = .ok (.iload 7, 2) := by decide +kernel
theorem dL_law_913 : decode cL_law 913 = .ok (.i2l, 1) := by decide +kernel
theorem dL_law_914 : decode cL_law 914 = .ok (.lcmp, 1) := by decide +kernel
theorem dL_law_915 : decode cL_law 915 = .ok (.ifCond .eq 5, 3) := by decide +kernel
theorem dL_law_918 : decode cL_law 918 = .ok (.iconst 0, 1) := by decide +kernel
theorem dL_law_919 : decode cL_law 919 = .ok (.ireturn, 1) := by decide +kernel
theorem dL_law_920 : decode cL_law 920 = .ok (.goto 548, 3) := by decide +kernel
theorem dL_law_923 : decode cL_law 923 = .ok (.aload_n 1, 1) := by decide +kernel
theorem dL_law_924 : decode cL_law 924 = .ok (.aload_n 0, 1) := by decide +kernel
theorem dL_law_925 : decode cL_law 925 = .ok (.iload 5, 2) := by decide +kernel
theorem dL_law_927 : decode cL_law 927 = .ok (.iconst 1, 1) := by decide +kernel
theorem dL_law_928 : decode cL_law 928 = .ok (.iadd, 1) := by decide +kernel
theorem dL_law_929 : decode cL_law 929 = .ok (.iaload, 1) := by decide +kernel
theorem dL_law_930 : decode cL_law 930 = .ok (.aload_n 0, 1) := by decide +kernel
theorem dL_law_931 : decode cL_law 931 = .ok (.iload 5, 2) := by decide +kernel
theorem dL_law_933 : decode cL_law 933 = .ok (.iconst 2, 1) := by decide +kernel
theorem dL_law_934 : decode cL_law 934 = .ok (.iadd, 1) := by decide +kernel
theorem dL_law_935 : decode cL_law 935 = .ok (.iaload, 1) := by decide +kernel
theorem dL_law_936 : decode cL_law 936 = .ok (.aload_n 3, 1) := by decide +kernel
theorem dL_law_937 : decode cL_law 937 = .ok (.invokestatic 122, 3) := by decide +kernel
theorem dL_law_940 : decode cL_law 940 = .ok (.istore 6, 2) := by decide +kernel
theorem dL_law_942 : decode cL_law 942 = .ok (.aload_n 2, 1) := by decide +kernel
theorem dL_law_943 : decode cL_law 943 = .ok (.aload_n 0, 1) := by decide +kernel
theorem dL_law_944 : decode cL_law 944 = .ok (.iload 5, 2) := by decide +kernel
theorem dL_law_946 : decode cL_law 946 = .ok (.iconst 1, 1) := by decide +kernel
theorem dL_law_947 : decode cL_law 947 = .ok (.iadd, 1) := by decide +kernel
theorem dL_law_948 : decode cL_law 948 = .ok (.iaload, 1) := by decide +kernel
theorem dL_law_949 : decode cL_law 949 = .ok (.aload_n 0, 1) := by decide +kernel
theorem dL_law_950 : decode cL_law 950 = .ok (.iload 5, 2) := by decide +kernel
theorem dL_law_952 : decode cL_law 952 = .ok (.iconst 2, 1) := by decide +kernel
theorem dL_law_953 : decode cL_law 953 = .ok (.iadd, 1) := by decide +kernel
theorem dL_law_954 : decode cL_law 954 = .ok (.iaload, 1) := by decide +kernel
theorem dL_law_955 : decode cL_law 955 = .ok (.invokevirtual 124, 3) := by decide +kernel
theorem dL_law_958 : decode cL_law 958 = .ok (.istore 7, 2) := by decide +kernel
theorem dL_law_960 : decode cL_law 960 = .ok (.aload_n 2, 1) := by decide +kernel
theorem dL_law_961 : decode cL_law 961 = .ok (.invokevirtual 84, 3) := by decide +kernel
theorem dL_law_964 : decode cL_law 964 = .ok (.iload 6, 2) := by decide +kernel
theorem dL_law_966 : decode cL_law 966 = .ok (.if_icmp .eq 5, 3) := by decide +kernel
theorem dL_law_969 : decode cL_law 969 = .ok (.iconst 0, 1) := by decide +kernel
theorem dL_law_970 : decode cL_law 970 = .ok (.ireturn, 1) := by decide +kernel
theorem dL_law_971 : decode cL_law 971 = .ok (.iload 6, 2) := by decide +kernel
theorem dL_law_973 : decode cL_law 973 = .ok (.ifCond .ne 15, 3) := by decide +kernel
theorem dL_law_976 : decode cL_law 976 = .ok (.aload_n 3, 1) := by decide +kernel
theorem dL_law_977 : decode cL_law 977 = .ok (.iconst 0, 1) := by decide +kernel
theorem dL_law_978 : decode cL_law 978 = .ok (.laload, 1) := by decide +kernel
theorem dL_law_979 : decode cL_law 979 = .ok (.iload 7, 2) := by decide +kernel
theorem dL_law_981 : decode cL_law 981 = .ok (.i2l, 1) := by decide +kernel
theorem dL_law_982 : decode cL_law 982 = .ok (.lcmp, 1) := by decide +kernel
theorem dL_law_983 : decode cL_law 983 = .ok (.ifCond .eq 5, 3) := by decide +kernel
theorem dL_law_986 : decode cL_law 986 = .ok (.iconst 0, 1) := by decide +kernel
theorem dL_law_987 : decode cL_law 987 = .ok (.ireturn, 1) := by decide +kernel
theorem dL_law_988 : decode cL_law 988 = .ok (.goto 480, 3) := by decide +kernel
theorem dL_law_991 : decode cL_law 991 = .ok (.aload_n 1, 1) := by decide +kernel
theorem dL_law_992 : decode cL_law 992 = .ok (.aload_n 0, 1) := by decide +kernel
theorem dL_law_993 : decode cL_law 993 = .ok (.iload 5, 2) := by decide +kernel
theorem dL_law_995 : decode cL_law 995 = .ok (.iconst 1, 1) := by decide +kernel
theorem dL_law_996 : decode cL_law 996 = .ok (.iadd, 1) := by decide +kernel
theorem dL_law_997 : decode cL_law 997 = .ok (.iaload, 1) := by decide +kernel
theorem dL_law_998 : decode cL_law 998 = .ok (.aload_n 0, 1) := by decide +kernel
theorem dL_law_999 : decode cL_law 999 = .ok (.iload 5, 2) := by decide +kernel
theorem dL_law_1001 : decode cL_law 1001 = .ok (.iconst 2, 1) := by decide +kernel
theorem dL_law_1002 : decode cL_law 1002 = .ok (.iadd, 1) := by decide +kernel
theorem dL_law_1003 : decode cL_law 1003 = .ok (.iaload, 1) := by decide +kernel
theorem dL_law_1004 : decode cL_law 1004 = .ok (.aload 4, 2) := by decide +kernel
theorem dL_law_1006 : decode cL_law 1006 = .ok (.invokestatic 125, 3) := by decide +kernel
theorem dL_law_1009 : decode cL_law 1009 = .ok (.istore 6, 2) := by decide +kernel
theorem dL_law_1011 : decode cL_law 1011 = .ok (.aload_n 2, 1) := by decide +kernel
theorem dL_law_1012 : decode cL_law 1012 = .ok (.aload_n 0, 1) := by decide +kernel
theorem dL_law_1013 : decode cL_law 1013 = .ok (.iload 5, 2) := by decide +kernel
theorem dL_law_1015 : decode cL_law 1015 = .ok (.iconst 1, 1) := by decide +kernel
theorem dL_law_1016 : decode cL_law 1016 = .ok (.iadd, 1) := by decide +kernel
theorem dL_law_1017 : decode cL_law 1017 = .ok (.iaload, 1) := by decide +kernel
theorem dL_law_1018 : decode cL_law 1018 = .ok (.aload_n 0, 1) := by decide +kernel
theorem dL_law_1019 : decode cL_law 1019 = .ok (.iload 5, 2) := by decide +kernel
theorem dL_law_1021 : decode cL_law 1021 = .ok (.iconst 2, 1) := by decide +kernel
theorem dL_law_1022 : decode cL_law 1022 = .ok (.iadd, 1) := by decide +kernel
theorem dL_law_1023 : decode cL_law 1023 = .ok (.iaload, 1) := by decide +kernel
theorem dL_law_1024 : decode cL_law 1024 = .ok (.invokevirtual 128, 3) := by decide +kernel
theorem dL_law_1027 : decode cL_law 1027 = .ok (.dstore 7, 2) := by decide +kernel
theorem dL_law_1029 : decode cL_law 1029 = .ok (.aload_n 2, 1) := by decide +kernel
theorem dL_law_1030 : decode cL_law 1030 = .ok (.invokevirtual 84, 3) := by decide +kernel
theorem dL_law_1033 : decode cL_law 1033 = .ok (.iload 6, 2) := by decide +kernel
theorem dL_law_1035 : decode cL_law 1035 = .ok (.if_icmp .eq 5, 3) := by decide +kernel
theorem dL_law_1038 : decode cL_law 1038 = .ok (.iconst 0, 1) := by decide +kernel
theorem dL_law_1039 : decode cL_law 1039 = .ok (.ireturn, 1) := by decide +kernel
theorem dL_law_1040 : decode cL_law 1040 = .ok (.iload 6, 2) := by decide +kernel
theorem dL_law_1042 : decode cL_law 1042 = .ok (.ifCond .ne 35, 3) := by decide +kernel
theorem dL_law_1045 : decode cL_law 1045 = .ok (.aload 4, 2) := by decide +kernel
theorem dL_law_1047 : decode cL_law 1047 = .ok (.iconst 0, 1) := by decide +kernel
theorem dL_law_1048 : decode cL_law 1048 = .ok (.daload, 1) := by decide +kernel
theorem dL_law_1049 : decode cL_law 1049 = .ok (.dload 7, 2) := by decide +kernel
theorem dL_law_1051 : decode cL_law 1051 = .ok (.dcmp .l, 1) := by decide +kernel
theorem dL_law_1052 : decode cL_law 1052 = .ok (.ifCond .eq 25, 3) := by decide +kernel
theorem dL_law_1055 : decode cL_law 1055 = .ok (.aload 4, 2) := by decide +kernel
theorem dL_law_1057 : decode cL_law 1057 = .ok (.iconst 0, 1) := by decide +kernel
theorem dL_law_1058 : decode cL_law 1058 = .ok (.daload, 1) := by decide +kernel
theorem dL_law_1059 : decode cL_law 1059 = .ok (.aload 4, 2) := by decide +kernel
theorem dL_law_1061 : decode cL_law 1061 = .ok (.iconst 0, 1) := by decide +kernel
theorem dL_law_1062 : decode cL_law 1062 = .ok (.daload, 1) := by decide +kernel
theorem dL_law_1063 : decode cL_law 1063 = .ok (.dcmp .l, 1) := by decide +kernel
theorem dL_law_1064 : decode cL_law 1064 = .ok (.ifCond .eq 11, 3) := by decide +kernel
theorem dL_law_1067 : decode cL_law 1067 = .ok (.dload 7, 2) := by decide +kernel
theorem dL_law_1069 : decode cL_law 1069 = .ok (.dload 7, 2) := by decide +kernel
theorem dL_law_1071 : decode cL_law 1071 = .ok (.dcmp .l, 1) := by decide +kernel
theorem dL_law_1072 : decode cL_law 1072 = .ok (.ifCond .ne 5, 3) := by decide +kernel
theorem dL_law_1075 : decode cL_law 1075 = .ok (.iconst 0, 1) := by decide +kernel
theorem dL_law_1076 : decode cL_law 1076 = .ok (.ireturn, 1) := by decide +kernel
theorem dL_law_1077 : decode cL_law 1077 = .ok (.goto 391, 3) := by decide +kernel
theorem dL_law_1080 : decode cL_law 1080 = .ok (.aload_n 1, 1) := by decide +kernel
theorem dL_law_1081 : decode cL_law 1081 = .ok (.aload_n 0, 1) := by decide +kernel
theorem dL_law_1082 : decode cL_law 1082 = .ok (.iload 5, 2) := by decide +kernel
theorem dL_law_1084 : decode cL_law 1084 = .ok (.iconst 1, 1) := by decide +kernel
theorem dL_law_1085 : decode cL_law 1085 = .ok (.iadd, 1) := by decide +kernel
theorem dL_law_1086 : decode cL_law 1086 = .ok (.iaload, 1) := by decide +kernel
theorem dL_law_1087 : decode cL_law 1087 = .ok (.aload_n 0, 1) := by decide +kernel
theorem dL_law_1088 : decode cL_law 1088 = .ok (.iload 5, 2) := by decide +kernel
theorem dL_law_1090 : decode cL_law 1090 = .ok (.iconst 2, 1) := by decide +kernel
theorem dL_law_1091 : decode cL_law 1091 = .ok (.iadd, 1) := by decide +kernel
theorem dL_law_1092 : decode cL_law 1092 = .ok (.iaload, 1) := by decide +kernel
theorem dL_law_1093 : decode cL_law 1093 = .ok (.aload_n 3, 1) := by decide +kernel
theorem dL_law_1094 : decode cL_law 1094 = .ok (.invokestatic 129, 3) := by decide +kernel
theorem dL_law_1097 : decode cL_law 1097 = .ok (.istore 6, 2) := by decide +kernel
theorem dL_law_1099 : decode cL_law 1099 = .ok (.aload_n 2, 1) := by decide +kernel
theorem dL_law_1100 : decode cL_law 1100 = .ok (.aload_n 0, 1) := by decide +kernel
theorem dL_law_1101 : decode cL_law 1101 = .ok (.iload 5, 2) := by decide +kernel
theorem dL_law_1103 : decode cL_law 1103 = .ok (.iconst 1, 1) := by decide +kernel
theorem dL_law_1104 : decode cL_law 1104 = .ok (.iadd, 1) := by decide +kernel
theorem dL_law_1105 : decode cL_law 1105 = .ok (.iaload, 1) := by decide +kernel
theorem dL_law_1106 : decode cL_law 1106 = .ok (.aload_n 0, 1) := by decide +kernel
theorem dL_law_1107 : decode cL_law 1107 = .ok (.iload 5, 2) := by decide +kernel
theorem dL_law_1109 : decode cL_law 1109 = .ok (.iconst 2, 1) := by decide +kernel
theorem dL_law_1110 : decode cL_law 1110 = .ok (.iadd, 1) := by decide +kernel
theorem dL_law_1111 : decode cL_law 1111 = .ok (.iaload, 1) := by decide +kernel
theorem dL_law_1112 : decode cL_law 1112 = .ok (.invokevirtual 131, 3) := by decide +kernel
theorem dL_law_1115 : decode cL_law 1115 = .ok (.istore 7, 2) := by decide +kernel
theorem dL_law_1117 : decode cL_law 1117 = .ok (.aload_n 2, 1) := by decide +kernel
theorem dL_law_1118 : decode cL_law 1118 = .ok (.invokevirtual 84, 3) := by decide +kernel
theorem dL_law_1121 : decode cL_law 1121 = .ok (.iload 6, 2) := by decide +kernel
theorem dL_law_1123 : decode cL_law 1123 = .ok (.if_icmp .eq 5, 3) := by decide +kernel
theorem dL_law_1126 : decode cL_law 1126 = .ok (.iconst 0, 1) := by decide +kernel
theorem dL_law_1127 : decode cL_law 1127 = .ok (.ireturn, 1) := by decide +kernel
theorem dL_law_1128 : decode cL_law 1128 = .ok (.iload 6, 2) := by decide +kernel
theorem dL_law_1130 : decode cL_law 1130 = .ok (.ifCond .ne 15, 3) := by decide +kernel
theorem dL_law_1133 : decode cL_law 1133 = .ok (.aload_n 3, 1) := by decide +kernel
theorem dL_law_1134 : decode cL_law 1134 = .ok (.iconst 0, 1) := by decide +kernel
theorem dL_law_1135 : decode cL_law 1135 = .ok (.laload, 1) := by decide +kernel
theorem dL_law_1136 : decode cL_law 1136 = .ok (.iload 7, 2) := by decide +kernel
theorem dL_law_1138 : decode cL_law 1138 = .ok (.i2l, 1) := by decide +kernel
theorem dL_law_1139 : decode cL_law 1139 = .ok (.lcmp, 1) := by decide +kernel
theorem dL_law_1140 : decode cL_law 1140 = .ok (.ifCond .eq 5, 3) := by decide +kernel
theorem dL_law_1143 : decode cL_law 1143 = .ok (.iconst 0, 1) := by decide +kernel
theorem dL_law_1144 : decode cL_law 1144 = .ok (.ireturn, 1) := by decide +kernel
theorem dL_law_1145 : decode cL_law 1145 = .ok (.goto 323, 3) := by decide +kernel
theorem dL_law_1148 : decode cL_law 1148 = .ok (.aload_n 1, 1) := by decide +kernel
theorem dL_law_1149 : decode cL_law 1149 = .ok (.aload_n 0, 1) := by decide +kernel
theorem dL_law_1150 : decode cL_law 1150 = .ok (.iload 5, 2) := by decide +kernel
theorem dL_law_1152 : decode cL_law 1152 = .ok (.iconst 1, 1) := by decide +kernel
theorem dL_law_1153 : decode cL_law 1153 = .ok (.iadd, 1) := by decide +kernel
theorem dL_law_1154 : decode cL_law 1154 = .ok (.iaload, 1) := by decide +kernel
theorem dL_law_1155 : decode cL_law 1155 = .ok (.aload_n 3, 1) := by decide +kernel
theorem dL_law_1156 : decode cL_law 1156 = .ok (.invokestatic 132, 3) := by decide +kernel
theorem dL_law_1159 : decode cL_law 1159 = .ok (.istore 6, 2) := by decide +kernel
theorem dL_law_1161 : decode cL_law 1161 = .ok (.aload_n 2, 1) := by decide +kernel
theorem dL_law_1162 : decode cL_law 1162 = .ok (.aload_n 0, 1) := by decide +kernel
theorem dL_law_1163 : decode cL_law 1163 = .ok (.iload 5, 2) := by decide +kernel
theorem dL_law_1165 : decode cL_law 1165 = .ok (.iconst 1, 1) := by decide +kernel
theorem dL_law_1166 : decode cL_law 1166 = .ok (.iadd, 1) := by decide +kernel
theorem dL_law_1167 : decode cL_law 1167 = .ok (.iaload, 1) := by decide +kernel
theorem dL_law_1168 : decode cL_law 1168 = .ok (.invokevirtual 134, 3) := by decide +kernel
theorem dL_law_1171 : decode cL_law 1171 = .ok (.istore 7, 2) := by decide +kernel
theorem dL_law_1173 : decode cL_law 1173 = .ok (.aload_n 2, 1) := by decide +kernel
theorem dL_law_1174 : decode cL_law 1174 = .ok (.invokevirtual 84, 3) := by decide +kernel
theorem dL_law_1177 : decode cL_law 1177 = .ok (.iload 6, 2) := by decide +kernel
theorem dL_law_1179 : decode cL_law 1179 = .ok (.if_icmp .eq 5, 3) := by decide +kernel
theorem dL_law_1182 : decode cL_law 1182 = .ok (.iconst 0, 1) := by decide +kernel
theorem dL_law_1183 : decode cL_law 1183 = .ok (.ireturn, 1) := by decide +kernel
theorem dL_law_1184 : decode cL_law 1184 = .ok (.iload 6, 2) := by decide +kernel
theorem dL_law_1186 : decode cL_law 1186 = .ok (.ifCond .ne 15, 3) := by decide +kernel
theorem dL_law_1189 : decode cL_law 1189 = .ok (.aload_n 3, 1) := by decide +kernel
theorem dL_law_1190 : decode cL_law 1190 = .ok (.iconst 0, 1) := by decide +kernel
theorem dL_law_1191 : decode cL_law 1191 = .ok (.laload, 1) := by decide +kernel
theorem dL_law_1192 : decode cL_law 1192 = .ok (.iload 7, 2) := by decide +kernel
theorem dL_law_1194 : decode cL_law 1194 = .ok (.i2l, 1) := by decide +kernel
theorem dL_law_1195 : decode cL_law 1195 = .ok (.lcmp, 1) := by decide +kernel
theorem dL_law_1196 : decode cL_law 1196 = .ok (.ifCond .eq 5, 3) := by decide +kernel
theorem dL_law_1199 : decode cL_law 1199 = .ok (.iconst 0, 1) := by decide +kernel
theorem dL_law_1200 : decode cL_law 1200 = .ok (.ireturn, 1) := by decide +kernel
theorem dL_law_1201 : decode cL_law 1201 = .ok (.goto 267, 3) := by decide +kernel
theorem dL_law_1204 : decode cL_law 1204 = .ok (.aload_n 1, 1) := by decide +kernel
theorem dL_law_1205 : decode cL_law 1205 = .ok (.aload_n 0, 1) := by decide +kernel
theorem dL_law_1206 : decode cL_law 1206 = .ok (.iload 5, 2) := by decide +kernel
theorem dL_law_1208 : decode cL_law 1208 = .ok (.iconst 1, 1) := by decide +kernel
theorem dL_law_1209 : decode cL_law 1209 = .ok (.iadd, 1) := by decide +kernel
theorem dL_law_1210 : decode cL_law 1210 = .ok (.iaload, 1) := by decide +kernel
theorem dL_law_1211 : decode cL_law 1211 = .ok (.aload_n 3, 1) := by decide +kernel
theorem dL_law_1212 : decode cL_law 1212 = .ok (.invokestatic 135, 3) := by decide +kernel
theorem dL_law_1215 : decode cL_law 1215 = .ok (.istore 6, 2) := by decide +kernel
theorem dL_law_1217 : decode cL_law 1217 = .ok (.aload_n 2, 1) := by decide +kernel
theorem dL_law_1218 : decode cL_law 1218 = .ok (.aload_n 0, 1) := by decide +kernel
theorem dL_law_1219 : decode cL_law 1219 = .ok (.iload 5, 2) := by decide +kernel
theorem dL_law_1221 : decode cL_law 1221 = .ok (.iconst 1, 1) := by decide +kernel
theorem dL_law_1222 : decode cL_law 1222 = .ok (.iadd, 1) := by decide +kernel
theorem dL_law_1223 : decode cL_law 1223 = .ok (.iaload, 1) := by decide +kernel
theorem dL_law_1224 : decode cL_law 1224 = .ok (.invokevirtual 137, 3) := by decide +kernel
theorem dL_law_1227 : decode cL_law 1227 = .ok (.istore 7, 2) := by decide +kernel
theorem dL_law_1229 : decode cL_law 1229 = .ok (.aload_n 2, 1) := by decide +kernel
theorem dL_law_1230 : decode cL_law 1230 = .ok (.invokevirtual 84, 3) := by decide +kernel
theorem dL_law_1233 : decode cL_law 1233 = .ok (.iload 6, 2) := by decide +kernel
theorem dL_law_1235 : decode cL_law 1235 = .ok (.if_icmp .eq 5, 3) := by decide +kernel
theorem dL_law_1238 : decode cL_law 1238 = .ok (.iconst 0, 1) := by decide +kernel
theorem dL_law_1239 : decode cL_law 1239 = .ok (.ireturn, 1) := by decide +kernel
theorem dL_law_1240 : decode cL_law 1240 = .ok (.iload 6, 2) := by decide +kernel
theorem dL_law_1242 : decode cL_law 1242 = .ok (.ifCond .ne 15, 3) := by decide +kernel
theorem dL_law_1245 : decode cL_law 1245 = .ok (.aload_n 3, 1) := by decide +kernel
theorem dL_law_1246 : decode cL_law 1246 = .ok (.iconst 0, 1) := by decide +kernel
theorem dL_law_1247 : decode cL_law 1247 = .ok (.laload, 1) := by decide +kernel
theorem dL_law_1248 : decode cL_law 1248 = .ok (.iload 7, 2) := by decide +kernel
theorem dL_law_1250 : decode cL_law 1250 = .ok (.i2l, 1) := by decide +kernel
theorem dL_law_1251 : decode cL_law 1251 = .ok (.lcmp, 1) := by decide +kernel
theorem dL_law_1252 : decode cL_law 1252 = .ok (.ifCond .eq 5, 3) := by decide +kernel
theorem dL_law_1255 : decode cL_law 1255 = .ok (.iconst 0, 1) := by decide +kernel
theorem dL_law_1256 : decode cL_law 1256 = .ok (.ireturn, 1) := by decide +kernel
theorem dL_law_1257 : decode cL_law 1257 = .ok (.goto 211, 3) := by decide +kernel
theorem dL_law_1260 : decode cL_law 1260 = .ok (.aload_n 1, 1) := by decide +kernel
theorem dL_law_1261 : decode cL_law 1261 = .ok (.aload_n 0, 1) := by decide +kernel
theorem dL_law_1262 : decode cL_law 1262 = .ok (.iload 5, 2) := by decide +kernel
theorem dL_law_1264 : decode cL_law 1264 = .ok (.iconst 1, 1) := by decide +kernel
theorem dL_law_1265 : decode cL_law 1265 = .ok (.iadd, 1) := by decide +kernel
theorem dL_law_1266 : decode cL_law 1266 = .ok (.iaload, 1) := by decide +kernel
theorem dL_law_1267 : decode cL_law 1267 = .ok (.aload 4, 2) := by decide +kernel
theorem dL_law_1269 : decode cL_law 1269 = .ok (.invokestatic 138, 3) := by decide +kernel
theorem dL_law_1272 : decode cL_law 1272 = .ok (.istore 6, 2) := by decide +kernel
theorem dL_law_1274 : decode cL_law 1274 = .ok (.aload_n 2, 1) := by decide +kernel
theorem dL_law_1275 : decode cL_law 1275 = .ok (.aload_n 0, 1) := by decide +kernel
theorem dL_law_1276 : decode cL_law 1276 = .ok (.iload 5, 2) := by decide +kernel
theorem dL_law_1278 : decode cL_law 1278 = .ok (.iconst 1, 1) := by decide +kernel
theorem dL_law_1279 : decode cL_law 1279 = .ok (.iadd, 1) := by decide +kernel
theorem dL_law_1280 : decode cL_law 1280 = .ok (.iaload, 1) := by decide +kernel
theorem dL_law_1281 : decode cL_law 1281 = .ok (.invokevirtual 141, 3) := by decide +kernel
theorem dL_law_1284 : decode cL_law 1284 = .ok (.dstore 7, 2) := by decide +kernel
theorem dL_law_1286 : decode cL_law 1286 = .ok (.aload_n 2, 1) := by decide +kernel
theorem dL_law_1287 : decode cL_law 1287 = .ok (.invokevirtual 84, 3) := by decide +kernel
theorem dL_law_1290 : decode cL_law 1290 = .ok (.iload 6, 2) := by decide +kernel
theorem dL_law_1292 : decode cL_law 1292 = .ok (.if_icmp .eq 5, 3) := by decide +kernel
theorem dL_law_1295 : decode cL_law 1295 = .ok (.iconst 0, 1) := by decide +kernel
theorem dL_law_1296 : decode cL_law 1296 = .ok (.ireturn, 1) := by decide +kernel
theorem dL_law_1297 : decode cL_law 1297 = .ok (.iload 6, 2) := by decide +kernel
theorem dL_law_1299 : decode cL_law 1299 = .ok (.ifCond .ne 35, 3) := by decide +kernel
theorem dL_law_1302 : decode cL_law 1302 = .ok (.aload 4, 2) := by decide +kernel
theorem dL_law_1304 : decode cL_law 1304 = .ok (.iconst 0, 1) := by decide +kernel
theorem dL_law_1305 : decode cL_law 1305 = .ok (.daload, 1) := by decide +kernel
theorem dL_law_1306 : decode cL_law 1306 = .ok (.dload 7, 2) := by decide +kernel
theorem dL_law_1308 : decode cL_law 1308 = .ok (.dcmp .l, 1) := by decide +kernel
theorem dL_law_1309 : decode cL_law 1309 = .ok (.ifCond .eq 25, 3) := by decide +kernel
theorem dL_law_1312 : decode cL_law 1312 = .ok (.aload 4, 2) := by decide +kernel
theorem dL_law_1314 : decode cL_law 1314 = .ok (.iconst 0, 1) := by decide +kernel
theorem dL_law_1315 : decode cL_law 1315 = .ok (.daload, 1) := by decide +kernel
theorem dL_law_1316 : decode cL_law 1316 = .ok (.aload 4, 2) := by decide +kernel
theorem dL_law_1318 : decode cL_law 1318 = .ok (.iconst 0, 1) := by decide +kernel
theorem dL_law_1319 : decode cL_law 1319 = .ok (.daload, 1) := by decide +kernel
theorem dL_law_1320 : decode cL_law 1320 = .ok (.dcmp .l, 1) := by decide +kernel
theorem dL_law_1321 : decode cL_law 1321 = .ok (.ifCond .eq 11, 3) := by decide +kernel
theorem dL_law_1324 : decode cL_law 1324 = .ok (.dload 7, 2) := by decide +kernel
theorem dL_law_1326 : decode cL_law 1326 = .ok (.dload 7, 2) := by decide +kernel
theorem dL_law_1328 : decode cL_law 1328 = .ok (.dcmp .l, 1) := by decide +kernel
theorem dL_law_1329 : decode cL_law 1329 = .ok (.ifCond .ne 5, 3) := by decide +kernel
theorem dL_law_1332 : decode cL_law 1332 = .ok (.iconst 0, 1) := by decide +kernel
theorem dL_law_1333 : decode cL_law 1333 = .ok (.ireturn, 1) := by decide +kernel
theorem dL_law_1334 : decode cL_law 1334 = .ok (.goto 134, 3) := by decide +kernel
theorem dL_law_1337 : decode cL_law 1337 = .ok (.aload_n 1, 1) := by decide +kernel
theorem dL_law_1338 : decode cL_law 1338 = .ok (.aload_n 0, 1) := by decide +kernel
theorem dL_law_1339 : decode cL_law 1339 = .ok (.iload 5, 2) := by decide +kernel
theorem dL_law_1341 : decode cL_law 1341 = .ok (.iconst 1, 1) := by decide +kernel
theorem dL_law_1342 : decode cL_law 1342 = .ok (.iadd, 1) := by decide +kernel
theorem dL_law_1343 : decode cL_law 1343 = .ok (.iaload, 1) := by decide +kernel
theorem dL_law_1344 : decode cL_law 1344 = .ok (.i2d, 1) := by decide +kernel
theorem dL_law_1345 : decode cL_law 1345 = .ok (.ldc2_w 142, 3) := by decide +kernel
theorem dL_law_1348 : decode cL_law 1348 = .ok (.dmul, 1) := by decide +kernel
theorem dL_law_1349 : decode cL_law 1349 = .ok (.invokevirtual 144, 3) := by decide +kernel
theorem dL_law_1352 : decode cL_law 1352 = .ok (.dstore 6, 2) := by decide +kernel
theorem dL_law_1354 : decode cL_law 1354 = .ok (.aload_n 2, 1) := by decide +kernel
theorem dL_law_1355 : decode cL_law 1355 = .ok (.aload_n 0, 1) := by decide +kernel
theorem dL_law_1356 : decode cL_law 1356 = .ok (.iload 5, 2) := by decide +kernel
theorem dL_law_1358 : decode cL_law 1358 = .ok (.iconst 1, 1) := by decide +kernel
theorem dL_law_1359 : decode cL_law 1359 = .ok (.iadd, 1) := by decide +kernel
theorem dL_law_1360 : decode cL_law 1360 = .ok (.iaload, 1) := by decide +kernel
theorem dL_law_1361 : decode cL_law 1361 = .ok (.i2d, 1) := by decide +kernel
theorem dL_law_1362 : decode cL_law 1362 = .ok (.ldc2_w 142, 3) := by decide +kernel
theorem dL_law_1365 : decode cL_law 1365 = .ok (.dmul, 1) := by decide +kernel
theorem dL_law_1366 : decode cL_law 1366 = .ok (.invokevirtual 148, 3) := by decide +kernel
theorem dL_law_1369 : decode cL_law 1369 = .ok (.dstore 8, 2) := by decide +kernel
theorem dL_law_1371 : decode cL_law 1371 = .ok (.dload 6, 2) := by decide +kernel
theorem dL_law_1373 : decode cL_law 1373 = .ok (.dload 8, 2) := by decide +kernel
theorem dL_law_1375 : decode cL_law 1375 = .ok (.dcmp .l, 1) := by decide +kernel
theorem dL_law_1376 : decode cL_law 1376 = .ok (.ifCond .eq 21, 3) := by decide +kernel
theorem dL_law_1379 : decode cL_law 1379 = .ok (.dload 6, 2) := by decide +kernel
theorem dL_law_1381 : decode cL_law 1381 = .ok (.dload 6, 2) := by decide +kernel
theorem dL_law_1383 : decode cL_law 1383 = .ok (.dcmp .l, 1) := by decide +kernel
theorem dL_law_1384 : decode cL_law 1384 = .ok (.ifCond .eq 11, 3) := by decide +kernel
theorem dL_law_1387 : decode cL_law 1387 = .ok (.dload 8, 2) := by decide +kernel
theorem dL_law_1389 : decode cL_law 1389 = .ok (.dload 8, 2) := by decide +kernel
theorem dL_law_1391 : decode cL_law 1391 = .ok (.dcmp .l, 1) := by decide +kernel
theorem dL_law_1392 : decode cL_law 1392 = .ok (.ifCond .ne 5, 3) := by decide +kernel
theorem dL_law_1395 : decode cL_law 1395 = .ok (.iconst 0, 1) := by decide +kernel
theorem dL_law_1396 : decode cL_law 1396 = .ok (.ireturn, 1) := by decide +kernel
theorem dL_law_1397 : decode cL_law 1397 = .ok (.goto 71, 3) := by decide +kernel
theorem dL_law_1400 : decode cL_law 1400 = .ok (.aload_n 1, 1) := by decide +kernel
theorem dL_law_1401 : decode cL_law 1401 = .ok (.aload_n 0, 1) := by decide +kernel
theorem dL_law_1402 : decode cL_law 1402 = .ok (.iload 5, 2) := by decide +kernel
theorem dL_law_1404 : decode cL_law 1404 = .ok (.iconst 1, 1) := by decide +kernel
theorem dL_law_1405 : decode cL_law 1405 = .ok (.iadd, 1) := by decide +kernel
theorem dL_law_1406 : decode cL_law 1406 = .ok (.iaload, 1) := by decide +kernel
theorem dL_law_1407 : decode cL_law 1407 = .ok (.aload_n 0, 1) := by decide +kernel
theorem dL_law_1408 : decode cL_law 1408 = .ok (.iload 5, 2) := by decide +kernel
theorem dL_law_1410 : decode cL_law 1410 = .ok (.iconst 2, 1) := by decide +kernel
theorem dL_law_1411 : decode cL_law 1411 = .ok (.iadd, 1) := by decide +kernel
theorem dL_law_1412 : decode cL_law 1412 = .ok (.iaload, 1) := by decide +kernel
theorem dL_law_1413 : decode cL_law 1413 = .ok (.aload_n 3, 1) := by decide +kernel
theorem dL_law_1414 : decode cL_law 1414 = .ok (.invokestatic 149, 3) := by decide +kernel
theorem dL_law_1417 : decode cL_law 1417 = .ok (.istore 6, 2) := by decide +kernel
theorem dL_law_1419 : decode cL_law 1419 = .ok (.aload_n 2, 1) := by decide +kernel
theorem dL_law_1420 : decode cL_law 1420 = .ok (.aload_n 0, 1) := by decide +kernel
theorem dL_law_1421 : decode cL_law 1421 = .ok (.iload 5, 2) := by decide +kernel
theorem dL_law_1423 : decode cL_law 1423 = .ok (.iconst 1, 1) := by decide +kernel
theorem dL_law_1424 : decode cL_law 1424 = .ok (.iadd, 1) := by decide +kernel
theorem dL_law_1425 : decode cL_law 1425 = .ok (.iaload, 1) := by decide +kernel
theorem dL_law_1426 : decode cL_law 1426 = .ok (.aload_n 0, 1) := by decide +kernel
theorem dL_law_1427 : decode cL_law 1427 = .ok (.iload 5, 2) := by decide +kernel
theorem dL_law_1429 : decode cL_law 1429 = .ok (.iconst 2, 1) := by decide +kernel
theorem dL_law_1430 : decode cL_law 1430 = .ok (.iadd, 1) := by decide +kernel
theorem dL_law_1431 : decode cL_law 1431 = .ok (.iaload, 1) := by decide +kernel
theorem dL_law_1432 : decode cL_law 1432 = .ok (.invokevirtual 151, 3) := by decide +kernel
theorem dL_law_1435 : decode cL_law 1435 = .ok (.istore 7, 2) := by decide +kernel
theorem dL_law_1437 : decode cL_law 1437 = .ok (.aload_n 2, 1) := by decide +kernel
theorem dL_law_1438 : decode cL_law 1438 = .ok (.invokevirtual 84, 3) := by decide +kernel
theorem dL_law_1441 : decode cL_law 1441 = .ok (.iload 6, 2) := by decide +kernel
theorem dL_law_1443 : decode cL_law 1443 = .ok (.if_icmp .eq 5, 3) := by decide +kernel
theorem dL_law_1446 : decode cL_law 1446 = .ok (.iconst 0, 1) := by decide +kernel
theorem dL_law_1447 : decode cL_law 1447 = .ok (.ireturn, 1) := by decide +kernel
theorem dL_law_1448 : decode cL_law 1448 = .ok (.iload 6, 2) := by decide +kernel
theorem dL_law_1450 : decode cL_law 1450 = .ok (.ifCond .ne 15, 3) := by decide +kernel
theorem dL_law_1453 : decode cL_law 1453 = .ok (.aload_n 3, 1) := by decide +kernel
theorem dL_law_1454 : decode cL_law 1454 = .ok (.iconst 0, 1) := by decide +kernel
theorem dL_law_1455 : decode cL_law 1455 = .ok (.laload, 1) := by decide +kernel
theorem dL_law_1456 : decode cL_law 1456 = .ok (.iload 7, 2) := by decide +kernel
theorem dL_law_1458 : decode cL_law 1458 = .ok (.i2l, 1) := by decide +kernel
theorem dL_law_1459 : decode cL_law 1459 = .ok (.lcmp, 1) := by decide +kernel
theorem dL_law_1460 : decode cL_law 1460 = .ok (.ifCond .eq 5, 3) := by decide +kernel
theorem dL_law_1463 : decode cL_law 1463 = .ok (.iconst 0, 1) := by decide +kernel
theorem dL_law_1464 : decode cL_law 1464 = .ok (.ireturn, 1) := by decide +kernel
theorem dL_law_1465 : decode cL_law 1465 = .ok (.goto 3, 3) := by decide +kernel
theorem dL_law_1468 : decode cL_law 1468 = .ok (.iinc 5 6, 3) := by decide +kernel
theorem dL_law_1471 : decode cL_law 1471 = .ok (.goto (-1443), 3) := by decide +kernel
theorem dL_law_1474 : decode cL_law 1474 = .ok (.iconst 1, 1) := by decide +kernel
theorem dL_law_1475 : decode cL_law 1475 = .ok (.ireturn, 1) := by decide +kernel
