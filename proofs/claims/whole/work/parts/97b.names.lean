theorem dX1_step_314 : decode cX1_step 314 = .ok (.getfield 11, 3) := by decide +kernel
theorem dX1_step_317 : decode cX1_step 317 = .ok (.iload 6, 2) := by decide +kernel
theorem dX1_step_319 : decode cX1_step 319 = .ok (.invokevirtual 161, 3) := by decide +kernel
theorem dX1_step_322 : decode cX1_step 322 = .ok (.invokevirtual 226, 3) := by decide +kernel
theorem dX1_step_325 : decode cX1_step 325 = .ok (.ireturn, 1) := by decide +kernel
theorem dX1_step_326 : decode cX1_step 326 = .ok (.aload_n 0, 1) := by decide +kernel
theorem dX1_step_327 : decode cX1_step 327 = .ok (.aload_n 1, 1) := by decide +kernel
theorem dX1_step_328 : decode cX1_step 328 = .ok (.aload_n 0, 1) := by decide +kernel
theorem dX1_step_329 : decode cX1_step 329 = .ok (.getfield 11, 3) := by decide +kernel
theorem dX1_step_332 : decode cX1_step 332 = .ok (.iload 6, 2) := by decide +kernel
theorem dX1_step_334 : decode cX1_step 334 = .ok (.invokevirtual 161, 3) := by decide +kernel
theorem dX1_step_337 : decode cX1_step 337 = .ok (.invokevirtual 230, 3) := by decide +kernel
theorem dX1_step_340 : decode cX1_step 340 = .ok (.ireturn, 1) := by decide +kernel
theorem dX1_step_341 : decode cX1_step 341 = .ok (.aload_n 0, 1) := by decide +kernel
theorem dX1_step_342 : decode cX1_step 342 = .ok (.aload_n 1, 1) := by decide +kernel
theorem dX1_step_343 : decode cX1_step 343 = .ok (.iload 4, 2) := by decide +kernel
theorem dX1_step_345 : decode cX1_step 345 = .ok (.invokevirtual 233, 3) := by decide +kernel
theorem dX1_step_348 : decode cX1_step 348 = .ok (.ireturn, 1) := by decide +kernel
theorem dX1_step_349 : decode cX1_step 349 = .ok (.aload_n 0, 1) := by decide +kernel
theorem dX1_step_350 : decode cX1_step 350 = .ok (.aload_n 1, 1) := by decide +kernel
theorem dX1_step_351 : decode cX1_step 351 = .ok (.invokevirtual 236, 3) := by decide +kernel
theorem dX1_step_354 : decode cX1_step 354 = .ok (.ireturn, 1) := by decide +kernel
theorem dX1_step_355 : decode cX1_step 355 = .ok (.aload_n 1, 1) := by decide +kernel
theorem dX1_step_356 : decode cX1_step 356 = .ok (.invokestatic 239, 3) := by decide +kernel
theorem dX1_step_359 : decode cX1_step 359 = .ok (.ireturn, 1) := by decide +kernel
theorem dX1_step_360 : decode cX1_step 360 = .ok (.aload_n 1, 1) := by decide +kernel
theorem dX1_step_361 : decode cX1_step 361 = .ok (.iload 6, 2) := by decide +kernel
theorem dX1_step_363 : decode cX1_step 363 = .ok (.invokestatic 242, 3) := by decide +kernel
theorem dX1_step_366 : decode cX1_step 366 = .ok (.ireturn, 1) := by decide +kernel
theorem dX1_step_367 : decode cX1_step 367 = .ok (.aload_n 0, 1) := by decide +kernel
theorem dX1_step_368 : decode cX1_step 368 = .ok (.aload_n 1, 1) := by decide +kernel
theorem dX1_step_369 : decode cX1_step 369 = .ok (.iload 6, 2) := by decide +kernel
theorem dX1_step_371 : decode cX1_step 371 = .ok (.invokevirtual 245, 3) := by decide +kernel
theorem dX1_step_374 : decode cX1_step 374 = .ok (.ireturn, 1) := by decide +kernel
theorem dX1_step_375 : decode cX1_step 375 = .ok (.aload_n 1, 1) := by decide +kernel
theorem dX1_step_376 : decode cX1_step 376 = .ok (.iconst 5, 1) := by decide +kernel
theorem dX1_step_377 : decode cX1_step 377 = .ok (.iload 6, 2) := by decide +kernel
theorem dX1_step_379 : decode cX1_step 379 = .ok (.invokestatic 190, 3) := by decide +kernel
theorem dX1_step_382 : decode cX1_step 382 = .ok (.invokestatic 194, 3) := by decide +kernel
theorem dX1_step_385 : decode cX1_step 385 = .ok (.ireturn, 1) := by decide +kernel
theorem dX1_step_386 : decode cX1_step 386 = .ok (.aload_n 1, 1) := by decide +kernel
theorem dX1_step_387 : decode cX1_step 387 = .ok (.invokestatic 248, 3) := by decide +kernel
theorem dX1_step_390 : decode cX1_step 390 = .ok (.ireturn, 1) := by decide +kernel
theorem dX1_step_391 : decode cX1_step 391 = .ok (.aload_n 0, 1) := by decide +kernel
theorem dX1_step_392 : decode cX1_step 392 = .ok (.aload_n 1, 1) := by decide +kernel
theorem dX1_step_393 : decode cX1_step 393 = .ok (.invokevirtual 251, 3) := by decide +kernel
theorem dX1_step_396 : decode cX1_step 396 = .ok (.ireturn, 1) := by decide +kernel
theorem dX1_step_397 : decode cX1_step 397 = .ok (.aload_n 0, 1) := by decide +kernel
theorem dX1_step_398 : decode cX1_step 398 = .ok (.aload_n 1, 1) := by decide +kernel
theorem dX1_step_399 : decode cX1_step 399 = .ok (.invokevirtual 254, 3) := by decide +kernel
theorem dX1_step_402 : decode cX1_step 402 = .ok (.ireturn, 1) := by decide +kernel
theorem dX1_step_403 : decode cX1_step 403 = .ok (.aload_n 0, 1) := by decide +kernel
theorem dX1_step_404 : decode cX1_step 404 = .ok (.aload_n 1, 1) := by decide +kernel
theorem dX1_step_405 : decode cX1_step 405 = .ok (.invokevirtual 257, 3) := by decide +kernel
theorem dX1_step_408 : decode cX1_step 408 = .ok (.ireturn, 1) := by decide +kernel
theorem dX1_step_409 : decode cX1_step 409 = .ok (.aload_n 0, 1) := by decide +kernel
theorem dX1_step_410 : decode cX1_step 410 = .ok (.aload_n 1, 1) := by decide +kernel
theorem dX1_step_411 : decode cX1_step 411 = .ok (.invokevirtual 260, 3) := by decide +kernel
theorem dX1_step_414 : decode cX1_step 414 = .ok (.ireturn, 1) := by decide +kernel
theorem dX1_step_415 : decode cX1_step 415 = .ok (.aload_n 0, 1) := by decide +kernel
theorem dX1_step_416 : decode cX1_step 416 = .ok (.aload_n 1, 1) := by decide +kernel
theorem dX1_step_417 : decode cX1_step 417 = .ok (.iload 6, 2) := by decide +kernel
theorem dX1_step_419 : decode cX1_step 419 = .ok (.iconst 1, 1) := by decide +kernel
theorem dX1_step_420 : decode cX1_step 420 = .ok (.invokevirtual 263, 3) := by decide +kernel
theorem dX1_step_423 : decode cX1_step 423 = .ok (.ireturn, 1) := by decide +kernel
theorem dX1_step_424 : decode cX1_step 424 = .ok (.aload_n 0, 1) := by decide +kernel
theorem dX1_step_425 : decode cX1_step 425 = .ok (.aload_n 1, 1) := by decide +kernel
theorem dX1_step_426 : decode cX1_step 426 = .ok (.iload 6, 2) := by decide +kernel
theorem dX1_step_428 : decode cX1_step 428 = .ok (.iconst 0, 1) := by decide +kernel
theorem dX1_step_429 : decode cX1_step 429 = .ok (.invokevirtual 263, 3) := by decide +kernel
theorem dX1_step_432 : decode cX1_step 432 = .ok (.ireturn, 1) := by decide +kernel
theorem dX1_step_433 : decode cX1_step 433 = .ok (.aload_n 1, 1) := by decide +kernel
theorem dX1_step_434 : decode cX1_step 434 = .ok (.iconst 4, 1) := by decide +kernel
theorem dX1_step_435 : decode cX1_step 435 = .ok (.aload_n 0, 1) := by decide +kernel
theorem dX1_step_436 : decode cX1_step 436 = .ok (.getfield 95, 3) := by decide +kernel
theorem dX1_step_439 : decode cX1_step 439 = .ok (.ifCond .eq 10, 3) := by decide +kernel
theorem dX1_step_442 : decode cX1_step 442 = .ok (.aload_n 1, 1) := by decide +kernel
theorem dX1_step_443 : decode cX1_step 443 = .ok (.invokevirtual 267, 3) := by decide +kernel
theorem dX1_step_446 : decode cX1_step 446 = .ok (.goto 7, 3) := by decide +kernel
theorem dX1_step_449 : decode cX1_step 449 = .ok (.aload_n 1, 1) := by decide +kernel
theorem dX1_step_450 : decode cX1_step 450 = .ok (.invokevirtual 270, 3) := by decide +kernel
theorem dX1_step_453 : decode cX1_step 453 = .ok (.invokestatic 190, 3) := by decide +kernel
theorem dX1_step_456 : decode cX1_step 456 = .ok (.invokestatic 194, 3) := by decide +kernel
theorem dX1_step_459 : decode cX1_step 459 = .ok (.ireturn, 1) := by decide +kernel
theorem dX1_step_460 : decode cX1_step 460 = .ok (.aload_n 0, 1) := by decide +kernel
theorem dX1_step_461 : decode cX1_step 461 = .ok (.aload_n 1, 1) := by decide +kernel
theorem dX1_step_462 : decode cX1_step 462 = .ok (.invokevirtual 273, 3) := by decide +kernel
theorem dX1_step_465 : decode cX1_step 465 = .ok (.ireturn, 1) := by decide +kernel
theorem dX1_push_0 : decode cX1_push 0 = .ok (.aload_n 0, 1) := by decide +kernel
theorem dX1_push_1 : decode cX1_push 1 = .ok (.getfield 200, 3) := by decide +kernel
theorem dX1_push_4 : decode cX1_push 4 = .ok (.lload_n 1, 1) := by decide +kernel
theorem dX1_push_5 : decode cX1_push 5 = .ok (.invokevirtual 276, 3) := by decide +kernel
theorem dX1_push_8 : decode cX1_push 8 = .ok (.iconst 0, 1) := by decide +kernel
theorem dX1_push_9 : decode cX1_push 9 = .ok (.ireturn, 1) := by decide +kernel
theorem dX1_put_0 : decode cX1_put 0 = .ok (.aload_n 0, 1) := by decide +kernel
theorem dX1_put_1 : decode cX1_put 1 = .ok (.getfield 200, 3) := by decide +kernel
theorem dX1_put_4 : decode cX1_put 4 = .ok (.aload_n 0, 1) := by decide +kernel
theorem dX1_put_5 : decode cX1_put 5 = .ok (.invokevirtual 203, 3) := by decide +kernel
theorem dX1_put_8 : decode cX1_put 8 = .ok (.iload_n 1, 1) := by decide +kernel
theorem dX1_put_9 : decode cX1_put 9 = .ok (.iadd, 1) := by decide +kernel
theorem dX1_put_10 : decode cX1_put 10 = .ok (.aload_n 0, 1) := by decide +kernel
theorem dX1_put_11 : decode cX1_put 11 = .ok (.getfield 200, 3) := by decide +kernel
theorem dX1_put_14 : decode cX1_put 14 = .ok (.invokevirtual 280, 3) := by decide +kernel
theorem dX1_put_17 : decode cX1_put 17 = .ok (.invokevirtual 284, 3) := by decide +kernel
theorem dX1_put_20 : decode cX1_put 20 = .ok (.iconst 0, 1) := by decide +kernel
theorem dX1_put_21 : decode cX1_put 21 = .ok (.ireturn, 1) := by decide +kernel
theorem dX1_drop_0 : decode cX1_drop 0 = .ok (.aload_n 0, 1) := by decide +kernel
theorem dX1_drop_1 : decode cX1_drop 1 = .ok (.getfield 200, 3) := by decide +kernel
theorem dX1_drop_4 : decode cX1_drop 4 = .ok (.invokevirtual 280, 3) := by decide +kernel
theorem dX1_drop_7 : decode cX1_drop 7 = .ok (.pop2, 1) := by decide +kernel
theorem dX1_drop_8 : decode cX1_drop 8 = .ok (.iconst 0, 1) := by decide +kernel
theorem dX1_drop_9 : decode cX1_drop 9 = .ok (.ireturn, 1) := by decide +kernel
theorem dX1_jump_0 : decode cX1_jump 0 = .ok (.aload_n 0, 1) := by decide +kernel
theorem dX1_jump_1 : decode cX1_jump 1 = .ok (.iload_n 1, 1) := by decide +kernel
theorem dX1_jump_2 : decode cX1_jump 2 = .ok (.invokevirtual 184, 3) := by decide +kernel
theorem dX1_jump_5 : decode cX1_jump 5 = .ok (.iconst 0, 1) := by decide +kernel
theorem dX1_jump_6 : decode cX1_jump 6 = .ok (.ireturn, 1) := by decide +kernel
theorem dX1_fail_0 : decode cX1_fail 0 = .ok (.aload_n 0, 1) := by decide +kernel
theorem dX1_fail_1 : decode cX1_fail 1 = .ok (.iload_n 1, 1) := by decide +kernel
theorem dX1_fail_2 : decode cX1_fail 2 = .ok (.putfield 288, 3) := by decide +kernel
theorem dX1_fail_5 : decode cX1_fail 5 = .ok (.iconst 2, 1) := by decide +kernel
theorem dX1_fail_6 : decode cX1_fail 6 = .ok (.ireturn, 1) := by decide +kernel
theorem dX1_jumpIfZero_0 : decode cX1_jumpIfZero 0 = .ok (.aload_n 1, 1) := by decide +kernel
theorem dX1_jumpIfZero_1 : decode cX1_jumpIfZero 1 = .ok (.getfield 200, 3) := by decide +kernel
theorem dX1_jumpIfZero_4 : decode cX1_jumpIfZero 4 = .ok (.invokevirtual 280, 3) := by decide +kernel
theorem dX1_jumpIfZero_7 : decode cX1_jumpIfZero 7 = .ok (.lstore_n 3, 1) := by decide +kernel
theorem dX1_jumpIfZero_8 : decode cX1_jumpIfZero 8 = .ok (.lload_n 3, 1) := by decide +kernel
theorem dX1_jumpIfZero_9 : decode cX1_jumpIfZero 9 = .ok (.invokestatic 291, 3) := by decide +kernel
theorem dX1_jumpIfZero_12 : decode cX1_jumpIfZero 12 = .ok (.ifCond .eq 9, 3) := by decide +kernel
theorem dX1_jumpIfZero_15 : decode cX1_jumpIfZero 15 = .ok (.aload_n 1, 1) := by decide +kernel
theorem dX1_jumpIfZero_16 : decode cX1_jumpIfZero 16 = .ok (.iconst 5, 1) := by decide +kernel
theorem dX1_jumpIfZero_17 : decode cX1_jumpIfZero 17 = .ok (.invokestatic 295, 3) := by decide +kernel
theorem dX1_jumpIfZero_20 : decode cX1_jumpIfZero 20 = .ok (.ireturn, 1) := by decide +kernel
theorem dX1_jumpIfZero_21 : decode cX1_jumpIfZero 21 = .ok (.lload_n 3, 1) := by decide +kernel
theorem dX1_jumpIfZero_22 : decode cX1_jumpIfZero 22 = .ok (.l2i, 1) := by decide +kernel
theorem dX1_jumpIfZero_23 : decode cX1_jumpIfZero 23 = .ok (.ifCond .ne 8, 3) := by decide +kernel
theorem dX1_jumpIfZero_26 : decode cX1_jumpIfZero 26 = .ok (.aload_n 1, 1) := by decide +kernel
theorem dX1_jumpIfZero_27 : decode cX1_jumpIfZero 27 = .ok (.iload_n 2, 1) := by decide +kernel
theorem dX1_jumpIfZero_28 : decode cX1_jumpIfZero 28 = .ok (.invokevirtual 184, 3) := by decide +kernel
theorem dX1_jumpIfZero_31 : decode cX1_jumpIfZero 31 = .ok (.iconst 0, 1) := by decide +kernel
theorem dX1_jumpIfZero_32 : decode cX1_jumpIfZero 32 = .ok (.ireturn, 1) := by decide +kernel
theorem dX1_closeTry_0 : decode cX1_closeTry 0 = .ok (.aload_n 0, 1) := by decide +kernel
theorem dX1_closeTry_1 : decode cX1_closeTry 1 = .ok (.getfield 200, 3) := by decide +kernel
theorem dX1_closeTry_4 : decode cX1_closeTry 4 = .ok (.invokevirtual 280, 3) := by decide +kernel
theorem dX1_closeTry_7 : decode cX1_closeTry 7 = .ok (.lstore_n 1, 1) := by decide +kernel
theorem dX1_closeTry_8 : decode cX1_closeTry 8 = .ok (.aload_n 0, 1) := by decide +kernel
theorem dX1_closeTry_9 : decode cX1_closeTry 9 = .ok (.getfield 200, 3) := by decide +kernel
theorem dX1_closeTry_12 : decode cX1_closeTry 12 = .ok (.invokevirtual 280, 3) := by decide +kernel
theorem dX1_closeTry_15 : decode cX1_closeTry 15 = .ok (.pop2, 1) := by decide +kernel
theorem dX1_closeTry_16 : decode cX1_closeTry 16 = .ok (.aload_n 0, 1) := by decide +kernel
theorem dX1_closeTry_17 : decode cX1_closeTry 17 = .ok (.lload_n 1, 1) := by decide +kernel
theorem dX1_closeTry_18 : decode cX1_closeTry 18 = .ok (.invokestatic 194, 3) := by decide +kernel
theorem dX1_closeTry_21 : decode cX1_closeTry 21 = .ok (.ireturn, 1) := by decide +kernel
theorem dX1_calculate_0 : decode cX1_calculate 0 = .ok (.aload_n 1, 1) := by decide +kernel
theorem dX1_calculate_1 : decode cX1_calculate 1 = .ok (.getfield 200, 3) := by decide +kernel
theorem dX1_calculate_4 : decode cX1_calculate 4 = .ok (.invokevirtual 280, 3) := by decide +kernel
theorem dX1_calculate_7 : decode cX1_calculate 7 = .ok (.lstore_n 3, 1) := by decide +kernel
theorem dX1_calculate_8 : decode cX1_calculate 8 = .ok (.aload_n 1, 1) := by decide +kernel
theorem dX1_calculate_9 : decode cX1_calculate 9 = .ok (.getfield 200, 3) := by decide +kernel
theorem dX1_calculate_12 : decode cX1_calculate 12 = .ok (.invokevirtual 280, 3) := by decide +kernel
theorem dX1_calculate_15 : decode cX1_calculate 15 = .ok (.lstore 5, 2) := by decide +kernel
theorem dX1_calculate_17 : decode cX1_calculate 17 = .ok (.lload 5, 2) := by decide +kernel
theorem dX1_calculate_19 : decode cX1_calculate 19 = .ok (.invokestatic 291, 3) := by decide +kernel
theorem dX1_calculate_22 : decode cX1_calculate 22 = .ok (.ifCond .ne 10, 3) := by decide +kernel
theorem dX1_calculate_25 : decode cX1_calculate 25 = .ok (.lload_n 3, 1) := by decide +kernel
theorem dX1_calculate_26 : decode cX1_calculate 26 = .ok (.invokestatic 291, 3) := by decide +kernel
theorem dX1_calculate_29 : decode cX1_calculate 29 = .ok (.ifCond .eq 9, 3) := by decide +kernel
theorem dX1_calculate_32 : decode cX1_calculate 32 = .ok (.aload_n 1, 1) := by decide +kernel
theorem dX1_calculate_33 : decode cX1_calculate 33 = .ok (.iconst 5, 1) := by decide +kernel
theorem dX1_calculate_34 : decode cX1_calculate 34 = .ok (.invokestatic 295, 3) := by decide +kernel
theorem dX1_calculate_37 : decode cX1_calculate 37 = .ok (.ireturn, 1) := by decide +kernel
theorem dX1_calculate_38 : decode cX1_calculate 38 = .ok (.lload 5, 2) := by decide +kernel
theorem dX1_calculate_40 : decode cX1_calculate 40 = .ok (.l2i, 1) := by decide +kernel
theorem dX1_calculate_41 : decode cX1_calculate 41 = .ok (.istore 7, 2) := by decide +kernel
theorem dX1_calculate_43 : decode cX1_calculate 43 = .ok (.lload_n 3, 1) := by decide +kernel
theorem dX1_calculate_44 : decode cX1_calculate 44 = .ok (.l2i, 1) := by decide +kernel
theorem dX1_calculate_45 : decode cX1_calculate 45 = .ok (.istore 8, 2) := by decide +kernel
theorem dX1_calculate_47 : decode cX1_calculate 47 = .ok (.iload_n 2, 1) := by decide +kernel
theorem dX1_calculate_48 : decode cX1_calculate 48 = .ok (.tableswitch 70 11 13 #[28, 42, 56], 28) := by decide +kernel
theorem dX1_calculate_76 : decode cX1_calculate 76 = .ok (.aload_n 1, 1) := by decide +kernel
theorem dX1_calculate_77 : decode cX1_calculate 77 = .ok (.iconst 0, 1) := by decide +kernel
theorem dX1_calculate_78 : decode cX1_calculate 78 = .ok (.iload 7, 2) := by decide +kernel
theorem dX1_calculate_80 : decode cX1_calculate 80 = .ok (.iload 8, 2) := by decide +kernel
theorem dX1_calculate_82 : decode cX1_calculate 82 = .ok (.iadd, 1) := by decide +kernel
theorem dX1_calculate_83 : decode cX1_calculate 83 = .ok (.invokestatic 190, 3) := by decide +kernel
theorem dX1_calculate_86 : decode cX1_calculate 86 = .ok (.invokestatic 194, 3) := by decide +kernel
theorem dX1_calculate_89 : decode cX1_calculate 89 = .ok (.ireturn, 1) := by decide +kernel
theorem dX1_calculate_90 : decode cX1_calculate 90 = .ok (.aload_n 1, 1) := by decide +kernel
theorem dX1_calculate_91 : decode cX1_calculate 91 = .ok (.iconst 0, 1) := by decide +kernel
theorem dX1_calculate_92 : decode cX1_calculate 92 = .ok (.iload 7, 2) := by decide +kernel
theorem dX1_calculate_94 : decode cX1_calculate 94 = .ok (.iload 8, 2) := by decide +kernel
theorem dX1_calculate_96 : decode cX1_calculate 96 = .ok (.isub, 1) := by decide +kernel
theorem dX1_calculate_97 : decode cX1_calculate 97 = .ok (.invokestatic 190, 3) := by decide +kernel
theorem dX1_calculate_100 : decode cX1_calculate 100 = .ok (.invokestatic 194, 3) := by decide +kernel
theorem dX1_calculate_103 : decode cX1_calculate 103 = .ok (.ireturn, 1) := by decide +kernel
theorem dX1_calculate_104 : decode cX1_calculate 104 = .ok (.aload_n 1, 1) := by decide +kernel
theorem dX1_calculate_105 : decode cX1_calculate 105 = .ok (.iconst 0, 1) := by decide +kernel
theorem dX1_calculate_106 : decode cX1_calculate 106 = .ok (.iload 7, 2) := by decide +kernel
theorem dX1_calculate_108 : decode cX1_calculate 108 = .ok (.iload 8, 2) := by decide +kernel
theorem dX1_calculate_110 : decode cX1_calculate 110 = .ok (.imul, 1) := by decide +kernel
theorem dX1_calculate_111 : decode cX1_calculate 111 = .ok (.invokestatic 190, 3) := by decide +kernel
theorem dX1_calculate_114 : decode cX1_calculate 114 = .ok (.invokestatic 194, 3) := by decide +kernel
theorem dX1_calculate_117 : decode cX1_calculate 117 = .ok (.ireturn, 1) := by decide +kernel
theorem dX1_calculate_118 : decode cX1_calculate 118 = .ok (.aload_n 1, 1) := by decide +kernel
theorem dX1_calculate_119 : decode cX1_calculate 119 = .ok (.iconst 0, 1) := by decide +kernel
theorem dX1_calculate_120 : decode cX1_calculate 120 = .ok (.iload 7, 2) := by decide +kernel
theorem dX1_calculate_122 : decode cX1_calculate 122 = .ok (.iload 8, 2) := by decide +kernel
theorem dX1_calculate_124 : decode cX1_calculate 124 = .ok (.if_icmp .ge 7, 3) := by decide +kernel
theorem dX1_calculate_127 : decode cX1_calculate 127 = .ok (.iconst 1, 1) := by decide +kernel
theorem dX1_calculate_128 : decode cX1_calculate 128 = .ok (.goto 4, 3) := by decide +kernel
theorem dX1_calculate_131 : decode cX1_calculate 131 = .ok (.iconst 0, 1) := by decide +kernel
theorem dX1_calculate_132 : decode cX1_calculate 132 = .ok (.invokestatic 190, 3) := by decide +kernel
theorem dX1_calculate_135 : decode cX1_calculate 135 = .ok (.invokestatic 194, 3) := by decide +kernel
theorem dX1_calculate_138 : decode cX1_calculate 138 = .ok (.ireturn, 1) := by decide +kernel
theorem dX1_compareSame_0 : decode cX1_compareSame 0 = .ok (.aload_n 1, 1) := by decide +kernel
theorem dX1_compareSame_1 : decode cX1_compareSame 1 = .ok (.getfield 200, 3) := by decide +kernel
theorem dX1_compareSame_4 : decode cX1_compareSame 4 = .ok (.invokevirtual 280, 3) := by decide +kernel
theorem dX1_compareSame_7 : decode cX1_compareSame 7 = .ok (.lstore_n 2, 1) := by decide +kernel
theorem dX1_compareSame_8 : decode cX1_compareSame 8 = .ok (.aload_n 1, 1) := by decide +kernel
theorem dX1_compareSame_9 : decode cX1_compareSame 9 = .ok (.getfield 200, 3) := by decide +kernel
theorem dX1_compareSame_12 : decode cX1_compareSame 12 = .ok (.invokevirtual 280, 3) := by decide +kernel
theorem dX1_compareSame_15 : decode cX1_compareSame 15 = .ok (.lstore 4, 2) := by decide +kernel
theorem dX1_compareSame_17 : decode cX1_compareSame 17 = .ok (.lload 4, 2) := by decide +kernel
theorem dX1_compareSame_19 : decode cX1_compareSame 19 = .ok (.invokestatic 291, 3) := by decide +kernel
theorem dX1_compareSame_22 : decode cX1_compareSame 22 = .ok (.iconst 2, 1) := by decide +kernel
theorem dX1_compareSame_23 : decode cX1_compareSame 23 = .ok (.if_icmp .gt 11, 3) := by decide +kernel
theorem dX1_compareSame_26 : decode cX1_compareSame 26 = .ok (.lload_n 2, 1) := by decide +kernel
theorem dX1_compareSame_27 : decode cX1_compareSame 27 = .ok (.invokestatic 291, 3) := by decide +kernel
theorem dX1_compareSame_30 : decode cX1_compareSame 30 = .ok (.iconst 2, 1) := by decide +kernel
theorem dX1_compareSame_31 : decode cX1_compareSame 31 = .ok (.if_icmp .le 9, 3) := by decide +kernel
theorem dX1_compareSame_34 : decode cX1_compareSame 34 = .ok (.aload_n 1, 1) := by decide +kernel
theorem dX1_compareSame_35 : decode cX1_compareSame 35 = .ok (.iconst 5, 1) := by decide +kernel
theorem dX1_compareSame_36 : decode cX1_compareSame 36 = .ok (.invokestatic 295, 3) := by decide +kernel
theorem dX1_compareSame_39 : decode cX1_compareSame 39 = .ok (.ireturn, 1) := by decide +kernel
theorem dX1_compareSame_40 : decode cX1_compareSame 40 = .ok (.aload_n 1, 1) := by decide +kernel
theorem dX1_compareSame_41 : decode cX1_compareSame 41 = .ok (.iconst 0, 1) := by decide +kernel
theorem dX1_compareSame_42 : decode cX1_compareSame 42 = .ok (.lload 4, 2) := by decide +kernel
theorem dX1_compareSame_44 : decode cX1_compareSame 44 = .ok (.lload_n 2, 1) := by decide +kernel
theorem dX1_compareSame_45 : decode cX1_compareSame 45 = .ok (.lcmp, 1) := by decide +kernel
theorem dX1_compareSame_46 : decode cX1_compareSame 46 = .ok (.ifCond .ne 7, 3) := by decide +kernel
theorem dX1_compareSame_49 : decode cX1_compareSame 49 = .ok (.iconst 1, 1) := by decide +kernel
theorem dX1_compareSame_50 : decode cX1_compareSame 50 = .ok (.goto 4, 3) := by decide +kernel
theorem dX1_compareSame_53 : decode cX1_compareSame 53 = .ok (.iconst 0, 1) := by decide +kernel
theorem dX1_compareSame_54 : decode cX1_compareSame 54 = .ok (.invokestatic 190, 3) := by decide +kernel
theorem dX1_compareSame_57 : decode cX1_compareSame 57 = .ok (.invokestatic 194, 3) := by decide +kernel
theorem dX1_compareSame_60 : decode cX1_compareSame 60 = .ok (.ireturn, 1) := by decide +kernel
theorem dX1_addThing_0 : decode cX1_addThing 0 = .ok (.aload_n 0, 1) := by decide +kernel
theorem dX1_addThing_1 : decode cX1_addThing 1 = .ok (.getfield 46, 3) := by decide +kernel
theorem dX1_addThing_4 : decode cX1_addThing 4 = .ok (.iload_n 1, 1) := by decide +kernel
theorem dX1_addThing_5 : decode cX1_addThing 5 = .ok (.i2l, 1) := by decide +kernel
theorem dX1_addThing_6 : decode cX1_addThing 6 = .ok (.invokevirtual 276, 3) := by decide +kernel
theorem dX1_addThing_9 : decode cX1_addThing 9 = .ok (.aload_n 0, 1) := by decide +kernel
theorem dX1_addThing_10 : decode cX1_addThing 10 = .ok (.getfield 46, 3) := by decide +kernel
theorem dX1_addThing_13 : decode cX1_addThing 13 = .ok (.aload_n 0, 1) := by decide +kernel
theorem dX1_addThing_14 : decode cX1_addThing 14 = .ok (.getfield 49, 3) := by decide +kernel
theorem dX1_addThing_17 : decode cX1_addThing 17 = .ok (.getfield 298, 3) := by decide +kernel
theorem dX1_addThing_20 : decode cX1_addThing 20 = .ok (.i2l, 1) := by decide +kernel
theorem dX1_addThing_21 : decode cX1_addThing 21 = .ok (.invokevirtual 276, 3) := by decide +kernel
theorem dX1_addThing_24 : decode cX1_addThing 24 = .ok (.aload_n 0, 1) := by decide +kernel
theorem dX1_addThing_25 : decode cX1_addThing 25 = .ok (.getfield 46, 3) := by decide +kernel
theorem dX1_addThing_28 : decode cX1_addThing 28 = .ok (.getfield 298, 3) := by decide +kernel
theorem dX1_addThing_31 : decode cX1_addThing 31 = .ok (.iconst 2, 1) := by decide +kernel
theorem dX1_addThing_32 : decode cX1_addThing 32 = .ok (.idiv, 1) := by decide +kernel
theorem dX1_addThing_33 : decode cX1_addThing 33 = .ok (.iconst 1, 1) := by decide +kernel
theorem dX1_addThing_34 : decode cX1_addThing 34 = .ok (.isub, 1) := by decide +kernel
theorem dX1_addThing_35 : decode cX1_addThing 35 = .ok (.ireturn, 1) := by decide +kernel
theorem dX1_thingCount_0 : decode cX1_thingCount 0 = .ok (.aload_n 0, 1) := by decide +kernel
theorem dX1_thingCount_1 : decode cX1_thingCount 1 = .ok (.getfield 46, 3) := by decide +kernel
theorem dX1_thingCount_4 : decode cX1_thingCount 4 = .ok (.getfield 298, 3) := by decide +kernel
theorem dX1_thingCount_7 : decode cX1_thingCount 7 = .ok (.iconst 2, 1) := by decide +kernel
theorem dX1_thingCount_8 : decode cX1_thingCount 8 = .ok (.idiv, 1) := by decide +kernel
theorem dX1_thingCount_9 : decode cX1_thingCount 9 = .ok (.ireturn, 1) := by decide +kernel
theorem dX1_thingOf_0 : decode cX1_thingOf 0 = .ok (.aload_n 0, 1) := by decide +kernel
theorem dX1_thingOf_1 : decode cX1_thingOf 1 = .ok (.getfield 46, 3) := by decide +kernel
theorem dX1_thingOf_4 : decode cX1_thingOf 4 = .ok (.lload_n 1, 1) := by decide +kernel
theorem dX1_thingOf_5 : decode cX1_thingOf 5 = .ok (.l2i, 1) := by decide +kernel
theorem dX1_thingOf_6 : decode cX1_thingOf 6 = .ok (.iconst 2, 1) := by decide +kernel
theorem dX1_thingOf_7 : decode cX1_thingOf 7 = .ok (.imul, 1) := by decide +kernel
theorem dX1_thingOf_8 : decode cX1_thingOf 8 = .ok (.invokevirtual 173, 3) := by decide +kernel
theorem dX1_thingOf_11 : decode cX1_thingOf 11 = .ok (.ireturn, 1) := by decide +kernel
theorem dX1_slotsOf_0 : decode cX1_slotsOf 0 = .ok (.aload_n 0, 1) := by decide +kernel
theorem dX1_slotsOf_1 : decode cX1_slotsOf 1 = .ok (.getfield 46, 3) := by decide +kernel
theorem dX1_slotsOf_4 : decode cX1_slotsOf 4 = .ok (.lload_n 1, 1) := by decide +kernel
theorem dX1_slotsOf_5 : decode cX1_slotsOf 5 = .ok (.l2i, 1) := by decide +kernel
theorem dX1_slotsOf_6 : decode cX1_slotsOf 6 = .ok (.iconst 2, 1) := by decide +kernel
theorem dX1_slotsOf_7 : decode cX1_slotsOf 7 = .ok (.imul, 1) := by decide +kernel
theorem dX1_slotsOf_8 : decode cX1_slotsOf 8 = .ok (.iconst 1, 1) := by decide +kernel
theorem dX1_slotsOf_9 : decode cX1_slotsOf 9 = .ok (.iadd, 1) := by decide +kernel
theorem dX1_slotsOf_10 : decode cX1_slotsOf 10 = .ok (.invokevirtual 173, 3) := by decide +kernel
theorem dX1_slotsOf_13 : decode cX1_slotsOf 13 = .ok (.ireturn, 1) := by decide +kernel
theorem dX1_makeObject_0 : decode cX1_makeObject 0 = .ok (.aload_n 0, 1) := by decide +kernel
theorem dX1_makeObject_1 : decode cX1_makeObject 1 = .ok (.invokevirtual 301, 3) := by decide +kernel
theorem dX1_makeObject_4 : decode cX1_makeObject 4 = .ok (.sipush 2000, 3) := by decide +kernel
theorem dX1_makeObject_7 : decode cX1_makeObject 7 = .ok (.if_icmp .lt 10, 3) := by decide +kernel
theorem dX1_makeObject_10 : decode cX1_makeObject 10 = .ok (.aload_n 1, 1) := by decide +kernel
theorem dX1_makeObject_11 : decode cX1_makeObject 11 = .ok (.bipush 9, 2) := by decide +kernel
theorem dX1_makeObject_13 : decode cX1_makeObject 13 = .ok (.invokestatic 295, 3) := by decide +kernel
theorem dX1_makeObject_16 : decode cX1_makeObject 16 = .ok (.ireturn, 1) := by decide +kernel
theorem dX1_makeObject_17 : decode cX1_makeObject 17 = .ok (.aload_n 0, 1) := by decide +kernel
theorem dX1_makeObject_18 : decode cX1_makeObject 18 = .ok (.iload_n 2, 1) := by decide +kernel
theorem dX1_makeObject_19 : decode cX1_makeObject 19 = .ok (.invokevirtual 304, 3) := by decide +kernel
theorem dX1_makeObject_22 : decode cX1_makeObject 22 = .ok (.istore_n 3, 1) := by decide +kernel
theorem dX1_makeObject_23 : decode cX1_makeObject 23 = .ok (.iconst 0, 1) := by decide +kernel
theorem dX1_makeObject_24 : decode cX1_makeObject 24 = .ok (.istore 4, 2) := by decide +kernel
theorem dX1_makeObject_26 : decode cX1_makeObject 26 = .ok (.iload 4, 2) := by decide +kernel
theorem dX1_makeObject_28 : decode cX1_makeObject 28 = .ok (.aload_n 0, 1) := by decide +kernel
theorem dX1_makeObject_29 : decode cX1_makeObject 29 = .ok (.getfield 11, 3) := by decide +kernel
theorem dX1_makeObject_32 : decode cX1_makeObject 32 = .ok (.iload_n 2, 1) := by decide +kernel
theorem dX1_makeObject_33 : decode cX1_makeObject 33 = .ok (.invokevirtual 307, 3) := by decide +kernel
theorem dX1_makeObject_36 : decode cX1_makeObject 36 = .ok (.if_icmp .ge 19, 3) := by decide +kernel
theorem dX1_makeObject_39 : decode cX1_makeObject 39 = .ok (.aload_n 0, 1) := by decide +kernel
theorem dX1_makeObject_40 : decode cX1_makeObject 40 = .ok (.getfield 49, 3) := by decide +kernel
theorem dX1_makeObject_43 : decode cX1_makeObject 43 = .ok (.ldc2_w 198, 3) := by decide +kernel
theorem dX1_makeObject_46 : decode cX1_makeObject 46 = .ok (.invokevirtual 276, 3) := by decide +kernel
theorem dX1_makeObject_49 : decode cX1_makeObject 49 = .ok (.iinc 4 1, 3) := by decide +kernel
theorem dX1_makeObject_52 : decode cX1_makeObject 52 = .ok (.goto (-26), 3) := by decide +kernel
theorem dX1_makeObject_55 : decode cX1_makeObject 55 = .ok (.aload_n 1, 1) := by decide +kernel
theorem dX1_makeObject_56 : decode cX1_makeObject 56 = .ok (.iconst 2, 1) := by decide +kernel
theorem dX1_makeObject_57 : decode cX1_makeObject 57 = .ok (.iload_n 3, 1) := by decide +kernel
theorem dX1_makeObject_58 : decode cX1_makeObject 58 = .ok (.invokestatic 190, 3) := by decide +kernel
theorem dX1_makeObject_61 : decode cX1_makeObject 61 = .ok (.invokestatic 194, 3) := by decide +kernel
theorem dX1_makeObject_64 : decode cX1_makeObject 64 = .ok (.ireturn, 1) := by decide +kernel
theorem dX1_makeFun_0 : decode cX1_makeFun 0 = .ok (.aload_n 0, 1) := by decide +kernel
theorem dX1_makeFun_1 : decode cX1_makeFun 1 = .ok (.invokevirtual 301, 3) := by decide +kernel
theorem dX1_makeFun_4 : decode cX1_makeFun 4 = .ok (.sipush 2000, 3) := by decide +kernel
theorem dX1_makeFun_7 : decode cX1_makeFun 7 = .ok (.if_icmp .lt 10, 3) := by decide +kernel
theorem dX1_makeFun_10 : decode cX1_makeFun 10 = .ok (.aload_n 1, 1) := by decide +kernel
theorem dX1_makeFun_11 : decode cX1_makeFun 11 = .ok (.bipush 9, 2) := by decide +kernel
theorem dX1_makeFun_13 : decode cX1_makeFun 13 = .ok (.invokestatic 295, 3) := by decide +kernel
theorem dX1_makeFun_16 : decode cX1_makeFun 16 = .ok (.ireturn, 1) := by decide +kernel
theorem dX1_makeFun_17 : decode cX1_makeFun 17 = .ok (.aload_n 0, 1) := by decide +kernel
theorem dX1_makeFun_18 : decode cX1_makeFun 18 = .ok (.aload_n 2, 1) := by decide +kernel
theorem dX1_makeFun_19 : decode cX1_makeFun 19 = .ok (.getfield 310, 3) := by decide +kernel
theorem dX1_makeFun_22 : decode cX1_makeFun 22 = .ok (.invokevirtual 304, 3) := by decide +kernel
theorem dX1_makeFun_25 : decode cX1_makeFun 25 = .ok (.istore_n 3, 1) := by decide +kernel
theorem dX1_makeFun_26 : decode cX1_makeFun 26 = .ok (.aload_n 1, 1) := by decide +kernel
theorem dX1_makeFun_27 : decode cX1_makeFun 27 = .ok (.getfield 200, 3) := by decide +kernel
theorem dX1_makeFun_30 : decode cX1_makeFun 30 = .ok (.getfield 298, 3) := by decide +kernel
theorem dX1_makeFun_33 : decode cX1_makeFun 33 = .ok (.aload_n 2, 1) := by decide +kernel
theorem dX1_makeFun_34 : decode cX1_makeFun 34 = .ok (.getfield 313, 3) := by decide +kernel
theorem dX1_makeFun_37 : decode cX1_makeFun 37 = .ok (.isub, 1) := by decide +kernel
theorem dX1_makeFun_38 : decode cX1_makeFun 38 = .ok (.istore 4, 2) := by decide +kernel
theorem dX1_makeFun_40 : decode cX1_makeFun 40 = .ok (.iconst 0, 1) := by decide +kernel
theorem dX1_makeFun_41 : decode cX1_makeFun 41 = .ok (.istore 5, 2) := by decide +kernel
theorem dX1_makeFun_43 : decode cX1_makeFun 43 = .ok (.iload 5, 2) := by decide +kernel
theorem dX1_makeFun_45 : decode cX1_makeFun 45 = .ok (.aload_n 2, 1) := by decide +kernel
theorem dX1_makeFun_46 : decode cX1_makeFun 46 = .ok (.getfield 313, 3) := by decide +kernel
theorem dX1_makeFun_49 : decode cX1_makeFun 49 = .ok (.if_icmp .ge 28, 3) := by decide +kernel
theorem dX1_makeFun_52 : decode cX1_makeFun 52 = .ok (.aload_n 0, 1) := by decide +kernel
theorem dX1_makeFun_53 : decode cX1_makeFun 53 = .ok (.getfield 49, 3) := by decide +kernel
theorem dX1_makeFun_56 : decode cX1_makeFun 56 = .ok (.aload_n 1, 1) := by decide +kernel
theorem dX1_makeFun_57 : decode cX1_makeFun 57 = .ok (.getfield 200, 3) := by decide +kernel
theorem dX1_makeFun_60 : decode cX1_makeFun 60 = .ok (.iload 4, 2) := by decide +kernel
theorem dX1_makeFun_62 : decode cX1_makeFun 62 = .ok (.iload 5, 2) := by decide +kernel
theorem dX1_makeFun_64 : decode cX1_makeFun 64 = .ok (.iadd, 1) := by decide +kernel
theorem dX1_makeFun_65 : decode cX1_makeFun 65 = .ok (.invokevirtual 206, 3) := by decide +kernel
theorem dX1_makeFun_68 : decode cX1_makeFun 68 = .ok (.invokevirtual 276, 3) := by decide +kernel
theorem dX1_makeFun_71 : decode cX1_makeFun 71 = .ok (.iinc 5 1, 3) := by decide +kernel
theorem dX1_makeFun_74 : decode cX1_makeFun 74 = .ok (.goto (-31), 3) := by decide +kernel
theorem dX1_makeFun_77 : decode cX1_makeFun 77 = .ok (.aload_n 1, 1) := by decide +kernel
theorem dX1_makeFun_78 : decode cX1_makeFun 78 = .ok (.getfield 200, 3) := by decide +kernel
theorem dX1_makeFun_81 : decode cX1_makeFun 81 = .ok (.iload 4, 2) := by decide +kernel
theorem dX1_makeFun_83 : decode cX1_makeFun 83 = .ok (.invokevirtual 64, 3) := by decide +kernel
theorem dX1_makeFun_86 : decode cX1_makeFun 86 = .ok (.aload_n 1, 1) := by decide +kernel
theorem dX1_makeFun_87 : decode cX1_makeFun 87 = .ok (.iconst 3, 1) := by decide +kernel
theorem dX1_makeFun_88 : decode cX1_makeFun 88 = .ok (.iload_n 3, 1) := by decide +kernel
theorem dX1_makeFun_89 : decode cX1_makeFun 89 = .ok (.invokestatic 190, 3) := by decide +kernel
theorem dX1_makeFun_92 : decode cX1_makeFun 92 = .ok (.invokestatic 194, 3) := by decide +kernel
theorem dX1_makeFun_95 : decode cX1_makeFun 95 = .ok (.ireturn, 1) := by decide +kernel
theorem dX1_readField_0 : decode cX1_readField 0 = .ok (.aload_n 1, 1) := by decide +kernel
theorem dX1_readField_1 : decode cX1_readField 1 = .ok (.getfield 200, 3) := by decide +kernel
theorem dX1_readField_4 : decode cX1_readField 4 = .ok (.invokevirtual 280, 3) := by decide +kernel
theorem dX1_readField_7 : decode cX1_readField 7 = .ok (.lstore_n 3, 1) := by decide +kernel
theorem dX1_readField_8 : decode cX1_readField 8 = .ok (.lload_n 3, 1) := by decide +kernel
theorem dX1_readField_9 : decode cX1_readField 9 = .ok (.invokestatic 291, 3) := by decide +kernel
theorem dX1_readField_12 : decode cX1_readField 12 = .ok (.iconst 2, 1) := by decide +kernel
theorem dX1_readField_13 : decode cX1_readField 13 = .ok (.if_icmp .eq 9, 3) := by decide +kernel
theorem dX1_readField_16 : decode cX1_readField 16 = .ok (.aload_n 1, 1) := by decide +kernel
theorem dX1_readField_17 : decode cX1_readField 17 = .ok (.iconst 3, 1) := by decide +kernel
theorem dX1_readField_18 : decode cX1_readField 18 = .ok (.invokestatic 295, 3) := by decide +kernel
theorem dX1_readField_21 : decode cX1_readField 21 = .ok (.ireturn, 1) := by decide +kernel
theorem dX1_readField_22 : decode cX1_readField 22 = .ok (.aload_n 0, 1) := by decide +kernel
theorem dX1_readField_23 : decode cX1_readField 23 = .ok (.getfield 11, 3) := by decide +kernel
theorem dX1_readField_26 : decode cX1_readField 26 = .ok (.aload_n 0, 1) := by decide +kernel
theorem dX1_readField_27 : decode cX1_readField 27 = .ok (.lload_n 3, 1) := by decide +kernel
theorem dX1_readField_28 : decode cX1_readField 28 = .ok (.invokevirtual 316, 3) := by decide +kernel
theorem dX1_readField_31 : decode cX1_readField 31 = .ok (.aload_n 0, 1) := by decide +kernel
theorem dX1_readField_32 : decode cX1_readField 32 = .ok (.getfield 11, 3) := by decide +kernel
theorem dX1_readField_35 : decode cX1_readField 35 = .ok (.iload_n 2, 1) := by decide +kernel
theorem dX1_readField_36 : decode cX1_readField 36 = .ok (.invokevirtual 319, 3) := by decide +kernel
theorem dX1_readField_39 : decode cX1_readField 39 = .ok (.invokevirtual 322, 3) := by decide +kernel
theorem dX1_readField_42 : decode cX1_readField 42 = .ok (.istore 5, 2) := by decide +kernel
theorem dX1_readField_44 : decode cX1_readField 44 = .ok (.iload 5, 2) := by decide +kernel
theorem dX1_readField_46 : decode cX1_readField 46 = .ok (.iconst (-1), 1) := by decide +kernel
theorem dX1_readField_47 : decode cX1_readField 47 = .ok (.if_icmp .ne 9, 3) := by decide +kernel
theorem dX1_readField_50 : decode cX1_readField 50 = .ok (.aload_n 1, 1) := by decide +kernel
theorem dX1_readField_51 : decode cX1_readField 51 = .ok (.iconst 2, 1) := by decide +kernel
theorem dX1_readField_52 : decode cX1_readField 52 = .ok (.invokestatic 295, 3) := by decide +kernel
theorem dX1_readField_55 : decode cX1_readField 55 = .ok (.ireturn, 1) := by decide +kernel
theorem dX1_readField_56 : decode cX1_readField 56 = .ok (.aload_n 1, 1) := by decide +kernel
theorem dX1_readField_57 : decode cX1_readField 57 = .ok (.aload_n 0, 1) := by decide +kernel
theorem dX1_readField_58 : decode cX1_readField 58 = .ok (.getfield 49, 3) := by decide +kernel
theorem dX1_readField_61 : decode cX1_readField 61 = .ok (.aload_n 0, 1) := by decide +kernel
theorem dX1_readField_62 : decode cX1_readField 62 = .ok (.lload_n 3, 1) := by decide +kernel
theorem dX1_readField_63 : decode cX1_readField 63 = .ok (.invokevirtual 326, 3) := by decide +kernel
theorem dX1_readField_66 : decode cX1_readField 66 = .ok (.iload 5, 2) := by decide +kernel
theorem dX1_readField_68 : decode cX1_readField 68 = .ok (.iadd, 1) := by decide +kernel
theorem dX1_readField_69 : decode cX1_readField 69 = .ok (.invokevirtual 206, 3) := by decide +kernel
theorem dX1_readField_72 : decode cX1_readField 72 = .ok (.invokestatic 194, 3) := by decide +kernel
theorem dX1_readField_75 : decode cX1_readField 75 = .ok (.ireturn, 1) := by decide +kernel
theorem dX1_writeField_0 : decode cX1_writeField 0 = .ok (.aload_n 1, 1) := by decide +kernel
theorem dX1_writeField_1 : decode cX1_writeField 1 = .ok (.getfield 200, 3) := by decide +kernel
theorem dX1_writeField_4 : decode cX1_writeField 4 = .ok (.invokevirtual 280, 3) := by decide +kernel
theorem dX1_writeField_7 : decode cX1_writeField 7 = .ok (.lstore_n 3, 1) := by decide +kernel
theorem dX1_writeField_8 : decode cX1_writeField 8 = .ok (.aload_n 1, 1) := by decide +kernel
theorem dX1_writeField_9 : decode cX1_writeField 9 = .ok (.getfield 200, 3) := by decide +kernel
theorem dX1_writeField_12 : decode cX1_writeField 12 = .ok (.invokevirtual 280, 3) := by decide +kernel
theorem dX1_writeField_15 : decode cX1_writeField 15 = .ok (.lstore 5, 2) := by decide +kernel
theorem dX1_writeField_17 : decode cX1_writeField 17 = .ok (.lload 5, 2) := by decide +kernel
theorem dX1_writeField_19 : decode cX1_writeField 19 = .ok (.invokestatic 291, 3) := by decide +kernel
theorem dX1_writeField_22 : decode cX1_writeField 22 = .ok (.iconst 2, 1) := by decide +kernel
theorem dX1_writeField_23 : decode cX1_writeField 23 = .ok (.if_icmp .eq 9, 3) := by decide +kernel
theorem dX1_writeField_26 : decode cX1_writeField 26 = .ok (.aload_n 1, 1) := by decide +kernel
theorem dX1_writeField_27 : decode cX1_writeField 27 = .ok (.iconst 3, 1) := by decide +kernel
theorem dX1_writeField_28 : decode cX1_writeField 28 = .ok (.invokestatic 295, 3) := by decide +kernel
theorem dX1_writeField_31 : decode cX1_writeField 31 = .ok (.ireturn, 1) := by decide +kernel
theorem dX1_writeField_32 : decode cX1_writeField 32 = .ok (.aload_n 0, 1) := by decide +kernel
theorem dX1_writeField_33 : decode cX1_writeField 33 = .ok (.getfield 11, 3) := by decide +kernel
theorem dX1_writeField_36 : decode cX1_writeField 36 = .ok (.aload_n 0, 1) := by decide +kernel
theorem dX1_writeField_37 : decode cX1_writeField 37 = .ok (.lload 5, 2) := by decide +kernel
theorem dX1_writeField_39 : decode cX1_writeField 39 = .ok (.invokevirtual 316, 3) := by decide +kernel
theorem dX1_writeField_42 : decode cX1_writeField 42 = .ok (.aload_n 0, 1) := by decide +kernel
theorem dX1_writeField_43 : decode cX1_writeField 43 = .ok (.getfield 11, 3) := by decide +kernel
theorem dX1_writeField_46 : decode cX1_writeField 46 = .ok (.iload_n 2, 1) := by decide +kernel
theorem dX1_writeField_47 : decode cX1_writeField 47 = .ok (.invokevirtual 319, 3) := by decide +kernel
theorem dX1_writeField_50 : decode cX1_writeField 50 = .ok (.invokevirtual 322, 3) := by decide +kernel
theorem dX1_writeField_53 : decode cX1_writeField 53 = .ok (.istore 7, 2) := by decide +kernel
theorem dX1_writeField_55 : decode cX1_writeField 55 = .ok (.iload 7, 2) := by decide +kernel
theorem dX1_writeField_57 : decode cX1_writeField 57 = .ok (.iconst (-1), 1) := by decide +kernel
theorem dX1_writeField_58 : decode cX1_writeField 58 = .ok (.if_icmp .ne 9, 3) := by decide +kernel
theorem dX1_writeField_61 : decode cX1_writeField 61 = .ok (.aload_n 1, 1) := by decide +kernel
theorem dX1_writeField_62 : decode cX1_writeField 62 = .ok (.iconst 2, 1) := by decide +kernel
theorem dX1_writeField_63 : decode cX1_writeField 63 = .ok (.invokestatic 295, 3) := by decide +kernel
theorem dX1_writeField_66 : decode cX1_writeField 66 = .ok (.ireturn, 1) := by decide +kernel
theorem dX1_writeField_67 : decode cX1_writeField 67 = .ok (.aload_n 0, 1) := by decide +kernel
theorem dX1_writeField_68 : decode cX1_writeField 68 = .ok (.getfield 49, 3) := by decide +kernel
theorem dX1_writeField_71 : decode cX1_writeField 71 = .ok (.aload_n 0, 1) := by decide +kernel
theorem dX1_writeField_72 : decode cX1_writeField 72 = .ok (.lload 5, 2) := by decide +kernel
theorem dX1_writeField_74 : decode cX1_writeField 74 = .ok (.invokevirtual 326, 3) := by decide +kernel
theorem dX1_writeField_77 : decode cX1_writeField 77 = .ok (.iload 7, 2) := by decide +kernel
theorem dX1_writeField_79 : decode cX1_writeField 79 = .ok (.iadd, 1) := by decide +kernel
theorem dX1_writeField_80 : decode cX1_writeField 80 = .ok (.lload_n 3, 1) := by decide +kernel
theorem dX1_writeField_81 : decode cX1_writeField 81 = .ok (.invokevirtual 284, 3) := by decide +kernel
theorem dX1_writeField_84 : decode cX1_writeField 84 = .ok (.aload_n 1, 1) := by decide +kernel
theorem dX1_writeField_85 : decode cX1_writeField 85 = .ok (.lload_n 3, 1) := by decide +kernel
theorem dX1_writeField_86 : decode cX1_writeField 86 = .ok (.invokestatic 194, 3) := by decide +kernel
theorem dX1_writeField_89 : decode cX1_writeField 89 = .ok (.ireturn, 1) := by decide +kernel
theorem dX1_send_0 : decode cX1_send 0 = .ok (.aload_n 1, 1) := by decide +kernel
theorem dX1_send_1 : decode cX1_send 1 = .ok (.iload_n 3, 1) := by decide +kernel
theorem dX1_send_2 : decode cX1_send 2 = .ok (.invokevirtual 329, 3) := by decide +kernel
theorem dX1_send_5 : decode cX1_send 5 = .ok (.lstore 4, 2) := by decide +kernel
theorem dX1_send_7 : decode cX1_send 7 = .ok (.lload 4, 2) := by decide +kernel
theorem dX1_send_9 : decode cX1_send 9 = .ok (.invokestatic 291, 3) := by decide +kernel
theorem dX1_send_12 : decode cX1_send 12 = .ok (.iconst 2, 1) := by decide +kernel
theorem dX1_send_13 : decode cX1_send 13 = .ok (.if_icmp .eq 9, 3) := by decide +kernel
theorem dX1_send_16 : decode cX1_send 16 = .ok (.aload_n 1, 1) := by decide +kernel
theorem dX1_send_17 : decode cX1_send 17 = .ok (.iconst 3, 1) := by decide +kernel
theorem dX1_send_18 : decode cX1_send 18 = .ok (.invokestatic 295, 3) := by decide +kernel
theorem dX1_send_21 : decode cX1_send 21 = .ok (.ireturn, 1) := by decide +kernel
theorem dX1_send_22 : decode cX1_send 22 = .ok (.aload_n 0, 1) := by decide +kernel
theorem dX1_send_23 : decode cX1_send 23 = .ok (.getfield 11, 3) := by decide +kernel
theorem dX1_send_26 : decode cX1_send 26 = .ok (.aload_n 0, 1) := by decide +kernel
theorem dX1_send_27 : decode cX1_send 27 = .ok (.lload 4, 2) := by decide +kernel
theorem dX1_send_29 : decode cX1_send 29 = .ok (.invokevirtual 316, 3) := by decide +kernel
theorem dX1_send_32 : decode cX1_send 32 = .ok (.aload_n 0, 1) := by decide +kernel
theorem dX1_send_33 : decode cX1_send 33 = .ok (.getfield 11, 3) := by decide +kernel
theorem dX1_send_36 : decode cX1_send 36 = .ok (.iload_n 2, 1) := by decide +kernel
theorem dX1_send_37 : decode cX1_send 37 = .ok (.invokevirtual 319, 3) := by decide +kernel
theorem dX1_send_40 : decode cX1_send 40 = .ok (.iload_n 3, 1) := by decide +kernel
theorem dX1_send_41 : decode cX1_send 41 = .ok (.invokevirtual 332, 3) := by decide +kernel
theorem dX1_send_44 : decode cX1_send 44 = .ok (.istore 6, 2) := by decide +kernel
theorem dX1_send_46 : decode cX1_send 46 = .ok (.iload 6, 2) := by decide +kernel
theorem dX1_send_48 : decode cX1_send 48 = .ok (.iconst (-1), 1) := by decide +kernel
theorem dX1_send_49 : decode cX1_send 49 = .ok (.if_icmp .ne 9, 3) := by decide +kernel
theorem dX1_send_52 : decode cX1_send 52 = .ok (.aload_n 1, 1) := by decide +kernel
theorem dX1_send_53 : decode cX1_send 53 = .ok (.iconst 2, 1) := by decide +kernel
theorem dX1_send_54 : decode cX1_send 54 = .ok (.invokestatic 295, 3) := by decide +kernel
theorem dX1_send_57 : decode cX1_send 57 = .ok (.ireturn, 1) := by decide +kernel
theorem dX1_send_58 : decode cX1_send 58 = .ok (.aload_n 1, 1) := by decide +kernel
theorem dX1_send_59 : decode cX1_send 59 = .ok (.getfield 200, 3) := by decide +kernel
theorem dX1_send_62 : decode cX1_send 62 = .ok (.getfield 298, 3) := by decide +kernel
theorem dX1_send_65 : decode cX1_send 65 = .ok (.iconst 1, 1) := by decide +kernel
theorem dX1_send_66 : decode cX1_send 66 = .ok (.isub, 1) := by decide +kernel
theorem dX1_send_67 : decode cX1_send 67 = .ok (.iload_n 3, 1) := by decide +kernel
theorem dX1_send_68 : decode cX1_send 68 = .ok (.isub, 1) := by decide +kernel
theorem dX1_send_69 : decode cX1_send 69 = .ok (.istore 7, 2) := by decide +kernel
theorem dX1_send_71 : decode cX1_send 71 = .ok (.aload_n 0, 1) := by decide +kernel
theorem dX1_send_72 : decode cX1_send 72 = .ok (.aload_n 1, 1) := by decide +kernel
theorem dX1_send_73 : decode cX1_send 73 = .ok (.aload_n 0, 1) := by decide +kernel
theorem dX1_send_74 : decode cX1_send 74 = .ok (.getfield 11, 3) := by decide +kernel
theorem dX1_send_77 : decode cX1_send 77 = .ok (.iload 6, 2) := by decide +kernel
theorem dX1_send_79 : decode cX1_send 79 = .ok (.invokevirtual 161, 3) := by decide +kernel
theorem dX1_send_82 : decode cX1_send 82 = .ok (.iload 7, 2) := by decide +kernel
theorem dX1_send_84 : decode cX1_send 84 = .ok (.iload 7, 2) := by decide +kernel
theorem dX1_send_86 : decode cX1_send 86 = .ok (.iconst (-1), 1) := by decide +kernel
theorem dX1_send_87 : decode cX1_send 87 = .ok (.invokevirtual 336, 3) := by decide +kernel
theorem dX1_send_90 : decode cX1_send 90 = .ok (.ireturn, 1) := by decide +kernel
theorem dX1_call_0 : decode cX1_call 0 = .ok (.aload_n 0, 1) := by decide +kernel
theorem dX1_call_1 : decode cX1_call 1 = .ok (.aload_n 1, 1) := by decide +kernel
theorem dX1_call_2 : decode cX1_call 2 = .ok (.putfield 33, 3) := by decide +kernel
theorem dX1_call_5 : decode cX1_call 5 = .ok (.aload_n 1, 1) := by decide +kernel
theorem dX1_call_6 : decode cX1_call 6 = .ok (.aload_n 2, 1) := by decide +kernel
theorem dX1_call_7 : decode cX1_call 7 = .ok (.iload_n 3, 1) := by decide +kernel
theorem dX1_call_8 : decode cX1_call 8 = .ok (.iload 4, 2) := by decide +kernel
theorem dX1_call_10 : decode cX1_call 10 = .ok (.iload 5, 2) := by decide +kernel
theorem dX1_call_12 : decode cX1_call 12 = .ok (.invokevirtual 109, 3) := by decide +kernel
theorem dX1_call_15 : decode cX1_call 15 = .ok (.iconst 3, 1) := by decide +kernel
theorem dX1_call_16 : decode cX1_call 16 = .ok (.ireturn, 1) := by decide +kernel
theorem dX1_apply_0 : decode cX1_apply 0 = .ok (.aload_n 1, 1) := by decide +kernel
theorem dX1_apply_1 : decode cX1_apply 1 = .ok (.iload_n 2, 1) := by decide +kernel
theorem dX1_apply_2 : decode cX1_apply 2 = .ok (.invokevirtual 329, 3) := by decide +kernel
theorem dX1_apply_5 : decode cX1_apply 5 = .ok (.lstore_n 3, 1) := by decide +kernel
theorem dX1_apply_6 : decode cX1_apply 6 = .ok (.lload_n 3, 1) := by decide +kernel
theorem dX1_apply_7 : decode cX1_apply 7 = .ok (.invokestatic 291, 3) := by decide +kernel
theorem dX1_apply_10 : decode cX1_apply 10 = .ok (.iconst 3, 1) := by decide +kernel
theorem dX1_apply_11 : decode cX1_apply 11 = .ok (.if_icmp .eq 9, 3) := by decide +kernel
theorem dX1_apply_14 : decode cX1_apply 14 = .ok (.aload_n 1, 1) := by decide +kernel
theorem dX1_apply_15 : decode cX1_apply 15 = .ok (.iconst 3, 1) := by decide +kernel
theorem dX1_apply_16 : decode cX1_apply 16 = .ok (.invokestatic 295, 3) := by decide +kernel
theorem dX1_apply_19 : decode cX1_apply 19 = .ok (.ireturn, 1) := by decide +kernel
theorem dX1_apply_20 : decode cX1_apply 20 = .ok (.aload_n 0, 1) := by decide +kernel
theorem dX1_apply_21 : decode cX1_apply 21 = .ok (.getfield 11, 3) := by decide +kernel
theorem dX1_apply_24 : decode cX1_apply 24 = .ok (.aload_n 0, 1) := by decide +kernel
theorem dX1_apply_25 : decode cX1_apply 25 = .ok (.lload_n 3, 1) := by decide +kernel
theorem dX1_apply_26 : decode cX1_apply 26 = .ok (.invokevirtual 316, 3) := by decide +kernel
theorem dX1_apply_29 : decode cX1_apply 29 = .ok (.invokevirtual 161, 3) := by decide +kernel
theorem dX1_apply_32 : decode cX1_apply 32 = .ok (.astore 5, 2) := by decide +kernel
theorem dX1_apply_34 : decode cX1_apply 34 = .ok (.aload 5, 2) := by decide +kernel
theorem dX1_apply_36 : decode cX1_apply 36 = .ok (.getfield 339, 3) := by decide +kernel
theorem dX1_apply_39 : decode cX1_apply 39 = .ok (.iload_n 2, 1) := by decide +kernel
theorem dX1_apply_40 : decode cX1_apply 40 = .ok (.if_icmp .eq 9, 3) := by decide +kernel
theorem dX1_apply_43 : decode cX1_apply 43 = .ok (.aload_n 1, 1) := by decide +kernel
theorem dX1_apply_44 : decode cX1_apply 44 = .ok (.iconst 4, 1) := by decide +kernel
theorem dX1_apply_45 : decode cX1_apply 45 = .ok (.invokestatic 295, 3) := by decide +kernel
theorem dX1_apply_48 : decode cX1_apply 48 = .ok (.ireturn, 1) := by decide +kernel
theorem dX1_apply_49 : decode cX1_apply 49 = .ok (.aload_n 1, 1) := by decide +kernel
theorem dX1_apply_50 : decode cX1_apply 50 = .ok (.getfield 200, 3) := by decide +kernel
theorem dX1_apply_53 : decode cX1_apply 53 = .ok (.getfield 298, 3) := by decide +kernel
theorem dX1_apply_56 : decode cX1_apply 56 = .ok (.istore 6, 2) := by decide +kernel
theorem dX1_apply_58 : decode cX1_apply 58 = .ok (.aload_n 0, 1) := by decide +kernel
theorem dX1_apply_59 : decode cX1_apply 59 = .ok (.aload_n 1, 1) := by decide +kernel
theorem dX1_apply_60 : decode cX1_apply 60 = .ok (.lload_n 3, 1) := by decide +kernel
theorem dX1_apply_61 : decode cX1_apply 61 = .ok (.aload 5, 2) := by decide +kernel
theorem dX1_apply_63 : decode cX1_apply 63 = .ok (.invokevirtual 342, 3) := by decide +kernel
theorem dX1_apply_66 : decode cX1_apply 66 = .ok (.iconst 0, 1) := by decide +kernel
theorem dX1_apply_67 : decode cX1_apply 67 = .ok (.istore 7, 2) := by decide +kernel
theorem dX1_apply_69 : decode cX1_apply 69 = .ok (.iload 7, 2) := by decide +kernel
theorem dX1_apply_71 : decode cX1_apply 71 = .ok (.iload_n 2, 1) := by decide +kernel
theorem dX1_apply_72 : decode cX1_apply 72 = .ok (.if_icmp .ge 28, 3) := by decide +kernel
theorem dX1_apply_75 : decode cX1_apply 75 = .ok (.aload_n 1, 1) := by decide +kernel
theorem dX1_apply_76 : decode cX1_apply 76 = .ok (.aload_n 1, 1) := by decide +kernel
theorem dX1_apply_77 : decode cX1_apply 77 = .ok (.getfield 200, 3) := by decide +kernel
theorem dX1_apply_80 : decode cX1_apply 80 = .ok (.iload 6, 2) := by decide +kernel
theorem dX1_apply_82 : decode cX1_apply 82 = .ok (.iload_n 2, 1) := by decide +kernel
theorem dX1_apply_83 : decode cX1_apply 83 = .ok (.isub, 1) := by decide +kernel
theorem dX1_apply_84 : decode cX1_apply 84 = .ok (.iload 7, 2) := by decide +kernel
theorem dX1_apply_86 : decode cX1_apply 86 = .ok (.iadd, 1) := by decide +kernel
theorem dX1_apply_87 : decode cX1_apply 87 = .ok (.invokevirtual 206, 3) := by decide +kernel
theorem dX1_apply_90 : decode cX1_apply 90 = .ok (.invokestatic 194, 3) := by decide +kernel
theorem dX1_apply_93 : decode cX1_apply 93 = .ok (.pop, 1) := by decide +kernel
theorem dX1_apply_94 : decode cX1_apply 94 = .ok (.iinc 7 1, 3) := by decide +kernel
theorem dX1_apply_97 : decode cX1_apply 97 = .ok (.goto (-28), 3) := by decide +kernel
theorem dX1_apply_100 : decode cX1_apply 100 = .ok (.aload_n 0, 1) := by decide +kernel
theorem dX1_apply_101 : decode cX1_apply 101 = .ok (.aload_n 1, 1) := by decide +kernel
theorem dX1_apply_102 : decode cX1_apply 102 = .ok (.aload 5, 2) := by decide +kernel
theorem dX1_apply_104 : decode cX1_apply 104 = .ok (.iload 6, 2) := by decide +kernel
theorem dX1_apply_106 : decode cX1_apply 106 = .ok (.iload 6, 2) := by decide +kernel
theorem dX1_apply_108 : decode cX1_apply 108 = .ok (.iconst 1, 1) := by decide +kernel
theorem dX1_apply_109 : decode cX1_apply 109 = .ok (.isub, 1) := by decide +kernel
theorem dX1_apply_110 : decode cX1_apply 110 = .ok (.iload_n 2, 1) := by decide +kernel
theorem dX1_apply_111 : decode cX1_apply 111 = .ok (.isub, 1) := by decide +kernel
theorem dX1_apply_112 : decode cX1_apply 112 = .ok (.iconst (-1), 1) := by decide +kernel
theorem dX1_apply_113 : decode cX1_apply 113 = .ok (.invokevirtual 336, 3) := by decide +kernel
theorem dX1_apply_116 : decode cX1_apply 116 = .ok (.ireturn, 1) := by decide +kernel
theorem dX1_pushCaptured_0 : decode cX1_pushCaptured 0 = .ok (.iconst 0, 1) := by decide +kernel
theorem dX1_pushCaptured_1 : decode cX1_pushCaptured 1 = .ok (.istore 5, 2) := by decide +kernel
theorem dX1_pushCaptured_3 : decode cX1_pushCaptured 3 = .ok (.iload 5, 2) := by decide +kernel
theorem dX1_pushCaptured_5 : decode cX1_pushCaptured 5 = .ok (.aload 4, 2) := by decide +kernel
theorem dX1_pushCaptured_7 : decode cX1_pushCaptured 7 = .ok (.getfield 313, 3) := by decide +kernel
theorem dX1_pushCaptured_10 : decode cX1_pushCaptured 10 = .ok (.if_icmp .ge 29, 3) := by decide +kernel
theorem dX1_pushCaptured_13 : decode cX1_pushCaptured 13 = .ok (.aload_n 1, 1) := by decide +kernel
theorem dX1_pushCaptured_14 : decode cX1_pushCaptured 14 = .ok (.aload_n 0, 1) := by decide +kernel
theorem dX1_pushCaptured_15 : decode cX1_pushCaptured 15 = .ok (.getfield 49, 3) := by decide +kernel
theorem dX1_pushCaptured_18 : decode cX1_pushCaptured 18 = .ok (.aload_n 0, 1) := by decide +kernel
theorem dX1_pushCaptured_19 : decode cX1_pushCaptured 19 = .ok (.lload_n 2, 1) := by decide +kernel
theorem dX1_pushCaptured_20 : decode cX1_pushCaptured 20 = .ok (.invokevirtual 326, 3) := by decide +kernel
theorem dX1_pushCaptured_23 : decode cX1_pushCaptured 23 = .ok (.iload 5, 2) := by decide +kernel
theorem dX1_pushCaptured_25 : decode cX1_pushCaptured 25 = .ok (.iadd, 1) := by decide +kernel
theorem dX1_pushCaptured_26 : decode cX1_pushCaptured 26 = .ok (.invokevirtual 206, 3) := by decide +kernel
theorem dX1_pushCaptured_29 : decode cX1_pushCaptured 29 = .ok (.invokestatic 194, 3) := by decide +kernel
theorem dX1_pushCaptured_32 : decode cX1_pushCaptured 32 = .ok (.pop, 1) := by decide +kernel
theorem dX1_pushCaptured_33 : decode cX1_pushCaptured 33 = .ok (.iinc 5 1, 3) := by decide +kernel
theorem dX1_pushCaptured_36 : decode cX1_pushCaptured 36 = .ok (.goto (-33), 3) := by decide +kernel
theorem dX1_pushCaptured_39 : decode cX1_pushCaptured 39 = .ok (.return_, 1) := by decide +kernel
theorem dX1_callPart_0 : decode cX1_callPart 0 = .ok (.aload_n 1, 1) := by decide +kernel
theorem dX1_callPart_1 : decode cX1_callPart 1 = .ok (.getfield 200, 3) := by decide +kernel
theorem dX1_callPart_4 : decode cX1_callPart 4 = .ok (.getfield 298, 3) := by decide +kernel
theorem dX1_callPart_7 : decode cX1_callPart 7 = .ok (.aload_n 2, 1) := by decide +kernel
theorem dX1_callPart_8 : decode cX1_callPart 8 = .ok (.getfield 313, 3) := by decide +kernel
theorem dX1_callPart_11 : decode cX1_callPart 11 = .ok (.isub, 1) := by decide +kernel
theorem dX1_callPart_12 : decode cX1_callPart 12 = .ok (.istore_n 3, 1) := by decide +kernel
theorem dX1_callPart_13 : decode cX1_callPart 13 = .ok (.aload_n 2, 1) := by decide +kernel
theorem dX1_callPart_14 : decode cX1_callPart 14 = .ok (.getfield 346, 3) := by decide +kernel
theorem dX1_callPart_17 : decode cX1_callPart 17 = .ok (.iconst 4, 1) := by decide +kernel
theorem dX1_callPart_18 : decode cX1_callPart 18 = .ok (.if_icmp .eq 13, 3) := by decide +kernel
theorem dX1_callPart_21 : decode cX1_callPart 21 = .ok (.aload_n 0, 1) := by decide +kernel
theorem dX1_callPart_22 : decode cX1_callPart 22 = .ok (.aload_n 1, 1) := by decide +kernel
theorem dX1_callPart_23 : decode cX1_callPart 23 = .ok (.aload_n 2, 1) := by decide +kernel
theorem dX1_callPart_24 : decode cX1_callPart 24 = .ok (.iload_n 3, 1) := by decide +kernel
theorem dX1_callPart_25 : decode cX1_callPart 25 = .ok (.iload_n 3, 1) := by decide +kernel
theorem dX1_callPart_26 : decode cX1_callPart 26 = .ok (.iconst (-1), 1) := by decide +kernel
theorem dX1_callPart_27 : decode cX1_callPart 27 = .ok (.invokevirtual 336, 3) := by decide +kernel
theorem dX1_callPart_30 : decode cX1_callPart 30 = .ok (.ireturn, 1) := by decide +kernel
theorem dX1_callPart_31 : decode cX1_callPart 31 = .ok (.aload_n 1, 1) := by decide +kernel
theorem dX1_callPart_32 : decode cX1_callPart 32 = .ok (.aload_n 2, 1) := by decide +kernel
theorem dX1_callPart_33 : decode cX1_callPart 33 = .ok (.getfield 313, 3) := by decide +kernel
theorem dX1_callPart_36 : decode cX1_callPart 36 = .ok (.invokevirtual 329, 3) := by decide +kernel
theorem dX1_callPart_39 : decode cX1_callPart 39 = .ok (.lstore 4, 2) := by decide +kernel
theorem dX1_callPart_41 : decode cX1_callPart 41 = .ok (.lload 4, 2) := by decide +kernel
theorem dX1_callPart_43 : decode cX1_callPart 43 = .ok (.invokestatic 291, 3) := by decide +kernel
theorem dX1_callPart_46 : decode cX1_callPart 46 = .ok (.iconst 4, 1) := by decide +kernel
theorem dX1_callPart_47 : decode cX1_callPart 47 = .ok (.if_icmp .eq 9, 3) := by decide +kernel
theorem dX1_callPart_50 : decode cX1_callPart 50 = .ok (.aload_n 1, 1) := by decide +kernel
theorem dX1_callPart_51 : decode cX1_callPart 51 = .ok (.iconst 3, 1) := by decide +kernel
theorem dX1_callPart_52 : decode cX1_callPart 52 = .ok (.invokestatic 295, 3) := by decide +kernel
theorem dX1_callPart_55 : decode cX1_callPart 55 = .ok (.ireturn, 1) := by decide +kernel
theorem dX1_callPart_56 : decode cX1_callPart 56 = .ok (.aload_n 0, 1) := by decide +kernel
theorem dX1_callPart_57 : decode cX1_callPart 57 = .ok (.aload_n 1, 1) := by decide +kernel
theorem dX1_callPart_58 : decode cX1_callPart 58 = .ok (.aload_n 2, 1) := by decide +kernel
theorem dX1_callPart_59 : decode cX1_callPart 59 = .ok (.iload_n 3, 1) := by decide +kernel
theorem dX1_callPart_60 : decode cX1_callPart 60 = .ok (.iload_n 3, 1) := by decide +kernel
theorem dX1_callPart_61 : decode cX1_callPart 61 = .ok (.iconst 1, 1) := by decide +kernel
theorem dX1_callPart_62 : decode cX1_callPart 62 = .ok (.isub, 1) := by decide +kernel
theorem dX1_callPart_63 : decode cX1_callPart 63 = .ok (.lload 4, 2) := by decide +kernel
theorem dX1_callPart_65 : decode cX1_callPart 65 = .ok (.l2i, 1) := by decide +kernel
theorem dX1_callPart_66 : decode cX1_callPart 66 = .ok (.invokevirtual 336, 3) := by decide +kernel
theorem dX1_callPart_69 : decode cX1_callPart 69 = .ok (.ireturn, 1) := by decide +kernel
theorem dX1_begin_0 : decode cX1_begin 0 = .ok (.aload_n 0, 1) := by decide +kernel
theorem dX1_begin_1 : decode cX1_begin 1 = .ok (.getfield 33, 3) := by decide +kernel
theorem dX1_begin_4 : decode cX1_begin 4 = .ok (.getfield 349, 3) := by decide +kernel
theorem dX1_begin_7 : decode cX1_begin 7 = .ok (.astore_n 2, 1) := by decide +kernel
theorem dX1_begin_8 : decode cX1_begin 8 = .ok (.aload_n 2, 1) := by decide +kernel
theorem dX1_begin_9 : decode cX1_begin 9 = .ok (.ifnull 14, 3) := by decide +kernel
theorem dX1_begin_12 : decode cX1_begin 12 = .ok (.aload_n 0, 1) := by decide +kernel
theorem dX1_begin_13 : decode cX1_begin 13 = .ok (.getfield 71, 3) := by decide +kernel
theorem dX1_begin_16 : decode cX1_begin 16 = .ok (.aload_n 0, 1) := by decide +kernel
theorem dX1_begin_17 : decode cX1_begin 17 = .ok (.getfield 74, 3) := by decide +kernel
theorem dX1_begin_20 : decode cX1_begin 20 = .ok (.if_icmp .lt 10, 3) := by decide +kernel
theorem dX1_begin_23 : decode cX1_begin 23 = .ok (.aload_n 0, 1) := by decide +kernel
theorem dX1_begin_24 : decode cX1_begin 24 = .ok (.iconst 2, 1) := by decide +kernel
theorem dX1_begin_25 : decode cX1_begin 25 = .ok (.putfield 80, 3) := by decide +kernel
theorem dX1_begin_28 : decode cX1_begin 28 = .ok (.iconst 1, 1) := by decide +kernel
theorem dX1_begin_29 : decode cX1_begin 29 = .ok (.ireturn, 1) := by decide +kernel
theorem dX1_begin_30 : decode cX1_begin 30 = .ok (.aload_n 0, 1) := by decide +kernel
theorem dX1_begin_31 : decode cX1_begin 31 = .ok (.getfield 33, 3) := by decide +kernel
theorem dX1_begin_34 : decode cX1_begin 34 = .ok (.getfield 353, 3) := by decide +kernel
theorem dX1_begin_37 : decode cX1_begin 37 = .ok (.bipush 60, 2) := by decide +kernel
theorem dX1_begin_39 : decode cX1_begin 39 = .ok (.if_icmp .lt 13, 3) := by decide +kernel
theorem dX1_begin_42 : decode cX1_begin 42 = .ok (.aload_n 0, 1) := by decide +kernel
theorem dX1_begin_43 : decode cX1_begin 43 = .ok (.getfield 33, 3) := by decide +kernel
theorem dX1_begin_46 : decode cX1_begin 46 = .ok (.bipush 6, 2) := by decide +kernel
theorem dX1_begin_48 : decode cX1_begin 48 = .ok (.invokestatic 295, 3) := by decide +kernel
theorem dX1_begin_51 : decode cX1_begin 51 = .ok (.ireturn, 1) := by decide +kernel
theorem dX1_begin_52 : decode cX1_begin 52 = .ok (.aload_n 0, 1) := by decide +kernel
theorem dX1_begin_53 : decode cX1_begin 53 = .ok (.dup, 1) := by decide +kernel
theorem dX1_begin_54 : decode cX1_begin 54 = .ok (.getfield 71, 3) := by decide +kernel
theorem dX1_begin_57 : decode cX1_begin 57 = .ok (.iconst 1, 1) := by decide +kernel
theorem dX1_begin_58 : decode cX1_begin 58 = .ok (.iadd, 1) := by decide +kernel
theorem dX1_begin_59 : decode cX1_begin 59 = .ok (.putfield 71, 3) := by decide +kernel
theorem dX1_begin_62 : decode cX1_begin 62 = .ok (.aload_n 0, 1) := by decide +kernel
theorem dX1_begin_63 : decode cX1_begin 63 = .ok (.getfield 95, 3) := by decide +kernel
theorem dX1_begin_66 : decode cX1_begin 66 = .ok (.ifCond .eq 7, 3) := by decide +kernel
theorem dX1_begin_69 : decode cX1_begin 69 = .ok (.iconst (-1), 1) := by decide +kernel
theorem dX1_begin_70 : decode cX1_begin 70 = .ok (.goto 12, 3) := by decide +kernel
theorem dX1_begin_73 : decode cX1_begin 73 = .ok (.aload_n 0, 1) := by decide +kernel
theorem dX1_begin_74 : decode cX1_begin 74 = .ok (.aload_n 2, 1) := by decide +kernel
theorem dX1_begin_75 : decode cX1_begin 75 = .ok (.aload_n 1, 1) := by decide +kernel
theorem dX1_begin_76 : decode cX1_begin 76 = .ok (.invokevirtual 270, 3) := by decide +kernel
theorem dX1_begin_79 : decode cX1_begin 79 = .ok (.invokevirtual 356, 3) := by decide +kernel
theorem dX1_begin_82 : decode cX1_begin 82 = .ok (.istore_n 3, 1) := by decide +kernel
theorem dX1_begin_83 : decode cX1_begin 83 = .ok (.aload_n 0, 1) := by decide +kernel
theorem dX1_begin_84 : decode cX1_begin 84 = .ok (.getfield 95, 3) := by decide +kernel
theorem dX1_begin_87 : decode cX1_begin 87 = .ok (.ifCond .eq 22, 3) := by decide +kernel
theorem dX1_begin_90 : decode cX1_begin 90 = .ok (.aload_n 2, 1) := by decide +kernel
theorem dX1_begin_91 : decode cX1_begin 91 = .ok (.getfield 360, 3) := by decide +kernel
theorem dX1_begin_94 : decode cX1_begin 94 = .ok (.ifCond .eq 15, 3) := by decide +kernel
theorem dX1_begin_97 : decode cX1_begin 97 = .ok (.aload_n 0, 1) := by decide +kernel
theorem dX1_begin_98 : decode cX1_begin 98 = .ok (.aload_n 2, 1) := by decide +kernel
theorem dX1_begin_99 : decode cX1_begin 99 = .ok (.aload_n 1, 1) := by decide +kernel
theorem dX1_begin_100 : decode cX1_begin 100 = .ok (.invokevirtual 267, 3) := by decide +kernel
theorem dX1_begin_103 : decode cX1_begin 103 = .ok (.invokevirtual 363, 3) := by decide +kernel
theorem dX1_begin_106 : decode cX1_begin 106 = .ok (.goto 4, 3) := by decide +kernel
theorem dX1_begin_109 : decode cX1_begin 109 = .ok (.iconst (-1), 1) := by decide +kernel
theorem dX1_begin_110 : decode cX1_begin 110 = .ok (.istore 4, 2) := by decide +kernel
theorem dX1_begin_112 : decode cX1_begin 112 = .ok (.aload_n 0, 1) := by decide +kernel
theorem dX1_begin_113 : decode cX1_begin 113 = .ok (.getfield 33, 3) := by decide +kernel
theorem dX1_begin_116 : decode cX1_begin 116 = .ok (.iload_n 3, 1) := by decide +kernel
theorem dX1_begin_117 : decode cX1_begin 117 = .ok (.iload 4, 2) := by decide +kernel
theorem dX1_begin_119 : decode cX1_begin 119 = .ok (.invokevirtual 366, 3) := by decide +kernel
theorem dX1_begin_122 : decode cX1_begin 122 = .ok (.aload_n 0, 1) := by decide +kernel
theorem dX1_begin_123 : decode cX1_begin 123 = .ok (.aload_n 0, 1) := by decide +kernel
theorem dX1_begin_124 : decode cX1_begin 124 = .ok (.getfield 83, 3) := by decide +kernel
theorem dX1_begin_127 : decode cX1_begin 127 = .ok (.aload_n 0, 1) := by decide +kernel
theorem dX1_begin_128 : decode cX1_begin 128 = .ok (.getfield 33, 3) := by decide +kernel
theorem dX1_begin_131 : decode cX1_begin 131 = .ok (.getfield 353, 3) := by decide +kernel
theorem dX1_begin_134 : decode cX1_begin 134 = .ok (.invokestatic 370, 3) := by decide +kernel
theorem dX1_begin_137 : decode cX1_begin 137 = .ok (.putfield 83, 3) := by decide +kernel
theorem dX1_begin_140 : decode cX1_begin 140 = .ok (.aload_n 0, 1) := by decide +kernel
theorem dX1_begin_141 : decode cX1_begin 141 = .ok (.getfield 33, 3) := by decide +kernel
theorem dX1_begin_144 : decode cX1_begin 144 = .ok (.aload_n 1, 1) := by decide +kernel
theorem dX1_begin_145 : decode cX1_begin 145 = .ok (.if_acmp .ne 5, 3) := by decide +kernel
theorem dX1_begin_148 : decode cX1_begin 148 = .ok (.iconst 0, 1) := by decide +kernel
theorem dX1_begin_149 : decode cX1_begin 149 = .ok (.ireturn, 1) := by decide +kernel
theorem dX1_begin_150 : decode cX1_begin 150 = .ok (.aload_n 1, 1) := by decide +kernel
theorem dX1_begin_151 : decode cX1_begin 151 = .ok (.iconst 0, 1) := by decide +kernel
theorem dX1_begin_152 : decode cX1_begin 152 = .ok (.aload_n 0, 1) := by decide +kernel
theorem dX1_begin_153 : decode cX1_begin 153 = .ok (.getfield 67, 3) := by decide +kernel
theorem dX1_begin_156 : decode cX1_begin 156 = .ok (.invokestatic 190, 3) := by decide +kernel
theorem dX1_begin_159 : decode cX1_begin 159 = .ok (.invokestatic 194, 3) := by decide +kernel
theorem dX1_begin_162 : decode cX1_begin 162 = .ok (.pop, 1) := by decide +kernel
theorem dX1_begin_163 : decode cX1_begin 163 = .ok (.aload_n 0, 1) := by decide +kernel
theorem dX1_begin_164 : decode cX1_begin 164 = .ok (.dup, 1) := by decide +kernel
theorem dX1_begin_165 : decode cX1_begin 165 = .ok (.getfield 67, 3) := by decide +kernel
theorem dX1_begin_168 : decode cX1_begin 168 = .ok (.iconst 1, 1) := by decide +kernel
theorem dX1_begin_169 : decode cX1_begin 169 = .ok (.iadd, 1) := by decide +kernel
theorem dX1_begin_170 : decode cX1_begin 170 = .ok (.putfield 67, 3) := by decide +kernel
theorem dX1_begin_173 : decode cX1_begin 173 = .ok (.iconst 1, 1) := by decide +kernel
theorem dX1_begin_174 : decode cX1_begin 174 = .ok (.ireturn, 1) := by decide +kernel
theorem dX1_addNode_0 : decode cX1_addNode 0 = .ok (.aload_n 0, 1) := by decide +kernel
theorem dX1_addNode_1 : decode cX1_addNode 1 = .ok (.getfield 42, 3) := by decide +kernel
theorem dX1_addNode_4 : decode cX1_addNode 4 = .ok (.aload_n 1, 1) := by decide +kernel
theorem dX1_addNode_5 : decode cX1_addNode 5 = .ok (.getfield 310, 3) := by decide +kernel
theorem dX1_addNode_8 : decode cX1_addNode 8 = .ok (.i2l, 1) := by decide +kernel
theorem dX1_addNode_9 : decode cX1_addNode 9 = .ok (.invokevirtual 276, 3) := by decide +kernel
theorem dX1_addNode_12 : decode cX1_addNode 12 = .ok (.aload_n 0, 1) := by decide +kernel
theorem dX1_addNode_13 : decode cX1_addNode 13 = .ok (.getfield 42, 3) := by decide +kernel
theorem dX1_addNode_16 : decode cX1_addNode 16 = .ok (.iload_n 2, 1) := by decide +kernel
theorem dX1_addNode_17 : decode cX1_addNode 17 = .ok (.i2l, 1) := by decide +kernel
theorem dX1_addNode_18 : decode cX1_addNode 18 = .ok (.invokevirtual 276, 3) := by decide +kernel
theorem dX1_addNode_21 : decode cX1_addNode 21 = .ok (.aload_n 0, 1) := by decide +kernel
theorem dX1_addNode_22 : decode cX1_addNode 22 = .ok (.getfield 42, 3) := by decide +kernel
theorem dX1_addNode_25 : decode cX1_addNode 25 = .ok (.aload_n 0, 1) := by decide +kernel
theorem dX1_addNode_26 : decode cX1_addNode 26 = .ok (.getfield 33, 3) := by decide +kernel
theorem dX1_addNode_29 : decode cX1_addNode 29 = .ok (.getfield 376, 3) := by decide +kernel
theorem dX1_addNode_32 : decode cX1_addNode 32 = .ok (.i2l, 1) := by decide +kernel
theorem dX1_addNode_33 : decode cX1_addNode 33 = .ok (.invokevirtual 276, 3) := by decide +kernel
theorem dX1_addNode_36 : decode cX1_addNode 36 = .ok (.aload_n 0, 1) := by decide +kernel
theorem dX1_addNode_37 : decode cX1_addNode 37 = .ok (.getfield 42, 3) := by decide +kernel
theorem dX1_addNode_40 : decode cX1_addNode 40 = .ok (.getfield 298, 3) := by decide +kernel
theorem dX1_addNode_43 : decode cX1_addNode 43 = .ok (.iconst 3, 1) := by decide +kernel
theorem dX1_addNode_44 : decode cX1_addNode 44 = .ok (.idiv, 1) := by decide +kernel
theorem dX1_addNode_45 : decode cX1_addNode 45 = .ok (.iconst 1, 1) := by decide +kernel
theorem dX1_addNode_46 : decode cX1_addNode 46 = .ok (.isub, 1) := by decide +kernel
theorem dX1_addNode_47 : decode cX1_addNode 47 = .ok (.ireturn, 1) := by decide +kernel
theorem dX1_makeContext_0 : decode cX1_makeContext 0 = .ok (.aload_n 0, 1) := by decide +kernel
theorem dX1_makeContext_1 : decode cX1_makeContext 1 = .ok (.getfield 22, 3) := by decide +kernel
theorem dX1_makeContext_4 : decode cX1_makeContext 4 = .ok (.aload_n 1, 1) := by decide +kernel
theorem dX1_makeContext_5 : decode cX1_makeContext 5 = .ok (.getfield 346, 3) := by decide +kernel
theorem dX1_makeContext_8 : decode cX1_makeContext 8 = .ok (.iconst 2, 1) := by decide +kernel
theorem dX1_makeContext_9 : decode cX1_makeContext 9 = .ok (.if_icmp .ne 7, 3) := by decide +kernel
theorem dX1_makeContext_12 : decode cX1_makeContext 12 = .ok (.iconst (-1), 1) := by decide +kernel
theorem dX1_makeContext_13 : decode cX1_makeContext 13 = .ok (.goto 22, 3) := by decide +kernel
theorem dX1_makeContext_16 : decode cX1_makeContext 16 = .ok (.aload_n 1, 1) := by decide +kernel
theorem dX1_makeContext_17 : decode cX1_makeContext 17 = .ok (.getfield 346, 3) := by decide +kernel
theorem dX1_makeContext_20 : decode cX1_makeContext 20 = .ok (.iconst 4, 1) := by decide +kernel
theorem dX1_makeContext_21 : decode cX1_makeContext 21 = .ok (.if_icmp .ne 13, 3) := by decide +kernel
theorem dX1_makeContext_24 : decode cX1_makeContext 24 = .ok (.aload_n 0, 1) := by decide +kernel
theorem dX1_makeContext_25 : decode cX1_makeContext 25 = .ok (.getfield 33, 3) := by decide +kernel
theorem dX1_makeContext_28 : decode cX1_makeContext 28 = .ok (.getfield 376, 3) := by decide +kernel
theorem dX1_makeContext_31 : decode cX1_makeContext 31 = .ok (.goto 4, 3) := by decide +kernel
theorem dX1_makeContext_34 : decode cX1_makeContext 34 = .ok (.iload_n 2, 1) := by decide +kernel
theorem dX1_makeContext_35 : decode cX1_makeContext 35 = .ok (.invokevirtual 379, 3) := by decide +kernel
theorem dX1_makeContext_38 : decode cX1_makeContext 38 = .ok (.aload_n 1, 1) := by decide +kernel
theorem dX1_makeContext_39 : decode cX1_makeContext 39 = .ok (.getfield 346, 3) := by decide +kernel
theorem dX1_makeContext_42 : decode cX1_makeContext 42 = .ok (.iconst 3, 1) := by decide +kernel
theorem dX1_makeContext_43 : decode cX1_makeContext 43 = .ok (.if_icmp .ne 19, 3) := by decide +kernel
theorem dX1_makeContext_46 : decode cX1_makeContext 46 = .ok (.aload_n 0, 1) := by decide +kernel
theorem dX1_makeContext_47 : decode cX1_makeContext 47 = .ok (.getfield 22, 3) := by decide +kernel
theorem dX1_makeContext_50 : decode cX1_makeContext 50 = .ok (.iconst 1, 1) := by decide +kernel
theorem dX1_makeContext_51 : decode cX1_makeContext 51 = .ok (.bipush 8, 2) := by decide +kernel
theorem dX1_makeContext_53 : decode cX1_makeContext 53 = .ok (.aload_n 1, 1) := by decide +kernel
theorem dX1_makeContext_54 : decode cX1_makeContext 54 = .ok (.getfield 382, 3) := by decide +kernel
theorem dX1_makeContext_57 : decode cX1_makeContext 57 = .ok (.iadd, 1) := by decide +kernel
theorem dX1_makeContext_58 : decode cX1_makeContext 58 = .ok (.ishl, 1) := by decide +kernel
theorem dX1_makeContext_59 : decode cX1_makeContext 59 = .ok (.invokevirtual 385, 3) := by decide +kernel
theorem dX1_makeContext_62 : decode cX1_makeContext 62 = .ok (.aload_n 0, 1) := by decide +kernel
theorem dX1_makeContext_63 : decode cX1_makeContext 63 = .ok (.getfield 22, 3) := by decide +kernel
theorem dX1_makeContext_66 : decode cX1_makeContext 66 = .ok (.aload_n 1, 1) := by decide +kernel
theorem dX1_makeContext_67 : decode cX1_makeContext 67 = .ok (.getfield 388, 3) := by decide +kernel
theorem dX1_makeContext_70 : decode cX1_makeContext 70 = .ok (.invokevirtual 391, 3) := by decide +kernel
theorem dX1_makeContext_73 : decode cX1_makeContext 73 = .ok (.ireturn, 1) := by decide +kernel
theorem dX1_back_0 : decode cX1_back 0 = .ok (.aload_n 1, 1) := by decide +kernel
theorem dX1_back_1 : decode cX1_back 1 = .ok (.getfield 200, 3) := by decide +kernel
theorem dX1_back_4 : decode cX1_back 4 = .ok (.invokevirtual 280, 3) := by decide +kernel
theorem dX1_back_7 : decode cX1_back 7 = .ok (.lstore_n 2, 1) := by decide +kernel
theorem dX1_back_8 : decode cX1_back 8 = .ok (.aload_n 1, 1) := by decide +kernel
theorem dX1_back_9 : decode cX1_back 9 = .ok (.invokevirtual 394, 3) := by decide +kernel
theorem dX1_back_12 : decode cX1_back 12 = .ok (.aload_n 1, 1) := by decide +kernel
theorem dX1_back_13 : decode cX1_back 13 = .ok (.getfield 353, 3) := by decide +kernel
theorem dX1_back_16 : decode cX1_back 16 = .ok (.ifCond .le 9, 3) := by decide +kernel
theorem dX1_back_19 : decode cX1_back 19 = .ok (.aload_n 1, 1) := by decide +kernel
theorem dX1_back_20 : decode cX1_back 20 = .ok (.lload_n 2, 1) := by decide +kernel
theorem dX1_back_21 : decode cX1_back 21 = .ok (.invokestatic 194, 3) := by decide +kernel
theorem dX1_back_24 : decode cX1_back 24 = .ok (.ireturn, 1) := by decide +kernel
theorem dX1_back_25 : decode cX1_back 25 = .ok (.aload_n 1, 1) := by decide +kernel
theorem dX1_back_26 : decode cX1_back 26 = .ok (.iconst 1, 1) := by decide +kernel
theorem dX1_back_27 : decode cX1_back 27 = .ok (.lload_n 2, 1) := by decide +kernel
theorem dX1_back_28 : decode cX1_back 28 = .ok (.invokevirtual 397, 3) := by decide +kernel
theorem dX1_back_31 : decode cX1_back 31 = .ok (.iconst 1, 1) := by decide +kernel
theorem dX1_back_32 : decode cX1_back 32 = .ok (.ireturn, 1) := by decide +kernel
theorem dX1_raise_0 : decode cX1_raise 0 = .ok (.aload_n 1, 1) := by decide +kernel
theorem dX1_raise_1 : decode cX1_raise 1 = .ok (.getfield 288, 3) := by decide +kernel
theorem dX1_raise_4 : decode cX1_raise 4 = .ok (.istore_n 2, 1) := by decide +kernel
theorem dX1_raise_5 : decode cX1_raise 5 = .ok (.iconst 0, 1) := by decide +kernel
theorem dX1_raise_6 : decode cX1_raise 6 = .ok (.istore_n 3, 1) := by decide +kernel
theorem dX1_raise_7 : decode cX1_raise 7 = .ok (.iload_n 3, 1) := by decide +kernel
theorem dX1_raise_8 : decode cX1_raise 8 = .ok (.bipush 60, 2) := by decide +kernel
theorem dX1_raise_10 : decode cX1_raise 10 = .ok (.if_icmp .gt 48, 3) := by decide +kernel
theorem dX1_raise_13 : decode cX1_raise 13 = .ok (.aload_n 1, 1) := by decide +kernel
theorem dX1_raise_14 : decode cX1_raise 14 = .ok (.getfield 353, 3) := by decide +kernel
theorem dX1_raise_17 : decode cX1_raise 17 = .ok (.ifCond .le 41, 3) := by decide +kernel
theorem dX1_raise_20 : decode cX1_raise 20 = .ok (.aload_n 1, 1) := by decide +kernel
theorem dX1_raise_21 : decode cX1_raise 21 = .ok (.invokevirtual 400, 3) := by decide +kernel
theorem dX1_raise_24 : decode cX1_raise 24 = .ok (.istore 4, 2) := by decide +kernel
theorem dX1_raise_26 : decode cX1_raise 26 = .ok (.iload 4, 2) := by decide +kernel
theorem dX1_raise_28 : decode cX1_raise 28 = .ok (.iconst (-1), 1) := by decide +kernel
theorem dX1_raise_29 : decode cX1_raise 29 = .ok (.if_icmp .eq 19, 3) := by decide +kernel
theorem dX1_raise_32 : decode cX1_raise 32 = .ok (.aload_n 1, 1) := by decide +kernel
theorem dX1_raise_33 : decode cX1_raise 33 = .ok (.iload 4, 2) := by decide +kernel
theorem dX1_raise_35 : decode cX1_raise 35 = .ok (.invokevirtual 184, 3) := by decide +kernel
theorem dX1_raise_38 : decode cX1_raise 38 = .ok (.aload_n 1, 1) := by decide +kernel
theorem dX1_raise_39 : decode cX1_raise 39 = .ok (.iconst 0, 1) := by decide +kernel
theorem dX1_raise_40 : decode cX1_raise 40 = .ok (.iload_n 2, 1) := by decide +kernel
theorem dX1_raise_41 : decode cX1_raise 41 = .ok (.invokestatic 190, 3) := by decide +kernel
theorem dX1_raise_44 : decode cX1_raise 44 = .ok (.invokestatic 194, 3) := by decide +kernel
theorem dX1_raise_47 : decode cX1_raise 47 = .ok (.ireturn, 1) := by decide +kernel
theorem dX1_raise_48 : decode cX1_raise 48 = .ok (.aload_n 1, 1) := by decide +kernel
theorem dX1_raise_49 : decode cX1_raise 49 = .ok (.invokevirtual 394, 3) := by decide +kernel
theorem dX1_raise_52 : decode cX1_raise 52 = .ok (.iinc 3 1, 3) := by decide +kernel
theorem dX1_raise_55 : decode cX1_raise 55 = .ok (.goto (-48), 3) := by decide +kernel
theorem dX1_raise_58 : decode cX1_raise 58 = .ok (.aload_n 1, 1) := by decide +kernel
theorem dX1_raise_59 : decode cX1_raise 59 = .ok (.iconst 2, 1) := by decide +kernel
theorem dX1_raise_60 : decode cX1_raise 60 = .ok (.iconst 0, 1) := by decide +kernel
theorem dX1_raise_61 : decode cX1_raise 61 = .ok (.iload_n 2, 1) := by decide +kernel
theorem dX1_raise_62 : decode cX1_raise 62 = .ok (.invokestatic 190, 3) := by decide +kernel
theorem dX1_raise_65 : decode cX1_raise 65 = .ok (.invokevirtual 397, 3) := by decide +kernel
theorem dX1_raise_68 : decode cX1_raise 68 = .ok (.aload_n 0, 1) := by decide +kernel
theorem dX1_raise_69 : decode cX1_raise 69 = .ok (.aload_n 1, 1) := by decide +kernel
theorem dX1_raise_70 : decode cX1_raise 70 = .ok (.iconst 2, 1) := by decide +kernel
theorem dX1_raise_71 : decode cX1_raise 71 = .ok (.iload_n 2, 1) := by decide +kernel
theorem dX1_raise_72 : decode cX1_raise 72 = .ok (.iconst (-1), 1) := by decide +kernel
theorem dX1_raise_73 : decode cX1_raise 73 = .ok (.iconst (-1), 1) := by decide +kernel
theorem dX1_raise_74 : decode cX1_raise 74 = .ok (.invokevirtual 403, 3) := by decide +kernel
theorem dX1_raise_77 : decode cX1_raise 77 = .ok (.iconst 1, 1) := by decide +kernel
theorem dX1_raise_78 : decode cX1_raise 78 = .ok (.ireturn, 1) := by decide +kernel
theorem dX1_record_0 : decode cX1_record 0 = .ok (.aload_n 0, 1) := by decide +kernel
theorem dX1_record_1 : decode cX1_record 1 = .ok (.getfield 77, 3) := by decide +kernel
theorem dX1_record_4 : decode cX1_record 4 = .ok (.sipush 200, 3) := by decide +kernel
theorem dX1_record_7 : decode cX1_record 7 = .ok (.if_icmp .ge 53, 3) := by decide +kernel
theorem dX1_record_10 : decode cX1_record 10 = .ok (.aload_n 0, 1) := by decide +kernel
theorem dX1_record_11 : decode cX1_record 11 = .ok (.getfield 52, 3) := by decide +kernel
theorem dX1_record_14 : decode cX1_record 14 = .ok (.aload_n 1, 1) := by decide +kernel
theorem dX1_record_15 : decode cX1_record 15 = .ok (.getfield 407, 3) := by decide +kernel
theorem dX1_record_18 : decode cX1_record 18 = .ok (.i2l, 1) := by decide +kernel
theorem dX1_record_19 : decode cX1_record 19 = .ok (.invokevirtual 276, 3) := by decide +kernel
theorem dX1_record_22 : decode cX1_record 22 = .ok (.aload_n 0, 1) := by decide +kernel
theorem dX1_record_23 : decode cX1_record 23 = .ok (.getfield 52, 3) := by decide +kernel
theorem dX1_record_26 : decode cX1_record 26 = .ok (.iload_n 2, 1) := by decide +kernel
theorem dX1_record_27 : decode cX1_record 27 = .ok (.i2l, 1) := by decide +kernel
theorem dX1_record_28 : decode cX1_record 28 = .ok (.invokevirtual 276, 3) := by decide +kernel
theorem dX1_record_31 : decode cX1_record 31 = .ok (.aload_n 0, 1) := by decide +kernel
theorem dX1_record_32 : decode cX1_record 32 = .ok (.getfield 52, 3) := by decide +kernel
theorem dX1_record_35 : decode cX1_record 35 = .ok (.iload_n 3, 1) := by decide +kernel
theorem dX1_record_36 : decode cX1_record 36 = .ok (.i2l, 1) := by decide +kernel
theorem dX1_record_37 : decode cX1_record 37 = .ok (.invokevirtual 276, 3) := by decide +kernel
theorem dX1_record_40 : decode cX1_record 40 = .ok (.aload_n 0, 1) := by decide +kernel
theorem dX1_record_41 : decode cX1_record 41 = .ok (.getfield 52, 3) := by decide +kernel
theorem dX1_record_44 : decode cX1_record 44 = .ok (.iload 4, 2) := by decide +kernel
theorem dX1_record_46 : decode cX1_record 46 = .ok (.i2l, 1) := by decide +kernel
theorem dX1_record_47 : decode cX1_record 47 = .ok (.invokevirtual 276, 3) := by decide +kernel
theorem dX1_record_50 : decode cX1_record 50 = .ok (.aload_n 0, 1) := by decide +kernel
theorem dX1_record_51 : decode cX1_record 51 = .ok (.getfield 52, 3) := by decide +kernel
theorem dX1_record_54 : decode cX1_record 54 = .ok (.iload 5, 2) := by decide +kernel
theorem dX1_record_56 : decode cX1_record 56 = .ok (.i2l, 1) := by decide +kernel
theorem dX1_record_57 : decode cX1_record 57 = .ok (.invokevirtual 276, 3) := by decide +kernel
theorem dX1_record_60 : decode cX1_record 60 = .ok (.aload_n 0, 1) := by decide +kernel
theorem dX1_record_61 : decode cX1_record 61 = .ok (.dup, 1) := by decide +kernel
theorem dX1_record_62 : decode cX1_record 62 = .ok (.getfield 77, 3) := by decide +kernel
theorem dX1_record_65 : decode cX1_record 65 = .ok (.iconst 1, 1) := by decide +kernel
theorem dX1_record_66 : decode cX1_record 66 = .ok (.iadd, 1) := by decide +kernel
theorem dX1_record_67 : decode cX1_record 67 = .ok (.putfield 77, 3) := by decide +kernel
theorem dX1_record_70 : decode cX1_record 70 = .ok (.return_, 1) := by decide +kernel
theorem dX1_writeOut_0 : decode cX1_writeOut 0 = .ok (.aload_n 1, 1) := by decide +kernel
theorem dX1_writeOut_1 : decode cX1_writeOut 1 = .ok (.iconst 0, 1) := by decide +kernel
theorem dX1_writeOut_2 : decode cX1_writeOut 2 = .ok (.invokevirtual 329, 3) := by decide +kernel
theorem dX1_writeOut_5 : decode cX1_writeOut 5 = .ok (.lstore_n 2, 1) := by decide +kernel
theorem dX1_writeOut_6 : decode cX1_writeOut 6 = .ok (.lload_n 2, 1) := by decide +kernel
theorem dX1_writeOut_7 : decode cX1_writeOut 7 = .ok (.invokestatic 291, 3) := by decide +kernel
theorem dX1_writeOut_10 : decode cX1_writeOut 10 = .ok (.ifCond .eq 9, 3) := by decide +kernel
theorem dX1_writeOut_13 : decode cX1_writeOut 13 = .ok (.aload_n 1, 1) := by decide +kernel
theorem dX1_writeOut_14 : decode cX1_writeOut 14 = .ok (.iconst 5, 1) := by decide +kernel
theorem dX1_writeOut_15 : decode cX1_writeOut 15 = .ok (.invokestatic 295, 3) := by decide +kernel
theorem dX1_writeOut_18 : decode cX1_writeOut 18 = .ok (.ireturn, 1) := by decide +kernel
theorem dX1_writeOut_19 : decode cX1_writeOut 19 = .ok (.aload_n 0, 1) := by decide +kernel
theorem dX1_writeOut_20 : decode cX1_writeOut 20 = .ok (.aload_n 1, 1) := by decide +kernel
theorem dX1_writeOut_21 : decode cX1_writeOut 21 = .ok (.iconst 0, 1) := by decide +kernel
theorem dX1_writeOut_22 : decode cX1_writeOut 22 = .ok (.lload_n 2, 1) := by decide +kernel
theorem dX1_writeOut_23 : decode cX1_writeOut 23 = .ok (.l2i, 1) := by decide +kernel
theorem dX1_writeOut_24 : decode cX1_writeOut 24 = .ok (.iconst (-1), 1) := by decide +kernel
theorem dX1_writeOut_25 : decode cX1_writeOut 25 = .ok (.iconst (-1), 1) := by decide +kernel
theorem dX1_writeOut_26 : decode cX1_writeOut 26 = .ok (.invokevirtual 403, 3) := by decide +kernel
theorem dX1_writeOut_29 : decode cX1_writeOut 29 = .ok (.iconst 1, 1) := by decide +kernel
theorem dX1_writeOut_30 : decode cX1_writeOut 30 = .ok (.ireturn, 1) := by decide +kernel
theorem dX1_failWith_0 : decode cX1_failWith 0 = .ok (.aload_n 1, 1) := by decide +kernel
theorem dX1_failWith_1 : decode cX1_failWith 1 = .ok (.getfield 200, 3) := by decide +kernel
theorem dX1_failWith_4 : decode cX1_failWith 4 = .ok (.invokevirtual 280, 3) := by decide +kernel
theorem dX1_failWith_7 : decode cX1_failWith 7 = .ok (.lstore_n 2, 1) := by decide +kernel
theorem dX1_failWith_8 : decode cX1_failWith 8 = .ok (.aload_n 1, 1) := by decide +kernel
theorem dX1_failWith_9 : decode cX1_failWith 9 = .ok (.lload_n 2, 1) := by decide +kernel
theorem dX1_failWith_10 : decode cX1_failWith 10 = .ok (.invokestatic 291, 3) := by decide +kernel
theorem dX1_failWith_13 : decode cX1_failWith 13 = .ok (.ifCond .ne 8, 3) := by decide +kernel
theorem dX1_failWith_16 : decode cX1_failWith 16 = .ok (.lload_n 2, 1) := by decide +kernel
theorem dX1_failWith_17 : decode cX1_failWith 17 = .ok (.l2i, 1) := by decide +kernel
theorem dX1_failWith_18 : decode cX1_failWith 18 = .ok (.goto 4, 3) := by decide +kernel
theorem dX1_failWith_21 : decode cX1_failWith 21 = .ok (.iconst 5, 1) := by decide +kernel
theorem dX1_failWith_22 : decode cX1_failWith 22 = .ok (.invokestatic 295, 3) := by decide +kernel
theorem dX1_failWith_25 : decode cX1_failWith 25 = .ok (.ireturn, 1) := by decide +kernel
theorem dX1_spawn_0 : decode cX1_spawn 0 = .ok (.aload_n 1, 1) := by decide +kernel
theorem dX1_spawn_1 : decode cX1_spawn 1 = .ok (.getfield 200, 3) := by decide +kernel
theorem dX1_spawn_4 : decode cX1_spawn 4 = .ok (.invokevirtual 280, 3) := by decide +kernel
theorem dX1_spawn_7 : decode cX1_spawn 7 = .ok (.lstore_n 2, 1) := by decide +kernel
theorem dX1_spawn_8 : decode cX1_spawn 8 = .ok (.lload_n 2, 1) := by decide +kernel
theorem dX1_spawn_9 : decode cX1_spawn 9 = .ok (.invokestatic 291, 3) := by decide +kernel
theorem dX1_spawn_12 : decode cX1_spawn 12 = .ok (.iconst 3, 1) := by decide +kernel
theorem dX1_spawn_13 : decode cX1_spawn 13 = .ok (.if_icmp .eq 9, 3) := by decide +kernel
theorem dX1_spawn_16 : decode cX1_spawn 16 = .ok (.aload_n 1, 1) := by decide +kernel
theorem dX1_spawn_17 : decode cX1_spawn 17 = .ok (.iconst 3, 1) := by decide +kernel
theorem dX1_spawn_18 : decode cX1_spawn 18 = .ok (.invokestatic 295, 3) := by decide +kernel
theorem dX1_spawn_21 : decode cX1_spawn 21 = .ok (.ireturn, 1) := by decide +kernel
theorem dX1_spawn_22 : decode cX1_spawn 22 = .ok (.aload_n 0, 1) := by decide +kernel
theorem dX1_spawn_23 : decode cX1_spawn 23 = .ok (.getfield 11, 3) := by decide +kernel
theorem dX1_spawn_26 : decode cX1_spawn 26 = .ok (.aload_n 0, 1) := by decide +kernel
theorem dX1_spawn_27 : decode cX1_spawn 27 = .ok (.lload_n 2, 1) := by decide +kernel
theorem dX1_spawn_28 : decode cX1_spawn 28 = .ok (.invokevirtual 316, 3) := by decide +kernel
theorem dX1_spawn_31 : decode cX1_spawn 31 = .ok (.invokevirtual 161, 3) := by decide +kernel
theorem dX1_spawn_34 : decode cX1_spawn 34 = .ok (.astore 4, 2) := by decide +kernel
theorem dX1_spawn_36 : decode cX1_spawn 36 = .ok (.aload 4, 2) := by decide +kernel
theorem dX1_spawn_38 : decode cX1_spawn 38 = .ok (.getfield 339, 3) := by decide +kernel
theorem dX1_spawn_41 : decode cX1_spawn 41 = .ok (.ifCond .eq 9, 3) := by decide +kernel
theorem dX1_spawn_44 : decode cX1_spawn 44 = .ok (.aload_n 1, 1) := by decide +kernel
theorem dX1_spawn_45 : decode cX1_spawn 45 = .ok (.iconst 4, 1) := by decide +kernel
theorem dX1_spawn_46 : decode cX1_spawn 46 = .ok (.invokestatic 295, 3) := by decide +kernel
theorem dX1_spawn_49 : decode cX1_spawn 49 = .ok (.ireturn, 1) := by decide +kernel
theorem dX1_spawn_50 : decode cX1_spawn 50 = .ok (.aload_n 0, 1) := by decide +kernel
theorem dX1_spawn_51 : decode cX1_spawn 51 = .ok (.getfield 67, 3) := by decide +kernel
theorem dX1_spawn_54 : decode cX1_spawn 54 = .ok (.bipush 8, 2) := by decide +kernel
theorem dX1_spawn_56 : decode cX1_spawn 56 = .ok (.if_icmp .lt 10, 3) := by decide +kernel
theorem dX1_spawn_59 : decode cX1_spawn 59 = .ok (.aload_n 1, 1) := by decide +kernel
theorem dX1_spawn_60 : decode cX1_spawn 60 = .ok (.bipush 7, 2) := by decide +kernel
theorem dX1_spawn_62 : decode cX1_spawn 62 = .ok (.invokestatic 295, 3) := by decide +kernel
theorem dX1_spawn_65 : decode cX1_spawn 65 = .ok (.ireturn, 1) := by decide +kernel
theorem dX1_spawn_66 : decode cX1_spawn 66 = .ok (.aload_n 0, 1) := by decide +kernel
theorem dX1_spawn_67 : decode cX1_spawn 67 = .ok (.aload_n 0, 1) := by decide +kernel
theorem dX1_spawn_68 : decode cX1_spawn 68 = .ok (.getfield 67, 3) := by decide +kernel
theorem dX1_spawn_71 : decode cX1_spawn 71 = .ok (.invokevirtual 118, 3) := by decide +kernel
theorem dX1_spawn_74 : decode cX1_spawn 74 = .ok (.astore 5, 2) := by decide +kernel
theorem dX1_spawn_76 : decode cX1_spawn 76 = .ok (.aload 5, 2) := by decide +kernel
theorem dX1_spawn_78 : decode cX1_spawn 78 = .ok (.aload_n 0, 1) := by decide +kernel
theorem dX1_spawn_79 : decode cX1_spawn 79 = .ok (.getfield 67, 3) := by decide +kernel
theorem dX1_spawn_82 : decode cX1_spawn 82 = .ok (.invokevirtual 98, 3) := by decide +kernel
theorem dX1_spawn_85 : decode cX1_spawn 85 = .ok (.aload_n 0, 1) := by decide +kernel
theorem dX1_spawn_86 : decode cX1_spawn 86 = .ok (.aload 5, 2) := by decide +kernel
theorem dX1_spawn_88 : decode cX1_spawn 88 = .ok (.lload_n 2, 1) := by decide +kernel
theorem dX1_spawn_89 : decode cX1_spawn 89 = .ok (.aload 4, 2) := by decide +kernel
theorem dX1_spawn_91 : decode cX1_spawn 91 = .ok (.invokevirtual 342, 3) := by decide +kernel
theorem dX1_spawn_94 : decode cX1_spawn 94 = .ok (.aload_n 0, 1) := by decide +kernel
theorem dX1_spawn_95 : decode cX1_spawn 95 = .ok (.aload 5, 2) := by decide +kernel
theorem dX1_spawn_97 : decode cX1_spawn 97 = .ok (.aload 4, 2) := by decide +kernel
theorem dX1_spawn_99 : decode cX1_spawn 99 = .ok (.iconst 0, 1) := by decide +kernel
theorem dX1_spawn_100 : decode cX1_spawn 100 = .ok (.iconst 0, 1) := by decide +kernel
theorem dX1_spawn_101 : decode cX1_spawn 101 = .ok (.iconst (-1), 1) := by decide +kernel
theorem dX1_spawn_102 : decode cX1_spawn 102 = .ok (.invokevirtual 336, 3) := by decide +kernel
theorem dX1_spawn_105 : decode cX1_spawn 105 = .ok (.ireturn, 1) := by decide +kernel
theorem dX1_await_0 : decode cX1_await 0 = .ok (.aload_n 1, 1) := by decide +kernel
theorem dX1_await_1 : decode cX1_await 1 = .ok (.getfield 200, 3) := by decide +kernel
theorem dX1_await_4 : decode cX1_await 4 = .ok (.invokevirtual 280, 3) := by decide +kernel
theorem dX1_await_7 : decode cX1_await 7 = .ok (.lstore_n 2, 1) := by decide +kernel
theorem dX1_await_8 : decode cX1_await 8 = .ok (.lload_n 2, 1) := by decide +kernel
theorem dX1_await_9 : decode cX1_await 9 = .ok (.invokestatic 291, 3) := by decide +kernel
theorem dX1_await_12 : decode cX1_await 12 = .ok (.ifCond .eq 9, 3) := by decide +kernel
theorem dX1_await_15 : decode cX1_await 15 = .ok (.aload_n 1, 1) := by decide +kernel
theorem dX1_await_16 : decode cX1_await 16 = .ok (.iconst 5, 1) := by decide +kernel
theorem dX1_await_17 : decode cX1_await 17 = .ok (.invokestatic 295, 3) := by decide +kernel
theorem dX1_await_20 : decode cX1_await 20 = .ok (.ireturn, 1) := by decide +kernel
theorem dX1_await_21 : decode cX1_await 21 = .ok (.lload_n 2, 1) := by decide +kernel
theorem dX1_await_22 : decode cX1_await 22 = .ok (.l2i, 1) := by decide +kernel
theorem dX1_await_23 : decode cX1_await 23 = .ok (.istore 4, 2) := by decide +kernel
theorem dX1_await_25 : decode cX1_await 25 = .ok (.iload 4, 2) := by decide +kernel
theorem dX1_await_27 : decode cX1_await 27 = .ok (.ifCond .lt 21, 3) := by decide +kernel
theorem dX1_await_30 : decode cX1_await 30 = .ok (.iload 4, 2) := by decide +kernel
theorem dX1_await_32 : decode cX1_await 32 = .ok (.aload_n 0, 1) := by decide +kernel
theorem dX1_await_33 : decode cX1_await 33 = .ok (.getfield 67, 3) := by decide +kernel
theorem dX1_await_36 : decode cX1_await 36 = .ok (.if_icmp .ge 12, 3) := by decide +kernel
theorem dX1_await_39 : decode cX1_await 39 = .ok (.iload 4, 2) := by decide +kernel
theorem dX1_await_41 : decode cX1_await 41 = .ok (.aload_n 1, 1) := by decide +kernel
theorem dX1_await_42 : decode cX1_await 42 = .ok (.getfield 407, 3) := by decide +kernel
theorem dX1_await_45 : decode cX1_await 45 = .ok (.if_icmp .ne 10, 3) := by decide +kernel
theorem dX1_await_48 : decode cX1_await 48 = .ok (.aload_n 1, 1) := by decide +kernel
theorem dX1_await_49 : decode cX1_await 49 = .ok (.bipush 8, 2) := by decide +kernel
theorem dX1_await_51 : decode cX1_await 51 = .ok (.invokestatic 295, 3) := by decide +kernel
theorem dX1_await_54 : decode cX1_await 54 = .ok (.ireturn, 1) := by decide +kernel
theorem dX1_await_55 : decode cX1_await 55 = .ok (.aload_n 0, 1) := by decide +kernel
theorem dX1_await_56 : decode cX1_await 56 = .ok (.iload 4, 2) := by decide +kernel
theorem dX1_await_58 : decode cX1_await 58 = .ok (.invokevirtual 137, 3) := by decide +kernel
theorem dX1_await_61 : decode cX1_await 61 = .ok (.ifCond .eq 15, 3) := by decide +kernel
theorem dX1_await_64 : decode cX1_await 64 = .ok (.aload_n 0, 1) := by decide +kernel
theorem dX1_await_65 : decode cX1_await 65 = .ok (.aload_n 1, 1) := by decide +kernel
theorem dX1_await_66 : decode cX1_await 66 = .ok (.aload_n 0, 1) := by decide +kernel
theorem dX1_await_67 : decode cX1_await 67 = .ok (.iload 4, 2) := by decide +kernel
theorem dX1_await_69 : decode cX1_await 69 = .ok (.invokevirtual 118, 3) := by decide +kernel
theorem dX1_await_72 : decode cX1_await 72 = .ok (.invokevirtual 148, 3) := by decide +kernel
theorem dX1_await_75 : decode cX1_await 75 = .ok (.ireturn, 1) := by decide +kernel
theorem dX1_await_76 : decode cX1_await 76 = .ok (.aload_n 1, 1) := by decide +kernel
theorem dX1_await_77 : decode cX1_await 77 = .ok (.iload 4, 2) := by decide +kernel
theorem dX1_await_79 : decode cX1_await 79 = .ok (.putfield 141, 3) := by decide +kernel
theorem dX1_await_82 : decode cX1_await 82 = .ok (.iconst 1, 1) := by decide +kernel
theorem dX1_await_83 : decode cX1_await 83 = .ok (.ireturn, 1) := by decide +kernel
theorem dX1_takeOutcome_0 : decode cX1_takeOutcome 0 = .ok (.aload_n 2, 1) := by decide +kernel
theorem dX1_takeOutcome_1 : decode cX1_takeOutcome 1 = .ok (.getfield 134, 3) := by decide +kernel
theorem dX1_takeOutcome_4 : decode cX1_takeOutcome 4 = .ok (.iconst 2, 1) := by decide +kernel
theorem dX1_takeOutcome_5 : decode cX1_takeOutcome 5 = .ok (.if_icmp .ne 13, 3) := by decide +kernel
theorem dX1_takeOutcome_8 : decode cX1_takeOutcome 8 = .ok (.aload_n 1, 1) := by decide +kernel
theorem dX1_takeOutcome_9 : decode cX1_takeOutcome 9 = .ok (.aload_n 2, 1) := by decide +kernel
theorem dX1_takeOutcome_10 : decode cX1_takeOutcome 10 = .ok (.getfield 408, 3) := by decide +kernel
theorem dX1_takeOutcome_13 : decode cX1_takeOutcome 13 = .ok (.l2i, 1) := by decide +kernel
theorem dX1_takeOutcome_14 : decode cX1_takeOutcome 14 = .ok (.invokestatic 295, 3) := by decide +kernel
theorem dX1_takeOutcome_17 : decode cX1_takeOutcome 17 = .ok (.ireturn, 1) := by decide +kernel
theorem dX1_takeOutcome_18 : decode cX1_takeOutcome 18 = .ok (.aload_n 1, 1) := by decide +kernel
theorem dX1_takeOutcome_19 : decode cX1_takeOutcome 19 = .ok (.aload_n 2, 1) := by decide +kernel
theorem dX1_takeOutcome_20 : decode cX1_takeOutcome 20 = .ok (.getfield 408, 3) := by decide +kernel
theorem dX1_takeOutcome_23 : decode cX1_takeOutcome 23 = .ok (.invokestatic 194, 3) := by decide +kernel
theorem dX1_takeOutcome_26 : decode cX1_takeOutcome 26 = .ok (.ireturn, 1) := by decide +kernel
theorem dX1_ask_0 : decode cX1_ask 0 = .ok (.iconst (-1), 1) := by decide +kernel
theorem dX1_ask_1 : decode cX1_ask 1 = .ok (.istore 4, 2) := by decide +kernel
theorem dX1_ask_3 : decode cX1_ask 3 = .ok (.aload_n 0, 1) := by decide +kernel
theorem dX1_ask_4 : decode cX1_ask 4 = .ok (.getfield 15, 3) := by decide +kernel
theorem dX1_ask_7 : decode cX1_ask 7 = .ok (.iload_n 2, 1) := by decide +kernel
theorem dX1_ask_8 : decode cX1_ask 8 = .ok (.invokevirtual 412, 3) := by decide +kernel
theorem dX1_ask_11 : decode cX1_ask 11 = .ok (.ifCond .eq 44, 3) := by decide +kernel
theorem dX1_ask_14 : decode cX1_ask 14 = .ok (.aload_n 1, 1) := by decide +kernel
theorem dX1_ask_15 : decode cX1_ask 15 = .ok (.getfield 200, 3) := by decide +kernel
theorem dX1_ask_18 : decode cX1_ask 18 = .ok (.invokevirtual 280, 3) := by decide +kernel
theorem dX1_ask_21 : decode cX1_ask 21 = .ok (.lstore 5, 2) := by decide +kernel
theorem dX1_ask_23 : decode cX1_ask 23 = .ok (.lload 5, 2) := by decide +kernel
theorem dX1_ask_25 : decode cX1_ask 25 = .ok (.l2i, 1) := by decide +kernel
theorem dX1_ask_26 : decode cX1_ask 26 = .ok (.istore 4, 2) := by decide +kernel
theorem dX1_ask_28 : decode cX1_ask 28 = .ok (.lload 5, 2) := by decide +kernel
theorem dX1_ask_30 : decode cX1_ask 30 = .ok (.invokestatic 291, 3) := by decide +kernel
theorem dX1_ask_33 : decode cX1_ask 33 = .ok (.ifCond .ne 16, 3) := by decide +kernel
theorem dX1_ask_36 : decode cX1_ask 36 = .ok (.iload 4, 2) := by decide +kernel
theorem dX1_ask_38 : decode cX1_ask 38 = .ok (.ifCond .lt 11, 3) := by decide +kernel
theorem dX1_ask_41 : decode cX1_ask 41 = .ok (.iload 4, 2) := by decide +kernel
theorem dX1_ask_43 : decode cX1_ask 43 = .ok (.sipush 999, 3) := by decide +kernel
theorem dX1_ask_46 : decode cX1_ask 46 = .ok (.if_icmp .le 9, 3) := by decide +kernel
theorem dX1_ask_49 : decode cX1_ask 49 = .ok (.aload_n 1, 1) := by decide +kernel
theorem dX1_ask_50 : decode cX1_ask 50 = .ok (.iconst 5, 1) := by decide +kernel
theorem dX1_ask_51 : decode cX1_ask 51 = .ok (.invokestatic 295, 3) := by decide +kernel
theorem dX1_ask_54 : decode cX1_ask 54 = .ok (.ireturn, 1) := by decide +kernel
theorem dX1_ask_55 : decode cX1_ask 55 = .ok (.aload_n 0, 1) := by decide +kernel
theorem dX1_ask_56 : decode cX1_ask 56 = .ok (.getfield 15, 3) := by decide +kernel
theorem dX1_ask_59 : decode cX1_ask 59 = .ok (.iload_n 2, 1) := by decide +kernel
theorem dX1_ask_60 : decode cX1_ask 60 = .ok (.invokevirtual 417, 3) := by decide +kernel
theorem dX1_ask_63 : decode cX1_ask 63 = .ok (.istore 5, 2) := by decide +kernel
theorem dX1_ask_65 : decode cX1_ask 65 = .ok (.iload 4, 2) := by decide +kernel
theorem dX1_ask_67 : decode cX1_ask 67 = .ok (.iconst (-1), 1) := by decide +kernel
theorem dX1_ask_68 : decode cX1_ask 68 = .ok (.if_icmp .eq 29, 3) := by decide +kernel
theorem dX1_ask_71 : decode cX1_ask 71 = .ok (.aload_n 0, 1) := by decide +kernel
theorem dX1_ask_72 : decode cX1_ask 72 = .ok (.getfield 15, 3) := by decide +kernel
theorem dX1_ask_75 : decode cX1_ask 75 = .ok (.iload_n 2, 1) := by decide +kernel
theorem dX1_ask_76 : decode cX1_ask 76 = .ok (.iload 4, 2) := by decide +kernel
theorem dX1_ask_78 : decode cX1_ask 78 = .ok (.invokevirtual 420, 3) := by decide +kernel
theorem dX1_ask_81 : decode cX1_ask 81 = .ok (.aload_n 0, 1) := by decide +kernel
theorem dX1_ask_82 : decode cX1_ask 82 = .ok (.getfield 15, 3) := by decide +kernel
theorem dX1_ask_85 : decode cX1_ask 85 = .ok (.aload_n 0, 1) := by decide +kernel
theorem dX1_ask_86 : decode cX1_ask 86 = .ok (.getfield 15, 3) := by decide +kernel
theorem dX1_ask_89 : decode cX1_ask 89 = .ok (.getfield 423, 3) := by decide +kernel
theorem dX1_ask_92 : decode cX1_ask 92 = .ok (.invokevirtual 427, 3) := by decide +kernel
theorem dX1_ask_95 : decode cX1_ask 95 = .ok (.istore 5, 2) := by decide +kernel
theorem dX1_ask_97 : decode cX1_ask 97 = .ok (.aload_n 0, 1) := by decide +kernel
theorem dX1_ask_98 : decode cX1_ask 98 = .ok (.getfield 95, 3) := by decide +kernel
theorem dX1_ask_101 : decode cX1_ask 101 = .ok (.ifCond .eq 19, 3) := by decide +kernel
theorem dX1_ask_104 : decode cX1_ask 104 = .ok (.aload_n 0, 1) := by decide +kernel
theorem dX1_ask_105 : decode cX1_ask 105 = .ok (.getfield 22, 3) := by decide +kernel
theorem dX1_ask_108 : decode cX1_ask 108 = .ok (.aload_n 1, 1) := by decide +kernel
theorem dX1_ask_109 : decode cX1_ask 109 = .ok (.invokevirtual 267, 3) := by decide +kernel
theorem dX1_ask_112 : decode cX1_ask 112 = .ok (.iload 5, 2) := by decide +kernel
theorem dX1_ask_114 : decode cX1_ask 114 = .ok (.invokevirtual 431, 3) := by decide +kernel
theorem dX1_ask_117 : decode cX1_ask 117 = .ok (.goto 13, 3) := by decide +kernel
theorem dX1_ask_120 : decode cX1_ask 120 = .ok (.aload_n 0, 1) := by decide +kernel
theorem dX1_ask_121 : decode cX1_ask 121 = .ok (.aload_n 1, 1) := by decide +kernel
theorem dX1_ask_122 : decode cX1_ask 122 = .ok (.invokevirtual 270, 3) := by decide +kernel
theorem dX1_ask_125 : decode cX1_ask 125 = .ok (.iload 5, 2) := by decide +kernel
theorem dX1_ask_127 : decode cX1_ask 127 = .ok (.invokevirtual 435, 3) := by decide +kernel
theorem dX1_ask_130 : decode cX1_ask 130 = .ok (.istore 6, 2) := by decide +kernel
theorem dX1_ask_132 : decode cX1_ask 132 = .ok (.iload 6, 2) := by decide +kernel
theorem dX1_ask_134 : decode cX1_ask 134 = .ok (.ifCond .eq 7, 3) := by decide +kernel
theorem dX1_ask_137 : decode cX1_ask 137 = .ok (.iconst 1, 1) := by decide +kernel
theorem dX1_ask_138 : decode cX1_ask 138 = .ok (.goto 4, 3) := by decide +kernel
theorem dX1_ask_141 : decode cX1_ask 141 = .ok (.iconst 0, 1) := by decide +kernel
theorem dX1_ask_142 : decode cX1_ask 142 = .ok (.istore 7, 2) := by decide +kernel
theorem dX1_ask_144 : decode cX1_ask 144 = .ok (.iload_n 3, 1) := by decide +kernel
theorem dX1_ask_145 : decode cX1_ask 145 = .ok (.ifCond .eq 14, 3) := by decide +kernel
theorem dX1_ask_148 : decode cX1_ask 148 = .ok (.aload_n 0, 1) := by decide +kernel
theorem dX1_ask_149 : decode cX1_ask 149 = .ok (.aload_n 1, 1) := by decide +kernel
theorem dX1_ask_150 : decode cX1_ask 150 = .ok (.iconst 1, 1) := by decide +kernel
theorem dX1_ask_151 : decode cX1_ask 151 = .ok (.iload 7, 2) := by decide +kernel
theorem dX1_ask_153 : decode cX1_ask 153 = .ok (.iload_n 2, 1) := by decide +kernel
theorem dX1_ask_154 : decode cX1_ask 154 = .ok (.iload 4, 2) := by decide +kernel
theorem dX1_ask_156 : decode cX1_ask 156 = .ok (.invokevirtual 403, 3) := by decide +kernel
theorem dX1_ask_159 : decode cX1_ask 159 = .ok (.iload_n 3, 1) := by decide +kernel
theorem dX1_ask_160 : decode cX1_ask 160 = .ok (.ifCond .eq 16, 3) := by decide +kernel
theorem dX1_ask_163 : decode cX1_ask 163 = .ok (.iload 6, 2) := by decide +kernel
theorem dX1_ask_165 : decode cX1_ask 165 = .ok (.ifCond .ne 11, 3) := by decide +kernel
theorem dX1_ask_168 : decode cX1_ask 168 = .ok (.aload_n 1, 1) := by decide +kernel
theorem dX1_ask_169 : decode cX1_ask 169 = .ok (.iconst 1, 1) := by decide +kernel
theorem dX1_ask_170 : decode cX1_ask 170 = .ok (.invokestatic 295, 3) := by decide +kernel
theorem dX1_ask_173 : decode cX1_ask 173 = .ok (.goto 13, 3) := by decide +kernel
theorem dX1_ask_176 : decode cX1_ask 176 = .ok (.aload_n 1, 1) := by decide +kernel
theorem dX1_ask_177 : decode cX1_ask 177 = .ok (.iconst 0, 1) := by decide +kernel
theorem dX1_ask_178 : decode cX1_ask 178 = .ok (.iload 7, 2) := by decide +kernel
theorem dX1_ask_180 : decode cX1_ask 180 = .ok (.invokestatic 190, 3) := by decide +kernel
theorem dX1_ask_183 : decode cX1_ask 183 = .ok (.invokestatic 194, 3) := by decide +kernel
theorem dX1_ask_186 : decode cX1_ask 186 = .ok (.ireturn, 1) := by decide +kernel
theorem dX1_walk_0 : decode cX1_walk 0 = .ok (.iload_n 1, 1) := by decide +kernel
theorem dX1_walk_1 : decode cX1_walk 1 = .ok (.istore_n 3, 1) := by decide +kernel
theorem dX1_walk_2 : decode cX1_walk 2 = .ok (.iconst 0, 1) := by decide +kernel
theorem dX1_walk_3 : decode cX1_walk 3 = .ok (.istore 4, 2) := by decide +kernel
theorem dX1_walk_5 : decode cX1_walk 5 = .ok (.iload 4, 2) := by decide +kernel
theorem dX1_walk_7 : decode cX1_walk 7 = .ok (.sipush 4000, 3) := by decide +kernel
theorem dX1_walk_10 : decode cX1_walk 10 = .ok (.if_icmp .gt 130, 3) := by decide +kernel
theorem dX1_walk_13 : decode cX1_walk 13 = .ok (.iload_n 3, 1) := by decide +kernel
theorem dX1_walk_14 : decode cX1_walk 14 = .ok (.iconst (-1), 1) := by decide +kernel
theorem dX1_walk_15 : decode cX1_walk 15 = .ok (.if_icmp .eq 125, 3) := by decide +kernel
theorem dX1_walk_18 : decode cX1_walk 18 = .ok (.aload_n 0, 1) := by decide +kernel
theorem dX1_walk_19 : decode cX1_walk 19 = .ok (.dup, 1) := by decide +kernel
theorem dX1_walk_20 : decode cX1_walk 20 = .ok (.getfield 86, 3) := by decide +kernel
theorem dX1_walk_23 : decode cX1_walk 23 = .ok (.iconst 1, 1) := by decide +kernel
theorem dX1_walk_24 : decode cX1_walk 24 = .ok (.iadd, 1) := by decide +kernel
theorem dX1_walk_25 : decode cX1_walk 25 = .ok (.putfield 86, 3) := by decide +kernel
theorem dX1_walk_28 : decode cX1_walk 28 = .ok (.aload_n 0, 1) := by decide +kernel
theorem dX1_walk_29 : decode cX1_walk 29 = .ok (.getfield 11, 3) := by decide +kernel
theorem dX1_walk_32 : decode cX1_walk 32 = .ok (.aload_n 0, 1) := by decide +kernel
theorem dX1_walk_33 : decode cX1_walk 33 = .ok (.getfield 42, 3) := by decide +kernel
theorem dX1_walk_36 : decode cX1_walk 36 = .ok (.iload_n 3, 1) := by decide +kernel
theorem dX1_walk_37 : decode cX1_walk 37 = .ok (.iconst 3, 1) := by decide +kernel
theorem dX1_walk_38 : decode cX1_walk 38 = .ok (.imul, 1) := by decide +kernel
theorem dX1_walk_39 : decode cX1_walk 39 = .ok (.invokevirtual 173, 3) := by decide +kernel
theorem dX1_walk_42 : decode cX1_walk 42 = .ok (.invokevirtual 161, 3) := by decide +kernel
theorem dX1_walk_45 : decode cX1_walk 45 = .ok (.astore 5, 2) := by decide +kernel
theorem dX1_walk_47 : decode cX1_walk 47 = .ok (.iload_n 2, 1) := by decide +kernel
theorem dX1_walk_48 : decode cX1_walk 48 = .ok (.aload 5, 2) := by decide +kernel
theorem dX1_walk_50 : decode cX1_walk 50 = .ok (.getfield 388, 3) := by decide +kernel
theorem dX1_walk_53 : decode cX1_walk 53 = .ok (.iushr, 1) := by decide +kernel
theorem dX1_walk_54 : decode cX1_walk 54 = .ok (.iconst 1, 1) := by decide +kernel
theorem dX1_walk_55 : decode cX1_walk 55 = .ok (.iand, 1) := by decide +kernel
theorem dX1_walk_56 : decode cX1_walk 56 = .ok (.ifCond .ne 5, 3) := by decide +kernel
theorem dX1_walk_59 : decode cX1_walk 59 = .ok (.iconst 0, 1) := by decide +kernel
theorem dX1_walk_60 : decode cX1_walk 60 = .ok (.ireturn, 1) := by decide +kernel
theorem dX1_walk_61 : decode cX1_walk 61 = .ok (.aload 5, 2) := by decide +kernel
theorem dX1_walk_63 : decode cX1_walk 63 = .ok (.getfield 346, 3) := by decide +kernel
theorem dX1_walk_66 : decode cX1_walk 66 = .ok (.iconst 3, 1) := by decide +kernel
theorem dX1_walk_67 : decode cX1_walk 67 = .ok (.if_icmp .ne 22, 3) := by decide +kernel
theorem dX1_walk_70 : decode cX1_walk 70 = .ok (.iload_n 2, 1) := by decide +kernel
theorem dX1_walk_71 : decode cX1_walk 71 = .ok (.bipush 8, 2) := by decide +kernel
theorem dX1_walk_73 : decode cX1_walk 73 = .ok (.aload 5, 2) := by decide +kernel
theorem dX1_walk_75 : decode cX1_walk 75 = .ok (.getfield 382, 3) := by decide +kernel
theorem dX1_walk_78 : decode cX1_walk 78 = .ok (.iadd, 1) := by decide +kernel
theorem dX1_walk_79 : decode cX1_walk 79 = .ok (.iushr, 1) := by decide +kernel
theorem dX1_walk_80 : decode cX1_walk 80 = .ok (.iconst 1, 1) := by decide +kernel
theorem dX1_walk_81 : decode cX1_walk 81 = .ok (.iand, 1) := by decide +kernel
theorem dX1_walk_82 : decode cX1_walk 82 = .ok (.ifCond .eq 7, 3) := by decide +kernel
theorem dX1_walk_85 : decode cX1_walk 85 = .ok (.iconst 1, 1) := by decide +kernel
theorem dX1_walk_86 : decode cX1_walk 86 = .ok (.goto 4, 3) := by decide +kernel
theorem dX1_walk_89 : decode cX1_walk 89 = .ok (.iconst 0, 1) := by decide +kernel
theorem dX1_walk_90 : decode cX1_walk 90 = .ok (.istore 6, 2) := by decide +kernel
theorem dX1_walk_92 : decode cX1_walk 92 = .ok (.aload 5, 2) := by decide +kernel
theorem dX1_walk_94 : decode cX1_walk 94 = .ok (.getfield 346, 3) := by decide +kernel
theorem dX1_walk_97 : decode cX1_walk 97 = .ok (.iconst 2, 1) := by decide +kernel
theorem dX1_walk_98 : decode cX1_walk 98 = .ok (.if_icmp .eq 8, 3) := by decide +kernel
theorem dX1_walk_101 : decode cX1_walk 101 = .ok (.iload 6, 2) := by decide +kernel
