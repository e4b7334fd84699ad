theorem dL_law_322 : decode code 322 = .ok (.lcmp, 1) := by decide +kernel
theorem dL_law_323 : decode code 323 = .ok (.ifCond .ne 24, 3) := by decide +kernel
theorem dL_law_326 : decode code 326 = .ok (.aload_n 1, 1) := by decide +kernel
theorem dL_law_327 : decode code 327 = .ok (.iconst 5, 1) := by decide +kernel
theorem dL_law_328 : decode code 328 = .ok (.invokevirtual 35, 3) := by decide +kernel
theorem dL_law_33 : decode code 33 = .ok (.pop, 1) := by decide +kernel
theorem dL_law_331 : decode code 331 = .ok (.iload 8, 2) := by decide +kernel
theorem dL_law_333 : decode code 333 = .ok (.if_icmp .ne 14, 3) := by decide +kernel
theorem dL_law_336 : decode code 336 = .ok (.aload_n 1, 1) := by decide +kernel
theorem dL_law_337 : decode code 337 = .ok (.iload 8, 2) := by decide +kernel
theorem dL_law_339 : decode code 339 = .ok (.invokevirtual 38, 3) := by decide +kernel
theorem dL_law_34 : decode code 34 = .ok (.iinc 2 1, 3) := by decide +kernel
theorem dL_law_342 : decode code 342 = .ok (.lconst 0, 1) := by decide +kernel
theorem dL_law_343 : decode code 343 = .ok (.lcmp, 1) := by decide +kernel
theorem dL_law_344 : decode code 344 = .ok (.ifCond .eq 251, 3) := by decide +kernel
theorem dL_law_349 : decode code 349 = .ok (.aload_n 1, 1) := by decide +kernel
theorem dL_law_350 : decode code 350 = .ok (.iconst 5, 1) := by decide +kernel
theorem dL_law_351 : decode code 351 = .ok (.invokevirtual 35, 3) := by decide +kernel
theorem dL_law_354 : decode code 354 = .ok (.ifCond .lt 241, 3) := by decide +kernel
theorem dL_law_357 : decode code 357 = .ok (.aload_n 1, 1) := by decide +kernel
theorem dL_law_358 : decode code 358 = .ok (.invokevirtual 52, 3) := by decide +kernel
theorem dL_law_361 : decode code 361 = .ok (.sipush 364, 3) := by decide +kernel
theorem dL_law_364 : decode code 364 = .ok (.if_icmp .le 231, 3) := by decide +kernel
theorem dL_law_369 : decode code 369 = .ok (.aload_n 1, 1) := by decide +kernel
theorem dL_law_37 : decode code 37 = .ok (.goto (-27), 3) := by decide +kernel
theorem dL_law_370 : decode code 370 = .ok (.iload 5, 2) := by decide +kernel
theorem dL_law_372 : decode code 372 = .ok (.iload 4, 2) := by decide +kernel
theorem dL_law_374 : decode code 374 = .ok (.iconst 4, 1) := by decide +kernel
theorem dL_law_375 : decode code 375 = .ok (.ishr, 1) := by decide +kernel
theorem dL_law_376 : decode code 376 = .ok (.bipush 20, 2) := by decide +kernel
theorem dL_law_378 : decode code 378 = .ok (.invokestatic 18, 3) := by decide +kernel
theorem dL_law_381 : decode code 381 = .ok (.iconst 1, 1) := by decide +kernel
theorem dL_law_382 : decode code 382 = .ok (.iload 4, 2) := by decide +kernel
theorem dL_law_384 : decode code 384 = .ok (.iconst 2, 1) := by decide +kernel
theorem dL_law_385 : decode code 385 = .ok (.ishr, 1) := by decide +kernel
theorem dL_law_386 : decode code 386 = .ok (.sipush 300, 3) := by decide +kernel
theorem dL_law_389 : decode code 389 = .ok (.invokestatic 18, 3) := by decide +kernel
theorem dL_law_392 : decode code 392 = .ok (.iadd, 1) := by decide +kernel
theorem dL_law_393 : decode code 393 = .ok (.invokevirtual 56, 3) := by decide +kernel
theorem dL_law_396 : decode code 396 = .ok (.ifCond .ge 199, 3) := by decide +kernel
theorem dL_law_40 : decode code 40 = .ok (.iconst 3, 1) := by decide +kernel
theorem dL_law_401 : decode code 401 = .ok (.iload 4, 2) := by decide +kernel
theorem dL_law_403 : decode code 403 = .ok (.iconst 4, 1) := by decide +kernel
theorem dL_law_404 : decode code 404 = .ok (.ishr, 1) := by decide +kernel
theorem dL_law_405 : decode code 405 = .ok (.bipush 20, 2) := by decide +kernel
theorem dL_law_407 : decode code 407 = .ok (.invokestatic 18, 3) := by decide +kernel
theorem dL_law_41 : decode code 41 = .ok (.aload_n 0, 1) := by decide +kernel
theorem dL_law_410 : decode code 410 = .ok (.istore 12, 2) := by decide +kernel
theorem dL_law_412 : decode code 412 = .ok (.aload_n 1, 1) := by decide +kernel
theorem dL_law_413 : decode code 413 = .ok (.iload 5, 2) := by decide +kernel
theorem dL_law_415 : decode code 415 = .ok (.iload 12, 2) := by decide +kernel
theorem dL_law_417 : decode code 417 = .ok (.invokevirtual 60, 3) := by decide +kernel
theorem dL_law_42 : decode code 42 = .ok (.iconst 0, 1) := by decide +kernel
theorem dL_law_420 : decode code 420 = .ok (.istore 13, 2) := by decide +kernel
theorem dL_law_422 : decode code 422 = .ok (.aload_n 1, 1) := by decide +kernel
theorem dL_law_423 : decode code 423 = .ok (.iload 5, 2) := by decide +kernel
theorem dL_law_425 : decode code 425 = .ok (.iload 12, 2) := by decide +kernel
theorem dL_law_427 : decode code 427 = .ok (.invokevirtual 63, 3) := by decide +kernel
theorem dL_law_43 : decode code 43 = .ok (.invokestatic 12, 3) := by decide +kernel
theorem dL_law_430 : decode code 430 = .ok (.iload 13, 2) := by decide +kernel
