theorem dL_law_432 : decode code 432 = .ok (.if_icmp .ne 25, 3) := by decide +kernel
theorem dL_law_435 : decode code 435 = .ok (.aload_n 1, 1) := by decide +kernel
theorem dL_law_436 : decode code 436 = .ok (.iload 5, 2) := by decide +kernel
theorem dL_law_438 : decode code 438 = .ok (.iconst 0, 1) := by decide +kernel
theorem dL_law_439 : decode code 439 = .ok (.invokevirtual 66, 3) := by decide +kernel
theorem dL_law_442 : decode code 442 = .ok (.aload_n 1, 1) := by decide +kernel
theorem dL_law_443 : decode code 443 = .ok (.iload 5, 2) := by decide +kernel
theorem dL_law_445 : decode code 445 = .ok (.iconst 1, 1) := by decide +kernel
theorem dL_law_446 : decode code 446 = .ok (.invokevirtual 66, 3) := by decide +kernel
theorem dL_law_449 : decode code 449 = .ok (.lsub, 1) := by decide +kernel
theorem dL_law_450 : decode code 450 = .ok (.iload 13, 2) := by decide +kernel
theorem dL_law_452 : decode code 452 = .ok (.i2l, 1) := by decide +kernel
theorem dL_law_453 : decode code 453 = .ok (.lcmp, 1) := by decide +kernel
theorem dL_law_454 : decode code 454 = .ok (.ifCond .eq 141, 3) := by decide +kernel
theorem dL_law_459 : decode code 459 = .ok (.aload_n 1, 1) := by decide +kernel
theorem dL_law_46 : decode code 46 = .ok (.bipush 6, 2) := by decide +kernel
theorem dL_law_460 : decode code 460 = .ok (.iload 4, 2) := by decide +kernel
theorem dL_law_462 : decode code 462 = .ok (.iconst 4, 1) := by decide +kernel
theorem dL_law_463 : decode code 463 = .ok (.ishr, 1) := by decide +kernel
theorem dL_law_464 : decode code 464 = .ok (.bipush 25, 2) := by decide +kernel
theorem dL_law_466 : decode code 466 = .ok (.invokestatic 18, 3) := by decide +kernel
theorem dL_law_469 : decode code 469 = .ok (.iload_n 3, 1) := by decide +kernel
theorem dL_law_470 : decode code 470 = .ok (.invokevirtual 70, 3) := by decide +kernel
theorem dL_law_473 : decode code 473 = .ok (.pop, 1) := by decide +kernel
theorem dL_law_474 : decode code 474 = .ok (.aload_n 1, 1) := by decide +kernel
theorem dL_law_475 : decode code 475 = .ok (.iload 5, 2) := by decide +kernel
theorem dL_law_477 : decode code 477 = .ok (.iconst 1, 1) := by decide +kernel
theorem dL_law_478 : decode code 478 = .ok (.iload 4, 2) := by decide +kernel
theorem dL_law_48 : decode code 48 = .ok (.invokestatic 18, 3) := by decide +kernel
theorem dL_law_480 : decode code 480 = .ok (.iconst 2, 1) := by decide +kernel
theorem dL_law_481 : decode code 481 = .ok (.ishr, 1) := by decide +kernel
theorem dL_law_482 : decode code 482 = .ok (.sipush 300, 3) := by decide +kernel
theorem dL_law_485 : decode code 485 = .ok (.invokestatic 18, 3) := by decide +kernel
theorem dL_law_488 : decode code 488 = .ok (.iadd, 1) := by decide +kernel
theorem dL_law_489 : decode code 489 = .ok (.invokevirtual 73, 3) := by decide +kernel
theorem dL_law_492 : decode code 492 = .ok (.lstore 14, 2) := by decide +kernel
theorem dL_law_494 : decode code 494 = .ok (.aload_n 1, 1) := by decide +kernel
theorem dL_law_495 : decode code 495 = .ok (.iload 6, 2) := by decide +kernel
theorem dL_law_497 : decode code 497 = .ok (.iconst (-1), 1) := by decide +kernel
theorem dL_law_498 : decode code 498 = .ok (.iload 4, 2) := by decide +kernel
theorem dL_law_500 : decode code 500 = .ok (.iconst 2, 1) := by decide +kernel
theorem dL_law_501 : decode code 501 = .ok (.ishr, 1) := by decide +kernel
theorem dL_law_502 : decode code 502 = .ok (.sipush 300, 3) := by decide +kernel
theorem dL_law_505 : decode code 505 = .ok (.invokestatic 18, 3) := by decide +kernel
theorem dL_law_508 : decode code 508 = .ok (.isub, 1) := by decide +kernel
theorem dL_law_509 : decode code 509 = .ok (.invokevirtual 73, 3) := by decide +kernel
theorem dL_law_51 : decode code 51 = .ok (.iadd, 1) := by decide +kernel
theorem dL_law_512 : decode code 512 = .ok (.lload 14, 2) := by decide +kernel
theorem dL_law_514 : decode code 514 = .ok (.lcmp, 1) := by decide +kernel
theorem dL_law_515 : decode code 515 = .ok (.ifCond .le 5, 3) := by decide +kernel
theorem dL_law_52 : decode code 52 = .ok (.istore_n 2, 1) := by decide +kernel
theorem dL_law_520 : decode code 520 = .ok (.aload_n 1, 1) := by decide +kernel
theorem dL_law_521 : decode code 521 = .ok (.invokevirtual 76, 3) := by decide +kernel
theorem dL_law_524 : decode code 524 = .ok (.istore 16, 2) := by decide +kernel
theorem dL_law_526 : decode code 526 = .ok (.iload 16, 2) := by decide +kernel
theorem dL_law_528 : decode code 528 = .ok (.ifCond .le 6, 3) := by decide +kernel
theorem dL_law_53 : decode code 53 = .ok (.iconst 0, 1) := by decide +kernel
theorem dL_law_531 : decode code 531 = .ok (.goto 64, 3) := by decide +kernel
theorem dL_law_534 : decode code 534 = .ok (.aload_n 1, 1) := by decide +kernel
theorem dL_law_535 : decode code 535 = .ok (.invokevirtual 79, 3) := by decide +kernel
