theorem dL_law_538 : decode code 538 = .ok (.istore 7, 2) := by decide +kernel
theorem dL_law_54 : decode code 54 = .ok (.istore_n 3, 1) := by decide +kernel
theorem dL_law_540 : decode code 540 = .ok (.lconst 0, 1) := by decide +kernel
theorem dL_law_541 : decode code 541 = .ok (.lstore 17, 2) := by decide +kernel
theorem dL_law_543 : decode code 543 = .ok (.iconst 0, 1) := by decide +kernel
theorem dL_law_544 : decode code 544 = .ok (.istore 19, 2) := by decide +kernel
theorem dL_law_546 : decode code 546 = .ok (.iload 19, 2) := by decide +kernel
theorem dL_law_548 : decode code 548 = .ok (.aload_n 1, 1) := by decide +kernel
theorem dL_law_549 : decode code 549 = .ok (.iload 7, 2) := by decide +kernel
theorem dL_law_55 : decode code 55 = .ok (.iload_n 3, 1) := by decide +kernel
theorem dL_law_551 : decode code 551 = .ok (.iconst 2, 1) := by decide +kernel
theorem dL_law_552 : decode code 552 = .ok (.invokevirtual 45, 3) := by decide +kernel
theorem dL_law_555 : decode code 555 = .ok (.if_icmp .ge 23, 3) := by decide +kernel
theorem dL_law_558 : decode code 558 = .ok (.lload 17, 2) := by decide +kernel
theorem dL_law_56 : decode code 56 = .ok (.iload_n 2, 1) := by decide +kernel
theorem dL_law_560 : decode code 560 = .ok (.aload_n 1, 1) := by decide +kernel
theorem dL_law_561 : decode code 561 = .ok (.iload 7, 2) := by decide +kernel
theorem dL_law_563 : decode code 563 = .ok (.iload 19, 2) := by decide +kernel
theorem dL_law_565 : decode code 565 = .ok (.iconst 2, 1) := by decide +kernel
theorem dL_law_566 : decode code 566 = .ok (.invokevirtual 48, 3) := by decide +kernel
theorem dL_law_569 : decode code 569 = .ok (.ladd, 1) := by decide +kernel
theorem dL_law_57 : decode code 57 = .ok (.if_icmp .ge 59, 3) := by decide +kernel
theorem dL_law_570 : decode code 570 = .ok (.lstore 17, 2) := by decide +kernel
theorem dL_law_572 : decode code 572 = .ok (.iinc 19 1, 3) := by decide +kernel
theorem dL_law_575 : decode code 575 = .ok (.goto (-29), 3) := by decide +kernel
theorem dL_law_578 : decode code 578 = .ok (.lload 17, 2) := by decide +kernel
theorem dL_law_580 : decode code 580 = .ok (.lconst 0, 1) := by decide +kernel
theorem dL_law_581 : decode code 581 = .ok (.lcmp, 1) := by decide +kernel
theorem dL_law_582 : decode code 582 = .ok (.ifCond .ne 11, 3) := by decide +kernel
theorem dL_law_585 : decode code 585 = .ok (.aload_n 1, 1) := by decide +kernel
theorem dL_law_586 : decode code 586 = .ok (.invokevirtual 76, 3) := by decide +kernel
theorem dL_law_589 : decode code 589 = .ok (.iconst 1, 1) := by decide +kernel
theorem dL_law_590 : decode code 590 = .ok (.if_icmp .eq 5, 3) := by decide +kernel
theorem dL_law_595 : decode code 595 = .ok (.lconst 0, 1) := by decide +kernel
theorem dL_law_596 : decode code 596 = .ok (.lstore 8, 2) := by decide +kernel
theorem dL_law_598 : decode code 598 = .ok (.iconst 0, 1) := by decide +kernel
theorem dL_law_599 : decode code 599 = .ok (.istore 10, 2) := by decide +kernel
theorem dL_law_60 : decode code 60 = .ok (.aload_n 1, 1) := by decide +kernel
theorem dL_law_601 : decode code 601 = .ok (.iload 10, 2) := by decide +kernel
theorem dL_law_603 : decode code 603 = .ok (.iconst 5, 1) := by decide +kernel
theorem dL_law_604 : decode code 604 = .ok (.if_icmp .ge 20, 3) := by decide +kernel
theorem dL_law_607 : decode code 607 = .ok (.lload 8, 2) := by decide +kernel
theorem dL_law_609 : decode code 609 = .ok (.aload_n 1, 1) := by decide +kernel
theorem dL_law_61 : decode code 61 = .ok (.iload_n 3, 1) := by decide +kernel
theorem dL_law_610 : decode code 610 = .ok (.iload 10, 2) := by decide +kernel
theorem dL_law_612 : decode code 612 = .ok (.invokevirtual 82, 3) := by decide +kernel
theorem dL_law_615 : decode code 615 = .ok (.ladd, 1) := by decide +kernel
theorem dL_law_616 : decode code 616 = .ok (.lstore 8, 2) := by decide +kernel
theorem dL_law_618 : decode code 618 = .ok (.iinc 10 1, 3) := by decide +kernel
theorem dL_law_62 : decode code 62 = .ok (.ifCond .ne 7, 3) := by decide +kernel
theorem dL_law_621 : decode code 621 = .ok (.goto (-20), 3) := by decide +kernel
theorem dL_law_624 : decode code 624 = .ok (.lload 8, 2) := by decide +kernel
theorem dL_law_626 : decode code 626 = .ok (.lconst 0, 1) := by decide +kernel
theorem dL_law_627 : decode code 627 = .ok (.lcmp, 1) := by decide +kernel
theorem dL_law_628 : decode code 628 = .ok (.ifCond .eq 5, 3) := by decide +kernel
theorem dL_law_633 : decode code 633 = .ok (.iinc 3 1, 3) := by decide +kernel
theorem dL_law_636 : decode code 636 = .ok (.goto (-512), 3) := by decide +kernel
theorem dL_law_639 : decode code 639 = .ok (.aload_n 1, 1) := by decide +kernel
theorem dL_law_640 : decode code 640 = .ok (.invokevirtual 85, 3) := by decide +kernel
theorem dL_law_643 : decode code 643 = .ok (.lstore_n 3, 1) := by decide +kernel
