theorem dL_law_644 : decode code 644 = .ok (.iconst 0, 1) := by decide +kernel
theorem dL_law_645 : decode code 645 = .ok (.istore 5, 2) := by decide +kernel
theorem dL_law_647 : decode code 647 = .ok (.iload 5, 2) := by decide +kernel
theorem dL_law_649 : decode code 649 = .ok (.iload_n 2, 1) := by decide +kernel
theorem dL_law_65 : decode code 65 = .ok (.iconst 4, 1) := by decide +kernel
theorem dL_law_650 : decode code 650 = .ok (.if_icmp .ge 119, 3) := by decide +kernel
theorem dL_law_653 : decode code 653 = .ok (.aload_n 1, 1) := by decide +kernel
theorem dL_law_654 : decode code 654 = .ok (.iload 5, 2) := by decide +kernel
theorem dL_law_656 : decode code 656 = .ok (.sipush 364, 3) := by decide +kernel
theorem dL_law_659 : decode code 659 = .ok (.invokevirtual 89, 3) := by decide +kernel
theorem dL_law_66 : decode code 66 = .ok (.goto 14, 3) := by decide +kernel
theorem dL_law_662 : decode code 662 = .ok (.aload_n 1, 1) := by decide +kernel
theorem dL_law_663 : decode code 663 = .ok (.iload 5, 2) := by decide +kernel
theorem dL_law_665 : decode code 665 = .ok (.iconst 0, 1) := by decide +kernel
theorem dL_law_666 : decode code 666 = .ok (.invokevirtual 92, 3) := by decide +kernel
theorem dL_law_669 : decode code 669 = .ok (.lcmp, 1) := by decide +kernel
theorem dL_law_670 : decode code 670 = .ok (.ifCond .ne 91, 3) := by decide +kernel
theorem dL_law_673 : decode code 673 = .ok (.aload_n 1, 1) := by decide +kernel
theorem dL_law_674 : decode code 674 = .ok (.iload 5, 2) := by decide +kernel
theorem dL_law_676 : decode code 676 = .ok (.iconst 4, 1) := by decide +kernel
theorem dL_law_677 : decode code 677 = .ok (.invokevirtual 92, 3) := by decide +kernel
theorem dL_law_680 : decode code 680 = .ok (.aload_n 1, 1) := by decide +kernel
theorem dL_law_681 : decode code 681 = .ok (.iload 5, 2) := by decide +kernel
theorem dL_law_683 : decode code 683 = .ok (.iconst 1, 1) := by decide +kernel
theorem dL_law_684 : decode code 684 = .ok (.invokevirtual 92, 3) := by decide +kernel
theorem dL_law_687 : decode code 687 = .ok (.aload_n 1, 1) := by decide +kernel
theorem dL_law_688 : decode code 688 = .ok (.iload 5, 2) := by decide +kernel
theorem dL_law_69 : decode code 69 = .ok (.aload_n 0, 1) := by decide +kernel
theorem dL_law_690 : decode code 690 = .ok (.iconst 3, 1) := by decide +kernel
theorem dL_law_691 : decode code 691 = .ok (.invokevirtual 92, 3) := by decide +kernel
theorem dL_law_694 : decode code 694 = .ok (.lsub, 1) := by decide +kernel
theorem dL_law_695 : decode code 695 = .ok (.lcmp, 1) := by decide +kernel
theorem dL_law_696 : decode code 696 = .ok (.ifCond .ne 65, 3) := by decide +kernel
theorem dL_law_699 : decode code 699 = .ok (.aload_n 1, 1) := by decide +kernel
theorem dL_law_70 : decode code 70 = .ok (.iconst 4, 1) := by decide +kernel
theorem dL_law_700 : decode code 700 = .ok (.iload 5, 2) := by decide +kernel
theorem dL_law_702 : decode code 702 = .ok (.iconst 0, 1) := by decide +kernel
theorem dL_law_703 : decode code 703 = .ok (.invokevirtual 92, 3) := by decide +kernel
theorem dL_law_706 : decode code 706 = .ok (.invokestatic 95, 3) := by decide +kernel
theorem dL_law_709 : decode code 709 = .ok (.aload_n 1, 1) := by decide +kernel
theorem dL_law_71 : decode code 71 = .ok (.iload_n 3, 1) := by decide +kernel
theorem dL_law_710 : decode code 710 = .ok (.iload 5, 2) := by decide +kernel
theorem dL_law_712 : decode code 712 = .ok (.iconst 1, 1) := by decide +kernel
theorem dL_law_713 : decode code 713 = .ok (.invokevirtual 92, 3) := by decide +kernel
theorem dL_law_716 : decode code 716 = .ok (.invokestatic 95, 3) := by decide +kernel
theorem dL_law_719 : decode code 719 = .ok (.lcmp, 1) := by decide +kernel
theorem dL_law_72 : decode code 72 = .ok (.iadd, 1) := by decide +kernel
theorem dL_law_720 : decode code 720 = .ok (.ifCond .ne 41, 3) := by decide +kernel
theorem dL_law_723 : decode code 723 = .ok (.aload_n 1, 1) := by decide +kernel
theorem dL_law_724 : decode code 724 = .ok (.iload 5, 2) := by decide +kernel
theorem dL_law_726 : decode code 726 = .ok (.sipush 364, 3) := by decide +kernel
theorem dL_law_729 : decode code 729 = .ok (.invokevirtual 101, 3) := by decide +kernel
theorem dL_law_73 : decode code 73 = .ok (.invokestatic 12, 3) := by decide +kernel
theorem dL_law_732 : decode code 732 = .ok (.aload_n 1, 1) := by decide +kernel
theorem dL_law_733 : decode code 733 = .ok (.iload 5, 2) := by decide +kernel
theorem dL_law_735 : decode code 735 = .ok (.iconst 4, 1) := by decide +kernel
theorem dL_law_736 : decode code 736 = .ok (.invokevirtual 92, 3) := by decide +kernel
theorem dL_law_739 : decode code 739 = .ok (.lcmp, 1) := by decide +kernel
theorem dL_law_740 : decode code 740 = .ok (.ifCond .lt 21, 3) := by decide +kernel
theorem dL_law_743 : decode code 743 = .ok (.aload_n 1, 1) := by decide +kernel
