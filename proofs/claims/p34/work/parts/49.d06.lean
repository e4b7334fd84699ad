theorem dL_law_744 : decode code 744 = .ok (.iload 5, 2) := by decide +kernel
theorem dL_law_746 : decode code 746 = .ok (.iconst 1, 1) := by decide +kernel
theorem dL_law_747 : decode code 747 = .ok (.invokevirtual 66, 3) := by decide +kernel
theorem dL_law_750 : decode code 750 = .ok (.aload_n 1, 1) := by decide +kernel
theorem dL_law_751 : decode code 751 = .ok (.iload 5, 2) := by decide +kernel
theorem dL_law_753 : decode code 753 = .ok (.iconst 0, 1) := by decide +kernel
theorem dL_law_754 : decode code 754 = .ok (.invokevirtual 66, 3) := by decide +kernel
theorem dL_law_757 : decode code 757 = .ok (.lcmp, 1) := by decide +kernel
theorem dL_law_758 : decode code 758 = .ok (.ifCond .le 5, 3) := by decide +kernel
theorem dL_law_76 : decode code 76 = .ok (.iconst 5, 1) := by decide +kernel
theorem dL_law_763 : decode code 763 = .ok (.iinc 5 1, 3) := by decide +kernel
theorem dL_law_766 : decode code 766 = .ok (.goto (-119), 3) := by decide +kernel
theorem dL_law_769 : decode code 769 = .ok (.iconst 0, 1) := by decide +kernel
theorem dL_law_77 : decode code 77 = .ok (.invokestatic 18, 3) := by decide +kernel
theorem dL_law_770 : decode code 770 = .ok (.istore 5, 2) := by decide +kernel
theorem dL_law_772 : decode code 772 = .ok (.iload 5, 2) := by decide +kernel
theorem dL_law_774 : decode code 774 = .ok (.aload_n 1, 1) := by decide +kernel
theorem dL_law_775 : decode code 775 = .ok (.iconst 3, 1) := by decide +kernel
theorem dL_law_776 : decode code 776 = .ok (.invokevirtual 35, 3) := by decide +kernel
theorem dL_law_779 : decode code 779 = .ok (.if_icmp .ge 107, 3) := by decide +kernel
theorem dL_law_782 : decode code 782 = .ok (.aload_n 1, 1) := by decide +kernel
theorem dL_law_783 : decode code 783 = .ok (.iload 5, 2) := by decide +kernel
theorem dL_law_785 : decode code 785 = .ok (.invokevirtual 104, 3) := by decide +kernel
theorem dL_law_788 : decode code 788 = .ok (.istore 6, 2) := by decide +kernel
theorem dL_law_790 : decode code 790 = .ok (.iload 6, 2) := by decide +kernel
theorem dL_law_792 : decode code 792 = .ok (.ifCond .lt 16, 3) := by decide +kernel
theorem dL_law_795 : decode code 795 = .ok (.aload_n 1, 1) := by decide +kernel
theorem dL_law_796 : decode code 796 = .ok (.iload 6, 2) := by decide +kernel
theorem dL_law_798 : decode code 798 = .ok (.iconst 3, 1) := by decide +kernel
theorem dL_law_799 : decode code 799 = .ok (.invokevirtual 45, 3) := by decide +kernel
theorem dL_law_8 : decode code 8 = .ok (.iconst 1, 1) := by decide +kernel
theorem dL_law_80 : decode code 80 = .ok (.iload_n 3, 1) := by decide +kernel
theorem dL_law_802 : decode code 802 = .ok (.iconst 1, 1) := by decide +kernel
theorem dL_law_803 : decode code 803 = .ok (.if_icmp .ne 5, 3) := by decide +kernel
theorem dL_law_808 : decode code 808 = .ok (.iconst 0, 1) := by decide +kernel
theorem dL_law_809 : decode code 809 = .ok (.istore 7, 2) := by decide +kernel
theorem dL_law_81 : decode code 81 = .ok (.ifCond .ne 7, 3) := by decide +kernel
theorem dL_law_811 : decode code 811 = .ok (.iconst 0, 1) := by decide +kernel
theorem dL_law_812 : decode code 812 = .ok (.istore 8, 2) := by decide +kernel
theorem dL_law_814 : decode code 814 = .ok (.iload 6, 2) := by decide +kernel
theorem dL_law_816 : decode code 816 = .ok (.ifCond .lt 47, 3) := by decide +kernel
theorem dL_law_819 : decode code 819 = .ok (.iload 8, 2) := by decide +kernel
theorem dL_law_821 : decode code 821 = .ok (.aload_n 1, 1) := by decide +kernel
theorem dL_law_822 : decode code 822 = .ok (.iload 6, 2) := by decide +kernel
theorem dL_law_824 : decode code 824 = .ok (.iconst 2, 1) := by decide +kernel
theorem dL_law_825 : decode code 825 = .ok (.invokevirtual 45, 3) := by decide +kernel
theorem dL_law_828 : decode code 828 = .ok (.if_icmp .ge 35, 3) := by decide +kernel
theorem dL_law_831 : decode code 831 = .ok (.iload 7, 2) := by decide +kernel
theorem dL_law_833 : decode code 833 = .ok (.aload_n 1, 1) := by decide +kernel
theorem dL_law_834 : decode code 834 = .ok (.iload 6, 2) := by decide +kernel
theorem dL_law_836 : decode code 836 = .ok (.iload 8, 2) := by decide +kernel
theorem dL_law_838 : decode code 838 = .ok (.iconst 3, 1) := by decide +kernel
theorem dL_law_839 : decode code 839 = .ok (.invokevirtual 48, 3) := by decide +kernel
theorem dL_law_84 : decode code 84 = .ok (.iconst 0, 1) := by decide +kernel
theorem dL_law_842 : decode code 842 = .ok (.iload 5, 2) := by decide +kernel
theorem dL_law_844 : decode code 844 = .ok (.i2l, 1) := by decide +kernel
theorem dL_law_845 : decode code 845 = .ok (.lcmp, 1) := by decide +kernel
theorem dL_law_846 : decode code 846 = .ok (.ifCond .ne 7, 3) := by decide +kernel
theorem dL_law_849 : decode code 849 = .ok (.iconst 1, 1) := by decide +kernel
theorem dL_law_85 : decode code 85 = .ok (.goto 16, 3) := by decide +kernel
