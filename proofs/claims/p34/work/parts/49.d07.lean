theorem dL_law_850 : decode code 850 = .ok (.goto 4, 3) := by decide +kernel
theorem dL_law_853 : decode code 853 = .ok (.iconst 0, 1) := by decide +kernel
theorem dL_law_854 : decode code 854 = .ok (.ior, 1) := by decide +kernel
theorem dL_law_855 : decode code 855 = .ok (.istore 7, 2) := by decide +kernel
theorem dL_law_857 : decode code 857 = .ok (.iinc 8 1, 3) := by decide +kernel
theorem dL_law_860 : decode code 860 = .ok (.goto (-46), 3) := by decide +kernel
theorem dL_law_863 : decode code 863 = .ok (.iload 7, 2) := by decide +kernel
theorem dL_law_865 : decode code 865 = .ok (.iload 6, 2) := by decide +kernel
theorem dL_law_867 : decode code 867 = .ok (.ifCond .lt 7, 3) := by decide +kernel
theorem dL_law_870 : decode code 870 = .ok (.iconst 1, 1) := by decide +kernel
theorem dL_law_871 : decode code 871 = .ok (.goto 4, 3) := by decide +kernel
theorem dL_law_874 : decode code 874 = .ok (.iconst 0, 1) := by decide +kernel
theorem dL_law_875 : decode code 875 = .ok (.if_icmp .eq 5, 3) := by decide +kernel
theorem dL_law_88 : decode code 88 = .ok (.aload_n 0, 1) := by decide +kernel
theorem dL_law_880 : decode code 880 = .ok (.iinc 5 1, 3) := by decide +kernel
theorem dL_law_883 : decode code 883 = .ok (.goto (-111), 3) := by decide +kernel
theorem dL_law_886 : decode code 886 = .ok (.aload_n 1, 1) := by decide +kernel
theorem dL_law_887 : decode code 887 = .ok (.iconst 5, 1) := by decide +kernel
theorem dL_law_888 : decode code 888 = .ok (.iconst 4, 1) := by decide +kernel
theorem dL_law_889 : decode code 889 = .ok (.invokevirtual 107, 3) := by decide +kernel
theorem dL_law_89 : decode code 89 = .ok (.iconst 4, 1) := by decide +kernel
theorem dL_law_892 : decode code 892 = .ok (.lconst 0, 1) := by decide +kernel
theorem dL_law_893 : decode code 893 = .ok (.lcmp, 1) := by decide +kernel
theorem dL_law_894 : decode code 894 = .ok (.ifCond .ne 32, 3) := by decide +kernel
theorem dL_law_897 : decode code 897 = .ok (.aload_n 1, 1) := by decide +kernel
theorem dL_law_898 : decode code 898 = .ok (.iconst 0, 1) := by decide +kernel
theorem dL_law_899 : decode code 899 = .ok (.sipush 364, 3) := by decide +kernel
theorem dL_law_9 : decode code 9 = .ok (.istore_n 2, 1) := by decide +kernel
theorem dL_law_90 : decode code 90 = .ok (.iload_n 3, 1) := by decide +kernel
theorem dL_law_902 : decode code 902 = .ok (.invokevirtual 107, 3) := by decide +kernel
theorem dL_law_905 : decode code 905 = .ok (.aload_n 1, 1) := by decide +kernel
theorem dL_law_906 : decode code 906 = .ok (.iconst 0, 1) := by decide +kernel
theorem dL_law_907 : decode code 907 = .ok (.bipush 9, 2) := by decide +kernel
theorem dL_law_909 : decode code 909 = .ok (.invokevirtual 107, 3) := by decide +kernel
theorem dL_law_91 : decode code 91 = .ok (.iadd, 1) := by decide +kernel
theorem dL_law_912 : decode code 912 = .ok (.aload_n 1, 1) := by decide +kernel
theorem dL_law_913 : decode code 913 = .ok (.bipush 10, 2) := by decide +kernel
theorem dL_law_915 : decode code 915 = .ok (.sipush 364, 3) := by decide +kernel
theorem dL_law_918 : decode code 918 = .ok (.invokevirtual 107, 3) := by decide +kernel
theorem dL_law_92 : decode code 92 = .ok (.invokestatic 12, 3) := by decide +kernel
theorem dL_law_921 : decode code 921 = .ok (.ladd, 1) := by decide +kernel
theorem dL_law_922 : decode code 922 = .ok (.lcmp, 1) := by decide +kernel
theorem dL_law_923 : decode code 923 = .ok (.ifCond .eq 5, 3) := by decide +kernel
theorem dL_law_928 : decode code 928 = .ok (.aload_n 1, 1) := by decide +kernel
theorem dL_law_929 : decode code 929 = .ok (.invokevirtual 85, 3) := by decide +kernel
theorem dL_law_932 : decode code 932 = .ok (.lload_n 3, 1) := by decide +kernel
theorem dL_law_933 : decode code 933 = .ok (.lcmp, 1) := by decide +kernel
theorem dL_law_934 : decode code 934 = .ok (.ifCond .ne 7, 3) := by decide +kernel
theorem dL_law_937 : decode code 937 = .ok (.iconst 1, 1) := by decide +kernel
theorem dL_law_938 : decode code 938 = .ok (.goto 4, 3) := by decide +kernel
theorem dL_law_942 : decode code 942 = .ok (.ireturn, 1) := by decide +kernel
theorem dL_law_95 : decode code 95 = .ok (.iconst 3, 1) := by decide +kernel
theorem dL_law_96 : decode code 96 = .ok (.ishr, 1) := by decide +kernel
theorem dL_law_97 : decode code 97 = .ok (.iconst 3, 1) := by decide +kernel
theorem dL_law_98 : decode code 98 = .ok (.invokestatic 18, 3) := by decide +kernel
