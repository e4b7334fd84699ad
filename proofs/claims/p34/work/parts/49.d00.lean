theorem dL_law_10 : decode code 10 = .ok (.iload_n 2, 1) := by decide +kernel
theorem dL_law_101 : decode code 101 = .ok (.invokevirtual 25, 3) := by decide +kernel
theorem dL_law_104 : decode code 104 = .ok (.iload_n 3, 1) := by decide +kernel
theorem dL_law_105 : decode code 105 = .ok (.if_icmp .eq 5, 3) := by decide +kernel
theorem dL_law_11 : decode code 11 = .ok (.iconst 4, 1) := by decide +kernel
theorem dL_law_110 : decode code 110 = .ok (.iinc 3 1, 3) := by decide +kernel
theorem dL_law_113 : decode code 113 = .ok (.goto (-58), 3) := by decide +kernel
theorem dL_law_116 : decode code 116 = .ok (.aload_n 1, 1) := by decide +kernel
theorem dL_law_117 : decode code 117 = .ok (.iconst 0, 1) := by decide +kernel
theorem dL_law_118 : decode code 118 = .ok (.invokevirtual 28, 3) := by decide +kernel
theorem dL_law_12 : decode code 12 = .ok (.if_icmp .ge 28, 3) := by decide +kernel
theorem dL_law_121 : decode code 121 = .ok (.pop, 1) := by decide +kernel
theorem dL_law_122 : decode code 122 = .ok (.iconst 0, 1) := by decide +kernel
theorem dL_law_123 : decode code 123 = .ok (.istore_n 3, 1) := by decide +kernel
theorem dL_law_124 : decode code 124 = .ok (.iload_n 3, 1) := by decide +kernel
theorem dL_law_125 : decode code 125 = .ok (.bipush 30, 2) := by decide +kernel
theorem dL_law_127 : decode code 127 = .ok (.if_icmp .ge 512, 3) := by decide +kernel
theorem dL_law_130 : decode code 130 = .ok (.aload_n 0, 1) := by decide +kernel
theorem dL_law_131 : decode code 131 = .ok (.iload_n 3, 1) := by decide +kernel
theorem dL_law_132 : decode code 132 = .ok (.bipush 16, 2) := by decide +kernel
theorem dL_law_134 : decode code 134 = .ok (.irem, 1) := by decide +kernel
theorem dL_law_135 : decode code 135 = .ok (.invokestatic 12, 3) := by decide +kernel
theorem dL_law_138 : decode code 138 = .ok (.iload_n 3, 1) := by decide +kernel
theorem dL_law_139 : decode code 139 = .ok (.bipush 16, 2) := by decide +kernel
theorem dL_law_141 : decode code 141 = .ok (.idiv, 1) := by decide +kernel
theorem dL_law_142 : decode code 142 = .ok (.iconst 3, 1) := by decide +kernel
theorem dL_law_143 : decode code 143 = .ok (.imul, 1) := by decide +kernel
theorem dL_law_144 : decode code 144 = .ok (.ishr, 1) := by decide +kernel
theorem dL_law_145 : decode code 145 = .ok (.iconst 5, 1) := by decide +kernel
theorem dL_law_146 : decode code 146 = .ok (.iload_n 3, 1) := by decide +kernel
theorem dL_law_147 : decode code 147 = .ok (.imul, 1) := by decide +kernel
theorem dL_law_148 : decode code 148 = .ok (.iadd, 1) := by decide +kernel
theorem dL_law_149 : decode code 149 = .ok (.istore 4, 2) := by decide +kernel
theorem dL_law_15 : decode code 15 = .ok (.aload_n 1, 1) := by decide +kernel
theorem dL_law_151 : decode code 151 = .ok (.iload 4, 2) := by decide +kernel
theorem dL_law_153 : decode code 153 = .ok (.iconst 3, 1) := by decide +kernel
theorem dL_law_154 : decode code 154 = .ok (.ishr, 1) := by decide +kernel
theorem dL_law_155 : decode code 155 = .ok (.iload_n 2, 1) := by decide +kernel
theorem dL_law_156 : decode code 156 = .ok (.invokestatic 18, 3) := by decide +kernel
theorem dL_law_159 : decode code 159 = .ok (.istore 5, 2) := by decide +kernel
theorem dL_law_16 : decode code 16 = .ok (.iload_n 2, 1) := by decide +kernel
theorem dL_law_161 : decode code 161 = .ok (.iload 4, 2) := by decide +kernel
theorem dL_law_163 : decode code 163 = .ok (.iconst 5, 1) := by decide +kernel
theorem dL_law_164 : decode code 164 = .ok (.ishr, 1) := by decide +kernel
theorem dL_law_165 : decode code 165 = .ok (.iload_n 2, 1) := by decide +kernel
theorem dL_law_166 : decode code 166 = .ok (.invokestatic 18, 3) := by decide +kernel
theorem dL_law_169 : decode code 169 = .ok (.istore 6, 2) := by decide +kernel
theorem dL_law_17 : decode code 17 = .ok (.iconst 1, 1) := by decide +kernel
theorem dL_law_171 : decode code 171 = .ok (.iconst 0, 1) := by decide +kernel
theorem dL_law_172 : decode code 172 = .ok (.istore 7, 2) := by decide +kernel
theorem dL_law_174 : decode code 174 = .ok (.iload 4, 2) := by decide +kernel
theorem dL_law_176 : decode code 176 = .ok (.bipush 9, 2) := by decide +kernel
theorem dL_law_178 : decode code 178 = .ok (.invokestatic 18, 3) := by decide +kernel
theorem dL_law_18 : decode code 18 = .ok (.aload_n 0, 1) := by decide +kernel
theorem dL_law_181 : decode code 181 = .ok (.tableswitch 278 0 4 #[35, 52, 168, 188, 220], 35) := by decide +kernel
theorem dL_law_19 : decode code 19 = .ok (.iload_n 2, 1) := by decide +kernel
theorem dL_law_20 : decode code 20 = .ok (.invokestatic 12, 3) := by decide +kernel
theorem dL_law_216 : decode code 216 = .ok (.aload_n 1, 1) := by decide +kernel
theorem dL_law_217 : decode code 217 = .ok (.iload 4, 2) := by decide +kernel
theorem dL_law_219 : decode code 219 = .ok (.iconst 2, 1) := by decide +kernel
