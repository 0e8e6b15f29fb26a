theorem dl_0 : decode code 0 = .ok (.new 8, 3) := by decide +kernel
theorem dl_3 : decode code 3 = .ok (.dup, 1) := by decide +kernel
theorem dl_4 : decode code 4 = .ok (.invokespecial 49, 3) := by decide +kernel
theorem dl_7 : decode code 7 = .ok (.astore_n 1, 1) := by decide +kernel
theorem dl_8 : decode code 8 = .ok (.new 50, 3) := by decide +kernel
theorem dl_11 : decode code 11 = .ok (.dup, 1) := by decide +kernel
theorem dl_12 : decode code 12 = .ok (.invokespecial 52, 3) := by decide +kernel
theorem dl_15 : decode code 15 = .ok (.astore_n 2, 1) := by decide +kernel
theorem dl_16 : decode code 16 = .ok (.iconst 1, 1) := by decide +kernel
theorem dl_17 : decode code 17 = .ok (.newarray .long, 2) := by decide +kernel
theorem dl_19 : decode code 19 = .ok (.astore_n 3, 1) := by decide +kernel
theorem dl_20 : decode code 20 = .ok (.iconst 0, 1) := by decide +kernel
theorem dl_21 : decode code 21 = .ok (.istore 4, 2) := by decide +kernel
theorem dl_23 : decode code 23 = .ok (.iload 4, 2) := by decide +kernel
theorem dl_25 : decode code 25 = .ok (.aload_n 0, 1) := by decide +kernel
theorem dl_26 : decode code 26 = .ok (.arraylength, 1) := by decide +kernel
theorem dl_27 : decode code 27 = .ok (.iconst 3, 1) := by decide +kernel
theorem dl_28 : decode code 28 = .ok (.isub, 1) := by decide +kernel
theorem dl_29 : decode code 29 = .ok (.if_icmp .gt 650, 3) := by decide +kernel
theorem dl_32 : decode code 32 = .ok (.aload_n 0, 1) := by decide +kernel
theorem dl_33 : decode code 33 = .ok (.iload 4, 2) := by decide +kernel
theorem dl_35 : decode code 35 = .ok (.iaload, 1) := by decide +kernel
theorem dl_36 : decode code 36 = .ok (.bipush 31, 2) := by decide +kernel
theorem dl_38 : decode code 38 = .ok (.iand, 1) := by decide +kernel
theorem dl_39 : decode code 39 = .ok (.tableswitch 634 0 18 #[89, 126, 139, 180, 193, 221, 258, 283, 320, 359, 398, 437, 462, 487, 500, 513, 538, 566, 594], 89) := by decide +kernel
theorem dl_128 : decode code 128 = .ok (.aload_n 1, 1) := by decide +kernel
theorem dl_129 : decode code 129 = .ok (.aload_n 0, 1) := by decide +kernel
theorem dl_130 : decode code 130 = .ok (.iload 4, 2) := by decide +kernel
theorem dl_132 : decode code 132 = .ok (.iconst 1, 1) := by decide +kernel
theorem dl_133 : decode code 133 = .ok (.iadd, 1) := by decide +kernel
theorem dl_134 : decode code 134 = .ok (.iaload, 1) := by decide +kernel
theorem dl_135 : decode code 135 = .ok (.aload_n 0, 1) := by decide +kernel
theorem dl_136 : decode code 136 = .ok (.iload 4, 2) := by decide +kernel
theorem dl_138 : decode code 138 = .ok (.iconst 2, 1) := by decide +kernel
theorem dl_139 : decode code 139 = .ok (.iadd, 1) := by decide +kernel
theorem dl_140 : decode code 140 = .ok (.iaload, 1) := by decide +kernel
theorem dl_141 : decode code 141 = .ok (.invokestatic 53, 3) := by decide +kernel
theorem dl_144 : decode code 144 = .ok (.istore 5, 2) := by decide +kernel
theorem dl_146 : decode code 146 = .ok (.aload_n 2, 1) := by decide +kernel
theorem dl_147 : decode code 147 = .ok (.aload_n 0, 1) := by decide +kernel
theorem dl_148 : decode code 148 = .ok (.iload 4, 2) := by decide +kernel
theorem dl_150 : decode code 150 = .ok (.iconst 1, 1) := by decide +kernel
theorem dl_151 : decode code 151 = .ok (.iadd, 1) := by decide +kernel
theorem dl_152 : decode code 152 = .ok (.iaload, 1) := by decide +kernel
theorem dl_153 : decode code 153 = .ok (.aload_n 0, 1) := by decide +kernel
theorem dl_154 : decode code 154 = .ok (.iload 4, 2) := by decide +kernel
theorem dl_156 : decode code 156 = .ok (.iconst 2, 1) := by decide +kernel
theorem dl_157 : decode code 157 = .ok (.iadd, 1) := by decide +kernel
theorem dl_158 : decode code 158 = .ok (.iaload, 1) := by decide +kernel
theorem dl_159 : decode code 159 = .ok (.invokevirtual 58, 3) := by decide +kernel
theorem dl_162 : decode code 162 = .ok (.goto 511, 3) := by decide +kernel
theorem dl_165 : decode code 165 = .ok (.aload_n 1, 1) := by decide +kernel
theorem dl_166 : decode code 166 = .ok (.invokestatic 59, 3) := by decide +kernel
theorem dl_169 : decode code 169 = .ok (.istore 5, 2) := by decide +kernel
theorem dl_171 : decode code 171 = .ok (.aload_n 2, 1) := by decide +kernel
