theorem dL_find_0 : decode cL_find 0 = .ok (.bipush 9, 2) := by decide +kernel
theorem dL_find_2 : decode cL_find 2 = .ok (.newarray .int, 2) := by decide +kernel
theorem dL_find_4 : decode cL_find 4 = .ok (.astore 9, 2) := by decide +kernel
theorem dL_find_6 : decode cL_find 6 = .ok (.aload_n 0, 1) := by decide +kernel
theorem dL_find_7 : decode cL_find 7 = .ok (.aload_n 1, 1) := by decide +kernel
theorem dL_find_8 : decode cL_find 8 = .ok (.aload_n 2, 1) := by decide +kernel
theorem dL_find_9 : decode cL_find 9 = .ok (.aload_n 3, 1) := by decide +kernel
theorem dL_find_10 : decode cL_find 10 = .ok (.aload 9, 2) := by decide +kernel
theorem dL_find_12 : decode cL_find 12 = .ok (.invokestatic 46, 3) := by decide +kernel
theorem dL_find_15 : decode cL_find 15 = .ok (.aload 6, 2) := by decide +kernel
theorem dL_find_17 : decode cL_find 17 = .ok (.bipush 14, 2) := by decide +kernel
theorem dL_find_19 : decode cL_find 19 = .ok (.iconst 0, 1) := by decide +kernel
theorem dL_find_20 : decode cL_find 20 = .ok (.iastore, 1) := by decide +kernel
theorem dL_find_21 : decode cL_find 21 = .ok (.aload 6, 2) := by decide +kernel
theorem dL_find_23 : decode cL_find 23 = .ok (.bipush 15, 2) := by decide +kernel
theorem dL_find_25 : decode cL_find 25 = .ok (.iconst 0, 1) := by decide +kernel
theorem dL_find_26 : decode cL_find 26 = .ok (.iastore, 1) := by decide +kernel
theorem dL_find_27 : decode cL_find 27 = .ok (.aload 6, 2) := by decide +kernel
theorem dL_find_29 : decode cL_find 29 = .ok (.bipush 16, 2) := by decide +kernel
theorem dL_find_31 : decode cL_find 31 = .ok (.iconst 0, 1) := by decide +kernel
theorem dL_find_32 : decode cL_find 32 = .ok (.iastore, 1) := by decide +kernel
theorem dL_find_33 : decode cL_find 33 = .ok (.iconst 0, 1) := by decide +kernel
theorem dL_find_34 : decode cL_find 34 = .ok (.istore 10, 2) := by decide +kernel
theorem dL_find_36 : decode cL_find 36 = .ok (.iload 10, 2) := by decide +kernel
theorem dL_find_38 : decode cL_find 38 = .ok (.aload_n 3, 1) := by decide +kernel
theorem dL_find_39 : decode cL_find 39 = .ok (.iconst 1, 1) := by decide +kernel
theorem dL_find_40 : decode cL_find 40 = .ok (.iaload, 1) := by decide +kernel
theorem dL_find_41 : decode cL_find 41 = .ok (.if_icmp .ge 496, 3) := by decide +kernel
theorem dL_find_44 : decode cL_find 44 = .ok (.aload_n 3, 1) := by decide +kernel
theorem dL_find_45 : decode cL_find 45 = .ok (.iconst 2, 1) := by decide +kernel
theorem dL_find_46 : decode cL_find 46 = .ok (.iload 10, 2) := by decide +kernel
theorem dL_find_48 : decode cL_find 48 = .ok (.iadd, 1) := by decide +kernel
theorem dL_find_49 : decode cL_find 49 = .ok (.iaload, 1) := by decide +kernel
theorem dL_find_50 : decode cL_find 50 = .ok (.istore 11, 2) := by decide +kernel
theorem dL_find_52 : decode cL_find 52 = .ok (.iconst 0, 1) := by decide +kernel
theorem dL_find_53 : decode cL_find 53 = .ok (.istore 12, 2) := by decide +kernel
theorem dL_find_55 : decode cL_find 55 = .ok (.iload 12, 2) := by decide +kernel
theorem dL_find_57 : decode cL_find 57 = .ok (.aload 6, 2) := by decide +kernel
theorem dL_find_59 : decode cL_find 59 = .ok (.bipush 13, 2) := by decide +kernel
theorem dL_find_61 : decode cL_find 61 = .ok (.iaload, 1) := by decide +kernel
theorem dL_find_62 : decode cL_find 62 = .ok (.if_icmp .ge 25, 3) := by decide +kernel
theorem dL_find_65 : decode cL_find 65 = .ok (.aload 4, 2) := by decide +kernel
theorem dL_find_67 : decode cL_find 67 = .ok (.iload 12, 2) := by decide +kernel
theorem dL_find_69 : decode cL_find 69 = .ok (.iaload, 1) := by decide +kernel
theorem dL_find_70 : decode cL_find 70 = .ok (.bipush 64, 2) := by decide +kernel
theorem dL_find_72 : decode cL_find 72 = .ok (.iload 7, 2) := by decide +kernel
theorem dL_find_74 : decode cL_find 74 = .ok (.imul, 1) := by decide +kernel
theorem dL_find_75 : decode cL_find 75 = .ok (.iload 11, 2) := by decide +kernel
theorem dL_find_77 : decode cL_find 77 = .ok (.iadd, 1) := by decide +kernel
theorem dL_find_78 : decode cL_find 78 = .ok (.if_icmp .eq 9, 3) := by decide +kernel
theorem dL_find_81 : decode cL_find 81 = .ok (.iinc 12 1, 3) := by decide +kernel
theorem dL_find_84 : decode cL_find 84 = .ok (.goto (-29), 3) := by decide +kernel
theorem dL_find_87 : decode cL_find 87 = .ok (.aload 6, 2) := by decide +kernel
theorem dL_find_89 : decode cL_find 89 = .ok (.bipush 16, 2) := by decide +kernel
theorem dL_find_91 : decode cL_find 91 = .ok (.dup2, 1) := by decide +kernel
theorem dL_find_92 : decode cL_find 92 = .ok (.iaload, 1) := by decide +kernel
theorem dL_find_93 : decode cL_find 93 = .ok (.iload 12, 2) := by decide +kernel
theorem dL_find_95 : decode cL_find 95 = .ok (.aload 6, 2) := by decide +kernel
theorem dL_find_97 : decode cL_find 97 = .ok (.bipush 13, 2) := by decide +kernel
theorem dL_find_99 : decode cL_find 99 = .ok (.iaload, 1) := by decide +kernel
theorem dL_find_100 : decode cL_find 100 = .ok (.if_icmp .ge 7, 3) := by decide +kernel
theorem dL_find_103 : decode cL_find 103 = .ok (.iconst 1, 1) := by decide +kernel
theorem dL_find_104 : decode cL_find 104 = .ok (.goto 4, 3) := by decide +kernel
theorem dL_find_107 : decode cL_find 107 = .ok (.iconst 0, 1) := by decide +kernel
theorem dL_find_108 : decode cL_find 108 = .ok (.iadd, 1) := by decide +kernel
theorem dL_find_109 : decode cL_find 109 = .ok (.iastore, 1) := by decide +kernel
theorem dL_find_110 : decode cL_find 110 = .ok (.iload 12, 2) := by decide +kernel
theorem dL_find_112 : decode cL_find 112 = .ok (.aload 6, 2) := by decide +kernel
theorem dL_find_114 : decode cL_find 114 = .ok (.bipush 13, 2) := by decide +kernel
theorem dL_find_116 : decode cL_find 116 = .ok (.iaload, 1) := by decide +kernel
theorem dL_find_117 : decode cL_find 117 = .ok (.if_icmp .ne 41, 3) := by decide +kernel
theorem dL_find_120 : decode cL_find 120 = .ok (.aload 6, 2) := by decide +kernel
theorem dL_find_122 : decode cL_find 122 = .ok (.bipush 13, 2) := by decide +kernel
theorem dL_find_124 : decode cL_find 124 = .ok (.dup2, 1) := by decide +kernel
theorem dL_find_125 : decode cL_find 125 = .ok (.iaload, 1) := by decide +kernel
theorem dL_find_126 : decode cL_find 126 = .ok (.aload 6, 2) := by decide +kernel
theorem dL_find_128 : decode cL_find 128 = .ok (.bipush 13, 2) := by decide +kernel
theorem dL_find_130 : decode cL_find 130 = .ok (.iaload, 1) := by decide +kernel
theorem dL_find_131 : decode cL_find 131 = .ok (.bipush 8, 2) := by decide +kernel
theorem dL_find_133 : decode cL_find 133 = .ok (.if_icmp .ge 7, 3) := by decide +kernel
theorem dL_find_136 : decode cL_find 136 = .ok (.iconst 1, 1) := by decide +kernel
theorem dL_find_137 : decode cL_find 137 = .ok (.goto 4, 3) := by decide +kernel
theorem dL_find_140 : decode cL_find 140 = .ok (.iconst 0, 1) := by decide +kernel
theorem dL_find_141 : decode cL_find 141 = .ok (.iadd, 1) := by decide +kernel
theorem dL_find_142 : decode cL_find 142 = .ok (.iastore, 1) := by decide +kernel
theorem dL_find_143 : decode cL_find 143 = .ok (.iload 12, 2) := by decide +kernel
theorem dL_find_145 : decode cL_find 145 = .ok (.bipush 8, 2) := by decide +kernel
theorem dL_find_147 : decode cL_find 147 = .ok (.if_icmp .ne 7, 3) := by decide +kernel
theorem dL_find_150 : decode cL_find 150 = .ok (.iconst 0, 1) := by decide +kernel
theorem dL_find_151 : decode cL_find 151 = .ok (.goto 5, 3) := by decide +kernel
theorem dL_find_154 : decode cL_find 154 = .ok (.iload 12, 2) := by decide +kernel
theorem dL_find_156 : decode cL_find 156 = .ok (.istore 12, 2) := by decide +kernel
theorem dL_find_158 : decode cL_find 158 = .ok (.iload 12, 2) := by decide +kernel
theorem dL_find_160 : decode cL_find 160 = .ok (.iconst 1, 1) := by decide +kernel
theorem dL_find_161 : decode cL_find 161 = .ok (.iadd, 1) := by decide +kernel
theorem dL_find_162 : decode cL_find 162 = .ok (.aload 6, 2) := by decide +kernel
theorem dL_find_164 : decode cL_find 164 = .ok (.bipush 13, 2) := by decide +kernel
theorem dL_find_166 : decode cL_find 166 = .ok (.iaload, 1) := by decide +kernel
theorem dL_find_167 : decode cL_find 167 = .ok (.if_icmp .ge 21, 3) := by decide +kernel
theorem dL_find_170 : decode cL_find 170 = .ok (.aload 4, 2) := by decide +kernel
theorem dL_find_172 : decode cL_find 172 = .ok (.iload 12, 2) := by decide +kernel
theorem dL_find_174 : decode cL_find 174 = .ok (.aload 4, 2) := by decide +kernel
theorem dL_find_176 : decode cL_find 176 = .ok (.iload 12, 2) := by decide +kernel
theorem dL_find_178 : decode cL_find 178 = .ok (.iconst 1, 1) := by decide +kernel
theorem dL_find_179 : decode cL_find 179 = .ok (.iadd, 1) := by decide +kernel
theorem dL_find_180 : decode cL_find 180 = .ok (.iaload, 1) := by decide +kernel
theorem dL_find_181 : decode cL_find 181 = .ok (.iastore, 1) := by decide +kernel
theorem dL_find_182 : decode cL_find 182 = .ok (.iinc 12 1, 3) := by decide +kernel
theorem dL_find_185 : decode cL_find 185 = .ok (.goto (-27), 3) := by decide +kernel
theorem dL_find_188 : decode cL_find 188 = .ok (.aload 4, 2) := by decide +kernel
theorem dL_find_190 : decode cL_find 190 = .ok (.aload 6, 2) := by decide +kernel
theorem dL_find_192 : decode cL_find 192 = .ok (.bipush 13, 2) := by decide +kernel
theorem dL_find_194 : decode cL_find 194 = .ok (.iaload, 1) := by decide +kernel
theorem dL_find_195 : decode cL_find 195 = .ok (.iconst 1, 1) := by decide +kernel
theorem dL_find_196 : decode cL_find 196 = .ok (.isub, 1) := by decide +kernel
theorem dL_find_197 : decode cL_find 197 = .ok (.bipush 64, 2) := by decide +kernel
theorem dL_find_199 : decode cL_find 199 = .ok (.iload 7, 2) := by decide +kernel
theorem dL_find_201 : decode cL_find 201 = .ok (.imul, 1) := by decide +kernel
theorem dL_find_202 : decode cL_find 202 = .ok (.iload 11, 2) := by decide +kernel
theorem dL_find_204 : decode cL_find 204 = .ok (.iadd, 1) := by decide +kernel
