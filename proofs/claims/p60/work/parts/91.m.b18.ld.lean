theorem dL_holds_0 : decode cL_holds 0 = .ok (.new 69, 3) := by decide +kernel
theorem dL_holds_3 : decode cL_holds 3 = .ok (.dup, 1) := by decide +kernel
theorem dL_holds_4 : decode cL_holds 4 = .ok (.invokespecial 264, 3) := by decide +kernel
theorem dL_holds_7 : decode cL_holds 7 = .ok (.astore_n 1, 1) := by decide +kernel
theorem dL_holds_8 : decode cL_holds 8 = .ok (.bipush 64, 2) := by decide +kernel
theorem dL_holds_10 : decode cL_holds 10 = .ok (.newarray .long, 2) := by decide +kernel
theorem dL_holds_12 : decode cL_holds 12 = .ok (.astore_n 2, 1) := by decide +kernel
theorem dL_holds_13 : decode cL_holds 13 = .ok (.bipush 12, 2) := by decide +kernel
theorem dL_holds_15 : decode cL_holds 15 = .ok (.newarray .long, 2) := by decide +kernel
theorem dL_holds_17 : decode cL_holds 17 = .ok (.astore_n 3, 1) := by decide +kernel
theorem dL_holds_18 : decode cL_holds 18 = .ok (.bipush 30, 2) := by decide +kernel
theorem dL_holds_20 : decode cL_holds 20 = .ok (.newarray .long, 2) := by decide +kernel
theorem dL_holds_22 : decode cL_holds 22 = .ok (.astore 4, 2) := by decide +kernel
theorem dL_holds_24 : decode cL_holds 24 = .ok (.bipush 30, 2) := by decide +kernel
theorem dL_holds_26 : decode cL_holds 26 = .ok (.newarray .int, 2) := by decide +kernel
theorem dL_holds_28 : decode cL_holds 28 = .ok (.astore 5, 2) := by decide +kernel
theorem dL_holds_30 : decode cL_holds 30 = .ok (.bipush 30, 2) := by decide +kernel
theorem dL_holds_32 : decode cL_holds 32 = .ok (.newarray .int, 2) := by decide +kernel
theorem dL_holds_34 : decode cL_holds 34 = .ok (.astore 6, 2) := by decide +kernel
theorem dL_holds_36 : decode cL_holds 36 = .ok (.bipush 30, 2) := by decide +kernel
theorem dL_holds_38 : decode cL_holds 38 = .ok (.newarray .int, 2) := by decide +kernel
theorem dL_holds_40 : decode cL_holds 40 = .ok (.astore 7, 2) := by decide +kernel
theorem dL_holds_42 : decode cL_holds 42 = .ok (.bipush 30, 2) := by decide +kernel
theorem dL_holds_44 : decode cL_holds 44 = .ok (.newarray .int, 2) := by decide +kernel
theorem dL_holds_46 : decode cL_holds 46 = .ok (.astore 8, 2) := by decide +kernel
theorem dL_holds_48 : decode cL_holds 48 = .ok (.bipush 64, 2) := by decide +kernel
theorem dL_holds_50 : decode cL_holds 50 = .ok (.newarray .int, 2) := by decide +kernel
theorem dL_holds_52 : decode cL_holds 52 = .ok (.astore 9, 2) := by decide +kernel
theorem dL_holds_54 : decode cL_holds 54 = .ok (.bipush 64, 2) := by decide +kernel
theorem dL_holds_56 : decode cL_holds 56 = .ok (.newarray .int, 2) := by decide +kernel
theorem dL_holds_58 : decode cL_holds 58 = .ok (.astore 10, 2) := by decide +kernel
theorem dL_holds_60 : decode cL_holds 60 = .ok (.bipush 64, 2) := by decide +kernel
theorem dL_holds_62 : decode cL_holds 62 = .ok (.newarray .int, 2) := by decide +kernel
theorem dL_holds_64 : decode cL_holds 64 = .ok (.astore 11, 2) := by decide +kernel
theorem dL_holds_66 : decode cL_holds 66 = .ok (.bipush 64, 2) := by decide +kernel
theorem dL_holds_68 : decode cL_holds 68 = .ok (.newarray .int, 2) := by decide +kernel
theorem dL_holds_70 : decode cL_holds 70 = .ok (.astore 12, 2) := by decide +kernel
theorem dL_holds_72 : decode cL_holds 72 = .ok (.bipush 8, 2) := by decide +kernel
theorem dL_holds_74 : decode cL_holds 74 = .ok (.newarray .int, 2) := by decide +kernel
theorem dL_holds_76 : decode cL_holds 76 = .ok (.astore 13, 2) := by decide +kernel
theorem dL_holds_78 : decode cL_holds 78 = .ok (.bipush 40, 2) := by decide +kernel
theorem dL_holds_80 : decode cL_holds 80 = .ok (.newarray .int, 2) := by decide +kernel
theorem dL_holds_82 : decode cL_holds 82 = .ok (.astore 14, 2) := by decide +kernel
theorem dL_holds_84 : decode cL_holds 84 = .ok (.bipush 32, 2) := by decide +kernel
theorem dL_holds_86 : decode cL_holds 86 = .ok (.newarray .int, 2) := by decide +kernel
theorem dL_holds_88 : decode cL_holds 88 = .ok (.astore 15, 2) := by decide +kernel
theorem dL_holds_90 : decode cL_holds 90 = .ok (.bipush 30, 2) := by decide +kernel
theorem dL_holds_92 : decode cL_holds 92 = .ok (.newarray .int, 2) := by decide +kernel
theorem dL_holds_94 : decode cL_holds 94 = .ok (.astore 16, 2) := by decide +kernel
theorem dL_holds_96 : decode cL_holds 96 = .ok (.bipush 17, 2) := by decide +kernel
theorem dL_holds_98 : decode cL_holds 98 = .ok (.newarray .int, 2) := by decide +kernel
theorem dL_holds_100 : decode cL_holds 100 = .ok (.astore 17, 2) := by decide +kernel
theorem dL_holds_102 : decode cL_holds 102 = .ok (.aload_n 1, 1) := by decide +kernel
theorem dL_holds_103 : decode cL_holds 103 = .ok (.invokestatic 265, 3) := by decide +kernel
theorem dL_holds_106 : decode cL_holds 106 = .ok (.istore 18, 2) := by decide +kernel
theorem dL_holds_108 : decode cL_holds 108 = .ok (.aload 17, 2) := by decide +kernel
theorem dL_holds_110 : decode cL_holds 110 = .ok (.iconst 5, 1) := by decide +kernel
theorem dL_holds_111 : decode cL_holds 111 = .ok (.iconst (-1), 1) := by decide +kernel
theorem dL_holds_112 : decode cL_holds 112 = .ok (.iastore, 1) := by decide +kernel
theorem dL_holds_113 : decode cL_holds 113 = .ok (.iconst 0, 1) := by decide +kernel
theorem dL_holds_114 : decode cL_holds 114 = .ok (.istore 19, 2) := by decide +kernel
theorem dL_holds_116 : decode cL_holds 116 = .ok (.iload 19, 2) := by decide +kernel
theorem dL_holds_118 : decode cL_holds 118 = .ok (.bipush 110, 2) := by decide +kernel
theorem dL_holds_120 : decode cL_holds 120 = .ok (.if_icmp .ge 728, 3) := by decide +kernel
theorem dL_holds_123 : decode cL_holds 123 = .ok (.iload 18, 2) := by decide +kernel
theorem dL_holds_125 : decode cL_holds 125 = .ok (.ifCond .eq 723, 3) := by decide +kernel
theorem dL_holds_128 : decode cL_holds 128 = .ok (.aload_n 0, 1) := by decide +kernel
theorem dL_holds_129 : decode cL_holds 129 = .ok (.iconst 3, 1) := by decide +kernel
theorem dL_holds_130 : decode cL_holds 130 = .ok (.iload 19, 2) := by decide +kernel
theorem dL_holds_132 : decode cL_holds 132 = .ok (.imul, 1) := by decide +kernel
theorem dL_holds_133 : decode cL_holds 133 = .ok (.iconst 1, 1) := by decide +kernel
theorem dL_holds_134 : decode cL_holds 134 = .ok (.iadd, 1) := by decide +kernel
theorem dL_holds_135 : decode cL_holds 135 = .ok (.ldc_w 269, 3) := by decide +kernel
theorem dL_holds_138 : decode cL_holds 138 = .ok (.invokestatic 270, 3) := by decide +kernel
theorem dL_holds_141 : decode cL_holds 141 = .ok (.istore 20, 2) := by decide +kernel
theorem dL_holds_143 : decode cL_holds 143 = .ok (.iload 19, 2) := by decide +kernel
theorem dL_holds_145 : decode cL_holds 145 = .ok (.iconst 4, 1) := by decide +kernel
theorem dL_holds_146 : decode cL_holds 146 = .ok (.if_icmp .ge 7, 3) := by decide +kernel
theorem dL_holds_149 : decode cL_holds 149 = .ok (.iconst 0, 1) := by decide +kernel
theorem dL_holds_150 : decode cL_holds 150 = .ok (.goto 13, 3) := by decide +kernel
theorem dL_holds_153 : decode cL_holds 153 = .ok (.aload_n 0, 1) := by decide +kernel
theorem dL_holds_154 : decode cL_holds 154 = .ok (.iconst 3, 1) := by decide +kernel
theorem dL_holds_155 : decode cL_holds 155 = .ok (.iload 19, 2) := by decide +kernel
theorem dL_holds_157 : decode cL_holds 157 = .ok (.imul, 1) := by decide +kernel
theorem dL_holds_158 : decode cL_holds 158 = .ok (.bipush 36, 2) := by decide +kernel
theorem dL_holds_160 : decode cL_holds 160 = .ok (.invokestatic 270, 3) := by decide +kernel
theorem dL_holds_163 : decode cL_holds 163 = .ok (.istore 21, 2) := by decide +kernel
theorem dL_holds_165 : decode cL_holds 165 = .ok (.aload 17, 2) := by decide +kernel
theorem dL_holds_167 : decode cL_holds 167 = .ok (.iconst 0, 1) := by decide +kernel
theorem dL_holds_168 : decode cL_holds 168 = .ok (.iaload, 1) := by decide +kernel
theorem dL_holds_169 : decode cL_holds 169 = .ok (.aload 17, 2) := by decide +kernel
theorem dL_holds_171 : decode cL_holds 171 = .ok (.iconst 1, 1) := by decide +kernel
theorem dL_holds_172 : decode cL_holds 172 = .ok (.iaload, 1) := by decide +kernel
theorem dL_holds_173 : decode cL_holds 173 = .ok (.iadd, 1) := by decide +kernel
theorem dL_holds_174 : decode cL_holds 174 = .ok (.bipush 60, 2) := by decide +kernel
theorem dL_holds_176 : decode cL_holds 176 = .ok (.if_icmp .ge 16, 3) := by decide +kernel
theorem dL_holds_179 : decode cL_holds 179 = .ok (.aload 17, 2) := by decide +kernel
theorem dL_holds_181 : decode cL_holds 181 = .ok (.iconst 2, 1) := by decide +kernel
theorem dL_holds_182 : decode cL_holds 182 = .ok (.iaload, 1) := by decide +kernel
theorem dL_holds_183 : decode cL_holds 183 = .ok (.bipush 27, 2) := by decide +kernel
theorem dL_holds_185 : decode cL_holds 185 = .ok (.if_icmp .ge 7, 3) := by decide +kernel
theorem dL_holds_188 : decode cL_holds 188 = .ok (.iconst 1, 1) := by decide +kernel
theorem dL_holds_189 : decode cL_holds 189 = .ok (.goto 4, 3) := by decide +kernel
theorem dL_holds_192 : decode cL_holds 192 = .ok (.iconst 0, 1) := by decide +kernel
theorem dL_holds_193 : decode cL_holds 193 = .ok (.istore 22, 2) := by decide +kernel
theorem dL_holds_195 : decode cL_holds 195 = .ok (.iload 21, 2) := by decide +kernel
theorem dL_holds_197 : decode cL_holds 197 = .ok (.bipush 9, 2) := by decide +kernel
theorem dL_holds_199 : decode cL_holds 199 = .ok (.if_icmp .ge 44, 3) := by decide +kernel
theorem dL_holds_202 : decode cL_holds 202 = .ok (.iload 22, 2) := by decide +kernel
theorem dL_holds_204 : decode cL_holds 204 = .ok (.ifCond .eq 39, 3) := by decide +kernel
theorem dL_holds_207 : decode cL_holds 207 = .ok (.aload_n 1, 1) := by decide +kernel
theorem dL_holds_208 : decode cL_holds 208 = .ok (.aload_n 2, 1) := by decide +kernel
theorem dL_holds_209 : decode cL_holds 209 = .ok (.aload_n 3, 1) := by decide +kernel
theorem dL_holds_210 : decode cL_holds 210 = .ok (.aload 4, 2) := by decide +kernel
theorem dL_holds_212 : decode cL_holds 212 = .ok (.aload 5, 2) := by decide +kernel
theorem dL_holds_214 : decode cL_holds 214 = .ok (.aload 6, 2) := by decide +kernel
theorem dL_holds_216 : decode cL_holds 216 = .ok (.aload 8, 2) := by decide +kernel
theorem dL_holds_218 : decode cL_holds 218 = .ok (.aload 17, 2) := by decide +kernel
theorem dL_holds_220 : decode cL_holds 220 = .ok (.iload 20, 2) := by decide +kernel
theorem dL_holds_222 : decode cL_holds 222 = .ok (.aload_n 0, 1) := by decide +kernel
