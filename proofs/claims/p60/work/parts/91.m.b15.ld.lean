theorem dL_isCommitted_0 : decode cL_isCommitted 0 = .ok (.iload 14, 2) := by decide +kernel
theorem dL_isCommitted_2 : decode cL_isCommitted 2 = .ok (.ifCond .ne 258, 3) := by decide +kernel
theorem dL_isCommitted_5 : decode cL_isCommitted 5 = .ok (.aload 12, 2) := by decide +kernel
theorem dL_isCommitted_7 : decode cL_isCommitted 7 = .ok (.bipush 6, 2) := by decide +kernel
theorem dL_isCommitted_9 : decode cL_isCommitted 9 = .ok (.iaload, 1) := by decide +kernel
theorem dL_isCommitted_10 : decode cL_isCommitted 10 = .ok (.iconst 1, 1) := by decide +kernel
theorem dL_isCommitted_11 : decode cL_isCommitted 11 = .ok (.if_icmp .eq 11, 3) := by decide +kernel
theorem dL_isCommitted_14 : decode cL_isCommitted 14 = .ok (.aload 9, 2) := by decide +kernel
theorem dL_isCommitted_16 : decode cL_isCommitted 16 = .ok (.iconst 0, 1) := by decide +kernel
theorem dL_isCommitted_17 : decode cL_isCommitted 17 = .ok (.iaload, 1) := by decide +kernel
theorem dL_isCommitted_18 : decode cL_isCommitted 18 = .ok (.iconst 1, 1) := by decide +kernel
theorem dL_isCommitted_19 : decode cL_isCommitted 19 = .ok (.if_icmp .ne 19, 3) := by decide +kernel
theorem dL_isCommitted_22 : decode cL_isCommitted 22 = .ok (.aload_n 0, 1) := by decide +kernel
theorem dL_isCommitted_23 : decode cL_isCommitted 23 = .ok (.iconst 4, 1) := by decide +kernel
theorem dL_isCommitted_24 : decode cL_isCommitted 24 = .ok (.invokestatic 205, 3) := by decide +kernel
theorem dL_isCommitted_27 : decode cL_isCommitted 27 = .ok (.bipush (-7), 2) := by decide +kernel
theorem dL_isCommitted_29 : decode cL_isCommitted 29 = .ok (.if_icmp .ne 7, 3) := by decide +kernel
theorem dL_isCommitted_32 : decode cL_isCommitted 32 = .ok (.iconst 1, 1) := by decide +kernel
theorem dL_isCommitted_33 : decode cL_isCommitted 33 = .ok (.goto 4, 3) := by decide +kernel
theorem dL_isCommitted_36 : decode cL_isCommitted 36 = .ok (.iconst 0, 1) := by decide +kernel
theorem dL_isCommitted_37 : decode cL_isCommitted 37 = .ok (.ireturn, 1) := by decide +kernel
theorem dL_isCommitted_38 : decode cL_isCommitted 38 = .ok (.aload_n 1, 1) := by decide +kernel
theorem dL_isCommitted_39 : decode cL_isCommitted 39 = .ok (.aload_n 2, 1) := by decide +kernel
theorem dL_isCommitted_40 : decode cL_isCommitted 40 = .ok (.aload_n 3, 1) := by decide +kernel
theorem dL_isCommitted_41 : decode cL_isCommitted 41 = .ok (.aload 4, 2) := by decide +kernel
theorem dL_isCommitted_43 : decode cL_isCommitted 43 = .ok (.aload 5, 2) := by decide +kernel
theorem dL_isCommitted_45 : decode cL_isCommitted 45 = .ok (.aload 6, 2) := by decide +kernel
theorem dL_isCommitted_47 : decode cL_isCommitted 47 = .ok (.aload 7, 2) := by decide +kernel
theorem dL_isCommitted_49 : decode cL_isCommitted 49 = .ok (.aload 9, 2) := by decide +kernel
theorem dL_isCommitted_51 : decode cL_isCommitted 51 = .ok (.aload 10, 2) := by decide +kernel
theorem dL_isCommitted_53 : decode cL_isCommitted 53 = .ok (.aload 11, 2) := by decide +kernel
theorem dL_isCommitted_55 : decode cL_isCommitted 55 = .ok (.aload 12, 2) := by decide +kernel
theorem dL_isCommitted_57 : decode cL_isCommitted 57 = .ok (.invokestatic 245, 3) := by decide +kernel
theorem dL_isCommitted_60 : decode cL_isCommitted 60 = .ok (.istore 15, 2) := by decide +kernel
theorem dL_isCommitted_62 : decode cL_isCommitted 62 = .ok (.iconst 0, 1) := by decide +kernel
theorem dL_isCommitted_63 : decode cL_isCommitted 63 = .ok (.istore 16, 2) := by decide +kernel
theorem dL_isCommitted_65 : decode cL_isCommitted 65 = .ok (.iload 16, 2) := by decide +kernel
theorem dL_isCommitted_67 : decode cL_isCommitted 67 = .ok (.bipush 30, 2) := by decide +kernel
theorem dL_isCommitted_69 : decode cL_isCommitted 69 = .ok (.if_icmp .ge 19, 3) := by decide +kernel
theorem dL_isCommitted_72 : decode cL_isCommitted 72 = .ok (.aload 13, 2) := by decide +kernel
theorem dL_isCommitted_74 : decode cL_isCommitted 74 = .ok (.iload 16, 2) := by decide +kernel
theorem dL_isCommitted_76 : decode cL_isCommitted 76 = .ok (.aload 6, 2) := by decide +kernel
theorem dL_isCommitted_78 : decode cL_isCommitted 78 = .ok (.iload 16, 2) := by decide +kernel
theorem dL_isCommitted_80 : decode cL_isCommitted 80 = .ok (.iaload, 1) := by decide +kernel
theorem dL_isCommitted_81 : decode cL_isCommitted 81 = .ok (.iastore, 1) := by decide +kernel
theorem dL_isCommitted_82 : decode cL_isCommitted 82 = .ok (.iinc 16 1, 3) := by decide +kernel
theorem dL_isCommitted_85 : decode cL_isCommitted 85 = .ok (.goto (-20), 3) := by decide +kernel
theorem dL_isCommitted_88 : decode cL_isCommitted 88 = .ok (.iconst 0, 1) := by decide +kernel
theorem dL_isCommitted_89 : decode cL_isCommitted 89 = .ok (.istore 16, 2) := by decide +kernel
theorem dL_isCommitted_91 : decode cL_isCommitted 91 = .ok (.iload 16, 2) := by decide +kernel
theorem dL_isCommitted_93 : decode cL_isCommitted 93 = .ok (.aload 12, 2) := by decide +kernel
theorem dL_isCommitted_95 : decode cL_isCommitted 95 = .ok (.iconst 3, 1) := by decide +kernel
theorem dL_isCommitted_96 : decode cL_isCommitted 96 = .ok (.iaload, 1) := by decide +kernel
theorem dL_isCommitted_97 : decode cL_isCommitted 97 = .ok (.if_icmp .ge 92, 3) := by decide +kernel
theorem dL_isCommitted_100 : decode cL_isCommitted 100 = .ok (.iload 15, 2) := by decide +kernel
theorem dL_isCommitted_102 : decode cL_isCommitted 102 = .ok (.bipush (-2), 2) := by decide +kernel
theorem dL_isCommitted_104 : decode cL_isCommitted 104 = .ok (.if_icmp .le 85, 3) := by decide +kernel
theorem dL_isCommitted_107 : decode cL_isCommitted 107 = .ok (.aload 5, 2) := by decide +kernel
theorem dL_isCommitted_109 : decode cL_isCommitted 109 = .ok (.aload 7, 2) := by decide +kernel
theorem dL_isCommitted_111 : decode cL_isCommitted 111 = .ok (.iload 16, 2) := by decide +kernel
theorem dL_isCommitted_113 : decode cL_isCommitted 113 = .ok (.iaload, 1) := by decide +kernel
theorem dL_isCommitted_114 : decode cL_isCommitted 114 = .ok (.iaload, 1) := by decide +kernel
theorem dL_isCommitted_115 : decode cL_isCommitted 115 = .ok (.aload 6, 2) := by decide +kernel
theorem dL_isCommitted_117 : decode cL_isCommitted 117 = .ok (.aload 7, 2) := by decide +kernel
theorem dL_isCommitted_119 : decode cL_isCommitted 119 = .ok (.iload 16, 2) := by decide +kernel
theorem dL_isCommitted_121 : decode cL_isCommitted 121 = .ok (.iaload, 1) := by decide +kernel
theorem dL_isCommitted_122 : decode cL_isCommitted 122 = .ok (.iaload, 1) := by decide +kernel
theorem dL_isCommitted_123 : decode cL_isCommitted 123 = .ok (.if_icmp .eq 60, 3) := by decide +kernel
theorem dL_isCommitted_126 : decode cL_isCommitted 126 = .ok (.aload 12, 2) := by decide +kernel
theorem dL_isCommitted_128 : decode cL_isCommitted 128 = .ok (.aload 9, 2) := by decide +kernel
theorem dL_isCommitted_130 : decode cL_isCommitted 130 = .ok (.aload 10, 2) := by decide +kernel
theorem dL_isCommitted_132 : decode cL_isCommitted 132 = .ok (.aload 11, 2) := by decide +kernel
theorem dL_isCommitted_134 : decode cL_isCommitted 134 = .ok (.invokestatic 57, 3) := by decide +kernel
theorem dL_isCommitted_137 : decode cL_isCommitted 137 = .ok (.ifCond .eq 8, 3) := by decide +kernel
theorem dL_isCommitted_140 : decode cL_isCommitted 140 = .ok (.iload 15, 2) := by decide +kernel
theorem dL_isCommitted_142 : decode cL_isCommitted 142 = .ok (.goto 5, 3) := by decide +kernel
theorem dL_isCommitted_145 : decode cL_isCommitted 145 = .ok (.bipush (-2), 2) := by decide +kernel
theorem dL_isCommitted_147 : decode cL_isCommitted 147 = .ok (.istore 15, 2) := by decide +kernel
theorem dL_isCommitted_149 : decode cL_isCommitted 149 = .ok (.aload 6, 2) := by decide +kernel
theorem dL_isCommitted_151 : decode cL_isCommitted 151 = .ok (.aload 7, 2) := by decide +kernel
theorem dL_isCommitted_153 : decode cL_isCommitted 153 = .ok (.iload 16, 2) := by decide +kernel
theorem dL_isCommitted_155 : decode cL_isCommitted 155 = .ok (.iaload, 1) := by decide +kernel
theorem dL_isCommitted_156 : decode cL_isCommitted 156 = .ok (.iload 15, 2) := by decide +kernel
theorem dL_isCommitted_158 : decode cL_isCommitted 158 = .ok (.bipush (-2), 2) := by decide +kernel
theorem dL_isCommitted_160 : decode cL_isCommitted 160 = .ok (.if_icmp .ne 14, 3) := by decide +kernel
theorem dL_isCommitted_163 : decode cL_isCommitted 163 = .ok (.aload 6, 2) := by decide +kernel
theorem dL_isCommitted_165 : decode cL_isCommitted 165 = .ok (.aload 7, 2) := by decide +kernel
theorem dL_isCommitted_167 : decode cL_isCommitted 167 = .ok (.iload 16, 2) := by decide +kernel
theorem dL_isCommitted_169 : decode cL_isCommitted 169 = .ok (.iaload, 1) := by decide +kernel
theorem dL_isCommitted_170 : decode cL_isCommitted 170 = .ok (.iaload, 1) := by decide +kernel
theorem dL_isCommitted_171 : decode cL_isCommitted 171 = .ok (.goto 11, 3) := by decide +kernel
theorem dL_isCommitted_174 : decode cL_isCommitted 174 = .ok (.aload 5, 2) := by decide +kernel
theorem dL_isCommitted_176 : decode cL_isCommitted 176 = .ok (.aload 7, 2) := by decide +kernel
theorem dL_isCommitted_178 : decode cL_isCommitted 178 = .ok (.iload 16, 2) := by decide +kernel
theorem dL_isCommitted_180 : decode cL_isCommitted 180 = .ok (.iaload, 1) := by decide +kernel
theorem dL_isCommitted_181 : decode cL_isCommitted 181 = .ok (.iaload, 1) := by decide +kernel
theorem dL_isCommitted_182 : decode cL_isCommitted 182 = .ok (.iastore, 1) := by decide +kernel
theorem dL_isCommitted_183 : decode cL_isCommitted 183 = .ok (.iinc 16 1, 3) := by decide +kernel
theorem dL_isCommitted_186 : decode cL_isCommitted 186 = .ok (.goto (-95), 3) := by decide +kernel
theorem dL_isCommitted_189 : decode cL_isCommitted 189 = .ok (.iload 15, 2) := by decide +kernel
theorem dL_isCommitted_191 : decode cL_isCommitted 191 = .ok (.bipush (-2), 2) := by decide +kernel
theorem dL_isCommitted_193 : decode cL_isCommitted 193 = .ok (.if_icmp .eq 17, 3) := by decide +kernel
theorem dL_isCommitted_196 : decode cL_isCommitted 196 = .ok (.aload 12, 2) := by decide +kernel
theorem dL_isCommitted_198 : decode cL_isCommitted 198 = .ok (.aload 9, 2) := by decide +kernel
theorem dL_isCommitted_200 : decode cL_isCommitted 200 = .ok (.aload 10, 2) := by decide +kernel
theorem dL_isCommitted_202 : decode cL_isCommitted 202 = .ok (.aload 11, 2) := by decide +kernel
theorem dL_isCommitted_204 : decode cL_isCommitted 204 = .ok (.invokestatic 57, 3) := by decide +kernel
theorem dL_isCommitted_207 : decode cL_isCommitted 207 = .ok (.ifCond .ne 8, 3) := by decide +kernel
theorem dL_isCommitted_210 : decode cL_isCommitted 210 = .ok (.bipush (-2), 2) := by decide +kernel
theorem dL_isCommitted_212 : decode cL_isCommitted 212 = .ok (.goto 7, 3) := by decide +kernel
theorem dL_isCommitted_215 : decode cL_isCommitted 215 = .ok (.aload 12, 2) := by decide +kernel
theorem dL_isCommitted_217 : decode cL_isCommitted 217 = .ok (.iconst 3, 1) := by decide +kernel
theorem dL_isCommitted_218 : decode cL_isCommitted 218 = .ok (.iaload, 1) := by decide +kernel
theorem dL_isCommitted_219 : decode cL_isCommitted 219 = .ok (.istore 15, 2) := by decide +kernel
theorem dL_isCommitted_221 : decode cL_isCommitted 221 = .ok (.iload 15, 2) := by decide +kernel
theorem dL_isCommitted_223 : decode cL_isCommitted 223 = .ok (.bipush (-2), 2) := by decide +kernel
theorem dL_isCommitted_225 : decode cL_isCommitted 225 = .ok (.if_icmp .eq 19, 3) := by decide +kernel
theorem dL_isCommitted_228 : decode cL_isCommitted 228 = .ok (.aload 9, 2) := by decide +kernel
theorem dL_isCommitted_230 : decode cL_isCommitted 230 = .ok (.iconst 0, 1) := by decide +kernel
theorem dL_isCommitted_231 : decode cL_isCommitted 231 = .ok (.iconst 1, 1) := by decide +kernel
