theorem dL_isReady_0 : decode cL_isReady 0 = .ok (.aload_n 0, 1) := by decide +kernel
theorem dL_isReady_1 : decode cL_isReady 1 = .ok (.bipush 7, 2) := by decide +kernel
theorem dL_isReady_3 : decode cL_isReady 3 = .ok (.invokestatic 118, 3) := by decide +kernel
theorem dL_isReady_6 : decode cL_isReady 6 = .ok (.aload_n 0, 1) := by decide +kernel
theorem dL_isReady_7 : decode cL_isReady 7 = .ok (.invokevirtual 122, 3) := by decide +kernel
theorem dL_isReady_10 : decode cL_isReady 10 = .ok (.iconst 1, 1) := by decide +kernel
theorem dL_isReady_11 : decode cL_isReady 11 = .ok (.if_icmp .ne 7, 3) := by decide +kernel
theorem dL_isReady_14 : decode cL_isReady 14 = .ok (.iconst 1, 1) := by decide +kernel
theorem dL_isReady_15 : decode cL_isReady 15 = .ok (.goto 4, 3) := by decide +kernel
theorem dL_isReady_18 : decode cL_isReady 18 = .ok (.iconst 0, 1) := by decide +kernel
theorem dL_isReady_19 : decode cL_isReady 19 = .ok (.istore_n 1, 1) := by decide +kernel
theorem dL_isReady_20 : decode cL_isReady 20 = .ok (.aload_n 0, 1) := by decide +kernel
theorem dL_isReady_21 : decode cL_isReady 21 = .ok (.iconst 2, 1) := by decide +kernel
theorem dL_isReady_22 : decode cL_isReady 22 = .ok (.invokestatic 118, 3) := by decide +kernel
theorem dL_isReady_25 : decode cL_isReady 25 = .ok (.aload_n 0, 1) := by decide +kernel
theorem dL_isReady_26 : decode cL_isReady 26 = .ok (.iconst 4, 1) := by decide +kernel
theorem dL_isReady_27 : decode cL_isReady 27 = .ok (.invokestatic 118, 3) := by decide +kernel
theorem dL_isReady_30 : decode cL_isReady 30 = .ok (.iload_n 1, 1) := by decide +kernel
theorem dL_isReady_31 : decode cL_isReady 31 = .ok (.ifCond .eq 15, 3) := by decide +kernel
theorem dL_isReady_34 : decode cL_isReady 34 = .ok (.aload_n 0, 1) := by decide +kernel
theorem dL_isReady_35 : decode cL_isReady 35 = .ok (.invokevirtual 125, 3) := by decide +kernel
theorem dL_isReady_38 : decode cL_isReady 38 = .ok (.iconst 1, 1) := by decide +kernel
theorem dL_isReady_39 : decode cL_isReady 39 = .ok (.if_icmp .ne 7, 3) := by decide +kernel
theorem dL_isReady_42 : decode cL_isReady 42 = .ok (.iconst 1, 1) := by decide +kernel
theorem dL_isReady_43 : decode cL_isReady 43 = .ok (.goto 4, 3) := by decide +kernel
theorem dL_isReady_46 : decode cL_isReady 46 = .ok (.iconst 0, 1) := by decide +kernel
theorem dL_isReady_47 : decode cL_isReady 47 = .ok (.istore_n 1, 1) := by decide +kernel
theorem dL_isReady_48 : decode cL_isReady 48 = .ok (.aload_n 0, 1) := by decide +kernel
theorem dL_isReady_49 : decode cL_isReady 49 = .ok (.iconst 1, 1) := by decide +kernel
theorem dL_isReady_50 : decode cL_isReady 50 = .ok (.invokestatic 118, 3) := by decide +kernel
theorem dL_isReady_53 : decode cL_isReady 53 = .ok (.iload_n 1, 1) := by decide +kernel
theorem dL_isReady_54 : decode cL_isReady 54 = .ok (.ifCond .eq 23, 3) := by decide +kernel
theorem dL_isReady_57 : decode cL_isReady 57 = .ok (.aload_n 0, 1) := by decide +kernel
theorem dL_isReady_58 : decode cL_isReady 58 = .ok (.iconst 0, 1) := by decide +kernel
theorem dL_isReady_59 : decode cL_isReady 59 = .ok (.invokevirtual 128, 3) := by decide +kernel
theorem dL_isReady_62 : decode cL_isReady 62 = .ok (.iconst 1, 1) := by decide +kernel
theorem dL_isReady_63 : decode cL_isReady 63 = .ok (.if_icmp .ne 14, 3) := by decide +kernel
theorem dL_isReady_66 : decode cL_isReady 66 = .ok (.aload_n 0, 1) := by decide +kernel
theorem dL_isReady_67 : decode cL_isReady 67 = .ok (.invokevirtual 131, 3) := by decide +kernel
theorem dL_isReady_70 : decode cL_isReady 70 = .ok (.ifCond .ne 7, 3) := by decide +kernel
theorem dL_isReady_73 : decode cL_isReady 73 = .ok (.iconst 1, 1) := by decide +kernel
theorem dL_isReady_74 : decode cL_isReady 74 = .ok (.goto 4, 3) := by decide +kernel
theorem dL_isReady_77 : decode cL_isReady 77 = .ok (.iconst 0, 1) := by decide +kernel
theorem dL_isReady_78 : decode cL_isReady 78 = .ok (.istore_n 1, 1) := by decide +kernel
theorem dL_isReady_79 : decode cL_isReady 79 = .ok (.aload_n 0, 1) := by decide +kernel
theorem dL_isReady_80 : decode cL_isReady 80 = .ok (.iconst 4, 1) := by decide +kernel
theorem dL_isReady_81 : decode cL_isReady 81 = .ok (.invokestatic 118, 3) := by decide +kernel
theorem dL_isReady_84 : decode cL_isReady 84 = .ok (.iload_n 1, 1) := by decide +kernel
theorem dL_isReady_85 : decode cL_isReady 85 = .ok (.ifCond .eq 24, 3) := by decide +kernel
theorem dL_isReady_88 : decode cL_isReady 88 = .ok (.aload_n 0, 1) := by decide +kernel
theorem dL_isReady_89 : decode cL_isReady 89 = .ok (.iconst 1, 1) := by decide +kernel
theorem dL_isReady_90 : decode cL_isReady 90 = .ok (.invokevirtual 128, 3) := by decide +kernel
theorem dL_isReady_93 : decode cL_isReady 93 = .ok (.iconst 1, 1) := by decide +kernel
theorem dL_isReady_94 : decode cL_isReady 94 = .ok (.if_icmp .ne 15, 3) := by decide +kernel
theorem dL_isReady_97 : decode cL_isReady 97 = .ok (.aload_n 0, 1) := by decide +kernel
theorem dL_isReady_98 : decode cL_isReady 98 = .ok (.invokevirtual 131, 3) := by decide +kernel
theorem dL_isReady_101 : decode cL_isReady 101 = .ok (.iconst 1, 1) := by decide +kernel
theorem dL_isReady_102 : decode cL_isReady 102 = .ok (.if_icmp .ne 7, 3) := by decide +kernel
theorem dL_isReady_105 : decode cL_isReady 105 = .ok (.iconst 1, 1) := by decide +kernel
theorem dL_isReady_106 : decode cL_isReady 106 = .ok (.goto 4, 3) := by decide +kernel
theorem dL_isReady_109 : decode cL_isReady 109 = .ok (.iconst 0, 1) := by decide +kernel
theorem dL_isReady_110 : decode cL_isReady 110 = .ok (.istore_n 1, 1) := by decide +kernel
theorem dL_isReady_111 : decode cL_isReady 111 = .ok (.aload_n 0, 1) := by decide +kernel
theorem dL_isReady_112 : decode cL_isReady 112 = .ok (.iconst 1, 1) := by decide +kernel
theorem dL_isReady_113 : decode cL_isReady 113 = .ok (.invokestatic 118, 3) := by decide +kernel
theorem dL_isReady_116 : decode cL_isReady 116 = .ok (.aload_n 0, 1) := by decide +kernel
theorem dL_isReady_117 : decode cL_isReady 117 = .ok (.bipush 7, 2) := by decide +kernel
theorem dL_isReady_119 : decode cL_isReady 119 = .ok (.invokestatic 118, 3) := by decide +kernel
theorem dL_isReady_122 : decode cL_isReady 122 = .ok (.aload_n 0, 1) := by decide +kernel
theorem dL_isReady_123 : decode cL_isReady 123 = .ok (.iconst 4, 1) := by decide +kernel
theorem dL_isReady_124 : decode cL_isReady 124 = .ok (.invokestatic 118, 3) := by decide +kernel
theorem dL_isReady_127 : decode cL_isReady 127 = .ok (.iload_n 1, 1) := by decide +kernel
theorem dL_isReady_128 : decode cL_isReady 128 = .ok (.ifCond .eq 25, 3) := by decide +kernel
theorem dL_isReady_131 : decode cL_isReady 131 = .ok (.aload_n 0, 1) := by decide +kernel
theorem dL_isReady_132 : decode cL_isReady 132 = .ok (.iconst 0, 1) := by decide +kernel
theorem dL_isReady_133 : decode cL_isReady 133 = .ok (.iconst 1, 1) := by decide +kernel
theorem dL_isReady_134 : decode cL_isReady 134 = .ok (.invokevirtual 134, 3) := by decide +kernel
theorem dL_isReady_137 : decode cL_isReady 137 = .ok (.iconst 1, 1) := by decide +kernel
theorem dL_isReady_138 : decode cL_isReady 138 = .ok (.if_icmp .ne 15, 3) := by decide +kernel
theorem dL_isReady_141 : decode cL_isReady 141 = .ok (.aload_n 0, 1) := by decide +kernel
theorem dL_isReady_142 : decode cL_isReady 142 = .ok (.invokevirtual 131, 3) := by decide +kernel
theorem dL_isReady_145 : decode cL_isReady 145 = .ok (.iconst 2, 1) := by decide +kernel
theorem dL_isReady_146 : decode cL_isReady 146 = .ok (.if_icmp .ne 7, 3) := by decide +kernel
theorem dL_isReady_149 : decode cL_isReady 149 = .ok (.iconst 1, 1) := by decide +kernel
theorem dL_isReady_150 : decode cL_isReady 150 = .ok (.goto 4, 3) := by decide +kernel
theorem dL_isReady_153 : decode cL_isReady 153 = .ok (.iconst 0, 1) := by decide +kernel
theorem dL_isReady_154 : decode cL_isReady 154 = .ok (.istore_n 1, 1) := by decide +kernel
theorem dL_isReady_155 : decode cL_isReady 155 = .ok (.aload_n 0, 1) := by decide +kernel
theorem dL_isReady_156 : decode cL_isReady 156 = .ok (.iconst 2, 1) := by decide +kernel
theorem dL_isReady_157 : decode cL_isReady 157 = .ok (.invokestatic 118, 3) := by decide +kernel
theorem dL_isReady_160 : decode cL_isReady 160 = .ok (.aload_n 0, 1) := by decide +kernel
theorem dL_isReady_161 : decode cL_isReady 161 = .ok (.iconst 5, 1) := by decide +kernel
theorem dL_isReady_162 : decode cL_isReady 162 = .ok (.invokestatic 118, 3) := by decide +kernel
theorem dL_isReady_165 : decode cL_isReady 165 = .ok (.iload_n 1, 1) := by decide +kernel
theorem dL_isReady_166 : decode cL_isReady 166 = .ok (.ifCond .eq 169, 3) := by decide +kernel
theorem dL_isReady_169 : decode cL_isReady 169 = .ok (.aload_n 0, 1) := by decide +kernel
theorem dL_isReady_170 : decode cL_isReady 170 = .ok (.iconst 0, 1) := by decide +kernel
theorem dL_isReady_171 : decode cL_isReady 171 = .ok (.iconst 2, 1) := by decide +kernel
theorem dL_isReady_172 : decode cL_isReady 172 = .ok (.iconst 0, 1) := by decide +kernel
theorem dL_isReady_173 : decode cL_isReady 173 = .ok (.invokevirtual 138, 3) := by decide +kernel
theorem dL_isReady_176 : decode cL_isReady 176 = .ok (.iconst 1, 1) := by decide +kernel
theorem dL_isReady_177 : decode cL_isReady 177 = .ok (.if_icmp .ne 158, 3) := by decide +kernel
theorem dL_isReady_180 : decode cL_isReady 180 = .ok (.aload_n 0, 1) := by decide +kernel
theorem dL_isReady_181 : decode cL_isReady 181 = .ok (.invokevirtual 131, 3) := by decide +kernel
theorem dL_isReady_184 : decode cL_isReady 184 = .ok (.iconst 3, 1) := by decide +kernel
theorem dL_isReady_185 : decode cL_isReady 185 = .ok (.if_icmp .ne 150, 3) := by decide +kernel
theorem dL_isReady_188 : decode cL_isReady 188 = .ok (.aload_n 0, 1) := by decide +kernel
theorem dL_isReady_189 : decode cL_isReady 189 = .ok (.bipush 114, 2) := by decide +kernel
theorem dL_isReady_191 : decode cL_isReady 191 = .ok (.invokevirtual 114, 3) := by decide +kernel
theorem dL_isReady_194 : decode cL_isReady 194 = .ok (.iconst 1, 1) := by decide +kernel
theorem dL_isReady_195 : decode cL_isReady 195 = .ok (.if_icmp .ne 140, 3) := by decide +kernel
theorem dL_isReady_198 : decode cL_isReady 198 = .ok (.aload_n 0, 1) := by decide +kernel
theorem dL_isReady_199 : decode cL_isReady 199 = .ok (.bipush 85, 2) := by decide +kernel
theorem dL_isReady_201 : decode cL_isReady 201 = .ok (.invokevirtual 114, 3) := by decide +kernel
theorem dL_isReady_204 : decode cL_isReady 204 = .ok (.iconst 2, 1) := by decide +kernel
theorem dL_isReady_205 : decode cL_isReady 205 = .ok (.if_icmp .ne 130, 3) := by decide +kernel
theorem dL_isReady_208 : decode cL_isReady 208 = .ok (.aload_n 0, 1) := by decide +kernel
theorem dL_isReady_209 : decode cL_isReady 209 = .ok (.iconst 0, 1) := by decide +kernel
theorem dL_isReady_210 : decode cL_isReady 210 = .ok (.invokevirtual 142, 3) := by decide +kernel
theorem dL_isReady_213 : decode cL_isReady 213 = .ok (.iconst 1, 1) := by decide +kernel
