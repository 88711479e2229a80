theorem dL_ones_0 : decode cL_ones 0 = .ok (.iconst 0, 1) := by decide +kernel
theorem dL_ones_1 : decode cL_ones 1 = .ok (.istore_n 1, 1) := by decide +kernel
theorem dL_ones_2 : decode cL_ones 2 = .ok (.iload_n 0, 1) := by decide +kernel
theorem dL_ones_3 : decode cL_ones 3 = .ok (.istore_n 2, 1) := by decide +kernel
theorem dL_ones_4 : decode cL_ones 4 = .ok (.iload_n 2, 1) := by decide +kernel
theorem dL_ones_5 : decode cL_ones 5 = .ok (.ifCond .eq 15, 3) := by decide +kernel
theorem dL_ones_8 : decode cL_ones 8 = .ok (.iinc 1 1, 3) := by decide +kernel
theorem dL_ones_11 : decode cL_ones 11 = .ok (.iload_n 2, 1) := by decide +kernel
theorem dL_ones_12 : decode cL_ones 12 = .ok (.iload_n 2, 1) := by decide +kernel
theorem dL_ones_13 : decode cL_ones 13 = .ok (.iconst 1, 1) := by decide +kernel
theorem dL_ones_14 : decode cL_ones 14 = .ok (.isub, 1) := by decide +kernel
theorem dL_ones_15 : decode cL_ones 15 = .ok (.iand, 1) := by decide +kernel
theorem dL_ones_16 : decode cL_ones 16 = .ok (.istore_n 2, 1) := by decide +kernel
theorem dL_ones_17 : decode cL_ones 17 = .ok (.goto (-13), 3) := by decide +kernel
theorem dL_ones_20 : decode cL_ones 20 = .ok (.iload_n 1, 1) := by decide +kernel
theorem dL_ones_21 : decode cL_ones 21 = .ok (.ireturn, 1) := by decide +kernel
theorem dL_types_0 : decode cL_types 0 = .ok (.iload_n 1, 1) := by decide +kernel
theorem dL_types_1 : decode cL_types 1 = .ok (.iconst 1, 1) := by decide +kernel
theorem dL_types_2 : decode cL_types 2 = .ok (.if_icmp .eq 8, 3) := by decide +kernel
theorem dL_types_5 : decode cL_types 5 = .ok (.iload_n 1, 1) := by decide +kernel
theorem dL_types_6 : decode cL_types 6 = .ok (.iconst 2, 1) := by decide +kernel
theorem dL_types_7 : decode cL_types 7 = .ok (.if_icmp .ne 34, 3) := by decide +kernel
theorem dL_types_10 : decode cL_types 10 = .ok (.aload_n 0, 1) := by decide +kernel
theorem dL_types_11 : decode cL_types 11 = .ok (.iload_n 1, 1) := by decide +kernel
theorem dL_types_12 : decode cL_types 12 = .ok (.iconst 1, 1) := by decide +kernel
theorem dL_types_13 : decode cL_types 13 = .ok (.if_icmp .ne 8, 3) := by decide +kernel
theorem dL_types_16 : decode cL_types 16 = .ok (.bipush 99, 2) := by decide +kernel
theorem dL_types_18 : decode cL_types 18 = .ok (.goto 5, 3) := by decide +kernel
theorem dL_types_21 : decode cL_types 21 = .ok (.bipush 67, 2) := by decide +kernel
theorem dL_types_23 : decode cL_types 23 = .ok (.invokevirtual 114, 3) := by decide +kernel
theorem dL_types_26 : decode cL_types 26 = .ok (.pop, 1) := by decide +kernel
theorem dL_types_27 : decode cL_types 27 = .ok (.aload_n 0, 1) := by decide +kernel
theorem dL_types_28 : decode cL_types 28 = .ok (.bipush 97, 2) := by decide +kernel
theorem dL_types_30 : decode cL_types 30 = .ok (.invokevirtual 114, 3) := by decide +kernel
theorem dL_types_33 : decode cL_types 33 = .ok (.pop, 1) := by decide +kernel
theorem dL_types_34 : decode cL_types 34 = .ok (.aload_n 0, 1) := by decide +kernel
theorem dL_types_35 : decode cL_types 35 = .ok (.bipush 116, 2) := by decide +kernel
theorem dL_types_37 : decode cL_types 37 = .ok (.invokevirtual 114, 3) := by decide +kernel
theorem dL_types_40 : decode cL_types 40 = .ok (.pop, 1) := by decide +kernel
theorem dL_types_41 : decode cL_types 41 = .ok (.iload_n 1, 1) := by decide +kernel
theorem dL_types_42 : decode cL_types 42 = .ok (.iconst 2, 1) := by decide +kernel
theorem dL_types_43 : decode cL_types 43 = .ok (.if_icmp .ne 10, 3) := by decide +kernel
theorem dL_types_46 : decode cL_types 46 = .ok (.aload_n 0, 1) := by decide +kernel
theorem dL_types_47 : decode cL_types 47 = .ok (.bipush 83, 2) := by decide +kernel
theorem dL_types_49 : decode cL_types 49 = .ok (.invokevirtual 114, 3) := by decide +kernel
theorem dL_types_52 : decode cL_types 52 = .ok (.pop, 1) := by decide +kernel
theorem dL_types_53 : decode cL_types 53 = .ok (.iload_n 1, 1) := by decide +kernel
theorem dL_types_54 : decode cL_types 54 = .ok (.iconst 3, 1) := by decide +kernel
theorem dL_types_55 : decode cL_types 55 = .ok (.if_icmp .ne 31, 3) := by decide +kernel
theorem dL_types_58 : decode cL_types 58 = .ok (.aload_n 0, 1) := by decide +kernel
theorem dL_types_59 : decode cL_types 59 = .ok (.bipush 114, 2) := by decide +kernel
theorem dL_types_61 : decode cL_types 61 = .ok (.invokevirtual 114, 3) := by decide +kernel
theorem dL_types_64 : decode cL_types 64 = .ok (.pop, 1) := by decide +kernel
theorem dL_types_65 : decode cL_types 65 = .ok (.aload_n 0, 1) := by decide +kernel
theorem dL_types_66 : decode cL_types 66 = .ok (.bipush 117, 2) := by decide +kernel
theorem dL_types_68 : decode cL_types 68 = .ok (.invokevirtual 114, 3) := by decide +kernel
theorem dL_types_71 : decode cL_types 71 = .ok (.pop, 1) := by decide +kernel
theorem dL_types_72 : decode cL_types 72 = .ok (.aload_n 0, 1) := by decide +kernel
theorem dL_types_73 : decode cL_types 73 = .ok (.bipush 110, 2) := by decide +kernel
theorem dL_types_75 : decode cL_types 75 = .ok (.invokevirtual 114, 3) := by decide +kernel
theorem dL_types_78 : decode cL_types 78 = .ok (.pop, 1) := by decide +kernel
theorem dL_types_79 : decode cL_types 79 = .ok (.aload_n 0, 1) := by decide +kernel
theorem dL_types_80 : decode cL_types 80 = .ok (.bipush 110, 2) := by decide +kernel
theorem dL_types_82 : decode cL_types 82 = .ok (.invokevirtual 114, 3) := by decide +kernel
theorem dL_types_85 : decode cL_types 85 = .ok (.pop, 1) := by decide +kernel
theorem dL_types_86 : decode cL_types 86 = .ok (.iload_n 1, 1) := by decide +kernel
theorem dL_types_87 : decode cL_types 87 = .ok (.iconst 4, 1) := by decide +kernel
theorem dL_types_88 : decode cL_types 88 = .ok (.if_icmp .ne 24, 3) := by decide +kernel
theorem dL_types_91 : decode cL_types 91 = .ok (.aload_n 0, 1) := by decide +kernel
theorem dL_types_92 : decode cL_types 92 = .ok (.bipush 82, 2) := by decide +kernel
theorem dL_types_94 : decode cL_types 94 = .ok (.invokevirtual 114, 3) := by decide +kernel
theorem dL_types_97 : decode cL_types 97 = .ok (.pop, 1) := by decide +kernel
theorem dL_types_98 : decode cL_types 98 = .ok (.aload_n 0, 1) := by decide +kernel
theorem dL_types_99 : decode cL_types 99 = .ok (.bipush 101, 2) := by decide +kernel
theorem dL_types_101 : decode cL_types 101 = .ok (.invokevirtual 114, 3) := by decide +kernel
theorem dL_types_104 : decode cL_types 104 = .ok (.pop, 1) := by decide +kernel
theorem dL_types_105 : decode cL_types 105 = .ok (.aload_n 0, 1) := by decide +kernel
theorem dL_types_106 : decode cL_types 106 = .ok (.bipush 100, 2) := by decide +kernel
theorem dL_types_108 : decode cL_types 108 = .ok (.invokevirtual 114, 3) := by decide +kernel
theorem dL_types_111 : decode cL_types 111 = .ok (.pop, 1) := by decide +kernel
theorem dL_types_112 : decode cL_types 112 = .ok (.iload_n 1, 1) := by decide +kernel
theorem dL_types_113 : decode cL_types 113 = .ok (.iconst 5, 1) := by decide +kernel
theorem dL_types_114 : decode cL_types 114 = .ok (.if_icmp .ne 10, 3) := by decide +kernel
theorem dL_types_117 : decode cL_types 117 = .ok (.aload_n 0, 1) := by decide +kernel
theorem dL_types_118 : decode cL_types 118 = .ok (.bipush 115, 2) := by decide +kernel
theorem dL_types_120 : decode cL_types 120 = .ok (.invokevirtual 114, 3) := by decide +kernel
theorem dL_types_123 : decode cL_types 123 = .ok (.pop, 1) := by decide +kernel
theorem dL_types_124 : decode cL_types 124 = .ok (.iload_n 1, 1) := by decide +kernel
theorem dL_types_125 : decode cL_types 125 = .ok (.iconst 3, 1) := by decide +kernel
theorem dL_types_126 : decode cL_types 126 = .ok (.if_icmp .eq 8, 3) := by decide +kernel
theorem dL_types_129 : decode cL_types 129 = .ok (.iload_n 1, 1) := by decide +kernel
theorem dL_types_130 : decode cL_types 130 = .ok (.iconst 5, 1) := by decide +kernel
theorem dL_types_131 : decode cL_types 131 = .ok (.if_icmp .ne 24, 3) := by decide +kernel
theorem dL_types_134 : decode cL_types 134 = .ok (.aload_n 0, 1) := by decide +kernel
theorem dL_types_135 : decode cL_types 135 = .ok (.bipush 105, 2) := by decide +kernel
theorem dL_types_137 : decode cL_types 137 = .ok (.invokevirtual 114, 3) := by decide +kernel
theorem dL_types_140 : decode cL_types 140 = .ok (.pop, 1) := by decide +kernel
theorem dL_types_141 : decode cL_types 141 = .ok (.aload_n 0, 1) := by decide +kernel
theorem dL_types_142 : decode cL_types 142 = .ok (.bipush 110, 2) := by decide +kernel
theorem dL_types_144 : decode cL_types 144 = .ok (.invokevirtual 114, 3) := by decide +kernel
theorem dL_types_147 : decode cL_types 147 = .ok (.pop, 1) := by decide +kernel
theorem dL_types_148 : decode cL_types 148 = .ok (.aload_n 0, 1) := by decide +kernel
theorem dL_types_149 : decode cL_types 149 = .ok (.bipush 103, 2) := by decide +kernel
theorem dL_types_151 : decode cL_types 151 = .ok (.invokevirtual 114, 3) := by decide +kernel
theorem dL_types_154 : decode cL_types 154 = .ok (.pop, 1) := by decide +kernel
theorem dL_types_155 : decode cL_types 155 = .ok (.iload_n 1, 1) := by decide +kernel
theorem dL_types_156 : decode cL_types 156 = .ok (.bipush 6, 2) := by decide +kernel
theorem dL_types_158 : decode cL_types 158 = .ok (.if_icmp .ne 31, 3) := by decide +kernel
theorem dL_types_161 : decode cL_types 161 = .ok (.aload_n 0, 1) := by decide +kernel
theorem dL_types_162 : decode cL_types 162 = .ok (.bipush 98, 2) := by decide +kernel
theorem dL_types_164 : decode cL_types 164 = .ok (.invokevirtual 114, 3) := by decide +kernel
theorem dL_types_167 : decode cL_types 167 = .ok (.pop, 1) := by decide +kernel
theorem dL_types_168 : decode cL_types 168 = .ok (.aload_n 0, 1) := by decide +kernel
theorem dL_types_169 : decode cL_types 169 = .ok (.bipush 111, 2) := by decide +kernel
theorem dL_types_171 : decode cL_types 171 = .ok (.invokevirtual 114, 3) := by decide +kernel
theorem dL_types_174 : decode cL_types 174 = .ok (.pop, 1) := by decide +kernel
theorem dL_types_175 : decode cL_types 175 = .ok (.aload_n 0, 1) := by decide +kernel
theorem dL_types_176 : decode cL_types 176 = .ok (.bipush 115, 2) := by decide +kernel
theorem dL_types_178 : decode cL_types 178 = .ok (.invokevirtual 114, 3) := by decide +kernel
theorem dL_types_181 : decode cL_types 181 = .ok (.pop, 1) := by decide +kernel
theorem dL_types_182 : decode cL_types 182 = .ok (.aload_n 0, 1) := by decide +kernel
theorem dL_types_183 : decode cL_types 183 = .ok (.bipush 115, 2) := by decide +kernel
theorem dL_types_185 : decode cL_types 185 = .ok (.invokevirtual 114, 3) := by decide +kernel
theorem dL_types_188 : decode cL_types 188 = .ok (.pop, 1) := by decide +kernel
theorem dL_types_189 : decode cL_types 189 = .ok (.iload_n 1, 1) := by decide +kernel
theorem dL_types_190 : decode cL_types 190 = .ok (.bipush 7, 2) := by decide +kernel
theorem dL_types_192 : decode cL_types 192 = .ok (.if_icmp .ne 24, 3) := by decide +kernel
theorem dL_types_195 : decode cL_types 195 = .ok (.aload_n 0, 1) := by decide +kernel
theorem dL_types_196 : decode cL_types 196 = .ok (.bipush 116, 2) := by decide +kernel
theorem dL_types_198 : decode cL_types 198 = .ok (.invokevirtual 114, 3) := by decide +kernel
theorem dL_types_201 : decode cL_types 201 = .ok (.pop, 1) := by decide +kernel
theorem dL_types_202 : decode cL_types 202 = .ok (.aload_n 0, 1) := by decide +kernel
theorem dL_types_203 : decode cL_types 203 = .ok (.bipush 104, 2) := by decide +kernel
theorem dL_types_205 : decode cL_types 205 = .ok (.invokevirtual 114, 3) := by decide +kernel
theorem dL_types_208 : decode cL_types 208 = .ok (.pop, 1) := by decide +kernel
theorem dL_types_209 : decode cL_types 209 = .ok (.aload_n 0, 1) := by decide +kernel
theorem dL_types_210 : decode cL_types 210 = .ok (.bipush 101, 2) := by decide +kernel
theorem dL_types_212 : decode cL_types 212 = .ok (.invokevirtual 114, 3) := by decide +kernel
theorem dL_types_215 : decode cL_types 215 = .ok (.pop, 1) := by decide +kernel
theorem dL_types_216 : decode cL_types 216 = .ok (.aload_n 0, 1) := by decide +kernel
theorem dL_types_217 : decode cL_types 217 = .ok (.iload_n 1, 1) := by decide +kernel
theorem dL_types_218 : decode cL_types 218 = .ok (.iconst 4, 1) := by decide +kernel
theorem dL_types_219 : decode cL_types 219 = .ok (.if_icmp .ne 8, 3) := by decide +kernel
theorem dL_types_222 : decode cL_types 222 = .ok (.bipush 45, 2) := by decide +kernel
theorem dL_types_224 : decode cL_types 224 = .ok (.goto 5, 3) := by decide +kernel
theorem dL_types_227 : decode cL_types 227 = .ok (.bipush 32, 2) := by decide +kernel
theorem dL_types_229 : decode cL_types 229 = .ok (.invokevirtual 114, 3) := by decide +kernel
theorem dL_types_232 : decode cL_types 232 = .ok (.pop, 1) := by decide +kernel
theorem dL_types_233 : decode cL_types 233 = .ok (.return_, 1) := by decide +kernel
theorem dL_tokens_0 : decode cL_tokens 0 = .ok (.iconst 0, 1) := by decide +kernel
theorem dL_tokens_1 : decode cL_tokens 1 = .ok (.istore_n 3, 1) := by decide +kernel
theorem dL_tokens_2 : decode cL_tokens 2 = .ok (.iconst 0, 1) := by decide +kernel
theorem dL_tokens_3 : decode cL_tokens 3 = .ok (.istore 4, 2) := by decide +kernel
theorem dL_tokens_5 : decode cL_tokens 5 = .ok (.iload 4, 2) := by decide +kernel
theorem dL_tokens_7 : decode cL_tokens 7 = .ok (.iconst 5, 1) := by decide +kernel
theorem dL_tokens_8 : decode cL_tokens 8 = .ok (.if_icmp .ge 48, 3) := by decide +kernel
theorem dL_tokens_11 : decode cL_tokens 11 = .ok (.lload_n 0, 1) := by decide +kernel
theorem dL_tokens_12 : decode cL_tokens 12 = .ok (.iload_n 2, 1) := by decide +kernel
theorem dL_tokens_13 : decode cL_tokens 13 = .ok (.iload 4, 2) := by decide +kernel
theorem dL_tokens_15 : decode cL_tokens 15 = .ok (.invokestatic 11, 3) := by decide +kernel
theorem dL_tokens_18 : decode cL_tokens 18 = .ok (.istore 5, 2) := by decide +kernel
theorem dL_tokens_20 : decode cL_tokens 20 = .ok (.iload_n 3, 1) := by decide +kernel
theorem dL_tokens_21 : decode cL_tokens 21 = .ok (.iload 5, 2) := by decide +kernel
theorem dL_tokens_23 : decode cL_tokens 23 = .ok (.ifCond .eq 10, 3) := by decide +kernel
theorem dL_tokens_26 : decode cL_tokens 26 = .ok (.iload 5, 2) := by decide +kernel
theorem dL_tokens_28 : decode cL_tokens 28 = .ok (.bipush 7, 2) := by decide +kernel
theorem dL_tokens_30 : decode cL_tokens 30 = .ok (.if_icmp .ne 7, 3) := by decide +kernel
theorem dL_tokens_33 : decode cL_tokens 33 = .ok (.iconst 0, 1) := by decide +kernel
theorem dL_tokens_34 : decode cL_tokens 34 = .ok (.goto 14, 3) := by decide +kernel
theorem dL_tokens_37 : decode cL_tokens 37 = .ok (.iload 5, 2) := by decide +kernel
theorem dL_tokens_39 : decode cL_tokens 39 = .ok (.iconst 3, 1) := by decide +kernel
theorem dL_tokens_40 : decode cL_tokens 40 = .ok (.if_icmp .ge 7, 3) := by decide +kernel
theorem dL_tokens_43 : decode cL_tokens 43 = .ok (.iconst 2, 1) := by decide +kernel
theorem dL_tokens_44 : decode cL_tokens 44 = .ok (.goto 4, 3) := by decide +kernel
theorem dL_tokens_47 : decode cL_tokens 47 = .ok (.iconst 1, 1) := by decide +kernel
theorem dL_tokens_48 : decode cL_tokens 48 = .ok (.iadd, 1) := by decide +kernel
theorem dL_tokens_49 : decode cL_tokens 49 = .ok (.istore_n 3, 1) := by decide +kernel
theorem dL_tokens_50 : decode cL_tokens 50 = .ok (.iinc 4 1, 3) := by decide +kernel
theorem dL_tokens_53 : decode cL_tokens 53 = .ok (.goto (-48), 3) := by decide +kernel
theorem dL_tokens_56 : decode cL_tokens 56 = .ok (.iload_n 3, 1) := by decide +kernel
theorem dL_tokens_57 : decode cL_tokens 57 = .ok (.ireturn, 1) := by decide +kernel
theorem dL_isFound_0 : decode cL_isFound 0 = .ok (.iload 8, 2) := by decide +kernel
theorem dL_isFound_2 : decode cL_isFound 2 = .ok (.bipush 9, 2) := by decide +kernel
theorem dL_isFound_4 : decode cL_isFound 4 = .ok (.irem, 1) := by decide +kernel
theorem dL_isFound_5 : decode cL_isFound 5 = .ok (.istore 9, 2) := by decide +kernel
theorem dL_isFound_7 : decode cL_isFound 7 = .ok (.iconst 1, 1) := by decide +kernel
theorem dL_isFound_8 : decode cL_isFound 8 = .ok (.iload 8, 2) := by decide +kernel
theorem dL_isFound_10 : decode cL_isFound 10 = .ok (.bipush 9, 2) := by decide +kernel
theorem dL_isFound_12 : decode cL_isFound 12 = .ok (.idiv, 1) := by decide +kernel
theorem dL_isFound_13 : decode cL_isFound 13 = .ok (.iconst 4, 1) := by decide +kernel
theorem dL_isFound_14 : decode cL_isFound 14 = .ok (.irem, 1) := by decide +kernel
theorem dL_isFound_15 : decode cL_isFound 15 = .ok (.iadd, 1) := by decide +kernel
theorem dL_isFound_16 : decode cL_isFound 16 = .ok (.istore 10, 2) := by decide +kernel
theorem dL_isFound_18 : decode cL_isFound 18 = .ok (.aload_n 1, 1) := by decide +kernel
theorem dL_isFound_19 : decode cL_isFound 19 = .ok (.aload_n 2, 1) := by decide +kernel
theorem dL_isFound_20 : decode cL_isFound 20 = .ok (.aload_n 3, 1) := by decide +kernel
theorem dL_isFound_21 : decode cL_isFound 21 = .ok (.aload 4, 2) := by decide +kernel
theorem dL_isFound_23 : decode cL_isFound 23 = .ok (.aload 5, 2) := by decide +kernel
theorem dL_isFound_25 : decode cL_isFound 25 = .ok (.aload 6, 2) := by decide +kernel
theorem dL_isFound_27 : decode cL_isFound 27 = .ok (.aload 7, 2) := by decide +kernel
theorem dL_isFound_29 : decode cL_isFound 29 = .ok (.iload 9, 2) := by decide +kernel
theorem dL_isFound_31 : decode cL_isFound 31 = .ok (.iload 10, 2) := by decide +kernel
theorem dL_isFound_33 : decode cL_isFound 33 = .ok (.invokestatic 157, 3) := by decide +kernel
theorem dL_isFound_36 : decode cL_isFound 36 = .ok (.aload_n 0, 1) := by decide +kernel
theorem dL_isFound_37 : decode cL_isFound 37 = .ok (.aload 4, 2) := by decide +kernel
theorem dL_isFound_39 : decode cL_isFound 39 = .ok (.iconst 0, 1) := by decide +kernel
theorem dL_isFound_40 : decode cL_isFound 40 = .ok (.iaload, 1) := by decide +kernel
theorem dL_isFound_41 : decode cL_isFound 41 = .ok (.iconst 1, 1) := by decide +kernel
theorem dL_isFound_42 : decode cL_isFound 42 = .ok (.isub, 1) := by decide +kernel
theorem dL_isFound_43 : decode cL_isFound 43 = .ok (.iload 9, 2) := by decide +kernel
theorem dL_isFound_45 : decode cL_isFound 45 = .ok (.iload 10, 2) := by decide +kernel
theorem dL_isFound_47 : decode cL_isFound 47 = .ok (.invokevirtual 161, 3) := by decide +kernel
theorem dL_isFound_50 : decode cL_isFound 50 = .ok (.aload 7, 2) := by decide +kernel
theorem dL_isFound_52 : decode cL_isFound 52 = .ok (.bipush 14, 2) := by decide +kernel
theorem dL_isFound_54 : decode cL_isFound 54 = .ok (.iaload, 1) := by decide +kernel
theorem dL_isFound_55 : decode cL_isFound 55 = .ok (.if_icmp .ne 31, 3) := by decide +kernel
theorem dL_isFound_58 : decode cL_isFound 58 = .ok (.aload_n 0, 1) := by decide +kernel
theorem dL_isFound_59 : decode cL_isFound 59 = .ok (.invokevirtual 164, 3) := by decide +kernel
theorem dL_isFound_62 : decode cL_isFound 62 = .ok (.aload 7, 2) := by decide +kernel
theorem dL_isFound_64 : decode cL_isFound 64 = .ok (.bipush 15, 2) := by decide +kernel
theorem dL_isFound_66 : decode cL_isFound 66 = .ok (.iaload, 1) := by decide +kernel
theorem dL_isFound_67 : decode cL_isFound 67 = .ok (.if_icmp .ne 19, 3) := by decide +kernel
theorem dL_isFound_70 : decode cL_isFound 70 = .ok (.aload_n 0, 1) := by decide +kernel
theorem dL_isFound_71 : decode cL_isFound 71 = .ok (.invokevirtual 167, 3) := by decide +kernel
theorem dL_isFound_74 : decode cL_isFound 74 = .ok (.aload 7, 2) := by decide +kernel
theorem dL_isFound_76 : decode cL_isFound 76 = .ok (.bipush 16, 2) := by decide +kernel
theorem dL_isFound_78 : decode cL_isFound 78 = .ok (.iaload, 1) := by decide +kernel
theorem dL_isFound_79 : decode cL_isFound 79 = .ok (.if_icmp .ne 7, 3) := by decide +kernel
theorem dL_isFound_82 : decode cL_isFound 82 = .ok (.iconst 1, 1) := by decide +kernel
theorem dL_isFound_83 : decode cL_isFound 83 = .ok (.goto 4, 3) := by decide +kernel
theorem dL_isFound_86 : decode cL_isFound 86 = .ok (.iconst 0, 1) := by decide +kernel
theorem dL_isFound_87 : decode cL_isFound 87 = .ok (.istore 11, 2) := by decide +kernel
theorem dL_isFound_89 : decode cL_isFound 89 = .ok (.iconst 0, 1) := by decide +kernel
theorem dL_isFound_90 : decode cL_isFound 90 = .ok (.istore 12, 2) := by decide +kernel
theorem dL_isFound_92 : decode cL_isFound 92 = .ok (.iload 12, 2) := by decide +kernel
theorem dL_isFound_94 : decode cL_isFound 94 = .ok (.aload 7, 2) := by decide +kernel
theorem dL_isFound_96 : decode cL_isFound 96 = .ok (.bipush 14, 2) := by decide +kernel
theorem dL_isFound_98 : decode cL_isFound 98 = .ok (.iaload, 1) := by decide +kernel
theorem dL_isFound_99 : decode cL_isFound 99 = .ok (.if_icmp .ge 52, 3) := by decide +kernel
theorem dL_isFound_102 : decode cL_isFound 102 = .ok (.iload 11, 2) := by decide +kernel
theorem dL_isFound_104 : decode cL_isFound 104 = .ok (.ifCond .eq 47, 3) := by decide +kernel
theorem dL_isFound_107 : decode cL_isFound 107 = .ok (.aload_n 0, 1) := by decide +kernel
theorem dL_isFound_108 : decode cL_isFound 108 = .ok (.iload 12, 2) := by decide +kernel
theorem dL_isFound_110 : decode cL_isFound 110 = .ok (.invokevirtual 170, 3) := by decide +kernel
theorem dL_isFound_113 : decode cL_isFound 113 = .ok (.aload 6, 2) := by decide +kernel
theorem dL_isFound_115 : decode cL_isFound 115 = .ok (.iload 12, 2) := by decide +kernel
theorem dL_isFound_117 : decode cL_isFound 117 = .ok (.iaload, 1) := by decide +kernel
theorem dL_isFound_118 : decode cL_isFound 118 = .ok (.if_icmp .ne 24, 3) := by decide +kernel
theorem dL_isFound_121 : decode cL_isFound 121 = .ok (.aload_n 0, 1) := by decide +kernel
theorem dL_isFound_122 : decode cL_isFound 122 = .ok (.iload 12, 2) := by decide +kernel
theorem dL_isFound_124 : decode cL_isFound 124 = .ok (.invokevirtual 173, 3) := by decide +kernel
theorem dL_isFound_127 : decode cL_isFound 127 = .ok (.aload 6, 2) := by decide +kernel
theorem dL_isFound_129 : decode cL_isFound 129 = .ok (.bipush 20, 2) := by decide +kernel
theorem dL_isFound_131 : decode cL_isFound 131 = .ok (.iload 12, 2) := by decide +kernel
theorem dL_isFound_133 : decode cL_isFound 133 = .ok (.iadd, 1) := by decide +kernel
theorem dL_isFound_134 : decode cL_isFound 134 = .ok (.iaload, 1) := by decide +kernel
theorem dL_isFound_135 : decode cL_isFound 135 = .ok (.if_icmp .ne 7, 3) := by decide +kernel
theorem dL_isFound_138 : decode cL_isFound 138 = .ok (.iconst 1, 1) := by decide +kernel
theorem dL_isFound_139 : decode cL_isFound 139 = .ok (.goto 4, 3) := by decide +kernel
theorem dL_isFound_142 : decode cL_isFound 142 = .ok (.iconst 0, 1) := by decide +kernel
theorem dL_isFound_143 : decode cL_isFound 143 = .ok (.istore 11, 2) := by decide +kernel
theorem dL_isFound_145 : decode cL_isFound 145 = .ok (.iinc 12 1, 3) := by decide +kernel
theorem dL_isFound_148 : decode cL_isFound 148 = .ok (.goto (-56), 3) := by decide +kernel
theorem dL_isFound_151 : decode cL_isFound 151 = .ok (.iload 11, 2) := by decide +kernel
theorem dL_isFound_153 : decode cL_isFound 153 = .ok (.ireturn, 1) := by decide +kernel
theorem dL_isIndex_0 : decode cL_isIndex 0 = .ok (.aload_n 0, 1) := by decide +kernel
theorem dL_isIndex_1 : decode cL_isIndex 1 = .ok (.invokevirtual 199, 3) := by decide +kernel
theorem dL_isIndex_4 : decode cL_isIndex 4 = .ok (.aload 10, 2) := by decide +kernel
theorem dL_isIndex_6 : decode cL_isIndex 6 = .ok (.bipush 6, 2) := by decide +kernel
theorem dL_isIndex_8 : decode cL_isIndex 8 = .ok (.iaload, 1) := by decide +kernel
theorem dL_isIndex_9 : decode cL_isIndex 9 = .ok (.iconst 1, 1) := by decide +kernel
theorem dL_isIndex_10 : decode cL_isIndex 10 = .ok (.if_icmp .ne 7, 3) := by decide +kernel
theorem dL_isIndex_13 : decode cL_isIndex 13 = .ok (.iconst 1, 1) := by decide +kernel
theorem dL_isIndex_14 : decode cL_isIndex 14 = .ok (.goto 4, 3) := by decide +kernel
theorem dL_isIndex_17 : decode cL_isIndex 17 = .ok (.iconst 0, 1) := by decide +kernel
theorem dL_isIndex_18 : decode cL_isIndex 18 = .ok (.if_icmp .ne 115, 3) := by decide +kernel
theorem dL_isIndex_21 : decode cL_isIndex 21 = .ok (.aload_n 0, 1) := by decide +kernel
theorem dL_isIndex_22 : decode cL_isIndex 22 = .ok (.invokevirtual 203, 3) := by decide +kernel
theorem dL_isIndex_25 : decode cL_isIndex 25 = .ok (.aload 10, 2) := by decide +kernel
theorem dL_isIndex_27 : decode cL_isIndex 27 = .ok (.iconst 4, 1) := by decide +kernel
theorem dL_isIndex_28 : decode cL_isIndex 28 = .ok (.iaload, 1) := by decide +kernel
theorem dL_isIndex_29 : decode cL_isIndex 29 = .ok (.if_icmp .ne 104, 3) := by decide +kernel
theorem dL_isIndex_32 : decode cL_isIndex 32 = .ok (.aload_n 0, 1) := by decide +kernel
theorem dL_isIndex_33 : decode cL_isIndex 33 = .ok (.bipush 9, 2) := by decide +kernel
theorem dL_isIndex_35 : decode cL_isIndex 35 = .ok (.invokestatic 205, 3) := by decide +kernel
theorem dL_isIndex_38 : decode cL_isIndex 38 = .ok (.aload 10, 2) := by decide +kernel
theorem dL_isIndex_40 : decode cL_isIndex 40 = .ok (.bipush 6, 2) := by decide +kernel
theorem dL_isIndex_42 : decode cL_isIndex 42 = .ok (.iaload, 1) := by decide +kernel
theorem dL_isIndex_43 : decode cL_isIndex 43 = .ok (.iconst 1, 1) := by decide +kernel
theorem dL_isIndex_44 : decode cL_isIndex 44 = .ok (.if_icmp .ne 8, 3) := by decide +kernel
theorem dL_isIndex_47 : decode cL_isIndex 47 = .ok (.bipush (-7), 2) := by decide +kernel
theorem dL_isIndex_49 : decode cL_isIndex 49 = .ok (.goto 7, 3) := by decide +kernel
theorem dL_isIndex_52 : decode cL_isIndex 52 = .ok (.aload 10, 2) := by decide +kernel
theorem dL_isIndex_54 : decode cL_isIndex 54 = .ok (.iconst 3, 1) := by decide +kernel
theorem dL_isIndex_55 : decode cL_isIndex 55 = .ok (.iaload, 1) := by decide +kernel
theorem dL_isIndex_56 : decode cL_isIndex 56 = .ok (.if_icmp .ne 77, 3) := by decide +kernel
theorem dL_isIndex_59 : decode cL_isIndex 59 = .ok (.aload_n 0, 1) := by decide +kernel
theorem dL_isIndex_60 : decode cL_isIndex 60 = .ok (.bipush 8, 2) := by decide +kernel
theorem dL_isIndex_62 : decode cL_isIndex 62 = .ok (.invokestatic 205, 3) := by decide +kernel
theorem dL_isIndex_65 : decode cL_isIndex 65 = .ok (.aload 10, 2) := by decide +kernel
theorem dL_isIndex_67 : decode cL_isIndex 67 = .ok (.bipush 6, 2) := by decide +kernel
theorem dL_isIndex_69 : decode cL_isIndex 69 = .ok (.iaload, 1) := by decide +kernel
theorem dL_isIndex_70 : decode cL_isIndex 70 = .ok (.iconst 1, 1) := by decide +kernel
theorem dL_isIndex_71 : decode cL_isIndex 71 = .ok (.if_icmp .ne 8, 3) := by decide +kernel
theorem dL_isIndex_74 : decode cL_isIndex 74 = .ok (.bipush (-7), 2) := by decide +kernel
theorem dL_isIndex_76 : decode cL_isIndex 76 = .ok (.goto 11, 3) := by decide +kernel
theorem dL_isIndex_79 : decode cL_isIndex 79 = .ok (.aload_n 3, 1) := by decide +kernel
theorem dL_isIndex_80 : decode cL_isIndex 80 = .ok (.aload 5, 2) := by decide +kernel
theorem dL_isIndex_82 : decode cL_isIndex 82 = .ok (.aload 10, 2) := by decide +kernel
theorem dL_isIndex_84 : decode cL_isIndex 84 = .ok (.invokestatic 209, 3) := by decide +kernel
theorem dL_isIndex_87 : decode cL_isIndex 87 = .ok (.if_icmp .ne 46, 3) := by decide +kernel
theorem dL_isIndex_90 : decode cL_isIndex 90 = .ok (.aload_n 0, 1) := by decide +kernel
theorem dL_isIndex_91 : decode cL_isIndex 91 = .ok (.bipush 7, 2) := by decide +kernel
theorem dL_isIndex_93 : decode cL_isIndex 93 = .ok (.invokestatic 205, 3) := by decide +kernel
theorem dL_isIndex_96 : decode cL_isIndex 96 = .ok (.aload 10, 2) := by decide +kernel
theorem dL_isIndex_98 : decode cL_isIndex 98 = .ok (.bipush 6, 2) := by decide +kernel
theorem dL_isIndex_100 : decode cL_isIndex 100 = .ok (.iaload, 1) := by decide +kernel
theorem dL_isIndex_101 : decode cL_isIndex 101 = .ok (.iconst 1, 1) := by decide +kernel
theorem dL_isIndex_102 : decode cL_isIndex 102 = .ok (.if_icmp .ne 8, 3) := by decide +kernel
theorem dL_isIndex_105 : decode cL_isIndex 105 = .ok (.bipush (-7), 2) := by decide +kernel
theorem dL_isIndex_107 : decode cL_isIndex 107 = .ok (.goto 19, 3) := by decide +kernel
theorem dL_isIndex_110 : decode cL_isIndex 110 = .ok (.aload_n 3, 1) := by decide +kernel
theorem dL_isIndex_111 : decode cL_isIndex 111 = .ok (.aload 5, 2) := by decide +kernel
theorem dL_isIndex_113 : decode cL_isIndex 113 = .ok (.aload 6, 2) := by decide +kernel
theorem dL_isIndex_115 : decode cL_isIndex 115 = .ok (.aload 7, 2) := by decide +kernel
theorem dL_isIndex_117 : decode cL_isIndex 117 = .ok (.aload 8, 2) := by decide +kernel
theorem dL_isIndex_119 : decode cL_isIndex 119 = .ok (.aload 9, 2) := by decide +kernel
theorem dL_isIndex_121 : decode cL_isIndex 121 = .ok (.aload 10, 2) := by decide +kernel
theorem dL_isIndex_123 : decode cL_isIndex 123 = .ok (.invokestatic 212, 3) := by decide +kernel
theorem dL_isIndex_126 : decode cL_isIndex 126 = .ok (.if_icmp .ne 7, 3) := by decide +kernel
theorem dL_isIndex_129 : decode cL_isIndex 129 = .ok (.iconst 1, 1) := by decide +kernel
theorem dL_isIndex_130 : decode cL_isIndex 130 = .ok (.goto 4, 3) := by decide +kernel
theorem dL_isIndex_133 : decode cL_isIndex 133 = .ok (.iconst 0, 1) := by decide +kernel
theorem dL_isIndex_134 : decode cL_isIndex 134 = .ok (.istore 11, 2) := by decide +kernel
theorem dL_isIndex_136 : decode cL_isIndex 136 = .ok (.iconst 0, 1) := by decide +kernel
theorem dL_isIndex_137 : decode cL_isIndex 137 = .ok (.istore 12, 2) := by decide +kernel
theorem dL_isIndex_139 : decode cL_isIndex 139 = .ok (.iload 12, 2) := by decide +kernel
theorem dL_isIndex_141 : decode cL_isIndex 141 = .ok (.aload 10, 2) := by decide +kernel
theorem dL_isIndex_143 : decode cL_isIndex 143 = .ok (.iconst 3, 1) := by decide +kernel
theorem dL_isIndex_144 : decode cL_isIndex 144 = .ok (.iaload, 1) := by decide +kernel
theorem dL_isIndex_145 : decode cL_isIndex 145 = .ok (.if_icmp .ge 117, 3) := by decide +kernel
theorem dL_isIndex_148 : decode cL_isIndex 148 = .ok (.iload 11, 2) := by decide +kernel
theorem dL_isIndex_150 : decode cL_isIndex 150 = .ok (.ifCond .eq 112, 3) := by decide +kernel
theorem dL_isIndex_153 : decode cL_isIndex 153 = .ok (.aload_n 0, 1) := by decide +kernel
theorem dL_isIndex_154 : decode cL_isIndex 154 = .ok (.iload 12, 2) := by decide +kernel
theorem dL_isIndex_156 : decode cL_isIndex 156 = .ok (.invokevirtual 215, 3) := by decide +kernel
theorem dL_isIndex_159 : decode cL_isIndex 159 = .ok (.aload 5, 2) := by decide +kernel
theorem dL_isIndex_161 : decode cL_isIndex 161 = .ok (.iload 12, 2) := by decide +kernel
theorem dL_isIndex_163 : decode cL_isIndex 163 = .ok (.iaload, 1) := by decide +kernel
theorem dL_isIndex_164 : decode cL_isIndex 164 = .ok (.if_icmp .ne 27, 3) := by decide +kernel
theorem dL_isIndex_167 : decode cL_isIndex 167 = .ok (.aload_n 0, 1) := by decide +kernel
theorem dL_isIndex_168 : decode cL_isIndex 168 = .ok (.iload 12, 2) := by decide +kernel
theorem dL_isIndex_170 : decode cL_isIndex 170 = .ok (.invokevirtual 218, 3) := by decide +kernel
theorem dL_isIndex_173 : decode cL_isIndex 173 = .ok (.aload 4, 2) := by decide +kernel
theorem dL_isIndex_175 : decode cL_isIndex 175 = .ok (.aload 5, 2) := by decide +kernel
theorem dL_isIndex_177 : decode cL_isIndex 177 = .ok (.iload 12, 2) := by decide +kernel
theorem dL_isIndex_179 : decode cL_isIndex 179 = .ok (.iaload, 1) := by decide +kernel
theorem dL_isIndex_180 : decode cL_isIndex 180 = .ok (.iaload, 1) := by decide +kernel
theorem dL_isIndex_181 : decode cL_isIndex 181 = .ok (.invokestatic 221, 3) := by decide +kernel
theorem dL_isIndex_184 : decode cL_isIndex 184 = .ok (.if_icmp .ne 7, 3) := by decide +kernel
theorem dL_isIndex_187 : decode cL_isIndex 187 = .ok (.iconst 1, 1) := by decide +kernel
theorem dL_isIndex_188 : decode cL_isIndex 188 = .ok (.goto 4, 3) := by decide +kernel
theorem dL_isIndex_191 : decode cL_isIndex 191 = .ok (.iconst 0, 1) := by decide +kernel
theorem dL_isIndex_192 : decode cL_isIndex 192 = .ok (.istore 11, 2) := by decide +kernel
theorem dL_isIndex_194 : decode cL_isIndex 194 = .ok (.iconst 0, 1) := by decide +kernel
theorem dL_isIndex_195 : decode cL_isIndex 195 = .ok (.istore 13, 2) := by decide +kernel
theorem dL_isIndex_197 : decode cL_isIndex 197 = .ok (.iload 13, 2) := by decide +kernel
theorem dL_isIndex_199 : decode cL_isIndex 199 = .ok (.aload_n 3, 1) := by decide +kernel
theorem dL_isIndex_200 : decode cL_isIndex 200 = .ok (.aload 5, 2) := by decide +kernel
theorem dL_isIndex_202 : decode cL_isIndex 202 = .ok (.iload 12, 2) := by decide +kernel
theorem dL_isIndex_204 : decode cL_isIndex 204 = .ok (.iaload, 1) := by decide +kernel
theorem dL_isIndex_205 : decode cL_isIndex 205 = .ok (.iaload, 1) := by decide +kernel
theorem dL_isIndex_206 : decode cL_isIndex 206 = .ok (.if_icmp .ge 50, 3) := by decide +kernel
theorem dL_isIndex_209 : decode cL_isIndex 209 = .ok (.iload 11, 2) := by decide +kernel
theorem dL_isIndex_211 : decode cL_isIndex 211 = .ok (.ifCond .eq 45, 3) := by decide +kernel
theorem dL_isIndex_214 : decode cL_isIndex 214 = .ok (.aload_n 0, 1) := by decide +kernel
theorem dL_isIndex_215 : decode cL_isIndex 215 = .ok (.iload 12, 2) := by decide +kernel
theorem dL_isIndex_217 : decode cL_isIndex 217 = .ok (.iload 13, 2) := by decide +kernel
theorem dL_isIndex_219 : decode cL_isIndex 219 = .ok (.invokevirtual 224, 3) := by decide +kernel
theorem dL_isIndex_222 : decode cL_isIndex 222 = .ok (.aload_n 1, 1) := by decide +kernel
theorem dL_isIndex_223 : decode cL_isIndex 223 = .ok (.aload_n 2, 1) := by decide +kernel
theorem dL_isIndex_224 : decode cL_isIndex 224 = .ok (.aload 5, 2) := by decide +kernel
theorem dL_isIndex_226 : decode cL_isIndex 226 = .ok (.iload 12, 2) := by decide +kernel
theorem dL_isIndex_228 : decode cL_isIndex 228 = .ok (.iaload, 1) := by decide +kernel
theorem dL_isIndex_229 : decode cL_isIndex 229 = .ok (.iload 13, 2) := by decide +kernel
theorem dL_isIndex_231 : decode cL_isIndex 231 = .ok (.invokestatic 26, 3) := by decide +kernel
theorem dL_isIndex_234 : decode cL_isIndex 234 = .ok (.laload, 1) := by decide +kernel
theorem dL_isIndex_235 : decode cL_isIndex 235 = .ok (.ldc2_w 9, 3) := by decide +kernel
theorem dL_isIndex_238 : decode cL_isIndex 238 = .ok (.land, 1) := by decide +kernel
theorem dL_isIndex_239 : decode cL_isIndex 239 = .ok (.l2i, 1) := by decide +kernel
theorem dL_isIndex_240 : decode cL_isIndex 240 = .ok (.if_icmp .ne 7, 3) := by decide +kernel
theorem dL_isIndex_243 : decode cL_isIndex 243 = .ok (.iconst 1, 1) := by decide +kernel
theorem dL_isIndex_244 : decode cL_isIndex 244 = .ok (.goto 4, 3) := by decide +kernel
theorem dL_isIndex_247 : decode cL_isIndex 247 = .ok (.iconst 0, 1) := by decide +kernel
theorem dL_isIndex_248 : decode cL_isIndex 248 = .ok (.istore 11, 2) := by decide +kernel
theorem dL_isIndex_250 : decode cL_isIndex 250 = .ok (.iinc 13 1, 3) := by decide +kernel
theorem dL_isIndex_253 : decode cL_isIndex 253 = .ok (.goto (-56), 3) := by decide +kernel
theorem dL_isIndex_256 : decode cL_isIndex 256 = .ok (.iinc 12 1, 3) := by decide +kernel
theorem dL_isIndex_259 : decode cL_isIndex 259 = .ok (.goto (-120), 3) := by decide +kernel
theorem dL_isIndex_262 : decode cL_isIndex 262 = .ok (.iload 11, 2) := by decide +kernel
theorem dL_isIndex_264 : decode cL_isIndex 264 = .ok (.ireturn, 1) := by decide +kernel
theorem dL_isAdded_0 : decode cL_isAdded 0 = .ok (.iload 8, 2) := by decide +kernel
theorem dL_isAdded_2 : decode cL_isAdded 2 = .ok (.bipush 10, 2) := by decide +kernel
theorem dL_isAdded_4 : decode cL_isAdded 4 = .ok (.irem, 1) := by decide +kernel
theorem dL_isAdded_5 : decode cL_isAdded 5 = .ok (.istore 10, 2) := by decide +kernel
theorem dL_isAdded_7 : decode cL_isAdded 7 = .ok (.iload 10, 2) := by decide +kernel
theorem dL_isAdded_9 : decode cL_isAdded 9 = .ok (.i2l, 1) := by decide +kernel
theorem dL_isAdded_10 : decode cL_isAdded 10 = .ok (.lstore 11, 2) := by decide +kernel
theorem dL_isAdded_12 : decode cL_isAdded 12 = .ok (.iconst 1, 1) := by decide +kernel
theorem dL_isAdded_13 : decode cL_isAdded 13 = .ok (.istore 13, 2) := by decide +kernel
theorem dL_isAdded_15 : decode cL_isAdded 15 = .ok (.iconst 0, 1) := by decide +kernel
theorem dL_isAdded_16 : decode cL_isAdded 16 = .ok (.istore 14, 2) := by decide +kernel
theorem dL_isAdded_18 : decode cL_isAdded 18 = .ok (.iload 14, 2) := by decide +kernel
theorem dL_isAdded_20 : decode cL_isAdded 20 = .ok (.iconst 2, 1) := by decide +kernel
theorem dL_isAdded_21 : decode cL_isAdded 21 = .ok (.if_icmp .ge 119, 3) := by decide +kernel
theorem dL_isAdded_24 : decode cL_isAdded 24 = .ok (.iload 14, 2) := by decide +kernel
theorem dL_isAdded_26 : decode cL_isAdded 26 = .ok (.ifCond .ne 8, 3) := by decide +kernel
theorem dL_isAdded_29 : decode cL_isAdded 29 = .ok (.iload 9, 2) := by decide +kernel
theorem dL_isAdded_31 : decode cL_isAdded 31 = .ok (.goto 11, 3) := by decide +kernel
theorem dL_isAdded_34 : decode cL_isAdded 34 = .ok (.iload 9, 2) := by decide +kernel
theorem dL_isAdded_36 : decode cL_isAdded 36 = .ok (.bipush 17, 2) := by decide +kernel
theorem dL_isAdded_38 : decode cL_isAdded 38 = .ok (.idiv, 1) := by decide +kernel
theorem dL_isAdded_39 : decode cL_isAdded 39 = .ok (.iload 8, 2) := by decide +kernel
theorem dL_isAdded_41 : decode cL_isAdded 41 = .ok (.ixor, 1) := by decide +kernel
theorem dL_isAdded_42 : decode cL_isAdded 42 = .ok (.istore 15, 2) := by decide +kernel
theorem dL_isAdded_44 : decode cL_isAdded 44 = .ok (.iconst 0, 1) := by decide +kernel
theorem dL_isAdded_45 : decode cL_isAdded 45 = .ok (.istore 16, 2) := by decide +kernel
theorem dL_isAdded_47 : decode cL_isAdded 47 = .ok (.iload 16, 2) := by decide +kernel
theorem dL_isAdded_49 : decode cL_isAdded 49 = .ok (.iconst 1, 1) := by decide +kernel
theorem dL_isAdded_50 : decode cL_isAdded 50 = .ok (.iload 15, 2) := by decide +kernel
theorem dL_isAdded_52 : decode cL_isAdded 52 = .ok (.iconst 5, 1) := by decide +kernel
theorem dL_isAdded_53 : decode cL_isAdded 53 = .ok (.irem, 1) := by decide +kernel
theorem dL_isAdded_54 : decode cL_isAdded 54 = .ok (.iadd, 1) := by decide +kernel
theorem dL_isAdded_55 : decode cL_isAdded 55 = .ok (.if_icmp .ge 51, 3) := by decide +kernel
theorem dL_isAdded_58 : decode cL_isAdded 58 = .ok (.iconst 1, 1) := by decide +kernel
theorem dL_isAdded_59 : decode cL_isAdded 59 = .ok (.iload 15, 2) := by decide +kernel
theorem dL_isAdded_61 : decode cL_isAdded 61 = .ok (.iload 16, 2) := by decide +kernel
theorem dL_isAdded_63 : decode cL_isAdded 63 = .ok (.ishr, 1) := by decide +kernel
theorem dL_isAdded_64 : decode cL_isAdded 64 = .ok (.ldc 227, 2) := by decide +kernel
theorem dL_isAdded_66 : decode cL_isAdded 66 = .ok (.iand, 1) := by decide +kernel
theorem dL_isAdded_67 : decode cL_isAdded 67 = .ok (.bipush 7, 2) := by decide +kernel
theorem dL_isAdded_69 : decode cL_isAdded 69 = .ok (.irem, 1) := by decide +kernel
theorem dL_isAdded_70 : decode cL_isAdded 70 = .ok (.iadd, 1) := by decide +kernel
theorem dL_isAdded_71 : decode cL_isAdded 71 = .ok (.istore 17, 2) := by decide +kernel
theorem dL_isAdded_73 : decode cL_isAdded 73 = .ok (.lload 11, 2) := by decide +kernel
theorem dL_isAdded_75 : decode cL_isAdded 75 = .ok (.iload 17, 2) := by decide +kernel
theorem dL_isAdded_77 : decode cL_isAdded 77 = .ok (.i2l, 1) := by decide +kernel
theorem dL_isAdded_78 : decode cL_isAdded 78 = .ok (.iconst 4, 1) := by decide +kernel
theorem dL_isAdded_79 : decode cL_isAdded 79 = .ok (.bipush 20, 2) := by decide +kernel
theorem dL_isAdded_81 : decode cL_isAdded 81 = .ok (.iload 14, 2) := by decide +kernel
theorem dL_isAdded_83 : decode cL_isAdded 83 = .ok (.imul, 1) := by decide +kernel
theorem dL_isAdded_84 : decode cL_isAdded 84 = .ok (.iadd, 1) := by decide +kernel
theorem dL_isAdded_85 : decode cL_isAdded 85 = .ok (.iconst 4, 1) := by decide +kernel
theorem dL_isAdded_86 : decode cL_isAdded 86 = .ok (.iload 16, 2) := by decide +kernel
theorem dL_isAdded_88 : decode cL_isAdded 88 = .ok (.imul, 1) := by decide +kernel
theorem dL_isAdded_89 : decode cL_isAdded 89 = .ok (.iadd, 1) := by decide +kernel
theorem dL_isAdded_90 : decode cL_isAdded 90 = .ok (.lshl, 1) := by decide +kernel
theorem dL_isAdded_91 : decode cL_isAdded 91 = .ok (.lor, 1) := by decide +kernel
theorem dL_isAdded_92 : decode cL_isAdded 92 = .ok (.lstore 11, 2) := by decide +kernel
theorem dL_isAdded_94 : decode cL_isAdded 94 = .ok (.aload_n 0, 1) := by decide +kernel
theorem dL_isAdded_95 : decode cL_isAdded 95 = .ok (.iload 17, 2) := by decide +kernel
theorem dL_isAdded_97 : decode cL_isAdded 97 = .ok (.invokestatic 118, 3) := by decide +kernel
theorem dL_isAdded_100 : decode cL_isAdded 100 = .ok (.iinc 16 1, 3) := by decide +kernel
theorem dL_isAdded_103 : decode cL_isAdded 103 = .ok (.goto (-56), 3) := by decide +kernel
theorem dL_isAdded_106 : decode cL_isAdded 106 = .ok (.iload 13, 2) := by decide +kernel
theorem dL_isAdded_108 : decode cL_isAdded 108 = .ok (.ifCond .eq 23, 3) := by decide +kernel
theorem dL_isAdded_111 : decode cL_isAdded 111 = .ok (.aload_n 0, 1) := by decide +kernel
theorem dL_isAdded_112 : decode cL_isAdded 112 = .ok (.iload 14, 2) := by decide +kernel
theorem dL_isAdded_114 : decode cL_isAdded 114 = .ok (.invokevirtual 228, 3) := by decide +kernel
theorem dL_isAdded_117 : decode cL_isAdded 117 = .ok (.lload 11, 2) := by decide +kernel
theorem dL_isAdded_119 : decode cL_isAdded 119 = .ok (.iload 14, 2) := by decide +kernel
theorem dL_isAdded_121 : decode cL_isAdded 121 = .ok (.invokestatic 231, 3) := by decide +kernel
theorem dL_isAdded_124 : decode cL_isAdded 124 = .ok (.if_icmp .ne 7, 3) := by decide +kernel
theorem dL_isAdded_127 : decode cL_isAdded 127 = .ok (.iconst 1, 1) := by decide +kernel
theorem dL_isAdded_128 : decode cL_isAdded 128 = .ok (.goto 4, 3) := by decide +kernel
theorem dL_isAdded_131 : decode cL_isAdded 131 = .ok (.iconst 0, 1) := by decide +kernel
theorem dL_isAdded_132 : decode cL_isAdded 132 = .ok (.istore 13, 2) := by decide +kernel
theorem dL_isAdded_134 : decode cL_isAdded 134 = .ok (.iinc 14 1, 3) := by decide +kernel
theorem dL_isAdded_137 : decode cL_isAdded 137 = .ok (.goto (-119), 3) := by decide +kernel
theorem dL_isAdded_140 : decode cL_isAdded 140 = .ok (.aload_n 0, 1) := by decide +kernel
theorem dL_isAdded_141 : decode cL_isAdded 141 = .ok (.iload 8, 2) := by decide +kernel
theorem dL_isAdded_143 : decode cL_isAdded 143 = .ok (.bipush 10, 2) := by decide +kernel
theorem dL_isAdded_145 : decode cL_isAdded 145 = .ok (.idiv, 1) := by decide +kernel
theorem dL_isAdded_146 : decode cL_isAdded 146 = .ok (.iconst 3, 1) := by decide +kernel
theorem dL_isAdded_147 : decode cL_isAdded 147 = .ok (.irem, 1) := by decide +kernel
theorem dL_isAdded_148 : decode cL_isAdded 148 = .ok (.iload 8, 2) := by decide +kernel
theorem dL_isAdded_150 : decode cL_isAdded 150 = .ok (.bipush 30, 2) := by decide +kernel
theorem dL_isAdded_152 : decode cL_isAdded 152 = .ok (.idiv, 1) := by decide +kernel
theorem dL_isAdded_153 : decode cL_isAdded 153 = .ok (.iconst 5, 1) := by decide +kernel
theorem dL_isAdded_154 : decode cL_isAdded 154 = .ok (.irem, 1) := by decide +kernel
theorem dL_isAdded_155 : decode cL_isAdded 155 = .ok (.invokevirtual 234, 3) := by decide +kernel
theorem dL_isAdded_158 : decode cL_isAdded 158 = .ok (.lload 11, 2) := by decide +kernel
theorem dL_isAdded_160 : decode cL_isAdded 160 = .ok (.iload 8, 2) := by decide +kernel
theorem dL_isAdded_162 : decode cL_isAdded 162 = .ok (.bipush 10, 2) := by decide +kernel
theorem dL_isAdded_164 : decode cL_isAdded 164 = .ok (.idiv, 1) := by decide +kernel
theorem dL_isAdded_165 : decode cL_isAdded 165 = .ok (.iconst 3, 1) := by decide +kernel
theorem dL_isAdded_166 : decode cL_isAdded 166 = .ok (.irem, 1) := by decide +kernel
theorem dL_isAdded_167 : decode cL_isAdded 167 = .ok (.i2l, 1) := by decide +kernel
theorem dL_isAdded_168 : decode cL_isAdded 168 = .ok (.bipush 44, 2) := by decide +kernel
theorem dL_isAdded_170 : decode cL_isAdded 170 = .ok (.lshl, 1) := by decide +kernel
theorem dL_isAdded_171 : decode cL_isAdded 171 = .ok (.iload 8, 2) := by decide +kernel
theorem dL_isAdded_173 : decode cL_isAdded 173 = .ok (.bipush 30, 2) := by decide +kernel
theorem dL_isAdded_175 : decode cL_isAdded 175 = .ok (.idiv, 1) := by decide +kernel
theorem dL_isAdded_176 : decode cL_isAdded 176 = .ok (.iconst 5, 1) := by decide +kernel
theorem dL_isAdded_177 : decode cL_isAdded 177 = .ok (.irem, 1) := by decide +kernel
theorem dL_isAdded_178 : decode cL_isAdded 178 = .ok (.i2l, 1) := by decide +kernel
theorem dL_isAdded_179 : decode cL_isAdded 179 = .ok (.bipush 48, 2) := by decide +kernel
theorem dL_isAdded_181 : decode cL_isAdded 181 = .ok (.lshl, 1) := by decide +kernel
theorem dL_isAdded_182 : decode cL_isAdded 182 = .ok (.lor, 1) := by decide +kernel
theorem dL_isAdded_183 : decode cL_isAdded 183 = .ok (.lor, 1) := by decide +kernel
theorem dL_isAdded_184 : decode cL_isAdded 184 = .ok (.lstore 11, 2) := by decide +kernel
theorem dL_isAdded_186 : decode cL_isAdded 186 = .ok (.aload 7, 2) := by decide +kernel
theorem dL_isAdded_188 : decode cL_isAdded 188 = .ok (.bipush 6, 2) := by decide +kernel
theorem dL_isAdded_190 : decode cL_isAdded 190 = .ok (.iaload, 1) := by decide +kernel
theorem dL_isAdded_191 : decode cL_isAdded 191 = .ok (.iconst 1, 1) := by decide +kernel
theorem dL_isAdded_192 : decode cL_isAdded 192 = .ok (.if_icmp .ne 25, 3) := by decide +kernel
theorem dL_isAdded_195 : decode cL_isAdded 195 = .ok (.iload 13, 2) := by decide +kernel
theorem dL_isAdded_197 : decode cL_isAdded 197 = .ok (.ifCond .eq 18, 3) := by decide +kernel
theorem dL_isAdded_200 : decode cL_isAdded 200 = .ok (.aload_n 0, 1) := by decide +kernel
theorem dL_isAdded_201 : decode cL_isAdded 201 = .ok (.iload 10, 2) := by decide +kernel
theorem dL_isAdded_203 : decode cL_isAdded 203 = .ok (.invokestatic 238, 3) := by decide +kernel
theorem dL_isAdded_206 : decode cL_isAdded 206 = .ok (.bipush (-7), 2) := by decide +kernel
theorem dL_isAdded_208 : decode cL_isAdded 208 = .ok (.if_icmp .ne 7, 3) := by decide +kernel
theorem dL_isAdded_211 : decode cL_isAdded 211 = .ok (.iconst 1, 1) := by decide +kernel
theorem dL_isAdded_212 : decode cL_isAdded 212 = .ok (.goto 4, 3) := by decide +kernel
theorem dL_isAdded_215 : decode cL_isAdded 215 = .ok (.iconst 0, 1) := by decide +kernel
theorem dL_isAdded_216 : decode cL_isAdded 216 = .ok (.ireturn, 1) := by decide +kernel
theorem dL_isAdded_217 : decode cL_isAdded 217 = .ok (.aload_n 1, 1) := by decide +kernel
theorem dL_isAdded_218 : decode cL_isAdded 218 = .ok (.aload_n 2, 1) := by decide +kernel
theorem dL_isAdded_219 : decode cL_isAdded 219 = .ok (.aload_n 3, 1) := by decide +kernel
theorem dL_isAdded_220 : decode cL_isAdded 220 = .ok (.aload 4, 2) := by decide +kernel
theorem dL_isAdded_222 : decode cL_isAdded 222 = .ok (.aload 5, 2) := by decide +kernel
theorem dL_isAdded_224 : decode cL_isAdded 224 = .ok (.aload 6, 2) := by decide +kernel
theorem dL_isAdded_226 : decode cL_isAdded 226 = .ok (.aload 7, 2) := by decide +kernel
theorem dL_isAdded_228 : decode cL_isAdded 228 = .ok (.iload 10, 2) := by decide +kernel
theorem dL_isAdded_230 : decode cL_isAdded 230 = .ok (.invokestatic 241, 3) := by decide +kernel
theorem dL_isAdded_233 : decode cL_isAdded 233 = .ok (.pop, 1) := by decide +kernel
theorem dL_isAdded_234 : decode cL_isAdded 234 = .ok (.aload_n 2, 1) := by decide +kernel
theorem dL_isAdded_235 : decode cL_isAdded 235 = .ok (.aload 7, 2) := by decide +kernel
theorem dL_isAdded_237 : decode cL_isAdded 237 = .ok (.iconst 1, 1) := by decide +kernel
theorem dL_isAdded_238 : decode cL_isAdded 238 = .ok (.iaload, 1) := by decide +kernel
theorem dL_isAdded_239 : decode cL_isAdded 239 = .ok (.lload 11, 2) := by decide +kernel
theorem dL_isAdded_241 : decode cL_isAdded 241 = .ok (.lastore, 1) := by decide +kernel
theorem dL_isAdded_242 : decode cL_isAdded 242 = .ok (.aload 7, 2) := by decide +kernel
theorem dL_isAdded_244 : decode cL_isAdded 244 = .ok (.iconst 1, 1) := by decide +kernel
theorem dL_isAdded_245 : decode cL_isAdded 245 = .ok (.dup2, 1) := by decide +kernel
theorem dL_isAdded_246 : decode cL_isAdded 246 = .ok (.iaload, 1) := by decide +kernel
theorem dL_isAdded_247 : decode cL_isAdded 247 = .ok (.iconst 1, 1) := by decide +kernel
theorem dL_isAdded_248 : decode cL_isAdded 248 = .ok (.iadd, 1) := by decide +kernel
theorem dL_isAdded_249 : decode cL_isAdded 249 = .ok (.iastore, 1) := by decide +kernel
theorem dL_isAdded_250 : decode cL_isAdded 250 = .ok (.iload 13, 2) := by decide +kernel
theorem dL_isAdded_252 : decode cL_isAdded 252 = .ok (.ifCond .eq 20, 3) := by decide +kernel
theorem dL_isAdded_255 : decode cL_isAdded 255 = .ok (.aload_n 0, 1) := by decide +kernel
theorem dL_isAdded_256 : decode cL_isAdded 256 = .ok (.iload 10, 2) := by decide +kernel
theorem dL_isAdded_258 : decode cL_isAdded 258 = .ok (.invokestatic 238, 3) := by decide +kernel
theorem dL_isAdded_261 : decode cL_isAdded 261 = .ok (.aload 7, 2) := by decide +kernel
theorem dL_isAdded_263 : decode cL_isAdded 263 = .ok (.iconst 1, 1) := by decide +kernel
theorem dL_isAdded_264 : decode cL_isAdded 264 = .ok (.iaload, 1) := by decide +kernel
theorem dL_isAdded_265 : decode cL_isAdded 265 = .ok (.if_icmp .ne 7, 3) := by decide +kernel
theorem dL_isAdded_268 : decode cL_isAdded 268 = .ok (.iconst 1, 1) := by decide +kernel
theorem dL_isAdded_269 : decode cL_isAdded 269 = .ok (.goto 4, 3) := by decide +kernel
theorem dL_isAdded_272 : decode cL_isAdded 272 = .ok (.iconst 0, 1) := by decide +kernel
theorem dL_isAdded_273 : decode cL_isAdded 273 = .ok (.ireturn, 1) := by decide +kernel
