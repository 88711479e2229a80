theorem dL_isPlain_0 : decode cL_isPlain 0 = .ok (.bipush 9, 2) := by decide +kernel
theorem dL_isPlain_2 : decode cL_isPlain 2 = .ok (.newarray .int, 2) := by decide +kernel
theorem dL_isPlain_4 : decode cL_isPlain 4 = .ok (.astore 6, 2) := by decide +kernel
theorem dL_isPlain_6 : decode cL_isPlain 6 = .ok (.iload 5, 2) := by decide +kernel
theorem dL_isPlain_8 : decode cL_isPlain 8 = .ok (.bipush 9, 2) := by decide +kernel
theorem dL_isPlain_10 : decode cL_isPlain 10 = .ok (.irem, 1) := by decide +kernel
theorem dL_isPlain_11 : decode cL_isPlain 11 = .ok (.istore 7, 2) := by decide +kernel
theorem dL_isPlain_13 : decode cL_isPlain 13 = .ok (.iload 5, 2) := by decide +kernel
theorem dL_isPlain_15 : decode cL_isPlain 15 = .ok (.bipush 9, 2) := by decide +kernel
theorem dL_isPlain_17 : decode cL_isPlain 17 = .ok (.idiv, 1) := by decide +kernel
theorem dL_isPlain_18 : decode cL_isPlain 18 = .ok (.bipush 10, 2) := by decide +kernel
theorem dL_isPlain_20 : decode cL_isPlain 20 = .ok (.irem, 1) := by decide +kernel
theorem dL_isPlain_21 : decode cL_isPlain 21 = .ok (.istore 8, 2) := by decide +kernel
theorem dL_isPlain_23 : decode cL_isPlain 23 = .ok (.iload 5, 2) := by decide +kernel
theorem dL_isPlain_25 : decode cL_isPlain 25 = .ok (.bipush 90, 2) := by decide +kernel
theorem dL_isPlain_27 : decode cL_isPlain 27 = .ok (.idiv, 1) := by decide +kernel
theorem dL_isPlain_28 : decode cL_isPlain 28 = .ok (.iconst 3, 1) := by decide +kernel
theorem dL_isPlain_29 : decode cL_isPlain 29 = .ok (.irem, 1) := by decide +kernel
theorem dL_isPlain_30 : decode cL_isPlain 30 = .ok (.istore 9, 2) := by decide +kernel
theorem dL_isPlain_32 : decode cL_isPlain 32 = .ok (.aload_n 1, 1) := by decide +kernel
theorem dL_isPlain_33 : decode cL_isPlain 33 = .ok (.aload_n 2, 1) := by decide +kernel
theorem dL_isPlain_34 : decode cL_isPlain 34 = .ok (.aload_n 3, 1) := by decide +kernel
theorem dL_isPlain_35 : decode cL_isPlain 35 = .ok (.aload 4, 2) := by decide +kernel
theorem dL_isPlain_37 : decode cL_isPlain 37 = .ok (.aload 6, 2) := by decide +kernel
theorem dL_isPlain_39 : decode cL_isPlain 39 = .ok (.invokestatic 46, 3) := by decide +kernel
theorem dL_isPlain_42 : decode cL_isPlain 42 = .ok (.iconst 0, 1) := by decide +kernel
theorem dL_isPlain_43 : decode cL_isPlain 43 = .ok (.istore 10, 2) := by decide +kernel
theorem dL_isPlain_45 : decode cL_isPlain 45 = .ok (.iconst 0, 1) := by decide +kernel
theorem dL_isPlain_46 : decode cL_isPlain 46 = .ok (.istore 11, 2) := by decide +kernel
theorem dL_isPlain_48 : decode cL_isPlain 48 = .ok (.iconst 0, 1) := by decide +kernel
theorem dL_isPlain_49 : decode cL_isPlain 49 = .ok (.istore 12, 2) := by decide +kernel
theorem dL_isPlain_51 : decode cL_isPlain 51 = .ok (.iconst (-1), 1) := by decide +kernel
theorem dL_isPlain_52 : decode cL_isPlain 52 = .ok (.istore 13, 2) := by decide +kernel
theorem dL_isPlain_54 : decode cL_isPlain 54 = .ok (.iconst (-1), 1) := by decide +kernel
theorem dL_isPlain_55 : decode cL_isPlain 55 = .ok (.istore 14, 2) := by decide +kernel
theorem dL_isPlain_57 : decode cL_isPlain 57 = .ok (.iconst (-1), 1) := by decide +kernel
theorem dL_isPlain_58 : decode cL_isPlain 58 = .ok (.istore 15, 2) := by decide +kernel
theorem dL_isPlain_60 : decode cL_isPlain 60 = .ok (.iconst 0, 1) := by decide +kernel
theorem dL_isPlain_61 : decode cL_isPlain 61 = .ok (.istore 16, 2) := by decide +kernel
theorem dL_isPlain_63 : decode cL_isPlain 63 = .ok (.iload 16, 2) := by decide +kernel
theorem dL_isPlain_65 : decode cL_isPlain 65 = .ok (.aload 4, 2) := by decide +kernel
theorem dL_isPlain_67 : decode cL_isPlain 67 = .ok (.iconst 1, 1) := by decide +kernel
theorem dL_isPlain_68 : decode cL_isPlain 68 = .ok (.iaload, 1) := by decide +kernel
theorem dL_isPlain_69 : decode cL_isPlain 69 = .ok (.if_icmp .ge 245, 3) := by decide +kernel
theorem dL_isPlain_72 : decode cL_isPlain 72 = .ok (.aload 4, 2) := by decide +kernel
theorem dL_isPlain_74 : decode cL_isPlain 74 = .ok (.iconst 2, 1) := by decide +kernel
theorem dL_isPlain_75 : decode cL_isPlain 75 = .ok (.iload 16, 2) := by decide +kernel
theorem dL_isPlain_77 : decode cL_isPlain 77 = .ok (.iadd, 1) := by decide +kernel
theorem dL_isPlain_78 : decode cL_isPlain 78 = .ok (.iaload, 1) := by decide +kernel
theorem dL_isPlain_79 : decode cL_isPlain 79 = .ok (.istore 17, 2) := by decide +kernel
theorem dL_isPlain_81 : decode cL_isPlain 81 = .ok (.iconst 0, 1) := by decide +kernel
theorem dL_isPlain_82 : decode cL_isPlain 82 = .ok (.istore 18, 2) := by decide +kernel
theorem dL_isPlain_84 : decode cL_isPlain 84 = .ok (.iload 18, 2) := by decide +kernel
theorem dL_isPlain_86 : decode cL_isPlain 86 = .ok (.aload_n 3, 1) := by decide +kernel
theorem dL_isPlain_87 : decode cL_isPlain 87 = .ok (.iload 17, 2) := by decide +kernel
theorem dL_isPlain_89 : decode cL_isPlain 89 = .ok (.iaload, 1) := by decide +kernel
theorem dL_isPlain_90 : decode cL_isPlain 90 = .ok (.if_icmp .ge 218, 3) := by decide +kernel
theorem dL_isPlain_93 : decode cL_isPlain 93 = .ok (.aload_n 1, 1) := by decide +kernel
theorem dL_isPlain_94 : decode cL_isPlain 94 = .ok (.aload_n 2, 1) := by decide +kernel
theorem dL_isPlain_95 : decode cL_isPlain 95 = .ok (.iload 17, 2) := by decide +kernel
theorem dL_isPlain_97 : decode cL_isPlain 97 = .ok (.iload 18, 2) := by decide +kernel
theorem dL_isPlain_99 : decode cL_isPlain 99 = .ok (.invokestatic 26, 3) := by decide +kernel
theorem dL_isPlain_102 : decode cL_isPlain 102 = .ok (.laload, 1) := by decide +kernel
theorem dL_isPlain_103 : decode cL_isPlain 103 = .ok (.lstore 19, 2) := by decide +kernel
theorem dL_isPlain_105 : decode cL_isPlain 105 = .ok (.aload 4, 2) := by decide +kernel
theorem dL_isPlain_107 : decode cL_isPlain 107 = .ok (.bipush 32, 2) := by decide +kernel
theorem dL_isPlain_109 : decode cL_isPlain 109 = .ok (.iload 17, 2) := by decide +kernel
theorem dL_isPlain_111 : decode cL_isPlain 111 = .ok (.iadd, 1) := by decide +kernel
theorem dL_isPlain_112 : decode cL_isPlain 112 = .ok (.iaload, 1) := by decide +kernel
theorem dL_isPlain_113 : decode cL_isPlain 113 = .ok (.iload 18, 2) := by decide +kernel
theorem dL_isPlain_115 : decode cL_isPlain 115 = .ok (.ishr, 1) := by decide +kernel
theorem dL_isPlain_116 : decode cL_isPlain 116 = .ok (.iconst 1, 1) := by decide +kernel
theorem dL_isPlain_117 : decode cL_isPlain 117 = .ok (.iand, 1) := by decide +kernel
theorem dL_isPlain_118 : decode cL_isPlain 118 = .ok (.iconst 1, 1) := by decide +kernel
theorem dL_isPlain_119 : decode cL_isPlain 119 = .ok (.if_icmp .ne 7, 3) := by decide +kernel
theorem dL_isPlain_122 : decode cL_isPlain 122 = .ok (.iconst 1, 1) := by decide +kernel
theorem dL_isPlain_123 : decode cL_isPlain 123 = .ok (.goto 4, 3) := by decide +kernel
theorem dL_isPlain_126 : decode cL_isPlain 126 = .ok (.iconst 0, 1) := by decide +kernel
theorem dL_isPlain_127 : decode cL_isPlain 127 = .ok (.istore 21, 2) := by decide +kernel
theorem dL_isPlain_129 : decode cL_isPlain 129 = .ok (.iload 21, 2) := by decide +kernel
theorem dL_isPlain_131 : decode cL_isPlain 131 = .ok (.ifCond .eq 15, 3) := by decide +kernel
theorem dL_isPlain_134 : decode cL_isPlain 134 = .ok (.lload 19, 2) := by decide +kernel
theorem dL_isPlain_136 : decode cL_isPlain 136 = .ok (.iload 7, 2) := by decide +kernel
theorem dL_isPlain_138 : decode cL_isPlain 138 = .ok (.aload 6, 2) := by decide +kernel
theorem dL_isPlain_140 : decode cL_isPlain 140 = .ok (.invokestatic 54, 3) := by decide +kernel
theorem dL_isPlain_143 : decode cL_isPlain 143 = .ok (.goto 4, 3) := by decide +kernel
theorem dL_isPlain_146 : decode cL_isPlain 146 = .ok (.iconst 0, 1) := by decide +kernel
theorem dL_isPlain_147 : decode cL_isPlain 147 = .ok (.istore 22, 2) := by decide +kernel
theorem dL_isPlain_149 : decode cL_isPlain 149 = .ok (.lload 19, 2) := by decide +kernel
theorem dL_isPlain_151 : decode cL_isPlain 151 = .ok (.bipush 48, 2) := by decide +kernel
theorem dL_isPlain_153 : decode cL_isPlain 153 = .ok (.lushr, 1) := by decide +kernel
theorem dL_isPlain_154 : decode cL_isPlain 154 = .ok (.l2i, 1) := by decide +kernel
theorem dL_isPlain_155 : decode cL_isPlain 155 = .ok (.istore 23, 2) := by decide +kernel
theorem dL_isPlain_157 : decode cL_isPlain 157 = .ok (.iload 10, 2) := by decide +kernel
theorem dL_isPlain_159 : decode cL_isPlain 159 = .ok (.iload 21, 2) := by decide +kernel
theorem dL_isPlain_161 : decode cL_isPlain 161 = .ok (.ifCond .eq 7, 3) := by decide +kernel
theorem dL_isPlain_164 : decode cL_isPlain 164 = .ok (.iconst 1, 1) := by decide +kernel
theorem dL_isPlain_165 : decode cL_isPlain 165 = .ok (.goto 4, 3) := by decide +kernel
theorem dL_isPlain_168 : decode cL_isPlain 168 = .ok (.iconst 0, 1) := by decide +kernel
theorem dL_isPlain_169 : decode cL_isPlain 169 = .ok (.iadd, 1) := by decide +kernel
theorem dL_isPlain_170 : decode cL_isPlain 170 = .ok (.istore 10, 2) := by decide +kernel
theorem dL_isPlain_172 : decode cL_isPlain 172 = .ok (.iload 11, 2) := by decide +kernel
theorem dL_isPlain_174 : decode cL_isPlain 174 = .ok (.iload 22, 2) := by decide +kernel
theorem dL_isPlain_176 : decode cL_isPlain 176 = .ok (.ifCond .le 7, 3) := by decide +kernel
theorem dL_isPlain_179 : decode cL_isPlain 179 = .ok (.iconst 1, 1) := by decide +kernel
theorem dL_isPlain_180 : decode cL_isPlain 180 = .ok (.goto 4, 3) := by decide +kernel
theorem dL_isPlain_183 : decode cL_isPlain 183 = .ok (.iconst 0, 1) := by decide +kernel
theorem dL_isPlain_184 : decode cL_isPlain 184 = .ok (.iadd, 1) := by decide +kernel
theorem dL_isPlain_185 : decode cL_isPlain 185 = .ok (.istore 11, 2) := by decide +kernel
theorem dL_isPlain_187 : decode cL_isPlain 187 = .ok (.iload 12, 2) := by decide +kernel
theorem dL_isPlain_189 : decode cL_isPlain 189 = .ok (.iload 22, 2) := by decide +kernel
theorem dL_isPlain_191 : decode cL_isPlain 191 = .ok (.ifCond .le 23, 3) := by decide +kernel
theorem dL_isPlain_194 : decode cL_isPlain 194 = .ok (.lload 19, 2) := by decide +kernel
theorem dL_isPlain_196 : decode cL_isPlain 196 = .ok (.bipush 44, 2) := by decide +kernel
theorem dL_isPlain_198 : decode cL_isPlain 198 = .ok (.lushr, 1) := by decide +kernel
theorem dL_isPlain_199 : decode cL_isPlain 199 = .ok (.ldc2_w 9, 3) := by decide +kernel
theorem dL_isPlain_202 : decode cL_isPlain 202 = .ok (.land, 1) := by decide +kernel
theorem dL_isPlain_203 : decode cL_isPlain 203 = .ok (.iload 9, 2) := by decide +kernel
theorem dL_isPlain_205 : decode cL_isPlain 205 = .ok (.i2l, 1) := by decide +kernel
theorem dL_isPlain_206 : decode cL_isPlain 206 = .ok (.lcmp, 1) := by decide +kernel
