theorem dL_isMerged_0 : decode cL_isMerged 0 = .ok (.iload 11, 2) := by decide +kernel
theorem dL_isMerged_2 : decode cL_isMerged 2 = .ok (.ifCond .ne 184, 3) := by decide +kernel
theorem dL_isMerged_5 : decode cL_isMerged 5 = .ok (.aload_n 2, 1) := by decide +kernel
theorem dL_isMerged_6 : decode cL_isMerged 6 = .ok (.aload 5, 2) := by decide +kernel
theorem dL_isMerged_8 : decode cL_isMerged 8 = .ok (.aload 10, 2) := by decide +kernel
theorem dL_isMerged_10 : decode cL_isMerged 10 = .ok (.invokestatic 209, 3) := by decide +kernel
theorem dL_isMerged_13 : decode cL_isMerged 13 = .ok (.istore 12, 2) := by decide +kernel
theorem dL_isMerged_15 : decode cL_isMerged 15 = .ok (.aload 10, 2) := by decide +kernel
theorem dL_isMerged_17 : decode cL_isMerged 17 = .ok (.bipush 6, 2) := by decide +kernel
theorem dL_isMerged_19 : decode cL_isMerged 19 = .ok (.iaload, 1) := by decide +kernel
theorem dL_isMerged_20 : decode cL_isMerged 20 = .ok (.ifCond .ne 20, 3) := by decide +kernel
theorem dL_isMerged_23 : decode cL_isMerged 23 = .ok (.iload 12, 2) := by decide +kernel
theorem dL_isMerged_25 : decode cL_isMerged 25 = .ok (.ifCond .lt 15, 3) := by decide +kernel
theorem dL_isMerged_28 : decode cL_isMerged 28 = .ok (.aload 10, 2) := by decide +kernel
theorem dL_isMerged_30 : decode cL_isMerged 30 = .ok (.bipush 9, 2) := by decide +kernel
theorem dL_isMerged_32 : decode cL_isMerged 32 = .ok (.iaload, 1) := by decide +kernel
theorem dL_isMerged_33 : decode cL_isMerged 33 = .ok (.ifCond .ne 7, 3) := by decide +kernel
theorem dL_isMerged_36 : decode cL_isMerged 36 = .ok (.iconst 1, 1) := by decide +kernel
theorem dL_isMerged_37 : decode cL_isMerged 37 = .ok (.goto 4, 3) := by decide +kernel
theorem dL_isMerged_40 : decode cL_isMerged 40 = .ok (.iconst 0, 1) := by decide +kernel
theorem dL_isMerged_41 : decode cL_isMerged 41 = .ok (.istore 13, 2) := by decide +kernel
theorem dL_isMerged_43 : decode cL_isMerged 43 = .ok (.iload 13, 2) := by decide +kernel
theorem dL_isMerged_45 : decode cL_isMerged 45 = .ok (.ifCond .eq 112, 3) := by decide +kernel
theorem dL_isMerged_48 : decode cL_isMerged 48 = .ok (.aload 10, 2) := by decide +kernel
theorem dL_isMerged_50 : decode cL_isMerged 50 = .ok (.bipush 9, 2) := by decide +kernel
theorem dL_isMerged_52 : decode cL_isMerged 52 = .ok (.iconst 1, 1) := by decide +kernel
theorem dL_isMerged_53 : decode cL_isMerged 53 = .ok (.iastore, 1) := by decide +kernel
theorem dL_isMerged_54 : decode cL_isMerged 54 = .ok (.aload 10, 2) := by decide +kernel
theorem dL_isMerged_56 : decode cL_isMerged 56 = .ok (.bipush 10, 2) := by decide +kernel
theorem dL_isMerged_58 : decode cL_isMerged 58 = .ok (.iload 12, 2) := by decide +kernel
theorem dL_isMerged_60 : decode cL_isMerged 60 = .ok (.iastore, 1) := by decide +kernel
theorem dL_isMerged_61 : decode cL_isMerged 61 = .ok (.aload 10, 2) := by decide +kernel
theorem dL_isMerged_63 : decode cL_isMerged 63 = .ok (.bipush 11, 2) := by decide +kernel
theorem dL_isMerged_65 : decode cL_isMerged 65 = .ok (.iconst 0, 1) := by decide +kernel
theorem dL_isMerged_66 : decode cL_isMerged 66 = .ok (.iastore, 1) := by decide +kernel
theorem dL_isMerged_67 : decode cL_isMerged 67 = .ok (.aload 10, 2) := by decide +kernel
theorem dL_isMerged_69 : decode cL_isMerged 69 = .ok (.bipush 12, 2) := by decide +kernel
theorem dL_isMerged_71 : decode cL_isMerged 71 = .ok (.iconst 0, 1) := by decide +kernel
theorem dL_isMerged_72 : decode cL_isMerged 72 = .ok (.iastore, 1) := by decide +kernel
theorem dL_isMerged_73 : decode cL_isMerged 73 = .ok (.iload 12, 2) := by decide +kernel
theorem dL_isMerged_75 : decode cL_isMerged 75 = .ok (.istore 14, 2) := by decide +kernel
theorem dL_isMerged_77 : decode cL_isMerged 77 = .ok (.iload 14, 2) := by decide +kernel
theorem dL_isMerged_79 : decode cL_isMerged 79 = .ok (.iload 12, 2) := by decide +kernel
theorem dL_isMerged_81 : decode cL_isMerged 81 = .ok (.iconst 3, 1) := by decide +kernel
theorem dL_isMerged_82 : decode cL_isMerged 82 = .ok (.iadd, 1) := by decide +kernel
theorem dL_isMerged_83 : decode cL_isMerged 83 = .ok (.if_icmp .ge 74, 3) := by decide +kernel
theorem dL_isMerged_86 : decode cL_isMerged 86 = .ok (.iconst 0, 1) := by decide +kernel
theorem dL_isMerged_87 : decode cL_isMerged 87 = .ok (.istore 15, 2) := by decide +kernel
theorem dL_isMerged_89 : decode cL_isMerged 89 = .ok (.iload 15, 2) := by decide +kernel
theorem dL_isMerged_91 : decode cL_isMerged 91 = .ok (.aload_n 2, 1) := by decide +kernel
theorem dL_isMerged_92 : decode cL_isMerged 92 = .ok (.aload 5, 2) := by decide +kernel
theorem dL_isMerged_94 : decode cL_isMerged 94 = .ok (.iload 14, 2) := by decide +kernel
theorem dL_isMerged_96 : decode cL_isMerged 96 = .ok (.iaload, 1) := by decide +kernel
theorem dL_isMerged_97 : decode cL_isMerged 97 = .ok (.iaload, 1) := by decide +kernel
theorem dL_isMerged_98 : decode cL_isMerged 98 = .ok (.if_icmp .ge 53, 3) := by decide +kernel
theorem dL_isMerged_101 : decode cL_isMerged 101 = .ok (.aload_n 3, 1) := by decide +kernel
theorem dL_isMerged_102 : decode cL_isMerged 102 = .ok (.aload 5, 2) := by decide +kernel
theorem dL_isMerged_104 : decode cL_isMerged 104 = .ok (.iload 14, 2) := by decide +kernel
theorem dL_isMerged_106 : decode cL_isMerged 106 = .ok (.iaload, 1) := by decide +kernel
theorem dL_isMerged_107 : decode cL_isMerged 107 = .ok (.iaload, 1) := by decide +kernel
theorem dL_isMerged_108 : decode cL_isMerged 108 = .ok (.iload 15, 2) := by decide +kernel
theorem dL_isMerged_110 : decode cL_isMerged 110 = .ok (.ishr, 1) := by decide +kernel
theorem dL_isMerged_111 : decode cL_isMerged 111 = .ok (.iconst 1, 1) := by decide +kernel
theorem dL_isMerged_112 : decode cL_isMerged 112 = .ok (.iand, 1) := by decide +kernel
theorem dL_isMerged_113 : decode cL_isMerged 113 = .ok (.iconst 1, 1) := by decide +kernel
theorem dL_isMerged_114 : decode cL_isMerged 114 = .ok (.if_icmp .ne 31, 3) := by decide +kernel
theorem dL_isMerged_117 : decode cL_isMerged 117 = .ok (.aload 6, 2) := by decide +kernel
theorem dL_isMerged_119 : decode cL_isMerged 119 = .ok (.aload 10, 2) := by decide +kernel
theorem dL_isMerged_121 : decode cL_isMerged 121 = .ok (.bipush 12, 2) := by decide +kernel
theorem dL_isMerged_123 : decode cL_isMerged 123 = .ok (.iaload, 1) := by decide +kernel
theorem dL_isMerged_124 : decode cL_isMerged 124 = .ok (.bipush 16, 2) := by decide +kernel
theorem dL_isMerged_126 : decode cL_isMerged 126 = .ok (.aload 5, 2) := by decide +kernel
theorem dL_isMerged_128 : decode cL_isMerged 128 = .ok (.iload 14, 2) := by decide +kernel
theorem dL_isMerged_130 : decode cL_isMerged 130 = .ok (.iaload, 1) := by decide +kernel
theorem dL_isMerged_131 : decode cL_isMerged 131 = .ok (.imul, 1) := by decide +kernel
theorem dL_isMerged_132 : decode cL_isMerged 132 = .ok (.iload 15, 2) := by decide +kernel
theorem dL_isMerged_134 : decode cL_isMerged 134 = .ok (.iadd, 1) := by decide +kernel
theorem dL_isMerged_135 : decode cL_isMerged 135 = .ok (.iastore, 1) := by decide +kernel
theorem dL_isMerged_136 : decode cL_isMerged 136 = .ok (.aload 10, 2) := by decide +kernel
theorem dL_isMerged_138 : decode cL_isMerged 138 = .ok (.bipush 12, 2) := by decide +kernel
theorem dL_isMerged_140 : decode cL_isMerged 140 = .ok (.dup2, 1) := by decide +kernel
theorem dL_isMerged_141 : decode cL_isMerged 141 = .ok (.iaload, 1) := by decide +kernel
theorem dL_isMerged_142 : decode cL_isMerged 142 = .ok (.iconst 1, 1) := by decide +kernel
theorem dL_isMerged_143 : decode cL_isMerged 143 = .ok (.iadd, 1) := by decide +kernel
theorem dL_isMerged_144 : decode cL_isMerged 144 = .ok (.iastore, 1) := by decide +kernel
theorem dL_isMerged_145 : decode cL_isMerged 145 = .ok (.iinc 15 1, 3) := by decide +kernel
theorem dL_isMerged_148 : decode cL_isMerged 148 = .ok (.goto (-59), 3) := by decide +kernel
theorem dL_isMerged_151 : decode cL_isMerged 151 = .ok (.iinc 14 1, 3) := by decide +kernel
theorem dL_isMerged_154 : decode cL_isMerged 154 = .ok (.goto (-77), 3) := by decide +kernel
theorem dL_isMerged_157 : decode cL_isMerged 157 = .ok (.aload_n 0, 1) := by decide +kernel
theorem dL_isMerged_158 : decode cL_isMerged 158 = .ok (.iconst 1, 1) := by decide +kernel
theorem dL_isMerged_159 : decode cL_isMerged 159 = .ok (.invokestatic 205, 3) := by decide +kernel
theorem dL_isMerged_162 : decode cL_isMerged 162 = .ok (.iload 13, 2) := by decide +kernel
theorem dL_isMerged_164 : decode cL_isMerged 164 = .ok (.ifCond .eq 11, 3) := by decide +kernel
theorem dL_isMerged_167 : decode cL_isMerged 167 = .ok (.aload 10, 2) := by decide +kernel
theorem dL_isMerged_169 : decode cL_isMerged 169 = .ok (.bipush 12, 2) := by decide +kernel
theorem dL_isMerged_171 : decode cL_isMerged 171 = .ok (.iaload, 1) := by decide +kernel
theorem dL_isMerged_172 : decode cL_isMerged 172 = .ok (.goto 5, 3) := by decide +kernel
theorem dL_isMerged_175 : decode cL_isMerged 175 = .ok (.bipush (-7), 2) := by decide +kernel
theorem dL_isMerged_177 : decode cL_isMerged 177 = .ok (.if_icmp .ne 7, 3) := by decide +kernel
theorem dL_isMerged_180 : decode cL_isMerged 180 = .ok (.iconst 1, 1) := by decide +kernel
theorem dL_isMerged_181 : decode cL_isMerged 181 = .ok (.goto 4, 3) := by decide +kernel
theorem dL_isMerged_184 : decode cL_isMerged 184 = .ok (.iconst 0, 1) := by decide +kernel
theorem dL_isMerged_185 : decode cL_isMerged 185 = .ok (.ireturn, 1) := by decide +kernel
theorem dL_isMerged_186 : decode cL_isMerged 186 = .ok (.aload 10, 2) := by decide +kernel
theorem dL_isMerged_188 : decode cL_isMerged 188 = .ok (.bipush 6, 2) := by decide +kernel
theorem dL_isMerged_190 : decode cL_isMerged 190 = .ok (.iaload, 1) := by decide +kernel
theorem dL_isMerged_191 : decode cL_isMerged 191 = .ok (.iconst 1, 1) := by decide +kernel
theorem dL_isMerged_192 : decode cL_isMerged 192 = .ok (.if_icmp .eq 11, 3) := by decide +kernel
theorem dL_isMerged_195 : decode cL_isMerged 195 = .ok (.aload 10, 2) := by decide +kernel
theorem dL_isMerged_197 : decode cL_isMerged 197 = .ok (.bipush 9, 2) := by decide +kernel
theorem dL_isMerged_199 : decode cL_isMerged 199 = .ok (.iaload, 1) := by decide +kernel
theorem dL_isMerged_200 : decode cL_isMerged 200 = .ok (.ifCond .ne 29, 3) := by decide +kernel
theorem dL_isMerged_203 : decode cL_isMerged 203 = .ok (.aload_n 0, 1) := by decide +kernel
theorem dL_isMerged_204 : decode cL_isMerged 204 = .ok (.iload 11, 2) := by decide +kernel
theorem dL_isMerged_206 : decode cL_isMerged 206 = .ok (.iconst 1, 1) := by decide +kernel
theorem dL_isMerged_207 : decode cL_isMerged 207 = .ok (.if_icmp .ne 7, 3) := by decide +kernel
theorem dL_isMerged_210 : decode cL_isMerged 210 = .ok (.iconst 2, 1) := by decide +kernel
theorem dL_isMerged_211 : decode cL_isMerged 211 = .ok (.goto 4, 3) := by decide +kernel
theorem dL_isMerged_214 : decode cL_isMerged 214 = .ok (.iconst 3, 1) := by decide +kernel
