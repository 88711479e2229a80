theorem dX12_look_62 : decode cX12_look 62 = .ok (.iload_n 2, 1) := by decide +kernel
theorem dX12_look_63 : decode cX12_look 63 = .ok (.aload_n 0, 1) := by decide +kernel
theorem dX12_look_64 : decode cX12_look 64 = .ok (.getfield 423, 3) := by decide +kernel
theorem dX12_look_67 : decode cX12_look 67 = .ok (.iastore, 1) := by decide +kernel
theorem dX12_look_68 : decode cX12_look 68 = .ok (.aload_n 0, 1) := by decide +kernel
theorem dX12_look_69 : decode cX12_look 69 = .ok (.getfield 103, 3) := by decide +kernel
theorem dX12_look_72 : decode cX12_look 72 = .ok (.iload_n 2, 1) := by decide +kernel
theorem dX12_look_73 : decode cX12_look 73 = .ok (.iload_n 1, 1) := by decide +kernel
theorem dX12_look_74 : decode cX12_look 74 = .ok (.ifCond .eq 10, 3) := by decide +kernel
theorem dX12_look_77 : decode cX12_look 77 = .ok (.aload_n 0, 1) := by decide +kernel
theorem dX12_look_78 : decode cX12_look 78 = .ok (.getfield 290, 3) := by decide +kernel
theorem dX12_look_81 : decode cX12_look 81 = .ok (.goto 18, 3) := by decide +kernel
theorem dX12_look_84 : decode cX12_look 84 = .ok (.aload_n 0, 1) := by decide +kernel
theorem dX12_look_85 : decode cX12_look 85 = .ok (.getfield 359, 3) := by decide +kernel
theorem dX12_look_88 : decode cX12_look 88 = .ok (.ifCond .eq 10, 3) := by decide +kernel
theorem dX12_look_91 : decode cX12_look 91 = .ok (.aload_n 0, 1) := by decide +kernel
theorem dX12_look_92 : decode cX12_look 92 = .ok (.getfield 362, 3) := by decide +kernel
theorem dX12_look_95 : decode cX12_look 95 = .ok (.goto 4, 3) := by decide +kernel
theorem dX12_look_98 : decode cX12_look 98 = .ok (.iconst 0, 1) := by decide +kernel
theorem dX12_look_99 : decode cX12_look 99 = .ok (.iastore, 1) := by decide +kernel
theorem dX12_look_100 : decode cX12_look 100 = .ok (.iconst 0, 1) := by decide +kernel
theorem dX12_look_101 : decode cX12_look 101 = .ok (.istore_n 3, 1) := by decide +kernel
theorem dX12_look_102 : decode cX12_look 102 = .ok (.iload_n 3, 1) := by decide +kernel
theorem dX12_look_103 : decode cX12_look 103 = .ok (.aload_n 0, 1) := by decide +kernel
theorem dX12_look_104 : decode cX12_look 104 = .ok (.getfield 103, 3) := by decide +kernel
theorem dX12_look_107 : decode cX12_look 107 = .ok (.iload_n 2, 1) := by decide +kernel
theorem dX12_look_108 : decode cX12_look 108 = .ok (.iaload, 1) := by decide +kernel
theorem dX12_look_109 : decode cX12_look 109 = .ok (.if_icmp .ge 109, 3) := by decide +kernel
theorem dX12_look_112 : decode cX12_look 112 = .ok (.iload_n 1, 1) := by decide +kernel
theorem dX12_look_113 : decode cX12_look 113 = .ok (.ifCond .eq 12, 3) := by decide +kernel
theorem dX12_look_116 : decode cX12_look 116 = .ok (.aload_n 0, 1) := by decide +kernel
theorem dX12_look_117 : decode cX12_look 117 = .ok (.getfield 82, 3) := by decide +kernel
theorem dX12_look_120 : decode cX12_look 120 = .ok (.iload_n 3, 1) := by decide +kernel
theorem dX12_look_121 : decode cX12_look 121 = .ok (.iaload, 1) := by decide +kernel
theorem dX12_look_122 : decode cX12_look 122 = .ok (.goto 9, 3) := by decide +kernel
theorem dX12_look_125 : decode cX12_look 125 = .ok (.aload_n 0, 1) := by decide +kernel
theorem dX12_look_126 : decode cX12_look 126 = .ok (.getfield 85, 3) := by decide +kernel
theorem dX12_look_129 : decode cX12_look 129 = .ok (.iload_n 3, 1) := by decide +kernel
theorem dX12_look_130 : decode cX12_look 130 = .ok (.iaload, 1) := by decide +kernel
theorem dX12_look_131 : decode cX12_look 131 = .ok (.istore 4, 2) := by decide +kernel
theorem dX12_look_133 : decode cX12_look 133 = .ok (.aload_n 0, 1) := by decide +kernel
theorem dX12_look_134 : decode cX12_look 134 = .ok (.getfield 100, 3) := by decide +kernel
theorem dX12_look_137 : decode cX12_look 137 = .ok (.sipush 202, 3) := by decide +kernel
theorem dX12_look_140 : decode cX12_look 140 = .ok (.iload_n 2, 1) := by decide +kernel
theorem dX12_look_141 : decode cX12_look 141 = .ok (.imul, 1) := by decide +kernel
theorem dX12_look_142 : decode cX12_look 142 = .ok (.iload_n 3, 1) := by decide +kernel
theorem dX12_look_143 : decode cX12_look 143 = .ok (.iadd, 1) := by decide +kernel
theorem dX12_look_144 : decode cX12_look 144 = .ok (.iload 4, 2) := by decide +kernel
theorem dX12_look_146 : decode cX12_look 146 = .ok (.iastore, 1) := by decide +kernel
theorem dX12_look_147 : decode cX12_look 147 = .ok (.bipush 100, 2) := by decide +kernel
theorem dX12_look_149 : decode cX12_look 149 = .ok (.iload 4, 2) := by decide +kernel
theorem dX12_look_151 : decode cX12_look 151 = .ok (.imul, 1) := by decide +kernel
theorem dX12_look_152 : decode cX12_look 152 = .ok (.istore 5, 2) := by decide +kernel
theorem dX12_look_154 : decode cX12_look 154 = .ok (.iload 5, 2) := by decide +kernel
theorem dX12_look_156 : decode cX12_look 156 = .ok (.bipush 100, 2) := by decide +kernel
theorem dX12_look_158 : decode cX12_look 158 = .ok (.iload 4, 2) := by decide +kernel
theorem dX12_look_160 : decode cX12_look 160 = .ok (.imul, 1) := by decide +kernel
theorem dX12_look_161 : decode cX12_look 161 = .ok (.aload_n 0, 1) := by decide +kernel
theorem dX12_look_162 : decode cX12_look 162 = .ok (.getfield 69, 3) := by decide +kernel
theorem dX12_look_165 : decode cX12_look 165 = .ok (.iload 4, 2) := by decide +kernel
theorem dX12_look_167 : decode cX12_look 167 = .ok (.iaload, 1) := by decide +kernel
theorem dX12_look_168 : decode cX12_look 168 = .ok (.iadd, 1) := by decide +kernel
theorem dX12_look_169 : decode cX12_look 169 = .ok (.if_icmp .ge 43, 3) := by decide +kernel
theorem dX12_look_172 : decode cX12_look 172 = .ok (.aload_n 0, 1) := by decide +kernel
theorem dX12_look_173 : decode cX12_look 173 = .ok (.getfield 107, 3) := by decide +kernel
theorem dX12_look_176 : decode cX12_look 176 = .ok (.sipush 20200, 3) := by decide +kernel
theorem dX12_look_179 : decode cX12_look 179 = .ok (.iload_n 2, 1) := by decide +kernel
theorem dX12_look_180 : decode cX12_look 180 = .ok (.imul, 1) := by decide +kernel
theorem dX12_look_181 : decode cX12_look 181 = .ok (.iload 5, 2) := by decide +kernel
theorem dX12_look_183 : decode cX12_look 183 = .ok (.iadd, 1) := by decide +kernel
theorem dX12_look_184 : decode cX12_look 184 = .ok (.iload_n 1, 1) := by decide +kernel
theorem dX12_look_185 : decode cX12_look 185 = .ok (.ifCond .eq 13, 3) := by decide +kernel
theorem dX12_look_188 : decode cX12_look 188 = .ok (.aload_n 0, 1) := by decide +kernel
theorem dX12_look_189 : decode cX12_look 189 = .ok (.getfield 72, 3) := by decide +kernel
theorem dX12_look_192 : decode cX12_look 192 = .ok (.iload 5, 2) := by decide +kernel
theorem dX12_look_194 : decode cX12_look 194 = .ok (.baload, 1) := by decide +kernel
theorem dX12_look_195 : decode cX12_look 195 = .ok (.goto 10, 3) := by decide +kernel
theorem dX12_look_198 : decode cX12_look 198 = .ok (.aload_n 0, 1) := by decide +kernel
theorem dX12_look_199 : decode cX12_look 199 = .ok (.getfield 88, 3) := by decide +kernel
theorem dX12_look_202 : decode cX12_look 202 = .ok (.iload 5, 2) := by decide +kernel
theorem dX12_look_204 : decode cX12_look 204 = .ok (.baload, 1) := by decide +kernel
theorem dX12_look_205 : decode cX12_look 205 = .ok (.bastore, 1) := by decide +kernel
theorem dX12_look_206 : decode cX12_look 206 = .ok (.iinc 5 1, 3) := by decide +kernel
theorem dX12_look_209 : decode cX12_look 209 = .ok (.goto (-55), 3) := by decide +kernel
theorem dX12_look_212 : decode cX12_look 212 = .ok (.iinc 3 1, 3) := by decide +kernel
theorem dX12_look_215 : decode cX12_look 215 = .ok (.goto (-113), 3) := by decide +kernel
theorem dX12_look_218 : decode cX12_look 218 = .ok (.aload_n 0, 1) := by decide +kernel
theorem dX12_look_219 : decode cX12_look 219 = .ok (.dup, 1) := by decide +kernel
theorem dX12_look_220 : decode cX12_look 220 = .ok (.getfield 423, 3) := by decide +kernel
theorem dX12_look_223 : decode cX12_look 223 = .ok (.iconst 1, 1) := by decide +kernel
theorem dX12_look_224 : decode cX12_look 224 = .ok (.iadd, 1) := by decide +kernel
theorem dX12_look_225 : decode cX12_look 225 = .ok (.putfield 423, 3) := by decide +kernel
theorem dX12_look_228 : decode cX12_look 228 = .ok (.aload_n 0, 1) := by decide +kernel
theorem dX12_look_229 : decode cX12_look 229 = .ok (.getfield 423, 3) := by decide +kernel
theorem dX12_look_232 : decode cX12_look 232 = .ok (.iconst 1, 1) := by decide +kernel
theorem dX12_look_233 : decode cX12_look 233 = .ok (.isub, 1) := by decide +kernel
theorem dX12_look_234 : decode cX12_look 234 = .ok (.ireturn, 1) := by decide +kernel
theorem dX12_shut_0 : decode cX12_shut 0 = .ok (.aload_n 0, 1) := by decide +kernel
theorem dX12_shut_1 : decode cX12_shut 1 = .ok (.iload_n 1, 1) := by decide +kernel
theorem dX12_shut_2 : decode cX12_shut 2 = .ok (.invokevirtual 426, 3) := by decide +kernel
theorem dX12_shut_5 : decode cX12_shut 5 = .ok (.istore_n 2, 1) := by decide +kernel
theorem dX12_shut_6 : decode cX12_shut 6 = .ok (.aload_n 0, 1) := by decide +kernel
theorem dX12_shut_7 : decode cX12_shut 7 = .ok (.iload_n 2, 1) := by decide +kernel
theorem dX12_shut_8 : decode cX12_shut 8 = .ok (.iconst (-1), 1) := by decide +kernel
theorem dX12_shut_9 : decode cX12_shut 9 = .ok (.if_icmp .eq 7, 3) := by decide +kernel
theorem dX12_shut_12 : decode cX12_shut 12 = .ok (.iconst 1, 1) := by decide +kernel
theorem dX12_shut_13 : decode cX12_shut 13 = .ok (.goto 4, 3) := by decide +kernel
theorem dX12_shut_16 : decode cX12_shut 16 = .ok (.iconst 0, 1) := by decide +kernel
theorem dX12_shut_17 : decode cX12_shut 17 = .ok (.iconst 1, 1) := by decide +kernel
theorem dX12_shut_18 : decode cX12_shut 18 = .ok (.iconst 1, 1) := by decide +kernel
theorem dX12_shut_19 : decode cX12_shut 19 = .ok (.invokevirtual 248, 3) := by decide +kernel
theorem dX12_shut_22 : decode cX12_shut 22 = .ok (.ifCond .ne 5, 3) := by decide +kernel
theorem dX12_shut_25 : decode cX12_shut 25 = .ok (.iconst 0, 1) := by decide +kernel
theorem dX12_shut_26 : decode cX12_shut 26 = .ok (.ireturn, 1) := by decide +kernel
theorem dX12_shut_27 : decode cX12_shut 27 = .ok (.aload_n 0, 1) := by decide +kernel
theorem dX12_shut_28 : decode cX12_shut 28 = .ok (.getfield 97, 3) := by decide +kernel
theorem dX12_shut_31 : decode cX12_shut 31 = .ok (.iload_n 2, 1) := by decide +kernel
theorem dX12_shut_32 : decode cX12_shut 32 = .ok (.iconst (-1), 1) := by decide +kernel
theorem dX12_shut_33 : decode cX12_shut 33 = .ok (.iastore, 1) := by decide +kernel
theorem dX12_shut_34 : decode cX12_shut 34 = .ok (.aload_n 0, 1) := by decide +kernel
theorem dX12_shut_35 : decode cX12_shut 35 = .ok (.invokevirtual 380, 3) := by decide +kernel
theorem dX12_shut_38 : decode cX12_shut 38 = .ok (.ireturn, 1) := by decide +kernel
theorem dX12_lays_0 : decode cX12_lays 0 = .ok (.aload_n 0, 1) := by decide +kernel
theorem dX12_lays_1 : decode cX12_lays 1 = .ok (.iconst 0, 1) := by decide +kernel
theorem dX12_lays_2 : decode cX12_lays 2 = .ok (.putfield 429, 3) := by decide +kernel
theorem dX12_lays_5 : decode cX12_lays 5 = .ok (.iconst 0, 1) := by decide +kernel
theorem dX12_lays_6 : decode cX12_lays 6 = .ok (.istore_n 2, 1) := by decide +kernel
theorem dX12_lays_7 : decode cX12_lays 7 = .ok (.iload_n 2, 1) := by decide +kernel
theorem dX12_lays_8 : decode cX12_lays 8 = .ok (.aload_n 0, 1) := by decide +kernel
theorem dX12_lays_9 : decode cX12_lays 9 = .ok (.getfield 103, 3) := by decide +kernel
theorem dX12_lays_12 : decode cX12_lays 12 = .ok (.iload_n 1, 1) := by decide +kernel
theorem dX12_lays_13 : decode cX12_lays 13 = .ok (.iaload, 1) := by decide +kernel
theorem dX12_lays_14 : decode cX12_lays 14 = .ok (.if_icmp .ge 92, 3) := by decide +kernel
theorem dX12_lays_17 : decode cX12_lays 17 = .ok (.aload_n 0, 1) := by decide +kernel
theorem dX12_lays_18 : decode cX12_lays 18 = .ok (.getfield 100, 3) := by decide +kernel
theorem dX12_lays_21 : decode cX12_lays 21 = .ok (.sipush 202, 3) := by decide +kernel
theorem dX12_lays_24 : decode cX12_lays 24 = .ok (.iload_n 1, 1) := by decide +kernel
theorem dX12_lays_25 : decode cX12_lays 25 = .ok (.imul, 1) := by decide +kernel
theorem dX12_lays_26 : decode cX12_lays 26 = .ok (.iload_n 2, 1) := by decide +kernel
theorem dX12_lays_27 : decode cX12_lays 27 = .ok (.iadd, 1) := by decide +kernel
theorem dX12_lays_28 : decode cX12_lays 28 = .ok (.iaload, 1) := by decide +kernel
theorem dX12_lays_29 : decode cX12_lays 29 = .ok (.istore_n 3, 1) := by decide +kernel
theorem dX12_lays_30 : decode cX12_lays 30 = .ok (.bipush 100, 2) := by decide +kernel
theorem dX12_lays_32 : decode cX12_lays 32 = .ok (.iload_n 3, 1) := by decide +kernel
theorem dX12_lays_33 : decode cX12_lays 33 = .ok (.imul, 1) := by decide +kernel
theorem dX12_lays_34 : decode cX12_lays 34 = .ok (.istore 4, 2) := by decide +kernel
theorem dX12_lays_36 : decode cX12_lays 36 = .ok (.iload 4, 2) := by decide +kernel
theorem dX12_lays_38 : decode cX12_lays 38 = .ok (.bipush 100, 2) := by decide +kernel
theorem dX12_lays_40 : decode cX12_lays 40 = .ok (.iload_n 3, 1) := by decide +kernel
theorem dX12_lays_41 : decode cX12_lays 41 = .ok (.imul, 1) := by decide +kernel
theorem dX12_lays_42 : decode cX12_lays 42 = .ok (.aload_n 0, 1) := by decide +kernel
theorem dX12_lays_43 : decode cX12_lays 43 = .ok (.getfield 69, 3) := by decide +kernel
theorem dX12_lays_46 : decode cX12_lays 46 = .ok (.iload_n 3, 1) := by decide +kernel
theorem dX12_lays_47 : decode cX12_lays 47 = .ok (.iaload, 1) := by decide +kernel
theorem dX12_lays_48 : decode cX12_lays 48 = .ok (.iadd, 1) := by decide +kernel
theorem dX12_lays_49 : decode cX12_lays 49 = .ok (.if_icmp .ge 51, 3) := by decide +kernel
theorem dX12_lays_52 : decode cX12_lays 52 = .ok (.aload_n 0, 1) := by decide +kernel
theorem dX12_lays_53 : decode cX12_lays 53 = .ok (.getfield 107, 3) := by decide +kernel
theorem dX12_lays_56 : decode cX12_lays 56 = .ok (.sipush 20200, 3) := by decide +kernel
theorem dX12_lays_59 : decode cX12_lays 59 = .ok (.iload_n 1, 1) := by decide +kernel
theorem dX12_lays_60 : decode cX12_lays 60 = .ok (.imul, 1) := by decide +kernel
theorem dX12_lays_61 : decode cX12_lays 61 = .ok (.iload 4, 2) := by decide +kernel
theorem dX12_lays_63 : decode cX12_lays 63 = .ok (.iadd, 1) := by decide +kernel
theorem dX12_lays_64 : decode cX12_lays 64 = .ok (.baload, 1) := by decide +kernel
theorem dX12_lays_65 : decode cX12_lays 65 = .ok (.ifCond .eq 29, 3) := by decide +kernel
theorem dX12_lays_68 : decode cX12_lays 68 = .ok (.aload_n 0, 1) := by decide +kernel
theorem dX12_lays_69 : decode cX12_lays 69 = .ok (.getfield 125, 3) := by decide +kernel
theorem dX12_lays_72 : decode cX12_lays 72 = .ok (.aload_n 0, 1) := by decide +kernel
theorem dX12_lays_73 : decode cX12_lays 73 = .ok (.getfield 429, 3) := by decide +kernel
theorem dX12_lays_76 : decode cX12_lays 76 = .ok (.aload_n 0, 1) := by decide +kernel
theorem dX12_lays_77 : decode cX12_lays 77 = .ok (.getfield 66, 3) := by decide +kernel
theorem dX12_lays_80 : decode cX12_lays 80 = .ok (.iload 4, 2) := by decide +kernel
theorem dX12_lays_82 : decode cX12_lays 82 = .ok (.iaload, 1) := by decide +kernel
theorem dX12_lays_83 : decode cX12_lays 83 = .ok (.iastore, 1) := by decide +kernel
theorem dX12_lays_84 : decode cX12_lays 84 = .ok (.aload_n 0, 1) := by decide +kernel
theorem dX12_lays_85 : decode cX12_lays 85 = .ok (.dup, 1) := by decide +kernel
theorem dX12_lays_86 : decode cX12_lays 86 = .ok (.getfield 429, 3) := by decide +kernel
theorem dX12_lays_89 : decode cX12_lays 89 = .ok (.iconst 1, 1) := by decide +kernel
theorem dX12_lays_90 : decode cX12_lays 90 = .ok (.iadd, 1) := by decide +kernel
theorem dX12_lays_91 : decode cX12_lays 91 = .ok (.putfield 429, 3) := by decide +kernel
theorem dX12_lays_94 : decode cX12_lays 94 = .ok (.iinc 4 1, 3) := by decide +kernel
theorem dX12_lays_97 : decode cX12_lays 97 = .ok (.goto (-61), 3) := by decide +kernel
theorem dX12_lays_100 : decode cX12_lays 100 = .ok (.iinc 2 1, 3) := by decide +kernel
theorem dX12_lays_103 : decode cX12_lays 103 = .ok (.goto (-96), 3) := by decide +kernel
theorem dX12_lays_106 : decode cX12_lays 106 = .ok (.return_, 1) := by decide +kernel
theorem dX12_documents_0 : decode cX12_documents 0 = .ok (.aload_n 0, 1) := by decide +kernel
theorem dX12_documents_1 : decode cX12_documents 1 = .ok (.iload_n 1, 1) := by decide +kernel
theorem dX12_documents_2 : decode cX12_documents 2 = .ok (.invokevirtual 426, 3) := by decide +kernel
theorem dX12_documents_5 : decode cX12_documents 5 = .ok (.istore_n 2, 1) := by decide +kernel
theorem dX12_documents_6 : decode cX12_documents 6 = .ok (.aload_n 0, 1) := by decide +kernel
theorem dX12_documents_7 : decode cX12_documents 7 = .ok (.iload_n 2, 1) := by decide +kernel
theorem dX12_documents_8 : decode cX12_documents 8 = .ok (.iconst (-1), 1) := by decide +kernel
theorem dX12_documents_9 : decode cX12_documents 9 = .ok (.if_icmp .eq 7, 3) := by decide +kernel
theorem dX12_documents_12 : decode cX12_documents 12 = .ok (.iconst 1, 1) := by decide +kernel
theorem dX12_documents_13 : decode cX12_documents 13 = .ok (.goto 4, 3) := by decide +kernel
theorem dX12_documents_16 : decode cX12_documents 16 = .ok (.iconst 0, 1) := by decide +kernel
theorem dX12_documents_17 : decode cX12_documents 17 = .ok (.iconst 1, 1) := by decide +kernel
theorem dX12_documents_18 : decode cX12_documents 18 = .ok (.iconst 1, 1) := by decide +kernel
theorem dX12_documents_19 : decode cX12_documents 19 = .ok (.invokevirtual 248, 3) := by decide +kernel
theorem dX12_documents_22 : decode cX12_documents 22 = .ok (.ifCond .ne 5, 3) := by decide +kernel
theorem dX12_documents_25 : decode cX12_documents 25 = .ok (.iconst 0, 1) := by decide +kernel
theorem dX12_documents_26 : decode cX12_documents 26 = .ok (.ireturn, 1) := by decide +kernel
theorem dX12_documents_27 : decode cX12_documents 27 = .ok (.aload_n 0, 1) := by decide +kernel
theorem dX12_documents_28 : decode cX12_documents 28 = .ok (.iload_n 2, 1) := by decide +kernel
theorem dX12_documents_29 : decode cX12_documents 29 = .ok (.invokevirtual 432, 3) := by decide +kernel
theorem dX12_documents_32 : decode cX12_documents 32 = .ok (.aload_n 0, 1) := by decide +kernel
theorem dX12_documents_33 : decode cX12_documents 33 = .ok (.getfield 429, 3) := by decide +kernel
theorem dX12_documents_36 : decode cX12_documents 36 = .ok (.ireturn, 1) := by decide +kernel
theorem dX12_draftAt_0 : decode cX12_draftAt 0 = .ok (.sipush 1920, 3) := by decide +kernel
theorem dX12_draftAt_3 : decode cX12_draftAt 3 = .ok (.ireturn, 1) := by decide +kernel
theorem dX12_hasTokens_0 : decode cX12_hasTokens 0 = .ok (.aload_n 0, 1) := by decide +kernel
theorem dX12_hasTokens_1 : decode cX12_hasTokens 1 = .ok (.invokevirtual 252, 3) := by decide +kernel
theorem dX12_hasTokens_4 : decode cX12_hasTokens 4 = .ok (.aload_n 0, 1) := by decide +kernel
theorem dX12_hasTokens_5 : decode cX12_hasTokens 5 = .ok (.iconst 0, 1) := by decide +kernel
theorem dX12_hasTokens_6 : decode cX12_hasTokens 6 = .ok (.putfield 436, 3) := by decide +kernel
theorem dX12_hasTokens_9 : decode cX12_hasTokens 9 = .ok (.iconst 0, 1) := by decide +kernel
theorem dX12_hasTokens_10 : decode cX12_hasTokens 10 = .ok (.istore_n 3, 1) := by decide +kernel
theorem dX12_hasTokens_11 : decode cX12_hasTokens 11 = .ok (.iload_n 3, 1) := by decide +kernel
theorem dX12_hasTokens_12 : decode cX12_hasTokens 12 = .ok (.aload_n 0, 1) := by decide +kernel
theorem dX12_hasTokens_13 : decode cX12_hasTokens 13 = .ok (.getfield 239, 3) := by decide +kernel
theorem dX12_hasTokens_16 : decode cX12_hasTokens 16 = .ok (.if_icmp .ge 65, 3) := by decide +kernel
theorem dX12_hasTokens_19 : decode cX12_hasTokens 19 = .ok (.aload_n 0, 1) := by decide +kernel
theorem dX12_hasTokens_20 : decode cX12_hasTokens 20 = .ok (.aload_n 0, 1) := by decide +kernel
theorem dX12_hasTokens_21 : decode cX12_hasTokens 21 = .ok (.aload_n 0, 1) := by decide +kernel
theorem dX12_hasTokens_22 : decode cX12_hasTokens 22 = .ok (.getfield 17, 3) := by decide +kernel
theorem dX12_hasTokens_25 : decode cX12_hasTokens 25 = .ok (.iload_n 3, 1) := by decide +kernel
theorem dX12_hasTokens_26 : decode cX12_hasTokens 26 = .ok (.laload, 1) := by decide +kernel
theorem dX12_hasTokens_27 : decode cX12_hasTokens 27 = .ok (.invokevirtual 259, 3) := by decide +kernel
theorem dX12_hasTokens_30 : decode cX12_hasTokens 30 = .ok (.invokevirtual 263, 3) := by decide +kernel
theorem dX12_hasTokens_33 : decode cX12_hasTokens 33 = .ok (.ifCond .ne 42, 3) := by decide +kernel
theorem dX12_hasTokens_36 : decode cX12_hasTokens 36 = .ok (.aload_n 0, 1) := by decide +kernel
theorem dX12_hasTokens_37 : decode cX12_hasTokens 37 = .ok (.getfield 161, 3) := by decide +kernel
theorem dX12_hasTokens_40 : decode cX12_hasTokens 40 = .ok (.aload_n 0, 1) := by decide +kernel
theorem dX12_hasTokens_41 : decode cX12_hasTokens 41 = .ok (.getfield 436, 3) := by decide +kernel
theorem dX12_hasTokens_44 : decode cX12_hasTokens 44 = .ok (.aload_n 0, 1) := by decide +kernel
theorem dX12_hasTokens_45 : decode cX12_hasTokens 45 = .ok (.aload_n 0, 1) := by decide +kernel
theorem dX12_hasTokens_46 : decode cX12_hasTokens 46 = .ok (.getfield 17, 3) := by decide +kernel
theorem dX12_hasTokens_49 : decode cX12_hasTokens 49 = .ok (.iload_n 3, 1) := by decide +kernel
theorem dX12_hasTokens_50 : decode cX12_hasTokens 50 = .ok (.laload, 1) := by decide +kernel
theorem dX12_hasTokens_51 : decode cX12_hasTokens 51 = .ok (.invokevirtual 259, 3) := by decide +kernel
theorem dX12_hasTokens_54 : decode cX12_hasTokens 54 = .ok (.lastore, 1) := by decide +kernel
theorem dX12_hasTokens_55 : decode cX12_hasTokens 55 = .ok (.aload_n 0, 1) := by decide +kernel
theorem dX12_hasTokens_56 : decode cX12_hasTokens 56 = .ok (.getfield 164, 3) := by decide +kernel
theorem dX12_hasTokens_59 : decode cX12_hasTokens 59 = .ok (.aload_n 0, 1) := by decide +kernel
theorem dX12_hasTokens_60 : decode cX12_hasTokens 60 = .ok (.getfield 436, 3) := by decide +kernel
theorem dX12_hasTokens_63 : decode cX12_hasTokens 63 = .ok (.iload_n 3, 1) := by decide +kernel
theorem dX12_hasTokens_64 : decode cX12_hasTokens 64 = .ok (.iastore, 1) := by decide +kernel
theorem dX12_hasTokens_65 : decode cX12_hasTokens 65 = .ok (.aload_n 0, 1) := by decide +kernel
theorem dX12_hasTokens_66 : decode cX12_hasTokens 66 = .ok (.dup, 1) := by decide +kernel
theorem dX12_hasTokens_67 : decode cX12_hasTokens 67 = .ok (.getfield 436, 3) := by decide +kernel
theorem dX12_hasTokens_70 : decode cX12_hasTokens 70 = .ok (.iconst 1, 1) := by decide +kernel
theorem dX12_hasTokens_71 : decode cX12_hasTokens 71 = .ok (.iadd, 1) := by decide +kernel
theorem dX12_hasTokens_72 : decode cX12_hasTokens 72 = .ok (.putfield 436, 3) := by decide +kernel
theorem dX12_hasTokens_75 : decode cX12_hasTokens 75 = .ok (.iinc 3 1, 3) := by decide +kernel
theorem dX12_hasTokens_78 : decode cX12_hasTokens 78 = .ok (.goto (-67), 3) := by decide +kernel
theorem dX12_hasTokens_81 : decode cX12_hasTokens 81 = .ok (.aload_n 0, 1) := by decide +kernel
theorem dX12_hasTokens_82 : decode cX12_hasTokens 82 = .ok (.getfield 436, 3) := by decide +kernel
theorem dX12_hasTokens_85 : decode cX12_hasTokens 85 = .ok (.iload_n 1, 1) := by decide +kernel
theorem dX12_hasTokens_86 : decode cX12_hasTokens 86 = .ok (.iload_n 2, 1) := by decide +kernel
theorem dX12_hasTokens_87 : decode cX12_hasTokens 87 = .ok (.invokestatic 215, 3) := by decide +kernel
theorem dX12_hasTokens_90 : decode cX12_hasTokens 90 = .ok (.ireturn, 1) := by decide +kernel
theorem dX12_hasRoom_0 : decode cX12_hasRoom 0 = .ok (.aload_n 0, 1) := by decide +kernel
theorem dX12_hasRoom_1 : decode cX12_hasRoom 1 = .ok (.getfield 439, 3) := by decide +kernel
theorem dX12_hasRoom_4 : decode cX12_hasRoom 4 = .ok (.bipush 8, 2) := by decide +kernel
theorem dX12_hasRoom_6 : decode cX12_hasRoom 6 = .ok (.if_icmp .ge 16, 3) := by decide +kernel
theorem dX12_hasRoom_9 : decode cX12_hasRoom 9 = .ok (.aload_n 0, 1) := by decide +kernel
theorem dX12_hasRoom_10 : decode cX12_hasRoom 10 = .ok (.getfield 442, 3) := by decide +kernel
theorem dX12_hasRoom_13 : decode cX12_hasRoom 13 = .ok (.bipush 24, 2) := by decide +kernel
theorem dX12_hasRoom_15 : decode cX12_hasRoom 15 = .ok (.if_icmp .ge 7, 3) := by decide +kernel
theorem dX12_hasRoom_18 : decode cX12_hasRoom 18 = .ok (.iconst 1, 1) := by decide +kernel
theorem dX12_hasRoom_19 : decode cX12_hasRoom 19 = .ok (.goto 4, 3) := by decide +kernel
theorem dX12_hasRoom_22 : decode cX12_hasRoom 22 = .ok (.iconst 0, 1) := by decide +kernel
theorem dX12_hasRoom_23 : decode cX12_hasRoom 23 = .ok (.ireturn, 1) := by decide +kernel
theorem dX12_leaf_0 : decode cX12_leaf 0 = .ok (.invokestatic 445, 3) := by decide +kernel
theorem dX12_leaf_3 : decode cX12_leaf 3 = .ok (.aload_n 0, 1) := by decide +kernel
theorem dX12_leaf_4 : decode cX12_leaf 4 = .ok (.getfield 155, 3) := by decide +kernel
theorem dX12_leaf_7 : decode cX12_leaf 7 = .ok (.bipush 40, 2) := by decide +kernel
theorem dX12_leaf_9 : decode cX12_leaf 9 = .ok (.iaload, 1) := by decide +kernel
theorem dX12_leaf_10 : decode cX12_leaf 10 = .ok (.iadd, 1) := by decide +kernel
theorem dX12_leaf_11 : decode cX12_leaf 11 = .ok (.istore 5, 2) := by decide +kernel
theorem dX12_leaf_13 : decode cX12_leaf 13 = .ok (.aload_n 0, 1) := by decide +kernel
theorem dX12_leaf_14 : decode cX12_leaf 14 = .ok (.getfield 131, 3) := by decide +kernel
theorem dX12_leaf_17 : decode cX12_leaf 17 = .ok (.iload 5, 2) := by decide +kernel
theorem dX12_leaf_19 : decode cX12_leaf 19 = .ok (.iload_n 1, 1) := by decide +kernel
theorem dX12_leaf_20 : decode cX12_leaf 20 = .ok (.iastore, 1) := by decide +kernel
theorem dX12_leaf_21 : decode cX12_leaf 21 = .ok (.aload_n 0, 1) := by decide +kernel
theorem dX12_leaf_22 : decode cX12_leaf 22 = .ok (.getfield 134, 3) := by decide +kernel
theorem dX12_leaf_25 : decode cX12_leaf 25 = .ok (.iload 5, 2) := by decide +kernel
theorem dX12_leaf_27 : decode cX12_leaf 27 = .ok (.iload_n 2, 1) := by decide +kernel
theorem dX12_leaf_28 : decode cX12_leaf 28 = .ok (.iastore, 1) := by decide +kernel
theorem dX12_leaf_29 : decode cX12_leaf 29 = .ok (.aload_n 0, 1) := by decide +kernel
theorem dX12_leaf_30 : decode cX12_leaf 30 = .ok (.getfield 137, 3) := by decide +kernel
theorem dX12_leaf_33 : decode cX12_leaf 33 = .ok (.iload 5, 2) := by decide +kernel
theorem dX12_leaf_35 : decode cX12_leaf 35 = .ok (.iload_n 3, 1) := by decide +kernel
theorem dX12_leaf_36 : decode cX12_leaf 36 = .ok (.iastore, 1) := by decide +kernel
theorem dX12_leaf_37 : decode cX12_leaf 37 = .ok (.aload_n 0, 1) := by decide +kernel
theorem dX12_leaf_38 : decode cX12_leaf 38 = .ok (.getfield 140, 3) := by decide +kernel
theorem dX12_leaf_41 : decode cX12_leaf 41 = .ok (.iload 5, 2) := by decide +kernel
theorem dX12_leaf_43 : decode cX12_leaf 43 = .ok (.iload 4, 2) := by decide +kernel
theorem dX12_leaf_45 : decode cX12_leaf 45 = .ok (.bastore, 1) := by decide +kernel
theorem dX12_leaf_46 : decode cX12_leaf 46 = .ok (.aload_n 0, 1) := by decide +kernel
theorem dX12_leaf_47 : decode cX12_leaf 47 = .ok (.getfield 143, 3) := by decide +kernel
theorem dX12_leaf_50 : decode cX12_leaf 50 = .ok (.iload 5, 2) := by decide +kernel
theorem dX12_leaf_52 : decode cX12_leaf 52 = .ok (.aload_n 0, 1) := by decide +kernel
theorem dX12_leaf_53 : decode cX12_leaf 53 = .ok (.getfield 436, 3) := by decide +kernel
theorem dX12_leaf_56 : decode cX12_leaf 56 = .ok (.iastore, 1) := by decide +kernel
theorem dX12_leaf_57 : decode cX12_leaf 57 = .ok (.iconst 0, 1) := by decide +kernel
theorem dX12_leaf_58 : decode cX12_leaf 58 = .ok (.istore 6, 2) := by decide +kernel
theorem dX12_leaf_60 : decode cX12_leaf 60 = .ok (.iload 6, 2) := by decide +kernel
theorem dX12_leaf_62 : decode cX12_leaf 62 = .ok (.aload_n 0, 1) := by decide +kernel
theorem dX12_leaf_63 : decode cX12_leaf 63 = .ok (.getfield 436, 3) := by decide +kernel
theorem dX12_leaf_66 : decode cX12_leaf 66 = .ok (.if_icmp .ge 54, 3) := by decide +kernel
theorem dX12_leaf_69 : decode cX12_leaf 69 = .ok (.iload_n 1, 1) := by decide +kernel
theorem dX12_leaf_70 : decode cX12_leaf 70 = .ok (.iconst 3, 1) := by decide +kernel
theorem dX12_leaf_71 : decode cX12_leaf 71 = .ok (.if_icmp .ge 49, 3) := by decide +kernel
theorem dX12_leaf_74 : decode cX12_leaf 74 = .ok (.aload_n 0, 1) := by decide +kernel
theorem dX12_leaf_75 : decode cX12_leaf 75 = .ok (.getfield 146, 3) := by decide +kernel
theorem dX12_leaf_78 : decode cX12_leaf 78 = .ok (.bipush 6, 2) := by decide +kernel
theorem dX12_leaf_80 : decode cX12_leaf 80 = .ok (.iload 5, 2) := by decide +kernel
theorem dX12_leaf_82 : decode cX12_leaf 82 = .ok (.imul, 1) := by decide +kernel
theorem dX12_leaf_83 : decode cX12_leaf 83 = .ok (.iload 6, 2) := by decide +kernel
theorem dX12_leaf_85 : decode cX12_leaf 85 = .ok (.iadd, 1) := by decide +kernel
theorem dX12_leaf_86 : decode cX12_leaf 86 = .ok (.aload_n 0, 1) := by decide +kernel
theorem dX12_leaf_87 : decode cX12_leaf 87 = .ok (.getfield 161, 3) := by decide +kernel
theorem dX12_leaf_90 : decode cX12_leaf 90 = .ok (.iload 6, 2) := by decide +kernel
theorem dX12_leaf_92 : decode cX12_leaf 92 = .ok (.laload, 1) := by decide +kernel
theorem dX12_leaf_93 : decode cX12_leaf 93 = .ok (.lastore, 1) := by decide +kernel
theorem dX12_leaf_94 : decode cX12_leaf 94 = .ok (.aload_n 0, 1) := by decide +kernel
theorem dX12_leaf_95 : decode cX12_leaf 95 = .ok (.getfield 149, 3) := by decide +kernel
theorem dX12_leaf_98 : decode cX12_leaf 98 = .ok (.bipush 6, 2) := by decide +kernel
theorem dX12_leaf_100 : decode cX12_leaf 100 = .ok (.iload 5, 2) := by decide +kernel
theorem dX12_leaf_102 : decode cX12_leaf 102 = .ok (.imul, 1) := by decide +kernel
theorem dX12_leaf_103 : decode cX12_leaf 103 = .ok (.iload 6, 2) := by decide +kernel
theorem dX12_leaf_105 : decode cX12_leaf 105 = .ok (.iadd, 1) := by decide +kernel
theorem dX12_leaf_106 : decode cX12_leaf 106 = .ok (.aload_n 0, 1) := by decide +kernel
theorem dX12_leaf_107 : decode cX12_leaf 107 = .ok (.getfield 164, 3) := by decide +kernel
theorem dX12_leaf_110 : decode cX12_leaf 110 = .ok (.iload 6, 2) := by decide +kernel
theorem dX12_leaf_112 : decode cX12_leaf 112 = .ok (.iaload, 1) := by decide +kernel
theorem dX12_leaf_113 : decode cX12_leaf 113 = .ok (.iastore, 1) := by decide +kernel
theorem dX12_leaf_114 : decode cX12_leaf 114 = .ok (.iinc 6 1, 3) := by decide +kernel
theorem dX12_leaf_117 : decode cX12_leaf 117 = .ok (.goto (-57), 3) := by decide +kernel
theorem dX12_leaf_120 : decode cX12_leaf 120 = .ok (.iload_n 1, 1) := by decide +kernel
theorem dX12_leaf_121 : decode cX12_leaf 121 = .ok (.iconst 3, 1) := by decide +kernel
theorem dX12_leaf_122 : decode cX12_leaf 122 = .ok (.if_icmp .lt 27, 3) := by decide +kernel
theorem dX12_leaf_125 : decode cX12_leaf 125 = .ok (.aload_n 0, 1) := by decide +kernel
theorem dX12_leaf_126 : decode cX12_leaf 126 = .ok (.getfield 146, 3) := by decide +kernel
theorem dX12_leaf_129 : decode cX12_leaf 129 = .ok (.bipush 6, 2) := by decide +kernel
theorem dX12_leaf_131 : decode cX12_leaf 131 = .ok (.iload 5, 2) := by decide +kernel
theorem dX12_leaf_133 : decode cX12_leaf 133 = .ok (.imul, 1) := by decide +kernel
theorem dX12_leaf_134 : decode cX12_leaf 134 = .ok (.aload_n 0, 1) := by decide +kernel
theorem dX12_leaf_135 : decode cX12_leaf 135 = .ok (.getfield 17, 3) := by decide +kernel
theorem dX12_leaf_138 : decode cX12_leaf 138 = .ok (.iconst 0, 1) := by decide +kernel
theorem dX12_leaf_139 : decode cX12_leaf 139 = .ok (.laload, 1) := by decide +kernel
theorem dX12_leaf_140 : decode cX12_leaf 140 = .ok (.lastore, 1) := by decide +kernel
theorem dX12_leaf_141 : decode cX12_leaf 141 = .ok (.aload_n 0, 1) := by decide +kernel
theorem dX12_leaf_142 : decode cX12_leaf 142 = .ok (.getfield 143, 3) := by decide +kernel
theorem dX12_leaf_145 : decode cX12_leaf 145 = .ok (.iload 5, 2) := by decide +kernel
theorem dX12_leaf_147 : decode cX12_leaf 147 = .ok (.iconst 1, 1) := by decide +kernel
theorem dX12_leaf_148 : decode cX12_leaf 148 = .ok (.iastore, 1) := by decide +kernel
theorem dX12_leaf_149 : decode cX12_leaf 149 = .ok (.aload_n 0, 1) := by decide +kernel
theorem dX12_leaf_150 : decode cX12_leaf 150 = .ok (.getfield 155, 3) := by decide +kernel
theorem dX12_leaf_153 : decode cX12_leaf 153 = .ok (.bipush 40, 2) := by decide +kernel
theorem dX12_leaf_155 : decode cX12_leaf 155 = .ok (.dup2, 1) := by decide +kernel
theorem dX12_leaf_156 : decode cX12_leaf 156 = .ok (.iaload, 1) := by decide +kernel
theorem dX12_leaf_157 : decode cX12_leaf 157 = .ok (.iconst 1, 1) := by decide +kernel
theorem dX12_leaf_158 : decode cX12_leaf 158 = .ok (.iadd, 1) := by decide +kernel
theorem dX12_leaf_159 : decode cX12_leaf 159 = .ok (.iastore, 1) := by decide +kernel
theorem dX12_leaf_160 : decode cX12_leaf 160 = .ok (.aload_n 0, 1) := by decide +kernel
theorem dX12_leaf_161 : decode cX12_leaf 161 = .ok (.dup, 1) := by decide +kernel
theorem dX12_leaf_162 : decode cX12_leaf 162 = .ok (.getfield 442, 3) := by decide +kernel
theorem dX12_leaf_165 : decode cX12_leaf 165 = .ok (.iconst 1, 1) := by decide +kernel
theorem dX12_leaf_166 : decode cX12_leaf 166 = .ok (.iadd, 1) := by decide +kernel
theorem dX12_leaf_167 : decode cX12_leaf 167 = .ok (.putfield 442, 3) := by decide +kernel
theorem dX12_leaf_170 : decode cX12_leaf 170 = .ok (.aload_n 0, 1) := by decide +kernel
theorem dX12_leaf_171 : decode cX12_leaf 171 = .ok (.dup, 1) := by decide +kernel
theorem dX12_leaf_172 : decode cX12_leaf 172 = .ok (.getfield 439, 3) := by decide +kernel
theorem dX12_leaf_175 : decode cX12_leaf 175 = .ok (.iconst 1, 1) := by decide +kernel
theorem dX12_leaf_176 : decode cX12_leaf 176 = .ok (.iadd, 1) := by decide +kernel
theorem dX12_leaf_177 : decode cX12_leaf 177 = .ok (.putfield 439, 3) := by decide +kernel
theorem dX12_leaf_180 : decode cX12_leaf 180 = .ok (.aload_n 0, 1) := by decide +kernel
theorem dX12_leaf_181 : decode cX12_leaf 181 = .ok (.iconst 0, 1) := by decide +kernel
theorem dX12_leaf_182 : decode cX12_leaf 182 = .ok (.putfield 242, 3) := by decide +kernel
theorem dX12_leaf_185 : decode cX12_leaf 185 = .ok (.aload_n 0, 1) := by decide +kernel
theorem dX12_leaf_186 : decode cX12_leaf 186 = .ok (.getfield 439, 3) := by decide +kernel
theorem dX12_leaf_189 : decode cX12_leaf 189 = .ok (.ireturn, 1) := by decide +kernel
theorem dX12_term_0 : decode cX12_term 0 = .ok (.aload_n 0, 1) := by decide +kernel
theorem dX12_term_1 : decode cX12_term 1 = .ok (.aload_n 0, 1) := by decide +kernel
theorem dX12_term_2 : decode cX12_term 2 = .ok (.iload_n 1, 1) := by decide +kernel
theorem dX12_term_3 : decode cX12_term 3 = .ok (.invokevirtual 393, 3) := by decide +kernel
theorem dX12_term_6 : decode cX12_term 6 = .ok (.aload_n 0, 1) := by decide +kernel
theorem dX12_term_7 : decode cX12_term 7 = .ok (.iconst 1, 1) := by decide +kernel
theorem dX12_term_8 : decode cX12_term 8 = .ok (.iconst 1, 1) := by decide +kernel
theorem dX12_term_9 : decode cX12_term 9 = .ok (.invokevirtual 448, 3) := by decide +kernel
theorem dX12_term_12 : decode cX12_term 12 = .ok (.ifCond .eq 14, 3) := by decide +kernel
theorem dX12_term_15 : decode cX12_term 15 = .ok (.aload_n 0, 1) := by decide +kernel
theorem dX12_term_16 : decode cX12_term 16 = .ok (.invokevirtual 451, 3) := by decide +kernel
theorem dX12_term_19 : decode cX12_term 19 = .ok (.ifCond .eq 7, 3) := by decide +kernel
theorem dX12_term_22 : decode cX12_term 22 = .ok (.iconst 1, 1) := by decide +kernel
theorem dX12_term_23 : decode cX12_term 23 = .ok (.goto 4, 3) := by decide +kernel
theorem dX12_term_26 : decode cX12_term 26 = .ok (.iconst 0, 1) := by decide +kernel
theorem dX12_term_27 : decode cX12_term 27 = .ok (.iconst 1, 1) := by decide +kernel
theorem dX12_term_28 : decode cX12_term 28 = .ok (.invokevirtual 248, 3) := by decide +kernel
theorem dX12_term_31 : decode cX12_term 31 = .ok (.ifCond .eq 14, 3) := by decide +kernel
theorem dX12_term_34 : decode cX12_term 34 = .ok (.aload_n 0, 1) := by decide +kernel
theorem dX12_term_35 : decode cX12_term 35 = .ok (.iconst 0, 1) := by decide +kernel
theorem dX12_term_36 : decode cX12_term 36 = .ok (.iload_n 1, 1) := by decide +kernel
theorem dX12_term_37 : decode cX12_term 37 = .ok (.iconst 0, 1) := by decide +kernel
theorem dX12_term_38 : decode cX12_term 38 = .ok (.iconst 0, 1) := by decide +kernel
theorem dX12_term_39 : decode cX12_term 39 = .ok (.invokevirtual 454, 3) := by decide +kernel
theorem dX12_term_42 : decode cX12_term 42 = .ok (.goto 4, 3) := by decide +kernel
theorem dX12_term_45 : decode cX12_term 45 = .ok (.iconst 0, 1) := by decide +kernel
theorem dX12_term_46 : decode cX12_term 46 = .ok (.ireturn, 1) := by decide +kernel
theorem dX12_phrase_0 : decode cX12_phrase 0 = .ok (.aload_n 0, 1) := by decide +kernel
theorem dX12_phrase_1 : decode cX12_phrase 1 = .ok (.aload_n 0, 1) := by decide +kernel
theorem dX12_phrase_2 : decode cX12_phrase 2 = .ok (.iload_n 1, 1) := by decide +kernel
theorem dX12_phrase_3 : decode cX12_phrase 3 = .ok (.invokevirtual 393, 3) := by decide +kernel
theorem dX12_phrase_6 : decode cX12_phrase 6 = .ok (.iload_n 2, 1) := by decide +kernel
theorem dX12_phrase_7 : decode cX12_phrase 7 = .ok (.iconst 0, 1) := by decide +kernel
theorem dX12_phrase_8 : decode cX12_phrase 8 = .ok (.bipush 20, 2) := by decide +kernel
theorem dX12_phrase_10 : decode cX12_phrase 10 = .ok (.invokestatic 215, 3) := by decide +kernel
theorem dX12_phrase_13 : decode cX12_phrase 13 = .ok (.aload_n 0, 1) := by decide +kernel
theorem dX12_phrase_14 : decode cX12_phrase 14 = .ok (.iconst 1, 1) := by decide +kernel
theorem dX12_phrase_15 : decode cX12_phrase 15 = .ok (.bipush 6, 2) := by decide +kernel
theorem dX12_phrase_17 : decode cX12_phrase 17 = .ok (.invokevirtual 448, 3) := by decide +kernel
theorem dX12_phrase_20 : decode cX12_phrase 20 = .ok (.ifCond .eq 14, 3) := by decide +kernel
theorem dX12_phrase_23 : decode cX12_phrase 23 = .ok (.aload_n 0, 1) := by decide +kernel
theorem dX12_phrase_24 : decode cX12_phrase 24 = .ok (.invokevirtual 451, 3) := by decide +kernel
theorem dX12_phrase_27 : decode cX12_phrase 27 = .ok (.ifCond .eq 7, 3) := by decide +kernel
theorem dX12_phrase_30 : decode cX12_phrase 30 = .ok (.iconst 1, 1) := by decide +kernel
theorem dX12_phrase_31 : decode cX12_phrase 31 = .ok (.goto 4, 3) := by decide +kernel
theorem dX12_phrase_34 : decode cX12_phrase 34 = .ok (.iconst 0, 1) := by decide +kernel
theorem dX12_phrase_35 : decode cX12_phrase 35 = .ok (.invokevirtual 248, 3) := by decide +kernel
theorem dX12_phrase_38 : decode cX12_phrase 38 = .ok (.ifCond .eq 14, 3) := by decide +kernel
theorem dX12_phrase_41 : decode cX12_phrase 41 = .ok (.aload_n 0, 1) := by decide +kernel
theorem dX12_phrase_42 : decode cX12_phrase 42 = .ok (.iconst 1, 1) := by decide +kernel
theorem dX12_phrase_43 : decode cX12_phrase 43 = .ok (.iload_n 1, 1) := by decide +kernel
theorem dX12_phrase_44 : decode cX12_phrase 44 = .ok (.iload_n 2, 1) := by decide +kernel
theorem dX12_phrase_45 : decode cX12_phrase 45 = .ok (.iconst 0, 1) := by decide +kernel
theorem dX12_phrase_46 : decode cX12_phrase 46 = .ok (.invokevirtual 454, 3) := by decide +kernel
theorem dX12_phrase_49 : decode cX12_phrase 49 = .ok (.goto 4, 3) := by decide +kernel
theorem dX12_phrase_52 : decode cX12_phrase 52 = .ok (.iconst 0, 1) := by decide +kernel
theorem dX12_phrase_53 : decode cX12_phrase 53 = .ok (.ireturn, 1) := by decide +kernel
theorem dX12_near_0 : decode cX12_near 0 = .ok (.aload_n 0, 1) := by decide +kernel
theorem dX12_near_1 : decode cX12_near 1 = .ok (.aload_n 0, 1) := by decide +kernel
theorem dX12_near_2 : decode cX12_near 2 = .ok (.iload_n 1, 1) := by decide +kernel
theorem dX12_near_3 : decode cX12_near 3 = .ok (.invokevirtual 393, 3) := by decide +kernel
theorem dX12_near_6 : decode cX12_near 6 = .ok (.iload_n 2, 1) := by decide +kernel
theorem dX12_near_7 : decode cX12_near 7 = .ok (.iconst 1, 1) := by decide +kernel
theorem dX12_near_8 : decode cX12_near 8 = .ok (.bipush 20, 2) := by decide +kernel
theorem dX12_near_10 : decode cX12_near 10 = .ok (.invokestatic 215, 3) := by decide +kernel
theorem dX12_near_13 : decode cX12_near 13 = .ok (.aload_n 0, 1) := by decide +kernel
theorem dX12_near_14 : decode cX12_near 14 = .ok (.iconst 2, 1) := by decide +kernel
theorem dX12_near_15 : decode cX12_near 15 = .ok (.iconst 2, 1) := by decide +kernel
theorem dX12_near_16 : decode cX12_near 16 = .ok (.invokevirtual 448, 3) := by decide +kernel
theorem dX12_near_19 : decode cX12_near 19 = .ok (.ifCond .eq 14, 3) := by decide +kernel
theorem dX12_near_22 : decode cX12_near 22 = .ok (.aload_n 0, 1) := by decide +kernel
theorem dX12_near_23 : decode cX12_near 23 = .ok (.invokevirtual 451, 3) := by decide +kernel
theorem dX12_near_26 : decode cX12_near 26 = .ok (.ifCond .eq 7, 3) := by decide +kernel
theorem dX12_near_29 : decode cX12_near 29 = .ok (.iconst 1, 1) := by decide +kernel
theorem dX12_near_30 : decode cX12_near 30 = .ok (.goto 4, 3) := by decide +kernel
theorem dX12_near_33 : decode cX12_near 33 = .ok (.iconst 0, 1) := by decide +kernel
theorem dX12_near_34 : decode cX12_near 34 = .ok (.invokevirtual 248, 3) := by decide +kernel
theorem dX12_near_37 : decode cX12_near 37 = .ok (.ifCond .eq 14, 3) := by decide +kernel
theorem dX12_near_40 : decode cX12_near 40 = .ok (.aload_n 0, 1) := by decide +kernel
theorem dX12_near_41 : decode cX12_near 41 = .ok (.iconst 2, 1) := by decide +kernel
theorem dX12_near_42 : decode cX12_near 42 = .ok (.iload_n 1, 1) := by decide +kernel
theorem dX12_near_43 : decode cX12_near 43 = .ok (.iload_n 2, 1) := by decide +kernel
theorem dX12_near_44 : decode cX12_near 44 = .ok (.iload_n 3, 1) := by decide +kernel
theorem dX12_near_45 : decode cX12_near 45 = .ok (.invokevirtual 454, 3) := by decide +kernel
theorem dX12_near_48 : decode cX12_near 48 = .ok (.goto 4, 3) := by decide +kernel
theorem dX12_near_51 : decode cX12_near 51 = .ok (.iconst 0, 1) := by decide +kernel
theorem dX12_near_52 : decode cX12_near 52 = .ok (.ireturn, 1) := by decide +kernel
theorem dX12_hasWordAlone_0 : decode cX12_hasWordAlone 0 = .ok (.aload_n 0, 1) := by decide +kernel
theorem dX12_hasWordAlone_1 : decode cX12_hasWordAlone 1 = .ok (.invokevirtual 252, 3) := by decide +kernel
theorem dX12_hasWordAlone_4 : decode cX12_hasWordAlone 4 = .ok (.aload_n 0, 1) := by decide +kernel
theorem dX12_hasWordAlone_5 : decode cX12_hasWordAlone 5 = .ok (.getfield 239, 3) := by decide +kernel
theorem dX12_hasWordAlone_8 : decode cX12_hasWordAlone 8 = .ok (.iconst 1, 1) := by decide +kernel
theorem dX12_hasWordAlone_9 : decode cX12_hasWordAlone 9 = .ok (.if_icmp .ne 7, 3) := by decide +kernel
theorem dX12_hasWordAlone_12 : decode cX12_hasWordAlone 12 = .ok (.iconst 1, 1) := by decide +kernel
theorem dX12_hasWordAlone_13 : decode cX12_hasWordAlone 13 = .ok (.goto 4, 3) := by decide +kernel
theorem dX12_hasWordAlone_16 : decode cX12_hasWordAlone 16 = .ok (.iconst 0, 1) := by decide +kernel
theorem dX12_hasWordAlone_17 : decode cX12_hasWordAlone 17 = .ok (.ireturn, 1) := by decide +kernel
theorem dX12_prefix_0 : decode cX12_prefix 0 = .ok (.aload_n 0, 1) := by decide +kernel
theorem dX12_prefix_1 : decode cX12_prefix 1 = .ok (.aload_n 0, 1) := by decide +kernel
theorem dX12_prefix_2 : decode cX12_prefix 2 = .ok (.iload_n 1, 1) := by decide +kernel
theorem dX12_prefix_3 : decode cX12_prefix 3 = .ok (.invokevirtual 393, 3) := by decide +kernel
theorem dX12_prefix_6 : decode cX12_prefix 6 = .ok (.aload_n 0, 1) := by decide +kernel
theorem dX12_prefix_7 : decode cX12_prefix 7 = .ok (.invokevirtual 458, 3) := by decide +kernel
theorem dX12_prefix_10 : decode cX12_prefix 10 = .ok (.ifCond .eq 14, 3) := by decide +kernel
theorem dX12_prefix_13 : decode cX12_prefix 13 = .ok (.aload_n 0, 1) := by decide +kernel
theorem dX12_prefix_14 : decode cX12_prefix 14 = .ok (.invokevirtual 451, 3) := by decide +kernel
theorem dX12_prefix_17 : decode cX12_prefix 17 = .ok (.ifCond .eq 7, 3) := by decide +kernel
theorem dX12_prefix_20 : decode cX12_prefix 20 = .ok (.iconst 1, 1) := by decide +kernel
theorem dX12_prefix_21 : decode cX12_prefix 21 = .ok (.goto 4, 3) := by decide +kernel
theorem dX12_prefix_24 : decode cX12_prefix 24 = .ok (.iconst 0, 1) := by decide +kernel
theorem dX12_prefix_25 : decode cX12_prefix 25 = .ok (.iconst 1, 1) := by decide +kernel
theorem dX12_prefix_26 : decode cX12_prefix 26 = .ok (.invokevirtual 248, 3) := by decide +kernel
theorem dX12_prefix_29 : decode cX12_prefix 29 = .ok (.ifCond .eq 14, 3) := by decide +kernel
theorem dX12_prefix_32 : decode cX12_prefix 32 = .ok (.aload_n 0, 1) := by decide +kernel
theorem dX12_prefix_33 : decode cX12_prefix 33 = .ok (.iconst 3, 1) := by decide +kernel
theorem dX12_prefix_34 : decode cX12_prefix 34 = .ok (.iload_n 1, 1) := by decide +kernel
theorem dX12_prefix_35 : decode cX12_prefix 35 = .ok (.iconst 0, 1) := by decide +kernel
theorem dX12_prefix_36 : decode cX12_prefix 36 = .ok (.iconst 0, 1) := by decide +kernel
theorem dX12_prefix_37 : decode cX12_prefix 37 = .ok (.invokevirtual 454, 3) := by decide +kernel
theorem dX12_prefix_40 : decode cX12_prefix 40 = .ok (.goto 4, 3) := by decide +kernel
theorem dX12_prefix_43 : decode cX12_prefix 43 = .ok (.iconst 0, 1) := by decide +kernel
theorem dX12_prefix_44 : decode cX12_prefix 44 = .ok (.ireturn, 1) := by decide +kernel
theorem dX12_wild_0 : decode cX12_wild 0 = .ok (.aload_n 0, 1) := by decide +kernel
theorem dX12_wild_1 : decode cX12_wild 1 = .ok (.getfield 242, 3) := by decide +kernel
theorem dX12_wild_4 : decode cX12_wild 4 = .ok (.iconst 1, 1) := by decide +kernel
theorem dX12_wild_5 : decode cX12_wild 5 = .ok (.bipush 12, 2) := by decide +kernel
theorem dX12_wild_7 : decode cX12_wild 7 = .ok (.invokestatic 215, 3) := by decide +kernel
theorem dX12_wild_10 : decode cX12_wild 10 = .ok (.istore_n 2, 1) := by decide +kernel
theorem dX12_wild_11 : decode cX12_wild 11 = .ok (.iconst 0, 1) := by decide +kernel
theorem dX12_wild_12 : decode cX12_wild 12 = .ok (.istore_n 3, 1) := by decide +kernel
theorem dX12_wild_13 : decode cX12_wild 13 = .ok (.iload_n 3, 1) := by decide +kernel
theorem dX12_wild_14 : decode cX12_wild 14 = .ok (.aload_n 0, 1) := by decide +kernel
theorem dX12_wild_15 : decode cX12_wild 15 = .ok (.getfield 242, 3) := by decide +kernel
theorem dX12_wild_18 : decode cX12_wild 18 = .ok (.if_icmp .ge 53, 3) := by decide +kernel
theorem dX12_wild_21 : decode cX12_wild 21 = .ok (.iload_n 2, 1) := by decide +kernel
theorem dX12_wild_22 : decode cX12_wild 22 = .ok (.ifCond .eq 41, 3) := by decide +kernel
theorem dX12_wild_25 : decode cX12_wild 25 = .ok (.aload_n 0, 1) := by decide +kernel
theorem dX12_wild_26 : decode cX12_wild 26 = .ok (.getfield 13, 3) := by decide +kernel
theorem dX12_wild_29 : decode cX12_wild 29 = .ok (.iload_n 3, 1) := by decide +kernel
theorem dX12_wild_30 : decode cX12_wild 30 = .ok (.iaload, 1) := by decide +kernel
theorem dX12_wild_31 : decode cX12_wild 31 = .ok (.invokestatic 223, 3) := by decide +kernel
theorem dX12_wild_34 : decode cX12_wild 34 = .ok (.ifCond .gt 25, 3) := by decide +kernel
theorem dX12_wild_37 : decode cX12_wild 37 = .ok (.aload_n 0, 1) := by decide +kernel
theorem dX12_wild_38 : decode cX12_wild 38 = .ok (.getfield 13, 3) := by decide +kernel
theorem dX12_wild_41 : decode cX12_wild 41 = .ok (.iload_n 3, 1) := by decide +kernel
theorem dX12_wild_42 : decode cX12_wild 42 = .ok (.iaload, 1) := by decide +kernel
theorem dX12_wild_43 : decode cX12_wild 43 = .ok (.bipush 63, 2) := by decide +kernel
theorem dX12_wild_45 : decode cX12_wild 45 = .ok (.if_icmp .eq 14, 3) := by decide +kernel
theorem dX12_wild_48 : decode cX12_wild 48 = .ok (.aload_n 0, 1) := by decide +kernel
theorem dX12_wild_49 : decode cX12_wild 49 = .ok (.getfield 13, 3) := by decide +kernel
theorem dX12_wild_52 : decode cX12_wild 52 = .ok (.iload_n 3, 1) := by decide +kernel
theorem dX12_wild_53 : decode cX12_wild 53 = .ok (.iaload, 1) := by decide +kernel
theorem dX12_wild_54 : decode cX12_wild 54 = .ok (.bipush 42, 2) := by decide +kernel
theorem dX12_wild_56 : decode cX12_wild 56 = .ok (.if_icmp .ne 7, 3) := by decide +kernel
theorem dX12_wild_59 : decode cX12_wild 59 = .ok (.iconst 1, 1) := by decide +kernel
theorem dX12_wild_60 : decode cX12_wild 60 = .ok (.goto 4, 3) := by decide +kernel
theorem dX12_wild_63 : decode cX12_wild 63 = .ok (.iconst 0, 1) := by decide +kernel
theorem dX12_wild_64 : decode cX12_wild 64 = .ok (.istore_n 2, 1) := by decide +kernel
theorem dX12_wild_65 : decode cX12_wild 65 = .ok (.iinc 3 1, 3) := by decide +kernel
theorem dX12_wild_68 : decode cX12_wild 68 = .ok (.goto (-55), 3) := by decide +kernel
theorem dX12_wild_71 : decode cX12_wild 71 = .ok (.aload_n 0, 1) := by decide +kernel
theorem dX12_wild_72 : decode cX12_wild 72 = .ok (.aload_n 0, 1) := by decide +kernel
theorem dX12_wild_73 : decode cX12_wild 73 = .ok (.iload_n 1, 1) := by decide +kernel
theorem dX12_wild_74 : decode cX12_wild 74 = .ok (.invokevirtual 393, 3) := by decide +kernel
theorem dX12_wild_77 : decode cX12_wild 77 = .ok (.iload_n 2, 1) := by decide +kernel
theorem dX12_wild_78 : decode cX12_wild 78 = .ok (.ifCond .eq 14, 3) := by decide +kernel
theorem dX12_wild_81 : decode cX12_wild 81 = .ok (.aload_n 0, 1) := by decide +kernel
theorem dX12_wild_82 : decode cX12_wild 82 = .ok (.invokevirtual 451, 3) := by decide +kernel
theorem dX12_wild_85 : decode cX12_wild 85 = .ok (.ifCond .eq 7, 3) := by decide +kernel
theorem dX12_wild_88 : decode cX12_wild 88 = .ok (.iconst 1, 1) := by decide +kernel
theorem dX12_wild_89 : decode cX12_wild 89 = .ok (.goto 4, 3) := by decide +kernel
theorem dX12_wild_92 : decode cX12_wild 92 = .ok (.iconst 0, 1) := by decide +kernel
theorem dX12_wild_93 : decode cX12_wild 93 = .ok (.iconst 1, 1) := by decide +kernel
theorem dX12_wild_94 : decode cX12_wild 94 = .ok (.invokevirtual 248, 3) := by decide +kernel
theorem dX12_wild_97 : decode cX12_wild 97 = .ok (.ifCond .ne 5, 3) := by decide +kernel
theorem dX12_wild_100 : decode cX12_wild 100 = .ok (.iconst 0, 1) := by decide +kernel
theorem dX12_wild_101 : decode cX12_wild 101 = .ok (.ireturn, 1) := by decide +kernel
theorem dX12_wild_102 : decode cX12_wild 102 = .ok (.invokestatic 445, 3) := by decide +kernel
theorem dX12_wild_105 : decode cX12_wild 105 = .ok (.aload_n 0, 1) := by decide +kernel
theorem dX12_wild_106 : decode cX12_wild 106 = .ok (.getfield 155, 3) := by decide +kernel
theorem dX12_wild_109 : decode cX12_wild 109 = .ok (.bipush 40, 2) := by decide +kernel
theorem dX12_wild_111 : decode cX12_wild 111 = .ok (.iaload, 1) := by decide +kernel
theorem dX12_wild_112 : decode cX12_wild 112 = .ok (.iadd, 1) := by decide +kernel
theorem dX12_wild_113 : decode cX12_wild 113 = .ok (.istore_n 3, 1) := by decide +kernel
theorem dX12_wild_114 : decode cX12_wild 114 = .ok (.aload_n 0, 1) := by decide +kernel
theorem dX12_wild_115 : decode cX12_wild 115 = .ok (.getfield 242, 3) := by decide +kernel
theorem dX12_wild_118 : decode cX12_wild 118 = .ok (.istore 4, 2) := by decide +kernel
theorem dX12_wild_120 : decode cX12_wild 120 = .ok (.iconst 0, 1) := by decide +kernel
theorem dX12_wild_121 : decode cX12_wild 121 = .ok (.istore 5, 2) := by decide +kernel
theorem dX12_wild_123 : decode cX12_wild 123 = .ok (.iload 5, 2) := by decide +kernel
theorem dX12_wild_125 : decode cX12_wild 125 = .ok (.iload 4, 2) := by decide +kernel
theorem dX12_wild_127 : decode cX12_wild 127 = .ok (.if_icmp .ge 65, 3) := by decide +kernel
theorem dX12_wild_130 : decode cX12_wild 130 = .ok (.aload_n 0, 1) := by decide +kernel
theorem dX12_wild_131 : decode cX12_wild 131 = .ok (.getfield 152, 3) := by decide +kernel
theorem dX12_wild_134 : decode cX12_wild 134 = .ok (.bipush 12, 2) := by decide +kernel
theorem dX12_wild_136 : decode cX12_wild 136 = .ok (.iload_n 3, 1) := by decide +kernel
theorem dX12_wild_137 : decode cX12_wild 137 = .ok (.imul, 1) := by decide +kernel
theorem dX12_wild_138 : decode cX12_wild 138 = .ok (.iload 5, 2) := by decide +kernel
theorem dX12_wild_140 : decode cX12_wild 140 = .ok (.iadd, 1) := by decide +kernel
theorem dX12_wild_141 : decode cX12_wild 141 = .ok (.aload_n 0, 1) := by decide +kernel
theorem dX12_wild_142 : decode cX12_wild 142 = .ok (.getfield 13, 3) := by decide +kernel
theorem dX12_wild_145 : decode cX12_wild 145 = .ok (.iload 5, 2) := by decide +kernel
theorem dX12_wild_147 : decode cX12_wild 147 = .ok (.iaload, 1) := by decide +kernel
theorem dX12_wild_148 : decode cX12_wild 148 = .ok (.bipush 63, 2) := by decide +kernel
theorem dX12_wild_150 : decode cX12_wild 150 = .ok (.if_icmp .ne 8, 3) := by decide +kernel
theorem dX12_wild_153 : decode cX12_wild 153 = .ok (.bipush 37, 2) := by decide +kernel
theorem dX12_wild_155 : decode cX12_wild 155 = .ok (.goto 30, 3) := by decide +kernel
theorem dX12_wild_158 : decode cX12_wild 158 = .ok (.aload_n 0, 1) := by decide +kernel
theorem dX12_wild_159 : decode cX12_wild 159 = .ok (.getfield 13, 3) := by decide +kernel
theorem dX12_wild_162 : decode cX12_wild 162 = .ok (.iload 5, 2) := by decide +kernel
theorem dX12_wild_164 : decode cX12_wild 164 = .ok (.iaload, 1) := by decide +kernel
theorem dX12_wild_165 : decode cX12_wild 165 = .ok (.bipush 42, 2) := by decide +kernel
theorem dX12_wild_167 : decode cX12_wild 167 = .ok (.if_icmp .ne 8, 3) := by decide +kernel
theorem dX12_wild_170 : decode cX12_wild 170 = .ok (.bipush 38, 2) := by decide +kernel
theorem dX12_wild_172 : decode cX12_wild 172 = .ok (.goto 13, 3) := by decide +kernel
theorem dX12_wild_175 : decode cX12_wild 175 = .ok (.aload_n 0, 1) := by decide +kernel
theorem dX12_wild_176 : decode cX12_wild 176 = .ok (.getfield 13, 3) := by decide +kernel
theorem dX12_wild_179 : decode cX12_wild 179 = .ok (.iload 5, 2) := by decide +kernel
theorem dX12_wild_181 : decode cX12_wild 181 = .ok (.iaload, 1) := by decide +kernel
theorem dX12_wild_182 : decode cX12_wild 182 = .ok (.invokestatic 223, 3) := by decide +kernel
theorem dX12_wild_185 : decode cX12_wild 185 = .ok (.iastore, 1) := by decide +kernel
theorem dX12_wild_186 : decode cX12_wild 186 = .ok (.iinc 5 1, 3) := by decide +kernel
theorem dX12_wild_189 : decode cX12_wild 189 = .ok (.goto (-66), 3) := by decide +kernel
theorem dX12_wild_192 : decode cX12_wild 192 = .ok (.aload_n 0, 1) := by decide +kernel
theorem dX12_wild_193 : decode cX12_wild 193 = .ok (.invokevirtual 252, 3) := by decide +kernel
theorem dX12_wild_196 : decode cX12_wild 196 = .ok (.aload_n 0, 1) := by decide +kernel
theorem dX12_wild_197 : decode cX12_wild 197 = .ok (.iconst 4, 1) := by decide +kernel
theorem dX12_wild_198 : decode cX12_wild 198 = .ok (.iload_n 1, 1) := by decide +kernel
theorem dX12_wild_199 : decode cX12_wild 199 = .ok (.iload 4, 2) := by decide +kernel
theorem dX12_wild_201 : decode cX12_wild 201 = .ok (.iconst 0, 1) := by decide +kernel
theorem dX12_wild_202 : decode cX12_wild 202 = .ok (.invokevirtual 454, 3) := by decide +kernel
theorem dX12_wild_205 : decode cX12_wild 205 = .ok (.ireturn, 1) := by decide +kernel
theorem dX12_fuzzy_0 : decode cX12_fuzzy 0 = .ok (.aload_n 0, 1) := by decide +kernel
theorem dX12_fuzzy_1 : decode cX12_fuzzy 1 = .ok (.aload_n 0, 1) := by decide +kernel
theorem dX12_fuzzy_2 : decode cX12_fuzzy 2 = .ok (.iload_n 1, 1) := by decide +kernel
theorem dX12_fuzzy_3 : decode cX12_fuzzy 3 = .ok (.invokevirtual 393, 3) := by decide +kernel
theorem dX12_fuzzy_6 : decode cX12_fuzzy 6 = .ok (.iload_n 2, 1) := by decide +kernel
theorem dX12_fuzzy_7 : decode cX12_fuzzy 7 = .ok (.iconst 0, 1) := by decide +kernel
theorem dX12_fuzzy_8 : decode cX12_fuzzy 8 = .ok (.iconst 2, 1) := by decide +kernel
theorem dX12_fuzzy_9 : decode cX12_fuzzy 9 = .ok (.invokestatic 215, 3) := by decide +kernel
theorem dX12_fuzzy_12 : decode cX12_fuzzy 12 = .ok (.aload_n 0, 1) := by decide +kernel
theorem dX12_fuzzy_13 : decode cX12_fuzzy 13 = .ok (.invokevirtual 458, 3) := by decide +kernel
theorem dX12_fuzzy_16 : decode cX12_fuzzy 16 = .ok (.ifCond .eq 14, 3) := by decide +kernel
theorem dX12_fuzzy_19 : decode cX12_fuzzy 19 = .ok (.aload_n 0, 1) := by decide +kernel
theorem dX12_fuzzy_20 : decode cX12_fuzzy 20 = .ok (.invokevirtual 451, 3) := by decide +kernel
theorem dX12_fuzzy_23 : decode cX12_fuzzy 23 = .ok (.ifCond .eq 7, 3) := by decide +kernel
theorem dX12_fuzzy_26 : decode cX12_fuzzy 26 = .ok (.iconst 1, 1) := by decide +kernel
theorem dX12_fuzzy_27 : decode cX12_fuzzy 27 = .ok (.goto 4, 3) := by decide +kernel
theorem dX12_fuzzy_30 : decode cX12_fuzzy 30 = .ok (.iconst 0, 1) := by decide +kernel
theorem dX12_fuzzy_31 : decode cX12_fuzzy 31 = .ok (.invokevirtual 248, 3) := by decide +kernel
theorem dX12_fuzzy_34 : decode cX12_fuzzy 34 = .ok (.ifCond .eq 14, 3) := by decide +kernel
theorem dX12_fuzzy_37 : decode cX12_fuzzy 37 = .ok (.aload_n 0, 1) := by decide +kernel
theorem dX12_fuzzy_38 : decode cX12_fuzzy 38 = .ok (.iconst 5, 1) := by decide +kernel
theorem dX12_fuzzy_39 : decode cX12_fuzzy 39 = .ok (.iload_n 1, 1) := by decide +kernel
theorem dX12_fuzzy_40 : decode cX12_fuzzy 40 = .ok (.iload_n 2, 1) := by decide +kernel
theorem dX12_fuzzy_41 : decode cX12_fuzzy 41 = .ok (.iconst 0, 1) := by decide +kernel
theorem dX12_fuzzy_42 : decode cX12_fuzzy 42 = .ok (.invokevirtual 454, 3) := by decide +kernel
theorem dX12_fuzzy_45 : decode cX12_fuzzy 45 = .ok (.goto 4, 3) := by decide +kernel
theorem dX12_fuzzy_48 : decode cX12_fuzzy 48 = .ok (.iconst 0, 1) := by decide +kernel
theorem dX12_fuzzy_49 : decode cX12_fuzzy 49 = .ok (.ireturn, 1) := by decide +kernel
theorem dX12_joins_0 : decode cX12_joins 0 = .ok (.invokestatic 445, 3) := by decide +kernel
theorem dX12_joins_3 : decode cX12_joins 3 = .ok (.aload_n 0, 1) := by decide +kernel
theorem dX12_joins_4 : decode cX12_joins 4 = .ok (.getfield 155, 3) := by decide +kernel
theorem dX12_joins_7 : decode cX12_joins 7 = .ok (.bipush 40, 2) := by decide +kernel
theorem dX12_joins_9 : decode cX12_joins 9 = .ok (.iaload, 1) := by decide +kernel
theorem dX12_joins_10 : decode cX12_joins 10 = .ok (.iadd, 1) := by decide +kernel
theorem dX12_joins_11 : decode cX12_joins 11 = .ok (.istore 4, 2) := by decide +kernel
theorem dX12_joins_13 : decode cX12_joins 13 = .ok (.aload_n 0, 1) := by decide +kernel
theorem dX12_joins_14 : decode cX12_joins 14 = .ok (.getfield 131, 3) := by decide +kernel
theorem dX12_joins_17 : decode cX12_joins 17 = .ok (.iload 4, 2) := by decide +kernel
theorem dX12_joins_19 : decode cX12_joins 19 = .ok (.iload_n 1, 1) := by decide +kernel
theorem dX12_joins_20 : decode cX12_joins 20 = .ok (.iastore, 1) := by decide +kernel
theorem dX12_joins_21 : decode cX12_joins 21 = .ok (.aload_n 0, 1) := by decide +kernel
theorem dX12_joins_22 : decode cX12_joins 22 = .ok (.getfield 143, 3) := by decide +kernel
theorem dX12_joins_25 : decode cX12_joins 25 = .ok (.iload 4, 2) := by decide +kernel
theorem dX12_joins_27 : decode cX12_joins 27 = .ok (.iload_n 2, 1) := by decide +kernel
theorem dX12_joins_28 : decode cX12_joins 28 = .ok (.iastore, 1) := by decide +kernel
theorem dX12_joins_29 : decode cX12_joins 29 = .ok (.aload_n 0, 1) := by decide +kernel
theorem dX12_joins_30 : decode cX12_joins 30 = .ok (.getfield 137, 3) := by decide +kernel
theorem dX12_joins_33 : decode cX12_joins 33 = .ok (.iload 4, 2) := by decide +kernel
theorem dX12_joins_35 : decode cX12_joins 35 = .ok (.iload_n 3, 1) := by decide +kernel
theorem dX12_joins_36 : decode cX12_joins 36 = .ok (.iastore, 1) := by decide +kernel
theorem dX12_joins_37 : decode cX12_joins 37 = .ok (.aload_n 0, 1) := by decide +kernel
theorem dX12_joins_38 : decode cX12_joins 38 = .ok (.getfield 155, 3) := by decide +kernel
theorem dX12_joins_41 : decode cX12_joins 41 = .ok (.bipush 40, 2) := by decide +kernel
theorem dX12_joins_43 : decode cX12_joins 43 = .ok (.dup2, 1) := by decide +kernel
theorem dX12_joins_44 : decode cX12_joins 44 = .ok (.iaload, 1) := by decide +kernel
theorem dX12_joins_45 : decode cX12_joins 45 = .ok (.iconst 1, 1) := by decide +kernel
theorem dX12_joins_46 : decode cX12_joins 46 = .ok (.iadd, 1) := by decide +kernel
theorem dX12_joins_47 : decode cX12_joins 47 = .ok (.iastore, 1) := by decide +kernel
theorem dX12_joins_48 : decode cX12_joins 48 = .ok (.aload_n 0, 1) := by decide +kernel
theorem dX12_joins_49 : decode cX12_joins 49 = .ok (.dup, 1) := by decide +kernel
theorem dX12_joins_50 : decode cX12_joins 50 = .ok (.getfield 439, 3) := by decide +kernel
theorem dX12_joins_53 : decode cX12_joins 53 = .ok (.iload_n 2, 1) := by decide +kernel
theorem dX12_joins_54 : decode cX12_joins 54 = .ok (.iconst 1, 1) := by decide +kernel
theorem dX12_joins_55 : decode cX12_joins 55 = .ok (.isub, 1) := by decide +kernel
theorem dX12_joins_56 : decode cX12_joins 56 = .ok (.isub, 1) := by decide +kernel
theorem dX12_joins_57 : decode cX12_joins 57 = .ok (.putfield 439, 3) := by decide +kernel
theorem dX12_joins_60 : decode cX12_joins 60 = .ok (.aload_n 0, 1) := by decide +kernel
theorem dX12_joins_61 : decode cX12_joins 61 = .ok (.getfield 439, 3) := by decide +kernel
theorem dX12_joins_64 : decode cX12_joins 64 = .ok (.ireturn, 1) := by decide +kernel
theorem dX12_least_0 : decode cX12_least 0 = .ok (.aload_n 0, 1) := by decide +kernel
theorem dX12_least_1 : decode cX12_least 1 = .ok (.iload_n 1, 1) := by decide +kernel
theorem dX12_least_2 : decode cX12_least 2 = .ok (.iconst 2, 1) := by decide +kernel
theorem dX12_least_3 : decode cX12_least 3 = .ok (.bipush 8, 2) := by decide +kernel
theorem dX12_least_5 : decode cX12_least 5 = .ok (.invokestatic 215, 3) := by decide +kernel
theorem dX12_least_8 : decode cX12_least 8 = .ok (.ifCond .eq 16, 3) := by decide +kernel
theorem dX12_least_11 : decode cX12_least 11 = .ok (.iload_n 2, 1) := by decide +kernel
theorem dX12_least_12 : decode cX12_least 12 = .ok (.iconst 1, 1) := by decide +kernel
theorem dX12_least_13 : decode cX12_least 13 = .ok (.iload_n 1, 1) := by decide +kernel
theorem dX12_least_14 : decode cX12_least 14 = .ok (.invokestatic 215, 3) := by decide +kernel
theorem dX12_least_17 : decode cX12_least 17 = .ok (.ifCond .eq 7, 3) := by decide +kernel
theorem dX12_least_20 : decode cX12_least 20 = .ok (.iconst 1, 1) := by decide +kernel
theorem dX12_least_21 : decode cX12_least 21 = .ok (.goto 4, 3) := by decide +kernel
theorem dX12_least_24 : decode cX12_least 24 = .ok (.iconst 0, 1) := by decide +kernel
theorem dX12_least_25 : decode cX12_least 25 = .ok (.aload_n 0, 1) := by decide +kernel
theorem dX12_least_26 : decode cX12_least 26 = .ok (.getfield 439, 3) := by decide +kernel
theorem dX12_least_29 : decode cX12_least 29 = .ok (.iload_n 1, 1) := by decide +kernel
theorem dX12_least_30 : decode cX12_least 30 = .ok (.if_icmp .lt 7, 3) := by decide +kernel
theorem dX12_least_33 : decode cX12_least 33 = .ok (.iconst 1, 1) := by decide +kernel
theorem dX12_least_34 : decode cX12_least 34 = .ok (.goto 4, 3) := by decide +kernel
theorem dX12_least_37 : decode cX12_least 37 = .ok (.iconst 0, 1) := by decide +kernel
theorem dX12_least_38 : decode cX12_least 38 = .ok (.iconst 1, 1) := by decide +kernel
theorem dX12_least_39 : decode cX12_least 39 = .ok (.invokevirtual 248, 3) := by decide +kernel
theorem dX12_least_42 : decode cX12_least 42 = .ok (.ifCond .eq 14, 3) := by decide +kernel
theorem dX12_least_45 : decode cX12_least 45 = .ok (.aload_n 0, 1) := by decide +kernel
theorem dX12_least_46 : decode cX12_least 46 = .ok (.bipush 6, 2) := by decide +kernel
theorem dX12_least_48 : decode cX12_least 48 = .ok (.iload_n 1, 1) := by decide +kernel
theorem dX12_least_49 : decode cX12_least 49 = .ok (.iload_n 2, 1) := by decide +kernel
theorem dX12_least_50 : decode cX12_least 50 = .ok (.invokevirtual 461, 3) := by decide +kernel
theorem dX12_least_53 : decode cX12_least 53 = .ok (.goto 4, 3) := by decide +kernel
theorem dX12_least_56 : decode cX12_least 56 = .ok (.iconst 0, 1) := by decide +kernel
theorem dX12_least_57 : decode cX12_least 57 = .ok (.ireturn, 1) := by decide +kernel
theorem dX12_but_0 : decode cX12_but 0 = .ok (.aload_n 0, 1) := by decide +kernel
theorem dX12_but_1 : decode cX12_but 1 = .ok (.aload_n 0, 1) := by decide +kernel
theorem dX12_but_2 : decode cX12_but 2 = .ok (.getfield 439, 3) := by decide +kernel
theorem dX12_but_5 : decode cX12_but 5 = .ok (.iconst 2, 1) := by decide +kernel
theorem dX12_but_6 : decode cX12_but 6 = .ok (.if_icmp .lt 7, 3) := by decide +kernel
theorem dX12_but_9 : decode cX12_but 9 = .ok (.iconst 1, 1) := by decide +kernel
theorem dX12_but_10 : decode cX12_but 10 = .ok (.goto 4, 3) := by decide +kernel
theorem dX12_but_13 : decode cX12_but 13 = .ok (.iconst 0, 1) := by decide +kernel
theorem dX12_but_14 : decode cX12_but 14 = .ok (.iconst 1, 1) := by decide +kernel
theorem dX12_but_15 : decode cX12_but 15 = .ok (.iconst 1, 1) := by decide +kernel
theorem dX12_but_16 : decode cX12_but 16 = .ok (.invokevirtual 248, 3) := by decide +kernel
theorem dX12_but_19 : decode cX12_but 19 = .ok (.ifCond .eq 14, 3) := by decide +kernel
theorem dX12_but_22 : decode cX12_but 22 = .ok (.aload_n 0, 1) := by decide +kernel
theorem dX12_but_23 : decode cX12_but 23 = .ok (.bipush 7, 2) := by decide +kernel
theorem dX12_but_25 : decode cX12_but 25 = .ok (.iconst 2, 1) := by decide +kernel
theorem dX12_but_26 : decode cX12_but 26 = .ok (.iconst 0, 1) := by decide +kernel
theorem dX12_but_27 : decode cX12_but 27 = .ok (.invokevirtual 461, 3) := by decide +kernel
theorem dX12_but_30 : decode cX12_but 30 = .ok (.goto 4, 3) := by decide +kernel
theorem dX12_but_33 : decode cX12_but 33 = .ok (.iconst 0, 1) := by decide +kernel
theorem dX12_but_34 : decode cX12_but 34 = .ok (.ireturn, 1) := by decide +kernel
theorem dX12_scraps_0 : decode cX12_scraps 0 = .ok (.aload_n 0, 1) := by decide +kernel
theorem dX12_scraps_1 : decode cX12_scraps 1 = .ok (.getfield 155, 3) := by decide +kernel
theorem dX12_scraps_4 : decode cX12_scraps 4 = .ok (.bipush 40, 2) := by decide +kernel
theorem dX12_scraps_6 : decode cX12_scraps 6 = .ok (.iconst 0, 1) := by decide +kernel
theorem dX12_scraps_7 : decode cX12_scraps 7 = .ok (.iastore, 1) := by decide +kernel
theorem dX12_scraps_8 : decode cX12_scraps 8 = .ok (.aload_n 0, 1) := by decide +kernel
theorem dX12_scraps_9 : decode cX12_scraps 9 = .ok (.iconst 0, 1) := by decide +kernel
theorem dX12_scraps_10 : decode cX12_scraps 10 = .ok (.putfield 442, 3) := by decide +kernel
theorem dX12_scraps_13 : decode cX12_scraps 13 = .ok (.aload_n 0, 1) := by decide +kernel
theorem dX12_scraps_14 : decode cX12_scraps 14 = .ok (.iconst 0, 1) := by decide +kernel
theorem dX12_scraps_15 : decode cX12_scraps 15 = .ok (.putfield 439, 3) := by decide +kernel
theorem dX12_scraps_18 : decode cX12_scraps 18 = .ok (.return_, 1) := by decide +kernel
theorem dX12_query_0 : decode cX12_query 0 = .ok (.aload_n 0, 1) := by decide +kernel
theorem dX12_query_1 : decode cX12_query 1 = .ok (.aload_n 0, 1) := by decide +kernel
theorem dX12_query_2 : decode cX12_query 2 = .ok (.getfield 439, 3) := by decide +kernel
theorem dX12_query_5 : decode cX12_query 5 = .ok (.iconst 1, 1) := by decide +kernel
theorem dX12_query_6 : decode cX12_query 6 = .ok (.if_icmp .ne 16, 3) := by decide +kernel
theorem dX12_query_9 : decode cX12_query 9 = .ok (.aload_n 0, 1) := by decide +kernel
theorem dX12_query_10 : decode cX12_query 10 = .ok (.getfield 465, 3) := by decide +kernel
theorem dX12_query_13 : decode cX12_query 13 = .ok (.bipush 40, 2) := by decide +kernel
theorem dX12_query_15 : decode cX12_query 15 = .ok (.if_icmp .ge 7, 3) := by decide +kernel
theorem dX12_query_18 : decode cX12_query 18 = .ok (.iconst 1, 1) := by decide +kernel
theorem dX12_query_19 : decode cX12_query 19 = .ok (.goto 4, 3) := by decide +kernel
theorem dX12_query_22 : decode cX12_query 22 = .ok (.iconst 0, 1) := by decide +kernel
theorem dX12_query_23 : decode cX12_query 23 = .ok (.iconst 1, 1) := by decide +kernel
theorem dX12_query_24 : decode cX12_query 24 = .ok (.iconst 1, 1) := by decide +kernel
theorem dX12_query_25 : decode cX12_query 25 = .ok (.invokevirtual 248, 3) := by decide +kernel
theorem dX12_query_28 : decode cX12_query 28 = .ok (.ifCond .ne 5, 3) := by decide +kernel
theorem dX12_query_31 : decode cX12_query 31 = .ok (.iconst 0, 1) := by decide +kernel
theorem dX12_query_32 : decode cX12_query 32 = .ok (.ireturn, 1) := by decide +kernel
theorem dX12_query_33 : decode cX12_query 33 = .ok (.aload_n 0, 1) := by decide +kernel
theorem dX12_query_34 : decode cX12_query 34 = .ok (.getfield 155, 3) := by decide +kernel
theorem dX12_query_37 : decode cX12_query 37 = .ok (.aload_n 0, 1) := by decide +kernel
theorem dX12_query_38 : decode cX12_query 38 = .ok (.getfield 465, 3) := by decide +kernel
theorem dX12_query_41 : decode cX12_query 41 = .ok (.aload_n 0, 1) := by decide +kernel
theorem dX12_query_42 : decode cX12_query 42 = .ok (.getfield 155, 3) := by decide +kernel
theorem dX12_query_45 : decode cX12_query 45 = .ok (.bipush 40, 2) := by decide +kernel
theorem dX12_query_47 : decode cX12_query 47 = .ok (.iaload, 1) := by decide +kernel
theorem dX12_query_48 : decode cX12_query 48 = .ok (.iastore, 1) := by decide +kernel
theorem dX12_query_49 : decode cX12_query 49 = .ok (.iconst 0, 1) := by decide +kernel
theorem dX12_query_50 : decode cX12_query 50 = .ok (.istore_n 1, 1) := by decide +kernel
theorem dX12_query_51 : decode cX12_query 51 = .ok (.iload_n 1, 1) := by decide +kernel
theorem dX12_query_52 : decode cX12_query 52 = .ok (.bipush 48, 2) := by decide +kernel
theorem dX12_query_54 : decode cX12_query 54 = .ok (.if_icmp .ge 189, 3) := by decide +kernel
theorem dX12_query_57 : decode cX12_query 57 = .ok (.bipush 48, 2) := by decide +kernel
theorem dX12_query_59 : decode cX12_query 59 = .ok (.aload_n 0, 1) := by decide +kernel
theorem dX12_query_60 : decode cX12_query 60 = .ok (.getfield 465, 3) := by decide +kernel
theorem dX12_query_63 : decode cX12_query 63 = .ok (.imul, 1) := by decide +kernel
theorem dX12_query_64 : decode cX12_query 64 = .ok (.iload_n 1, 1) := by decide +kernel
theorem dX12_query_65 : decode cX12_query 65 = .ok (.iadd, 1) := by decide +kernel
theorem dX12_query_66 : decode cX12_query 66 = .ok (.istore_n 2, 1) := by decide +kernel
theorem dX12_query_67 : decode cX12_query 67 = .ok (.invokestatic 445, 3) := by decide +kernel
theorem dX12_query_70 : decode cX12_query 70 = .ok (.iload_n 1, 1) := by decide +kernel
theorem dX12_query_71 : decode cX12_query 71 = .ok (.iadd, 1) := by decide +kernel
theorem dX12_query_72 : decode cX12_query 72 = .ok (.istore_n 3, 1) := by decide +kernel
theorem dX12_query_73 : decode cX12_query 73 = .ok (.aload_n 0, 1) := by decide +kernel
theorem dX12_query_74 : decode cX12_query 74 = .ok (.getfield 131, 3) := by decide +kernel
theorem dX12_query_77 : decode cX12_query 77 = .ok (.iload_n 2, 1) := by decide +kernel
theorem dX12_query_78 : decode cX12_query 78 = .ok (.aload_n 0, 1) := by decide +kernel
theorem dX12_query_79 : decode cX12_query 79 = .ok (.getfield 131, 3) := by decide +kernel
theorem dX12_query_82 : decode cX12_query 82 = .ok (.iload_n 3, 1) := by decide +kernel
theorem dX12_query_83 : decode cX12_query 83 = .ok (.iaload, 1) := by decide +kernel
theorem dX12_query_84 : decode cX12_query 84 = .ok (.iastore, 1) := by decide +kernel
theorem dX12_query_85 : decode cX12_query 85 = .ok (.aload_n 0, 1) := by decide +kernel
theorem dX12_query_86 : decode cX12_query 86 = .ok (.getfield 134, 3) := by decide +kernel
theorem dX12_query_89 : decode cX12_query 89 = .ok (.iload_n 2, 1) := by decide +kernel
theorem dX12_query_90 : decode cX12_query 90 = .ok (.aload_n 0, 1) := by decide +kernel
theorem dX12_query_91 : decode cX12_query 91 = .ok (.getfield 134, 3) := by decide +kernel
theorem dX12_query_94 : decode cX12_query 94 = .ok (.iload_n 3, 1) := by decide +kernel
theorem dX12_query_95 : decode cX12_query 95 = .ok (.iaload, 1) := by decide +kernel
theorem dX12_query_96 : decode cX12_query 96 = .ok (.iastore, 1) := by decide +kernel
theorem dX12_query_97 : decode cX12_query 97 = .ok (.aload_n 0, 1) := by decide +kernel
theorem dX12_query_98 : decode cX12_query 98 = .ok (.getfield 137, 3) := by decide +kernel
theorem dX12_query_101 : decode cX12_query 101 = .ok (.iload_n 2, 1) := by decide +kernel
theorem dX12_query_102 : decode cX12_query 102 = .ok (.aload_n 0, 1) := by decide +kernel
theorem dX12_query_103 : decode cX12_query 103 = .ok (.getfield 137, 3) := by decide +kernel
theorem dX12_query_106 : decode cX12_query 106 = .ok (.iload_n 3, 1) := by decide +kernel
theorem dX12_query_107 : decode cX12_query 107 = .ok (.iaload, 1) := by decide +kernel
theorem dX12_query_108 : decode cX12_query 108 = .ok (.iastore, 1) := by decide +kernel
theorem dX12_query_109 : decode cX12_query 109 = .ok (.aload_n 0, 1) := by decide +kernel
theorem dX12_query_110 : decode cX12_query 110 = .ok (.getfield 140, 3) := by decide +kernel
theorem dX12_query_113 : decode cX12_query 113 = .ok (.iload_n 2, 1) := by decide +kernel
theorem dX12_query_114 : decode cX12_query 114 = .ok (.aload_n 0, 1) := by decide +kernel
theorem dX12_query_115 : decode cX12_query 115 = .ok (.getfield 140, 3) := by decide +kernel
theorem dX12_query_118 : decode cX12_query 118 = .ok (.iload_n 3, 1) := by decide +kernel
theorem dX12_query_119 : decode cX12_query 119 = .ok (.baload, 1) := by decide +kernel
theorem dX12_query_120 : decode cX12_query 120 = .ok (.bastore, 1) := by decide +kernel
theorem dX12_query_121 : decode cX12_query 121 = .ok (.aload_n 0, 1) := by decide +kernel
theorem dX12_query_122 : decode cX12_query 122 = .ok (.getfield 143, 3) := by decide +kernel
theorem dX12_query_125 : decode cX12_query 125 = .ok (.iload_n 2, 1) := by decide +kernel
theorem dX12_query_126 : decode cX12_query 126 = .ok (.aload_n 0, 1) := by decide +kernel
theorem dX12_query_127 : decode cX12_query 127 = .ok (.getfield 143, 3) := by decide +kernel
theorem dX12_query_130 : decode cX12_query 130 = .ok (.iload_n 3, 1) := by decide +kernel
theorem dX12_query_131 : decode cX12_query 131 = .ok (.iaload, 1) := by decide +kernel
theorem dX12_query_132 : decode cX12_query 132 = .ok (.iastore, 1) := by decide +kernel
theorem dX12_query_133 : decode cX12_query 133 = .ok (.iconst 0, 1) := by decide +kernel
theorem dX12_query_134 : decode cX12_query 134 = .ok (.istore 4, 2) := by decide +kernel
theorem dX12_query_136 : decode cX12_query 136 = .ok (.iload 4, 2) := by decide +kernel
theorem dX12_query_138 : decode cX12_query 138 = .ok (.bipush 6, 2) := by decide +kernel
theorem dX12_query_140 : decode cX12_query 140 = .ok (.if_icmp .ge 57, 3) := by decide +kernel
theorem dX12_query_143 : decode cX12_query 143 = .ok (.aload_n 0, 1) := by decide +kernel
theorem dX12_query_144 : decode cX12_query 144 = .ok (.getfield 146, 3) := by decide +kernel
theorem dX12_query_147 : decode cX12_query 147 = .ok (.bipush 6, 2) := by decide +kernel
theorem dX12_query_149 : decode cX12_query 149 = .ok (.iload_n 2, 1) := by decide +kernel
theorem dX12_query_150 : decode cX12_query 150 = .ok (.imul, 1) := by decide +kernel
theorem dX12_query_151 : decode cX12_query 151 = .ok (.iload 4, 2) := by decide +kernel
theorem dX12_query_153 : decode cX12_query 153 = .ok (.iadd, 1) := by decide +kernel
theorem dX12_query_154 : decode cX12_query 154 = .ok (.aload_n 0, 1) := by decide +kernel
theorem dX12_query_155 : decode cX12_query 155 = .ok (.getfield 146, 3) := by decide +kernel
theorem dX12_query_158 : decode cX12_query 158 = .ok (.bipush 6, 2) := by decide +kernel
theorem dX12_query_160 : decode cX12_query 160 = .ok (.iload_n 3, 1) := by decide +kernel
theorem dX12_query_161 : decode cX12_query 161 = .ok (.imul, 1) := by decide +kernel
theorem dX12_query_162 : decode cX12_query 162 = .ok (.iload 4, 2) := by decide +kernel
theorem dX12_query_164 : decode cX12_query 164 = .ok (.iadd, 1) := by decide +kernel
theorem dX12_query_165 : decode cX12_query 165 = .ok (.laload, 1) := by decide +kernel
theorem dX12_query_166 : decode cX12_query 166 = .ok (.lastore, 1) := by decide +kernel
theorem dX12_query_167 : decode cX12_query 167 = .ok (.aload_n 0, 1) := by decide +kernel
theorem dX12_query_168 : decode cX12_query 168 = .ok (.getfield 149, 3) := by decide +kernel
theorem dX12_query_171 : decode cX12_query 171 = .ok (.bipush 6, 2) := by decide +kernel
theorem dX12_query_173 : decode cX12_query 173 = .ok (.iload_n 2, 1) := by decide +kernel
theorem dX12_query_174 : decode cX12_query 174 = .ok (.imul, 1) := by decide +kernel
theorem dX12_query_175 : decode cX12_query 175 = .ok (.iload 4, 2) := by decide +kernel
theorem dX12_query_177 : decode cX12_query 177 = .ok (.iadd, 1) := by decide +kernel
theorem dX12_query_178 : decode cX12_query 178 = .ok (.aload_n 0, 1) := by decide +kernel
theorem dX12_query_179 : decode cX12_query 179 = .ok (.getfield 149, 3) := by decide +kernel
theorem dX12_query_182 : decode cX12_query 182 = .ok (.bipush 6, 2) := by decide +kernel
theorem dX12_query_184 : decode cX12_query 184 = .ok (.iload_n 3, 1) := by decide +kernel
theorem dX12_query_185 : decode cX12_query 185 = .ok (.imul, 1) := by decide +kernel
theorem dX12_query_186 : decode cX12_query 186 = .ok (.iload 4, 2) := by decide +kernel
theorem dX12_query_188 : decode cX12_query 188 = .ok (.iadd, 1) := by decide +kernel
theorem dX12_query_189 : decode cX12_query 189 = .ok (.iaload, 1) := by decide +kernel
theorem dX12_query_190 : decode cX12_query 190 = .ok (.iastore, 1) := by decide +kernel
theorem dX12_query_191 : decode cX12_query 191 = .ok (.iinc 4 1, 3) := by decide +kernel
theorem dX12_query_194 : decode cX12_query 194 = .ok (.goto (-58), 3) := by decide +kernel
theorem dX12_query_197 : decode cX12_query 197 = .ok (.iconst 0, 1) := by decide +kernel
theorem dX12_query_198 : decode cX12_query 198 = .ok (.istore 4, 2) := by decide +kernel
theorem dX12_query_200 : decode cX12_query 200 = .ok (.iload 4, 2) := by decide +kernel
theorem dX12_query_202 : decode cX12_query 202 = .ok (.bipush 12, 2) := by decide +kernel
theorem dX12_query_204 : decode cX12_query 204 = .ok (.if_icmp .ge 33, 3) := by decide +kernel
theorem dX12_query_207 : decode cX12_query 207 = .ok (.aload_n 0, 1) := by decide +kernel
theorem dX12_query_208 : decode cX12_query 208 = .ok (.getfield 152, 3) := by decide +kernel
theorem dX12_query_211 : decode cX12_query 211 = .ok (.bipush 12, 2) := by decide +kernel
theorem dX12_query_213 : decode cX12_query 213 = .ok (.iload_n 2, 1) := by decide +kernel
theorem dX12_query_214 : decode cX12_query 214 = .ok (.imul, 1) := by decide +kernel
theorem dX12_query_215 : decode cX12_query 215 = .ok (.iload 4, 2) := by decide +kernel
theorem dX12_query_217 : decode cX12_query 217 = .ok (.iadd, 1) := by decide +kernel
theorem dX12_query_218 : decode cX12_query 218 = .ok (.aload_n 0, 1) := by decide +kernel
theorem dX12_query_219 : decode cX12_query 219 = .ok (.getfield 152, 3) := by decide +kernel
theorem dX12_query_222 : decode cX12_query 222 = .ok (.bipush 12, 2) := by decide +kernel
theorem dX12_query_224 : decode cX12_query 224 = .ok (.iload_n 3, 1) := by decide +kernel
theorem dX12_query_225 : decode cX12_query 225 = .ok (.imul, 1) := by decide +kernel
theorem dX12_query_226 : decode cX12_query 226 = .ok (.iload 4, 2) := by decide +kernel
theorem dX12_query_228 : decode cX12_query 228 = .ok (.iadd, 1) := by decide +kernel
theorem dX12_query_229 : decode cX12_query 229 = .ok (.iaload, 1) := by decide +kernel
theorem dX12_query_230 : decode cX12_query 230 = .ok (.iastore, 1) := by decide +kernel
theorem dX12_query_231 : decode cX12_query 231 = .ok (.iinc 4 1, 3) := by decide +kernel
theorem dX12_query_234 : decode cX12_query 234 = .ok (.goto (-34), 3) := by decide +kernel
theorem dX12_query_237 : decode cX12_query 237 = .ok (.iinc 1 1, 3) := by decide +kernel
theorem dX12_query_240 : decode cX12_query 240 = .ok (.goto (-189), 3) := by decide +kernel
theorem dX12_query_243 : decode cX12_query 243 = .ok (.aload_n 0, 1) := by decide +kernel
theorem dX12_query_244 : decode cX12_query 244 = .ok (.invokevirtual 468, 3) := by decide +kernel
theorem dX12_query_247 : decode cX12_query 247 = .ok (.aload_n 0, 1) := by decide +kernel
theorem dX12_query_248 : decode cX12_query 248 = .ok (.dup, 1) := by decide +kernel
theorem dX12_query_249 : decode cX12_query 249 = .ok (.getfield 465, 3) := by decide +kernel
theorem dX12_query_252 : decode cX12_query 252 = .ok (.iconst 1, 1) := by decide +kernel
theorem dX12_query_253 : decode cX12_query 253 = .ok (.iadd, 1) := by decide +kernel
theorem dX12_query_254 : decode cX12_query 254 = .ok (.putfield 465, 3) := by decide +kernel
theorem dX12_query_257 : decode cX12_query 257 = .ok (.aload_n 0, 1) := by decide +kernel
theorem dX12_query_258 : decode cX12_query 258 = .ok (.getfield 465, 3) := by decide +kernel
theorem dX12_query_261 : decode cX12_query 261 = .ok (.iconst 1, 1) := by decide +kernel
theorem dX12_query_262 : decode cX12_query 262 = .ok (.isub, 1) := by decide +kernel
theorem dX12_query_263 : decode cX12_query 263 = .ok (.ireturn, 1) := by decide +kernel
theorem dX12_scrap_0 : decode cX12_scrap 0 = .ok (.aload_n 0, 1) := by decide +kernel
theorem dX12_scrap_1 : decode cX12_scrap 1 = .ok (.iconst 0, 1) := by decide +kernel
theorem dX12_scrap_2 : decode cX12_scrap 2 = .ok (.putfield 212, 3) := by decide +kernel
theorem dX12_scrap_5 : decode cX12_scrap 5 = .ok (.aload_n 0, 1) := by decide +kernel
theorem dX12_scrap_6 : decode cX12_scrap 6 = .ok (.getfield 439, 3) := by decide +kernel
theorem dX12_scrap_9 : decode cX12_scrap 9 = .ok (.istore_n 1, 1) := by decide +kernel
theorem dX12_scrap_10 : decode cX12_scrap 10 = .ok (.aload_n 0, 1) := by decide +kernel
theorem dX12_scrap_11 : decode cX12_scrap 11 = .ok (.invokevirtual 468, 3) := by decide +kernel
theorem dX12_scrap_14 : decode cX12_scrap 14 = .ok (.iload_n 1, 1) := by decide +kernel
theorem dX12_scrap_15 : decode cX12_scrap 15 = .ok (.ireturn, 1) := by decide +kernel
theorem dX12_weigh_0 : decode cX12_weigh 0 = .ok (.aload_n 0, 1) := by decide +kernel
theorem dX12_weigh_1 : decode cX12_weigh 1 = .ok (.aload_n 0, 1) := by decide +kernel
theorem dX12_weigh_2 : decode cX12_weigh 2 = .ok (.iload_n 1, 1) := by decide +kernel
theorem dX12_weigh_3 : decode cX12_weigh 3 = .ok (.invokevirtual 393, 3) := by decide +kernel
theorem dX12_weigh_6 : decode cX12_weigh 6 = .ok (.iload_n 2, 1) := by decide +kernel
theorem dX12_weigh_7 : decode cX12_weigh 7 = .ok (.iconst 1, 1) := by decide +kernel
theorem dX12_weigh_8 : decode cX12_weigh 8 = .ok (.bipush 9, 2) := by decide +kernel
theorem dX12_weigh_10 : decode cX12_weigh 10 = .ok (.invokestatic 215, 3) := by decide +kernel
theorem dX12_weigh_13 : decode cX12_weigh 13 = .ok (.iconst 1, 1) := by decide +kernel
theorem dX12_weigh_14 : decode cX12_weigh 14 = .ok (.invokevirtual 248, 3) := by decide +kernel
theorem dX12_weigh_17 : decode cX12_weigh 17 = .ok (.ifCond .ne 5, 3) := by decide +kernel
theorem dX12_weigh_20 : decode cX12_weigh 20 = .ok (.iconst 0, 1) := by decide +kernel
theorem dX12_weigh_21 : decode cX12_weigh 21 = .ok (.ireturn, 1) := by decide +kernel
theorem dX12_weigh_22 : decode cX12_weigh 22 = .ok (.aload_n 0, 1) := by decide +kernel
theorem dX12_weigh_23 : decode cX12_weigh 23 = .ok (.getfield 158, 3) := by decide +kernel
theorem dX12_weigh_26 : decode cX12_weigh 26 = .ok (.iload_n 1, 1) := by decide +kernel
theorem dX12_weigh_27 : decode cX12_weigh 27 = .ok (.iaload, 1) := by decide +kernel
theorem dX12_weigh_28 : decode cX12_weigh 28 = .ok (.istore_n 3, 1) := by decide +kernel
theorem dX12_weigh_29 : decode cX12_weigh 29 = .ok (.aload_n 0, 1) := by decide +kernel
theorem dX12_weigh_30 : decode cX12_weigh 30 = .ok (.getfield 158, 3) := by decide +kernel
theorem dX12_weigh_33 : decode cX12_weigh 33 = .ok (.iload_n 1, 1) := by decide +kernel
theorem dX12_weigh_34 : decode cX12_weigh 34 = .ok (.iload_n 2, 1) := by decide +kernel
theorem dX12_weigh_35 : decode cX12_weigh 35 = .ok (.iastore, 1) := by decide +kernel
theorem dX12_weigh_36 : decode cX12_weigh 36 = .ok (.iload_n 3, 1) := by decide +kernel
theorem dX12_weigh_37 : decode cX12_weigh 37 = .ok (.ireturn, 1) := by decide +kernel
theorem dX12_begins_0 : decode cX12_begins 0 = .ok (.iconst 1, 1) := by decide +kernel
theorem dX12_begins_1 : decode cX12_begins 1 = .ok (.istore 5, 2) := by decide +kernel
theorem dX12_begins_3 : decode cX12_begins 3 = .ok (.iconst 0, 1) := by decide +kernel
theorem dX12_begins_4 : decode cX12_begins 4 = .ok (.istore 6, 2) := by decide +kernel
theorem dX12_begins_6 : decode cX12_begins 6 = .ok (.iload 6, 2) := by decide +kernel
theorem dX12_begins_8 : decode cX12_begins 8 = .ok (.aload_n 0, 1) := by decide +kernel
theorem dX12_begins_9 : decode cX12_begins 9 = .ok (.lload_n 3, 1) := by decide +kernel
theorem dX12_begins_10 : decode cX12_begins 10 = .ok (.invokevirtual 227, 3) := by decide +kernel
theorem dX12_begins_13 : decode cX12_begins 13 = .ok (.if_icmp .ge 38, 3) := by decide +kernel
theorem dX12_begins_16 : decode cX12_begins 16 = .ok (.iload 5, 2) := by decide +kernel
theorem dX12_begins_18 : decode cX12_begins 18 = .ok (.ifCond .eq 24, 3) := by decide +kernel
theorem dX12_begins_21 : decode cX12_begins 21 = .ok (.aload_n 0, 1) := by decide +kernel
theorem dX12_begins_22 : decode cX12_begins 22 = .ok (.lload_n 1, 1) := by decide +kernel
theorem dX12_begins_23 : decode cX12_begins 23 = .ok (.iload 6, 2) := by decide +kernel
theorem dX12_begins_25 : decode cX12_begins 25 = .ok (.invokevirtual 219, 3) := by decide +kernel
theorem dX12_begins_28 : decode cX12_begins 28 = .ok (.aload_n 0, 1) := by decide +kernel
theorem dX12_begins_29 : decode cX12_begins 29 = .ok (.lload_n 3, 1) := by decide +kernel
theorem dX12_begins_30 : decode cX12_begins 30 = .ok (.iload 6, 2) := by decide +kernel
theorem dX12_begins_32 : decode cX12_begins 32 = .ok (.invokevirtual 219, 3) := by decide +kernel
theorem dX12_begins_35 : decode cX12_begins 35 = .ok (.if_icmp .ne 7, 3) := by decide +kernel
theorem dX12_begins_38 : decode cX12_begins 38 = .ok (.iconst 1, 1) := by decide +kernel
theorem dX12_begins_39 : decode cX12_begins 39 = .ok (.goto 4, 3) := by decide +kernel
theorem dX12_begins_42 : decode cX12_begins 42 = .ok (.iconst 0, 1) := by decide +kernel
theorem dX12_begins_43 : decode cX12_begins 43 = .ok (.istore 5, 2) := by decide +kernel
theorem dX12_begins_45 : decode cX12_begins 45 = .ok (.iinc 6 1, 3) := by decide +kernel
theorem dX12_begins_48 : decode cX12_begins 48 = .ok (.goto (-42), 3) := by decide +kernel
theorem dX12_begins_51 : decode cX12_begins 51 = .ok (.iload 5, 2) := by decide +kernel
theorem dX12_begins_53 : decode cX12_begins 53 = .ok (.ireturn, 1) := by decide +kernel
theorem dX12_isLike_0 : decode cX12_isLike 0 = .ok (.aload_n 0, 1) := by decide +kernel
theorem dX12_isLike_1 : decode cX12_isLike 1 = .ok (.lload_n 1, 1) := by decide +kernel
theorem dX12_isLike_2 : decode cX12_isLike 2 = .ok (.invokevirtual 227, 3) := by decide +kernel
theorem dX12_isLike_5 : decode cX12_isLike 5 = .ok (.istore 4, 2) := by decide +kernel
theorem dX12_isLike_7 : decode cX12_isLike 7 = .ok (.iconst 0, 1) := by decide +kernel
theorem dX12_isLike_8 : decode cX12_isLike 8 = .ok (.istore 5, 2) := by decide +kernel
theorem dX12_isLike_10 : decode cX12_isLike 10 = .ok (.iload 5, 2) := by decide +kernel
theorem dX12_isLike_12 : decode cX12_isLike 12 = .ok (.iload 4, 2) := by decide +kernel
theorem dX12_isLike_14 : decode cX12_isLike 14 = .ok (.if_icmp .gt 26, 3) := by decide +kernel
theorem dX12_isLike_17 : decode cX12_isLike 17 = .ok (.aload_n 0, 1) := by decide +kernel
theorem dX12_isLike_18 : decode cX12_isLike 18 = .ok (.getfield 167, 3) := by decide +kernel
theorem dX12_isLike_21 : decode cX12_isLike 21 = .ok (.iload 5, 2) := by decide +kernel
theorem dX12_isLike_23 : decode cX12_isLike 23 = .ok (.iload 5, 2) := by decide +kernel
theorem dX12_isLike_25 : decode cX12_isLike 25 = .ok (.ifCond .ne 7, 3) := by decide +kernel
theorem dX12_isLike_28 : decode cX12_isLike 28 = .ok (.iconst 1, 1) := by decide +kernel
theorem dX12_isLike_29 : decode cX12_isLike 29 = .ok (.goto 4, 3) := by decide +kernel
theorem dX12_isLike_32 : decode cX12_isLike 32 = .ok (.iconst 0, 1) := by decide +kernel
theorem dX12_isLike_33 : decode cX12_isLike 33 = .ok (.iastore, 1) := by decide +kernel
theorem dX12_isLike_34 : decode cX12_isLike 34 = .ok (.iinc 5 1, 3) := by decide +kernel
theorem dX12_isLike_37 : decode cX12_isLike 37 = .ok (.goto (-27), 3) := by decide +kernel
theorem dX12_isLike_40 : decode cX12_isLike 40 = .ok (.iconst 0, 1) := by decide +kernel
theorem dX12_isLike_41 : decode cX12_isLike 41 = .ok (.istore 5, 2) := by decide +kernel
theorem dX12_isLike_43 : decode cX12_isLike 43 = .ok (.iload 5, 2) := by decide +kernel
theorem dX12_isLike_45 : decode cX12_isLike 45 = .ok (.aload_n 0, 1) := by decide +kernel
theorem dX12_isLike_46 : decode cX12_isLike 46 = .ok (.getfield 137, 3) := by decide +kernel
theorem dX12_isLike_49 : decode cX12_isLike 49 = .ok (.iload_n 3, 1) := by decide +kernel
theorem dX12_isLike_50 : decode cX12_isLike 50 = .ok (.iaload, 1) := by decide +kernel
theorem dX12_isLike_51 : decode cX12_isLike 51 = .ok (.if_icmp .ge 176, 3) := by decide +kernel
theorem dX12_isLike_54 : decode cX12_isLike 54 = .ok (.aload_n 0, 1) := by decide +kernel
theorem dX12_isLike_55 : decode cX12_isLike 55 = .ok (.getfield 152, 3) := by decide +kernel
theorem dX12_isLike_58 : decode cX12_isLike 58 = .ok (.bipush 12, 2) := by decide +kernel
theorem dX12_isLike_60 : decode cX12_isLike 60 = .ok (.iload_n 3, 1) := by decide +kernel
theorem dX12_isLike_61 : decode cX12_isLike 61 = .ok (.imul, 1) := by decide +kernel
theorem dX12_isLike_62 : decode cX12_isLike 62 = .ok (.iload 5, 2) := by decide +kernel
theorem dX12_isLike_64 : decode cX12_isLike 64 = .ok (.iadd, 1) := by decide +kernel
theorem dX12_isLike_65 : decode cX12_isLike 65 = .ok (.iaload, 1) := by decide +kernel
theorem dX12_isLike_66 : decode cX12_isLike 66 = .ok (.istore 6, 2) := by decide +kernel
theorem dX12_isLike_68 : decode cX12_isLike 68 = .ok (.iconst 0, 1) := by decide +kernel
theorem dX12_isLike_69 : decode cX12_isLike 69 = .ok (.istore 7, 2) := by decide +kernel
theorem dX12_isLike_71 : decode cX12_isLike 71 = .ok (.iload 7, 2) := by decide +kernel
theorem dX12_isLike_73 : decode cX12_isLike 73 = .ok (.iload 4, 2) := by decide +kernel
theorem dX12_isLike_75 : decode cX12_isLike 75 = .ok (.if_icmp .gt 116, 3) := by decide +kernel
theorem dX12_isLike_78 : decode cX12_isLike 78 = .ok (.iload 6, 2) := by decide +kernel
theorem dX12_isLike_80 : decode cX12_isLike 80 = .ok (.bipush 38, 2) := by decide +kernel
theorem dX12_isLike_82 : decode cX12_isLike 82 = .ok (.if_icmp .ne 40, 3) := by decide +kernel
theorem dX12_isLike_85 : decode cX12_isLike 85 = .ok (.aload_n 0, 1) := by decide +kernel
theorem dX12_isLike_86 : decode cX12_isLike 86 = .ok (.getfield 167, 3) := by decide +kernel
theorem dX12_isLike_89 : decode cX12_isLike 89 = .ok (.iload 7, 2) := by decide +kernel
theorem dX12_isLike_91 : decode cX12_isLike 91 = .ok (.iaload, 1) := by decide +kernel
theorem dX12_isLike_92 : decode cX12_isLike 92 = .ok (.iconst 1, 1) := by decide +kernel
theorem dX12_isLike_93 : decode cX12_isLike 93 = .ok (.if_icmp .eq 21, 3) := by decide +kernel
theorem dX12_isLike_96 : decode cX12_isLike 96 = .ok (.iload 7, 2) := by decide +kernel
theorem dX12_isLike_98 : decode cX12_isLike 98 = .ok (.ifCond .le 20, 3) := by decide +kernel
theorem dX12_isLike_101 : decode cX12_isLike 101 = .ok (.aload_n 0, 1) := by decide +kernel
theorem dX12_isLike_102 : decode cX12_isLike 102 = .ok (.getfield 170, 3) := by decide +kernel
theorem dX12_isLike_105 : decode cX12_isLike 105 = .ok (.iload 7, 2) := by decide +kernel
theorem dX12_isLike_107 : decode cX12_isLike 107 = .ok (.iconst 1, 1) := by decide +kernel
theorem dX12_isLike_108 : decode cX12_isLike 108 = .ok (.isub, 1) := by decide +kernel
theorem dX12_isLike_109 : decode cX12_isLike 109 = .ok (.iaload, 1) := by decide +kernel
theorem dX12_isLike_110 : decode cX12_isLike 110 = .ok (.iconst 1, 1) := by decide +kernel
theorem dX12_isLike_111 : decode cX12_isLike 111 = .ok (.if_icmp .ne 7, 3) := by decide +kernel
theorem dX12_isLike_114 : decode cX12_isLike 114 = .ok (.iconst 1, 1) := by decide +kernel
theorem dX12_isLike_115 : decode cX12_isLike 115 = .ok (.goto 51, 3) := by decide +kernel
theorem dX12_isLike_118 : decode cX12_isLike 118 = .ok (.iconst 0, 1) := by decide +kernel
theorem dX12_isLike_119 : decode cX12_isLike 119 = .ok (.goto 47, 3) := by decide +kernel
theorem dX12_isLike_122 : decode cX12_isLike 122 = .ok (.iload 7, 2) := by decide +kernel
theorem dX12_isLike_124 : decode cX12_isLike 124 = .ok (.ifCond .le 41, 3) := by decide +kernel
theorem dX12_isLike_127 : decode cX12_isLike 127 = .ok (.aload_n 0, 1) := by decide +kernel
theorem dX12_isLike_128 : decode cX12_isLike 128 = .ok (.getfield 167, 3) := by decide +kernel
theorem dX12_isLike_131 : decode cX12_isLike 131 = .ok (.iload 7, 2) := by decide +kernel
theorem dX12_isLike_133 : decode cX12_isLike 133 = .ok (.iconst 1, 1) := by decide +kernel
theorem dX12_isLike_134 : decode cX12_isLike 134 = .ok (.isub, 1) := by decide +kernel
theorem dX12_isLike_135 : decode cX12_isLike 135 = .ok (.iaload, 1) := by decide +kernel
theorem dX12_isLike_136 : decode cX12_isLike 136 = .ok (.iconst 1, 1) := by decide +kernel
theorem dX12_isLike_137 : decode cX12_isLike 137 = .ok (.if_icmp .ne 28, 3) := by decide +kernel
theorem dX12_isLike_140 : decode cX12_isLike 140 = .ok (.iload 6, 2) := by decide +kernel
theorem dX12_isLike_142 : decode cX12_isLike 142 = .ok (.bipush 37, 2) := by decide +kernel
theorem dX12_isLike_144 : decode cX12_isLike 144 = .ok (.if_icmp .eq 17, 3) := by decide +kernel
theorem dX12_isLike_147 : decode cX12_isLike 147 = .ok (.aload_n 0, 1) := by decide +kernel
theorem dX12_isLike_148 : decode cX12_isLike 148 = .ok (.lload_n 1, 1) := by decide +kernel
theorem dX12_isLike_149 : decode cX12_isLike 149 = .ok (.iload 7, 2) := by decide +kernel
theorem dX12_isLike_151 : decode cX12_isLike 151 = .ok (.iconst 1, 1) := by decide +kernel
theorem dX12_isLike_152 : decode cX12_isLike 152 = .ok (.isub, 1) := by decide +kernel
theorem dX12_isLike_153 : decode cX12_isLike 153 = .ok (.invokevirtual 219, 3) := by decide +kernel
theorem dX12_isLike_156 : decode cX12_isLike 156 = .ok (.iload 6, 2) := by decide +kernel
theorem dX12_isLike_158 : decode cX12_isLike 158 = .ok (.if_icmp .ne 7, 3) := by decide +kernel
theorem dX12_isLike_161 : decode cX12_isLike 161 = .ok (.iconst 1, 1) := by decide +kernel
theorem dX12_isLike_162 : decode cX12_isLike 162 = .ok (.goto 4, 3) := by decide +kernel
theorem dX12_isLike_165 : decode cX12_isLike 165 = .ok (.iconst 0, 1) := by decide +kernel
theorem dX12_isLike_166 : decode cX12_isLike 166 = .ok (.istore 8, 2) := by decide +kernel
theorem dX12_isLike_168 : decode cX12_isLike 168 = .ok (.aload_n 0, 1) := by decide +kernel
theorem dX12_isLike_169 : decode cX12_isLike 169 = .ok (.getfield 170, 3) := by decide +kernel
theorem dX12_isLike_172 : decode cX12_isLike 172 = .ok (.iload 7, 2) := by decide +kernel
theorem dX12_isLike_174 : decode cX12_isLike 174 = .ok (.iload 8, 2) := by decide +kernel
theorem dX12_isLike_176 : decode cX12_isLike 176 = .ok (.ifCond .eq 7, 3) := by decide +kernel
theorem dX12_isLike_179 : decode cX12_isLike 179 = .ok (.iconst 1, 1) := by decide +kernel
theorem dX12_isLike_180 : decode cX12_isLike 180 = .ok (.goto 4, 3) := by decide +kernel
theorem dX12_isLike_183 : decode cX12_isLike 183 = .ok (.iconst 0, 1) := by decide +kernel
theorem dX12_isLike_184 : decode cX12_isLike 184 = .ok (.iastore, 1) := by decide +kernel
theorem dX12_isLike_185 : decode cX12_isLike 185 = .ok (.iinc 7 1, 3) := by decide +kernel
theorem dX12_isLike_188 : decode cX12_isLike 188 = .ok (.goto (-117), 3) := by decide +kernel
theorem dX12_isLike_191 : decode cX12_isLike 191 = .ok (.iconst 0, 1) := by decide +kernel
theorem dX12_isLike_192 : decode cX12_isLike 192 = .ok (.istore 7, 2) := by decide +kernel
theorem dX12_isLike_194 : decode cX12_isLike 194 = .ok (.iload 7, 2) := by decide +kernel
theorem dX12_isLike_196 : decode cX12_isLike 196 = .ok (.iload 4, 2) := by decide +kernel
theorem dX12_isLike_198 : decode cX12_isLike 198 = .ok (.if_icmp .gt 23, 3) := by decide +kernel
theorem dX12_isLike_201 : decode cX12_isLike 201 = .ok (.aload_n 0, 1) := by decide +kernel
theorem dX12_isLike_202 : decode cX12_isLike 202 = .ok (.getfield 167, 3) := by decide +kernel
theorem dX12_isLike_205 : decode cX12_isLike 205 = .ok (.iload 7, 2) := by decide +kernel
theorem dX12_isLike_207 : decode cX12_isLike 207 = .ok (.aload_n 0, 1) := by decide +kernel
theorem dX12_isLike_208 : decode cX12_isLike 208 = .ok (.getfield 170, 3) := by decide +kernel
theorem dX12_isLike_211 : decode cX12_isLike 211 = .ok (.iload 7, 2) := by decide +kernel
theorem dX12_isLike_213 : decode cX12_isLike 213 = .ok (.iaload, 1) := by decide +kernel
theorem dX12_isLike_214 : decode cX12_isLike 214 = .ok (.iastore, 1) := by decide +kernel
theorem dX12_isLike_215 : decode cX12_isLike 215 = .ok (.iinc 7 1, 3) := by decide +kernel
theorem dX12_isLike_218 : decode cX12_isLike 218 = .ok (.goto (-24), 3) := by decide +kernel
theorem dX12_isLike_221 : decode cX12_isLike 221 = .ok (.iinc 5 1, 3) := by decide +kernel
theorem dX12_isLike_224 : decode cX12_isLike 224 = .ok (.goto (-181), 3) := by decide +kernel
theorem dX12_isLike_227 : decode cX12_isLike 227 = .ok (.aload_n 0, 1) := by decide +kernel
theorem dX12_isLike_228 : decode cX12_isLike 228 = .ok (.getfield 167, 3) := by decide +kernel
theorem dX12_isLike_231 : decode cX12_isLike 231 = .ok (.iload 4, 2) := by decide +kernel
theorem dX12_isLike_233 : decode cX12_isLike 233 = .ok (.iaload, 1) := by decide +kernel
theorem dX12_isLike_234 : decode cX12_isLike 234 = .ok (.iconst 1, 1) := by decide +kernel
theorem dX12_isLike_235 : decode cX12_isLike 235 = .ok (.if_icmp .ne 7, 3) := by decide +kernel
theorem dX12_isLike_238 : decode cX12_isLike 238 = .ok (.iconst 1, 1) := by decide +kernel
theorem dX12_isLike_239 : decode cX12_isLike 239 = .ok (.goto 4, 3) := by decide +kernel
theorem dX12_isLike_242 : decode cX12_isLike 242 = .ok (.iconst 0, 1) := by decide +kernel
theorem dX12_isLike_243 : decode cX12_isLike 243 = .ok (.ireturn, 1) := by decide +kernel
theorem dX12_edits_0 : decode cX12_edits 0 = .ok (.aload_n 0, 1) := by decide +kernel
theorem dX12_edits_1 : decode cX12_edits 1 = .ok (.lload_n 1, 1) := by decide +kernel
theorem dX12_edits_2 : decode cX12_edits 2 = .ok (.invokevirtual 227, 3) := by decide +kernel
theorem dX12_edits_5 : decode cX12_edits 5 = .ok (.istore 5, 2) := by decide +kernel
theorem dX12_edits_7 : decode cX12_edits 7 = .ok (.iconst 0, 1) := by decide +kernel
theorem dX12_edits_8 : decode cX12_edits 8 = .ok (.istore 6, 2) := by decide +kernel
theorem dX12_edits_10 : decode cX12_edits 10 = .ok (.iload 6, 2) := by decide +kernel
theorem dX12_edits_12 : decode cX12_edits 12 = .ok (.iload 5, 2) := by decide +kernel
theorem dX12_edits_14 : decode cX12_edits 14 = .ok (.if_icmp .gt 18, 3) := by decide +kernel
theorem dX12_edits_17 : decode cX12_edits 17 = .ok (.aload_n 0, 1) := by decide +kernel
theorem dX12_edits_18 : decode cX12_edits 18 = .ok (.getfield 167, 3) := by decide +kernel
theorem dX12_edits_21 : decode cX12_edits 21 = .ok (.iload 6, 2) := by decide +kernel
theorem dX12_edits_23 : decode cX12_edits 23 = .ok (.iload 6, 2) := by decide +kernel
theorem dX12_edits_25 : decode cX12_edits 25 = .ok (.iastore, 1) := by decide +kernel
theorem dX12_edits_26 : decode cX12_edits 26 = .ok (.iinc 6 1, 3) := by decide +kernel
theorem dX12_edits_29 : decode cX12_edits 29 = .ok (.goto (-19), 3) := by decide +kernel
theorem dX12_edits_32 : decode cX12_edits 32 = .ok (.iconst 1, 1) := by decide +kernel
theorem dX12_edits_33 : decode cX12_edits 33 = .ok (.istore 6, 2) := by decide +kernel
theorem dX12_edits_35 : decode cX12_edits 35 = .ok (.iload 6, 2) := by decide +kernel
theorem dX12_edits_37 : decode cX12_edits 37 = .ok (.aload_n 0, 1) := by decide +kernel
theorem dX12_edits_38 : decode cX12_edits 38 = .ok (.lload_n 3, 1) := by decide +kernel
theorem dX12_edits_39 : decode cX12_edits 39 = .ok (.invokevirtual 227, 3) := by decide +kernel
theorem dX12_edits_42 : decode cX12_edits 42 = .ok (.if_icmp .gt 168, 3) := by decide +kernel
theorem dX12_edits_45 : decode cX12_edits 45 = .ok (.iconst 0, 1) := by decide +kernel
theorem dX12_edits_46 : decode cX12_edits 46 = .ok (.istore 7, 2) := by decide +kernel
theorem dX12_edits_48 : decode cX12_edits 48 = .ok (.iload 7, 2) := by decide +kernel
theorem dX12_edits_50 : decode cX12_edits 50 = .ok (.iload 5, 2) := by decide +kernel
theorem dX12_edits_52 : decode cX12_edits 52 = .ok (.if_icmp .gt 122, 3) := by decide +kernel
theorem dX12_edits_55 : decode cX12_edits 55 = .ok (.aload_n 0, 1) := by decide +kernel
theorem dX12_edits_56 : decode cX12_edits 56 = .ok (.getfield 167, 3) := by decide +kernel
theorem dX12_edits_59 : decode cX12_edits 59 = .ok (.iload 7, 2) := by decide +kernel
theorem dX12_edits_61 : decode cX12_edits 61 = .ok (.iaload, 1) := by decide +kernel
theorem dX12_edits_62 : decode cX12_edits 62 = .ok (.iconst 1, 1) := by decide +kernel
theorem dX12_edits_63 : decode cX12_edits 63 = .ok (.iadd, 1) := by decide +kernel
theorem dX12_edits_64 : decode cX12_edits 64 = .ok (.istore 8, 2) := by decide +kernel
theorem dX12_edits_66 : decode cX12_edits 66 = .ok (.iload 7, 2) := by decide +kernel
theorem dX12_edits_68 : decode cX12_edits 68 = .ok (.ifCond .le 91, 3) := by decide +kernel
theorem dX12_edits_71 : decode cX12_edits 71 = .ok (.aload_n 0, 1) := by decide +kernel
theorem dX12_edits_72 : decode cX12_edits 72 = .ok (.getfield 170, 3) := by decide +kernel
theorem dX12_edits_75 : decode cX12_edits 75 = .ok (.iload 7, 2) := by decide +kernel
theorem dX12_edits_77 : decode cX12_edits 77 = .ok (.iconst 1, 1) := by decide +kernel
theorem dX12_edits_78 : decode cX12_edits 78 = .ok (.isub, 1) := by decide +kernel
theorem dX12_edits_79 : decode cX12_edits 79 = .ok (.iaload, 1) := by decide +kernel
theorem dX12_edits_80 : decode cX12_edits 80 = .ok (.iconst 1, 1) := by decide +kernel
theorem dX12_edits_81 : decode cX12_edits 81 = .ok (.iadd, 1) := by decide +kernel
theorem dX12_edits_82 : decode cX12_edits 82 = .ok (.iload 8, 2) := by decide +kernel
theorem dX12_edits_84 : decode cX12_edits 84 = .ok (.if_icmp .ge 17, 3) := by decide +kernel
theorem dX12_edits_87 : decode cX12_edits 87 = .ok (.aload_n 0, 1) := by decide +kernel
theorem dX12_edits_88 : decode cX12_edits 88 = .ok (.getfield 170, 3) := by decide +kernel
theorem dX12_edits_91 : decode cX12_edits 91 = .ok (.iload 7, 2) := by decide +kernel
theorem dX12_edits_93 : decode cX12_edits 93 = .ok (.iconst 1, 1) := by decide +kernel
theorem dX12_edits_94 : decode cX12_edits 94 = .ok (.isub, 1) := by decide +kernel
theorem dX12_edits_95 : decode cX12_edits 95 = .ok (.iaload, 1) := by decide +kernel
theorem dX12_edits_96 : decode cX12_edits 96 = .ok (.iconst 1, 1) := by decide +kernel
theorem dX12_edits_97 : decode cX12_edits 97 = .ok (.iadd, 1) := by decide +kernel
theorem dX12_edits_98 : decode cX12_edits 98 = .ok (.goto 5, 3) := by decide +kernel
theorem dX12_edits_101 : decode cX12_edits 101 = .ok (.iload 8, 2) := by decide +kernel
theorem dX12_edits_103 : decode cX12_edits 103 = .ok (.istore 8, 2) := by decide +kernel
theorem dX12_edits_105 : decode cX12_edits 105 = .ok (.aload_n 0, 1) := by decide +kernel
theorem dX12_edits_106 : decode cX12_edits 106 = .ok (.getfield 167, 3) := by decide +kernel
theorem dX12_edits_109 : decode cX12_edits 109 = .ok (.iload 7, 2) := by decide +kernel
theorem dX12_edits_111 : decode cX12_edits 111 = .ok (.iconst 1, 1) := by decide +kernel
theorem dX12_edits_112 : decode cX12_edits 112 = .ok (.isub, 1) := by decide +kernel
theorem dX12_edits_113 : decode cX12_edits 113 = .ok (.iaload, 1) := by decide +kernel
theorem dX12_edits_114 : decode cX12_edits 114 = .ok (.aload_n 0, 1) := by decide +kernel
theorem dX12_edits_115 : decode cX12_edits 115 = .ok (.lload_n 1, 1) := by decide +kernel
theorem dX12_edits_116 : decode cX12_edits 116 = .ok (.iload 7, 2) := by decide +kernel
theorem dX12_edits_118 : decode cX12_edits 118 = .ok (.iconst 1, 1) := by decide +kernel
theorem dX12_edits_119 : decode cX12_edits 119 = .ok (.isub, 1) := by decide +kernel
theorem dX12_edits_120 : decode cX12_edits 120 = .ok (.invokevirtual 219, 3) := by decide +kernel
theorem dX12_edits_123 : decode cX12_edits 123 = .ok (.aload_n 0, 1) := by decide +kernel
theorem dX12_edits_124 : decode cX12_edits 124 = .ok (.lload_n 3, 1) := by decide +kernel
theorem dX12_edits_125 : decode cX12_edits 125 = .ok (.iload 6, 2) := by decide +kernel
theorem dX12_edits_127 : decode cX12_edits 127 = .ok (.iconst 1, 1) := by decide +kernel
theorem dX12_edits_128 : decode cX12_edits 128 = .ok (.isub, 1) := by decide +kernel
theorem dX12_edits_129 : decode cX12_edits 129 = .ok (.invokevirtual 219, 3) := by decide +kernel
theorem dX12_edits_132 : decode cX12_edits 132 = .ok (.if_icmp .ne 7, 3) := by decide +kernel
theorem dX12_edits_135 : decode cX12_edits 135 = .ok (.iconst 0, 1) := by decide +kernel
theorem dX12_edits_136 : decode cX12_edits 136 = .ok (.goto 4, 3) := by decide +kernel
theorem dX12_edits_139 : decode cX12_edits 139 = .ok (.iconst 1, 1) := by decide +kernel
theorem dX12_edits_140 : decode cX12_edits 140 = .ok (.iadd, 1) := by decide +kernel
theorem dX12_edits_141 : decode cX12_edits 141 = .ok (.istore 9, 2) := by decide +kernel
theorem dX12_edits_143 : decode cX12_edits 143 = .ok (.iload 9, 2) := by decide +kernel
theorem dX12_edits_145 : decode cX12_edits 145 = .ok (.iload 8, 2) := by decide +kernel
theorem dX12_edits_147 : decode cX12_edits 147 = .ok (.if_icmp .ge 8, 3) := by decide +kernel
theorem dX12_edits_150 : decode cX12_edits 150 = .ok (.iload 9, 2) := by decide +kernel
theorem dX12_edits_152 : decode cX12_edits 152 = .ok (.goto 5, 3) := by decide +kernel
theorem dX12_edits_155 : decode cX12_edits 155 = .ok (.iload 8, 2) := by decide +kernel
theorem dX12_edits_157 : decode cX12_edits 157 = .ok (.istore 8, 2) := by decide +kernel
theorem dX12_edits_159 : decode cX12_edits 159 = .ok (.aload_n 0, 1) := by decide +kernel
theorem dX12_edits_160 : decode cX12_edits 160 = .ok (.getfield 170, 3) := by decide +kernel
theorem dX12_edits_163 : decode cX12_edits 163 = .ok (.iload 7, 2) := by decide +kernel
theorem dX12_edits_165 : decode cX12_edits 165 = .ok (.iload 8, 2) := by decide +kernel
theorem dX12_edits_167 : decode cX12_edits 167 = .ok (.iastore, 1) := by decide +kernel
theorem dX12_edits_168 : decode cX12_edits 168 = .ok (.iinc 7 1, 3) := by decide +kernel
theorem dX12_edits_171 : decode cX12_edits 171 = .ok (.goto (-123), 3) := by decide +kernel
theorem dX12_edits_174 : decode cX12_edits 174 = .ok (.iconst 0, 1) := by decide +kernel
theorem dX12_edits_175 : decode cX12_edits 175 = .ok (.istore 7, 2) := by decide +kernel
theorem dX12_edits_177 : decode cX12_edits 177 = .ok (.iload 7, 2) := by decide +kernel
theorem dX12_edits_179 : decode cX12_edits 179 = .ok (.iload 5, 2) := by decide +kernel
theorem dX12_edits_181 : decode cX12_edits 181 = .ok (.if_icmp .gt 23, 3) := by decide +kernel
theorem dX12_edits_184 : decode cX12_edits 184 = .ok (.aload_n 0, 1) := by decide +kernel
theorem dX12_edits_185 : decode cX12_edits 185 = .ok (.getfield 167, 3) := by decide +kernel
theorem dX12_edits_188 : decode cX12_edits 188 = .ok (.iload 7, 2) := by decide +kernel
theorem dX12_edits_190 : decode cX12_edits 190 = .ok (.aload_n 0, 1) := by decide +kernel
theorem dX12_edits_191 : decode cX12_edits 191 = .ok (.getfield 170, 3) := by decide +kernel
theorem dX12_edits_194 : decode cX12_edits 194 = .ok (.iload 7, 2) := by decide +kernel
theorem dX12_edits_196 : decode cX12_edits 196 = .ok (.iaload, 1) := by decide +kernel
theorem dX12_edits_197 : decode cX12_edits 197 = .ok (.iastore, 1) := by decide +kernel
theorem dX12_edits_198 : decode cX12_edits 198 = .ok (.iinc 7 1, 3) := by decide +kernel
theorem dX12_edits_201 : decode cX12_edits 201 = .ok (.goto (-24), 3) := by decide +kernel
theorem dX12_edits_204 : decode cX12_edits 204 = .ok (.iinc 6 1, 3) := by decide +kernel
theorem dX12_edits_207 : decode cX12_edits 207 = .ok (.goto (-172), 3) := by decide +kernel
theorem dX12_edits_210 : decode cX12_edits 210 = .ok (.aload_n 0, 1) := by decide +kernel
theorem dX12_edits_211 : decode cX12_edits 211 = .ok (.getfield 167, 3) := by decide +kernel
theorem dX12_edits_214 : decode cX12_edits 214 = .ok (.iload 5, 2) := by decide +kernel
theorem dX12_edits_216 : decode cX12_edits 216 = .ok (.iaload, 1) := by decide +kernel
theorem dX12_edits_217 : decode cX12_edits 217 = .ok (.ireturn, 1) := by decide +kernel
theorem dX12_fitsWord_0 : decode cX12_fitsWord 0 = .ok (.aload_n 0, 1) := by decide +kernel
theorem dX12_fitsWord_1 : decode cX12_fitsWord 1 = .ok (.getfield 146, 3) := by decide +kernel
theorem dX12_fitsWord_4 : decode cX12_fitsWord 4 = .ok (.bipush 6, 2) := by decide +kernel
theorem dX12_fitsWord_6 : decode cX12_fitsWord 6 = .ok (.iload_n 3, 1) := by decide +kernel
theorem dX12_fitsWord_7 : decode cX12_fitsWord 7 = .ok (.imul, 1) := by decide +kernel
theorem dX12_fitsWord_8 : decode cX12_fitsWord 8 = .ok (.laload, 1) := by decide +kernel
theorem dX12_fitsWord_9 : decode cX12_fitsWord 9 = .ok (.lstore 4, 2) := by decide +kernel
theorem dX12_fitsWord_11 : decode cX12_fitsWord 11 = .ok (.aload_n 0, 1) := by decide +kernel
theorem dX12_fitsWord_12 : decode cX12_fitsWord 12 = .ok (.getfield 131, 3) := by decide +kernel
theorem dX12_fitsWord_15 : decode cX12_fitsWord 15 = .ok (.iload_n 3, 1) := by decide +kernel
theorem dX12_fitsWord_16 : decode cX12_fitsWord 16 = .ok (.iaload, 1) := by decide +kernel
theorem dX12_fitsWord_17 : decode cX12_fitsWord 17 = .ok (.iconst 3, 1) := by decide +kernel
theorem dX12_fitsWord_18 : decode cX12_fitsWord 18 = .ok (.if_icmp .ne 13, 3) := by decide +kernel
theorem dX12_fitsWord_21 : decode cX12_fitsWord 21 = .ok (.aload_n 0, 1) := by decide +kernel
theorem dX12_fitsWord_22 : decode cX12_fitsWord 22 = .ok (.lload_n 1, 1) := by decide +kernel
theorem dX12_fitsWord_23 : decode cX12_fitsWord 23 = .ok (.lload 4, 2) := by decide +kernel
theorem dX12_fitsWord_25 : decode cX12_fitsWord 25 = .ok (.invokevirtual 471, 3) := by decide +kernel
theorem dX12_fitsWord_28 : decode cX12_fitsWord 28 = .ok (.goto 43, 3) := by decide +kernel
theorem dX12_fitsWord_31 : decode cX12_fitsWord 31 = .ok (.aload_n 0, 1) := by decide +kernel
theorem dX12_fitsWord_32 : decode cX12_fitsWord 32 = .ok (.getfield 131, 3) := by decide +kernel
theorem dX12_fitsWord_35 : decode cX12_fitsWord 35 = .ok (.iload_n 3, 1) := by decide +kernel
theorem dX12_fitsWord_36 : decode cX12_fitsWord 36 = .ok (.iaload, 1) := by decide +kernel
theorem dX12_fitsWord_37 : decode cX12_fitsWord 37 = .ok (.iconst 4, 1) := by decide +kernel
theorem dX12_fitsWord_38 : decode cX12_fitsWord 38 = .ok (.if_icmp .ne 12, 3) := by decide +kernel
theorem dX12_fitsWord_41 : decode cX12_fitsWord 41 = .ok (.aload_n 0, 1) := by decide +kernel
theorem dX12_fitsWord_42 : decode cX12_fitsWord 42 = .ok (.lload_n 1, 1) := by decide +kernel
theorem dX12_fitsWord_43 : decode cX12_fitsWord 43 = .ok (.iload_n 3, 1) := by decide +kernel
theorem dX12_fitsWord_44 : decode cX12_fitsWord 44 = .ok (.invokevirtual 475, 3) := by decide +kernel
theorem dX12_fitsWord_47 : decode cX12_fitsWord 47 = .ok (.goto 24, 3) := by decide +kernel
theorem dX12_fitsWord_50 : decode cX12_fitsWord 50 = .ok (.aload_n 0, 1) := by decide +kernel
theorem dX12_fitsWord_51 : decode cX12_fitsWord 51 = .ok (.lload_n 1, 1) := by decide +kernel
theorem dX12_fitsWord_52 : decode cX12_fitsWord 52 = .ok (.lload 4, 2) := by decide +kernel
theorem dX12_fitsWord_54 : decode cX12_fitsWord 54 = .ok (.invokevirtual 479, 3) := by decide +kernel
theorem dX12_fitsWord_57 : decode cX12_fitsWord 57 = .ok (.aload_n 0, 1) := by decide +kernel
theorem dX12_fitsWord_58 : decode cX12_fitsWord 58 = .ok (.getfield 137, 3) := by decide +kernel
theorem dX12_fitsWord_61 : decode cX12_fitsWord 61 = .ok (.iload_n 3, 1) := by decide +kernel
theorem dX12_fitsWord_62 : decode cX12_fitsWord 62 = .ok (.iaload, 1) := by decide +kernel
theorem dX12_fitsWord_63 : decode cX12_fitsWord 63 = .ok (.if_icmp .gt 7, 3) := by decide +kernel
theorem dX12_fitsWord_66 : decode cX12_fitsWord 66 = .ok (.iconst 1, 1) := by decide +kernel
theorem dX12_fitsWord_67 : decode cX12_fitsWord 67 = .ok (.goto 4, 3) := by decide +kernel
theorem dX12_fitsWord_70 : decode cX12_fitsWord 70 = .ok (.iconst 0, 1) := by decide +kernel
theorem dX12_fitsWord_71 : decode cX12_fitsWord 71 = .ok (.ireturn, 1) := by decide +kernel
theorem dX12_fitsAt_0 : decode cX12_fitsAt 0 = .ok (.aload_n 0, 1) := by decide +kernel
theorem dX12_fitsAt_1 : decode cX12_fitsAt 1 = .ok (.getfield 60, 3) := by decide +kernel
theorem dX12_fitsAt_4 : decode cX12_fitsAt 4 = .ok (.bipush 40, 2) := by decide +kernel
theorem dX12_fitsAt_6 : decode cX12_fitsAt 6 = .ok (.iload_n 1, 1) := by decide +kernel
theorem dX12_fitsAt_7 : decode cX12_fitsAt 7 = .ok (.imul, 1) := by decide +kernel
theorem dX12_fitsAt_8 : decode cX12_fitsAt 8 = .ok (.bipush 20, 2) := by decide +kernel
theorem dX12_fitsAt_10 : decode cX12_fitsAt 10 = .ok (.iload_n 2, 1) := by decide +kernel
theorem dX12_fitsAt_11 : decode cX12_fitsAt 11 = .ok (.imul, 1) := by decide +kernel
theorem dX12_fitsAt_12 : decode cX12_fitsAt 12 = .ok (.iadd, 1) := by decide +kernel
theorem dX12_fitsAt_13 : decode cX12_fitsAt 13 = .ok (.iload_n 3, 1) := by decide +kernel
theorem dX12_fitsAt_14 : decode cX12_fitsAt 14 = .ok (.iadd, 1) := by decide +kernel
theorem dX12_fitsAt_15 : decode cX12_fitsAt 15 = .ok (.laload, 1) := by decide +kernel
theorem dX12_fitsAt_16 : decode cX12_fitsAt 16 = .ok (.lstore 5, 2) := by decide +kernel
theorem dX12_fitsAt_18 : decode cX12_fitsAt 18 = .ok (.aload_n 0, 1) := by decide +kernel
theorem dX12_fitsAt_19 : decode cX12_fitsAt 19 = .ok (.lload 5, 2) := by decide +kernel
theorem dX12_fitsAt_21 : decode cX12_fitsAt 21 = .ok (.invokevirtual 263, 3) := by decide +kernel
theorem dX12_fitsAt_24 : decode cX12_fitsAt 24 = .ok (.ifCond .eq 5, 3) := by decide +kernel
theorem dX12_fitsAt_27 : decode cX12_fitsAt 27 = .ok (.iconst 0, 1) := by decide +kernel
theorem dX12_fitsAt_28 : decode cX12_fitsAt 28 = .ok (.ireturn, 1) := by decide +kernel
theorem dX12_fitsAt_29 : decode cX12_fitsAt 29 = .ok (.aload_n 0, 1) := by decide +kernel
theorem dX12_fitsAt_30 : decode cX12_fitsAt 30 = .ok (.lload 5, 2) := by decide +kernel
theorem dX12_fitsAt_32 : decode cX12_fitsAt 32 = .ok (.iload 4, 2) := by decide +kernel
theorem dX12_fitsAt_34 : decode cX12_fitsAt 34 = .ok (.invokevirtual 483, 3) := by decide +kernel
theorem dX12_fitsAt_37 : decode cX12_fitsAt 37 = .ok (.istore 7, 2) := by decide +kernel
theorem dX12_fitsAt_39 : decode cX12_fitsAt 39 = .ok (.iconst 0, 1) := by decide +kernel
theorem dX12_fitsAt_40 : decode cX12_fitsAt 40 = .ok (.istore 8, 2) := by decide +kernel
theorem dX12_fitsAt_42 : decode cX12_fitsAt 42 = .ok (.iload 8, 2) := by decide +kernel
theorem dX12_fitsAt_44 : decode cX12_fitsAt 44 = .ok (.aload_n 0, 1) := by decide +kernel
theorem dX12_fitsAt_45 : decode cX12_fitsAt 45 = .ok (.getfield 267, 3) := by decide +kernel
theorem dX12_fitsAt_48 : decode cX12_fitsAt 48 = .ok (.if_icmp .ge 50, 3) := by decide +kernel
theorem dX12_fitsAt_51 : decode cX12_fitsAt 51 = .ok (.iload 7, 2) := by decide +kernel
theorem dX12_fitsAt_53 : decode cX12_fitsAt 53 = .ok (.ifCond .ne 32, 3) := by decide +kernel
theorem dX12_fitsAt_56 : decode cX12_fitsAt 56 = .ok (.aload_n 0, 1) := by decide +kernel
theorem dX12_fitsAt_57 : decode cX12_fitsAt 57 = .ok (.getfield 23, 3) := by decide +kernel
theorem dX12_fitsAt_60 : decode cX12_fitsAt 60 = .ok (.iload 8, 2) := by decide +kernel
theorem dX12_fitsAt_62 : decode cX12_fitsAt 62 = .ok (.laload, 1) := by decide +kernel
theorem dX12_fitsAt_63 : decode cX12_fitsAt 63 = .ok (.lload 5, 2) := by decide +kernel
theorem dX12_fitsAt_65 : decode cX12_fitsAt 65 = .ok (.lcmp, 1) := by decide +kernel
theorem dX12_fitsAt_66 : decode cX12_fitsAt 66 = .ok (.ifCond .ne 23, 3) := by decide +kernel
theorem dX12_fitsAt_69 : decode cX12_fitsAt 69 = .ok (.aload_n 0, 1) := by decide +kernel
theorem dX12_fitsAt_70 : decode cX12_fitsAt 70 = .ok (.aload_n 0, 1) := by decide +kernel
theorem dX12_fitsAt_71 : decode cX12_fitsAt 71 = .ok (.getfield 26, 3) := by decide +kernel
theorem dX12_fitsAt_74 : decode cX12_fitsAt 74 = .ok (.iload 8, 2) := by decide +kernel
theorem dX12_fitsAt_76 : decode cX12_fitsAt 76 = .ok (.laload, 1) := by decide +kernel
theorem dX12_fitsAt_77 : decode cX12_fitsAt 77 = .ok (.iload 4, 2) := by decide +kernel
theorem dX12_fitsAt_79 : decode cX12_fitsAt 79 = .ok (.invokevirtual 483, 3) := by decide +kernel
theorem dX12_fitsAt_82 : decode cX12_fitsAt 82 = .ok (.ifCond .eq 7, 3) := by decide +kernel
theorem dX12_fitsAt_85 : decode cX12_fitsAt 85 = .ok (.iconst 1, 1) := by decide +kernel
theorem dX12_fitsAt_86 : decode cX12_fitsAt 86 = .ok (.goto 4, 3) := by decide +kernel
theorem dX12_fitsAt_89 : decode cX12_fitsAt 89 = .ok (.iconst 0, 1) := by decide +kernel
theorem dX12_fitsAt_90 : decode cX12_fitsAt 90 = .ok (.istore 7, 2) := by decide +kernel
theorem dX12_fitsAt_92 : decode cX12_fitsAt 92 = .ok (.iinc 8 1, 3) := by decide +kernel
theorem dX12_fitsAt_95 : decode cX12_fitsAt 95 = .ok (.goto (-53), 3) := by decide +kernel
theorem dX12_fitsAt_98 : decode cX12_fitsAt 98 = .ok (.iload 7, 2) := by decide +kernel
theorem dX12_fitsAt_100 : decode cX12_fitsAt 100 = .ok (.ireturn, 1) := by decide +kernel
theorem dX12_isPhraseAt_0 : decode cX12_isPhraseAt 0 = .ok (.aload_n 0, 1) := by decide +kernel
theorem dX12_isPhraseAt_1 : decode cX12_isPhraseAt 1 = .ok (.getfield 134, 3) := by decide +kernel
theorem dX12_isPhraseAt_4 : decode cX12_isPhraseAt 4 = .ok (.iload_n 2, 1) := by decide +kernel
theorem dX12_isPhraseAt_5 : decode cX12_isPhraseAt 5 = .ok (.iaload, 1) := by decide +kernel
theorem dX12_isPhraseAt_6 : decode cX12_isPhraseAt 6 = .ok (.istore 4, 2) := by decide +kernel
theorem dX12_isPhraseAt_8 : decode cX12_isPhraseAt 8 = .ok (.iload_n 3, 1) := by decide +kernel
theorem dX12_isPhraseAt_9 : decode cX12_isPhraseAt 9 = .ok (.istore 5, 2) := by decide +kernel
theorem dX12_isPhraseAt_11 : decode cX12_isPhraseAt 11 = .ok (.iconst 1, 1) := by decide +kernel
theorem dX12_isPhraseAt_12 : decode cX12_isPhraseAt 12 = .ok (.istore 6, 2) := by decide +kernel
theorem dX12_isPhraseAt_14 : decode cX12_isPhraseAt 14 = .ok (.iload 6, 2) := by decide +kernel
theorem dX12_isPhraseAt_16 : decode cX12_isPhraseAt 16 = .ok (.aload_n 0, 1) := by decide +kernel
theorem dX12_isPhraseAt_17 : decode cX12_isPhraseAt 17 = .ok (.getfield 143, 3) := by decide +kernel
theorem dX12_isPhraseAt_20 : decode cX12_isPhraseAt 20 = .ok (.iload_n 2, 1) := by decide +kernel
theorem dX12_isPhraseAt_21 : decode cX12_isPhraseAt 21 = .ok (.iaload, 1) := by decide +kernel
theorem dX12_isPhraseAt_22 : decode cX12_isPhraseAt 22 = .ok (.if_icmp .ge 109, 3) := by decide +kernel
theorem dX12_isPhraseAt_25 : decode cX12_isPhraseAt 25 = .ok (.iload 5, 2) := by decide +kernel
theorem dX12_isPhraseAt_27 : decode cX12_isPhraseAt 27 = .ok (.aload_n 0, 1) := by decide +kernel
theorem dX12_isPhraseAt_28 : decode cX12_isPhraseAt 28 = .ok (.getfield 149, 3) := by decide +kernel
theorem dX12_isPhraseAt_31 : decode cX12_isPhraseAt 31 = .ok (.bipush 6, 2) := by decide +kernel
theorem dX12_isPhraseAt_33 : decode cX12_isPhraseAt 33 = .ok (.iload_n 2, 1) := by decide +kernel
theorem dX12_isPhraseAt_34 : decode cX12_isPhraseAt 34 = .ok (.imul, 1) := by decide +kernel
theorem dX12_isPhraseAt_35 : decode cX12_isPhraseAt 35 = .ok (.iload 6, 2) := by decide +kernel
theorem dX12_isPhraseAt_37 : decode cX12_isPhraseAt 37 = .ok (.iadd, 1) := by decide +kernel
theorem dX12_isPhraseAt_38 : decode cX12_isPhraseAt 38 = .ok (.iaload, 1) := by decide +kernel
theorem dX12_isPhraseAt_39 : decode cX12_isPhraseAt 39 = .ok (.iadd, 1) := by decide +kernel
theorem dX12_isPhraseAt_40 : decode cX12_isPhraseAt 40 = .ok (.aload_n 0, 1) := by decide +kernel
theorem dX12_isPhraseAt_41 : decode cX12_isPhraseAt 41 = .ok (.getfield 149, 3) := by decide +kernel
theorem dX12_isPhraseAt_44 : decode cX12_isPhraseAt 44 = .ok (.bipush 6, 2) := by decide +kernel
theorem dX12_isPhraseAt_46 : decode cX12_isPhraseAt 46 = .ok (.iload_n 2, 1) := by decide +kernel
theorem dX12_isPhraseAt_47 : decode cX12_isPhraseAt 47 = .ok (.imul, 1) := by decide +kernel
theorem dX12_isPhraseAt_48 : decode cX12_isPhraseAt 48 = .ok (.iload 6, 2) := by decide +kernel
theorem dX12_isPhraseAt_50 : decode cX12_isPhraseAt 50 = .ok (.iadd, 1) := by decide +kernel
theorem dX12_isPhraseAt_51 : decode cX12_isPhraseAt 51 = .ok (.iconst 1, 1) := by decide +kernel
theorem dX12_isPhraseAt_52 : decode cX12_isPhraseAt 52 = .ok (.isub, 1) := by decide +kernel
theorem dX12_isPhraseAt_53 : decode cX12_isPhraseAt 53 = .ok (.iaload, 1) := by decide +kernel
theorem dX12_isPhraseAt_54 : decode cX12_isPhraseAt 54 = .ok (.isub, 1) := by decide +kernel
theorem dX12_isPhraseAt_55 : decode cX12_isPhraseAt 55 = .ok (.istore 7, 2) := by decide +kernel
theorem dX12_isPhraseAt_57 : decode cX12_isPhraseAt 57 = .ok (.iload 7, 2) := by decide +kernel
theorem dX12_isPhraseAt_59 : decode cX12_isPhraseAt 59 = .ok (.aload_n 0, 1) := by decide +kernel
theorem dX12_isPhraseAt_60 : decode cX12_isPhraseAt 60 = .ok (.getfield 63, 3) := by decide +kernel
theorem dX12_isPhraseAt_63 : decode cX12_isPhraseAt 63 = .ok (.iconst 2, 1) := by decide +kernel
theorem dX12_isPhraseAt_64 : decode cX12_isPhraseAt 64 = .ok (.iload_n 1, 1) := by decide +kernel
theorem dX12_isPhraseAt_65 : decode cX12_isPhraseAt 65 = .ok (.imul, 1) := by decide +kernel
theorem dX12_isPhraseAt_66 : decode cX12_isPhraseAt 66 = .ok (.iload 4, 2) := by decide +kernel
theorem dX12_isPhraseAt_68 : decode cX12_isPhraseAt 68 = .ok (.iadd, 1) := by decide +kernel
theorem dX12_isPhraseAt_69 : decode cX12_isPhraseAt 69 = .ok (.iaload, 1) := by decide +kernel
theorem dX12_isPhraseAt_70 : decode cX12_isPhraseAt 70 = .ok (.if_icmp .ge 33, 3) := by decide +kernel
theorem dX12_isPhraseAt_73 : decode cX12_isPhraseAt 73 = .ok (.aload_n 0, 1) := by decide +kernel
theorem dX12_isPhraseAt_74 : decode cX12_isPhraseAt 74 = .ok (.iload_n 1, 1) := by decide +kernel
theorem dX12_isPhraseAt_75 : decode cX12_isPhraseAt 75 = .ok (.iload 4, 2) := by decide +kernel
theorem dX12_isPhraseAt_77 : decode cX12_isPhraseAt 77 = .ok (.iload 7, 2) := by decide +kernel
theorem dX12_isPhraseAt_79 : decode cX12_isPhraseAt 79 = .ok (.aload_n 0, 1) := by decide +kernel
theorem dX12_isPhraseAt_80 : decode cX12_isPhraseAt 80 = .ok (.getfield 146, 3) := by decide +kernel
theorem dX12_isPhraseAt_83 : decode cX12_isPhraseAt 83 = .ok (.bipush 6, 2) := by decide +kernel
theorem dX12_isPhraseAt_85 : decode cX12_isPhraseAt 85 = .ok (.iload_n 2, 1) := by decide +kernel
theorem dX12_isPhraseAt_86 : decode cX12_isPhraseAt 86 = .ok (.imul, 1) := by decide +kernel
theorem dX12_isPhraseAt_87 : decode cX12_isPhraseAt 87 = .ok (.iload 6, 2) := by decide +kernel
theorem dX12_isPhraseAt_89 : decode cX12_isPhraseAt 89 = .ok (.iadd, 1) := by decide +kernel
theorem dX12_isPhraseAt_90 : decode cX12_isPhraseAt 90 = .ok (.laload, 1) := by decide +kernel
theorem dX12_isPhraseAt_91 : decode cX12_isPhraseAt 91 = .ok (.invokevirtual 412, 3) := by decide +kernel
theorem dX12_isPhraseAt_94 : decode cX12_isPhraseAt 94 = .ok (.ifCond .ne 9, 3) := by decide +kernel
theorem dX12_isPhraseAt_97 : decode cX12_isPhraseAt 97 = .ok (.iinc 7 1, 3) := by decide +kernel
theorem dX12_isPhraseAt_100 : decode cX12_isPhraseAt 100 = .ok (.goto (-43), 3) := by decide +kernel
theorem dX12_isPhraseAt_103 : decode cX12_isPhraseAt 103 = .ok (.iload 7, 2) := by decide +kernel
theorem dX12_isPhraseAt_105 : decode cX12_isPhraseAt 105 = .ok (.aload_n 0, 1) := by decide +kernel
theorem dX12_isPhraseAt_106 : decode cX12_isPhraseAt 106 = .ok (.getfield 63, 3) := by decide +kernel
theorem dX12_isPhraseAt_109 : decode cX12_isPhraseAt 109 = .ok (.iconst 2, 1) := by decide +kernel
theorem dX12_isPhraseAt_110 : decode cX12_isPhraseAt 110 = .ok (.iload_n 1, 1) := by decide +kernel
theorem dX12_isPhraseAt_111 : decode cX12_isPhraseAt 111 = .ok (.imul, 1) := by decide +kernel
theorem dX12_isPhraseAt_112 : decode cX12_isPhraseAt 112 = .ok (.iload 4, 2) := by decide +kernel
theorem dX12_isPhraseAt_114 : decode cX12_isPhraseAt 114 = .ok (.iadd, 1) := by decide +kernel
theorem dX12_isPhraseAt_115 : decode cX12_isPhraseAt 115 = .ok (.iaload, 1) := by decide +kernel
theorem dX12_isPhraseAt_116 : decode cX12_isPhraseAt 116 = .ok (.if_icmp .lt 5, 3) := by decide +kernel
theorem dX12_isPhraseAt_119 : decode cX12_isPhraseAt 119 = .ok (.iconst 0, 1) := by decide +kernel
theorem dX12_isPhraseAt_120 : decode cX12_isPhraseAt 120 = .ok (.ireturn, 1) := by decide +kernel
theorem dX12_isPhraseAt_121 : decode cX12_isPhraseAt 121 = .ok (.iload 7, 2) := by decide +kernel
theorem dX12_isPhraseAt_123 : decode cX12_isPhraseAt 123 = .ok (.istore 5, 2) := by decide +kernel
theorem dX12_isPhraseAt_125 : decode cX12_isPhraseAt 125 = .ok (.iinc 6 1, 3) := by decide +kernel
theorem dX12_isPhraseAt_128 : decode cX12_isPhraseAt 128 = .ok (.goto (-114), 3) := by decide +kernel
theorem dX12_isPhraseAt_131 : decode cX12_isPhraseAt 131 = .ok (.aload_n 0, 1) := by decide +kernel
theorem dX12_isPhraseAt_132 : decode cX12_isPhraseAt 132 = .ok (.getfield 149, 3) := by decide +kernel
theorem dX12_isPhraseAt_135 : decode cX12_isPhraseAt 135 = .ok (.bipush 6, 2) := by decide +kernel
theorem dX12_isPhraseAt_137 : decode cX12_isPhraseAt 137 = .ok (.iload_n 2, 1) := by decide +kernel
theorem dX12_isPhraseAt_138 : decode cX12_isPhraseAt 138 = .ok (.imul, 1) := by decide +kernel
theorem dX12_isPhraseAt_139 : decode cX12_isPhraseAt 139 = .ok (.aload_n 0, 1) := by decide +kernel
theorem dX12_isPhraseAt_140 : decode cX12_isPhraseAt 140 = .ok (.getfield 143, 3) := by decide +kernel
theorem dX12_isPhraseAt_143 : decode cX12_isPhraseAt 143 = .ok (.iload_n 2, 1) := by decide +kernel
theorem dX12_isPhraseAt_144 : decode cX12_isPhraseAt 144 = .ok (.iaload, 1) := by decide +kernel
theorem dX12_isPhraseAt_145 : decode cX12_isPhraseAt 145 = .ok (.iadd, 1) := by decide +kernel
theorem dX12_isPhraseAt_146 : decode cX12_isPhraseAt 146 = .ok (.iconst 1, 1) := by decide +kernel
theorem dX12_isPhraseAt_147 : decode cX12_isPhraseAt 147 = .ok (.isub, 1) := by decide +kernel
theorem dX12_isPhraseAt_148 : decode cX12_isPhraseAt 148 = .ok (.iaload, 1) := by decide +kernel
theorem dX12_isPhraseAt_149 : decode cX12_isPhraseAt 149 = .ok (.aload_n 0, 1) := by decide +kernel
theorem dX12_isPhraseAt_150 : decode cX12_isPhraseAt 150 = .ok (.getfield 149, 3) := by decide +kernel
theorem dX12_isPhraseAt_153 : decode cX12_isPhraseAt 153 = .ok (.bipush 6, 2) := by decide +kernel
theorem dX12_isPhraseAt_155 : decode cX12_isPhraseAt 155 = .ok (.iload_n 2, 1) := by decide +kernel
theorem dX12_isPhraseAt_156 : decode cX12_isPhraseAt 156 = .ok (.imul, 1) := by decide +kernel
theorem dX12_isPhraseAt_157 : decode cX12_isPhraseAt 157 = .ok (.iaload, 1) := by decide +kernel
theorem dX12_isPhraseAt_158 : decode cX12_isPhraseAt 158 = .ok (.isub, 1) := by decide +kernel
theorem dX12_isPhraseAt_159 : decode cX12_isPhraseAt 159 = .ok (.aload_n 0, 1) := by decide +kernel
theorem dX12_isPhraseAt_160 : decode cX12_isPhraseAt 160 = .ok (.getfield 137, 3) := by decide +kernel
theorem dX12_isPhraseAt_163 : decode cX12_isPhraseAt 163 = .ok (.iload_n 2, 1) := by decide +kernel
theorem dX12_isPhraseAt_164 : decode cX12_isPhraseAt 164 = .ok (.iaload, 1) := by decide +kernel
theorem dX12_isPhraseAt_165 : decode cX12_isPhraseAt 165 = .ok (.iadd, 1) := by decide +kernel
theorem dX12_isPhraseAt_166 : decode cX12_isPhraseAt 166 = .ok (.istore 6, 2) := by decide +kernel
theorem dX12_isPhraseAt_168 : decode cX12_isPhraseAt 168 = .ok (.iload 5, 2) := by decide +kernel
theorem dX12_isPhraseAt_170 : decode cX12_isPhraseAt 170 = .ok (.iload_n 3, 1) := by decide +kernel
theorem dX12_isPhraseAt_171 : decode cX12_isPhraseAt 171 = .ok (.isub, 1) := by decide +kernel
theorem dX12_isPhraseAt_172 : decode cX12_isPhraseAt 172 = .ok (.iload 6, 2) := by decide +kernel
theorem dX12_isPhraseAt_174 : decode cX12_isPhraseAt 174 = .ok (.if_icmp .gt 7, 3) := by decide +kernel
theorem dX12_isPhraseAt_177 : decode cX12_isPhraseAt 177 = .ok (.iconst 1, 1) := by decide +kernel
theorem dX12_isPhraseAt_178 : decode cX12_isPhraseAt 178 = .ok (.goto 4, 3) := by decide +kernel
theorem dX12_isPhraseAt_181 : decode cX12_isPhraseAt 181 = .ok (.iconst 0, 1) := by decide +kernel
theorem dX12_isPhraseAt_182 : decode cX12_isPhraseAt 182 = .ok (.ireturn, 1) := by decide +kernel
theorem dX12_isNearAt_0 : decode cX12_isNearAt 0 = .ok (.aload_n 0, 1) := by decide +kernel
theorem dX12_isNearAt_1 : decode cX12_isNearAt 1 = .ok (.getfield 134, 3) := by decide +kernel
theorem dX12_isNearAt_4 : decode cX12_isNearAt 4 = .ok (.iload_n 2, 1) := by decide +kernel
theorem dX12_isNearAt_5 : decode cX12_isNearAt 5 = .ok (.iaload, 1) := by decide +kernel
theorem dX12_isNearAt_6 : decode cX12_isNearAt 6 = .ok (.istore 4, 2) := by decide +kernel
theorem dX12_isNearAt_8 : decode cX12_isNearAt 8 = .ok (.iconst 0, 1) := by decide +kernel
theorem dX12_isNearAt_9 : decode cX12_isNearAt 9 = .ok (.istore 5, 2) := by decide +kernel
theorem dX12_isNearAt_11 : decode cX12_isNearAt 11 = .ok (.aload_n 0, 1) := by decide +kernel
theorem dX12_isNearAt_12 : decode cX12_isNearAt 12 = .ok (.getfield 140, 3) := by decide +kernel
theorem dX12_isNearAt_15 : decode cX12_isNearAt 15 = .ok (.iload_n 2, 1) := by decide +kernel
theorem dX12_isNearAt_16 : decode cX12_isNearAt 16 = .ok (.baload, 1) := by decide +kernel
theorem dX12_isNearAt_17 : decode cX12_isNearAt 17 = .ok (.ifCond .eq 9, 3) := by decide +kernel
theorem dX12_isNearAt_20 : decode cX12_isNearAt 20 = .ok (.iload_n 3, 1) := by decide +kernel
theorem dX12_isNearAt_21 : decode cX12_isNearAt 21 = .ok (.iconst 1, 1) := by decide +kernel
theorem dX12_isNearAt_22 : decode cX12_isNearAt 22 = .ok (.iadd, 1) := by decide +kernel
theorem dX12_isNearAt_23 : decode cX12_isNearAt 23 = .ok (.goto 4, 3) := by decide +kernel
theorem dX12_isNearAt_26 : decode cX12_isNearAt 26 = .ok (.iconst 0, 1) := by decide +kernel
theorem dX12_isNearAt_27 : decode cX12_isNearAt 27 = .ok (.istore 6, 2) := by decide +kernel
theorem dX12_isNearAt_29 : decode cX12_isNearAt 29 = .ok (.iload 6, 2) := by decide +kernel
theorem dX12_isNearAt_31 : decode cX12_isNearAt 31 = .ok (.aload_n 0, 1) := by decide +kernel
theorem dX12_isNearAt_32 : decode cX12_isNearAt 32 = .ok (.getfield 63, 3) := by decide +kernel
theorem dX12_isNearAt_35 : decode cX12_isNearAt 35 = .ok (.iconst 2, 1) := by decide +kernel
theorem dX12_isNearAt_36 : decode cX12_isNearAt 36 = .ok (.iload_n 1, 1) := by decide +kernel
theorem dX12_isNearAt_37 : decode cX12_isNearAt 37 = .ok (.imul, 1) := by decide +kernel
theorem dX12_isNearAt_38 : decode cX12_isNearAt 38 = .ok (.iload 4, 2) := by decide +kernel
theorem dX12_isNearAt_40 : decode cX12_isNearAt 40 = .ok (.iadd, 1) := by decide +kernel
theorem dX12_isNearAt_41 : decode cX12_isNearAt 41 = .ok (.iaload, 1) := by decide +kernel
theorem dX12_isNearAt_42 : decode cX12_isNearAt 42 = .ok (.if_icmp .ge 80, 3) := by decide +kernel
theorem dX12_isNearAt_45 : decode cX12_isNearAt 45 = .ok (.iload 6, 2) := by decide +kernel
theorem dX12_isNearAt_47 : decode cX12_isNearAt 47 = .ok (.iload_n 3, 1) := by decide +kernel
theorem dX12_isNearAt_48 : decode cX12_isNearAt 48 = .ok (.if_icmp .le 10, 3) := by decide +kernel
theorem dX12_isNearAt_51 : decode cX12_isNearAt 51 = .ok (.iload 6, 2) := by decide +kernel
theorem dX12_isNearAt_53 : decode cX12_isNearAt 53 = .ok (.iload_n 3, 1) := by decide +kernel
theorem dX12_isNearAt_54 : decode cX12_isNearAt 54 = .ok (.isub, 1) := by decide +kernel
theorem dX12_isNearAt_55 : decode cX12_isNearAt 55 = .ok (.goto 7, 3) := by decide +kernel
theorem dX12_isNearAt_58 : decode cX12_isNearAt 58 = .ok (.iload_n 3, 1) := by decide +kernel
theorem dX12_isNearAt_59 : decode cX12_isNearAt 59 = .ok (.iload 6, 2) := by decide +kernel
theorem dX12_isNearAt_61 : decode cX12_isNearAt 61 = .ok (.isub, 1) := by decide +kernel
theorem dX12_isNearAt_62 : decode cX12_isNearAt 62 = .ok (.istore 7, 2) := by decide +kernel
theorem dX12_isNearAt_64 : decode cX12_isNearAt 64 = .ok (.iload 5, 2) := by decide +kernel
theorem dX12_isNearAt_66 : decode cX12_isNearAt 66 = .ok (.ifCond .ne 43, 3) := by decide +kernel
theorem dX12_isNearAt_69 : decode cX12_isNearAt 69 = .ok (.iload 7, 2) := by decide +kernel
theorem dX12_isNearAt_71 : decode cX12_isNearAt 71 = .ok (.iconst 1, 1) := by decide +kernel
theorem dX12_isNearAt_72 : decode cX12_isNearAt 72 = .ok (.if_icmp .lt 41, 3) := by decide +kernel
theorem dX12_isNearAt_75 : decode cX12_isNearAt 75 = .ok (.iload 7, 2) := by decide +kernel
theorem dX12_isNearAt_77 : decode cX12_isNearAt 77 = .ok (.aload_n 0, 1) := by decide +kernel
theorem dX12_isNearAt_78 : decode cX12_isNearAt 78 = .ok (.getfield 137, 3) := by decide +kernel
theorem dX12_isNearAt_81 : decode cX12_isNearAt 81 = .ok (.iload_n 2, 1) := by decide +kernel
theorem dX12_isNearAt_82 : decode cX12_isNearAt 82 = .ok (.iaload, 1) := by decide +kernel
theorem dX12_isNearAt_83 : decode cX12_isNearAt 83 = .ok (.if_icmp .gt 30, 3) := by decide +kernel
theorem dX12_isNearAt_86 : decode cX12_isNearAt 86 = .ok (.aload_n 0, 1) := by decide +kernel
theorem dX12_isNearAt_87 : decode cX12_isNearAt 87 = .ok (.iload_n 1, 1) := by decide +kernel
theorem dX12_isNearAt_88 : decode cX12_isNearAt 88 = .ok (.iload 4, 2) := by decide +kernel
theorem dX12_isNearAt_90 : decode cX12_isNearAt 90 = .ok (.iload 6, 2) := by decide +kernel
theorem dX12_isNearAt_92 : decode cX12_isNearAt 92 = .ok (.aload_n 0, 1) := by decide +kernel
theorem dX12_isNearAt_93 : decode cX12_isNearAt 93 = .ok (.getfield 146, 3) := by decide +kernel
theorem dX12_isNearAt_96 : decode cX12_isNearAt 96 = .ok (.bipush 6, 2) := by decide +kernel
theorem dX12_isNearAt_98 : decode cX12_isNearAt 98 = .ok (.iload_n 2, 1) := by decide +kernel
theorem dX12_isNearAt_99 : decode cX12_isNearAt 99 = .ok (.imul, 1) := by decide +kernel
theorem dX12_isNearAt_100 : decode cX12_isNearAt 100 = .ok (.iconst 1, 1) := by decide +kernel
theorem dX12_isNearAt_101 : decode cX12_isNearAt 101 = .ok (.iadd, 1) := by decide +kernel
theorem dX12_isNearAt_102 : decode cX12_isNearAt 102 = .ok (.laload, 1) := by decide +kernel
theorem dX12_isNearAt_103 : decode cX12_isNearAt 103 = .ok (.invokevirtual 412, 3) := by decide +kernel
theorem dX12_isNearAt_106 : decode cX12_isNearAt 106 = .ok (.ifCond .eq 7, 3) := by decide +kernel
theorem dX12_isNearAt_109 : decode cX12_isNearAt 109 = .ok (.iconst 1, 1) := by decide +kernel
theorem dX12_isNearAt_110 : decode cX12_isNearAt 110 = .ok (.goto 4, 3) := by decide +kernel
theorem dX12_isNearAt_113 : decode cX12_isNearAt 113 = .ok (.iconst 0, 1) := by decide +kernel
theorem dX12_isNearAt_114 : decode cX12_isNearAt 114 = .ok (.istore 5, 2) := by decide +kernel
theorem dX12_isNearAt_116 : decode cX12_isNearAt 116 = .ok (.iinc 6 1, 3) := by decide +kernel
theorem dX12_isNearAt_119 : decode cX12_isNearAt 119 = .ok (.goto (-90), 3) := by decide +kernel
theorem dX12_isNearAt_122 : decode cX12_isNearAt 122 = .ok (.iload 5, 2) := by decide +kernel
theorem dX12_isNearAt_124 : decode cX12_isNearAt 124 = .ok (.ireturn, 1) := by decide +kernel
theorem dX12_marks_0 : decode cX12_marks 0 = .ok (.aload_n 0, 1) := by decide +kernel
theorem dX12_marks_1 : decode cX12_marks 1 = .ok (.getfield 134, 3) := by decide +kernel
theorem dX12_marks_4 : decode cX12_marks 4 = .ok (.iload_n 2, 1) := by decide +kernel
theorem dX12_marks_5 : decode cX12_marks 5 = .ok (.iaload, 1) := by decide +kernel
theorem dX12_marks_6 : decode cX12_marks 6 = .ok (.istore_n 3, 1) := by decide +kernel
theorem dX12_marks_7 : decode cX12_marks 7 = .ok (.iconst 0, 1) := by decide +kernel
theorem dX12_marks_8 : decode cX12_marks 8 = .ok (.istore 4, 2) := by decide +kernel
theorem dX12_marks_10 : decode cX12_marks 10 = .ok (.iconst 0, 1) := by decide +kernel
theorem dX12_marks_11 : decode cX12_marks 11 = .ok (.istore 5, 2) := by decide +kernel
theorem dX12_marks_13 : decode cX12_marks 13 = .ok (.iload 5, 2) := by decide +kernel
theorem dX12_marks_15 : decode cX12_marks 15 = .ok (.aload_n 0, 1) := by decide +kernel
theorem dX12_marks_16 : decode cX12_marks 16 = .ok (.getfield 63, 3) := by decide +kernel
theorem dX12_marks_19 : decode cX12_marks 19 = .ok (.iconst 2, 1) := by decide +kernel
theorem dX12_marks_20 : decode cX12_marks 20 = .ok (.iload_n 1, 1) := by decide +kernel
theorem dX12_marks_21 : decode cX12_marks 21 = .ok (.imul, 1) := by decide +kernel
theorem dX12_marks_22 : decode cX12_marks 22 = .ok (.iload_n 3, 1) := by decide +kernel
theorem dX12_marks_23 : decode cX12_marks 23 = .ok (.iadd, 1) := by decide +kernel
theorem dX12_marks_24 : decode cX12_marks 24 = .ok (.iaload, 1) := by decide +kernel
theorem dX12_marks_25 : decode cX12_marks 25 = .ok (.if_icmp .ge 122, 3) := by decide +kernel
theorem dX12_marks_28 : decode cX12_marks 28 = .ok (.aload_n 0, 1) := by decide +kernel
theorem dX12_marks_29 : decode cX12_marks 29 = .ok (.getfield 131, 3) := by decide +kernel
theorem dX12_marks_32 : decode cX12_marks 32 = .ok (.iload_n 2, 1) := by decide +kernel
theorem dX12_marks_33 : decode cX12_marks 33 = .ok (.iaload, 1) := by decide +kernel
theorem dX12_marks_34 : decode cX12_marks 34 = .ok (.iconst 3, 1) := by decide +kernel
theorem dX12_marks_35 : decode cX12_marks 35 = .ok (.if_icmp .lt 15, 3) := by decide +kernel
theorem dX12_marks_38 : decode cX12_marks 38 = .ok (.aload_n 0, 1) := by decide +kernel
theorem dX12_marks_39 : decode cX12_marks 39 = .ok (.iload_n 1, 1) := by decide +kernel
theorem dX12_marks_40 : decode cX12_marks 40 = .ok (.iload_n 3, 1) := by decide +kernel
theorem dX12_marks_41 : decode cX12_marks 41 = .ok (.iload 5, 2) := by decide +kernel
theorem dX12_marks_43 : decode cX12_marks 43 = .ok (.iload_n 2, 1) := by decide +kernel
theorem dX12_marks_44 : decode cX12_marks 44 = .ok (.invokevirtual 486, 3) := by decide +kernel
theorem dX12_marks_47 : decode cX12_marks 47 = .ok (.goto 20, 3) := by decide +kernel
theorem dX12_marks_50 : decode cX12_marks 50 = .ok (.aload_n 0, 1) := by decide +kernel
theorem dX12_marks_51 : decode cX12_marks 51 = .ok (.iload_n 1, 1) := by decide +kernel
theorem dX12_marks_52 : decode cX12_marks 52 = .ok (.iload_n 3, 1) := by decide +kernel
theorem dX12_marks_53 : decode cX12_marks 53 = .ok (.iload 5, 2) := by decide +kernel
theorem dX12_marks_55 : decode cX12_marks 55 = .ok (.aload_n 0, 1) := by decide +kernel
theorem dX12_marks_56 : decode cX12_marks 56 = .ok (.getfield 146, 3) := by decide +kernel
theorem dX12_marks_59 : decode cX12_marks 59 = .ok (.bipush 6, 2) := by decide +kernel
theorem dX12_marks_61 : decode cX12_marks 61 = .ok (.iload_n 2, 1) := by decide +kernel
theorem dX12_marks_62 : decode cX12_marks 62 = .ok (.imul, 1) := by decide +kernel
theorem dX12_marks_63 : decode cX12_marks 63 = .ok (.laload, 1) := by decide +kernel
theorem dX12_marks_64 : decode cX12_marks 64 = .ok (.invokevirtual 412, 3) := by decide +kernel
theorem dX12_marks_67 : decode cX12_marks 67 = .ok (.istore 6, 2) := by decide +kernel
theorem dX12_marks_69 : decode cX12_marks 69 = .ok (.iload 6, 2) := by decide +kernel
theorem dX12_marks_71 : decode cX12_marks 71 = .ok (.ifCond .eq 49, 3) := by decide +kernel
theorem dX12_marks_74 : decode cX12_marks 74 = .ok (.aload_n 0, 1) := by decide +kernel
theorem dX12_marks_75 : decode cX12_marks 75 = .ok (.getfield 131, 3) := by decide +kernel
theorem dX12_marks_78 : decode cX12_marks 78 = .ok (.iload_n 2, 1) := by decide +kernel
theorem dX12_marks_79 : decode cX12_marks 79 = .ok (.iaload, 1) := by decide +kernel
theorem dX12_marks_80 : decode cX12_marks 80 = .ok (.iconst 1, 1) := by decide +kernel
theorem dX12_marks_81 : decode cX12_marks 81 = .ok (.if_icmp .ne 14, 3) := by decide +kernel
theorem dX12_marks_84 : decode cX12_marks 84 = .ok (.aload_n 0, 1) := by decide +kernel
theorem dX12_marks_85 : decode cX12_marks 85 = .ok (.iload_n 1, 1) := by decide +kernel
theorem dX12_marks_86 : decode cX12_marks 86 = .ok (.iload_n 2, 1) := by decide +kernel
theorem dX12_marks_87 : decode cX12_marks 87 = .ok (.iload 5, 2) := by decide +kernel
theorem dX12_marks_89 : decode cX12_marks 89 = .ok (.invokevirtual 490, 3) := by decide +kernel
theorem dX12_marks_92 : decode cX12_marks 92 = .ok (.ifCond .eq 28, 3) := by decide +kernel
theorem dX12_marks_95 : decode cX12_marks 95 = .ok (.aload_n 0, 1) := by decide +kernel
theorem dX12_marks_96 : decode cX12_marks 96 = .ok (.getfield 131, 3) := by decide +kernel
theorem dX12_marks_99 : decode cX12_marks 99 = .ok (.iload_n 2, 1) := by decide +kernel
theorem dX12_marks_100 : decode cX12_marks 100 = .ok (.iaload, 1) := by decide +kernel
theorem dX12_marks_101 : decode cX12_marks 101 = .ok (.iconst 2, 1) := by decide +kernel
theorem dX12_marks_102 : decode cX12_marks 102 = .ok (.if_icmp .ne 14, 3) := by decide +kernel
theorem dX12_marks_105 : decode cX12_marks 105 = .ok (.aload_n 0, 1) := by decide +kernel
theorem dX12_marks_106 : decode cX12_marks 106 = .ok (.iload_n 1, 1) := by decide +kernel
theorem dX12_marks_107 : decode cX12_marks 107 = .ok (.iload_n 2, 1) := by decide +kernel
theorem dX12_marks_108 : decode cX12_marks 108 = .ok (.iload 5, 2) := by decide +kernel
theorem dX12_marks_110 : decode cX12_marks 110 = .ok (.invokevirtual 493, 3) := by decide +kernel
theorem dX12_marks_113 : decode cX12_marks 113 = .ok (.ifCond .eq 7, 3) := by decide +kernel
theorem dX12_marks_116 : decode cX12_marks 116 = .ok (.iconst 1, 1) := by decide +kernel
theorem dX12_marks_117 : decode cX12_marks 117 = .ok (.goto 4, 3) := by decide +kernel
theorem dX12_marks_120 : decode cX12_marks 120 = .ok (.iconst 0, 1) := by decide +kernel
theorem dX12_marks_121 : decode cX12_marks 121 = .ok (.istore 6, 2) := by decide +kernel
theorem dX12_marks_123 : decode cX12_marks 123 = .ok (.iload 4, 2) := by decide +kernel
theorem dX12_marks_125 : decode cX12_marks 125 = .ok (.iload 6, 2) := by decide +kernel
theorem dX12_marks_127 : decode cX12_marks 127 = .ok (.ifCond .eq 10, 3) := by decide +kernel
theorem dX12_marks_130 : decode cX12_marks 130 = .ok (.iconst 1, 1) := by decide +kernel
theorem dX12_marks_131 : decode cX12_marks 131 = .ok (.iload 5, 2) := by decide +kernel
theorem dX12_marks_133 : decode cX12_marks 133 = .ok (.ishl, 1) := by decide +kernel
theorem dX12_marks_134 : decode cX12_marks 134 = .ok (.goto 4, 3) := by decide +kernel
theorem dX12_marks_137 : decode cX12_marks 137 = .ok (.iconst 0, 1) := by decide +kernel
theorem dX12_marks_138 : decode cX12_marks 138 = .ok (.ior, 1) := by decide +kernel
theorem dX12_marks_139 : decode cX12_marks 139 = .ok (.istore 4, 2) := by decide +kernel
theorem dX12_marks_141 : decode cX12_marks 141 = .ok (.iinc 5 1, 3) := by decide +kernel
theorem dX12_marks_144 : decode cX12_marks 144 = .ok (.goto (-131), 3) := by decide +kernel
theorem dX12_marks_147 : decode cX12_marks 147 = .ok (.iload 4, 2) := by decide +kernel
theorem dX12_marks_149 : decode cX12_marks 149 = .ok (.ireturn, 1) := by decide +kernel
theorem dX12_ones_0 : decode cX12_ones 0 = .ok (.iconst 0, 1) := by decide +kernel
theorem dX12_ones_1 : decode cX12_ones 1 = .ok (.istore_n 1, 1) := by decide +kernel
theorem dX12_ones_2 : decode cX12_ones 2 = .ok (.iload_n 0, 1) := by decide +kernel
theorem dX12_ones_3 : decode cX12_ones 3 = .ok (.istore_n 2, 1) := by decide +kernel
theorem dX12_ones_4 : decode cX12_ones 4 = .ok (.iload_n 2, 1) := by decide +kernel
theorem dX12_ones_5 : decode cX12_ones 5 = .ok (.ifCond .eq 15, 3) := by decide +kernel
theorem dX12_ones_8 : decode cX12_ones 8 = .ok (.iinc 1 1, 3) := by decide +kernel
theorem dX12_ones_11 : decode cX12_ones 11 = .ok (.iload_n 2, 1) := by decide +kernel
theorem dX12_ones_12 : decode cX12_ones 12 = .ok (.iload_n 2, 1) := by decide +kernel
theorem dX12_ones_13 : decode cX12_ones 13 = .ok (.iconst 1, 1) := by decide +kernel
theorem dX12_ones_14 : decode cX12_ones 14 = .ok (.isub, 1) := by decide +kernel
theorem dX12_ones_15 : decode cX12_ones 15 = .ok (.iand, 1) := by decide +kernel
theorem dX12_ones_16 : decode cX12_ones 16 = .ok (.istore_n 2, 1) := by decide +kernel
theorem dX12_ones_17 : decode cX12_ones 17 = .ok (.goto (-13), 3) := by decide +kernel
theorem dX12_ones_20 : decode cX12_ones 20 = .ok (.iload_n 1, 1) := by decide +kernel
theorem dX12_ones_21 : decode cX12_ones 21 = .ok (.ireturn, 1) := by decide +kernel
theorem dX12_strength_0 : decode cX12_strength 0 = .ok (.bipush 64, 2) := by decide +kernel
theorem dX12_strength_2 : decode cX12_strength 2 = .ok (.iload_n 0, 1) := by decide +kernel
theorem dX12_strength_3 : decode cX12_strength 3 = .ok (.imul, 1) := by decide +kernel
theorem dX12_strength_4 : decode cX12_strength 4 = .ok (.iload_n 0, 1) := by decide +kernel
theorem dX12_strength_5 : decode cX12_strength 5 = .ok (.iconst 1, 1) := by decide +kernel
theorem dX12_strength_6 : decode cX12_strength 6 = .ok (.iadd, 1) := by decide +kernel
theorem dX12_strength_7 : decode cX12_strength 7 = .ok (.idiv, 1) := by decide +kernel
theorem dX12_strength_8 : decode cX12_strength 8 = .ok (.ireturn, 1) := by decide +kernel
theorem dX12_gives1_0 : decode cX12_gives1 0 = .ok (.iconst 0, 1) := by decide +kernel
theorem dX12_gives1_1 : decode cX12_gives1 1 = .ok (.istore_n 3, 1) := by decide +kernel
theorem dX12_gives1_2 : decode cX12_gives1 2 = .ok (.bipush 48, 2) := by decide +kernel
theorem dX12_gives1_4 : decode cX12_gives1 4 = .ok (.iload_n 1, 1) := by decide +kernel
theorem dX12_gives1_5 : decode cX12_gives1 5 = .ok (.imul, 1) := by decide +kernel
theorem dX12_gives1_6 : decode cX12_gives1 6 = .ok (.istore 4, 2) := by decide +kernel
theorem dX12_gives1_8 : decode cX12_gives1 8 = .ok (.iload 4, 2) := by decide +kernel
theorem dX12_gives1_10 : decode cX12_gives1 10 = .ok (.bipush 48, 2) := by decide +kernel
theorem dX12_gives1_12 : decode cX12_gives1 12 = .ok (.iload_n 1, 1) := by decide +kernel
theorem dX12_gives1_13 : decode cX12_gives1 13 = .ok (.imul, 1) := by decide +kernel
theorem dX12_gives1_14 : decode cX12_gives1 14 = .ok (.aload_n 0, 1) := by decide +kernel
theorem dX12_gives1_15 : decode cX12_gives1 15 = .ok (.getfield 155, 3) := by decide +kernel
theorem dX12_gives1_18 : decode cX12_gives1 18 = .ok (.iload_n 1, 1) := by decide +kernel
theorem dX12_gives1_19 : decode cX12_gives1 19 = .ok (.iaload, 1) := by decide +kernel
theorem dX12_gives1_20 : decode cX12_gives1 20 = .ok (.iadd, 1) := by decide +kernel
theorem dX12_gives1_21 : decode cX12_gives1 21 = .ok (.if_icmp .ge 292, 3) := by decide +kernel
theorem dX12_gives1_24 : decode cX12_gives1 24 = .ok (.aload_n 0, 1) := by decide +kernel
theorem dX12_gives1_25 : decode cX12_gives1 25 = .ok (.getfield 131, 3) := by decide +kernel
theorem dX12_gives1_28 : decode cX12_gives1 28 = .ok (.iload 4, 2) := by decide +kernel
theorem dX12_gives1_30 : decode cX12_gives1 30 = .ok (.iaload, 1) := by decide +kernel
theorem dX12_gives1_31 : decode cX12_gives1 31 = .ok (.bipush 6, 2) := by decide +kernel
theorem dX12_gives1_33 : decode cX12_gives1 33 = .ok (.if_icmp .ge 80, 3) := by decide +kernel
theorem dX12_gives1_36 : decode cX12_gives1 36 = .ok (.aload_n 0, 1) := by decide +kernel
theorem dX12_gives1_37 : decode cX12_gives1 37 = .ok (.iload_n 2, 1) := by decide +kernel
theorem dX12_gives1_38 : decode cX12_gives1 38 = .ok (.iload 4, 2) := by decide +kernel
theorem dX12_gives1_40 : decode cX12_gives1 40 = .ok (.invokevirtual 496, 3) := by decide +kernel
theorem dX12_gives1_43 : decode cX12_gives1 43 = .ok (.invokestatic 500, 3) := by decide +kernel
theorem dX12_gives1_46 : decode cX12_gives1 46 = .ok (.istore 5, 2) := by decide +kernel
theorem dX12_gives1_48 : decode cX12_gives1 48 = .ok (.aload_n 0, 1) := by decide +kernel
theorem dX12_gives1_49 : decode cX12_gives1 49 = .ok (.getfield 173, 3) := by decide +kernel
theorem dX12_gives1_52 : decode cX12_gives1 52 = .ok (.iload_n 3, 1) := by decide +kernel
theorem dX12_gives1_53 : decode cX12_gives1 53 = .ok (.iload 5, 2) := by decide +kernel
theorem dX12_gives1_55 : decode cX12_gives1 55 = .ok (.ifCond .ne 7, 3) := by decide +kernel
theorem dX12_gives1_58 : decode cX12_gives1 58 = .ok (.iconst (-1), 1) := by decide +kernel
theorem dX12_gives1_59 : decode cX12_gives1 59 = .ok (.goto 47, 3) := by decide +kernel
theorem dX12_gives1_62 : decode cX12_gives1 62 = .ok (.aload_n 0, 1) := by decide +kernel
theorem dX12_gives1_63 : decode cX12_gives1 63 = .ok (.getfield 131, 3) := by decide +kernel
theorem dX12_gives1_66 : decode cX12_gives1 66 = .ok (.iload 4, 2) := by decide +kernel
theorem dX12_gives1_68 : decode cX12_gives1 68 = .ok (.iaload, 1) := by decide +kernel
theorem dX12_gives1_69 : decode cX12_gives1 69 = .ok (.iconst 3, 1) := by decide +kernel
theorem dX12_gives1_70 : decode cX12_gives1 70 = .ok (.if_icmp .lt 18, 3) := by decide +kernel
theorem dX12_gives1_73 : decode cX12_gives1 73 = .ok (.aload_n 0, 1) := by decide +kernel
theorem dX12_gives1_74 : decode cX12_gives1 74 = .ok (.getfield 176, 3) := by decide +kernel
theorem dX12_gives1_77 : decode cX12_gives1 77 = .ok (.iload 4, 2) := by decide +kernel
theorem dX12_gives1_79 : decode cX12_gives1 79 = .ok (.bipush 48, 2) := by decide +kernel
theorem dX12_gives1_81 : decode cX12_gives1 81 = .ok (.iload_n 1, 1) := by decide +kernel
theorem dX12_gives1_82 : decode cX12_gives1 82 = .ok (.imul, 1) := by decide +kernel
theorem dX12_gives1_83 : decode cX12_gives1 83 = .ok (.isub, 1) := by decide +kernel
theorem dX12_gives1_84 : decode cX12_gives1 84 = .ok (.iaload, 1) := by decide +kernel
theorem dX12_gives1_85 : decode cX12_gives1 85 = .ok (.goto 21, 3) := by decide +kernel
theorem dX12_gives1_88 : decode cX12_gives1 88 = .ok (.iload 5, 2) := by decide +kernel
theorem dX12_gives1_90 : decode cX12_gives1 90 = .ok (.invokestatic 503, 3) := by decide +kernel
theorem dX12_gives1_93 : decode cX12_gives1 93 = .ok (.aload_n 0, 1) := by decide +kernel
theorem dX12_gives1_94 : decode cX12_gives1 94 = .ok (.getfield 176, 3) := by decide +kernel
theorem dX12_gives1_97 : decode cX12_gives1 97 = .ok (.iload 4, 2) := by decide +kernel
theorem dX12_gives1_99 : decode cX12_gives1 99 = .ok (.bipush 48, 2) := by decide +kernel
theorem dX12_gives1_101 : decode cX12_gives1 101 = .ok (.iload_n 1, 1) := by decide +kernel
theorem dX12_gives1_102 : decode cX12_gives1 102 = .ok (.imul, 1) := by decide +kernel
theorem dX12_gives1_103 : decode cX12_gives1 103 = .ok (.isub, 1) := by decide +kernel
theorem dX12_gives1_104 : decode cX12_gives1 104 = .ok (.iaload, 1) := by decide +kernel
theorem dX12_gives1_105 : decode cX12_gives1 105 = .ok (.imul, 1) := by decide +kernel
theorem dX12_gives1_106 : decode cX12_gives1 106 = .ok (.iastore, 1) := by decide +kernel
theorem dX12_gives1_107 : decode cX12_gives1 107 = .ok (.iinc 3 1, 3) := by decide +kernel
theorem dX12_gives1_110 : decode cX12_gives1 110 = .ok (.goto 197, 3) := by decide +kernel
theorem dX12_gives1_113 : decode cX12_gives1 113 = .ok (.iconst 0, 1) := by decide +kernel
theorem dX12_gives1_114 : decode cX12_gives1 114 = .ok (.istore 5, 2) := by decide +kernel
theorem dX12_gives1_116 : decode cX12_gives1 116 = .ok (.iconst 0, 1) := by decide +kernel
theorem dX12_gives1_117 : decode cX12_gives1 117 = .ok (.istore 6, 2) := by decide +kernel
theorem dX12_gives1_119 : decode cX12_gives1 119 = .ok (.iload_n 3, 1) := by decide +kernel
theorem dX12_gives1_120 : decode cX12_gives1 120 = .ok (.aload_n 0, 1) := by decide +kernel
theorem dX12_gives1_121 : decode cX12_gives1 121 = .ok (.getfield 143, 3) := by decide +kernel
theorem dX12_gives1_124 : decode cX12_gives1 124 = .ok (.iload 4, 2) := by decide +kernel
theorem dX12_gives1_126 : decode cX12_gives1 126 = .ok (.iaload, 1) := by decide +kernel
theorem dX12_gives1_127 : decode cX12_gives1 127 = .ok (.isub, 1) := by decide +kernel
theorem dX12_gives1_128 : decode cX12_gives1 128 = .ok (.istore 7, 2) := by decide +kernel
theorem dX12_gives1_130 : decode cX12_gives1 130 = .ok (.iload 7, 2) := by decide +kernel
theorem dX12_gives1_132 : decode cX12_gives1 132 = .ok (.iload_n 3, 1) := by decide +kernel
theorem dX12_gives1_133 : decode cX12_gives1 133 = .ok (.if_icmp .ge 57, 3) := by decide +kernel
theorem dX12_gives1_136 : decode cX12_gives1 136 = .ok (.iload 6, 2) := by decide +kernel
theorem dX12_gives1_138 : decode cX12_gives1 138 = .ok (.aload_n 0, 1) := by decide +kernel
theorem dX12_gives1_139 : decode cX12_gives1 139 = .ok (.getfield 173, 3) := by decide +kernel
theorem dX12_gives1_142 : decode cX12_gives1 142 = .ok (.iload 7, 2) := by decide +kernel
theorem dX12_gives1_144 : decode cX12_gives1 144 = .ok (.iaload, 1) := by decide +kernel
theorem dX12_gives1_145 : decode cX12_gives1 145 = .ok (.iconst (-1), 1) := by decide +kernel
theorem dX12_gives1_146 : decode cX12_gives1 146 = .ok (.if_icmp .ne 7, 3) := by decide +kernel
theorem dX12_gives1_149 : decode cX12_gives1 149 = .ok (.iconst 0, 1) := by decide +kernel
