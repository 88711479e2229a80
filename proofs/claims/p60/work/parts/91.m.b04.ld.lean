theorem dL_bound_0 : decode cL_bound 0 = .ok (.iconst 0, 1) := by decide +kernel
theorem dL_bound_1 : decode cL_bound 1 = .ok (.istore 7, 2) := by decide +kernel
theorem dL_bound_3 : decode cL_bound 3 = .ok (.iconst 0, 1) := by decide +kernel
theorem dL_bound_4 : decode cL_bound 4 = .ok (.istore 8, 2) := by decide +kernel
theorem dL_bound_6 : decode cL_bound 6 = .ok (.iload 8, 2) := by decide +kernel
theorem dL_bound_8 : decode cL_bound 8 = .ok (.bipush 9, 2) := by decide +kernel
theorem dL_bound_10 : decode cL_bound 10 = .ok (.if_icmp .ge 202, 3) := by decide +kernel
theorem dL_bound_13 : decode cL_bound 13 = .ok (.iload 8, 2) := by decide +kernel
theorem dL_bound_15 : decode cL_bound 15 = .ok (.iload 5, 2) := by decide +kernel
theorem dL_bound_17 : decode cL_bound 17 = .ok (.if_icmp .ne 10, 3) := by decide +kernel
theorem dL_bound_20 : decode cL_bound 20 = .ok (.iload 5, 2) := by decide +kernel
theorem dL_bound_22 : decode cL_bound 22 = .ok (.bipush 7, 2) := by decide +kernel
theorem dL_bound_24 : decode cL_bound 24 = .ok (.if_icmp .lt 47, 3) := by decide +kernel
theorem dL_bound_27 : decode cL_bound 27 = .ok (.iload 5, 2) := by decide +kernel
theorem dL_bound_29 : decode cL_bound 29 = .ok (.bipush 7, 2) := by decide +kernel
theorem dL_bound_31 : decode cL_bound 31 = .ok (.if_icmp .ne 21, 3) := by decide +kernel
theorem dL_bound_34 : decode cL_bound 34 = .ok (.iload 8, 2) := by decide +kernel
theorem dL_bound_36 : decode cL_bound 36 = .ok (.ifCond .eq 35, 3) := by decide +kernel
theorem dL_bound_39 : decode cL_bound 39 = .ok (.iload 8, 2) := by decide +kernel
theorem dL_bound_41 : decode cL_bound 41 = .ok (.iconst 1, 1) := by decide +kernel
theorem dL_bound_42 : decode cL_bound 42 = .ok (.if_icmp .eq 29, 3) := by decide +kernel
theorem dL_bound_45 : decode cL_bound 45 = .ok (.iload 8, 2) := by decide +kernel
theorem dL_bound_47 : decode cL_bound 47 = .ok (.bipush 7, 2) := by decide +kernel
theorem dL_bound_49 : decode cL_bound 49 = .ok (.if_icmp .eq 22, 3) := by decide +kernel
theorem dL_bound_52 : decode cL_bound 52 = .ok (.iload 5, 2) := by decide +kernel
theorem dL_bound_54 : decode cL_bound 54 = .ok (.bipush 8, 2) := by decide +kernel
theorem dL_bound_56 : decode cL_bound 56 = .ok (.if_icmp .ne 19, 3) := by decide +kernel
theorem dL_bound_59 : decode cL_bound 59 = .ok (.iload 8, 2) := by decide +kernel
theorem dL_bound_61 : decode cL_bound 61 = .ok (.ifCond .eq 10, 3) := by decide +kernel
theorem dL_bound_64 : decode cL_bound 64 = .ok (.iload 8, 2) := by decide +kernel
theorem dL_bound_66 : decode cL_bound 66 = .ok (.bipush 8, 2) := by decide +kernel
theorem dL_bound_68 : decode cL_bound 68 = .ok (.if_icmp .ne 7, 3) := by decide +kernel
theorem dL_bound_71 : decode cL_bound 71 = .ok (.iconst 1, 1) := by decide +kernel
theorem dL_bound_72 : decode cL_bound 72 = .ok (.goto 4, 3) := by decide +kernel
theorem dL_bound_75 : decode cL_bound 75 = .ok (.iconst 0, 1) := by decide +kernel
theorem dL_bound_76 : decode cL_bound 76 = .ok (.istore 9, 2) := by decide +kernel
theorem dL_bound_78 : decode cL_bound 78 = .ok (.iconst 0, 1) := by decide +kernel
theorem dL_bound_79 : decode cL_bound 79 = .ok (.istore 10, 2) := by decide +kernel
theorem dL_bound_81 : decode cL_bound 81 = .ok (.iload_n 3, 1) := by decide +kernel
theorem dL_bound_82 : decode cL_bound 82 = .ok (.istore 11, 2) := by decide +kernel
theorem dL_bound_84 : decode cL_bound 84 = .ok (.iload 11, 2) := by decide +kernel
theorem dL_bound_86 : decode cL_bound 86 = .ok (.iload 4, 2) := by decide +kernel
theorem dL_bound_88 : decode cL_bound 88 = .ok (.if_icmp .ge 72, 3) := by decide +kernel
theorem dL_bound_91 : decode cL_bound 91 = .ok (.iload 9, 2) := by decide +kernel
theorem dL_bound_93 : decode cL_bound 93 = .ok (.ifCond .eq 67, 3) := by decide +kernel
theorem dL_bound_96 : decode cL_bound 96 = .ok (.aload_n 0, 1) := by decide +kernel
theorem dL_bound_97 : decode cL_bound 97 = .ok (.aload_n 1, 1) := by decide +kernel
theorem dL_bound_98 : decode cL_bound 98 = .ok (.iload_n 2, 1) := by decide +kernel
theorem dL_bound_99 : decode cL_bound 99 = .ok (.iload 11, 2) := by decide +kernel
theorem dL_bound_101 : decode cL_bound 101 = .ok (.invokestatic 26, 3) := by decide +kernel
theorem dL_bound_104 : decode cL_bound 104 = .ok (.laload, 1) := by decide +kernel
theorem dL_bound_105 : decode cL_bound 105 = .ok (.lstore 12, 2) := by decide +kernel
theorem dL_bound_107 : decode cL_bound 107 = .ok (.iload 8, 2) := by decide +kernel
theorem dL_bound_109 : decode cL_bound 109 = .ok (.iconst 2, 1) := by decide +kernel
theorem dL_bound_110 : decode cL_bound 110 = .ok (.if_icmp .eq 9, 3) := by decide +kernel
theorem dL_bound_113 : decode cL_bound 113 = .ok (.iload 8, 2) := by decide +kernel
theorem dL_bound_115 : decode cL_bound 115 = .ok (.iconst 3, 1) := by decide +kernel
theorem dL_bound_116 : decode cL_bound 116 = .ok (.if_icmp .ne 13, 3) := by decide +kernel
theorem dL_bound_119 : decode cL_bound 119 = .ok (.lload 12, 2) := by decide +kernel
theorem dL_bound_121 : decode cL_bound 121 = .ok (.iconst 0, 1) := by decide +kernel
theorem dL_bound_122 : decode cL_bound 122 = .ok (.iconst 0, 1) := by decide +kernel
theorem dL_bound_123 : decode cL_bound 123 = .ok (.invokestatic 23, 3) := by decide +kernel
theorem dL_bound_126 : decode cL_bound 126 = .ok (.goto 10, 3) := by decide +kernel
theorem dL_bound_129 : decode cL_bound 129 = .ok (.lload 12, 2) := by decide +kernel
theorem dL_bound_131 : decode cL_bound 131 = .ok (.iload 8, 2) := by decide +kernel
theorem dL_bound_133 : decode cL_bound 133 = .ok (.invokestatic 34, 3) := by decide +kernel
theorem dL_bound_136 : decode cL_bound 136 = .ok (.istore 14, 2) := by decide +kernel
theorem dL_bound_138 : decode cL_bound 138 = .ok (.iload 14, 2) := by decide +kernel
theorem dL_bound_140 : decode cL_bound 140 = .ok (.iload 10, 2) := by decide +kernel
theorem dL_bound_142 : decode cL_bound 142 = .ok (.if_icmp .le 8, 3) := by decide +kernel
theorem dL_bound_145 : decode cL_bound 145 = .ok (.iload 14, 2) := by decide +kernel
theorem dL_bound_147 : decode cL_bound 147 = .ok (.goto 5, 3) := by decide +kernel
theorem dL_bound_150 : decode cL_bound 150 = .ok (.iload 10, 2) := by decide +kernel
theorem dL_bound_152 : decode cL_bound 152 = .ok (.istore 10, 2) := by decide +kernel
theorem dL_bound_154 : decode cL_bound 154 = .ok (.iinc 11 1, 3) := by decide +kernel
theorem dL_bound_157 : decode cL_bound 157 = .ok (.goto (-73), 3) := by decide +kernel
theorem dL_bound_160 : decode cL_bound 160 = .ok (.iload 7, 2) := by decide +kernel
theorem dL_bound_162 : decode cL_bound 162 = .ok (.iload 10, 2) := by decide +kernel
theorem dL_bound_164 : decode cL_bound 164 = .ok (.ifCond .ne 7, 3) := by decide +kernel
theorem dL_bound_167 : decode cL_bound 167 = .ok (.iconst 0, 1) := by decide +kernel
theorem dL_bound_168 : decode cL_bound 168 = .ok (.goto 35, 3) := by decide +kernel
theorem dL_bound_171 : decode cL_bound 171 = .ok (.iload 8, 2) := by decide +kernel
theorem dL_bound_173 : decode cL_bound 173 = .ok (.iconst 3, 1) := by decide +kernel
theorem dL_bound_174 : decode cL_bound 174 = .ok (.if_icmp .le 18, 3) := by decide +kernel
theorem dL_bound_177 : decode cL_bound 177 = .ok (.iload 8, 2) := by decide +kernel
theorem dL_bound_179 : decode cL_bound 179 = .ok (.bipush 7, 2) := by decide +kernel
theorem dL_bound_181 : decode cL_bound 181 = .ok (.if_icmp .ge 11, 3) := by decide +kernel
theorem dL_bound_184 : decode cL_bound 184 = .ok (.aload 6, 2) := by decide +kernel
theorem dL_bound_186 : decode cL_bound 186 = .ok (.iload 8, 2) := by decide +kernel
theorem dL_bound_188 : decode cL_bound 188 = .ok (.iaload, 1) := by decide +kernel
theorem dL_bound_189 : decode cL_bound 189 = .ok (.goto 14, 3) := by decide +kernel
theorem dL_bound_192 : decode cL_bound 192 = .ok (.iload 10, 2) := by decide +kernel
theorem dL_bound_194 : decode cL_bound 194 = .ok (.invokestatic 38, 3) := by decide +kernel
theorem dL_bound_197 : decode cL_bound 197 = .ok (.aload 6, 2) := by decide +kernel
theorem dL_bound_199 : decode cL_bound 199 = .ok (.iload 8, 2) := by decide +kernel
theorem dL_bound_201 : decode cL_bound 201 = .ok (.iaload, 1) := by decide +kernel
theorem dL_bound_202 : decode cL_bound 202 = .ok (.imul, 1) := by decide +kernel
theorem dL_bound_203 : decode cL_bound 203 = .ok (.iadd, 1) := by decide +kernel
theorem dL_bound_204 : decode cL_bound 204 = .ok (.istore 7, 2) := by decide +kernel
theorem dL_bound_206 : decode cL_bound 206 = .ok (.iinc 8 1, 3) := by decide +kernel
theorem dL_bound_209 : decode cL_bound 209 = .ok (.goto (-203), 3) := by decide +kernel
theorem dL_bound_212 : decode cL_bound 212 = .ok (.iload 7, 2) := by decide +kernel
theorem dL_bound_214 : decode cL_bound 214 = .ok (.ireturn, 1) := by decide +kernel
theorem dL_writes_0 : decode cL_writes 0 = .ok (.aload_n 0, 1) := by decide +kernel
theorem dL_writes_1 : decode cL_writes 1 = .ok (.iconst 5, 1) := by decide +kernel
theorem dL_writes_2 : decode cL_writes 2 = .ok (.iaload, 1) := by decide +kernel
theorem dL_writes_3 : decode cL_writes 3 = .ok (.ifCond .ne 55, 3) := by decide +kernel
theorem dL_writes_6 : decode cL_writes 6 = .ok (.aload_n 0, 1) := by decide +kernel
theorem dL_writes_7 : decode cL_writes 7 = .ok (.bipush 6, 2) := by decide +kernel
theorem dL_writes_9 : decode cL_writes 9 = .ok (.iconst 1, 1) := by decide +kernel
theorem dL_writes_10 : decode cL_writes 10 = .ok (.iastore, 1) := by decide +kernel
theorem dL_writes_11 : decode cL_writes 11 = .ok (.aload_n 0, 1) := by decide +kernel
theorem dL_writes_12 : decode cL_writes 12 = .ok (.iconst 1, 1) := by decide +kernel
theorem dL_writes_13 : decode cL_writes 13 = .ok (.iconst 0, 1) := by decide +kernel
theorem dL_writes_14 : decode cL_writes 14 = .ok (.iastore, 1) := by decide +kernel
theorem dL_writes_15 : decode cL_writes 15 = .ok (.aload_n 0, 1) := by decide +kernel
theorem dL_writes_16 : decode cL_writes 16 = .ok (.iconst 3, 1) := by decide +kernel
theorem dL_writes_17 : decode cL_writes 17 = .ok (.iconst 0, 1) := by decide +kernel
theorem dL_writes_18 : decode cL_writes 18 = .ok (.iastore, 1) := by decide +kernel
theorem dL_writes_19 : decode cL_writes 19 = .ok (.aload_n 0, 1) := by decide +kernel
theorem dL_writes_20 : decode cL_writes 20 = .ok (.bipush 9, 2) := by decide +kernel
theorem dL_writes_22 : decode cL_writes 22 = .ok (.iconst 0, 1) := by decide +kernel
theorem dL_writes_23 : decode cL_writes 23 = .ok (.iastore, 1) := by decide +kernel
theorem dL_writes_24 : decode cL_writes 24 = .ok (.aload_n 0, 1) := by decide +kernel
theorem dL_writes_25 : decode cL_writes 25 = .ok (.bipush 13, 2) := by decide +kernel
theorem dL_writes_27 : decode cL_writes 27 = .ok (.iconst 0, 1) := by decide +kernel
theorem dL_writes_28 : decode cL_writes 28 = .ok (.iastore, 1) := by decide +kernel
theorem dL_writes_29 : decode cL_writes 29 = .ok (.aload_n 0, 1) := by decide +kernel
theorem dL_writes_30 : decode cL_writes 30 = .ok (.bipush 14, 2) := by decide +kernel
theorem dL_writes_32 : decode cL_writes 32 = .ok (.iconst 0, 1) := by decide +kernel
theorem dL_writes_33 : decode cL_writes 33 = .ok (.iastore, 1) := by decide +kernel
theorem dL_writes_34 : decode cL_writes 34 = .ok (.aload_n 0, 1) := by decide +kernel
theorem dL_writes_35 : decode cL_writes 35 = .ok (.bipush 15, 2) := by decide +kernel
theorem dL_writes_37 : decode cL_writes 37 = .ok (.iconst 0, 1) := by decide +kernel
theorem dL_writes_38 : decode cL_writes 38 = .ok (.iastore, 1) := by decide +kernel
theorem dL_writes_39 : decode cL_writes 39 = .ok (.aload_n 0, 1) := by decide +kernel
theorem dL_writes_40 : decode cL_writes 40 = .ok (.bipush 16, 2) := by decide +kernel
theorem dL_writes_42 : decode cL_writes 42 = .ok (.iconst 0, 1) := by decide +kernel
theorem dL_writes_43 : decode cL_writes 43 = .ok (.iastore, 1) := by decide +kernel
theorem dL_writes_44 : decode cL_writes 44 = .ok (.aload_n 1, 1) := by decide +kernel
theorem dL_writes_45 : decode cL_writes 45 = .ok (.iconst 0, 1) := by decide +kernel
theorem dL_writes_46 : decode cL_writes 46 = .ok (.iconst 0, 1) := by decide +kernel
theorem dL_writes_47 : decode cL_writes 47 = .ok (.iastore, 1) := by decide +kernel
theorem dL_writes_48 : decode cL_writes 48 = .ok (.aload_n 2, 1) := by decide +kernel
theorem dL_writes_49 : decode cL_writes 49 = .ok (.iconst 0, 1) := by decide +kernel
theorem dL_writes_50 : decode cL_writes 50 = .ok (.iconst 0, 1) := by decide +kernel
theorem dL_writes_51 : decode cL_writes 51 = .ok (.iastore, 1) := by decide +kernel
theorem dL_writes_52 : decode cL_writes 52 = .ok (.aload_n 3, 1) := by decide +kernel
theorem dL_writes_53 : decode cL_writes 53 = .ok (.iconst 0, 1) := by decide +kernel
theorem dL_writes_54 : decode cL_writes 54 = .ok (.iconst 0, 1) := by decide +kernel
theorem dL_writes_55 : decode cL_writes 55 = .ok (.iastore, 1) := by decide +kernel
theorem dL_writes_56 : decode cL_writes 56 = .ok (.iconst 0, 1) := by decide +kernel
theorem dL_writes_57 : decode cL_writes 57 = .ok (.ireturn, 1) := by decide +kernel
theorem dL_writes_58 : decode cL_writes 58 = .ok (.aload_n 0, 1) := by decide +kernel
theorem dL_writes_59 : decode cL_writes 59 = .ok (.iconst 5, 1) := by decide +kernel
theorem dL_writes_60 : decode cL_writes 60 = .ok (.dup2, 1) := by decide +kernel
theorem dL_writes_61 : decode cL_writes 61 = .ok (.iaload, 1) := by decide +kernel
theorem dL_writes_62 : decode cL_writes 62 = .ok (.aload_n 0, 1) := by decide +kernel
theorem dL_writes_63 : decode cL_writes 63 = .ok (.iconst 5, 1) := by decide +kernel
theorem dL_writes_64 : decode cL_writes 64 = .ok (.iaload, 1) := by decide +kernel
theorem dL_writes_65 : decode cL_writes 65 = .ok (.ifCond .le 7, 3) := by decide +kernel
theorem dL_writes_68 : decode cL_writes 68 = .ok (.iconst 1, 1) := by decide +kernel
theorem dL_writes_69 : decode cL_writes 69 = .ok (.goto 4, 3) := by decide +kernel
theorem dL_writes_72 : decode cL_writes 72 = .ok (.iconst 0, 1) := by decide +kernel
theorem dL_writes_73 : decode cL_writes 73 = .ok (.isub, 1) := by decide +kernel
theorem dL_writes_74 : decode cL_writes 74 = .ok (.iastore, 1) := by decide +kernel
theorem dL_writes_75 : decode cL_writes 75 = .ok (.aload_n 0, 1) := by decide +kernel
theorem dL_writes_76 : decode cL_writes 76 = .ok (.iconst 4, 1) := by decide +kernel
theorem dL_writes_77 : decode cL_writes 77 = .ok (.dup2, 1) := by decide +kernel
theorem dL_writes_78 : decode cL_writes 78 = .ok (.iaload, 1) := by decide +kernel
theorem dL_writes_79 : decode cL_writes 79 = .ok (.iconst 1, 1) := by decide +kernel
theorem dL_writes_80 : decode cL_writes 80 = .ok (.iadd, 1) := by decide +kernel
theorem dL_writes_81 : decode cL_writes 81 = .ok (.iastore, 1) := by decide +kernel
theorem dL_writes_82 : decode cL_writes 82 = .ok (.iconst 1, 1) := by decide +kernel
theorem dL_writes_83 : decode cL_writes 83 = .ok (.ireturn, 1) := by decide +kernel
theorem dL_flushed_0 : decode cL_flushed 0 = .ok (.aload 10, 2) := by decide +kernel
theorem dL_flushed_2 : decode cL_flushed 2 = .ok (.iconst 1, 1) := by decide +kernel
theorem dL_flushed_3 : decode cL_flushed 3 = .ok (.iaload, 1) := by decide +kernel
theorem dL_flushed_4 : decode cL_flushed 4 = .ok (.istore 11, 2) := by decide +kernel
theorem dL_flushed_6 : decode cL_flushed 6 = .ok (.iconst 0, 1) := by decide +kernel
theorem dL_flushed_7 : decode cL_flushed 7 = .ok (.istore 12, 2) := by decide +kernel
theorem dL_flushed_9 : decode cL_flushed 9 = .ok (.iload 11, 2) := by decide +kernel
theorem dL_flushed_11 : decode cL_flushed 11 = .ok (.ifCond .le 33, 3) := by decide +kernel
theorem dL_flushed_14 : decode cL_flushed 14 = .ok (.iload 12, 2) := by decide +kernel
theorem dL_flushed_16 : decode cL_flushed 16 = .ok (.iload 11, 2) := by decide +kernel
theorem dL_flushed_18 : decode cL_flushed 18 = .ok (.if_icmp .gt 26, 3) := by decide +kernel
theorem dL_flushed_21 : decode cL_flushed 21 = .ok (.aload 10, 2) := by decide +kernel
theorem dL_flushed_23 : decode cL_flushed 23 = .ok (.aload 7, 2) := by decide +kernel
theorem dL_flushed_25 : decode cL_flushed 25 = .ok (.aload 8, 2) := by decide +kernel
theorem dL_flushed_27 : decode cL_flushed 27 = .ok (.aload 9, 2) := by decide +kernel
theorem dL_flushed_29 : decode cL_flushed 29 = .ok (.invokestatic 57, 3) := by decide +kernel
theorem dL_flushed_32 : decode cL_flushed 32 = .ok (.ifCond .ne 6, 3) := by decide +kernel
theorem dL_flushed_35 : decode cL_flushed 35 = .ok (.bipush (-2), 2) := by decide +kernel
theorem dL_flushed_37 : decode cL_flushed 37 = .ok (.ireturn, 1) := by decide +kernel
theorem dL_flushed_38 : decode cL_flushed 38 = .ok (.iinc 12 1, 3) := by decide +kernel
theorem dL_flushed_41 : decode cL_flushed 41 = .ok (.goto (-32), 3) := by decide +kernel
theorem dL_flushed_44 : decode cL_flushed 44 = .ok (.iload 11, 2) := by decide +kernel
theorem dL_flushed_46 : decode cL_flushed 46 = .ok (.ifCond .ne 5, 3) := by decide +kernel
theorem dL_flushed_49 : decode cL_flushed 49 = .ok (.iconst (-1), 1) := by decide +kernel
theorem dL_flushed_50 : decode cL_flushed 50 = .ok (.ireturn, 1) := by decide +kernel
theorem dL_flushed_51 : decode cL_flushed 51 = .ok (.aload_n 2, 1) := by decide +kernel
theorem dL_flushed_52 : decode cL_flushed 52 = .ok (.aload 10, 2) := by decide +kernel
theorem dL_flushed_54 : decode cL_flushed 54 = .ok (.iconst 2, 1) := by decide +kernel
theorem dL_flushed_55 : decode cL_flushed 55 = .ok (.iaload, 1) := by decide +kernel
theorem dL_flushed_56 : decode cL_flushed 56 = .ok (.lconst 0, 1) := by decide +kernel
theorem dL_flushed_57 : decode cL_flushed 57 = .ok (.lastore, 1) := by decide +kernel
theorem dL_flushed_58 : decode cL_flushed 58 = .ok (.iconst 0, 1) := by decide +kernel
theorem dL_flushed_59 : decode cL_flushed 59 = .ok (.istore 12, 2) := by decide +kernel
theorem dL_flushed_61 : decode cL_flushed 61 = .ok (.iload 12, 2) := by decide +kernel
theorem dL_flushed_63 : decode cL_flushed 63 = .ok (.iload 11, 2) := by decide +kernel
theorem dL_flushed_65 : decode cL_flushed 65 = .ok (.if_icmp .ge 47, 3) := by decide +kernel
theorem dL_flushed_68 : decode cL_flushed 68 = .ok (.aload_n 0, 1) := by decide +kernel
theorem dL_flushed_69 : decode cL_flushed 69 = .ok (.aload 10, 2) := by decide +kernel
theorem dL_flushed_71 : decode cL_flushed 71 = .ok (.iconst 0, 1) := by decide +kernel
theorem dL_flushed_72 : decode cL_flushed 72 = .ok (.iaload, 1) := by decide +kernel
theorem dL_flushed_73 : decode cL_flushed 73 = .ok (.aload_n 1, 1) := by decide +kernel
theorem dL_flushed_74 : decode cL_flushed 74 = .ok (.iload 12, 2) := by decide +kernel
theorem dL_flushed_76 : decode cL_flushed 76 = .ok (.laload, 1) := by decide +kernel
theorem dL_flushed_77 : decode cL_flushed 77 = .ok (.lastore, 1) := by decide +kernel
theorem dL_flushed_78 : decode cL_flushed 78 = .ok (.aload_n 2, 1) := by decide +kernel
theorem dL_flushed_79 : decode cL_flushed 79 = .ok (.aload 10, 2) := by decide +kernel
theorem dL_flushed_81 : decode cL_flushed 81 = .ok (.iconst 2, 1) := by decide +kernel
theorem dL_flushed_82 : decode cL_flushed 82 = .ok (.iaload, 1) := by decide +kernel
theorem dL_flushed_83 : decode cL_flushed 83 = .ok (.dup2, 1) := by decide +kernel
theorem dL_flushed_84 : decode cL_flushed 84 = .ok (.laload, 1) := by decide +kernel
theorem dL_flushed_85 : decode cL_flushed 85 = .ok (.aload 10, 2) := by decide +kernel
theorem dL_flushed_87 : decode cL_flushed 87 = .ok (.iconst 0, 1) := by decide +kernel
theorem dL_flushed_88 : decode cL_flushed 88 = .ok (.iaload, 1) := by decide +kernel
theorem dL_flushed_89 : decode cL_flushed 89 = .ok (.i2l, 1) := by decide +kernel
theorem dL_flushed_90 : decode cL_flushed 90 = .ok (.bipush 6, 2) := by decide +kernel
theorem dL_flushed_92 : decode cL_flushed 92 = .ok (.iload 12, 2) := by decide +kernel
theorem dL_flushed_94 : decode cL_flushed 94 = .ok (.imul, 1) := by decide +kernel
theorem dL_flushed_95 : decode cL_flushed 95 = .ok (.lshl, 1) := by decide +kernel
theorem dL_flushed_96 : decode cL_flushed 96 = .ok (.lor, 1) := by decide +kernel
theorem dL_flushed_97 : decode cL_flushed 97 = .ok (.lastore, 1) := by decide +kernel
theorem dL_flushed_98 : decode cL_flushed 98 = .ok (.aload 10, 2) := by decide +kernel
theorem dL_flushed_100 : decode cL_flushed 100 = .ok (.iconst 0, 1) := by decide +kernel
theorem dL_flushed_101 : decode cL_flushed 101 = .ok (.dup2, 1) := by decide +kernel
theorem dL_flushed_102 : decode cL_flushed 102 = .ok (.iaload, 1) := by decide +kernel
theorem dL_flushed_103 : decode cL_flushed 103 = .ok (.iconst 1, 1) := by decide +kernel
theorem dL_flushed_104 : decode cL_flushed 104 = .ok (.iadd, 1) := by decide +kernel
theorem dL_flushed_105 : decode cL_flushed 105 = .ok (.iastore, 1) := by decide +kernel
theorem dL_flushed_106 : decode cL_flushed 106 = .ok (.iinc 12 1, 3) := by decide +kernel
theorem dL_flushed_109 : decode cL_flushed 109 = .ok (.goto (-48), 3) := by decide +kernel
theorem dL_flushed_112 : decode cL_flushed 112 = .ok (.aload_n 3, 1) := by decide +kernel
theorem dL_flushed_113 : decode cL_flushed 113 = .ok (.aload 10, 2) := by decide +kernel
theorem dL_flushed_115 : decode cL_flushed 115 = .ok (.iconst 2, 1) := by decide +kernel
theorem dL_flushed_116 : decode cL_flushed 116 = .ok (.iaload, 1) := by decide +kernel
theorem dL_flushed_117 : decode cL_flushed 117 = .ok (.iload 11, 2) := by decide +kernel
theorem dL_flushed_119 : decode cL_flushed 119 = .ok (.iastore, 1) := by decide +kernel
theorem dL_flushed_120 : decode cL_flushed 120 = .ok (.aload 4, 2) := by decide +kernel
theorem dL_flushed_122 : decode cL_flushed 122 = .ok (.aload 10, 2) := by decide +kernel
theorem dL_flushed_124 : decode cL_flushed 124 = .ok (.iconst 2, 1) := by decide +kernel
theorem dL_flushed_125 : decode cL_flushed 125 = .ok (.iaload, 1) := by decide +kernel
theorem dL_flushed_126 : decode cL_flushed 126 = .ok (.iconst 1, 1) := by decide +kernel
theorem dL_flushed_127 : decode cL_flushed 127 = .ok (.iload 11, 2) := by decide +kernel
theorem dL_flushed_129 : decode cL_flushed 129 = .ok (.ishl, 1) := by decide +kernel
theorem dL_flushed_130 : decode cL_flushed 130 = .ok (.iconst 1, 1) := by decide +kernel
theorem dL_flushed_131 : decode cL_flushed 131 = .ok (.isub, 1) := by decide +kernel
theorem dL_flushed_132 : decode cL_flushed 132 = .ok (.iastore, 1) := by decide +kernel
theorem dL_flushed_133 : decode cL_flushed 133 = .ok (.aload 5, 2) := by decide +kernel
theorem dL_flushed_135 : decode cL_flushed 135 = .ok (.aload 10, 2) := by decide +kernel
theorem dL_flushed_137 : decode cL_flushed 137 = .ok (.iconst 2, 1) := by decide +kernel
theorem dL_flushed_138 : decode cL_flushed 138 = .ok (.iaload, 1) := by decide +kernel
theorem dL_flushed_139 : decode cL_flushed 139 = .ok (.aload 4, 2) := by decide +kernel
theorem dL_flushed_141 : decode cL_flushed 141 = .ok (.aload 10, 2) := by decide +kernel
theorem dL_flushed_143 : decode cL_flushed 143 = .ok (.iconst 2, 1) := by decide +kernel
theorem dL_flushed_144 : decode cL_flushed 144 = .ok (.iaload, 1) := by decide +kernel
theorem dL_flushed_145 : decode cL_flushed 145 = .ok (.iaload, 1) := by decide +kernel
theorem dL_flushed_146 : decode cL_flushed 146 = .ok (.iastore, 1) := by decide +kernel
theorem dL_flushed_147 : decode cL_flushed 147 = .ok (.aload 6, 2) := by decide +kernel
theorem dL_flushed_149 : decode cL_flushed 149 = .ok (.aload 10, 2) := by decide +kernel
theorem dL_flushed_151 : decode cL_flushed 151 = .ok (.iconst 3, 1) := by decide +kernel
theorem dL_flushed_152 : decode cL_flushed 152 = .ok (.iaload, 1) := by decide +kernel
theorem dL_flushed_153 : decode cL_flushed 153 = .ok (.aload 10, 2) := by decide +kernel
theorem dL_flushed_155 : decode cL_flushed 155 = .ok (.iconst 2, 1) := by decide +kernel
theorem dL_flushed_156 : decode cL_flushed 156 = .ok (.iaload, 1) := by decide +kernel
theorem dL_flushed_157 : decode cL_flushed 157 = .ok (.iastore, 1) := by decide +kernel
theorem dL_flushed_158 : decode cL_flushed 158 = .ok (.aload 10, 2) := by decide +kernel
theorem dL_flushed_160 : decode cL_flushed 160 = .ok (.iconst 3, 1) := by decide +kernel
theorem dL_flushed_161 : decode cL_flushed 161 = .ok (.dup2, 1) := by decide +kernel
theorem dL_flushed_162 : decode cL_flushed 162 = .ok (.iaload, 1) := by decide +kernel
theorem dL_flushed_163 : decode cL_flushed 163 = .ok (.iconst 1, 1) := by decide +kernel
theorem dL_flushed_164 : decode cL_flushed 164 = .ok (.iadd, 1) := by decide +kernel
theorem dL_flushed_165 : decode cL_flushed 165 = .ok (.iastore, 1) := by decide +kernel
theorem dL_flushed_166 : decode cL_flushed 166 = .ok (.aload 10, 2) := by decide +kernel
theorem dL_flushed_168 : decode cL_flushed 168 = .ok (.iconst 2, 1) := by decide +kernel
theorem dL_flushed_169 : decode cL_flushed 169 = .ok (.dup2, 1) := by decide +kernel
theorem dL_flushed_170 : decode cL_flushed 170 = .ok (.iaload, 1) := by decide +kernel
theorem dL_flushed_171 : decode cL_flushed 171 = .ok (.iconst 1, 1) := by decide +kernel
theorem dL_flushed_172 : decode cL_flushed 172 = .ok (.iadd, 1) := by decide +kernel
theorem dL_flushed_173 : decode cL_flushed 173 = .ok (.iastore, 1) := by decide +kernel
theorem dL_flushed_174 : decode cL_flushed 174 = .ok (.aload 10, 2) := by decide +kernel
theorem dL_flushed_176 : decode cL_flushed 176 = .ok (.iconst 1, 1) := by decide +kernel
theorem dL_flushed_177 : decode cL_flushed 177 = .ok (.iconst 0, 1) := by decide +kernel
theorem dL_flushed_178 : decode cL_flushed 178 = .ok (.iastore, 1) := by decide +kernel
theorem dL_flushed_179 : decode cL_flushed 179 = .ok (.aload 10, 2) := by decide +kernel
theorem dL_flushed_181 : decode cL_flushed 181 = .ok (.iconst 2, 1) := by decide +kernel
theorem dL_flushed_182 : decode cL_flushed 182 = .ok (.iaload, 1) := by decide +kernel
theorem dL_flushed_183 : decode cL_flushed 183 = .ok (.iconst 1, 1) := by decide +kernel
theorem dL_flushed_184 : decode cL_flushed 184 = .ok (.isub, 1) := by decide +kernel
theorem dL_flushed_185 : decode cL_flushed 185 = .ok (.ireturn, 1) := by decide +kernel
theorem dL_tier_0 : decode cL_tier 0 = .ok (.iload_n 0, 1) := by decide +kernel
theorem dL_tier_1 : decode cL_tier 1 = .ok (.iconst 3, 1) := by decide +kernel
theorem dL_tier_2 : decode cL_tier 2 = .ok (.if_icmp .ge 7, 3) := by decide +kernel
theorem dL_tier_5 : decode cL_tier 5 = .ok (.iconst 0, 1) := by decide +kernel
theorem dL_tier_6 : decode cL_tier 6 = .ok (.goto 14, 3) := by decide +kernel
theorem dL_tier_9 : decode cL_tier 9 = .ok (.iload_n 0, 1) := by decide +kernel
theorem dL_tier_10 : decode cL_tier 10 = .ok (.bipush 9, 2) := by decide +kernel
theorem dL_tier_12 : decode cL_tier 12 = .ok (.if_icmp .ge 7, 3) := by decide +kernel
theorem dL_tier_15 : decode cL_tier 15 = .ok (.iconst 1, 1) := by decide +kernel
theorem dL_tier_16 : decode cL_tier 16 = .ok (.goto 4, 3) := by decide +kernel
theorem dL_tier_19 : decode cL_tier 19 = .ok (.iconst 2, 1) := by decide +kernel
theorem dL_tier_20 : decode cL_tier 20 = .ok (.ireturn, 1) := by decide +kernel
theorem dL_due_0 : decode cL_due 0 = .ok (.iconst (-1), 1) := by decide +kernel
theorem dL_due_1 : decode cL_due 1 = .ok (.istore_n 3, 1) := by decide +kernel
theorem dL_due_2 : decode cL_due 2 = .ok (.aload_n 2, 1) := by decide +kernel
theorem dL_due_3 : decode cL_due 3 = .ok (.iconst 3, 1) := by decide +kernel
theorem dL_due_4 : decode cL_due 4 = .ok (.iaload, 1) := by decide +kernel
theorem dL_due_5 : decode cL_due 5 = .ok (.iconst 3, 1) := by decide +kernel
theorem dL_due_6 : decode cL_due 6 = .ok (.isub, 1) := by decide +kernel
theorem dL_due_7 : decode cL_due 7 = .ok (.istore 4, 2) := by decide +kernel
theorem dL_due_9 : decode cL_due 9 = .ok (.iload 4, 2) := by decide +kernel
theorem dL_due_11 : decode cL_due 11 = .ok (.ifCond .lt 62, 3) := by decide +kernel
theorem dL_due_14 : decode cL_due 14 = .ok (.aload_n 0, 1) := by decide +kernel
theorem dL_due_15 : decode cL_due 15 = .ok (.aload_n 1, 1) := by decide +kernel
theorem dL_due_16 : decode cL_due 16 = .ok (.iload 4, 2) := by decide +kernel
theorem dL_due_18 : decode cL_due 18 = .ok (.iaload, 1) := by decide +kernel
theorem dL_due_19 : decode cL_due 19 = .ok (.iaload, 1) := by decide +kernel
theorem dL_due_20 : decode cL_due 20 = .ok (.invokestatic 61, 3) := by decide +kernel
theorem dL_due_23 : decode cL_due 23 = .ok (.aload_n 0, 1) := by decide +kernel
theorem dL_due_24 : decode cL_due 24 = .ok (.aload_n 1, 1) := by decide +kernel
theorem dL_due_25 : decode cL_due 25 = .ok (.iload 4, 2) := by decide +kernel
theorem dL_due_27 : decode cL_due 27 = .ok (.iconst 1, 1) := by decide +kernel
theorem dL_due_28 : decode cL_due 28 = .ok (.iadd, 1) := by decide +kernel
theorem dL_due_29 : decode cL_due 29 = .ok (.iaload, 1) := by decide +kernel
theorem dL_due_30 : decode cL_due 30 = .ok (.iaload, 1) := by decide +kernel
theorem dL_due_31 : decode cL_due 31 = .ok (.invokestatic 61, 3) := by decide +kernel
theorem dL_due_34 : decode cL_due 34 = .ok (.if_icmp .ne 31, 3) := by decide +kernel
theorem dL_due_37 : decode cL_due 37 = .ok (.aload_n 0, 1) := by decide +kernel
theorem dL_due_38 : decode cL_due 38 = .ok (.aload_n 1, 1) := by decide +kernel
theorem dL_due_39 : decode cL_due 39 = .ok (.iload 4, 2) := by decide +kernel
theorem dL_due_41 : decode cL_due 41 = .ok (.iaload, 1) := by decide +kernel
theorem dL_due_42 : decode cL_due 42 = .ok (.iaload, 1) := by decide +kernel
theorem dL_due_43 : decode cL_due 43 = .ok (.invokestatic 61, 3) := by decide +kernel
theorem dL_due_46 : decode cL_due 46 = .ok (.aload_n 0, 1) := by decide +kernel
theorem dL_due_47 : decode cL_due 47 = .ok (.aload_n 1, 1) := by decide +kernel
theorem dL_due_48 : decode cL_due 48 = .ok (.iload 4, 2) := by decide +kernel
theorem dL_due_50 : decode cL_due 50 = .ok (.iconst 2, 1) := by decide +kernel
theorem dL_due_51 : decode cL_due 51 = .ok (.iadd, 1) := by decide +kernel
theorem dL_due_52 : decode cL_due 52 = .ok (.iaload, 1) := by decide +kernel
theorem dL_due_53 : decode cL_due 53 = .ok (.iaload, 1) := by decide +kernel
theorem dL_due_54 : decode cL_due 54 = .ok (.invokestatic 61, 3) := by decide +kernel
theorem dL_due_57 : decode cL_due 57 = .ok (.if_icmp .ne 8, 3) := by decide +kernel
theorem dL_due_60 : decode cL_due 60 = .ok (.iload 4, 2) := by decide +kernel
theorem dL_due_62 : decode cL_due 62 = .ok (.goto 4, 3) := by decide +kernel
theorem dL_due_65 : decode cL_due 65 = .ok (.iload_n 3, 1) := by decide +kernel
theorem dL_due_66 : decode cL_due 66 = .ok (.istore_n 3, 1) := by decide +kernel
theorem dL_due_67 : decode cL_due 67 = .ok (.iinc 4 (-1), 3) := by decide +kernel
theorem dL_due_70 : decode cL_due 70 = .ok (.goto (-61), 3) := by decide +kernel
theorem dL_due_73 : decode cL_due 73 = .ok (.iload_n 3, 1) := by decide +kernel
theorem dL_due_74 : decode cL_due 74 = .ok (.ireturn, 1) := by decide +kernel
theorem dL_names_0 : decode cL_names 0 = .ok (.aload_n 0, 1) := by decide +kernel
theorem dL_names_1 : decode cL_names 1 = .ok (.iconst 1, 1) := by decide +kernel
theorem dL_names_2 : decode cL_names 2 = .ok (.aload_n 3, 1) := by decide +kernel
theorem dL_names_3 : decode cL_names 3 = .ok (.iconst 3, 1) := by decide +kernel
theorem dL_names_4 : decode cL_names 4 = .ok (.iaload, 1) := by decide +kernel
theorem dL_names_5 : decode cL_names 5 = .ok (.iastore, 1) := by decide +kernel
theorem dL_names_6 : decode cL_names 6 = .ok (.iconst 0, 1) := by decide +kernel
theorem dL_names_7 : decode cL_names 7 = .ok (.istore 4, 2) := by decide +kernel
theorem dL_names_9 : decode cL_names 9 = .ok (.iload 4, 2) := by decide +kernel
theorem dL_names_11 : decode cL_names 11 = .ok (.aload_n 3, 1) := by decide +kernel
theorem dL_names_12 : decode cL_names 12 = .ok (.iconst 3, 1) := by decide +kernel
theorem dL_names_13 : decode cL_names 13 = .ok (.iaload, 1) := by decide +kernel
theorem dL_names_14 : decode cL_names 14 = .ok (.if_icmp .ge 19, 3) := by decide +kernel
theorem dL_names_17 : decode cL_names 17 = .ok (.aload_n 0, 1) := by decide +kernel
theorem dL_names_18 : decode cL_names 18 = .ok (.iconst 2, 1) := by decide +kernel
theorem dL_names_19 : decode cL_names 19 = .ok (.iload 4, 2) := by decide +kernel
theorem dL_names_21 : decode cL_names 21 = .ok (.iadd, 1) := by decide +kernel
theorem dL_names_22 : decode cL_names 22 = .ok (.aload_n 1, 1) := by decide +kernel
theorem dL_names_23 : decode cL_names 23 = .ok (.iload 4, 2) := by decide +kernel
theorem dL_names_25 : decode cL_names 25 = .ok (.iaload, 1) := by decide +kernel
theorem dL_names_26 : decode cL_names 26 = .ok (.iastore, 1) := by decide +kernel
theorem dL_names_27 : decode cL_names 27 = .ok (.iinc 4 1, 3) := by decide +kernel
theorem dL_names_30 : decode cL_names 30 = .ok (.goto (-21), 3) := by decide +kernel
theorem dL_names_33 : decode cL_names 33 = .ok (.iconst 0, 1) := by decide +kernel
theorem dL_names_34 : decode cL_names 34 = .ok (.istore 4, 2) := by decide +kernel
theorem dL_names_36 : decode cL_names 36 = .ok (.iload 4, 2) := by decide +kernel
theorem dL_names_38 : decode cL_names 38 = .ok (.bipush 30, 2) := by decide +kernel
theorem dL_names_40 : decode cL_names 40 = .ok (.if_icmp .ge 20, 3) := by decide +kernel
theorem dL_names_43 : decode cL_names 43 = .ok (.aload_n 0, 1) := by decide +kernel
theorem dL_names_44 : decode cL_names 44 = .ok (.bipush 32, 2) := by decide +kernel
theorem dL_names_46 : decode cL_names 46 = .ok (.iload 4, 2) := by decide +kernel
theorem dL_names_48 : decode cL_names 48 = .ok (.iadd, 1) := by decide +kernel
theorem dL_names_49 : decode cL_names 49 = .ok (.aload_n 2, 1) := by decide +kernel
theorem dL_names_50 : decode cL_names 50 = .ok (.iload 4, 2) := by decide +kernel
theorem dL_names_52 : decode cL_names 52 = .ok (.iaload, 1) := by decide +kernel
theorem dL_names_53 : decode cL_names 53 = .ok (.iastore, 1) := by decide +kernel
theorem dL_names_54 : decode cL_names 54 = .ok (.iinc 4 1, 3) := by decide +kernel
theorem dL_names_57 : decode cL_names 57 = .ok (.goto (-21), 3) := by decide +kernel
theorem dL_names_60 : decode cL_names 60 = .ok (.return_, 1) := by decide +kernel
theorem dL_isIn_0 : decode cL_isIn 0 = .ok (.iconst 0, 1) := by decide +kernel
theorem dL_isIn_1 : decode cL_isIn 1 = .ok (.istore_n 2, 1) := by decide +kernel
theorem dL_isIn_2 : decode cL_isIn 2 = .ok (.iconst 0, 1) := by decide +kernel
theorem dL_isIn_3 : decode cL_isIn 3 = .ok (.istore_n 3, 1) := by decide +kernel
theorem dL_isIn_4 : decode cL_isIn 4 = .ok (.aload_n 0, 1) := by decide +kernel
theorem dL_isIn_5 : decode cL_isIn 5 = .ok (.iconst 0, 1) := by decide +kernel
theorem dL_isIn_6 : decode cL_isIn 6 = .ok (.iaload, 1) := by decide +kernel
theorem dL_isIn_7 : decode cL_isIn 7 = .ok (.ifCond .le 35, 3) := by decide +kernel
theorem dL_isIn_10 : decode cL_isIn 10 = .ok (.iload_n 3, 1) := by decide +kernel
theorem dL_isIn_11 : decode cL_isIn 11 = .ok (.aload_n 0, 1) := by decide +kernel
theorem dL_isIn_12 : decode cL_isIn 12 = .ok (.iconst 1, 1) := by decide +kernel
theorem dL_isIn_13 : decode cL_isIn 13 = .ok (.iaload, 1) := by decide +kernel
theorem dL_isIn_14 : decode cL_isIn 14 = .ok (.if_icmp .ge 28, 3) := by decide +kernel
theorem dL_isIn_17 : decode cL_isIn 17 = .ok (.iload_n 2, 1) := by decide +kernel
theorem dL_isIn_18 : decode cL_isIn 18 = .ok (.ifCond .ne 12, 3) := by decide +kernel
theorem dL_isIn_21 : decode cL_isIn 21 = .ok (.aload_n 0, 1) := by decide +kernel
theorem dL_isIn_22 : decode cL_isIn 22 = .ok (.iconst 2, 1) := by decide +kernel
theorem dL_isIn_23 : decode cL_isIn 23 = .ok (.iload_n 3, 1) := by decide +kernel
theorem dL_isIn_24 : decode cL_isIn 24 = .ok (.iadd, 1) := by decide +kernel
theorem dL_isIn_25 : decode cL_isIn 25 = .ok (.iaload, 1) := by decide +kernel
theorem dL_isIn_26 : decode cL_isIn 26 = .ok (.iload_n 1, 1) := by decide +kernel
theorem dL_isIn_27 : decode cL_isIn 27 = .ok (.if_icmp .ne 7, 3) := by decide +kernel
theorem dL_isIn_30 : decode cL_isIn 30 = .ok (.iconst 1, 1) := by decide +kernel
theorem dL_isIn_31 : decode cL_isIn 31 = .ok (.goto 4, 3) := by decide +kernel
theorem dL_isIn_34 : decode cL_isIn 34 = .ok (.iconst 0, 1) := by decide +kernel
theorem dL_isIn_35 : decode cL_isIn 35 = .ok (.istore_n 2, 1) := by decide +kernel
theorem dL_isIn_36 : decode cL_isIn 36 = .ok (.iinc 3 1, 3) := by decide +kernel
theorem dL_isIn_39 : decode cL_isIn 39 = .ok (.goto (-35), 3) := by decide +kernel
theorem dL_isIn_42 : decode cL_isIn 42 = .ok (.iload_n 2, 1) := by decide +kernel
theorem dL_isIn_43 : decode cL_isIn 43 = .ok (.ireturn, 1) := by decide +kernel
theorem dL_files_0 : decode cL_files 0 = .ok (.aload_n 2, 1) := by decide +kernel
theorem dL_files_1 : decode cL_files 1 = .ok (.iconst 0, 1) := by decide +kernel
theorem dL_files_2 : decode cL_files 2 = .ok (.iaload, 1) := by decide +kernel
theorem dL_files_3 : decode cL_files 3 = .ok (.ifCond .le 7, 3) := by decide +kernel
theorem dL_files_6 : decode cL_files 6 = .ok (.iconst 1, 1) := by decide +kernel
theorem dL_files_7 : decode cL_files 7 = .ok (.goto 4, 3) := by decide +kernel
theorem dL_files_10 : decode cL_files 10 = .ok (.iconst 0, 1) := by decide +kernel
theorem dL_files_11 : decode cL_files 11 = .ok (.aload_n 3, 1) := by decide +kernel
theorem dL_files_12 : decode cL_files 12 = .ok (.iconst 0, 1) := by decide +kernel
theorem dL_files_13 : decode cL_files 13 = .ok (.iaload, 1) := by decide +kernel
theorem dL_files_14 : decode cL_files 14 = .ok (.ifCond .le 7, 3) := by decide +kernel
theorem dL_files_17 : decode cL_files 17 = .ok (.iconst 1, 1) := by decide +kernel
theorem dL_files_18 : decode cL_files 18 = .ok (.goto 4, 3) := by decide +kernel
theorem dL_files_21 : decode cL_files 21 = .ok (.iconst 0, 1) := by decide +kernel
theorem dL_files_22 : decode cL_files 22 = .ok (.iadd, 1) := by decide +kernel
theorem dL_files_23 : decode cL_files 23 = .ok (.aload 6, 2) := by decide +kernel
theorem dL_files_25 : decode cL_files 25 = .ok (.bipush 9, 2) := by decide +kernel
theorem dL_files_27 : decode cL_files 27 = .ok (.iaload, 1) := by decide +kernel
theorem dL_files_28 : decode cL_files 28 = .ok (.iconst 1, 1) := by decide +kernel
theorem dL_files_29 : decode cL_files 29 = .ok (.if_icmp .ne 15, 3) := by decide +kernel
theorem dL_files_32 : decode cL_files 32 = .ok (.aload 6, 2) := by decide +kernel
theorem dL_files_34 : decode cL_files 34 = .ok (.bipush 11, 2) := by decide +kernel
theorem dL_files_36 : decode cL_files 36 = .ok (.iaload, 1) := by decide +kernel
theorem dL_files_37 : decode cL_files 37 = .ok (.ifCond .le 7, 3) := by decide +kernel
theorem dL_files_40 : decode cL_files 40 = .ok (.iconst 1, 1) := by decide +kernel
theorem dL_files_41 : decode cL_files 41 = .ok (.goto 4, 3) := by decide +kernel
theorem dL_files_44 : decode cL_files 44 = .ok (.iconst 0, 1) := by decide +kernel
theorem dL_files_45 : decode cL_files 45 = .ok (.iadd, 1) := by decide +kernel
theorem dL_files_46 : decode cL_files 46 = .ok (.istore 7, 2) := by decide +kernel
theorem dL_files_48 : decode cL_files 48 = .ok (.iconst 0, 1) := by decide +kernel
theorem dL_files_49 : decode cL_files 49 = .ok (.istore 8, 2) := by decide +kernel
theorem dL_files_51 : decode cL_files 51 = .ok (.iload 8, 2) := by decide +kernel
theorem dL_files_53 : decode cL_files 53 = .ok (.aload 6, 2) := by decide +kernel
theorem dL_files_55 : decode cL_files 55 = .ok (.iconst 2, 1) := by decide +kernel
theorem dL_files_56 : decode cL_files 56 = .ok (.iaload, 1) := by decide +kernel
theorem dL_files_57 : decode cL_files 57 = .ok (.if_icmp .ge 201, 3) := by decide +kernel
theorem dL_files_60 : decode cL_files 60 = .ok (.aload_n 2, 1) := by decide +kernel
theorem dL_files_61 : decode cL_files 61 = .ok (.iload 8, 2) := by decide +kernel
theorem dL_files_63 : decode cL_files 63 = .ok (.invokestatic 64, 3) := by decide +kernel
theorem dL_files_66 : decode cL_files 66 = .ok (.ifCond .ne 32, 3) := by decide +kernel
theorem dL_files_69 : decode cL_files 69 = .ok (.aload_n 3, 1) := by decide +kernel
theorem dL_files_70 : decode cL_files 70 = .ok (.iload 8, 2) := by decide +kernel
theorem dL_files_72 : decode cL_files 72 = .ok (.invokestatic 64, 3) := by decide +kernel
theorem dL_files_75 : decode cL_files 75 = .ok (.ifCond .ne 23, 3) := by decide +kernel
theorem dL_files_78 : decode cL_files 78 = .ok (.aload 4, 2) := by decide +kernel
theorem dL_files_80 : decode cL_files 80 = .ok (.iload 8, 2) := by decide +kernel
theorem dL_files_82 : decode cL_files 82 = .ok (.invokestatic 64, 3) := by decide +kernel
theorem dL_files_85 : decode cL_files 85 = .ok (.ifCond .ne 13, 3) := by decide +kernel
theorem dL_files_88 : decode cL_files 88 = .ok (.aload 5, 2) := by decide +kernel
theorem dL_files_90 : decode cL_files 90 = .ok (.iload 8, 2) := by decide +kernel
theorem dL_files_92 : decode cL_files 92 = .ok (.invokestatic 64, 3) := by decide +kernel
theorem dL_files_95 : decode cL_files 95 = .ok (.ifCond .eq 7, 3) := by decide +kernel
theorem dL_files_98 : decode cL_files 98 = .ok (.iconst 1, 1) := by decide +kernel
theorem dL_files_99 : decode cL_files 99 = .ok (.goto 4, 3) := by decide +kernel
theorem dL_files_102 : decode cL_files 102 = .ok (.iconst 0, 1) := by decide +kernel
theorem dL_files_103 : decode cL_files 103 = .ok (.istore 9, 2) := by decide +kernel
theorem dL_files_105 : decode cL_files 105 = .ok (.iconst 0, 1) := by decide +kernel
theorem dL_files_106 : decode cL_files 106 = .ok (.istore 10, 2) := by decide +kernel
theorem dL_files_108 : decode cL_files 108 = .ok (.iload 10, 2) := by decide +kernel
theorem dL_files_110 : decode cL_files 110 = .ok (.aload 6, 2) := by decide +kernel
theorem dL_files_112 : decode cL_files 112 = .ok (.iconst 3, 1) := by decide +kernel
theorem dL_files_113 : decode cL_files 113 = .ok (.iaload, 1) := by decide +kernel
theorem dL_files_114 : decode cL_files 114 = .ok (.if_icmp .ge 30, 3) := by decide +kernel
theorem dL_files_117 : decode cL_files 117 = .ok (.iload 9, 2) := by decide +kernel
theorem dL_files_119 : decode cL_files 119 = .ok (.ifCond .ne 12, 3) := by decide +kernel
theorem dL_files_122 : decode cL_files 122 = .ok (.aload_n 1, 1) := by decide +kernel
theorem dL_files_123 : decode cL_files 123 = .ok (.iload 10, 2) := by decide +kernel
theorem dL_files_125 : decode cL_files 125 = .ok (.iaload, 1) := by decide +kernel
theorem dL_files_126 : decode cL_files 126 = .ok (.iload 8, 2) := by decide +kernel
theorem dL_files_128 : decode cL_files 128 = .ok (.if_icmp .ne 7, 3) := by decide +kernel
theorem dL_files_131 : decode cL_files 131 = .ok (.iconst 1, 1) := by decide +kernel
theorem dL_files_132 : decode cL_files 132 = .ok (.goto 4, 3) := by decide +kernel
theorem dL_files_135 : decode cL_files 135 = .ok (.iconst 0, 1) := by decide +kernel
theorem dL_files_136 : decode cL_files 136 = .ok (.istore 9, 2) := by decide +kernel
theorem dL_files_138 : decode cL_files 138 = .ok (.iinc 10 1, 3) := by decide +kernel
theorem dL_files_141 : decode cL_files 141 = .ok (.goto (-33), 3) := by decide +kernel
theorem dL_files_144 : decode cL_files 144 = .ok (.iconst 1, 1) := by decide +kernel
theorem dL_files_145 : decode cL_files 145 = .ok (.aload_n 0, 1) := by decide +kernel
theorem dL_files_146 : decode cL_files 146 = .ok (.iload 8, 2) := by decide +kernel
theorem dL_files_148 : decode cL_files 148 = .ok (.iaload, 1) := by decide +kernel
theorem dL_files_149 : decode cL_files 149 = .ok (.ishl, 1) := by decide +kernel
theorem dL_files_150 : decode cL_files 150 = .ok (.iconst 1, 1) := by decide +kernel
theorem dL_files_151 : decode cL_files 151 = .ok (.isub, 1) := by decide +kernel
theorem dL_files_152 : decode cL_files 152 = .ok (.istore 10, 2) := by decide +kernel
theorem dL_files_154 : decode cL_files 154 = .ok (.aload_n 2, 1) := by decide +kernel
theorem dL_files_155 : decode cL_files 155 = .ok (.iload 8, 2) := by decide +kernel
theorem dL_files_157 : decode cL_files 157 = .ok (.invokestatic 64, 3) := by decide +kernel
theorem dL_files_160 : decode cL_files 160 = .ok (.ifCond .eq 18, 3) := by decide +kernel
theorem dL_files_163 : decode cL_files 163 = .ok (.iload 10, 2) := by decide +kernel
theorem dL_files_165 : decode cL_files 165 = .ok (.aload_n 2, 1) := by decide +kernel
theorem dL_files_166 : decode cL_files 166 = .ok (.bipush 32, 2) := by decide +kernel
theorem dL_files_168 : decode cL_files 168 = .ok (.iload 8, 2) := by decide +kernel
theorem dL_files_170 : decode cL_files 170 = .ok (.iadd, 1) := by decide +kernel
theorem dL_files_171 : decode cL_files 171 = .ok (.iaload, 1) := by decide +kernel
theorem dL_files_172 : decode cL_files 172 = .ok (.iconst (-1), 1) := by decide +kernel
theorem dL_files_173 : decode cL_files 173 = .ok (.ixor, 1) := by decide +kernel
theorem dL_files_174 : decode cL_files 174 = .ok (.iand, 1) := by decide +kernel
theorem dL_files_175 : decode cL_files 175 = .ok (.goto 4, 3) := by decide +kernel
theorem dL_files_178 : decode cL_files 178 = .ok (.iconst 0, 1) := by decide +kernel
theorem dL_files_179 : decode cL_files 179 = .ok (.istore 11, 2) := by decide +kernel
theorem dL_files_181 : decode cL_files 181 = .ok (.aload_n 3, 1) := by decide +kernel
theorem dL_files_182 : decode cL_files 182 = .ok (.iload 8, 2) := by decide +kernel
theorem dL_files_184 : decode cL_files 184 = .ok (.invokestatic 64, 3) := by decide +kernel
theorem dL_files_187 : decode cL_files 187 = .ok (.ifCond .eq 18, 3) := by decide +kernel
theorem dL_files_190 : decode cL_files 190 = .ok (.iload 10, 2) := by decide +kernel
theorem dL_files_192 : decode cL_files 192 = .ok (.aload_n 3, 1) := by decide +kernel
theorem dL_files_193 : decode cL_files 193 = .ok (.bipush 32, 2) := by decide +kernel
theorem dL_files_195 : decode cL_files 195 = .ok (.iload 8, 2) := by decide +kernel
theorem dL_files_197 : decode cL_files 197 = .ok (.iadd, 1) := by decide +kernel
theorem dL_files_198 : decode cL_files 198 = .ok (.iaload, 1) := by decide +kernel
theorem dL_files_199 : decode cL_files 199 = .ok (.iconst (-1), 1) := by decide +kernel
theorem dL_files_200 : decode cL_files 200 = .ok (.ixor, 1) := by decide +kernel
theorem dL_files_201 : decode cL_files 201 = .ok (.iand, 1) := by decide +kernel
theorem dL_files_202 : decode cL_files 202 = .ok (.goto 4, 3) := by decide +kernel
theorem dL_files_205 : decode cL_files 205 = .ok (.iconst 0, 1) := by decide +kernel
theorem dL_files_206 : decode cL_files 206 = .ok (.istore 12, 2) := by decide +kernel
theorem dL_files_208 : decode cL_files 208 = .ok (.iload 7, 2) := by decide +kernel
theorem dL_files_210 : decode cL_files 210 = .ok (.iload 9, 2) := by decide +kernel
theorem dL_files_212 : decode cL_files 212 = .ok (.ifCond .eq 7, 3) := by decide +kernel
theorem dL_files_215 : decode cL_files 215 = .ok (.iconst 1, 1) := by decide +kernel
theorem dL_files_216 : decode cL_files 216 = .ok (.goto 4, 3) := by decide +kernel
theorem dL_files_219 : decode cL_files 219 = .ok (.iconst 0, 1) := by decide +kernel
theorem dL_files_220 : decode cL_files 220 = .ok (.iload 11, 2) := by decide +kernel
theorem dL_files_222 : decode cL_files 222 = .ok (.ifCond .eq 7, 3) := by decide +kernel
theorem dL_files_225 : decode cL_files 225 = .ok (.iconst 1, 1) := by decide +kernel
theorem dL_files_226 : decode cL_files 226 = .ok (.goto 4, 3) := by decide +kernel
theorem dL_files_229 : decode cL_files 229 = .ok (.iconst 0, 1) := by decide +kernel
theorem dL_files_230 : decode cL_files 230 = .ok (.iadd, 1) := by decide +kernel
theorem dL_files_231 : decode cL_files 231 = .ok (.iload 12, 2) := by decide +kernel
theorem dL_files_233 : decode cL_files 233 = .ok (.ifCond .eq 14, 3) := by decide +kernel
theorem dL_files_236 : decode cL_files 236 = .ok (.iload 12, 2) := by decide +kernel
theorem dL_files_238 : decode cL_files 238 = .ok (.iload 11, 2) := by decide +kernel
theorem dL_files_240 : decode cL_files 240 = .ok (.if_icmp .eq 7, 3) := by decide +kernel
theorem dL_files_243 : decode cL_files 243 = .ok (.iconst 1, 1) := by decide +kernel
theorem dL_files_244 : decode cL_files 244 = .ok (.goto 4, 3) := by decide +kernel
theorem dL_files_247 : decode cL_files 247 = .ok (.iconst 0, 1) := by decide +kernel
theorem dL_files_248 : decode cL_files 248 = .ok (.iadd, 1) := by decide +kernel
theorem dL_files_249 : decode cL_files 249 = .ok (.iadd, 1) := by decide +kernel
theorem dL_files_250 : decode cL_files 250 = .ok (.istore 7, 2) := by decide +kernel
theorem dL_files_252 : decode cL_files 252 = .ok (.iinc 8 1, 3) := by decide +kernel
theorem dL_files_255 : decode cL_files 255 = .ok (.goto (-204), 3) := by decide +kernel
theorem dL_files_258 : decode cL_files 258 = .ok (.iload 7, 2) := by decide +kernel
theorem dL_files_260 : decode cL_files 260 = .ok (.ireturn, 1) := by decide +kernel
