theorem dL_deletes_0 : decode cL_deletes 0 = .ok (.iconst 0, 1) := by decide +kernel
theorem dL_deletes_1 : decode cL_deletes 1 = .ok (.istore 8, 2) := by decide +kernel
theorem dL_deletes_3 : decode cL_deletes 3 = .ok (.iconst 0, 1) := by decide +kernel
theorem dL_deletes_4 : decode cL_deletes 4 = .ok (.istore 9, 2) := by decide +kernel
theorem dL_deletes_6 : decode cL_deletes 6 = .ok (.iconst 0, 1) := by decide +kernel
theorem dL_deletes_7 : decode cL_deletes 7 = .ok (.istore 10, 2) := by decide +kernel
theorem dL_deletes_9 : decode cL_deletes 9 = .ok (.iload 10, 2) := by decide +kernel
theorem dL_deletes_11 : decode cL_deletes 11 = .ok (.aload 6, 2) := by decide +kernel
theorem dL_deletes_13 : decode cL_deletes 13 = .ok (.iconst 1, 1) := by decide +kernel
theorem dL_deletes_14 : decode cL_deletes 14 = .ok (.iaload, 1) := by decide +kernel
theorem dL_deletes_15 : decode cL_deletes 15 = .ok (.if_icmp .ge 42, 3) := by decide +kernel
theorem dL_deletes_18 : decode cL_deletes 18 = .ok (.aload_n 1, 1) := by decide +kernel
theorem dL_deletes_19 : decode cL_deletes 19 = .ok (.iload 8, 2) := by decide +kernel
theorem dL_deletes_21 : decode cL_deletes 21 = .ok (.aload_n 1, 1) := by decide +kernel
theorem dL_deletes_22 : decode cL_deletes 22 = .ok (.iload 10, 2) := by decide +kernel
theorem dL_deletes_24 : decode cL_deletes 24 = .ok (.laload, 1) := by decide +kernel
theorem dL_deletes_25 : decode cL_deletes 25 = .ok (.lastore, 1) := by decide +kernel
theorem dL_deletes_26 : decode cL_deletes 26 = .ok (.iload 8, 2) := by decide +kernel
theorem dL_deletes_28 : decode cL_deletes 28 = .ok (.aload_n 1, 1) := by decide +kernel
theorem dL_deletes_29 : decode cL_deletes 29 = .ok (.iload 10, 2) := by decide +kernel
theorem dL_deletes_31 : decode cL_deletes 31 = .ok (.laload, 1) := by decide +kernel
theorem dL_deletes_32 : decode cL_deletes 32 = .ok (.ldc2_w 9, 3) := by decide +kernel
theorem dL_deletes_35 : decode cL_deletes 35 = .ok (.land, 1) := by decide +kernel
theorem dL_deletes_36 : decode cL_deletes 36 = .ok (.iload 7, 2) := by decide +kernel
theorem dL_deletes_38 : decode cL_deletes 38 = .ok (.i2l, 1) := by decide +kernel
theorem dL_deletes_39 : decode cL_deletes 39 = .ok (.lcmp, 1) := by decide +kernel
theorem dL_deletes_40 : decode cL_deletes 40 = .ok (.ifCond .ne 7, 3) := by decide +kernel
theorem dL_deletes_43 : decode cL_deletes 43 = .ok (.iconst 0, 1) := by decide +kernel
theorem dL_deletes_44 : decode cL_deletes 44 = .ok (.goto 4, 3) := by decide +kernel
theorem dL_deletes_47 : decode cL_deletes 47 = .ok (.iconst 1, 1) := by decide +kernel
theorem dL_deletes_48 : decode cL_deletes 48 = .ok (.iadd, 1) := by decide +kernel
theorem dL_deletes_49 : decode cL_deletes 49 = .ok (.istore 8, 2) := by decide +kernel
theorem dL_deletes_51 : decode cL_deletes 51 = .ok (.iinc 10 1, 3) := by decide +kernel
theorem dL_deletes_54 : decode cL_deletes 54 = .ok (.goto (-45), 3) := by decide +kernel
theorem dL_deletes_57 : decode cL_deletes 57 = .ok (.iload 9, 2) := by decide +kernel
theorem dL_deletes_59 : decode cL_deletes 59 = .ok (.aload 6, 2) := by decide +kernel
theorem dL_deletes_61 : decode cL_deletes 61 = .ok (.iconst 1, 1) := by decide +kernel
theorem dL_deletes_62 : decode cL_deletes 62 = .ok (.iaload, 1) := by decide +kernel
theorem dL_deletes_63 : decode cL_deletes 63 = .ok (.iload 8, 2) := by decide +kernel
theorem dL_deletes_65 : decode cL_deletes 65 = .ok (.isub, 1) := by decide +kernel
theorem dL_deletes_66 : decode cL_deletes 66 = .ok (.iadd, 1) := by decide +kernel
theorem dL_deletes_67 : decode cL_deletes 67 = .ok (.istore 9, 2) := by decide +kernel
theorem dL_deletes_69 : decode cL_deletes 69 = .ok (.aload 6, 2) := by decide +kernel
theorem dL_deletes_71 : decode cL_deletes 71 = .ok (.iconst 1, 1) := by decide +kernel
theorem dL_deletes_72 : decode cL_deletes 72 = .ok (.iload 8, 2) := by decide +kernel
theorem dL_deletes_74 : decode cL_deletes 74 = .ok (.iastore, 1) := by decide +kernel
theorem dL_deletes_75 : decode cL_deletes 75 = .ok (.iconst 0, 1) := by decide +kernel
theorem dL_deletes_76 : decode cL_deletes 76 = .ok (.istore 10, 2) := by decide +kernel
theorem dL_deletes_78 : decode cL_deletes 78 = .ok (.iload 10, 2) := by decide +kernel
theorem dL_deletes_80 : decode cL_deletes 80 = .ok (.aload 6, 2) := by decide +kernel
theorem dL_deletes_82 : decode cL_deletes 82 = .ok (.iconst 3, 1) := by decide +kernel
theorem dL_deletes_83 : decode cL_deletes 83 = .ok (.iaload, 1) := by decide +kernel
theorem dL_deletes_84 : decode cL_deletes 84 = .ok (.if_icmp .ge 119, 3) := by decide +kernel
theorem dL_deletes_87 : decode cL_deletes 87 = .ok (.iconst 0, 1) := by decide +kernel
theorem dL_deletes_88 : decode cL_deletes 88 = .ok (.istore 11, 2) := by decide +kernel
theorem dL_deletes_90 : decode cL_deletes 90 = .ok (.iload 11, 2) := by decide +kernel
theorem dL_deletes_92 : decode cL_deletes 92 = .ok (.aload_n 3, 1) := by decide +kernel
theorem dL_deletes_93 : decode cL_deletes 93 = .ok (.aload 5, 2) := by decide +kernel
theorem dL_deletes_95 : decode cL_deletes 95 = .ok (.iload 10, 2) := by decide +kernel
theorem dL_deletes_97 : decode cL_deletes 97 = .ok (.iaload, 1) := by decide +kernel
theorem dL_deletes_98 : decode cL_deletes 98 = .ok (.iaload, 1) := by decide +kernel
theorem dL_deletes_99 : decode cL_deletes 99 = .ok (.if_icmp .ge 98, 3) := by decide +kernel
theorem dL_deletes_102 : decode cL_deletes 102 = .ok (.aload 4, 2) := by decide +kernel
theorem dL_deletes_104 : decode cL_deletes 104 = .ok (.aload 5, 2) := by decide +kernel
theorem dL_deletes_106 : decode cL_deletes 106 = .ok (.iload 10, 2) := by decide +kernel
theorem dL_deletes_108 : decode cL_deletes 108 = .ok (.iaload, 1) := by decide +kernel
theorem dL_deletes_109 : decode cL_deletes 109 = .ok (.iaload, 1) := by decide +kernel
theorem dL_deletes_110 : decode cL_deletes 110 = .ok (.iload 11, 2) := by decide +kernel
theorem dL_deletes_112 : decode cL_deletes 112 = .ok (.ishr, 1) := by decide +kernel
theorem dL_deletes_113 : decode cL_deletes 113 = .ok (.iconst 1, 1) := by decide +kernel
theorem dL_deletes_114 : decode cL_deletes 114 = .ok (.iand, 1) := by decide +kernel
theorem dL_deletes_115 : decode cL_deletes 115 = .ok (.iconst 1, 1) := by decide +kernel
theorem dL_deletes_116 : decode cL_deletes 116 = .ok (.if_icmp .ne 31, 3) := by decide +kernel
theorem dL_deletes_119 : decode cL_deletes 119 = .ok (.aload_n 0, 1) := by decide +kernel
theorem dL_deletes_120 : decode cL_deletes 120 = .ok (.aload_n 2, 1) := by decide +kernel
theorem dL_deletes_121 : decode cL_deletes 121 = .ok (.aload 5, 2) := by decide +kernel
theorem dL_deletes_123 : decode cL_deletes 123 = .ok (.iload 10, 2) := by decide +kernel
theorem dL_deletes_125 : decode cL_deletes 125 = .ok (.iaload, 1) := by decide +kernel
theorem dL_deletes_126 : decode cL_deletes 126 = .ok (.iload 11, 2) := by decide +kernel
theorem dL_deletes_128 : decode cL_deletes 128 = .ok (.invokestatic 26, 3) := by decide +kernel
theorem dL_deletes_131 : decode cL_deletes 131 = .ok (.laload, 1) := by decide +kernel
theorem dL_deletes_132 : decode cL_deletes 132 = .ok (.ldc2_w 9, 3) := by decide +kernel
theorem dL_deletes_135 : decode cL_deletes 135 = .ok (.land, 1) := by decide +kernel
theorem dL_deletes_136 : decode cL_deletes 136 = .ok (.iload 7, 2) := by decide +kernel
theorem dL_deletes_138 : decode cL_deletes 138 = .ok (.i2l, 1) := by decide +kernel
theorem dL_deletes_139 : decode cL_deletes 139 = .ok (.lcmp, 1) := by decide +kernel
theorem dL_deletes_140 : decode cL_deletes 140 = .ok (.ifCond .ne 7, 3) := by decide +kernel
theorem dL_deletes_143 : decode cL_deletes 143 = .ok (.iconst 1, 1) := by decide +kernel
theorem dL_deletes_144 : decode cL_deletes 144 = .ok (.goto 4, 3) := by decide +kernel
theorem dL_deletes_147 : decode cL_deletes 147 = .ok (.iconst 0, 1) := by decide +kernel
theorem dL_deletes_148 : decode cL_deletes 148 = .ok (.istore 12, 2) := by decide +kernel
theorem dL_deletes_150 : decode cL_deletes 150 = .ok (.aload 4, 2) := by decide +kernel
theorem dL_deletes_152 : decode cL_deletes 152 = .ok (.aload 5, 2) := by decide +kernel
theorem dL_deletes_154 : decode cL_deletes 154 = .ok (.iload 10, 2) := by decide +kernel
theorem dL_deletes_156 : decode cL_deletes 156 = .ok (.iaload, 1) := by decide +kernel
theorem dL_deletes_157 : decode cL_deletes 157 = .ok (.dup2, 1) := by decide +kernel
theorem dL_deletes_158 : decode cL_deletes 158 = .ok (.iaload, 1) := by decide +kernel
theorem dL_deletes_159 : decode cL_deletes 159 = .ok (.iload 12, 2) := by decide +kernel
theorem dL_deletes_161 : decode cL_deletes 161 = .ok (.ifCond .eq 12, 3) := by decide +kernel
theorem dL_deletes_164 : decode cL_deletes 164 = .ok (.iconst 1, 1) := by decide +kernel
theorem dL_deletes_165 : decode cL_deletes 165 = .ok (.iload 11, 2) := by decide +kernel
theorem dL_deletes_167 : decode cL_deletes 167 = .ok (.ishl, 1) := by decide +kernel
theorem dL_deletes_168 : decode cL_deletes 168 = .ok (.iconst (-1), 1) := by decide +kernel
theorem dL_deletes_169 : decode cL_deletes 169 = .ok (.ixor, 1) := by decide +kernel
theorem dL_deletes_170 : decode cL_deletes 170 = .ok (.goto 4, 3) := by decide +kernel
theorem dL_deletes_173 : decode cL_deletes 173 = .ok (.iconst (-1), 1) := by decide +kernel
theorem dL_deletes_174 : decode cL_deletes 174 = .ok (.iand, 1) := by decide +kernel
theorem dL_deletes_175 : decode cL_deletes 175 = .ok (.iastore, 1) := by decide +kernel
theorem dL_deletes_176 : decode cL_deletes 176 = .ok (.iload 9, 2) := by decide +kernel
theorem dL_deletes_178 : decode cL_deletes 178 = .ok (.iload 12, 2) := by decide +kernel
theorem dL_deletes_180 : decode cL_deletes 180 = .ok (.ifCond .eq 7, 3) := by decide +kernel
theorem dL_deletes_183 : decode cL_deletes 183 = .ok (.iconst 1, 1) := by decide +kernel
theorem dL_deletes_184 : decode cL_deletes 184 = .ok (.goto 4, 3) := by decide +kernel
theorem dL_deletes_187 : decode cL_deletes 187 = .ok (.iconst 0, 1) := by decide +kernel
theorem dL_deletes_188 : decode cL_deletes 188 = .ok (.iadd, 1) := by decide +kernel
theorem dL_deletes_189 : decode cL_deletes 189 = .ok (.istore 9, 2) := by decide +kernel
theorem dL_deletes_191 : decode cL_deletes 191 = .ok (.iinc 11 1, 3) := by decide +kernel
theorem dL_deletes_194 : decode cL_deletes 194 = .ok (.goto (-104), 3) := by decide +kernel
theorem dL_deletes_197 : decode cL_deletes 197 = .ok (.iinc 10 1, 3) := by decide +kernel
theorem dL_deletes_200 : decode cL_deletes 200 = .ok (.goto (-122), 3) := by decide +kernel
theorem dL_deletes_203 : decode cL_deletes 203 = .ok (.iload 9, 2) := by decide +kernel
theorem dL_deletes_205 : decode cL_deletes 205 = .ok (.ireturn, 1) := by decide +kernel
theorem dL_copy_0 : decode cL_copy 0 = .ok (.bipush 64, 2) := by decide +kernel
theorem dL_copy_2 : decode cL_copy 2 = .ok (.newarray .int, 2) := by decide +kernel
theorem dL_copy_4 : decode cL_copy 4 = .ok (.astore_n 1, 1) := by decide +kernel
theorem dL_copy_5 : decode cL_copy 5 = .ok (.iconst 0, 1) := by decide +kernel
theorem dL_copy_6 : decode cL_copy 6 = .ok (.istore_n 2, 1) := by decide +kernel
theorem dL_copy_7 : decode cL_copy 7 = .ok (.iload_n 2, 1) := by decide +kernel
theorem dL_copy_8 : decode cL_copy 8 = .ok (.bipush 64, 2) := by decide +kernel
theorem dL_copy_10 : decode cL_copy 10 = .ok (.if_icmp .ge 15, 3) := by decide +kernel
theorem dL_copy_13 : decode cL_copy 13 = .ok (.aload_n 1, 1) := by decide +kernel
theorem dL_copy_14 : decode cL_copy 14 = .ok (.iload_n 2, 1) := by decide +kernel
theorem dL_copy_15 : decode cL_copy 15 = .ok (.aload_n 0, 1) := by decide +kernel
theorem dL_copy_16 : decode cL_copy 16 = .ok (.iload_n 2, 1) := by decide +kernel
theorem dL_copy_17 : decode cL_copy 17 = .ok (.iaload, 1) := by decide +kernel
theorem dL_copy_18 : decode cL_copy 18 = .ok (.iastore, 1) := by decide +kernel
theorem dL_copy_19 : decode cL_copy 19 = .ok (.iinc 2 1, 3) := by decide +kernel
theorem dL_copy_22 : decode cL_copy 22 = .ok (.goto (-15), 3) := by decide +kernel
theorem dL_copy_25 : decode cL_copy 25 = .ok (.aload_n 1, 1) := by decide +kernel
theorem dL_copy_26 : decode cL_copy 26 = .ok (.areturn, 1) := by decide +kernel
theorem dL_opens_0 : decode cL_opens 0 = .ok (.aload 5, 2) := by decide +kernel
theorem dL_opens_2 : decode cL_opens 2 = .ok (.bipush 6, 2) := by decide +kernel
theorem dL_opens_4 : decode cL_opens 4 = .ok (.iaload, 1) := by decide +kernel
theorem dL_opens_5 : decode cL_opens 5 = .ok (.ifCond .ne 20, 3) := by decide +kernel
theorem dL_opens_8 : decode cL_opens 8 = .ok (.aload_n 0, 1) := by decide +kernel
theorem dL_opens_9 : decode cL_opens 9 = .ok (.bipush 6, 2) := by decide +kernel
theorem dL_opens_11 : decode cL_opens 11 = .ok (.invokestatic 205, 3) := by decide +kernel
theorem dL_opens_14 : decode cL_opens 14 = .ok (.bipush (-7), 2) := by decide +kernel
theorem dL_opens_16 : decode cL_opens 16 = .ok (.if_icmp .ne 7, 3) := by decide +kernel
theorem dL_opens_19 : decode cL_opens 19 = .ok (.iconst 1, 1) := by decide +kernel
theorem dL_opens_20 : decode cL_opens 20 = .ok (.goto 4, 3) := by decide +kernel
theorem dL_opens_23 : decode cL_opens 23 = .ok (.iconst 0, 1) := by decide +kernel
theorem dL_opens_24 : decode cL_opens 24 = .ok (.ireturn, 1) := by decide +kernel
theorem dL_opens_25 : decode cL_opens 25 = .ok (.aload 5, 2) := by decide +kernel
theorem dL_opens_27 : decode cL_opens 27 = .ok (.bipush 6, 2) := by decide +kernel
theorem dL_opens_29 : decode cL_opens 29 = .ok (.iconst 0, 1) := by decide +kernel
theorem dL_opens_30 : decode cL_opens 30 = .ok (.iastore, 1) := by decide +kernel
theorem dL_opens_31 : decode cL_opens 31 = .ok (.aload 5, 2) := by decide +kernel
theorem dL_opens_33 : decode cL_opens 33 = .ok (.iconst 5, 1) := by decide +kernel
theorem dL_opens_34 : decode cL_opens 34 = .ok (.iconst (-1), 1) := by decide +kernel
theorem dL_opens_35 : decode cL_opens 35 = .ok (.iastore, 1) := by decide +kernel
theorem dL_opens_36 : decode cL_opens 36 = .ok (.aload 5, 2) := by decide +kernel
theorem dL_opens_38 : decode cL_opens 38 = .ok (.iconst 3, 1) := by decide +kernel
theorem dL_opens_39 : decode cL_opens 39 = .ok (.aload 4, 2) := by decide +kernel
theorem dL_opens_41 : decode cL_opens 41 = .ok (.iconst 0, 1) := by decide +kernel
theorem dL_opens_42 : decode cL_opens 42 = .ok (.iaload, 1) := by decide +kernel
theorem dL_opens_43 : decode cL_opens 43 = .ok (.iconst 1, 1) := by decide +kernel
theorem dL_opens_44 : decode cL_opens 44 = .ok (.if_icmp .ne 10, 3) := by decide +kernel
theorem dL_opens_47 : decode cL_opens 47 = .ok (.aload 4, 2) := by decide +kernel
theorem dL_opens_49 : decode cL_opens 49 = .ok (.iconst 1, 1) := by decide +kernel
theorem dL_opens_50 : decode cL_opens 50 = .ok (.iaload, 1) := by decide +kernel
theorem dL_opens_51 : decode cL_opens 51 = .ok (.goto 4, 3) := by decide +kernel
theorem dL_opens_54 : decode cL_opens 54 = .ok (.iconst 0, 1) := by decide +kernel
theorem dL_opens_55 : decode cL_opens 55 = .ok (.iastore, 1) := by decide +kernel
theorem dL_opens_56 : decode cL_opens 56 = .ok (.iconst 0, 1) := by decide +kernel
theorem dL_opens_57 : decode cL_opens 57 = .ok (.istore 6, 2) := by decide +kernel
theorem dL_opens_59 : decode cL_opens 59 = .ok (.iload 6, 2) := by decide +kernel
theorem dL_opens_61 : decode cL_opens 61 = .ok (.aload 5, 2) := by decide +kernel
theorem dL_opens_63 : decode cL_opens 63 = .ok (.iconst 3, 1) := by decide +kernel
theorem dL_opens_64 : decode cL_opens 64 = .ok (.iaload, 1) := by decide +kernel
theorem dL_opens_65 : decode cL_opens 65 = .ok (.if_icmp .ge 48, 3) := by decide +kernel
theorem dL_opens_68 : decode cL_opens 68 = .ok (.aload_n 3, 1) := by decide +kernel
theorem dL_opens_69 : decode cL_opens 69 = .ok (.iload 6, 2) := by decide +kernel
theorem dL_opens_71 : decode cL_opens 71 = .ok (.aload 4, 2) := by decide +kernel
theorem dL_opens_73 : decode cL_opens 73 = .ok (.iconst 2, 1) := by decide +kernel
theorem dL_opens_74 : decode cL_opens 74 = .ok (.iload 6, 2) := by decide +kernel
theorem dL_opens_76 : decode cL_opens 76 = .ok (.iadd, 1) := by decide +kernel
theorem dL_opens_77 : decode cL_opens 77 = .ok (.iaload, 1) := by decide +kernel
theorem dL_opens_78 : decode cL_opens 78 = .ok (.iastore, 1) := by decide +kernel
theorem dL_opens_79 : decode cL_opens 79 = .ok (.aload_n 1, 1) := by decide +kernel
theorem dL_opens_80 : decode cL_opens 80 = .ok (.aload_n 3, 1) := by decide +kernel
theorem dL_opens_81 : decode cL_opens 81 = .ok (.iload 6, 2) := by decide +kernel
theorem dL_opens_83 : decode cL_opens 83 = .ok (.iaload, 1) := by decide +kernel
theorem dL_opens_84 : decode cL_opens 84 = .ok (.aload 4, 2) := by decide +kernel
theorem dL_opens_86 : decode cL_opens 86 = .ok (.bipush 32, 2) := by decide +kernel
theorem dL_opens_88 : decode cL_opens 88 = .ok (.aload_n 3, 1) := by decide +kernel
theorem dL_opens_89 : decode cL_opens 89 = .ok (.iload 6, 2) := by decide +kernel
theorem dL_opens_91 : decode cL_opens 91 = .ok (.iaload, 1) := by decide +kernel
theorem dL_opens_92 : decode cL_opens 92 = .ok (.iadd, 1) := by decide +kernel
theorem dL_opens_93 : decode cL_opens 93 = .ok (.iaload, 1) := by decide +kernel
theorem dL_opens_94 : decode cL_opens 94 = .ok (.iastore, 1) := by decide +kernel
theorem dL_opens_95 : decode cL_opens 95 = .ok (.aload_n 2, 1) := by decide +kernel
theorem dL_opens_96 : decode cL_opens 96 = .ok (.aload_n 3, 1) := by decide +kernel
theorem dL_opens_97 : decode cL_opens 97 = .ok (.iload 6, 2) := by decide +kernel
theorem dL_opens_99 : decode cL_opens 99 = .ok (.iaload, 1) := by decide +kernel
theorem dL_opens_100 : decode cL_opens 100 = .ok (.aload_n 1, 1) := by decide +kernel
theorem dL_opens_101 : decode cL_opens 101 = .ok (.aload_n 3, 1) := by decide +kernel
theorem dL_opens_102 : decode cL_opens 102 = .ok (.iload 6, 2) := by decide +kernel
theorem dL_opens_104 : decode cL_opens 104 = .ok (.iaload, 1) := by decide +kernel
theorem dL_opens_105 : decode cL_opens 105 = .ok (.iaload, 1) := by decide +kernel
theorem dL_opens_106 : decode cL_opens 106 = .ok (.iastore, 1) := by decide +kernel
theorem dL_opens_107 : decode cL_opens 107 = .ok (.iinc 6 1, 3) := by decide +kernel
theorem dL_opens_110 : decode cL_opens 110 = .ok (.goto (-51), 3) := by decide +kernel
theorem dL_opens_113 : decode cL_opens 113 = .ok (.aload_n 0, 1) := by decide +kernel
theorem dL_opens_114 : decode cL_opens 114 = .ok (.bipush 6, 2) := by decide +kernel
theorem dL_opens_116 : decode cL_opens 116 = .ok (.invokestatic 205, 3) := by decide +kernel
theorem dL_opens_119 : decode cL_opens 119 = .ok (.aload 5, 2) := by decide +kernel
theorem dL_opens_121 : decode cL_opens 121 = .ok (.iconst 3, 1) := by decide +kernel
theorem dL_opens_122 : decode cL_opens 122 = .ok (.iaload, 1) := by decide +kernel
theorem dL_opens_123 : decode cL_opens 123 = .ok (.if_icmp .ne 7, 3) := by decide +kernel
theorem dL_opens_126 : decode cL_opens 126 = .ok (.iconst 1, 1) := by decide +kernel
theorem dL_opens_127 : decode cL_opens 127 = .ok (.goto 4, 3) := by decide +kernel
theorem dL_opens_130 : decode cL_opens 130 = .ok (.iconst 0, 1) := by decide +kernel
theorem dL_opens_131 : decode cL_opens 131 = .ok (.ireturn, 1) := by decide +kernel
theorem dL_looks_0 : decode cL_looks 0 = .ok (.iload 6, 2) := by decide +kernel
theorem dL_looks_2 : decode cL_looks 2 = .ok (.iconst 3, 1) := by decide +kernel
theorem dL_looks_3 : decode cL_looks 3 = .ok (.irem, 1) := by decide +kernel
theorem dL_looks_4 : decode cL_looks 4 = .ok (.ifCond .le 7, 3) := by decide +kernel
theorem dL_looks_7 : decode cL_looks 7 = .ok (.iconst 1, 1) := by decide +kernel
theorem dL_looks_8 : decode cL_looks 8 = .ok (.goto 4, 3) := by decide +kernel
theorem dL_looks_11 : decode cL_looks 11 = .ok (.iconst 0, 1) := by decide +kernel
theorem dL_looks_12 : decode cL_looks 12 = .ok (.istore 7, 2) := by decide +kernel
theorem dL_looks_14 : decode cL_looks 14 = .ok (.aload 5, 2) := by decide +kernel
theorem dL_looks_16 : decode cL_looks 16 = .ok (.bipush 6, 2) := by decide +kernel
theorem dL_looks_18 : decode cL_looks 18 = .ok (.iaload, 1) := by decide +kernel
theorem dL_looks_19 : decode cL_looks 19 = .ok (.iconst 1, 1) := by decide +kernel
theorem dL_looks_20 : decode cL_looks 20 = .ok (.if_icmp .ne 20, 3) := by decide +kernel
theorem dL_looks_23 : decode cL_looks 23 = .ok (.aload_n 0, 1) := by decide +kernel
theorem dL_looks_24 : decode cL_looks 24 = .ok (.iload 7, 2) := by decide +kernel
theorem dL_looks_26 : decode cL_looks 26 = .ok (.invokestatic 260, 3) := by decide +kernel
theorem dL_looks_29 : decode cL_looks 29 = .ok (.bipush (-7), 2) := by decide +kernel
theorem dL_looks_31 : decode cL_looks 31 = .ok (.if_icmp .ne 7, 3) := by decide +kernel
theorem dL_looks_34 : decode cL_looks 34 = .ok (.iconst 1, 1) := by decide +kernel
theorem dL_looks_35 : decode cL_looks 35 = .ok (.goto 4, 3) := by decide +kernel
theorem dL_looks_38 : decode cL_looks 38 = .ok (.iconst 0, 1) := by decide +kernel
theorem dL_looks_39 : decode cL_looks 39 = .ok (.ireturn, 1) := by decide +kernel
theorem dL_looks_40 : decode cL_looks 40 = .ok (.aload 4, 2) := by decide +kernel
theorem dL_looks_42 : decode cL_looks 42 = .ok (.iconst 0, 1) := by decide +kernel
theorem dL_looks_43 : decode cL_looks 43 = .ok (.iaload, 1) := by decide +kernel
theorem dL_looks_44 : decode cL_looks 44 = .ok (.ifCond .le 5, 3) := by decide +kernel
theorem dL_looks_47 : decode cL_looks 47 = .ok (.iconst 1, 1) := by decide +kernel
theorem dL_looks_48 : decode cL_looks 48 = .ok (.ireturn, 1) := by decide +kernel
theorem dL_looks_49 : decode cL_looks 49 = .ok (.aload 5, 2) := by decide +kernel
theorem dL_looks_51 : decode cL_looks 51 = .ok (.bipush 8, 2) := by decide +kernel
theorem dL_looks_53 : decode cL_looks 53 = .ok (.dup2, 1) := by decide +kernel
theorem dL_looks_54 : decode cL_looks 54 = .ok (.iaload, 1) := by decide +kernel
theorem dL_looks_55 : decode cL_looks 55 = .ok (.iconst 1, 1) := by decide +kernel
theorem dL_looks_56 : decode cL_looks 56 = .ok (.iadd, 1) := by decide +kernel
theorem dL_looks_57 : decode cL_looks 57 = .ok (.iastore, 1) := by decide +kernel
theorem dL_looks_58 : decode cL_looks 58 = .ok (.aload 4, 2) := by decide +kernel
theorem dL_looks_60 : decode cL_looks 60 = .ok (.iconst 0, 1) := by decide +kernel
theorem dL_looks_61 : decode cL_looks 61 = .ok (.aload 5, 2) := by decide +kernel
theorem dL_looks_63 : decode cL_looks 63 = .ok (.bipush 8, 2) := by decide +kernel
theorem dL_looks_65 : decode cL_looks 65 = .ok (.iaload, 1) := by decide +kernel
theorem dL_looks_66 : decode cL_looks 66 = .ok (.iastore, 1) := by decide +kernel
theorem dL_looks_67 : decode cL_looks 67 = .ok (.iload 7, 2) := by decide +kernel
theorem dL_looks_69 : decode cL_looks 69 = .ok (.ifCond .eq 15, 3) := by decide +kernel
theorem dL_looks_72 : decode cL_looks 72 = .ok (.aload 4, 2) := by decide +kernel
theorem dL_looks_74 : decode cL_looks 74 = .ok (.aload_n 2, 1) := by decide +kernel
theorem dL_looks_75 : decode cL_looks 75 = .ok (.aload_n 1, 1) := by decide +kernel
theorem dL_looks_76 : decode cL_looks 76 = .ok (.aload 5, 2) := by decide +kernel
theorem dL_looks_78 : decode cL_looks 78 = .ok (.invokestatic 249, 3) := by decide +kernel
theorem dL_looks_81 : decode cL_looks 81 = .ok (.goto 57, 3) := by decide +kernel
theorem dL_looks_84 : decode cL_looks 84 = .ok (.aload 4, 2) := by decide +kernel
theorem dL_looks_86 : decode cL_looks 86 = .ok (.iconst 1, 1) := by decide +kernel
theorem dL_looks_87 : decode cL_looks 87 = .ok (.aload_n 3, 1) := by decide +kernel
theorem dL_looks_88 : decode cL_looks 88 = .ok (.iconst 0, 1) := by decide +kernel
theorem dL_looks_89 : decode cL_looks 89 = .ok (.iaload, 1) := by decide +kernel
theorem dL_looks_90 : decode cL_looks 90 = .ok (.iconst 1, 1) := by decide +kernel
theorem dL_looks_91 : decode cL_looks 91 = .ok (.if_icmp .ne 9, 3) := by decide +kernel
theorem dL_looks_94 : decode cL_looks 94 = .ok (.aload_n 3, 1) := by decide +kernel
theorem dL_looks_95 : decode cL_looks 95 = .ok (.iconst 1, 1) := by decide +kernel
theorem dL_looks_96 : decode cL_looks 96 = .ok (.iaload, 1) := by decide +kernel
theorem dL_looks_97 : decode cL_looks 97 = .ok (.goto 4, 3) := by decide +kernel
theorem dL_looks_100 : decode cL_looks 100 = .ok (.iconst 0, 1) := by decide +kernel
theorem dL_looks_101 : decode cL_looks 101 = .ok (.iastore, 1) := by decide +kernel
theorem dL_looks_102 : decode cL_looks 102 = .ok (.iconst 0, 1) := by decide +kernel
theorem dL_looks_103 : decode cL_looks 103 = .ok (.istore 8, 2) := by decide +kernel
theorem dL_looks_105 : decode cL_looks 105 = .ok (.iload 8, 2) := by decide +kernel
theorem dL_looks_107 : decode cL_looks 107 = .ok (.bipush 62, 2) := by decide +kernel
theorem dL_looks_109 : decode cL_looks 109 = .ok (.if_icmp .ge 29, 3) := by decide +kernel
theorem dL_looks_112 : decode cL_looks 112 = .ok (.aload_n 3, 1) := by decide +kernel
theorem dL_looks_113 : decode cL_looks 113 = .ok (.iconst 0, 1) := by decide +kernel
theorem dL_looks_114 : decode cL_looks 114 = .ok (.iaload, 1) := by decide +kernel
theorem dL_looks_115 : decode cL_looks 115 = .ok (.iconst 1, 1) := by decide +kernel
theorem dL_looks_116 : decode cL_looks 116 = .ok (.if_icmp .ne 22, 3) := by decide +kernel
theorem dL_looks_119 : decode cL_looks 119 = .ok (.aload 4, 2) := by decide +kernel
theorem dL_looks_121 : decode cL_looks 121 = .ok (.iconst 2, 1) := by decide +kernel
theorem dL_looks_122 : decode cL_looks 122 = .ok (.iload 8, 2) := by decide +kernel
theorem dL_looks_124 : decode cL_looks 124 = .ok (.iadd, 1) := by decide +kernel
theorem dL_looks_125 : decode cL_looks 125 = .ok (.aload_n 3, 1) := by decide +kernel
theorem dL_looks_126 : decode cL_looks 126 = .ok (.iconst 2, 1) := by decide +kernel
theorem dL_looks_127 : decode cL_looks 127 = .ok (.iload 8, 2) := by decide +kernel
theorem dL_looks_129 : decode cL_looks 129 = .ok (.iadd, 1) := by decide +kernel
theorem dL_looks_130 : decode cL_looks 130 = .ok (.iaload, 1) := by decide +kernel
theorem dL_looks_131 : decode cL_looks 131 = .ok (.iastore, 1) := by decide +kernel
theorem dL_looks_132 : decode cL_looks 132 = .ok (.iinc 8 1, 3) := by decide +kernel
theorem dL_looks_135 : decode cL_looks 135 = .ok (.goto (-30), 3) := by decide +kernel
theorem dL_looks_138 : decode cL_looks 138 = .ok (.aload_n 0, 1) := by decide +kernel
theorem dL_looks_139 : decode cL_looks 139 = .ok (.iload 7, 2) := by decide +kernel
theorem dL_looks_141 : decode cL_looks 141 = .ok (.invokestatic 260, 3) := by decide +kernel
theorem dL_looks_144 : decode cL_looks 144 = .ok (.aload 5, 2) := by decide +kernel
theorem dL_looks_146 : decode cL_looks 146 = .ok (.bipush 8, 2) := by decide +kernel
theorem dL_looks_148 : decode cL_looks 148 = .ok (.iaload, 1) := by decide +kernel
theorem dL_looks_149 : decode cL_looks 149 = .ok (.iconst 1, 1) := by decide +kernel
theorem dL_looks_150 : decode cL_looks 150 = .ok (.isub, 1) := by decide +kernel
theorem dL_looks_151 : decode cL_looks 151 = .ok (.if_icmp .ne 7, 3) := by decide +kernel
theorem dL_looks_154 : decode cL_looks 154 = .ok (.iconst 1, 1) := by decide +kernel
theorem dL_looks_155 : decode cL_looks 155 = .ok (.goto 4, 3) := by decide +kernel
theorem dL_looks_158 : decode cL_looks 158 = .ok (.iconst 0, 1) := by decide +kernel
theorem dL_looks_159 : decode cL_looks 159 = .ok (.ireturn, 1) := by decide +kernel
