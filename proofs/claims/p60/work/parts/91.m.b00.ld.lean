theorem dL_from_0 : decode cL_from 0 = .ok (.aload_n 0, 1) := by decide +kernel
theorem dL_from_1 : decode cL_from 1 = .ok (.arraylength, 1) := by decide +kernel
theorem dL_from_2 : decode cL_from 2 = .ok (.ifCond .ne 15, 3) := by decide +kernel
theorem dL_from_5 : decode cL_from 5 = .ok (.sipush 311, 3) := by decide +kernel
theorem dL_from_8 : decode cL_from 8 = .ok (.iload_n 1, 1) := by decide +kernel
theorem dL_from_9 : decode cL_from 9 = .ok (.imul, 1) := by decide +kernel
theorem dL_from_10 : decode cL_from 10 = .ok (.sipush 277, 3) := by decide +kernel
theorem dL_from_13 : decode cL_from 13 = .ok (.iadd, 1) := by decide +kernel
theorem dL_from_14 : decode cL_from 14 = .ok (.goto 14, 3) := by decide +kernel
theorem dL_from_17 : decode cL_from 17 = .ok (.aload_n 0, 1) := by decide +kernel
theorem dL_from_18 : decode cL_from 18 = .ok (.iload_n 1, 1) := by decide +kernel
theorem dL_from_19 : decode cL_from 19 = .ok (.aload_n 0, 1) := by decide +kernel
theorem dL_from_20 : decode cL_from 20 = .ok (.arraylength, 1) := by decide +kernel
theorem dL_from_21 : decode cL_from 21 = .ok (.irem, 1) := by decide +kernel
theorem dL_from_22 : decode cL_from 22 = .ok (.iaload, 1) := by decide +kernel
theorem dL_from_23 : decode cL_from 23 = .ok (.ldc 7, 2) := by decide +kernel
theorem dL_from_25 : decode cL_from 25 = .ok (.iload_n 1, 1) := by decide +kernel
theorem dL_from_26 : decode cL_from 26 = .ok (.imul, 1) := by decide +kernel
theorem dL_from_27 : decode cL_from 27 = .ok (.ixor, 1) := by decide +kernel
theorem dL_from_28 : decode cL_from 28 = .ok (.istore_n 3, 1) := by decide +kernel
theorem dL_from_29 : decode cL_from 29 = .ok (.iload_n 3, 1) := by decide +kernel
theorem dL_from_30 : decode cL_from 30 = .ok (.ldc 8, 2) := by decide +kernel
theorem dL_from_32 : decode cL_from 32 = .ok (.iand, 1) := by decide +kernel
theorem dL_from_33 : decode cL_from 33 = .ok (.iload_n 2, 1) := by decide +kernel
theorem dL_from_34 : decode cL_from 34 = .ok (.irem, 1) := by decide +kernel
theorem dL_from_35 : decode cL_from 35 = .ok (.ireturn, 1) := by decide +kernel
theorem dL_word_0 : decode cL_word 0 = .ok (.iload_n 3, 1) := by decide +kernel
theorem dL_word_1 : decode cL_word 1 = .ok (.ifCond .lt 8, 3) := by decide +kernel
theorem dL_word_4 : decode cL_word 4 = .ok (.iload_n 3, 1) := by decide +kernel
theorem dL_word_5 : decode cL_word 5 = .ok (.iconst 4, 1) := by decide +kernel
theorem dL_word_6 : decode cL_word 6 = .ok (.if_icmp .le 7, 3) := by decide +kernel
theorem dL_word_9 : decode cL_word 9 = .ok (.iconst 0, 1) := by decide +kernel
theorem dL_word_10 : decode cL_word 10 = .ok (.goto 20, 3) := by decide +kernel
theorem dL_word_13 : decode cL_word 13 = .ok (.lload_n 0, 1) := by decide +kernel
theorem dL_word_14 : decode cL_word 14 = .ok (.iconst 4, 1) := by decide +kernel
theorem dL_word_15 : decode cL_word 15 = .ok (.bipush 20, 2) := by decide +kernel
theorem dL_word_17 : decode cL_word 17 = .ok (.iload_n 2, 1) := by decide +kernel
theorem dL_word_18 : decode cL_word 18 = .ok (.imul, 1) := by decide +kernel
theorem dL_word_19 : decode cL_word 19 = .ok (.iadd, 1) := by decide +kernel
theorem dL_word_20 : decode cL_word 20 = .ok (.iconst 4, 1) := by decide +kernel
theorem dL_word_21 : decode cL_word 21 = .ok (.iload_n 3, 1) := by decide +kernel
theorem dL_word_22 : decode cL_word 22 = .ok (.imul, 1) := by decide +kernel
theorem dL_word_23 : decode cL_word 23 = .ok (.iadd, 1) := by decide +kernel
theorem dL_word_24 : decode cL_word 24 = .ok (.lushr, 1) := by decide +kernel
theorem dL_word_25 : decode cL_word 25 = .ok (.ldc2_w 9, 3) := by decide +kernel
theorem dL_word_28 : decode cL_word 28 = .ok (.land, 1) := by decide +kernel
theorem dL_word_29 : decode cL_word 29 = .ok (.l2i, 1) := by decide +kernel
theorem dL_word_30 : decode cL_word 30 = .ok (.ireturn, 1) := by decide +kernel
theorem dL_has_0 : decode cL_has 0 = .ok (.lload_n 0, 1) := by decide +kernel
theorem dL_has_1 : decode cL_has 1 = .ok (.iload_n 2, 1) := by decide +kernel
theorem dL_has_2 : decode cL_has 2 = .ok (.iload_n 3, 1) := by decide +kernel
theorem dL_has_3 : decode cL_has 3 = .ok (.invokestatic 11, 3) := by decide +kernel
theorem dL_has_6 : decode cL_has 6 = .ok (.istore 5, 2) := by decide +kernel
theorem dL_has_8 : decode cL_has 8 = .ok (.iload 5, 2) := by decide +kernel
theorem dL_has_10 : decode cL_has 10 = .ok (.iconst 1, 1) := by decide +kernel
theorem dL_has_11 : decode cL_has 11 = .ok (.if_icmp .eq 9, 3) := by decide +kernel
theorem dL_has_14 : decode cL_has 14 = .ok (.iload 5, 2) := by decide +kernel
theorem dL_has_16 : decode cL_has 16 = .ok (.iconst 2, 1) := by decide +kernel
theorem dL_has_17 : decode cL_has 17 = .ok (.if_icmp .ne 7, 3) := by decide +kernel
theorem dL_has_20 : decode cL_has 20 = .ok (.iconst 0, 1) := by decide +kernel
theorem dL_has_21 : decode cL_has 21 = .ok (.goto 24, 3) := by decide +kernel
theorem dL_has_24 : decode cL_has 24 = .ok (.iload 5, 2) := by decide +kernel
theorem dL_has_26 : decode cL_has 26 = .ok (.iconst 2, 1) := by decide +kernel
theorem dL_has_27 : decode cL_has 27 = .ok (.if_icmp .le 17, 3) := by decide +kernel
theorem dL_has_30 : decode cL_has 30 = .ok (.iload 5, 2) := by decide +kernel
theorem dL_has_32 : decode cL_has 32 = .ok (.bipush 7, 2) := by decide +kernel
theorem dL_has_34 : decode cL_has 34 = .ok (.if_icmp .ge 10, 3) := by decide +kernel
theorem dL_has_37 : decode cL_has 37 = .ok (.iload 5, 2) := by decide +kernel
theorem dL_has_39 : decode cL_has 39 = .ok (.iconst 2, 1) := by decide +kernel
theorem dL_has_40 : decode cL_has 40 = .ok (.isub, 1) := by decide +kernel
theorem dL_has_41 : decode cL_has 41 = .ok (.goto 4, 3) := by decide +kernel
theorem dL_has_44 : decode cL_has 44 = .ok (.iconst (-1), 1) := by decide +kernel
theorem dL_has_45 : decode cL_has 45 = .ok (.istore 6, 2) := by decide +kernel
theorem dL_has_47 : decode cL_has 47 = .ok (.iload 6, 2) := by decide +kernel
theorem dL_has_49 : decode cL_has 49 = .ok (.ifCond .lt 25, 3) := by decide +kernel
theorem dL_has_52 : decode cL_has 52 = .ok (.iload 6, 2) := by decide +kernel
theorem dL_has_54 : decode cL_has 54 = .ok (.iload 4, 2) := by decide +kernel
theorem dL_has_56 : decode cL_has 56 = .ok (.if_icmp .eq 14, 3) := by decide +kernel
theorem dL_has_59 : decode cL_has 59 = .ok (.iload 6, 2) := by decide +kernel
theorem dL_has_61 : decode cL_has 61 = .ok (.ifCond .ne 13, 3) := by decide +kernel
theorem dL_has_64 : decode cL_has 64 = .ok (.iload 4, 2) := by decide +kernel
theorem dL_has_66 : decode cL_has 66 = .ok (.iconst 2, 1) := by decide +kernel
theorem dL_has_67 : decode cL_has 67 = .ok (.if_icmp .ne 7, 3) := by decide +kernel
theorem dL_has_70 : decode cL_has 70 = .ok (.iconst 1, 1) := by decide +kernel
theorem dL_has_71 : decode cL_has 71 = .ok (.goto 4, 3) := by decide +kernel
theorem dL_has_74 : decode cL_has 74 = .ok (.iconst 0, 1) := by decide +kernel
theorem dL_has_75 : decode cL_has 75 = .ok (.ireturn, 1) := by decide +kernel
theorem dL_count_0 : decode cL_count 0 = .ok (.iconst 0, 1) := by decide +kernel
theorem dL_count_1 : decode cL_count 1 = .ok (.istore 4, 2) := by decide +kernel
theorem dL_count_3 : decode cL_count 3 = .ok (.iconst 0, 1) := by decide +kernel
theorem dL_count_4 : decode cL_count 4 = .ok (.istore 5, 2) := by decide +kernel
theorem dL_count_6 : decode cL_count 6 = .ok (.iload 5, 2) := by decide +kernel
theorem dL_count_8 : decode cL_count 8 = .ok (.iconst 5, 1) := by decide +kernel
theorem dL_count_9 : decode cL_count 9 = .ok (.if_icmp .ge 30, 3) := by decide +kernel
theorem dL_count_12 : decode cL_count 12 = .ok (.iload 4, 2) := by decide +kernel
theorem dL_count_14 : decode cL_count 14 = .ok (.lload_n 0, 1) := by decide +kernel
theorem dL_count_15 : decode cL_count 15 = .ok (.iload_n 2, 1) := by decide +kernel
theorem dL_count_16 : decode cL_count 16 = .ok (.iload 5, 2) := by decide +kernel
theorem dL_count_18 : decode cL_count 18 = .ok (.iload_n 3, 1) := by decide +kernel
theorem dL_count_19 : decode cL_count 19 = .ok (.invokestatic 17, 3) := by decide +kernel
theorem dL_count_22 : decode cL_count 22 = .ok (.ifCond .eq 7, 3) := by decide +kernel
theorem dL_count_25 : decode cL_count 25 = .ok (.iconst 1, 1) := by decide +kernel
theorem dL_count_26 : decode cL_count 26 = .ok (.goto 4, 3) := by decide +kernel
theorem dL_count_29 : decode cL_count 29 = .ok (.iconst 0, 1) := by decide +kernel
theorem dL_count_30 : decode cL_count 30 = .ok (.iadd, 1) := by decide +kernel
theorem dL_count_31 : decode cL_count 31 = .ok (.istore 4, 2) := by decide +kernel
theorem dL_count_33 : decode cL_count 33 = .ok (.iinc 5 1, 3) := by decide +kernel
theorem dL_count_36 : decode cL_count 36 = .ok (.goto (-30), 3) := by decide +kernel
theorem dL_count_39 : decode cL_count 39 = .ok (.iload 4, 2) := by decide +kernel
theorem dL_count_41 : decode cL_count 41 = .ok (.ireturn, 1) := by decide +kernel
theorem dL_record_0 : decode cL_record 0 = .ok (.aload_n 0, 1) := by decide +kernel
theorem dL_record_1 : decode cL_record 1 = .ok (.iload_n 1, 1) := by decide +kernel
theorem dL_record_2 : decode cL_record 2 = .ok (.laload, 1) := by decide +kernel
theorem dL_record_3 : decode cL_record 3 = .ok (.bipush 6, 2) := by decide +kernel
theorem dL_record_5 : decode cL_record 5 = .ok (.iload_n 2, 1) := by decide +kernel
theorem dL_record_6 : decode cL_record 6 = .ok (.imul, 1) := by decide +kernel
theorem dL_record_7 : decode cL_record 7 = .ok (.lushr, 1) := by decide +kernel
theorem dL_record_8 : decode cL_record 8 = .ok (.ldc2_w 21, 3) := by decide +kernel
theorem dL_record_11 : decode cL_record 11 = .ok (.land, 1) := by decide +kernel
theorem dL_record_12 : decode cL_record 12 = .ok (.l2i, 1) := by decide +kernel
theorem dL_record_13 : decode cL_record 13 = .ok (.ireturn, 1) := by decide +kernel
theorem dL_leafCount_0 : decode cL_leafCount 0 = .ok (.iconst 0, 1) := by decide +kernel
theorem dL_leafCount_1 : decode cL_leafCount 1 = .ok (.istore_n 3, 1) := by decide +kernel
theorem dL_leafCount_2 : decode cL_leafCount 2 = .ok (.iload_n 2, 1) := by decide +kernel
theorem dL_leafCount_3 : decode cL_leafCount 3 = .ok (.iconst 2, 1) := by decide +kernel
theorem dL_leafCount_4 : decode cL_leafCount 4 = .ok (.if_icmp .ne 77, 3) := by decide +kernel
theorem dL_leafCount_7 : decode cL_leafCount 7 = .ok (.iconst 0, 1) := by decide +kernel
theorem dL_leafCount_8 : decode cL_leafCount 8 = .ok (.istore 4, 2) := by decide +kernel
theorem dL_leafCount_10 : decode cL_leafCount 10 = .ok (.iload 4, 2) := by decide +kernel
theorem dL_leafCount_12 : decode cL_leafCount 12 = .ok (.iconst 5, 1) := by decide +kernel
theorem dL_leafCount_13 : decode cL_leafCount 13 = .ok (.if_icmp .ge 66, 3) := by decide +kernel
theorem dL_leafCount_16 : decode cL_leafCount 16 = .ok (.lload_n 0, 1) := by decide +kernel
theorem dL_leafCount_17 : decode cL_leafCount 17 = .ok (.iconst 0, 1) := by decide +kernel
theorem dL_leafCount_18 : decode cL_leafCount 18 = .ok (.iload 4, 2) := by decide +kernel
theorem dL_leafCount_20 : decode cL_leafCount 20 = .ok (.iconst 2, 1) := by decide +kernel
theorem dL_leafCount_21 : decode cL_leafCount 21 = .ok (.iadd, 1) := by decide +kernel
theorem dL_leafCount_22 : decode cL_leafCount 22 = .ok (.iconst 2, 1) := by decide +kernel
theorem dL_leafCount_23 : decode cL_leafCount 23 = .ok (.invokestatic 17, 3) := by decide +kernel
theorem dL_leafCount_26 : decode cL_leafCount 26 = .ok (.ifCond .ne 16, 3) := by decide +kernel
theorem dL_leafCount_29 : decode cL_leafCount 29 = .ok (.lload_n 0, 1) := by decide +kernel
theorem dL_leafCount_30 : decode cL_leafCount 30 = .ok (.iconst 0, 1) := by decide +kernel
theorem dL_leafCount_31 : decode cL_leafCount 31 = .ok (.iload 4, 2) := by decide +kernel
theorem dL_leafCount_33 : decode cL_leafCount 33 = .ok (.iconst 3, 1) := by decide +kernel
theorem dL_leafCount_34 : decode cL_leafCount 34 = .ok (.iadd, 1) := by decide +kernel
theorem dL_leafCount_35 : decode cL_leafCount 35 = .ok (.iconst 2, 1) := by decide +kernel
theorem dL_leafCount_36 : decode cL_leafCount 36 = .ok (.invokestatic 17, 3) := by decide +kernel
theorem dL_leafCount_39 : decode cL_leafCount 39 = .ok (.ifCond .eq 7, 3) := by decide +kernel
theorem dL_leafCount_42 : decode cL_leafCount 42 = .ok (.iconst 1, 1) := by decide +kernel
theorem dL_leafCount_43 : decode cL_leafCount 43 = .ok (.goto 4, 3) := by decide +kernel
theorem dL_leafCount_46 : decode cL_leafCount 46 = .ok (.iconst 0, 1) := by decide +kernel
theorem dL_leafCount_47 : decode cL_leafCount 47 = .ok (.istore 5, 2) := by decide +kernel
theorem dL_leafCount_49 : decode cL_leafCount 49 = .ok (.iload_n 3, 1) := by decide +kernel
theorem dL_leafCount_50 : decode cL_leafCount 50 = .ok (.lload_n 0, 1) := by decide +kernel
theorem dL_leafCount_51 : decode cL_leafCount 51 = .ok (.iconst 0, 1) := by decide +kernel
theorem dL_leafCount_52 : decode cL_leafCount 52 = .ok (.iload 4, 2) := by decide +kernel
theorem dL_leafCount_54 : decode cL_leafCount 54 = .ok (.iconst 0, 1) := by decide +kernel
theorem dL_leafCount_55 : decode cL_leafCount 55 = .ok (.invokestatic 17, 3) := by decide +kernel
theorem dL_leafCount_58 : decode cL_leafCount 58 = .ok (.ifCond .eq 12, 3) := by decide +kernel
theorem dL_leafCount_61 : decode cL_leafCount 61 = .ok (.iload 5, 2) := by decide +kernel
theorem dL_leafCount_63 : decode cL_leafCount 63 = .ok (.ifCond .eq 7, 3) := by decide +kernel
theorem dL_leafCount_66 : decode cL_leafCount 66 = .ok (.iconst 1, 1) := by decide +kernel
theorem dL_leafCount_67 : decode cL_leafCount 67 = .ok (.goto 4, 3) := by decide +kernel
theorem dL_leafCount_70 : decode cL_leafCount 70 = .ok (.iconst 0, 1) := by decide +kernel
theorem dL_leafCount_71 : decode cL_leafCount 71 = .ok (.iadd, 1) := by decide +kernel
theorem dL_leafCount_72 : decode cL_leafCount 72 = .ok (.istore_n 3, 1) := by decide +kernel
theorem dL_leafCount_73 : decode cL_leafCount 73 = .ok (.iinc 4 1, 3) := by decide +kernel
theorem dL_leafCount_76 : decode cL_leafCount 76 = .ok (.goto (-66), 3) := by decide +kernel
theorem dL_leafCount_79 : decode cL_leafCount 79 = .ok (.iload_n 3, 1) := by decide +kernel
theorem dL_leafCount_80 : decode cL_leafCount 80 = .ok (.ireturn, 1) := by decide +kernel
theorem dL_leafCount_81 : decode cL_leafCount 81 = .ok (.iload_n 2, 1) := by decide +kernel
theorem dL_leafCount_82 : decode cL_leafCount 82 = .ok (.iconst 3, 1) := by decide +kernel
theorem dL_leafCount_83 : decode cL_leafCount 83 = .ok (.if_icmp .ne 103, 3) := by decide +kernel
theorem dL_leafCount_86 : decode cL_leafCount 86 = .ok (.iconst 0, 1) := by decide +kernel
theorem dL_leafCount_87 : decode cL_leafCount 87 = .ok (.istore 4, 2) := by decide +kernel
theorem dL_leafCount_89 : decode cL_leafCount 89 = .ok (.iload 4, 2) := by decide +kernel
theorem dL_leafCount_91 : decode cL_leafCount 91 = .ok (.iconst 5, 1) := by decide +kernel
theorem dL_leafCount_92 : decode cL_leafCount 92 = .ok (.if_icmp .ge 92, 3) := by decide +kernel
theorem dL_leafCount_95 : decode cL_leafCount 95 = .ok (.lload_n 0, 1) := by decide +kernel
theorem dL_leafCount_96 : decode cL_leafCount 96 = .ok (.iconst 0, 1) := by decide +kernel
theorem dL_leafCount_97 : decode cL_leafCount 97 = .ok (.iload 4, 2) := by decide +kernel
theorem dL_leafCount_99 : decode cL_leafCount 99 = .ok (.iconst 2, 1) := by decide +kernel
theorem dL_leafCount_100 : decode cL_leafCount 100 = .ok (.isub, 1) := by decide +kernel
theorem dL_leafCount_101 : decode cL_leafCount 101 = .ok (.iconst 3, 1) := by decide +kernel
theorem dL_leafCount_102 : decode cL_leafCount 102 = .ok (.invokestatic 17, 3) := by decide +kernel
theorem dL_leafCount_105 : decode cL_leafCount 105 = .ok (.ifCond .ne 42, 3) := by decide +kernel
theorem dL_leafCount_108 : decode cL_leafCount 108 = .ok (.lload_n 0, 1) := by decide +kernel
theorem dL_leafCount_109 : decode cL_leafCount 109 = .ok (.iconst 0, 1) := by decide +kernel
theorem dL_leafCount_110 : decode cL_leafCount 110 = .ok (.iload 4, 2) := by decide +kernel
theorem dL_leafCount_112 : decode cL_leafCount 112 = .ok (.iconst 1, 1) := by decide +kernel
theorem dL_leafCount_113 : decode cL_leafCount 113 = .ok (.isub, 1) := by decide +kernel
theorem dL_leafCount_114 : decode cL_leafCount 114 = .ok (.iconst 3, 1) := by decide +kernel
theorem dL_leafCount_115 : decode cL_leafCount 115 = .ok (.invokestatic 17, 3) := by decide +kernel
theorem dL_leafCount_118 : decode cL_leafCount 118 = .ok (.ifCond .ne 29, 3) := by decide +kernel
theorem dL_leafCount_121 : decode cL_leafCount 121 = .ok (.lload_n 0, 1) := by decide +kernel
theorem dL_leafCount_122 : decode cL_leafCount 122 = .ok (.iconst 0, 1) := by decide +kernel
theorem dL_leafCount_123 : decode cL_leafCount 123 = .ok (.iload 4, 2) := by decide +kernel
theorem dL_leafCount_125 : decode cL_leafCount 125 = .ok (.iconst 1, 1) := by decide +kernel
theorem dL_leafCount_126 : decode cL_leafCount 126 = .ok (.iadd, 1) := by decide +kernel
theorem dL_leafCount_127 : decode cL_leafCount 127 = .ok (.iconst 3, 1) := by decide +kernel
theorem dL_leafCount_128 : decode cL_leafCount 128 = .ok (.invokestatic 17, 3) := by decide +kernel
theorem dL_leafCount_131 : decode cL_leafCount 131 = .ok (.ifCond .ne 16, 3) := by decide +kernel
theorem dL_leafCount_134 : decode cL_leafCount 134 = .ok (.lload_n 0, 1) := by decide +kernel
theorem dL_leafCount_135 : decode cL_leafCount 135 = .ok (.iconst 0, 1) := by decide +kernel
theorem dL_leafCount_136 : decode cL_leafCount 136 = .ok (.iload 4, 2) := by decide +kernel
theorem dL_leafCount_138 : decode cL_leafCount 138 = .ok (.iconst 2, 1) := by decide +kernel
theorem dL_leafCount_139 : decode cL_leafCount 139 = .ok (.iadd, 1) := by decide +kernel
theorem dL_leafCount_140 : decode cL_leafCount 140 = .ok (.iconst 3, 1) := by decide +kernel
theorem dL_leafCount_141 : decode cL_leafCount 141 = .ok (.invokestatic 17, 3) := by decide +kernel
theorem dL_leafCount_144 : decode cL_leafCount 144 = .ok (.ifCond .eq 7, 3) := by decide +kernel
theorem dL_leafCount_147 : decode cL_leafCount 147 = .ok (.iconst 1, 1) := by decide +kernel
theorem dL_leafCount_148 : decode cL_leafCount 148 = .ok (.goto 4, 3) := by decide +kernel
theorem dL_leafCount_151 : decode cL_leafCount 151 = .ok (.iconst 0, 1) := by decide +kernel
theorem dL_leafCount_152 : decode cL_leafCount 152 = .ok (.istore 5, 2) := by decide +kernel
theorem dL_leafCount_154 : decode cL_leafCount 154 = .ok (.iload_n 3, 1) := by decide +kernel
theorem dL_leafCount_155 : decode cL_leafCount 155 = .ok (.lload_n 0, 1) := by decide +kernel
theorem dL_leafCount_156 : decode cL_leafCount 156 = .ok (.iconst 0, 1) := by decide +kernel
theorem dL_leafCount_157 : decode cL_leafCount 157 = .ok (.iload 4, 2) := by decide +kernel
theorem dL_leafCount_159 : decode cL_leafCount 159 = .ok (.iconst 0, 1) := by decide +kernel
theorem dL_leafCount_160 : decode cL_leafCount 160 = .ok (.invokestatic 17, 3) := by decide +kernel
theorem dL_leafCount_163 : decode cL_leafCount 163 = .ok (.ifCond .eq 12, 3) := by decide +kernel
theorem dL_leafCount_166 : decode cL_leafCount 166 = .ok (.iload 5, 2) := by decide +kernel
theorem dL_leafCount_168 : decode cL_leafCount 168 = .ok (.ifCond .eq 7, 3) := by decide +kernel
theorem dL_leafCount_171 : decode cL_leafCount 171 = .ok (.iconst 1, 1) := by decide +kernel
theorem dL_leafCount_172 : decode cL_leafCount 172 = .ok (.goto 4, 3) := by decide +kernel
theorem dL_leafCount_175 : decode cL_leafCount 175 = .ok (.iconst 0, 1) := by decide +kernel
theorem dL_leafCount_176 : decode cL_leafCount 176 = .ok (.iadd, 1) := by decide +kernel
theorem dL_leafCount_177 : decode cL_leafCount 177 = .ok (.istore_n 3, 1) := by decide +kernel
theorem dL_leafCount_178 : decode cL_leafCount 178 = .ok (.iinc 4 1, 3) := by decide +kernel
theorem dL_leafCount_181 : decode cL_leafCount 181 = .ok (.goto (-92), 3) := by decide +kernel
theorem dL_leafCount_184 : decode cL_leafCount 184 = .ok (.iload_n 3, 1) := by decide +kernel
theorem dL_leafCount_185 : decode cL_leafCount 185 = .ok (.ireturn, 1) := by decide +kernel
theorem dL_leafCount_186 : decode cL_leafCount 186 = .ok (.iload_n 2, 1) := by decide +kernel
theorem dL_leafCount_187 : decode cL_leafCount 187 = .ok (.ifCond .eq 9, 3) := by decide +kernel
theorem dL_leafCount_190 : decode cL_leafCount 190 = .ok (.iload_n 2, 1) := by decide +kernel
theorem dL_leafCount_191 : decode cL_leafCount 191 = .ok (.bipush 6, 2) := by decide +kernel
theorem dL_leafCount_193 : decode cL_leafCount 193 = .ok (.if_icmp .ne 12, 3) := by decide +kernel
theorem dL_leafCount_196 : decode cL_leafCount 196 = .ok (.lload_n 0, 1) := by decide +kernel
theorem dL_leafCount_197 : decode cL_leafCount 197 = .ok (.iconst 0, 1) := by decide +kernel
theorem dL_leafCount_198 : decode cL_leafCount 198 = .ok (.iconst 0, 1) := by decide +kernel
theorem dL_leafCount_199 : decode cL_leafCount 199 = .ok (.invokestatic 23, 3) := by decide +kernel
theorem dL_leafCount_202 : decode cL_leafCount 202 = .ok (.goto 61, 3) := by decide +kernel
theorem dL_leafCount_205 : decode cL_leafCount 205 = .ok (.iload_n 2, 1) := by decide +kernel
theorem dL_leafCount_206 : decode cL_leafCount 206 = .ok (.iconst 1, 1) := by decide +kernel
theorem dL_leafCount_207 : decode cL_leafCount 207 = .ok (.if_icmp .ne 12, 3) := by decide +kernel
theorem dL_leafCount_210 : decode cL_leafCount 210 = .ok (.lload_n 0, 1) := by decide +kernel
theorem dL_leafCount_211 : decode cL_leafCount 211 = .ok (.iconst 1, 1) := by decide +kernel
theorem dL_leafCount_212 : decode cL_leafCount 212 = .ok (.iconst 2, 1) := by decide +kernel
theorem dL_leafCount_213 : decode cL_leafCount 213 = .ok (.invokestatic 23, 3) := by decide +kernel
theorem dL_leafCount_216 : decode cL_leafCount 216 = .ok (.goto 47, 3) := by decide +kernel
theorem dL_leafCount_219 : decode cL_leafCount 219 = .ok (.iload_n 2, 1) := by decide +kernel
theorem dL_leafCount_220 : decode cL_leafCount 220 = .ok (.iconst 4, 1) := by decide +kernel
theorem dL_leafCount_221 : decode cL_leafCount 221 = .ok (.if_icmp .ne 12, 3) := by decide +kernel
theorem dL_leafCount_224 : decode cL_leafCount 224 = .ok (.lload_n 0, 1) := by decide +kernel
theorem dL_leafCount_225 : decode cL_leafCount 225 = .ok (.iconst 0, 1) := by decide +kernel
theorem dL_leafCount_226 : decode cL_leafCount 226 = .ok (.iconst 1, 1) := by decide +kernel
theorem dL_leafCount_227 : decode cL_leafCount 227 = .ok (.invokestatic 23, 3) := by decide +kernel
theorem dL_leafCount_230 : decode cL_leafCount 230 = .ok (.goto 33, 3) := by decide +kernel
theorem dL_leafCount_233 : decode cL_leafCount 233 = .ok (.iload_n 2, 1) := by decide +kernel
theorem dL_leafCount_234 : decode cL_leafCount 234 = .ok (.iconst 5, 1) := by decide +kernel
theorem dL_leafCount_235 : decode cL_leafCount 235 = .ok (.if_icmp .ne 12, 3) := by decide +kernel
theorem dL_leafCount_238 : decode cL_leafCount 238 = .ok (.lload_n 0, 1) := by decide +kernel
theorem dL_leafCount_239 : decode cL_leafCount 239 = .ok (.iconst 1, 1) := by decide +kernel
theorem dL_leafCount_240 : decode cL_leafCount 240 = .ok (.iconst 4, 1) := by decide +kernel
theorem dL_leafCount_241 : decode cL_leafCount 241 = .ok (.invokestatic 23, 3) := by decide +kernel
theorem dL_leafCount_244 : decode cL_leafCount 244 = .ok (.goto 19, 3) := by decide +kernel
theorem dL_leafCount_247 : decode cL_leafCount 247 = .ok (.lload_n 0, 1) := by decide +kernel
theorem dL_leafCount_248 : decode cL_leafCount 248 = .ok (.iconst 0, 1) := by decide +kernel
theorem dL_leafCount_249 : decode cL_leafCount 249 = .ok (.iload_n 2, 1) := by decide +kernel
theorem dL_leafCount_250 : decode cL_leafCount 250 = .ok (.bipush 7, 2) := by decide +kernel
theorem dL_leafCount_252 : decode cL_leafCount 252 = .ok (.if_icmp .ne 7, 3) := by decide +kernel
theorem dL_leafCount_255 : decode cL_leafCount 255 = .ok (.iconst 3, 1) := by decide +kernel
theorem dL_leafCount_256 : decode cL_leafCount 256 = .ok (.goto 4, 3) := by decide +kernel
theorem dL_leafCount_259 : decode cL_leafCount 259 = .ok (.iconst 4, 1) := by decide +kernel
theorem dL_leafCount_260 : decode cL_leafCount 260 = .ok (.invokestatic 23, 3) := by decide +kernel
theorem dL_leafCount_263 : decode cL_leafCount 263 = .ok (.ireturn, 1) := by decide +kernel
theorem dL_strength_0 : decode cL_strength 0 = .ok (.iload_n 0, 1) := by decide +kernel
theorem dL_strength_1 : decode cL_strength 1 = .ok (.ifCond .ne 7, 3) := by decide +kernel
theorem dL_strength_4 : decode cL_strength 4 = .ok (.iconst 0, 1) := by decide +kernel
theorem dL_strength_5 : decode cL_strength 5 = .ok (.goto 14, 3) := by decide +kernel
theorem dL_strength_8 : decode cL_strength 8 = .ok (.bipush 64, 2) := by decide +kernel
theorem dL_strength_10 : decode cL_strength 10 = .ok (.bipush 64, 2) := by decide +kernel
theorem dL_strength_12 : decode cL_strength 12 = .ok (.iload_n 0, 1) := by decide +kernel
theorem dL_strength_13 : decode cL_strength 13 = .ok (.iadd, 1) := by decide +kernel
theorem dL_strength_14 : decode cL_strength 14 = .ok (.iload_n 0, 1) := by decide +kernel
theorem dL_strength_15 : decode cL_strength 15 = .ok (.iconst 1, 1) := by decide +kernel
theorem dL_strength_16 : decode cL_strength 16 = .ok (.iadd, 1) := by decide +kernel
theorem dL_strength_17 : decode cL_strength 17 = .ok (.idiv, 1) := by decide +kernel
theorem dL_strength_18 : decode cL_strength 18 = .ok (.isub, 1) := by decide +kernel
theorem dL_strength_19 : decode cL_strength 19 = .ok (.ireturn, 1) := by decide +kernel
theorem dL_rarity_0 : decode cL_rarity 0 = .ok (.iconst 0, 1) := by decide +kernel
theorem dL_rarity_1 : decode cL_rarity 1 = .ok (.istore 6, 2) := by decide +kernel
theorem dL_rarity_3 : decode cL_rarity 3 = .ok (.iconst 0, 1) := by decide +kernel
theorem dL_rarity_4 : decode cL_rarity 4 = .ok (.istore 7, 2) := by decide +kernel
theorem dL_rarity_6 : decode cL_rarity 6 = .ok (.iconst 0, 1) := by decide +kernel
theorem dL_rarity_7 : decode cL_rarity 7 = .ok (.istore 8, 2) := by decide +kernel
theorem dL_rarity_9 : decode cL_rarity 9 = .ok (.iload 8, 2) := by decide +kernel
theorem dL_rarity_11 : decode cL_rarity 11 = .ok (.aload_n 3, 1) := by decide +kernel
theorem dL_rarity_12 : decode cL_rarity 12 = .ok (.iconst 1, 1) := by decide +kernel
theorem dL_rarity_13 : decode cL_rarity 13 = .ok (.iaload, 1) := by decide +kernel
theorem dL_rarity_14 : decode cL_rarity 14 = .ok (.if_icmp .ge 108, 3) := by decide +kernel
theorem dL_rarity_17 : decode cL_rarity 17 = .ok (.aload_n 3, 1) := by decide +kernel
theorem dL_rarity_18 : decode cL_rarity 18 = .ok (.iconst 2, 1) := by decide +kernel
theorem dL_rarity_19 : decode cL_rarity 19 = .ok (.iload 8, 2) := by decide +kernel
theorem dL_rarity_21 : decode cL_rarity 21 = .ok (.iadd, 1) := by decide +kernel
theorem dL_rarity_22 : decode cL_rarity 22 = .ok (.iaload, 1) := by decide +kernel
theorem dL_rarity_23 : decode cL_rarity 23 = .ok (.istore 9, 2) := by decide +kernel
theorem dL_rarity_25 : decode cL_rarity 25 = .ok (.iconst 0, 1) := by decide +kernel
theorem dL_rarity_26 : decode cL_rarity 26 = .ok (.istore 10, 2) := by decide +kernel
theorem dL_rarity_28 : decode cL_rarity 28 = .ok (.iload 10, 2) := by decide +kernel
theorem dL_rarity_30 : decode cL_rarity 30 = .ok (.aload_n 2, 1) := by decide +kernel
theorem dL_rarity_31 : decode cL_rarity 31 = .ok (.iload 9, 2) := by decide +kernel
theorem dL_rarity_33 : decode cL_rarity 33 = .ok (.iaload, 1) := by decide +kernel
theorem dL_rarity_34 : decode cL_rarity 34 = .ok (.if_icmp .ge 82, 3) := by decide +kernel
theorem dL_rarity_37 : decode cL_rarity 37 = .ok (.aload_n 3, 1) := by decide +kernel
theorem dL_rarity_38 : decode cL_rarity 38 = .ok (.bipush 32, 2) := by decide +kernel
theorem dL_rarity_40 : decode cL_rarity 40 = .ok (.iload 9, 2) := by decide +kernel
theorem dL_rarity_42 : decode cL_rarity 42 = .ok (.iadd, 1) := by decide +kernel
theorem dL_rarity_43 : decode cL_rarity 43 = .ok (.iaload, 1) := by decide +kernel
theorem dL_rarity_44 : decode cL_rarity 44 = .ok (.iload 10, 2) := by decide +kernel
theorem dL_rarity_46 : decode cL_rarity 46 = .ok (.ishr, 1) := by decide +kernel
theorem dL_rarity_47 : decode cL_rarity 47 = .ok (.iconst 1, 1) := by decide +kernel
theorem dL_rarity_48 : decode cL_rarity 48 = .ok (.iand, 1) := by decide +kernel
theorem dL_rarity_49 : decode cL_rarity 49 = .ok (.iconst 1, 1) := by decide +kernel
theorem dL_rarity_50 : decode cL_rarity 50 = .ok (.if_icmp .ne 7, 3) := by decide +kernel
theorem dL_rarity_53 : decode cL_rarity 53 = .ok (.iconst 1, 1) := by decide +kernel
theorem dL_rarity_54 : decode cL_rarity 54 = .ok (.goto 4, 3) := by decide +kernel
theorem dL_rarity_57 : decode cL_rarity 57 = .ok (.iconst 0, 1) := by decide +kernel
theorem dL_rarity_58 : decode cL_rarity 58 = .ok (.istore 11, 2) := by decide +kernel
theorem dL_rarity_60 : decode cL_rarity 60 = .ok (.iload 6, 2) := by decide +kernel
theorem dL_rarity_62 : decode cL_rarity 62 = .ok (.iload 11, 2) := by decide +kernel
theorem dL_rarity_64 : decode cL_rarity 64 = .ok (.ifCond .eq 7, 3) := by decide +kernel
theorem dL_rarity_67 : decode cL_rarity 67 = .ok (.iconst 1, 1) := by decide +kernel
theorem dL_rarity_68 : decode cL_rarity 68 = .ok (.goto 4, 3) := by decide +kernel
theorem dL_rarity_71 : decode cL_rarity 71 = .ok (.iconst 0, 1) := by decide +kernel
theorem dL_rarity_72 : decode cL_rarity 72 = .ok (.iadd, 1) := by decide +kernel
theorem dL_rarity_73 : decode cL_rarity 73 = .ok (.istore 6, 2) := by decide +kernel
theorem dL_rarity_75 : decode cL_rarity 75 = .ok (.iload 7, 2) := by decide +kernel
theorem dL_rarity_77 : decode cL_rarity 77 = .ok (.iload 11, 2) := by decide +kernel
theorem dL_rarity_79 : decode cL_rarity 79 = .ok (.ifCond .eq 27, 3) := by decide +kernel
theorem dL_rarity_82 : decode cL_rarity 82 = .ok (.aload_n 0, 1) := by decide +kernel
theorem dL_rarity_83 : decode cL_rarity 83 = .ok (.aload_n 1, 1) := by decide +kernel
theorem dL_rarity_84 : decode cL_rarity 84 = .ok (.iload 9, 2) := by decide +kernel
theorem dL_rarity_86 : decode cL_rarity 86 = .ok (.iload 10, 2) := by decide +kernel
theorem dL_rarity_88 : decode cL_rarity 88 = .ok (.invokestatic 26, 3) := by decide +kernel
theorem dL_rarity_91 : decode cL_rarity 91 = .ok (.laload, 1) := by decide +kernel
theorem dL_rarity_92 : decode cL_rarity 92 = .ok (.iload 4, 2) := by decide +kernel
theorem dL_rarity_94 : decode cL_rarity 94 = .ok (.iload 5, 2) := by decide +kernel
theorem dL_rarity_96 : decode cL_rarity 96 = .ok (.invokestatic 23, 3) := by decide +kernel
theorem dL_rarity_99 : decode cL_rarity 99 = .ok (.ifCond .le 7, 3) := by decide +kernel
theorem dL_rarity_102 : decode cL_rarity 102 = .ok (.iconst 1, 1) := by decide +kernel
theorem dL_rarity_103 : decode cL_rarity 103 = .ok (.goto 4, 3) := by decide +kernel
theorem dL_rarity_106 : decode cL_rarity 106 = .ok (.iconst 0, 1) := by decide +kernel
theorem dL_rarity_107 : decode cL_rarity 107 = .ok (.iadd, 1) := by decide +kernel
theorem dL_rarity_108 : decode cL_rarity 108 = .ok (.istore 7, 2) := by decide +kernel
theorem dL_rarity_110 : decode cL_rarity 110 = .ok (.iinc 10 1, 3) := by decide +kernel
theorem dL_rarity_113 : decode cL_rarity 113 = .ok (.goto (-85), 3) := by decide +kernel
theorem dL_rarity_116 : decode cL_rarity 116 = .ok (.iinc 8 1, 3) := by decide +kernel
theorem dL_rarity_119 : decode cL_rarity 119 = .ok (.goto (-110), 3) := by decide +kernel
theorem dL_rarity_122 : decode cL_rarity 122 = .ok (.iconst 1, 1) := by decide +kernel
theorem dL_rarity_123 : decode cL_rarity 123 = .ok (.istore 8, 2) := by decide +kernel
theorem dL_rarity_125 : decode cL_rarity 125 = .ok (.iload 6, 2) := by decide +kernel
theorem dL_rarity_127 : decode cL_rarity 127 = .ok (.iconst 1, 1) := by decide +kernel
theorem dL_rarity_128 : decode cL_rarity 128 = .ok (.iadd, 1) := by decide +kernel
theorem dL_rarity_129 : decode cL_rarity 129 = .ok (.iload 7, 2) := by decide +kernel
theorem dL_rarity_131 : decode cL_rarity 131 = .ok (.iconst 1, 1) := by decide +kernel
theorem dL_rarity_132 : decode cL_rarity 132 = .ok (.iadd, 1) := by decide +kernel
theorem dL_rarity_133 : decode cL_rarity 133 = .ok (.idiv, 1) := by decide +kernel
theorem dL_rarity_134 : decode cL_rarity 134 = .ok (.iload 8, 2) := by decide +kernel
theorem dL_rarity_136 : decode cL_rarity 136 = .ok (.ishr, 1) := by decide +kernel
theorem dL_rarity_137 : decode cL_rarity 137 = .ok (.ifCond .le 9, 3) := by decide +kernel
theorem dL_rarity_140 : decode cL_rarity 140 = .ok (.iinc 8 1, 3) := by decide +kernel
theorem dL_rarity_143 : decode cL_rarity 143 = .ok (.goto (-18), 3) := by decide +kernel
theorem dL_rarity_146 : decode cL_rarity 146 = .ok (.iload 8, 2) := by decide +kernel
theorem dL_rarity_148 : decode cL_rarity 148 = .ok (.ireturn, 1) := by decide +kernel
theorem dL_gains_0 : decode cL_gains 0 = .ok (.aload_n 0, 1) := by decide +kernel
theorem dL_gains_1 : decode cL_gains 1 = .ok (.aload_n 1, 1) := by decide +kernel
theorem dL_gains_2 : decode cL_gains 2 = .ok (.aload_n 2, 1) := by decide +kernel
theorem dL_gains_3 : decode cL_gains 3 = .ok (.aload_n 3, 1) := by decide +kernel
theorem dL_gains_4 : decode cL_gains 4 = .ok (.iconst 0, 1) := by decide +kernel
theorem dL_gains_5 : decode cL_gains 5 = .ok (.iconst 0, 1) := by decide +kernel
theorem dL_gains_6 : decode cL_gains 6 = .ok (.invokestatic 30, 3) := by decide +kernel
theorem dL_gains_9 : decode cL_gains 9 = .ok (.istore 5, 2) := by decide +kernel
theorem dL_gains_11 : decode cL_gains 11 = .ok (.aload_n 0, 1) := by decide +kernel
theorem dL_gains_12 : decode cL_gains 12 = .ok (.aload_n 1, 1) := by decide +kernel
theorem dL_gains_13 : decode cL_gains 13 = .ok (.aload_n 2, 1) := by decide +kernel
theorem dL_gains_14 : decode cL_gains 14 = .ok (.aload_n 3, 1) := by decide +kernel
theorem dL_gains_15 : decode cL_gains 15 = .ok (.iconst 0, 1) := by decide +kernel
theorem dL_gains_16 : decode cL_gains 16 = .ok (.iconst 2, 1) := by decide +kernel
theorem dL_gains_17 : decode cL_gains 17 = .ok (.invokestatic 30, 3) := by decide +kernel
theorem dL_gains_20 : decode cL_gains 20 = .ok (.istore 6, 2) := by decide +kernel
theorem dL_gains_22 : decode cL_gains 22 = .ok (.aload_n 0, 1) := by decide +kernel
theorem dL_gains_23 : decode cL_gains 23 = .ok (.aload_n 1, 1) := by decide +kernel
theorem dL_gains_24 : decode cL_gains 24 = .ok (.aload_n 2, 1) := by decide +kernel
theorem dL_gains_25 : decode cL_gains 25 = .ok (.aload_n 3, 1) := by decide +kernel
theorem dL_gains_26 : decode cL_gains 26 = .ok (.iconst 0, 1) := by decide +kernel
theorem dL_gains_27 : decode cL_gains 27 = .ok (.iconst 3, 1) := by decide +kernel
theorem dL_gains_28 : decode cL_gains 28 = .ok (.invokestatic 30, 3) := by decide +kernel
theorem dL_gains_31 : decode cL_gains 31 = .ok (.istore 7, 2) := by decide +kernel
theorem dL_gains_33 : decode cL_gains 33 = .ok (.aload 4, 2) := by decide +kernel
theorem dL_gains_35 : decode cL_gains 35 = .ok (.iconst 0, 1) := by decide +kernel
theorem dL_gains_36 : decode cL_gains 36 = .ok (.iconst 3, 1) := by decide +kernel
theorem dL_gains_37 : decode cL_gains 37 = .ok (.iload 5, 2) := by decide +kernel
theorem dL_gains_39 : decode cL_gains 39 = .ok (.imul, 1) := by decide +kernel
theorem dL_gains_40 : decode cL_gains 40 = .ok (.iastore, 1) := by decide +kernel
theorem dL_gains_41 : decode cL_gains 41 = .ok (.aload 4, 2) := by decide +kernel
theorem dL_gains_43 : decode cL_gains 43 = .ok (.iconst 1, 1) := by decide +kernel
theorem dL_gains_44 : decode cL_gains 44 = .ok (.aload_n 0, 1) := by decide +kernel
theorem dL_gains_45 : decode cL_gains 45 = .ok (.aload_n 1, 1) := by decide +kernel
theorem dL_gains_46 : decode cL_gains 46 = .ok (.aload_n 2, 1) := by decide +kernel
theorem dL_gains_47 : decode cL_gains 47 = .ok (.aload_n 3, 1) := by decide +kernel
theorem dL_gains_48 : decode cL_gains 48 = .ok (.iconst 1, 1) := by decide +kernel
theorem dL_gains_49 : decode cL_gains 49 = .ok (.iconst 2, 1) := by decide +kernel
theorem dL_gains_50 : decode cL_gains 50 = .ok (.invokestatic 30, 3) := by decide +kernel
theorem dL_gains_53 : decode cL_gains 53 = .ok (.iastore, 1) := by decide +kernel
theorem dL_gains_54 : decode cL_gains 54 = .ok (.aload 4, 2) := by decide +kernel
theorem dL_gains_56 : decode cL_gains 56 = .ok (.iconst 2, 1) := by decide +kernel
theorem dL_gains_57 : decode cL_gains 57 = .ok (.iconst 3, 1) := by decide +kernel
theorem dL_gains_58 : decode cL_gains 58 = .ok (.iload 5, 2) := by decide +kernel
theorem dL_gains_60 : decode cL_gains 60 = .ok (.iload 6, 2) := by decide +kernel
theorem dL_gains_62 : decode cL_gains 62 = .ok (.iadd, 1) := by decide +kernel
theorem dL_gains_63 : decode cL_gains 63 = .ok (.imul, 1) := by decide +kernel
theorem dL_gains_64 : decode cL_gains 64 = .ok (.iastore, 1) := by decide +kernel
theorem dL_gains_65 : decode cL_gains 65 = .ok (.aload 4, 2) := by decide +kernel
theorem dL_gains_67 : decode cL_gains 67 = .ok (.iconst 3, 1) := by decide +kernel
theorem dL_gains_68 : decode cL_gains 68 = .ok (.iconst 3, 1) := by decide +kernel
theorem dL_gains_69 : decode cL_gains 69 = .ok (.iload 5, 2) := by decide +kernel
theorem dL_gains_71 : decode cL_gains 71 = .ok (.iload 7, 2) := by decide +kernel
theorem dL_gains_73 : decode cL_gains 73 = .ok (.iadd, 1) := by decide +kernel
theorem dL_gains_74 : decode cL_gains 74 = .ok (.imul, 1) := by decide +kernel
theorem dL_gains_75 : decode cL_gains 75 = .ok (.iastore, 1) := by decide +kernel
theorem dL_gains_76 : decode cL_gains 76 = .ok (.aload 4, 2) := by decide +kernel
theorem dL_gains_78 : decode cL_gains 78 = .ok (.iconst 4, 1) := by decide +kernel
theorem dL_gains_79 : decode cL_gains 79 = .ok (.bipush 96, 2) := by decide +kernel
theorem dL_gains_81 : decode cL_gains 81 = .ok (.iastore, 1) := by decide +kernel
theorem dL_gains_82 : decode cL_gains 82 = .ok (.aload 4, 2) := by decide +kernel
theorem dL_gains_84 : decode cL_gains 84 = .ok (.iconst 5, 1) := by decide +kernel
theorem dL_gains_85 : decode cL_gains 85 = .ok (.bipush 32, 2) := by decide +kernel
theorem dL_gains_87 : decode cL_gains 87 = .ok (.iastore, 1) := by decide +kernel
theorem dL_gains_88 : decode cL_gains 88 = .ok (.aload 4, 2) := by decide +kernel
theorem dL_gains_90 : decode cL_gains 90 = .ok (.bipush 6, 2) := by decide +kernel
theorem dL_gains_92 : decode cL_gains 92 = .ok (.bipush 96, 2) := by decide +kernel
theorem dL_gains_94 : decode cL_gains 94 = .ok (.iastore, 1) := by decide +kernel
theorem dL_gains_95 : decode cL_gains 95 = .ok (.aload 4, 2) := by decide +kernel
theorem dL_gains_97 : decode cL_gains 97 = .ok (.bipush 7, 2) := by decide +kernel
theorem dL_gains_99 : decode cL_gains 99 = .ok (.iconst 3, 1) := by decide +kernel
theorem dL_gains_100 : decode cL_gains 100 = .ok (.iload 7, 2) := by decide +kernel
theorem dL_gains_102 : decode cL_gains 102 = .ok (.imul, 1) := by decide +kernel
theorem dL_gains_103 : decode cL_gains 103 = .ok (.iastore, 1) := by decide +kernel
theorem dL_gains_104 : decode cL_gains 104 = .ok (.aload 4, 2) := by decide +kernel
theorem dL_gains_106 : decode cL_gains 106 = .ok (.bipush 8, 2) := by decide +kernel
theorem dL_gains_108 : decode cL_gains 108 = .ok (.iconst 3, 1) := by decide +kernel
theorem dL_gains_109 : decode cL_gains 109 = .ok (.aload_n 0, 1) := by decide +kernel
theorem dL_gains_110 : decode cL_gains 110 = .ok (.aload_n 1, 1) := by decide +kernel
theorem dL_gains_111 : decode cL_gains 111 = .ok (.aload_n 2, 1) := by decide +kernel
theorem dL_gains_112 : decode cL_gains 112 = .ok (.aload_n 3, 1) := by decide +kernel
theorem dL_gains_113 : decode cL_gains 113 = .ok (.iconst 0, 1) := by decide +kernel
theorem dL_gains_114 : decode cL_gains 114 = .ok (.iconst 4, 1) := by decide +kernel
theorem dL_gains_115 : decode cL_gains 115 = .ok (.invokestatic 30, 3) := by decide +kernel
theorem dL_gains_118 : decode cL_gains 118 = .ok (.imul, 1) := by decide +kernel
theorem dL_gains_119 : decode cL_gains 119 = .ok (.iastore, 1) := by decide +kernel
theorem dL_gains_120 : decode cL_gains 120 = .ok (.return_, 1) := by decide +kernel
theorem dL_gives_0 : decode cL_gives 0 = .ok (.lload_n 0, 1) := by decide +kernel
theorem dL_gives_1 : decode cL_gives 1 = .ok (.iload_n 2, 1) := by decide +kernel
theorem dL_gives_2 : decode cL_gives 2 = .ok (.invokestatic 34, 3) := by decide +kernel
theorem dL_gives_5 : decode cL_gives 5 = .ok (.istore 4, 2) := by decide +kernel
theorem dL_gives_7 : decode cL_gives 7 = .ok (.iload 4, 2) := by decide +kernel
theorem dL_gives_9 : decode cL_gives 9 = .ok (.ifCond .ne 7, 3) := by decide +kernel
theorem dL_gives_12 : decode cL_gives 12 = .ok (.iconst 0, 1) := by decide +kernel
theorem dL_gives_13 : decode cL_gives 13 = .ok (.goto 29, 3) := by decide +kernel
theorem dL_gives_16 : decode cL_gives 16 = .ok (.iload_n 2, 1) := by decide +kernel
theorem dL_gives_17 : decode cL_gives 17 = .ok (.iconst 3, 1) := by decide +kernel
theorem dL_gives_18 : decode cL_gives 18 = .ok (.if_icmp .le 15, 3) := by decide +kernel
theorem dL_gives_21 : decode cL_gives 21 = .ok (.iload_n 2, 1) := by decide +kernel
theorem dL_gives_22 : decode cL_gives 22 = .ok (.bipush 7, 2) := by decide +kernel
theorem dL_gives_24 : decode cL_gives 24 = .ok (.if_icmp .ge 9, 3) := by decide +kernel
theorem dL_gives_27 : decode cL_gives 27 = .ok (.aload_n 3, 1) := by decide +kernel
theorem dL_gives_28 : decode cL_gives 28 = .ok (.iload_n 2, 1) := by decide +kernel
theorem dL_gives_29 : decode cL_gives 29 = .ok (.iaload, 1) := by decide +kernel
theorem dL_gives_30 : decode cL_gives 30 = .ok (.goto 12, 3) := by decide +kernel
theorem dL_gives_33 : decode cL_gives 33 = .ok (.iload 4, 2) := by decide +kernel
theorem dL_gives_35 : decode cL_gives 35 = .ok (.invokestatic 38, 3) := by decide +kernel
theorem dL_gives_38 : decode cL_gives 38 = .ok (.aload_n 3, 1) := by decide +kernel
theorem dL_gives_39 : decode cL_gives 39 = .ok (.iload_n 2, 1) := by decide +kernel
theorem dL_gives_40 : decode cL_gives 40 = .ok (.iaload, 1) := by decide +kernel
theorem dL_gives_41 : decode cL_gives 41 = .ok (.imul, 1) := by decide +kernel
theorem dL_gives_42 : decode cL_gives 42 = .ok (.ireturn, 1) := by decide +kernel
theorem dL_rank_0 : decode cL_rank 0 = .ok (.iload_n 2, 1) := by decide +kernel
theorem dL_rank_1 : decode cL_rank 1 = .ok (.bipush 7, 2) := by decide +kernel
theorem dL_rank_3 : decode cL_rank 3 = .ok (.if_icmp .ge 10, 3) := by decide +kernel
theorem dL_rank_6 : decode cL_rank 6 = .ok (.lload_n 0, 1) := by decide +kernel
theorem dL_rank_7 : decode cL_rank 7 = .ok (.iload_n 2, 1) := by decide +kernel
theorem dL_rank_8 : decode cL_rank 8 = .ok (.aload_n 3, 1) := by decide +kernel
theorem dL_rank_9 : decode cL_rank 9 = .ok (.invokestatic 42, 3) := by decide +kernel
theorem dL_rank_12 : decode cL_rank 12 = .ok (.ireturn, 1) := by decide +kernel
theorem dL_rank_13 : decode cL_rank 13 = .ok (.lload_n 0, 1) := by decide +kernel
theorem dL_rank_14 : decode cL_rank 14 = .ok (.iconst 0, 1) := by decide +kernel
theorem dL_rank_15 : decode cL_rank 15 = .ok (.aload_n 3, 1) := by decide +kernel
theorem dL_rank_16 : decode cL_rank 16 = .ok (.invokestatic 42, 3) := by decide +kernel
theorem dL_rank_19 : decode cL_rank 19 = .ok (.istore 4, 2) := by decide +kernel
theorem dL_rank_21 : decode cL_rank 21 = .ok (.lload_n 0, 1) := by decide +kernel
theorem dL_rank_22 : decode cL_rank 22 = .ok (.iconst 1, 1) := by decide +kernel
theorem dL_rank_23 : decode cL_rank 23 = .ok (.aload_n 3, 1) := by decide +kernel
theorem dL_rank_24 : decode cL_rank 24 = .ok (.invokestatic 42, 3) := by decide +kernel
theorem dL_rank_27 : decode cL_rank 27 = .ok (.istore 5, 2) := by decide +kernel
theorem dL_rank_29 : decode cL_rank 29 = .ok (.lload_n 0, 1) := by decide +kernel
theorem dL_rank_30 : decode cL_rank 30 = .ok (.iload_n 2, 1) := by decide +kernel
theorem dL_rank_31 : decode cL_rank 31 = .ok (.aload_n 3, 1) := by decide +kernel
theorem dL_rank_32 : decode cL_rank 32 = .ok (.invokestatic 42, 3) := by decide +kernel
theorem dL_rank_35 : decode cL_rank 35 = .ok (.istore 6, 2) := by decide +kernel
theorem dL_rank_37 : decode cL_rank 37 = .ok (.iload_n 2, 1) := by decide +kernel
theorem dL_rank_38 : decode cL_rank 38 = .ok (.bipush 7, 2) := by decide +kernel
theorem dL_rank_40 : decode cL_rank 40 = .ok (.if_icmp .ne 14, 3) := by decide +kernel
theorem dL_rank_43 : decode cL_rank 43 = .ok (.iload 4, 2) := by decide +kernel
theorem dL_rank_45 : decode cL_rank 45 = .ok (.iload 5, 2) := by decide +kernel
theorem dL_rank_47 : decode cL_rank 47 = .ok (.iadd, 1) := by decide +kernel
theorem dL_rank_48 : decode cL_rank 48 = .ok (.iload 6, 2) := by decide +kernel
theorem dL_rank_50 : decode cL_rank 50 = .ok (.iadd, 1) := by decide +kernel
theorem dL_rank_51 : decode cL_rank 51 = .ok (.goto 27, 3) := by decide +kernel
theorem dL_rank_54 : decode cL_rank 54 = .ok (.iload 4, 2) := by decide +kernel
theorem dL_rank_56 : decode cL_rank 56 = .ok (.ifCond .le 21, 3) := by decide +kernel
theorem dL_rank_59 : decode cL_rank 59 = .ok (.iload 6, 2) := by decide +kernel
theorem dL_rank_61 : decode cL_rank 61 = .ok (.ifCond .le 16, 3) := by decide +kernel
theorem dL_rank_64 : decode cL_rank 64 = .ok (.iload 5, 2) := by decide +kernel
theorem dL_rank_66 : decode cL_rank 66 = .ok (.ifCond .ne 11, 3) := by decide +kernel
theorem dL_rank_69 : decode cL_rank 69 = .ok (.iload 4, 2) := by decide +kernel
theorem dL_rank_71 : decode cL_rank 71 = .ok (.iload 6, 2) := by decide +kernel
theorem dL_rank_73 : decode cL_rank 73 = .ok (.iadd, 1) := by decide +kernel
theorem dL_rank_74 : decode cL_rank 74 = .ok (.goto 4, 3) := by decide +kernel
theorem dL_rank_77 : decode cL_rank 77 = .ok (.iconst 0, 1) := by decide +kernel
theorem dL_rank_78 : decode cL_rank 78 = .ok (.ireturn, 1) := by decide +kernel
