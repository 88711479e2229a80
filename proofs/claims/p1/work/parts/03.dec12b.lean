theorem dX12_ends1_65 : decode cX12_ends1 65 = .ok (.aload_n 0, 1) := by decide +kernel
theorem dX12_ends1_66 : decode cX12_ends1 66 = .ok (.getfield 72, 3) := by decide +kernel
theorem dX12_ends1_69 : decode cX12_ends1 69 = .ok (.aload_n 0, 1) := by decide +kernel
theorem dX12_ends1_70 : decode cX12_ends1 70 = .ok (.getfield 113, 3) := by decide +kernel
theorem dX12_ends1_73 : decode cX12_ends1 73 = .ok (.iload_n 2, 1) := by decide +kernel
theorem dX12_ends1_74 : decode cX12_ends1 74 = .ok (.iaload, 1) := by decide +kernel
theorem dX12_ends1_75 : decode cX12_ends1 75 = .ok (.baload, 1) := by decide +kernel
theorem dX12_ends1_76 : decode cX12_ends1 76 = .ok (.bastore, 1) := by decide +kernel
theorem dX12_ends1_77 : decode cX12_ends1 77 = .ok (.aload_n 0, 1) := by decide +kernel
theorem dX12_ends1_78 : decode cX12_ends1 78 = .ok (.getfield 76, 3) := by decide +kernel
theorem dX12_ends1_81 : decode cX12_ends1 81 = .ok (.iload_n 3, 1) := by decide +kernel
theorem dX12_ends1_82 : decode cX12_ends1 82 = .ok (.iconst 1, 1) := by decide +kernel
theorem dX12_ends1_83 : decode cX12_ends1 83 = .ok (.bastore, 1) := by decide +kernel
theorem dX12_ends1_84 : decode cX12_ends1 84 = .ok (.iinc 2 1, 3) := by decide +kernel
theorem dX12_ends1_87 : decode cX12_ends1 87 = .ok (.goto (-62), 3) := by decide +kernel
theorem dX12_ends1_90 : decode cX12_ends1 90 = .ok (.aload_n 0, 1) := by decide +kernel
theorem dX12_ends1_91 : decode cX12_ends1 91 = .ok (.getfield 347, 3) := by decide +kernel
theorem dX12_ends1_94 : decode cX12_ends1 94 = .ok (.ifCond .ne 7, 3) := by decide +kernel
theorem dX12_ends1_97 : decode cX12_ends1 97 = .ok (.iconst 3, 1) := by decide +kernel
theorem dX12_ends1_98 : decode cX12_ends1 98 = .ok (.goto 4, 3) := by decide +kernel
theorem dX12_ends1_101 : decode cX12_ends1 101 = .ok (.iconst 2, 1) := by decide +kernel
theorem dX12_ends1_102 : decode cX12_ends1 102 = .ok (.istore_n 2, 1) := by decide +kernel
theorem dX12_ends1_103 : decode cX12_ends1 103 = .ok (.iload_n 1, 1) := by decide +kernel
theorem dX12_ends1_104 : decode cX12_ends1 104 = .ok (.iconst 3, 1) := by decide +kernel
theorem dX12_ends1_105 : decode cX12_ends1 105 = .ok (.iadd, 1) := by decide +kernel
theorem dX12_ends1_106 : decode cX12_ends1 106 = .ok (.istore_n 3, 1) := by decide +kernel
theorem dX12_ends1_107 : decode cX12_ends1 107 = .ok (.iload_n 3, 1) := by decide +kernel
theorem dX12_ends1_108 : decode cX12_ends1 108 = .ok (.aload_n 0, 1) := by decide +kernel
theorem dX12_ends1_109 : decode cX12_ends1 109 = .ok (.getfield 290, 3) := by decide +kernel
theorem dX12_ends1_112 : decode cX12_ends1 112 = .ok (.if_icmp .ge 23, 3) := by decide +kernel
theorem dX12_ends1_115 : decode cX12_ends1 115 = .ok (.aload_n 0, 1) := by decide +kernel
theorem dX12_ends1_116 : decode cX12_ends1 116 = .ok (.getfield 82, 3) := by decide +kernel
theorem dX12_ends1_119 : decode cX12_ends1 119 = .ok (.iload_n 3, 1) := by decide +kernel
theorem dX12_ends1_120 : decode cX12_ends1 120 = .ok (.iload_n 2, 1) := by decide +kernel
theorem dX12_ends1_121 : decode cX12_ends1 121 = .ok (.isub, 1) := by decide +kernel
theorem dX12_ends1_122 : decode cX12_ends1 122 = .ok (.aload_n 0, 1) := by decide +kernel
theorem dX12_ends1_123 : decode cX12_ends1 123 = .ok (.getfield 82, 3) := by decide +kernel
theorem dX12_ends1_126 : decode cX12_ends1 126 = .ok (.iload_n 3, 1) := by decide +kernel
theorem dX12_ends1_127 : decode cX12_ends1 127 = .ok (.iaload, 1) := by decide +kernel
theorem dX12_ends1_128 : decode cX12_ends1 128 = .ok (.iastore, 1) := by decide +kernel
theorem dX12_ends1_129 : decode cX12_ends1 129 = .ok (.iinc 3 1, 3) := by decide +kernel
theorem dX12_ends1_132 : decode cX12_ends1 132 = .ok (.goto (-25), 3) := by decide +kernel
theorem dX12_ends1_135 : decode cX12_ends1 135 = .ok (.aload_n 0, 1) := by decide +kernel
theorem dX12_ends1_136 : decode cX12_ends1 136 = .ok (.dup, 1) := by decide +kernel
theorem dX12_ends1_137 : decode cX12_ends1 137 = .ok (.getfield 290, 3) := by decide +kernel
theorem dX12_ends1_140 : decode cX12_ends1 140 = .ok (.iload_n 2, 1) := by decide +kernel
theorem dX12_ends1_141 : decode cX12_ends1 141 = .ok (.isub, 1) := by decide +kernel
theorem dX12_ends1_142 : decode cX12_ends1 142 = .ok (.putfield 290, 3) := by decide +kernel
theorem dX12_ends1_145 : decode cX12_ends1 145 = .ok (.aload_n 0, 1) := by decide +kernel
theorem dX12_ends1_146 : decode cX12_ends1 146 = .ok (.getfield 347, 3) := by decide +kernel
theorem dX12_ends1_149 : decode cX12_ends1 149 = .ok (.ifCond .le 36, 3) := by decide +kernel
theorem dX12_ends1_152 : decode cX12_ends1 152 = .ok (.aload_n 0, 1) := by decide +kernel
theorem dX12_ends1_153 : decode cX12_ends1 153 = .ok (.getfield 82, 3) := by decide +kernel
theorem dX12_ends1_156 : decode cX12_ends1 156 = .ok (.iload_n 1, 1) := by decide +kernel
theorem dX12_ends1_157 : decode cX12_ends1 157 = .ok (.aload_n 0, 1) := by decide +kernel
theorem dX12_ends1_158 : decode cX12_ends1 158 = .ok (.getfield 331, 3) := by decide +kernel
theorem dX12_ends1_161 : decode cX12_ends1 161 = .ok (.iastore, 1) := by decide +kernel
theorem dX12_ends1_162 : decode cX12_ends1 162 = .ok (.aload_n 0, 1) := by decide +kernel
theorem dX12_ends1_163 : decode cX12_ends1 163 = .ok (.getfield 69, 3) := by decide +kernel
theorem dX12_ends1_166 : decode cX12_ends1 166 = .ok (.aload_n 0, 1) := by decide +kernel
theorem dX12_ends1_167 : decode cX12_ends1 167 = .ok (.getfield 331, 3) := by decide +kernel
theorem dX12_ends1_170 : decode cX12_ends1 170 = .ok (.aload_n 0, 1) := by decide +kernel
theorem dX12_ends1_171 : decode cX12_ends1 171 = .ok (.getfield 347, 3) := by decide +kernel
theorem dX12_ends1_174 : decode cX12_ends1 174 = .ok (.iastore, 1) := by decide +kernel
theorem dX12_ends1_175 : decode cX12_ends1 175 = .ok (.aload_n 0, 1) := by decide +kernel
theorem dX12_ends1_176 : decode cX12_ends1 176 = .ok (.dup, 1) := by decide +kernel
theorem dX12_ends1_177 : decode cX12_ends1 177 = .ok (.getfield 331, 3) := by decide +kernel
theorem dX12_ends1_180 : decode cX12_ends1 180 = .ok (.iconst 1, 1) := by decide +kernel
theorem dX12_ends1_181 : decode cX12_ends1 181 = .ok (.iadd, 1) := by decide +kernel
theorem dX12_ends1_182 : decode cX12_ends1 182 = .ok (.putfield 331, 3) := by decide +kernel
theorem dX12_ends1_185 : decode cX12_ends1 185 = .ok (.aload_n 0, 1) := by decide +kernel
theorem dX12_ends1_186 : decode cX12_ends1 186 = .ok (.iconst 0, 1) := by decide +kernel
theorem dX12_ends1_187 : decode cX12_ends1 187 = .ok (.putfield 303, 3) := by decide +kernel
theorem dX12_ends1_190 : decode cX12_ends1 190 = .ok (.return_, 1) := by decide +kernel
theorem dX12_step_0 : decode cX12_step 0 = .ok (.aload_n 0, 1) := by decide +kernel
theorem dX12_step_1 : decode cX12_step 1 = .ok (.aload_n 0, 1) := by decide +kernel
theorem dX12_step_2 : decode cX12_step 2 = .ok (.getfield 297, 3) := by decide +kernel
theorem dX12_step_5 : decode cX12_step 5 = .ok (.ifCond .ne 14, 3) := by decide +kernel
theorem dX12_step_8 : decode cX12_step 8 = .ok (.aload_n 0, 1) := by decide +kernel
theorem dX12_step_9 : decode cX12_step 9 = .ok (.getfield 303, 3) := by decide +kernel
theorem dX12_step_12 : decode cX12_step 12 = .ok (.ifCond .eq 7, 3) := by decide +kernel
theorem dX12_step_15 : decode cX12_step 15 = .ok (.iconst 1, 1) := by decide +kernel
theorem dX12_step_16 : decode cX12_step 16 = .ok (.goto 4, 3) := by decide +kernel
theorem dX12_step_19 : decode cX12_step 19 = .ok (.iconst 0, 1) := by decide +kernel
theorem dX12_step_20 : decode cX12_step 20 = .ok (.iconst 1, 1) := by decide +kernel
theorem dX12_step_21 : decode cX12_step 21 = .ok (.iconst 1, 1) := by decide +kernel
theorem dX12_step_22 : decode cX12_step 22 = .ok (.invokevirtual 248, 3) := by decide +kernel
theorem dX12_step_25 : decode cX12_step 25 = .ok (.ifCond .ne 5, 3) := by decide +kernel
theorem dX12_step_28 : decode cX12_step 28 = .ok (.iconst 0, 1) := by decide +kernel
theorem dX12_step_29 : decode cX12_step 29 = .ok (.ireturn, 1) := by decide +kernel
theorem dX12_step_30 : decode cX12_step 30 = .ok (.aload_n 0, 1) := by decide +kernel
theorem dX12_step_31 : decode cX12_step 31 = .ok (.invokevirtual 324, 3) := by decide +kernel
theorem dX12_step_34 : decode cX12_step 34 = .ok (.ifCond .ne 6, 3) := by decide +kernel
theorem dX12_step_37 : decode cX12_step 37 = .ok (.bipush (-2), 2) := by decide +kernel
theorem dX12_step_39 : decode cX12_step 39 = .ok (.ireturn, 1) := by decide +kernel
theorem dX12_step_40 : decode cX12_step 40 = .ok (.aload_n 0, 1) := by decide +kernel
theorem dX12_step_41 : decode cX12_step 41 = .ok (.getfield 347, 3) := by decide +kernel
theorem dX12_step_44 : decode cX12_step 44 = .ok (.aload_n 0, 1) := by decide +kernel
theorem dX12_step_45 : decode cX12_step 45 = .ok (.getfield 344, 3) := by decide +kernel
theorem dX12_step_48 : decode cX12_step 48 = .ok (.if_icmp .ge 23, 3) := by decide +kernel
theorem dX12_step_51 : decode cX12_step 51 = .ok (.aload_n 0, 1) := by decide +kernel
theorem dX12_step_52 : decode cX12_step 52 = .ok (.dup, 1) := by decide +kernel
theorem dX12_step_53 : decode cX12_step 53 = .ok (.getfield 347, 3) := by decide +kernel
theorem dX12_step_56 : decode cX12_step 56 = .ok (.iconst 1, 1) := by decide +kernel
theorem dX12_step_57 : decode cX12_step 57 = .ok (.iadd, 1) := by decide +kernel
theorem dX12_step_58 : decode cX12_step 58 = .ok (.putfield 347, 3) := by decide +kernel
theorem dX12_step_61 : decode cX12_step 61 = .ok (.aload_n 0, 1) := by decide +kernel
theorem dX12_step_62 : decode cX12_step 62 = .ok (.getfield 344, 3) := by decide +kernel
theorem dX12_step_65 : decode cX12_step 65 = .ok (.aload_n 0, 1) := by decide +kernel
theorem dX12_step_66 : decode cX12_step 66 = .ok (.getfield 347, 3) := by decide +kernel
theorem dX12_step_69 : decode cX12_step 69 = .ok (.isub, 1) := by decide +kernel
theorem dX12_step_70 : decode cX12_step 70 = .ok (.ireturn, 1) := by decide +kernel
theorem dX12_step_71 : decode cX12_step 71 = .ok (.aload_n 0, 1) := by decide +kernel
theorem dX12_step_72 : decode cX12_step 72 = .ok (.invokevirtual 350, 3) := by decide +kernel
theorem dX12_step_75 : decode cX12_step 75 = .ok (.iconst (-1), 1) := by decide +kernel
theorem dX12_step_76 : decode cX12_step 76 = .ok (.ireturn, 1) := by decide +kernel
theorem dX12_giveUp_0 : decode cX12_giveUp 0 = .ok (.aload_n 0, 1) := by decide +kernel
theorem dX12_giveUp_1 : decode cX12_giveUp 1 = .ok (.aload_n 0, 1) := by decide +kernel
theorem dX12_giveUp_2 : decode cX12_giveUp 2 = .ok (.getfield 297, 3) := by decide +kernel
theorem dX12_giveUp_5 : decode cX12_giveUp 5 = .ok (.ifCond .ne 14, 3) := by decide +kernel
theorem dX12_giveUp_8 : decode cX12_giveUp 8 = .ok (.aload_n 0, 1) := by decide +kernel
theorem dX12_giveUp_9 : decode cX12_giveUp 9 = .ok (.getfield 303, 3) := by decide +kernel
theorem dX12_giveUp_12 : decode cX12_giveUp 12 = .ok (.ifCond .eq 7, 3) := by decide +kernel
theorem dX12_giveUp_15 : decode cX12_giveUp 15 = .ok (.iconst 1, 1) := by decide +kernel
theorem dX12_giveUp_16 : decode cX12_giveUp 16 = .ok (.goto 4, 3) := by decide +kernel
theorem dX12_giveUp_19 : decode cX12_giveUp 19 = .ok (.iconst 0, 1) := by decide +kernel
theorem dX12_giveUp_20 : decode cX12_giveUp 20 = .ok (.iconst 1, 1) := by decide +kernel
theorem dX12_giveUp_21 : decode cX12_giveUp 21 = .ok (.iconst 1, 1) := by decide +kernel
theorem dX12_giveUp_22 : decode cX12_giveUp 22 = .ok (.invokevirtual 248, 3) := by decide +kernel
theorem dX12_giveUp_25 : decode cX12_giveUp 25 = .ok (.ifCond .ne 5, 3) := by decide +kernel
theorem dX12_giveUp_28 : decode cX12_giveUp 28 = .ok (.iconst 0, 1) := by decide +kernel
theorem dX12_giveUp_29 : decode cX12_giveUp 29 = .ok (.ireturn, 1) := by decide +kernel
theorem dX12_giveUp_30 : decode cX12_giveUp 30 = .ok (.aload_n 0, 1) := by decide +kernel
theorem dX12_giveUp_31 : decode cX12_giveUp 31 = .ok (.iconst 0, 1) := by decide +kernel
theorem dX12_giveUp_32 : decode cX12_giveUp 32 = .ok (.putfield 303, 3) := by decide +kernel
theorem dX12_giveUp_35 : decode cX12_giveUp 35 = .ok (.aload_n 0, 1) := by decide +kernel
theorem dX12_giveUp_36 : decode cX12_giveUp 36 = .ok (.getfield 347, 3) := by decide +kernel
theorem dX12_giveUp_39 : decode cX12_giveUp 39 = .ok (.ireturn, 1) := by decide +kernel
theorem dX12_differs_0 : decode cX12_differs 0 = .ok (.iconst 0, 1) := by decide +kernel
theorem dX12_differs_1 : decode cX12_differs 1 = .ok (.istore_n 2, 1) := by decide +kernel
theorem dX12_differs_2 : decode cX12_differs 2 = .ok (.bipush 100, 2) := by decide +kernel
theorem dX12_differs_4 : decode cX12_differs 4 = .ok (.iload_n 1, 1) := by decide +kernel
theorem dX12_differs_5 : decode cX12_differs 5 = .ok (.imul, 1) := by decide +kernel
theorem dX12_differs_6 : decode cX12_differs 6 = .ok (.istore_n 3, 1) := by decide +kernel
theorem dX12_differs_7 : decode cX12_differs 7 = .ok (.iload_n 3, 1) := by decide +kernel
theorem dX12_differs_8 : decode cX12_differs 8 = .ok (.bipush 100, 2) := by decide +kernel
theorem dX12_differs_10 : decode cX12_differs 10 = .ok (.iload_n 1, 1) := by decide +kernel
theorem dX12_differs_11 : decode cX12_differs 11 = .ok (.imul, 1) := by decide +kernel
theorem dX12_differs_12 : decode cX12_differs 12 = .ok (.aload_n 0, 1) := by decide +kernel
theorem dX12_differs_13 : decode cX12_differs 13 = .ok (.getfield 69, 3) := by decide +kernel
theorem dX12_differs_16 : decode cX12_differs 16 = .ok (.iload_n 1, 1) := by decide +kernel
theorem dX12_differs_17 : decode cX12_differs 17 = .ok (.iaload, 1) := by decide +kernel
theorem dX12_differs_18 : decode cX12_differs 18 = .ok (.iadd, 1) := by decide +kernel
theorem dX12_differs_19 : decode cX12_differs 19 = .ok (.if_icmp .ge 34, 3) := by decide +kernel
theorem dX12_differs_22 : decode cX12_differs 22 = .ok (.iload_n 2, 1) := by decide +kernel
theorem dX12_differs_23 : decode cX12_differs 23 = .ok (.ifCond .ne 18, 3) := by decide +kernel
theorem dX12_differs_26 : decode cX12_differs 26 = .ok (.aload_n 0, 1) := by decide +kernel
theorem dX12_differs_27 : decode cX12_differs 27 = .ok (.getfield 72, 3) := by decide +kernel
theorem dX12_differs_30 : decode cX12_differs 30 = .ok (.iload_n 3, 1) := by decide +kernel
theorem dX12_differs_31 : decode cX12_differs 31 = .ok (.baload, 1) := by decide +kernel
theorem dX12_differs_32 : decode cX12_differs 32 = .ok (.aload_n 0, 1) := by decide +kernel
theorem dX12_differs_33 : decode cX12_differs 33 = .ok (.getfield 76, 3) := by decide +kernel
theorem dX12_differs_36 : decode cX12_differs 36 = .ok (.iload_n 3, 1) := by decide +kernel
theorem dX12_differs_37 : decode cX12_differs 37 = .ok (.baload, 1) := by decide +kernel
theorem dX12_differs_38 : decode cX12_differs 38 = .ok (.if_icmp .eq 7, 3) := by decide +kernel
theorem dX12_differs_41 : decode cX12_differs 41 = .ok (.iconst 1, 1) := by decide +kernel
theorem dX12_differs_42 : decode cX12_differs 42 = .ok (.goto 4, 3) := by decide +kernel
theorem dX12_differs_45 : decode cX12_differs 45 = .ok (.iconst 0, 1) := by decide +kernel
theorem dX12_differs_46 : decode cX12_differs 46 = .ok (.istore_n 2, 1) := by decide +kernel
theorem dX12_differs_47 : decode cX12_differs 47 = .ok (.iinc 3 1, 3) := by decide +kernel
theorem dX12_differs_50 : decode cX12_differs 50 = .ok (.goto (-43), 3) := by decide +kernel
theorem dX12_differs_53 : decode cX12_differs 53 = .ok (.iload_n 2, 1) := by decide +kernel
theorem dX12_differs_54 : decode cX12_differs 54 = .ok (.ireturn, 1) := by decide +kernel
theorem dX12_prepare_0 : decode cX12_prepare 0 = .ok (.aload_n 0, 1) := by decide +kernel
theorem dX12_prepare_1 : decode cX12_prepare 1 = .ok (.aload_n 0, 1) := by decide +kernel
theorem dX12_prepare_2 : decode cX12_prepare 2 = .ok (.getfield 297, 3) := by decide +kernel
theorem dX12_prepare_5 : decode cX12_prepare 5 = .ok (.ifCond .ne 31, 3) := by decide +kernel
theorem dX12_prepare_8 : decode cX12_prepare 8 = .ok (.aload_n 0, 1) := by decide +kernel
theorem dX12_prepare_9 : decode cX12_prepare 9 = .ok (.getfield 306, 3) := by decide +kernel
theorem dX12_prepare_12 : decode cX12_prepare 12 = .ok (.ifCond .ne 24, 3) := by decide +kernel
theorem dX12_prepare_15 : decode cX12_prepare 15 = .ok (.aload_n 0, 1) := by decide +kernel
theorem dX12_prepare_16 : decode cX12_prepare 16 = .ok (.getfield 331, 3) := by decide +kernel
theorem dX12_prepare_19 : decode cX12_prepare 19 = .ok (.sipush 200, 3) := by decide +kernel
theorem dX12_prepare_22 : decode cX12_prepare 22 = .ok (.if_icmp .lt 10, 3) := by decide +kernel
theorem dX12_prepare_25 : decode cX12_prepare 25 = .ok (.aload_n 0, 1) := by decide +kernel
theorem dX12_prepare_26 : decode cX12_prepare 26 = .ok (.getfield 280, 3) := by decide +kernel
theorem dX12_prepare_29 : decode cX12_prepare 29 = .ok (.ifCond .ne 7, 3) := by decide +kernel
theorem dX12_prepare_32 : decode cX12_prepare 32 = .ok (.iconst 1, 1) := by decide +kernel
theorem dX12_prepare_33 : decode cX12_prepare 33 = .ok (.goto 4, 3) := by decide +kernel
theorem dX12_prepare_36 : decode cX12_prepare 36 = .ok (.iconst 0, 1) := by decide +kernel
theorem dX12_prepare_37 : decode cX12_prepare 37 = .ok (.iconst 1, 1) := by decide +kernel
theorem dX12_prepare_38 : decode cX12_prepare 38 = .ok (.iconst 1, 1) := by decide +kernel
theorem dX12_prepare_39 : decode cX12_prepare 39 = .ok (.invokevirtual 248, 3) := by decide +kernel
theorem dX12_prepare_42 : decode cX12_prepare 42 = .ok (.ifCond .ne 5, 3) := by decide +kernel
theorem dX12_prepare_45 : decode cX12_prepare 45 = .ok (.iconst 0, 1) := by decide +kernel
theorem dX12_prepare_46 : decode cX12_prepare 46 = .ok (.ireturn, 1) := by decide +kernel
theorem dX12_prepare_47 : decode cX12_prepare 47 = .ok (.aload_n 0, 1) := by decide +kernel
theorem dX12_prepare_48 : decode cX12_prepare 48 = .ok (.invokevirtual 334, 3) := by decide +kernel
theorem dX12_prepare_51 : decode cX12_prepare 51 = .ok (.bipush (-2), 2) := by decide +kernel
theorem dX12_prepare_53 : decode cX12_prepare 53 = .ok (.if_icmp .ne 6, 3) := by decide +kernel
theorem dX12_prepare_56 : decode cX12_prepare 56 = .ok (.bipush (-2), 2) := by decide +kernel
theorem dX12_prepare_58 : decode cX12_prepare 58 = .ok (.ireturn, 1) := by decide +kernel
theorem dX12_prepare_59 : decode cX12_prepare 59 = .ok (.iconst 0, 1) := by decide +kernel
theorem dX12_prepare_60 : decode cX12_prepare 60 = .ok (.istore_n 1, 1) := by decide +kernel
theorem dX12_prepare_61 : decode cX12_prepare 61 = .ok (.iload_n 1, 1) := by decide +kernel
theorem dX12_prepare_62 : decode cX12_prepare 62 = .ok (.sipush 20200, 3) := by decide +kernel
theorem dX12_prepare_65 : decode cX12_prepare 65 = .ok (.if_icmp .ge 21, 3) := by decide +kernel
theorem dX12_prepare_68 : decode cX12_prepare 68 = .ok (.aload_n 0, 1) := by decide +kernel
theorem dX12_prepare_69 : decode cX12_prepare 69 = .ok (.getfield 79, 3) := by decide +kernel
theorem dX12_prepare_72 : decode cX12_prepare 72 = .ok (.iload_n 1, 1) := by decide +kernel
theorem dX12_prepare_73 : decode cX12_prepare 73 = .ok (.aload_n 0, 1) := by decide +kernel
theorem dX12_prepare_74 : decode cX12_prepare 74 = .ok (.getfield 76, 3) := by decide +kernel
theorem dX12_prepare_77 : decode cX12_prepare 77 = .ok (.iload_n 1, 1) := by decide +kernel
theorem dX12_prepare_78 : decode cX12_prepare 78 = .ok (.baload, 1) := by decide +kernel
theorem dX12_prepare_79 : decode cX12_prepare 79 = .ok (.bastore, 1) := by decide +kernel
theorem dX12_prepare_80 : decode cX12_prepare 80 = .ok (.iinc 1 1, 3) := by decide +kernel
theorem dX12_prepare_83 : decode cX12_prepare 83 = .ok (.goto (-22), 3) := by decide +kernel
theorem dX12_prepare_86 : decode cX12_prepare 86 = .ok (.iconst 0, 1) := by decide +kernel
theorem dX12_prepare_87 : decode cX12_prepare 87 = .ok (.istore_n 1, 1) := by decide +kernel
theorem dX12_prepare_88 : decode cX12_prepare 88 = .ok (.iload_n 1, 1) := by decide +kernel
theorem dX12_prepare_89 : decode cX12_prepare 89 = .ok (.aload_n 0, 1) := by decide +kernel
theorem dX12_prepare_90 : decode cX12_prepare 90 = .ok (.getfield 290, 3) := by decide +kernel
theorem dX12_prepare_93 : decode cX12_prepare 93 = .ok (.if_icmp .ge 85, 3) := by decide +kernel
theorem dX12_prepare_96 : decode cX12_prepare 96 = .ok (.aload_n 0, 1) := by decide +kernel
theorem dX12_prepare_97 : decode cX12_prepare 97 = .ok (.aload_n 0, 1) := by decide +kernel
theorem dX12_prepare_98 : decode cX12_prepare 98 = .ok (.getfield 82, 3) := by decide +kernel
theorem dX12_prepare_101 : decode cX12_prepare 101 = .ok (.iload_n 1, 1) := by decide +kernel
theorem dX12_prepare_102 : decode cX12_prepare 102 = .ok (.iaload, 1) := by decide +kernel
theorem dX12_prepare_103 : decode cX12_prepare 103 = .ok (.invokevirtual 353, 3) := by decide +kernel
theorem dX12_prepare_106 : decode cX12_prepare 106 = .ok (.ifCond .eq 66, 3) := by decide +kernel
theorem dX12_prepare_109 : decode cX12_prepare 109 = .ok (.aload_n 0, 1) := by decide +kernel
theorem dX12_prepare_110 : decode cX12_prepare 110 = .ok (.invokevirtual 324, 3) := by decide +kernel
theorem dX12_prepare_113 : decode cX12_prepare 113 = .ok (.ifCond .ne 6, 3) := by decide +kernel
theorem dX12_prepare_116 : decode cX12_prepare 116 = .ok (.bipush (-2), 2) := by decide +kernel
theorem dX12_prepare_118 : decode cX12_prepare 118 = .ok (.ireturn, 1) := by decide +kernel
theorem dX12_prepare_119 : decode cX12_prepare 119 = .ok (.bipush 100, 2) := by decide +kernel
theorem dX12_prepare_121 : decode cX12_prepare 121 = .ok (.aload_n 0, 1) := by decide +kernel
theorem dX12_prepare_122 : decode cX12_prepare 122 = .ok (.getfield 82, 3) := by decide +kernel
theorem dX12_prepare_125 : decode cX12_prepare 125 = .ok (.iload_n 1, 1) := by decide +kernel
theorem dX12_prepare_126 : decode cX12_prepare 126 = .ok (.iaload, 1) := by decide +kernel
theorem dX12_prepare_127 : decode cX12_prepare 127 = .ok (.imul, 1) := by decide +kernel
theorem dX12_prepare_128 : decode cX12_prepare 128 = .ok (.istore_n 2, 1) := by decide +kernel
theorem dX12_prepare_129 : decode cX12_prepare 129 = .ok (.iload_n 2, 1) := by decide +kernel
theorem dX12_prepare_130 : decode cX12_prepare 130 = .ok (.bipush 100, 2) := by decide +kernel
theorem dX12_prepare_132 : decode cX12_prepare 132 = .ok (.aload_n 0, 1) := by decide +kernel
theorem dX12_prepare_133 : decode cX12_prepare 133 = .ok (.getfield 82, 3) := by decide +kernel
theorem dX12_prepare_136 : decode cX12_prepare 136 = .ok (.iload_n 1, 1) := by decide +kernel
theorem dX12_prepare_137 : decode cX12_prepare 137 = .ok (.iaload, 1) := by decide +kernel
theorem dX12_prepare_138 : decode cX12_prepare 138 = .ok (.imul, 1) := by decide +kernel
theorem dX12_prepare_139 : decode cX12_prepare 139 = .ok (.aload_n 0, 1) := by decide +kernel
theorem dX12_prepare_140 : decode cX12_prepare 140 = .ok (.getfield 69, 3) := by decide +kernel
theorem dX12_prepare_143 : decode cX12_prepare 143 = .ok (.aload_n 0, 1) := by decide +kernel
theorem dX12_prepare_144 : decode cX12_prepare 144 = .ok (.getfield 82, 3) := by decide +kernel
theorem dX12_prepare_147 : decode cX12_prepare 147 = .ok (.iload_n 1, 1) := by decide +kernel
theorem dX12_prepare_148 : decode cX12_prepare 148 = .ok (.iaload, 1) := by decide +kernel
theorem dX12_prepare_149 : decode cX12_prepare 149 = .ok (.iaload, 1) := by decide +kernel
theorem dX12_prepare_150 : decode cX12_prepare 150 = .ok (.iadd, 1) := by decide +kernel
theorem dX12_prepare_151 : decode cX12_prepare 151 = .ok (.if_icmp .ge 21, 3) := by decide +kernel
theorem dX12_prepare_154 : decode cX12_prepare 154 = .ok (.aload_n 0, 1) := by decide +kernel
theorem dX12_prepare_155 : decode cX12_prepare 155 = .ok (.getfield 76, 3) := by decide +kernel
theorem dX12_prepare_158 : decode cX12_prepare 158 = .ok (.iload_n 2, 1) := by decide +kernel
theorem dX12_prepare_159 : decode cX12_prepare 159 = .ok (.aload_n 0, 1) := by decide +kernel
theorem dX12_prepare_160 : decode cX12_prepare 160 = .ok (.getfield 72, 3) := by decide +kernel
theorem dX12_prepare_163 : decode cX12_prepare 163 = .ok (.iload_n 2, 1) := by decide +kernel
theorem dX12_prepare_164 : decode cX12_prepare 164 = .ok (.baload, 1) := by decide +kernel
theorem dX12_prepare_165 : decode cX12_prepare 165 = .ok (.bastore, 1) := by decide +kernel
theorem dX12_prepare_166 : decode cX12_prepare 166 = .ok (.iinc 2 1, 3) := by decide +kernel
theorem dX12_prepare_169 : decode cX12_prepare 169 = .ok (.goto (-40), 3) := by decide +kernel
theorem dX12_prepare_172 : decode cX12_prepare 172 = .ok (.iinc 1 1, 3) := by decide +kernel
theorem dX12_prepare_175 : decode cX12_prepare 175 = .ok (.goto (-87), 3) := by decide +kernel
theorem dX12_prepare_178 : decode cX12_prepare 178 = .ok (.aload_n 0, 1) := by decide +kernel
theorem dX12_prepare_179 : decode cX12_prepare 179 = .ok (.invokevirtual 324, 3) := by decide +kernel
theorem dX12_prepare_182 : decode cX12_prepare 182 = .ok (.ifCond .ne 6, 3) := by decide +kernel
theorem dX12_prepare_185 : decode cX12_prepare 185 = .ok (.bipush (-2), 2) := by decide +kernel
theorem dX12_prepare_187 : decode cX12_prepare 187 = .ok (.ireturn, 1) := by decide +kernel
theorem dX12_prepare_188 : decode cX12_prepare 188 = .ok (.aload_n 0, 1) := by decide +kernel
theorem dX12_prepare_189 : decode cX12_prepare 189 = .ok (.aload_n 0, 1) := by decide +kernel
theorem dX12_prepare_190 : decode cX12_prepare 190 = .ok (.getfield 290, 3) := by decide +kernel
theorem dX12_prepare_193 : decode cX12_prepare 193 = .ok (.putfield 356, 3) := by decide +kernel
theorem dX12_prepare_196 : decode cX12_prepare 196 = .ok (.iconst 0, 1) := by decide +kernel
theorem dX12_prepare_197 : decode cX12_prepare 197 = .ok (.istore_n 1, 1) := by decide +kernel
theorem dX12_prepare_198 : decode cX12_prepare 198 = .ok (.iload_n 1, 1) := by decide +kernel
theorem dX12_prepare_199 : decode cX12_prepare 199 = .ok (.aload_n 0, 1) := by decide +kernel
theorem dX12_prepare_200 : decode cX12_prepare 200 = .ok (.getfield 290, 3) := by decide +kernel
theorem dX12_prepare_203 : decode cX12_prepare 203 = .ok (.if_icmp .ge 21, 3) := by decide +kernel
theorem dX12_prepare_206 : decode cX12_prepare 206 = .ok (.aload_n 0, 1) := by decide +kernel
theorem dX12_prepare_207 : decode cX12_prepare 207 = .ok (.getfield 91, 3) := by decide +kernel
theorem dX12_prepare_210 : decode cX12_prepare 210 = .ok (.iload_n 1, 1) := by decide +kernel
theorem dX12_prepare_211 : decode cX12_prepare 211 = .ok (.aload_n 0, 1) := by decide +kernel
theorem dX12_prepare_212 : decode cX12_prepare 212 = .ok (.getfield 82, 3) := by decide +kernel
theorem dX12_prepare_215 : decode cX12_prepare 215 = .ok (.iload_n 1, 1) := by decide +kernel
theorem dX12_prepare_216 : decode cX12_prepare 216 = .ok (.iaload, 1) := by decide +kernel
theorem dX12_prepare_217 : decode cX12_prepare 217 = .ok (.iastore, 1) := by decide +kernel
theorem dX12_prepare_218 : decode cX12_prepare 218 = .ok (.iinc 1 1, 3) := by decide +kernel
theorem dX12_prepare_221 : decode cX12_prepare 221 = .ok (.goto (-23), 3) := by decide +kernel
theorem dX12_prepare_224 : decode cX12_prepare 224 = .ok (.iconst 0, 1) := by decide +kernel
theorem dX12_prepare_225 : decode cX12_prepare 225 = .ok (.istore_n 1, 1) := by decide +kernel
theorem dX12_prepare_226 : decode cX12_prepare 226 = .ok (.iload_n 1, 1) := by decide +kernel
theorem dX12_prepare_227 : decode cX12_prepare 227 = .ok (.sipush 20200, 3) := by decide +kernel
theorem dX12_prepare_230 : decode cX12_prepare 230 = .ok (.if_icmp .ge 21, 3) := by decide +kernel
theorem dX12_prepare_233 : decode cX12_prepare 233 = .ok (.aload_n 0, 1) := by decide +kernel
theorem dX12_prepare_234 : decode cX12_prepare 234 = .ok (.getfield 94, 3) := by decide +kernel
theorem dX12_prepare_237 : decode cX12_prepare 237 = .ok (.iload_n 1, 1) := by decide +kernel
theorem dX12_prepare_238 : decode cX12_prepare 238 = .ok (.aload_n 0, 1) := by decide +kernel
theorem dX12_prepare_239 : decode cX12_prepare 239 = .ok (.getfield 72, 3) := by decide +kernel
theorem dX12_prepare_242 : decode cX12_prepare 242 = .ok (.iload_n 1, 1) := by decide +kernel
theorem dX12_prepare_243 : decode cX12_prepare 243 = .ok (.baload, 1) := by decide +kernel
theorem dX12_prepare_244 : decode cX12_prepare 244 = .ok (.bastore, 1) := by decide +kernel
theorem dX12_prepare_245 : decode cX12_prepare 245 = .ok (.iinc 1 1, 3) := by decide +kernel
theorem dX12_prepare_248 : decode cX12_prepare 248 = .ok (.goto (-22), 3) := by decide +kernel
theorem dX12_prepare_251 : decode cX12_prepare 251 = .ok (.aload_n 0, 1) := by decide +kernel
theorem dX12_prepare_252 : decode cX12_prepare 252 = .ok (.iconst 1, 1) := by decide +kernel
theorem dX12_prepare_253 : decode cX12_prepare 253 = .ok (.putfield 306, 3) := by decide +kernel
theorem dX12_prepare_256 : decode cX12_prepare 256 = .ok (.aload_n 0, 1) := by decide +kernel
theorem dX12_prepare_257 : decode cX12_prepare 257 = .ok (.getfield 356, 3) := by decide +kernel
theorem dX12_prepare_260 : decode cX12_prepare 260 = .ok (.ireturn, 1) := by decide +kernel
theorem dX12_finish_0 : decode cX12_finish 0 = .ok (.aload_n 0, 1) := by decide +kernel
theorem dX12_finish_1 : decode cX12_finish 1 = .ok (.aload_n 0, 1) := by decide +kernel
theorem dX12_finish_2 : decode cX12_finish 2 = .ok (.getfield 297, 3) := by decide +kernel
theorem dX12_finish_5 : decode cX12_finish 5 = .ok (.ifCond .ne 14, 3) := by decide +kernel
theorem dX12_finish_8 : decode cX12_finish 8 = .ok (.aload_n 0, 1) := by decide +kernel
theorem dX12_finish_9 : decode cX12_finish 9 = .ok (.getfield 306, 3) := by decide +kernel
theorem dX12_finish_12 : decode cX12_finish 12 = .ok (.ifCond .eq 7, 3) := by decide +kernel
theorem dX12_finish_15 : decode cX12_finish 15 = .ok (.iconst 1, 1) := by decide +kernel
theorem dX12_finish_16 : decode cX12_finish 16 = .ok (.goto 4, 3) := by decide +kernel
theorem dX12_finish_19 : decode cX12_finish 19 = .ok (.iconst 0, 1) := by decide +kernel
theorem dX12_finish_20 : decode cX12_finish 20 = .ok (.iconst 1, 1) := by decide +kernel
theorem dX12_finish_21 : decode cX12_finish 21 = .ok (.iconst 1, 1) := by decide +kernel
theorem dX12_finish_22 : decode cX12_finish 22 = .ok (.invokevirtual 248, 3) := by decide +kernel
theorem dX12_finish_25 : decode cX12_finish 25 = .ok (.ifCond .ne 5, 3) := by decide +kernel
theorem dX12_finish_28 : decode cX12_finish 28 = .ok (.iconst 0, 1) := by decide +kernel
theorem dX12_finish_29 : decode cX12_finish 29 = .ok (.ireturn, 1) := by decide +kernel
theorem dX12_finish_30 : decode cX12_finish 30 = .ok (.aload_n 0, 1) := by decide +kernel
theorem dX12_finish_31 : decode cX12_finish 31 = .ok (.invokevirtual 324, 3) := by decide +kernel
theorem dX12_finish_34 : decode cX12_finish 34 = .ok (.ifCond .ne 6, 3) := by decide +kernel
theorem dX12_finish_37 : decode cX12_finish 37 = .ok (.bipush (-2), 2) := by decide +kernel
theorem dX12_finish_39 : decode cX12_finish 39 = .ok (.ireturn, 1) := by decide +kernel
theorem dX12_finish_40 : decode cX12_finish 40 = .ok (.aload_n 0, 1) := by decide +kernel
theorem dX12_finish_41 : decode cX12_finish 41 = .ok (.iconst 1, 1) := by decide +kernel
theorem dX12_finish_42 : decode cX12_finish 42 = .ok (.putfield 359, 3) := by decide +kernel
theorem dX12_finish_45 : decode cX12_finish 45 = .ok (.aload_n 0, 1) := by decide +kernel
theorem dX12_finish_46 : decode cX12_finish 46 = .ok (.iconst 0, 1) := by decide +kernel
theorem dX12_finish_47 : decode cX12_finish 47 = .ok (.putfield 306, 3) := by decide +kernel
theorem dX12_finish_50 : decode cX12_finish 50 = .ok (.aload_n 0, 1) := by decide +kernel
theorem dX12_finish_51 : decode cX12_finish 51 = .ok (.aload_n 0, 1) := by decide +kernel
theorem dX12_finish_52 : decode cX12_finish 52 = .ok (.getfield 356, 3) := by decide +kernel
theorem dX12_finish_55 : decode cX12_finish 55 = .ok (.putfield 362, 3) := by decide +kernel
theorem dX12_finish_58 : decode cX12_finish 58 = .ok (.iconst 0, 1) := by decide +kernel
theorem dX12_finish_59 : decode cX12_finish 59 = .ok (.istore_n 1, 1) := by decide +kernel
theorem dX12_finish_60 : decode cX12_finish 60 = .ok (.iload_n 1, 1) := by decide +kernel
theorem dX12_finish_61 : decode cX12_finish 61 = .ok (.aload_n 0, 1) := by decide +kernel
theorem dX12_finish_62 : decode cX12_finish 62 = .ok (.getfield 356, 3) := by decide +kernel
theorem dX12_finish_65 : decode cX12_finish 65 = .ok (.if_icmp .ge 21, 3) := by decide +kernel
theorem dX12_finish_68 : decode cX12_finish 68 = .ok (.aload_n 0, 1) := by decide +kernel
theorem dX12_finish_69 : decode cX12_finish 69 = .ok (.getfield 85, 3) := by decide +kernel
theorem dX12_finish_72 : decode cX12_finish 72 = .ok (.iload_n 1, 1) := by decide +kernel
theorem dX12_finish_73 : decode cX12_finish 73 = .ok (.aload_n 0, 1) := by decide +kernel
theorem dX12_finish_74 : decode cX12_finish 74 = .ok (.getfield 91, 3) := by decide +kernel
theorem dX12_finish_77 : decode cX12_finish 77 = .ok (.iload_n 1, 1) := by decide +kernel
theorem dX12_finish_78 : decode cX12_finish 78 = .ok (.iaload, 1) := by decide +kernel
theorem dX12_finish_79 : decode cX12_finish 79 = .ok (.iastore, 1) := by decide +kernel
theorem dX12_finish_80 : decode cX12_finish 80 = .ok (.iinc 1 1, 3) := by decide +kernel
theorem dX12_finish_83 : decode cX12_finish 83 = .ok (.goto (-23), 3) := by decide +kernel
theorem dX12_finish_86 : decode cX12_finish 86 = .ok (.iconst 0, 1) := by decide +kernel
theorem dX12_finish_87 : decode cX12_finish 87 = .ok (.istore_n 1, 1) := by decide +kernel
theorem dX12_finish_88 : decode cX12_finish 88 = .ok (.iload_n 1, 1) := by decide +kernel
theorem dX12_finish_89 : decode cX12_finish 89 = .ok (.sipush 20200, 3) := by decide +kernel
theorem dX12_finish_92 : decode cX12_finish 92 = .ok (.if_icmp .ge 21, 3) := by decide +kernel
theorem dX12_finish_95 : decode cX12_finish 95 = .ok (.aload_n 0, 1) := by decide +kernel
theorem dX12_finish_96 : decode cX12_finish 96 = .ok (.getfield 88, 3) := by decide +kernel
theorem dX12_finish_99 : decode cX12_finish 99 = .ok (.iload_n 1, 1) := by decide +kernel
theorem dX12_finish_100 : decode cX12_finish 100 = .ok (.aload_n 0, 1) := by decide +kernel
theorem dX12_finish_101 : decode cX12_finish 101 = .ok (.getfield 94, 3) := by decide +kernel
theorem dX12_finish_104 : decode cX12_finish 104 = .ok (.iload_n 1, 1) := by decide +kernel
theorem dX12_finish_105 : decode cX12_finish 105 = .ok (.baload, 1) := by decide +kernel
theorem dX12_finish_106 : decode cX12_finish 106 = .ok (.bastore, 1) := by decide +kernel
theorem dX12_finish_107 : decode cX12_finish 107 = .ok (.iinc 1 1, 3) := by decide +kernel
theorem dX12_finish_110 : decode cX12_finish 110 = .ok (.goto (-22), 3) := by decide +kernel
theorem dX12_finish_113 : decode cX12_finish 113 = .ok (.aload_n 0, 1) := by decide +kernel
theorem dX12_finish_114 : decode cX12_finish 114 = .ok (.dup, 1) := by decide +kernel
theorem dX12_finish_115 : decode cX12_finish 115 = .ok (.getfield 365, 3) := by decide +kernel
theorem dX12_finish_118 : decode cX12_finish 118 = .ok (.iconst 1, 1) := by decide +kernel
theorem dX12_finish_119 : decode cX12_finish 119 = .ok (.iadd, 1) := by decide +kernel
theorem dX12_finish_120 : decode cX12_finish 120 = .ok (.putfield 365, 3) := by decide +kernel
theorem dX12_finish_123 : decode cX12_finish 123 = .ok (.aload_n 0, 1) := by decide +kernel
theorem dX12_finish_124 : decode cX12_finish 124 = .ok (.getfield 365, 3) := by decide +kernel
theorem dX12_finish_127 : decode cX12_finish 127 = .ok (.ireturn, 1) := by decide +kernel
theorem dX12_drop_0 : decode cX12_drop 0 = .ok (.aload_n 0, 1) := by decide +kernel
theorem dX12_drop_1 : decode cX12_drop 1 = .ok (.aload_n 0, 1) := by decide +kernel
theorem dX12_drop_2 : decode cX12_drop 2 = .ok (.getfield 297, 3) := by decide +kernel
theorem dX12_drop_5 : decode cX12_drop 5 = .ok (.ifCond .ne 14, 3) := by decide +kernel
theorem dX12_drop_8 : decode cX12_drop 8 = .ok (.aload_n 0, 1) := by decide +kernel
theorem dX12_drop_9 : decode cX12_drop 9 = .ok (.getfield 306, 3) := by decide +kernel
theorem dX12_drop_12 : decode cX12_drop 12 = .ok (.ifCond .eq 7, 3) := by decide +kernel
theorem dX12_drop_15 : decode cX12_drop 15 = .ok (.iconst 1, 1) := by decide +kernel
theorem dX12_drop_16 : decode cX12_drop 16 = .ok (.goto 4, 3) := by decide +kernel
theorem dX12_drop_19 : decode cX12_drop 19 = .ok (.iconst 0, 1) := by decide +kernel
theorem dX12_drop_20 : decode cX12_drop 20 = .ok (.iconst 1, 1) := by decide +kernel
theorem dX12_drop_21 : decode cX12_drop 21 = .ok (.iconst 1, 1) := by decide +kernel
theorem dX12_drop_22 : decode cX12_drop 22 = .ok (.invokevirtual 248, 3) := by decide +kernel
theorem dX12_drop_25 : decode cX12_drop 25 = .ok (.ifCond .eq 77, 3) := by decide +kernel
theorem dX12_drop_28 : decode cX12_drop 28 = .ok (.aload_n 0, 1) := by decide +kernel
theorem dX12_drop_29 : decode cX12_drop 29 = .ok (.iconst 0, 1) := by decide +kernel
theorem dX12_drop_30 : decode cX12_drop 30 = .ok (.putfield 306, 3) := by decide +kernel
theorem dX12_drop_33 : decode cX12_drop 33 = .ok (.iconst 0, 1) := by decide +kernel
theorem dX12_drop_34 : decode cX12_drop 34 = .ok (.istore_n 1, 1) := by decide +kernel
theorem dX12_drop_35 : decode cX12_drop 35 = .ok (.iload_n 1, 1) := by decide +kernel
theorem dX12_drop_36 : decode cX12_drop 36 = .ok (.aload_n 0, 1) := by decide +kernel
theorem dX12_drop_37 : decode cX12_drop 37 = .ok (.getfield 356, 3) := by decide +kernel
theorem dX12_drop_40 : decode cX12_drop 40 = .ok (.if_icmp .ge 62, 3) := by decide +kernel
theorem dX12_drop_43 : decode cX12_drop 43 = .ok (.bipush 100, 2) := by decide +kernel
theorem dX12_drop_45 : decode cX12_drop 45 = .ok (.aload_n 0, 1) := by decide +kernel
theorem dX12_drop_46 : decode cX12_drop 46 = .ok (.getfield 91, 3) := by decide +kernel
theorem dX12_drop_49 : decode cX12_drop 49 = .ok (.iload_n 1, 1) := by decide +kernel
theorem dX12_drop_50 : decode cX12_drop 50 = .ok (.iaload, 1) := by decide +kernel
theorem dX12_drop_51 : decode cX12_drop 51 = .ok (.imul, 1) := by decide +kernel
theorem dX12_drop_52 : decode cX12_drop 52 = .ok (.istore_n 2, 1) := by decide +kernel
theorem dX12_drop_53 : decode cX12_drop 53 = .ok (.iload_n 2, 1) := by decide +kernel
theorem dX12_drop_54 : decode cX12_drop 54 = .ok (.bipush 100, 2) := by decide +kernel
theorem dX12_drop_56 : decode cX12_drop 56 = .ok (.aload_n 0, 1) := by decide +kernel
theorem dX12_drop_57 : decode cX12_drop 57 = .ok (.getfield 91, 3) := by decide +kernel
theorem dX12_drop_60 : decode cX12_drop 60 = .ok (.iload_n 1, 1) := by decide +kernel
theorem dX12_drop_61 : decode cX12_drop 61 = .ok (.iaload, 1) := by decide +kernel
theorem dX12_drop_62 : decode cX12_drop 62 = .ok (.imul, 1) := by decide +kernel
theorem dX12_drop_63 : decode cX12_drop 63 = .ok (.aload_n 0, 1) := by decide +kernel
theorem dX12_drop_64 : decode cX12_drop 64 = .ok (.getfield 69, 3) := by decide +kernel
theorem dX12_drop_67 : decode cX12_drop 67 = .ok (.aload_n 0, 1) := by decide +kernel
theorem dX12_drop_68 : decode cX12_drop 68 = .ok (.getfield 91, 3) := by decide +kernel
theorem dX12_drop_71 : decode cX12_drop 71 = .ok (.iload_n 1, 1) := by decide +kernel
theorem dX12_drop_72 : decode cX12_drop 72 = .ok (.iaload, 1) := by decide +kernel
theorem dX12_drop_73 : decode cX12_drop 73 = .ok (.iaload, 1) := by decide +kernel
theorem dX12_drop_74 : decode cX12_drop 74 = .ok (.iadd, 1) := by decide +kernel
theorem dX12_drop_75 : decode cX12_drop 75 = .ok (.if_icmp .ge 21, 3) := by decide +kernel
theorem dX12_drop_78 : decode cX12_drop 78 = .ok (.aload_n 0, 1) := by decide +kernel
theorem dX12_drop_79 : decode cX12_drop 79 = .ok (.getfield 76, 3) := by decide +kernel
theorem dX12_drop_82 : decode cX12_drop 82 = .ok (.iload_n 2, 1) := by decide +kernel
theorem dX12_drop_83 : decode cX12_drop 83 = .ok (.aload_n 0, 1) := by decide +kernel
theorem dX12_drop_84 : decode cX12_drop 84 = .ok (.getfield 79, 3) := by decide +kernel
theorem dX12_drop_87 : decode cX12_drop 87 = .ok (.iload_n 2, 1) := by decide +kernel
theorem dX12_drop_88 : decode cX12_drop 88 = .ok (.baload, 1) := by decide +kernel
theorem dX12_drop_89 : decode cX12_drop 89 = .ok (.bastore, 1) := by decide +kernel
theorem dX12_drop_90 : decode cX12_drop 90 = .ok (.iinc 2 1, 3) := by decide +kernel
theorem dX12_drop_93 : decode cX12_drop 93 = .ok (.goto (-40), 3) := by decide +kernel
theorem dX12_drop_96 : decode cX12_drop 96 = .ok (.iinc 1 1, 3) := by decide +kernel
theorem dX12_drop_99 : decode cX12_drop 99 = .ok (.goto (-64), 3) := by decide +kernel
theorem dX12_drop_102 : decode cX12_drop 102 = .ok (.return_, 1) := by decide +kernel
theorem dX12_crashAt_0 : decode cX12_crashAt 0 = .ok (.aload_n 0, 1) := by decide +kernel
theorem dX12_crashAt_1 : decode cX12_crashAt 1 = .ok (.iload_n 1, 1) := by decide +kernel
theorem dX12_crashAt_2 : decode cX12_crashAt 2 = .ok (.iconst 0, 1) := by decide +kernel
theorem dX12_crashAt_3 : decode cX12_crashAt 3 = .ok (.sipush 1000, 3) := by decide +kernel
theorem dX12_crashAt_6 : decode cX12_crashAt 6 = .ok (.invokestatic 215, 3) := by decide +kernel
theorem dX12_crashAt_9 : decode cX12_crashAt 9 = .ok (.aload_n 0, 1) := by decide +kernel
theorem dX12_crashAt_10 : decode cX12_crashAt 10 = .ok (.getfield 297, 3) := by decide +kernel
theorem dX12_crashAt_13 : decode cX12_crashAt 13 = .ok (.ifCond .ne 7, 3) := by decide +kernel
theorem dX12_crashAt_16 : decode cX12_crashAt 16 = .ok (.iconst 1, 1) := by decide +kernel
theorem dX12_crashAt_17 : decode cX12_crashAt 17 = .ok (.goto 4, 3) := by decide +kernel
theorem dX12_crashAt_20 : decode cX12_crashAt 20 = .ok (.iconst 0, 1) := by decide +kernel
theorem dX12_crashAt_21 : decode cX12_crashAt 21 = .ok (.iconst 1, 1) := by decide +kernel
theorem dX12_crashAt_22 : decode cX12_crashAt 22 = .ok (.invokevirtual 248, 3) := by decide +kernel
theorem dX12_crashAt_25 : decode cX12_crashAt 25 = .ok (.ifCond .eq 8, 3) := by decide +kernel
theorem dX12_crashAt_28 : decode cX12_crashAt 28 = .ok (.aload_n 0, 1) := by decide +kernel
theorem dX12_crashAt_29 : decode cX12_crashAt 29 = .ok (.iload_n 1, 1) := by decide +kernel
theorem dX12_crashAt_30 : decode cX12_crashAt 30 = .ok (.putfield 206, 3) := by decide +kernel
theorem dX12_crashAt_33 : decode cX12_crashAt 33 = .ok (.return_, 1) := by decide +kernel
theorem dX12_open_0 : decode cX12_open 0 = .ok (.aload_n 0, 1) := by decide +kernel
theorem dX12_open_1 : decode cX12_open 1 = .ok (.aload_n 0, 1) := by decide +kernel
theorem dX12_open_2 : decode cX12_open 2 = .ok (.getfield 297, 3) := by decide +kernel
theorem dX12_open_5 : decode cX12_open 5 = .ok (.iconst 1, 1) := by decide +kernel
theorem dX12_open_6 : decode cX12_open 6 = .ok (.iconst 1, 1) := by decide +kernel
theorem dX12_open_7 : decode cX12_open 7 = .ok (.invokevirtual 248, 3) := by decide +kernel
theorem dX12_open_10 : decode cX12_open 10 = .ok (.ifCond .ne 5, 3) := by decide +kernel
theorem dX12_open_13 : decode cX12_open 13 = .ok (.iconst 0, 1) := by decide +kernel
theorem dX12_open_14 : decode cX12_open 14 = .ok (.ireturn, 1) := by decide +kernel
theorem dX12_open_15 : decode cX12_open 15 = .ok (.aload_n 0, 1) := by decide +kernel
theorem dX12_open_16 : decode cX12_open 16 = .ok (.iconst 0, 1) := by decide +kernel
theorem dX12_open_17 : decode cX12_open 17 = .ok (.putfield 297, 3) := by decide +kernel
theorem dX12_open_20 : decode cX12_open 20 = .ok (.aload_n 0, 1) := by decide +kernel
theorem dX12_open_21 : decode cX12_open 21 = .ok (.iconst (-1), 1) := by decide +kernel
theorem dX12_open_22 : decode cX12_open 22 = .ok (.putfield 206, 3) := by decide +kernel
theorem dX12_open_25 : decode cX12_open 25 = .ok (.aload_n 0, 1) := by decide +kernel
theorem dX12_open_26 : decode cX12_open 26 = .ok (.aload_n 0, 1) := by decide +kernel
theorem dX12_open_27 : decode cX12_open 27 = .ok (.getfield 359, 3) := by decide +kernel
theorem dX12_open_30 : decode cX12_open 30 = .ok (.ifCond .eq 10, 3) := by decide +kernel
theorem dX12_open_33 : decode cX12_open 33 = .ok (.aload_n 0, 1) := by decide +kernel
theorem dX12_open_34 : decode cX12_open 34 = .ok (.getfield 362, 3) := by decide +kernel
theorem dX12_open_37 : decode cX12_open 37 = .ok (.goto 4, 3) := by decide +kernel
theorem dX12_open_40 : decode cX12_open 40 = .ok (.iconst 0, 1) := by decide +kernel
theorem dX12_open_41 : decode cX12_open 41 = .ok (.putfield 290, 3) := by decide +kernel
theorem dX12_open_44 : decode cX12_open 44 = .ok (.iconst 0, 1) := by decide +kernel
theorem dX12_open_45 : decode cX12_open 45 = .ok (.istore_n 1, 1) := by decide +kernel
theorem dX12_open_46 : decode cX12_open 46 = .ok (.iload_n 1, 1) := by decide +kernel
theorem dX12_open_47 : decode cX12_open 47 = .ok (.aload_n 0, 1) := by decide +kernel
theorem dX12_open_48 : decode cX12_open 48 = .ok (.getfield 290, 3) := by decide +kernel
theorem dX12_open_51 : decode cX12_open 51 = .ok (.if_icmp .ge 86, 3) := by decide +kernel
theorem dX12_open_54 : decode cX12_open 54 = .ok (.aload_n 0, 1) := by decide +kernel
theorem dX12_open_55 : decode cX12_open 55 = .ok (.getfield 82, 3) := by decide +kernel
theorem dX12_open_58 : decode cX12_open 58 = .ok (.iload_n 1, 1) := by decide +kernel
theorem dX12_open_59 : decode cX12_open 59 = .ok (.aload_n 0, 1) := by decide +kernel
theorem dX12_open_60 : decode cX12_open 60 = .ok (.getfield 85, 3) := by decide +kernel
theorem dX12_open_63 : decode cX12_open 63 = .ok (.iload_n 1, 1) := by decide +kernel
theorem dX12_open_64 : decode cX12_open 64 = .ok (.iaload, 1) := by decide +kernel
theorem dX12_open_65 : decode cX12_open 65 = .ok (.iastore, 1) := by decide +kernel
theorem dX12_open_66 : decode cX12_open 66 = .ok (.bipush 100, 2) := by decide +kernel
theorem dX12_open_68 : decode cX12_open 68 = .ok (.aload_n 0, 1) := by decide +kernel
theorem dX12_open_69 : decode cX12_open 69 = .ok (.getfield 82, 3) := by decide +kernel
theorem dX12_open_72 : decode cX12_open 72 = .ok (.iload_n 1, 1) := by decide +kernel
theorem dX12_open_73 : decode cX12_open 73 = .ok (.iaload, 1) := by decide +kernel
theorem dX12_open_74 : decode cX12_open 74 = .ok (.imul, 1) := by decide +kernel
theorem dX12_open_75 : decode cX12_open 75 = .ok (.istore_n 2, 1) := by decide +kernel
theorem dX12_open_76 : decode cX12_open 76 = .ok (.iload_n 2, 1) := by decide +kernel
theorem dX12_open_77 : decode cX12_open 77 = .ok (.bipush 100, 2) := by decide +kernel
theorem dX12_open_79 : decode cX12_open 79 = .ok (.aload_n 0, 1) := by decide +kernel
theorem dX12_open_80 : decode cX12_open 80 = .ok (.getfield 82, 3) := by decide +kernel
theorem dX12_open_83 : decode cX12_open 83 = .ok (.iload_n 1, 1) := by decide +kernel
theorem dX12_open_84 : decode cX12_open 84 = .ok (.iaload, 1) := by decide +kernel
theorem dX12_open_85 : decode cX12_open 85 = .ok (.imul, 1) := by decide +kernel
theorem dX12_open_86 : decode cX12_open 86 = .ok (.aload_n 0, 1) := by decide +kernel
theorem dX12_open_87 : decode cX12_open 87 = .ok (.getfield 69, 3) := by decide +kernel
theorem dX12_open_90 : decode cX12_open 90 = .ok (.aload_n 0, 1) := by decide +kernel
theorem dX12_open_91 : decode cX12_open 91 = .ok (.getfield 82, 3) := by decide +kernel
theorem dX12_open_94 : decode cX12_open 94 = .ok (.iload_n 1, 1) := by decide +kernel
theorem dX12_open_95 : decode cX12_open 95 = .ok (.iaload, 1) := by decide +kernel
theorem dX12_open_96 : decode cX12_open 96 = .ok (.iaload, 1) := by decide +kernel
theorem dX12_open_97 : decode cX12_open 97 = .ok (.iadd, 1) := by decide +kernel
theorem dX12_open_98 : decode cX12_open 98 = .ok (.if_icmp .ge 33, 3) := by decide +kernel
theorem dX12_open_101 : decode cX12_open 101 = .ok (.aload_n 0, 1) := by decide +kernel
theorem dX12_open_102 : decode cX12_open 102 = .ok (.getfield 72, 3) := by decide +kernel
theorem dX12_open_105 : decode cX12_open 105 = .ok (.iload_n 2, 1) := by decide +kernel
theorem dX12_open_106 : decode cX12_open 106 = .ok (.aload_n 0, 1) := by decide +kernel
theorem dX12_open_107 : decode cX12_open 107 = .ok (.getfield 88, 3) := by decide +kernel
theorem dX12_open_110 : decode cX12_open 110 = .ok (.iload_n 2, 1) := by decide +kernel
theorem dX12_open_111 : decode cX12_open 111 = .ok (.baload, 1) := by decide +kernel
theorem dX12_open_112 : decode cX12_open 112 = .ok (.bastore, 1) := by decide +kernel
theorem dX12_open_113 : decode cX12_open 113 = .ok (.aload_n 0, 1) := by decide +kernel
theorem dX12_open_114 : decode cX12_open 114 = .ok (.getfield 76, 3) := by decide +kernel
theorem dX12_open_117 : decode cX12_open 117 = .ok (.iload_n 2, 1) := by decide +kernel
theorem dX12_open_118 : decode cX12_open 118 = .ok (.aload_n 0, 1) := by decide +kernel
theorem dX12_open_119 : decode cX12_open 119 = .ok (.getfield 88, 3) := by decide +kernel
theorem dX12_open_122 : decode cX12_open 122 = .ok (.iload_n 2, 1) := by decide +kernel
theorem dX12_open_123 : decode cX12_open 123 = .ok (.baload, 1) := by decide +kernel
theorem dX12_open_124 : decode cX12_open 124 = .ok (.bastore, 1) := by decide +kernel
theorem dX12_open_125 : decode cX12_open 125 = .ok (.iinc 2 1, 3) := by decide +kernel
theorem dX12_open_128 : decode cX12_open 128 = .ok (.goto (-52), 3) := by decide +kernel
theorem dX12_open_131 : decode cX12_open 131 = .ok (.iinc 1 1, 3) := by decide +kernel
theorem dX12_open_134 : decode cX12_open 134 = .ok (.goto (-88), 3) := by decide +kernel
theorem dX12_open_137 : decode cX12_open 137 = .ok (.aload_n 0, 1) := by decide +kernel
theorem dX12_open_138 : decode cX12_open 138 = .ok (.getfield 290, 3) := by decide +kernel
theorem dX12_open_141 : decode cX12_open 141 = .ok (.ireturn, 1) := by decide +kernel
theorem dX12_isDown_0 : decode cX12_isDown 0 = .ok (.aload_n 0, 1) := by decide +kernel
theorem dX12_isDown_1 : decode cX12_isDown 1 = .ok (.iconst 0, 1) := by decide +kernel
theorem dX12_isDown_2 : decode cX12_isDown 2 = .ok (.putfield 212, 3) := by decide +kernel
theorem dX12_isDown_5 : decode cX12_isDown 5 = .ok (.aload_n 0, 1) := by decide +kernel
theorem dX12_isDown_6 : decode cX12_isDown 6 = .ok (.getfield 297, 3) := by decide +kernel
theorem dX12_isDown_9 : decode cX12_isDown 9 = .ok (.ireturn, 1) := by decide +kernel
theorem dX12_isInIndex_0 : decode cX12_isInIndex 0 = .ok (.iconst 0, 1) := by decide +kernel
theorem dX12_isInIndex_1 : decode cX12_isInIndex 1 = .ok (.istore_n 2, 1) := by decide +kernel
theorem dX12_isInIndex_2 : decode cX12_isInIndex 2 = .ok (.iconst 0, 1) := by decide +kernel
theorem dX12_isInIndex_3 : decode cX12_isInIndex 3 = .ok (.istore_n 3, 1) := by decide +kernel
theorem dX12_isInIndex_4 : decode cX12_isInIndex 4 = .ok (.iload_n 3, 1) := by decide +kernel
theorem dX12_isInIndex_5 : decode cX12_isInIndex 5 = .ok (.aload_n 0, 1) := by decide +kernel
theorem dX12_isInIndex_6 : decode cX12_isInIndex 6 = .ok (.getfield 290, 3) := by decide +kernel
theorem dX12_isInIndex_9 : decode cX12_isInIndex 9 = .ok (.if_icmp .ge 29, 3) := by decide +kernel
theorem dX12_isInIndex_12 : decode cX12_isInIndex 12 = .ok (.iload_n 2, 1) := by decide +kernel
theorem dX12_isInIndex_13 : decode cX12_isInIndex 13 = .ok (.ifCond .ne 13, 3) := by decide +kernel
theorem dX12_isInIndex_16 : decode cX12_isInIndex 16 = .ok (.aload_n 0, 1) := by decide +kernel
theorem dX12_isInIndex_17 : decode cX12_isInIndex 17 = .ok (.getfield 82, 3) := by decide +kernel
theorem dX12_isInIndex_20 : decode cX12_isInIndex 20 = .ok (.iload_n 3, 1) := by decide +kernel
theorem dX12_isInIndex_21 : decode cX12_isInIndex 21 = .ok (.iaload, 1) := by decide +kernel
theorem dX12_isInIndex_22 : decode cX12_isInIndex 22 = .ok (.iload_n 1, 1) := by decide +kernel
theorem dX12_isInIndex_23 : decode cX12_isInIndex 23 = .ok (.if_icmp .ne 7, 3) := by decide +kernel
theorem dX12_isInIndex_26 : decode cX12_isInIndex 26 = .ok (.iconst 1, 1) := by decide +kernel
theorem dX12_isInIndex_27 : decode cX12_isInIndex 27 = .ok (.goto 4, 3) := by decide +kernel
theorem dX12_isInIndex_30 : decode cX12_isInIndex 30 = .ok (.iconst 0, 1) := by decide +kernel
theorem dX12_isInIndex_31 : decode cX12_isInIndex 31 = .ok (.istore_n 2, 1) := by decide +kernel
theorem dX12_isInIndex_32 : decode cX12_isInIndex 32 = .ok (.iinc 3 1, 3) := by decide +kernel
theorem dX12_isInIndex_35 : decode cX12_isInIndex 35 = .ok (.goto (-31), 3) := by decide +kernel
theorem dX12_isInIndex_38 : decode cX12_isInIndex 38 = .ok (.iload_n 2, 1) := by decide +kernel
theorem dX12_isInIndex_39 : decode cX12_isInIndex 39 = .ok (.ireturn, 1) := by decide +kernel
theorem dX12_isInCommit_0 : decode cX12_isInCommit 0 = .ok (.iconst 0, 1) := by decide +kernel
theorem dX12_isInCommit_1 : decode cX12_isInCommit 1 = .ok (.istore_n 2, 1) := by decide +kernel
theorem dX12_isInCommit_2 : decode cX12_isInCommit 2 = .ok (.iconst 0, 1) := by decide +kernel
theorem dX12_isInCommit_3 : decode cX12_isInCommit 3 = .ok (.istore_n 3, 1) := by decide +kernel
theorem dX12_isInCommit_4 : decode cX12_isInCommit 4 = .ok (.aload_n 0, 1) := by decide +kernel
theorem dX12_isInCommit_5 : decode cX12_isInCommit 5 = .ok (.getfield 359, 3) := by decide +kernel
theorem dX12_isInCommit_8 : decode cX12_isInCommit 8 = .ok (.ifCond .eq 37, 3) := by decide +kernel
theorem dX12_isInCommit_11 : decode cX12_isInCommit 11 = .ok (.iload_n 3, 1) := by decide +kernel
theorem dX12_isInCommit_12 : decode cX12_isInCommit 12 = .ok (.aload_n 0, 1) := by decide +kernel
theorem dX12_isInCommit_13 : decode cX12_isInCommit 13 = .ok (.getfield 362, 3) := by decide +kernel
theorem dX12_isInCommit_16 : decode cX12_isInCommit 16 = .ok (.if_icmp .ge 29, 3) := by decide +kernel
theorem dX12_isInCommit_19 : decode cX12_isInCommit 19 = .ok (.iload_n 2, 1) := by decide +kernel
theorem dX12_isInCommit_20 : decode cX12_isInCommit 20 = .ok (.ifCond .ne 13, 3) := by decide +kernel
theorem dX12_isInCommit_23 : decode cX12_isInCommit 23 = .ok (.aload_n 0, 1) := by decide +kernel
theorem dX12_isInCommit_24 : decode cX12_isInCommit 24 = .ok (.getfield 85, 3) := by decide +kernel
theorem dX12_isInCommit_27 : decode cX12_isInCommit 27 = .ok (.iload_n 3, 1) := by decide +kernel
theorem dX12_isInCommit_28 : decode cX12_isInCommit 28 = .ok (.iaload, 1) := by decide +kernel
theorem dX12_isInCommit_29 : decode cX12_isInCommit 29 = .ok (.iload_n 1, 1) := by decide +kernel
theorem dX12_isInCommit_30 : decode cX12_isInCommit 30 = .ok (.if_icmp .ne 7, 3) := by decide +kernel
theorem dX12_isInCommit_33 : decode cX12_isInCommit 33 = .ok (.iconst 1, 1) := by decide +kernel
theorem dX12_isInCommit_34 : decode cX12_isInCommit 34 = .ok (.goto 4, 3) := by decide +kernel
theorem dX12_isInCommit_37 : decode cX12_isInCommit 37 = .ok (.iconst 0, 1) := by decide +kernel
theorem dX12_isInCommit_38 : decode cX12_isInCommit 38 = .ok (.istore_n 2, 1) := by decide +kernel
theorem dX12_isInCommit_39 : decode cX12_isInCommit 39 = .ok (.iinc 3 1, 3) := by decide +kernel
theorem dX12_isInCommit_42 : decode cX12_isInCommit 42 = .ok (.goto (-38), 3) := by decide +kernel
theorem dX12_isInCommit_45 : decode cX12_isInCommit 45 = .ok (.iload_n 2, 1) := by decide +kernel
theorem dX12_isInCommit_46 : decode cX12_isInCommit 46 = .ok (.ireturn, 1) := by decide +kernel
theorem dX12_isInPrepared_0 : decode cX12_isInPrepared 0 = .ok (.iconst 0, 1) := by decide +kernel
theorem dX12_isInPrepared_1 : decode cX12_isInPrepared 1 = .ok (.istore_n 2, 1) := by decide +kernel
theorem dX12_isInPrepared_2 : decode cX12_isInPrepared 2 = .ok (.iconst 0, 1) := by decide +kernel
theorem dX12_isInPrepared_3 : decode cX12_isInPrepared 3 = .ok (.istore_n 3, 1) := by decide +kernel
theorem dX12_isInPrepared_4 : decode cX12_isInPrepared 4 = .ok (.aload_n 0, 1) := by decide +kernel
theorem dX12_isInPrepared_5 : decode cX12_isInPrepared 5 = .ok (.getfield 306, 3) := by decide +kernel
theorem dX12_isInPrepared_8 : decode cX12_isInPrepared 8 = .ok (.ifCond .eq 37, 3) := by decide +kernel
theorem dX12_isInPrepared_11 : decode cX12_isInPrepared 11 = .ok (.iload_n 3, 1) := by decide +kernel
theorem dX12_isInPrepared_12 : decode cX12_isInPrepared 12 = .ok (.aload_n 0, 1) := by decide +kernel
theorem dX12_isInPrepared_13 : decode cX12_isInPrepared 13 = .ok (.getfield 356, 3) := by decide +kernel
theorem dX12_isInPrepared_16 : decode cX12_isInPrepared 16 = .ok (.if_icmp .ge 29, 3) := by decide +kernel
theorem dX12_isInPrepared_19 : decode cX12_isInPrepared 19 = .ok (.iload_n 2, 1) := by decide +kernel
theorem dX12_isInPrepared_20 : decode cX12_isInPrepared 20 = .ok (.ifCond .ne 13, 3) := by decide +kernel
theorem dX12_isInPrepared_23 : decode cX12_isInPrepared 23 = .ok (.aload_n 0, 1) := by decide +kernel
theorem dX12_isInPrepared_24 : decode cX12_isInPrepared 24 = .ok (.getfield 91, 3) := by decide +kernel
theorem dX12_isInPrepared_27 : decode cX12_isInPrepared 27 = .ok (.iload_n 3, 1) := by decide +kernel
theorem dX12_isInPrepared_28 : decode cX12_isInPrepared 28 = .ok (.iaload, 1) := by decide +kernel
theorem dX12_isInPrepared_29 : decode cX12_isInPrepared 29 = .ok (.iload_n 1, 1) := by decide +kernel
theorem dX12_isInPrepared_30 : decode cX12_isInPrepared 30 = .ok (.if_icmp .ne 7, 3) := by decide +kernel
theorem dX12_isInPrepared_33 : decode cX12_isInPrepared 33 = .ok (.iconst 1, 1) := by decide +kernel
theorem dX12_isInPrepared_34 : decode cX12_isInPrepared 34 = .ok (.goto 4, 3) := by decide +kernel
theorem dX12_isInPrepared_37 : decode cX12_isInPrepared 37 = .ok (.iconst 0, 1) := by decide +kernel
theorem dX12_isInPrepared_38 : decode cX12_isInPrepared 38 = .ok (.istore_n 2, 1) := by decide +kernel
theorem dX12_isInPrepared_39 : decode cX12_isInPrepared 39 = .ok (.iinc 3 1, 3) := by decide +kernel
theorem dX12_isInPrepared_42 : decode cX12_isInPrepared 42 = .ok (.goto (-38), 3) := by decide +kernel
theorem dX12_isInPrepared_45 : decode cX12_isInPrepared 45 = .ok (.iload_n 2, 1) := by decide +kernel
theorem dX12_isInPrepared_46 : decode cX12_isInPrepared 46 = .ok (.ireturn, 1) := by decide +kernel
theorem dX12_isInLooks_0 : decode cX12_isInLooks 0 = .ok (.iconst 0, 1) := by decide +kernel
theorem dX12_isInLooks_1 : decode cX12_isInLooks 1 = .ok (.istore_n 2, 1) := by decide +kernel
theorem dX12_isInLooks_2 : decode cX12_isInLooks 2 = .ok (.iconst 0, 1) := by decide +kernel
theorem dX12_isInLooks_3 : decode cX12_isInLooks 3 = .ok (.istore_n 3, 1) := by decide +kernel
theorem dX12_isInLooks_4 : decode cX12_isInLooks 4 = .ok (.iload_n 3, 1) := by decide +kernel
theorem dX12_isInLooks_5 : decode cX12_isInLooks 5 = .ok (.iconst 5, 1) := by decide +kernel
theorem dX12_isInLooks_6 : decode cX12_isInLooks 6 = .ok (.if_icmp .ge 66, 3) := by decide +kernel
theorem dX12_isInLooks_9 : decode cX12_isInLooks 9 = .ok (.iconst 0, 1) := by decide +kernel
theorem dX12_isInLooks_10 : decode cX12_isInLooks 10 = .ok (.istore 4, 2) := by decide +kernel
theorem dX12_isInLooks_12 : decode cX12_isInLooks 12 = .ok (.aload_n 0, 1) := by decide +kernel
theorem dX12_isInLooks_13 : decode cX12_isInLooks 13 = .ok (.getfield 97, 3) := by decide +kernel
theorem dX12_isInLooks_16 : decode cX12_isInLooks 16 = .ok (.iload_n 3, 1) := by decide +kernel
theorem dX12_isInLooks_17 : decode cX12_isInLooks 17 = .ok (.iaload, 1) := by decide +kernel
theorem dX12_isInLooks_18 : decode cX12_isInLooks 18 = .ok (.iconst (-1), 1) := by decide +kernel
theorem dX12_isInLooks_19 : decode cX12_isInLooks 19 = .ok (.if_icmp .eq 47, 3) := by decide +kernel
theorem dX12_isInLooks_22 : decode cX12_isInLooks 22 = .ok (.iload 4, 2) := by decide +kernel
theorem dX12_isInLooks_24 : decode cX12_isInLooks 24 = .ok (.aload_n 0, 1) := by decide +kernel
theorem dX12_isInLooks_25 : decode cX12_isInLooks 25 = .ok (.getfield 103, 3) := by decide +kernel
theorem dX12_isInLooks_28 : decode cX12_isInLooks 28 = .ok (.iload_n 3, 1) := by decide +kernel
theorem dX12_isInLooks_29 : decode cX12_isInLooks 29 = .ok (.iaload, 1) := by decide +kernel
theorem dX12_isInLooks_30 : decode cX12_isInLooks 30 = .ok (.if_icmp .ge 36, 3) := by decide +kernel
theorem dX12_isInLooks_33 : decode cX12_isInLooks 33 = .ok (.iload_n 2, 1) := by decide +kernel
theorem dX12_isInLooks_34 : decode cX12_isInLooks 34 = .ok (.ifCond .ne 20, 3) := by decide +kernel
theorem dX12_isInLooks_37 : decode cX12_isInLooks 37 = .ok (.aload_n 0, 1) := by decide +kernel
theorem dX12_isInLooks_38 : decode cX12_isInLooks 38 = .ok (.getfield 100, 3) := by decide +kernel
theorem dX12_isInLooks_41 : decode cX12_isInLooks 41 = .ok (.sipush 202, 3) := by decide +kernel
theorem dX12_isInLooks_44 : decode cX12_isInLooks 44 = .ok (.iload_n 3, 1) := by decide +kernel
theorem dX12_isInLooks_45 : decode cX12_isInLooks 45 = .ok (.imul, 1) := by decide +kernel
theorem dX12_isInLooks_46 : decode cX12_isInLooks 46 = .ok (.iload 4, 2) := by decide +kernel
theorem dX12_isInLooks_48 : decode cX12_isInLooks 48 = .ok (.iadd, 1) := by decide +kernel
theorem dX12_isInLooks_49 : decode cX12_isInLooks 49 = .ok (.iaload, 1) := by decide +kernel
theorem dX12_isInLooks_50 : decode cX12_isInLooks 50 = .ok (.iload_n 1, 1) := by decide +kernel
theorem dX12_isInLooks_51 : decode cX12_isInLooks 51 = .ok (.if_icmp .ne 7, 3) := by decide +kernel
theorem dX12_isInLooks_54 : decode cX12_isInLooks 54 = .ok (.iconst 1, 1) := by decide +kernel
theorem dX12_isInLooks_55 : decode cX12_isInLooks 55 = .ok (.goto 4, 3) := by decide +kernel
theorem dX12_isInLooks_58 : decode cX12_isInLooks 58 = .ok (.iconst 0, 1) := by decide +kernel
theorem dX12_isInLooks_59 : decode cX12_isInLooks 59 = .ok (.istore_n 2, 1) := by decide +kernel
theorem dX12_isInLooks_60 : decode cX12_isInLooks 60 = .ok (.iinc 4 1, 3) := by decide +kernel
theorem dX12_isInLooks_63 : decode cX12_isInLooks 63 = .ok (.goto (-51), 3) := by decide +kernel
theorem dX12_isInLooks_66 : decode cX12_isInLooks 66 = .ok (.iinc 3 1, 3) := by decide +kernel
theorem dX12_isInLooks_69 : decode cX12_isInLooks 69 = .ok (.goto (-65), 3) := by decide +kernel
theorem dX12_isInLooks_72 : decode cX12_isInLooks 72 = .ok (.iload_n 2, 1) := by decide +kernel
theorem dX12_isInLooks_73 : decode cX12_isInLooks 73 = .ok (.ireturn, 1) := by decide +kernel
theorem dX12_filesNow_0 : decode cX12_filesNow 0 = .ok (.aload_n 0, 1) := by decide +kernel
theorem dX12_filesNow_1 : decode cX12_filesNow 1 = .ok (.getfield 359, 3) := by decide +kernel
theorem dX12_filesNow_4 : decode cX12_filesNow 4 = .ok (.ifCond .eq 7, 3) := by decide +kernel
theorem dX12_filesNow_7 : decode cX12_filesNow 7 = .ok (.iconst 1, 1) := by decide +kernel
theorem dX12_filesNow_8 : decode cX12_filesNow 8 = .ok (.goto 4, 3) := by decide +kernel
theorem dX12_filesNow_11 : decode cX12_filesNow 11 = .ok (.iconst 0, 1) := by decide +kernel
theorem dX12_filesNow_12 : decode cX12_filesNow 12 = .ok (.aload_n 0, 1) := by decide +kernel
theorem dX12_filesNow_13 : decode cX12_filesNow 13 = .ok (.getfield 306, 3) := by decide +kernel
theorem dX12_filesNow_16 : decode cX12_filesNow 16 = .ok (.ifCond .eq 7, 3) := by decide +kernel
theorem dX12_filesNow_19 : decode cX12_filesNow 19 = .ok (.iconst 1, 1) := by decide +kernel
theorem dX12_filesNow_20 : decode cX12_filesNow 20 = .ok (.goto 4, 3) := by decide +kernel
theorem dX12_filesNow_23 : decode cX12_filesNow 23 = .ok (.iconst 0, 1) := by decide +kernel
theorem dX12_filesNow_24 : decode cX12_filesNow 24 = .ok (.iadd, 1) := by decide +kernel
theorem dX12_filesNow_25 : decode cX12_filesNow 25 = .ok (.aload_n 0, 1) := by decide +kernel
theorem dX12_filesNow_26 : decode cX12_filesNow 26 = .ok (.getfield 303, 3) := by decide +kernel
theorem dX12_filesNow_29 : decode cX12_filesNow 29 = .ok (.ifCond .eq 14, 3) := by decide +kernel
theorem dX12_filesNow_32 : decode cX12_filesNow 32 = .ok (.aload_n 0, 1) := by decide +kernel
theorem dX12_filesNow_33 : decode cX12_filesNow 33 = .ok (.getfield 347, 3) := by decide +kernel
theorem dX12_filesNow_36 : decode cX12_filesNow 36 = .ok (.ifCond .le 7, 3) := by decide +kernel
theorem dX12_filesNow_39 : decode cX12_filesNow 39 = .ok (.iconst 1, 1) := by decide +kernel
theorem dX12_filesNow_40 : decode cX12_filesNow 40 = .ok (.goto 4, 3) := by decide +kernel
theorem dX12_filesNow_43 : decode cX12_filesNow 43 = .ok (.iconst 0, 1) := by decide +kernel
theorem dX12_filesNow_44 : decode cX12_filesNow 44 = .ok (.iadd, 1) := by decide +kernel
theorem dX12_filesNow_45 : decode cX12_filesNow 45 = .ok (.istore_n 1, 1) := by decide +kernel
theorem dX12_filesNow_46 : decode cX12_filesNow 46 = .ok (.iconst 0, 1) := by decide +kernel
theorem dX12_filesNow_47 : decode cX12_filesNow 47 = .ok (.istore_n 2, 1) := by decide +kernel
theorem dX12_filesNow_48 : decode cX12_filesNow 48 = .ok (.iload_n 2, 1) := by decide +kernel
theorem dX12_filesNow_49 : decode cX12_filesNow 49 = .ok (.aload_n 0, 1) := by decide +kernel
theorem dX12_filesNow_50 : decode cX12_filesNow 50 = .ok (.getfield 331, 3) := by decide +kernel
theorem dX12_filesNow_53 : decode cX12_filesNow 53 = .ok (.if_icmp .ge 208, 3) := by decide +kernel
theorem dX12_filesNow_56 : decode cX12_filesNow 56 = .ok (.aload_n 0, 1) := by decide +kernel
theorem dX12_filesNow_57 : decode cX12_filesNow 57 = .ok (.iload_n 2, 1) := by decide +kernel
theorem dX12_filesNow_58 : decode cX12_filesNow 58 = .ok (.invokevirtual 368, 3) := by decide +kernel
theorem dX12_filesNow_61 : decode cX12_filesNow 61 = .ok (.istore_n 3, 1) := by decide +kernel
theorem dX12_filesNow_62 : decode cX12_filesNow 62 = .ok (.aload_n 0, 1) := by decide +kernel
theorem dX12_filesNow_63 : decode cX12_filesNow 63 = .ok (.iload_n 2, 1) := by decide +kernel
theorem dX12_filesNow_64 : decode cX12_filesNow 64 = .ok (.invokevirtual 371, 3) := by decide +kernel
theorem dX12_filesNow_67 : decode cX12_filesNow 67 = .ok (.istore 4, 2) := by decide +kernel
theorem dX12_filesNow_69 : decode cX12_filesNow 69 = .ok (.iload_n 1, 1) := by decide +kernel
theorem dX12_filesNow_70 : decode cX12_filesNow 70 = .ok (.iload_n 3, 1) := by decide +kernel
theorem dX12_filesNow_71 : decode cX12_filesNow 71 = .ok (.ifCond .ne 24, 3) := by decide +kernel
theorem dX12_filesNow_74 : decode cX12_filesNow 74 = .ok (.iload 4, 2) := by decide +kernel
theorem dX12_filesNow_76 : decode cX12_filesNow 76 = .ok (.ifCond .ne 19, 3) := by decide +kernel
theorem dX12_filesNow_79 : decode cX12_filesNow 79 = .ok (.aload_n 0, 1) := by decide +kernel
theorem dX12_filesNow_80 : decode cX12_filesNow 80 = .ok (.iload_n 2, 1) := by decide +kernel
theorem dX12_filesNow_81 : decode cX12_filesNow 81 = .ok (.invokevirtual 374, 3) := by decide +kernel
theorem dX12_filesNow_84 : decode cX12_filesNow 84 = .ok (.ifCond .ne 11, 3) := by decide +kernel
theorem dX12_filesNow_87 : decode cX12_filesNow 87 = .ok (.aload_n 0, 1) := by decide +kernel
theorem dX12_filesNow_88 : decode cX12_filesNow 88 = .ok (.iload_n 2, 1) := by decide +kernel
theorem dX12_filesNow_89 : decode cX12_filesNow 89 = .ok (.invokevirtual 377, 3) := by decide +kernel
theorem dX12_filesNow_92 : decode cX12_filesNow 92 = .ok (.ifCond .eq 7, 3) := by decide +kernel
theorem dX12_filesNow_95 : decode cX12_filesNow 95 = .ok (.iconst 1, 1) := by decide +kernel
theorem dX12_filesNow_96 : decode cX12_filesNow 96 = .ok (.goto 4, 3) := by decide +kernel
theorem dX12_filesNow_99 : decode cX12_filesNow 99 = .ok (.iconst 0, 1) := by decide +kernel
theorem dX12_filesNow_100 : decode cX12_filesNow 100 = .ok (.iadd, 1) := by decide +kernel
theorem dX12_filesNow_101 : decode cX12_filesNow 101 = .ok (.istore_n 1, 1) := by decide +kernel
theorem dX12_filesNow_102 : decode cX12_filesNow 102 = .ok (.iconst 0, 1) := by decide +kernel
theorem dX12_filesNow_103 : decode cX12_filesNow 103 = .ok (.istore 5, 2) := by decide +kernel
theorem dX12_filesNow_105 : decode cX12_filesNow 105 = .ok (.iconst 0, 1) := by decide +kernel
theorem dX12_filesNow_106 : decode cX12_filesNow 106 = .ok (.istore 6, 2) := by decide +kernel
theorem dX12_filesNow_108 : decode cX12_filesNow 108 = .ok (.iconst 1, 1) := by decide +kernel
theorem dX12_filesNow_109 : decode cX12_filesNow 109 = .ok (.istore 7, 2) := by decide +kernel
theorem dX12_filesNow_111 : decode cX12_filesNow 111 = .ok (.bipush 100, 2) := by decide +kernel
theorem dX12_filesNow_113 : decode cX12_filesNow 113 = .ok (.iload_n 2, 1) := by decide +kernel
theorem dX12_filesNow_114 : decode cX12_filesNow 114 = .ok (.imul, 1) := by decide +kernel
theorem dX12_filesNow_115 : decode cX12_filesNow 115 = .ok (.istore 8, 2) := by decide +kernel
theorem dX12_filesNow_117 : decode cX12_filesNow 117 = .ok (.iload 8, 2) := by decide +kernel
theorem dX12_filesNow_119 : decode cX12_filesNow 119 = .ok (.bipush 100, 2) := by decide +kernel
theorem dX12_filesNow_121 : decode cX12_filesNow 121 = .ok (.iload_n 2, 1) := by decide +kernel
theorem dX12_filesNow_122 : decode cX12_filesNow 122 = .ok (.imul, 1) := by decide +kernel
theorem dX12_filesNow_123 : decode cX12_filesNow 123 = .ok (.aload_n 0, 1) := by decide +kernel
theorem dX12_filesNow_124 : decode cX12_filesNow 124 = .ok (.getfield 69, 3) := by decide +kernel
theorem dX12_filesNow_127 : decode cX12_filesNow 127 = .ok (.iload_n 2, 1) := by decide +kernel
theorem dX12_filesNow_128 : decode cX12_filesNow 128 = .ok (.iaload, 1) := by decide +kernel
theorem dX12_filesNow_129 : decode cX12_filesNow 129 = .ok (.iadd, 1) := by decide +kernel
theorem dX12_filesNow_130 : decode cX12_filesNow 130 = .ok (.if_icmp .ge 91, 3) := by decide +kernel
theorem dX12_filesNow_133 : decode cX12_filesNow 133 = .ok (.iload 5, 2) := by decide +kernel
theorem dX12_filesNow_135 : decode cX12_filesNow 135 = .ok (.ifCond .ne 17, 3) := by decide +kernel
theorem dX12_filesNow_138 : decode cX12_filesNow 138 = .ok (.iload_n 3, 1) := by decide +kernel
theorem dX12_filesNow_139 : decode cX12_filesNow 139 = .ok (.ifCond .eq 17, 3) := by decide +kernel
theorem dX12_filesNow_142 : decode cX12_filesNow 142 = .ok (.aload_n 0, 1) := by decide +kernel
theorem dX12_filesNow_143 : decode cX12_filesNow 143 = .ok (.getfield 88, 3) := by decide +kernel
theorem dX12_filesNow_146 : decode cX12_filesNow 146 = .ok (.iload 8, 2) := by decide +kernel
theorem dX12_filesNow_148 : decode cX12_filesNow 148 = .ok (.baload, 1) := by decide +kernel
theorem dX12_filesNow_149 : decode cX12_filesNow 149 = .ok (.ifCond .ne 7, 3) := by decide +kernel
theorem dX12_filesNow_152 : decode cX12_filesNow 152 = .ok (.iconst 1, 1) := by decide +kernel
theorem dX12_filesNow_153 : decode cX12_filesNow 153 = .ok (.goto 4, 3) := by decide +kernel
theorem dX12_filesNow_156 : decode cX12_filesNow 156 = .ok (.iconst 0, 1) := by decide +kernel
theorem dX12_filesNow_157 : decode cX12_filesNow 157 = .ok (.istore 5, 2) := by decide +kernel
theorem dX12_filesNow_159 : decode cX12_filesNow 159 = .ok (.iload 6, 2) := by decide +kernel
theorem dX12_filesNow_161 : decode cX12_filesNow 161 = .ok (.ifCond .ne 18, 3) := by decide +kernel
theorem dX12_filesNow_164 : decode cX12_filesNow 164 = .ok (.iload 4, 2) := by decide +kernel
theorem dX12_filesNow_166 : decode cX12_filesNow 166 = .ok (.ifCond .eq 17, 3) := by decide +kernel
theorem dX12_filesNow_169 : decode cX12_filesNow 169 = .ok (.aload_n 0, 1) := by decide +kernel
theorem dX12_filesNow_170 : decode cX12_filesNow 170 = .ok (.getfield 94, 3) := by decide +kernel
theorem dX12_filesNow_173 : decode cX12_filesNow 173 = .ok (.iload 8, 2) := by decide +kernel
theorem dX12_filesNow_175 : decode cX12_filesNow 175 = .ok (.baload, 1) := by decide +kernel
theorem dX12_filesNow_176 : decode cX12_filesNow 176 = .ok (.ifCond .ne 7, 3) := by decide +kernel
theorem dX12_filesNow_179 : decode cX12_filesNow 179 = .ok (.iconst 1, 1) := by decide +kernel
theorem dX12_filesNow_180 : decode cX12_filesNow 180 = .ok (.goto 4, 3) := by decide +kernel
theorem dX12_filesNow_183 : decode cX12_filesNow 183 = .ok (.iconst 0, 1) := by decide +kernel
theorem dX12_filesNow_184 : decode cX12_filesNow 184 = .ok (.istore 6, 2) := by decide +kernel
theorem dX12_filesNow_186 : decode cX12_filesNow 186 = .ok (.iload 7, 2) := by decide +kernel
theorem dX12_filesNow_188 : decode cX12_filesNow 188 = .ok (.ifCond .eq 24, 3) := by decide +kernel
theorem dX12_filesNow_191 : decode cX12_filesNow 191 = .ok (.aload_n 0, 1) := by decide +kernel
theorem dX12_filesNow_192 : decode cX12_filesNow 192 = .ok (.getfield 88, 3) := by decide +kernel
theorem dX12_filesNow_195 : decode cX12_filesNow 195 = .ok (.iload 8, 2) := by decide +kernel
theorem dX12_filesNow_197 : decode cX12_filesNow 197 = .ok (.baload, 1) := by decide +kernel
theorem dX12_filesNow_198 : decode cX12_filesNow 198 = .ok (.aload_n 0, 1) := by decide +kernel
theorem dX12_filesNow_199 : decode cX12_filesNow 199 = .ok (.getfield 94, 3) := by decide +kernel
theorem dX12_filesNow_202 : decode cX12_filesNow 202 = .ok (.iload 8, 2) := by decide +kernel
theorem dX12_filesNow_204 : decode cX12_filesNow 204 = .ok (.baload, 1) := by decide +kernel
theorem dX12_filesNow_205 : decode cX12_filesNow 205 = .ok (.if_icmp .ne 7, 3) := by decide +kernel
theorem dX12_filesNow_208 : decode cX12_filesNow 208 = .ok (.iconst 1, 1) := by decide +kernel
theorem dX12_filesNow_209 : decode cX12_filesNow 209 = .ok (.goto 4, 3) := by decide +kernel
theorem dX12_filesNow_212 : decode cX12_filesNow 212 = .ok (.iconst 0, 1) := by decide +kernel
theorem dX12_filesNow_213 : decode cX12_filesNow 213 = .ok (.istore 7, 2) := by decide +kernel
theorem dX12_filesNow_215 : decode cX12_filesNow 215 = .ok (.iinc 8 1, 3) := by decide +kernel
theorem dX12_filesNow_218 : decode cX12_filesNow 218 = .ok (.goto (-101), 3) := by decide +kernel
theorem dX12_filesNow_221 : decode cX12_filesNow 221 = .ok (.iload_n 1, 1) := by decide +kernel
theorem dX12_filesNow_222 : decode cX12_filesNow 222 = .ok (.iload 5, 2) := by decide +kernel
theorem dX12_filesNow_224 : decode cX12_filesNow 224 = .ok (.ifCond .eq 7, 3) := by decide +kernel
theorem dX12_filesNow_227 : decode cX12_filesNow 227 = .ok (.iconst 1, 1) := by decide +kernel
theorem dX12_filesNow_228 : decode cX12_filesNow 228 = .ok (.goto 4, 3) := by decide +kernel
theorem dX12_filesNow_231 : decode cX12_filesNow 231 = .ok (.iconst 0, 1) := by decide +kernel
theorem dX12_filesNow_232 : decode cX12_filesNow 232 = .ok (.iload 6, 2) := by decide +kernel
theorem dX12_filesNow_234 : decode cX12_filesNow 234 = .ok (.ifCond .eq 17, 3) := by decide +kernel
theorem dX12_filesNow_237 : decode cX12_filesNow 237 = .ok (.iload 5, 2) := by decide +kernel
theorem dX12_filesNow_239 : decode cX12_filesNow 239 = .ok (.ifCond .eq 8, 3) := by decide +kernel
theorem dX12_filesNow_242 : decode cX12_filesNow 242 = .ok (.iload 7, 2) := by decide +kernel
theorem dX12_filesNow_244 : decode cX12_filesNow 244 = .ok (.ifCond .ne 7, 3) := by decide +kernel
theorem dX12_filesNow_247 : decode cX12_filesNow 247 = .ok (.iconst 1, 1) := by decide +kernel
theorem dX12_filesNow_248 : decode cX12_filesNow 248 = .ok (.goto 4, 3) := by decide +kernel
theorem dX12_filesNow_251 : decode cX12_filesNow 251 = .ok (.iconst 0, 1) := by decide +kernel
theorem dX12_filesNow_252 : decode cX12_filesNow 252 = .ok (.iadd, 1) := by decide +kernel
theorem dX12_filesNow_253 : decode cX12_filesNow 253 = .ok (.iadd, 1) := by decide +kernel
theorem dX12_filesNow_254 : decode cX12_filesNow 254 = .ok (.istore_n 1, 1) := by decide +kernel
theorem dX12_filesNow_255 : decode cX12_filesNow 255 = .ok (.iinc 2 1, 3) := by decide +kernel
theorem dX12_filesNow_258 : decode cX12_filesNow 258 = .ok (.goto (-210), 3) := by decide +kernel
theorem dX12_filesNow_261 : decode cX12_filesNow 261 = .ok (.iload_n 1, 1) := by decide +kernel
theorem dX12_filesNow_262 : decode cX12_filesNow 262 = .ok (.ireturn, 1) := by decide +kernel
theorem dX12_files_0 : decode cX12_files 0 = .ok (.aload_n 0, 1) := by decide +kernel
theorem dX12_files_1 : decode cX12_files 1 = .ok (.aload_n 0, 1) := by decide +kernel
theorem dX12_files_2 : decode cX12_files 2 = .ok (.getfield 297, 3) := by decide +kernel
theorem dX12_files_5 : decode cX12_files 5 = .ok (.ifCond .ne 7, 3) := by decide +kernel
theorem dX12_files_8 : decode cX12_files 8 = .ok (.iconst 1, 1) := by decide +kernel
theorem dX12_files_9 : decode cX12_files 9 = .ok (.goto 4, 3) := by decide +kernel
theorem dX12_files_12 : decode cX12_files 12 = .ok (.iconst 0, 1) := by decide +kernel
theorem dX12_files_13 : decode cX12_files 13 = .ok (.iconst 1, 1) := by decide +kernel
theorem dX12_files_14 : decode cX12_files 14 = .ok (.iconst 1, 1) := by decide +kernel
theorem dX12_files_15 : decode cX12_files 15 = .ok (.invokevirtual 248, 3) := by decide +kernel
theorem dX12_files_18 : decode cX12_files 18 = .ok (.ifCond .eq 10, 3) := by decide +kernel
theorem dX12_files_21 : decode cX12_files 21 = .ok (.aload_n 0, 1) := by decide +kernel
theorem dX12_files_22 : decode cX12_files 22 = .ok (.invokevirtual 380, 3) := by decide +kernel
theorem dX12_files_25 : decode cX12_files 25 = .ok (.goto 4, 3) := by decide +kernel
theorem dX12_files_28 : decode cX12_files 28 = .ok (.iconst 0, 1) := by decide +kernel
theorem dX12_files_29 : decode cX12_files 29 = .ok (.ireturn, 1) := by decide +kernel
theorem dX12_writes_0 : decode cX12_writes 0 = .ok (.aload_n 0, 1) := by decide +kernel
theorem dX12_writes_1 : decode cX12_writes 1 = .ok (.iconst 0, 1) := by decide +kernel
theorem dX12_writes_2 : decode cX12_writes 2 = .ok (.putfield 212, 3) := by decide +kernel
theorem dX12_writes_5 : decode cX12_writes 5 = .ok (.aload_n 0, 1) := by decide +kernel
theorem dX12_writes_6 : decode cX12_writes 6 = .ok (.getfield 321, 3) := by decide +kernel
theorem dX12_writes_9 : decode cX12_writes 9 = .ok (.ireturn, 1) := by decide +kernel
theorem dX12_isPlace_0 : decode cX12_isPlace 0 = .ok (.aload_n 0, 1) := by decide +kernel
theorem dX12_isPlace_1 : decode cX12_isPlace 1 = .ok (.getfield 297, 3) := by decide +kernel
theorem dX12_isPlace_4 : decode cX12_isPlace 4 = .ok (.ifCond .ne 21, 3) := by decide +kernel
theorem dX12_isPlace_7 : decode cX12_isPlace 7 = .ok (.iload_n 1, 1) := by decide +kernel
theorem dX12_isPlace_8 : decode cX12_isPlace 8 = .ok (.iconst 0, 1) := by decide +kernel
theorem dX12_isPlace_9 : decode cX12_isPlace 9 = .ok (.aload_n 0, 1) := by decide +kernel
theorem dX12_isPlace_10 : decode cX12_isPlace 10 = .ok (.getfield 290, 3) := by decide +kernel
theorem dX12_isPlace_13 : decode cX12_isPlace 13 = .ok (.iconst 1, 1) := by decide +kernel
theorem dX12_isPlace_14 : decode cX12_isPlace 14 = .ok (.isub, 1) := by decide +kernel
theorem dX12_isPlace_15 : decode cX12_isPlace 15 = .ok (.invokestatic 215, 3) := by decide +kernel
theorem dX12_isPlace_18 : decode cX12_isPlace 18 = .ok (.ifCond .eq 7, 3) := by decide +kernel
theorem dX12_isPlace_21 : decode cX12_isPlace 21 = .ok (.iconst 1, 1) := by decide +kernel
theorem dX12_isPlace_22 : decode cX12_isPlace 22 = .ok (.goto 4, 3) := by decide +kernel
theorem dX12_isPlace_25 : decode cX12_isPlace 25 = .ok (.iconst 0, 1) := by decide +kernel
theorem dX12_isPlace_26 : decode cX12_isPlace 26 = .ok (.ireturn, 1) := by decide +kernel
theorem dX12_segments_0 : decode cX12_segments 0 = .ok (.aload_n 0, 1) := by decide +kernel
theorem dX12_segments_1 : decode cX12_segments 1 = .ok (.aload_n 0, 1) := by decide +kernel
theorem dX12_segments_2 : decode cX12_segments 2 = .ok (.getfield 297, 3) := by decide +kernel
theorem dX12_segments_5 : decode cX12_segments 5 = .ok (.ifCond .ne 7, 3) := by decide +kernel
theorem dX12_segments_8 : decode cX12_segments 8 = .ok (.iconst 1, 1) := by decide +kernel
theorem dX12_segments_9 : decode cX12_segments 9 = .ok (.goto 4, 3) := by decide +kernel
theorem dX12_segments_12 : decode cX12_segments 12 = .ok (.iconst 0, 1) := by decide +kernel
theorem dX12_segments_13 : decode cX12_segments 13 = .ok (.iconst 1, 1) := by decide +kernel
theorem dX12_segments_14 : decode cX12_segments 14 = .ok (.iconst 1, 1) := by decide +kernel
theorem dX12_segments_15 : decode cX12_segments 15 = .ok (.invokevirtual 248, 3) := by decide +kernel
theorem dX12_segments_18 : decode cX12_segments 18 = .ok (.ifCond .eq 10, 3) := by decide +kernel
theorem dX12_segments_21 : decode cX12_segments 21 = .ok (.aload_n 0, 1) := by decide +kernel
theorem dX12_segments_22 : decode cX12_segments 22 = .ok (.getfield 290, 3) := by decide +kernel
theorem dX12_segments_25 : decode cX12_segments 25 = .ok (.goto 4, 3) := by decide +kernel
theorem dX12_segments_28 : decode cX12_segments 28 = .ok (.iconst 0, 1) := by decide +kernel
theorem dX12_segments_29 : decode cX12_segments 29 = .ok (.ireturn, 1) := by decide +kernel
theorem dX12_segmentAt_0 : decode cX12_segmentAt 0 = .ok (.aload_n 0, 1) := by decide +kernel
theorem dX12_segmentAt_1 : decode cX12_segmentAt 1 = .ok (.aload_n 0, 1) := by decide +kernel
theorem dX12_segmentAt_2 : decode cX12_segmentAt 2 = .ok (.iload_n 1, 1) := by decide +kernel
theorem dX12_segmentAt_3 : decode cX12_segmentAt 3 = .ok (.invokevirtual 383, 3) := by decide +kernel
theorem dX12_segmentAt_6 : decode cX12_segmentAt 6 = .ok (.iconst 1, 1) := by decide +kernel
theorem dX12_segmentAt_7 : decode cX12_segmentAt 7 = .ok (.iconst 1, 1) := by decide +kernel
theorem dX12_segmentAt_8 : decode cX12_segmentAt 8 = .ok (.invokevirtual 248, 3) := by decide +kernel
theorem dX12_segmentAt_11 : decode cX12_segmentAt 11 = .ok (.ifCond .eq 12, 3) := by decide +kernel
theorem dX12_segmentAt_14 : decode cX12_segmentAt 14 = .ok (.aload_n 0, 1) := by decide +kernel
theorem dX12_segmentAt_15 : decode cX12_segmentAt 15 = .ok (.getfield 82, 3) := by decide +kernel
theorem dX12_segmentAt_18 : decode cX12_segmentAt 18 = .ok (.iload_n 1, 1) := by decide +kernel
theorem dX12_segmentAt_19 : decode cX12_segmentAt 19 = .ok (.iaload, 1) := by decide +kernel
theorem dX12_segmentAt_20 : decode cX12_segmentAt 20 = .ok (.goto 4, 3) := by decide +kernel
theorem dX12_segmentAt_23 : decode cX12_segmentAt 23 = .ok (.iconst 0, 1) := by decide +kernel
theorem dX12_segmentAt_24 : decode cX12_segmentAt 24 = .ok (.ireturn, 1) := by decide +kernel
theorem dX12_live_0 : decode cX12_live 0 = .ok (.iconst 0, 1) := by decide +kernel
theorem dX12_live_1 : decode cX12_live 1 = .ok (.istore_n 2, 1) := by decide +kernel
theorem dX12_live_2 : decode cX12_live 2 = .ok (.aload_n 0, 1) := by decide +kernel
theorem dX12_live_3 : decode cX12_live 3 = .ok (.aload_n 0, 1) := by decide +kernel
theorem dX12_live_4 : decode cX12_live 4 = .ok (.iload_n 1, 1) := by decide +kernel
theorem dX12_live_5 : decode cX12_live 5 = .ok (.invokevirtual 383, 3) := by decide +kernel
theorem dX12_live_8 : decode cX12_live 8 = .ok (.iconst 1, 1) := by decide +kernel
theorem dX12_live_9 : decode cX12_live 9 = .ok (.iconst 1, 1) := by decide +kernel
theorem dX12_live_10 : decode cX12_live 10 = .ok (.invokevirtual 248, 3) := by decide +kernel
theorem dX12_live_13 : decode cX12_live 13 = .ok (.istore_n 3, 1) := by decide +kernel
theorem dX12_live_14 : decode cX12_live 14 = .ok (.iconst 0, 1) := by decide +kernel
theorem dX12_live_15 : decode cX12_live 15 = .ok (.istore 4, 2) := by decide +kernel
theorem dX12_live_17 : decode cX12_live 17 = .ok (.iload_n 3, 1) := by decide +kernel
theorem dX12_live_18 : decode cX12_live 18 = .ok (.ifCond .eq 53, 3) := by decide +kernel
theorem dX12_live_21 : decode cX12_live 21 = .ok (.iload 4, 2) := by decide +kernel
theorem dX12_live_23 : decode cX12_live 23 = .ok (.aload_n 0, 1) := by decide +kernel
theorem dX12_live_24 : decode cX12_live 24 = .ok (.getfield 69, 3) := by decide +kernel
theorem dX12_live_27 : decode cX12_live 27 = .ok (.aload_n 0, 1) := by decide +kernel
theorem dX12_live_28 : decode cX12_live 28 = .ok (.getfield 82, 3) := by decide +kernel
theorem dX12_live_31 : decode cX12_live 31 = .ok (.iload_n 1, 1) := by decide +kernel
theorem dX12_live_32 : decode cX12_live 32 = .ok (.iaload, 1) := by decide +kernel
theorem dX12_live_33 : decode cX12_live 33 = .ok (.iaload, 1) := by decide +kernel
theorem dX12_live_34 : decode cX12_live 34 = .ok (.if_icmp .ge 37, 3) := by decide +kernel
theorem dX12_live_37 : decode cX12_live 37 = .ok (.iload_n 2, 1) := by decide +kernel
theorem dX12_live_38 : decode cX12_live 38 = .ok (.aload_n 0, 1) := by decide +kernel
theorem dX12_live_39 : decode cX12_live 39 = .ok (.getfield 72, 3) := by decide +kernel
theorem dX12_live_42 : decode cX12_live 42 = .ok (.bipush 100, 2) := by decide +kernel
theorem dX12_live_44 : decode cX12_live 44 = .ok (.aload_n 0, 1) := by decide +kernel
theorem dX12_live_45 : decode cX12_live 45 = .ok (.getfield 82, 3) := by decide +kernel
theorem dX12_live_48 : decode cX12_live 48 = .ok (.iload_n 1, 1) := by decide +kernel
theorem dX12_live_49 : decode cX12_live 49 = .ok (.iaload, 1) := by decide +kernel
theorem dX12_live_50 : decode cX12_live 50 = .ok (.imul, 1) := by decide +kernel
theorem dX12_live_51 : decode cX12_live 51 = .ok (.iload 4, 2) := by decide +kernel
theorem dX12_live_53 : decode cX12_live 53 = .ok (.iadd, 1) := by decide +kernel
theorem dX12_live_54 : decode cX12_live 54 = .ok (.baload, 1) := by decide +kernel
theorem dX12_live_55 : decode cX12_live 55 = .ok (.ifCond .eq 7, 3) := by decide +kernel
theorem dX12_live_58 : decode cX12_live 58 = .ok (.iconst 1, 1) := by decide +kernel
theorem dX12_live_59 : decode cX12_live 59 = .ok (.goto 4, 3) := by decide +kernel
theorem dX12_live_62 : decode cX12_live 62 = .ok (.iconst 0, 1) := by decide +kernel
theorem dX12_live_63 : decode cX12_live 63 = .ok (.iadd, 1) := by decide +kernel
theorem dX12_live_64 : decode cX12_live 64 = .ok (.istore_n 2, 1) := by decide +kernel
theorem dX12_live_65 : decode cX12_live 65 = .ok (.iinc 4 1, 3) := by decide +kernel
theorem dX12_live_68 : decode cX12_live 68 = .ok (.goto (-51), 3) := by decide +kernel
theorem dX12_live_71 : decode cX12_live 71 = .ok (.iload_n 2, 1) := by decide +kernel
theorem dX12_live_72 : decode cX12_live 72 = .ok (.ireturn, 1) := by decide +kernel
theorem dX12_keyAt_0 : decode cX12_keyAt 0 = .ok (.aload_n 0, 1) := by decide +kernel
theorem dX12_keyAt_1 : decode cX12_keyAt 1 = .ok (.iload_n 1, 1) := by decide +kernel
theorem dX12_keyAt_2 : decode cX12_keyAt 2 = .ok (.invokevirtual 383, 3) := by decide +kernel
theorem dX12_keyAt_5 : decode cX12_keyAt 5 = .ok (.istore_n 3, 1) := by decide +kernel
theorem dX12_keyAt_6 : decode cX12_keyAt 6 = .ok (.aload_n 0, 1) := by decide +kernel
theorem dX12_keyAt_7 : decode cX12_keyAt 7 = .ok (.iload_n 3, 1) := by decide +kernel
theorem dX12_keyAt_8 : decode cX12_keyAt 8 = .ok (.ifCond .eq 36, 3) := by decide +kernel
theorem dX12_keyAt_11 : decode cX12_keyAt 11 = .ok (.iload_n 2, 1) := by decide +kernel
theorem dX12_keyAt_12 : decode cX12_keyAt 12 = .ok (.iconst 0, 1) := by decide +kernel
theorem dX12_keyAt_13 : decode cX12_keyAt 13 = .ok (.iload_n 3, 1) := by decide +kernel
theorem dX12_keyAt_14 : decode cX12_keyAt 14 = .ok (.ifCond .eq 19, 3) := by decide +kernel
theorem dX12_keyAt_17 : decode cX12_keyAt 17 = .ok (.aload_n 0, 1) := by decide +kernel
theorem dX12_keyAt_18 : decode cX12_keyAt 18 = .ok (.getfield 69, 3) := by decide +kernel
theorem dX12_keyAt_21 : decode cX12_keyAt 21 = .ok (.aload_n 0, 1) := by decide +kernel
theorem dX12_keyAt_22 : decode cX12_keyAt 22 = .ok (.getfield 82, 3) := by decide +kernel
theorem dX12_keyAt_25 : decode cX12_keyAt 25 = .ok (.iload_n 1, 1) := by decide +kernel
theorem dX12_keyAt_26 : decode cX12_keyAt 26 = .ok (.iaload, 1) := by decide +kernel
theorem dX12_keyAt_27 : decode cX12_keyAt 27 = .ok (.iaload, 1) := by decide +kernel
theorem dX12_keyAt_28 : decode cX12_keyAt 28 = .ok (.iconst 1, 1) := by decide +kernel
theorem dX12_keyAt_29 : decode cX12_keyAt 29 = .ok (.isub, 1) := by decide +kernel
theorem dX12_keyAt_30 : decode cX12_keyAt 30 = .ok (.goto 4, 3) := by decide +kernel
theorem dX12_keyAt_33 : decode cX12_keyAt 33 = .ok (.iconst 0, 1) := by decide +kernel
theorem dX12_keyAt_34 : decode cX12_keyAt 34 = .ok (.invokestatic 215, 3) := by decide +kernel
theorem dX12_keyAt_37 : decode cX12_keyAt 37 = .ok (.ifCond .eq 7, 3) := by decide +kernel
theorem dX12_keyAt_40 : decode cX12_keyAt 40 = .ok (.iconst 1, 1) := by decide +kernel
theorem dX12_keyAt_41 : decode cX12_keyAt 41 = .ok (.goto 4, 3) := by decide +kernel
theorem dX12_keyAt_44 : decode cX12_keyAt 44 = .ok (.iconst 0, 1) := by decide +kernel
theorem dX12_keyAt_45 : decode cX12_keyAt 45 = .ok (.iconst 1, 1) := by decide +kernel
theorem dX12_keyAt_46 : decode cX12_keyAt 46 = .ok (.iconst 1, 1) := by decide +kernel
theorem dX12_keyAt_47 : decode cX12_keyAt 47 = .ok (.invokevirtual 248, 3) := by decide +kernel
theorem dX12_keyAt_50 : decode cX12_keyAt 50 = .ok (.ifCond .eq 27, 3) := by decide +kernel
theorem dX12_keyAt_53 : decode cX12_keyAt 53 = .ok (.aload_n 0, 1) := by decide +kernel
theorem dX12_keyAt_54 : decode cX12_keyAt 54 = .ok (.getfield 50, 3) := by decide +kernel
theorem dX12_keyAt_57 : decode cX12_keyAt 57 = .ok (.aload_n 0, 1) := by decide +kernel
theorem dX12_keyAt_58 : decode cX12_keyAt 58 = .ok (.getfield 66, 3) := by decide +kernel
theorem dX12_keyAt_61 : decode cX12_keyAt 61 = .ok (.bipush 100, 2) := by decide +kernel
theorem dX12_keyAt_63 : decode cX12_keyAt 63 = .ok (.aload_n 0, 1) := by decide +kernel
theorem dX12_keyAt_64 : decode cX12_keyAt 64 = .ok (.getfield 82, 3) := by decide +kernel
theorem dX12_keyAt_67 : decode cX12_keyAt 67 = .ok (.iload_n 1, 1) := by decide +kernel
theorem dX12_keyAt_68 : decode cX12_keyAt 68 = .ok (.iaload, 1) := by decide +kernel
theorem dX12_keyAt_69 : decode cX12_keyAt 69 = .ok (.imul, 1) := by decide +kernel
theorem dX12_keyAt_70 : decode cX12_keyAt 70 = .ok (.iload_n 2, 1) := by decide +kernel
theorem dX12_keyAt_71 : decode cX12_keyAt 71 = .ok (.iadd, 1) := by decide +kernel
theorem dX12_keyAt_72 : decode cX12_keyAt 72 = .ok (.iaload, 1) := by decide +kernel
theorem dX12_keyAt_73 : decode cX12_keyAt 73 = .ok (.iaload, 1) := by decide +kernel
theorem dX12_keyAt_74 : decode cX12_keyAt 74 = .ok (.goto 4, 3) := by decide +kernel
theorem dX12_keyAt_77 : decode cX12_keyAt 77 = .ok (.iconst 0, 1) := by decide +kernel
theorem dX12_keyAt_78 : decode cX12_keyAt 78 = .ok (.ireturn, 1) := by decide +kernel
theorem dX12_hasAt_0 : decode cX12_hasAt 0 = .ok (.aload_n 0, 1) := by decide +kernel
theorem dX12_hasAt_1 : decode cX12_hasAt 1 = .ok (.getfield 60, 3) := by decide +kernel
theorem dX12_hasAt_4 : decode cX12_hasAt 4 = .ok (.bipush 40, 2) := by decide +kernel
theorem dX12_hasAt_6 : decode cX12_hasAt 6 = .ok (.iload_n 1, 1) := by decide +kernel
theorem dX12_hasAt_7 : decode cX12_hasAt 7 = .ok (.imul, 1) := by decide +kernel
theorem dX12_hasAt_8 : decode cX12_hasAt 8 = .ok (.bipush 20, 2) := by decide +kernel
theorem dX12_hasAt_10 : decode cX12_hasAt 10 = .ok (.iload_n 2, 1) := by decide +kernel
theorem dX12_hasAt_11 : decode cX12_hasAt 11 = .ok (.imul, 1) := by decide +kernel
theorem dX12_hasAt_12 : decode cX12_hasAt 12 = .ok (.iadd, 1) := by decide +kernel
theorem dX12_hasAt_13 : decode cX12_hasAt 13 = .ok (.iload_n 3, 1) := by decide +kernel
theorem dX12_hasAt_14 : decode cX12_hasAt 14 = .ok (.iadd, 1) := by decide +kernel
theorem dX12_hasAt_15 : decode cX12_hasAt 15 = .ok (.laload, 1) := by decide +kernel
theorem dX12_hasAt_16 : decode cX12_hasAt 16 = .ok (.lstore 6, 2) := by decide +kernel
theorem dX12_hasAt_18 : decode cX12_hasAt 18 = .ok (.lload 6, 2) := by decide +kernel
theorem dX12_hasAt_20 : decode cX12_hasAt 20 = .ok (.lload 4, 2) := by decide +kernel
theorem dX12_hasAt_22 : decode cX12_hasAt 22 = .ok (.lcmp, 1) := by decide +kernel
theorem dX12_hasAt_23 : decode cX12_hasAt 23 = .ok (.ifCond .ne 7, 3) := by decide +kernel
theorem dX12_hasAt_26 : decode cX12_hasAt 26 = .ok (.iconst 1, 1) := by decide +kernel
theorem dX12_hasAt_27 : decode cX12_hasAt 27 = .ok (.goto 4, 3) := by decide +kernel
theorem dX12_hasAt_30 : decode cX12_hasAt 30 = .ok (.iconst 0, 1) := by decide +kernel
theorem dX12_hasAt_31 : decode cX12_hasAt 31 = .ok (.istore 8, 2) := by decide +kernel
theorem dX12_hasAt_33 : decode cX12_hasAt 33 = .ok (.iconst 0, 1) := by decide +kernel
theorem dX12_hasAt_34 : decode cX12_hasAt 34 = .ok (.istore 9, 2) := by decide +kernel
theorem dX12_hasAt_36 : decode cX12_hasAt 36 = .ok (.iload 9, 2) := by decide +kernel
theorem dX12_hasAt_38 : decode cX12_hasAt 38 = .ok (.aload_n 0, 1) := by decide +kernel
theorem dX12_hasAt_39 : decode cX12_hasAt 39 = .ok (.getfield 267, 3) := by decide +kernel
theorem dX12_hasAt_42 : decode cX12_hasAt 42 = .ok (.if_icmp .ge 47, 3) := by decide +kernel
theorem dX12_hasAt_45 : decode cX12_hasAt 45 = .ok (.iload 8, 2) := by decide +kernel
theorem dX12_hasAt_47 : decode cX12_hasAt 47 = .ok (.ifCond .ne 29, 3) := by decide +kernel
theorem dX12_hasAt_50 : decode cX12_hasAt 50 = .ok (.aload_n 0, 1) := by decide +kernel
theorem dX12_hasAt_51 : decode cX12_hasAt 51 = .ok (.getfield 23, 3) := by decide +kernel
theorem dX12_hasAt_54 : decode cX12_hasAt 54 = .ok (.iload 9, 2) := by decide +kernel
theorem dX12_hasAt_56 : decode cX12_hasAt 56 = .ok (.laload, 1) := by decide +kernel
theorem dX12_hasAt_57 : decode cX12_hasAt 57 = .ok (.lload 6, 2) := by decide +kernel
theorem dX12_hasAt_59 : decode cX12_hasAt 59 = .ok (.lcmp, 1) := by decide +kernel
theorem dX12_hasAt_60 : decode cX12_hasAt 60 = .ok (.ifCond .ne 20, 3) := by decide +kernel
theorem dX12_hasAt_63 : decode cX12_hasAt 63 = .ok (.aload_n 0, 1) := by decide +kernel
theorem dX12_hasAt_64 : decode cX12_hasAt 64 = .ok (.getfield 26, 3) := by decide +kernel
theorem dX12_hasAt_67 : decode cX12_hasAt 67 = .ok (.iload 9, 2) := by decide +kernel
theorem dX12_hasAt_69 : decode cX12_hasAt 69 = .ok (.laload, 1) := by decide +kernel
theorem dX12_hasAt_70 : decode cX12_hasAt 70 = .ok (.lload 4, 2) := by decide +kernel
theorem dX12_hasAt_72 : decode cX12_hasAt 72 = .ok (.lcmp, 1) := by decide +kernel
theorem dX12_hasAt_73 : decode cX12_hasAt 73 = .ok (.ifCond .ne 7, 3) := by decide +kernel
theorem dX12_hasAt_76 : decode cX12_hasAt 76 = .ok (.iconst 1, 1) := by decide +kernel
theorem dX12_hasAt_77 : decode cX12_hasAt 77 = .ok (.goto 4, 3) := by decide +kernel
theorem dX12_hasAt_80 : decode cX12_hasAt 80 = .ok (.iconst 0, 1) := by decide +kernel
theorem dX12_hasAt_81 : decode cX12_hasAt 81 = .ok (.istore 8, 2) := by decide +kernel
theorem dX12_hasAt_83 : decode cX12_hasAt 83 = .ok (.iinc 9 1, 3) := by decide +kernel
theorem dX12_hasAt_86 : decode cX12_hasAt 86 = .ok (.goto (-50), 3) := by decide +kernel
theorem dX12_hasAt_89 : decode cX12_hasAt 89 = .ok (.iload 8, 2) := by decide +kernel
theorem dX12_hasAt_91 : decode cX12_hasAt 91 = .ok (.ifCond .eq 16, 3) := by decide +kernel
theorem dX12_hasAt_94 : decode cX12_hasAt 94 = .ok (.aload_n 0, 1) := by decide +kernel
theorem dX12_hasAt_95 : decode cX12_hasAt 95 = .ok (.lload 6, 2) := by decide +kernel
theorem dX12_hasAt_97 : decode cX12_hasAt 97 = .ok (.invokevirtual 263, 3) := by decide +kernel
theorem dX12_hasAt_100 : decode cX12_hasAt 100 = .ok (.ifCond .ne 7, 3) := by decide +kernel
theorem dX12_hasAt_103 : decode cX12_hasAt 103 = .ok (.iconst 1, 1) := by decide +kernel
theorem dX12_hasAt_104 : decode cX12_hasAt 104 = .ok (.goto 4, 3) := by decide +kernel
theorem dX12_hasAt_107 : decode cX12_hasAt 107 = .ok (.iconst 0, 1) := by decide +kernel
theorem dX12_hasAt_108 : decode cX12_hasAt 108 = .ok (.ireturn, 1) := by decide +kernel
theorem dX12_puts_0 : decode cX12_puts 0 = .ok (.iconst 0, 1) := by decide +kernel
theorem dX12_puts_1 : decode cX12_puts 1 = .ok (.istore_n 3, 1) := by decide +kernel
theorem dX12_puts_2 : decode cX12_puts 2 = .ok (.iload_n 3, 1) := by decide +kernel
theorem dX12_puts_3 : decode cX12_puts 3 = .ok (.aload_n 0, 1) := by decide +kernel
theorem dX12_puts_4 : decode cX12_puts 4 = .ok (.getfield 386, 3) := by decide +kernel
theorem dX12_puts_7 : decode cX12_puts 7 = .ok (.if_icmp .ge 20, 3) := by decide +kernel
theorem dX12_puts_10 : decode cX12_puts 10 = .ok (.aload_n 0, 1) := by decide +kernel
theorem dX12_puts_11 : decode cX12_puts 11 = .ok (.getfield 116, 3) := by decide +kernel
theorem dX12_puts_14 : decode cX12_puts 14 = .ok (.iload_n 3, 1) := by decide +kernel
theorem dX12_puts_15 : decode cX12_puts 15 = .ok (.laload, 1) := by decide +kernel
theorem dX12_puts_16 : decode cX12_puts 16 = .ok (.lload_n 1, 1) := by decide +kernel
theorem dX12_puts_17 : decode cX12_puts 17 = .ok (.lcmp, 1) := by decide +kernel
theorem dX12_puts_18 : decode cX12_puts 18 = .ok (.ifCond .ge 9, 3) := by decide +kernel
theorem dX12_puts_21 : decode cX12_puts 21 = .ok (.iinc 3 1, 3) := by decide +kernel
theorem dX12_puts_24 : decode cX12_puts 24 = .ok (.goto (-22), 3) := by decide +kernel
theorem dX12_puts_27 : decode cX12_puts 27 = .ok (.iload_n 3, 1) := by decide +kernel
theorem dX12_puts_28 : decode cX12_puts 28 = .ok (.aload_n 0, 1) := by decide +kernel
theorem dX12_puts_29 : decode cX12_puts 29 = .ok (.getfield 386, 3) := by decide +kernel
theorem dX12_puts_32 : decode cX12_puts 32 = .ok (.if_icmp .ge 15, 3) := by decide +kernel
theorem dX12_puts_35 : decode cX12_puts 35 = .ok (.aload_n 0, 1) := by decide +kernel
theorem dX12_puts_36 : decode cX12_puts 36 = .ok (.getfield 116, 3) := by decide +kernel
theorem dX12_puts_39 : decode cX12_puts 39 = .ok (.iload_n 3, 1) := by decide +kernel
theorem dX12_puts_40 : decode cX12_puts 40 = .ok (.laload, 1) := by decide +kernel
theorem dX12_puts_41 : decode cX12_puts 41 = .ok (.lload_n 1, 1) := by decide +kernel
theorem dX12_puts_42 : decode cX12_puts 42 = .ok (.lcmp, 1) := by decide +kernel
theorem dX12_puts_43 : decode cX12_puts 43 = .ok (.ifCond .ne 4, 3) := by decide +kernel
theorem dX12_puts_46 : decode cX12_puts 46 = .ok (.return_, 1) := by decide +kernel
theorem dX12_puts_47 : decode cX12_puts 47 = .ok (.aload_n 0, 1) := by decide +kernel
theorem dX12_puts_48 : decode cX12_puts 48 = .ok (.getfield 386, 3) := by decide +kernel
theorem dX12_puts_51 : decode cX12_puts 51 = .ok (.istore 4, 2) := by decide +kernel
theorem dX12_puts_53 : decode cX12_puts 53 = .ok (.iload 4, 2) := by decide +kernel
theorem dX12_puts_55 : decode cX12_puts 55 = .ok (.iload_n 3, 1) := by decide +kernel
theorem dX12_puts_56 : decode cX12_puts 56 = .ok (.if_icmp .le 25, 3) := by decide +kernel
theorem dX12_puts_59 : decode cX12_puts 59 = .ok (.aload_n 0, 1) := by decide +kernel
theorem dX12_puts_60 : decode cX12_puts 60 = .ok (.getfield 116, 3) := by decide +kernel
theorem dX12_puts_63 : decode cX12_puts 63 = .ok (.iload 4, 2) := by decide +kernel
theorem dX12_puts_65 : decode cX12_puts 65 = .ok (.aload_n 0, 1) := by decide +kernel
theorem dX12_puts_66 : decode cX12_puts 66 = .ok (.getfield 116, 3) := by decide +kernel
theorem dX12_puts_69 : decode cX12_puts 69 = .ok (.iload 4, 2) := by decide +kernel
theorem dX12_puts_71 : decode cX12_puts 71 = .ok (.iconst 1, 1) := by decide +kernel
theorem dX12_puts_72 : decode cX12_puts 72 = .ok (.isub, 1) := by decide +kernel
theorem dX12_puts_73 : decode cX12_puts 73 = .ok (.laload, 1) := by decide +kernel
theorem dX12_puts_74 : decode cX12_puts 74 = .ok (.lastore, 1) := by decide +kernel
theorem dX12_puts_75 : decode cX12_puts 75 = .ok (.iinc 4 (-1), 3) := by decide +kernel
theorem dX12_puts_78 : decode cX12_puts 78 = .ok (.goto (-25), 3) := by decide +kernel
theorem dX12_puts_81 : decode cX12_puts 81 = .ok (.aload_n 0, 1) := by decide +kernel
theorem dX12_puts_82 : decode cX12_puts 82 = .ok (.getfield 116, 3) := by decide +kernel
theorem dX12_puts_85 : decode cX12_puts 85 = .ok (.iload_n 3, 1) := by decide +kernel
theorem dX12_puts_86 : decode cX12_puts 86 = .ok (.lload_n 1, 1) := by decide +kernel
theorem dX12_puts_87 : decode cX12_puts 87 = .ok (.lastore, 1) := by decide +kernel
theorem dX12_puts_88 : decode cX12_puts 88 = .ok (.aload_n 0, 1) := by decide +kernel
theorem dX12_puts_89 : decode cX12_puts 89 = .ok (.dup, 1) := by decide +kernel
theorem dX12_puts_90 : decode cX12_puts 90 = .ok (.getfield 386, 3) := by decide +kernel
theorem dX12_puts_93 : decode cX12_puts 93 = .ok (.iconst 1, 1) := by decide +kernel
theorem dX12_puts_94 : decode cX12_puts 94 = .ok (.iadd, 1) := by decide +kernel
theorem dX12_puts_95 : decode cX12_puts 95 = .ok (.putfield 386, 3) := by decide +kernel
theorem dX12_puts_98 : decode cX12_puts 98 = .ok (.return_, 1) := by decide +kernel
theorem dX12_finds_0 : decode cX12_finds 0 = .ok (.aload_n 0, 1) := by decide +kernel
theorem dX12_finds_1 : decode cX12_finds 1 = .ok (.iconst 0, 1) := by decide +kernel
theorem dX12_finds_2 : decode cX12_finds 2 = .ok (.putfield 386, 3) := by decide +kernel
theorem dX12_finds_5 : decode cX12_finds 5 = .ok (.iconst 0, 1) := by decide +kernel
theorem dX12_finds_6 : decode cX12_finds 6 = .ok (.istore_n 3, 1) := by decide +kernel
theorem dX12_finds_7 : decode cX12_finds 7 = .ok (.iload_n 3, 1) := by decide +kernel
theorem dX12_finds_8 : decode cX12_finds 8 = .ok (.aload_n 0, 1) := by decide +kernel
theorem dX12_finds_9 : decode cX12_finds 9 = .ok (.getfield 69, 3) := by decide +kernel
theorem dX12_finds_12 : decode cX12_finds 12 = .ok (.iload_n 1, 1) := by decide +kernel
theorem dX12_finds_13 : decode cX12_finds 13 = .ok (.iaload, 1) := by decide +kernel
theorem dX12_finds_14 : decode cX12_finds 14 = .ok (.if_icmp .ge 124, 3) := by decide +kernel
theorem dX12_finds_17 : decode cX12_finds 17 = .ok (.aload_n 0, 1) := by decide +kernel
theorem dX12_finds_18 : decode cX12_finds 18 = .ok (.getfield 66, 3) := by decide +kernel
theorem dX12_finds_21 : decode cX12_finds 21 = .ok (.bipush 100, 2) := by decide +kernel
theorem dX12_finds_23 : decode cX12_finds 23 = .ok (.iload_n 1, 1) := by decide +kernel
theorem dX12_finds_24 : decode cX12_finds 24 = .ok (.imul, 1) := by decide +kernel
theorem dX12_finds_25 : decode cX12_finds 25 = .ok (.iload_n 3, 1) := by decide +kernel
theorem dX12_finds_26 : decode cX12_finds 26 = .ok (.iadd, 1) := by decide +kernel
theorem dX12_finds_27 : decode cX12_finds 27 = .ok (.iaload, 1) := by decide +kernel
theorem dX12_finds_28 : decode cX12_finds 28 = .ok (.istore 4, 2) := by decide +kernel
theorem dX12_finds_30 : decode cX12_finds 30 = .ok (.iconst 0, 1) := by decide +kernel
theorem dX12_finds_31 : decode cX12_finds 31 = .ok (.istore 5, 2) := by decide +kernel
theorem dX12_finds_33 : decode cX12_finds 33 = .ok (.iload 5, 2) := by decide +kernel
theorem dX12_finds_35 : decode cX12_finds 35 = .ok (.aload_n 0, 1) := by decide +kernel
theorem dX12_finds_36 : decode cX12_finds 36 = .ok (.getfield 63, 3) := by decide +kernel
theorem dX12_finds_39 : decode cX12_finds 39 = .ok (.iconst 2, 1) := by decide +kernel
theorem dX12_finds_40 : decode cX12_finds 40 = .ok (.iload 4, 2) := by decide +kernel
theorem dX12_finds_42 : decode cX12_finds 42 = .ok (.imul, 1) := by decide +kernel
theorem dX12_finds_43 : decode cX12_finds 43 = .ok (.iload_n 2, 1) := by decide +kernel
theorem dX12_finds_44 : decode cX12_finds 44 = .ok (.iadd, 1) := by decide +kernel
theorem dX12_finds_45 : decode cX12_finds 45 = .ok (.iaload, 1) := by decide +kernel
theorem dX12_finds_46 : decode cX12_finds 46 = .ok (.if_icmp .ge 86, 3) := by decide +kernel
theorem dX12_finds_49 : decode cX12_finds 49 = .ok (.aload_n 0, 1) := by decide +kernel
theorem dX12_finds_50 : decode cX12_finds 50 = .ok (.getfield 60, 3) := by decide +kernel
theorem dX12_finds_53 : decode cX12_finds 53 = .ok (.bipush 40, 2) := by decide +kernel
theorem dX12_finds_55 : decode cX12_finds 55 = .ok (.iload 4, 2) := by decide +kernel
theorem dX12_finds_57 : decode cX12_finds 57 = .ok (.imul, 1) := by decide +kernel
theorem dX12_finds_58 : decode cX12_finds 58 = .ok (.bipush 20, 2) := by decide +kernel
theorem dX12_finds_60 : decode cX12_finds 60 = .ok (.iload_n 2, 1) := by decide +kernel
theorem dX12_finds_61 : decode cX12_finds 61 = .ok (.imul, 1) := by decide +kernel
theorem dX12_finds_62 : decode cX12_finds 62 = .ok (.iadd, 1) := by decide +kernel
theorem dX12_finds_63 : decode cX12_finds 63 = .ok (.iload 5, 2) := by decide +kernel
theorem dX12_finds_65 : decode cX12_finds 65 = .ok (.iadd, 1) := by decide +kernel
theorem dX12_finds_66 : decode cX12_finds 66 = .ok (.laload, 1) := by decide +kernel
theorem dX12_finds_67 : decode cX12_finds 67 = .ok (.lstore 6, 2) := by decide +kernel
theorem dX12_finds_69 : decode cX12_finds 69 = .ok (.aload_n 0, 1) := by decide +kernel
theorem dX12_finds_70 : decode cX12_finds 70 = .ok (.lload 6, 2) := by decide +kernel
theorem dX12_finds_72 : decode cX12_finds 72 = .ok (.invokevirtual 263, 3) := by decide +kernel
theorem dX12_finds_75 : decode cX12_finds 75 = .ok (.ifCond .ne 51, 3) := by decide +kernel
theorem dX12_finds_78 : decode cX12_finds 78 = .ok (.aload_n 0, 1) := by decide +kernel
theorem dX12_finds_79 : decode cX12_finds 79 = .ok (.lload 6, 2) := by decide +kernel
theorem dX12_finds_81 : decode cX12_finds 81 = .ok (.invokevirtual 389, 3) := by decide +kernel
theorem dX12_finds_84 : decode cX12_finds 84 = .ok (.iconst 0, 1) := by decide +kernel
theorem dX12_finds_85 : decode cX12_finds 85 = .ok (.istore 8, 2) := by decide +kernel
theorem dX12_finds_87 : decode cX12_finds 87 = .ok (.iload 8, 2) := by decide +kernel
theorem dX12_finds_89 : decode cX12_finds 89 = .ok (.aload_n 0, 1) := by decide +kernel
theorem dX12_finds_90 : decode cX12_finds 90 = .ok (.getfield 267, 3) := by decide +kernel
theorem dX12_finds_93 : decode cX12_finds 93 = .ok (.if_icmp .ge 33, 3) := by decide +kernel
theorem dX12_finds_96 : decode cX12_finds 96 = .ok (.aload_n 0, 1) := by decide +kernel
theorem dX12_finds_97 : decode cX12_finds 97 = .ok (.getfield 23, 3) := by decide +kernel
theorem dX12_finds_100 : decode cX12_finds 100 = .ok (.iload 8, 2) := by decide +kernel
theorem dX12_finds_102 : decode cX12_finds 102 = .ok (.laload, 1) := by decide +kernel
theorem dX12_finds_103 : decode cX12_finds 103 = .ok (.lload 6, 2) := by decide +kernel
theorem dX12_finds_105 : decode cX12_finds 105 = .ok (.lcmp, 1) := by decide +kernel
theorem dX12_finds_106 : decode cX12_finds 106 = .ok (.ifCond .ne 14, 3) := by decide +kernel
theorem dX12_finds_109 : decode cX12_finds 109 = .ok (.aload_n 0, 1) := by decide +kernel
theorem dX12_finds_110 : decode cX12_finds 110 = .ok (.aload_n 0, 1) := by decide +kernel
theorem dX12_finds_111 : decode cX12_finds 111 = .ok (.getfield 26, 3) := by decide +kernel
theorem dX12_finds_114 : decode cX12_finds 114 = .ok (.iload 8, 2) := by decide +kernel
theorem dX12_finds_116 : decode cX12_finds 116 = .ok (.laload, 1) := by decide +kernel
theorem dX12_finds_117 : decode cX12_finds 117 = .ok (.invokevirtual 389, 3) := by decide +kernel
theorem dX12_finds_120 : decode cX12_finds 120 = .ok (.iinc 8 1, 3) := by decide +kernel
theorem dX12_finds_123 : decode cX12_finds 123 = .ok (.goto (-36), 3) := by decide +kernel
theorem dX12_finds_126 : decode cX12_finds 126 = .ok (.iinc 5 1, 3) := by decide +kernel
theorem dX12_finds_129 : decode cX12_finds 129 = .ok (.goto (-96), 3) := by decide +kernel
theorem dX12_finds_132 : decode cX12_finds 132 = .ok (.iinc 3 1, 3) := by decide +kernel
theorem dX12_finds_135 : decode cX12_finds 135 = .ok (.goto (-128), 3) := by decide +kernel
theorem dX12_finds_138 : decode cX12_finds 138 = .ok (.return_, 1) := by decide +kernel
theorem dX12_isField_0 : decode cX12_isField 0 = .ok (.iload_n 1, 1) := by decide +kernel
theorem dX12_isField_1 : decode cX12_isField 1 = .ok (.iconst 0, 1) := by decide +kernel
theorem dX12_isField_2 : decode cX12_isField 2 = .ok (.iconst 1, 1) := by decide +kernel
theorem dX12_isField_3 : decode cX12_isField 3 = .ok (.invokestatic 215, 3) := by decide +kernel
theorem dX12_isField_6 : decode cX12_isField 6 = .ok (.ireturn, 1) := by decide +kernel
theorem dX12_hasWords_0 : decode cX12_hasWords 0 = .ok (.aload_n 0, 1) := by decide +kernel
theorem dX12_hasWords_1 : decode cX12_hasWords 1 = .ok (.iload_n 1, 1) := by decide +kernel
theorem dX12_hasWords_2 : decode cX12_hasWords 2 = .ok (.invokevirtual 383, 3) := by decide +kernel
theorem dX12_hasWords_5 : decode cX12_hasWords 5 = .ok (.ifCond .eq 15, 3) := by decide +kernel
theorem dX12_hasWords_8 : decode cX12_hasWords 8 = .ok (.aload_n 0, 1) := by decide +kernel
theorem dX12_hasWords_9 : decode cX12_hasWords 9 = .ok (.iload_n 2, 1) := by decide +kernel
theorem dX12_hasWords_10 : decode cX12_hasWords 10 = .ok (.invokevirtual 393, 3) := by decide +kernel
theorem dX12_hasWords_13 : decode cX12_hasWords 13 = .ok (.ifCond .eq 7, 3) := by decide +kernel
theorem dX12_hasWords_16 : decode cX12_hasWords 16 = .ok (.iconst 1, 1) := by decide +kernel
theorem dX12_hasWords_17 : decode cX12_hasWords 17 = .ok (.goto 4, 3) := by decide +kernel
theorem dX12_hasWords_20 : decode cX12_hasWords 20 = .ok (.iconst 0, 1) := by decide +kernel
theorem dX12_hasWords_21 : decode cX12_hasWords 21 = .ok (.istore_n 3, 1) := by decide +kernel
theorem dX12_hasWords_22 : decode cX12_hasWords 22 = .ok (.iload_n 3, 1) := by decide +kernel
theorem dX12_hasWords_23 : decode cX12_hasWords 23 = .ok (.ifCond .eq 14, 3) := by decide +kernel
theorem dX12_hasWords_26 : decode cX12_hasWords 26 = .ok (.aload_n 0, 1) := by decide +kernel
theorem dX12_hasWords_27 : decode cX12_hasWords 27 = .ok (.aload_n 0, 1) := by decide +kernel
theorem dX12_hasWords_28 : decode cX12_hasWords 28 = .ok (.getfield 82, 3) := by decide +kernel
theorem dX12_hasWords_31 : decode cX12_hasWords 31 = .ok (.iload_n 1, 1) := by decide +kernel
theorem dX12_hasWords_32 : decode cX12_hasWords 32 = .ok (.iaload, 1) := by decide +kernel
theorem dX12_hasWords_33 : decode cX12_hasWords 33 = .ok (.iload_n 2, 1) := by decide +kernel
theorem dX12_hasWords_34 : decode cX12_hasWords 34 = .ok (.invokevirtual 396, 3) := by decide +kernel
theorem dX12_hasWords_37 : decode cX12_hasWords 37 = .ok (.iload_n 3, 1) := by decide +kernel
theorem dX12_hasWords_38 : decode cX12_hasWords 38 = .ok (.ireturn, 1) := by decide +kernel
theorem dX12_hasWord_0 : decode cX12_hasWord 0 = .ok (.aload_n 0, 1) := by decide +kernel
theorem dX12_hasWord_1 : decode cX12_hasWord 1 = .ok (.iload_n 1, 1) := by decide +kernel
theorem dX12_hasWord_2 : decode cX12_hasWord 2 = .ok (.iload_n 2, 1) := by decide +kernel
theorem dX12_hasWord_3 : decode cX12_hasWord 3 = .ok (.invokevirtual 399, 3) := by decide +kernel
theorem dX12_hasWord_6 : decode cX12_hasWord 6 = .ok (.ifCond .eq 21, 3) := by decide +kernel
theorem dX12_hasWord_9 : decode cX12_hasWord 9 = .ok (.iload_n 3, 1) := by decide +kernel
theorem dX12_hasWord_10 : decode cX12_hasWord 10 = .ok (.iconst 0, 1) := by decide +kernel
theorem dX12_hasWord_11 : decode cX12_hasWord 11 = .ok (.aload_n 0, 1) := by decide +kernel
theorem dX12_hasWord_12 : decode cX12_hasWord 12 = .ok (.getfield 386, 3) := by decide +kernel
theorem dX12_hasWord_15 : decode cX12_hasWord 15 = .ok (.iconst 1, 1) := by decide +kernel
theorem dX12_hasWord_16 : decode cX12_hasWord 16 = .ok (.isub, 1) := by decide +kernel
theorem dX12_hasWord_17 : decode cX12_hasWord 17 = .ok (.invokestatic 215, 3) := by decide +kernel
theorem dX12_hasWord_20 : decode cX12_hasWord 20 = .ok (.ifCond .eq 7, 3) := by decide +kernel
theorem dX12_hasWord_23 : decode cX12_hasWord 23 = .ok (.iconst 1, 1) := by decide +kernel
theorem dX12_hasWord_24 : decode cX12_hasWord 24 = .ok (.goto 4, 3) := by decide +kernel
theorem dX12_hasWord_27 : decode cX12_hasWord 27 = .ok (.iconst 0, 1) := by decide +kernel
theorem dX12_hasWord_28 : decode cX12_hasWord 28 = .ok (.ireturn, 1) := by decide +kernel
theorem dX12_words_0 : decode cX12_words 0 = .ok (.aload_n 0, 1) := by decide +kernel
theorem dX12_words_1 : decode cX12_words 1 = .ok (.aload_n 0, 1) := by decide +kernel
theorem dX12_words_2 : decode cX12_words 2 = .ok (.iload_n 1, 1) := by decide +kernel
theorem dX12_words_3 : decode cX12_words 3 = .ok (.iload_n 2, 1) := by decide +kernel
theorem dX12_words_4 : decode cX12_words 4 = .ok (.invokevirtual 399, 3) := by decide +kernel
theorem dX12_words_7 : decode cX12_words 7 = .ok (.iconst 1, 1) := by decide +kernel
theorem dX12_words_8 : decode cX12_words 8 = .ok (.iconst 1, 1) := by decide +kernel
theorem dX12_words_9 : decode cX12_words 9 = .ok (.invokevirtual 248, 3) := by decide +kernel
theorem dX12_words_12 : decode cX12_words 12 = .ok (.ifCond .eq 10, 3) := by decide +kernel
theorem dX12_words_15 : decode cX12_words 15 = .ok (.aload_n 0, 1) := by decide +kernel
theorem dX12_words_16 : decode cX12_words 16 = .ok (.getfield 386, 3) := by decide +kernel
theorem dX12_words_19 : decode cX12_words 19 = .ok (.goto 4, 3) := by decide +kernel
theorem dX12_words_22 : decode cX12_words 22 = .ok (.iconst 0, 1) := by decide +kernel
theorem dX12_words_23 : decode cX12_words 23 = .ok (.ireturn, 1) := by decide +kernel
theorem dX12_sharedBy_0 : decode cX12_sharedBy 0 = .ok (.iconst 0, 1) := by decide +kernel
theorem dX12_sharedBy_1 : decode cX12_sharedBy 1 = .ok (.istore_n 2, 1) := by decide +kernel
theorem dX12_sharedBy_2 : decode cX12_sharedBy 2 = .ok (.iload_n 1, 1) := by decide +kernel
theorem dX12_sharedBy_3 : decode cX12_sharedBy 3 = .ok (.ifCond .le 56, 3) := by decide +kernel
theorem dX12_sharedBy_6 : decode cX12_sharedBy 6 = .ok (.iload_n 2, 1) := by decide +kernel
theorem dX12_sharedBy_7 : decode cX12_sharedBy 7 = .ok (.bipush 12, 2) := by decide +kernel
theorem dX12_sharedBy_9 : decode cX12_sharedBy 9 = .ok (.if_icmp .ge 50, 3) := by decide +kernel
theorem dX12_sharedBy_12 : decode cX12_sharedBy 12 = .ok (.aload_n 0, 1) := by decide +kernel
theorem dX12_sharedBy_13 : decode cX12_sharedBy 13 = .ok (.aload_n 0, 1) := by decide +kernel
theorem dX12_sharedBy_14 : decode cX12_sharedBy 14 = .ok (.getfield 116, 3) := by decide +kernel
theorem dX12_sharedBy_17 : decode cX12_sharedBy 17 = .ok (.iload_n 1, 1) := by decide +kernel
theorem dX12_sharedBy_18 : decode cX12_sharedBy 18 = .ok (.laload, 1) := by decide +kernel
theorem dX12_sharedBy_19 : decode cX12_sharedBy 19 = .ok (.iload_n 2, 1) := by decide +kernel
theorem dX12_sharedBy_20 : decode cX12_sharedBy 20 = .ok (.invokevirtual 219, 3) := by decide +kernel
theorem dX12_sharedBy_23 : decode cX12_sharedBy 23 = .ok (.ifCond .le 36, 3) := by decide +kernel
theorem dX12_sharedBy_26 : decode cX12_sharedBy 26 = .ok (.aload_n 0, 1) := by decide +kernel
theorem dX12_sharedBy_27 : decode cX12_sharedBy 27 = .ok (.aload_n 0, 1) := by decide +kernel
theorem dX12_sharedBy_28 : decode cX12_sharedBy 28 = .ok (.getfield 116, 3) := by decide +kernel
theorem dX12_sharedBy_31 : decode cX12_sharedBy 31 = .ok (.iload_n 1, 1) := by decide +kernel
theorem dX12_sharedBy_32 : decode cX12_sharedBy 32 = .ok (.laload, 1) := by decide +kernel
theorem dX12_sharedBy_33 : decode cX12_sharedBy 33 = .ok (.iload_n 2, 1) := by decide +kernel
theorem dX12_sharedBy_34 : decode cX12_sharedBy 34 = .ok (.invokevirtual 219, 3) := by decide +kernel
theorem dX12_sharedBy_37 : decode cX12_sharedBy 37 = .ok (.aload_n 0, 1) := by decide +kernel
theorem dX12_sharedBy_38 : decode cX12_sharedBy 38 = .ok (.aload_n 0, 1) := by decide +kernel
theorem dX12_sharedBy_39 : decode cX12_sharedBy 39 = .ok (.getfield 116, 3) := by decide +kernel
theorem dX12_sharedBy_42 : decode cX12_sharedBy 42 = .ok (.iload_n 1, 1) := by decide +kernel
theorem dX12_sharedBy_43 : decode cX12_sharedBy 43 = .ok (.iconst 1, 1) := by decide +kernel
theorem dX12_sharedBy_44 : decode cX12_sharedBy 44 = .ok (.isub, 1) := by decide +kernel
theorem dX12_sharedBy_45 : decode cX12_sharedBy 45 = .ok (.laload, 1) := by decide +kernel
theorem dX12_sharedBy_46 : decode cX12_sharedBy 46 = .ok (.iload_n 2, 1) := by decide +kernel
theorem dX12_sharedBy_47 : decode cX12_sharedBy 47 = .ok (.invokevirtual 219, 3) := by decide +kernel
theorem dX12_sharedBy_50 : decode cX12_sharedBy 50 = .ok (.if_icmp .ne 9, 3) := by decide +kernel
theorem dX12_sharedBy_53 : decode cX12_sharedBy 53 = .ok (.iinc 2 1, 3) := by decide +kernel
theorem dX12_sharedBy_56 : decode cX12_sharedBy 56 = .ok (.goto (-54), 3) := by decide +kernel
theorem dX12_sharedBy_59 : decode cX12_sharedBy 59 = .ok (.iload_n 2, 1) := by decide +kernel
theorem dX12_sharedBy_60 : decode cX12_sharedBy 60 = .ok (.ireturn, 1) := by decide +kernel
theorem dX12_shared_0 : decode cX12_shared 0 = .ok (.aload_n 0, 1) := by decide +kernel
theorem dX12_shared_1 : decode cX12_shared 1 = .ok (.aload_n 0, 1) := by decide +kernel
theorem dX12_shared_2 : decode cX12_shared 2 = .ok (.iload_n 1, 1) := by decide +kernel
theorem dX12_shared_3 : decode cX12_shared 3 = .ok (.iload_n 2, 1) := by decide +kernel
theorem dX12_shared_4 : decode cX12_shared 4 = .ok (.iload_n 3, 1) := by decide +kernel
theorem dX12_shared_5 : decode cX12_shared 5 = .ok (.invokevirtual 403, 3) := by decide +kernel
theorem dX12_shared_8 : decode cX12_shared 8 = .ok (.iconst 1, 1) := by decide +kernel
theorem dX12_shared_9 : decode cX12_shared 9 = .ok (.iconst 1, 1) := by decide +kernel
theorem dX12_shared_10 : decode cX12_shared 10 = .ok (.invokevirtual 248, 3) := by decide +kernel
theorem dX12_shared_13 : decode cX12_shared 13 = .ok (.ifCond .eq 11, 3) := by decide +kernel
theorem dX12_shared_16 : decode cX12_shared 16 = .ok (.aload_n 0, 1) := by decide +kernel
theorem dX12_shared_17 : decode cX12_shared 17 = .ok (.iload_n 3, 1) := by decide +kernel
theorem dX12_shared_18 : decode cX12_shared 18 = .ok (.invokevirtual 406, 3) := by decide +kernel
theorem dX12_shared_21 : decode cX12_shared 21 = .ok (.goto 4, 3) := by decide +kernel
theorem dX12_shared_24 : decode cX12_shared 24 = .ok (.iconst 0, 1) := by decide +kernel
theorem dX12_shared_25 : decode cX12_shared 25 = .ok (.ireturn, 1) := by decide +kernel
theorem dX12_wordBytes_0 : decode cX12_wordBytes 0 = .ok (.iconst 0, 1) := by decide +kernel
theorem dX12_wordBytes_1 : decode cX12_wordBytes 1 = .ok (.istore_n 3, 1) := by decide +kernel
theorem dX12_wordBytes_2 : decode cX12_wordBytes 2 = .ok (.aload_n 0, 1) := by decide +kernel
theorem dX12_wordBytes_3 : decode cX12_wordBytes 3 = .ok (.aload_n 0, 1) := by decide +kernel
theorem dX12_wordBytes_4 : decode cX12_wordBytes 4 = .ok (.iload_n 1, 1) := by decide +kernel
theorem dX12_wordBytes_5 : decode cX12_wordBytes 5 = .ok (.iload_n 2, 1) := by decide +kernel
theorem dX12_wordBytes_6 : decode cX12_wordBytes 6 = .ok (.invokevirtual 399, 3) := by decide +kernel
theorem dX12_wordBytes_9 : decode cX12_wordBytes 9 = .ok (.iconst 1, 1) := by decide +kernel
theorem dX12_wordBytes_10 : decode cX12_wordBytes 10 = .ok (.iconst 1, 1) := by decide +kernel
theorem dX12_wordBytes_11 : decode cX12_wordBytes 11 = .ok (.invokevirtual 248, 3) := by decide +kernel
theorem dX12_wordBytes_14 : decode cX12_wordBytes 14 = .ok (.istore 4, 2) := by decide +kernel
theorem dX12_wordBytes_16 : decode cX12_wordBytes 16 = .ok (.iconst 0, 1) := by decide +kernel
theorem dX12_wordBytes_17 : decode cX12_wordBytes 17 = .ok (.istore 5, 2) := by decide +kernel
theorem dX12_wordBytes_19 : decode cX12_wordBytes 19 = .ok (.iload 4, 2) := by decide +kernel
theorem dX12_wordBytes_21 : decode cX12_wordBytes 21 = .ok (.ifCond .eq 41, 3) := by decide +kernel
theorem dX12_wordBytes_24 : decode cX12_wordBytes 24 = .ok (.iload 5, 2) := by decide +kernel
theorem dX12_wordBytes_26 : decode cX12_wordBytes 26 = .ok (.aload_n 0, 1) := by decide +kernel
theorem dX12_wordBytes_27 : decode cX12_wordBytes 27 = .ok (.getfield 386, 3) := by decide +kernel
theorem dX12_wordBytes_30 : decode cX12_wordBytes 30 = .ok (.if_icmp .ge 32, 3) := by decide +kernel
theorem dX12_wordBytes_33 : decode cX12_wordBytes 33 = .ok (.iload_n 3, 1) := by decide +kernel
theorem dX12_wordBytes_34 : decode cX12_wordBytes 34 = .ok (.iconst 2, 1) := by decide +kernel
theorem dX12_wordBytes_35 : decode cX12_wordBytes 35 = .ok (.aload_n 0, 1) := by decide +kernel
theorem dX12_wordBytes_36 : decode cX12_wordBytes 36 = .ok (.aload_n 0, 1) := by decide +kernel
theorem dX12_wordBytes_37 : decode cX12_wordBytes 37 = .ok (.getfield 116, 3) := by decide +kernel
theorem dX12_wordBytes_40 : decode cX12_wordBytes 40 = .ok (.iload 5, 2) := by decide +kernel
theorem dX12_wordBytes_42 : decode cX12_wordBytes 42 = .ok (.laload, 1) := by decide +kernel
theorem dX12_wordBytes_43 : decode cX12_wordBytes 43 = .ok (.invokevirtual 227, 3) := by decide +kernel
theorem dX12_wordBytes_46 : decode cX12_wordBytes 46 = .ok (.iadd, 1) := by decide +kernel
theorem dX12_wordBytes_47 : decode cX12_wordBytes 47 = .ok (.aload_n 0, 1) := by decide +kernel
theorem dX12_wordBytes_48 : decode cX12_wordBytes 48 = .ok (.iload 5, 2) := by decide +kernel
theorem dX12_wordBytes_50 : decode cX12_wordBytes 50 = .ok (.invokevirtual 406, 3) := by decide +kernel
theorem dX12_wordBytes_53 : decode cX12_wordBytes 53 = .ok (.isub, 1) := by decide +kernel
theorem dX12_wordBytes_54 : decode cX12_wordBytes 54 = .ok (.iadd, 1) := by decide +kernel
theorem dX12_wordBytes_55 : decode cX12_wordBytes 55 = .ok (.istore_n 3, 1) := by decide +kernel
theorem dX12_wordBytes_56 : decode cX12_wordBytes 56 = .ok (.iinc 5 1, 3) := by decide +kernel
theorem dX12_wordBytes_59 : decode cX12_wordBytes 59 = .ok (.goto (-40), 3) := by decide +kernel
theorem dX12_wordBytes_62 : decode cX12_wordBytes 62 = .ok (.iload_n 3, 1) := by decide +kernel
theorem dX12_wordBytes_63 : decode cX12_wordBytes 63 = .ok (.ireturn, 1) := by decide +kernel
theorem dX12_signAt_0 : decode cX12_signAt 0 = .ok (.aload_n 0, 1) := by decide +kernel
theorem dX12_signAt_1 : decode cX12_signAt 1 = .ok (.aload_n 0, 1) := by decide +kernel
theorem dX12_signAt_2 : decode cX12_signAt 2 = .ok (.iload_n 1, 1) := by decide +kernel
theorem dX12_signAt_3 : decode cX12_signAt 3 = .ok (.iload_n 2, 1) := by decide +kernel
theorem dX12_signAt_4 : decode cX12_signAt 4 = .ok (.iload_n 3, 1) := by decide +kernel
theorem dX12_signAt_5 : decode cX12_signAt 5 = .ok (.invokevirtual 403, 3) := by decide +kernel
theorem dX12_signAt_8 : decode cX12_signAt 8 = .ok (.iconst 1, 1) := by decide +kernel
theorem dX12_signAt_9 : decode cX12_signAt 9 = .ok (.iconst 1, 1) := by decide +kernel
theorem dX12_signAt_10 : decode cX12_signAt 10 = .ok (.invokevirtual 248, 3) := by decide +kernel
theorem dX12_signAt_13 : decode cX12_signAt 13 = .ok (.ifCond .ne 6, 3) := by decide +kernel
theorem dX12_signAt_16 : decode cX12_signAt 16 = .ok (.bipush 32, 2) := by decide +kernel
theorem dX12_signAt_18 : decode cX12_signAt 18 = .ok (.ireturn, 1) := by decide +kernel
theorem dX12_signAt_19 : decode cX12_signAt 19 = .ok (.iload 4, 2) := by decide +kernel
theorem dX12_signAt_21 : decode cX12_signAt 21 = .ok (.iconst 0, 1) := by decide +kernel
theorem dX12_signAt_22 : decode cX12_signAt 22 = .ok (.bipush 11, 2) := by decide +kernel
theorem dX12_signAt_24 : decode cX12_signAt 24 = .ok (.invokestatic 215, 3) := by decide +kernel
theorem dX12_signAt_27 : decode cX12_signAt 27 = .ok (.ifCond .eq 18, 3) := by decide +kernel
theorem dX12_signAt_30 : decode cX12_signAt 30 = .ok (.aload_n 0, 1) := by decide +kernel
theorem dX12_signAt_31 : decode cX12_signAt 31 = .ok (.aload_n 0, 1) := by decide +kernel
theorem dX12_signAt_32 : decode cX12_signAt 32 = .ok (.getfield 116, 3) := by decide +kernel
theorem dX12_signAt_35 : decode cX12_signAt 35 = .ok (.iload_n 3, 1) := by decide +kernel
theorem dX12_signAt_36 : decode cX12_signAt 36 = .ok (.laload, 1) := by decide +kernel
theorem dX12_signAt_37 : decode cX12_signAt 37 = .ok (.iload 4, 2) := by decide +kernel
theorem dX12_signAt_39 : decode cX12_signAt 39 = .ok (.invokevirtual 219, 3) := by decide +kernel
theorem dX12_signAt_42 : decode cX12_signAt 42 = .ok (.goto 4, 3) := by decide +kernel
theorem dX12_signAt_45 : decode cX12_signAt 45 = .ok (.iconst 0, 1) := by decide +kernel
theorem dX12_signAt_46 : decode cX12_signAt 46 = .ok (.istore 5, 2) := by decide +kernel
theorem dX12_signAt_48 : decode cX12_signAt 48 = .ok (.iload 5, 2) := by decide +kernel
theorem dX12_signAt_50 : decode cX12_signAt 50 = .ok (.ifCond .ne 8, 3) := by decide +kernel
theorem dX12_signAt_53 : decode cX12_signAt 53 = .ok (.bipush 32, 2) := by decide +kernel
theorem dX12_signAt_55 : decode cX12_signAt 55 = .ok (.goto 29, 3) := by decide +kernel
theorem dX12_signAt_58 : decode cX12_signAt 58 = .ok (.iload 5, 2) := by decide +kernel
theorem dX12_signAt_60 : decode cX12_signAt 60 = .ok (.bipush 10, 2) := by decide +kernel
theorem dX12_signAt_62 : decode cX12_signAt 62 = .ok (.if_icmp .gt 13, 3) := by decide +kernel
theorem dX12_signAt_65 : decode cX12_signAt 65 = .ok (.bipush 48, 2) := by decide +kernel
theorem dX12_signAt_67 : decode cX12_signAt 67 = .ok (.iload 5, 2) := by decide +kernel
theorem dX12_signAt_69 : decode cX12_signAt 69 = .ok (.iadd, 1) := by decide +kernel
theorem dX12_signAt_70 : decode cX12_signAt 70 = .ok (.iconst 1, 1) := by decide +kernel
theorem dX12_signAt_71 : decode cX12_signAt 71 = .ok (.isub, 1) := by decide +kernel
theorem dX12_signAt_72 : decode cX12_signAt 72 = .ok (.goto 11, 3) := by decide +kernel
theorem dX12_signAt_75 : decode cX12_signAt 75 = .ok (.bipush 97, 2) := by decide +kernel
theorem dX12_signAt_77 : decode cX12_signAt 77 = .ok (.iload 5, 2) := by decide +kernel
theorem dX12_signAt_79 : decode cX12_signAt 79 = .ok (.iadd, 1) := by decide +kernel
theorem dX12_signAt_80 : decode cX12_signAt 80 = .ok (.bipush 11, 2) := by decide +kernel
theorem dX12_signAt_82 : decode cX12_signAt 82 = .ok (.isub, 1) := by decide +kernel
theorem dX12_signAt_83 : decode cX12_signAt 83 = .ok (.i2c, 1) := by decide +kernel
theorem dX12_signAt_84 : decode cX12_signAt 84 = .ok (.ireturn, 1) := by decide +kernel
theorem dX12_writesBits_0 : decode cX12_writesBits 0 = .ok (.iload_n 2, 1) := by decide +kernel
theorem dX12_writesBits_1 : decode cX12_writesBits 1 = .ok (.iconst 1, 1) := by decide +kernel
theorem dX12_writesBits_2 : decode cX12_writesBits 2 = .ok (.isub, 1) := by decide +kernel
theorem dX12_writesBits_3 : decode cX12_writesBits 3 = .ok (.istore_n 3, 1) := by decide +kernel
theorem dX12_writesBits_4 : decode cX12_writesBits 4 = .ok (.iload_n 3, 1) := by decide +kernel
theorem dX12_writesBits_5 : decode cX12_writesBits 5 = .ok (.ifCond .lt 73, 3) := by decide +kernel
theorem dX12_writesBits_8 : decode cX12_writesBits 8 = .ok (.aload_n 0, 1) := by decide +kernel
theorem dX12_writesBits_9 : decode cX12_writesBits 9 = .ok (.getfield 409, 3) := by decide +kernel
theorem dX12_writesBits_12 : decode cX12_writesBits 12 = .ok (.bipush 8, 2) := by decide +kernel
theorem dX12_writesBits_14 : decode cX12_writesBits 14 = .ok (.irem, 1) := by decide +kernel
theorem dX12_writesBits_15 : decode cX12_writesBits 15 = .ok (.ifCond .ne 16, 3) := by decide +kernel
theorem dX12_writesBits_18 : decode cX12_writesBits 18 = .ok (.aload_n 0, 1) := by decide +kernel
theorem dX12_writesBits_19 : decode cX12_writesBits 19 = .ok (.getfield 122, 3) := by decide +kernel
theorem dX12_writesBits_22 : decode cX12_writesBits 22 = .ok (.aload_n 0, 1) := by decide +kernel
theorem dX12_writesBits_23 : decode cX12_writesBits 23 = .ok (.getfield 409, 3) := by decide +kernel
theorem dX12_writesBits_26 : decode cX12_writesBits 26 = .ok (.bipush 8, 2) := by decide +kernel
theorem dX12_writesBits_28 : decode cX12_writesBits 28 = .ok (.idiv, 1) := by decide +kernel
theorem dX12_writesBits_29 : decode cX12_writesBits 29 = .ok (.iconst 0, 1) := by decide +kernel
theorem dX12_writesBits_30 : decode cX12_writesBits 30 = .ok (.iastore, 1) := by decide +kernel
theorem dX12_writesBits_31 : decode cX12_writesBits 31 = .ok (.aload_n 0, 1) := by decide +kernel
theorem dX12_writesBits_32 : decode cX12_writesBits 32 = .ok (.getfield 122, 3) := by decide +kernel
theorem dX12_writesBits_35 : decode cX12_writesBits 35 = .ok (.aload_n 0, 1) := by decide +kernel
theorem dX12_writesBits_36 : decode cX12_writesBits 36 = .ok (.getfield 409, 3) := by decide +kernel
theorem dX12_writesBits_39 : decode cX12_writesBits 39 = .ok (.bipush 8, 2) := by decide +kernel
theorem dX12_writesBits_41 : decode cX12_writesBits 41 = .ok (.idiv, 1) := by decide +kernel
theorem dX12_writesBits_42 : decode cX12_writesBits 42 = .ok (.dup2, 1) := by decide +kernel
theorem dX12_writesBits_43 : decode cX12_writesBits 43 = .ok (.iaload, 1) := by decide +kernel
theorem dX12_writesBits_44 : decode cX12_writesBits 44 = .ok (.iload_n 1, 1) := by decide +kernel
theorem dX12_writesBits_45 : decode cX12_writesBits 45 = .ok (.iload_n 3, 1) := by decide +kernel
theorem dX12_writesBits_46 : decode cX12_writesBits 46 = .ok (.ishr, 1) := by decide +kernel
theorem dX12_writesBits_47 : decode cX12_writesBits 47 = .ok (.iconst 1, 1) := by decide +kernel
theorem dX12_writesBits_48 : decode cX12_writesBits 48 = .ok (.iand, 1) := by decide +kernel
theorem dX12_writesBits_49 : decode cX12_writesBits 49 = .ok (.bipush 7, 2) := by decide +kernel
theorem dX12_writesBits_51 : decode cX12_writesBits 51 = .ok (.aload_n 0, 1) := by decide +kernel
theorem dX12_writesBits_52 : decode cX12_writesBits 52 = .ok (.getfield 409, 3) := by decide +kernel
theorem dX12_writesBits_55 : decode cX12_writesBits 55 = .ok (.bipush 8, 2) := by decide +kernel
theorem dX12_writesBits_57 : decode cX12_writesBits 57 = .ok (.irem, 1) := by decide +kernel
theorem dX12_writesBits_58 : decode cX12_writesBits 58 = .ok (.isub, 1) := by decide +kernel
theorem dX12_writesBits_59 : decode cX12_writesBits 59 = .ok (.ishl, 1) := by decide +kernel
theorem dX12_writesBits_60 : decode cX12_writesBits 60 = .ok (.ior, 1) := by decide +kernel
theorem dX12_writesBits_61 : decode cX12_writesBits 61 = .ok (.iastore, 1) := by decide +kernel
theorem dX12_writesBits_62 : decode cX12_writesBits 62 = .ok (.aload_n 0, 1) := by decide +kernel
theorem dX12_writesBits_63 : decode cX12_writesBits 63 = .ok (.dup, 1) := by decide +kernel
theorem dX12_writesBits_64 : decode cX12_writesBits 64 = .ok (.getfield 409, 3) := by decide +kernel
theorem dX12_writesBits_67 : decode cX12_writesBits 67 = .ok (.iconst 1, 1) := by decide +kernel
theorem dX12_writesBits_68 : decode cX12_writesBits 68 = .ok (.iadd, 1) := by decide +kernel
theorem dX12_writesBits_69 : decode cX12_writesBits 69 = .ok (.putfield 409, 3) := by decide +kernel
theorem dX12_writesBits_72 : decode cX12_writesBits 72 = .ok (.iinc 3 (-1), 3) := by decide +kernel
theorem dX12_writesBits_75 : decode cX12_writesBits 75 = .ok (.goto (-71), 3) := by decide +kernel
theorem dX12_writesBits_78 : decode cX12_writesBits 78 = .ok (.return_, 1) := by decide +kernel
theorem dX12_packs_0 : decode cX12_packs 0 = .ok (.iconst 0, 1) := by decide +kernel
theorem dX12_packs_1 : decode cX12_packs 1 = .ok (.istore 5, 2) := by decide +kernel
theorem dX12_packs_3 : decode cX12_packs 3 = .ok (.iconst (-1), 1) := by decide +kernel
theorem dX12_packs_4 : decode cX12_packs 4 = .ok (.istore 6, 2) := by decide +kernel
theorem dX12_packs_6 : decode cX12_packs 6 = .ok (.iconst 0, 1) := by decide +kernel
theorem dX12_packs_7 : decode cX12_packs 7 = .ok (.istore 7, 2) := by decide +kernel
theorem dX12_packs_9 : decode cX12_packs 9 = .ok (.iload 7, 2) := by decide +kernel
theorem dX12_packs_11 : decode cX12_packs 11 = .ok (.aload_n 0, 1) := by decide +kernel
theorem dX12_packs_12 : decode cX12_packs 12 = .ok (.getfield 69, 3) := by decide +kernel
theorem dX12_packs_15 : decode cX12_packs 15 = .ok (.iload_n 1, 1) := by decide +kernel
theorem dX12_packs_16 : decode cX12_packs 16 = .ok (.iaload, 1) := by decide +kernel
theorem dX12_packs_17 : decode cX12_packs 17 = .ok (.if_icmp .ge 139, 3) := by decide +kernel
theorem dX12_packs_20 : decode cX12_packs 20 = .ok (.aload_n 0, 1) := by decide +kernel
theorem dX12_packs_21 : decode cX12_packs 21 = .ok (.getfield 66, 3) := by decide +kernel
theorem dX12_packs_24 : decode cX12_packs 24 = .ok (.bipush 100, 2) := by decide +kernel
theorem dX12_packs_26 : decode cX12_packs 26 = .ok (.iload_n 1, 1) := by decide +kernel
theorem dX12_packs_27 : decode cX12_packs 27 = .ok (.imul, 1) := by decide +kernel
theorem dX12_packs_28 : decode cX12_packs 28 = .ok (.iload 7, 2) := by decide +kernel
theorem dX12_packs_30 : decode cX12_packs 30 = .ok (.iadd, 1) := by decide +kernel
theorem dX12_packs_31 : decode cX12_packs 31 = .ok (.iaload, 1) := by decide +kernel
theorem dX12_packs_32 : decode cX12_packs 32 = .ok (.istore 8, 2) := by decide +kernel
theorem dX12_packs_34 : decode cX12_packs 34 = .ok (.iconst 0, 1) := by decide +kernel
theorem dX12_packs_35 : decode cX12_packs 35 = .ok (.istore 9, 2) := by decide +kernel
theorem dX12_packs_37 : decode cX12_packs 37 = .ok (.iconst (-1), 1) := by decide +kernel
theorem dX12_packs_38 : decode cX12_packs 38 = .ok (.istore 10, 2) := by decide +kernel
theorem dX12_packs_40 : decode cX12_packs 40 = .ok (.iload 5, 2) := by decide +kernel
theorem dX12_packs_42 : decode cX12_packs 42 = .ok (.iconst 1, 1) := by decide +kernel
theorem dX12_packs_43 : decode cX12_packs 43 = .ok (.iadd, 1) := by decide +kernel
theorem dX12_packs_44 : decode cX12_packs 44 = .ok (.istore 11, 2) := by decide +kernel
theorem dX12_packs_46 : decode cX12_packs 46 = .ok (.iconst 0, 1) := by decide +kernel
theorem dX12_packs_47 : decode cX12_packs 47 = .ok (.istore 12, 2) := by decide +kernel
theorem dX12_packs_49 : decode cX12_packs 49 = .ok (.iload 12, 2) := by decide +kernel
theorem dX12_packs_51 : decode cX12_packs 51 = .ok (.aload_n 0, 1) := by decide +kernel
theorem dX12_packs_52 : decode cX12_packs 52 = .ok (.getfield 63, 3) := by decide +kernel
theorem dX12_packs_55 : decode cX12_packs 55 = .ok (.iconst 2, 1) := by decide +kernel
theorem dX12_packs_56 : decode cX12_packs 56 = .ok (.iload 8, 2) := by decide +kernel
theorem dX12_packs_58 : decode cX12_packs 58 = .ok (.imul, 1) := by decide +kernel
theorem dX12_packs_59 : decode cX12_packs 59 = .ok (.iload_n 2, 1) := by decide +kernel
theorem dX12_packs_60 : decode cX12_packs 60 = .ok (.iadd, 1) := by decide +kernel
theorem dX12_packs_61 : decode cX12_packs 61 = .ok (.iaload, 1) := by decide +kernel
theorem dX12_packs_62 : decode cX12_packs 62 = .ok (.if_icmp .ge 72, 3) := by decide +kernel
theorem dX12_packs_65 : decode cX12_packs 65 = .ok (.aload_n 0, 1) := by decide +kernel
theorem dX12_packs_66 : decode cX12_packs 66 = .ok (.iload 8, 2) := by decide +kernel
theorem dX12_packs_68 : decode cX12_packs 68 = .ok (.iload_n 2, 1) := by decide +kernel
theorem dX12_packs_69 : decode cX12_packs 69 = .ok (.iload 12, 2) := by decide +kernel
theorem dX12_packs_71 : decode cX12_packs 71 = .ok (.lload_n 3, 1) := by decide +kernel
theorem dX12_packs_72 : decode cX12_packs 72 = .ok (.invokevirtual 412, 3) := by decide +kernel
theorem dX12_packs_75 : decode cX12_packs 75 = .ok (.ifCond .eq 53, 3) := by decide +kernel
theorem dX12_packs_78 : decode cX12_packs 78 = .ok (.iload 9, 2) := by decide +kernel
theorem dX12_packs_80 : decode cX12_packs 80 = .ok (.ifCond .ne 24, 3) := by decide +kernel
theorem dX12_packs_83 : decode cX12_packs 83 = .ok (.aload_n 0, 1) := by decide +kernel
theorem dX12_packs_84 : decode cX12_packs 84 = .ok (.getfield 119, 3) := by decide +kernel
theorem dX12_packs_87 : decode cX12_packs 87 = .ok (.iload 5, 2) := by decide +kernel
theorem dX12_packs_89 : decode cX12_packs 89 = .ok (.iload 7, 2) := by decide +kernel
theorem dX12_packs_91 : decode cX12_packs 91 = .ok (.iload 6, 2) := by decide +kernel
theorem dX12_packs_93 : decode cX12_packs 93 = .ok (.isub, 1) := by decide +kernel
theorem dX12_packs_94 : decode cX12_packs 94 = .ok (.iconst 1, 1) := by decide +kernel
theorem dX12_packs_95 : decode cX12_packs 95 = .ok (.isub, 1) := by decide +kernel
theorem dX12_packs_96 : decode cX12_packs 96 = .ok (.iastore, 1) := by decide +kernel
theorem dX12_packs_97 : decode cX12_packs 97 = .ok (.iinc 5 2, 3) := by decide +kernel
theorem dX12_packs_100 : decode cX12_packs 100 = .ok (.iload 7, 2) := by decide +kernel
theorem dX12_packs_102 : decode cX12_packs 102 = .ok (.istore 6, 2) := by decide +kernel
theorem dX12_packs_104 : decode cX12_packs 104 = .ok (.aload_n 0, 1) := by decide +kernel
theorem dX12_packs_105 : decode cX12_packs 105 = .ok (.getfield 119, 3) := by decide +kernel
theorem dX12_packs_108 : decode cX12_packs 108 = .ok (.iload 5, 2) := by decide +kernel
theorem dX12_packs_110 : decode cX12_packs 110 = .ok (.iload 12, 2) := by decide +kernel
theorem dX12_packs_112 : decode cX12_packs 112 = .ok (.iload 10, 2) := by decide +kernel
theorem dX12_packs_114 : decode cX12_packs 114 = .ok (.isub, 1) := by decide +kernel
theorem dX12_packs_115 : decode cX12_packs 115 = .ok (.iconst 1, 1) := by decide +kernel
theorem dX12_packs_116 : decode cX12_packs 116 = .ok (.isub, 1) := by decide +kernel
theorem dX12_packs_117 : decode cX12_packs 117 = .ok (.iastore, 1) := by decide +kernel
theorem dX12_packs_118 : decode cX12_packs 118 = .ok (.iinc 5 1, 3) := by decide +kernel
theorem dX12_packs_121 : decode cX12_packs 121 = .ok (.iload 12, 2) := by decide +kernel
theorem dX12_packs_123 : decode cX12_packs 123 = .ok (.istore 10, 2) := by decide +kernel
theorem dX12_packs_125 : decode cX12_packs 125 = .ok (.iinc 9 1, 3) := by decide +kernel
theorem dX12_packs_128 : decode cX12_packs 128 = .ok (.iinc 12 1, 3) := by decide +kernel
theorem dX12_packs_131 : decode cX12_packs 131 = .ok (.goto (-82), 3) := by decide +kernel
theorem dX12_packs_134 : decode cX12_packs 134 = .ok (.iload 9, 2) := by decide +kernel
theorem dX12_packs_136 : decode cX12_packs 136 = .ok (.ifCond .le 14, 3) := by decide +kernel
theorem dX12_packs_139 : decode cX12_packs 139 = .ok (.aload_n 0, 1) := by decide +kernel
theorem dX12_packs_140 : decode cX12_packs 140 = .ok (.getfield 119, 3) := by decide +kernel
theorem dX12_packs_143 : decode cX12_packs 143 = .ok (.iload 11, 2) := by decide +kernel
theorem dX12_packs_145 : decode cX12_packs 145 = .ok (.iload 9, 2) := by decide +kernel
theorem dX12_packs_147 : decode cX12_packs 147 = .ok (.iconst 1, 1) := by decide +kernel
theorem dX12_packs_148 : decode cX12_packs 148 = .ok (.isub, 1) := by decide +kernel
theorem dX12_packs_149 : decode cX12_packs 149 = .ok (.iastore, 1) := by decide +kernel
theorem dX12_packs_150 : decode cX12_packs 150 = .ok (.iinc 7 1, 3) := by decide +kernel
theorem dX12_packs_153 : decode cX12_packs 153 = .ok (.goto (-144), 3) := by decide +kernel
theorem dX12_packs_156 : decode cX12_packs 156 = .ok (.aload_n 0, 1) := by decide +kernel
theorem dX12_packs_157 : decode cX12_packs 157 = .ok (.iconst 0, 1) := by decide +kernel
theorem dX12_packs_158 : decode cX12_packs 158 = .ok (.putfield 409, 3) := by decide +kernel
theorem dX12_packs_161 : decode cX12_packs 161 = .ok (.iconst 0, 1) := by decide +kernel
theorem dX12_packs_162 : decode cX12_packs 162 = .ok (.istore 7, 2) := by decide +kernel
theorem dX12_packs_164 : decode cX12_packs 164 = .ok (.iload 7, 2) := by decide +kernel
theorem dX12_packs_166 : decode cX12_packs 166 = .ok (.iload 5, 2) := by decide +kernel
theorem dX12_packs_168 : decode cX12_packs 168 = .ok (.if_icmp .ge 103, 3) := by decide +kernel
theorem dX12_packs_171 : decode cX12_packs 171 = .ok (.iconst 0, 1) := by decide +kernel
theorem dX12_packs_172 : decode cX12_packs 172 = .ok (.istore 8, 2) := by decide +kernel
theorem dX12_packs_174 : decode cX12_packs 174 = .ok (.iload 7, 2) := by decide +kernel
theorem dX12_packs_176 : decode cX12_packs 176 = .ok (.istore 9, 2) := by decide +kernel
theorem dX12_packs_178 : decode cX12_packs 178 = .ok (.iload 9, 2) := by decide +kernel
theorem dX12_packs_180 : decode cX12_packs 180 = .ok (.iload 5, 2) := by decide +kernel
theorem dX12_packs_182 : decode cX12_packs 182 = .ok (.if_icmp .ge 37, 3) := by decide +kernel
theorem dX12_packs_185 : decode cX12_packs 185 = .ok (.iload 9, 2) := by decide +kernel
theorem dX12_packs_187 : decode cX12_packs 187 = .ok (.iload 7, 2) := by decide +kernel
theorem dX12_packs_189 : decode cX12_packs 189 = .ok (.iconst 4, 1) := by decide +kernel
theorem dX12_packs_190 : decode cX12_packs 190 = .ok (.iadd, 1) := by decide +kernel
theorem dX12_packs_191 : decode cX12_packs 191 = .ok (.if_icmp .ge 28, 3) := by decide +kernel
theorem dX12_packs_194 : decode cX12_packs 194 = .ok (.aload_n 0, 1) := by decide +kernel
theorem dX12_packs_195 : decode cX12_packs 195 = .ok (.getfield 119, 3) := by decide +kernel
theorem dX12_packs_198 : decode cX12_packs 198 = .ok (.iload 9, 2) := by decide +kernel
theorem dX12_packs_200 : decode cX12_packs 200 = .ok (.iaload, 1) := by decide +kernel
theorem dX12_packs_201 : decode cX12_packs 201 = .ok (.iload 8, 2) := by decide +kernel
theorem dX12_packs_203 : decode cX12_packs 203 = .ok (.ishr, 1) := by decide +kernel
theorem dX12_packs_204 : decode cX12_packs 204 = .ok (.ifCond .le 9, 3) := by decide +kernel
theorem dX12_packs_207 : decode cX12_packs 207 = .ok (.iinc 8 1, 3) := by decide +kernel
theorem dX12_packs_210 : decode cX12_packs 210 = .ok (.goto (-16), 3) := by decide +kernel
theorem dX12_packs_213 : decode cX12_packs 213 = .ok (.iinc 9 1, 3) := by decide +kernel
theorem dX12_packs_216 : decode cX12_packs 216 = .ok (.goto (-38), 3) := by decide +kernel
theorem dX12_packs_219 : decode cX12_packs 219 = .ok (.aload_n 0, 1) := by decide +kernel
theorem dX12_packs_220 : decode cX12_packs 220 = .ok (.iload 8, 2) := by decide +kernel
theorem dX12_packs_222 : decode cX12_packs 222 = .ok (.iconst 4, 1) := by decide +kernel
theorem dX12_packs_223 : decode cX12_packs 223 = .ok (.invokevirtual 416, 3) := by decide +kernel
theorem dX12_packs_226 : decode cX12_packs 226 = .ok (.iload 7, 2) := by decide +kernel
theorem dX12_packs_228 : decode cX12_packs 228 = .ok (.istore 9, 2) := by decide +kernel
theorem dX12_packs_230 : decode cX12_packs 230 = .ok (.iload 9, 2) := by decide +kernel
theorem dX12_packs_232 : decode cX12_packs 232 = .ok (.iload 5, 2) := by decide +kernel
theorem dX12_packs_234 : decode cX12_packs 234 = .ok (.if_icmp .ge 31, 3) := by decide +kernel
theorem dX12_packs_237 : decode cX12_packs 237 = .ok (.iload 9, 2) := by decide +kernel
theorem dX12_packs_239 : decode cX12_packs 239 = .ok (.iload 7, 2) := by decide +kernel
theorem dX12_packs_241 : decode cX12_packs 241 = .ok (.iconst 4, 1) := by decide +kernel
theorem dX12_packs_242 : decode cX12_packs 242 = .ok (.iadd, 1) := by decide +kernel
theorem dX12_packs_243 : decode cX12_packs 243 = .ok (.if_icmp .ge 22, 3) := by decide +kernel
theorem dX12_packs_246 : decode cX12_packs 246 = .ok (.aload_n 0, 1) := by decide +kernel
theorem dX12_packs_247 : decode cX12_packs 247 = .ok (.aload_n 0, 1) := by decide +kernel
theorem dX12_packs_248 : decode cX12_packs 248 = .ok (.getfield 119, 3) := by decide +kernel
theorem dX12_packs_251 : decode cX12_packs 251 = .ok (.iload 9, 2) := by decide +kernel
theorem dX12_packs_253 : decode cX12_packs 253 = .ok (.iaload, 1) := by decide +kernel
theorem dX12_packs_254 : decode cX12_packs 254 = .ok (.iload 8, 2) := by decide +kernel
theorem dX12_packs_256 : decode cX12_packs 256 = .ok (.invokevirtual 416, 3) := by decide +kernel
theorem dX12_packs_259 : decode cX12_packs 259 = .ok (.iinc 9 1, 3) := by decide +kernel
theorem dX12_packs_262 : decode cX12_packs 262 = .ok (.goto (-32), 3) := by decide +kernel
theorem dX12_packs_265 : decode cX12_packs 265 = .ok (.iinc 7 4, 3) := by decide +kernel
theorem dX12_packs_268 : decode cX12_packs 268 = .ok (.goto (-104), 3) := by decide +kernel
theorem dX12_packs_271 : decode cX12_packs 271 = .ok (.return_, 1) := by decide +kernel
theorem dX12_bytes_0 : decode cX12_bytes 0 = .ok (.aload_n 0, 1) := by decide +kernel
theorem dX12_bytes_1 : decode cX12_bytes 1 = .ok (.aload_n 0, 1) := by decide +kernel
theorem dX12_bytes_2 : decode cX12_bytes 2 = .ok (.iload_n 1, 1) := by decide +kernel
theorem dX12_bytes_3 : decode cX12_bytes 3 = .ok (.iload_n 2, 1) := by decide +kernel
theorem dX12_bytes_4 : decode cX12_bytes 4 = .ok (.iload_n 3, 1) := by decide +kernel
theorem dX12_bytes_5 : decode cX12_bytes 5 = .ok (.invokevirtual 403, 3) := by decide +kernel
theorem dX12_bytes_8 : decode cX12_bytes 8 = .ok (.iconst 1, 1) := by decide +kernel
theorem dX12_bytes_9 : decode cX12_bytes 9 = .ok (.iconst 1, 1) := by decide +kernel
theorem dX12_bytes_10 : decode cX12_bytes 10 = .ok (.invokevirtual 248, 3) := by decide +kernel
theorem dX12_bytes_13 : decode cX12_bytes 13 = .ok (.ifCond .ne 5, 3) := by decide +kernel
theorem dX12_bytes_16 : decode cX12_bytes 16 = .ok (.iconst 0, 1) := by decide +kernel
theorem dX12_bytes_17 : decode cX12_bytes 17 = .ok (.ireturn, 1) := by decide +kernel
theorem dX12_bytes_18 : decode cX12_bytes 18 = .ok (.aload_n 0, 1) := by decide +kernel
theorem dX12_bytes_19 : decode cX12_bytes 19 = .ok (.aload_n 0, 1) := by decide +kernel
theorem dX12_bytes_20 : decode cX12_bytes 20 = .ok (.getfield 82, 3) := by decide +kernel
theorem dX12_bytes_23 : decode cX12_bytes 23 = .ok (.iload_n 1, 1) := by decide +kernel
theorem dX12_bytes_24 : decode cX12_bytes 24 = .ok (.iaload, 1) := by decide +kernel
theorem dX12_bytes_25 : decode cX12_bytes 25 = .ok (.iload_n 2, 1) := by decide +kernel
theorem dX12_bytes_26 : decode cX12_bytes 26 = .ok (.aload_n 0, 1) := by decide +kernel
theorem dX12_bytes_27 : decode cX12_bytes 27 = .ok (.getfield 116, 3) := by decide +kernel
theorem dX12_bytes_30 : decode cX12_bytes 30 = .ok (.iload_n 3, 1) := by decide +kernel
theorem dX12_bytes_31 : decode cX12_bytes 31 = .ok (.laload, 1) := by decide +kernel
theorem dX12_bytes_32 : decode cX12_bytes 32 = .ok (.invokevirtual 419, 3) := by decide +kernel
theorem dX12_bytes_35 : decode cX12_bytes 35 = .ok (.aload_n 0, 1) := by decide +kernel
theorem dX12_bytes_36 : decode cX12_bytes 36 = .ok (.getfield 409, 3) := by decide +kernel
theorem dX12_bytes_39 : decode cX12_bytes 39 = .ok (.bipush 7, 2) := by decide +kernel
theorem dX12_bytes_41 : decode cX12_bytes 41 = .ok (.iadd, 1) := by decide +kernel
theorem dX12_bytes_42 : decode cX12_bytes 42 = .ok (.bipush 8, 2) := by decide +kernel
theorem dX12_bytes_44 : decode cX12_bytes 44 = .ok (.idiv, 1) := by decide +kernel
theorem dX12_bytes_45 : decode cX12_bytes 45 = .ok (.ireturn, 1) := by decide +kernel
theorem dX12_byteAt_0 : decode cX12_byteAt 0 = .ok (.aload_n 0, 1) := by decide +kernel
theorem dX12_byteAt_1 : decode cX12_byteAt 1 = .ok (.iload_n 1, 1) := by decide +kernel
theorem dX12_byteAt_2 : decode cX12_byteAt 2 = .ok (.iload_n 2, 1) := by decide +kernel
theorem dX12_byteAt_3 : decode cX12_byteAt 3 = .ok (.iload_n 3, 1) := by decide +kernel
theorem dX12_byteAt_4 : decode cX12_byteAt 4 = .ok (.invokevirtual 403, 3) := by decide +kernel
theorem dX12_byteAt_7 : decode cX12_byteAt 7 = .ok (.istore 5, 2) := by decide +kernel
theorem dX12_byteAt_9 : decode cX12_byteAt 9 = .ok (.iload 5, 2) := by decide +kernel
theorem dX12_byteAt_11 : decode cX12_byteAt 11 = .ok (.ifCond .eq 20, 3) := by decide +kernel
theorem dX12_byteAt_14 : decode cX12_byteAt 14 = .ok (.aload_n 0, 1) := by decide +kernel
theorem dX12_byteAt_15 : decode cX12_byteAt 15 = .ok (.aload_n 0, 1) := by decide +kernel
theorem dX12_byteAt_16 : decode cX12_byteAt 16 = .ok (.getfield 82, 3) := by decide +kernel
theorem dX12_byteAt_19 : decode cX12_byteAt 19 = .ok (.iload_n 1, 1) := by decide +kernel
theorem dX12_byteAt_20 : decode cX12_byteAt 20 = .ok (.iaload, 1) := by decide +kernel
theorem dX12_byteAt_21 : decode cX12_byteAt 21 = .ok (.iload_n 2, 1) := by decide +kernel
theorem dX12_byteAt_22 : decode cX12_byteAt 22 = .ok (.aload_n 0, 1) := by decide +kernel
theorem dX12_byteAt_23 : decode cX12_byteAt 23 = .ok (.getfield 116, 3) := by decide +kernel
theorem dX12_byteAt_26 : decode cX12_byteAt 26 = .ok (.iload_n 3, 1) := by decide +kernel
theorem dX12_byteAt_27 : decode cX12_byteAt 27 = .ok (.laload, 1) := by decide +kernel
theorem dX12_byteAt_28 : decode cX12_byteAt 28 = .ok (.invokevirtual 419, 3) := by decide +kernel
theorem dX12_byteAt_31 : decode cX12_byteAt 31 = .ok (.aload_n 0, 1) := by decide +kernel
theorem dX12_byteAt_32 : decode cX12_byteAt 32 = .ok (.iload 5, 2) := by decide +kernel
theorem dX12_byteAt_34 : decode cX12_byteAt 34 = .ok (.ifCond .eq 28, 3) := by decide +kernel
theorem dX12_byteAt_37 : decode cX12_byteAt 37 = .ok (.iload 4, 2) := by decide +kernel
theorem dX12_byteAt_39 : decode cX12_byteAt 39 = .ok (.iconst 0, 1) := by decide +kernel
theorem dX12_byteAt_40 : decode cX12_byteAt 40 = .ok (.aload_n 0, 1) := by decide +kernel
theorem dX12_byteAt_41 : decode cX12_byteAt 41 = .ok (.getfield 409, 3) := by decide +kernel
theorem dX12_byteAt_44 : decode cX12_byteAt 44 = .ok (.bipush 7, 2) := by decide +kernel
theorem dX12_byteAt_46 : decode cX12_byteAt 46 = .ok (.iadd, 1) := by decide +kernel
theorem dX12_byteAt_47 : decode cX12_byteAt 47 = .ok (.bipush 8, 2) := by decide +kernel
theorem dX12_byteAt_49 : decode cX12_byteAt 49 = .ok (.idiv, 1) := by decide +kernel
theorem dX12_byteAt_50 : decode cX12_byteAt 50 = .ok (.iconst 1, 1) := by decide +kernel
theorem dX12_byteAt_51 : decode cX12_byteAt 51 = .ok (.isub, 1) := by decide +kernel
theorem dX12_byteAt_52 : decode cX12_byteAt 52 = .ok (.invokestatic 215, 3) := by decide +kernel
theorem dX12_byteAt_55 : decode cX12_byteAt 55 = .ok (.ifCond .eq 7, 3) := by decide +kernel
theorem dX12_byteAt_58 : decode cX12_byteAt 58 = .ok (.iconst 1, 1) := by decide +kernel
theorem dX12_byteAt_59 : decode cX12_byteAt 59 = .ok (.goto 4, 3) := by decide +kernel
theorem dX12_byteAt_62 : decode cX12_byteAt 62 = .ok (.iconst 0, 1) := by decide +kernel
theorem dX12_byteAt_63 : decode cX12_byteAt 63 = .ok (.iconst 1, 1) := by decide +kernel
theorem dX12_byteAt_64 : decode cX12_byteAt 64 = .ok (.iconst 1, 1) := by decide +kernel
theorem dX12_byteAt_65 : decode cX12_byteAt 65 = .ok (.invokevirtual 248, 3) := by decide +kernel
theorem dX12_byteAt_68 : decode cX12_byteAt 68 = .ok (.ifCond .ne 5, 3) := by decide +kernel
theorem dX12_byteAt_71 : decode cX12_byteAt 71 = .ok (.iconst 0, 1) := by decide +kernel
theorem dX12_byteAt_72 : decode cX12_byteAt 72 = .ok (.ireturn, 1) := by decide +kernel
theorem dX12_byteAt_73 : decode cX12_byteAt 73 = .ok (.aload_n 0, 1) := by decide +kernel
theorem dX12_byteAt_74 : decode cX12_byteAt 74 = .ok (.getfield 122, 3) := by decide +kernel
theorem dX12_byteAt_77 : decode cX12_byteAt 77 = .ok (.iload 4, 2) := by decide +kernel
theorem dX12_byteAt_79 : decode cX12_byteAt 79 = .ok (.iaload, 1) := by decide +kernel
theorem dX12_byteAt_80 : decode cX12_byteAt 80 = .ok (.i2b, 1) := by decide +kernel
theorem dX12_byteAt_81 : decode cX12_byteAt 81 = .ok (.ireturn, 1) := by decide +kernel
theorem dX12_slotOf_0 : decode cX12_slotOf 0 = .ok (.iconst (-1), 1) := by decide +kernel
theorem dX12_slotOf_1 : decode cX12_slotOf 1 = .ok (.istore_n 2, 1) := by decide +kernel
theorem dX12_slotOf_2 : decode cX12_slotOf 2 = .ok (.iconst 0, 1) := by decide +kernel
theorem dX12_slotOf_3 : decode cX12_slotOf 3 = .ok (.istore_n 3, 1) := by decide +kernel
theorem dX12_slotOf_4 : decode cX12_slotOf 4 = .ok (.iload_n 3, 1) := by decide +kernel
theorem dX12_slotOf_5 : decode cX12_slotOf 5 = .ok (.iconst 5, 1) := by decide +kernel
theorem dX12_slotOf_6 : decode cX12_slotOf 6 = .ok (.if_icmp .ge 29, 3) := by decide +kernel
theorem dX12_slotOf_9 : decode cX12_slotOf 9 = .ok (.iload_n 1, 1) := by decide +kernel
theorem dX12_slotOf_10 : decode cX12_slotOf 10 = .ok (.ifCond .lt 17, 3) := by decide +kernel
theorem dX12_slotOf_13 : decode cX12_slotOf 13 = .ok (.aload_n 0, 1) := by decide +kernel
theorem dX12_slotOf_14 : decode cX12_slotOf 14 = .ok (.getfield 97, 3) := by decide +kernel
theorem dX12_slotOf_17 : decode cX12_slotOf 17 = .ok (.iload_n 3, 1) := by decide +kernel
theorem dX12_slotOf_18 : decode cX12_slotOf 18 = .ok (.iaload, 1) := by decide +kernel
theorem dX12_slotOf_19 : decode cX12_slotOf 19 = .ok (.iload_n 1, 1) := by decide +kernel
theorem dX12_slotOf_20 : decode cX12_slotOf 20 = .ok (.if_icmp .ne 7, 3) := by decide +kernel
theorem dX12_slotOf_23 : decode cX12_slotOf 23 = .ok (.iload_n 3, 1) := by decide +kernel
theorem dX12_slotOf_24 : decode cX12_slotOf 24 = .ok (.goto 4, 3) := by decide +kernel
theorem dX12_slotOf_27 : decode cX12_slotOf 27 = .ok (.iload_n 2, 1) := by decide +kernel
theorem dX12_slotOf_28 : decode cX12_slotOf 28 = .ok (.istore_n 2, 1) := by decide +kernel
theorem dX12_slotOf_29 : decode cX12_slotOf 29 = .ok (.iinc 3 1, 3) := by decide +kernel
theorem dX12_slotOf_32 : decode cX12_slotOf 32 = .ok (.goto (-28), 3) := by decide +kernel
theorem dX12_slotOf_35 : decode cX12_slotOf 35 = .ok (.iload_n 2, 1) := by decide +kernel
theorem dX12_slotOf_36 : decode cX12_slotOf 36 = .ok (.ireturn, 1) := by decide +kernel
theorem dX12_look_0 : decode cX12_look 0 = .ok (.iconst (-1), 1) := by decide +kernel
theorem dX12_look_1 : decode cX12_look 1 = .ok (.istore_n 2, 1) := by decide +kernel
theorem dX12_look_2 : decode cX12_look 2 = .ok (.iconst 4, 1) := by decide +kernel
theorem dX12_look_3 : decode cX12_look 3 = .ok (.istore_n 3, 1) := by decide +kernel
theorem dX12_look_4 : decode cX12_look 4 = .ok (.iload_n 3, 1) := by decide +kernel
theorem dX12_look_5 : decode cX12_look 5 = .ok (.ifCond .lt 25, 3) := by decide +kernel
theorem dX12_look_8 : decode cX12_look 8 = .ok (.aload_n 0, 1) := by decide +kernel
theorem dX12_look_9 : decode cX12_look 9 = .ok (.getfield 97, 3) := by decide +kernel
theorem dX12_look_12 : decode cX12_look 12 = .ok (.iload_n 3, 1) := by decide +kernel
theorem dX12_look_13 : decode cX12_look 13 = .ok (.iaload, 1) := by decide +kernel
theorem dX12_look_14 : decode cX12_look 14 = .ok (.iconst (-1), 1) := by decide +kernel
theorem dX12_look_15 : decode cX12_look 15 = .ok (.if_icmp .ne 7, 3) := by decide +kernel
theorem dX12_look_18 : decode cX12_look 18 = .ok (.iload_n 3, 1) := by decide +kernel
theorem dX12_look_19 : decode cX12_look 19 = .ok (.goto 4, 3) := by decide +kernel
theorem dX12_look_22 : decode cX12_look 22 = .ok (.iload_n 2, 1) := by decide +kernel
theorem dX12_look_23 : decode cX12_look 23 = .ok (.istore_n 2, 1) := by decide +kernel
theorem dX12_look_24 : decode cX12_look 24 = .ok (.iinc 3 (-1), 3) := by decide +kernel
theorem dX12_look_27 : decode cX12_look 27 = .ok (.goto (-23), 3) := by decide +kernel
theorem dX12_look_30 : decode cX12_look 30 = .ok (.aload_n 0, 1) := by decide +kernel
theorem dX12_look_31 : decode cX12_look 31 = .ok (.aload_n 0, 1) := by decide +kernel
theorem dX12_look_32 : decode cX12_look 32 = .ok (.getfield 297, 3) := by decide +kernel
theorem dX12_look_35 : decode cX12_look 35 = .ok (.ifCond .ne 12, 3) := by decide +kernel
theorem dX12_look_38 : decode cX12_look 38 = .ok (.iload_n 2, 1) := by decide +kernel
theorem dX12_look_39 : decode cX12_look 39 = .ok (.iconst (-1), 1) := by decide +kernel
theorem dX12_look_40 : decode cX12_look 40 = .ok (.if_icmp .eq 7, 3) := by decide +kernel
theorem dX12_look_43 : decode cX12_look 43 = .ok (.iconst 1, 1) := by decide +kernel
theorem dX12_look_44 : decode cX12_look 44 = .ok (.goto 4, 3) := by decide +kernel
theorem dX12_look_47 : decode cX12_look 47 = .ok (.iconst 0, 1) := by decide +kernel
theorem dX12_look_48 : decode cX12_look 48 = .ok (.iconst 1, 1) := by decide +kernel
theorem dX12_look_49 : decode cX12_look 49 = .ok (.iconst 1, 1) := by decide +kernel
theorem dX12_look_50 : decode cX12_look 50 = .ok (.invokevirtual 248, 3) := by decide +kernel
theorem dX12_look_53 : decode cX12_look 53 = .ok (.ifCond .ne 5, 3) := by decide +kernel
theorem dX12_look_56 : decode cX12_look 56 = .ok (.iconst 0, 1) := by decide +kernel
theorem dX12_look_57 : decode cX12_look 57 = .ok (.ireturn, 1) := by decide +kernel
theorem dX12_look_58 : decode cX12_look 58 = .ok (.aload_n 0, 1) := by decide +kernel
theorem dX12_look_59 : decode cX12_look 59 = .ok (.getfield 97, 3) := by decide +kernel
