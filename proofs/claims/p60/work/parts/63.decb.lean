theorem dX4_isLikePattern_69 : decode cX4_isLikePattern 69 = .ok (.istore 7, 2) := by decide +kernel
theorem dX4_isLikePattern_71 : decode cX4_isLikePattern 71 = .ok (.goto 36, 3) := by decide +kernel
theorem dX4_isLikePattern_74 : decode cX4_isLikePattern 74 = .ok (.aload_n 0, 1) := by decide +kernel
theorem dX4_isLikePattern_75 : decode cX4_isLikePattern 75 = .ok (.getfield 30, 3) := by decide +kernel
theorem dX4_isLikePattern_78 : decode cX4_isLikePattern 78 = .ok (.iload 8, 2) := by decide +kernel
theorem dX4_isLikePattern_80 : decode cX4_isLikePattern 80 = .ok (.iaload, 1) := by decide +kernel
theorem dX4_isLikePattern_81 : decode cX4_isLikePattern 81 = .ok (.bipush 37, 2) := by decide +kernel
theorem dX4_isLikePattern_83 : decode cX4_isLikePattern 83 = .ok (.if_icmp .eq 15, 3) := by decide +kernel
theorem dX4_isLikePattern_86 : decode cX4_isLikePattern 86 = .ok (.aload_n 0, 1) := by decide +kernel
theorem dX4_isLikePattern_87 : decode cX4_isLikePattern 87 = .ok (.getfield 30, 3) := by decide +kernel
theorem dX4_isLikePattern_90 : decode cX4_isLikePattern 90 = .ok (.iload 8, 2) := by decide +kernel
theorem dX4_isLikePattern_92 : decode cX4_isLikePattern 92 = .ok (.iaload, 1) := by decide +kernel
theorem dX4_isLikePattern_93 : decode cX4_isLikePattern 93 = .ok (.iload 6, 2) := by decide +kernel
theorem dX4_isLikePattern_95 : decode cX4_isLikePattern 95 = .ok (.if_icmp .ne 12, 3) := by decide +kernel
theorem dX4_isLikePattern_98 : decode cX4_isLikePattern 98 = .ok (.iload 7, 2) := by decide +kernel
theorem dX4_isLikePattern_100 : decode cX4_isLikePattern 100 = .ok (.iconst 2, 1) := by decide +kernel
theorem dX4_isLikePattern_101 : decode cX4_isLikePattern 101 = .ok (.iload 8, 2) := by decide +kernel
theorem dX4_isLikePattern_103 : decode cX4_isLikePattern 103 = .ok (.ishl, 1) := by decide +kernel
theorem dX4_isLikePattern_104 : decode cX4_isLikePattern 104 = .ok (.ior, 1) := by decide +kernel
theorem dX4_isLikePattern_105 : decode cX4_isLikePattern 105 = .ok (.istore 7, 2) := by decide +kernel
theorem dX4_isLikePattern_107 : decode cX4_isLikePattern 107 = .ok (.iinc 8 1, 3) := by decide +kernel
theorem dX4_isLikePattern_110 : decode cX4_isLikePattern 110 = .ok (.goto (-80), 3) := by decide +kernel
theorem dX4_isLikePattern_113 : decode cX4_isLikePattern 113 = .ok (.aload_n 0, 1) := by decide +kernel
theorem dX4_isLikePattern_114 : decode cX4_isLikePattern 114 = .ok (.iload 7, 2) := by decide +kernel
theorem dX4_isLikePattern_116 : decode cX4_isLikePattern 116 = .ok (.invokevirtual 112, 3) := by decide +kernel
theorem dX4_isLikePattern_119 : decode cX4_isLikePattern 119 = .ok (.istore 4, 2) := by decide +kernel
theorem dX4_isLikePattern_121 : decode cX4_isLikePattern 121 = .ok (.iinc 5 1, 3) := by decide +kernel
theorem dX4_isLikePattern_124 : decode cX4_isLikePattern 124 = .ok (.goto (-114), 3) := by decide +kernel
theorem dX4_isLikePattern_127 : decode cX4_isLikePattern 127 = .ok (.iload 4, 2) := by decide +kernel
theorem dX4_isLikePattern_129 : decode cX4_isLikePattern 129 = .ok (.aload_n 0, 1) := by decide +kernel
theorem dX4_isLikePattern_130 : decode cX4_isLikePattern 130 = .ok (.getfield 30, 3) := by decide +kernel
theorem dX4_isLikePattern_133 : decode cX4_isLikePattern 133 = .ok (.arraylength, 1) := by decide +kernel
theorem dX4_isLikePattern_134 : decode cX4_isLikePattern 134 = .ok (.ishr, 1) := by decide +kernel
theorem dX4_isLikePattern_135 : decode cX4_isLikePattern 135 = .ok (.iconst 1, 1) := by decide +kernel
theorem dX4_isLikePattern_136 : decode cX4_isLikePattern 136 = .ok (.iand, 1) := by decide +kernel
theorem dX4_isLikePattern_137 : decode cX4_isLikePattern 137 = .ok (.ifCond .eq 7, 3) := by decide +kernel
theorem dX4_isLikePattern_140 : decode cX4_isLikePattern 140 = .ok (.iconst 1, 1) := by decide +kernel
theorem dX4_isLikePattern_141 : decode cX4_isLikePattern 141 = .ok (.goto 4, 3) := by decide +kernel
theorem dX4_isLikePattern_144 : decode cX4_isLikePattern 144 = .ok (.iconst 0, 1) := by decide +kernel
theorem dX4_isLikePattern_145 : decode cX4_isLikePattern 145 = .ok (.ireturn, 1) := by decide +kernel
theorem dX4_withEmpty_0 : decode cX4_withEmpty 0 = .ok (.iload_n 1, 1) := by decide +kernel
theorem dX4_withEmpty_1 : decode cX4_withEmpty 1 = .ok (.istore_n 2, 1) := by decide +kernel
theorem dX4_withEmpty_2 : decode cX4_withEmpty 2 = .ok (.iconst 0, 1) := by decide +kernel
theorem dX4_withEmpty_3 : decode cX4_withEmpty 3 = .ok (.istore_n 3, 1) := by decide +kernel
theorem dX4_withEmpty_4 : decode cX4_withEmpty 4 = .ok (.iload_n 3, 1) := by decide +kernel
theorem dX4_withEmpty_5 : decode cX4_withEmpty 5 = .ok (.aload_n 0, 1) := by decide +kernel
theorem dX4_withEmpty_6 : decode cX4_withEmpty 6 = .ok (.getfield 30, 3) := by decide +kernel
theorem dX4_withEmpty_9 : decode cX4_withEmpty 9 = .ok (.arraylength, 1) := by decide +kernel
theorem dX4_withEmpty_10 : decode cX4_withEmpty 10 = .ok (.if_icmp .ge 34, 3) := by decide +kernel
theorem dX4_withEmpty_13 : decode cX4_withEmpty 13 = .ok (.aload_n 0, 1) := by decide +kernel
theorem dX4_withEmpty_14 : decode cX4_withEmpty 14 = .ok (.getfield 30, 3) := by decide +kernel
theorem dX4_withEmpty_17 : decode cX4_withEmpty 17 = .ok (.iload_n 3, 1) := by decide +kernel
theorem dX4_withEmpty_18 : decode cX4_withEmpty 18 = .ok (.iaload, 1) := by decide +kernel
theorem dX4_withEmpty_19 : decode cX4_withEmpty 19 = .ok (.bipush 38, 2) := by decide +kernel
theorem dX4_withEmpty_21 : decode cX4_withEmpty 21 = .ok (.if_icmp .ne 17, 3) := by decide +kernel
theorem dX4_withEmpty_24 : decode cX4_withEmpty 24 = .ok (.iload_n 2, 1) := by decide +kernel
theorem dX4_withEmpty_25 : decode cX4_withEmpty 25 = .ok (.iload_n 3, 1) := by decide +kernel
theorem dX4_withEmpty_26 : decode cX4_withEmpty 26 = .ok (.ishr, 1) := by decide +kernel
theorem dX4_withEmpty_27 : decode cX4_withEmpty 27 = .ok (.iconst 1, 1) := by decide +kernel
theorem dX4_withEmpty_28 : decode cX4_withEmpty 28 = .ok (.iand, 1) := by decide +kernel
theorem dX4_withEmpty_29 : decode cX4_withEmpty 29 = .ok (.ifCond .eq 9, 3) := by decide +kernel
theorem dX4_withEmpty_32 : decode cX4_withEmpty 32 = .ok (.iload_n 2, 1) := by decide +kernel
theorem dX4_withEmpty_33 : decode cX4_withEmpty 33 = .ok (.iconst 2, 1) := by decide +kernel
theorem dX4_withEmpty_34 : decode cX4_withEmpty 34 = .ok (.iload_n 3, 1) := by decide +kernel
theorem dX4_withEmpty_35 : decode cX4_withEmpty 35 = .ok (.ishl, 1) := by decide +kernel
theorem dX4_withEmpty_36 : decode cX4_withEmpty 36 = .ok (.ior, 1) := by decide +kernel
theorem dX4_withEmpty_37 : decode cX4_withEmpty 37 = .ok (.istore_n 2, 1) := by decide +kernel
theorem dX4_withEmpty_38 : decode cX4_withEmpty 38 = .ok (.iinc 3 1, 3) := by decide +kernel
theorem dX4_withEmpty_41 : decode cX4_withEmpty 41 = .ok (.goto (-37), 3) := by decide +kernel
theorem dX4_withEmpty_44 : decode cX4_withEmpty 44 = .ok (.iload_n 2, 1) := by decide +kernel
theorem dX4_withEmpty_45 : decode cX4_withEmpty 45 = .ok (.ireturn, 1) := by decide +kernel
theorem dX4_isEdited_0 : decode cX4_isEdited 0 = .ok (.aload_n 0, 1) := by decide +kernel
theorem dX4_isEdited_1 : decode cX4_isEdited 1 = .ok (.getfield 37, 3) := by decide +kernel
theorem dX4_isEdited_4 : decode cX4_isEdited 4 = .ok (.arraylength, 1) := by decide +kernel
theorem dX4_isEdited_5 : decode cX4_isEdited 5 = .ok (.iconst 1, 1) := by decide +kernel
theorem dX4_isEdited_6 : decode cX4_isEdited 6 = .ok (.isub, 1) := by decide +kernel
theorem dX4_isEdited_7 : decode cX4_isEdited 7 = .ok (.istore 4, 2) := by decide +kernel
theorem dX4_isEdited_9 : decode cX4_isEdited 9 = .ok (.iload 4, 2) := by decide +kernel
theorem dX4_isEdited_11 : decode cX4_isEdited 11 = .ok (.ifCond .lt 17, 3) := by decide +kernel
theorem dX4_isEdited_14 : decode cX4_isEdited 14 = .ok (.iload_n 3, 1) := by decide +kernel
theorem dX4_isEdited_15 : decode cX4_isEdited 15 = .ok (.iload 4, 2) := by decide +kernel
theorem dX4_isEdited_17 : decode cX4_isEdited 17 = .ok (.isub, 1) := by decide +kernel
theorem dX4_isEdited_18 : decode cX4_isEdited 18 = .ok (.invokestatic 115, 3) := by decide +kernel
theorem dX4_isEdited_21 : decode cX4_isEdited 21 = .ok (.aload_n 0, 1) := by decide +kernel
theorem dX4_isEdited_22 : decode cX4_isEdited 22 = .ok (.getfield 46, 3) := by decide +kernel
theorem dX4_isEdited_25 : decode cX4_isEdited 25 = .ok (.if_icmp .le 5, 3) := by decide +kernel
theorem dX4_isEdited_28 : decode cX4_isEdited 28 = .ok (.iconst 0, 1) := by decide +kernel
theorem dX4_isEdited_29 : decode cX4_isEdited 29 = .ok (.ireturn, 1) := by decide +kernel
theorem dX4_isEdited_30 : decode cX4_isEdited 30 = .ok (.iconst 0, 1) := by decide +kernel
theorem dX4_isEdited_31 : decode cX4_isEdited 31 = .ok (.istore 5, 2) := by decide +kernel
theorem dX4_isEdited_33 : decode cX4_isEdited 33 = .ok (.iload 5, 2) := by decide +kernel
theorem dX4_isEdited_35 : decode cX4_isEdited 35 = .ok (.iload 4, 2) := by decide +kernel
theorem dX4_isEdited_37 : decode cX4_isEdited 37 = .ok (.if_icmp .gt 18, 3) := by decide +kernel
theorem dX4_isEdited_40 : decode cX4_isEdited 40 = .ok (.aload_n 0, 1) := by decide +kernel
theorem dX4_isEdited_41 : decode cX4_isEdited 41 = .ok (.getfield 37, 3) := by decide +kernel
theorem dX4_isEdited_44 : decode cX4_isEdited 44 = .ok (.iload 5, 2) := by decide +kernel
theorem dX4_isEdited_46 : decode cX4_isEdited 46 = .ok (.iload 5, 2) := by decide +kernel
theorem dX4_isEdited_48 : decode cX4_isEdited 48 = .ok (.iastore, 1) := by decide +kernel
theorem dX4_isEdited_49 : decode cX4_isEdited 49 = .ok (.iinc 5 1, 3) := by decide +kernel
theorem dX4_isEdited_52 : decode cX4_isEdited 52 = .ok (.goto (-19), 3) := by decide +kernel
theorem dX4_isEdited_55 : decode cX4_isEdited 55 = .ok (.iconst 1, 1) := by decide +kernel
theorem dX4_isEdited_56 : decode cX4_isEdited 56 = .ok (.istore 5, 2) := by decide +kernel
theorem dX4_isEdited_58 : decode cX4_isEdited 58 = .ok (.iload 5, 2) := by decide +kernel
theorem dX4_isEdited_60 : decode cX4_isEdited 60 = .ok (.iload_n 3, 1) := by decide +kernel
theorem dX4_isEdited_61 : decode cX4_isEdited 61 = .ok (.if_icmp .gt 127, 3) := by decide +kernel
theorem dX4_isEdited_64 : decode cX4_isEdited 64 = .ok (.aload_n 0, 1) := by decide +kernel
theorem dX4_isEdited_65 : decode cX4_isEdited 65 = .ok (.getfield 37, 3) := by decide +kernel
theorem dX4_isEdited_68 : decode cX4_isEdited 68 = .ok (.iconst 0, 1) := by decide +kernel
theorem dX4_isEdited_69 : decode cX4_isEdited 69 = .ok (.iaload, 1) := by decide +kernel
theorem dX4_isEdited_70 : decode cX4_isEdited 70 = .ok (.istore 6, 2) := by decide +kernel
theorem dX4_isEdited_72 : decode cX4_isEdited 72 = .ok (.aload_n 0, 1) := by decide +kernel
theorem dX4_isEdited_73 : decode cX4_isEdited 73 = .ok (.getfield 37, 3) := by decide +kernel
theorem dX4_isEdited_76 : decode cX4_isEdited 76 = .ok (.iconst 0, 1) := by decide +kernel
theorem dX4_isEdited_77 : decode cX4_isEdited 77 = .ok (.iload 5, 2) := by decide +kernel
theorem dX4_isEdited_79 : decode cX4_isEdited 79 = .ok (.iastore, 1) := by decide +kernel
theorem dX4_isEdited_80 : decode cX4_isEdited 80 = .ok (.iconst 1, 1) := by decide +kernel
theorem dX4_isEdited_81 : decode cX4_isEdited 81 = .ok (.istore 7, 2) := by decide +kernel
theorem dX4_isEdited_83 : decode cX4_isEdited 83 = .ok (.iload 7, 2) := by decide +kernel
theorem dX4_isEdited_85 : decode cX4_isEdited 85 = .ok (.iload 4, 2) := by decide +kernel
theorem dX4_isEdited_87 : decode cX4_isEdited 87 = .ok (.if_icmp .gt 95, 3) := by decide +kernel
theorem dX4_isEdited_90 : decode cX4_isEdited 90 = .ok (.lload_n 1, 1) := by decide +kernel
theorem dX4_isEdited_91 : decode cX4_isEdited 91 = .ok (.iload 5, 2) := by decide +kernel
theorem dX4_isEdited_93 : decode cX4_isEdited 93 = .ok (.iconst 1, 1) := by decide +kernel
theorem dX4_isEdited_94 : decode cX4_isEdited 94 = .ok (.isub, 1) := by decide +kernel
theorem dX4_isEdited_95 : decode cX4_isEdited 95 = .ok (.invokestatic 78, 3) := by decide +kernel
theorem dX4_isEdited_98 : decode cX4_isEdited 98 = .ok (.aload_n 0, 1) := by decide +kernel
theorem dX4_isEdited_99 : decode cX4_isEdited 99 = .ok (.getfield 33, 3) := by decide +kernel
theorem dX4_isEdited_102 : decode cX4_isEdited 102 = .ok (.iload 7, 2) := by decide +kernel
theorem dX4_isEdited_104 : decode cX4_isEdited 104 = .ok (.iconst 1, 1) := by decide +kernel
theorem dX4_isEdited_105 : decode cX4_isEdited 105 = .ok (.isub, 1) := by decide +kernel
theorem dX4_isEdited_106 : decode cX4_isEdited 106 = .ok (.invokestatic 78, 3) := by decide +kernel
theorem dX4_isEdited_109 : decode cX4_isEdited 109 = .ok (.if_icmp .ne 7, 3) := by decide +kernel
theorem dX4_isEdited_112 : decode cX4_isEdited 112 = .ok (.iconst 1, 1) := by decide +kernel
theorem dX4_isEdited_113 : decode cX4_isEdited 113 = .ok (.goto 4, 3) := by decide +kernel
theorem dX4_isEdited_116 : decode cX4_isEdited 116 = .ok (.iconst 0, 1) := by decide +kernel
theorem dX4_isEdited_117 : decode cX4_isEdited 117 = .ok (.istore 8, 2) := by decide +kernel
theorem dX4_isEdited_119 : decode cX4_isEdited 119 = .ok (.iload 6, 2) := by decide +kernel
theorem dX4_isEdited_121 : decode cX4_isEdited 121 = .ok (.iload 8, 2) := by decide +kernel
theorem dX4_isEdited_123 : decode cX4_isEdited 123 = .ok (.ifCond .eq 7, 3) := by decide +kernel
theorem dX4_isEdited_126 : decode cX4_isEdited 126 = .ok (.iconst 0, 1) := by decide +kernel
theorem dX4_isEdited_127 : decode cX4_isEdited 127 = .ok (.goto 4, 3) := by decide +kernel
theorem dX4_isEdited_130 : decode cX4_isEdited 130 = .ok (.iconst 1, 1) := by decide +kernel
theorem dX4_isEdited_131 : decode cX4_isEdited 131 = .ok (.iadd, 1) := by decide +kernel
theorem dX4_isEdited_132 : decode cX4_isEdited 132 = .ok (.aload_n 0, 1) := by decide +kernel
theorem dX4_isEdited_133 : decode cX4_isEdited 133 = .ok (.getfield 37, 3) := by decide +kernel
theorem dX4_isEdited_136 : decode cX4_isEdited 136 = .ok (.iload 7, 2) := by decide +kernel
theorem dX4_isEdited_138 : decode cX4_isEdited 138 = .ok (.iaload, 1) := by decide +kernel
theorem dX4_isEdited_139 : decode cX4_isEdited 139 = .ok (.aload_n 0, 1) := by decide +kernel
theorem dX4_isEdited_140 : decode cX4_isEdited 140 = .ok (.getfield 37, 3) := by decide +kernel
theorem dX4_isEdited_143 : decode cX4_isEdited 143 = .ok (.iload 7, 2) := by decide +kernel
theorem dX4_isEdited_145 : decode cX4_isEdited 145 = .ok (.iconst 1, 1) := by decide +kernel
theorem dX4_isEdited_146 : decode cX4_isEdited 146 = .ok (.isub, 1) := by decide +kernel
theorem dX4_isEdited_147 : decode cX4_isEdited 147 = .ok (.iaload, 1) := by decide +kernel
theorem dX4_isEdited_148 : decode cX4_isEdited 148 = .ok (.invokestatic 63, 3) := by decide +kernel
theorem dX4_isEdited_151 : decode cX4_isEdited 151 = .ok (.iconst 1, 1) := by decide +kernel
theorem dX4_isEdited_152 : decode cX4_isEdited 152 = .ok (.iadd, 1) := by decide +kernel
theorem dX4_isEdited_153 : decode cX4_isEdited 153 = .ok (.invokestatic 63, 3) := by decide +kernel
theorem dX4_isEdited_156 : decode cX4_isEdited 156 = .ok (.istore 9, 2) := by decide +kernel
theorem dX4_isEdited_158 : decode cX4_isEdited 158 = .ok (.aload_n 0, 1) := by decide +kernel
theorem dX4_isEdited_159 : decode cX4_isEdited 159 = .ok (.getfield 37, 3) := by decide +kernel
theorem dX4_isEdited_162 : decode cX4_isEdited 162 = .ok (.iload 7, 2) := by decide +kernel
theorem dX4_isEdited_164 : decode cX4_isEdited 164 = .ok (.iaload, 1) := by decide +kernel
theorem dX4_isEdited_165 : decode cX4_isEdited 165 = .ok (.istore 6, 2) := by decide +kernel
theorem dX4_isEdited_167 : decode cX4_isEdited 167 = .ok (.aload_n 0, 1) := by decide +kernel
theorem dX4_isEdited_168 : decode cX4_isEdited 168 = .ok (.getfield 37, 3) := by decide +kernel
theorem dX4_isEdited_171 : decode cX4_isEdited 171 = .ok (.iload 7, 2) := by decide +kernel
theorem dX4_isEdited_173 : decode cX4_isEdited 173 = .ok (.iload 9, 2) := by decide +kernel
theorem dX4_isEdited_175 : decode cX4_isEdited 175 = .ok (.iastore, 1) := by decide +kernel
theorem dX4_isEdited_176 : decode cX4_isEdited 176 = .ok (.iinc 7 1, 3) := by decide +kernel
theorem dX4_isEdited_179 : decode cX4_isEdited 179 = .ok (.goto (-96), 3) := by decide +kernel
theorem dX4_isEdited_182 : decode cX4_isEdited 182 = .ok (.iinc 5 1, 3) := by decide +kernel
theorem dX4_isEdited_185 : decode cX4_isEdited 185 = .ok (.goto (-127), 3) := by decide +kernel
theorem dX4_isEdited_188 : decode cX4_isEdited 188 = .ok (.aload_n 0, 1) := by decide +kernel
theorem dX4_isEdited_189 : decode cX4_isEdited 189 = .ok (.getfield 37, 3) := by decide +kernel
theorem dX4_isEdited_192 : decode cX4_isEdited 192 = .ok (.iload 4, 2) := by decide +kernel
theorem dX4_isEdited_194 : decode cX4_isEdited 194 = .ok (.iaload, 1) := by decide +kernel
theorem dX4_isEdited_195 : decode cX4_isEdited 195 = .ok (.aload_n 0, 1) := by decide +kernel
theorem dX4_isEdited_196 : decode cX4_isEdited 196 = .ok (.getfield 46, 3) := by decide +kernel
theorem dX4_isEdited_199 : decode cX4_isEdited 199 = .ok (.if_icmp .gt 7, 3) := by decide +kernel
theorem dX4_isEdited_202 : decode cX4_isEdited 202 = .ok (.iconst 1, 1) := by decide +kernel
theorem dX4_isEdited_203 : decode cX4_isEdited 203 = .ok (.goto 4, 3) := by decide +kernel
theorem dX4_isEdited_206 : decode cX4_isEdited 206 = .ok (.iconst 0, 1) := by decide +kernel
theorem dX4_isEdited_207 : decode cX4_isEdited 207 = .ok (.ireturn, 1) := by decide +kernel
theorem dX5_init_0 : decode cX5_init 0 = .ok (.aload_n 0, 1) := by decide +kernel
theorem dX5_init_1 : decode cX5_init 1 = .ok (.invokespecial 3, 3) := by decide +kernel
theorem dX5_init_4 : decode cX5_init 4 = .ok (.aload_n 0, 1) := by decide +kernel
theorem dX5_init_5 : decode cX5_init 5 = .ok (.iconst 4, 1) := by decide +kernel
theorem dX5_init_6 : decode cX5_init 6 = .ok (.newarray .byte, 2) := by decide +kernel
theorem dX5_init_8 : decode cX5_init 8 = .ok (.putfield 9, 3) := by decide +kernel
theorem dX5_init_11 : decode cX5_init 11 = .ok (.aload_n 0, 1) := by decide +kernel
theorem dX5_init_12 : decode cX5_init 12 = .ok (.iconst 0, 1) := by decide +kernel
theorem dX5_init_13 : decode cX5_init 13 = .ok (.putfield 15, 3) := by decide +kernel
theorem dX5_init_16 : decode cX5_init 16 = .ok (.aload_n 0, 1) := by decide +kernel
theorem dX5_init_17 : decode cX5_init 17 = .ok (.iconst 0, 1) := by decide +kernel
theorem dX5_init_18 : decode cX5_init 18 = .ok (.putfield 19, 3) := by decide +kernel
theorem dX5_init_21 : decode cX5_init 21 = .ok (.aload_n 0, 1) := by decide +kernel
theorem dX5_init_22 : decode cX5_init 22 = .ok (.iconst (-1), 1) := by decide +kernel
theorem dX5_init_23 : decode cX5_init 23 = .ok (.putfield 22, 3) := by decide +kernel
theorem dX5_init_26 : decode cX5_init 26 = .ok (.aload_n 0, 1) := by decide +kernel
theorem dX5_init_27 : decode cX5_init 27 = .ok (.iconst 4, 1) := by decide +kernel
theorem dX5_init_28 : decode cX5_init 28 = .ok (.newarray .int, 2) := by decide +kernel
theorem dX5_init_30 : decode cX5_init 30 = .ok (.putfield 25, 3) := by decide +kernel
theorem dX5_init_33 : decode cX5_init 33 = .ok (.aload_n 0, 1) := by decide +kernel
theorem dX5_init_34 : decode cX5_init 34 = .ok (.iconst 0, 1) := by decide +kernel
theorem dX5_init_35 : decode cX5_init 35 = .ok (.putfield 29, 3) := by decide +kernel
theorem dX5_init_38 : decode cX5_init 38 = .ok (.aload_n 0, 1) := by decide +kernel
theorem dX5_init_39 : decode cX5_init 39 = .ok (.iconst 0, 1) := by decide +kernel
theorem dX5_init_40 : decode cX5_init 40 = .ok (.putfield 32, 3) := by decide +kernel
theorem dX5_init_43 : decode cX5_init 43 = .ok (.aload_n 0, 1) := by decide +kernel
theorem dX5_init_44 : decode cX5_init 44 = .ok (.iconst 0, 1) := by decide +kernel
theorem dX5_init_45 : decode cX5_init 45 = .ok (.putfield 35, 3) := by decide +kernel
theorem dX5_init_48 : decode cX5_init 48 = .ok (.aload_n 0, 1) := by decide +kernel
theorem dX5_init_49 : decode cX5_init 49 = .ok (.iconst 0, 1) := by decide +kernel
theorem dX5_init_50 : decode cX5_init 50 = .ok (.putfield 38, 3) := by decide +kernel
theorem dX5_init_53 : decode cX5_init 53 = .ok (.aload_n 0, 1) := by decide +kernel
theorem dX5_init_54 : decode cX5_init 54 = .ok (.lload_n 1, 1) := by decide +kernel
theorem dX5_init_55 : decode cX5_init 55 = .ok (.putfield 41, 3) := by decide +kernel
theorem dX5_init_58 : decode cX5_init 58 = .ok (.return_, 1) := by decide +kernel
theorem dX5_putDocument_0 : decode cX5_putDocument 0 = .ok (.aload_n 0, 1) := by decide +kernel
theorem dX5_putDocument_1 : decode cX5_putDocument 1 = .ok (.iload_n 1, 1) := by decide +kernel
theorem dX5_putDocument_2 : decode cX5_putDocument 2 = .ok (.aload_n 0, 1) := by decide +kernel
theorem dX5_putDocument_3 : decode cX5_putDocument 3 = .ok (.getfield 22, 3) := by decide +kernel
theorem dX5_putDocument_6 : decode cX5_putDocument 6 = .ok (.isub, 1) := by decide +kernel
theorem dX5_putDocument_7 : decode cX5_putDocument 7 = .ok (.iconst 1, 1) := by decide +kernel
theorem dX5_putDocument_8 : decode cX5_putDocument 8 = .ok (.isub, 1) := by decide +kernel
theorem dX5_putDocument_9 : decode cX5_putDocument 9 = .ok (.invokevirtual 51, 3) := by decide +kernel
theorem dX5_putDocument_12 : decode cX5_putDocument 12 = .ok (.aload_n 0, 1) := by decide +kernel
theorem dX5_putDocument_13 : decode cX5_putDocument 13 = .ok (.iload_n 2, 1) := by decide +kernel
theorem dX5_putDocument_14 : decode cX5_putDocument 14 = .ok (.invokestatic 55, 3) := by decide +kernel
theorem dX5_putDocument_17 : decode cX5_putDocument 17 = .ok (.iconst 1, 1) := by decide +kernel
theorem dX5_putDocument_18 : decode cX5_putDocument 18 = .ok (.isub, 1) := by decide +kernel
theorem dX5_putDocument_19 : decode cX5_putDocument 19 = .ok (.invokevirtual 51, 3) := by decide +kernel
theorem dX5_putDocument_22 : decode cX5_putDocument 22 = .ok (.iconst (-1), 1) := by decide +kernel
theorem dX5_putDocument_23 : decode cX5_putDocument 23 = .ok (.istore_n 3, 1) := by decide +kernel
theorem dX5_putDocument_24 : decode cX5_putDocument 24 = .ok (.iconst 0, 1) := by decide +kernel
theorem dX5_putDocument_25 : decode cX5_putDocument 25 = .ok (.istore 4, 2) := by decide +kernel
theorem dX5_putDocument_27 : decode cX5_putDocument 27 = .ok (.iload 4, 2) := by decide +kernel
theorem dX5_putDocument_29 : decode cX5_putDocument 29 = .ok (.bipush 20, 2) := by decide +kernel
theorem dX5_putDocument_31 : decode cX5_putDocument 31 = .ok (.if_icmp .ge 31, 3) := by decide +kernel
theorem dX5_putDocument_34 : decode cX5_putDocument 34 = .ok (.iload_n 2, 1) := by decide +kernel
theorem dX5_putDocument_35 : decode cX5_putDocument 35 = .ok (.iload 4, 2) := by decide +kernel
theorem dX5_putDocument_37 : decode cX5_putDocument 37 = .ok (.ishr, 1) := by decide +kernel
theorem dX5_putDocument_38 : decode cX5_putDocument 38 = .ok (.iconst 1, 1) := by decide +kernel
theorem dX5_putDocument_39 : decode cX5_putDocument 39 = .ok (.iand, 1) := by decide +kernel
theorem dX5_putDocument_40 : decode cX5_putDocument 40 = .ok (.ifCond .eq 16, 3) := by decide +kernel
theorem dX5_putDocument_43 : decode cX5_putDocument 43 = .ok (.aload_n 0, 1) := by decide +kernel
theorem dX5_putDocument_44 : decode cX5_putDocument 44 = .ok (.iload 4, 2) := by decide +kernel
theorem dX5_putDocument_46 : decode cX5_putDocument 46 = .ok (.iload_n 3, 1) := by decide +kernel
theorem dX5_putDocument_47 : decode cX5_putDocument 47 = .ok (.isub, 1) := by decide +kernel
theorem dX5_putDocument_48 : decode cX5_putDocument 48 = .ok (.iconst 1, 1) := by decide +kernel
theorem dX5_putDocument_49 : decode cX5_putDocument 49 = .ok (.isub, 1) := by decide +kernel
theorem dX5_putDocument_50 : decode cX5_putDocument 50 = .ok (.invokevirtual 51, 3) := by decide +kernel
theorem dX5_putDocument_53 : decode cX5_putDocument 53 = .ok (.iload 4, 2) := by decide +kernel
theorem dX5_putDocument_55 : decode cX5_putDocument 55 = .ok (.istore_n 3, 1) := by decide +kernel
theorem dX5_putDocument_56 : decode cX5_putDocument 56 = .ok (.iinc 4 1, 3) := by decide +kernel
theorem dX5_putDocument_59 : decode cX5_putDocument 59 = .ok (.goto (-32), 3) := by decide +kernel
theorem dX5_putDocument_62 : decode cX5_putDocument 62 = .ok (.aload_n 0, 1) := by decide +kernel
theorem dX5_putDocument_63 : decode cX5_putDocument 63 = .ok (.iload_n 1, 1) := by decide +kernel
theorem dX5_putDocument_64 : decode cX5_putDocument 64 = .ok (.putfield 22, 3) := by decide +kernel
theorem dX5_putDocument_67 : decode cX5_putDocument 67 = .ok (.aload_n 0, 1) := by decide +kernel
theorem dX5_putDocument_68 : decode cX5_putDocument 68 = .ok (.dup, 1) := by decide +kernel
theorem dX5_putDocument_69 : decode cX5_putDocument 69 = .ok (.getfield 19, 3) := by decide +kernel
theorem dX5_putDocument_72 : decode cX5_putDocument 72 = .ok (.iconst 1, 1) := by decide +kernel
theorem dX5_putDocument_73 : decode cX5_putDocument 73 = .ok (.iadd, 1) := by decide +kernel
theorem dX5_putDocument_74 : decode cX5_putDocument 74 = .ok (.putfield 19, 3) := by decide +kernel
theorem dX5_putDocument_77 : decode cX5_putDocument 77 = .ok (.return_, 1) := by decide +kernel
theorem dX5_putNumber_0 : decode cX5_putNumber 0 = .ok (.aload_n 0, 1) := by decide +kernel
theorem dX5_putNumber_1 : decode cX5_putNumber 1 = .ok (.getfield 29, 3) := by decide +kernel
theorem dX5_putNumber_4 : decode cX5_putNumber 4 = .ok (.aload_n 0, 1) := by decide +kernel
theorem dX5_putNumber_5 : decode cX5_putNumber 5 = .ok (.getfield 25, 3) := by decide +kernel
theorem dX5_putNumber_8 : decode cX5_putNumber 8 = .ok (.arraylength, 1) := by decide +kernel
theorem dX5_putNumber_9 : decode cX5_putNumber 9 = .ok (.if_icmp .ge 23, 3) := by decide +kernel
theorem dX5_putNumber_12 : decode cX5_putNumber 12 = .ok (.aload_n 0, 1) := by decide +kernel
theorem dX5_putNumber_13 : decode cX5_putNumber 13 = .ok (.getfield 25, 3) := by decide +kernel
theorem dX5_putNumber_16 : decode cX5_putNumber 16 = .ok (.aload_n 0, 1) := by decide +kernel
theorem dX5_putNumber_17 : decode cX5_putNumber 17 = .ok (.getfield 29, 3) := by decide +kernel
theorem dX5_putNumber_20 : decode cX5_putNumber 20 = .ok (.iload_n 1, 1) := by decide +kernel
theorem dX5_putNumber_21 : decode cX5_putNumber 21 = .ok (.iastore, 1) := by decide +kernel
theorem dX5_putNumber_22 : decode cX5_putNumber 22 = .ok (.aload_n 0, 1) := by decide +kernel
theorem dX5_putNumber_23 : decode cX5_putNumber 23 = .ok (.dup, 1) := by decide +kernel
theorem dX5_putNumber_24 : decode cX5_putNumber 24 = .ok (.getfield 29, 3) := by decide +kernel
theorem dX5_putNumber_27 : decode cX5_putNumber 27 = .ok (.iconst 1, 1) := by decide +kernel
theorem dX5_putNumber_28 : decode cX5_putNumber 28 = .ok (.iadd, 1) := by decide +kernel
theorem dX5_putNumber_29 : decode cX5_putNumber 29 = .ok (.putfield 29, 3) := by decide +kernel
theorem dX5_putNumber_32 : decode cX5_putNumber 32 = .ok (.aload_n 0, 1) := by decide +kernel
theorem dX5_putNumber_33 : decode cX5_putNumber 33 = .ok (.getfield 29, 3) := by decide +kernel
theorem dX5_putNumber_36 : decode cX5_putNumber 36 = .ok (.iconst 4, 1) := by decide +kernel
theorem dX5_putNumber_37 : decode cX5_putNumber 37 = .ok (.if_icmp .ne 7, 3) := by decide +kernel
theorem dX5_putNumber_40 : decode cX5_putNumber 40 = .ok (.aload_n 0, 1) := by decide +kernel
theorem dX5_putNumber_41 : decode cX5_putNumber 41 = .ok (.invokevirtual 60, 3) := by decide +kernel
theorem dX5_putNumber_44 : decode cX5_putNumber 44 = .ok (.return_, 1) := by decide +kernel
theorem dX5_close_0 : decode cX5_close 0 = .ok (.aload_n 0, 1) := by decide +kernel
theorem dX5_close_1 : decode cX5_close 1 = .ok (.getfield 29, 3) := by decide +kernel
theorem dX5_close_4 : decode cX5_close 4 = .ok (.ifCond .ne 4, 3) := by decide +kernel
theorem dX5_close_7 : decode cX5_close 7 = .ok (.return_, 1) := by decide +kernel
theorem dX5_close_8 : decode cX5_close 8 = .ok (.iconst 0, 1) := by decide +kernel
theorem dX5_close_9 : decode cX5_close 9 = .ok (.istore_n 1, 1) := by decide +kernel
theorem dX5_close_10 : decode cX5_close 10 = .ok (.iconst 0, 1) := by decide +kernel
theorem dX5_close_11 : decode cX5_close 11 = .ok (.istore_n 2, 1) := by decide +kernel
theorem dX5_close_12 : decode cX5_close 12 = .ok (.iload_n 2, 1) := by decide +kernel
theorem dX5_close_13 : decode cX5_close 13 = .ok (.aload_n 0, 1) := by decide +kernel
theorem dX5_close_14 : decode cX5_close 14 = .ok (.getfield 29, 3) := by decide +kernel
theorem dX5_close_17 : decode cX5_close 17 = .ok (.if_icmp .ge 27, 3) := by decide +kernel
theorem dX5_close_20 : decode cX5_close 20 = .ok (.iload_n 2, 1) := by decide +kernel
theorem dX5_close_21 : decode cX5_close 21 = .ok (.aload_n 0, 1) := by decide +kernel
theorem dX5_close_22 : decode cX5_close 22 = .ok (.getfield 25, 3) := by decide +kernel
theorem dX5_close_25 : decode cX5_close 25 = .ok (.arraylength, 1) := by decide +kernel
theorem dX5_close_26 : decode cX5_close 26 = .ok (.if_icmp .ge 18, 3) := by decide +kernel
theorem dX5_close_29 : decode cX5_close 29 = .ok (.iload_n 1, 1) := by decide +kernel
theorem dX5_close_30 : decode cX5_close 30 = .ok (.aload_n 0, 1) := by decide +kernel
theorem dX5_close_31 : decode cX5_close 31 = .ok (.getfield 25, 3) := by decide +kernel
theorem dX5_close_34 : decode cX5_close 34 = .ok (.iload_n 2, 1) := by decide +kernel
theorem dX5_close_35 : decode cX5_close 35 = .ok (.iaload, 1) := by decide +kernel
theorem dX5_close_36 : decode cX5_close 36 = .ok (.ior, 1) := by decide +kernel
theorem dX5_close_37 : decode cX5_close 37 = .ok (.istore_n 1, 1) := by decide +kernel
theorem dX5_close_38 : decode cX5_close 38 = .ok (.iinc 2 1, 3) := by decide +kernel
theorem dX5_close_41 : decode cX5_close 41 = .ok (.goto (-29), 3) := by decide +kernel
theorem dX5_close_44 : decode cX5_close 44 = .ok (.iconst 0, 1) := by decide +kernel
theorem dX5_close_45 : decode cX5_close 45 = .ok (.istore_n 2, 1) := by decide +kernel
theorem dX5_close_46 : decode cX5_close 46 = .ok (.iload_n 2, 1) := by decide +kernel
theorem dX5_close_47 : decode cX5_close 47 = .ok (.bipush 15, 2) := by decide +kernel
theorem dX5_close_49 : decode cX5_close 49 = .ok (.if_icmp .ge 15, 3) := by decide +kernel
theorem dX5_close_52 : decode cX5_close 52 = .ok (.iload_n 1, 1) := by decide +kernel
theorem dX5_close_53 : decode cX5_close 53 = .ok (.iload_n 2, 1) := by decide +kernel
theorem dX5_close_54 : decode cX5_close 54 = .ok (.ishr, 1) := by decide +kernel
theorem dX5_close_55 : decode cX5_close 55 = .ok (.ifCond .eq 9, 3) := by decide +kernel
theorem dX5_close_58 : decode cX5_close 58 = .ok (.iinc 2 1, 3) := by decide +kernel
theorem dX5_close_61 : decode cX5_close 61 = .ok (.goto (-15), 3) := by decide +kernel
theorem dX5_close_64 : decode cX5_close 64 = .ok (.aload_n 0, 1) := by decide +kernel
theorem dX5_close_65 : decode cX5_close 65 = .ok (.iload_n 2, 1) := by decide +kernel
theorem dX5_close_66 : decode cX5_close 66 = .ok (.iconst 4, 1) := by decide +kernel
theorem dX5_close_67 : decode cX5_close 67 = .ok (.invokevirtual 63, 3) := by decide +kernel
theorem dX5_close_70 : decode cX5_close 70 = .ok (.iconst 0, 1) := by decide +kernel
theorem dX5_close_71 : decode cX5_close 71 = .ok (.istore_n 3, 1) := by decide +kernel
theorem dX5_close_72 : decode cX5_close 72 = .ok (.iload_n 3, 1) := by decide +kernel
theorem dX5_close_73 : decode cX5_close 73 = .ok (.aload_n 0, 1) := by decide +kernel
theorem dX5_close_74 : decode cX5_close 74 = .ok (.getfield 29, 3) := by decide +kernel
theorem dX5_close_77 : decode cX5_close 77 = .ok (.if_icmp .ge 29, 3) := by decide +kernel
theorem dX5_close_80 : decode cX5_close 80 = .ok (.iload_n 3, 1) := by decide +kernel
theorem dX5_close_81 : decode cX5_close 81 = .ok (.aload_n 0, 1) := by decide +kernel
theorem dX5_close_82 : decode cX5_close 82 = .ok (.getfield 25, 3) := by decide +kernel
theorem dX5_close_85 : decode cX5_close 85 = .ok (.arraylength, 1) := by decide +kernel
theorem dX5_close_86 : decode cX5_close 86 = .ok (.if_icmp .ge 20, 3) := by decide +kernel
theorem dX5_close_89 : decode cX5_close 89 = .ok (.aload_n 0, 1) := by decide +kernel
theorem dX5_close_90 : decode cX5_close 90 = .ok (.aload_n 0, 1) := by decide +kernel
theorem dX5_close_91 : decode cX5_close 91 = .ok (.getfield 25, 3) := by decide +kernel
theorem dX5_close_94 : decode cX5_close 94 = .ok (.iload_n 3, 1) := by decide +kernel
theorem dX5_close_95 : decode cX5_close 95 = .ok (.iaload, 1) := by decide +kernel
theorem dX5_close_96 : decode cX5_close 96 = .ok (.iload_n 2, 1) := by decide +kernel
theorem dX5_close_97 : decode cX5_close 97 = .ok (.invokevirtual 63, 3) := by decide +kernel
theorem dX5_close_100 : decode cX5_close 100 = .ok (.iinc 3 1, 3) := by decide +kernel
theorem dX5_close_103 : decode cX5_close 103 = .ok (.goto (-31), 3) := by decide +kernel
theorem dX5_close_106 : decode cX5_close 106 = .ok (.aload_n 0, 1) := by decide +kernel
theorem dX5_close_107 : decode cX5_close 107 = .ok (.iconst 0, 1) := by decide +kernel
theorem dX5_close_108 : decode cX5_close 108 = .ok (.putfield 29, 3) := by decide +kernel
theorem dX5_close_111 : decode cX5_close 111 = .ok (.return_, 1) := by decide +kernel
theorem dX5_putBits_0 : decode cX5_putBits 0 = .ok (.iload_n 2, 1) := by decide +kernel
theorem dX5_putBits_1 : decode cX5_putBits 1 = .ok (.iconst 1, 1) := by decide +kernel
theorem dX5_putBits_2 : decode cX5_putBits 2 = .ok (.isub, 1) := by decide +kernel
theorem dX5_putBits_3 : decode cX5_putBits 3 = .ok (.istore_n 3, 1) := by decide +kernel
theorem dX5_putBits_4 : decode cX5_putBits 4 = .ok (.iload_n 3, 1) := by decide +kernel
theorem dX5_putBits_5 : decode cX5_putBits 5 = .ok (.ifCond .lt 85, 3) := by decide +kernel
theorem dX5_putBits_8 : decode cX5_putBits 8 = .ok (.aload_n 0, 1) := by decide +kernel
theorem dX5_putBits_9 : decode cX5_putBits 9 = .ok (.getfield 15, 3) := by decide +kernel
theorem dX5_putBits_12 : decode cX5_putBits 12 = .ok (.iconst 3, 1) := by decide +kernel
theorem dX5_putBits_13 : decode cX5_putBits 13 = .ok (.ishr, 1) := by decide +kernel
theorem dX5_putBits_14 : decode cX5_putBits 14 = .ok (.istore 4, 2) := by decide +kernel
theorem dX5_putBits_16 : decode cX5_putBits 16 = .ok (.iload 4, 2) := by decide +kernel
theorem dX5_putBits_18 : decode cX5_putBits 18 = .ok (.aload_n 0, 1) := by decide +kernel
theorem dX5_putBits_19 : decode cX5_putBits 19 = .ok (.getfield 9, 3) := by decide +kernel
theorem dX5_putBits_22 : decode cX5_putBits 22 = .ok (.arraylength, 1) := by decide +kernel
theorem dX5_putBits_23 : decode cX5_putBits 23 = .ok (.if_icmp .lt 20, 3) := by decide +kernel
theorem dX5_putBits_26 : decode cX5_putBits 26 = .ok (.aload_n 0, 1) := by decide +kernel
theorem dX5_putBits_27 : decode cX5_putBits 27 = .ok (.aload_n 0, 1) := by decide +kernel
theorem dX5_putBits_28 : decode cX5_putBits 28 = .ok (.getfield 9, 3) := by decide +kernel
theorem dX5_putBits_31 : decode cX5_putBits 31 = .ok (.iload 4, 2) := by decide +kernel
theorem dX5_putBits_33 : decode cX5_putBits 33 = .ok (.iconst 2, 1) := by decide +kernel
theorem dX5_putBits_34 : decode cX5_putBits 34 = .ok (.imul, 1) := by decide +kernel
theorem dX5_putBits_35 : decode cX5_putBits 35 = .ok (.iconst 4, 1) := by decide +kernel
theorem dX5_putBits_36 : decode cX5_putBits 36 = .ok (.iadd, 1) := by decide +kernel
theorem dX5_putBits_37 : decode cX5_putBits 37 = .ok (.invokestatic 67, 3) := by decide +kernel
theorem dX5_putBits_40 : decode cX5_putBits 40 = .ok (.putfield 9, 3) := by decide +kernel
theorem dX5_putBits_43 : decode cX5_putBits 43 = .ok (.iload_n 1, 1) := by decide +kernel
theorem dX5_putBits_44 : decode cX5_putBits 44 = .ok (.iload_n 3, 1) := by decide +kernel
theorem dX5_putBits_45 : decode cX5_putBits 45 = .ok (.ishr, 1) := by decide +kernel
theorem dX5_putBits_46 : decode cX5_putBits 46 = .ok (.iconst 1, 1) := by decide +kernel
theorem dX5_putBits_47 : decode cX5_putBits 47 = .ok (.iand, 1) := by decide +kernel
theorem dX5_putBits_48 : decode cX5_putBits 48 = .ok (.ifCond .eq 26, 3) := by decide +kernel
theorem dX5_putBits_51 : decode cX5_putBits 51 = .ok (.aload_n 0, 1) := by decide +kernel
theorem dX5_putBits_52 : decode cX5_putBits 52 = .ok (.getfield 9, 3) := by decide +kernel
theorem dX5_putBits_55 : decode cX5_putBits 55 = .ok (.iload 4, 2) := by decide +kernel
theorem dX5_putBits_57 : decode cX5_putBits 57 = .ok (.dup2, 1) := by decide +kernel
theorem dX5_putBits_58 : decode cX5_putBits 58 = .ok (.baload, 1) := by decide +kernel
theorem dX5_putBits_59 : decode cX5_putBits 59 = .ok (.sipush 128, 3) := by decide +kernel
theorem dX5_putBits_62 : decode cX5_putBits 62 = .ok (.aload_n 0, 1) := by decide +kernel
theorem dX5_putBits_63 : decode cX5_putBits 63 = .ok (.getfield 15, 3) := by decide +kernel
theorem dX5_putBits_66 : decode cX5_putBits 66 = .ok (.bipush 7, 2) := by decide +kernel
theorem dX5_putBits_68 : decode cX5_putBits 68 = .ok (.iand, 1) := by decide +kernel
theorem dX5_putBits_69 : decode cX5_putBits 69 = .ok (.ishr, 1) := by decide +kernel
theorem dX5_putBits_70 : decode cX5_putBits 70 = .ok (.i2b, 1) := by decide +kernel
theorem dX5_putBits_71 : decode cX5_putBits 71 = .ok (.ior, 1) := by decide +kernel
theorem dX5_putBits_72 : decode cX5_putBits 72 = .ok (.i2b, 1) := by decide +kernel
theorem dX5_putBits_73 : decode cX5_putBits 73 = .ok (.bastore, 1) := by decide +kernel
theorem dX5_putBits_74 : decode cX5_putBits 74 = .ok (.aload_n 0, 1) := by decide +kernel
theorem dX5_putBits_75 : decode cX5_putBits 75 = .ok (.dup, 1) := by decide +kernel
theorem dX5_putBits_76 : decode cX5_putBits 76 = .ok (.getfield 15, 3) := by decide +kernel
theorem dX5_putBits_79 : decode cX5_putBits 79 = .ok (.iconst 1, 1) := by decide +kernel
theorem dX5_putBits_80 : decode cX5_putBits 80 = .ok (.iadd, 1) := by decide +kernel
theorem dX5_putBits_81 : decode cX5_putBits 81 = .ok (.putfield 15, 3) := by decide +kernel
theorem dX5_putBits_84 : decode cX5_putBits 84 = .ok (.iinc 3 (-1), 3) := by decide +kernel
theorem dX5_putBits_87 : decode cX5_putBits 87 = .ok (.goto (-83), 3) := by decide +kernel
theorem dX5_putBits_90 : decode cX5_putBits 90 = .ok (.return_, 1) := by decide +kernel
theorem dX5_spread_0 : decode cX5_spread 0 = .ok (.aload_n 0, 1) := by decide +kernel
theorem dX5_spread_1 : decode cX5_spread 1 = .ok (.iconst 0, 1) := by decide +kernel
theorem dX5_spread_2 : decode cX5_spread 2 = .ok (.putfield 32, 3) := by decide +kernel
theorem dX5_spread_5 : decode cX5_spread 5 = .ok (.aload_n 0, 1) := by decide +kernel
theorem dX5_spread_6 : decode cX5_spread 6 = .ok (.iconst 0, 1) := by decide +kernel
theorem dX5_spread_7 : decode cX5_spread 7 = .ok (.putfield 35, 3) := by decide +kernel
theorem dX5_spread_10 : decode cX5_spread 10 = .ok (.iconst (-1), 1) := by decide +kernel
theorem dX5_spread_11 : decode cX5_spread 11 = .ok (.istore_n 2, 1) := by decide +kernel
theorem dX5_spread_12 : decode cX5_spread 12 = .ok (.iconst 0, 1) := by decide +kernel
theorem dX5_spread_13 : decode cX5_spread 13 = .ok (.istore_n 3, 1) := by decide +kernel
theorem dX5_spread_14 : decode cX5_spread 14 = .ok (.iload_n 3, 1) := by decide +kernel
theorem dX5_spread_15 : decode cX5_spread 15 = .ok (.aload_n 0, 1) := by decide +kernel
theorem dX5_spread_16 : decode cX5_spread 16 = .ok (.getfield 19, 3) := by decide +kernel
theorem dX5_spread_19 : decode cX5_spread 19 = .ok (.if_icmp .ge 86, 3) := by decide +kernel
theorem dX5_spread_22 : decode cX5_spread 22 = .ok (.iload_n 2, 1) := by decide +kernel
theorem dX5_spread_23 : decode cX5_spread 23 = .ok (.aload_n 0, 1) := by decide +kernel
theorem dX5_spread_24 : decode cX5_spread 24 = .ok (.invokevirtual 73, 3) := by decide +kernel
theorem dX5_spread_27 : decode cX5_spread 27 = .ok (.iconst 1, 1) := by decide +kernel
theorem dX5_spread_28 : decode cX5_spread 28 = .ok (.iadd, 1) := by decide +kernel
theorem dX5_spread_29 : decode cX5_spread 29 = .ok (.iadd, 1) := by decide +kernel
theorem dX5_spread_30 : decode cX5_spread 30 = .ok (.istore_n 2, 1) := by decide +kernel
theorem dX5_spread_31 : decode cX5_spread 31 = .ok (.aload_n 0, 1) := by decide +kernel
theorem dX5_spread_32 : decode cX5_spread 32 = .ok (.invokevirtual 73, 3) := by decide +kernel
theorem dX5_spread_35 : decode cX5_spread 35 = .ok (.iconst 1, 1) := by decide +kernel
theorem dX5_spread_36 : decode cX5_spread 36 = .ok (.iadd, 1) := by decide +kernel
theorem dX5_spread_37 : decode cX5_spread 37 = .ok (.istore 4, 2) := by decide +kernel
theorem dX5_spread_39 : decode cX5_spread 39 = .ok (.iconst (-1), 1) := by decide +kernel
theorem dX5_spread_40 : decode cX5_spread 40 = .ok (.istore 5, 2) := by decide +kernel
theorem dX5_spread_42 : decode cX5_spread 42 = .ok (.iconst 0, 1) := by decide +kernel
theorem dX5_spread_43 : decode cX5_spread 43 = .ok (.istore 6, 2) := by decide +kernel
theorem dX5_spread_45 : decode cX5_spread 45 = .ok (.iconst 0, 1) := by decide +kernel
theorem dX5_spread_46 : decode cX5_spread 46 = .ok (.istore 7, 2) := by decide +kernel
theorem dX5_spread_48 : decode cX5_spread 48 = .ok (.iload 7, 2) := by decide +kernel
theorem dX5_spread_50 : decode cX5_spread 50 = .ok (.iload 4, 2) := by decide +kernel
theorem dX5_spread_52 : decode cX5_spread 52 = .ok (.if_icmp .ge 29, 3) := by decide +kernel
theorem dX5_spread_55 : decode cX5_spread 55 = .ok (.iload 5, 2) := by decide +kernel
theorem dX5_spread_57 : decode cX5_spread 57 = .ok (.aload_n 0, 1) := by decide +kernel
theorem dX5_spread_58 : decode cX5_spread 58 = .ok (.invokevirtual 73, 3) := by decide +kernel
theorem dX5_spread_61 : decode cX5_spread 61 = .ok (.iconst 1, 1) := by decide +kernel
theorem dX5_spread_62 : decode cX5_spread 62 = .ok (.iadd, 1) := by decide +kernel
theorem dX5_spread_63 : decode cX5_spread 63 = .ok (.iadd, 1) := by decide +kernel
theorem dX5_spread_64 : decode cX5_spread 64 = .ok (.istore 5, 2) := by decide +kernel
theorem dX5_spread_66 : decode cX5_spread 66 = .ok (.iload 6, 2) := by decide +kernel
theorem dX5_spread_68 : decode cX5_spread 68 = .ok (.iconst 1, 1) := by decide +kernel
theorem dX5_spread_69 : decode cX5_spread 69 = .ok (.iload 5, 2) := by decide +kernel
theorem dX5_spread_71 : decode cX5_spread 71 = .ok (.ishl, 1) := by decide +kernel
theorem dX5_spread_72 : decode cX5_spread 72 = .ok (.ior, 1) := by decide +kernel
theorem dX5_spread_73 : decode cX5_spread 73 = .ok (.istore 6, 2) := by decide +kernel
theorem dX5_spread_75 : decode cX5_spread 75 = .ok (.iinc 7 1, 3) := by decide +kernel
theorem dX5_spread_78 : decode cX5_spread 78 = .ok (.goto (-30), 3) := by decide +kernel
theorem dX5_spread_81 : decode cX5_spread 81 = .ok (.iload_n 2, 1) := by decide +kernel
theorem dX5_spread_82 : decode cX5_spread 82 = .ok (.ifCond .lt 17, 3) := by decide +kernel
theorem dX5_spread_85 : decode cX5_spread 85 = .ok (.iload_n 2, 1) := by decide +kernel
theorem dX5_spread_86 : decode cX5_spread 86 = .ok (.aload_n 1, 1) := by decide +kernel
theorem dX5_spread_87 : decode cX5_spread 87 = .ok (.arraylength, 1) := by decide +kernel
theorem dX5_spread_88 : decode cX5_spread 88 = .ok (.if_icmp .ge 11, 3) := by decide +kernel
theorem dX5_spread_91 : decode cX5_spread 91 = .ok (.aload_n 1, 1) := by decide +kernel
theorem dX5_spread_92 : decode cX5_spread 92 = .ok (.iload_n 2, 1) := by decide +kernel
theorem dX5_spread_93 : decode cX5_spread 93 = .ok (.dup2, 1) := by decide +kernel
theorem dX5_spread_94 : decode cX5_spread 94 = .ok (.iaload, 1) := by decide +kernel
theorem dX5_spread_95 : decode cX5_spread 95 = .ok (.iload 6, 2) := by decide +kernel
theorem dX5_spread_97 : decode cX5_spread 97 = .ok (.ior, 1) := by decide +kernel
theorem dX5_spread_98 : decode cX5_spread 98 = .ok (.iastore, 1) := by decide +kernel
theorem dX5_spread_99 : decode cX5_spread 99 = .ok (.iinc 3 1, 3) := by decide +kernel
theorem dX5_spread_102 : decode cX5_spread 102 = .ok (.goto (-88), 3) := by decide +kernel
theorem dX5_spread_105 : decode cX5_spread 105 = .ok (.return_, 1) := by decide +kernel
theorem dX5_nextNumber_0 : decode cX5_nextNumber 0 = .ok (.aload_n 0, 1) := by decide +kernel
theorem dX5_nextNumber_1 : decode cX5_nextNumber 1 = .ok (.getfield 35, 3) := by decide +kernel
theorem dX5_nextNumber_4 : decode cX5_nextNumber 4 = .ok (.iconst 4, 1) := by decide +kernel
theorem dX5_nextNumber_5 : decode cX5_nextNumber 5 = .ok (.irem, 1) := by decide +kernel
theorem dX5_nextNumber_6 : decode cX5_nextNumber 6 = .ok (.ifCond .ne 12, 3) := by decide +kernel
theorem dX5_nextNumber_9 : decode cX5_nextNumber 9 = .ok (.aload_n 0, 1) := by decide +kernel
theorem dX5_nextNumber_10 : decode cX5_nextNumber 10 = .ok (.aload_n 0, 1) := by decide +kernel
theorem dX5_nextNumber_11 : decode cX5_nextNumber 11 = .ok (.iconst 4, 1) := by decide +kernel
theorem dX5_nextNumber_12 : decode cX5_nextNumber 12 = .ok (.invokevirtual 77, 3) := by decide +kernel
theorem dX5_nextNumber_15 : decode cX5_nextNumber 15 = .ok (.putfield 38, 3) := by decide +kernel
theorem dX5_nextNumber_18 : decode cX5_nextNumber 18 = .ok (.aload_n 0, 1) := by decide +kernel
theorem dX5_nextNumber_19 : decode cX5_nextNumber 19 = .ok (.dup, 1) := by decide +kernel
theorem dX5_nextNumber_20 : decode cX5_nextNumber 20 = .ok (.getfield 35, 3) := by decide +kernel
theorem dX5_nextNumber_23 : decode cX5_nextNumber 23 = .ok (.iconst 1, 1) := by decide +kernel
theorem dX5_nextNumber_24 : decode cX5_nextNumber 24 = .ok (.iadd, 1) := by decide +kernel
theorem dX5_nextNumber_25 : decode cX5_nextNumber 25 = .ok (.putfield 35, 3) := by decide +kernel
theorem dX5_nextNumber_28 : decode cX5_nextNumber 28 = .ok (.aload_n 0, 1) := by decide +kernel
theorem dX5_nextNumber_29 : decode cX5_nextNumber 29 = .ok (.aload_n 0, 1) := by decide +kernel
theorem dX5_nextNumber_30 : decode cX5_nextNumber 30 = .ok (.getfield 38, 3) := by decide +kernel
theorem dX5_nextNumber_33 : decode cX5_nextNumber 33 = .ok (.invokevirtual 77, 3) := by decide +kernel
theorem dX5_nextNumber_36 : decode cX5_nextNumber 36 = .ok (.ireturn, 1) := by decide +kernel
theorem dX5_nextBits_0 : decode cX5_nextBits 0 = .ok (.iconst 0, 1) := by decide +kernel
theorem dX5_nextBits_1 : decode cX5_nextBits 1 = .ok (.istore_n 2, 1) := by decide +kernel
theorem dX5_nextBits_2 : decode cX5_nextBits 2 = .ok (.iconst 0, 1) := by decide +kernel
theorem dX5_nextBits_3 : decode cX5_nextBits 3 = .ok (.istore_n 3, 1) := by decide +kernel
theorem dX5_nextBits_4 : decode cX5_nextBits 4 = .ok (.iload_n 3, 1) := by decide +kernel
theorem dX5_nextBits_5 : decode cX5_nextBits 5 = .ok (.iload_n 1, 1) := by decide +kernel
theorem dX5_nextBits_6 : decode cX5_nextBits 6 = .ok (.if_icmp .ge 70, 3) := by decide +kernel
theorem dX5_nextBits_9 : decode cX5_nextBits 9 = .ok (.aload_n 0, 1) := by decide +kernel
theorem dX5_nextBits_10 : decode cX5_nextBits 10 = .ok (.getfield 32, 3) := by decide +kernel
theorem dX5_nextBits_13 : decode cX5_nextBits 13 = .ok (.iconst 3, 1) := by decide +kernel
theorem dX5_nextBits_14 : decode cX5_nextBits 14 = .ok (.ishr, 1) := by decide +kernel
theorem dX5_nextBits_15 : decode cX5_nextBits 15 = .ok (.istore 4, 2) := by decide +kernel
theorem dX5_nextBits_17 : decode cX5_nextBits 17 = .ok (.iload 4, 2) := by decide +kernel
theorem dX5_nextBits_19 : decode cX5_nextBits 19 = .ok (.aload_n 0, 1) := by decide +kernel
theorem dX5_nextBits_20 : decode cX5_nextBits 20 = .ok (.getfield 9, 3) := by decide +kernel
theorem dX5_nextBits_23 : decode cX5_nextBits 23 = .ok (.arraylength, 1) := by decide +kernel
theorem dX5_nextBits_24 : decode cX5_nextBits 24 = .ok (.if_icmp .ge 26, 3) := by decide +kernel
theorem dX5_nextBits_27 : decode cX5_nextBits 27 = .ok (.aload_n 0, 1) := by decide +kernel
theorem dX5_nextBits_28 : decode cX5_nextBits 28 = .ok (.getfield 9, 3) := by decide +kernel
theorem dX5_nextBits_31 : decode cX5_nextBits 31 = .ok (.iload 4, 2) := by decide +kernel
theorem dX5_nextBits_33 : decode cX5_nextBits 33 = .ok (.baload, 1) := by decide +kernel
theorem dX5_nextBits_34 : decode cX5_nextBits 34 = .ok (.bipush 7, 2) := by decide +kernel
theorem dX5_nextBits_36 : decode cX5_nextBits 36 = .ok (.aload_n 0, 1) := by decide +kernel
theorem dX5_nextBits_37 : decode cX5_nextBits 37 = .ok (.getfield 32, 3) := by decide +kernel
theorem dX5_nextBits_40 : decode cX5_nextBits 40 = .ok (.bipush 7, 2) := by decide +kernel
theorem dX5_nextBits_42 : decode cX5_nextBits 42 = .ok (.iand, 1) := by decide +kernel
theorem dX5_nextBits_43 : decode cX5_nextBits 43 = .ok (.isub, 1) := by decide +kernel
theorem dX5_nextBits_44 : decode cX5_nextBits 44 = .ok (.ishr, 1) := by decide +kernel
theorem dX5_nextBits_45 : decode cX5_nextBits 45 = .ok (.iconst 1, 1) := by decide +kernel
theorem dX5_nextBits_46 : decode cX5_nextBits 46 = .ok (.iand, 1) := by decide +kernel
theorem dX5_nextBits_47 : decode cX5_nextBits 47 = .ok (.goto 4, 3) := by decide +kernel
theorem dX5_nextBits_50 : decode cX5_nextBits 50 = .ok (.iconst 0, 1) := by decide +kernel
theorem dX5_nextBits_51 : decode cX5_nextBits 51 = .ok (.istore 5, 2) := by decide +kernel
theorem dX5_nextBits_53 : decode cX5_nextBits 53 = .ok (.iload_n 2, 1) := by decide +kernel
theorem dX5_nextBits_54 : decode cX5_nextBits 54 = .ok (.iconst 1, 1) := by decide +kernel
theorem dX5_nextBits_55 : decode cX5_nextBits 55 = .ok (.ishl, 1) := by decide +kernel
theorem dX5_nextBits_56 : decode cX5_nextBits 56 = .ok (.iload 5, 2) := by decide +kernel
theorem dX5_nextBits_58 : decode cX5_nextBits 58 = .ok (.ior, 1) := by decide +kernel
theorem dX5_nextBits_59 : decode cX5_nextBits 59 = .ok (.istore_n 2, 1) := by decide +kernel
theorem dX5_nextBits_60 : decode cX5_nextBits 60 = .ok (.aload_n 0, 1) := by decide +kernel
theorem dX5_nextBits_61 : decode cX5_nextBits 61 = .ok (.dup, 1) := by decide +kernel
theorem dX5_nextBits_62 : decode cX5_nextBits 62 = .ok (.getfield 32, 3) := by decide +kernel
theorem dX5_nextBits_65 : decode cX5_nextBits 65 = .ok (.iconst 1, 1) := by decide +kernel
theorem dX5_nextBits_66 : decode cX5_nextBits 66 = .ok (.iadd, 1) := by decide +kernel
theorem dX5_nextBits_67 : decode cX5_nextBits 67 = .ok (.putfield 32, 3) := by decide +kernel
theorem dX5_nextBits_70 : decode cX5_nextBits 70 = .ok (.iinc 3 1, 3) := by decide +kernel
theorem dX5_nextBits_73 : decode cX5_nextBits 73 = .ok (.goto (-69), 3) := by decide +kernel
theorem dX5_nextBits_76 : decode cX5_nextBits 76 = .ok (.iload_n 2, 1) := by decide +kernel
theorem dX5_nextBits_77 : decode cX5_nextBits 77 = .ok (.ireturn, 1) := by decide +kernel
theorem dX6_init_0 : decode cX6_init 0 = .ok (.aload_n 0, 1) := by decide +kernel
theorem dX6_init_1 : decode cX6_init 1 = .ok (.invokespecial 3, 3) := by decide +kernel
theorem dX6_init_4 : decode cX6_init 4 = .ok (.aload_n 0, 1) := by decide +kernel
theorem dX6_init_5 : decode cX6_init 5 = .ok (.new 9, 3) := by decide +kernel
theorem dX6_init_8 : decode cX6_init 8 = .ok (.dup, 1) := by decide +kernel
theorem dX6_init_9 : decode cX6_init 9 = .ok (.invokespecial 11, 3) := by decide +kernel
theorem dX6_init_12 : decode cX6_init 12 = .ok (.putfield 12, 3) := by decide +kernel
theorem dX6_init_15 : decode cX6_init 15 = .ok (.aload_n 0, 1) := by decide +kernel
theorem dX6_init_16 : decode cX6_init 16 = .ok (.new 9, 3) := by decide +kernel
theorem dX6_init_19 : decode cX6_init 19 = .ok (.dup, 1) := by decide +kernel
theorem dX6_init_20 : decode cX6_init 20 = .ok (.invokespecial 11, 3) := by decide +kernel
theorem dX6_init_23 : decode cX6_init 23 = .ok (.putfield 18, 3) := by decide +kernel
theorem dX6_init_26 : decode cX6_init 26 = .ok (.aload_n 0, 1) := by decide +kernel
theorem dX6_init_27 : decode cX6_init 27 = .ok (.bipush 8, 2) := by decide +kernel
theorem dX6_init_29 : decode cX6_init 29 = .ok (.newarray .int, 2) := by decide +kernel
theorem dX6_init_31 : decode cX6_init 31 = .ok (.putfield 21, 3) := by decide +kernel
theorem dX6_init_34 : decode cX6_init 34 = .ok (.aload_n 0, 1) := by decide +kernel
theorem dX6_init_35 : decode cX6_init 35 = .ok (.iconst 0, 1) := by decide +kernel
theorem dX6_init_36 : decode cX6_init 36 = .ok (.putfield 25, 3) := by decide +kernel
theorem dX6_init_39 : decode cX6_init 39 = .ok (.aload_n 0, 1) := by decide +kernel
theorem dX6_init_40 : decode cX6_init 40 = .ok (.bipush 8, 2) := by decide +kernel
theorem dX6_init_42 : decode cX6_init 42 = .ok (.newarray .int, 2) := by decide +kernel
theorem dX6_init_44 : decode cX6_init 44 = .ok (.putfield 29, 3) := by decide +kernel
theorem dX6_init_47 : decode cX6_init 47 = .ok (.return_, 1) := by decide +kernel
theorem dX6_putLeaf_0 : decode cX6_putLeaf 0 = .ok (.aload_n 0, 1) := by decide +kernel
theorem dX6_putLeaf_1 : decode cX6_putLeaf 1 = .ok (.getfield 25, 3) := by decide +kernel
theorem dX6_putLeaf_4 : decode cX6_putLeaf 4 = .ok (.aload_n 0, 1) := by decide +kernel
theorem dX6_putLeaf_5 : decode cX6_putLeaf 5 = .ok (.getfield 21, 3) := by decide +kernel
theorem dX6_putLeaf_8 : decode cX6_putLeaf 8 = .ok (.arraylength, 1) := by decide +kernel
theorem dX6_putLeaf_9 : decode cX6_putLeaf 9 = .ok (.if_icmp .ge 47, 3) := by decide +kernel
theorem dX6_putLeaf_12 : decode cX6_putLeaf 12 = .ok (.aload_n 0, 1) := by decide +kernel
theorem dX6_putLeaf_13 : decode cX6_putLeaf 13 = .ok (.getfield 21, 3) := by decide +kernel
theorem dX6_putLeaf_16 : decode cX6_putLeaf 16 = .ok (.aload_n 0, 1) := by decide +kernel
theorem dX6_putLeaf_17 : decode cX6_putLeaf 17 = .ok (.getfield 25, 3) := by decide +kernel
theorem dX6_putLeaf_20 : decode cX6_putLeaf 20 = .ok (.aload_n 0, 1) := by decide +kernel
theorem dX6_putLeaf_21 : decode cX6_putLeaf 21 = .ok (.getfield 12, 3) := by decide +kernel
theorem dX6_putLeaf_24 : decode cX6_putLeaf 24 = .ok (.invokevirtual 32, 3) := by decide +kernel
theorem dX6_putLeaf_27 : decode cX6_putLeaf 27 = .ok (.iastore, 1) := by decide +kernel
theorem dX6_putLeaf_28 : decode cX6_putLeaf 28 = .ok (.aload_n 0, 1) := by decide +kernel
theorem dX6_putLeaf_29 : decode cX6_putLeaf 29 = .ok (.dup, 1) := by decide +kernel
theorem dX6_putLeaf_30 : decode cX6_putLeaf 30 = .ok (.getfield 25, 3) := by decide +kernel
theorem dX6_putLeaf_33 : decode cX6_putLeaf 33 = .ok (.iconst 1, 1) := by decide +kernel
theorem dX6_putLeaf_34 : decode cX6_putLeaf 34 = .ok (.iadd, 1) := by decide +kernel
theorem dX6_putLeaf_35 : decode cX6_putLeaf 35 = .ok (.putfield 25, 3) := by decide +kernel
theorem dX6_putLeaf_38 : decode cX6_putLeaf 38 = .ok (.aload_n 0, 1) := by decide +kernel
theorem dX6_putLeaf_39 : decode cX6_putLeaf 39 = .ok (.getfield 12, 3) := by decide +kernel
theorem dX6_putLeaf_42 : decode cX6_putLeaf 42 = .ok (.aload_n 1, 1) := by decide +kernel
theorem dX6_putLeaf_43 : decode cX6_putLeaf 43 = .ok (.invokevirtual 36, 3) := by decide +kernel
theorem dX6_putLeaf_46 : decode cX6_putLeaf 46 = .ok (.pop, 1) := by decide +kernel
theorem dX6_putLeaf_47 : decode cX6_putLeaf 47 = .ok (.aload_n 0, 1) := by decide +kernel
theorem dX6_putLeaf_48 : decode cX6_putLeaf 48 = .ok (.getfield 18, 3) := by decide +kernel
theorem dX6_putLeaf_51 : decode cX6_putLeaf 51 = .ok (.aload_n 1, 1) := by decide +kernel
theorem dX6_putLeaf_52 : decode cX6_putLeaf 52 = .ok (.invokevirtual 36, 3) := by decide +kernel
theorem dX6_putLeaf_55 : decode cX6_putLeaf 55 = .ok (.pop, 1) := by decide +kernel
theorem dX6_putLeaf_56 : decode cX6_putLeaf 56 = .ok (.aload_n 0, 1) := by decide +kernel
theorem dX6_putLeaf_57 : decode cX6_putLeaf 57 = .ok (.getfield 25, 3) := by decide +kernel
theorem dX6_putLeaf_60 : decode cX6_putLeaf 60 = .ok (.ireturn, 1) := by decide +kernel
theorem dX6_putGroup_0 : decode cX6_putGroup 0 = .ok (.aload_n 1, 1) := by decide +kernel
theorem dX6_putGroup_1 : decode cX6_putGroup 1 = .ok (.getfield 40, 3) := by decide +kernel
theorem dX6_putGroup_4 : decode cX6_putGroup 4 = .ok (.aload_n 0, 1) := by decide +kernel
theorem dX6_putGroup_5 : decode cX6_putGroup 5 = .ok (.getfield 25, 3) := by decide +kernel
theorem dX6_putGroup_8 : decode cX6_putGroup 8 = .ok (.if_icmp .gt 27, 3) := by decide +kernel
theorem dX6_putGroup_11 : decode cX6_putGroup 11 = .ok (.aload_n 0, 1) := by decide +kernel
theorem dX6_putGroup_12 : decode cX6_putGroup 12 = .ok (.dup, 1) := by decide +kernel
theorem dX6_putGroup_13 : decode cX6_putGroup 13 = .ok (.getfield 25, 3) := by decide +kernel
theorem dX6_putGroup_16 : decode cX6_putGroup 16 = .ok (.aload_n 1, 1) := by decide +kernel
theorem dX6_putGroup_17 : decode cX6_putGroup 17 = .ok (.getfield 40, 3) := by decide +kernel
theorem dX6_putGroup_20 : decode cX6_putGroup 20 = .ok (.iconst 1, 1) := by decide +kernel
theorem dX6_putGroup_21 : decode cX6_putGroup 21 = .ok (.isub, 1) := by decide +kernel
theorem dX6_putGroup_22 : decode cX6_putGroup 22 = .ok (.isub, 1) := by decide +kernel
theorem dX6_putGroup_23 : decode cX6_putGroup 23 = .ok (.putfield 25, 3) := by decide +kernel
theorem dX6_putGroup_26 : decode cX6_putGroup 26 = .ok (.aload_n 0, 1) := by decide +kernel
theorem dX6_putGroup_27 : decode cX6_putGroup 27 = .ok (.getfield 12, 3) := by decide +kernel
theorem dX6_putGroup_30 : decode cX6_putGroup 30 = .ok (.aload_n 1, 1) := by decide +kernel
theorem dX6_putGroup_31 : decode cX6_putGroup 31 = .ok (.invokevirtual 36, 3) := by decide +kernel
theorem dX6_putGroup_34 : decode cX6_putGroup 34 = .ok (.pop, 1) := by decide +kernel
theorem dX6_putGroup_35 : decode cX6_putGroup 35 = .ok (.aload_n 0, 1) := by decide +kernel
theorem dX6_putGroup_36 : decode cX6_putGroup 36 = .ok (.getfield 25, 3) := by decide +kernel
theorem dX6_putGroup_39 : decode cX6_putGroup 39 = .ok (.ireturn, 1) := by decide +kernel
theorem dX6_setLastAside_0 : decode cX6_setLastAside 0 = .ok (.aload_n 0, 1) := by decide +kernel
theorem dX6_setLastAside_1 : decode cX6_setLastAside 1 = .ok (.getfield 25, 3) := by decide +kernel
theorem dX6_setLastAside_4 : decode cX6_setLastAside 4 = .ok (.iconst 1, 1) := by decide +kernel
theorem dX6_setLastAside_5 : decode cX6_setLastAside 5 = .ok (.if_icmp .lt 15, 3) := by decide +kernel
theorem dX6_setLastAside_8 : decode cX6_setLastAside 8 = .ok (.aload_n 0, 1) := by decide +kernel
theorem dX6_setLastAside_9 : decode cX6_setLastAside 9 = .ok (.getfield 25, 3) := by decide +kernel
theorem dX6_setLastAside_12 : decode cX6_setLastAside 12 = .ok (.aload_n 0, 1) := by decide +kernel
theorem dX6_setLastAside_13 : decode cX6_setLastAside 13 = .ok (.getfield 21, 3) := by decide +kernel
theorem dX6_setLastAside_16 : decode cX6_setLastAside 16 = .ok (.arraylength, 1) := by decide +kernel
theorem dX6_setLastAside_17 : decode cX6_setLastAside 17 = .ok (.if_icmp .le 4, 3) := by decide +kernel
theorem dX6_setLastAside_20 : decode cX6_setLastAside 20 = .ok (.return_, 1) := by decide +kernel
theorem dX6_setLastAside_21 : decode cX6_setLastAside 21 = .ok (.aload_n 0, 1) := by decide +kernel
theorem dX6_setLastAside_22 : decode cX6_setLastAside 22 = .ok (.getfield 21, 3) := by decide +kernel
theorem dX6_setLastAside_25 : decode cX6_setLastAside 25 = .ok (.aload_n 0, 1) := by decide +kernel
theorem dX6_setLastAside_26 : decode cX6_setLastAside 26 = .ok (.getfield 25, 3) := by decide +kernel
theorem dX6_setLastAside_29 : decode cX6_setLastAside 29 = .ok (.iconst 1, 1) := by decide +kernel
theorem dX6_setLastAside_30 : decode cX6_setLastAside 30 = .ok (.isub, 1) := by decide +kernel
theorem dX6_setLastAside_31 : decode cX6_setLastAside 31 = .ok (.iaload, 1) := by decide +kernel
theorem dX6_setLastAside_32 : decode cX6_setLastAside 32 = .ok (.iconst 0, 1) := by decide +kernel
theorem dX6_setLastAside_33 : decode cX6_setLastAside 33 = .ok (.invokestatic 43, 3) := by decide +kernel
theorem dX6_setLastAside_36 : decode cX6_setLastAside 36 = .ok (.istore_n 1, 1) := by decide +kernel
theorem dX6_setLastAside_37 : decode cX6_setLastAside 37 = .ok (.iload_n 1, 1) := by decide +kernel
theorem dX6_setLastAside_38 : decode cX6_setLastAside 38 = .ok (.aload_n 0, 1) := by decide +kernel
theorem dX6_setLastAside_39 : decode cX6_setLastAside 39 = .ok (.getfield 12, 3) := by decide +kernel
theorem dX6_setLastAside_42 : decode cX6_setLastAside 42 = .ok (.invokevirtual 32, 3) := by decide +kernel
theorem dX6_setLastAside_45 : decode cX6_setLastAside 45 = .ok (.if_icmp .ge 24, 3) := by decide +kernel
theorem dX6_setLastAside_48 : decode cX6_setLastAside 48 = .ok (.aload_n 0, 1) := by decide +kernel
theorem dX6_setLastAside_49 : decode cX6_setLastAside 49 = .ok (.getfield 12, 3) := by decide +kernel
theorem dX6_setLastAside_52 : decode cX6_setLastAside 52 = .ok (.iload_n 1, 1) := by decide +kernel
theorem dX6_setLastAside_53 : decode cX6_setLastAside 53 = .ok (.invokevirtual 49, 3) := by decide +kernel
theorem dX6_setLastAside_56 : decode cX6_setLastAside 56 = .ok (.checkcast 41, 3) := by decide +kernel
theorem dX6_setLastAside_59 : decode cX6_setLastAside 59 = .ok (.iconst 1, 1) := by decide +kernel
theorem dX6_setLastAside_60 : decode cX6_setLastAside 60 = .ok (.putfield 53, 3) := by decide +kernel
theorem dX6_setLastAside_63 : decode cX6_setLastAside 63 = .ok (.iinc 1 1, 3) := by decide +kernel
theorem dX6_setLastAside_66 : decode cX6_setLastAside 66 = .ok (.goto (-29), 3) := by decide +kernel
theorem dX6_setLastAside_69 : decode cX6_setLastAside 69 = .ok (.return_, 1) := by decide +kernel
theorem dX6_valueOf_0 : decode cX6_valueOf 0 = .ok (.iconst 0, 1) := by decide +kernel
theorem dX6_valueOf_1 : decode cX6_valueOf 1 = .ok (.istore_n 2, 1) := by decide +kernel
theorem dX6_valueOf_2 : decode cX6_valueOf 2 = .ok (.iconst 0, 1) := by decide +kernel
theorem dX6_valueOf_3 : decode cX6_valueOf 3 = .ok (.istore_n 3, 1) := by decide +kernel
theorem dX6_valueOf_4 : decode cX6_valueOf 4 = .ok (.iconst 0, 1) := by decide +kernel
theorem dX6_valueOf_5 : decode cX6_valueOf 5 = .ok (.istore 4, 2) := by decide +kernel
theorem dX6_valueOf_7 : decode cX6_valueOf 7 = .ok (.iload 4, 2) := by decide +kernel
theorem dX6_valueOf_9 : decode cX6_valueOf 9 = .ok (.aload_n 0, 1) := by decide +kernel
theorem dX6_valueOf_10 : decode cX6_valueOf 10 = .ok (.getfield 12, 3) := by decide +kernel
theorem dX6_valueOf_13 : decode cX6_valueOf 13 = .ok (.invokevirtual 32, 3) := by decide +kernel
theorem dX6_valueOf_16 : decode cX6_valueOf 16 = .ok (.if_icmp .ge 105, 3) := by decide +kernel
theorem dX6_valueOf_19 : decode cX6_valueOf 19 = .ok (.aload_n 0, 1) := by decide +kernel
theorem dX6_valueOf_20 : decode cX6_valueOf 20 = .ok (.getfield 12, 3) := by decide +kernel
theorem dX6_valueOf_23 : decode cX6_valueOf 23 = .ok (.iload 4, 2) := by decide +kernel
theorem dX6_valueOf_25 : decode cX6_valueOf 25 = .ok (.invokevirtual 49, 3) := by decide +kernel
theorem dX6_valueOf_28 : decode cX6_valueOf 28 = .ok (.checkcast 41, 3) := by decide +kernel
theorem dX6_valueOf_31 : decode cX6_valueOf 31 = .ok (.astore 5, 2) := by decide +kernel
theorem dX6_valueOf_33 : decode cX6_valueOf 33 = .ok (.aload 5, 2) := by decide +kernel
theorem dX6_valueOf_35 : decode cX6_valueOf 35 = .ok (.invokevirtual 57, 3) := by decide +kernel
theorem dX6_valueOf_38 : decode cX6_valueOf 38 = .ok (.ifCond .eq 40, 3) := by decide +kernel
theorem dX6_valueOf_41 : decode cX6_valueOf 41 = .ok (.iload_n 2, 1) := by decide +kernel
theorem dX6_valueOf_42 : decode cX6_valueOf 42 = .ok (.aload_n 0, 1) := by decide +kernel
theorem dX6_valueOf_43 : decode cX6_valueOf 43 = .ok (.getfield 29, 3) := by decide +kernel
theorem dX6_valueOf_46 : decode cX6_valueOf 46 = .ok (.arraylength, 1) := by decide +kernel
theorem dX6_valueOf_47 : decode cX6_valueOf 47 = .ok (.if_icmp .ge 25, 3) := by decide +kernel
theorem dX6_valueOf_50 : decode cX6_valueOf 50 = .ok (.aload_n 0, 1) := by decide +kernel
theorem dX6_valueOf_51 : decode cX6_valueOf 51 = .ok (.getfield 29, 3) := by decide +kernel
theorem dX6_valueOf_54 : decode cX6_valueOf 54 = .ok (.iload_n 2, 1) := by decide +kernel
theorem dX6_valueOf_55 : decode cX6_valueOf 55 = .ok (.iload_n 3, 1) := by decide +kernel
theorem dX6_valueOf_56 : decode cX6_valueOf 56 = .ok (.aload_n 1, 1) := by decide +kernel
theorem dX6_valueOf_57 : decode cX6_valueOf 57 = .ok (.arraylength, 1) := by decide +kernel
theorem dX6_valueOf_58 : decode cX6_valueOf 58 = .ok (.if_icmp .ge 9, 3) := by decide +kernel
theorem dX6_valueOf_61 : decode cX6_valueOf 61 = .ok (.aload_n 1, 1) := by decide +kernel
theorem dX6_valueOf_62 : decode cX6_valueOf 62 = .ok (.iload_n 3, 1) := by decide +kernel
theorem dX6_valueOf_63 : decode cX6_valueOf 63 = .ok (.iaload, 1) := by decide +kernel
theorem dX6_valueOf_64 : decode cX6_valueOf 64 = .ok (.goto 4, 3) := by decide +kernel
theorem dX6_valueOf_67 : decode cX6_valueOf 67 = .ok (.iconst (-1), 1) := by decide +kernel
theorem dX6_valueOf_68 : decode cX6_valueOf 68 = .ok (.iastore, 1) := by decide +kernel
theorem dX6_valueOf_69 : decode cX6_valueOf 69 = .ok (.iinc 2 1, 3) := by decide +kernel
theorem dX6_valueOf_72 : decode cX6_valueOf 72 = .ok (.iinc 3 1, 3) := by decide +kernel
theorem dX6_valueOf_75 : decode cX6_valueOf 75 = .ok (.goto 40, 3) := by decide +kernel
theorem dX6_valueOf_78 : decode cX6_valueOf 78 = .ok (.iload_n 2, 1) := by decide +kernel
theorem dX6_valueOf_79 : decode cX6_valueOf 79 = .ok (.aload 5, 2) := by decide +kernel
theorem dX6_valueOf_81 : decode cX6_valueOf 81 = .ok (.getfield 40, 3) := by decide +kernel
theorem dX6_valueOf_84 : decode cX6_valueOf 84 = .ok (.isub, 1) := by decide +kernel
theorem dX6_valueOf_85 : decode cX6_valueOf 85 = .ok (.iconst 0, 1) := by decide +kernel
theorem dX6_valueOf_86 : decode cX6_valueOf 86 = .ok (.invokestatic 43, 3) := by decide +kernel
theorem dX6_valueOf_89 : decode cX6_valueOf 89 = .ok (.istore_n 2, 1) := by decide +kernel
theorem dX6_valueOf_90 : decode cX6_valueOf 90 = .ok (.iload_n 2, 1) := by decide +kernel
theorem dX6_valueOf_91 : decode cX6_valueOf 91 = .ok (.aload_n 0, 1) := by decide +kernel
theorem dX6_valueOf_92 : decode cX6_valueOf 92 = .ok (.getfield 29, 3) := by decide +kernel
theorem dX6_valueOf_95 : decode cX6_valueOf 95 = .ok (.arraylength, 1) := by decide +kernel
theorem dX6_valueOf_96 : decode cX6_valueOf 96 = .ok (.if_icmp .ge 19, 3) := by decide +kernel
theorem dX6_valueOf_99 : decode cX6_valueOf 99 = .ok (.aload_n 0, 1) := by decide +kernel
theorem dX6_valueOf_100 : decode cX6_valueOf 100 = .ok (.getfield 29, 3) := by decide +kernel
theorem dX6_valueOf_103 : decode cX6_valueOf 103 = .ok (.iload_n 2, 1) := by decide +kernel
theorem dX6_valueOf_104 : decode cX6_valueOf 104 = .ok (.aload_n 0, 1) := by decide +kernel
theorem dX6_valueOf_105 : decode cX6_valueOf 105 = .ok (.aload 5, 2) := by decide +kernel
theorem dX6_valueOf_107 : decode cX6_valueOf 107 = .ok (.iload_n 2, 1) := by decide +kernel
theorem dX6_valueOf_108 : decode cX6_valueOf 108 = .ok (.invokevirtual 61, 3) := by decide +kernel
theorem dX6_valueOf_111 : decode cX6_valueOf 111 = .ok (.iastore, 1) := by decide +kernel
theorem dX6_valueOf_112 : decode cX6_valueOf 112 = .ok (.iinc 2 1, 3) := by decide +kernel
theorem dX6_valueOf_115 : decode cX6_valueOf 115 = .ok (.iinc 4 1, 3) := by decide +kernel
theorem dX6_valueOf_118 : decode cX6_valueOf 118 = .ok (.goto (-111), 3) := by decide +kernel
theorem dX6_valueOf_121 : decode cX6_valueOf 121 = .ok (.iload_n 2, 1) := by decide +kernel
theorem dX6_valueOf_122 : decode cX6_valueOf 122 = .ok (.iconst 1, 1) := by decide +kernel
theorem dX6_valueOf_123 : decode cX6_valueOf 123 = .ok (.if_icmp .ne 12, 3) := by decide +kernel
theorem dX6_valueOf_126 : decode cX6_valueOf 126 = .ok (.aload_n 0, 1) := by decide +kernel
theorem dX6_valueOf_127 : decode cX6_valueOf 127 = .ok (.getfield 29, 3) := by decide +kernel
theorem dX6_valueOf_130 : decode cX6_valueOf 130 = .ok (.iconst 0, 1) := by decide +kernel
theorem dX6_valueOf_131 : decode cX6_valueOf 131 = .ok (.iaload, 1) := by decide +kernel
theorem dX6_valueOf_132 : decode cX6_valueOf 132 = .ok (.goto 4, 3) := by decide +kernel
theorem dX6_valueOf_135 : decode cX6_valueOf 135 = .ok (.iconst (-1), 1) := by decide +kernel
theorem dX6_valueOf_136 : decode cX6_valueOf 136 = .ok (.ireturn, 1) := by decide +kernel
theorem dX6_joined_0 : decode cX6_joined 0 = .ok (.iconst 0, 1) := by decide +kernel
theorem dX6_joined_1 : decode cX6_joined 1 = .ok (.istore_n 3, 1) := by decide +kernel
theorem dX6_joined_2 : decode cX6_joined 2 = .ok (.iconst 0, 1) := by decide +kernel
theorem dX6_joined_3 : decode cX6_joined 3 = .ok (.istore 4, 2) := by decide +kernel
theorem dX6_joined_5 : decode cX6_joined 5 = .ok (.iload_n 2, 1) := by decide +kernel
theorem dX6_joined_6 : decode cX6_joined 6 = .ok (.istore 5, 2) := by decide +kernel
theorem dX6_joined_8 : decode cX6_joined 8 = .ok (.iload 5, 2) := by decide +kernel
theorem dX6_joined_10 : decode cX6_joined 10 = .ok (.iload_n 2, 1) := by decide +kernel
theorem dX6_joined_11 : decode cX6_joined 11 = .ok (.aload_n 1, 1) := by decide +kernel
theorem dX6_joined_12 : decode cX6_joined 12 = .ok (.getfield 40, 3) := by decide +kernel
theorem dX6_joined_15 : decode cX6_joined 15 = .ok (.iadd, 1) := by decide +kernel
theorem dX6_joined_16 : decode cX6_joined 16 = .ok (.if_icmp .ge 43, 3) := by decide +kernel
theorem dX6_joined_19 : decode cX6_joined 19 = .ok (.iload 5, 2) := by decide +kernel
theorem dX6_joined_21 : decode cX6_joined 21 = .ok (.aload_n 0, 1) := by decide +kernel
theorem dX6_joined_22 : decode cX6_joined 22 = .ok (.getfield 29, 3) := by decide +kernel
theorem dX6_joined_25 : decode cX6_joined 25 = .ok (.arraylength, 1) := by decide +kernel
theorem dX6_joined_26 : decode cX6_joined 26 = .ok (.if_icmp .ge 33, 3) := by decide +kernel
theorem dX6_joined_29 : decode cX6_joined 29 = .ok (.aload_n 0, 1) := by decide +kernel
theorem dX6_joined_30 : decode cX6_joined 30 = .ok (.getfield 29, 3) := by decide +kernel
theorem dX6_joined_33 : decode cX6_joined 33 = .ok (.iload 5, 2) := by decide +kernel
theorem dX6_joined_35 : decode cX6_joined 35 = .ok (.iaload, 1) := by decide +kernel
theorem dX6_joined_36 : decode cX6_joined 36 = .ok (.iconst (-1), 1) := by decide +kernel
theorem dX6_joined_37 : decode cX6_joined 37 = .ok (.if_icmp .eq 16, 3) := by decide +kernel
theorem dX6_joined_40 : decode cX6_joined 40 = .ok (.iload_n 3, 1) := by decide +kernel
theorem dX6_joined_41 : decode cX6_joined 41 = .ok (.aload_n 0, 1) := by decide +kernel
theorem dX6_joined_42 : decode cX6_joined 42 = .ok (.getfield 29, 3) := by decide +kernel
theorem dX6_joined_45 : decode cX6_joined 45 = .ok (.iload 5, 2) := by decide +kernel
theorem dX6_joined_47 : decode cX6_joined 47 = .ok (.iaload, 1) := by decide +kernel
theorem dX6_joined_48 : decode cX6_joined 48 = .ok (.iadd, 1) := by decide +kernel
theorem dX6_joined_49 : decode cX6_joined 49 = .ok (.istore_n 3, 1) := by decide +kernel
theorem dX6_joined_50 : decode cX6_joined 50 = .ok (.iinc 4 1, 3) := by decide +kernel
theorem dX6_joined_53 : decode cX6_joined 53 = .ok (.iinc 5 1, 3) := by decide +kernel
theorem dX6_joined_56 : decode cX6_joined 56 = .ok (.goto (-48), 3) := by decide +kernel
theorem dX6_joined_59 : decode cX6_joined 59 = .ok (.aload_n 1, 1) := by decide +kernel
theorem dX6_joined_60 : decode cX6_joined 60 = .ok (.getfield 65, 3) := by decide +kernel
theorem dX6_joined_63 : decode cX6_joined 63 = .ok (.iconst 5, 1) := by decide +kernel
theorem dX6_joined_64 : decode cX6_joined 64 = .ok (.if_icmp .ne 33, 3) := by decide +kernel
theorem dX6_joined_67 : decode cX6_joined 67 = .ok (.iload 4, 2) := by decide +kernel
theorem dX6_joined_69 : decode cX6_joined 69 = .ok (.iconst 1, 1) := by decide +kernel
theorem dX6_joined_70 : decode cX6_joined 70 = .ok (.if_icmp .ne 25, 3) := by decide +kernel
theorem dX6_joined_73 : decode cX6_joined 73 = .ok (.iload_n 2, 1) := by decide +kernel
theorem dX6_joined_74 : decode cX6_joined 74 = .ok (.ifCond .lt 21, 3) := by decide +kernel
theorem dX6_joined_77 : decode cX6_joined 77 = .ok (.iload_n 2, 1) := by decide +kernel
theorem dX6_joined_78 : decode cX6_joined 78 = .ok (.aload_n 0, 1) := by decide +kernel
theorem dX6_joined_79 : decode cX6_joined 79 = .ok (.getfield 29, 3) := by decide +kernel
theorem dX6_joined_82 : decode cX6_joined 82 = .ok (.arraylength, 1) := by decide +kernel
theorem dX6_joined_83 : decode cX6_joined 83 = .ok (.if_icmp .ge 12, 3) := by decide +kernel
theorem dX6_joined_86 : decode cX6_joined 86 = .ok (.aload_n 0, 1) := by decide +kernel
theorem dX6_joined_87 : decode cX6_joined 87 = .ok (.getfield 29, 3) := by decide +kernel
theorem dX6_joined_90 : decode cX6_joined 90 = .ok (.iload_n 2, 1) := by decide +kernel
theorem dX6_joined_91 : decode cX6_joined 91 = .ok (.iaload, 1) := by decide +kernel
theorem dX6_joined_92 : decode cX6_joined 92 = .ok (.goto 4, 3) := by decide +kernel
theorem dX6_joined_95 : decode cX6_joined 95 = .ok (.iconst (-1), 1) := by decide +kernel
theorem dX6_joined_96 : decode cX6_joined 96 = .ok (.ireturn, 1) := by decide +kernel
theorem dX6_joined_97 : decode cX6_joined 97 = .ok (.iload 4, 2) := by decide +kernel
theorem dX6_joined_99 : decode cX6_joined 99 = .ok (.aload_n 1, 1) := by decide +kernel
theorem dX6_joined_100 : decode cX6_joined 100 = .ok (.getfield 68, 3) := by decide +kernel
theorem dX6_joined_103 : decode cX6_joined 103 = .ok (.if_icmp .lt 7, 3) := by decide +kernel
theorem dX6_joined_106 : decode cX6_joined 106 = .ok (.iload_n 3, 1) := by decide +kernel
theorem dX6_joined_107 : decode cX6_joined 107 = .ok (.goto 4, 3) := by decide +kernel
theorem dX6_joined_110 : decode cX6_joined 110 = .ok (.iconst (-1), 1) := by decide +kernel
theorem dX6_joined_111 : decode cX6_joined 111 = .ok (.ireturn, 1) := by decide +kernel
theorem dX7_readRarities_0 : decode cX7_readRarities 0 = .ok (.aload_n 2, 1) := by decide +kernel
theorem dX7_readRarities_1 : decode cX7_readRarities 1 = .ok (.invokevirtual 35, 3) := by decide +kernel
theorem dX7_readRarities_4 : decode cX7_readRarities 4 = .ok (.istore_n 3, 1) := by decide +kernel
theorem dX7_readRarities_5 : decode cX7_readRarities 5 = .ok (.iconst 0, 1) := by decide +kernel
theorem dX7_readRarities_6 : decode cX7_readRarities 6 = .ok (.istore 4, 2) := by decide +kernel
theorem dX7_readRarities_8 : decode cX7_readRarities 8 = .ok (.iload 4, 2) := by decide +kernel
theorem dX7_readRarities_10 : decode cX7_readRarities 10 = .ok (.aload_n 1, 1) := by decide +kernel
theorem dX7_readRarities_11 : decode cX7_readRarities 11 = .ok (.getfield 41, 3) := by decide +kernel
theorem dX7_readRarities_14 : decode cX7_readRarities 14 = .ok (.invokevirtual 47, 3) := by decide +kernel
theorem dX7_readRarities_17 : decode cX7_readRarities 17 = .ok (.if_icmp .ge 91, 3) := by decide +kernel
theorem dX7_readRarities_20 : decode cX7_readRarities 20 = .ok (.iload 4, 2) := by decide +kernel
theorem dX7_readRarities_22 : decode cX7_readRarities 22 = .ok (.aload_n 0, 1) := by decide +kernel
theorem dX7_readRarities_23 : decode cX7_readRarities 23 = .ok (.getfield 29, 3) := by decide +kernel
theorem dX7_readRarities_26 : decode cX7_readRarities 26 = .ok (.arraylength, 1) := by decide +kernel
theorem dX7_readRarities_27 : decode cX7_readRarities 27 = .ok (.if_icmp .ge 81, 3) := by decide +kernel
theorem dX7_readRarities_30 : decode cX7_readRarities 30 = .ok (.aload_n 1, 1) := by decide +kernel
theorem dX7_readRarities_31 : decode cX7_readRarities 31 = .ok (.getfield 41, 3) := by decide +kernel
theorem dX7_readRarities_34 : decode cX7_readRarities 34 = .ok (.iload 4, 2) := by decide +kernel
theorem dX7_readRarities_36 : decode cX7_readRarities 36 = .ok (.invokevirtual 52, 3) := by decide +kernel
theorem dX7_readRarities_39 : decode cX7_readRarities 39 = .ok (.checkcast 56, 3) := by decide +kernel
theorem dX7_readRarities_42 : decode cX7_readRarities 42 = .ok (.astore 5, 2) := by decide +kernel
theorem dX7_readRarities_44 : decode cX7_readRarities 44 = .ok (.aload_n 0, 1) := by decide +kernel
theorem dX7_readRarities_45 : decode cX7_readRarities 45 = .ok (.getfield 29, 3) := by decide +kernel
theorem dX7_readRarities_48 : decode cX7_readRarities 48 = .ok (.iload 4, 2) := by decide +kernel
theorem dX7_readRarities_50 : decode cX7_readRarities 50 = .ok (.iconst 0, 1) := by decide +kernel
theorem dX7_readRarities_51 : decode cX7_readRarities 51 = .ok (.iastore, 1) := by decide +kernel
theorem dX7_readRarities_52 : decode cX7_readRarities 52 = .ok (.iconst 0, 1) := by decide +kernel
theorem dX7_readRarities_53 : decode cX7_readRarities 53 = .ok (.istore 6, 2) := by decide +kernel
theorem dX7_readRarities_55 : decode cX7_readRarities 55 = .ok (.iload 6, 2) := by decide +kernel
theorem dX7_readRarities_57 : decode cX7_readRarities 57 = .ok (.aload 5, 2) := by decide +kernel
theorem dX7_readRarities_59 : decode cX7_readRarities 59 = .ok (.invokevirtual 58, 3) := by decide +kernel
theorem dX7_readRarities_62 : decode cX7_readRarities 62 = .ok (.if_icmp .ge 40, 3) := by decide +kernel
theorem dX7_readRarities_65 : decode cX7_readRarities 65 = .ok (.aload_n 0, 1) := by decide +kernel
theorem dX7_readRarities_66 : decode cX7_readRarities 66 = .ok (.getfield 29, 3) := by decide +kernel
theorem dX7_readRarities_69 : decode cX7_readRarities 69 = .ok (.iload 4, 2) := by decide +kernel
theorem dX7_readRarities_71 : decode cX7_readRarities 71 = .ok (.dup2, 1) := by decide +kernel
theorem dX7_readRarities_72 : decode cX7_readRarities 72 = .ok (.iaload, 1) := by decide +kernel
theorem dX7_readRarities_73 : decode cX7_readRarities 73 = .ok (.iload_n 3, 1) := by decide +kernel
theorem dX7_readRarities_74 : decode cX7_readRarities 74 = .ok (.aload_n 0, 1) := by decide +kernel
theorem dX7_readRarities_75 : decode cX7_readRarities 75 = .ok (.aload_n 2, 1) := by decide +kernel
theorem dX7_readRarities_76 : decode cX7_readRarities 76 = .ok (.aload 5, 2) := by decide +kernel
theorem dX7_readRarities_78 : decode cX7_readRarities 78 = .ok (.getfield 61, 3) := by decide +kernel
theorem dX7_readRarities_81 : decode cX7_readRarities 81 = .ok (.aload 5, 2) := by decide +kernel
theorem dX7_readRarities_83 : decode cX7_readRarities 83 = .ok (.iload 6, 2) := by decide +kernel
theorem dX7_readRarities_85 : decode cX7_readRarities 85 = .ok (.invokevirtual 65, 3) := by decide +kernel
theorem dX7_readRarities_88 : decode cX7_readRarities 88 = .ok (.invokevirtual 69, 3) := by decide +kernel
theorem dX7_readRarities_91 : decode cX7_readRarities 91 = .ok (.invokestatic 73, 3) := by decide +kernel
theorem dX7_readRarities_94 : decode cX7_readRarities 94 = .ok (.iadd, 1) := by decide +kernel
theorem dX7_readRarities_95 : decode cX7_readRarities 95 = .ok (.iastore, 1) := by decide +kernel
theorem dX7_readRarities_96 : decode cX7_readRarities 96 = .ok (.iinc 6 1, 3) := by decide +kernel
theorem dX7_readRarities_99 : decode cX7_readRarities 99 = .ok (.goto (-44), 3) := by decide +kernel
theorem dX7_readRarities_102 : decode cX7_readRarities 102 = .ok (.iinc 4 1, 3) := by decide +kernel
theorem dX7_readRarities_105 : decode cX7_readRarities 105 = .ok (.goto (-97), 3) := by decide +kernel
theorem dX7_readRarities_108 : decode cX7_readRarities 108 = .ok (.return_, 1) := by decide +kernel
theorem dX7_readCount_0 : decode cX7_readCount 0 = .ok (.iconst 0, 1) := by decide +kernel
theorem dX7_readCount_1 : decode cX7_readCount 1 = .ok (.istore 5, 2) := by decide +kernel
theorem dX7_readCount_3 : decode cX7_readCount 3 = .ok (.iconst 0, 1) := by decide +kernel
theorem dX7_readCount_4 : decode cX7_readCount 4 = .ok (.istore 6, 2) := by decide +kernel
theorem dX7_readCount_6 : decode cX7_readCount 6 = .ok (.iload 6, 2) := by decide +kernel
theorem dX7_readCount_8 : decode cX7_readCount 8 = .ok (.aload_n 1, 1) := by decide +kernel
theorem dX7_readCount_9 : decode cX7_readCount 9 = .ok (.invokevirtual 77, 3) := by decide +kernel
theorem dX7_readCount_12 : decode cX7_readCount 12 = .ok (.if_icmp .ge 80, 3) := by decide +kernel
theorem dX7_readCount_15 : decode cX7_readCount 15 = .ok (.aload_n 1, 1) := by decide +kernel
theorem dX7_readCount_16 : decode cX7_readCount 16 = .ok (.iload 6, 2) := by decide +kernel
theorem dX7_readCount_18 : decode cX7_readCount 18 = .ok (.invokevirtual 78, 3) := by decide +kernel
theorem dX7_readCount_21 : decode cX7_readCount 21 = .ok (.astore 7, 2) := by decide +kernel
theorem dX7_readCount_23 : decode cX7_readCount 23 = .ok (.aload 7, 2) := by decide +kernel
theorem dX7_readCount_25 : decode cX7_readCount 25 = .ok (.ifnonnull 7, 3) := by decide +kernel
theorem dX7_readCount_28 : decode cX7_readCount 28 = .ok (.aconst_null, 1) := by decide +kernel
theorem dX7_readCount_29 : decode cX7_readCount 29 = .ok (.goto 13, 3) := by decide +kernel
theorem dX7_readCount_32 : decode cX7_readCount 32 = .ok (.aload 7, 2) := by decide +kernel
theorem dX7_readCount_34 : decode cX7_readCount 34 = .ok (.getfield 82, 3) := by decide +kernel
theorem dX7_readCount_37 : decode cX7_readCount 37 = .ok (.iload_n 2, 1) := by decide +kernel
theorem dX7_readCount_38 : decode cX7_readCount 38 = .ok (.lload_n 3, 1) := by decide +kernel
theorem dX7_readCount_39 : decode cX7_readCount 39 = .ok (.invokevirtual 88, 3) := by decide +kernel
theorem dX7_readCount_42 : decode cX7_readCount 42 = .ok (.astore 8, 2) := by decide +kernel
theorem dX7_readCount_44 : decode cX7_readCount 44 = .ok (.aload 8, 2) := by decide +kernel
theorem dX7_readCount_46 : decode cX7_readCount 46 = .ok (.ifnull 40, 3) := by decide +kernel
theorem dX7_readCount_49 : decode cX7_readCount 49 = .ok (.aload_n 0, 1) := by decide +kernel
theorem dX7_readCount_50 : decode cX7_readCount 50 = .ok (.getfield 23, 3) := by decide +kernel
theorem dX7_readCount_53 : decode cX7_readCount 53 = .ok (.iconst 0, 1) := by decide +kernel
theorem dX7_readCount_54 : decode cX7_readCount 54 = .ok (.aaload, 1) := by decide +kernel
theorem dX7_readCount_55 : decode cX7_readCount 55 = .ok (.iconst 0, 1) := by decide +kernel
theorem dX7_readCount_56 : decode cX7_readCount 56 = .ok (.invokestatic 94, 3) := by decide +kernel
theorem dX7_readCount_59 : decode cX7_readCount 59 = .ok (.aload 8, 2) := by decide +kernel
theorem dX7_readCount_61 : decode cX7_readCount 61 = .ok (.aload_n 0, 1) := by decide +kernel
theorem dX7_readCount_62 : decode cX7_readCount 62 = .ok (.getfield 23, 3) := by decide +kernel
theorem dX7_readCount_65 : decode cX7_readCount 65 = .ok (.iconst 0, 1) := by decide +kernel
theorem dX7_readCount_66 : decode cX7_readCount 66 = .ok (.aaload, 1) := by decide +kernel
theorem dX7_readCount_67 : decode cX7_readCount 67 = .ok (.invokevirtual 100, 3) := by decide +kernel
theorem dX7_readCount_70 : decode cX7_readCount 70 = .ok (.iload 5, 2) := by decide +kernel
theorem dX7_readCount_72 : decode cX7_readCount 72 = .ok (.aload 7, 2) := by decide +kernel
theorem dX7_readCount_74 : decode cX7_readCount 74 = .ok (.aload_n 0, 1) := by decide +kernel
theorem dX7_readCount_75 : decode cX7_readCount 75 = .ok (.getfield 23, 3) := by decide +kernel
theorem dX7_readCount_78 : decode cX7_readCount 78 = .ok (.iconst 0, 1) := by decide +kernel
theorem dX7_readCount_79 : decode cX7_readCount 79 = .ok (.aaload, 1) := by decide +kernel
theorem dX7_readCount_80 : decode cX7_readCount 80 = .ok (.invokevirtual 106, 3) := by decide +kernel
theorem dX7_readCount_83 : decode cX7_readCount 83 = .ok (.iadd, 1) := by decide +kernel
theorem dX7_readCount_84 : decode cX7_readCount 84 = .ok (.istore 5, 2) := by decide +kernel
theorem dX7_readCount_86 : decode cX7_readCount 86 = .ok (.iinc 6 1, 3) := by decide +kernel
theorem dX7_readCount_89 : decode cX7_readCount 89 = .ok (.goto (-83), 3) := by decide +kernel
theorem dX7_readCount_92 : decode cX7_readCount 92 = .ok (.iload 5, 2) := by decide +kernel
theorem dX7_readCount_94 : decode cX7_readCount 94 = .ok (.ireturn, 1) := by decide +kernel
theorem dX7_readSegment_0 : decode cX7_readSegment 0 = .ok (.iconst 0, 1) := by decide +kernel
theorem dX7_readSegment_1 : decode cX7_readSegment 1 = .ok (.istore_n 3, 1) := by decide +kernel
theorem dX7_readSegment_2 : decode cX7_readSegment 2 = .ok (.iload_n 3, 1) := by decide +kernel
theorem dX7_readSegment_3 : decode cX7_readSegment 3 = .ok (.aload_n 1, 1) := by decide +kernel
theorem dX7_readSegment_4 : decode cX7_readSegment 4 = .ok (.getfield 41, 3) := by decide +kernel
theorem dX7_readSegment_7 : decode cX7_readSegment 7 = .ok (.invokevirtual 47, 3) := by decide +kernel
theorem dX7_readSegment_10 : decode cX7_readSegment 10 = .ok (.if_icmp .ge 89, 3) := by decide +kernel
theorem dX7_readSegment_13 : decode cX7_readSegment 13 = .ok (.iload_n 3, 1) := by decide +kernel
theorem dX7_readSegment_14 : decode cX7_readSegment 14 = .ok (.bipush 24, 2) := by decide +kernel
theorem dX7_readSegment_16 : decode cX7_readSegment 16 = .ok (.if_icmp .ge 83, 3) := by decide +kernel
theorem dX7_readSegment_19 : decode cX7_readSegment 19 = .ok (.aload_n 1, 1) := by decide +kernel
theorem dX7_readSegment_20 : decode cX7_readSegment 20 = .ok (.getfield 41, 3) := by decide +kernel
theorem dX7_readSegment_23 : decode cX7_readSegment 23 = .ok (.iload_n 3, 1) := by decide +kernel
theorem dX7_readSegment_24 : decode cX7_readSegment 24 = .ok (.invokevirtual 52, 3) := by decide +kernel
theorem dX7_readSegment_27 : decode cX7_readSegment 27 = .ok (.checkcast 56, 3) := by decide +kernel
theorem dX7_readSegment_30 : decode cX7_readSegment 30 = .ok (.astore 4, 2) := by decide +kernel
theorem dX7_readSegment_32 : decode cX7_readSegment 32 = .ok (.aload 4, 2) := by decide +kernel
theorem dX7_readSegment_34 : decode cX7_readSegment 34 = .ok (.invokevirtual 110, 3) := by decide +kernel
theorem dX7_readSegment_37 : decode cX7_readSegment 37 = .ok (.ifCond .eq 25, 3) := by decide +kernel
theorem dX7_readSegment_40 : decode cX7_readSegment 40 = .ok (.aload_n 0, 1) := by decide +kernel
theorem dX7_readSegment_41 : decode cX7_readSegment 41 = .ok (.aload 4, 2) := by decide +kernel
theorem dX7_readSegment_43 : decode cX7_readSegment 43 = .ok (.aload_n 2, 1) := by decide +kernel
theorem dX7_readSegment_44 : decode cX7_readSegment 44 = .ok (.aload_n 0, 1) := by decide +kernel
theorem dX7_readSegment_45 : decode cX7_readSegment 45 = .ok (.getfield 17, 3) := by decide +kernel
theorem dX7_readSegment_48 : decode cX7_readSegment 48 = .ok (.iload_n 3, 1) := by decide +kernel
theorem dX7_readSegment_49 : decode cX7_readSegment 49 = .ok (.aaload, 1) := by decide +kernel
theorem dX7_readSegment_50 : decode cX7_readSegment 50 = .ok (.aload_n 0, 1) := by decide +kernel
theorem dX7_readSegment_51 : decode cX7_readSegment 51 = .ok (.getfield 20, 3) := by decide +kernel
theorem dX7_readSegment_54 : decode cX7_readSegment 54 = .ok (.iload_n 3, 1) := by decide +kernel
theorem dX7_readSegment_55 : decode cX7_readSegment 55 = .ok (.aaload, 1) := by decide +kernel
theorem dX7_readSegment_56 : decode cX7_readSegment 56 = .ok (.invokevirtual 114, 3) := by decide +kernel
theorem dX7_readSegment_59 : decode cX7_readSegment 59 = .ok (.goto 34, 3) := by decide +kernel
theorem dX7_readSegment_62 : decode cX7_readSegment 62 = .ok (.aload 4, 2) := by decide +kernel
theorem dX7_readSegment_64 : decode cX7_readSegment 64 = .ok (.aload_n 2, 1) := by decide +kernel
theorem dX7_readSegment_65 : decode cX7_readSegment 65 = .ok (.aload_n 0, 1) := by decide +kernel
theorem dX7_readSegment_66 : decode cX7_readSegment 66 = .ok (.getfield 17, 3) := by decide +kernel
theorem dX7_readSegment_69 : decode cX7_readSegment 69 = .ok (.iload_n 3, 1) := by decide +kernel
theorem dX7_readSegment_70 : decode cX7_readSegment 70 = .ok (.aaload, 1) := by decide +kernel
theorem dX7_readSegment_71 : decode cX7_readSegment 71 = .ok (.invokestatic 118, 3) := by decide +kernel
theorem dX7_readSegment_74 : decode cX7_readSegment 74 = .ok (.aload_n 0, 1) := by decide +kernel
theorem dX7_readSegment_75 : decode cX7_readSegment 75 = .ok (.getfield 17, 3) := by decide +kernel
theorem dX7_readSegment_78 : decode cX7_readSegment 78 = .ok (.iload_n 3, 1) := by decide +kernel
theorem dX7_readSegment_79 : decode cX7_readSegment 79 = .ok (.aaload, 1) := by decide +kernel
theorem dX7_readSegment_80 : decode cX7_readSegment 80 = .ok (.iconst 0, 1) := by decide +kernel
theorem dX7_readSegment_81 : decode cX7_readSegment 81 = .ok (.aload_n 0, 1) := by decide +kernel
theorem dX7_readSegment_82 : decode cX7_readSegment 82 = .ok (.getfield 20, 3) := by decide +kernel
theorem dX7_readSegment_85 : decode cX7_readSegment 85 = .ok (.iload_n 3, 1) := by decide +kernel
theorem dX7_readSegment_86 : decode cX7_readSegment 86 = .ok (.aaload, 1) := by decide +kernel
theorem dX7_readSegment_87 : decode cX7_readSegment 87 = .ok (.iconst 0, 1) := by decide +kernel
theorem dX7_readSegment_88 : decode cX7_readSegment 88 = .ok (.bipush 100, 2) := by decide +kernel
theorem dX7_readSegment_90 : decode cX7_readSegment 90 = .ok (.invokestatic 122, 3) := by decide +kernel
theorem dX7_readSegment_93 : decode cX7_readSegment 93 = .ok (.iinc 3 1, 3) := by decide +kernel
theorem dX7_readSegment_96 : decode cX7_readSegment 96 = .ok (.goto (-94), 3) := by decide +kernel
theorem dX7_readSegment_99 : decode cX7_readSegment 99 = .ok (.return_, 1) := by decide +kernel
theorem dX7_readCounted_0 : decode cX7_readCounted 0 = .ok (.iconst 0, 1) := by decide +kernel
theorem dX7_readCounted_1 : decode cX7_readCounted 1 = .ok (.istore 5, 2) := by decide +kernel
theorem dX7_readCounted_3 : decode cX7_readCounted 3 = .ok (.iload 5, 2) := by decide +kernel
theorem dX7_readCounted_5 : decode cX7_readCounted 5 = .ok (.aload_n 1, 1) := by decide +kernel
theorem dX7_readCounted_6 : decode cX7_readCounted 6 = .ok (.invokevirtual 58, 3) := by decide +kernel
theorem dX7_readCounted_9 : decode cX7_readCounted 9 = .ok (.if_icmp .ge 63, 3) := by decide +kernel
theorem dX7_readCounted_12 : decode cX7_readCounted 12 = .ok (.iload 5, 2) := by decide +kernel
theorem dX7_readCounted_14 : decode cX7_readCounted 14 = .ok (.aload_n 0, 1) := by decide +kernel
theorem dX7_readCounted_15 : decode cX7_readCounted 15 = .ok (.getfield 23, 3) := by decide +kernel
theorem dX7_readCounted_18 : decode cX7_readCounted 18 = .ok (.arraylength, 1) := by decide +kernel
theorem dX7_readCounted_19 : decode cX7_readCounted 19 = .ok (.if_icmp .ge 53, 3) := by decide +kernel
theorem dX7_readCounted_22 : decode cX7_readCounted 22 = .ok (.aload_n 0, 1) := by decide +kernel
theorem dX7_readCounted_23 : decode cX7_readCounted 23 = .ok (.getfield 23, 3) := by decide +kernel
theorem dX7_readCounted_26 : decode cX7_readCounted 26 = .ok (.iload 5, 2) := by decide +kernel
theorem dX7_readCounted_28 : decode cX7_readCounted 28 = .ok (.aaload, 1) := by decide +kernel
theorem dX7_readCounted_29 : decode cX7_readCounted 29 = .ok (.iconst 0, 1) := by decide +kernel
theorem dX7_readCounted_30 : decode cX7_readCounted 30 = .ok (.invokestatic 94, 3) := by decide +kernel
theorem dX7_readCounted_33 : decode cX7_readCounted 33 = .ok (.aload_n 2, 1) := by decide +kernel
theorem dX7_readCounted_34 : decode cX7_readCounted 34 = .ok (.aload_n 1, 1) := by decide +kernel
theorem dX7_readCounted_35 : decode cX7_readCounted 35 = .ok (.getfield 61, 3) := by decide +kernel
theorem dX7_readCounted_38 : decode cX7_readCounted 38 = .ok (.aload_n 1, 1) := by decide +kernel
theorem dX7_readCounted_39 : decode cX7_readCounted 39 = .ok (.iload 5, 2) := by decide +kernel
theorem dX7_readCounted_41 : decode cX7_readCounted 41 = .ok (.invokevirtual 65, 3) := by decide +kernel
theorem dX7_readCounted_44 : decode cX7_readCounted 44 = .ok (.invokevirtual 88, 3) := by decide +kernel
theorem dX7_readCounted_47 : decode cX7_readCounted 47 = .ok (.astore 6, 2) := by decide +kernel
theorem dX7_readCounted_49 : decode cX7_readCounted 49 = .ok (.aload 6, 2) := by decide +kernel
theorem dX7_readCounted_51 : decode cX7_readCounted 51 = .ok (.ifnull 15, 3) := by decide +kernel
theorem dX7_readCounted_54 : decode cX7_readCounted 54 = .ok (.aload 6, 2) := by decide +kernel
theorem dX7_readCounted_56 : decode cX7_readCounted 56 = .ok (.aload_n 0, 1) := by decide +kernel
theorem dX7_readCounted_57 : decode cX7_readCounted 57 = .ok (.getfield 23, 3) := by decide +kernel
theorem dX7_readCounted_60 : decode cX7_readCounted 60 = .ok (.iload 5, 2) := by decide +kernel
theorem dX7_readCounted_62 : decode cX7_readCounted 62 = .ok (.aaload, 1) := by decide +kernel
theorem dX7_readCounted_63 : decode cX7_readCounted 63 = .ok (.invokevirtual 100, 3) := by decide +kernel
theorem dX7_readCounted_66 : decode cX7_readCounted 66 = .ok (.iinc 5 1, 3) := by decide +kernel
theorem dX7_readCounted_69 : decode cX7_readCounted 69 = .ok (.goto (-66), 3) := by decide +kernel
theorem dX7_readCounted_72 : decode cX7_readCounted 72 = .ok (.iconst 0, 1) := by decide +kernel
theorem dX7_readCounted_73 : decode cX7_readCounted 73 = .ok (.istore 5, 2) := by decide +kernel
theorem dX7_readCounted_75 : decode cX7_readCounted 75 = .ok (.iload 5, 2) := by decide +kernel
theorem dX7_readCounted_77 : decode cX7_readCounted 77 = .ok (.aload_n 2, 1) := by decide +kernel
theorem dX7_readCounted_78 : decode cX7_readCounted 78 = .ok (.invokevirtual 128, 3) := by decide +kernel
theorem dX7_readCounted_81 : decode cX7_readCounted 81 = .ok (.if_icmp .ge 84, 3) := by decide +kernel
theorem dX7_readCounted_84 : decode cX7_readCounted 84 = .ok (.iload 5, 2) := by decide +kernel
theorem dX7_readCounted_86 : decode cX7_readCounted 86 = .ok (.bipush 100, 2) := by decide +kernel
theorem dX7_readCounted_88 : decode cX7_readCounted 88 = .ok (.if_icmp .ge 77, 3) := by decide +kernel
theorem dX7_readCounted_91 : decode cX7_readCounted 91 = .ok (.iconst 0, 1) := by decide +kernel
theorem dX7_readCounted_92 : decode cX7_readCounted 92 = .ok (.istore 6, 2) := by decide +kernel
theorem dX7_readCounted_94 : decode cX7_readCounted 94 = .ok (.iload 6, 2) := by decide +kernel
theorem dX7_readCounted_96 : decode cX7_readCounted 96 = .ok (.aload_n 1, 1) := by decide +kernel
theorem dX7_readCounted_97 : decode cX7_readCounted 97 = .ok (.invokevirtual 58, 3) := by decide +kernel
theorem dX7_readCounted_100 : decode cX7_readCounted 100 = .ok (.if_icmp .ge 36, 3) := by decide +kernel
theorem dX7_readCounted_103 : decode cX7_readCounted 103 = .ok (.iload 6, 2) := by decide +kernel
theorem dX7_readCounted_105 : decode cX7_readCounted 105 = .ok (.aload_n 0, 1) := by decide +kernel
theorem dX7_readCounted_106 : decode cX7_readCounted 106 = .ok (.getfield 23, 3) := by decide +kernel
theorem dX7_readCounted_109 : decode cX7_readCounted 109 = .ok (.arraylength, 1) := by decide +kernel
theorem dX7_readCounted_110 : decode cX7_readCounted 110 = .ok (.if_icmp .ge 26, 3) := by decide +kernel
theorem dX7_readCounted_113 : decode cX7_readCounted 113 = .ok (.aload_n 0, 1) := by decide +kernel
theorem dX7_readCounted_114 : decode cX7_readCounted 114 = .ok (.getfield 26, 3) := by decide +kernel
theorem dX7_readCounted_117 : decode cX7_readCounted 117 = .ok (.iload 6, 2) := by decide +kernel
theorem dX7_readCounted_119 : decode cX7_readCounted 119 = .ok (.aload_n 0, 1) := by decide +kernel
theorem dX7_readCounted_120 : decode cX7_readCounted 120 = .ok (.getfield 23, 3) := by decide +kernel
theorem dX7_readCounted_123 : decode cX7_readCounted 123 = .ok (.iload 6, 2) := by decide +kernel
theorem dX7_readCounted_125 : decode cX7_readCounted 125 = .ok (.aaload, 1) := by decide +kernel
theorem dX7_readCounted_126 : decode cX7_readCounted 126 = .ok (.iload 5, 2) := by decide +kernel
theorem dX7_readCounted_128 : decode cX7_readCounted 128 = .ok (.iaload, 1) := by decide +kernel
theorem dX7_readCounted_129 : decode cX7_readCounted 129 = .ok (.iastore, 1) := by decide +kernel
theorem dX7_readCounted_130 : decode cX7_readCounted 130 = .ok (.iinc 6 1, 3) := by decide +kernel
theorem dX7_readCounted_133 : decode cX7_readCounted 133 = .ok (.goto (-39), 3) := by decide +kernel
theorem dX7_readCounted_136 : decode cX7_readCounted 136 = .ok (.aload 4, 2) := by decide +kernel
theorem dX7_readCounted_138 : decode cX7_readCounted 138 = .ok (.iload 5, 2) := by decide +kernel
theorem dX7_readCounted_140 : decode cX7_readCounted 140 = .ok (.aload_n 0, 1) := by decide +kernel
theorem dX7_readCounted_141 : decode cX7_readCounted 141 = .ok (.getfield 26, 3) := by decide +kernel
theorem dX7_readCounted_144 : decode cX7_readCounted 144 = .ok (.iconst 0, 1) := by decide +kernel
theorem dX7_readCounted_145 : decode cX7_readCounted 145 = .ok (.iaload, 1) := by decide +kernel
theorem dX7_readCounted_146 : decode cX7_readCounted 146 = .ok (.iastore, 1) := by decide +kernel
theorem dX7_readCounted_147 : decode cX7_readCounted 147 = .ok (.aload_n 3, 1) := by decide +kernel
theorem dX7_readCounted_148 : decode cX7_readCounted 148 = .ok (.iload 5, 2) := by decide +kernel
theorem dX7_readCounted_150 : decode cX7_readCounted 150 = .ok (.aload_n 1, 1) := by decide +kernel
theorem dX7_readCounted_151 : decode cX7_readCounted 151 = .ok (.aload_n 0, 1) := by decide +kernel
theorem dX7_readCounted_152 : decode cX7_readCounted 152 = .ok (.getfield 26, 3) := by decide +kernel
theorem dX7_readCounted_155 : decode cX7_readCounted 155 = .ok (.invokevirtual 129, 3) := by decide +kernel
theorem dX7_readCounted_158 : decode cX7_readCounted 158 = .ok (.iastore, 1) := by decide +kernel
theorem dX7_readCounted_159 : decode cX7_readCounted 159 = .ok (.iinc 5 1, 3) := by decide +kernel
theorem dX7_readCounted_162 : decode cX7_readCounted 162 = .ok (.goto (-87), 3) := by decide +kernel
theorem dX7_readCounted_165 : decode cX7_readCounted 165 = .ok (.return_, 1) := by decide +kernel
theorem dX7_readTold_0 : decode cX7_readTold 0 = .ok (.aload_n 2, 1) := by decide +kernel
theorem dX7_readTold_1 : decode cX7_readTold 1 = .ok (.iconst 0, 1) := by decide +kernel
theorem dX7_readTold_2 : decode cX7_readTold 2 = .ok (.invokestatic 94, 3) := by decide +kernel
theorem dX7_readTold_5 : decode cX7_readTold 5 = .ok (.aload_n 1, 1) := by decide +kernel
theorem dX7_readTold_6 : decode cX7_readTold 6 = .ok (.aload_n 0, 1) := by decide +kernel
theorem dX7_readTold_7 : decode cX7_readTold 7 = .ok (.getfield 61, 3) := by decide +kernel
theorem dX7_readTold_10 : decode cX7_readTold 10 = .ok (.invokevirtual 132, 3) := by decide +kernel
theorem dX7_readTold_13 : decode cX7_readTold 13 = .ok (.astore_n 3, 1) := by decide +kernel
theorem dX7_readTold_14 : decode cX7_readTold 14 = .ok (.iconst 0, 1) := by decide +kernel
theorem dX7_readTold_15 : decode cX7_readTold 15 = .ok (.istore 4, 2) := by decide +kernel
theorem dX7_readTold_17 : decode cX7_readTold 17 = .ok (.iload 4, 2) := by decide +kernel
theorem dX7_readTold_19 : decode cX7_readTold 19 = .ok (.aload_n 3, 1) := by decide +kernel
theorem dX7_readTold_20 : decode cX7_readTold 20 = .ok (.invokevirtual 47, 3) := by decide +kernel
theorem dX7_readTold_23 : decode cX7_readTold 23 = .ok (.if_icmp .ge 41, 3) := by decide +kernel
theorem dX7_readTold_26 : decode cX7_readTold 26 = .ok (.aload_n 0, 1) := by decide +kernel
theorem dX7_readTold_27 : decode cX7_readTold 27 = .ok (.aload_n 3, 1) := by decide +kernel
theorem dX7_readTold_28 : decode cX7_readTold 28 = .ok (.iload 4, 2) := by decide +kernel
theorem dX7_readTold_30 : decode cX7_readTold 30 = .ok (.invokevirtual 52, 3) := by decide +kernel
theorem dX7_readTold_33 : decode cX7_readTold 33 = .ok (.checkcast 101, 3) := by decide +kernel
theorem dX7_readTold_36 : decode cX7_readTold 36 = .ok (.getfield 136, 3) := by decide +kernel
theorem dX7_readTold_39 : decode cX7_readTold 39 = .ok (.invokevirtual 140, 3) := by decide +kernel
theorem dX7_readTold_42 : decode cX7_readTold 42 = .ok (.ifCond .eq 16, 3) := by decide +kernel
theorem dX7_readTold_45 : decode cX7_readTold 45 = .ok (.aload_n 3, 1) := by decide +kernel
theorem dX7_readTold_46 : decode cX7_readTold 46 = .ok (.iload 4, 2) := by decide +kernel
theorem dX7_readTold_48 : decode cX7_readTold 48 = .ok (.invokevirtual 52, 3) := by decide +kernel
theorem dX7_readTold_51 : decode cX7_readTold 51 = .ok (.checkcast 101, 3) := by decide +kernel
theorem dX7_readTold_54 : decode cX7_readTold 54 = .ok (.aload_n 2, 1) := by decide +kernel
theorem dX7_readTold_55 : decode cX7_readTold 55 = .ok (.invokevirtual 100, 3) := by decide +kernel
theorem dX7_readTold_58 : decode cX7_readTold 58 = .ok (.iinc 4 1, 3) := by decide +kernel
theorem dX7_readTold_61 : decode cX7_readTold 61 = .ok (.goto (-44), 3) := by decide +kernel
theorem dX7_readTold_64 : decode cX7_readTold 64 = .ok (.return_, 1) := by decide +kernel
theorem dX7_matched_0 : decode cX7_matched 0 = .ok (.new 48, 3) := by decide +kernel
theorem dX7_matched_3 : decode cX7_matched 3 = .ok (.dup, 1) := by decide +kernel
theorem dX7_matched_4 : decode cX7_matched 4 = .ok (.invokespecial 144, 3) := by decide +kernel
theorem dX7_matched_7 : decode cX7_matched 7 = .ok (.astore_n 3, 1) := by decide +kernel
theorem dX7_matched_8 : decode cX7_matched 8 = .ok (.iconst 0, 1) := by decide +kernel
theorem dX7_matched_9 : decode cX7_matched 9 = .ok (.istore 4, 2) := by decide +kernel
theorem dX7_matched_11 : decode cX7_matched 11 = .ok (.iload 4, 2) := by decide +kernel
theorem dX7_matched_13 : decode cX7_matched 13 = .ok (.aload_n 1, 1) := by decide +kernel
theorem dX7_matched_14 : decode cX7_matched 14 = .ok (.invokevirtual 77, 3) := by decide +kernel
theorem dX7_matched_17 : decode cX7_matched 17 = .ok (.if_icmp .ge 96, 3) := by decide +kernel
theorem dX7_matched_20 : decode cX7_matched 20 = .ok (.aload_n 1, 1) := by decide +kernel
theorem dX7_matched_21 : decode cX7_matched 21 = .ok (.iload 4, 2) := by decide +kernel
theorem dX7_matched_23 : decode cX7_matched 23 = .ok (.invokevirtual 78, 3) := by decide +kernel
theorem dX7_matched_26 : decode cX7_matched 26 = .ok (.astore 5, 2) := by decide +kernel
theorem dX7_matched_28 : decode cX7_matched 28 = .ok (.aload 5, 2) := by decide +kernel
theorem dX7_matched_30 : decode cX7_matched 30 = .ok (.ifnull 77, 3) := by decide +kernel
theorem dX7_matched_33 : decode cX7_matched 33 = .ok (.aload_n 0, 1) := by decide +kernel
theorem dX7_matched_34 : decode cX7_matched 34 = .ok (.aload_n 2, 1) := by decide +kernel
theorem dX7_matched_35 : decode cX7_matched 35 = .ok (.aload 5, 2) := by decide +kernel
theorem dX7_matched_37 : decode cX7_matched 37 = .ok (.getfield 82, 3) := by decide +kernel
theorem dX7_matched_40 : decode cX7_matched 40 = .ok (.invokevirtual 145, 3) := by decide +kernel
theorem dX7_matched_43 : decode cX7_matched 43 = .ok (.iconst 0, 1) := by decide +kernel
theorem dX7_matched_44 : decode cX7_matched 44 = .ok (.istore 6, 2) := by decide +kernel
theorem dX7_matched_46 : decode cX7_matched 46 = .ok (.iload 6, 2) := by decide +kernel
theorem dX7_matched_48 : decode cX7_matched 48 = .ok (.aload 5, 2) := by decide +kernel
theorem dX7_matched_50 : decode cX7_matched 50 = .ok (.getfield 82, 3) := by decide +kernel
theorem dX7_matched_53 : decode cX7_matched 53 = .ok (.invokevirtual 128, 3) := by decide +kernel
theorem dX7_matched_56 : decode cX7_matched 56 = .ok (.if_icmp .ge 51, 3) := by decide +kernel
theorem dX7_matched_59 : decode cX7_matched 59 = .ok (.aload 5, 2) := by decide +kernel
theorem dX7_matched_61 : decode cX7_matched 61 = .ok (.iload 6, 2) := by decide +kernel
theorem dX7_matched_63 : decode cX7_matched 63 = .ok (.invokevirtual 149, 3) := by decide +kernel
theorem dX7_matched_66 : decode cX7_matched 66 = .ok (.ifCond .eq 35, 3) := by decide +kernel
theorem dX7_matched_69 : decode cX7_matched 69 = .ok (.aload_n 0, 1) := by decide +kernel
theorem dX7_matched_70 : decode cX7_matched 70 = .ok (.aload_n 2, 1) := by decide +kernel
theorem dX7_matched_71 : decode cX7_matched 71 = .ok (.iload 6, 2) := by decide +kernel
theorem dX7_matched_73 : decode cX7_matched 73 = .ok (.invokevirtual 153, 3) := by decide +kernel
theorem dX7_matched_76 : decode cX7_matched 76 = .ok (.iconst (-1), 1) := by decide +kernel
theorem dX7_matched_77 : decode cX7_matched 77 = .ok (.if_icmp .eq 24, 3) := by decide +kernel
theorem dX7_matched_80 : decode cX7_matched 80 = .ok (.aload_n 3, 1) := by decide +kernel
theorem dX7_matched_81 : decode cX7_matched 81 = .ok (.aload 5, 2) := by decide +kernel
theorem dX7_matched_83 : decode cX7_matched 83 = .ok (.getfield 82, 3) := by decide +kernel
theorem dX7_matched_86 : decode cX7_matched 86 = .ok (.getfield 157, 3) := by decide +kernel
theorem dX7_matched_89 : decode cX7_matched 89 = .ok (.iload 6, 2) := by decide +kernel
theorem dX7_matched_91 : decode cX7_matched 91 = .ok (.invokevirtual 52, 3) := by decide +kernel
theorem dX7_matched_94 : decode cX7_matched 94 = .ok (.checkcast 160, 3) := by decide +kernel
theorem dX7_matched_97 : decode cX7_matched 97 = .ok (.invokevirtual 162, 3) := by decide +kernel
theorem dX7_matched_100 : decode cX7_matched 100 = .ok (.pop, 1) := by decide +kernel
theorem dX7_matched_101 : decode cX7_matched 101 = .ok (.iinc 6 1, 3) := by decide +kernel
theorem dX7_matched_104 : decode cX7_matched 104 = .ok (.goto (-58), 3) := by decide +kernel
theorem dX7_matched_107 : decode cX7_matched 107 = .ok (.iinc 4 1, 3) := by decide +kernel
theorem dX7_matched_110 : decode cX7_matched 110 = .ok (.goto (-99), 3) := by decide +kernel
theorem dX7_matched_113 : decode cX7_matched 113 = .ok (.aload_n 3, 1) := by decide +kernel
theorem dX7_matched_114 : decode cX7_matched 114 = .ok (.areturn, 1) := by decide +kernel
theorem dX7_scanRarities_0 : decode cX7_scanRarities 0 = .ok (.aload_n 2, 1) := by decide +kernel
theorem dX7_scanRarities_1 : decode cX7_scanRarities 1 = .ok (.invokevirtual 35, 3) := by decide +kernel
theorem dX7_scanRarities_4 : decode cX7_scanRarities 4 = .ok (.istore_n 3, 1) := by decide +kernel
theorem dX7_scanRarities_5 : decode cX7_scanRarities 5 = .ok (.iconst 0, 1) := by decide +kernel
theorem dX7_scanRarities_6 : decode cX7_scanRarities 6 = .ok (.istore 4, 2) := by decide +kernel
theorem dX7_scanRarities_8 : decode cX7_scanRarities 8 = .ok (.iload 4, 2) := by decide +kernel
theorem dX7_scanRarities_10 : decode cX7_scanRarities 10 = .ok (.aload_n 1, 1) := by decide +kernel
theorem dX7_scanRarities_11 : decode cX7_scanRarities 11 = .ok (.getfield 41, 3) := by decide +kernel
theorem dX7_scanRarities_14 : decode cX7_scanRarities 14 = .ok (.invokevirtual 47, 3) := by decide +kernel
theorem dX7_scanRarities_17 : decode cX7_scanRarities 17 = .ok (.if_icmp .ge 90, 3) := by decide +kernel
theorem dX7_scanRarities_20 : decode cX7_scanRarities 20 = .ok (.iload 4, 2) := by decide +kernel
theorem dX7_scanRarities_22 : decode cX7_scanRarities 22 = .ok (.aload_n 0, 1) := by decide +kernel
theorem dX7_scanRarities_23 : decode cX7_scanRarities 23 = .ok (.getfield 29, 3) := by decide +kernel
theorem dX7_scanRarities_26 : decode cX7_scanRarities 26 = .ok (.arraylength, 1) := by decide +kernel
theorem dX7_scanRarities_27 : decode cX7_scanRarities 27 = .ok (.if_icmp .ge 80, 3) := by decide +kernel
theorem dX7_scanRarities_30 : decode cX7_scanRarities 30 = .ok (.aload_n 1, 1) := by decide +kernel
theorem dX7_scanRarities_31 : decode cX7_scanRarities 31 = .ok (.getfield 41, 3) := by decide +kernel
theorem dX7_scanRarities_34 : decode cX7_scanRarities 34 = .ok (.iload 4, 2) := by decide +kernel
theorem dX7_scanRarities_36 : decode cX7_scanRarities 36 = .ok (.invokevirtual 52, 3) := by decide +kernel
theorem dX7_scanRarities_39 : decode cX7_scanRarities 39 = .ok (.checkcast 56, 3) := by decide +kernel
theorem dX7_scanRarities_42 : decode cX7_scanRarities 42 = .ok (.astore 5, 2) := by decide +kernel
theorem dX7_scanRarities_44 : decode cX7_scanRarities 44 = .ok (.aload_n 0, 1) := by decide +kernel
theorem dX7_scanRarities_45 : decode cX7_scanRarities 45 = .ok (.getfield 29, 3) := by decide +kernel
theorem dX7_scanRarities_48 : decode cX7_scanRarities 48 = .ok (.iload 4, 2) := by decide +kernel
theorem dX7_scanRarities_50 : decode cX7_scanRarities 50 = .ok (.iconst 0, 1) := by decide +kernel
theorem dX7_scanRarities_51 : decode cX7_scanRarities 51 = .ok (.iastore, 1) := by decide +kernel
theorem dX7_scanRarities_52 : decode cX7_scanRarities 52 = .ok (.iconst 0, 1) := by decide +kernel
theorem dX7_scanRarities_53 : decode cX7_scanRarities 53 = .ok (.istore 6, 2) := by decide +kernel
theorem dX7_scanRarities_55 : decode cX7_scanRarities 55 = .ok (.iload 6, 2) := by decide +kernel
theorem dX7_scanRarities_57 : decode cX7_scanRarities 57 = .ok (.aload 5, 2) := by decide +kernel
theorem dX7_scanRarities_59 : decode cX7_scanRarities 59 = .ok (.invokevirtual 58, 3) := by decide +kernel
theorem dX7_scanRarities_62 : decode cX7_scanRarities 62 = .ok (.if_icmp .ge 39, 3) := by decide +kernel
theorem dX7_scanRarities_65 : decode cX7_scanRarities 65 = .ok (.aload_n 0, 1) := by decide +kernel
theorem dX7_scanRarities_66 : decode cX7_scanRarities 66 = .ok (.getfield 29, 3) := by decide +kernel
theorem dX7_scanRarities_69 : decode cX7_scanRarities 69 = .ok (.iload 4, 2) := by decide +kernel
theorem dX7_scanRarities_71 : decode cX7_scanRarities 71 = .ok (.dup2, 1) := by decide +kernel
theorem dX7_scanRarities_72 : decode cX7_scanRarities 72 = .ok (.iaload, 1) := by decide +kernel
theorem dX7_scanRarities_73 : decode cX7_scanRarities 73 = .ok (.iload_n 3, 1) := by decide +kernel
theorem dX7_scanRarities_74 : decode cX7_scanRarities 74 = .ok (.aload_n 2, 1) := by decide +kernel
theorem dX7_scanRarities_75 : decode cX7_scanRarities 75 = .ok (.aload 5, 2) := by decide +kernel
theorem dX7_scanRarities_77 : decode cX7_scanRarities 77 = .ok (.getfield 61, 3) := by decide +kernel
theorem dX7_scanRarities_80 : decode cX7_scanRarities 80 = .ok (.aload 5, 2) := by decide +kernel
theorem dX7_scanRarities_82 : decode cX7_scanRarities 82 = .ok (.iload 6, 2) := by decide +kernel
theorem dX7_scanRarities_84 : decode cX7_scanRarities 84 = .ok (.invokevirtual 65, 3) := by decide +kernel
theorem dX7_scanRarities_87 : decode cX7_scanRarities 87 = .ok (.invokestatic 166, 3) := by decide +kernel
theorem dX7_scanRarities_90 : decode cX7_scanRarities 90 = .ok (.invokestatic 73, 3) := by decide +kernel
theorem dX7_scanRarities_93 : decode cX7_scanRarities 93 = .ok (.iadd, 1) := by decide +kernel
theorem dX7_scanRarities_94 : decode cX7_scanRarities 94 = .ok (.iastore, 1) := by decide +kernel
theorem dX7_scanRarities_95 : decode cX7_scanRarities 95 = .ok (.iinc 6 1, 3) := by decide +kernel
theorem dX7_scanRarities_98 : decode cX7_scanRarities 98 = .ok (.goto (-43), 3) := by decide +kernel
theorem dX7_scanRarities_101 : decode cX7_scanRarities 101 = .ok (.iinc 4 1, 3) := by decide +kernel
theorem dX7_scanRarities_104 : decode cX7_scanRarities 104 = .ok (.goto (-96), 3) := by decide +kernel
theorem dX7_scanRarities_107 : decode cX7_scanRarities 107 = .ok (.return_, 1) := by decide +kernel
theorem dX7_scanCount_0 : decode cX7_scanCount 0 = .ok (.iconst 0, 1) := by decide +kernel
theorem dX7_scanCount_1 : decode cX7_scanCount 1 = .ok (.istore 4, 2) := by decide +kernel
theorem dX7_scanCount_3 : decode cX7_scanCount 3 = .ok (.iconst 0, 1) := by decide +kernel
theorem dX7_scanCount_4 : decode cX7_scanCount 4 = .ok (.istore 5, 2) := by decide +kernel
theorem dX7_scanCount_6 : decode cX7_scanCount 6 = .ok (.iload 5, 2) := by decide +kernel
theorem dX7_scanCount_8 : decode cX7_scanCount 8 = .ok (.aload_n 0, 1) := by decide +kernel
theorem dX7_scanCount_9 : decode cX7_scanCount 9 = .ok (.invokevirtual 77, 3) := by decide +kernel
theorem dX7_scanCount_12 : decode cX7_scanCount 12 = .ok (.if_icmp .ge 84, 3) := by decide +kernel
theorem dX7_scanCount_15 : decode cX7_scanCount 15 = .ok (.aload_n 0, 1) := by decide +kernel
theorem dX7_scanCount_16 : decode cX7_scanCount 16 = .ok (.iload 5, 2) := by decide +kernel
theorem dX7_scanCount_18 : decode cX7_scanCount 18 = .ok (.invokevirtual 78, 3) := by decide +kernel
theorem dX7_scanCount_21 : decode cX7_scanCount 21 = .ok (.astore 6, 2) := by decide +kernel
theorem dX7_scanCount_23 : decode cX7_scanCount 23 = .ok (.iconst 0, 1) := by decide +kernel
theorem dX7_scanCount_24 : decode cX7_scanCount 24 = .ok (.istore 7, 2) := by decide +kernel
theorem dX7_scanCount_26 : decode cX7_scanCount 26 = .ok (.aload 6, 2) := by decide +kernel
theorem dX7_scanCount_28 : decode cX7_scanCount 28 = .ok (.ifnull 62, 3) := by decide +kernel
theorem dX7_scanCount_31 : decode cX7_scanCount 31 = .ok (.iload 7, 2) := by decide +kernel
theorem dX7_scanCount_33 : decode cX7_scanCount 33 = .ok (.aload 6, 2) := by decide +kernel
theorem dX7_scanCount_35 : decode cX7_scanCount 35 = .ok (.getfield 82, 3) := by decide +kernel
theorem dX7_scanCount_38 : decode cX7_scanCount 38 = .ok (.invokevirtual 128, 3) := by decide +kernel
theorem dX7_scanCount_41 : decode cX7_scanCount 41 = .ok (.if_icmp .ge 49, 3) := by decide +kernel
theorem dX7_scanCount_44 : decode cX7_scanCount 44 = .ok (.aload 6, 2) := by decide +kernel
theorem dX7_scanCount_46 : decode cX7_scanCount 46 = .ok (.iload 7, 2) := by decide +kernel
theorem dX7_scanCount_48 : decode cX7_scanCount 48 = .ok (.invokevirtual 149, 3) := by decide +kernel
theorem dX7_scanCount_51 : decode cX7_scanCount 51 = .ok (.ifCond .eq 33, 3) := by decide +kernel
theorem dX7_scanCount_54 : decode cX7_scanCount 54 = .ok (.aload 6, 2) := by decide +kernel
theorem dX7_scanCount_56 : decode cX7_scanCount 56 = .ok (.getfield 82, 3) := by decide +kernel
theorem dX7_scanCount_59 : decode cX7_scanCount 59 = .ok (.getfield 157, 3) := by decide +kernel
theorem dX7_scanCount_62 : decode cX7_scanCount 62 = .ok (.iload 7, 2) := by decide +kernel
theorem dX7_scanCount_64 : decode cX7_scanCount 64 = .ok (.invokevirtual 52, 3) := by decide +kernel
theorem dX7_scanCount_67 : decode cX7_scanCount 67 = .ok (.checkcast 160, 3) := by decide +kernel
theorem dX7_scanCount_70 : decode cX7_scanCount 70 = .ok (.iload_n 1, 1) := by decide +kernel
theorem dX7_scanCount_71 : decode cX7_scanCount 71 = .ok (.invokevirtual 169, 3) := by decide +kernel
theorem dX7_scanCount_74 : decode cX7_scanCount 74 = .ok (.lload_n 2, 1) := by decide +kernel
theorem dX7_scanCount_75 : decode cX7_scanCount 75 = .ok (.invokevirtual 173, 3) := by decide +kernel
theorem dX7_scanCount_78 : decode cX7_scanCount 78 = .ok (.ifCond .eq 6, 3) := by decide +kernel
theorem dX7_scanCount_81 : decode cX7_scanCount 81 = .ok (.iinc 4 1, 3) := by decide +kernel
theorem dX7_scanCount_84 : decode cX7_scanCount 84 = .ok (.iinc 7 1, 3) := by decide +kernel
theorem dX7_scanCount_87 : decode cX7_scanCount 87 = .ok (.goto (-61), 3) := by decide +kernel
theorem dX7_scanCount_90 : decode cX7_scanCount 90 = .ok (.iinc 5 1, 3) := by decide +kernel
theorem dX7_scanCount_93 : decode cX7_scanCount 93 = .ok (.goto (-87), 3) := by decide +kernel
theorem dX7_scanCount_96 : decode cX7_scanCount 96 = .ok (.iload 4, 2) := by decide +kernel
theorem dX7_scanCount_98 : decode cX7_scanCount 98 = .ok (.ireturn, 1) := by decide +kernel
theorem dX7_scanDocument_0 : decode cX7_scanDocument 0 = .ok (.iconst 0, 1) := by decide +kernel
theorem dX7_scanDocument_1 : decode cX7_scanDocument 1 = .ok (.istore_n 3, 1) := by decide +kernel
theorem dX7_scanDocument_2 : decode cX7_scanDocument 2 = .ok (.iload_n 3, 1) := by decide +kernel
theorem dX7_scanDocument_3 : decode cX7_scanDocument 3 = .ok (.aload_n 1, 1) := by decide +kernel
theorem dX7_scanDocument_4 : decode cX7_scanDocument 4 = .ok (.getfield 41, 3) := by decide +kernel
theorem dX7_scanDocument_7 : decode cX7_scanDocument 7 = .ok (.invokevirtual 47, 3) := by decide +kernel
theorem dX7_scanDocument_10 : decode cX7_scanDocument 10 = .ok (.if_icmp .ge 73, 3) := by decide +kernel
theorem dX7_scanDocument_13 : decode cX7_scanDocument 13 = .ok (.iload_n 3, 1) := by decide +kernel
theorem dX7_scanDocument_14 : decode cX7_scanDocument 14 = .ok (.bipush 24, 2) := by decide +kernel
theorem dX7_scanDocument_16 : decode cX7_scanDocument 16 = .ok (.if_icmp .ge 67, 3) := by decide +kernel
theorem dX7_scanDocument_19 : decode cX7_scanDocument 19 = .ok (.aload_n 1, 1) := by decide +kernel
theorem dX7_scanDocument_20 : decode cX7_scanDocument 20 = .ok (.getfield 41, 3) := by decide +kernel
theorem dX7_scanDocument_23 : decode cX7_scanDocument 23 = .ok (.iload_n 3, 1) := by decide +kernel
theorem dX7_scanDocument_24 : decode cX7_scanDocument 24 = .ok (.invokevirtual 52, 3) := by decide +kernel
theorem dX7_scanDocument_27 : decode cX7_scanDocument 27 = .ok (.checkcast 56, 3) := by decide +kernel
theorem dX7_scanDocument_30 : decode cX7_scanDocument 30 = .ok (.astore 4, 2) := by decide +kernel
theorem dX7_scanDocument_32 : decode cX7_scanDocument 32 = .ok (.aload_n 2, 1) := by decide +kernel
theorem dX7_scanDocument_33 : decode cX7_scanDocument 33 = .ok (.aload 4, 2) := by decide +kernel
theorem dX7_scanDocument_35 : decode cX7_scanDocument 35 = .ok (.getfield 61, 3) := by decide +kernel
theorem dX7_scanDocument_38 : decode cX7_scanDocument 38 = .ok (.invokevirtual 169, 3) := by decide +kernel
theorem dX7_scanDocument_41 : decode cX7_scanDocument 41 = .ok (.astore 5, 2) := by decide +kernel
theorem dX7_scanDocument_43 : decode cX7_scanDocument 43 = .ok (.aload_n 0, 1) := by decide +kernel
theorem dX7_scanDocument_44 : decode cX7_scanDocument 44 = .ok (.getfield 17, 3) := by decide +kernel
theorem dX7_scanDocument_47 : decode cX7_scanDocument 47 = .ok (.iload_n 3, 1) := by decide +kernel
theorem dX7_scanDocument_48 : decode cX7_scanDocument 48 = .ok (.aaload, 1) := by decide +kernel
theorem dX7_scanDocument_49 : decode cX7_scanDocument 49 = .ok (.iconst 0, 1) := by decide +kernel
theorem dX7_scanDocument_50 : decode cX7_scanDocument 50 = .ok (.aload 4, 2) := by decide +kernel
theorem dX7_scanDocument_52 : decode cX7_scanDocument 52 = .ok (.invokevirtual 110, 3) := by decide +kernel
theorem dX7_scanDocument_55 : decode cX7_scanDocument 55 = .ok (.ifCond .eq 14, 3) := by decide +kernel
theorem dX7_scanDocument_58 : decode cX7_scanDocument 58 = .ok (.aload_n 0, 1) := by decide +kernel
theorem dX7_scanDocument_59 : decode cX7_scanDocument 59 = .ok (.aload 4, 2) := by decide +kernel
theorem dX7_scanDocument_61 : decode cX7_scanDocument 61 = .ok (.aload 5, 2) := by decide +kernel
theorem dX7_scanDocument_63 : decode cX7_scanDocument 63 = .ok (.invokevirtual 179, 3) := by decide +kernel
theorem dX7_scanDocument_66 : decode cX7_scanDocument 66 = .ok (.goto 10, 3) := by decide +kernel
theorem dX7_scanDocument_69 : decode cX7_scanDocument 69 = .ok (.aload 4, 2) := by decide +kernel
theorem dX7_scanDocument_71 : decode cX7_scanDocument 71 = .ok (.aload 5, 2) := by decide +kernel
theorem dX7_scanDocument_73 : decode cX7_scanDocument 73 = .ok (.invokestatic 183, 3) := by decide +kernel
theorem dX7_scanDocument_76 : decode cX7_scanDocument 76 = .ok (.iastore, 1) := by decide +kernel
theorem dX7_scanDocument_77 : decode cX7_scanDocument 77 = .ok (.iinc 3 1, 3) := by decide +kernel
theorem dX7_scanDocument_80 : decode cX7_scanDocument 80 = .ok (.goto (-78), 3) := by decide +kernel
theorem dX7_scanDocument_83 : decode cX7_scanDocument 83 = .ok (.return_, 1) := by decide +kernel
theorem dX7_scanCounted_0 : decode cX7_scanCounted 0 = .ok (.iconst 0, 1) := by decide +kernel
theorem dX7_scanCounted_1 : decode cX7_scanCounted 1 = .ok (.istore_n 3, 1) := by decide +kernel
theorem dX7_scanCounted_2 : decode cX7_scanCounted 2 = .ok (.iload_n 3, 1) := by decide +kernel
theorem dX7_scanCounted_3 : decode cX7_scanCounted 3 = .ok (.aload_n 1, 1) := by decide +kernel
theorem dX7_scanCounted_4 : decode cX7_scanCounted 4 = .ok (.invokevirtual 58, 3) := by decide +kernel
theorem dX7_scanCounted_7 : decode cX7_scanCounted 7 = .ok (.if_icmp .ge 33, 3) := by decide +kernel
theorem dX7_scanCounted_10 : decode cX7_scanCounted 10 = .ok (.iload_n 3, 1) := by decide +kernel
theorem dX7_scanCounted_11 : decode cX7_scanCounted 11 = .ok (.aload_n 0, 1) := by decide +kernel
theorem dX7_scanCounted_12 : decode cX7_scanCounted 12 = .ok (.getfield 26, 3) := by decide +kernel
theorem dX7_scanCounted_15 : decode cX7_scanCounted 15 = .ok (.arraylength, 1) := by decide +kernel
theorem dX7_scanCounted_16 : decode cX7_scanCounted 16 = .ok (.if_icmp .ge 24, 3) := by decide +kernel
theorem dX7_scanCounted_19 : decode cX7_scanCounted 19 = .ok (.aload_n 0, 1) := by decide +kernel
theorem dX7_scanCounted_20 : decode cX7_scanCounted 20 = .ok (.getfield 26, 3) := by decide +kernel
theorem dX7_scanCounted_23 : decode cX7_scanCounted 23 = .ok (.iload_n 3, 1) := by decide +kernel
theorem dX7_scanCounted_24 : decode cX7_scanCounted 24 = .ok (.aload_n 2, 1) := by decide +kernel
theorem dX7_scanCounted_25 : decode cX7_scanCounted 25 = .ok (.aload_n 1, 1) := by decide +kernel
theorem dX7_scanCounted_26 : decode cX7_scanCounted 26 = .ok (.iload_n 3, 1) := by decide +kernel
theorem dX7_scanCounted_27 : decode cX7_scanCounted 27 = .ok (.invokevirtual 65, 3) := by decide +kernel
theorem dX7_scanCounted_30 : decode cX7_scanCounted 30 = .ok (.invokevirtual 173, 3) := by decide +kernel
theorem dX7_scanCounted_33 : decode cX7_scanCounted 33 = .ok (.iastore, 1) := by decide +kernel
theorem dX7_scanCounted_34 : decode cX7_scanCounted 34 = .ok (.iinc 3 1, 3) := by decide +kernel
theorem dX7_scanCounted_37 : decode cX7_scanCounted 37 = .ok (.goto (-35), 3) := by decide +kernel
theorem dX7_scanCounted_40 : decode cX7_scanCounted 40 = .ok (.aload_n 1, 1) := by decide +kernel
theorem dX7_scanCounted_41 : decode cX7_scanCounted 41 = .ok (.aload_n 0, 1) := by decide +kernel
theorem dX7_scanCounted_42 : decode cX7_scanCounted 42 = .ok (.getfield 26, 3) := by decide +kernel
theorem dX7_scanCounted_45 : decode cX7_scanCounted 45 = .ok (.invokevirtual 129, 3) := by decide +kernel
theorem dX7_scanCounted_48 : decode cX7_scanCounted 48 = .ok (.ireturn, 1) := by decide +kernel
theorem dX7_scanTold_0 : decode cX7_scanTold 0 = .ok (.iconst 0, 1) := by decide +kernel
theorem dX7_scanTold_1 : decode cX7_scanTold 1 = .ok (.istore_n 2, 1) := by decide +kernel
theorem dX7_scanTold_2 : decode cX7_scanTold 2 = .ok (.iconst 0, 1) := by decide +kernel
theorem dX7_scanTold_3 : decode cX7_scanTold 3 = .ok (.istore_n 3, 1) := by decide +kernel
theorem dX7_scanTold_4 : decode cX7_scanTold 4 = .ok (.iload_n 3, 1) := by decide +kernel
theorem dX7_scanTold_5 : decode cX7_scanTold 5 = .ok (.aload_n 1, 1) := by decide +kernel
theorem dX7_scanTold_6 : decode cX7_scanTold 6 = .ok (.getfield 186, 3) := by decide +kernel
theorem dX7_scanTold_9 : decode cX7_scanTold 9 = .ok (.if_icmp .ge 31, 3) := by decide +kernel
theorem dX7_scanTold_12 : decode cX7_scanTold 12 = .ok (.aload_n 0, 1) := by decide +kernel
theorem dX7_scanTold_13 : decode cX7_scanTold 13 = .ok (.aload_n 1, 1) := by decide +kernel
theorem dX7_scanTold_14 : decode cX7_scanTold 14 = .ok (.iload_n 3, 1) := by decide +kernel
theorem dX7_scanTold_15 : decode cX7_scanTold 15 = .ok (.invokevirtual 189, 3) := by decide +kernel
theorem dX7_scanTold_18 : decode cX7_scanTold 18 = .ok (.invokevirtual 140, 3) := by decide +kernel
theorem dX7_scanTold_21 : decode cX7_scanTold 21 = .ok (.ifCond .eq 13, 3) := by decide +kernel
theorem dX7_scanTold_24 : decode cX7_scanTold 24 = .ok (.iload_n 2, 1) := by decide +kernel
theorem dX7_scanTold_25 : decode cX7_scanTold 25 = .ok (.iconst 1, 1) := by decide +kernel
theorem dX7_scanTold_26 : decode cX7_scanTold 26 = .ok (.aload_n 1, 1) := by decide +kernel
theorem dX7_scanTold_27 : decode cX7_scanTold 27 = .ok (.iload_n 3, 1) := by decide +kernel
theorem dX7_scanTold_28 : decode cX7_scanTold 28 = .ok (.invokevirtual 192, 3) := by decide +kernel
theorem dX7_scanTold_31 : decode cX7_scanTold 31 = .ok (.ishl, 1) := by decide +kernel
theorem dX7_scanTold_32 : decode cX7_scanTold 32 = .ok (.ior, 1) := by decide +kernel
theorem dX7_scanTold_33 : decode cX7_scanTold 33 = .ok (.istore_n 2, 1) := by decide +kernel
theorem dX7_scanTold_34 : decode cX7_scanTold 34 = .ok (.iinc 3 1, 3) := by decide +kernel
theorem dX7_scanTold_37 : decode cX7_scanTold 37 = .ok (.goto (-33), 3) := by decide +kernel
theorem dX7_scanTold_40 : decode cX7_scanTold 40 = .ok (.iload_n 2, 1) := by decide +kernel
theorem dX7_scanTold_41 : decode cX7_scanTold 41 = .ok (.ireturn, 1) := by decide +kernel
theorem dX7_scannedCount_0 : decode cX7_scannedCount 0 = .ok (.iconst 0, 1) := by decide +kernel
theorem dX7_scannedCount_1 : decode cX7_scannedCount 1 = .ok (.istore_n 3, 1) := by decide +kernel
theorem dX7_scannedCount_2 : decode cX7_scannedCount 2 = .ok (.iconst 0, 1) := by decide +kernel
theorem dX7_scannedCount_3 : decode cX7_scannedCount 3 = .ok (.istore 4, 2) := by decide +kernel
theorem dX7_scannedCount_5 : decode cX7_scannedCount 5 = .ok (.iload 4, 2) := by decide +kernel
theorem dX7_scannedCount_7 : decode cX7_scannedCount 7 = .ok (.aload_n 1, 1) := by decide +kernel
theorem dX7_scannedCount_8 : decode cX7_scannedCount 8 = .ok (.invokevirtual 77, 3) := by decide +kernel
theorem dX7_scannedCount_11 : decode cX7_scannedCount 11 = .ok (.if_icmp .ge 93, 3) := by decide +kernel
theorem dX7_scannedCount_14 : decode cX7_scannedCount 14 = .ok (.aload_n 1, 1) := by decide +kernel
theorem dX7_scannedCount_15 : decode cX7_scannedCount 15 = .ok (.iload 4, 2) := by decide +kernel
theorem dX7_scannedCount_17 : decode cX7_scannedCount 17 = .ok (.invokevirtual 78, 3) := by decide +kernel
theorem dX7_scannedCount_20 : decode cX7_scannedCount 20 = .ok (.astore 5, 2) := by decide +kernel
theorem dX7_scannedCount_22 : decode cX7_scannedCount 22 = .ok (.iconst 0, 1) := by decide +kernel
theorem dX7_scannedCount_23 : decode cX7_scannedCount 23 = .ok (.istore 6, 2) := by decide +kernel
theorem dX7_scannedCount_25 : decode cX7_scannedCount 25 = .ok (.aload 5, 2) := by decide +kernel
theorem dX7_scannedCount_27 : decode cX7_scannedCount 27 = .ok (.ifnull 71, 3) := by decide +kernel
theorem dX7_scannedCount_30 : decode cX7_scannedCount 30 = .ok (.iload 6, 2) := by decide +kernel
theorem dX7_scannedCount_32 : decode cX7_scannedCount 32 = .ok (.aload 5, 2) := by decide +kernel
theorem dX7_scannedCount_34 : decode cX7_scannedCount 34 = .ok (.getfield 82, 3) := by decide +kernel
theorem dX7_scannedCount_37 : decode cX7_scannedCount 37 = .ok (.invokevirtual 128, 3) := by decide +kernel
theorem dX7_scannedCount_40 : decode cX7_scannedCount 40 = .ok (.if_icmp .ge 58, 3) := by decide +kernel
theorem dX7_scannedCount_43 : decode cX7_scannedCount 43 = .ok (.aload 5, 2) := by decide +kernel
theorem dX7_scannedCount_45 : decode cX7_scannedCount 45 = .ok (.iload 6, 2) := by decide +kernel
theorem dX7_scannedCount_47 : decode cX7_scannedCount 47 = .ok (.invokevirtual 149, 3) := by decide +kernel
theorem dX7_scannedCount_50 : decode cX7_scannedCount 50 = .ok (.ifCond .eq 42, 3) := by decide +kernel
theorem dX7_scannedCount_53 : decode cX7_scannedCount 53 = .ok (.aload_n 0, 1) := by decide +kernel
theorem dX7_scannedCount_54 : decode cX7_scannedCount 54 = .ok (.aload_n 2, 1) := by decide +kernel
theorem dX7_scannedCount_55 : decode cX7_scannedCount 55 = .ok (.aload 5, 2) := by decide +kernel
theorem dX7_scannedCount_57 : decode cX7_scannedCount 57 = .ok (.getfield 82, 3) := by decide +kernel
theorem dX7_scannedCount_60 : decode cX7_scannedCount 60 = .ok (.getfield 157, 3) := by decide +kernel
theorem dX7_scannedCount_63 : decode cX7_scannedCount 63 = .ok (.iload 6, 2) := by decide +kernel
theorem dX7_scannedCount_65 : decode cX7_scannedCount 65 = .ok (.invokevirtual 52, 3) := by decide +kernel
theorem dX7_scannedCount_68 : decode cX7_scannedCount 68 = .ok (.checkcast 160, 3) := by decide +kernel
theorem dX7_scannedCount_71 : decode cX7_scannedCount 71 = .ok (.invokevirtual 196, 3) := by decide +kernel
theorem dX7_scannedCount_74 : decode cX7_scannedCount 74 = .ok (.iload_n 3, 1) := by decide +kernel
theorem dX7_scannedCount_75 : decode cX7_scannedCount 75 = .ok (.aload_n 0, 1) := by decide +kernel
theorem dX7_scannedCount_76 : decode cX7_scannedCount 76 = .ok (.aload_n 2, 1) := by decide +kernel
theorem dX7_scannedCount_77 : decode cX7_scannedCount 77 = .ok (.iconst 0, 1) := by decide +kernel
theorem dX7_scannedCount_78 : decode cX7_scannedCount 78 = .ok (.invokevirtual 153, 3) := by decide +kernel
theorem dX7_scannedCount_81 : decode cX7_scannedCount 81 = .ok (.iconst (-1), 1) := by decide +kernel
theorem dX7_scannedCount_82 : decode cX7_scannedCount 82 = .ok (.if_icmp .ne 7, 3) := by decide +kernel
theorem dX7_scannedCount_85 : decode cX7_scannedCount 85 = .ok (.iconst 0, 1) := by decide +kernel
theorem dX7_scannedCount_86 : decode cX7_scannedCount 86 = .ok (.goto 4, 3) := by decide +kernel
theorem dX7_scannedCount_89 : decode cX7_scannedCount 89 = .ok (.iconst 1, 1) := by decide +kernel
theorem dX7_scannedCount_90 : decode cX7_scannedCount 90 = .ok (.iadd, 1) := by decide +kernel
theorem dX7_scannedCount_91 : decode cX7_scannedCount 91 = .ok (.istore_n 3, 1) := by decide +kernel
theorem dX7_scannedCount_92 : decode cX7_scannedCount 92 = .ok (.iinc 6 1, 3) := by decide +kernel
theorem dX7_scannedCount_95 : decode cX7_scannedCount 95 = .ok (.goto (-70), 3) := by decide +kernel
theorem dX7_scannedCount_98 : decode cX7_scannedCount 98 = .ok (.iinc 4 1, 3) := by decide +kernel
theorem dX7_scannedCount_101 : decode cX7_scannedCount 101 = .ok (.goto (-96), 3) := by decide +kernel
theorem dX7_scannedCount_104 : decode cX7_scannedCount 104 = .ok (.iload_n 3, 1) := by decide +kernel
theorem dX7_scannedCount_105 : decode cX7_scannedCount 105 = .ok (.ireturn, 1) := by decide +kernel
theorem dX7_markAt_0 : decode cX7_markAt 0 = .ok (.iload_n 1, 1) := by decide +kernel
theorem dX7_markAt_1 : decode cX7_markAt 1 = .ok (.ifCond .lt 19, 3) := by decide +kernel
theorem dX7_markAt_4 : decode cX7_markAt 4 = .ok (.iload_n 1, 1) := by decide +kernel
theorem dX7_markAt_5 : decode cX7_markAt 5 = .ok (.bipush 24, 2) := by decide +kernel
theorem dX7_markAt_7 : decode cX7_markAt 7 = .ok (.if_icmp .ge 13, 3) := by decide +kernel
theorem dX7_markAt_10 : decode cX7_markAt 10 = .ok (.iload_n 2, 1) := by decide +kernel
theorem dX7_markAt_11 : decode cX7_markAt 11 = .ok (.ifCond .lt 9, 3) := by decide +kernel
theorem dX7_markAt_14 : decode cX7_markAt 14 = .ok (.iload_n 2, 1) := by decide +kernel
theorem dX7_markAt_15 : decode cX7_markAt 15 = .ok (.bipush 100, 2) := by decide +kernel
theorem dX7_markAt_17 : decode cX7_markAt 17 = .ok (.if_icmp .lt 7, 3) := by decide +kernel
theorem dX7_markAt_20 : decode cX7_markAt 20 = .ok (.iconst 0, 1) := by decide +kernel
theorem dX7_markAt_21 : decode cX7_markAt 21 = .ok (.goto 11, 3) := by decide +kernel
theorem dX7_markAt_24 : decode cX7_markAt 24 = .ok (.aload_n 0, 1) := by decide +kernel
theorem dX7_markAt_25 : decode cX7_markAt 25 = .ok (.getfield 17, 3) := by decide +kernel
theorem dX7_markAt_28 : decode cX7_markAt 28 = .ok (.iload_n 1, 1) := by decide +kernel
theorem dX7_markAt_29 : decode cX7_markAt 29 = .ok (.aaload, 1) := by decide +kernel
theorem dX7_markAt_30 : decode cX7_markAt 30 = .ok (.iload_n 2, 1) := by decide +kernel
theorem dX7_markAt_31 : decode cX7_markAt 31 = .ok (.iaload, 1) := by decide +kernel
theorem dX7_markAt_32 : decode cX7_markAt 32 = .ok (.ireturn, 1) := by decide +kernel
theorem dX7_valueAt_0 : decode cX7_valueAt 0 = .ok (.iconst 0, 1) := by decide +kernel
theorem dX7_valueAt_1 : decode cX7_valueAt 1 = .ok (.istore_n 3, 1) := by decide +kernel
theorem dX7_valueAt_2 : decode cX7_valueAt 2 = .ok (.iload_n 3, 1) := by decide +kernel
theorem dX7_valueAt_3 : decode cX7_valueAt 3 = .ok (.aload_n 1, 1) := by decide +kernel
theorem dX7_valueAt_4 : decode cX7_valueAt 4 = .ok (.getfield 41, 3) := by decide +kernel
theorem dX7_valueAt_7 : decode cX7_valueAt 7 = .ok (.invokevirtual 47, 3) := by decide +kernel
theorem dX7_valueAt_10 : decode cX7_valueAt 10 = .ok (.if_icmp .ge 62, 3) := by decide +kernel
theorem dX7_valueAt_13 : decode cX7_valueAt 13 = .ok (.iload_n 3, 1) := by decide +kernel
theorem dX7_valueAt_14 : decode cX7_valueAt 14 = .ok (.aload_n 0, 1) := by decide +kernel
theorem dX7_valueAt_15 : decode cX7_valueAt 15 = .ok (.getfield 32, 3) := by decide +kernel
theorem dX7_valueAt_18 : decode cX7_valueAt 18 = .ok (.arraylength, 1) := by decide +kernel
theorem dX7_valueAt_19 : decode cX7_valueAt 19 = .ok (.if_icmp .ge 53, 3) := by decide +kernel
theorem dX7_valueAt_22 : decode cX7_valueAt 22 = .ok (.aload_n 0, 1) := by decide +kernel
theorem dX7_valueAt_23 : decode cX7_valueAt 23 = .ok (.iload_n 3, 1) := by decide +kernel
theorem dX7_valueAt_24 : decode cX7_valueAt 24 = .ok (.iload_n 2, 1) := by decide +kernel
theorem dX7_valueAt_25 : decode cX7_valueAt 25 = .ok (.invokevirtual 200, 3) := by decide +kernel
theorem dX7_valueAt_28 : decode cX7_valueAt 28 = .ok (.istore 4, 2) := by decide +kernel
theorem dX7_valueAt_30 : decode cX7_valueAt 30 = .ok (.aload_n 0, 1) := by decide +kernel
theorem dX7_valueAt_31 : decode cX7_valueAt 31 = .ok (.getfield 32, 3) := by decide +kernel
theorem dX7_valueAt_34 : decode cX7_valueAt 34 = .ok (.iload_n 3, 1) := by decide +kernel
theorem dX7_valueAt_35 : decode cX7_valueAt 35 = .ok (.iload 4, 2) := by decide +kernel
theorem dX7_valueAt_37 : decode cX7_valueAt 37 = .ok (.ifCond .ne 7, 3) := by decide +kernel
theorem dX7_valueAt_40 : decode cX7_valueAt 40 = .ok (.iconst (-1), 1) := by decide +kernel
theorem dX7_valueAt_41 : decode cX7_valueAt 41 = .ok (.goto 24, 3) := by decide +kernel
theorem dX7_valueAt_44 : decode cX7_valueAt 44 = .ok (.aload_n 0, 1) := by decide +kernel
theorem dX7_valueAt_45 : decode cX7_valueAt 45 = .ok (.aload_n 1, 1) := by decide +kernel
theorem dX7_valueAt_46 : decode cX7_valueAt 46 = .ok (.getfield 41, 3) := by decide +kernel
theorem dX7_valueAt_49 : decode cX7_valueAt 49 = .ok (.iload_n 3, 1) := by decide +kernel
theorem dX7_valueAt_50 : decode cX7_valueAt 50 = .ok (.invokevirtual 52, 3) := by decide +kernel
theorem dX7_valueAt_53 : decode cX7_valueAt 53 = .ok (.checkcast 56, 3) := by decide +kernel
theorem dX7_valueAt_56 : decode cX7_valueAt 56 = .ok (.iload_n 3, 1) := by decide +kernel
theorem dX7_valueAt_57 : decode cX7_valueAt 57 = .ok (.iload 4, 2) := by decide +kernel
theorem dX7_valueAt_59 : decode cX7_valueAt 59 = .ok (.invokestatic 203, 3) := by decide +kernel
theorem dX7_valueAt_62 : decode cX7_valueAt 62 = .ok (.invokevirtual 208, 3) := by decide +kernel
theorem dX7_valueAt_65 : decode cX7_valueAt 65 = .ok (.iastore, 1) := by decide +kernel
theorem dX7_valueAt_66 : decode cX7_valueAt 66 = .ok (.iinc 3 1, 3) := by decide +kernel
theorem dX7_valueAt_69 : decode cX7_valueAt 69 = .ok (.goto (-67), 3) := by decide +kernel
theorem dX7_valueAt_72 : decode cX7_valueAt 72 = .ok (.aload_n 1, 1) := by decide +kernel
theorem dX7_valueAt_73 : decode cX7_valueAt 73 = .ok (.aload_n 0, 1) := by decide +kernel
theorem dX7_valueAt_74 : decode cX7_valueAt 74 = .ok (.getfield 32, 3) := by decide +kernel
theorem dX7_valueAt_77 : decode cX7_valueAt 77 = .ok (.invokevirtual 212, 3) := by decide +kernel
theorem dX7_valueAt_80 : decode cX7_valueAt 80 = .ok (.ireturn, 1) := by decide +kernel
theorem dX7_boundOf_0 : decode cX7_boundOf 0 = .ok (.iconst 0, 1) := by decide +kernel
theorem dX7_boundOf_1 : decode cX7_boundOf 1 = .ok (.istore 4, 2) := by decide +kernel
theorem dX7_boundOf_3 : decode cX7_boundOf 3 = .ok (.iconst 0, 1) := by decide +kernel
theorem dX7_boundOf_4 : decode cX7_boundOf 4 = .ok (.istore 5, 2) := by decide +kernel
theorem dX7_boundOf_6 : decode cX7_boundOf 6 = .ok (.iload 5, 2) := by decide +kernel
theorem dX7_boundOf_8 : decode cX7_boundOf 8 = .ok (.aload_n 1, 1) := by decide +kernel
theorem dX7_boundOf_9 : decode cX7_boundOf 9 = .ok (.getfield 41, 3) := by decide +kernel
theorem dX7_boundOf_12 : decode cX7_boundOf 12 = .ok (.invokevirtual 47, 3) := by decide +kernel
theorem dX7_boundOf_15 : decode cX7_boundOf 15 = .ok (.if_icmp .ge 113, 3) := by decide +kernel
theorem dX7_boundOf_18 : decode cX7_boundOf 18 = .ok (.iload 5, 2) := by decide +kernel
theorem dX7_boundOf_20 : decode cX7_boundOf 20 = .ok (.bipush 24, 2) := by decide +kernel
theorem dX7_boundOf_22 : decode cX7_boundOf 22 = .ok (.if_icmp .ge 106, 3) := by decide +kernel
theorem dX7_boundOf_25 : decode cX7_boundOf 25 = .ok (.iconst 0, 1) := by decide +kernel
theorem dX7_boundOf_26 : decode cX7_boundOf 26 = .ok (.istore 6, 2) := by decide +kernel
theorem dX7_boundOf_28 : decode cX7_boundOf 28 = .ok (.iload_n 2, 1) := by decide +kernel
theorem dX7_boundOf_29 : decode cX7_boundOf 29 = .ok (.iconst 0, 1) := by decide +kernel
theorem dX7_boundOf_30 : decode cX7_boundOf 30 = .ok (.invokestatic 215, 3) := by decide +kernel
theorem dX7_boundOf_33 : decode cX7_boundOf 33 = .ok (.istore 7, 2) := by decide +kernel
theorem dX7_boundOf_35 : decode cX7_boundOf 35 = .ok (.iload 7, 2) := by decide +kernel
theorem dX7_boundOf_37 : decode cX7_boundOf 37 = .ok (.iload_n 3, 1) := by decide +kernel
theorem dX7_boundOf_38 : decode cX7_boundOf 38 = .ok (.if_icmp .ge 36, 3) := by decide +kernel
theorem dX7_boundOf_41 : decode cX7_boundOf 41 = .ok (.iload 7, 2) := by decide +kernel
theorem dX7_boundOf_43 : decode cX7_boundOf 43 = .ok (.bipush 100, 2) := by decide +kernel
theorem dX7_boundOf_45 : decode cX7_boundOf 45 = .ok (.if_icmp .ge 29, 3) := by decide +kernel
theorem dX7_boundOf_48 : decode cX7_boundOf 48 = .ok (.iload 6, 2) := by decide +kernel
theorem dX7_boundOf_50 : decode cX7_boundOf 50 = .ok (.aload_n 0, 1) := by decide +kernel
theorem dX7_boundOf_51 : decode cX7_boundOf 51 = .ok (.getfield 20, 3) := by decide +kernel
theorem dX7_boundOf_54 : decode cX7_boundOf 54 = .ok (.iload 5, 2) := by decide +kernel
theorem dX7_boundOf_56 : decode cX7_boundOf 56 = .ok (.aaload, 1) := by decide +kernel
theorem dX7_boundOf_57 : decode cX7_boundOf 57 = .ok (.iload 7, 2) := by decide +kernel
theorem dX7_boundOf_59 : decode cX7_boundOf 59 = .ok (.iaload, 1) := by decide +kernel
theorem dX7_boundOf_60 : decode cX7_boundOf 60 = .ok (.invokestatic 203, 3) := by decide +kernel
theorem dX7_boundOf_63 : decode cX7_boundOf 63 = .ok (.invokestatic 215, 3) := by decide +kernel
theorem dX7_boundOf_66 : decode cX7_boundOf 66 = .ok (.istore 6, 2) := by decide +kernel
theorem dX7_boundOf_68 : decode cX7_boundOf 68 = .ok (.iinc 7 1, 3) := by decide +kernel
theorem dX7_boundOf_71 : decode cX7_boundOf 71 = .ok (.goto (-36), 3) := by decide +kernel
theorem dX7_boundOf_74 : decode cX7_boundOf 74 = .ok (.iload 6, 2) := by decide +kernel
theorem dX7_boundOf_76 : decode cX7_boundOf 76 = .ok (.ifCond .le 46, 3) := by decide +kernel
theorem dX7_boundOf_79 : decode cX7_boundOf 79 = .ok (.aload_n 1, 1) := by decide +kernel
theorem dX7_boundOf_80 : decode cX7_boundOf 80 = .ok (.getfield 41, 3) := by decide +kernel
theorem dX7_boundOf_83 : decode cX7_boundOf 83 = .ok (.iload 5, 2) := by decide +kernel
theorem dX7_boundOf_85 : decode cX7_boundOf 85 = .ok (.invokevirtual 52, 3) := by decide +kernel
theorem dX7_boundOf_88 : decode cX7_boundOf 88 = .ok (.checkcast 56, 3) := by decide +kernel
theorem dX7_boundOf_91 : decode cX7_boundOf 91 = .ok (.getfield 220, 3) := by decide +kernel
theorem dX7_boundOf_94 : decode cX7_boundOf 94 = .ok (.ifCond .ne 28, 3) := by decide +kernel
theorem dX7_boundOf_97 : decode cX7_boundOf 97 = .ok (.iload 4, 2) := by decide +kernel
theorem dX7_boundOf_99 : decode cX7_boundOf 99 = .ok (.aload_n 0, 1) := by decide +kernel
theorem dX7_boundOf_100 : decode cX7_boundOf 100 = .ok (.aload_n 1, 1) := by decide +kernel
theorem dX7_boundOf_101 : decode cX7_boundOf 101 = .ok (.getfield 41, 3) := by decide +kernel
theorem dX7_boundOf_104 : decode cX7_boundOf 104 = .ok (.iload 5, 2) := by decide +kernel
theorem dX7_boundOf_106 : decode cX7_boundOf 106 = .ok (.invokevirtual 52, 3) := by decide +kernel
theorem dX7_boundOf_109 : decode cX7_boundOf 109 = .ok (.checkcast 56, 3) := by decide +kernel
theorem dX7_boundOf_112 : decode cX7_boundOf 112 = .ok (.iload 5, 2) := by decide +kernel
theorem dX7_boundOf_114 : decode cX7_boundOf 114 = .ok (.iload 6, 2) := by decide +kernel
theorem dX7_boundOf_116 : decode cX7_boundOf 116 = .ok (.invokevirtual 208, 3) := by decide +kernel
theorem dX7_boundOf_119 : decode cX7_boundOf 119 = .ok (.iadd, 1) := by decide +kernel
theorem dX7_boundOf_120 : decode cX7_boundOf 120 = .ok (.istore 4, 2) := by decide +kernel
theorem dX7_boundOf_122 : decode cX7_boundOf 122 = .ok (.iinc 5 1, 3) := by decide +kernel
theorem dX7_boundOf_125 : decode cX7_boundOf 125 = .ok (.goto (-119), 3) := by decide +kernel
theorem dX7_boundOf_128 : decode cX7_boundOf 128 = .ok (.iload 4, 2) := by decide +kernel
theorem dX7_boundOf_130 : decode cX7_boundOf 130 = .ok (.ireturn, 1) := by decide +kernel
theorem dX7_giveOf_0 : decode cX7_giveOf 0 = .ok (.aload_n 1, 1) := by decide +kernel
theorem dX7_giveOf_1 : decode cX7_giveOf 1 = .ok (.getfield 61, 3) := by decide +kernel
theorem dX7_giveOf_4 : decode cX7_giveOf 4 = .ok (.ifCond .ne 12, 3) := by decide +kernel
theorem dX7_giveOf_7 : decode cX7_giveOf 7 = .ok (.aload_n 0, 1) := by decide +kernel
theorem dX7_giveOf_8 : decode cX7_giveOf 8 = .ok (.getfield 9, 3) := by decide +kernel
theorem dX7_giveOf_11 : decode cX7_giveOf 11 = .ok (.iconst 0, 1) := by decide +kernel
theorem dX7_giveOf_12 : decode cX7_giveOf 12 = .ok (.iaload, 1) := by decide +kernel
theorem dX7_giveOf_13 : decode cX7_giveOf 13 = .ok (.goto 9, 3) := by decide +kernel
theorem dX7_giveOf_16 : decode cX7_giveOf 16 = .ok (.aload_n 0, 1) := by decide +kernel
theorem dX7_giveOf_17 : decode cX7_giveOf 17 = .ok (.getfield 9, 3) := by decide +kernel
theorem dX7_giveOf_20 : decode cX7_giveOf 20 = .ok (.iconst 1, 1) := by decide +kernel
theorem dX7_giveOf_21 : decode cX7_giveOf 21 = .ok (.iaload, 1) := by decide +kernel
theorem dX7_giveOf_22 : decode cX7_giveOf 22 = .ok (.istore 4, 2) := by decide +kernel
theorem dX7_giveOf_24 : decode cX7_giveOf 24 = .ok (.aload_n 1, 1) := by decide +kernel
theorem dX7_giveOf_25 : decode cX7_giveOf 25 = .ok (.invokevirtual 110, 3) := by decide +kernel
theorem dX7_giveOf_28 : decode cX7_giveOf 28 = .ok (.ifCond .eq 21, 3) := by decide +kernel
theorem dX7_giveOf_31 : decode cX7_giveOf 31 = .ok (.iload_n 3, 1) := by decide +kernel
theorem dX7_giveOf_32 : decode cX7_giveOf 32 = .ok (.iconst 1, 1) := by decide +kernel
theorem dX7_giveOf_33 : decode cX7_giveOf 33 = .ok (.if_icmp .lt 16, 3) := by decide +kernel
theorem dX7_giveOf_36 : decode cX7_giveOf 36 = .ok (.iload_n 2, 1) := by decide +kernel
theorem dX7_giveOf_37 : decode cX7_giveOf 37 = .ok (.ifCond .lt 12, 3) := by decide +kernel
theorem dX7_giveOf_40 : decode cX7_giveOf 40 = .ok (.iload_n 2, 1) := by decide +kernel
theorem dX7_giveOf_41 : decode cX7_giveOf 41 = .ok (.aload_n 0, 1) := by decide +kernel
theorem dX7_giveOf_42 : decode cX7_giveOf 42 = .ok (.getfield 29, 3) := by decide +kernel
theorem dX7_giveOf_45 : decode cX7_giveOf 45 = .ok (.arraylength, 1) := by decide +kernel
theorem dX7_giveOf_46 : decode cX7_giveOf 46 = .ok (.if_icmp .lt 9, 3) := by decide +kernel
theorem dX7_giveOf_49 : decode cX7_giveOf 49 = .ok (.iload 4, 2) := by decide +kernel
theorem dX7_giveOf_51 : decode cX7_giveOf 51 = .ok (.bipush 32, 2) := by decide +kernel
theorem dX7_giveOf_53 : decode cX7_giveOf 53 = .ok (.imul, 1) := by decide +kernel
theorem dX7_giveOf_54 : decode cX7_giveOf 54 = .ok (.ireturn, 1) := by decide +kernel
theorem dX7_giveOf_55 : decode cX7_giveOf 55 = .ok (.iload 4, 2) := by decide +kernel
theorem dX7_giveOf_57 : decode cX7_giveOf 57 = .ok (.bipush 64, 2) := by decide +kernel
theorem dX7_giveOf_59 : decode cX7_giveOf 59 = .ok (.iload_n 3, 1) := by decide +kernel
theorem dX7_giveOf_60 : decode cX7_giveOf 60 = .ok (.imul, 1) := by decide +kernel
theorem dX7_giveOf_61 : decode cX7_giveOf 61 = .ok (.iload_n 3, 1) := by decide +kernel
theorem dX7_giveOf_62 : decode cX7_giveOf 62 = .ok (.iconst 1, 1) := by decide +kernel
theorem dX7_giveOf_63 : decode cX7_giveOf 63 = .ok (.iadd, 1) := by decide +kernel
theorem dX7_giveOf_64 : decode cX7_giveOf 64 = .ok (.idiv, 1) := by decide +kernel
theorem dX7_giveOf_65 : decode cX7_giveOf 65 = .ok (.imul, 1) := by decide +kernel
theorem dX7_giveOf_66 : decode cX7_giveOf 66 = .ok (.aload_n 0, 1) := by decide +kernel
theorem dX7_giveOf_67 : decode cX7_giveOf 67 = .ok (.getfield 29, 3) := by decide +kernel
theorem dX7_giveOf_70 : decode cX7_giveOf 70 = .ok (.iload_n 2, 1) := by decide +kernel
theorem dX7_giveOf_71 : decode cX7_giveOf 71 = .ok (.iaload, 1) := by decide +kernel
theorem dX7_giveOf_72 : decode cX7_giveOf 72 = .ok (.imul, 1) := by decide +kernel
theorem dX7_giveOf_73 : decode cX7_giveOf 73 = .ok (.ireturn, 1) := by decide +kernel
theorem dX7_rarityOf_0 : decode cX7_rarityOf 0 = .ok (.iconst 1, 1) := by decide +kernel
theorem dX7_rarityOf_1 : decode cX7_rarityOf 1 = .ok (.istore_n 2, 1) := by decide +kernel
theorem dX7_rarityOf_2 : decode cX7_rarityOf 2 = .ok (.iload_n 0, 1) := by decide +kernel
theorem dX7_rarityOf_3 : decode cX7_rarityOf 3 = .ok (.iconst 1, 1) := by decide +kernel
theorem dX7_rarityOf_4 : decode cX7_rarityOf 4 = .ok (.iadd, 1) := by decide +kernel
theorem dX7_rarityOf_5 : decode cX7_rarityOf 5 = .ok (.iload_n 1, 1) := by decide +kernel
theorem dX7_rarityOf_6 : decode cX7_rarityOf 6 = .ok (.iconst 0, 1) := by decide +kernel
theorem dX7_rarityOf_7 : decode cX7_rarityOf 7 = .ok (.invokestatic 215, 3) := by decide +kernel
theorem dX7_rarityOf_10 : decode cX7_rarityOf 10 = .ok (.iconst 1, 1) := by decide +kernel
theorem dX7_rarityOf_11 : decode cX7_rarityOf 11 = .ok (.iadd, 1) := by decide +kernel
theorem dX7_rarityOf_12 : decode cX7_rarityOf 12 = .ok (.idiv, 1) := by decide +kernel
theorem dX7_rarityOf_13 : decode cX7_rarityOf 13 = .ok (.istore_n 3, 1) := by decide +kernel
theorem dX7_rarityOf_14 : decode cX7_rarityOf 14 = .ok (.iload_n 3, 1) := by decide +kernel
theorem dX7_rarityOf_15 : decode cX7_rarityOf 15 = .ok (.iconst 1, 1) := by decide +kernel
theorem dX7_rarityOf_16 : decode cX7_rarityOf 16 = .ok (.if_icmp .le 13, 3) := by decide +kernel
theorem dX7_rarityOf_19 : decode cX7_rarityOf 19 = .ok (.iinc 2 1, 3) := by decide +kernel
theorem dX7_rarityOf_22 : decode cX7_rarityOf 22 = .ok (.iload_n 3, 1) := by decide +kernel
theorem dX7_rarityOf_23 : decode cX7_rarityOf 23 = .ok (.iconst 2, 1) := by decide +kernel
theorem dX7_rarityOf_24 : decode cX7_rarityOf 24 = .ok (.idiv, 1) := by decide +kernel
theorem dX7_rarityOf_25 : decode cX7_rarityOf 25 = .ok (.istore_n 3, 1) := by decide +kernel
theorem dX7_rarityOf_26 : decode cX7_rarityOf 26 = .ok (.goto (-12), 3) := by decide +kernel
theorem dX7_rarityOf_29 : decode cX7_rarityOf 29 = .ok (.iload_n 2, 1) := by decide +kernel
theorem dX7_rarityOf_30 : decode cX7_rarityOf 30 = .ok (.ireturn, 1) := by decide +kernel
theorem dX8_init_0 : decode cX8_init 0 = .ok (.aload_n 0, 1) := by decide +kernel
theorem dX8_init_1 : decode cX8_init 1 = .ok (.invokespecial 1, 3) := by decide +kernel
theorem dX8_init_4 : decode cX8_init 4 = .ok (.aload_n 0, 1) := by decide +kernel
theorem dX8_init_5 : decode cX8_init 5 = .ok (.new 7, 3) := by decide +kernel
theorem dX8_init_8 : decode cX8_init 8 = .ok (.dup, 1) := by decide +kernel
theorem dX8_init_9 : decode cX8_init 9 = .ok (.invokespecial 9, 3) := by decide +kernel
theorem dX8_init_12 : decode cX8_init 12 = .ok (.putfield 10, 3) := by decide +kernel
theorem dX8_init_15 : decode cX8_init 15 = .ok (.aload_n 0, 1) := by decide +kernel
theorem dX8_init_16 : decode cX8_init 16 = .ok (.new 7, 3) := by decide +kernel
theorem dX8_init_19 : decode cX8_init 19 = .ok (.dup, 1) := by decide +kernel
theorem dX8_init_20 : decode cX8_init 20 = .ok (.invokespecial 9, 3) := by decide +kernel
theorem dX8_init_23 : decode cX8_init 23 = .ok (.putfield 16, 3) := by decide +kernel
theorem dX8_init_26 : decode cX8_init 26 = .ok (.aload_n 0, 1) := by decide +kernel
theorem dX8_init_27 : decode cX8_init 27 = .ok (.new 7, 3) := by decide +kernel
theorem dX8_init_30 : decode cX8_init 30 = .ok (.dup, 1) := by decide +kernel
theorem dX8_init_31 : decode cX8_init 31 = .ok (.invokespecial 9, 3) := by decide +kernel
theorem dX8_init_34 : decode cX8_init 34 = .ok (.putfield 19, 3) := by decide +kernel
theorem dX8_init_37 : decode cX8_init 37 = .ok (.aload_n 0, 1) := by decide +kernel
theorem dX8_init_38 : decode cX8_init 38 = .ok (.iload_n 1, 1) := by decide +kernel
theorem dX8_init_39 : decode cX8_init 39 = .ok (.putfield 22, 3) := by decide +kernel
theorem dX8_init_42 : decode cX8_init 42 = .ok (.return_, 1) := by decide +kernel
theorem dX8_size_0 : decode cX8_size 0 = .ok (.aload_n 0, 1) := by decide +kernel
theorem dX8_size_1 : decode cX8_size 1 = .ok (.getfield 10, 3) := by decide +kernel
theorem dX8_size_4 : decode cX8_size 4 = .ok (.invokevirtual 26, 3) := by decide +kernel
theorem dX8_size_7 : decode cX8_size 7 = .ok (.ireturn, 1) := by decide +kernel
theorem dX8_wordsOf_0 : decode cX8_wordsOf 0 = .ok (.iload_n 1, 1) := by decide +kernel
theorem dX8_wordsOf_1 : decode cX8_wordsOf 1 = .ok (.ifCond .ne 10, 3) := by decide +kernel
theorem dX8_wordsOf_4 : decode cX8_wordsOf 4 = .ok (.aload_n 0, 1) := by decide +kernel
theorem dX8_wordsOf_5 : decode cX8_wordsOf 5 = .ok (.getfield 16, 3) := by decide +kernel
theorem dX8_wordsOf_8 : decode cX8_wordsOf 8 = .ok (.goto 7, 3) := by decide +kernel
theorem dX8_wordsOf_11 : decode cX8_wordsOf 11 = .ok (.aload_n 0, 1) := by decide +kernel
theorem dX8_wordsOf_12 : decode cX8_wordsOf 12 = .ok (.getfield 19, 3) := by decide +kernel
theorem dX8_wordsOf_15 : decode cX8_wordsOf 15 = .ok (.areturn, 1) := by decide +kernel
theorem dX8_tier_0 : decode cX8_tier 0 = .ok (.iconst 0, 1) := by decide +kernel
theorem dX8_tier_1 : decode cX8_tier 1 = .ok (.istore_n 1, 1) := by decide +kernel
theorem dX8_tier_2 : decode cX8_tier 2 = .ok (.aload_n 0, 1) := by decide +kernel
theorem dX8_tier_3 : decode cX8_tier 3 = .ok (.invokevirtual 30, 3) := by decide +kernel
theorem dX8_tier_6 : decode cX8_tier 6 = .ok (.istore_n 2, 1) := by decide +kernel
theorem dX8_tier_7 : decode cX8_tier 7 = .ok (.iload_n 2, 1) := by decide +kernel
theorem dX8_tier_8 : decode cX8_tier 8 = .ok (.iconst 3, 1) := by decide +kernel
theorem dX8_tier_9 : decode cX8_tier 9 = .ok (.if_icmp .lt 13, 3) := by decide +kernel
theorem dX8_tier_12 : decode cX8_tier 12 = .ok (.iinc 1 1, 3) := by decide +kernel
theorem dX8_tier_15 : decode cX8_tier 15 = .ok (.iload_n 2, 1) := by decide +kernel
theorem dX8_tier_16 : decode cX8_tier 16 = .ok (.iconst 3, 1) := by decide +kernel
