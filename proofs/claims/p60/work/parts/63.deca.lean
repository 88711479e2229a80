theorem dX0_init_0 : decode cX0_init 0 = .ok (.aload_n 0, 1) := by decide +kernel
theorem dX0_init_1 : decode cX0_init 1 = .ok (.invokespecial 3, 3) := by decide +kernel
theorem dX0_init_4 : decode cX0_init 4 = .ok (.aload_n 0, 1) := by decide +kernel
theorem dX0_init_5 : decode cX0_init 5 = .ok (.iconst (-1), 1) := by decide +kernel
theorem dX0_init_6 : decode cX0_init 6 = .ok (.putfield 9, 3) := by decide +kernel
theorem dX0_init_9 : decode cX0_init 9 = .ok (.aload_n 0, 1) := by decide +kernel
theorem dX0_init_10 : decode cX0_init 10 = .ok (.iconst 0, 1) := by decide +kernel
theorem dX0_init_11 : decode cX0_init 11 = .ok (.putfield 15, 3) := by decide +kernel
theorem dX0_init_14 : decode cX0_init 14 = .ok (.aload_n 0, 1) := by decide +kernel
theorem dX0_init_15 : decode cX0_init 15 = .ok (.iconst 0, 1) := by decide +kernel
theorem dX0_init_16 : decode cX0_init 16 = .ok (.putfield 18, 3) := by decide +kernel
theorem dX0_init_19 : decode cX0_init 19 = .ok (.aload_n 0, 1) := by decide +kernel
theorem dX0_init_20 : decode cX0_init 20 = .ok (.new 21, 3) := by decide +kernel
theorem dX0_init_23 : decode cX0_init 23 = .ok (.dup, 1) := by decide +kernel
theorem dX0_init_24 : decode cX0_init 24 = .ok (.invokespecial 23, 3) := by decide +kernel
theorem dX0_init_27 : decode cX0_init 27 = .ok (.putfield 24, 3) := by decide +kernel
theorem dX0_init_30 : decode cX0_init 30 = .ok (.aload_n 0, 1) := by decide +kernel
theorem dX0_init_31 : decode cX0_init 31 = .ok (.new 21, 3) := by decide +kernel
theorem dX0_init_34 : decode cX0_init 34 = .ok (.dup, 1) := by decide +kernel
theorem dX0_init_35 : decode cX0_init 35 = .ok (.invokespecial 23, 3) := by decide +kernel
theorem dX0_init_38 : decode cX0_init 38 = .ok (.putfield 28, 3) := by decide +kernel
theorem dX0_init_41 : decode cX0_init 41 = .ok (.return_, 1) := by decide +kernel
theorem dX0_textOf_0 : decode cX0_textOf 0 = .ok (.iload_n 1, 1) := by decide +kernel
theorem dX0_textOf_1 : decode cX0_textOf 1 = .ok (.ifCond .ne 10, 3) := by decide +kernel
theorem dX0_textOf_4 : decode cX0_textOf 4 = .ok (.aload_n 0, 1) := by decide +kernel
theorem dX0_textOf_5 : decode cX0_textOf 5 = .ok (.getfield 24, 3) := by decide +kernel
theorem dX0_textOf_8 : decode cX0_textOf 8 = .ok (.goto 7, 3) := by decide +kernel
theorem dX0_textOf_11 : decode cX0_textOf 11 = .ok (.aload_n 0, 1) := by decide +kernel
theorem dX0_textOf_12 : decode cX0_textOf 12 = .ok (.getfield 28, 3) := by decide +kernel
theorem dX0_textOf_15 : decode cX0_textOf 15 = .ok (.areturn, 1) := by decide +kernel
theorem dX0_putText_0 : decode cX0_putText 0 = .ok (.iload_n 1, 1) := by decide +kernel
theorem dX0_putText_1 : decode cX0_putText 1 = .ok (.ifCond .ne 11, 3) := by decide +kernel
theorem dX0_putText_4 : decode cX0_putText 4 = .ok (.aload_n 0, 1) := by decide +kernel
theorem dX0_putText_5 : decode cX0_putText 5 = .ok (.aload_n 2, 1) := by decide +kernel
theorem dX0_putText_6 : decode cX0_putText 6 = .ok (.putfield 24, 3) := by decide +kernel
theorem dX0_putText_9 : decode cX0_putText 9 = .ok (.goto 8, 3) := by decide +kernel
theorem dX0_putText_12 : decode cX0_putText 12 = .ok (.aload_n 0, 1) := by decide +kernel
theorem dX0_putText_13 : decode cX0_putText 13 = .ok (.aload_n 2, 1) := by decide +kernel
theorem dX0_putText_14 : decode cX0_putText 14 = .ok (.putfield 28, 3) := by decide +kernel
theorem dX0_putText_17 : decode cX0_putText 17 = .ok (.return_, 1) := by decide +kernel
theorem dX1_forget_0 : decode cX1_forget 0 = .ok (.aload_n 0, 1) := by decide +kernel
theorem dX1_forget_1 : decode cX1_forget 1 = .ok (.iconst 0, 1) := by decide +kernel
theorem dX1_forget_2 : decode cX1_forget 2 = .ok (.putfield 9, 3) := by decide +kernel
theorem dX1_forget_5 : decode cX1_forget 5 = .ok (.aload_n 0, 1) := by decide +kernel
theorem dX1_forget_6 : decode cX1_forget 6 = .ok (.iconst 0, 1) := by decide +kernel
theorem dX1_forget_7 : decode cX1_forget 7 = .ok (.putfield 22, 3) := by decide +kernel
theorem dX1_forget_10 : decode cX1_forget 10 = .ok (.aload_n 0, 1) := by decide +kernel
theorem dX1_forget_11 : decode cX1_forget 11 = .ok (.iconst 0, 1) := by decide +kernel
theorem dX1_forget_12 : decode cX1_forget 12 = .ok (.putfield 25, 3) := by decide +kernel
theorem dX1_forget_15 : decode cX1_forget 15 = .ok (.aload_n 0, 1) := by decide +kernel
theorem dX1_forget_16 : decode cX1_forget 16 = .ok (.iconst 0, 1) := by decide +kernel
theorem dX1_forget_17 : decode cX1_forget 17 = .ok (.putfield 28, 3) := by decide +kernel
theorem dX1_forget_20 : decode cX1_forget 20 = .ok (.return_, 1) := by decide +kernel
theorem dX1_search_0 : decode cX1_search 0 = .ok (.aload_n 0, 1) := by decide +kernel
theorem dX1_search_1 : decode cX1_search 1 = .ok (.iconst 0, 1) := by decide +kernel
theorem dX1_search_2 : decode cX1_search 2 = .ok (.putfield 9, 3) := by decide +kernel
theorem dX1_search_5 : decode cX1_search 5 = .ok (.aload_n 0, 1) := by decide +kernel
theorem dX1_search_6 : decode cX1_search 6 = .ok (.iconst 0, 1) := by decide +kernel
theorem dX1_search_7 : decode cX1_search 7 = .ok (.putfield 22, 3) := by decide +kernel
theorem dX1_search_10 : decode cX1_search 10 = .ok (.aload_n 0, 1) := by decide +kernel
theorem dX1_search_11 : decode cX1_search 11 = .ok (.iconst 0, 1) := by decide +kernel
theorem dX1_search_12 : decode cX1_search 12 = .ok (.putfield 25, 3) := by decide +kernel
theorem dX1_search_15 : decode cX1_search 15 = .ok (.aload_n 0, 1) := by decide +kernel
theorem dX1_search_16 : decode cX1_search 16 = .ok (.getfield 54, 3) := by decide +kernel
theorem dX1_search_19 : decode cX1_search 19 = .ok (.aload_n 2, 1) := by decide +kernel
theorem dX1_search_20 : decode cX1_search 20 = .ok (.aload_n 1, 1) := by decide +kernel
theorem dX1_search_21 : decode cX1_search 21 = .ok (.invokevirtual 58, 3) := by decide +kernel
theorem dX1_search_24 : decode cX1_search 24 = .ok (.iconst 0, 1) := by decide +kernel
theorem dX1_search_25 : decode cX1_search 25 = .ok (.istore 5, 2) := by decide +kernel
theorem dX1_search_27 : decode cX1_search 27 = .ok (.iload 5, 2) := by decide +kernel
theorem dX1_search_29 : decode cX1_search 29 = .ok (.aload_n 1, 1) := by decide +kernel
theorem dX1_search_30 : decode cX1_search 30 = .ok (.invokevirtual 64, 3) := by decide +kernel
theorem dX1_search_33 : decode cX1_search 33 = .ok (.if_icmp .ge 64, 3) := by decide +kernel
theorem dX1_search_36 : decode cX1_search 36 = .ok (.aload_n 1, 1) := by decide +kernel
theorem dX1_search_37 : decode cX1_search 37 = .ok (.iload 5, 2) := by decide +kernel
theorem dX1_search_39 : decode cX1_search 39 = .ok (.invokevirtual 70, 3) := by decide +kernel
theorem dX1_search_42 : decode cX1_search 42 = .ok (.astore 6, 2) := by decide +kernel
theorem dX1_search_44 : decode cX1_search 44 = .ok (.aload 6, 2) := by decide +kernel
theorem dX1_search_46 : decode cX1_search 46 = .ok (.ifnull 45, 3) := by decide +kernel
theorem dX1_search_49 : decode cX1_search 49 = .ok (.aload_n 0, 1) := by decide +kernel
theorem dX1_search_50 : decode cX1_search 50 = .ok (.getfield 54, 3) := by decide +kernel
theorem dX1_search_53 : decode cX1_search 53 = .ok (.aload_n 2, 1) := by decide +kernel
theorem dX1_search_54 : decode cX1_search 54 = .ok (.aload 6, 2) := by decide +kernel
theorem dX1_search_56 : decode cX1_search 56 = .ok (.getfield 74, 3) := by decide +kernel
theorem dX1_search_59 : decode cX1_search 59 = .ok (.invokevirtual 80, 3) := by decide +kernel
theorem dX1_search_62 : decode cX1_search 62 = .ok (.aload_n 0, 1) := by decide +kernel
theorem dX1_search_63 : decode cX1_search 63 = .ok (.aload_n 2, 1) := by decide +kernel
theorem dX1_search_64 : decode cX1_search 64 = .ok (.iload_n 3, 1) := by decide +kernel
theorem dX1_search_65 : decode cX1_search 65 = .ok (.aload 6, 2) := by decide +kernel
theorem dX1_search_67 : decode cX1_search 67 = .ok (.getfield 74, 3) := by decide +kernel
theorem dX1_search_70 : decode cX1_search 70 = .ok (.invokevirtual 84, 3) := by decide +kernel
theorem dX1_search_73 : decode cX1_search 73 = .ok (.istore 7, 2) := by decide +kernel
theorem dX1_search_75 : decode cX1_search 75 = .ok (.aload_n 0, 1) := by decide +kernel
theorem dX1_search_76 : decode cX1_search 76 = .ok (.aload_n 2, 1) := by decide +kernel
theorem dX1_search_77 : decode cX1_search 77 = .ok (.aload 6, 2) := by decide +kernel
theorem dX1_search_79 : decode cX1_search 79 = .ok (.aload_n 0, 1) := by decide +kernel
theorem dX1_search_80 : decode cX1_search 80 = .ok (.getfield 45, 3) := by decide +kernel
theorem dX1_search_83 : decode cX1_search 83 = .ok (.iload 7, 2) := by decide +kernel
theorem dX1_search_85 : decode cX1_search 85 = .ok (.aaload, 1) := by decide +kernel
theorem dX1_search_86 : decode cX1_search 86 = .ok (.iload 4, 2) := by decide +kernel
theorem dX1_search_88 : decode cX1_search 88 = .ok (.invokevirtual 88, 3) := by decide +kernel
theorem dX1_search_91 : decode cX1_search 91 = .ok (.iinc 5 1, 3) := by decide +kernel
theorem dX1_search_94 : decode cX1_search 94 = .ok (.goto (-67), 3) := by decide +kernel
theorem dX1_search_97 : decode cX1_search 97 = .ok (.aload_n 0, 1) := by decide +kernel
theorem dX1_search_98 : decode cX1_search 98 = .ok (.getfield 9, 3) := by decide +kernel
theorem dX1_search_101 : decode cX1_search 101 = .ok (.ireturn, 1) := by decide +kernel
theorem dX1_searchBlocks_0 : decode cX1_searchBlocks 0 = .ok (.aload_n 2, 1) := by decide +kernel
theorem dX1_searchBlocks_1 : decode cX1_searchBlocks 1 = .ok (.getfield 74, 3) := by decide +kernel
theorem dX1_searchBlocks_4 : decode cX1_searchBlocks 4 = .ok (.invokevirtual 92, 3) := by decide +kernel
theorem dX1_searchBlocks_7 : decode cX1_searchBlocks 7 = .ok (.aload_n 3, 1) := by decide +kernel
theorem dX1_searchBlocks_8 : decode cX1_searchBlocks 8 = .ok (.arraylength, 1) := by decide +kernel
theorem dX1_searchBlocks_9 : decode cX1_searchBlocks 9 = .ok (.invokestatic 95, 3) := by decide +kernel
theorem dX1_searchBlocks_12 : decode cX1_searchBlocks 12 = .ok (.istore 5, 2) := by decide +kernel
theorem dX1_searchBlocks_14 : decode cX1_searchBlocks 14 = .ok (.iconst 0, 1) := by decide +kernel
theorem dX1_searchBlocks_15 : decode cX1_searchBlocks 15 = .ok (.istore 6, 2) := by decide +kernel
theorem dX1_searchBlocks_17 : decode cX1_searchBlocks 17 = .ok (.iload 6, 2) := by decide +kernel
theorem dX1_searchBlocks_19 : decode cX1_searchBlocks 19 = .ok (.iload 5, 2) := by decide +kernel
theorem dX1_searchBlocks_21 : decode cX1_searchBlocks 21 = .ok (.if_icmp .ge 142, 3) := by decide +kernel
theorem dX1_searchBlocks_24 : decode cX1_searchBlocks 24 = .ok (.iload 6, 2) := by decide +kernel
theorem dX1_searchBlocks_26 : decode cX1_searchBlocks 26 = .ok (.iconst 4, 1) := by decide +kernel
theorem dX1_searchBlocks_27 : decode cX1_searchBlocks 27 = .ok (.iadd, 1) := by decide +kernel
theorem dX1_searchBlocks_28 : decode cX1_searchBlocks 28 = .ok (.iload 5, 2) := by decide +kernel
theorem dX1_searchBlocks_30 : decode cX1_searchBlocks 30 = .ok (.invokestatic 95, 3) := by decide +kernel
theorem dX1_searchBlocks_33 : decode cX1_searchBlocks 33 = .ok (.istore 7, 2) := by decide +kernel
theorem dX1_searchBlocks_35 : decode cX1_searchBlocks 35 = .ok (.aload_n 0, 1) := by decide +kernel
theorem dX1_searchBlocks_36 : decode cX1_searchBlocks 36 = .ok (.getfield 9, 3) := by decide +kernel
theorem dX1_searchBlocks_39 : decode cX1_searchBlocks 39 = .ok (.ifCond .le 51, 3) := by decide +kernel
theorem dX1_searchBlocks_42 : decode cX1_searchBlocks 42 = .ok (.aload_n 0, 1) := by decide +kernel
theorem dX1_searchBlocks_43 : decode cX1_searchBlocks 43 = .ok (.getfield 9, 3) := by decide +kernel
theorem dX1_searchBlocks_46 : decode cX1_searchBlocks 46 = .ok (.iload 4, 2) := by decide +kernel
theorem dX1_searchBlocks_48 : decode cX1_searchBlocks 48 = .ok (.if_icmp .lt 42, 3) := by decide +kernel
theorem dX1_searchBlocks_51 : decode cX1_searchBlocks 51 = .ok (.aload_n 0, 1) := by decide +kernel
theorem dX1_searchBlocks_52 : decode cX1_searchBlocks 52 = .ok (.getfield 54, 3) := by decide +kernel
theorem dX1_searchBlocks_55 : decode cX1_searchBlocks 55 = .ok (.aload_n 1, 1) := by decide +kernel
theorem dX1_searchBlocks_56 : decode cX1_searchBlocks 56 = .ok (.iload 6, 2) := by decide +kernel
theorem dX1_searchBlocks_58 : decode cX1_searchBlocks 58 = .ok (.iload 7, 2) := by decide +kernel
theorem dX1_searchBlocks_60 : decode cX1_searchBlocks 60 = .ok (.invokevirtual 101, 3) := by decide +kernel
theorem dX1_searchBlocks_63 : decode cX1_searchBlocks 63 = .ok (.aload_n 0, 1) := by decide +kernel
theorem dX1_searchBlocks_64 : decode cX1_searchBlocks 64 = .ok (.getfield 19, 3) := by decide +kernel
theorem dX1_searchBlocks_67 : decode cX1_searchBlocks 67 = .ok (.aload_n 0, 1) := by decide +kernel
theorem dX1_searchBlocks_68 : decode cX1_searchBlocks 68 = .ok (.getfield 9, 3) := by decide +kernel
theorem dX1_searchBlocks_71 : decode cX1_searchBlocks 71 = .ok (.iconst 1, 1) := by decide +kernel
theorem dX1_searchBlocks_72 : decode cX1_searchBlocks 72 = .ok (.isub, 1) := by decide +kernel
theorem dX1_searchBlocks_73 : decode cX1_searchBlocks 73 = .ok (.iaload, 1) := by decide +kernel
theorem dX1_searchBlocks_74 : decode cX1_searchBlocks 74 = .ok (.if_icmp .gt 16, 3) := by decide +kernel
theorem dX1_searchBlocks_77 : decode cX1_searchBlocks 77 = .ok (.aload_n 0, 1) := by decide +kernel
theorem dX1_searchBlocks_78 : decode cX1_searchBlocks 78 = .ok (.dup, 1) := by decide +kernel
theorem dX1_searchBlocks_79 : decode cX1_searchBlocks 79 = .ok (.getfield 22, 3) := by decide +kernel
theorem dX1_searchBlocks_82 : decode cX1_searchBlocks 82 = .ok (.iconst 1, 1) := by decide +kernel
theorem dX1_searchBlocks_83 : decode cX1_searchBlocks 83 = .ok (.iadd, 1) := by decide +kernel
theorem dX1_searchBlocks_84 : decode cX1_searchBlocks 84 = .ok (.putfield 22, 3) := by decide +kernel
theorem dX1_searchBlocks_87 : decode cX1_searchBlocks 87 = .ok (.goto 70, 3) := by decide +kernel
theorem dX1_searchBlocks_90 : decode cX1_searchBlocks 90 = .ok (.iload 6, 2) := by decide +kernel
theorem dX1_searchBlocks_92 : decode cX1_searchBlocks 92 = .ok (.istore 8, 2) := by decide +kernel
theorem dX1_searchBlocks_94 : decode cX1_searchBlocks 94 = .ok (.iload 8, 2) := by decide +kernel
theorem dX1_searchBlocks_96 : decode cX1_searchBlocks 96 = .ok (.iload 7, 2) := by decide +kernel
theorem dX1_searchBlocks_98 : decode cX1_searchBlocks 98 = .ok (.if_icmp .ge 59, 3) := by decide +kernel
theorem dX1_searchBlocks_101 : decode cX1_searchBlocks 101 = .ok (.aload_n 2, 1) := by decide +kernel
theorem dX1_searchBlocks_102 : decode cX1_searchBlocks 102 = .ok (.iload 8, 2) := by decide +kernel
theorem dX1_searchBlocks_104 : decode cX1_searchBlocks 104 = .ok (.invokevirtual 105, 3) := by decide +kernel
theorem dX1_searchBlocks_107 : decode cX1_searchBlocks 107 = .ok (.ifCond .eq 44, 3) := by decide +kernel
theorem dX1_searchBlocks_110 : decode cX1_searchBlocks 110 = .ok (.aload_n 3, 1) := by decide +kernel
theorem dX1_searchBlocks_111 : decode cX1_searchBlocks 111 = .ok (.iload 8, 2) := by decide +kernel
theorem dX1_searchBlocks_113 : decode cX1_searchBlocks 113 = .ok (.iaload, 1) := by decide +kernel
theorem dX1_searchBlocks_114 : decode cX1_searchBlocks 114 = .ok (.ifCond .eq 37, 3) := by decide +kernel
theorem dX1_searchBlocks_117 : decode cX1_searchBlocks 117 = .ok (.aload_n 0, 1) := by decide +kernel
theorem dX1_searchBlocks_118 : decode cX1_searchBlocks 118 = .ok (.aload_n 2, 1) := by decide +kernel
theorem dX1_searchBlocks_119 : decode cX1_searchBlocks 119 = .ok (.getfield 74, 3) := by decide +kernel
theorem dX1_searchBlocks_122 : decode cX1_searchBlocks 122 = .ok (.getfield 109, 3) := by decide +kernel
theorem dX1_searchBlocks_125 : decode cX1_searchBlocks 125 = .ok (.iload 8, 2) := by decide +kernel
theorem dX1_searchBlocks_127 : decode cX1_searchBlocks 127 = .ok (.invokevirtual 113, 3) := by decide +kernel
theorem dX1_searchBlocks_130 : decode cX1_searchBlocks 130 = .ok (.checkcast 119, 3) := by decide +kernel
theorem dX1_searchBlocks_133 : decode cX1_searchBlocks 133 = .ok (.getfield 121, 3) := by decide +kernel
theorem dX1_searchBlocks_136 : decode cX1_searchBlocks 136 = .ok (.aload_n 0, 1) := by decide +kernel
theorem dX1_searchBlocks_137 : decode cX1_searchBlocks 137 = .ok (.getfield 54, 3) := by decide +kernel
theorem dX1_searchBlocks_140 : decode cX1_searchBlocks 140 = .ok (.aload_n 1, 1) := by decide +kernel
theorem dX1_searchBlocks_141 : decode cX1_searchBlocks 141 = .ok (.iload 8, 2) := by decide +kernel
theorem dX1_searchBlocks_143 : decode cX1_searchBlocks 143 = .ok (.invokevirtual 124, 3) := by decide +kernel
theorem dX1_searchBlocks_146 : decode cX1_searchBlocks 146 = .ok (.iload 4, 2) := by decide +kernel
theorem dX1_searchBlocks_148 : decode cX1_searchBlocks 148 = .ok (.invokevirtual 128, 3) := by decide +kernel
theorem dX1_searchBlocks_151 : decode cX1_searchBlocks 151 = .ok (.iinc 8 1, 3) := by decide +kernel
theorem dX1_searchBlocks_154 : decode cX1_searchBlocks 154 = .ok (.goto (-60), 3) := by decide +kernel
theorem dX1_searchBlocks_157 : decode cX1_searchBlocks 157 = .ok (.iinc 6 4, 3) := by decide +kernel
theorem dX1_searchBlocks_160 : decode cX1_searchBlocks 160 = .ok (.goto (-143), 3) := by decide +kernel
theorem dX1_searchBlocks_163 : decode cX1_searchBlocks 163 = .ok (.return_, 1) := by decide +kernel
theorem dX1_hold_0 : decode cX1_hold 0 = .ok (.aload_n 0, 1) := by decide +kernel
theorem dX1_hold_1 : decode cX1_hold 1 = .ok (.getfield 9, 3) := by decide +kernel
theorem dX1_hold_4 : decode cX1_hold 4 = .ok (.istore 4, 2) := by decide +kernel
theorem dX1_hold_6 : decode cX1_hold 6 = .ok (.aload_n 0, 1) := by decide +kernel
theorem dX1_hold_7 : decode cX1_hold 7 = .ok (.getfield 9, 3) := by decide +kernel
theorem dX1_hold_10 : decode cX1_hold 10 = .ok (.iload_n 3, 1) := by decide +kernel
theorem dX1_hold_11 : decode cX1_hold 11 = .ok (.if_icmp .ge 12, 3) := by decide +kernel
theorem dX1_hold_14 : decode cX1_hold 14 = .ok (.aload_n 0, 1) := by decide +kernel
theorem dX1_hold_15 : decode cX1_hold 15 = .ok (.getfield 9, 3) := by decide +kernel
theorem dX1_hold_18 : decode cX1_hold 18 = .ok (.bipush 20, 2) := by decide +kernel
theorem dX1_hold_20 : decode cX1_hold 20 = .ok (.if_icmp .lt 38, 3) := by decide +kernel
theorem dX1_hold_23 : decode cX1_hold 23 = .ok (.aload_n 0, 1) := by decide +kernel
theorem dX1_hold_24 : decode cX1_hold 24 = .ok (.getfield 9, 3) := by decide +kernel
theorem dX1_hold_27 : decode cX1_hold 27 = .ok (.iconst 1, 1) := by decide +kernel
theorem dX1_hold_28 : decode cX1_hold 28 = .ok (.if_icmp .lt 18, 3) := by decide +kernel
theorem dX1_hold_31 : decode cX1_hold 31 = .ok (.iload_n 2, 1) := by decide +kernel
theorem dX1_hold_32 : decode cX1_hold 32 = .ok (.aload_n 0, 1) := by decide +kernel
theorem dX1_hold_33 : decode cX1_hold 33 = .ok (.getfield 19, 3) := by decide +kernel
theorem dX1_hold_36 : decode cX1_hold 36 = .ok (.aload_n 0, 1) := by decide +kernel
theorem dX1_hold_37 : decode cX1_hold 37 = .ok (.getfield 9, 3) := by decide +kernel
theorem dX1_hold_40 : decode cX1_hold 40 = .ok (.iconst 1, 1) := by decide +kernel
theorem dX1_hold_41 : decode cX1_hold 41 = .ok (.isub, 1) := by decide +kernel
theorem dX1_hold_42 : decode cX1_hold 42 = .ok (.iaload, 1) := by decide +kernel
theorem dX1_hold_43 : decode cX1_hold 43 = .ok (.if_icmp .gt 4, 3) := by decide +kernel
theorem dX1_hold_46 : decode cX1_hold 46 = .ok (.return_, 1) := by decide +kernel
theorem dX1_hold_47 : decode cX1_hold 47 = .ok (.aload_n 0, 1) := by decide +kernel
theorem dX1_hold_48 : decode cX1_hold 48 = .ok (.getfield 9, 3) := by decide +kernel
theorem dX1_hold_51 : decode cX1_hold 51 = .ok (.iconst 1, 1) := by decide +kernel
theorem dX1_hold_52 : decode cX1_hold 52 = .ok (.isub, 1) := by decide +kernel
theorem dX1_hold_53 : decode cX1_hold 53 = .ok (.istore 4, 2) := by decide +kernel
theorem dX1_hold_55 : decode cX1_hold 55 = .ok (.goto 13, 3) := by decide +kernel
theorem dX1_hold_58 : decode cX1_hold 58 = .ok (.aload_n 0, 1) := by decide +kernel
theorem dX1_hold_59 : decode cX1_hold 59 = .ok (.dup, 1) := by decide +kernel
theorem dX1_hold_60 : decode cX1_hold 60 = .ok (.getfield 9, 3) := by decide +kernel
theorem dX1_hold_63 : decode cX1_hold 63 = .ok (.iconst 1, 1) := by decide +kernel
theorem dX1_hold_64 : decode cX1_hold 64 = .ok (.iadd, 1) := by decide +kernel
theorem dX1_hold_65 : decode cX1_hold 65 = .ok (.putfield 9, 3) := by decide +kernel
theorem dX1_hold_68 : decode cX1_hold 68 = .ok (.iload 4, 2) := by decide +kernel
theorem dX1_hold_70 : decode cX1_hold 70 = .ok (.ifCond .le 54, 3) := by decide +kernel
theorem dX1_hold_73 : decode cX1_hold 73 = .ok (.aload_n 0, 1) := by decide +kernel
theorem dX1_hold_74 : decode cX1_hold 74 = .ok (.getfield 19, 3) := by decide +kernel
theorem dX1_hold_77 : decode cX1_hold 77 = .ok (.iload 4, 2) := by decide +kernel
theorem dX1_hold_79 : decode cX1_hold 79 = .ok (.iconst 1, 1) := by decide +kernel
theorem dX1_hold_80 : decode cX1_hold 80 = .ok (.isub, 1) := by decide +kernel
theorem dX1_hold_81 : decode cX1_hold 81 = .ok (.iaload, 1) := by decide +kernel
theorem dX1_hold_82 : decode cX1_hold 82 = .ok (.iload_n 2, 1) := by decide +kernel
theorem dX1_hold_83 : decode cX1_hold 83 = .ok (.if_icmp .ge 41, 3) := by decide +kernel
theorem dX1_hold_86 : decode cX1_hold 86 = .ok (.aload_n 0, 1) := by decide +kernel
theorem dX1_hold_87 : decode cX1_hold 87 = .ok (.getfield 19, 3) := by decide +kernel
theorem dX1_hold_90 : decode cX1_hold 90 = .ok (.iload 4, 2) := by decide +kernel
theorem dX1_hold_92 : decode cX1_hold 92 = .ok (.aload_n 0, 1) := by decide +kernel
theorem dX1_hold_93 : decode cX1_hold 93 = .ok (.getfield 19, 3) := by decide +kernel
theorem dX1_hold_96 : decode cX1_hold 96 = .ok (.iload 4, 2) := by decide +kernel
theorem dX1_hold_98 : decode cX1_hold 98 = .ok (.iconst 1, 1) := by decide +kernel
theorem dX1_hold_99 : decode cX1_hold 99 = .ok (.isub, 1) := by decide +kernel
theorem dX1_hold_100 : decode cX1_hold 100 = .ok (.iaload, 1) := by decide +kernel
theorem dX1_hold_101 : decode cX1_hold 101 = .ok (.iastore, 1) := by decide +kernel
theorem dX1_hold_102 : decode cX1_hold 102 = .ok (.aload_n 0, 1) := by decide +kernel
theorem dX1_hold_103 : decode cX1_hold 103 = .ok (.getfield 15, 3) := by decide +kernel
theorem dX1_hold_106 : decode cX1_hold 106 = .ok (.iload 4, 2) := by decide +kernel
theorem dX1_hold_108 : decode cX1_hold 108 = .ok (.aload_n 0, 1) := by decide +kernel
theorem dX1_hold_109 : decode cX1_hold 109 = .ok (.getfield 15, 3) := by decide +kernel
theorem dX1_hold_112 : decode cX1_hold 112 = .ok (.iload 4, 2) := by decide +kernel
theorem dX1_hold_114 : decode cX1_hold 114 = .ok (.iconst 1, 1) := by decide +kernel
theorem dX1_hold_115 : decode cX1_hold 115 = .ok (.isub, 1) := by decide +kernel
theorem dX1_hold_116 : decode cX1_hold 116 = .ok (.iaload, 1) := by decide +kernel
theorem dX1_hold_117 : decode cX1_hold 117 = .ok (.iastore, 1) := by decide +kernel
theorem dX1_hold_118 : decode cX1_hold 118 = .ok (.iinc 4 (-1), 3) := by decide +kernel
theorem dX1_hold_121 : decode cX1_hold 121 = .ok (.goto (-53), 3) := by decide +kernel
theorem dX1_hold_124 : decode cX1_hold 124 = .ok (.aload_n 0, 1) := by decide +kernel
theorem dX1_hold_125 : decode cX1_hold 125 = .ok (.getfield 19, 3) := by decide +kernel
theorem dX1_hold_128 : decode cX1_hold 128 = .ok (.iload 4, 2) := by decide +kernel
theorem dX1_hold_130 : decode cX1_hold 130 = .ok (.iload_n 2, 1) := by decide +kernel
theorem dX1_hold_131 : decode cX1_hold 131 = .ok (.iastore, 1) := by decide +kernel
theorem dX1_hold_132 : decode cX1_hold 132 = .ok (.aload_n 0, 1) := by decide +kernel
theorem dX1_hold_133 : decode cX1_hold 133 = .ok (.getfield 15, 3) := by decide +kernel
theorem dX1_hold_136 : decode cX1_hold 136 = .ok (.iload 4, 2) := by decide +kernel
theorem dX1_hold_138 : decode cX1_hold 138 = .ok (.iload_n 1, 1) := by decide +kernel
theorem dX1_hold_139 : decode cX1_hold 139 = .ok (.iastore, 1) := by decide +kernel
theorem dX1_hold_140 : decode cX1_hold 140 = .ok (.return_, 1) := by decide +kernel
theorem dX1_entryOf_0 : decode cX1_entryOf 0 = .ok (.aload_n 0, 1) := by decide +kernel
theorem dX1_entryOf_1 : decode cX1_entryOf 1 = .ok (.dup, 1) := by decide +kernel
theorem dX1_entryOf_2 : decode cX1_entryOf 2 = .ok (.getfield 31, 3) := by decide +kernel
theorem dX1_entryOf_5 : decode cX1_entryOf 5 = .ok (.iconst 1, 1) := by decide +kernel
theorem dX1_entryOf_6 : decode cX1_entryOf 6 = .ok (.iadd, 1) := by decide +kernel
theorem dX1_entryOf_7 : decode cX1_entryOf 7 = .ok (.putfield 31, 3) := by decide +kernel
theorem dX1_entryOf_10 : decode cX1_entryOf 10 = .ok (.iconst 0, 1) := by decide +kernel
theorem dX1_entryOf_11 : decode cX1_entryOf 11 = .ok (.istore 4, 2) := by decide +kernel
theorem dX1_entryOf_13 : decode cX1_entryOf 13 = .ok (.iload 4, 2) := by decide +kernel
theorem dX1_entryOf_15 : decode cX1_entryOf 15 = .ok (.aload_n 0, 1) := by decide +kernel
theorem dX1_entryOf_16 : decode cX1_entryOf 16 = .ok (.getfield 28, 3) := by decide +kernel
theorem dX1_entryOf_19 : decode cX1_entryOf 19 = .ok (.if_icmp .ge 65, 3) := by decide +kernel
theorem dX1_entryOf_22 : decode cX1_entryOf 22 = .ok (.iload 4, 2) := by decide +kernel
theorem dX1_entryOf_24 : decode cX1_entryOf 24 = .ok (.bipush 8, 2) := by decide +kernel
theorem dX1_entryOf_26 : decode cX1_entryOf 26 = .ok (.if_icmp .ge 58, 3) := by decide +kernel
theorem dX1_entryOf_29 : decode cX1_entryOf 29 = .ok (.aload_n 0, 1) := by decide +kernel
theorem dX1_entryOf_30 : decode cX1_entryOf 30 = .ok (.getfield 34, 3) := by decide +kernel
theorem dX1_entryOf_33 : decode cX1_entryOf 33 = .ok (.iload 4, 2) := by decide +kernel
theorem dX1_entryOf_35 : decode cX1_entryOf 35 = .ok (.iaload, 1) := by decide +kernel
theorem dX1_entryOf_36 : decode cX1_entryOf 36 = .ok (.iload_n 2, 1) := by decide +kernel
theorem dX1_entryOf_37 : decode cX1_entryOf 37 = .ok (.if_icmp .ne 41, 3) := by decide +kernel
theorem dX1_entryOf_40 : decode cX1_entryOf 40 = .ok (.aload_n 0, 1) := by decide +kernel
theorem dX1_entryOf_41 : decode cX1_entryOf 41 = .ok (.getfield 37, 3) := by decide +kernel
theorem dX1_entryOf_44 : decode cX1_entryOf 44 = .ok (.iload 4, 2) := by decide +kernel
theorem dX1_entryOf_46 : decode cX1_entryOf 46 = .ok (.iaload, 1) := by decide +kernel
theorem dX1_entryOf_47 : decode cX1_entryOf 47 = .ok (.aload_n 3, 1) := by decide +kernel
theorem dX1_entryOf_48 : decode cX1_entryOf 48 = .ok (.getfield 132, 3) := by decide +kernel
theorem dX1_entryOf_51 : decode cX1_entryOf 51 = .ok (.if_icmp .ne 27, 3) := by decide +kernel
theorem dX1_entryOf_54 : decode cX1_entryOf 54 = .ok (.aload_n 0, 1) := by decide +kernel
theorem dX1_entryOf_55 : decode cX1_entryOf 55 = .ok (.dup, 1) := by decide +kernel
theorem dX1_entryOf_56 : decode cX1_entryOf 56 = .ok (.getfield 25, 3) := by decide +kernel
theorem dX1_entryOf_59 : decode cX1_entryOf 59 = .ok (.iconst 1, 1) := by decide +kernel
theorem dX1_entryOf_60 : decode cX1_entryOf 60 = .ok (.iadd, 1) := by decide +kernel
theorem dX1_entryOf_61 : decode cX1_entryOf 61 = .ok (.putfield 25, 3) := by decide +kernel
theorem dX1_entryOf_64 : decode cX1_entryOf 64 = .ok (.aload_n 0, 1) := by decide +kernel
theorem dX1_entryOf_65 : decode cX1_entryOf 65 = .ok (.getfield 40, 3) := by decide +kernel
theorem dX1_entryOf_68 : decode cX1_entryOf 68 = .ok (.iload 4, 2) := by decide +kernel
theorem dX1_entryOf_70 : decode cX1_entryOf 70 = .ok (.aload_n 0, 1) := by decide +kernel
theorem dX1_entryOf_71 : decode cX1_entryOf 71 = .ok (.getfield 31, 3) := by decide +kernel
theorem dX1_entryOf_74 : decode cX1_entryOf 74 = .ok (.iastore, 1) := by decide +kernel
theorem dX1_entryOf_75 : decode cX1_entryOf 75 = .ok (.iload 4, 2) := by decide +kernel
theorem dX1_entryOf_77 : decode cX1_entryOf 77 = .ok (.ireturn, 1) := by decide +kernel
theorem dX1_entryOf_78 : decode cX1_entryOf 78 = .ok (.iinc 4 1, 3) := by decide +kernel
theorem dX1_entryOf_81 : decode cX1_entryOf 81 = .ok (.goto (-68), 3) := by decide +kernel
theorem dX1_entryOf_84 : decode cX1_entryOf 84 = .ok (.aload_n 0, 1) := by decide +kernel
theorem dX1_entryOf_85 : decode cX1_entryOf 85 = .ok (.invokevirtual 135, 3) := by decide +kernel
theorem dX1_entryOf_88 : decode cX1_entryOf 88 = .ok (.istore 4, 2) := by decide +kernel
theorem dX1_entryOf_90 : decode cX1_entryOf 90 = .ok (.aload_n 0, 1) := by decide +kernel
theorem dX1_entryOf_91 : decode cX1_entryOf 91 = .ok (.getfield 34, 3) := by decide +kernel
theorem dX1_entryOf_94 : decode cX1_entryOf 94 = .ok (.iload 4, 2) := by decide +kernel
theorem dX1_entryOf_96 : decode cX1_entryOf 96 = .ok (.iload_n 2, 1) := by decide +kernel
theorem dX1_entryOf_97 : decode cX1_entryOf 97 = .ok (.iastore, 1) := by decide +kernel
theorem dX1_entryOf_98 : decode cX1_entryOf 98 = .ok (.aload_n 0, 1) := by decide +kernel
theorem dX1_entryOf_99 : decode cX1_entryOf 99 = .ok (.getfield 37, 3) := by decide +kernel
theorem dX1_entryOf_102 : decode cX1_entryOf 102 = .ok (.iload 4, 2) := by decide +kernel
theorem dX1_entryOf_104 : decode cX1_entryOf 104 = .ok (.aload_n 3, 1) := by decide +kernel
theorem dX1_entryOf_105 : decode cX1_entryOf 105 = .ok (.getfield 132, 3) := by decide +kernel
theorem dX1_entryOf_108 : decode cX1_entryOf 108 = .ok (.iastore, 1) := by decide +kernel
theorem dX1_entryOf_109 : decode cX1_entryOf 109 = .ok (.aload_n 0, 1) := by decide +kernel
theorem dX1_entryOf_110 : decode cX1_entryOf 110 = .ok (.getfield 40, 3) := by decide +kernel
theorem dX1_entryOf_113 : decode cX1_entryOf 113 = .ok (.iload 4, 2) := by decide +kernel
theorem dX1_entryOf_115 : decode cX1_entryOf 115 = .ok (.aload_n 0, 1) := by decide +kernel
theorem dX1_entryOf_116 : decode cX1_entryOf 116 = .ok (.getfield 31, 3) := by decide +kernel
theorem dX1_entryOf_119 : decode cX1_entryOf 119 = .ok (.iastore, 1) := by decide +kernel
theorem dX1_entryOf_120 : decode cX1_entryOf 120 = .ok (.iconst 0, 1) := by decide +kernel
theorem dX1_entryOf_121 : decode cX1_entryOf 121 = .ok (.istore 5, 2) := by decide +kernel
theorem dX1_entryOf_123 : decode cX1_entryOf 123 = .ok (.iload 5, 2) := by decide +kernel
theorem dX1_entryOf_125 : decode cX1_entryOf 125 = .ok (.aload_n 3, 1) := by decide +kernel
theorem dX1_entryOf_126 : decode cX1_entryOf 126 = .ok (.invokevirtual 92, 3) := by decide +kernel
theorem dX1_entryOf_129 : decode cX1_entryOf 129 = .ok (.if_icmp .ge 45, 3) := by decide +kernel
theorem dX1_entryOf_132 : decode cX1_entryOf 132 = .ok (.iload 5, 2) := by decide +kernel
theorem dX1_entryOf_134 : decode cX1_entryOf 134 = .ok (.bipush 100, 2) := by decide +kernel
theorem dX1_entryOf_136 : decode cX1_entryOf 136 = .ok (.if_icmp .ge 38, 3) := by decide +kernel
theorem dX1_entryOf_139 : decode cX1_entryOf 139 = .ok (.aload_n 0, 1) := by decide +kernel
theorem dX1_entryOf_140 : decode cX1_entryOf 140 = .ok (.getfield 45, 3) := by decide +kernel
theorem dX1_entryOf_143 : decode cX1_entryOf 143 = .ok (.iload 4, 2) := by decide +kernel
theorem dX1_entryOf_145 : decode cX1_entryOf 145 = .ok (.aaload, 1) := by decide +kernel
theorem dX1_entryOf_146 : decode cX1_entryOf 146 = .ok (.iload 5, 2) := by decide +kernel
theorem dX1_entryOf_148 : decode cX1_entryOf 148 = .ok (.aload_n 0, 1) := by decide +kernel
theorem dX1_entryOf_149 : decode cX1_entryOf 149 = .ok (.getfield 54, 3) := by decide +kernel
theorem dX1_entryOf_152 : decode cX1_entryOf 152 = .ok (.aload_n 1, 1) := by decide +kernel
theorem dX1_entryOf_153 : decode cX1_entryOf 153 = .ok (.iload 5, 2) := by decide +kernel
theorem dX1_entryOf_155 : decode cX1_entryOf 155 = .ok (.invokevirtual 124, 3) := by decide +kernel
theorem dX1_entryOf_158 : decode cX1_entryOf 158 = .ok (.iconst (-1), 1) := by decide +kernel
theorem dX1_entryOf_159 : decode cX1_entryOf 159 = .ok (.if_icmp .ne 7, 3) := by decide +kernel
theorem dX1_entryOf_162 : decode cX1_entryOf 162 = .ok (.iconst 0, 1) := by decide +kernel
theorem dX1_entryOf_163 : decode cX1_entryOf 163 = .ok (.goto 4, 3) := by decide +kernel
theorem dX1_entryOf_166 : decode cX1_entryOf 166 = .ok (.iconst 1, 1) := by decide +kernel
theorem dX1_entryOf_167 : decode cX1_entryOf 167 = .ok (.iastore, 1) := by decide +kernel
theorem dX1_entryOf_168 : decode cX1_entryOf 168 = .ok (.iinc 5 1, 3) := by decide +kernel
theorem dX1_entryOf_171 : decode cX1_entryOf 171 = .ok (.goto (-48), 3) := by decide +kernel
theorem dX1_entryOf_174 : decode cX1_entryOf 174 = .ok (.iload 4, 2) := by decide +kernel
theorem dX1_entryOf_176 : decode cX1_entryOf 176 = .ok (.ireturn, 1) := by decide +kernel
theorem dX1_freeEntry_0 : decode cX1_freeEntry 0 = .ok (.aload_n 0, 1) := by decide +kernel
theorem dX1_freeEntry_1 : decode cX1_freeEntry 1 = .ok (.getfield 28, 3) := by decide +kernel
theorem dX1_freeEntry_4 : decode cX1_freeEntry 4 = .ok (.bipush 8, 2) := by decide +kernel
theorem dX1_freeEntry_6 : decode cX1_freeEntry 6 = .ok (.if_icmp .ge 20, 3) := by decide +kernel
theorem dX1_freeEntry_9 : decode cX1_freeEntry 9 = .ok (.aload_n 0, 1) := by decide +kernel
theorem dX1_freeEntry_10 : decode cX1_freeEntry 10 = .ok (.dup, 1) := by decide +kernel
theorem dX1_freeEntry_11 : decode cX1_freeEntry 11 = .ok (.getfield 28, 3) := by decide +kernel
theorem dX1_freeEntry_14 : decode cX1_freeEntry 14 = .ok (.iconst 1, 1) := by decide +kernel
theorem dX1_freeEntry_15 : decode cX1_freeEntry 15 = .ok (.iadd, 1) := by decide +kernel
theorem dX1_freeEntry_16 : decode cX1_freeEntry 16 = .ok (.putfield 28, 3) := by decide +kernel
theorem dX1_freeEntry_19 : decode cX1_freeEntry 19 = .ok (.aload_n 0, 1) := by decide +kernel
theorem dX1_freeEntry_20 : decode cX1_freeEntry 20 = .ok (.getfield 28, 3) := by decide +kernel
theorem dX1_freeEntry_23 : decode cX1_freeEntry 23 = .ok (.iconst 1, 1) := by decide +kernel
theorem dX1_freeEntry_24 : decode cX1_freeEntry 24 = .ok (.isub, 1) := by decide +kernel
theorem dX1_freeEntry_25 : decode cX1_freeEntry 25 = .ok (.ireturn, 1) := by decide +kernel
theorem dX1_freeEntry_26 : decode cX1_freeEntry 26 = .ok (.iconst 0, 1) := by decide +kernel
theorem dX1_freeEntry_27 : decode cX1_freeEntry 27 = .ok (.istore_n 1, 1) := by decide +kernel
theorem dX1_freeEntry_28 : decode cX1_freeEntry 28 = .ok (.iconst 1, 1) := by decide +kernel
theorem dX1_freeEntry_29 : decode cX1_freeEntry 29 = .ok (.istore_n 2, 1) := by decide +kernel
theorem dX1_freeEntry_30 : decode cX1_freeEntry 30 = .ok (.iload_n 2, 1) := by decide +kernel
theorem dX1_freeEntry_31 : decode cX1_freeEntry 31 = .ok (.bipush 8, 2) := by decide +kernel
theorem dX1_freeEntry_33 : decode cX1_freeEntry 33 = .ok (.if_icmp .ge 26, 3) := by decide +kernel
theorem dX1_freeEntry_36 : decode cX1_freeEntry 36 = .ok (.aload_n 0, 1) := by decide +kernel
theorem dX1_freeEntry_37 : decode cX1_freeEntry 37 = .ok (.getfield 40, 3) := by decide +kernel
theorem dX1_freeEntry_40 : decode cX1_freeEntry 40 = .ok (.iload_n 2, 1) := by decide +kernel
theorem dX1_freeEntry_41 : decode cX1_freeEntry 41 = .ok (.iaload, 1) := by decide +kernel
theorem dX1_freeEntry_42 : decode cX1_freeEntry 42 = .ok (.aload_n 0, 1) := by decide +kernel
theorem dX1_freeEntry_43 : decode cX1_freeEntry 43 = .ok (.getfield 40, 3) := by decide +kernel
theorem dX1_freeEntry_46 : decode cX1_freeEntry 46 = .ok (.iload_n 1, 1) := by decide +kernel
theorem dX1_freeEntry_47 : decode cX1_freeEntry 47 = .ok (.iaload, 1) := by decide +kernel
theorem dX1_freeEntry_48 : decode cX1_freeEntry 48 = .ok (.if_icmp .ge 5, 3) := by decide +kernel
theorem dX1_freeEntry_51 : decode cX1_freeEntry 51 = .ok (.iload_n 2, 1) := by decide +kernel
theorem dX1_freeEntry_52 : decode cX1_freeEntry 52 = .ok (.istore_n 1, 1) := by decide +kernel
theorem dX1_freeEntry_53 : decode cX1_freeEntry 53 = .ok (.iinc 2 1, 3) := by decide +kernel
theorem dX1_freeEntry_56 : decode cX1_freeEntry 56 = .ok (.goto (-26), 3) := by decide +kernel
theorem dX1_freeEntry_59 : decode cX1_freeEntry 59 = .ok (.iload_n 1, 1) := by decide +kernel
theorem dX1_freeEntry_60 : decode cX1_freeEntry 60 = .ok (.ireturn, 1) := by decide +kernel
theorem dX1_readPassages_0 : decode cX1_readPassages 0 = .ok (.aload_n 1, 1) := by decide +kernel
theorem dX1_readPassages_1 : decode cX1_readPassages 1 = .ok (.ifnonnull 5, 3) := by decide +kernel
theorem dX1_readPassages_4 : decode cX1_readPassages 4 = .ok (.iconst 0, 1) := by decide +kernel
theorem dX1_readPassages_5 : decode cX1_readPassages 5 = .ok (.ireturn, 1) := by decide +kernel
theorem dX1_readPassages_6 : decode cX1_readPassages 6 = .ok (.aload_n 0, 1) := by decide +kernel
theorem dX1_readPassages_7 : decode cX1_readPassages 7 = .ok (.getfield 54, 3) := by decide +kernel
theorem dX1_readPassages_10 : decode cX1_readPassages 10 = .ok (.aload_n 2, 1) := by decide +kernel
theorem dX1_readPassages_11 : decode cX1_readPassages 11 = .ok (.aload_n 1, 1) := by decide +kernel
theorem dX1_readPassages_12 : decode cX1_readPassages 12 = .ok (.invokevirtual 138, 3) := by decide +kernel
theorem dX1_readPassages_15 : decode cX1_readPassages 15 = .ok (.aload_n 0, 1) := by decide +kernel
theorem dX1_readPassages_16 : decode cX1_readPassages 16 = .ok (.aload_n 2, 1) := by decide +kernel
theorem dX1_readPassages_17 : decode cX1_readPassages 17 = .ok (.iload_n 3, 1) := by decide +kernel
theorem dX1_readPassages_18 : decode cX1_readPassages 18 = .ok (.invokevirtual 142, 3) := by decide +kernel
theorem dX1_readPassages_21 : decode cX1_readPassages 21 = .ok (.istore 4, 2) := by decide +kernel
theorem dX1_readPassages_23 : decode cX1_readPassages 23 = .ok (.iconst 1, 1) := by decide +kernel
theorem dX1_readPassages_24 : decode cX1_readPassages 24 = .ok (.istore 5, 2) := by decide +kernel
theorem dX1_readPassages_26 : decode cX1_readPassages 26 = .ok (.iload 4, 2) := by decide +kernel
theorem dX1_readPassages_28 : decode cX1_readPassages 28 = .ok (.ifCond .eq 37, 3) := by decide +kernel
theorem dX1_readPassages_31 : decode cX1_readPassages 31 = .ok (.iload 5, 2) := by decide +kernel
theorem dX1_readPassages_33 : decode cX1_readPassages 33 = .ok (.iconst 4, 1) := by decide +kernel
theorem dX1_readPassages_34 : decode cX1_readPassages 34 = .ok (.if_icmp .gt 31, 3) := by decide +kernel
theorem dX1_readPassages_37 : decode cX1_readPassages 37 = .ok (.aload_n 0, 1) := by decide +kernel
theorem dX1_readPassages_38 : decode cX1_readPassages 38 = .ok (.getfield 51, 3) := by decide +kernel
theorem dX1_readPassages_41 : decode cX1_readPassages 41 = .ok (.aload_n 0, 1) := by decide +kernel
theorem dX1_readPassages_42 : decode cX1_readPassages 42 = .ok (.getfield 48, 3) := by decide +kernel
theorem dX1_readPassages_45 : decode cX1_readPassages 45 = .ok (.iload 4, 2) := by decide +kernel
theorem dX1_readPassages_47 : decode cX1_readPassages 47 = .ok (.iconst 0, 1) := by decide +kernel
theorem dX1_readPassages_48 : decode cX1_readPassages 48 = .ok (.iload 5, 2) := by decide +kernel
theorem dX1_readPassages_50 : decode cX1_readPassages 50 = .ok (.invokestatic 145, 3) := by decide +kernel
theorem dX1_readPassages_53 : decode cX1_readPassages 53 = .ok (.ifCond .eq 6, 3) := by decide +kernel
theorem dX1_readPassages_56 : decode cX1_readPassages 56 = .ok (.iload 5, 2) := by decide +kernel
theorem dX1_readPassages_58 : decode cX1_readPassages 58 = .ok (.ireturn, 1) := by decide +kernel
theorem dX1_readPassages_59 : decode cX1_readPassages 59 = .ok (.iinc 5 1, 3) := by decide +kernel
theorem dX1_readPassages_62 : decode cX1_readPassages 62 = .ok (.goto (-36), 3) := by decide +kernel
theorem dX1_readPassages_65 : decode cX1_readPassages 65 = .ok (.iconst 0, 1) := by decide +kernel
theorem dX1_readPassages_66 : decode cX1_readPassages 66 = .ok (.ireturn, 1) := by decide +kernel
theorem dX1_readSpots_0 : decode cX1_readSpots 0 = .ok (.aload_n 0, 1) := by decide +kernel
theorem dX1_readSpots_1 : decode cX1_readSpots 1 = .ok (.getfield 51, 3) := by decide +kernel
theorem dX1_readSpots_4 : decode cX1_readSpots 4 = .ok (.iconst (-1), 1) := by decide +kernel
theorem dX1_readSpots_5 : decode cX1_readSpots 5 = .ok (.invokestatic 149, 3) := by decide +kernel
theorem dX1_readSpots_8 : decode cX1_readSpots 8 = .ok (.aload_n 0, 1) := by decide +kernel
theorem dX1_readSpots_9 : decode cX1_readSpots 9 = .ok (.getfield 54, 3) := by decide +kernel
theorem dX1_readSpots_12 : decode cX1_readSpots 12 = .ok (.aload_n 1, 1) := by decide +kernel
theorem dX1_readSpots_13 : decode cX1_readSpots 13 = .ok (.iconst 0, 1) := by decide +kernel
theorem dX1_readSpots_14 : decode cX1_readSpots 14 = .ok (.invokevirtual 124, 3) := by decide +kernel
theorem dX1_readSpots_17 : decode cX1_readSpots 17 = .ok (.iconst (-1), 1) := by decide +kernel
theorem dX1_readSpots_18 : decode cX1_readSpots 18 = .ok (.if_icmp .ne 5, 3) := by decide +kernel
theorem dX1_readSpots_21 : decode cX1_readSpots 21 = .ok (.iconst 0, 1) := by decide +kernel
theorem dX1_readSpots_22 : decode cX1_readSpots 22 = .ok (.ireturn, 1) := by decide +kernel
theorem dX1_readSpots_23 : decode cX1_readSpots 23 = .ok (.iconst 0, 1) := by decide +kernel
theorem dX1_readSpots_24 : decode cX1_readSpots 24 = .ok (.istore_n 3, 1) := by decide +kernel
theorem dX1_readSpots_25 : decode cX1_readSpots 25 = .ok (.iconst 0, 1) := by decide +kernel
theorem dX1_readSpots_26 : decode cX1_readSpots 26 = .ok (.istore 4, 2) := by decide +kernel
theorem dX1_readSpots_28 : decode cX1_readSpots 28 = .ok (.iload 4, 2) := by decide +kernel
theorem dX1_readSpots_30 : decode cX1_readSpots 30 = .ok (.aload_n 1, 1) := by decide +kernel
theorem dX1_readSpots_31 : decode cX1_readSpots 31 = .ok (.getfield 155, 3) := by decide +kernel
theorem dX1_readSpots_34 : decode cX1_readSpots 34 = .ok (.invokevirtual 160, 3) := by decide +kernel
theorem dX1_readSpots_37 : decode cX1_readSpots 37 = .ok (.if_icmp .ge 81, 3) := by decide +kernel
theorem dX1_readSpots_40 : decode cX1_readSpots 40 = .ok (.iload 4, 2) := by decide +kernel
theorem dX1_readSpots_42 : decode cX1_readSpots 42 = .ok (.aload_n 0, 1) := by decide +kernel
theorem dX1_readSpots_43 : decode cX1_readSpots 43 = .ok (.getfield 51, 3) := by decide +kernel
theorem dX1_readSpots_46 : decode cX1_readSpots 46 = .ok (.arraylength, 1) := by decide +kernel
theorem dX1_readSpots_47 : decode cX1_readSpots 47 = .ok (.if_icmp .ge 71, 3) := by decide +kernel
theorem dX1_readSpots_50 : decode cX1_readSpots 50 = .ok (.aload_n 1, 1) := by decide +kernel
theorem dX1_readSpots_51 : decode cX1_readSpots 51 = .ok (.getfield 155, 3) := by decide +kernel
theorem dX1_readSpots_54 : decode cX1_readSpots 54 = .ok (.iload 4, 2) := by decide +kernel
theorem dX1_readSpots_56 : decode cX1_readSpots 56 = .ok (.invokevirtual 113, 3) := by decide +kernel
theorem dX1_readSpots_59 : decode cX1_readSpots 59 = .ok (.checkcast 161, 3) := by decide +kernel
theorem dX1_readSpots_62 : decode cX1_readSpots 62 = .ok (.astore 5, 2) := by decide +kernel
theorem dX1_readSpots_64 : decode cX1_readSpots 64 = .ok (.aload_n 0, 1) := by decide +kernel
theorem dX1_readSpots_65 : decode cX1_readSpots 65 = .ok (.getfield 54, 3) := by decide +kernel
theorem dX1_readSpots_68 : decode cX1_readSpots 68 = .ok (.iload 4, 2) := by decide +kernel
theorem dX1_readSpots_70 : decode cX1_readSpots 70 = .ok (.iconst 0, 1) := by decide +kernel
theorem dX1_readSpots_71 : decode cX1_readSpots 71 = .ok (.invokevirtual 163, 3) := by decide +kernel
theorem dX1_readSpots_74 : decode cX1_readSpots 74 = .ok (.istore 6, 2) := by decide +kernel
theorem dX1_readSpots_76 : decode cX1_readSpots 76 = .ok (.aload 5, 2) := by decide +kernel
theorem dX1_readSpots_78 : decode cX1_readSpots 78 = .ok (.getfield 166, 3) := by decide +kernel
theorem dX1_readSpots_81 : decode cX1_readSpots 81 = .ok (.ifCond .ne 31, 3) := by decide +kernel
theorem dX1_readSpots_84 : decode cX1_readSpots 84 = .ok (.aload 5, 2) := by decide +kernel
theorem dX1_readSpots_86 : decode cX1_readSpots 86 = .ok (.getfield 170, 3) := by decide +kernel
theorem dX1_readSpots_89 : decode cX1_readSpots 89 = .ok (.iload_n 2, 1) := by decide +kernel
theorem dX1_readSpots_90 : decode cX1_readSpots 90 = .ok (.if_icmp .ne 22, 3) := by decide +kernel
theorem dX1_readSpots_93 : decode cX1_readSpots 93 = .ok (.iload 6, 2) := by decide +kernel
theorem dX1_readSpots_95 : decode cX1_readSpots 95 = .ok (.ifCond .eq 17, 3) := by decide +kernel
theorem dX1_readSpots_98 : decode cX1_readSpots 98 = .ok (.aload_n 0, 1) := by decide +kernel
theorem dX1_readSpots_99 : decode cX1_readSpots 99 = .ok (.getfield 51, 3) := by decide +kernel
theorem dX1_readSpots_102 : decode cX1_readSpots 102 = .ok (.iload 4, 2) := by decide +kernel
theorem dX1_readSpots_104 : decode cX1_readSpots 104 = .ok (.iload 6, 2) := by decide +kernel
theorem dX1_readSpots_106 : decode cX1_readSpots 106 = .ok (.iastore, 1) := by decide +kernel
theorem dX1_readSpots_107 : decode cX1_readSpots 107 = .ok (.iload_n 3, 1) := by decide +kernel
theorem dX1_readSpots_108 : decode cX1_readSpots 108 = .ok (.iload 6, 2) := by decide +kernel
theorem dX1_readSpots_110 : decode cX1_readSpots 110 = .ok (.ior, 1) := by decide +kernel
theorem dX1_readSpots_111 : decode cX1_readSpots 111 = .ok (.istore_n 3, 1) := by decide +kernel
theorem dX1_readSpots_112 : decode cX1_readSpots 112 = .ok (.iinc 4 1, 3) := by decide +kernel
theorem dX1_readSpots_115 : decode cX1_readSpots 115 = .ok (.goto (-87), 3) := by decide +kernel
theorem dX1_readSpots_118 : decode cX1_readSpots 118 = .ok (.iload_n 3, 1) := by decide +kernel
theorem dX1_readSpots_119 : decode cX1_readSpots 119 = .ok (.ireturn, 1) := by decide +kernel
theorem dX1_isCovered_0 : decode cX1_isCovered 0 = .ok (.iload_n 3, 1) := by decide +kernel
theorem dX1_isCovered_1 : decode cX1_isCovered 1 = .ok (.ifCond .lt 15, 3) := by decide +kernel
theorem dX1_isCovered_4 : decode cX1_isCovered 4 = .ok (.iload_n 3, 1) := by decide +kernel
theorem dX1_isCovered_5 : decode cX1_isCovered 5 = .ok (.iload 4, 2) := by decide +kernel
theorem dX1_isCovered_7 : decode cX1_isCovered 7 = .ok (.if_icmp .ge 9, 3) := by decide +kernel
theorem dX1_isCovered_10 : decode cX1_isCovered 10 = .ok (.iload_n 3, 1) := by decide +kernel
theorem dX1_isCovered_11 : decode cX1_isCovered 11 = .ok (.aload_n 1, 1) := by decide +kernel
theorem dX1_isCovered_12 : decode cX1_isCovered 12 = .ok (.arraylength, 1) := by decide +kernel
theorem dX1_isCovered_13 : decode cX1_isCovered 13 = .ok (.if_icmp .lt 11, 3) := by decide +kernel
theorem dX1_isCovered_16 : decode cX1_isCovered 16 = .ok (.aload_n 0, 1) := by decide +kernel
theorem dX1_isCovered_17 : decode cX1_isCovered 17 = .ok (.aload_n 1, 1) := by decide +kernel
theorem dX1_isCovered_18 : decode cX1_isCovered 18 = .ok (.iload 4, 2) := by decide +kernel
theorem dX1_isCovered_20 : decode cX1_isCovered 20 = .ok (.invokestatic 173, 3) := by decide +kernel
theorem dX1_isCovered_23 : decode cX1_isCovered 23 = .ok (.ireturn, 1) := by decide +kernel
theorem dX1_isCovered_24 : decode cX1_isCovered 24 = .ok (.iload_n 3, 1) := by decide +kernel
theorem dX1_isCovered_25 : decode cX1_isCovered 25 = .ok (.ifCond .ne 7, 3) := by decide +kernel
theorem dX1_isCovered_28 : decode cX1_isCovered 28 = .ok (.iconst 0, 1) := by decide +kernel
theorem dX1_isCovered_29 : decode cX1_isCovered 29 = .ok (.goto 10, 3) := by decide +kernel
theorem dX1_isCovered_32 : decode cX1_isCovered 32 = .ok (.aload_n 1, 1) := by decide +kernel
theorem dX1_isCovered_33 : decode cX1_isCovered 33 = .ok (.iload_n 3, 1) := by decide +kernel
theorem dX1_isCovered_34 : decode cX1_isCovered 34 = .ok (.iconst 1, 1) := by decide +kernel
theorem dX1_isCovered_35 : decode cX1_isCovered 35 = .ok (.isub, 1) := by decide +kernel
theorem dX1_isCovered_36 : decode cX1_isCovered 36 = .ok (.iaload, 1) := by decide +kernel
theorem dX1_isCovered_37 : decode cX1_isCovered 37 = .ok (.iconst 1, 1) := by decide +kernel
theorem dX1_isCovered_38 : decode cX1_isCovered 38 = .ok (.iadd, 1) := by decide +kernel
theorem dX1_isCovered_39 : decode cX1_isCovered 39 = .ok (.istore 5, 2) := by decide +kernel
theorem dX1_isCovered_41 : decode cX1_isCovered 41 = .ok (.iload 5, 2) := by decide +kernel
theorem dX1_isCovered_43 : decode cX1_isCovered 43 = .ok (.bipush 20, 2) := by decide +kernel
theorem dX1_isCovered_45 : decode cX1_isCovered 45 = .ok (.if_icmp .ge 39, 3) := by decide +kernel
theorem dX1_isCovered_48 : decode cX1_isCovered 48 = .ok (.iload_n 2, 1) := by decide +kernel
theorem dX1_isCovered_49 : decode cX1_isCovered 49 = .ok (.iload 5, 2) := by decide +kernel
theorem dX1_isCovered_51 : decode cX1_isCovered 51 = .ok (.ishr, 1) := by decide +kernel
theorem dX1_isCovered_52 : decode cX1_isCovered 52 = .ok (.iconst 1, 1) := by decide +kernel
theorem dX1_isCovered_53 : decode cX1_isCovered 53 = .ok (.iand, 1) := by decide +kernel
theorem dX1_isCovered_54 : decode cX1_isCovered 54 = .ok (.ifCond .eq 24, 3) := by decide +kernel
theorem dX1_isCovered_57 : decode cX1_isCovered 57 = .ok (.aload_n 1, 1) := by decide +kernel
theorem dX1_isCovered_58 : decode cX1_isCovered 58 = .ok (.iload_n 3, 1) := by decide +kernel
theorem dX1_isCovered_59 : decode cX1_isCovered 59 = .ok (.iload 5, 2) := by decide +kernel
theorem dX1_isCovered_61 : decode cX1_isCovered 61 = .ok (.iastore, 1) := by decide +kernel
theorem dX1_isCovered_62 : decode cX1_isCovered 62 = .ok (.aload_n 0, 1) := by decide +kernel
theorem dX1_isCovered_63 : decode cX1_isCovered 63 = .ok (.aload_n 1, 1) := by decide +kernel
theorem dX1_isCovered_64 : decode cX1_isCovered 64 = .ok (.iload_n 2, 1) := by decide +kernel
theorem dX1_isCovered_65 : decode cX1_isCovered 65 = .ok (.iload_n 3, 1) := by decide +kernel
theorem dX1_isCovered_66 : decode cX1_isCovered 66 = .ok (.iconst 1, 1) := by decide +kernel
theorem dX1_isCovered_67 : decode cX1_isCovered 67 = .ok (.iadd, 1) := by decide +kernel
theorem dX1_isCovered_68 : decode cX1_isCovered 68 = .ok (.iload 4, 2) := by decide +kernel
theorem dX1_isCovered_70 : decode cX1_isCovered 70 = .ok (.invokestatic 145, 3) := by decide +kernel
theorem dX1_isCovered_73 : decode cX1_isCovered 73 = .ok (.ifCond .eq 5, 3) := by decide +kernel
theorem dX1_isCovered_76 : decode cX1_isCovered 76 = .ok (.iconst 1, 1) := by decide +kernel
theorem dX1_isCovered_77 : decode cX1_isCovered 77 = .ok (.ireturn, 1) := by decide +kernel
theorem dX1_isCovered_78 : decode cX1_isCovered 78 = .ok (.iinc 5 1, 3) := by decide +kernel
theorem dX1_isCovered_81 : decode cX1_isCovered 81 = .ok (.goto (-40), 3) := by decide +kernel
theorem dX1_isCovered_84 : decode cX1_isCovered 84 = .ok (.iconst 0, 1) := by decide +kernel
theorem dX1_isCovered_85 : decode cX1_isCovered 85 = .ok (.ireturn, 1) := by decide +kernel
theorem dX1_areSpotsIn_0 : decode cX1_areSpotsIn 0 = .ok (.iconst 0, 1) := by decide +kernel
theorem dX1_areSpotsIn_1 : decode cX1_areSpotsIn 1 = .ok (.istore_n 3, 1) := by decide +kernel
theorem dX1_areSpotsIn_2 : decode cX1_areSpotsIn 2 = .ok (.iconst 0, 1) := by decide +kernel
theorem dX1_areSpotsIn_3 : decode cX1_areSpotsIn 3 = .ok (.istore 4, 2) := by decide +kernel
theorem dX1_areSpotsIn_5 : decode cX1_areSpotsIn 5 = .ok (.iload 4, 2) := by decide +kernel
theorem dX1_areSpotsIn_7 : decode cX1_areSpotsIn 7 = .ok (.iload_n 2, 1) := by decide +kernel
theorem dX1_areSpotsIn_8 : decode cX1_areSpotsIn 8 = .ok (.if_icmp .ge 26, 3) := by decide +kernel
theorem dX1_areSpotsIn_11 : decode cX1_areSpotsIn 11 = .ok (.iload 4, 2) := by decide +kernel
theorem dX1_areSpotsIn_13 : decode cX1_areSpotsIn 13 = .ok (.aload_n 1, 1) := by decide +kernel
theorem dX1_areSpotsIn_14 : decode cX1_areSpotsIn 14 = .ok (.arraylength, 1) := by decide +kernel
theorem dX1_areSpotsIn_15 : decode cX1_areSpotsIn 15 = .ok (.if_icmp .ge 19, 3) := by decide +kernel
theorem dX1_areSpotsIn_18 : decode cX1_areSpotsIn 18 = .ok (.iload_n 3, 1) := by decide +kernel
theorem dX1_areSpotsIn_19 : decode cX1_areSpotsIn 19 = .ok (.bipush 63, 2) := by decide +kernel
theorem dX1_areSpotsIn_21 : decode cX1_areSpotsIn 21 = .ok (.aload_n 1, 1) := by decide +kernel
theorem dX1_areSpotsIn_22 : decode cX1_areSpotsIn 22 = .ok (.iload 4, 2) := by decide +kernel
theorem dX1_areSpotsIn_24 : decode cX1_areSpotsIn 24 = .ok (.iaload, 1) := by decide +kernel
theorem dX1_areSpotsIn_25 : decode cX1_areSpotsIn 25 = .ok (.ishl, 1) := by decide +kernel
theorem dX1_areSpotsIn_26 : decode cX1_areSpotsIn 26 = .ok (.ior, 1) := by decide +kernel
theorem dX1_areSpotsIn_27 : decode cX1_areSpotsIn 27 = .ok (.istore_n 3, 1) := by decide +kernel
theorem dX1_areSpotsIn_28 : decode cX1_areSpotsIn 28 = .ok (.iinc 4 1, 3) := by decide +kernel
theorem dX1_areSpotsIn_31 : decode cX1_areSpotsIn 31 = .ok (.goto (-26), 3) := by decide +kernel
theorem dX1_areSpotsIn_34 : decode cX1_areSpotsIn 34 = .ok (.iconst 0, 1) := by decide +kernel
theorem dX1_areSpotsIn_35 : decode cX1_areSpotsIn 35 = .ok (.istore 4, 2) := by decide +kernel
theorem dX1_areSpotsIn_37 : decode cX1_areSpotsIn 37 = .ok (.iload 4, 2) := by decide +kernel
theorem dX1_areSpotsIn_39 : decode cX1_areSpotsIn 39 = .ok (.aload_n 0, 1) := by decide +kernel
theorem dX1_areSpotsIn_40 : decode cX1_areSpotsIn 40 = .ok (.arraylength, 1) := by decide +kernel
theorem dX1_areSpotsIn_41 : decode cX1_areSpotsIn 41 = .ok (.if_icmp .ge 20, 3) := by decide +kernel
theorem dX1_areSpotsIn_44 : decode cX1_areSpotsIn 44 = .ok (.aload_n 0, 1) := by decide +kernel
theorem dX1_areSpotsIn_45 : decode cX1_areSpotsIn 45 = .ok (.iload 4, 2) := by decide +kernel
theorem dX1_areSpotsIn_47 : decode cX1_areSpotsIn 47 = .ok (.iaload, 1) := by decide +kernel
theorem dX1_areSpotsIn_48 : decode cX1_areSpotsIn 48 = .ok (.iload_n 3, 1) := by decide +kernel
theorem dX1_areSpotsIn_49 : decode cX1_areSpotsIn 49 = .ok (.iand, 1) := by decide +kernel
theorem dX1_areSpotsIn_50 : decode cX1_areSpotsIn 50 = .ok (.ifCond .ne 5, 3) := by decide +kernel
theorem dX1_areSpotsIn_53 : decode cX1_areSpotsIn 53 = .ok (.iconst 0, 1) := by decide +kernel
theorem dX1_areSpotsIn_54 : decode cX1_areSpotsIn 54 = .ok (.ireturn, 1) := by decide +kernel
theorem dX1_areSpotsIn_55 : decode cX1_areSpotsIn 55 = .ok (.iinc 4 1, 3) := by decide +kernel
theorem dX1_areSpotsIn_58 : decode cX1_areSpotsIn 58 = .ok (.goto (-21), 3) := by decide +kernel
theorem dX1_areSpotsIn_61 : decode cX1_areSpotsIn 61 = .ok (.iconst 1, 1) := by decide +kernel
theorem dX1_areSpotsIn_62 : decode cX1_areSpotsIn 62 = .ok (.ireturn, 1) := by decide +kernel
theorem dX2_init_0 : decode cX2_init 0 = .ok (.aload_n 0, 1) := by decide +kernel
theorem dX2_init_1 : decode cX2_init 1 = .ok (.invokespecial 3, 3) := by decide +kernel
theorem dX2_init_4 : decode cX2_init 4 = .ok (.aload_n 0, 1) := by decide +kernel
theorem dX2_init_5 : decode cX2_init 5 = .ok (.aload_n 1, 1) := by decide +kernel
theorem dX2_init_6 : decode cX2_init 6 = .ok (.putfield 9, 3) := by decide +kernel
theorem dX2_init_9 : decode cX2_init 9 = .ok (.aload_n 0, 1) := by decide +kernel
theorem dX2_init_10 : decode cX2_init 10 = .ok (.aload_n 1, 1) := by decide +kernel
theorem dX2_init_11 : decode cX2_init 11 = .ok (.invokevirtual 15, 3) := by decide +kernel
theorem dX2_init_14 : decode cX2_init 14 = .ok (.newarray .boolean, 2) := by decide +kernel
theorem dX2_init_16 : decode cX2_init 16 = .ok (.putfield 21, 3) := by decide +kernel
theorem dX2_init_19 : decode cX2_init 19 = .ok (.return_, 1) := by decide +kernel
theorem dX2_copy_0 : decode cX2_copy 0 = .ok (.new 10, 3) := by decide +kernel
theorem dX2_copy_3 : decode cX2_copy 3 = .ok (.dup, 1) := by decide +kernel
theorem dX2_copy_4 : decode cX2_copy 4 = .ok (.aload_n 0, 1) := by decide +kernel
theorem dX2_copy_5 : decode cX2_copy 5 = .ok (.getfield 9, 3) := by decide +kernel
theorem dX2_copy_8 : decode cX2_copy 8 = .ok (.invokespecial 25, 3) := by decide +kernel
theorem dX2_copy_11 : decode cX2_copy 11 = .ok (.astore_n 1, 1) := by decide +kernel
theorem dX2_copy_12 : decode cX2_copy 12 = .ok (.iconst 0, 1) := by decide +kernel
theorem dX2_copy_13 : decode cX2_copy 13 = .ok (.istore_n 2, 1) := by decide +kernel
theorem dX2_copy_14 : decode cX2_copy 14 = .ok (.iload_n 2, 1) := by decide +kernel
theorem dX2_copy_15 : decode cX2_copy 15 = .ok (.aload_n 0, 1) := by decide +kernel
theorem dX2_copy_16 : decode cX2_copy 16 = .ok (.getfield 21, 3) := by decide +kernel
theorem dX2_copy_19 : decode cX2_copy 19 = .ok (.arraylength, 1) := by decide +kernel
theorem dX2_copy_20 : decode cX2_copy 20 = .ok (.if_icmp .ge 30, 3) := by decide +kernel
theorem dX2_copy_23 : decode cX2_copy 23 = .ok (.iload_n 2, 1) := by decide +kernel
theorem dX2_copy_24 : decode cX2_copy 24 = .ok (.aload_n 1, 1) := by decide +kernel
theorem dX2_copy_25 : decode cX2_copy 25 = .ok (.getfield 21, 3) := by decide +kernel
theorem dX2_copy_28 : decode cX2_copy 28 = .ok (.arraylength, 1) := by decide +kernel
theorem dX2_copy_29 : decode cX2_copy 29 = .ok (.if_icmp .ge 21, 3) := by decide +kernel
theorem dX2_copy_32 : decode cX2_copy 32 = .ok (.aload_n 1, 1) := by decide +kernel
theorem dX2_copy_33 : decode cX2_copy 33 = .ok (.getfield 21, 3) := by decide +kernel
theorem dX2_copy_36 : decode cX2_copy 36 = .ok (.iload_n 2, 1) := by decide +kernel
theorem dX2_copy_37 : decode cX2_copy 37 = .ok (.aload_n 0, 1) := by decide +kernel
theorem dX2_copy_38 : decode cX2_copy 38 = .ok (.getfield 21, 3) := by decide +kernel
theorem dX2_copy_41 : decode cX2_copy 41 = .ok (.iload_n 2, 1) := by decide +kernel
theorem dX2_copy_42 : decode cX2_copy 42 = .ok (.baload, 1) := by decide +kernel
theorem dX2_copy_43 : decode cX2_copy 43 = .ok (.bastore, 1) := by decide +kernel
theorem dX2_copy_44 : decode cX2_copy 44 = .ok (.iinc 2 1, 3) := by decide +kernel
theorem dX2_copy_47 : decode cX2_copy 47 = .ok (.goto (-33), 3) := by decide +kernel
theorem dX2_copy_50 : decode cX2_copy 50 = .ok (.aload_n 1, 1) := by decide +kernel
theorem dX2_copy_51 : decode cX2_copy 51 = .ok (.areturn, 1) := by decide +kernel
theorem dX2_isLive_0 : decode cX2_isLive 0 = .ok (.iload_n 1, 1) := by decide +kernel
theorem dX2_isLive_1 : decode cX2_isLive 1 = .ok (.ifCond .lt 25, 3) := by decide +kernel
theorem dX2_isLive_4 : decode cX2_isLive 4 = .ok (.iload_n 1, 1) := by decide +kernel
theorem dX2_isLive_5 : decode cX2_isLive 5 = .ok (.aload_n 0, 1) := by decide +kernel
theorem dX2_isLive_6 : decode cX2_isLive 6 = .ok (.getfield 21, 3) := by decide +kernel
theorem dX2_isLive_9 : decode cX2_isLive 9 = .ok (.arraylength, 1) := by decide +kernel
theorem dX2_isLive_10 : decode cX2_isLive 10 = .ok (.if_icmp .ge 16, 3) := by decide +kernel
theorem dX2_isLive_13 : decode cX2_isLive 13 = .ok (.aload_n 0, 1) := by decide +kernel
theorem dX2_isLive_14 : decode cX2_isLive 14 = .ok (.getfield 21, 3) := by decide +kernel
theorem dX2_isLive_17 : decode cX2_isLive 17 = .ok (.iload_n 1, 1) := by decide +kernel
theorem dX2_isLive_18 : decode cX2_isLive 18 = .ok (.baload, 1) := by decide +kernel
theorem dX2_isLive_19 : decode cX2_isLive 19 = .ok (.ifCond .ne 7, 3) := by decide +kernel
theorem dX2_isLive_22 : decode cX2_isLive 22 = .ok (.iconst 1, 1) := by decide +kernel
theorem dX2_isLive_23 : decode cX2_isLive 23 = .ok (.goto 4, 3) := by decide +kernel
theorem dX2_isLive_26 : decode cX2_isLive 26 = .ok (.iconst 0, 1) := by decide +kernel
theorem dX2_isLive_27 : decode cX2_isLive 27 = .ok (.ireturn, 1) := by decide +kernel
theorem dX2_liveCount_0 : decode cX2_liveCount 0 = .ok (.iconst 0, 1) := by decide +kernel
theorem dX2_liveCount_1 : decode cX2_liveCount 1 = .ok (.istore_n 1, 1) := by decide +kernel
theorem dX2_liveCount_2 : decode cX2_liveCount 2 = .ok (.iconst 0, 1) := by decide +kernel
theorem dX2_liveCount_3 : decode cX2_liveCount 3 = .ok (.istore_n 2, 1) := by decide +kernel
theorem dX2_liveCount_4 : decode cX2_liveCount 4 = .ok (.iload_n 2, 1) := by decide +kernel
theorem dX2_liveCount_5 : decode cX2_liveCount 5 = .ok (.aload_n 0, 1) := by decide +kernel
theorem dX2_liveCount_6 : decode cX2_liveCount 6 = .ok (.getfield 21, 3) := by decide +kernel
theorem dX2_liveCount_9 : decode cX2_liveCount 9 = .ok (.arraylength, 1) := by decide +kernel
theorem dX2_liveCount_10 : decode cX2_liveCount 10 = .ok (.if_icmp .ge 21, 3) := by decide +kernel
theorem dX2_liveCount_13 : decode cX2_liveCount 13 = .ok (.aload_n 0, 1) := by decide +kernel
theorem dX2_liveCount_14 : decode cX2_liveCount 14 = .ok (.getfield 21, 3) := by decide +kernel
theorem dX2_liveCount_17 : decode cX2_liveCount 17 = .ok (.iload_n 2, 1) := by decide +kernel
theorem dX2_liveCount_18 : decode cX2_liveCount 18 = .ok (.baload, 1) := by decide +kernel
theorem dX2_liveCount_19 : decode cX2_liveCount 19 = .ok (.ifCond .ne 6, 3) := by decide +kernel
theorem dX2_liveCount_22 : decode cX2_liveCount 22 = .ok (.iinc 1 1, 3) := by decide +kernel
theorem dX2_liveCount_25 : decode cX2_liveCount 25 = .ok (.iinc 2 1, 3) := by decide +kernel
theorem dX2_liveCount_28 : decode cX2_liveCount 28 = .ok (.goto (-24), 3) := by decide +kernel
theorem dX2_liveCount_31 : decode cX2_liveCount 31 = .ok (.iload_n 1, 1) := by decide +kernel
theorem dX2_liveCount_32 : decode cX2_liveCount 32 = .ok (.ireturn, 1) := by decide +kernel
theorem dX2_liveIn_0 : decode cX2_liveIn 0 = .ok (.iconst 0, 1) := by decide +kernel
theorem dX2_liveIn_1 : decode cX2_liveIn 1 = .ok (.istore_n 2, 1) := by decide +kernel
theorem dX2_liveIn_2 : decode cX2_liveIn 2 = .ok (.iconst 0, 1) := by decide +kernel
theorem dX2_liveIn_3 : decode cX2_liveIn 3 = .ok (.istore_n 3, 1) := by decide +kernel
theorem dX2_liveIn_4 : decode cX2_liveIn 4 = .ok (.iload_n 3, 1) := by decide +kernel
theorem dX2_liveIn_5 : decode cX2_liveIn 5 = .ok (.aload_n 1, 1) := by decide +kernel
theorem dX2_liveIn_6 : decode cX2_liveIn 6 = .ok (.arraylength, 1) := by decide +kernel
theorem dX2_liveIn_7 : decode cX2_liveIn 7 = .ok (.if_icmp .ge 26, 3) := by decide +kernel
theorem dX2_liveIn_10 : decode cX2_liveIn 10 = .ok (.aload_n 1, 1) := by decide +kernel
theorem dX2_liveIn_11 : decode cX2_liveIn 11 = .ok (.iload_n 3, 1) := by decide +kernel
theorem dX2_liveIn_12 : decode cX2_liveIn 12 = .ok (.iaload, 1) := by decide +kernel
theorem dX2_liveIn_13 : decode cX2_liveIn 13 = .ok (.ifCond .eq 14, 3) := by decide +kernel
theorem dX2_liveIn_16 : decode cX2_liveIn 16 = .ok (.aload_n 0, 1) := by decide +kernel
theorem dX2_liveIn_17 : decode cX2_liveIn 17 = .ok (.iload_n 3, 1) := by decide +kernel
theorem dX2_liveIn_18 : decode cX2_liveIn 18 = .ok (.invokevirtual 28, 3) := by decide +kernel
theorem dX2_liveIn_21 : decode cX2_liveIn 21 = .ok (.ifCond .eq 6, 3) := by decide +kernel
theorem dX2_liveIn_24 : decode cX2_liveIn 24 = .ok (.iinc 2 1, 3) := by decide +kernel
theorem dX2_liveIn_27 : decode cX2_liveIn 27 = .ok (.iinc 3 1, 3) := by decide +kernel
theorem dX2_liveIn_30 : decode cX2_liveIn 30 = .ok (.goto (-26), 3) := by decide +kernel
theorem dX2_liveIn_33 : decode cX2_liveIn 33 = .ok (.iload_n 2, 1) := by decide +kernel
theorem dX2_liveIn_34 : decode cX2_liveIn 34 = .ok (.ireturn, 1) := by decide +kernel
theorem dX2_hasDead_0 : decode cX2_hasDead 0 = .ok (.aload_n 0, 1) := by decide +kernel
theorem dX2_hasDead_1 : decode cX2_hasDead 1 = .ok (.invokevirtual 32, 3) := by decide +kernel
theorem dX2_hasDead_4 : decode cX2_hasDead 4 = .ok (.aload_n 0, 1) := by decide +kernel
theorem dX2_hasDead_5 : decode cX2_hasDead 5 = .ok (.getfield 21, 3) := by decide +kernel
theorem dX2_hasDead_8 : decode cX2_hasDead 8 = .ok (.arraylength, 1) := by decide +kernel
theorem dX2_hasDead_9 : decode cX2_hasDead 9 = .ok (.if_icmp .ge 7, 3) := by decide +kernel
theorem dX2_hasDead_12 : decode cX2_hasDead 12 = .ok (.iconst 1, 1) := by decide +kernel
theorem dX2_hasDead_13 : decode cX2_hasDead 13 = .ok (.goto 4, 3) := by decide +kernel
theorem dX2_hasDead_16 : decode cX2_hasDead 16 = .ok (.iconst 0, 1) := by decide +kernel
theorem dX2_hasDead_17 : decode cX2_hasDead 17 = .ok (.ireturn, 1) := by decide +kernel
theorem dX2_isAlike_0 : decode cX2_isAlike 0 = .ok (.iconst 0, 1) := by decide +kernel
theorem dX2_isAlike_1 : decode cX2_isAlike 1 = .ok (.istore_n 2, 1) := by decide +kernel
theorem dX2_isAlike_2 : decode cX2_isAlike 2 = .ok (.iload_n 2, 1) := by decide +kernel
theorem dX2_isAlike_3 : decode cX2_isAlike 3 = .ok (.aload_n 0, 1) := by decide +kernel
theorem dX2_isAlike_4 : decode cX2_isAlike 4 = .ok (.getfield 21, 3) := by decide +kernel
theorem dX2_isAlike_7 : decode cX2_isAlike 7 = .ok (.arraylength, 1) := by decide +kernel
theorem dX2_isAlike_8 : decode cX2_isAlike 8 = .ok (.if_icmp .ge 24, 3) := by decide +kernel
theorem dX2_isAlike_11 : decode cX2_isAlike 11 = .ok (.aload_n 0, 1) := by decide +kernel
theorem dX2_isAlike_12 : decode cX2_isAlike 12 = .ok (.iload_n 2, 1) := by decide +kernel
theorem dX2_isAlike_13 : decode cX2_isAlike 13 = .ok (.invokevirtual 28, 3) := by decide +kernel
theorem dX2_isAlike_16 : decode cX2_isAlike 16 = .ok (.aload_n 1, 1) := by decide +kernel
theorem dX2_isAlike_17 : decode cX2_isAlike 17 = .ok (.iload_n 2, 1) := by decide +kernel
theorem dX2_isAlike_18 : decode cX2_isAlike 18 = .ok (.invokevirtual 28, 3) := by decide +kernel
theorem dX2_isAlike_21 : decode cX2_isAlike 21 = .ok (.if_icmp .eq 5, 3) := by decide +kernel
theorem dX2_isAlike_24 : decode cX2_isAlike 24 = .ok (.iconst 0, 1) := by decide +kernel
theorem dX2_isAlike_25 : decode cX2_isAlike 25 = .ok (.ireturn, 1) := by decide +kernel
theorem dX2_isAlike_26 : decode cX2_isAlike 26 = .ok (.iinc 2 1, 3) := by decide +kernel
theorem dX2_isAlike_29 : decode cX2_isAlike 29 = .ok (.goto (-27), 3) := by decide +kernel
theorem dX2_isAlike_32 : decode cX2_isAlike 32 = .ok (.iconst 1, 1) := by decide +kernel
theorem dX2_isAlike_33 : decode cX2_isAlike 33 = .ok (.ireturn, 1) := by decide +kernel
theorem dX2_liveAt_0 : decode cX2_liveAt 0 = .ok (.iconst 0, 1) := by decide +kernel
theorem dX2_liveAt_1 : decode cX2_liveAt 1 = .ok (.istore_n 2, 1) := by decide +kernel
theorem dX2_liveAt_2 : decode cX2_liveAt 2 = .ok (.iload_n 2, 1) := by decide +kernel
theorem dX2_liveAt_3 : decode cX2_liveAt 3 = .ok (.aload_n 0, 1) := by decide +kernel
theorem dX2_liveAt_4 : decode cX2_liveAt 4 = .ok (.getfield 21, 3) := by decide +kernel
theorem dX2_liveAt_7 : decode cX2_liveAt 7 = .ok (.arraylength, 1) := by decide +kernel
theorem dX2_liveAt_8 : decode cX2_liveAt 8 = .ok (.if_icmp .ge 52, 3) := by decide +kernel
theorem dX2_liveAt_11 : decode cX2_liveAt 11 = .ok (.iload_n 2, 1) := by decide +kernel
theorem dX2_liveAt_12 : decode cX2_liveAt 12 = .ok (.aload_n 0, 1) := by decide +kernel
theorem dX2_liveAt_13 : decode cX2_liveAt 13 = .ok (.getfield 9, 3) := by decide +kernel
theorem dX2_liveAt_16 : decode cX2_liveAt 16 = .ok (.invokevirtual 15, 3) := by decide +kernel
theorem dX2_liveAt_19 : decode cX2_liveAt 19 = .ok (.if_icmp .ge 41, 3) := by decide +kernel
theorem dX2_liveAt_22 : decode cX2_liveAt 22 = .ok (.aload_n 0, 1) := by decide +kernel
theorem dX2_liveAt_23 : decode cX2_liveAt 23 = .ok (.getfield 21, 3) := by decide +kernel
theorem dX2_liveAt_26 : decode cX2_liveAt 26 = .ok (.iload_n 2, 1) := by decide +kernel
theorem dX2_liveAt_27 : decode cX2_liveAt 27 = .ok (.baload, 1) := by decide +kernel
theorem dX2_liveAt_28 : decode cX2_liveAt 28 = .ok (.ifCond .ne 26, 3) := by decide +kernel
theorem dX2_liveAt_31 : decode cX2_liveAt 31 = .ok (.aload_n 0, 1) := by decide +kernel
theorem dX2_liveAt_32 : decode cX2_liveAt 32 = .ok (.getfield 9, 3) := by decide +kernel
theorem dX2_liveAt_35 : decode cX2_liveAt 35 = .ok (.getfield 35, 3) := by decide +kernel
theorem dX2_liveAt_38 : decode cX2_liveAt 38 = .ok (.iload_n 2, 1) := by decide +kernel
theorem dX2_liveAt_39 : decode cX2_liveAt 39 = .ok (.invokevirtual 39, 3) := by decide +kernel
theorem dX2_liveAt_42 : decode cX2_liveAt 42 = .ok (.checkcast 45, 3) := by decide +kernel
theorem dX2_liveAt_45 : decode cX2_liveAt 45 = .ok (.getfield 47, 3) := by decide +kernel
theorem dX2_liveAt_48 : decode cX2_liveAt 48 = .ok (.iload_n 1, 1) := by decide +kernel
theorem dX2_liveAt_49 : decode cX2_liveAt 49 = .ok (.if_icmp .ne 5, 3) := by decide +kernel
theorem dX2_liveAt_52 : decode cX2_liveAt 52 = .ok (.iload_n 2, 1) := by decide +kernel
theorem dX2_liveAt_53 : decode cX2_liveAt 53 = .ok (.ireturn, 1) := by decide +kernel
theorem dX2_liveAt_54 : decode cX2_liveAt 54 = .ok (.iinc 2 1, 3) := by decide +kernel
theorem dX2_liveAt_57 : decode cX2_liveAt 57 = .ok (.goto (-55), 3) := by decide +kernel
theorem dX2_liveAt_60 : decode cX2_liveAt 60 = .ok (.iconst (-1), 1) := by decide +kernel
theorem dX2_liveAt_61 : decode cX2_liveAt 61 = .ok (.ireturn, 1) := by decide +kernel
theorem dX2_kill_0 : decode cX2_kill 0 = .ok (.aload_n 0, 1) := by decide +kernel
theorem dX2_kill_1 : decode cX2_kill 1 = .ok (.iload_n 1, 1) := by decide +kernel
theorem dX2_kill_2 : decode cX2_kill 2 = .ok (.invokevirtual 51, 3) := by decide +kernel
theorem dX2_kill_5 : decode cX2_kill 5 = .ok (.istore_n 2, 1) := by decide +kernel
theorem dX2_kill_6 : decode cX2_kill 6 = .ok (.iload_n 2, 1) := by decide +kernel
theorem dX2_kill_7 : decode cX2_kill 7 = .ok (.iconst (-1), 1) := by decide +kernel
theorem dX2_kill_8 : decode cX2_kill 8 = .ok (.if_icmp .eq 12, 3) := by decide +kernel
theorem dX2_kill_11 : decode cX2_kill 11 = .ok (.iload_n 2, 1) := by decide +kernel
theorem dX2_kill_12 : decode cX2_kill 12 = .ok (.aload_n 0, 1) := by decide +kernel
theorem dX2_kill_13 : decode cX2_kill 13 = .ok (.getfield 21, 3) := by decide +kernel
theorem dX2_kill_16 : decode cX2_kill 16 = .ok (.arraylength, 1) := by decide +kernel
theorem dX2_kill_17 : decode cX2_kill 17 = .ok (.if_icmp .lt 5, 3) := by decide +kernel
theorem dX2_kill_20 : decode cX2_kill 20 = .ok (.iconst 0, 1) := by decide +kernel
theorem dX2_kill_21 : decode cX2_kill 21 = .ok (.ireturn, 1) := by decide +kernel
theorem dX2_kill_22 : decode cX2_kill 22 = .ok (.aload_n 0, 1) := by decide +kernel
theorem dX2_kill_23 : decode cX2_kill 23 = .ok (.getfield 21, 3) := by decide +kernel
theorem dX2_kill_26 : decode cX2_kill 26 = .ok (.iload_n 2, 1) := by decide +kernel
theorem dX2_kill_27 : decode cX2_kill 27 = .ok (.iconst 1, 1) := by decide +kernel
theorem dX2_kill_28 : decode cX2_kill 28 = .ok (.bastore, 1) := by decide +kernel
theorem dX2_kill_29 : decode cX2_kill 29 = .ok (.iconst 1, 1) := by decide +kernel
theorem dX2_kill_30 : decode cX2_kill 30 = .ok (.ireturn, 1) := by decide +kernel
theorem dX2_gather_0 : decode cX2_gather 0 = .ok (.iconst 0, 1) := by decide +kernel
theorem dX2_gather_1 : decode cX2_gather 1 = .ok (.istore 4, 2) := by decide +kernel
theorem dX2_gather_3 : decode cX2_gather 3 = .ok (.iload 4, 2) := by decide +kernel
theorem dX2_gather_5 : decode cX2_gather 5 = .ok (.aload_n 0, 1) := by decide +kernel
theorem dX2_gather_6 : decode cX2_gather 6 = .ok (.getfield 9, 3) := by decide +kernel
theorem dX2_gather_9 : decode cX2_gather 9 = .ok (.invokevirtual 15, 3) := by decide +kernel
theorem dX2_gather_12 : decode cX2_gather 12 = .ok (.if_icmp .ge 67, 3) := by decide +kernel
theorem dX2_gather_15 : decode cX2_gather 15 = .ok (.aload_n 0, 1) := by decide +kernel
theorem dX2_gather_16 : decode cX2_gather 16 = .ok (.iload 4, 2) := by decide +kernel
theorem dX2_gather_18 : decode cX2_gather 18 = .ok (.invokevirtual 28, 3) := by decide +kernel
theorem dX2_gather_21 : decode cX2_gather 21 = .ok (.ifCond .eq 52, 3) := by decide +kernel
theorem dX2_gather_24 : decode cX2_gather 24 = .ok (.aload_n 2, 1) := by decide +kernel
theorem dX2_gather_25 : decode cX2_gather 25 = .ok (.aload_n 0, 1) := by decide +kernel
theorem dX2_gather_26 : decode cX2_gather 26 = .ok (.getfield 9, 3) := by decide +kernel
theorem dX2_gather_29 : decode cX2_gather 29 = .ok (.getfield 35, 3) := by decide +kernel
theorem dX2_gather_32 : decode cX2_gather 32 = .ok (.iload 4, 2) := by decide +kernel
theorem dX2_gather_34 : decode cX2_gather 34 = .ok (.invokevirtual 39, 3) := by decide +kernel
theorem dX2_gather_37 : decode cX2_gather 37 = .ok (.checkcast 45, 3) := by decide +kernel
theorem dX2_gather_40 : decode cX2_gather 40 = .ok (.invokevirtual 55, 3) := by decide +kernel
theorem dX2_gather_43 : decode cX2_gather 43 = .ok (.pop, 1) := by decide +kernel
theorem dX2_gather_44 : decode cX2_gather 44 = .ok (.aload_n 1, 1) := by decide +kernel
theorem dX2_gather_45 : decode cX2_gather 45 = .ok (.iload 4, 2) := by decide +kernel
theorem dX2_gather_47 : decode cX2_gather 47 = .ok (.invokevirtual 28, 3) := by decide +kernel
theorem dX2_gather_50 : decode cX2_gather 50 = .ok (.ifCond .ne 23, 3) := by decide +kernel
theorem dX2_gather_53 : decode cX2_gather 53 = .ok (.aload_n 3, 1) := by decide +kernel
theorem dX2_gather_54 : decode cX2_gather 54 = .ok (.aload_n 0, 1) := by decide +kernel
theorem dX2_gather_55 : decode cX2_gather 55 = .ok (.getfield 9, 3) := by decide +kernel
theorem dX2_gather_58 : decode cX2_gather 58 = .ok (.getfield 35, 3) := by decide +kernel
theorem dX2_gather_61 : decode cX2_gather 61 = .ok (.iload 4, 2) := by decide +kernel
theorem dX2_gather_63 : decode cX2_gather 63 = .ok (.invokevirtual 39, 3) := by decide +kernel
theorem dX2_gather_66 : decode cX2_gather 66 = .ok (.checkcast 45, 3) := by decide +kernel
theorem dX2_gather_69 : decode cX2_gather 69 = .ok (.invokevirtual 55, 3) := by decide +kernel
theorem dX2_gather_72 : decode cX2_gather 72 = .ok (.pop, 1) := by decide +kernel
theorem dX2_gather_73 : decode cX2_gather 73 = .ok (.iinc 4 1, 3) := by decide +kernel
theorem dX2_gather_76 : decode cX2_gather 76 = .ok (.goto (-73), 3) := by decide +kernel
theorem dX2_gather_79 : decode cX2_gather 79 = .ok (.return_, 1) := by decide +kernel
theorem dX3_takePad_0 : decode cX3_takePad 0 = .ok (.aload_n 0, 1) := by decide +kernel
theorem dX3_takePad_1 : decode cX3_takePad 1 = .ok (.getfield 12, 3) := by decide +kernel
theorem dX3_takePad_4 : decode cX3_takePad 4 = .ok (.astore_n 1, 1) := by decide +kernel
theorem dX3_takePad_5 : decode cX3_takePad 5 = .ok (.aload_n 0, 1) := by decide +kernel
theorem dX3_takePad_6 : decode cX3_takePad 6 = .ok (.new 9, 3) := by decide +kernel
theorem dX3_takePad_9 : decode cX3_takePad 9 = .ok (.dup, 1) := by decide +kernel
theorem dX3_takePad_10 : decode cX3_takePad 10 = .ok (.invokespecial 11, 3) := by decide +kernel
theorem dX3_takePad_13 : decode cX3_takePad 13 = .ok (.putfield 12, 3) := by decide +kernel
theorem dX3_takePad_16 : decode cX3_takePad 16 = .ok (.aload_n 1, 1) := by decide +kernel
theorem dX3_takePad_17 : decode cX3_takePad 17 = .ok (.areturn, 1) := by decide +kernel
theorem dX3_readPad_0 : decode cX3_readPad 0 = .ok (.aload_n 0, 1) := by decide +kernel
theorem dX3_readPad_1 : decode cX3_readPad 1 = .ok (.aload_n 0, 1) := by decide +kernel
theorem dX3_readPad_2 : decode cX3_readPad 2 = .ok (.getfield 12, 3) := by decide +kernel
theorem dX3_readPad_5 : decode cX3_readPad 5 = .ok (.invokevirtual 45, 3) := by decide +kernel
theorem dX3_readPad_8 : decode cX3_readPad 8 = .ok (.aload_n 0, 1) := by decide +kernel
theorem dX3_readPad_9 : decode cX3_readPad 9 = .ok (.getfield 22, 3) := by decide +kernel
theorem dX3_readPad_12 : decode cX3_readPad 12 = .ok (.ireturn, 1) := by decide +kernel
theorem dX3_readPadTokens_0 : decode cX3_readPadTokens 0 = .ok (.aload_n 0, 1) := by decide +kernel
theorem dX3_readPadTokens_1 : decode cX3_readPadTokens 1 = .ok (.aload_n 0, 1) := by decide +kernel
theorem dX3_readPadTokens_2 : decode cX3_readPadTokens 2 = .ok (.getfield 12, 3) := by decide +kernel
theorem dX3_readPadTokens_5 : decode cX3_readPadTokens 5 = .ok (.iconst 0, 1) := by decide +kernel
theorem dX3_readPadTokens_6 : decode cX3_readPadTokens 6 = .ok (.invokevirtual 49, 3) := by decide +kernel
theorem dX3_readPadTokens_9 : decode cX3_readPadTokens 9 = .ok (.aload_n 0, 1) := by decide +kernel
theorem dX3_readPadTokens_10 : decode cX3_readPadTokens 10 = .ok (.getfield 12, 3) := by decide +kernel
theorem dX3_readPadTokens_13 : decode cX3_readPadTokens 13 = .ok (.getfield 53, 3) := by decide +kernel
theorem dX3_readPadTokens_16 : decode cX3_readPadTokens 16 = .ok (.ireturn, 1) := by decide +kernel
theorem dX3_wordAt_0 : decode cX3_wordAt 0 = .ok (.iload_n 1, 1) := by decide +kernel
theorem dX3_wordAt_1 : decode cX3_wordAt 1 = .ok (.ifCond .lt 20, 3) := by decide +kernel
theorem dX3_wordAt_4 : decode cX3_wordAt 4 = .ok (.iload_n 1, 1) := by decide +kernel
theorem dX3_wordAt_5 : decode cX3_wordAt 5 = .ok (.aload_n 0, 1) := by decide +kernel
theorem dX3_wordAt_6 : decode cX3_wordAt 6 = .ok (.getfield 22, 3) := by decide +kernel
theorem dX3_wordAt_9 : decode cX3_wordAt 9 = .ok (.if_icmp .ge 12, 3) := by decide +kernel
theorem dX3_wordAt_12 : decode cX3_wordAt 12 = .ok (.iload_n 1, 1) := by decide +kernel
theorem dX3_wordAt_13 : decode cX3_wordAt 13 = .ok (.aload_n 0, 1) := by decide +kernel
theorem dX3_wordAt_14 : decode cX3_wordAt 14 = .ok (.getfield 18, 3) := by decide +kernel
theorem dX3_wordAt_17 : decode cX3_wordAt 17 = .ok (.arraylength, 1) := by decide +kernel
theorem dX3_wordAt_18 : decode cX3_wordAt 18 = .ok (.if_icmp .lt 7, 3) := by decide +kernel
theorem dX3_wordAt_21 : decode cX3_wordAt 21 = .ok (.lconst 0, 1) := by decide +kernel
theorem dX3_wordAt_22 : decode cX3_wordAt 22 = .ok (.goto 9, 3) := by decide +kernel
theorem dX3_wordAt_25 : decode cX3_wordAt 25 = .ok (.aload_n 0, 1) := by decide +kernel
theorem dX3_wordAt_26 : decode cX3_wordAt 26 = .ok (.getfield 18, 3) := by decide +kernel
theorem dX3_wordAt_29 : decode cX3_wordAt 29 = .ok (.iload_n 1, 1) := by decide +kernel
theorem dX3_wordAt_30 : decode cX3_wordAt 30 = .ok (.laload, 1) := by decide +kernel
theorem dX3_wordAt_31 : decode cX3_wordAt 31 = .ok (.lreturn, 1) := by decide +kernel
theorem dX3_putStop_0 : decode cX3_putStop 0 = .ok (.aload_n 0, 1) := by decide +kernel
theorem dX3_putStop_1 : decode cX3_putStop 1 = .ok (.iconst 0, 1) := by decide +kernel
theorem dX3_putStop_2 : decode cX3_putStop 2 = .ok (.invokevirtual 56, 3) := by decide +kernel
theorem dX3_putStop_5 : decode cX3_putStop 5 = .ok (.invokestatic 60, 3) := by decide +kernel
theorem dX3_putStop_8 : decode cX3_putStop 8 = .ok (.lstore_n 1, 1) := by decide +kernel
theorem dX3_putStop_9 : decode cX3_putStop 9 = .ok (.aload_n 0, 1) := by decide +kernel
theorem dX3_putStop_10 : decode cX3_putStop 10 = .ok (.lload_n 1, 1) := by decide +kernel
theorem dX3_putStop_11 : decode cX3_putStop 11 = .ok (.invokevirtual 64, 3) := by decide +kernel
theorem dX3_putStop_14 : decode cX3_putStop 14 = .ok (.ifCond .ne 35, 3) := by decide +kernel
theorem dX3_putStop_17 : decode cX3_putStop 17 = .ok (.aload_n 0, 1) := by decide +kernel
theorem dX3_putStop_18 : decode cX3_putStop 18 = .ok (.getfield 29, 3) := by decide +kernel
theorem dX3_putStop_21 : decode cX3_putStop 21 = .ok (.aload_n 0, 1) := by decide +kernel
theorem dX3_putStop_22 : decode cX3_putStop 22 = .ok (.getfield 26, 3) := by decide +kernel
theorem dX3_putStop_25 : decode cX3_putStop 25 = .ok (.arraylength, 1) := by decide +kernel
theorem dX3_putStop_26 : decode cX3_putStop 26 = .ok (.if_icmp .ge 23, 3) := by decide +kernel
theorem dX3_putStop_29 : decode cX3_putStop 29 = .ok (.aload_n 0, 1) := by decide +kernel
theorem dX3_putStop_30 : decode cX3_putStop 30 = .ok (.getfield 26, 3) := by decide +kernel
theorem dX3_putStop_33 : decode cX3_putStop 33 = .ok (.aload_n 0, 1) := by decide +kernel
theorem dX3_putStop_34 : decode cX3_putStop 34 = .ok (.getfield 29, 3) := by decide +kernel
theorem dX3_putStop_37 : decode cX3_putStop 37 = .ok (.lload_n 1, 1) := by decide +kernel
theorem dX3_putStop_38 : decode cX3_putStop 38 = .ok (.lastore, 1) := by decide +kernel
theorem dX3_putStop_39 : decode cX3_putStop 39 = .ok (.aload_n 0, 1) := by decide +kernel
theorem dX3_putStop_40 : decode cX3_putStop 40 = .ok (.dup, 1) := by decide +kernel
theorem dX3_putStop_41 : decode cX3_putStop 41 = .ok (.getfield 29, 3) := by decide +kernel
theorem dX3_putStop_44 : decode cX3_putStop 44 = .ok (.iconst 1, 1) := by decide +kernel
theorem dX3_putStop_45 : decode cX3_putStop 45 = .ok (.iadd, 1) := by decide +kernel
theorem dX3_putStop_46 : decode cX3_putStop 46 = .ok (.putfield 29, 3) := by decide +kernel
theorem dX3_putStop_49 : decode cX3_putStop 49 = .ok (.aload_n 0, 1) := by decide +kernel
theorem dX3_putStop_50 : decode cX3_putStop 50 = .ok (.new 9, 3) := by decide +kernel
theorem dX3_putStop_53 : decode cX3_putStop 53 = .ok (.dup, 1) := by decide +kernel
theorem dX3_putStop_54 : decode cX3_putStop 54 = .ok (.invokespecial 11, 3) := by decide +kernel
theorem dX3_putStop_57 : decode cX3_putStop 57 = .ok (.putfield 12, 3) := by decide +kernel
theorem dX3_putStop_60 : decode cX3_putStop 60 = .ok (.aload_n 0, 1) := by decide +kernel
theorem dX3_putStop_61 : decode cX3_putStop 61 = .ok (.getfield 29, 3) := by decide +kernel
theorem dX3_putStop_64 : decode cX3_putStop 64 = .ok (.ireturn, 1) := by decide +kernel
theorem dX3_putPair_0 : decode cX3_putPair 0 = .ok (.aload_n 0, 1) := by decide +kernel
theorem dX3_putPair_1 : decode cX3_putPair 1 = .ok (.getfield 38, 3) := by decide +kernel
theorem dX3_putPair_4 : decode cX3_putPair 4 = .ok (.aload_n 0, 1) := by decide +kernel
theorem dX3_putPair_5 : decode cX3_putPair 5 = .ok (.getfield 32, 3) := by decide +kernel
theorem dX3_putPair_8 : decode cX3_putPair 8 = .ok (.arraylength, 1) := by decide +kernel
theorem dX3_putPair_9 : decode cX3_putPair 9 = .ok (.if_icmp .ge 59, 3) := by decide +kernel
theorem dX3_putPair_12 : decode cX3_putPair 12 = .ok (.aload_n 0, 1) := by decide +kernel
theorem dX3_putPair_13 : decode cX3_putPair 13 = .ok (.getfield 38, 3) := by decide +kernel
theorem dX3_putPair_16 : decode cX3_putPair 16 = .ok (.aload_n 0, 1) := by decide +kernel
theorem dX3_putPair_17 : decode cX3_putPair 17 = .ok (.getfield 35, 3) := by decide +kernel
theorem dX3_putPair_20 : decode cX3_putPair 20 = .ok (.arraylength, 1) := by decide +kernel
theorem dX3_putPair_21 : decode cX3_putPair 21 = .ok (.if_icmp .ge 47, 3) := by decide +kernel
theorem dX3_putPair_24 : decode cX3_putPair 24 = .ok (.aload_n 0, 1) := by decide +kernel
theorem dX3_putPair_25 : decode cX3_putPair 25 = .ok (.getfield 32, 3) := by decide +kernel
theorem dX3_putPair_28 : decode cX3_putPair 28 = .ok (.aload_n 0, 1) := by decide +kernel
theorem dX3_putPair_29 : decode cX3_putPair 29 = .ok (.getfield 38, 3) := by decide +kernel
theorem dX3_putPair_32 : decode cX3_putPair 32 = .ok (.aload_n 0, 1) := by decide +kernel
theorem dX3_putPair_33 : decode cX3_putPair 33 = .ok (.iconst 0, 1) := by decide +kernel
theorem dX3_putPair_34 : decode cX3_putPair 34 = .ok (.invokevirtual 56, 3) := by decide +kernel
theorem dX3_putPair_37 : decode cX3_putPair 37 = .ok (.invokestatic 60, 3) := by decide +kernel
theorem dX3_putPair_40 : decode cX3_putPair 40 = .ok (.lastore, 1) := by decide +kernel
theorem dX3_putPair_41 : decode cX3_putPair 41 = .ok (.aload_n 0, 1) := by decide +kernel
theorem dX3_putPair_42 : decode cX3_putPair 42 = .ok (.getfield 35, 3) := by decide +kernel
theorem dX3_putPair_45 : decode cX3_putPair 45 = .ok (.aload_n 0, 1) := by decide +kernel
theorem dX3_putPair_46 : decode cX3_putPair 46 = .ok (.getfield 38, 3) := by decide +kernel
theorem dX3_putPair_49 : decode cX3_putPair 49 = .ok (.aload_n 0, 1) := by decide +kernel
theorem dX3_putPair_50 : decode cX3_putPair 50 = .ok (.iconst 1, 1) := by decide +kernel
theorem dX3_putPair_51 : decode cX3_putPair 51 = .ok (.invokevirtual 56, 3) := by decide +kernel
theorem dX3_putPair_54 : decode cX3_putPair 54 = .ok (.invokestatic 60, 3) := by decide +kernel
theorem dX3_putPair_57 : decode cX3_putPair 57 = .ok (.lastore, 1) := by decide +kernel
theorem dX3_putPair_58 : decode cX3_putPair 58 = .ok (.aload_n 0, 1) := by decide +kernel
theorem dX3_putPair_59 : decode cX3_putPair 59 = .ok (.dup, 1) := by decide +kernel
theorem dX3_putPair_60 : decode cX3_putPair 60 = .ok (.getfield 38, 3) := by decide +kernel
theorem dX3_putPair_63 : decode cX3_putPair 63 = .ok (.iconst 1, 1) := by decide +kernel
theorem dX3_putPair_64 : decode cX3_putPair 64 = .ok (.iadd, 1) := by decide +kernel
theorem dX3_putPair_65 : decode cX3_putPair 65 = .ok (.putfield 38, 3) := by decide +kernel
theorem dX3_putPair_68 : decode cX3_putPair 68 = .ok (.aload_n 0, 1) := by decide +kernel
theorem dX3_putPair_69 : decode cX3_putPair 69 = .ok (.new 9, 3) := by decide +kernel
theorem dX3_putPair_72 : decode cX3_putPair 72 = .ok (.dup, 1) := by decide +kernel
theorem dX3_putPair_73 : decode cX3_putPair 73 = .ok (.invokespecial 11, 3) := by decide +kernel
theorem dX3_putPair_76 : decode cX3_putPair 76 = .ok (.putfield 12, 3) := by decide +kernel
theorem dX3_putPair_79 : decode cX3_putPair 79 = .ok (.aload_n 0, 1) := by decide +kernel
theorem dX3_putPair_80 : decode cX3_putPair 80 = .ok (.getfield 38, 3) := by decide +kernel
theorem dX3_putPair_83 : decode cX3_putPair 83 = .ok (.ireturn, 1) := by decide +kernel
theorem dX3_tokenise_0 : decode cX3_tokenise 0 = .ok (.aload_n 0, 1) := by decide +kernel
theorem dX3_tokenise_1 : decode cX3_tokenise 1 = .ok (.aload_n 1, 1) := by decide +kernel
theorem dX3_tokenise_2 : decode cX3_tokenise 2 = .ok (.invokevirtual 45, 3) := by decide +kernel
theorem dX3_tokenise_5 : decode cX3_tokenise 5 = .ok (.aload_n 1, 1) := by decide +kernel
theorem dX3_tokenise_6 : decode cX3_tokenise 6 = .ok (.iconst 0, 1) := by decide +kernel
theorem dX3_tokenise_7 : decode cX3_tokenise 7 = .ok (.putfield 53, 3) := by decide +kernel
theorem dX3_tokenise_10 : decode cX3_tokenise 10 = .ok (.iconst 0, 1) := by decide +kernel
theorem dX3_tokenise_11 : decode cX3_tokenise 11 = .ok (.istore_n 3, 1) := by decide +kernel
theorem dX3_tokenise_12 : decode cX3_tokenise 12 = .ok (.iload_n 3, 1) := by decide +kernel
theorem dX3_tokenise_13 : decode cX3_tokenise 13 = .ok (.aload_n 0, 1) := by decide +kernel
theorem dX3_tokenise_14 : decode cX3_tokenise 14 = .ok (.getfield 22, 3) := by decide +kernel
theorem dX3_tokenise_17 : decode cX3_tokenise 17 = .ok (.if_icmp .ge 47, 3) := by decide +kernel
theorem dX3_tokenise_20 : decode cX3_tokenise 20 = .ok (.aload_n 0, 1) := by decide +kernel
theorem dX3_tokenise_21 : decode cX3_tokenise 21 = .ok (.iload_n 3, 1) := by decide +kernel
theorem dX3_tokenise_22 : decode cX3_tokenise 22 = .ok (.invokevirtual 56, 3) := by decide +kernel
theorem dX3_tokenise_25 : decode cX3_tokenise 25 = .ok (.invokestatic 60, 3) := by decide +kernel
theorem dX3_tokenise_28 : decode cX3_tokenise 28 = .ok (.lstore 4, 2) := by decide +kernel
theorem dX3_tokenise_30 : decode cX3_tokenise 30 = .ok (.aload_n 0, 1) := by decide +kernel
theorem dX3_tokenise_31 : decode cX3_tokenise 31 = .ok (.lload 4, 2) := by decide +kernel
theorem dX3_tokenise_33 : decode cX3_tokenise 33 = .ok (.invokevirtual 64, 3) := by decide +kernel
theorem dX3_tokenise_36 : decode cX3_tokenise 36 = .ok (.ifCond .ne 22, 3) := by decide +kernel
theorem dX3_tokenise_39 : decode cX3_tokenise 39 = .ok (.aload_n 1, 1) := by decide +kernel
theorem dX3_tokenise_40 : decode cX3_tokenise 40 = .ok (.lload 4, 2) := by decide +kernel
theorem dX3_tokenise_42 : decode cX3_tokenise 42 = .ok (.iload_n 3, 1) := by decide +kernel
theorem dX3_tokenise_43 : decode cX3_tokenise 43 = .ok (.invokevirtual 68, 3) := by decide +kernel
theorem dX3_tokenise_46 : decode cX3_tokenise 46 = .ok (.iload_n 2, 1) := by decide +kernel
theorem dX3_tokenise_47 : decode cX3_tokenise 47 = .ok (.ifCond .eq 11, 3) := by decide +kernel
theorem dX3_tokenise_50 : decode cX3_tokenise 50 = .ok (.aload_n 0, 1) := by decide +kernel
theorem dX3_tokenise_51 : decode cX3_tokenise 51 = .ok (.aload_n 1, 1) := by decide +kernel
theorem dX3_tokenise_52 : decode cX3_tokenise 52 = .ok (.lload 4, 2) := by decide +kernel
theorem dX3_tokenise_54 : decode cX3_tokenise 54 = .ok (.iload_n 3, 1) := by decide +kernel
theorem dX3_tokenise_55 : decode cX3_tokenise 55 = .ok (.invokevirtual 72, 3) := by decide +kernel
theorem dX3_tokenise_58 : decode cX3_tokenise 58 = .ok (.iinc 3 1, 3) := by decide +kernel
theorem dX3_tokenise_61 : decode cX3_tokenise 61 = .ok (.goto (-49), 3) := by decide +kernel
theorem dX3_tokenise_64 : decode cX3_tokenise 64 = .ok (.return_, 1) := by decide +kernel
theorem dX3_putSynonyms_0 : decode cX3_putSynonyms 0 = .ok (.iconst 0, 1) := by decide +kernel
theorem dX3_putSynonyms_1 : decode cX3_putSynonyms 1 = .ok (.istore 5, 2) := by decide +kernel
theorem dX3_putSynonyms_3 : decode cX3_putSynonyms 3 = .ok (.iload 5, 2) := by decide +kernel
theorem dX3_putSynonyms_5 : decode cX3_putSynonyms 5 = .ok (.aload_n 0, 1) := by decide +kernel
theorem dX3_putSynonyms_6 : decode cX3_putSynonyms 6 = .ok (.getfield 38, 3) := by decide +kernel
theorem dX3_putSynonyms_9 : decode cX3_putSynonyms 9 = .ok (.if_icmp .ge 73, 3) := by decide +kernel
theorem dX3_putSynonyms_12 : decode cX3_putSynonyms 12 = .ok (.iload 5, 2) := by decide +kernel
theorem dX3_putSynonyms_14 : decode cX3_putSynonyms 14 = .ok (.aload_n 0, 1) := by decide +kernel
theorem dX3_putSynonyms_15 : decode cX3_putSynonyms 15 = .ok (.getfield 32, 3) := by decide +kernel
theorem dX3_putSynonyms_18 : decode cX3_putSynonyms 18 = .ok (.arraylength, 1) := by decide +kernel
theorem dX3_putSynonyms_19 : decode cX3_putSynonyms 19 = .ok (.if_icmp .ge 63, 3) := by decide +kernel
theorem dX3_putSynonyms_22 : decode cX3_putSynonyms 22 = .ok (.iload 5, 2) := by decide +kernel
theorem dX3_putSynonyms_24 : decode cX3_putSynonyms 24 = .ok (.aload_n 0, 1) := by decide +kernel
theorem dX3_putSynonyms_25 : decode cX3_putSynonyms 25 = .ok (.getfield 35, 3) := by decide +kernel
theorem dX3_putSynonyms_28 : decode cX3_putSynonyms 28 = .ok (.arraylength, 1) := by decide +kernel
theorem dX3_putSynonyms_29 : decode cX3_putSynonyms 29 = .ok (.if_icmp .ge 53, 3) := by decide +kernel
theorem dX3_putSynonyms_32 : decode cX3_putSynonyms 32 = .ok (.aload_n 0, 1) := by decide +kernel
theorem dX3_putSynonyms_33 : decode cX3_putSynonyms 33 = .ok (.getfield 32, 3) := by decide +kernel
theorem dX3_putSynonyms_36 : decode cX3_putSynonyms 36 = .ok (.iload 5, 2) := by decide +kernel
theorem dX3_putSynonyms_38 : decode cX3_putSynonyms 38 = .ok (.laload, 1) := by decide +kernel
theorem dX3_putSynonyms_39 : decode cX3_putSynonyms 39 = .ok (.lload_n 2, 1) := by decide +kernel
theorem dX3_putSynonyms_40 : decode cX3_putSynonyms 40 = .ok (.lcmp, 1) := by decide +kernel
theorem dX3_putSynonyms_41 : decode cX3_putSynonyms 41 = .ok (.ifCond .ne 35, 3) := by decide +kernel
theorem dX3_putSynonyms_44 : decode cX3_putSynonyms 44 = .ok (.aload_n 1, 1) := by decide +kernel
theorem dX3_putSynonyms_45 : decode cX3_putSynonyms 45 = .ok (.aload_n 0, 1) := by decide +kernel
theorem dX3_putSynonyms_46 : decode cX3_putSynonyms 46 = .ok (.getfield 35, 3) := by decide +kernel
theorem dX3_putSynonyms_49 : decode cX3_putSynonyms 49 = .ok (.iload 5, 2) := by decide +kernel
theorem dX3_putSynonyms_51 : decode cX3_putSynonyms 51 = .ok (.laload, 1) := by decide +kernel
theorem dX3_putSynonyms_52 : decode cX3_putSynonyms 52 = .ok (.invokevirtual 76, 3) := by decide +kernel
theorem dX3_putSynonyms_55 : decode cX3_putSynonyms 55 = .ok (.iload 4, 2) := by decide +kernel
theorem dX3_putSynonyms_57 : decode cX3_putSynonyms 57 = .ok (.ishr, 1) := by decide +kernel
theorem dX3_putSynonyms_58 : decode cX3_putSynonyms 58 = .ok (.iconst 1, 1) := by decide +kernel
theorem dX3_putSynonyms_59 : decode cX3_putSynonyms 59 = .ok (.iand, 1) := by decide +kernel
theorem dX3_putSynonyms_60 : decode cX3_putSynonyms 60 = .ok (.ifCond .ne 16, 3) := by decide +kernel
theorem dX3_putSynonyms_63 : decode cX3_putSynonyms 63 = .ok (.aload_n 1, 1) := by decide +kernel
theorem dX3_putSynonyms_64 : decode cX3_putSynonyms 64 = .ok (.aload_n 0, 1) := by decide +kernel
theorem dX3_putSynonyms_65 : decode cX3_putSynonyms 65 = .ok (.getfield 35, 3) := by decide +kernel
theorem dX3_putSynonyms_68 : decode cX3_putSynonyms 68 = .ok (.iload 5, 2) := by decide +kernel
theorem dX3_putSynonyms_70 : decode cX3_putSynonyms 70 = .ok (.laload, 1) := by decide +kernel
theorem dX3_putSynonyms_71 : decode cX3_putSynonyms 71 = .ok (.iload 4, 2) := by decide +kernel
theorem dX3_putSynonyms_73 : decode cX3_putSynonyms 73 = .ok (.invokevirtual 68, 3) := by decide +kernel
theorem dX3_putSynonyms_76 : decode cX3_putSynonyms 76 = .ok (.iinc 5 1, 3) := by decide +kernel
theorem dX3_putSynonyms_79 : decode cX3_putSynonyms 79 = .ok (.goto (-76), 3) := by decide +kernel
theorem dX3_putSynonyms_82 : decode cX3_putSynonyms 82 = .ok (.return_, 1) := by decide +kernel
theorem dX3_isStop_0 : decode cX3_isStop 0 = .ok (.iconst 0, 1) := by decide +kernel
theorem dX3_isStop_1 : decode cX3_isStop 1 = .ok (.istore_n 3, 1) := by decide +kernel
theorem dX3_isStop_2 : decode cX3_isStop 2 = .ok (.iload_n 3, 1) := by decide +kernel
theorem dX3_isStop_3 : decode cX3_isStop 3 = .ok (.aload_n 0, 1) := by decide +kernel
theorem dX3_isStop_4 : decode cX3_isStop 4 = .ok (.getfield 29, 3) := by decide +kernel
theorem dX3_isStop_7 : decode cX3_isStop 7 = .ok (.if_icmp .ge 31, 3) := by decide +kernel
theorem dX3_isStop_10 : decode cX3_isStop 10 = .ok (.iload_n 3, 1) := by decide +kernel
theorem dX3_isStop_11 : decode cX3_isStop 11 = .ok (.aload_n 0, 1) := by decide +kernel
theorem dX3_isStop_12 : decode cX3_isStop 12 = .ok (.getfield 26, 3) := by decide +kernel
theorem dX3_isStop_15 : decode cX3_isStop 15 = .ok (.arraylength, 1) := by decide +kernel
theorem dX3_isStop_16 : decode cX3_isStop 16 = .ok (.if_icmp .ge 22, 3) := by decide +kernel
theorem dX3_isStop_19 : decode cX3_isStop 19 = .ok (.aload_n 0, 1) := by decide +kernel
theorem dX3_isStop_20 : decode cX3_isStop 20 = .ok (.getfield 26, 3) := by decide +kernel
theorem dX3_isStop_23 : decode cX3_isStop 23 = .ok (.iload_n 3, 1) := by decide +kernel
theorem dX3_isStop_24 : decode cX3_isStop 24 = .ok (.laload, 1) := by decide +kernel
theorem dX3_isStop_25 : decode cX3_isStop 25 = .ok (.lload_n 1, 1) := by decide +kernel
theorem dX3_isStop_26 : decode cX3_isStop 26 = .ok (.lcmp, 1) := by decide +kernel
theorem dX3_isStop_27 : decode cX3_isStop 27 = .ok (.ifCond .ne 5, 3) := by decide +kernel
theorem dX3_isStop_30 : decode cX3_isStop 30 = .ok (.iconst 1, 1) := by decide +kernel
theorem dX3_isStop_31 : decode cX3_isStop 31 = .ok (.ireturn, 1) := by decide +kernel
theorem dX3_isStop_32 : decode cX3_isStop 32 = .ok (.iinc 3 1, 3) := by decide +kernel
theorem dX3_isStop_35 : decode cX3_isStop 35 = .ok (.goto (-33), 3) := by decide +kernel
theorem dX3_isStop_38 : decode cX3_isStop 38 = .ok (.iconst 0, 1) := by decide +kernel
theorem dX3_isStop_39 : decode cX3_isStop 39 = .ok (.ireturn, 1) := by decide +kernel
theorem dX3_readWordsOf_0 : decode cX3_readWordsOf 0 = .ok (.aload_n 0, 1) := by decide +kernel
theorem dX3_readWordsOf_1 : decode cX3_readWordsOf 1 = .ok (.iconst 0, 1) := by decide +kernel
theorem dX3_readWordsOf_2 : decode cX3_readWordsOf 2 = .ok (.putfield 22, 3) := by decide +kernel
theorem dX3_readWordsOf_5 : decode cX3_readWordsOf 5 = .ok (.iconst 0, 1) := by decide +kernel
theorem dX3_readWordsOf_6 : decode cX3_readWordsOf 6 = .ok (.istore_n 2, 1) := by decide +kernel
theorem dX3_readWordsOf_7 : decode cX3_readWordsOf 7 = .ok (.iconst 0, 1) := by decide +kernel
theorem dX3_readWordsOf_8 : decode cX3_readWordsOf 8 = .ok (.istore_n 3, 1) := by decide +kernel
theorem dX3_readWordsOf_9 : decode cX3_readWordsOf 9 = .ok (.iload_n 3, 1) := by decide +kernel
theorem dX3_readWordsOf_10 : decode cX3_readWordsOf 10 = .ok (.aload_n 1, 1) := by decide +kernel
theorem dX3_readWordsOf_11 : decode cX3_readWordsOf 11 = .ok (.getfield 80, 3) := by decide +kernel
theorem dX3_readWordsOf_14 : decode cX3_readWordsOf 14 = .ok (.if_icmp .ge 103, 3) := by decide +kernel
theorem dX3_readWordsOf_17 : decode cX3_readWordsOf 17 = .ok (.aload_n 1, 1) := by decide +kernel
theorem dX3_readWordsOf_18 : decode cX3_readWordsOf 18 = .ok (.iload_n 3, 1) := by decide +kernel
theorem dX3_readWordsOf_19 : decode cX3_readWordsOf 19 = .ok (.invokevirtual 83, 3) := by decide +kernel
theorem dX3_readWordsOf_22 : decode cX3_readWordsOf 22 = .ok (.invokestatic 87, 3) := by decide +kernel
theorem dX3_readWordsOf_25 : decode cX3_readWordsOf 25 = .ok (.istore 4, 2) := by decide +kernel
theorem dX3_readWordsOf_27 : decode cX3_readWordsOf 27 = .ok (.iload 4, 2) := by decide +kernel
theorem dX3_readWordsOf_29 : decode cX3_readWordsOf 29 = .ok (.ifCond .ne 8, 3) := by decide +kernel
theorem dX3_readWordsOf_32 : decode cX3_readWordsOf 32 = .ok (.iconst 0, 1) := by decide +kernel
theorem dX3_readWordsOf_33 : decode cX3_readWordsOf 33 = .ok (.istore_n 2, 1) := by decide +kernel
theorem dX3_readWordsOf_34 : decode cX3_readWordsOf 34 = .ok (.goto 77, 3) := by decide +kernel
theorem dX3_readWordsOf_37 : decode cX3_readWordsOf 37 = .ok (.iload_n 2, 1) := by decide +kernel
theorem dX3_readWordsOf_38 : decode cX3_readWordsOf 38 = .ok (.ifCond .ne 35, 3) := by decide +kernel
theorem dX3_readWordsOf_41 : decode cX3_readWordsOf 41 = .ok (.aload_n 0, 1) := by decide +kernel
theorem dX3_readWordsOf_42 : decode cX3_readWordsOf 42 = .ok (.getfield 22, 3) := by decide +kernel
theorem dX3_readWordsOf_45 : decode cX3_readWordsOf 45 = .ok (.aload_n 0, 1) := by decide +kernel
theorem dX3_readWordsOf_46 : decode cX3_readWordsOf 46 = .ok (.getfield 18, 3) := by decide +kernel
theorem dX3_readWordsOf_49 : decode cX3_readWordsOf 49 = .ok (.arraylength, 1) := by decide +kernel
theorem dX3_readWordsOf_50 : decode cX3_readWordsOf 50 = .ok (.if_icmp .ge 23, 3) := by decide +kernel
theorem dX3_readWordsOf_53 : decode cX3_readWordsOf 53 = .ok (.aload_n 0, 1) := by decide +kernel
theorem dX3_readWordsOf_54 : decode cX3_readWordsOf 54 = .ok (.getfield 18, 3) := by decide +kernel
theorem dX3_readWordsOf_57 : decode cX3_readWordsOf 57 = .ok (.aload_n 0, 1) := by decide +kernel
theorem dX3_readWordsOf_58 : decode cX3_readWordsOf 58 = .ok (.getfield 22, 3) := by decide +kernel
theorem dX3_readWordsOf_61 : decode cX3_readWordsOf 61 = .ok (.lconst 0, 1) := by decide +kernel
theorem dX3_readWordsOf_62 : decode cX3_readWordsOf 62 = .ok (.lastore, 1) := by decide +kernel
theorem dX3_readWordsOf_63 : decode cX3_readWordsOf 63 = .ok (.aload_n 0, 1) := by decide +kernel
theorem dX3_readWordsOf_64 : decode cX3_readWordsOf 64 = .ok (.dup, 1) := by decide +kernel
theorem dX3_readWordsOf_65 : decode cX3_readWordsOf 65 = .ok (.getfield 22, 3) := by decide +kernel
theorem dX3_readWordsOf_68 : decode cX3_readWordsOf 68 = .ok (.iconst 1, 1) := by decide +kernel
theorem dX3_readWordsOf_69 : decode cX3_readWordsOf 69 = .ok (.iadd, 1) := by decide +kernel
theorem dX3_readWordsOf_70 : decode cX3_readWordsOf 70 = .ok (.putfield 22, 3) := by decide +kernel
theorem dX3_readWordsOf_73 : decode cX3_readWordsOf 73 = .ok (.aload_n 0, 1) := by decide +kernel
theorem dX3_readWordsOf_74 : decode cX3_readWordsOf 74 = .ok (.getfield 22, 3) := by decide +kernel
theorem dX3_readWordsOf_77 : decode cX3_readWordsOf 77 = .ok (.ifCond .le 31, 3) := by decide +kernel
theorem dX3_readWordsOf_80 : decode cX3_readWordsOf 80 = .ok (.aload_n 0, 1) := by decide +kernel
theorem dX3_readWordsOf_81 : decode cX3_readWordsOf 81 = .ok (.getfield 18, 3) := by decide +kernel
theorem dX3_readWordsOf_84 : decode cX3_readWordsOf 84 = .ok (.aload_n 0, 1) := by decide +kernel
theorem dX3_readWordsOf_85 : decode cX3_readWordsOf 85 = .ok (.getfield 22, 3) := by decide +kernel
theorem dX3_readWordsOf_88 : decode cX3_readWordsOf 88 = .ok (.iconst 1, 1) := by decide +kernel
theorem dX3_readWordsOf_89 : decode cX3_readWordsOf 89 = .ok (.isub, 1) := by decide +kernel
theorem dX3_readWordsOf_90 : decode cX3_readWordsOf 90 = .ok (.aload_n 0, 1) := by decide +kernel
theorem dX3_readWordsOf_91 : decode cX3_readWordsOf 91 = .ok (.getfield 18, 3) := by decide +kernel
theorem dX3_readWordsOf_94 : decode cX3_readWordsOf 94 = .ok (.aload_n 0, 1) := by decide +kernel
theorem dX3_readWordsOf_95 : decode cX3_readWordsOf 95 = .ok (.getfield 22, 3) := by decide +kernel
theorem dX3_readWordsOf_98 : decode cX3_readWordsOf 98 = .ok (.iconst 1, 1) := by decide +kernel
theorem dX3_readWordsOf_99 : decode cX3_readWordsOf 99 = .ok (.isub, 1) := by decide +kernel
theorem dX3_readWordsOf_100 : decode cX3_readWordsOf 100 = .ok (.laload, 1) := by decide +kernel
theorem dX3_readWordsOf_101 : decode cX3_readWordsOf 101 = .ok (.iload_n 2, 1) := by decide +kernel
theorem dX3_readWordsOf_102 : decode cX3_readWordsOf 102 = .ok (.iload 4, 2) := by decide +kernel
theorem dX3_readWordsOf_104 : decode cX3_readWordsOf 104 = .ok (.invokestatic 90, 3) := by decide +kernel
theorem dX3_readWordsOf_107 : decode cX3_readWordsOf 107 = .ok (.lastore, 1) := by decide +kernel
theorem dX3_readWordsOf_108 : decode cX3_readWordsOf 108 = .ok (.iinc 2 1, 3) := by decide +kernel
theorem dX3_readWordsOf_111 : decode cX3_readWordsOf 111 = .ok (.iinc 3 1, 3) := by decide +kernel
theorem dX3_readWordsOf_114 : decode cX3_readWordsOf 114 = .ok (.goto (-105), 3) := by decide +kernel
theorem dX3_readWordsOf_117 : decode cX3_readWordsOf 117 = .ok (.return_, 1) := by decide +kernel
theorem dX4_init_0 : decode cX4_init 0 = .ok (.aload_n 0, 1) := by decide +kernel
theorem dX4_init_1 : decode cX4_init 1 = .ok (.invokespecial 3, 3) := by decide +kernel
theorem dX4_init_4 : decode cX4_init 4 = .ok (.aload_n 0, 1) := by decide +kernel
theorem dX4_init_5 : decode cX4_init 5 = .ok (.iconst 0, 1) := by decide +kernel
theorem dX4_init_6 : decode cX4_init 6 = .ok (.putfield 9, 3) := by decide +kernel
theorem dX4_init_9 : decode cX4_init 9 = .ok (.aload_n 0, 1) := by decide +kernel
theorem dX4_init_10 : decode cX4_init 10 = .ok (.iconst 0, 1) := by decide +kernel
theorem dX4_init_11 : decode cX4_init 11 = .ok (.putfield 15, 3) := by decide +kernel
theorem dX4_init_14 : decode cX4_init 14 = .ok (.aload_n 0, 1) := by decide +kernel
theorem dX4_init_15 : decode cX4_init 15 = .ok (.iconst 0, 1) := by decide +kernel
theorem dX4_init_16 : decode cX4_init 16 = .ok (.putfield 19, 3) := by decide +kernel
theorem dX4_init_19 : decode cX4_init 19 = .ok (.aload_n 0, 1) := by decide +kernel
theorem dX4_init_20 : decode cX4_init 20 = .ok (.iconst 0, 1) := by decide +kernel
theorem dX4_init_21 : decode cX4_init 21 = .ok (.newarray .long, 2) := by decide +kernel
theorem dX4_init_23 : decode cX4_init 23 = .ok (.putfield 22, 3) := by decide +kernel
theorem dX4_init_26 : decode cX4_init 26 = .ok (.aload_n 0, 1) := by decide +kernel
theorem dX4_init_27 : decode cX4_init 27 = .ok (.iconst 0, 1) := by decide +kernel
theorem dX4_init_28 : decode cX4_init 28 = .ok (.newarray .int, 2) := by decide +kernel
theorem dX4_init_30 : decode cX4_init 30 = .ok (.putfield 26, 3) := by decide +kernel
theorem dX4_init_33 : decode cX4_init 33 = .ok (.aload_n 0, 1) := by decide +kernel
theorem dX4_init_34 : decode cX4_init 34 = .ok (.iconst 0, 1) := by decide +kernel
theorem dX4_init_35 : decode cX4_init 35 = .ok (.newarray .int, 2) := by decide +kernel
theorem dX4_init_37 : decode cX4_init 37 = .ok (.putfield 30, 3) := by decide +kernel
theorem dX4_init_40 : decode cX4_init 40 = .ok (.aload_n 0, 1) := by decide +kernel
theorem dX4_init_41 : decode cX4_init 41 = .ok (.lconst 0, 1) := by decide +kernel
theorem dX4_init_42 : decode cX4_init 42 = .ok (.putfield 33, 3) := by decide +kernel
theorem dX4_init_45 : decode cX4_init 45 = .ok (.aload_n 0, 1) := by decide +kernel
theorem dX4_init_46 : decode cX4_init 46 = .ok (.iconst 0, 1) := by decide +kernel
theorem dX4_init_47 : decode cX4_init 47 = .ok (.newarray .int, 2) := by decide +kernel
theorem dX4_init_49 : decode cX4_init 49 = .ok (.putfield 37, 3) := by decide +kernel
theorem dX4_init_52 : decode cX4_init 52 = .ok (.aload_n 0, 1) := by decide +kernel
theorem dX4_init_53 : decode cX4_init 53 = .ok (.iload_n 1, 1) := by decide +kernel
theorem dX4_init_54 : decode cX4_init 54 = .ok (.putfield 40, 3) := by decide +kernel
theorem dX4_init_57 : decode cX4_init 57 = .ok (.aload_n 0, 1) := by decide +kernel
theorem dX4_init_58 : decode cX4_init 58 = .ok (.iload_n 2, 1) := by decide +kernel
theorem dX4_init_59 : decode cX4_init 59 = .ok (.putfield 43, 3) := by decide +kernel
theorem dX4_init_62 : decode cX4_init 62 = .ok (.aload_n 0, 1) := by decide +kernel
theorem dX4_init_63 : decode cX4_init 63 = .ok (.iload_n 3, 1) := by decide +kernel
theorem dX4_init_64 : decode cX4_init 64 = .ok (.putfield 46, 3) := by decide +kernel
theorem dX4_init_67 : decode cX4_init 67 = .ok (.return_, 1) := by decide +kernel
theorem dX4_ofTokens_0 : decode cX4_ofTokens 0 = .ok (.new 10, 3) := by decide +kernel
theorem dX4_ofTokens_3 : decode cX4_ofTokens 3 = .ok (.dup, 1) := by decide +kernel
theorem dX4_ofTokens_4 : decode cX4_ofTokens 4 = .ok (.iload_n 0, 1) := by decide +kernel
theorem dX4_ofTokens_5 : decode cX4_ofTokens 5 = .ok (.iload_n 1, 1) := by decide +kernel
theorem dX4_ofTokens_6 : decode cX4_ofTokens 6 = .ok (.iload_n 2, 1) := by decide +kernel
theorem dX4_ofTokens_7 : decode cX4_ofTokens 7 = .ok (.invokespecial 49, 3) := by decide +kernel
theorem dX4_ofTokens_10 : decode cX4_ofTokens 10 = .ok (.astore 4, 2) := by decide +kernel
theorem dX4_ofTokens_12 : decode cX4_ofTokens 12 = .ok (.aload_n 3, 1) := by decide +kernel
theorem dX4_ofTokens_13 : decode cX4_ofTokens 13 = .ok (.getfield 52, 3) := by decide +kernel
theorem dX4_ofTokens_16 : decode cX4_ofTokens 16 = .ok (.iconst 0, 1) := by decide +kernel
theorem dX4_ofTokens_17 : decode cX4_ofTokens 17 = .ok (.invokestatic 57, 3) := by decide +kernel
theorem dX4_ofTokens_20 : decode cX4_ofTokens 20 = .ok (.bipush 6, 2) := by decide +kernel
theorem dX4_ofTokens_22 : decode cX4_ofTokens 22 = .ok (.invokestatic 63, 3) := by decide +kernel
theorem dX4_ofTokens_25 : decode cX4_ofTokens 25 = .ok (.istore 5, 2) := by decide +kernel
theorem dX4_ofTokens_27 : decode cX4_ofTokens 27 = .ok (.aload 4, 2) := by decide +kernel
theorem dX4_ofTokens_29 : decode cX4_ofTokens 29 = .ok (.iload 5, 2) := by decide +kernel
theorem dX4_ofTokens_31 : decode cX4_ofTokens 31 = .ok (.newarray .long, 2) := by decide +kernel
theorem dX4_ofTokens_33 : decode cX4_ofTokens 33 = .ok (.putfield 22, 3) := by decide +kernel
theorem dX4_ofTokens_36 : decode cX4_ofTokens 36 = .ok (.aload 4, 2) := by decide +kernel
theorem dX4_ofTokens_38 : decode cX4_ofTokens 38 = .ok (.iload 5, 2) := by decide +kernel
theorem dX4_ofTokens_40 : decode cX4_ofTokens 40 = .ok (.newarray .int, 2) := by decide +kernel
theorem dX4_ofTokens_42 : decode cX4_ofTokens 42 = .ok (.putfield 26, 3) := by decide +kernel
theorem dX4_ofTokens_45 : decode cX4_ofTokens 45 = .ok (.iconst 0, 1) := by decide +kernel
theorem dX4_ofTokens_46 : decode cX4_ofTokens 46 = .ok (.istore 6, 2) := by decide +kernel
theorem dX4_ofTokens_48 : decode cX4_ofTokens 48 = .ok (.iload 6, 2) := by decide +kernel
theorem dX4_ofTokens_50 : decode cX4_ofTokens 50 = .ok (.iload 5, 2) := by decide +kernel
theorem dX4_ofTokens_52 : decode cX4_ofTokens 52 = .ok (.if_icmp .ge 55, 3) := by decide +kernel
theorem dX4_ofTokens_55 : decode cX4_ofTokens 55 = .ok (.aload 4, 2) := by decide +kernel
theorem dX4_ofTokens_57 : decode cX4_ofTokens 57 = .ok (.getfield 22, 3) := by decide +kernel
theorem dX4_ofTokens_60 : decode cX4_ofTokens 60 = .ok (.iload 6, 2) := by decide +kernel
theorem dX4_ofTokens_62 : decode cX4_ofTokens 62 = .ok (.aload_n 3, 1) := by decide +kernel
theorem dX4_ofTokens_63 : decode cX4_ofTokens 63 = .ok (.iload 6, 2) := by decide +kernel
theorem dX4_ofTokens_65 : decode cX4_ofTokens 65 = .ok (.invokevirtual 66, 3) := by decide +kernel
theorem dX4_ofTokens_68 : decode cX4_ofTokens 68 = .ok (.lastore, 1) := by decide +kernel
theorem dX4_ofTokens_69 : decode cX4_ofTokens 69 = .ok (.aload 4, 2) := by decide +kernel
theorem dX4_ofTokens_71 : decode cX4_ofTokens 71 = .ok (.getfield 26, 3) := by decide +kernel
theorem dX4_ofTokens_74 : decode cX4_ofTokens 74 = .ok (.iload 6, 2) := by decide +kernel
theorem dX4_ofTokens_76 : decode cX4_ofTokens 76 = .ok (.iload 6, 2) := by decide +kernel
theorem dX4_ofTokens_78 : decode cX4_ofTokens 78 = .ok (.ifCond .ne 7, 3) := by decide +kernel
theorem dX4_ofTokens_81 : decode cX4_ofTokens 81 = .ok (.iconst 0, 1) := by decide +kernel
theorem dX4_ofTokens_82 : decode cX4_ofTokens 82 = .ok (.goto 18, 3) := by decide +kernel
theorem dX4_ofTokens_85 : decode cX4_ofTokens 85 = .ok (.aload_n 3, 1) := by decide +kernel
theorem dX4_ofTokens_86 : decode cX4_ofTokens 86 = .ok (.iload 6, 2) := by decide +kernel
theorem dX4_ofTokens_88 : decode cX4_ofTokens 88 = .ok (.invokevirtual 70, 3) := by decide +kernel
theorem dX4_ofTokens_91 : decode cX4_ofTokens 91 = .ok (.aload_n 3, 1) := by decide +kernel
theorem dX4_ofTokens_92 : decode cX4_ofTokens 92 = .ok (.iload 6, 2) := by decide +kernel
theorem dX4_ofTokens_94 : decode cX4_ofTokens 94 = .ok (.iconst 1, 1) := by decide +kernel
theorem dX4_ofTokens_95 : decode cX4_ofTokens 95 = .ok (.isub, 1) := by decide +kernel
theorem dX4_ofTokens_96 : decode cX4_ofTokens 96 = .ok (.invokevirtual 70, 3) := by decide +kernel
theorem dX4_ofTokens_99 : decode cX4_ofTokens 99 = .ok (.isub, 1) := by decide +kernel
theorem dX4_ofTokens_100 : decode cX4_ofTokens 100 = .ok (.iastore, 1) := by decide +kernel
theorem dX4_ofTokens_101 : decode cX4_ofTokens 101 = .ok (.iinc 6 1, 3) := by decide +kernel
theorem dX4_ofTokens_104 : decode cX4_ofTokens 104 = .ok (.goto (-56), 3) := by decide +kernel
theorem dX4_ofTokens_107 : decode cX4_ofTokens 107 = .ok (.aload 4, 2) := by decide +kernel
theorem dX4_ofTokens_109 : decode cX4_ofTokens 109 = .ok (.areturn, 1) := by decide +kernel
theorem dX4_ofPrefix_0 : decode cX4_ofPrefix 0 = .ok (.new 10, 3) := by decide +kernel
theorem dX4_ofPrefix_3 : decode cX4_ofPrefix 3 = .ok (.dup, 1) := by decide +kernel
theorem dX4_ofPrefix_4 : decode cX4_ofPrefix 4 = .ok (.iconst 2, 1) := by decide +kernel
theorem dX4_ofPrefix_5 : decode cX4_ofPrefix 5 = .ok (.iload_n 0, 1) := by decide +kernel
theorem dX4_ofPrefix_6 : decode cX4_ofPrefix 6 = .ok (.iconst 0, 1) := by decide +kernel
theorem dX4_ofPrefix_7 : decode cX4_ofPrefix 7 = .ok (.invokespecial 49, 3) := by decide +kernel
theorem dX4_ofPrefix_10 : decode cX4_ofPrefix 10 = .ok (.astore_n 3, 1) := by decide +kernel
theorem dX4_ofPrefix_11 : decode cX4_ofPrefix 11 = .ok (.lload_n 1, 1) := by decide +kernel
theorem dX4_ofPrefix_12 : decode cX4_ofPrefix 12 = .ok (.invokestatic 74, 3) := by decide +kernel
theorem dX4_ofPrefix_15 : decode cX4_ofPrefix 15 = .ok (.istore 4, 2) := by decide +kernel
theorem dX4_ofPrefix_17 : decode cX4_ofPrefix 17 = .ok (.aload_n 3, 1) := by decide +kernel
theorem dX4_ofPrefix_18 : decode cX4_ofPrefix 18 = .ok (.iload 4, 2) := by decide +kernel
theorem dX4_ofPrefix_20 : decode cX4_ofPrefix 20 = .ok (.iconst 1, 1) := by decide +kernel
theorem dX4_ofPrefix_21 : decode cX4_ofPrefix 21 = .ok (.iadd, 1) := by decide +kernel
theorem dX4_ofPrefix_22 : decode cX4_ofPrefix 22 = .ok (.newarray .int, 2) := by decide +kernel
theorem dX4_ofPrefix_24 : decode cX4_ofPrefix 24 = .ok (.putfield 30, 3) := by decide +kernel
theorem dX4_ofPrefix_27 : decode cX4_ofPrefix 27 = .ok (.iconst 0, 1) := by decide +kernel
theorem dX4_ofPrefix_28 : decode cX4_ofPrefix 28 = .ok (.istore 5, 2) := by decide +kernel
theorem dX4_ofPrefix_30 : decode cX4_ofPrefix 30 = .ok (.iload 5, 2) := by decide +kernel
theorem dX4_ofPrefix_32 : decode cX4_ofPrefix 32 = .ok (.iload 4, 2) := by decide +kernel
theorem dX4_ofPrefix_34 : decode cX4_ofPrefix 34 = .ok (.if_icmp .ge 22, 3) := by decide +kernel
theorem dX4_ofPrefix_37 : decode cX4_ofPrefix 37 = .ok (.aload_n 3, 1) := by decide +kernel
theorem dX4_ofPrefix_38 : decode cX4_ofPrefix 38 = .ok (.getfield 30, 3) := by decide +kernel
theorem dX4_ofPrefix_41 : decode cX4_ofPrefix 41 = .ok (.iload 5, 2) := by decide +kernel
theorem dX4_ofPrefix_43 : decode cX4_ofPrefix 43 = .ok (.lload_n 1, 1) := by decide +kernel
theorem dX4_ofPrefix_44 : decode cX4_ofPrefix 44 = .ok (.iload 5, 2) := by decide +kernel
theorem dX4_ofPrefix_46 : decode cX4_ofPrefix 46 = .ok (.invokestatic 78, 3) := by decide +kernel
theorem dX4_ofPrefix_49 : decode cX4_ofPrefix 49 = .ok (.iastore, 1) := by decide +kernel
theorem dX4_ofPrefix_50 : decode cX4_ofPrefix 50 = .ok (.iinc 5 1, 3) := by decide +kernel
theorem dX4_ofPrefix_53 : decode cX4_ofPrefix 53 = .ok (.goto (-23), 3) := by decide +kernel
theorem dX4_ofPrefix_56 : decode cX4_ofPrefix 56 = .ok (.aload_n 3, 1) := by decide +kernel
theorem dX4_ofPrefix_57 : decode cX4_ofPrefix 57 = .ok (.getfield 30, 3) := by decide +kernel
theorem dX4_ofPrefix_60 : decode cX4_ofPrefix 60 = .ok (.iload 4, 2) := by decide +kernel
theorem dX4_ofPrefix_62 : decode cX4_ofPrefix 62 = .ok (.bipush 38, 2) := by decide +kernel
theorem dX4_ofPrefix_64 : decode cX4_ofPrefix 64 = .ok (.iastore, 1) := by decide +kernel
theorem dX4_ofPrefix_65 : decode cX4_ofPrefix 65 = .ok (.aload_n 3, 1) := by decide +kernel
theorem dX4_ofPrefix_66 : decode cX4_ofPrefix 66 = .ok (.areturn, 1) := by decide +kernel
theorem dX4_ofPattern_0 : decode cX4_ofPattern 0 = .ok (.new 10, 3) := by decide +kernel
theorem dX4_ofPattern_3 : decode cX4_ofPattern 3 = .ok (.dup, 1) := by decide +kernel
theorem dX4_ofPattern_4 : decode cX4_ofPattern 4 = .ok (.iconst 2, 1) := by decide +kernel
theorem dX4_ofPattern_5 : decode cX4_ofPattern 5 = .ok (.iload_n 0, 1) := by decide +kernel
theorem dX4_ofPattern_6 : decode cX4_ofPattern 6 = .ok (.iconst 0, 1) := by decide +kernel
theorem dX4_ofPattern_7 : decode cX4_ofPattern 7 = .ok (.invokespecial 49, 3) := by decide +kernel
theorem dX4_ofPattern_10 : decode cX4_ofPattern 10 = .ok (.astore_n 2, 1) := by decide +kernel
theorem dX4_ofPattern_11 : decode cX4_ofPattern 11 = .ok (.aload_n 1, 1) := by decide +kernel
theorem dX4_ofPattern_12 : decode cX4_ofPattern 12 = .ok (.getfield 82, 3) := by decide +kernel
theorem dX4_ofPattern_15 : decode cX4_ofPattern 15 = .ok (.iconst 0, 1) := by decide +kernel
theorem dX4_ofPattern_16 : decode cX4_ofPattern 16 = .ok (.invokestatic 57, 3) := by decide +kernel
theorem dX4_ofPattern_19 : decode cX4_ofPattern 19 = .ok (.bipush 12, 2) := by decide +kernel
theorem dX4_ofPattern_21 : decode cX4_ofPattern 21 = .ok (.invokestatic 63, 3) := by decide +kernel
theorem dX4_ofPattern_24 : decode cX4_ofPattern 24 = .ok (.istore_n 3, 1) := by decide +kernel
theorem dX4_ofPattern_25 : decode cX4_ofPattern 25 = .ok (.aload_n 2, 1) := by decide +kernel
theorem dX4_ofPattern_26 : decode cX4_ofPattern 26 = .ok (.iload_n 3, 1) := by decide +kernel
theorem dX4_ofPattern_27 : decode cX4_ofPattern 27 = .ok (.newarray .int, 2) := by decide +kernel
theorem dX4_ofPattern_29 : decode cX4_ofPattern 29 = .ok (.putfield 30, 3) := by decide +kernel
theorem dX4_ofPattern_32 : decode cX4_ofPattern 32 = .ok (.iconst 0, 1) := by decide +kernel
theorem dX4_ofPattern_33 : decode cX4_ofPattern 33 = .ok (.istore 4, 2) := by decide +kernel
theorem dX4_ofPattern_35 : decode cX4_ofPattern 35 = .ok (.iload 4, 2) := by decide +kernel
theorem dX4_ofPattern_37 : decode cX4_ofPattern 37 = .ok (.iload_n 3, 1) := by decide +kernel
theorem dX4_ofPattern_38 : decode cX4_ofPattern 38 = .ok (.if_icmp .ge 25, 3) := by decide +kernel
theorem dX4_ofPattern_41 : decode cX4_ofPattern 41 = .ok (.aload_n 2, 1) := by decide +kernel
theorem dX4_ofPattern_42 : decode cX4_ofPattern 42 = .ok (.getfield 30, 3) := by decide +kernel
theorem dX4_ofPattern_45 : decode cX4_ofPattern 45 = .ok (.iload 4, 2) := by decide +kernel
theorem dX4_ofPattern_47 : decode cX4_ofPattern 47 = .ok (.aload_n 1, 1) := by decide +kernel
theorem dX4_ofPattern_48 : decode cX4_ofPattern 48 = .ok (.iload 4, 2) := by decide +kernel
theorem dX4_ofPattern_50 : decode cX4_ofPattern 50 = .ok (.invokevirtual 85, 3) := by decide +kernel
theorem dX4_ofPattern_53 : decode cX4_ofPattern 53 = .ok (.invokestatic 88, 3) := by decide +kernel
theorem dX4_ofPattern_56 : decode cX4_ofPattern 56 = .ok (.iastore, 1) := by decide +kernel
theorem dX4_ofPattern_57 : decode cX4_ofPattern 57 = .ok (.iinc 4 1, 3) := by decide +kernel
theorem dX4_ofPattern_60 : decode cX4_ofPattern 60 = .ok (.goto (-25), 3) := by decide +kernel
theorem dX4_ofPattern_63 : decode cX4_ofPattern 63 = .ok (.aload_n 2, 1) := by decide +kernel
theorem dX4_ofPattern_64 : decode cX4_ofPattern 64 = .ok (.areturn, 1) := by decide +kernel
theorem dX4_ofEdits_0 : decode cX4_ofEdits 0 = .ok (.new 10, 3) := by decide +kernel
theorem dX4_ofEdits_3 : decode cX4_ofEdits 3 = .ok (.dup, 1) := by decide +kernel
theorem dX4_ofEdits_4 : decode cX4_ofEdits 4 = .ok (.iconst 3, 1) := by decide +kernel
theorem dX4_ofEdits_5 : decode cX4_ofEdits 5 = .ok (.iload_n 0, 1) := by decide +kernel
theorem dX4_ofEdits_6 : decode cX4_ofEdits 6 = .ok (.iload_n 1, 1) := by decide +kernel
theorem dX4_ofEdits_7 : decode cX4_ofEdits 7 = .ok (.invokespecial 49, 3) := by decide +kernel
theorem dX4_ofEdits_10 : decode cX4_ofEdits 10 = .ok (.astore 4, 2) := by decide +kernel
theorem dX4_ofEdits_12 : decode cX4_ofEdits 12 = .ok (.aload 4, 2) := by decide +kernel
theorem dX4_ofEdits_14 : decode cX4_ofEdits 14 = .ok (.lload_n 2, 1) := by decide +kernel
theorem dX4_ofEdits_15 : decode cX4_ofEdits 15 = .ok (.putfield 33, 3) := by decide +kernel
theorem dX4_ofEdits_18 : decode cX4_ofEdits 18 = .ok (.aload 4, 2) := by decide +kernel
theorem dX4_ofEdits_20 : decode cX4_ofEdits 20 = .ok (.lload_n 2, 1) := by decide +kernel
theorem dX4_ofEdits_21 : decode cX4_ofEdits 21 = .ok (.invokestatic 74, 3) := by decide +kernel
theorem dX4_ofEdits_24 : decode cX4_ofEdits 24 = .ok (.iconst 1, 1) := by decide +kernel
theorem dX4_ofEdits_25 : decode cX4_ofEdits 25 = .ok (.iadd, 1) := by decide +kernel
theorem dX4_ofEdits_26 : decode cX4_ofEdits 26 = .ok (.newarray .int, 2) := by decide +kernel
theorem dX4_ofEdits_28 : decode cX4_ofEdits 28 = .ok (.putfield 37, 3) := by decide +kernel
theorem dX4_ofEdits_31 : decode cX4_ofEdits 31 = .ok (.aload 4, 2) := by decide +kernel
theorem dX4_ofEdits_33 : decode cX4_ofEdits 33 = .ok (.areturn, 1) := by decide +kernel
theorem dX4_ofParts_0 : decode cX4_ofParts 0 = .ok (.new 10, 3) := by decide +kernel
theorem dX4_ofParts_3 : decode cX4_ofParts 3 = .ok (.dup, 1) := by decide +kernel
theorem dX4_ofParts_4 : decode cX4_ofParts 4 = .ok (.iload_n 0, 1) := by decide +kernel
theorem dX4_ofParts_5 : decode cX4_ofParts 5 = .ok (.iconst 0, 1) := by decide +kernel
theorem dX4_ofParts_6 : decode cX4_ofParts 6 = .ok (.iload_n 2, 1) := by decide +kernel
theorem dX4_ofParts_7 : decode cX4_ofParts 7 = .ok (.invokespecial 49, 3) := by decide +kernel
theorem dX4_ofParts_10 : decode cX4_ofParts 10 = .ok (.astore_n 3, 1) := by decide +kernel
theorem dX4_ofParts_11 : decode cX4_ofParts 11 = .ok (.aload_n 3, 1) := by decide +kernel
theorem dX4_ofParts_12 : decode cX4_ofParts 12 = .ok (.iload_n 1, 1) := by decide +kernel
theorem dX4_ofParts_13 : decode cX4_ofParts 13 = .ok (.putfield 15, 3) := by decide +kernel
theorem dX4_ofParts_16 : decode cX4_ofParts 16 = .ok (.aload_n 3, 1) := by decide +kernel
theorem dX4_ofParts_17 : decode cX4_ofParts 17 = .ok (.areturn, 1) := by decide +kernel
theorem dX4_isPattern_0 : decode cX4_isPattern 0 = .ok (.aload_n 0, 1) := by decide +kernel
theorem dX4_isPattern_1 : decode cX4_isPattern 1 = .ok (.getfield 82, 3) := by decide +kernel
theorem dX4_isPattern_4 : decode cX4_isPattern 4 = .ok (.iconst 1, 1) := by decide +kernel
theorem dX4_isPattern_5 : decode cX4_isPattern 5 = .ok (.if_icmp .lt 12, 3) := by decide +kernel
theorem dX4_isPattern_8 : decode cX4_isPattern 8 = .ok (.aload_n 0, 1) := by decide +kernel
theorem dX4_isPattern_9 : decode cX4_isPattern 9 = .ok (.getfield 82, 3) := by decide +kernel
theorem dX4_isPattern_12 : decode cX4_isPattern 12 = .ok (.bipush 12, 2) := by decide +kernel
theorem dX4_isPattern_14 : decode cX4_isPattern 14 = .ok (.if_icmp .le 5, 3) := by decide +kernel
theorem dX4_isPattern_17 : decode cX4_isPattern 17 = .ok (.iconst 0, 1) := by decide +kernel
theorem dX4_isPattern_18 : decode cX4_isPattern 18 = .ok (.ireturn, 1) := by decide +kernel
theorem dX4_isPattern_19 : decode cX4_isPattern 19 = .ok (.iconst 0, 1) := by decide +kernel
theorem dX4_isPattern_20 : decode cX4_isPattern 20 = .ok (.istore_n 1, 1) := by decide +kernel
theorem dX4_isPattern_21 : decode cX4_isPattern 21 = .ok (.iload_n 1, 1) := by decide +kernel
theorem dX4_isPattern_22 : decode cX4_isPattern 22 = .ok (.aload_n 0, 1) := by decide +kernel
theorem dX4_isPattern_23 : decode cX4_isPattern 23 = .ok (.getfield 82, 3) := by decide +kernel
theorem dX4_isPattern_26 : decode cX4_isPattern 26 = .ok (.if_icmp .ge 22, 3) := by decide +kernel
theorem dX4_isPattern_29 : decode cX4_isPattern 29 = .ok (.aload_n 0, 1) := by decide +kernel
theorem dX4_isPattern_30 : decode cX4_isPattern 30 = .ok (.iload_n 1, 1) := by decide +kernel
theorem dX4_isPattern_31 : decode cX4_isPattern 31 = .ok (.invokevirtual 85, 3) := by decide +kernel
theorem dX4_isPattern_34 : decode cX4_isPattern 34 = .ok (.invokestatic 88, 3) := by decide +kernel
theorem dX4_isPattern_37 : decode cX4_isPattern 37 = .ok (.ifCond .ne 5, 3) := by decide +kernel
theorem dX4_isPattern_40 : decode cX4_isPattern 40 = .ok (.iconst 0, 1) := by decide +kernel
theorem dX4_isPattern_41 : decode cX4_isPattern 41 = .ok (.ireturn, 1) := by decide +kernel
theorem dX4_isPattern_42 : decode cX4_isPattern 42 = .ok (.iinc 1 1, 3) := by decide +kernel
theorem dX4_isPattern_45 : decode cX4_isPattern 45 = .ok (.goto (-24), 3) := by decide +kernel
theorem dX4_isPattern_48 : decode cX4_isPattern 48 = .ok (.iconst 1, 1) := by decide +kernel
theorem dX4_isPattern_49 : decode cX4_isPattern 49 = .ok (.ireturn, 1) := by decide +kernel
theorem dX4_patternOf_0 : decode cX4_patternOf 0 = .ok (.iload_n 0, 1) := by decide +kernel
theorem dX4_patternOf_1 : decode cX4_patternOf 1 = .ok (.bipush 63, 2) := by decide +kernel
theorem dX4_patternOf_3 : decode cX4_patternOf 3 = .ok (.if_icmp .ne 6, 3) := by decide +kernel
theorem dX4_patternOf_6 : decode cX4_patternOf 6 = .ok (.bipush 37, 2) := by decide +kernel
theorem dX4_patternOf_8 : decode cX4_patternOf 8 = .ok (.ireturn, 1) := by decide +kernel
theorem dX4_patternOf_9 : decode cX4_patternOf 9 = .ok (.iload_n 0, 1) := by decide +kernel
theorem dX4_patternOf_10 : decode cX4_patternOf 10 = .ok (.bipush 42, 2) := by decide +kernel
theorem dX4_patternOf_12 : decode cX4_patternOf 12 = .ok (.if_icmp .ne 8, 3) := by decide +kernel
theorem dX4_patternOf_15 : decode cX4_patternOf 15 = .ok (.bipush 38, 2) := by decide +kernel
theorem dX4_patternOf_17 : decode cX4_patternOf 17 = .ok (.goto 7, 3) := by decide +kernel
theorem dX4_patternOf_20 : decode cX4_patternOf 20 = .ok (.iload_n 0, 1) := by decide +kernel
theorem dX4_patternOf_21 : decode cX4_patternOf 21 = .ok (.invokestatic 91, 3) := by decide +kernel
theorem dX4_patternOf_24 : decode cX4_patternOf 24 = .ok (.ireturn, 1) := by decide +kernel
theorem dX4_isLeaf_0 : decode cX4_isLeaf 0 = .ok (.aload_n 0, 1) := by decide +kernel
theorem dX4_isLeaf_1 : decode cX4_isLeaf 1 = .ok (.getfield 40, 3) := by decide +kernel
theorem dX4_isLeaf_4 : decode cX4_isLeaf 4 = .ok (.iconst 4, 1) := by decide +kernel
theorem dX4_isLeaf_5 : decode cX4_isLeaf 5 = .ok (.if_icmp .ge 7, 3) := by decide +kernel
theorem dX4_isLeaf_8 : decode cX4_isLeaf 8 = .ok (.iconst 1, 1) := by decide +kernel
theorem dX4_isLeaf_9 : decode cX4_isLeaf 9 = .ok (.goto 4, 3) := by decide +kernel
theorem dX4_isLeaf_12 : decode cX4_isLeaf 12 = .ok (.iconst 0, 1) := by decide +kernel
theorem dX4_isLeaf_13 : decode cX4_isLeaf 13 = .ok (.ireturn, 1) := by decide +kernel
theorem dX4_isCounted_0 : decode cX4_isCounted 0 = .ok (.aload_n 0, 1) := by decide +kernel
theorem dX4_isCounted_1 : decode cX4_isCounted 1 = .ok (.getfield 40, 3) := by decide +kernel
theorem dX4_isCounted_4 : decode cX4_isCounted 4 = .ok (.iconst 2, 1) := by decide +kernel
theorem dX4_isCounted_5 : decode cX4_isCounted 5 = .ok (.if_icmp .ge 7, 3) := by decide +kernel
theorem dX4_isCounted_8 : decode cX4_isCounted 8 = .ok (.iconst 1, 1) := by decide +kernel
theorem dX4_isCounted_9 : decode cX4_isCounted 9 = .ok (.goto 4, 3) := by decide +kernel
theorem dX4_isCounted_12 : decode cX4_isCounted 12 = .ok (.iconst 0, 1) := by decide +kernel
theorem dX4_isCounted_13 : decode cX4_isCounted 13 = .ok (.ireturn, 1) := by decide +kernel
theorem dX4_tokenCount_0 : decode cX4_tokenCount 0 = .ok (.aload_n 0, 1) := by decide +kernel
theorem dX4_tokenCount_1 : decode cX4_tokenCount 1 = .ok (.getfield 22, 3) := by decide +kernel
theorem dX4_tokenCount_4 : decode cX4_tokenCount 4 = .ok (.arraylength, 1) := by decide +kernel
theorem dX4_tokenCount_5 : decode cX4_tokenCount 5 = .ok (.ireturn, 1) := by decide +kernel
theorem dX4_tokenAt_0 : decode cX4_tokenAt 0 = .ok (.iload_n 1, 1) := by decide +kernel
theorem dX4_tokenAt_1 : decode cX4_tokenAt 1 = .ok (.ifCond .lt 12, 3) := by decide +kernel
theorem dX4_tokenAt_4 : decode cX4_tokenAt 4 = .ok (.iload_n 1, 1) := by decide +kernel
theorem dX4_tokenAt_5 : decode cX4_tokenAt 5 = .ok (.aload_n 0, 1) := by decide +kernel
theorem dX4_tokenAt_6 : decode cX4_tokenAt 6 = .ok (.getfield 22, 3) := by decide +kernel
theorem dX4_tokenAt_9 : decode cX4_tokenAt 9 = .ok (.arraylength, 1) := by decide +kernel
theorem dX4_tokenAt_10 : decode cX4_tokenAt 10 = .ok (.if_icmp .lt 7, 3) := by decide +kernel
theorem dX4_tokenAt_13 : decode cX4_tokenAt 13 = .ok (.lconst 0, 1) := by decide +kernel
theorem dX4_tokenAt_14 : decode cX4_tokenAt 14 = .ok (.goto 9, 3) := by decide +kernel
theorem dX4_tokenAt_17 : decode cX4_tokenAt 17 = .ok (.aload_n 0, 1) := by decide +kernel
theorem dX4_tokenAt_18 : decode cX4_tokenAt 18 = .ok (.getfield 22, 3) := by decide +kernel
theorem dX4_tokenAt_21 : decode cX4_tokenAt 21 = .ok (.iload_n 1, 1) := by decide +kernel
theorem dX4_tokenAt_22 : decode cX4_tokenAt 22 = .ok (.laload, 1) := by decide +kernel
theorem dX4_tokenAt_23 : decode cX4_tokenAt 23 = .ok (.lreturn, 1) := by decide +kernel
theorem dX4_countedPlaces_0 : decode cX4_countedPlaces 0 = .ok (.aload_n 1, 1) := by decide +kernel
theorem dX4_countedPlaces_1 : decode cX4_countedPlaces 1 = .ok (.arraylength, 1) := by decide +kernel
theorem dX4_countedPlaces_2 : decode cX4_countedPlaces 2 = .ok (.aload_n 0, 1) := by decide +kernel
theorem dX4_countedPlaces_3 : decode cX4_countedPlaces 3 = .ok (.getfield 22, 3) := by decide +kernel
theorem dX4_countedPlaces_6 : decode cX4_countedPlaces 6 = .ok (.arraylength, 1) := by decide +kernel
theorem dX4_countedPlaces_7 : decode cX4_countedPlaces 7 = .ok (.if_icmp .lt 16, 3) := by decide +kernel
theorem dX4_countedPlaces_10 : decode cX4_countedPlaces 10 = .ok (.aload_n 0, 1) := by decide +kernel
theorem dX4_countedPlaces_11 : decode cX4_countedPlaces 11 = .ok (.getfield 22, 3) := by decide +kernel
theorem dX4_countedPlaces_14 : decode cX4_countedPlaces 14 = .ok (.arraylength, 1) := by decide +kernel
theorem dX4_countedPlaces_15 : decode cX4_countedPlaces 15 = .ok (.ifCond .eq 8, 3) := by decide +kernel
theorem dX4_countedPlaces_18 : decode cX4_countedPlaces 18 = .ok (.aload_n 1, 1) := by decide +kernel
theorem dX4_countedPlaces_19 : decode cX4_countedPlaces 19 = .ok (.arraylength, 1) := by decide +kernel
theorem dX4_countedPlaces_20 : decode cX4_countedPlaces 20 = .ok (.ifCond .ne 5, 3) := by decide +kernel
theorem dX4_countedPlaces_23 : decode cX4_countedPlaces 23 = .ok (.iconst 0, 1) := by decide +kernel
theorem dX4_countedPlaces_24 : decode cX4_countedPlaces 24 = .ok (.ireturn, 1) := by decide +kernel
theorem dX4_countedPlaces_25 : decode cX4_countedPlaces 25 = .ok (.iconst 0, 1) := by decide +kernel
theorem dX4_countedPlaces_26 : decode cX4_countedPlaces 26 = .ok (.istore_n 2, 1) := by decide +kernel
theorem dX4_countedPlaces_27 : decode cX4_countedPlaces 27 = .ok (.iconst 0, 1) := by decide +kernel
theorem dX4_countedPlaces_28 : decode cX4_countedPlaces 28 = .ok (.istore_n 3, 1) := by decide +kernel
theorem dX4_countedPlaces_29 : decode cX4_countedPlaces 29 = .ok (.iload_n 3, 1) := by decide +kernel
theorem dX4_countedPlaces_30 : decode cX4_countedPlaces 30 = .ok (.bipush 20, 2) := by decide +kernel
theorem dX4_countedPlaces_32 : decode cX4_countedPlaces 32 = .ok (.if_icmp .ge 34, 3) := by decide +kernel
theorem dX4_countedPlaces_35 : decode cX4_countedPlaces 35 = .ok (.aload_n 1, 1) := by decide +kernel
theorem dX4_countedPlaces_36 : decode cX4_countedPlaces 36 = .ok (.iconst 0, 1) := by decide +kernel
theorem dX4_countedPlaces_37 : decode cX4_countedPlaces 37 = .ok (.iaload, 1) := by decide +kernel
theorem dX4_countedPlaces_38 : decode cX4_countedPlaces 38 = .ok (.iload_n 3, 1) := by decide +kernel
theorem dX4_countedPlaces_39 : decode cX4_countedPlaces 39 = .ok (.ishr, 1) := by decide +kernel
theorem dX4_countedPlaces_40 : decode cX4_countedPlaces 40 = .ok (.iconst 1, 1) := by decide +kernel
theorem dX4_countedPlaces_41 : decode cX4_countedPlaces 41 = .ok (.iand, 1) := by decide +kernel
theorem dX4_countedPlaces_42 : decode cX4_countedPlaces 42 = .ok (.ifCond .eq 18, 3) := by decide +kernel
theorem dX4_countedPlaces_45 : decode cX4_countedPlaces 45 = .ok (.aload_n 0, 1) := by decide +kernel
theorem dX4_countedPlaces_46 : decode cX4_countedPlaces 46 = .ok (.aload_n 1, 1) := by decide +kernel
theorem dX4_countedPlaces_47 : decode cX4_countedPlaces 47 = .ok (.iload_n 3, 1) := by decide +kernel
theorem dX4_countedPlaces_48 : decode cX4_countedPlaces 48 = .ok (.invokevirtual 94, 3) := by decide +kernel
theorem dX4_countedPlaces_51 : decode cX4_countedPlaces 51 = .ok (.ifCond .eq 9, 3) := by decide +kernel
theorem dX4_countedPlaces_54 : decode cX4_countedPlaces 54 = .ok (.iload_n 2, 1) := by decide +kernel
theorem dX4_countedPlaces_55 : decode cX4_countedPlaces 55 = .ok (.iconst 1, 1) := by decide +kernel
theorem dX4_countedPlaces_56 : decode cX4_countedPlaces 56 = .ok (.iload_n 3, 1) := by decide +kernel
theorem dX4_countedPlaces_57 : decode cX4_countedPlaces 57 = .ok (.ishl, 1) := by decide +kernel
theorem dX4_countedPlaces_58 : decode cX4_countedPlaces 58 = .ok (.ior, 1) := by decide +kernel
theorem dX4_countedPlaces_59 : decode cX4_countedPlaces 59 = .ok (.istore_n 2, 1) := by decide +kernel
theorem dX4_countedPlaces_60 : decode cX4_countedPlaces 60 = .ok (.iinc 3 1, 3) := by decide +kernel
theorem dX4_countedPlaces_63 : decode cX4_countedPlaces 63 = .ok (.goto (-34), 3) := by decide +kernel
theorem dX4_countedPlaces_66 : decode cX4_countedPlaces 66 = .ok (.iload_n 2, 1) := by decide +kernel
theorem dX4_countedPlaces_67 : decode cX4_countedPlaces 67 = .ok (.ireturn, 1) := by decide +kernel
theorem dX4_isCountedAt_0 : decode cX4_isCountedAt 0 = .ok (.aload_n 0, 1) := by decide +kernel
theorem dX4_isCountedAt_1 : decode cX4_isCountedAt 1 = .ok (.getfield 40, 3) := by decide +kernel
theorem dX4_isCountedAt_4 : decode cX4_isCountedAt 4 = .ok (.iconst 1, 1) := by decide +kernel
theorem dX4_isCountedAt_5 : decode cX4_isCountedAt 5 = .ok (.if_icmp .ne 26, 3) := by decide +kernel
theorem dX4_isCountedAt_8 : decode cX4_isCountedAt 8 = .ok (.aload_n 1, 1) := by decide +kernel
theorem dX4_isCountedAt_9 : decode cX4_isCountedAt 9 = .ok (.arraylength, 1) := by decide +kernel
theorem dX4_isCountedAt_10 : decode cX4_isCountedAt 10 = .ok (.iconst 1, 1) := by decide +kernel
theorem dX4_isCountedAt_11 : decode cX4_isCountedAt 11 = .ok (.if_icmp .le 18, 3) := by decide +kernel
theorem dX4_isCountedAt_14 : decode cX4_isCountedAt 14 = .ok (.aload_n 0, 1) := by decide +kernel
theorem dX4_isCountedAt_15 : decode cX4_isCountedAt 15 = .ok (.aload_n 1, 1) := by decide +kernel
theorem dX4_isCountedAt_16 : decode cX4_isCountedAt 16 = .ok (.iconst 1, 1) := by decide +kernel
theorem dX4_isCountedAt_17 : decode cX4_isCountedAt 17 = .ok (.iaload, 1) := by decide +kernel
theorem dX4_isCountedAt_18 : decode cX4_isCountedAt 18 = .ok (.iload_n 2, 1) := by decide +kernel
theorem dX4_isCountedAt_19 : decode cX4_isCountedAt 19 = .ok (.invokevirtual 98, 3) := by decide +kernel
theorem dX4_isCountedAt_22 : decode cX4_isCountedAt 22 = .ok (.ifCond .eq 7, 3) := by decide +kernel
theorem dX4_isCountedAt_25 : decode cX4_isCountedAt 25 = .ok (.iconst 1, 1) := by decide +kernel
theorem dX4_isCountedAt_26 : decode cX4_isCountedAt 26 = .ok (.goto 4, 3) := by decide +kernel
theorem dX4_isCountedAt_29 : decode cX4_isCountedAt 29 = .ok (.iconst 0, 1) := by decide +kernel
theorem dX4_isCountedAt_30 : decode cX4_isCountedAt 30 = .ok (.ireturn, 1) := by decide +kernel
theorem dX4_isCountedAt_31 : decode cX4_isCountedAt 31 = .ok (.iload_n 2, 1) := by decide +kernel
theorem dX4_isCountedAt_32 : decode cX4_isCountedAt 32 = .ok (.istore_n 3, 1) := by decide +kernel
theorem dX4_isCountedAt_33 : decode cX4_isCountedAt 33 = .ok (.iload_n 2, 1) := by decide +kernel
theorem dX4_isCountedAt_34 : decode cX4_isCountedAt 34 = .ok (.aload_n 0, 1) := by decide +kernel
theorem dX4_isCountedAt_35 : decode cX4_isCountedAt 35 = .ok (.getfield 46, 3) := by decide +kernel
theorem dX4_isCountedAt_38 : decode cX4_isCountedAt 38 = .ok (.iadd, 1) := by decide +kernel
theorem dX4_isCountedAt_39 : decode cX4_isCountedAt 39 = .ok (.istore 4, 2) := by decide +kernel
theorem dX4_isCountedAt_41 : decode cX4_isCountedAt 41 = .ok (.iconst 1, 1) := by decide +kernel
theorem dX4_isCountedAt_42 : decode cX4_isCountedAt 42 = .ok (.istore 5, 2) := by decide +kernel
theorem dX4_isCountedAt_44 : decode cX4_isCountedAt 44 = .ok (.iload 5, 2) := by decide +kernel
theorem dX4_isCountedAt_46 : decode cX4_isCountedAt 46 = .ok (.aload_n 0, 1) := by decide +kernel
theorem dX4_isCountedAt_47 : decode cX4_isCountedAt 47 = .ok (.getfield 22, 3) := by decide +kernel
theorem dX4_isCountedAt_50 : decode cX4_isCountedAt 50 = .ok (.arraylength, 1) := by decide +kernel
theorem dX4_isCountedAt_51 : decode cX4_isCountedAt 51 = .ok (.if_icmp .ge 62, 3) := by decide +kernel
theorem dX4_isCountedAt_54 : decode cX4_isCountedAt 54 = .ok (.iload 5, 2) := by decide +kernel
theorem dX4_isCountedAt_56 : decode cX4_isCountedAt 56 = .ok (.aload_n 0, 1) := by decide +kernel
theorem dX4_isCountedAt_57 : decode cX4_isCountedAt 57 = .ok (.getfield 26, 3) := by decide +kernel
theorem dX4_isCountedAt_60 : decode cX4_isCountedAt 60 = .ok (.arraylength, 1) := by decide +kernel
theorem dX4_isCountedAt_61 : decode cX4_isCountedAt 61 = .ok (.if_icmp .ge 52, 3) := by decide +kernel
theorem dX4_isCountedAt_64 : decode cX4_isCountedAt 64 = .ok (.iload 5, 2) := by decide +kernel
theorem dX4_isCountedAt_66 : decode cX4_isCountedAt 66 = .ok (.aload_n 1, 1) := by decide +kernel
theorem dX4_isCountedAt_67 : decode cX4_isCountedAt 67 = .ok (.arraylength, 1) := by decide +kernel
theorem dX4_isCountedAt_68 : decode cX4_isCountedAt 68 = .ok (.if_icmp .ge 45, 3) := by decide +kernel
theorem dX4_isCountedAt_71 : decode cX4_isCountedAt 71 = .ok (.aload_n 1, 1) := by decide +kernel
theorem dX4_isCountedAt_72 : decode cX4_isCountedAt 72 = .ok (.iload 5, 2) := by decide +kernel
theorem dX4_isCountedAt_74 : decode cX4_isCountedAt 74 = .ok (.iaload, 1) := by decide +kernel
theorem dX4_isCountedAt_75 : decode cX4_isCountedAt 75 = .ok (.iload_n 3, 1) := by decide +kernel
theorem dX4_isCountedAt_76 : decode cX4_isCountedAt 76 = .ok (.aload_n 0, 1) := by decide +kernel
theorem dX4_isCountedAt_77 : decode cX4_isCountedAt 77 = .ok (.getfield 26, 3) := by decide +kernel
theorem dX4_isCountedAt_80 : decode cX4_isCountedAt 80 = .ok (.iload 5, 2) := by decide +kernel
theorem dX4_isCountedAt_82 : decode cX4_isCountedAt 82 = .ok (.iaload, 1) := by decide +kernel
theorem dX4_isCountedAt_83 : decode cX4_isCountedAt 83 = .ok (.iadd, 1) := by decide +kernel
theorem dX4_isCountedAt_84 : decode cX4_isCountedAt 84 = .ok (.invokestatic 102, 3) := by decide +kernel
theorem dX4_isCountedAt_87 : decode cX4_isCountedAt 87 = .ok (.istore_n 3, 1) := by decide +kernel
theorem dX4_isCountedAt_88 : decode cX4_isCountedAt 88 = .ok (.iload_n 3, 1) := by decide +kernel
theorem dX4_isCountedAt_89 : decode cX4_isCountedAt 89 = .ok (.iconst (-1), 1) := by decide +kernel
theorem dX4_isCountedAt_90 : decode cX4_isCountedAt 90 = .ok (.if_icmp .ne 5, 3) := by decide +kernel
theorem dX4_isCountedAt_93 : decode cX4_isCountedAt 93 = .ok (.iconst 0, 1) := by decide +kernel
theorem dX4_isCountedAt_94 : decode cX4_isCountedAt 94 = .ok (.ireturn, 1) := by decide +kernel
theorem dX4_isCountedAt_95 : decode cX4_isCountedAt 95 = .ok (.iload 4, 2) := by decide +kernel
theorem dX4_isCountedAt_97 : decode cX4_isCountedAt 97 = .ok (.aload_n 0, 1) := by decide +kernel
theorem dX4_isCountedAt_98 : decode cX4_isCountedAt 98 = .ok (.getfield 26, 3) := by decide +kernel
theorem dX4_isCountedAt_101 : decode cX4_isCountedAt 101 = .ok (.iload 5, 2) := by decide +kernel
theorem dX4_isCountedAt_103 : decode cX4_isCountedAt 103 = .ok (.iaload, 1) := by decide +kernel
theorem dX4_isCountedAt_104 : decode cX4_isCountedAt 104 = .ok (.iadd, 1) := by decide +kernel
theorem dX4_isCountedAt_105 : decode cX4_isCountedAt 105 = .ok (.istore 4, 2) := by decide +kernel
theorem dX4_isCountedAt_107 : decode cX4_isCountedAt 107 = .ok (.iinc 5 1, 3) := by decide +kernel
theorem dX4_isCountedAt_110 : decode cX4_isCountedAt 110 = .ok (.goto (-66), 3) := by decide +kernel
theorem dX4_isCountedAt_113 : decode cX4_isCountedAt 113 = .ok (.iload_n 3, 1) := by decide +kernel
theorem dX4_isCountedAt_114 : decode cX4_isCountedAt 114 = .ok (.iload 4, 2) := by decide +kernel
theorem dX4_isCountedAt_116 : decode cX4_isCountedAt 116 = .ok (.if_icmp .gt 7, 3) := by decide +kernel
theorem dX4_isCountedAt_119 : decode cX4_isCountedAt 119 = .ok (.iconst 1, 1) := by decide +kernel
theorem dX4_isCountedAt_120 : decode cX4_isCountedAt 120 = .ok (.goto 4, 3) := by decide +kernel
theorem dX4_isCountedAt_123 : decode cX4_isCountedAt 123 = .ok (.iconst 0, 1) := by decide +kernel
theorem dX4_isCountedAt_124 : decode cX4_isCountedAt 124 = .ok (.ireturn, 1) := by decide +kernel
theorem dX4_hasNeighbour_0 : decode cX4_hasNeighbour 0 = .ok (.iconst 1, 1) := by decide +kernel
theorem dX4_hasNeighbour_1 : decode cX4_hasNeighbour 1 = .ok (.istore_n 3, 1) := by decide +kernel
theorem dX4_hasNeighbour_2 : decode cX4_hasNeighbour 2 = .ok (.iload_n 3, 1) := by decide +kernel
theorem dX4_hasNeighbour_3 : decode cX4_hasNeighbour 3 = .ok (.aload_n 0, 1) := by decide +kernel
theorem dX4_hasNeighbour_4 : decode cX4_hasNeighbour 4 = .ok (.getfield 46, 3) := by decide +kernel
theorem dX4_hasNeighbour_7 : decode cX4_hasNeighbour 7 = .ok (.if_icmp .gt 54, 3) := by decide +kernel
theorem dX4_hasNeighbour_10 : decode cX4_hasNeighbour 10 = .ok (.iload_n 2, 1) := by decide +kernel
theorem dX4_hasNeighbour_11 : decode cX4_hasNeighbour 11 = .ok (.iload_n 3, 1) := by decide +kernel
theorem dX4_hasNeighbour_12 : decode cX4_hasNeighbour 12 = .ok (.iadd, 1) := by decide +kernel
theorem dX4_hasNeighbour_13 : decode cX4_hasNeighbour 13 = .ok (.bipush 20, 2) := by decide +kernel
theorem dX4_hasNeighbour_15 : decode cX4_hasNeighbour 15 = .ok (.if_icmp .ge 15, 3) := by decide +kernel
theorem dX4_hasNeighbour_18 : decode cX4_hasNeighbour 18 = .ok (.iload_n 1, 1) := by decide +kernel
theorem dX4_hasNeighbour_19 : decode cX4_hasNeighbour 19 = .ok (.iload_n 2, 1) := by decide +kernel
theorem dX4_hasNeighbour_20 : decode cX4_hasNeighbour 20 = .ok (.iload_n 3, 1) := by decide +kernel
theorem dX4_hasNeighbour_21 : decode cX4_hasNeighbour 21 = .ok (.iadd, 1) := by decide +kernel
theorem dX4_hasNeighbour_22 : decode cX4_hasNeighbour 22 = .ok (.ishr, 1) := by decide +kernel
theorem dX4_hasNeighbour_23 : decode cX4_hasNeighbour 23 = .ok (.iconst 1, 1) := by decide +kernel
theorem dX4_hasNeighbour_24 : decode cX4_hasNeighbour 24 = .ok (.iand, 1) := by decide +kernel
theorem dX4_hasNeighbour_25 : decode cX4_hasNeighbour 25 = .ok (.ifCond .eq 5, 3) := by decide +kernel
theorem dX4_hasNeighbour_28 : decode cX4_hasNeighbour 28 = .ok (.iconst 1, 1) := by decide +kernel
theorem dX4_hasNeighbour_29 : decode cX4_hasNeighbour 29 = .ok (.ireturn, 1) := by decide +kernel
theorem dX4_hasNeighbour_30 : decode cX4_hasNeighbour 30 = .ok (.aload_n 0, 1) := by decide +kernel
theorem dX4_hasNeighbour_31 : decode cX4_hasNeighbour 31 = .ok (.getfield 9, 3) := by decide +kernel
theorem dX4_hasNeighbour_34 : decode cX4_hasNeighbour 34 = .ok (.ifCond .ne 21, 3) := by decide +kernel
theorem dX4_hasNeighbour_37 : decode cX4_hasNeighbour 37 = .ok (.iload_n 2, 1) := by decide +kernel
theorem dX4_hasNeighbour_38 : decode cX4_hasNeighbour 38 = .ok (.iload_n 3, 1) := by decide +kernel
theorem dX4_hasNeighbour_39 : decode cX4_hasNeighbour 39 = .ok (.isub, 1) := by decide +kernel
theorem dX4_hasNeighbour_40 : decode cX4_hasNeighbour 40 = .ok (.ifCond .lt 15, 3) := by decide +kernel
theorem dX4_hasNeighbour_43 : decode cX4_hasNeighbour 43 = .ok (.iload_n 1, 1) := by decide +kernel
theorem dX4_hasNeighbour_44 : decode cX4_hasNeighbour 44 = .ok (.iload_n 2, 1) := by decide +kernel
theorem dX4_hasNeighbour_45 : decode cX4_hasNeighbour 45 = .ok (.iload_n 3, 1) := by decide +kernel
theorem dX4_hasNeighbour_46 : decode cX4_hasNeighbour 46 = .ok (.isub, 1) := by decide +kernel
theorem dX4_hasNeighbour_47 : decode cX4_hasNeighbour 47 = .ok (.ishr, 1) := by decide +kernel
theorem dX4_hasNeighbour_48 : decode cX4_hasNeighbour 48 = .ok (.iconst 1, 1) := by decide +kernel
theorem dX4_hasNeighbour_49 : decode cX4_hasNeighbour 49 = .ok (.iand, 1) := by decide +kernel
theorem dX4_hasNeighbour_50 : decode cX4_hasNeighbour 50 = .ok (.ifCond .eq 5, 3) := by decide +kernel
theorem dX4_hasNeighbour_53 : decode cX4_hasNeighbour 53 = .ok (.iconst 1, 1) := by decide +kernel
theorem dX4_hasNeighbour_54 : decode cX4_hasNeighbour 54 = .ok (.ireturn, 1) := by decide +kernel
theorem dX4_hasNeighbour_55 : decode cX4_hasNeighbour 55 = .ok (.iinc 3 1, 3) := by decide +kernel
theorem dX4_hasNeighbour_58 : decode cX4_hasNeighbour 58 = .ok (.goto (-56), 3) := by decide +kernel
theorem dX4_hasNeighbour_61 : decode cX4_hasNeighbour 61 = .ok (.iconst 0, 1) := by decide +kernel
theorem dX4_hasNeighbour_62 : decode cX4_hasNeighbour 62 = .ok (.ireturn, 1) := by decide +kernel
theorem dX4_placeFrom_0 : decode cX4_placeFrom 0 = .ok (.iload_n 1, 1) := by decide +kernel
theorem dX4_placeFrom_1 : decode cX4_placeFrom 1 = .ok (.iconst 0, 1) := by decide +kernel
theorem dX4_placeFrom_2 : decode cX4_placeFrom 2 = .ok (.invokestatic 57, 3) := by decide +kernel
theorem dX4_placeFrom_5 : decode cX4_placeFrom 5 = .ok (.istore_n 2, 1) := by decide +kernel
theorem dX4_placeFrom_6 : decode cX4_placeFrom 6 = .ok (.iload_n 2, 1) := by decide +kernel
theorem dX4_placeFrom_7 : decode cX4_placeFrom 7 = .ok (.bipush 20, 2) := by decide +kernel
theorem dX4_placeFrom_9 : decode cX4_placeFrom 9 = .ok (.if_icmp .ge 19, 3) := by decide +kernel
theorem dX4_placeFrom_12 : decode cX4_placeFrom 12 = .ok (.iload_n 0, 1) := by decide +kernel
theorem dX4_placeFrom_13 : decode cX4_placeFrom 13 = .ok (.iload_n 2, 1) := by decide +kernel
theorem dX4_placeFrom_14 : decode cX4_placeFrom 14 = .ok (.ishr, 1) := by decide +kernel
theorem dX4_placeFrom_15 : decode cX4_placeFrom 15 = .ok (.iconst 1, 1) := by decide +kernel
theorem dX4_placeFrom_16 : decode cX4_placeFrom 16 = .ok (.iand, 1) := by decide +kernel
theorem dX4_placeFrom_17 : decode cX4_placeFrom 17 = .ok (.ifCond .eq 5, 3) := by decide +kernel
theorem dX4_placeFrom_20 : decode cX4_placeFrom 20 = .ok (.iload_n 2, 1) := by decide +kernel
theorem dX4_placeFrom_21 : decode cX4_placeFrom 21 = .ok (.ireturn, 1) := by decide +kernel
theorem dX4_placeFrom_22 : decode cX4_placeFrom 22 = .ok (.iinc 2 1, 3) := by decide +kernel
theorem dX4_placeFrom_25 : decode cX4_placeFrom 25 = .ok (.goto (-19), 3) := by decide +kernel
theorem dX4_placeFrom_28 : decode cX4_placeFrom 28 = .ok (.iconst (-1), 1) := by decide +kernel
theorem dX4_placeFrom_29 : decode cX4_placeFrom 29 = .ok (.ireturn, 1) := by decide +kernel
theorem dX4_isTold_0 : decode cX4_isTold 0 = .ok (.lload_n 1, 1) := by decide +kernel
theorem dX4_isTold_1 : decode cX4_isTold 1 = .ok (.invokestatic 74, 3) := by decide +kernel
theorem dX4_isTold_4 : decode cX4_isTold 4 = .ok (.istore_n 3, 1) := by decide +kernel
theorem dX4_isTold_5 : decode cX4_isTold 5 = .ok (.aload_n 0, 1) := by decide +kernel
theorem dX4_isTold_6 : decode cX4_isTold 6 = .ok (.getfield 40, 3) := by decide +kernel
theorem dX4_isTold_9 : decode cX4_isTold 9 = .ok (.iconst 3, 1) := by decide +kernel
theorem dX4_isTold_10 : decode cX4_isTold 10 = .ok (.if_icmp .ne 12, 3) := by decide +kernel
theorem dX4_isTold_13 : decode cX4_isTold 13 = .ok (.aload_n 0, 1) := by decide +kernel
theorem dX4_isTold_14 : decode cX4_isTold 14 = .ok (.lload_n 1, 1) := by decide +kernel
theorem dX4_isTold_15 : decode cX4_isTold 15 = .ok (.iload_n 3, 1) := by decide +kernel
theorem dX4_isTold_16 : decode cX4_isTold 16 = .ok (.invokevirtual 105, 3) := by decide +kernel
theorem dX4_isTold_19 : decode cX4_isTold 19 = .ok (.goto 9, 3) := by decide +kernel
theorem dX4_isTold_22 : decode cX4_isTold 22 = .ok (.aload_n 0, 1) := by decide +kernel
theorem dX4_isTold_23 : decode cX4_isTold 23 = .ok (.lload_n 1, 1) := by decide +kernel
theorem dX4_isTold_24 : decode cX4_isTold 24 = .ok (.iload_n 3, 1) := by decide +kernel
theorem dX4_isTold_25 : decode cX4_isTold 25 = .ok (.invokevirtual 109, 3) := by decide +kernel
theorem dX4_isTold_28 : decode cX4_isTold 28 = .ok (.ireturn, 1) := by decide +kernel
theorem dX4_isLikePattern_0 : decode cX4_isLikePattern 0 = .ok (.aload_n 0, 1) := by decide +kernel
theorem dX4_isLikePattern_1 : decode cX4_isLikePattern 1 = .ok (.iconst 1, 1) := by decide +kernel
theorem dX4_isLikePattern_2 : decode cX4_isLikePattern 2 = .ok (.invokevirtual 112, 3) := by decide +kernel
theorem dX4_isLikePattern_5 : decode cX4_isLikePattern 5 = .ok (.istore 4, 2) := by decide +kernel
theorem dX4_isLikePattern_7 : decode cX4_isLikePattern 7 = .ok (.iconst 0, 1) := by decide +kernel
theorem dX4_isLikePattern_8 : decode cX4_isLikePattern 8 = .ok (.istore 5, 2) := by decide +kernel
theorem dX4_isLikePattern_10 : decode cX4_isLikePattern 10 = .ok (.iload 5, 2) := by decide +kernel
theorem dX4_isLikePattern_12 : decode cX4_isLikePattern 12 = .ok (.iload_n 3, 1) := by decide +kernel
theorem dX4_isLikePattern_13 : decode cX4_isLikePattern 13 = .ok (.if_icmp .ge 114, 3) := by decide +kernel
theorem dX4_isLikePattern_16 : decode cX4_isLikePattern 16 = .ok (.lload_n 1, 1) := by decide +kernel
theorem dX4_isLikePattern_17 : decode cX4_isLikePattern 17 = .ok (.iload 5, 2) := by decide +kernel
theorem dX4_isLikePattern_19 : decode cX4_isLikePattern 19 = .ok (.invokestatic 78, 3) := by decide +kernel
theorem dX4_isLikePattern_22 : decode cX4_isLikePattern 22 = .ok (.istore 6, 2) := by decide +kernel
theorem dX4_isLikePattern_24 : decode cX4_isLikePattern 24 = .ok (.iconst 0, 1) := by decide +kernel
theorem dX4_isLikePattern_25 : decode cX4_isLikePattern 25 = .ok (.istore 7, 2) := by decide +kernel
theorem dX4_isLikePattern_27 : decode cX4_isLikePattern 27 = .ok (.iconst 0, 1) := by decide +kernel
theorem dX4_isLikePattern_28 : decode cX4_isLikePattern 28 = .ok (.istore 8, 2) := by decide +kernel
theorem dX4_isLikePattern_30 : decode cX4_isLikePattern 30 = .ok (.iload 8, 2) := by decide +kernel
theorem dX4_isLikePattern_32 : decode cX4_isLikePattern 32 = .ok (.aload_n 0, 1) := by decide +kernel
theorem dX4_isLikePattern_33 : decode cX4_isLikePattern 33 = .ok (.getfield 30, 3) := by decide +kernel
theorem dX4_isLikePattern_36 : decode cX4_isLikePattern 36 = .ok (.arraylength, 1) := by decide +kernel
theorem dX4_isLikePattern_37 : decode cX4_isLikePattern 37 = .ok (.if_icmp .ge 76, 3) := by decide +kernel
theorem dX4_isLikePattern_40 : decode cX4_isLikePattern 40 = .ok (.iload 4, 2) := by decide +kernel
theorem dX4_isLikePattern_42 : decode cX4_isLikePattern 42 = .ok (.iload 8, 2) := by decide +kernel
theorem dX4_isLikePattern_44 : decode cX4_isLikePattern 44 = .ok (.ishr, 1) := by decide +kernel
theorem dX4_isLikePattern_45 : decode cX4_isLikePattern 45 = .ok (.iconst 1, 1) := by decide +kernel
theorem dX4_isLikePattern_46 : decode cX4_isLikePattern 46 = .ok (.iand, 1) := by decide +kernel
theorem dX4_isLikePattern_47 : decode cX4_isLikePattern 47 = .ok (.ifCond .eq 60, 3) := by decide +kernel
theorem dX4_isLikePattern_50 : decode cX4_isLikePattern 50 = .ok (.aload_n 0, 1) := by decide +kernel
theorem dX4_isLikePattern_51 : decode cX4_isLikePattern 51 = .ok (.getfield 30, 3) := by decide +kernel
theorem dX4_isLikePattern_54 : decode cX4_isLikePattern 54 = .ok (.iload 8, 2) := by decide +kernel
theorem dX4_isLikePattern_56 : decode cX4_isLikePattern 56 = .ok (.iaload, 1) := by decide +kernel
theorem dX4_isLikePattern_57 : decode cX4_isLikePattern 57 = .ok (.bipush 38, 2) := by decide +kernel
theorem dX4_isLikePattern_59 : decode cX4_isLikePattern 59 = .ok (.if_icmp .ne 15, 3) := by decide +kernel
theorem dX4_isLikePattern_62 : decode cX4_isLikePattern 62 = .ok (.iload 7, 2) := by decide +kernel
theorem dX4_isLikePattern_64 : decode cX4_isLikePattern 64 = .ok (.iconst 1, 1) := by decide +kernel
theorem dX4_isLikePattern_65 : decode cX4_isLikePattern 65 = .ok (.iload 8, 2) := by decide +kernel
theorem dX4_isLikePattern_67 : decode cX4_isLikePattern 67 = .ok (.ishl, 1) := by decide +kernel
theorem dX4_isLikePattern_68 : decode cX4_isLikePattern 68 = .ok (.ior, 1) := by decide +kernel
