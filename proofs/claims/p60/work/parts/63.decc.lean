theorem dX8_tier_17 : decode cX8_tier 17 = .ok (.idiv, 1) := by decide +kernel
theorem dX8_tier_18 : decode cX8_tier 18 = .ok (.istore_n 2, 1) := by decide +kernel
theorem dX8_tier_19 : decode cX8_tier 19 = .ok (.goto (-12), 3) := by decide +kernel
theorem dX8_tier_22 : decode cX8_tier 22 = .ok (.iload_n 1, 1) := by decide +kernel
theorem dX8_tier_23 : decode cX8_tier 23 = .ok (.ireturn, 1) := by decide +kernel
theorem dX8_readTexts_0 : decode cX8_readTexts 0 = .ok (.aload_n 0, 1) := by decide +kernel
theorem dX8_readTexts_1 : decode cX8_readTexts 1 = .ok (.iload_n 1, 1) := by decide +kernel
theorem dX8_readTexts_2 : decode cX8_readTexts 2 = .ok (.invokevirtual 31, 3) := by decide +kernel
theorem dX8_readTexts_5 : decode cX8_readTexts 5 = .ok (.astore_n 2, 1) := by decide +kernel
theorem dX8_readTexts_6 : decode cX8_readTexts 6 = .ok (.iconst 0, 1) := by decide +kernel
theorem dX8_readTexts_7 : decode cX8_readTexts 7 = .ok (.istore_n 3, 1) := by decide +kernel
theorem dX8_readTexts_8 : decode cX8_readTexts 8 = .ok (.iload_n 3, 1) := by decide +kernel
theorem dX8_readTexts_9 : decode cX8_readTexts 9 = .ok (.aload_n 0, 1) := by decide +kernel
theorem dX8_readTexts_10 : decode cX8_readTexts 10 = .ok (.getfield 10, 3) := by decide +kernel
theorem dX8_readTexts_13 : decode cX8_readTexts 13 = .ok (.invokevirtual 26, 3) := by decide +kernel
theorem dX8_readTexts_16 : decode cX8_readTexts 16 = .ok (.if_icmp .ge 81, 3) := by decide +kernel
theorem dX8_readTexts_19 : decode cX8_readTexts 19 = .ok (.aload_n 0, 1) := by decide +kernel
theorem dX8_readTexts_20 : decode cX8_readTexts 20 = .ok (.getfield 10, 3) := by decide +kernel
theorem dX8_readTexts_23 : decode cX8_readTexts 23 = .ok (.iload_n 3, 1) := by decide +kernel
theorem dX8_readTexts_24 : decode cX8_readTexts 24 = .ok (.invokevirtual 35, 3) := by decide +kernel
theorem dX8_readTexts_27 : decode cX8_readTexts 27 = .ok (.checkcast 39, 3) := by decide +kernel
theorem dX8_readTexts_30 : decode cX8_readTexts 30 = .ok (.iload_n 1, 1) := by decide +kernel
theorem dX8_readTexts_31 : decode cX8_readTexts 31 = .ok (.invokevirtual 41, 3) := by decide +kernel
theorem dX8_readTexts_34 : decode cX8_readTexts 34 = .ok (.astore 4, 2) := by decide +kernel
theorem dX8_readTexts_36 : decode cX8_readTexts 36 = .ok (.iconst 0, 1) := by decide +kernel
theorem dX8_readTexts_37 : decode cX8_readTexts 37 = .ok (.istore 5, 2) := by decide +kernel
theorem dX8_readTexts_39 : decode cX8_readTexts 39 = .ok (.iload 5, 2) := by decide +kernel
theorem dX8_readTexts_41 : decode cX8_readTexts 41 = .ok (.aload 4, 2) := by decide +kernel
theorem dX8_readTexts_43 : decode cX8_readTexts 43 = .ok (.getfield 45, 3) := by decide +kernel
theorem dX8_readTexts_46 : decode cX8_readTexts 46 = .ok (.if_icmp .ge 45, 3) := by decide +kernel
theorem dX8_readTexts_49 : decode cX8_readTexts 49 = .ok (.aload 4, 2) := by decide +kernel
theorem dX8_readTexts_51 : decode cX8_readTexts 51 = .ok (.iload 5, 2) := by decide +kernel
theorem dX8_readTexts_53 : decode cX8_readTexts 53 = .ok (.invokevirtual 50, 3) := by decide +kernel
theorem dX8_readTexts_56 : decode cX8_readTexts 56 = .ok (.ifCond .eq 29, 3) := by decide +kernel
theorem dX8_readTexts_59 : decode cX8_readTexts 59 = .ok (.aload 4, 2) := by decide +kernel
theorem dX8_readTexts_61 : decode cX8_readTexts 61 = .ok (.iload 5, 2) := by decide +kernel
theorem dX8_readTexts_63 : decode cX8_readTexts 63 = .ok (.invokevirtual 54, 3) := by decide +kernel
theorem dX8_readTexts_66 : decode cX8_readTexts 66 = .ok (.lstore 6, 2) := by decide +kernel
theorem dX8_readTexts_68 : decode cX8_readTexts 68 = .ok (.aload_n 2, 1) := by decide +kernel
theorem dX8_readTexts_69 : decode cX8_readTexts 69 = .ok (.lload 6, 2) := by decide +kernel
theorem dX8_readTexts_71 : decode cX8_readTexts 71 = .ok (.invokestatic 58, 3) := by decide +kernel
theorem dX8_readTexts_74 : decode cX8_readTexts 74 = .ok (.iload_n 3, 1) := by decide +kernel
theorem dX8_readTexts_75 : decode cX8_readTexts 75 = .ok (.aload 4, 2) := by decide +kernel
theorem dX8_readTexts_77 : decode cX8_readTexts 77 = .ok (.lload 6, 2) := by decide +kernel
theorem dX8_readTexts_79 : decode cX8_readTexts 79 = .ok (.invokevirtual 62, 3) := by decide +kernel
theorem dX8_readTexts_82 : decode cX8_readTexts 82 = .ok (.invokevirtual 66, 3) := by decide +kernel
theorem dX8_readTexts_85 : decode cX8_readTexts 85 = .ok (.iinc 5 1, 3) := by decide +kernel
theorem dX8_readTexts_88 : decode cX8_readTexts 88 = .ok (.goto (-49), 3) := by decide +kernel
theorem dX8_readTexts_91 : decode cX8_readTexts 91 = .ok (.iinc 3 1, 3) := by decide +kernel
theorem dX8_readTexts_94 : decode cX8_readTexts 94 = .ok (.goto (-86), 3) := by decide +kernel
theorem dX8_readTexts_97 : decode cX8_readTexts 97 = .ok (.iconst 0, 1) := by decide +kernel
theorem dX8_readTexts_98 : decode cX8_readTexts 98 = .ok (.istore_n 3, 1) := by decide +kernel
theorem dX8_readTexts_99 : decode cX8_readTexts 99 = .ok (.iload_n 3, 1) := by decide +kernel
theorem dX8_readTexts_100 : decode cX8_readTexts 100 = .ok (.aload_n 2, 1) := by decide +kernel
theorem dX8_readTexts_101 : decode cX8_readTexts 101 = .ok (.invokevirtual 26, 3) := by decide +kernel
theorem dX8_readTexts_104 : decode cX8_readTexts 104 = .ok (.if_icmp .ge 20, 3) := by decide +kernel
theorem dX8_readTexts_107 : decode cX8_readTexts 107 = .ok (.aload_n 2, 1) := by decide +kernel
theorem dX8_readTexts_108 : decode cX8_readTexts 108 = .ok (.iload_n 3, 1) := by decide +kernel
theorem dX8_readTexts_109 : decode cX8_readTexts 109 = .ok (.invokevirtual 35, 3) := by decide +kernel
theorem dX8_readTexts_112 : decode cX8_readTexts 112 = .ok (.checkcast 67, 3) := by decide +kernel
theorem dX8_readTexts_115 : decode cX8_readTexts 115 = .ok (.invokevirtual 72, 3) := by decide +kernel
theorem dX8_readTexts_118 : decode cX8_readTexts 118 = .ok (.iinc 3 1, 3) := by decide +kernel
theorem dX8_readTexts_121 : decode cX8_readTexts 121 = .ok (.goto (-22), 3) := by decide +kernel
theorem dX8_readTexts_124 : decode cX8_readTexts 124 = .ok (.return_, 1) := by decide +kernel
theorem dX8_postingsOf_0 : decode cX8_postingsOf 0 = .ok (.aload_n 0, 1) := by decide +kernel
theorem dX8_postingsOf_1 : decode cX8_postingsOf 1 = .ok (.iload_n 1, 1) := by decide +kernel
theorem dX8_postingsOf_2 : decode cX8_postingsOf 2 = .ok (.invokevirtual 31, 3) := by decide +kernel
theorem dX8_postingsOf_5 : decode cX8_postingsOf 5 = .ok (.astore 4, 2) := by decide +kernel
theorem dX8_postingsOf_7 : decode cX8_postingsOf 7 = .ok (.aload 4, 2) := by decide +kernel
theorem dX8_postingsOf_9 : decode cX8_postingsOf 9 = .ok (.lload_n 2, 1) := by decide +kernel
theorem dX8_postingsOf_10 : decode cX8_postingsOf 10 = .ok (.invokestatic 75, 3) := by decide +kernel
theorem dX8_postingsOf_13 : decode cX8_postingsOf 13 = .ok (.istore 5, 2) := by decide +kernel
theorem dX8_postingsOf_15 : decode cX8_postingsOf 15 = .ok (.iload 5, 2) := by decide +kernel
theorem dX8_postingsOf_17 : decode cX8_postingsOf 17 = .ok (.aload 4, 2) := by decide +kernel
theorem dX8_postingsOf_19 : decode cX8_postingsOf 19 = .ok (.invokevirtual 26, 3) := by decide +kernel
theorem dX8_postingsOf_22 : decode cX8_postingsOf 22 = .ok (.if_icmp .ge 34, 3) := by decide +kernel
theorem dX8_postingsOf_25 : decode cX8_postingsOf 25 = .ok (.aload 4, 2) := by decide +kernel
theorem dX8_postingsOf_27 : decode cX8_postingsOf 27 = .ok (.iload 5, 2) := by decide +kernel
theorem dX8_postingsOf_29 : decode cX8_postingsOf 29 = .ok (.invokevirtual 35, 3) := by decide +kernel
theorem dX8_postingsOf_32 : decode cX8_postingsOf 32 = .ok (.checkcast 67, 3) := by decide +kernel
theorem dX8_postingsOf_35 : decode cX8_postingsOf 35 = .ok (.getfield 79, 3) := by decide +kernel
theorem dX8_postingsOf_38 : decode cX8_postingsOf 38 = .ok (.lload_n 2, 1) := by decide +kernel
theorem dX8_postingsOf_39 : decode cX8_postingsOf 39 = .ok (.lcmp, 1) := by decide +kernel
theorem dX8_postingsOf_40 : decode cX8_postingsOf 40 = .ok (.ifCond .ne 16, 3) := by decide +kernel
theorem dX8_postingsOf_43 : decode cX8_postingsOf 43 = .ok (.aload 4, 2) := by decide +kernel
theorem dX8_postingsOf_45 : decode cX8_postingsOf 45 = .ok (.iload 5, 2) := by decide +kernel
theorem dX8_postingsOf_47 : decode cX8_postingsOf 47 = .ok (.invokevirtual 35, 3) := by decide +kernel
theorem dX8_postingsOf_50 : decode cX8_postingsOf 50 = .ok (.checkcast 67, 3) := by decide +kernel
theorem dX8_postingsOf_53 : decode cX8_postingsOf 53 = .ok (.goto 4, 3) := by decide +kernel
theorem dX8_postingsOf_56 : decode cX8_postingsOf 56 = .ok (.aconst_null, 1) := by decide +kernel
theorem dX8_postingsOf_57 : decode cX8_postingsOf 57 = .ok (.areturn, 1) := by decide +kernel
theorem dX8_ownPostings_0 : decode cX8_ownPostings 0 = .ok (.aload_n 0, 1) := by decide +kernel
theorem dX8_ownPostings_1 : decode cX8_ownPostings 1 = .ok (.lload_n 1, 1) := by decide +kernel
theorem dX8_ownPostings_2 : decode cX8_ownPostings 2 = .ok (.invokestatic 75, 3) := by decide +kernel
theorem dX8_ownPostings_5 : decode cX8_ownPostings 5 = .ok (.istore_n 3, 1) := by decide +kernel
theorem dX8_ownPostings_6 : decode cX8_ownPostings 6 = .ok (.iload_n 3, 1) := by decide +kernel
theorem dX8_ownPostings_7 : decode cX8_ownPostings 7 = .ok (.aload_n 0, 1) := by decide +kernel
theorem dX8_ownPostings_8 : decode cX8_ownPostings 8 = .ok (.invokevirtual 26, 3) := by decide +kernel
theorem dX8_ownPostings_11 : decode cX8_ownPostings 11 = .ok (.if_icmp .ge 28, 3) := by decide +kernel
theorem dX8_ownPostings_14 : decode cX8_ownPostings 14 = .ok (.aload_n 0, 1) := by decide +kernel
theorem dX8_ownPostings_15 : decode cX8_ownPostings 15 = .ok (.iload_n 3, 1) := by decide +kernel
theorem dX8_ownPostings_16 : decode cX8_ownPostings 16 = .ok (.invokevirtual 35, 3) := by decide +kernel
theorem dX8_ownPostings_19 : decode cX8_ownPostings 19 = .ok (.checkcast 67, 3) := by decide +kernel
theorem dX8_ownPostings_22 : decode cX8_ownPostings 22 = .ok (.getfield 79, 3) := by decide +kernel
theorem dX8_ownPostings_25 : decode cX8_ownPostings 25 = .ok (.lload_n 1, 1) := by decide +kernel
theorem dX8_ownPostings_26 : decode cX8_ownPostings 26 = .ok (.lcmp, 1) := by decide +kernel
theorem dX8_ownPostings_27 : decode cX8_ownPostings 27 = .ok (.ifCond .ne 12, 3) := by decide +kernel
theorem dX8_ownPostings_30 : decode cX8_ownPostings 30 = .ok (.aload_n 0, 1) := by decide +kernel
theorem dX8_ownPostings_31 : decode cX8_ownPostings 31 = .ok (.iload_n 3, 1) := by decide +kernel
theorem dX8_ownPostings_32 : decode cX8_ownPostings 32 = .ok (.invokevirtual 35, 3) := by decide +kernel
theorem dX8_ownPostings_35 : decode cX8_ownPostings 35 = .ok (.checkcast 67, 3) := by decide +kernel
theorem dX8_ownPostings_38 : decode cX8_ownPostings 38 = .ok (.areturn, 1) := by decide +kernel
theorem dX8_ownPostings_39 : decode cX8_ownPostings 39 = .ok (.new 67, 3) := by decide +kernel
theorem dX8_ownPostings_42 : decode cX8_ownPostings 42 = .ok (.dup, 1) := by decide +kernel
theorem dX8_ownPostings_43 : decode cX8_ownPostings 43 = .ok (.lload_n 1, 1) := by decide +kernel
theorem dX8_ownPostings_44 : decode cX8_ownPostings 44 = .ok (.invokespecial 83, 3) := by decide +kernel
theorem dX8_ownPostings_47 : decode cX8_ownPostings 47 = .ok (.astore 4, 2) := by decide +kernel
theorem dX8_ownPostings_49 : decode cX8_ownPostings 49 = .ok (.aload_n 0, 1) := by decide +kernel
theorem dX8_ownPostings_50 : decode cX8_ownPostings 50 = .ok (.iload_n 3, 1) := by decide +kernel
theorem dX8_ownPostings_51 : decode cX8_ownPostings 51 = .ok (.aload 4, 2) := by decide +kernel
theorem dX8_ownPostings_53 : decode cX8_ownPostings 53 = .ok (.invokevirtual 86, 3) := by decide +kernel
theorem dX8_ownPostings_56 : decode cX8_ownPostings 56 = .ok (.aload 4, 2) := by decide +kernel
theorem dX8_ownPostings_58 : decode cX8_ownPostings 58 = .ok (.areturn, 1) := by decide +kernel
theorem dX8_placeOf_0 : decode cX8_placeOf 0 = .ok (.iconst 0, 1) := by decide +kernel
theorem dX8_placeOf_1 : decode cX8_placeOf 1 = .ok (.istore_n 3, 1) := by decide +kernel
theorem dX8_placeOf_2 : decode cX8_placeOf 2 = .ok (.aload_n 0, 1) := by decide +kernel
theorem dX8_placeOf_3 : decode cX8_placeOf 3 = .ok (.invokevirtual 26, 3) := by decide +kernel
theorem dX8_placeOf_6 : decode cX8_placeOf 6 = .ok (.istore 4, 2) := by decide +kernel
theorem dX8_placeOf_8 : decode cX8_placeOf 8 = .ok (.iload_n 3, 1) := by decide +kernel
theorem dX8_placeOf_9 : decode cX8_placeOf 9 = .ok (.iload 4, 2) := by decide +kernel
theorem dX8_placeOf_11 : decode cX8_placeOf 11 = .ok (.if_icmp .ge 43, 3) := by decide +kernel
theorem dX8_placeOf_14 : decode cX8_placeOf 14 = .ok (.iload_n 3, 1) := by decide +kernel
theorem dX8_placeOf_15 : decode cX8_placeOf 15 = .ok (.iload 4, 2) := by decide +kernel
theorem dX8_placeOf_17 : decode cX8_placeOf 17 = .ok (.iadd, 1) := by decide +kernel
theorem dX8_placeOf_18 : decode cX8_placeOf 18 = .ok (.iconst 1, 1) := by decide +kernel
theorem dX8_placeOf_19 : decode cX8_placeOf 19 = .ok (.ishr, 1) := by decide +kernel
theorem dX8_placeOf_20 : decode cX8_placeOf 20 = .ok (.istore 5, 2) := by decide +kernel
theorem dX8_placeOf_22 : decode cX8_placeOf 22 = .ok (.aload_n 0, 1) := by decide +kernel
theorem dX8_placeOf_23 : decode cX8_placeOf 23 = .ok (.iload 5, 2) := by decide +kernel
theorem dX8_placeOf_25 : decode cX8_placeOf 25 = .ok (.invokevirtual 35, 3) := by decide +kernel
theorem dX8_placeOf_28 : decode cX8_placeOf 28 = .ok (.checkcast 67, 3) := by decide +kernel
theorem dX8_placeOf_31 : decode cX8_placeOf 31 = .ok (.getfield 79, 3) := by decide +kernel
theorem dX8_placeOf_34 : decode cX8_placeOf 34 = .ok (.lload_n 1, 1) := by decide +kernel
theorem dX8_placeOf_35 : decode cX8_placeOf 35 = .ok (.lcmp, 1) := by decide +kernel
theorem dX8_placeOf_36 : decode cX8_placeOf 36 = .ok (.ifCond .ge 11, 3) := by decide +kernel
theorem dX8_placeOf_39 : decode cX8_placeOf 39 = .ok (.iload 5, 2) := by decide +kernel
theorem dX8_placeOf_41 : decode cX8_placeOf 41 = .ok (.iconst 1, 1) := by decide +kernel
theorem dX8_placeOf_42 : decode cX8_placeOf 42 = .ok (.iadd, 1) := by decide +kernel
theorem dX8_placeOf_43 : decode cX8_placeOf 43 = .ok (.istore_n 3, 1) := by decide +kernel
theorem dX8_placeOf_44 : decode cX8_placeOf 44 = .ok (.goto 7, 3) := by decide +kernel
theorem dX8_placeOf_47 : decode cX8_placeOf 47 = .ok (.iload 5, 2) := by decide +kernel
theorem dX8_placeOf_49 : decode cX8_placeOf 49 = .ok (.istore 4, 2) := by decide +kernel
theorem dX8_placeOf_51 : decode cX8_placeOf 51 = .ok (.goto (-43), 3) := by decide +kernel
theorem dX8_placeOf_54 : decode cX8_placeOf 54 = .ok (.iload_n 3, 1) := by decide +kernel
theorem dX8_placeOf_55 : decode cX8_placeOf 55 = .ok (.ireturn, 1) := by decide +kernel
theorem dX9_init_0 : decode cX9_init 0 = .ok (.aload_n 0, 1) := by decide +kernel
theorem dX9_init_1 : decode cX9_init 1 = .ok (.invokespecial 3, 3) := by decide +kernel
theorem dX9_init_4 : decode cX9_init 4 = .ok (.aload_n 0, 1) := by decide +kernel
theorem dX9_init_5 : decode cX9_init 5 = .ok (.bipush 40, 2) := by decide +kernel
theorem dX9_init_7 : decode cX9_init 7 = .ok (.newarray .int, 2) := by decide +kernel
theorem dX9_init_9 : decode cX9_init 9 = .ok (.putfield 9, 3) := by decide +kernel
theorem dX9_init_12 : decode cX9_init 12 = .ok (.aload_n 0, 1) := by decide +kernel
theorem dX9_init_13 : decode cX9_init 13 = .ok (.iconst 0, 1) := by decide +kernel
theorem dX9_init_14 : decode cX9_init 14 = .ok (.putfield 15, 3) := by decide +kernel
theorem dX9_init_17 : decode cX9_init 17 = .ok (.aload_n 0, 1) := by decide +kernel
theorem dX9_init_18 : decode cX9_init 18 = .ok (.iconst 0, 1) := by decide +kernel
theorem dX9_init_19 : decode cX9_init 19 = .ok (.newarray .long, 2) := by decide +kernel
theorem dX9_init_21 : decode cX9_init 21 = .ok (.putfield 19, 3) := by decide +kernel
theorem dX9_init_24 : decode cX9_init 24 = .ok (.aload_n 0, 1) := by decide +kernel
theorem dX9_init_25 : decode cX9_init 25 = .ok (.iconst 0, 1) := by decide +kernel
theorem dX9_init_26 : decode cX9_init 26 = .ok (.newarray .int, 2) := by decide +kernel
theorem dX9_init_28 : decode cX9_init 28 = .ok (.putfield 23, 3) := by decide +kernel
theorem dX9_init_31 : decode cX9_init 31 = .ok (.aload_n 0, 1) := by decide +kernel
theorem dX9_init_32 : decode cX9_init 32 = .ok (.iconst 0, 1) := by decide +kernel
theorem dX9_init_33 : decode cX9_init 33 = .ok (.putfield 26, 3) := by decide +kernel
theorem dX9_init_36 : decode cX9_init 36 = .ok (.return_, 1) := by decide +kernel
theorem dX9_putSign_0 : decode cX9_putSign 0 = .ok (.aload_n 0, 1) := by decide +kernel
theorem dX9_putSign_1 : decode cX9_putSign 1 = .ok (.getfield 15, 3) := by decide +kernel
theorem dX9_putSign_4 : decode cX9_putSign 4 = .ok (.aload_n 0, 1) := by decide +kernel
theorem dX9_putSign_5 : decode cX9_putSign 5 = .ok (.getfield 9, 3) := by decide +kernel
theorem dX9_putSign_8 : decode cX9_putSign 8 = .ok (.arraylength, 1) := by decide +kernel
theorem dX9_putSign_9 : decode cX9_putSign 9 = .ok (.if_icmp .ge 23, 3) := by decide +kernel
theorem dX9_putSign_12 : decode cX9_putSign 12 = .ok (.aload_n 0, 1) := by decide +kernel
theorem dX9_putSign_13 : decode cX9_putSign 13 = .ok (.getfield 9, 3) := by decide +kernel
theorem dX9_putSign_16 : decode cX9_putSign 16 = .ok (.aload_n 0, 1) := by decide +kernel
theorem dX9_putSign_17 : decode cX9_putSign 17 = .ok (.getfield 15, 3) := by decide +kernel
theorem dX9_putSign_20 : decode cX9_putSign 20 = .ok (.iload_n 1, 1) := by decide +kernel
theorem dX9_putSign_21 : decode cX9_putSign 21 = .ok (.iastore, 1) := by decide +kernel
theorem dX9_putSign_22 : decode cX9_putSign 22 = .ok (.aload_n 0, 1) := by decide +kernel
theorem dX9_putSign_23 : decode cX9_putSign 23 = .ok (.dup, 1) := by decide +kernel
theorem dX9_putSign_24 : decode cX9_putSign 24 = .ok (.getfield 15, 3) := by decide +kernel
theorem dX9_putSign_27 : decode cX9_putSign 27 = .ok (.iconst 1, 1) := by decide +kernel
theorem dX9_putSign_28 : decode cX9_putSign 28 = .ok (.iadd, 1) := by decide +kernel
theorem dX9_putSign_29 : decode cX9_putSign 29 = .ok (.putfield 15, 3) := by decide +kernel
theorem dX9_putSign_32 : decode cX9_putSign 32 = .ok (.aload_n 0, 1) := by decide +kernel
theorem dX9_putSign_33 : decode cX9_putSign 33 = .ok (.getfield 15, 3) := by decide +kernel
theorem dX9_putSign_36 : decode cX9_putSign 36 = .ok (.ireturn, 1) := by decide +kernel
theorem dX9_signOf_0 : decode cX9_signOf 0 = .ok (.iload_n 1, 1) := by decide +kernel
theorem dX9_signOf_1 : decode cX9_signOf 1 = .ok (.ifCond .lt 20, 3) := by decide +kernel
theorem dX9_signOf_4 : decode cX9_signOf 4 = .ok (.iload_n 1, 1) := by decide +kernel
theorem dX9_signOf_5 : decode cX9_signOf 5 = .ok (.aload_n 0, 1) := by decide +kernel
theorem dX9_signOf_6 : decode cX9_signOf 6 = .ok (.getfield 15, 3) := by decide +kernel
theorem dX9_signOf_9 : decode cX9_signOf 9 = .ok (.if_icmp .ge 12, 3) := by decide +kernel
theorem dX9_signOf_12 : decode cX9_signOf 12 = .ok (.iload_n 1, 1) := by decide +kernel
theorem dX9_signOf_13 : decode cX9_signOf 13 = .ok (.aload_n 0, 1) := by decide +kernel
theorem dX9_signOf_14 : decode cX9_signOf 14 = .ok (.getfield 9, 3) := by decide +kernel
theorem dX9_signOf_17 : decode cX9_signOf 17 = .ok (.arraylength, 1) := by decide +kernel
theorem dX9_signOf_18 : decode cX9_signOf 18 = .ok (.if_icmp .lt 8, 3) := by decide +kernel
theorem dX9_signOf_21 : decode cX9_signOf 21 = .ok (.bipush 32, 2) := by decide +kernel
theorem dX9_signOf_23 : decode cX9_signOf 23 = .ok (.goto 9, 3) := by decide +kernel
theorem dX9_signOf_26 : decode cX9_signOf 26 = .ok (.aload_n 0, 1) := by decide +kernel
theorem dX9_signOf_27 : decode cX9_signOf 27 = .ok (.getfield 9, 3) := by decide +kernel
theorem dX9_signOf_30 : decode cX9_signOf 30 = .ok (.iload_n 1, 1) := by decide +kernel
theorem dX9_signOf_31 : decode cX9_signOf 31 = .ok (.iaload, 1) := by decide +kernel
theorem dX9_signOf_32 : decode cX9_signOf 32 = .ok (.ireturn, 1) := by decide +kernel
theorem dX9_putToken_0 : decode cX9_putToken 0 = .ok (.aload_n 0, 1) := by decide +kernel
theorem dX9_putToken_1 : decode cX9_putToken 1 = .ok (.getfield 26, 3) := by decide +kernel
theorem dX9_putToken_4 : decode cX9_putToken 4 = .ok (.aload_n 0, 1) := by decide +kernel
theorem dX9_putToken_5 : decode cX9_putToken 5 = .ok (.getfield 19, 3) := by decide +kernel
theorem dX9_putToken_8 : decode cX9_putToken 8 = .ok (.arraylength, 1) := by decide +kernel
theorem dX9_putToken_9 : decode cX9_putToken 9 = .ok (.if_icmp .ge 15, 3) := by decide +kernel
theorem dX9_putToken_12 : decode cX9_putToken 12 = .ok (.aload_n 0, 1) := by decide +kernel
theorem dX9_putToken_13 : decode cX9_putToken 13 = .ok (.getfield 26, 3) := by decide +kernel
theorem dX9_putToken_16 : decode cX9_putToken 16 = .ok (.aload_n 0, 1) := by decide +kernel
theorem dX9_putToken_17 : decode cX9_putToken 17 = .ok (.getfield 23, 3) := by decide +kernel
theorem dX9_putToken_20 : decode cX9_putToken 20 = .ok (.arraylength, 1) := by decide +kernel
theorem dX9_putToken_21 : decode cX9_putToken 21 = .ok (.if_icmp .lt 41, 3) := by decide +kernel
theorem dX9_putToken_24 : decode cX9_putToken 24 = .ok (.aload_n 0, 1) := by decide +kernel
theorem dX9_putToken_25 : decode cX9_putToken 25 = .ok (.aload_n 0, 1) := by decide +kernel
theorem dX9_putToken_26 : decode cX9_putToken 26 = .ok (.getfield 19, 3) := by decide +kernel
theorem dX9_putToken_29 : decode cX9_putToken 29 = .ok (.aload_n 0, 1) := by decide +kernel
theorem dX9_putToken_30 : decode cX9_putToken 30 = .ok (.getfield 26, 3) := by decide +kernel
theorem dX9_putToken_33 : decode cX9_putToken 33 = .ok (.iconst 2, 1) := by decide +kernel
theorem dX9_putToken_34 : decode cX9_putToken 34 = .ok (.imul, 1) := by decide +kernel
theorem dX9_putToken_35 : decode cX9_putToken 35 = .ok (.iconst 4, 1) := by decide +kernel
theorem dX9_putToken_36 : decode cX9_putToken 36 = .ok (.iadd, 1) := by decide +kernel
theorem dX9_putToken_37 : decode cX9_putToken 37 = .ok (.invokestatic 29, 3) := by decide +kernel
theorem dX9_putToken_40 : decode cX9_putToken 40 = .ok (.putfield 19, 3) := by decide +kernel
theorem dX9_putToken_43 : decode cX9_putToken 43 = .ok (.aload_n 0, 1) := by decide +kernel
theorem dX9_putToken_44 : decode cX9_putToken 44 = .ok (.aload_n 0, 1) := by decide +kernel
theorem dX9_putToken_45 : decode cX9_putToken 45 = .ok (.getfield 23, 3) := by decide +kernel
theorem dX9_putToken_48 : decode cX9_putToken 48 = .ok (.aload_n 0, 1) := by decide +kernel
theorem dX9_putToken_49 : decode cX9_putToken 49 = .ok (.getfield 26, 3) := by decide +kernel
theorem dX9_putToken_52 : decode cX9_putToken 52 = .ok (.iconst 2, 1) := by decide +kernel
theorem dX9_putToken_53 : decode cX9_putToken 53 = .ok (.imul, 1) := by decide +kernel
theorem dX9_putToken_54 : decode cX9_putToken 54 = .ok (.iconst 4, 1) := by decide +kernel
theorem dX9_putToken_55 : decode cX9_putToken 55 = .ok (.iadd, 1) := by decide +kernel
theorem dX9_putToken_56 : decode cX9_putToken 56 = .ok (.invokestatic 35, 3) := by decide +kernel
theorem dX9_putToken_59 : decode cX9_putToken 59 = .ok (.putfield 23, 3) := by decide +kernel
theorem dX9_putToken_62 : decode cX9_putToken 62 = .ok (.aload_n 0, 1) := by decide +kernel
theorem dX9_putToken_63 : decode cX9_putToken 63 = .ok (.getfield 19, 3) := by decide +kernel
theorem dX9_putToken_66 : decode cX9_putToken 66 = .ok (.aload_n 0, 1) := by decide +kernel
theorem dX9_putToken_67 : decode cX9_putToken 67 = .ok (.getfield 26, 3) := by decide +kernel
theorem dX9_putToken_70 : decode cX9_putToken 70 = .ok (.lload_n 1, 1) := by decide +kernel
theorem dX9_putToken_71 : decode cX9_putToken 71 = .ok (.lastore, 1) := by decide +kernel
theorem dX9_putToken_72 : decode cX9_putToken 72 = .ok (.aload_n 0, 1) := by decide +kernel
theorem dX9_putToken_73 : decode cX9_putToken 73 = .ok (.getfield 23, 3) := by decide +kernel
theorem dX9_putToken_76 : decode cX9_putToken 76 = .ok (.aload_n 0, 1) := by decide +kernel
theorem dX9_putToken_77 : decode cX9_putToken 77 = .ok (.getfield 26, 3) := by decide +kernel
theorem dX9_putToken_80 : decode cX9_putToken 80 = .ok (.iload_n 3, 1) := by decide +kernel
theorem dX9_putToken_81 : decode cX9_putToken 81 = .ok (.iastore, 1) := by decide +kernel
theorem dX9_putToken_82 : decode cX9_putToken 82 = .ok (.aload_n 0, 1) := by decide +kernel
theorem dX9_putToken_83 : decode cX9_putToken 83 = .ok (.dup, 1) := by decide +kernel
theorem dX9_putToken_84 : decode cX9_putToken 84 = .ok (.getfield 26, 3) := by decide +kernel
theorem dX9_putToken_87 : decode cX9_putToken 87 = .ok (.iconst 1, 1) := by decide +kernel
theorem dX9_putToken_88 : decode cX9_putToken 88 = .ok (.iadd, 1) := by decide +kernel
theorem dX9_putToken_89 : decode cX9_putToken 89 = .ok (.putfield 26, 3) := by decide +kernel
theorem dX9_putToken_92 : decode cX9_putToken 92 = .ok (.return_, 1) := by decide +kernel
theorem dX9_codeAt_0 : decode cX9_codeAt 0 = .ok (.iload_n 1, 1) := by decide +kernel
theorem dX9_codeAt_1 : decode cX9_codeAt 1 = .ok (.ifCond .lt 20, 3) := by decide +kernel
theorem dX9_codeAt_4 : decode cX9_codeAt 4 = .ok (.iload_n 1, 1) := by decide +kernel
theorem dX9_codeAt_5 : decode cX9_codeAt 5 = .ok (.aload_n 0, 1) := by decide +kernel
theorem dX9_codeAt_6 : decode cX9_codeAt 6 = .ok (.getfield 26, 3) := by decide +kernel
theorem dX9_codeAt_9 : decode cX9_codeAt 9 = .ok (.if_icmp .ge 12, 3) := by decide +kernel
theorem dX9_codeAt_12 : decode cX9_codeAt 12 = .ok (.iload_n 1, 1) := by decide +kernel
theorem dX9_codeAt_13 : decode cX9_codeAt 13 = .ok (.aload_n 0, 1) := by decide +kernel
theorem dX9_codeAt_14 : decode cX9_codeAt 14 = .ok (.getfield 19, 3) := by decide +kernel
theorem dX9_codeAt_17 : decode cX9_codeAt 17 = .ok (.arraylength, 1) := by decide +kernel
theorem dX9_codeAt_18 : decode cX9_codeAt 18 = .ok (.if_icmp .lt 7, 3) := by decide +kernel
theorem dX9_codeAt_21 : decode cX9_codeAt 21 = .ok (.lconst 0, 1) := by decide +kernel
theorem dX9_codeAt_22 : decode cX9_codeAt 22 = .ok (.goto 9, 3) := by decide +kernel
theorem dX9_codeAt_25 : decode cX9_codeAt 25 = .ok (.aload_n 0, 1) := by decide +kernel
theorem dX9_codeAt_26 : decode cX9_codeAt 26 = .ok (.getfield 19, 3) := by decide +kernel
theorem dX9_codeAt_29 : decode cX9_codeAt 29 = .ok (.iload_n 1, 1) := by decide +kernel
theorem dX9_codeAt_30 : decode cX9_codeAt 30 = .ok (.laload, 1) := by decide +kernel
theorem dX9_codeAt_31 : decode cX9_codeAt 31 = .ok (.lreturn, 1) := by decide +kernel
theorem dX9_placeAt_0 : decode cX9_placeAt 0 = .ok (.iload_n 1, 1) := by decide +kernel
theorem dX9_placeAt_1 : decode cX9_placeAt 1 = .ok (.ifCond .lt 20, 3) := by decide +kernel
theorem dX9_placeAt_4 : decode cX9_placeAt 4 = .ok (.iload_n 1, 1) := by decide +kernel
theorem dX9_placeAt_5 : decode cX9_placeAt 5 = .ok (.aload_n 0, 1) := by decide +kernel
theorem dX9_placeAt_6 : decode cX9_placeAt 6 = .ok (.getfield 26, 3) := by decide +kernel
theorem dX9_placeAt_9 : decode cX9_placeAt 9 = .ok (.if_icmp .ge 12, 3) := by decide +kernel
theorem dX9_placeAt_12 : decode cX9_placeAt 12 = .ok (.iload_n 1, 1) := by decide +kernel
theorem dX9_placeAt_13 : decode cX9_placeAt 13 = .ok (.aload_n 0, 1) := by decide +kernel
theorem dX9_placeAt_14 : decode cX9_placeAt 14 = .ok (.getfield 23, 3) := by decide +kernel
theorem dX9_placeAt_17 : decode cX9_placeAt 17 = .ok (.arraylength, 1) := by decide +kernel
theorem dX9_placeAt_18 : decode cX9_placeAt 18 = .ok (.if_icmp .lt 7, 3) := by decide +kernel
theorem dX9_placeAt_21 : decode cX9_placeAt 21 = .ok (.iconst 0, 1) := by decide +kernel
theorem dX9_placeAt_22 : decode cX9_placeAt 22 = .ok (.goto 9, 3) := by decide +kernel
theorem dX9_placeAt_25 : decode cX9_placeAt 25 = .ok (.aload_n 0, 1) := by decide +kernel
theorem dX9_placeAt_26 : decode cX9_placeAt 26 = .ok (.getfield 23, 3) := by decide +kernel
theorem dX9_placeAt_29 : decode cX9_placeAt 29 = .ok (.iload_n 1, 1) := by decide +kernel
theorem dX9_placeAt_30 : decode cX9_placeAt 30 = .ok (.iaload, 1) := by decide +kernel
theorem dX9_placeAt_31 : decode cX9_placeAt 31 = .ok (.ireturn, 1) := by decide +kernel
theorem dX9_placesOf_0 : decode cX9_placesOf 0 = .ok (.iconst 0, 1) := by decide +kernel
theorem dX9_placesOf_1 : decode cX9_placesOf 1 = .ok (.istore_n 3, 1) := by decide +kernel
theorem dX9_placesOf_2 : decode cX9_placesOf 2 = .ok (.iconst 0, 1) := by decide +kernel
theorem dX9_placesOf_3 : decode cX9_placesOf 3 = .ok (.istore 4, 2) := by decide +kernel
theorem dX9_placesOf_5 : decode cX9_placesOf 5 = .ok (.iload 4, 2) := by decide +kernel
theorem dX9_placesOf_7 : decode cX9_placesOf 7 = .ok (.aload_n 0, 1) := by decide +kernel
theorem dX9_placesOf_8 : decode cX9_placesOf 8 = .ok (.getfield 26, 3) := by decide +kernel
theorem dX9_placesOf_11 : decode cX9_placesOf 11 = .ok (.if_icmp .ge 53, 3) := by decide +kernel
theorem dX9_placesOf_14 : decode cX9_placesOf 14 = .ok (.iload 4, 2) := by decide +kernel
theorem dX9_placesOf_16 : decode cX9_placesOf 16 = .ok (.aload_n 0, 1) := by decide +kernel
theorem dX9_placesOf_17 : decode cX9_placesOf 17 = .ok (.getfield 19, 3) := by decide +kernel
theorem dX9_placesOf_20 : decode cX9_placesOf 20 = .ok (.arraylength, 1) := by decide +kernel
theorem dX9_placesOf_21 : decode cX9_placesOf 21 = .ok (.if_icmp .ge 43, 3) := by decide +kernel
theorem dX9_placesOf_24 : decode cX9_placesOf 24 = .ok (.iload 4, 2) := by decide +kernel
theorem dX9_placesOf_26 : decode cX9_placesOf 26 = .ok (.aload_n 0, 1) := by decide +kernel
theorem dX9_placesOf_27 : decode cX9_placesOf 27 = .ok (.getfield 23, 3) := by decide +kernel
theorem dX9_placesOf_30 : decode cX9_placesOf 30 = .ok (.arraylength, 1) := by decide +kernel
theorem dX9_placesOf_31 : decode cX9_placesOf 31 = .ok (.if_icmp .ge 33, 3) := by decide +kernel
theorem dX9_placesOf_34 : decode cX9_placesOf 34 = .ok (.aload_n 0, 1) := by decide +kernel
theorem dX9_placesOf_35 : decode cX9_placesOf 35 = .ok (.getfield 19, 3) := by decide +kernel
theorem dX9_placesOf_38 : decode cX9_placesOf 38 = .ok (.iload 4, 2) := by decide +kernel
theorem dX9_placesOf_40 : decode cX9_placesOf 40 = .ok (.laload, 1) := by decide +kernel
theorem dX9_placesOf_41 : decode cX9_placesOf 41 = .ok (.lload_n 1, 1) := by decide +kernel
theorem dX9_placesOf_42 : decode cX9_placesOf 42 = .ok (.lcmp, 1) := by decide +kernel
theorem dX9_placesOf_43 : decode cX9_placesOf 43 = .ok (.ifCond .ne 15, 3) := by decide +kernel
theorem dX9_placesOf_46 : decode cX9_placesOf 46 = .ok (.iload_n 3, 1) := by decide +kernel
theorem dX9_placesOf_47 : decode cX9_placesOf 47 = .ok (.iconst 1, 1) := by decide +kernel
theorem dX9_placesOf_48 : decode cX9_placesOf 48 = .ok (.aload_n 0, 1) := by decide +kernel
theorem dX9_placesOf_49 : decode cX9_placesOf 49 = .ok (.getfield 23, 3) := by decide +kernel
theorem dX9_placesOf_52 : decode cX9_placesOf 52 = .ok (.iload 4, 2) := by decide +kernel
theorem dX9_placesOf_54 : decode cX9_placesOf 54 = .ok (.iaload, 1) := by decide +kernel
theorem dX9_placesOf_55 : decode cX9_placesOf 55 = .ok (.ishl, 1) := by decide +kernel
theorem dX9_placesOf_56 : decode cX9_placesOf 56 = .ok (.ior, 1) := by decide +kernel
theorem dX9_placesOf_57 : decode cX9_placesOf 57 = .ok (.istore_n 3, 1) := by decide +kernel
theorem dX9_placesOf_58 : decode cX9_placesOf 58 = .ok (.iinc 4 1, 3) := by decide +kernel
theorem dX9_placesOf_61 : decode cX9_placesOf 61 = .ok (.goto (-56), 3) := by decide +kernel
theorem dX9_placesOf_64 : decode cX9_placesOf 64 = .ok (.iload_n 3, 1) := by decide +kernel
theorem dX9_placesOf_65 : decode cX9_placesOf 65 = .ok (.ireturn, 1) := by decide +kernel
theorem dX9_isFirst_0 : decode cX9_isFirst 0 = .ok (.aload_n 0, 1) := by decide +kernel
theorem dX9_isFirst_1 : decode cX9_isFirst 1 = .ok (.aload_n 0, 1) := by decide +kernel
theorem dX9_isFirst_2 : decode cX9_isFirst 2 = .ok (.iload_n 1, 1) := by decide +kernel
theorem dX9_isFirst_3 : decode cX9_isFirst 3 = .ok (.invokevirtual 38, 3) := by decide +kernel
theorem dX9_isFirst_6 : decode cX9_isFirst 6 = .ok (.invokevirtual 42, 3) := by decide +kernel
theorem dX9_isFirst_9 : decode cX9_isFirst 9 = .ok (.aload_n 0, 1) := by decide +kernel
theorem dX9_isFirst_10 : decode cX9_isFirst 10 = .ok (.iload_n 1, 1) := by decide +kernel
theorem dX9_isFirst_11 : decode cX9_isFirst 11 = .ok (.invokevirtual 46, 3) := by decide +kernel
theorem dX9_isFirst_14 : decode cX9_isFirst 14 = .ok (.ishr, 1) := by decide +kernel
theorem dX9_isFirst_15 : decode cX9_isFirst 15 = .ok (.istore_n 2, 1) := by decide +kernel
theorem dX9_isFirst_16 : decode cX9_isFirst 16 = .ok (.iload_n 2, 1) := by decide +kernel
theorem dX9_isFirst_17 : decode cX9_isFirst 17 = .ok (.aload_n 0, 1) := by decide +kernel
theorem dX9_isFirst_18 : decode cX9_isFirst 18 = .ok (.iload_n 1, 1) := by decide +kernel
theorem dX9_isFirst_19 : decode cX9_isFirst 19 = .ok (.invokevirtual 46, 3) := by decide +kernel
theorem dX9_isFirst_22 : decode cX9_isFirst 22 = .ok (.ishl, 1) := by decide +kernel
theorem dX9_isFirst_23 : decode cX9_isFirst 23 = .ok (.aload_n 0, 1) := by decide +kernel
theorem dX9_isFirst_24 : decode cX9_isFirst 24 = .ok (.aload_n 0, 1) := by decide +kernel
theorem dX9_isFirst_25 : decode cX9_isFirst 25 = .ok (.iload_n 1, 1) := by decide +kernel
theorem dX9_isFirst_26 : decode cX9_isFirst 26 = .ok (.invokevirtual 38, 3) := by decide +kernel
theorem dX9_isFirst_29 : decode cX9_isFirst 29 = .ok (.invokevirtual 42, 3) := by decide +kernel
theorem dX9_isFirst_32 : decode cX9_isFirst 32 = .ok (.if_icmp .ne 7, 3) := by decide +kernel
theorem dX9_isFirst_35 : decode cX9_isFirst 35 = .ok (.iconst 1, 1) := by decide +kernel
theorem dX9_isFirst_36 : decode cX9_isFirst 36 = .ok (.goto 4, 3) := by decide +kernel
theorem dX9_isFirst_39 : decode cX9_isFirst 39 = .ok (.iconst 0, 1) := by decide +kernel
theorem dX9_isFirst_40 : decode cX9_isFirst 40 = .ok (.ireturn, 1) := by decide +kernel
theorem dX9_digitOf_0 : decode cX9_digitOf 0 = .ok (.iload_n 0, 1) := by decide +kernel
theorem dX9_digitOf_1 : decode cX9_digitOf 1 = .ok (.bipush 48, 2) := by decide +kernel
theorem dX9_digitOf_3 : decode cX9_digitOf 3 = .ok (.if_icmp .lt 16, 3) := by decide +kernel
theorem dX9_digitOf_6 : decode cX9_digitOf 6 = .ok (.iload_n 0, 1) := by decide +kernel
theorem dX9_digitOf_7 : decode cX9_digitOf 7 = .ok (.bipush 57, 2) := by decide +kernel
theorem dX9_digitOf_9 : decode cX9_digitOf 9 = .ok (.if_icmp .gt 10, 3) := by decide +kernel
theorem dX9_digitOf_12 : decode cX9_digitOf 12 = .ok (.iload_n 0, 1) := by decide +kernel
theorem dX9_digitOf_13 : decode cX9_digitOf 13 = .ok (.bipush 48, 2) := by decide +kernel
theorem dX9_digitOf_15 : decode cX9_digitOf 15 = .ok (.isub, 1) := by decide +kernel
theorem dX9_digitOf_16 : decode cX9_digitOf 16 = .ok (.iconst 1, 1) := by decide +kernel
theorem dX9_digitOf_17 : decode cX9_digitOf 17 = .ok (.iadd, 1) := by decide +kernel
theorem dX9_digitOf_18 : decode cX9_digitOf 18 = .ok (.ireturn, 1) := by decide +kernel
theorem dX9_digitOf_19 : decode cX9_digitOf 19 = .ok (.iload_n 0, 1) := by decide +kernel
theorem dX9_digitOf_20 : decode cX9_digitOf 20 = .ok (.bipush 97, 2) := by decide +kernel
theorem dX9_digitOf_22 : decode cX9_digitOf 22 = .ok (.if_icmp .lt 17, 3) := by decide +kernel
theorem dX9_digitOf_25 : decode cX9_digitOf 25 = .ok (.iload_n 0, 1) := by decide +kernel
theorem dX9_digitOf_26 : decode cX9_digitOf 26 = .ok (.bipush 122, 2) := by decide +kernel
theorem dX9_digitOf_28 : decode cX9_digitOf 28 = .ok (.if_icmp .gt 11, 3) := by decide +kernel
theorem dX9_digitOf_31 : decode cX9_digitOf 31 = .ok (.iload_n 0, 1) := by decide +kernel
theorem dX9_digitOf_32 : decode cX9_digitOf 32 = .ok (.bipush 97, 2) := by decide +kernel
theorem dX9_digitOf_34 : decode cX9_digitOf 34 = .ok (.isub, 1) := by decide +kernel
theorem dX9_digitOf_35 : decode cX9_digitOf 35 = .ok (.bipush 11, 2) := by decide +kernel
theorem dX9_digitOf_37 : decode cX9_digitOf 37 = .ok (.iadd, 1) := by decide +kernel
theorem dX9_digitOf_38 : decode cX9_digitOf 38 = .ok (.ireturn, 1) := by decide +kernel
theorem dX9_digitOf_39 : decode cX9_digitOf 39 = .ok (.iload_n 0, 1) := by decide +kernel
theorem dX9_digitOf_40 : decode cX9_digitOf 40 = .ok (.bipush 65, 2) := by decide +kernel
theorem dX9_digitOf_42 : decode cX9_digitOf 42 = .ok (.if_icmp .lt 17, 3) := by decide +kernel
theorem dX9_digitOf_45 : decode cX9_digitOf 45 = .ok (.iload_n 0, 1) := by decide +kernel
theorem dX9_digitOf_46 : decode cX9_digitOf 46 = .ok (.bipush 90, 2) := by decide +kernel
theorem dX9_digitOf_48 : decode cX9_digitOf 48 = .ok (.if_icmp .gt 11, 3) := by decide +kernel
theorem dX9_digitOf_51 : decode cX9_digitOf 51 = .ok (.iload_n 0, 1) := by decide +kernel
theorem dX9_digitOf_52 : decode cX9_digitOf 52 = .ok (.bipush 65, 2) := by decide +kernel
theorem dX9_digitOf_54 : decode cX9_digitOf 54 = .ok (.isub, 1) := by decide +kernel
theorem dX9_digitOf_55 : decode cX9_digitOf 55 = .ok (.bipush 11, 2) := by decide +kernel
theorem dX9_digitOf_57 : decode cX9_digitOf 57 = .ok (.iadd, 1) := by decide +kernel
theorem dX9_digitOf_58 : decode cX9_digitOf 58 = .ok (.ireturn, 1) := by decide +kernel
theorem dX9_digitOf_59 : decode cX9_digitOf 59 = .ok (.iconst 0, 1) := by decide +kernel
theorem dX9_digitOf_60 : decode cX9_digitOf 60 = .ok (.ireturn, 1) := by decide +kernel
theorem dX9_digitAt_0 : decode cX9_digitAt 0 = .ok (.iload_n 2, 1) := by decide +kernel
theorem dX9_digitAt_1 : decode cX9_digitAt 1 = .ok (.ifCond .lt 9, 3) := by decide +kernel
theorem dX9_digitAt_4 : decode cX9_digitAt 4 = .ok (.iload_n 2, 1) := by decide +kernel
theorem dX9_digitAt_5 : decode cX9_digitAt 5 = .ok (.bipush 12, 2) := by decide +kernel
theorem dX9_digitAt_7 : decode cX9_digitAt 7 = .ok (.if_icmp .lt 5, 3) := by decide +kernel
theorem dX9_digitAt_10 : decode cX9_digitAt 10 = .ok (.iconst 0, 1) := by decide +kernel
theorem dX9_digitAt_11 : decode cX9_digitAt 11 = .ok (.ireturn, 1) := by decide +kernel
theorem dX9_digitAt_12 : decode cX9_digitAt 12 = .ok (.lload_n 0, 1) := by decide +kernel
theorem dX9_digitAt_13 : decode cX9_digitAt 13 = .ok (.getstatic 50, 3) := by decide +kernel
theorem dX9_digitAt_16 : decode cX9_digitAt 16 = .ok (.bipush 11, 2) := by decide +kernel
theorem dX9_digitAt_18 : decode cX9_digitAt 18 = .ok (.iload_n 2, 1) := by decide +kernel
theorem dX9_digitAt_19 : decode cX9_digitAt 19 = .ok (.isub, 1) := by decide +kernel
theorem dX9_digitAt_20 : decode cX9_digitAt 20 = .ok (.laload, 1) := by decide +kernel
theorem dX9_digitAt_21 : decode cX9_digitAt 21 = .ok (.ldiv, 1) := by decide +kernel
theorem dX9_digitAt_22 : decode cX9_digitAt 22 = .ok (.ldc2_w 53, 3) := by decide +kernel
theorem dX9_digitAt_25 : decode cX9_digitAt 25 = .ok (.lrem, 1) := by decide +kernel
theorem dX9_digitAt_26 : decode cX9_digitAt 26 = .ok (.l2i, 1) := by decide +kernel
theorem dX9_digitAt_27 : decode cX9_digitAt 27 = .ok (.ireturn, 1) := by decide +kernel
theorem dX9_withDigit_0 : decode cX9_withDigit 0 = .ok (.iload_n 2, 1) := by decide +kernel
theorem dX9_withDigit_1 : decode cX9_withDigit 1 = .ok (.ifCond .lt 9, 3) := by decide +kernel
theorem dX9_withDigit_4 : decode cX9_withDigit 4 = .ok (.iload_n 2, 1) := by decide +kernel
theorem dX9_withDigit_5 : decode cX9_withDigit 5 = .ok (.bipush 12, 2) := by decide +kernel
theorem dX9_withDigit_7 : decode cX9_withDigit 7 = .ok (.if_icmp .lt 7, 3) := by decide +kernel
theorem dX9_withDigit_10 : decode cX9_withDigit 10 = .ok (.lload_n 0, 1) := by decide +kernel
theorem dX9_withDigit_11 : decode cX9_withDigit 11 = .ok (.goto 16, 3) := by decide +kernel
theorem dX9_withDigit_14 : decode cX9_withDigit 14 = .ok (.lload_n 0, 1) := by decide +kernel
theorem dX9_withDigit_15 : decode cX9_withDigit 15 = .ok (.iload_n 3, 1) := by decide +kernel
theorem dX9_withDigit_16 : decode cX9_withDigit 16 = .ok (.i2l, 1) := by decide +kernel
theorem dX9_withDigit_17 : decode cX9_withDigit 17 = .ok (.getstatic 50, 3) := by decide +kernel
theorem dX9_withDigit_20 : decode cX9_withDigit 20 = .ok (.bipush 11, 2) := by decide +kernel
theorem dX9_withDigit_22 : decode cX9_withDigit 22 = .ok (.iload_n 2, 1) := by decide +kernel
theorem dX9_withDigit_23 : decode cX9_withDigit 23 = .ok (.isub, 1) := by decide +kernel
theorem dX9_withDigit_24 : decode cX9_withDigit 24 = .ok (.laload, 1) := by decide +kernel
theorem dX9_withDigit_25 : decode cX9_withDigit 25 = .ok (.lmul, 1) := by decide +kernel
theorem dX9_withDigit_26 : decode cX9_withDigit 26 = .ok (.ladd, 1) := by decide +kernel
theorem dX9_withDigit_27 : decode cX9_withDigit 27 = .ok (.lreturn, 1) := by decide +kernel
theorem dX9_lengthOf_0 : decode cX9_lengthOf 0 = .ok (.iconst 0, 1) := by decide +kernel
theorem dX9_lengthOf_1 : decode cX9_lengthOf 1 = .ok (.istore_n 2, 1) := by decide +kernel
theorem dX9_lengthOf_2 : decode cX9_lengthOf 2 = .ok (.iload_n 2, 1) := by decide +kernel
theorem dX9_lengthOf_3 : decode cX9_lengthOf 3 = .ok (.bipush 12, 2) := by decide +kernel
theorem dX9_lengthOf_5 : decode cX9_lengthOf 5 = .ok (.if_icmp .ge 17, 3) := by decide +kernel
theorem dX9_lengthOf_8 : decode cX9_lengthOf 8 = .ok (.lload_n 0, 1) := by decide +kernel
theorem dX9_lengthOf_9 : decode cX9_lengthOf 9 = .ok (.iload_n 2, 1) := by decide +kernel
theorem dX9_lengthOf_10 : decode cX9_lengthOf 10 = .ok (.invokestatic 55, 3) := by decide +kernel
theorem dX9_lengthOf_13 : decode cX9_lengthOf 13 = .ok (.ifCond .eq 9, 3) := by decide +kernel
theorem dX9_lengthOf_16 : decode cX9_lengthOf 16 = .ok (.iinc 2 1, 3) := by decide +kernel
theorem dX9_lengthOf_19 : decode cX9_lengthOf 19 = .ok (.goto (-17), 3) := by decide +kernel
theorem dX9_lengthOf_22 : decode cX9_lengthOf 22 = .ok (.iload_n 2, 1) := by decide +kernel
theorem dX9_lengthOf_23 : decode cX9_lengthOf 23 = .ok (.ireturn, 1) := by decide +kernel
theorem dX9_stemOf_0 : decode cX9_stemOf 0 = .ok (.lload_n 0, 1) := by decide +kernel
theorem dX9_stemOf_1 : decode cX9_stemOf 1 = .ok (.invokestatic 59, 3) := by decide +kernel
theorem dX9_stemOf_4 : decode cX9_stemOf 4 = .ok (.istore_n 2, 1) := by decide +kernel
theorem dX9_stemOf_5 : decode cX9_stemOf 5 = .ok (.iload_n 2, 1) := by decide +kernel
theorem dX9_stemOf_6 : decode cX9_stemOf 6 = .ok (.bipush 6, 2) := by decide +kernel
theorem dX9_stemOf_8 : decode cX9_stemOf 8 = .ok (.if_icmp .lt 25, 3) := by decide +kernel
theorem dX9_stemOf_11 : decode cX9_stemOf 11 = .ok (.lload_n 0, 1) := by decide +kernel
theorem dX9_stemOf_12 : decode cX9_stemOf 12 = .ok (.iload_n 2, 1) := by decide +kernel
theorem dX9_stemOf_13 : decode cX9_stemOf 13 = .ok (.bipush 105, 2) := by decide +kernel
theorem dX9_stemOf_15 : decode cX9_stemOf 15 = .ok (.bipush 110, 2) := by decide +kernel
theorem dX9_stemOf_17 : decode cX9_stemOf 17 = .ok (.bipush 103, 2) := by decide +kernel
theorem dX9_stemOf_19 : decode cX9_stemOf 19 = .ok (.invokestatic 62, 3) := by decide +kernel
theorem dX9_stemOf_22 : decode cX9_stemOf 22 = .ok (.ifCond .eq 11, 3) := by decide +kernel
theorem dX9_stemOf_25 : decode cX9_stemOf 25 = .ok (.lload_n 0, 1) := by decide +kernel
theorem dX9_stemOf_26 : decode cX9_stemOf 26 = .ok (.iload_n 2, 1) := by decide +kernel
theorem dX9_stemOf_27 : decode cX9_stemOf 27 = .ok (.iconst 3, 1) := by decide +kernel
theorem dX9_stemOf_28 : decode cX9_stemOf 28 = .ok (.isub, 1) := by decide +kernel
theorem dX9_stemOf_29 : decode cX9_stemOf 29 = .ok (.invokestatic 66, 3) := by decide +kernel
theorem dX9_stemOf_32 : decode cX9_stemOf 32 = .ok (.lreturn, 1) := by decide +kernel
theorem dX9_stemOf_33 : decode cX9_stemOf 33 = .ok (.iload_n 2, 1) := by decide +kernel
theorem dX9_stemOf_34 : decode cX9_stemOf 34 = .ok (.iconst 5, 1) := by decide +kernel
theorem dX9_stemOf_35 : decode cX9_stemOf 35 = .ok (.if_icmp .lt 25, 3) := by decide +kernel
theorem dX9_stemOf_38 : decode cX9_stemOf 38 = .ok (.lload_n 0, 1) := by decide +kernel
theorem dX9_stemOf_39 : decode cX9_stemOf 39 = .ok (.iload_n 2, 1) := by decide +kernel
theorem dX9_stemOf_40 : decode cX9_stemOf 40 = .ok (.bipush 32, 2) := by decide +kernel
theorem dX9_stemOf_42 : decode cX9_stemOf 42 = .ok (.bipush 101, 2) := by decide +kernel
theorem dX9_stemOf_44 : decode cX9_stemOf 44 = .ok (.bipush 100, 2) := by decide +kernel
theorem dX9_stemOf_46 : decode cX9_stemOf 46 = .ok (.invokestatic 62, 3) := by decide +kernel
theorem dX9_stemOf_49 : decode cX9_stemOf 49 = .ok (.ifCond .eq 11, 3) := by decide +kernel
theorem dX9_stemOf_52 : decode cX9_stemOf 52 = .ok (.lload_n 0, 1) := by decide +kernel
theorem dX9_stemOf_53 : decode cX9_stemOf 53 = .ok (.iload_n 2, 1) := by decide +kernel
theorem dX9_stemOf_54 : decode cX9_stemOf 54 = .ok (.iconst 2, 1) := by decide +kernel
theorem dX9_stemOf_55 : decode cX9_stemOf 55 = .ok (.isub, 1) := by decide +kernel
theorem dX9_stemOf_56 : decode cX9_stemOf 56 = .ok (.invokestatic 66, 3) := by decide +kernel
theorem dX9_stemOf_59 : decode cX9_stemOf 59 = .ok (.lreturn, 1) := by decide +kernel
theorem dX9_stemOf_60 : decode cX9_stemOf 60 = .ok (.iload_n 2, 1) := by decide +kernel
theorem dX9_stemOf_61 : decode cX9_stemOf 61 = .ok (.iconst 4, 1) := by decide +kernel
theorem dX9_stemOf_62 : decode cX9_stemOf 62 = .ok (.if_icmp .lt 39, 3) := by decide +kernel
theorem dX9_stemOf_65 : decode cX9_stemOf 65 = .ok (.lload_n 0, 1) := by decide +kernel
theorem dX9_stemOf_66 : decode cX9_stemOf 66 = .ok (.iload_n 2, 1) := by decide +kernel
theorem dX9_stemOf_67 : decode cX9_stemOf 67 = .ok (.bipush 32, 2) := by decide +kernel
theorem dX9_stemOf_69 : decode cX9_stemOf 69 = .ok (.bipush 32, 2) := by decide +kernel
theorem dX9_stemOf_71 : decode cX9_stemOf 71 = .ok (.bipush 115, 2) := by decide +kernel
theorem dX9_stemOf_73 : decode cX9_stemOf 73 = .ok (.invokestatic 62, 3) := by decide +kernel
theorem dX9_stemOf_76 : decode cX9_stemOf 76 = .ok (.ifCond .eq 25, 3) := by decide +kernel
theorem dX9_stemOf_79 : decode cX9_stemOf 79 = .ok (.lload_n 0, 1) := by decide +kernel
theorem dX9_stemOf_80 : decode cX9_stemOf 80 = .ok (.iload_n 2, 1) := by decide +kernel
theorem dX9_stemOf_81 : decode cX9_stemOf 81 = .ok (.bipush 32, 2) := by decide +kernel
theorem dX9_stemOf_83 : decode cX9_stemOf 83 = .ok (.bipush 115, 2) := by decide +kernel
theorem dX9_stemOf_85 : decode cX9_stemOf 85 = .ok (.bipush 115, 2) := by decide +kernel
theorem dX9_stemOf_87 : decode cX9_stemOf 87 = .ok (.invokestatic 62, 3) := by decide +kernel
theorem dX9_stemOf_90 : decode cX9_stemOf 90 = .ok (.ifCond .ne 11, 3) := by decide +kernel
theorem dX9_stemOf_93 : decode cX9_stemOf 93 = .ok (.lload_n 0, 1) := by decide +kernel
theorem dX9_stemOf_94 : decode cX9_stemOf 94 = .ok (.iload_n 2, 1) := by decide +kernel
theorem dX9_stemOf_95 : decode cX9_stemOf 95 = .ok (.iconst 1, 1) := by decide +kernel
theorem dX9_stemOf_96 : decode cX9_stemOf 96 = .ok (.isub, 1) := by decide +kernel
theorem dX9_stemOf_97 : decode cX9_stemOf 97 = .ok (.invokestatic 66, 3) := by decide +kernel
theorem dX9_stemOf_100 : decode cX9_stemOf 100 = .ok (.lreturn, 1) := by decide +kernel
theorem dX9_stemOf_101 : decode cX9_stemOf 101 = .ok (.lload_n 0, 1) := by decide +kernel
theorem dX9_stemOf_102 : decode cX9_stemOf 102 = .ok (.lreturn, 1) := by decide +kernel
theorem dX9_isEnding_0 : decode cX9_isEnding 0 = .ok (.iload_n 3, 1) := by decide +kernel
theorem dX9_isEnding_1 : decode cX9_isEnding 1 = .ok (.bipush 32, 2) := by decide +kernel
theorem dX9_isEnding_3 : decode cX9_isEnding 3 = .ok (.if_icmp .eq 17, 3) := by decide +kernel
theorem dX9_isEnding_6 : decode cX9_isEnding 6 = .ok (.lload_n 0, 1) := by decide +kernel
theorem dX9_isEnding_7 : decode cX9_isEnding 7 = .ok (.iload_n 2, 1) := by decide +kernel
theorem dX9_isEnding_8 : decode cX9_isEnding 8 = .ok (.iconst 3, 1) := by decide +kernel
theorem dX9_isEnding_9 : decode cX9_isEnding 9 = .ok (.isub, 1) := by decide +kernel
theorem dX9_isEnding_10 : decode cX9_isEnding 10 = .ok (.invokestatic 55, 3) := by decide +kernel
theorem dX9_isEnding_13 : decode cX9_isEnding 13 = .ok (.iload_n 3, 1) := by decide +kernel
theorem dX9_isEnding_14 : decode cX9_isEnding 14 = .ok (.invokestatic 70, 3) := by decide +kernel
theorem dX9_isEnding_17 : decode cX9_isEnding 17 = .ok (.if_icmp .ne 44, 3) := by decide +kernel
theorem dX9_isEnding_20 : decode cX9_isEnding 20 = .ok (.iload 4, 2) := by decide +kernel
theorem dX9_isEnding_22 : decode cX9_isEnding 22 = .ok (.bipush 32, 2) := by decide +kernel
theorem dX9_isEnding_24 : decode cX9_isEnding 24 = .ok (.if_icmp .eq 18, 3) := by decide +kernel
theorem dX9_isEnding_27 : decode cX9_isEnding 27 = .ok (.lload_n 0, 1) := by decide +kernel
theorem dX9_isEnding_28 : decode cX9_isEnding 28 = .ok (.iload_n 2, 1) := by decide +kernel
theorem dX9_isEnding_29 : decode cX9_isEnding 29 = .ok (.iconst 2, 1) := by decide +kernel
theorem dX9_isEnding_30 : decode cX9_isEnding 30 = .ok (.isub, 1) := by decide +kernel
theorem dX9_isEnding_31 : decode cX9_isEnding 31 = .ok (.invokestatic 55, 3) := by decide +kernel
theorem dX9_isEnding_34 : decode cX9_isEnding 34 = .ok (.iload 4, 2) := by decide +kernel
theorem dX9_isEnding_36 : decode cX9_isEnding 36 = .ok (.invokestatic 70, 3) := by decide +kernel
theorem dX9_isEnding_39 : decode cX9_isEnding 39 = .ok (.if_icmp .ne 22, 3) := by decide +kernel
theorem dX9_isEnding_42 : decode cX9_isEnding 42 = .ok (.lload_n 0, 1) := by decide +kernel
theorem dX9_isEnding_43 : decode cX9_isEnding 43 = .ok (.iload_n 2, 1) := by decide +kernel
theorem dX9_isEnding_44 : decode cX9_isEnding 44 = .ok (.iconst 1, 1) := by decide +kernel
theorem dX9_isEnding_45 : decode cX9_isEnding 45 = .ok (.isub, 1) := by decide +kernel
theorem dX9_isEnding_46 : decode cX9_isEnding 46 = .ok (.invokestatic 55, 3) := by decide +kernel
theorem dX9_isEnding_49 : decode cX9_isEnding 49 = .ok (.iload 5, 2) := by decide +kernel
theorem dX9_isEnding_51 : decode cX9_isEnding 51 = .ok (.invokestatic 70, 3) := by decide +kernel
theorem dX9_isEnding_54 : decode cX9_isEnding 54 = .ok (.if_icmp .ne 7, 3) := by decide +kernel
theorem dX9_isEnding_57 : decode cX9_isEnding 57 = .ok (.iconst 1, 1) := by decide +kernel
theorem dX9_isEnding_58 : decode cX9_isEnding 58 = .ok (.goto 4, 3) := by decide +kernel
theorem dX9_isEnding_61 : decode cX9_isEnding 61 = .ok (.iconst 0, 1) := by decide +kernel
theorem dX9_isEnding_62 : decode cX9_isEnding 62 = .ok (.ireturn, 1) := by decide +kernel
theorem dX9_cutTo_0 : decode cX9_cutTo 0 = .ok (.iload_n 2, 1) := by decide +kernel
theorem dX9_cutTo_1 : decode cX9_cutTo 1 = .ok (.iconst 1, 1) := by decide +kernel
theorem dX9_cutTo_2 : decode cX9_cutTo 2 = .ok (.if_icmp .lt 9, 3) := by decide +kernel
theorem dX9_cutTo_5 : decode cX9_cutTo 5 = .ok (.iload_n 2, 1) := by decide +kernel
theorem dX9_cutTo_6 : decode cX9_cutTo 6 = .ok (.bipush 12, 2) := by decide +kernel
theorem dX9_cutTo_8 : decode cX9_cutTo 8 = .ok (.if_icmp .le 5, 3) := by decide +kernel
theorem dX9_cutTo_11 : decode cX9_cutTo 11 = .ok (.lload_n 0, 1) := by decide +kernel
theorem dX9_cutTo_12 : decode cX9_cutTo 12 = .ok (.lreturn, 1) := by decide +kernel
theorem dX9_cutTo_13 : decode cX9_cutTo 13 = .ok (.lload_n 0, 1) := by decide +kernel
theorem dX9_cutTo_14 : decode cX9_cutTo 14 = .ok (.lload_n 0, 1) := by decide +kernel
theorem dX9_cutTo_15 : decode cX9_cutTo 15 = .ok (.getstatic 50, 3) := by decide +kernel
theorem dX9_cutTo_18 : decode cX9_cutTo 18 = .ok (.bipush 12, 2) := by decide +kernel
theorem dX9_cutTo_20 : decode cX9_cutTo 20 = .ok (.iload_n 2, 1) := by decide +kernel
theorem dX9_cutTo_21 : decode cX9_cutTo 21 = .ok (.isub, 1) := by decide +kernel
theorem dX9_cutTo_22 : decode cX9_cutTo 22 = .ok (.laload, 1) := by decide +kernel
theorem dX9_cutTo_23 : decode cX9_cutTo 23 = .ok (.lrem, 1) := by decide +kernel
theorem dX9_cutTo_24 : decode cX9_cutTo 24 = .ok (.lsub, 1) := by decide +kernel
theorem dX9_cutTo_25 : decode cX9_cutTo 25 = .ok (.lreturn, 1) := by decide +kernel
theorem dX10_init_0 : decode cX10_init 0 = .ok (.aload_n 0, 1) := by decide +kernel
theorem dX10_init_1 : decode cX10_init 1 = .ok (.invokespecial 3, 3) := by decide +kernel
theorem dX10_init_4 : decode cX10_init 4 = .ok (.aload_n 0, 1) := by decide +kernel
theorem dX10_init_5 : decode cX10_init 5 = .ok (.new 9, 3) := by decide +kernel
theorem dX10_init_8 : decode cX10_init 8 = .ok (.dup, 1) := by decide +kernel
theorem dX10_init_9 : decode cX10_init 9 = .ok (.invokespecial 11, 3) := by decide +kernel
theorem dX10_init_12 : decode cX10_init 12 = .ok (.putfield 12, 3) := by decide +kernel
theorem dX10_init_15 : decode cX10_init 15 = .ok (.aload_n 0, 1) := by decide +kernel
theorem dX10_init_16 : decode cX10_init 16 = .ok (.iload_n 1, 1) := by decide +kernel
theorem dX10_init_17 : decode cX10_init 17 = .ok (.putfield 18, 3) := by decide +kernel
theorem dX10_init_20 : decode cX10_init 20 = .ok (.return_, 1) := by decide +kernel
theorem dX10_size_0 : decode cX10_size 0 = .ok (.aload_n 0, 1) := by decide +kernel
theorem dX10_size_1 : decode cX10_size 1 = .ok (.getfield 12, 3) := by decide +kernel
theorem dX10_size_4 : decode cX10_size 4 = .ok (.invokevirtual 22, 3) := by decide +kernel
theorem dX10_size_7 : decode cX10_size 7 = .ok (.ireturn, 1) := by decide +kernel
theorem dX10_at_0 : decode cX10_at 0 = .ok (.iload_n 1, 1) := by decide +kernel
theorem dX10_at_1 : decode cX10_at 1 = .ok (.ifCond .lt 14, 3) := by decide +kernel
theorem dX10_at_4 : decode cX10_at 4 = .ok (.iload_n 1, 1) := by decide +kernel
theorem dX10_at_5 : decode cX10_at 5 = .ok (.aload_n 0, 1) := by decide +kernel
theorem dX10_at_6 : decode cX10_at 6 = .ok (.getfield 12, 3) := by decide +kernel
theorem dX10_at_9 : decode cX10_at 9 = .ok (.invokevirtual 22, 3) := by decide +kernel
theorem dX10_at_12 : decode cX10_at 12 = .ok (.if_icmp .lt 7, 3) := by decide +kernel
theorem dX10_at_15 : decode cX10_at 15 = .ok (.aconst_null, 1) := by decide +kernel
theorem dX10_at_16 : decode cX10_at 16 = .ok (.goto 14, 3) := by decide +kernel
theorem dX10_at_19 : decode cX10_at 19 = .ok (.aload_n 0, 1) := by decide +kernel
theorem dX10_at_20 : decode cX10_at 20 = .ok (.getfield 12, 3) := by decide +kernel
theorem dX10_at_23 : decode cX10_at 23 = .ok (.iload_n 1, 1) := by decide +kernel
theorem dX10_at_24 : decode cX10_at 24 = .ok (.invokevirtual 26, 3) := by decide +kernel
theorem dX10_at_27 : decode cX10_at 27 = .ok (.checkcast 30, 3) := by decide +kernel
theorem dX10_at_30 : decode cX10_at 30 = .ok (.areturn, 1) := by decide +kernel
theorem dX10_put_0 : decode cX10_put 0 = .ok (.iload_n 1, 1) := by decide +kernel
theorem dX10_put_1 : decode cX10_put 1 = .ok (.ifCond .lt 23, 3) := by decide +kernel
theorem dX10_put_4 : decode cX10_put 4 = .ok (.iload_n 1, 1) := by decide +kernel
theorem dX10_put_5 : decode cX10_put 5 = .ok (.aload_n 0, 1) := by decide +kernel
theorem dX10_put_6 : decode cX10_put 6 = .ok (.getfield 12, 3) := by decide +kernel
theorem dX10_put_9 : decode cX10_put 9 = .ok (.invokevirtual 22, 3) := by decide +kernel
theorem dX10_put_12 : decode cX10_put 12 = .ok (.if_icmp .gt 12, 3) := by decide +kernel
theorem dX10_put_15 : decode cX10_put 15 = .ok (.aload_n 0, 1) := by decide +kernel
theorem dX10_put_16 : decode cX10_put 16 = .ok (.getfield 12, 3) := by decide +kernel
theorem dX10_put_19 : decode cX10_put 19 = .ok (.iload_n 1, 1) := by decide +kernel
theorem dX10_put_20 : decode cX10_put 20 = .ok (.aload_n 2, 1) := by decide +kernel
theorem dX10_put_21 : decode cX10_put 21 = .ok (.invokevirtual 32, 3) := by decide +kernel
theorem dX10_put_24 : decode cX10_put 24 = .ok (.return_, 1) := by decide +kernel
theorem dX10_takeOut_0 : decode cX10_takeOut 0 = .ok (.aload_n 0, 1) := by decide +kernel
theorem dX10_takeOut_1 : decode cX10_takeOut 1 = .ok (.getfield 12, 3) := by decide +kernel
theorem dX10_takeOut_4 : decode cX10_takeOut 4 = .ok (.invokevirtual 22, 3) := by decide +kernel
theorem dX10_takeOut_7 : decode cX10_takeOut 7 = .ok (.istore 4, 2) := by decide +kernel
theorem dX10_takeOut_9 : decode cX10_takeOut 9 = .ok (.iconst 0, 1) := by decide +kernel
theorem dX10_takeOut_10 : decode cX10_takeOut 10 = .ok (.istore 5, 2) := by decide +kernel
theorem dX10_takeOut_12 : decode cX10_takeOut 12 = .ok (.iload 5, 2) := by decide +kernel
theorem dX10_takeOut_14 : decode cX10_takeOut 14 = .ok (.aload_n 1, 1) := by decide +kernel
theorem dX10_takeOut_15 : decode cX10_takeOut 15 = .ok (.getfield 12, 3) := by decide +kernel
theorem dX10_takeOut_18 : decode cX10_takeOut 18 = .ok (.invokevirtual 22, 3) := by decide +kernel
theorem dX10_takeOut_21 : decode cX10_takeOut 21 = .ok (.if_icmp .ge 78, 3) := by decide +kernel
theorem dX10_takeOut_24 : decode cX10_takeOut 24 = .ok (.aload_n 1, 1) := by decide +kernel
theorem dX10_takeOut_25 : decode cX10_takeOut 25 = .ok (.getfield 12, 3) := by decide +kernel
theorem dX10_takeOut_28 : decode cX10_takeOut 28 = .ok (.iload 5, 2) := by decide +kernel
theorem dX10_takeOut_30 : decode cX10_takeOut 30 = .ok (.invokevirtual 26, 3) := by decide +kernel
theorem dX10_takeOut_33 : decode cX10_takeOut 33 = .ok (.checkcast 30, 3) := by decide +kernel
theorem dX10_takeOut_36 : decode cX10_takeOut 36 = .ok (.astore 6, 2) := by decide +kernel
theorem dX10_takeOut_38 : decode cX10_takeOut 38 = .ok (.aload_n 0, 1) := by decide +kernel
theorem dX10_takeOut_39 : decode cX10_takeOut 39 = .ok (.aload 6, 2) := by decide +kernel
theorem dX10_takeOut_41 : decode cX10_takeOut 41 = .ok (.getfield 36, 3) := by decide +kernel
theorem dX10_takeOut_44 : decode cX10_takeOut 44 = .ok (.invokevirtual 40, 3) := by decide +kernel
theorem dX10_takeOut_47 : decode cX10_takeOut 47 = .ok (.istore 7, 2) := by decide +kernel
theorem dX10_takeOut_49 : decode cX10_takeOut 49 = .ok (.iload 7, 2) := by decide +kernel
theorem dX10_takeOut_51 : decode cX10_takeOut 51 = .ok (.iconst (-1), 1) := by decide +kernel
theorem dX10_takeOut_52 : decode cX10_takeOut 52 = .ok (.if_icmp .eq 41, 3) := by decide +kernel
theorem dX10_takeOut_55 : decode cX10_takeOut 55 = .ok (.aload 6, 2) := by decide +kernel
theorem dX10_takeOut_57 : decode cX10_takeOut 57 = .ok (.aload_n 0, 1) := by decide +kernel
theorem dX10_takeOut_58 : decode cX10_takeOut 58 = .ok (.getfield 12, 3) := by decide +kernel
theorem dX10_takeOut_61 : decode cX10_takeOut 61 = .ok (.iload 7, 2) := by decide +kernel
theorem dX10_takeOut_63 : decode cX10_takeOut 63 = .ok (.invokevirtual 26, 3) := by decide +kernel
theorem dX10_takeOut_66 : decode cX10_takeOut 66 = .ok (.checkcast 30, 3) := by decide +kernel
theorem dX10_takeOut_69 : decode cX10_takeOut 69 = .ok (.aload_n 2, 1) := by decide +kernel
theorem dX10_takeOut_70 : decode cX10_takeOut 70 = .ok (.aload_n 3, 1) := by decide +kernel
theorem dX10_takeOut_71 : decode cX10_takeOut 71 = .ok (.invokevirtual 44, 3) := by decide +kernel
theorem dX10_takeOut_74 : decode cX10_takeOut 74 = .ok (.aload_n 0, 1) := by decide +kernel
theorem dX10_takeOut_75 : decode cX10_takeOut 75 = .ok (.getfield 12, 3) := by decide +kernel
theorem dX10_takeOut_78 : decode cX10_takeOut 78 = .ok (.iload 7, 2) := by decide +kernel
theorem dX10_takeOut_80 : decode cX10_takeOut 80 = .ok (.invokevirtual 48, 3) := by decide +kernel
theorem dX10_takeOut_83 : decode cX10_takeOut 83 = .ok (.pop, 1) := by decide +kernel
theorem dX10_takeOut_84 : decode cX10_takeOut 84 = .ok (.iload 4, 2) := by decide +kernel
theorem dX10_takeOut_86 : decode cX10_takeOut 86 = .ok (.iload 7, 2) := by decide +kernel
theorem dX10_takeOut_88 : decode cX10_takeOut 88 = .ok (.invokestatic 51, 3) := by decide +kernel
theorem dX10_takeOut_91 : decode cX10_takeOut 91 = .ok (.istore 4, 2) := by decide +kernel
theorem dX10_takeOut_93 : decode cX10_takeOut 93 = .ok (.iinc 5 1, 3) := by decide +kernel
theorem dX10_takeOut_96 : decode cX10_takeOut 96 = .ok (.goto (-84), 3) := by decide +kernel
theorem dX10_takeOut_99 : decode cX10_takeOut 99 = .ok (.iload 4, 2) := by decide +kernel
theorem dX10_takeOut_101 : decode cX10_takeOut 101 = .ok (.ireturn, 1) := by decide +kernel
theorem dX10_copyOf_0 : decode cX10_copyOf 0 = .ok (.new 13, 3) := by decide +kernel
theorem dX10_copyOf_3 : decode cX10_copyOf 3 = .ok (.dup, 1) := by decide +kernel
theorem dX10_copyOf_4 : decode cX10_copyOf 4 = .ok (.iconst (-1), 1) := by decide +kernel
theorem dX10_copyOf_5 : decode cX10_copyOf 5 = .ok (.invokespecial 57, 3) := by decide +kernel
theorem dX10_copyOf_8 : decode cX10_copyOf 8 = .ok (.astore_n 3, 1) := by decide +kernel
theorem dX10_copyOf_9 : decode cX10_copyOf 9 = .ok (.iload_n 1, 1) := by decide +kernel
theorem dX10_copyOf_10 : decode cX10_copyOf 10 = .ok (.iconst 0, 1) := by decide +kernel
theorem dX10_copyOf_11 : decode cX10_copyOf 11 = .ok (.invokestatic 60, 3) := by decide +kernel
theorem dX10_copyOf_14 : decode cX10_copyOf 14 = .ok (.istore 4, 2) := by decide +kernel
theorem dX10_copyOf_16 : decode cX10_copyOf 16 = .ok (.iload 4, 2) := by decide +kernel
theorem dX10_copyOf_18 : decode cX10_copyOf 18 = .ok (.iload_n 1, 1) := by decide +kernel
theorem dX10_copyOf_19 : decode cX10_copyOf 19 = .ok (.iload_n 2, 1) := by decide +kernel
theorem dX10_copyOf_20 : decode cX10_copyOf 20 = .ok (.iadd, 1) := by decide +kernel
theorem dX10_copyOf_21 : decode cX10_copyOf 21 = .ok (.if_icmp .ge 44, 3) := by decide +kernel
theorem dX10_copyOf_24 : decode cX10_copyOf 24 = .ok (.iload 4, 2) := by decide +kernel
theorem dX10_copyOf_26 : decode cX10_copyOf 26 = .ok (.aload_n 0, 1) := by decide +kernel
theorem dX10_copyOf_27 : decode cX10_copyOf 27 = .ok (.getfield 12, 3) := by decide +kernel
theorem dX10_copyOf_30 : decode cX10_copyOf 30 = .ok (.invokevirtual 22, 3) := by decide +kernel
theorem dX10_copyOf_33 : decode cX10_copyOf 33 = .ok (.if_icmp .ge 32, 3) := by decide +kernel
theorem dX10_copyOf_36 : decode cX10_copyOf 36 = .ok (.aload_n 3, 1) := by decide +kernel
theorem dX10_copyOf_37 : decode cX10_copyOf 37 = .ok (.getfield 12, 3) := by decide +kernel
theorem dX10_copyOf_40 : decode cX10_copyOf 40 = .ok (.aload_n 0, 1) := by decide +kernel
theorem dX10_copyOf_41 : decode cX10_copyOf 41 = .ok (.getfield 12, 3) := by decide +kernel
theorem dX10_copyOf_44 : decode cX10_copyOf 44 = .ok (.iload 4, 2) := by decide +kernel
theorem dX10_copyOf_46 : decode cX10_copyOf 46 = .ok (.invokevirtual 26, 3) := by decide +kernel
theorem dX10_copyOf_49 : decode cX10_copyOf 49 = .ok (.checkcast 30, 3) := by decide +kernel
theorem dX10_copyOf_52 : decode cX10_copyOf 52 = .ok (.invokevirtual 63, 3) := by decide +kernel
theorem dX10_copyOf_55 : decode cX10_copyOf 55 = .ok (.invokevirtual 67, 3) := by decide +kernel
theorem dX10_copyOf_58 : decode cX10_copyOf 58 = .ok (.pop, 1) := by decide +kernel
theorem dX10_copyOf_59 : decode cX10_copyOf 59 = .ok (.iinc 4 1, 3) := by decide +kernel
theorem dX10_copyOf_62 : decode cX10_copyOf 62 = .ok (.goto (-46), 3) := by decide +kernel
theorem dX10_copyOf_65 : decode cX10_copyOf 65 = .ok (.aload_n 3, 1) := by decide +kernel
theorem dX10_copyOf_66 : decode cX10_copyOf 66 = .ok (.areturn, 1) := by decide +kernel
theorem dX10_placeOf_0 : decode cX10_placeOf 0 = .ok (.iconst 0, 1) := by decide +kernel
theorem dX10_placeOf_1 : decode cX10_placeOf 1 = .ok (.istore_n 2, 1) := by decide +kernel
theorem dX10_placeOf_2 : decode cX10_placeOf 2 = .ok (.iload_n 2, 1) := by decide +kernel
theorem dX10_placeOf_3 : decode cX10_placeOf 3 = .ok (.aload_n 0, 1) := by decide +kernel
theorem dX10_placeOf_4 : decode cX10_placeOf 4 = .ok (.getfield 12, 3) := by decide +kernel
theorem dX10_placeOf_7 : decode cX10_placeOf 7 = .ok (.invokevirtual 22, 3) := by decide +kernel
theorem dX10_placeOf_10 : decode cX10_placeOf 10 = .ok (.if_icmp .ge 29, 3) := by decide +kernel
theorem dX10_placeOf_13 : decode cX10_placeOf 13 = .ok (.aload_n 0, 1) := by decide +kernel
theorem dX10_placeOf_14 : decode cX10_placeOf 14 = .ok (.getfield 12, 3) := by decide +kernel
theorem dX10_placeOf_17 : decode cX10_placeOf 17 = .ok (.iload_n 2, 1) := by decide +kernel
theorem dX10_placeOf_18 : decode cX10_placeOf 18 = .ok (.invokevirtual 26, 3) := by decide +kernel
theorem dX10_placeOf_21 : decode cX10_placeOf 21 = .ok (.checkcast 30, 3) := by decide +kernel
theorem dX10_placeOf_24 : decode cX10_placeOf 24 = .ok (.getfield 36, 3) := by decide +kernel
theorem dX10_placeOf_27 : decode cX10_placeOf 27 = .ok (.aload_n 1, 1) := by decide +kernel
theorem dX10_placeOf_28 : decode cX10_placeOf 28 = .ok (.if_acmp .ne 5, 3) := by decide +kernel
theorem dX10_placeOf_31 : decode cX10_placeOf 31 = .ok (.iload_n 2, 1) := by decide +kernel
theorem dX10_placeOf_32 : decode cX10_placeOf 32 = .ok (.ireturn, 1) := by decide +kernel
theorem dX10_placeOf_33 : decode cX10_placeOf 33 = .ok (.iinc 2 1, 3) := by decide +kernel
theorem dX10_placeOf_36 : decode cX10_placeOf 36 = .ok (.goto (-34), 3) := by decide +kernel
theorem dX10_placeOf_39 : decode cX10_placeOf 39 = .ok (.iconst (-1), 1) := by decide +kernel
theorem dX10_placeOf_40 : decode cX10_placeOf 40 = .ok (.ireturn, 1) := by decide +kernel
theorem dX10_holdingOf_0 : decode cX10_holdingOf 0 = .ok (.aload_n 0, 1) := by decide +kernel
theorem dX10_holdingOf_1 : decode cX10_holdingOf 1 = .ok (.aload_n 0, 1) := by decide +kernel
theorem dX10_holdingOf_2 : decode cX10_holdingOf 2 = .ok (.aload_n 1, 1) := by decide +kernel
theorem dX10_holdingOf_3 : decode cX10_holdingOf 3 = .ok (.invokevirtual 40, 3) := by decide +kernel
theorem dX10_holdingOf_6 : decode cX10_holdingOf 6 = .ok (.invokevirtual 70, 3) := by decide +kernel
theorem dX10_holdingOf_9 : decode cX10_holdingOf 9 = .ok (.areturn, 1) := by decide +kernel
theorem dX10_liveCount_0 : decode cX10_liveCount 0 = .ok (.iconst 0, 1) := by decide +kernel
theorem dX10_liveCount_1 : decode cX10_liveCount 1 = .ok (.istore_n 1, 1) := by decide +kernel
theorem dX10_liveCount_2 : decode cX10_liveCount 2 = .ok (.iconst 0, 1) := by decide +kernel
theorem dX10_liveCount_3 : decode cX10_liveCount 3 = .ok (.istore_n 2, 1) := by decide +kernel
theorem dX10_liveCount_4 : decode cX10_liveCount 4 = .ok (.iload_n 2, 1) := by decide +kernel
theorem dX10_liveCount_5 : decode cX10_liveCount 5 = .ok (.aload_n 0, 1) := by decide +kernel
theorem dX10_liveCount_6 : decode cX10_liveCount 6 = .ok (.getfield 12, 3) := by decide +kernel
theorem dX10_liveCount_9 : decode cX10_liveCount 9 = .ok (.invokevirtual 22, 3) := by decide +kernel
theorem dX10_liveCount_12 : decode cX10_liveCount 12 = .ok (.if_icmp .ge 26, 3) := by decide +kernel
theorem dX10_liveCount_15 : decode cX10_liveCount 15 = .ok (.iload_n 1, 1) := by decide +kernel
theorem dX10_liveCount_16 : decode cX10_liveCount 16 = .ok (.aload_n 0, 1) := by decide +kernel
theorem dX10_liveCount_17 : decode cX10_liveCount 17 = .ok (.getfield 12, 3) := by decide +kernel
theorem dX10_liveCount_20 : decode cX10_liveCount 20 = .ok (.iload_n 2, 1) := by decide +kernel
theorem dX10_liveCount_21 : decode cX10_liveCount 21 = .ok (.invokevirtual 26, 3) := by decide +kernel
theorem dX10_liveCount_24 : decode cX10_liveCount 24 = .ok (.checkcast 30, 3) := by decide +kernel
theorem dX10_liveCount_27 : decode cX10_liveCount 27 = .ok (.invokevirtual 74, 3) := by decide +kernel
theorem dX10_liveCount_30 : decode cX10_liveCount 30 = .ok (.iadd, 1) := by decide +kernel
theorem dX10_liveCount_31 : decode cX10_liveCount 31 = .ok (.istore_n 1, 1) := by decide +kernel
theorem dX10_liveCount_32 : decode cX10_liveCount 32 = .ok (.iinc 2 1, 3) := by decide +kernel
theorem dX10_liveCount_35 : decode cX10_liveCount 35 = .ok (.goto (-31), 3) := by decide +kernel
theorem dX10_liveCount_38 : decode cX10_liveCount 38 = .ok (.iload_n 1, 1) := by decide +kernel
theorem dX10_liveCount_39 : decode cX10_liveCount 39 = .ok (.ireturn, 1) := by decide +kernel
theorem dX10_liveDocument_0 : decode cX10_liveDocument 0 = .ok (.iconst 0, 1) := by decide +kernel
theorem dX10_liveDocument_1 : decode cX10_liveDocument 1 = .ok (.istore_n 2, 1) := by decide +kernel
theorem dX10_liveDocument_2 : decode cX10_liveDocument 2 = .ok (.iload_n 2, 1) := by decide +kernel
theorem dX10_liveDocument_3 : decode cX10_liveDocument 3 = .ok (.aload_n 0, 1) := by decide +kernel
theorem dX10_liveDocument_4 : decode cX10_liveDocument 4 = .ok (.getfield 12, 3) := by decide +kernel
theorem dX10_liveDocument_7 : decode cX10_liveDocument 7 = .ok (.invokevirtual 22, 3) := by decide +kernel
theorem dX10_liveDocument_10 : decode cX10_liveDocument 10 = .ok (.if_icmp .ge 55, 3) := by decide +kernel
theorem dX10_liveDocument_13 : decode cX10_liveDocument 13 = .ok (.aload_n 0, 1) := by decide +kernel
theorem dX10_liveDocument_14 : decode cX10_liveDocument 14 = .ok (.getfield 12, 3) := by decide +kernel
theorem dX10_liveDocument_17 : decode cX10_liveDocument 17 = .ok (.iload_n 2, 1) := by decide +kernel
theorem dX10_liveDocument_18 : decode cX10_liveDocument 18 = .ok (.invokevirtual 26, 3) := by decide +kernel
theorem dX10_liveDocument_21 : decode cX10_liveDocument 21 = .ok (.checkcast 30, 3) := by decide +kernel
theorem dX10_liveDocument_24 : decode cX10_liveDocument 24 = .ok (.iload_n 1, 1) := by decide +kernel
theorem dX10_liveDocument_25 : decode cX10_liveDocument 25 = .ok (.invokevirtual 77, 3) := by decide +kernel
theorem dX10_liveDocument_28 : decode cX10_liveDocument 28 = .ok (.istore_n 3, 1) := by decide +kernel
theorem dX10_liveDocument_29 : decode cX10_liveDocument 29 = .ok (.iload_n 3, 1) := by decide +kernel
theorem dX10_liveDocument_30 : decode cX10_liveDocument 30 = .ok (.iconst (-1), 1) := by decide +kernel
theorem dX10_liveDocument_31 : decode cX10_liveDocument 31 = .ok (.if_icmp .eq 28, 3) := by decide +kernel
theorem dX10_liveDocument_34 : decode cX10_liveDocument 34 = .ok (.aload_n 0, 1) := by decide +kernel
theorem dX10_liveDocument_35 : decode cX10_liveDocument 35 = .ok (.getfield 12, 3) := by decide +kernel
theorem dX10_liveDocument_38 : decode cX10_liveDocument 38 = .ok (.iload_n 2, 1) := by decide +kernel
theorem dX10_liveDocument_39 : decode cX10_liveDocument 39 = .ok (.invokevirtual 26, 3) := by decide +kernel
theorem dX10_liveDocument_42 : decode cX10_liveDocument 42 = .ok (.checkcast 30, 3) := by decide +kernel
theorem dX10_liveDocument_45 : decode cX10_liveDocument 45 = .ok (.getfield 36, 3) := by decide +kernel
theorem dX10_liveDocument_48 : decode cX10_liveDocument 48 = .ok (.getfield 81, 3) := by decide +kernel
theorem dX10_liveDocument_51 : decode cX10_liveDocument 51 = .ok (.iload_n 3, 1) := by decide +kernel
theorem dX10_liveDocument_52 : decode cX10_liveDocument 52 = .ok (.invokevirtual 26, 3) := by decide +kernel
theorem dX10_liveDocument_55 : decode cX10_liveDocument 55 = .ok (.checkcast 86, 3) := by decide +kernel
theorem dX10_liveDocument_58 : decode cX10_liveDocument 58 = .ok (.areturn, 1) := by decide +kernel
theorem dX10_liveDocument_59 : decode cX10_liveDocument 59 = .ok (.iinc 2 1, 3) := by decide +kernel
theorem dX10_liveDocument_62 : decode cX10_liveDocument 62 = .ok (.goto (-60), 3) := by decide +kernel
theorem dX10_liveDocument_65 : decode cX10_liveDocument 65 = .ok (.aconst_null, 1) := by decide +kernel
theorem dX10_liveDocument_66 : decode cX10_liveDocument 66 = .ok (.areturn, 1) := by decide +kernel
theorem dX10_kill_0 : decode cX10_kill 0 = .ok (.iconst 0, 1) := by decide +kernel
theorem dX10_kill_1 : decode cX10_kill 1 = .ok (.istore_n 2, 1) := by decide +kernel
theorem dX10_kill_2 : decode cX10_kill 2 = .ok (.iload_n 2, 1) := by decide +kernel
theorem dX10_kill_3 : decode cX10_kill 3 = .ok (.aload_n 0, 1) := by decide +kernel
theorem dX10_kill_4 : decode cX10_kill 4 = .ok (.getfield 12, 3) := by decide +kernel
theorem dX10_kill_7 : decode cX10_kill 7 = .ok (.invokevirtual 22, 3) := by decide +kernel
theorem dX10_kill_10 : decode cX10_kill 10 = .ok (.if_icmp .ge 29, 3) := by decide +kernel
theorem dX10_kill_13 : decode cX10_kill 13 = .ok (.aload_n 0, 1) := by decide +kernel
theorem dX10_kill_14 : decode cX10_kill 14 = .ok (.getfield 12, 3) := by decide +kernel
theorem dX10_kill_17 : decode cX10_kill 17 = .ok (.iload_n 2, 1) := by decide +kernel
theorem dX10_kill_18 : decode cX10_kill 18 = .ok (.invokevirtual 26, 3) := by decide +kernel
theorem dX10_kill_21 : decode cX10_kill 21 = .ok (.checkcast 30, 3) := by decide +kernel
theorem dX10_kill_24 : decode cX10_kill 24 = .ok (.iload_n 1, 1) := by decide +kernel
theorem dX10_kill_25 : decode cX10_kill 25 = .ok (.invokevirtual 88, 3) := by decide +kernel
theorem dX10_kill_28 : decode cX10_kill 28 = .ok (.ifCond .eq 5, 3) := by decide +kernel
theorem dX10_kill_31 : decode cX10_kill 31 = .ok (.iconst 1, 1) := by decide +kernel
theorem dX10_kill_32 : decode cX10_kill 32 = .ok (.ireturn, 1) := by decide +kernel
theorem dX10_kill_33 : decode cX10_kill 33 = .ok (.iinc 2 1, 3) := by decide +kernel
theorem dX10_kill_36 : decode cX10_kill 36 = .ok (.goto (-34), 3) := by decide +kernel
theorem dX10_kill_39 : decode cX10_kill 39 = .ok (.iconst 0, 1) := by decide +kernel
theorem dX10_kill_40 : decode cX10_kill 40 = .ok (.ireturn, 1) := by decide +kernel
theorem dX10_duePlace_0 : decode cX10_duePlace 0 = .ok (.iconst 0, 1) := by decide +kernel
theorem dX10_duePlace_1 : decode cX10_duePlace 1 = .ok (.istore_n 1, 1) := by decide +kernel
theorem dX10_duePlace_2 : decode cX10_duePlace 2 = .ok (.iload_n 1, 1) := by decide +kernel
theorem dX10_duePlace_3 : decode cX10_duePlace 3 = .ok (.iconst 3, 1) := by decide +kernel
theorem dX10_duePlace_4 : decode cX10_duePlace 4 = .ok (.iadd, 1) := by decide +kernel
theorem dX10_duePlace_5 : decode cX10_duePlace 5 = .ok (.aload_n 0, 1) := by decide +kernel
theorem dX10_duePlace_6 : decode cX10_duePlace 6 = .ok (.getfield 12, 3) := by decide +kernel
theorem dX10_duePlace_9 : decode cX10_duePlace 9 = .ok (.invokevirtual 22, 3) := by decide +kernel
theorem dX10_duePlace_12 : decode cX10_duePlace 12 = .ok (.if_icmp .gt 75, 3) := by decide +kernel
theorem dX10_duePlace_15 : decode cX10_duePlace 15 = .ok (.aload_n 0, 1) := by decide +kernel
theorem dX10_duePlace_16 : decode cX10_duePlace 16 = .ok (.getfield 12, 3) := by decide +kernel
theorem dX10_duePlace_19 : decode cX10_duePlace 19 = .ok (.iload_n 1, 1) := by decide +kernel
theorem dX10_duePlace_20 : decode cX10_duePlace 20 = .ok (.invokevirtual 26, 3) := by decide +kernel
theorem dX10_duePlace_23 : decode cX10_duePlace 23 = .ok (.checkcast 30, 3) := by decide +kernel
theorem dX10_duePlace_26 : decode cX10_duePlace 26 = .ok (.getfield 36, 3) := by decide +kernel
theorem dX10_duePlace_29 : decode cX10_duePlace 29 = .ok (.invokevirtual 92, 3) := by decide +kernel
theorem dX10_duePlace_32 : decode cX10_duePlace 32 = .ok (.istore_n 2, 1) := by decide +kernel
theorem dX10_duePlace_33 : decode cX10_duePlace 33 = .ok (.aload_n 0, 1) := by decide +kernel
theorem dX10_duePlace_34 : decode cX10_duePlace 34 = .ok (.getfield 12, 3) := by decide +kernel
theorem dX10_duePlace_37 : decode cX10_duePlace 37 = .ok (.iload_n 1, 1) := by decide +kernel
theorem dX10_duePlace_38 : decode cX10_duePlace 38 = .ok (.iconst 1, 1) := by decide +kernel
theorem dX10_duePlace_39 : decode cX10_duePlace 39 = .ok (.iadd, 1) := by decide +kernel
theorem dX10_duePlace_40 : decode cX10_duePlace 40 = .ok (.invokevirtual 26, 3) := by decide +kernel
theorem dX10_duePlace_43 : decode cX10_duePlace 43 = .ok (.checkcast 30, 3) := by decide +kernel
theorem dX10_duePlace_46 : decode cX10_duePlace 46 = .ok (.getfield 36, 3) := by decide +kernel
theorem dX10_duePlace_49 : decode cX10_duePlace 49 = .ok (.invokevirtual 92, 3) := by decide +kernel
theorem dX10_duePlace_52 : decode cX10_duePlace 52 = .ok (.iload_n 2, 1) := by decide +kernel
theorem dX10_duePlace_53 : decode cX10_duePlace 53 = .ok (.if_icmp .ne 28, 3) := by decide +kernel
theorem dX10_duePlace_56 : decode cX10_duePlace 56 = .ok (.aload_n 0, 1) := by decide +kernel
theorem dX10_duePlace_57 : decode cX10_duePlace 57 = .ok (.getfield 12, 3) := by decide +kernel
theorem dX10_duePlace_60 : decode cX10_duePlace 60 = .ok (.iload_n 1, 1) := by decide +kernel
theorem dX10_duePlace_61 : decode cX10_duePlace 61 = .ok (.iconst 2, 1) := by decide +kernel
theorem dX10_duePlace_62 : decode cX10_duePlace 62 = .ok (.iadd, 1) := by decide +kernel
theorem dX10_duePlace_63 : decode cX10_duePlace 63 = .ok (.invokevirtual 26, 3) := by decide +kernel
theorem dX10_duePlace_66 : decode cX10_duePlace 66 = .ok (.checkcast 30, 3) := by decide +kernel
theorem dX10_duePlace_69 : decode cX10_duePlace 69 = .ok (.getfield 36, 3) := by decide +kernel
theorem dX10_duePlace_72 : decode cX10_duePlace 72 = .ok (.invokevirtual 92, 3) := by decide +kernel
theorem dX10_duePlace_75 : decode cX10_duePlace 75 = .ok (.iload_n 2, 1) := by decide +kernel
theorem dX10_duePlace_76 : decode cX10_duePlace 76 = .ok (.if_icmp .ne 5, 3) := by decide +kernel
theorem dX10_duePlace_79 : decode cX10_duePlace 79 = .ok (.iload_n 1, 1) := by decide +kernel
theorem dX10_duePlace_80 : decode cX10_duePlace 80 = .ok (.ireturn, 1) := by decide +kernel
theorem dX10_duePlace_81 : decode cX10_duePlace 81 = .ok (.iinc 1 1, 3) := by decide +kernel
theorem dX10_duePlace_84 : decode cX10_duePlace 84 = .ok (.goto (-82), 3) := by decide +kernel
theorem dX10_duePlace_87 : decode cX10_duePlace 87 = .ok (.iconst (-1), 1) := by decide +kernel
theorem dX10_duePlace_88 : decode cX10_duePlace 88 = .ok (.ireturn, 1) := by decide +kernel
theorem dX10_changedSince_0 : decode cX10_changedSince 0 = .ok (.iconst 0, 1) := by decide +kernel
theorem dX10_changedSince_1 : decode cX10_changedSince 1 = .ok (.istore_n 2, 1) := by decide +kernel
theorem dX10_changedSince_2 : decode cX10_changedSince 2 = .ok (.iconst 0, 1) := by decide +kernel
theorem dX10_changedSince_3 : decode cX10_changedSince 3 = .ok (.istore_n 3, 1) := by decide +kernel
theorem dX10_changedSince_4 : decode cX10_changedSince 4 = .ok (.iload_n 3, 1) := by decide +kernel
theorem dX10_changedSince_5 : decode cX10_changedSince 5 = .ok (.aload_n 0, 1) := by decide +kernel
theorem dX10_changedSince_6 : decode cX10_changedSince 6 = .ok (.getfield 12, 3) := by decide +kernel
theorem dX10_changedSince_9 : decode cX10_changedSince 9 = .ok (.invokevirtual 22, 3) := by decide +kernel
theorem dX10_changedSince_12 : decode cX10_changedSince 12 = .ok (.if_icmp .ge 70, 3) := by decide +kernel
theorem dX10_changedSince_15 : decode cX10_changedSince 15 = .ok (.aload_n 0, 1) := by decide +kernel
theorem dX10_changedSince_16 : decode cX10_changedSince 16 = .ok (.getfield 12, 3) := by decide +kernel
theorem dX10_changedSince_19 : decode cX10_changedSince 19 = .ok (.iload_n 3, 1) := by decide +kernel
theorem dX10_changedSince_20 : decode cX10_changedSince 20 = .ok (.invokevirtual 26, 3) := by decide +kernel
theorem dX10_changedSince_23 : decode cX10_changedSince 23 = .ok (.checkcast 30, 3) := by decide +kernel
theorem dX10_changedSince_26 : decode cX10_changedSince 26 = .ok (.astore 4, 2) := by decide +kernel
theorem dX10_changedSince_28 : decode cX10_changedSince 28 = .ok (.aload_n 1, 1) := by decide +kernel
theorem dX10_changedSince_29 : decode cX10_changedSince 29 = .ok (.ifnonnull 7, 3) := by decide +kernel
theorem dX10_changedSince_32 : decode cX10_changedSince 32 = .ok (.aconst_null, 1) := by decide +kernel
theorem dX10_changedSince_33 : decode cX10_changedSince 33 = .ok (.goto 12, 3) := by decide +kernel
theorem dX10_changedSince_36 : decode cX10_changedSince 36 = .ok (.aload_n 1, 1) := by decide +kernel
theorem dX10_changedSince_37 : decode cX10_changedSince 37 = .ok (.aload 4, 2) := by decide +kernel
theorem dX10_changedSince_39 : decode cX10_changedSince 39 = .ok (.getfield 36, 3) := by decide +kernel
theorem dX10_changedSince_42 : decode cX10_changedSince 42 = .ok (.invokevirtual 95, 3) := by decide +kernel
theorem dX10_changedSince_45 : decode cX10_changedSince 45 = .ok (.astore 5, 2) := by decide +kernel
theorem dX10_changedSince_47 : decode cX10_changedSince 47 = .ok (.aload 5, 2) := by decide +kernel
theorem dX10_changedSince_49 : decode cX10_changedSince 49 = .ok (.ifnonnull 14, 3) := by decide +kernel
theorem dX10_changedSince_52 : decode cX10_changedSince 52 = .ok (.aload 4, 2) := by decide +kernel
theorem dX10_changedSince_54 : decode cX10_changedSince 54 = .ok (.invokevirtual 99, 3) := by decide +kernel
theorem dX10_changedSince_57 : decode cX10_changedSince 57 = .ok (.ifCond .eq 19, 3) := by decide +kernel
theorem dX10_changedSince_60 : decode cX10_changedSince 60 = .ok (.goto 13, 3) := by decide +kernel
theorem dX10_changedSince_63 : decode cX10_changedSince 63 = .ok (.aload 4, 2) := by decide +kernel
theorem dX10_changedSince_65 : decode cX10_changedSince 65 = .ok (.aload 5, 2) := by decide +kernel
theorem dX10_changedSince_67 : decode cX10_changedSince 67 = .ok (.invokevirtual 103, 3) := by decide +kernel
theorem dX10_changedSince_70 : decode cX10_changedSince 70 = .ok (.ifCond .ne 6, 3) := by decide +kernel
theorem dX10_changedSince_73 : decode cX10_changedSince 73 = .ok (.iinc 2 1, 3) := by decide +kernel
theorem dX10_changedSince_76 : decode cX10_changedSince 76 = .ok (.iinc 3 1, 3) := by decide +kernel
theorem dX10_changedSince_79 : decode cX10_changedSince 79 = .ok (.goto (-75), 3) := by decide +kernel
theorem dX10_changedSince_82 : decode cX10_changedSince 82 = .ok (.iload_n 2, 1) := by decide +kernel
theorem dX10_changedSince_83 : decode cX10_changedSince 83 = .ok (.ireturn, 1) := by decide +kernel
theorem dX10_newFiles_0 : decode cX10_newFiles 0 = .ok (.iconst 0, 1) := by decide +kernel
theorem dX10_newFiles_1 : decode cX10_newFiles 1 = .ok (.istore_n 2, 1) := by decide +kernel
theorem dX10_newFiles_2 : decode cX10_newFiles 2 = .ok (.iconst 0, 1) := by decide +kernel
theorem dX10_newFiles_3 : decode cX10_newFiles 3 = .ok (.istore_n 3, 1) := by decide +kernel
theorem dX10_newFiles_4 : decode cX10_newFiles 4 = .ok (.iload_n 3, 1) := by decide +kernel
theorem dX10_newFiles_5 : decode cX10_newFiles 5 = .ok (.aload_n 0, 1) := by decide +kernel
theorem dX10_newFiles_6 : decode cX10_newFiles 6 = .ok (.getfield 12, 3) := by decide +kernel
theorem dX10_newFiles_9 : decode cX10_newFiles 9 = .ok (.invokevirtual 22, 3) := by decide +kernel
theorem dX10_newFiles_12 : decode cX10_newFiles 12 = .ok (.if_icmp .ge 55, 3) := by decide +kernel
theorem dX10_newFiles_15 : decode cX10_newFiles 15 = .ok (.aload_n 0, 1) := by decide +kernel
theorem dX10_newFiles_16 : decode cX10_newFiles 16 = .ok (.getfield 12, 3) := by decide +kernel
theorem dX10_newFiles_19 : decode cX10_newFiles 19 = .ok (.iload_n 3, 1) := by decide +kernel
theorem dX10_newFiles_20 : decode cX10_newFiles 20 = .ok (.invokevirtual 26, 3) := by decide +kernel
theorem dX10_newFiles_23 : decode cX10_newFiles 23 = .ok (.checkcast 30, 3) := by decide +kernel
theorem dX10_newFiles_26 : decode cX10_newFiles 26 = .ok (.getfield 36, 3) := by decide +kernel
theorem dX10_newFiles_29 : decode cX10_newFiles 29 = .ok (.getfield 107, 3) := by decide +kernel
theorem dX10_newFiles_32 : decode cX10_newFiles 32 = .ok (.istore 4, 2) := by decide +kernel
theorem dX10_newFiles_34 : decode cX10_newFiles 34 = .ok (.iload 4, 2) := by decide +kernel
theorem dX10_newFiles_36 : decode cX10_newFiles 36 = .ok (.ifCond .lt 25, 3) := by decide +kernel
theorem dX10_newFiles_39 : decode cX10_newFiles 39 = .ok (.iload 4, 2) := by decide +kernel
theorem dX10_newFiles_41 : decode cX10_newFiles 41 = .ok (.aload_n 1, 1) := by decide +kernel
theorem dX10_newFiles_42 : decode cX10_newFiles 42 = .ok (.arraylength, 1) := by decide +kernel
theorem dX10_newFiles_43 : decode cX10_newFiles 43 = .ok (.if_icmp .ge 18, 3) := by decide +kernel
theorem dX10_newFiles_46 : decode cX10_newFiles 46 = .ok (.aload_n 1, 1) := by decide +kernel
theorem dX10_newFiles_47 : decode cX10_newFiles 47 = .ok (.iload 4, 2) := by decide +kernel
theorem dX10_newFiles_49 : decode cX10_newFiles 49 = .ok (.baload, 1) := by decide +kernel
theorem dX10_newFiles_50 : decode cX10_newFiles 50 = .ok (.ifCond .ne 11, 3) := by decide +kernel
theorem dX10_newFiles_53 : decode cX10_newFiles 53 = .ok (.aload_n 1, 1) := by decide +kernel
theorem dX10_newFiles_54 : decode cX10_newFiles 54 = .ok (.iload 4, 2) := by decide +kernel
theorem dX10_newFiles_56 : decode cX10_newFiles 56 = .ok (.iconst 1, 1) := by decide +kernel
theorem dX10_newFiles_57 : decode cX10_newFiles 57 = .ok (.bastore, 1) := by decide +kernel
theorem dX10_newFiles_58 : decode cX10_newFiles 58 = .ok (.iinc 2 1, 3) := by decide +kernel
theorem dX10_newFiles_61 : decode cX10_newFiles 61 = .ok (.iinc 3 1, 3) := by decide +kernel
theorem dX10_newFiles_64 : decode cX10_newFiles 64 = .ok (.goto (-60), 3) := by decide +kernel
theorem dX10_newFiles_67 : decode cX10_newFiles 67 = .ok (.iload_n 2, 1) := by decide +kernel
theorem dX10_newFiles_68 : decode cX10_newFiles 68 = .ok (.ireturn, 1) := by decide +kernel
theorem dX10_deletionFiles_0 : decode cX10_deletionFiles 0 = .ok (.iconst 0, 1) := by decide +kernel
theorem dX10_deletionFiles_1 : decode cX10_deletionFiles 1 = .ok (.istore_n 2, 1) := by decide +kernel
theorem dX10_deletionFiles_2 : decode cX10_deletionFiles 2 = .ok (.iconst 0, 1) := by decide +kernel
theorem dX10_deletionFiles_3 : decode cX10_deletionFiles 3 = .ok (.istore_n 3, 1) := by decide +kernel
theorem dX10_deletionFiles_4 : decode cX10_deletionFiles 4 = .ok (.iload_n 3, 1) := by decide +kernel
theorem dX10_deletionFiles_5 : decode cX10_deletionFiles 5 = .ok (.aload_n 0, 1) := by decide +kernel
theorem dX10_deletionFiles_6 : decode cX10_deletionFiles 6 = .ok (.getfield 12, 3) := by decide +kernel
theorem dX10_deletionFiles_9 : decode cX10_deletionFiles 9 = .ok (.invokevirtual 22, 3) := by decide +kernel
theorem dX10_deletionFiles_12 : decode cX10_deletionFiles 12 = .ok (.if_icmp .ge 67, 3) := by decide +kernel
theorem dX10_deletionFiles_15 : decode cX10_deletionFiles 15 = .ok (.aload_n 0, 1) := by decide +kernel
theorem dX10_deletionFiles_16 : decode cX10_deletionFiles 16 = .ok (.getfield 12, 3) := by decide +kernel
theorem dX10_deletionFiles_19 : decode cX10_deletionFiles 19 = .ok (.iload_n 3, 1) := by decide +kernel
theorem dX10_deletionFiles_20 : decode cX10_deletionFiles 20 = .ok (.invokevirtual 26, 3) := by decide +kernel
theorem dX10_deletionFiles_23 : decode cX10_deletionFiles 23 = .ok (.checkcast 30, 3) := by decide +kernel
theorem dX10_deletionFiles_26 : decode cX10_deletionFiles 26 = .ok (.astore 4, 2) := by decide +kernel
theorem dX10_deletionFiles_28 : decode cX10_deletionFiles 28 = .ok (.aload_n 1, 1) := by decide +kernel
theorem dX10_deletionFiles_29 : decode cX10_deletionFiles 29 = .ok (.ifnonnull 7, 3) := by decide +kernel
theorem dX10_deletionFiles_32 : decode cX10_deletionFiles 32 = .ok (.aconst_null, 1) := by decide +kernel
theorem dX10_deletionFiles_33 : decode cX10_deletionFiles 33 = .ok (.goto 12, 3) := by decide +kernel
theorem dX10_deletionFiles_36 : decode cX10_deletionFiles 36 = .ok (.aload_n 1, 1) := by decide +kernel
theorem dX10_deletionFiles_37 : decode cX10_deletionFiles 37 = .ok (.aload 4, 2) := by decide +kernel
theorem dX10_deletionFiles_39 : decode cX10_deletionFiles 39 = .ok (.getfield 36, 3) := by decide +kernel
theorem dX10_deletionFiles_42 : decode cX10_deletionFiles 42 = .ok (.invokevirtual 95, 3) := by decide +kernel
theorem dX10_deletionFiles_45 : decode cX10_deletionFiles 45 = .ok (.astore 5, 2) := by decide +kernel
theorem dX10_deletionFiles_47 : decode cX10_deletionFiles 47 = .ok (.aload 4, 2) := by decide +kernel
theorem dX10_deletionFiles_49 : decode cX10_deletionFiles 49 = .ok (.invokevirtual 99, 3) := by decide +kernel
theorem dX10_deletionFiles_52 : decode cX10_deletionFiles 52 = .ok (.ifCond .eq 21, 3) := by decide +kernel
theorem dX10_deletionFiles_55 : decode cX10_deletionFiles 55 = .ok (.aload 5, 2) := by decide +kernel
theorem dX10_deletionFiles_57 : decode cX10_deletionFiles 57 = .ok (.ifnull 13, 3) := by decide +kernel
theorem dX10_deletionFiles_60 : decode cX10_deletionFiles 60 = .ok (.aload 4, 2) := by decide +kernel
theorem dX10_deletionFiles_62 : decode cX10_deletionFiles 62 = .ok (.aload 5, 2) := by decide +kernel
theorem dX10_deletionFiles_64 : decode cX10_deletionFiles 64 = .ok (.invokevirtual 103, 3) := by decide +kernel
theorem dX10_deletionFiles_67 : decode cX10_deletionFiles 67 = .ok (.ifCond .ne 6, 3) := by decide +kernel
theorem dX10_deletionFiles_70 : decode cX10_deletionFiles 70 = .ok (.iinc 2 1, 3) := by decide +kernel
theorem dX10_deletionFiles_73 : decode cX10_deletionFiles 73 = .ok (.iinc 3 1, 3) := by decide +kernel
theorem dX10_deletionFiles_76 : decode cX10_deletionFiles 76 = .ok (.goto (-72), 3) := by decide +kernel
theorem dX10_deletionFiles_79 : decode cX10_deletionFiles 79 = .ok (.iload_n 2, 1) := by decide +kernel
theorem dX10_deletionFiles_80 : decode cX10_deletionFiles 80 = .ok (.ireturn, 1) := by decide +kernel
theorem dX11_type_0 : decode cX11_type 0 = .ok (.iload_n 1, 1) := by decide +kernel
theorem dX11_type_1 : decode cX11_type 1 = .ok (.bipush 32, 2) := by decide +kernel
theorem dX11_type_3 : decode cX11_type 3 = .ok (.if_icmp .lt 9, 3) := by decide +kernel
theorem dX11_type_6 : decode cX11_type 6 = .ok (.iload_n 1, 1) := by decide +kernel
theorem dX11_type_7 : decode cX11_type 7 = .ok (.bipush 126, 2) := by decide +kernel
theorem dX11_type_9 : decode cX11_type 9 = .ok (.if_icmp .le 13, 3) := by decide +kernel
theorem dX11_type_12 : decode cX11_type 12 = .ok (.new 100, 3) := by decide +kernel
theorem dX11_type_15 : decode cX11_type 15 = .ok (.dup, 1) := by decide +kernel
theorem dX11_type_16 : decode cX11_type 16 = .ok (.ldc 102, 2) := by decide +kernel
theorem dX11_type_18 : decode cX11_type 18 = .ok (.invokespecial 104, 3) := by decide +kernel
theorem dX11_type_21 : decode cX11_type 21 = .ok (.athrow, 1) := by decide +kernel
theorem dX11_type_22 : decode cX11_type 22 = .ok (.aload_n 0, 1) := by decide +kernel
theorem dX11_type_23 : decode cX11_type 23 = .ok (.getfield 10, 3) := by decide +kernel
theorem dX11_type_26 : decode cX11_type 26 = .ok (.getfield 107, 3) := by decide +kernel
theorem dX11_type_29 : decode cX11_type 29 = .ok (.getfield 111, 3) := by decide +kernel
theorem dX11_type_32 : decode cX11_type 32 = .ok (.bipush 40, 2) := by decide +kernel
theorem dX11_type_34 : decode cX11_type 34 = .ok (.if_icmp .lt 13, 3) := by decide +kernel
theorem dX11_type_37 : decode cX11_type 37 = .ok (.new 116, 3) := by decide +kernel
theorem dX11_type_40 : decode cX11_type 40 = .ok (.dup, 1) := by decide +kernel
theorem dX11_type_41 : decode cX11_type 41 = .ok (.ldc 118, 2) := by decide +kernel
theorem dX11_type_43 : decode cX11_type 43 = .ok (.invokespecial 120, 3) := by decide +kernel
theorem dX11_type_46 : decode cX11_type 46 = .ok (.athrow, 1) := by decide +kernel
theorem dX11_type_47 : decode cX11_type 47 = .ok (.aload_n 0, 1) := by decide +kernel
theorem dX11_type_48 : decode cX11_type 48 = .ok (.getfield 10, 3) := by decide +kernel
theorem dX11_type_51 : decode cX11_type 51 = .ok (.getfield 107, 3) := by decide +kernel
theorem dX11_type_54 : decode cX11_type 54 = .ok (.iload_n 1, 1) := by decide +kernel
theorem dX11_type_55 : decode cX11_type 55 = .ok (.invokevirtual 121, 3) := by decide +kernel
theorem dX11_type_58 : decode cX11_type 58 = .ok (.ireturn, 1) := by decide +kernel
theorem dX11_stop_0 : decode cX11_stop 0 = .ok (.aload_n 0, 1) := by decide +kernel
theorem dX11_stop_1 : decode cX11_stop 1 = .ok (.getfield 10, 3) := by decide +kernel
theorem dX11_stop_4 : decode cX11_stop 4 = .ok (.invokevirtual 129, 3) := by decide +kernel
theorem dX11_stop_7 : decode cX11_stop 7 = .ok (.iconst 1, 1) := by decide +kernel
theorem dX11_stop_8 : decode cX11_stop 8 = .ok (.if_icmp .ne 25, 3) := by decide +kernel
theorem dX11_stop_11 : decode cX11_stop 11 = .ok (.aload_n 0, 1) := by decide +kernel
theorem dX11_stop_12 : decode cX11_stop 12 = .ok (.getfield 10, 3) := by decide +kernel
theorem dX11_stop_15 : decode cX11_stop 15 = .ok (.getfield 133, 3) := by decide +kernel
theorem dX11_stop_18 : decode cX11_stop 18 = .ok (.bipush 10, 2) := by decide +kernel
theorem dX11_stop_20 : decode cX11_stop 20 = .ok (.if_icmp .ge 13, 3) := by decide +kernel
theorem dX11_stop_23 : decode cX11_stop 23 = .ok (.aload_n 0, 1) := by decide +kernel
theorem dX11_stop_24 : decode cX11_stop 24 = .ok (.getfield 10, 3) := by decide +kernel
theorem dX11_stop_27 : decode cX11_stop 27 = .ok (.getfield 136, 3) := by decide +kernel
theorem dX11_stop_30 : decode cX11_stop 30 = .ok (.ifCond .eq 13, 3) := by decide +kernel
theorem dX11_stop_33 : decode cX11_stop 33 = .ok (.new 116, 3) := by decide +kernel
theorem dX11_stop_36 : decode cX11_stop 36 = .ok (.dup, 1) := by decide +kernel
theorem dX11_stop_37 : decode cX11_stop 37 = .ok (.ldc 139, 2) := by decide +kernel
theorem dX11_stop_39 : decode cX11_stop 39 = .ok (.invokespecial 120, 3) := by decide +kernel
theorem dX11_stop_42 : decode cX11_stop 42 = .ok (.athrow, 1) := by decide +kernel
theorem dX11_stop_43 : decode cX11_stop 43 = .ok (.aload_n 0, 1) := by decide +kernel
theorem dX11_stop_44 : decode cX11_stop 44 = .ok (.getfield 10, 3) := by decide +kernel
theorem dX11_stop_47 : decode cX11_stop 47 = .ok (.invokevirtual 141, 3) := by decide +kernel
theorem dX11_stop_50 : decode cX11_stop 50 = .ok (.ireturn, 1) := by decide +kernel
theorem dX11_synonym_0 : decode cX11_synonym 0 = .ok (.aload_n 0, 1) := by decide +kernel
theorem dX11_synonym_1 : decode cX11_synonym 1 = .ok (.getfield 10, 3) := by decide +kernel
theorem dX11_synonym_4 : decode cX11_synonym 4 = .ok (.invokevirtual 129, 3) := by decide +kernel
theorem dX11_synonym_7 : decode cX11_synonym 7 = .ok (.iconst 2, 1) := by decide +kernel
theorem dX11_synonym_8 : decode cX11_synonym 8 = .ok (.if_icmp .ne 25, 3) := by decide +kernel
theorem dX11_synonym_11 : decode cX11_synonym 11 = .ok (.aload_n 0, 1) := by decide +kernel
theorem dX11_synonym_12 : decode cX11_synonym 12 = .ok (.getfield 10, 3) := by decide +kernel
theorem dX11_synonym_15 : decode cX11_synonym 15 = .ok (.getfield 144, 3) := by decide +kernel
theorem dX11_synonym_18 : decode cX11_synonym 18 = .ok (.bipush 10, 2) := by decide +kernel
theorem dX11_synonym_20 : decode cX11_synonym 20 = .ok (.if_icmp .ge 13, 3) := by decide +kernel
theorem dX11_synonym_23 : decode cX11_synonym 23 = .ok (.aload_n 0, 1) := by decide +kernel
theorem dX11_synonym_24 : decode cX11_synonym 24 = .ok (.getfield 10, 3) := by decide +kernel
theorem dX11_synonym_27 : decode cX11_synonym 27 = .ok (.getfield 136, 3) := by decide +kernel
theorem dX11_synonym_30 : decode cX11_synonym 30 = .ok (.ifCond .eq 13, 3) := by decide +kernel
theorem dX11_synonym_33 : decode cX11_synonym 33 = .ok (.new 116, 3) := by decide +kernel
theorem dX11_synonym_36 : decode cX11_synonym 36 = .ok (.dup, 1) := by decide +kernel
theorem dX11_synonym_37 : decode cX11_synonym 37 = .ok (.ldc 147, 2) := by decide +kernel
theorem dX11_synonym_39 : decode cX11_synonym 39 = .ok (.invokespecial 120, 3) := by decide +kernel
theorem dX11_synonym_42 : decode cX11_synonym 42 = .ok (.athrow, 1) := by decide +kernel
theorem dX11_synonym_43 : decode cX11_synonym 43 = .ok (.aload_n 0, 1) := by decide +kernel
theorem dX11_synonym_44 : decode cX11_synonym 44 = .ok (.getfield 10, 3) := by decide +kernel
theorem dX11_synonym_47 : decode cX11_synonym 47 = .ok (.invokevirtual 149, 3) := by decide +kernel
theorem dX11_synonym_50 : decode cX11_synonym 50 = .ok (.ireturn, 1) := by decide +kernel
theorem dX11_text_0 : decode cX11_text 0 = .ok (.iload_n 1, 1) := by decide +kernel
theorem dX11_text_1 : decode cX11_text 1 = .ok (.invokestatic 152, 3) := by decide +kernel
theorem dX11_text_4 : decode cX11_text 4 = .ok (.aload_n 0, 1) := by decide +kernel
theorem dX11_text_5 : decode cX11_text 5 = .ok (.getfield 10, 3) := by decide +kernel
theorem dX11_text_8 : decode cX11_text 8 = .ok (.invokevirtual 125, 3) := by decide +kernel
theorem dX11_text_11 : decode cX11_text 11 = .ok (.astore_n 2, 1) := by decide +kernel
theorem dX11_text_12 : decode cX11_text 12 = .ok (.aload_n 0, 1) := by decide +kernel
theorem dX11_text_13 : decode cX11_text 13 = .ok (.getfield 10, 3) := by decide +kernel
theorem dX11_text_16 : decode cX11_text 16 = .ok (.aload_n 2, 1) := by decide +kernel
theorem dX11_text_17 : decode cX11_text 17 = .ok (.iconst 1, 1) := by decide +kernel
theorem dX11_text_18 : decode cX11_text 18 = .ok (.invokevirtual 155, 3) := by decide +kernel
theorem dX11_text_21 : decode cX11_text 21 = .ok (.aload_n 0, 1) := by decide +kernel
theorem dX11_text_22 : decode cX11_text 22 = .ok (.getfield 19, 3) := by decide +kernel
theorem dX11_text_25 : decode cX11_text 25 = .ok (.iload_n 1, 1) := by decide +kernel
theorem dX11_text_26 : decode cX11_text 26 = .ok (.aload_n 2, 1) := by decide +kernel
theorem dX11_text_27 : decode cX11_text 27 = .ok (.invokevirtual 159, 3) := by decide +kernel
theorem dX11_text_30 : decode cX11_text 30 = .ok (.aload_n 2, 1) := by decide +kernel
theorem dX11_text_31 : decode cX11_text 31 = .ok (.getfield 163, 3) := by decide +kernel
theorem dX11_text_34 : decode cX11_text 34 = .ok (.ireturn, 1) := by decide +kernel
theorem dX11_columns_0 : decode cX11_columns 0 = .ok (.iload_n 1, 1) := by decide +kernel
theorem dX11_columns_1 : decode cX11_columns 1 = .ok (.ifCond .lt 20, 3) := by decide +kernel
theorem dX11_columns_4 : decode cX11_columns 4 = .ok (.iload_n 1, 1) := by decide +kernel
theorem dX11_columns_5 : decode cX11_columns 5 = .ok (.bipush 9, 2) := by decide +kernel
theorem dX11_columns_7 : decode cX11_columns 7 = .ok (.if_icmp .gt 14, 3) := by decide +kernel
theorem dX11_columns_10 : decode cX11_columns 10 = .ok (.iload_n 2, 1) := by decide +kernel
theorem dX11_columns_11 : decode cX11_columns 11 = .ok (.ifCond .lt 10, 3) := by decide +kernel
theorem dX11_columns_14 : decode cX11_columns 14 = .ok (.iload_n 2, 1) := by decide +kernel
theorem dX11_columns_15 : decode cX11_columns 15 = .ok (.sipush 999, 3) := by decide +kernel
theorem dX11_columns_18 : decode cX11_columns 18 = .ok (.if_icmp .le 13, 3) := by decide +kernel
theorem dX11_columns_21 : decode cX11_columns 21 = .ok (.new 100, 3) := by decide +kernel
theorem dX11_columns_24 : decode cX11_columns 24 = .ok (.dup, 1) := by decide +kernel
theorem dX11_columns_25 : decode cX11_columns 25 = .ok (.ldc 166, 2) := by decide +kernel
theorem dX11_columns_27 : decode cX11_columns 27 = .ok (.invokespecial 104, 3) := by decide +kernel
theorem dX11_columns_30 : decode cX11_columns 30 = .ok (.athrow, 1) := by decide +kernel
theorem dX11_columns_31 : decode cX11_columns 31 = .ok (.aload_n 0, 1) := by decide +kernel
theorem dX11_columns_32 : decode cX11_columns 32 = .ok (.getfield 19, 3) := by decide +kernel
theorem dX11_columns_35 : decode cX11_columns 35 = .ok (.iload_n 1, 1) := by decide +kernel
theorem dX11_columns_36 : decode cX11_columns 36 = .ok (.putfield 168, 3) := by decide +kernel
theorem dX11_columns_39 : decode cX11_columns 39 = .ok (.aload_n 0, 1) := by decide +kernel
theorem dX11_columns_40 : decode cX11_columns 40 = .ok (.getfield 19, 3) := by decide +kernel
theorem dX11_columns_43 : decode cX11_columns 43 = .ok (.iload_n 2, 1) := by decide +kernel
theorem dX11_columns_44 : decode cX11_columns 44 = .ok (.putfield 171, 3) := by decide +kernel
theorem dX11_columns_47 : decode cX11_columns 47 = .ok (.return_, 1) := by decide +kernel
theorem dX11_add_0 : decode cX11_add 0 = .ok (.iload_n 1, 1) := by decide +kernel
theorem dX11_add_1 : decode cX11_add 1 = .ok (.invokestatic 174, 3) := by decide +kernel
theorem dX11_add_4 : decode cX11_add 4 = .ok (.aload_n 0, 1) := by decide +kernel
theorem dX11_add_5 : decode cX11_add 5 = .ok (.invokevirtual 177, 3) := by decide +kernel
theorem dX11_add_8 : decode cX11_add 8 = .ok (.aload_n 0, 1) := by decide +kernel
theorem dX11_add_9 : decode cX11_add 9 = .ok (.getfield 26, 3) := by decide +kernel
theorem dX11_add_12 : decode cX11_add 12 = .ok (.invokevirtual 180, 3) := by decide +kernel
theorem dX11_add_15 : decode cX11_add 15 = .ok (.bipush 12, 2) := by decide +kernel
theorem dX11_add_17 : decode cX11_add 17 = .ok (.if_icmp .lt 22, 3) := by decide +kernel
theorem dX11_add_20 : decode cX11_add 20 = .ok (.aload_n 0, 1) := by decide +kernel
theorem dX11_add_21 : decode cX11_add 21 = .ok (.iload_n 1, 1) := by decide +kernel
theorem dX11_add_22 : decode cX11_add 22 = .ok (.invokevirtual 183, 3) := by decide +kernel
theorem dX11_add_25 : decode cX11_add 25 = .ok (.iconst (-1), 1) := by decide +kernel
theorem dX11_add_26 : decode cX11_add 26 = .ok (.if_icmp .ne 13, 3) := by decide +kernel
theorem dX11_add_29 : decode cX11_add 29 = .ok (.new 116, 3) := by decide +kernel
theorem dX11_add_32 : decode cX11_add 32 = .ok (.dup, 1) := by decide +kernel
theorem dX11_add_33 : decode cX11_add 33 = .ok (.ldc 187, 2) := by decide +kernel
theorem dX11_add_35 : decode cX11_add 35 = .ok (.invokespecial 120, 3) := by decide +kernel
theorem dX11_add_38 : decode cX11_add 38 = .ok (.athrow, 1) := by decide +kernel
theorem dX11_add_39 : decode cX11_add 39 = .ok (.aload_n 0, 1) := by decide +kernel
theorem dX11_add_40 : decode cX11_add 40 = .ok (.iload_n 1, 1) := by decide +kernel
theorem dX11_add_41 : decode cX11_add 41 = .ok (.invokevirtual 189, 3) := by decide +kernel
theorem dX11_add_44 : decode cX11_add 44 = .ok (.pop, 1) := by decide +kernel
theorem dX11_add_45 : decode cX11_add 45 = .ok (.aload_n 0, 1) := by decide +kernel
theorem dX11_add_46 : decode cX11_add 46 = .ok (.getfield 10, 3) := by decide +kernel
theorem dX11_add_49 : decode cX11_add 49 = .ok (.iconst 1, 1) := by decide +kernel
theorem dX11_add_50 : decode cX11_add 50 = .ok (.putfield 136, 3) := by decide +kernel
theorem dX11_add_53 : decode cX11_add 53 = .ok (.aload_n 0, 1) := by decide +kernel
theorem dX11_add_54 : decode cX11_add 54 = .ok (.getfield 19, 3) := by decide +kernel
theorem dX11_add_57 : decode cX11_add 57 = .ok (.iload_n 1, 1) := by decide +kernel
theorem dX11_add_58 : decode cX11_add 58 = .ok (.putfield 193, 3) := by decide +kernel
theorem dX11_add_61 : decode cX11_add 61 = .ok (.aload_n 0, 1) := by decide +kernel
theorem dX11_add_62 : decode cX11_add 62 = .ok (.getfield 10, 3) := by decide +kernel
theorem dX11_add_65 : decode cX11_add 65 = .ok (.aload_n 0, 1) := by decide +kernel
theorem dX11_add_66 : decode cX11_add 66 = .ok (.getfield 19, 3) := by decide +kernel
theorem dX11_add_69 : decode cX11_add 69 = .ok (.iconst 0, 1) := by decide +kernel
theorem dX11_add_70 : decode cX11_add 70 = .ok (.invokevirtual 196, 3) := by decide +kernel
theorem dX11_add_73 : decode cX11_add 73 = .ok (.iconst 1, 1) := by decide +kernel
theorem dX11_add_74 : decode cX11_add 74 = .ok (.invokevirtual 155, 3) := by decide +kernel
theorem dX11_add_77 : decode cX11_add 77 = .ok (.aload_n 0, 1) := by decide +kernel
theorem dX11_add_78 : decode cX11_add 78 = .ok (.getfield 10, 3) := by decide +kernel
theorem dX11_add_81 : decode cX11_add 81 = .ok (.aload_n 0, 1) := by decide +kernel
theorem dX11_add_82 : decode cX11_add 82 = .ok (.getfield 19, 3) := by decide +kernel
theorem dX11_add_85 : decode cX11_add 85 = .ok (.iconst 1, 1) := by decide +kernel
theorem dX11_add_86 : decode cX11_add 86 = .ok (.invokevirtual 196, 3) := by decide +kernel
theorem dX11_add_89 : decode cX11_add 89 = .ok (.iconst 1, 1) := by decide +kernel
theorem dX11_add_90 : decode cX11_add 90 = .ok (.invokevirtual 155, 3) := by decide +kernel
theorem dX11_add_93 : decode cX11_add 93 = .ok (.aload_n 0, 1) := by decide +kernel
theorem dX11_add_94 : decode cX11_add 94 = .ok (.getfield 26, 3) := by decide +kernel
theorem dX11_add_97 : decode cX11_add 97 = .ok (.aload_n 0, 1) := by decide +kernel
theorem dX11_add_98 : decode cX11_add 98 = .ok (.getfield 19, 3) := by decide +kernel
theorem dX11_add_101 : decode cX11_add 101 = .ok (.invokevirtual 200, 3) := by decide +kernel
theorem dX11_add_104 : decode cX11_add 104 = .ok (.pop, 1) := by decide +kernel
theorem dX11_add_105 : decode cX11_add 105 = .ok (.aload_n 0, 1) := by decide +kernel
theorem dX11_add_106 : decode cX11_add 106 = .ok (.new 16, 3) := by decide +kernel
theorem dX11_add_109 : decode cX11_add 109 = .ok (.dup, 1) := by decide +kernel
theorem dX11_add_110 : decode cX11_add 110 = .ok (.invokespecial 18, 3) := by decide +kernel
theorem dX11_add_113 : decode cX11_add 113 = .ok (.putfield 19, 3) := by decide +kernel
theorem dX11_add_116 : decode cX11_add 116 = .ok (.aload_n 0, 1) := by decide +kernel
theorem dX11_add_117 : decode cX11_add 117 = .ok (.getfield 26, 3) := by decide +kernel
theorem dX11_add_120 : decode cX11_add 120 = .ok (.invokevirtual 180, 3) := by decide +kernel
theorem dX11_add_123 : decode cX11_add 123 = .ok (.ireturn, 1) := by decide +kernel
theorem dX11_delete_0 : decode cX11_delete 0 = .ok (.iload_n 1, 1) := by decide +kernel
theorem dX11_delete_1 : decode cX11_delete 1 = .ok (.invokestatic 174, 3) := by decide +kernel
theorem dX11_delete_4 : decode cX11_delete 4 = .ok (.aload_n 0, 1) := by decide +kernel
theorem dX11_delete_5 : decode cX11_delete 5 = .ok (.invokevirtual 177, 3) := by decide +kernel
theorem dX11_delete_8 : decode cX11_delete 8 = .ok (.aload_n 0, 1) := by decide +kernel
theorem dX11_delete_9 : decode cX11_delete 9 = .ok (.iload_n 1, 1) := by decide +kernel
theorem dX11_delete_10 : decode cX11_delete 10 = .ok (.invokevirtual 189, 3) := by decide +kernel
theorem dX11_delete_13 : decode cX11_delete 13 = .ok (.ireturn, 1) := by decide +kernel
theorem dX11_flush_0 : decode cX11_flush 0 = .ok (.aload_n 0, 1) := by decide +kernel
theorem dX11_flush_1 : decode cX11_flush 1 = .ok (.invokevirtual 177, 3) := by decide +kernel
theorem dX11_flush_4 : decode cX11_flush 4 = .ok (.aload_n 0, 1) := by decide +kernel
theorem dX11_flush_5 : decode cX11_flush 5 = .ok (.getfield 84, 3) := by decide +kernel
theorem dX11_flush_8 : decode cX11_flush 8 = .ok (.sipush 200, 3) := by decide +kernel
theorem dX11_flush_11 : decode cX11_flush 11 = .ok (.if_icmp .lt 13, 3) := by decide +kernel
theorem dX11_flush_14 : decode cX11_flush 14 = .ok (.new 116, 3) := by decide +kernel
theorem dX11_flush_17 : decode cX11_flush 17 = .ok (.dup, 1) := by decide +kernel
theorem dX11_flush_18 : decode cX11_flush 18 = .ok (.ldc 204, 2) := by decide +kernel
theorem dX11_flush_20 : decode cX11_flush 20 = .ok (.invokespecial 120, 3) := by decide +kernel
theorem dX11_flush_23 : decode cX11_flush 23 = .ok (.athrow, 1) := by decide +kernel
theorem dX11_flush_24 : decode cX11_flush 24 = .ok (.aload_n 0, 1) := by decide +kernel
theorem dX11_flush_25 : decode cX11_flush 25 = .ok (.getfield 26, 3) := by decide +kernel
theorem dX11_flush_28 : decode cX11_flush 28 = .ok (.invokevirtual 206, 3) := by decide +kernel
theorem dX11_flush_31 : decode cX11_flush 31 = .ok (.ifCond .eq 5, 3) := by decide +kernel
theorem dX11_flush_34 : decode cX11_flush 34 = .ok (.iconst (-1), 1) := by decide +kernel
theorem dX11_flush_35 : decode cX11_flush 35 = .ok (.ireturn, 1) := by decide +kernel
theorem dX11_flush_36 : decode cX11_flush 36 = .ok (.aload_n 0, 1) := by decide +kernel
theorem dX11_flush_37 : decode cX11_flush 37 = .ok (.invokevirtual 210, 3) := by decide +kernel
theorem dX11_flush_40 : decode cX11_flush 40 = .ok (.ireturn, 1) := by decide +kernel
theorem dX11_due_0 : decode cX11_due 0 = .ok (.aload_n 0, 1) := by decide +kernel
theorem dX11_due_1 : decode cX11_due 1 = .ok (.invokevirtual 177, 3) := by decide +kernel
theorem dX11_due_4 : decode cX11_due 4 = .ok (.aload_n 0, 1) := by decide +kernel
theorem dX11_due_5 : decode cX11_due 5 = .ok (.getfield 35, 3) := by decide +kernel
theorem dX11_due_8 : decode cX11_due 8 = .ok (.invokevirtual 213, 3) := by decide +kernel
theorem dX11_due_11 : decode cX11_due 11 = .ok (.ireturn, 1) := by decide +kernel
theorem dX11_merge_0 : decode cX11_merge 0 = .ok (.aload_n 0, 1) := by decide +kernel
theorem dX11_merge_1 : decode cX11_merge 1 = .ok (.invokevirtual 177, 3) := by decide +kernel
theorem dX11_merge_4 : decode cX11_merge 4 = .ok (.aload_n 0, 1) := by decide +kernel
theorem dX11_merge_5 : decode cX11_merge 5 = .ok (.getfield 35, 3) := by decide +kernel
theorem dX11_merge_8 : decode cX11_merge 8 = .ok (.invokevirtual 213, 3) := by decide +kernel
theorem dX11_merge_11 : decode cX11_merge 11 = .ok (.istore_n 1, 1) := by decide +kernel
theorem dX11_merge_12 : decode cX11_merge 12 = .ok (.iload_n 1, 1) := by decide +kernel
theorem dX11_merge_13 : decode cX11_merge 13 = .ok (.iconst (-1), 1) := by decide +kernel
theorem dX11_merge_14 : decode cX11_merge 14 = .ok (.if_icmp .eq 20, 3) := by decide +kernel
theorem dX11_merge_17 : decode cX11_merge 17 = .ok (.aload_n 0, 1) := by decide +kernel
theorem dX11_merge_18 : decode cX11_merge 18 = .ok (.getfield 39, 3) := by decide +kernel
theorem dX11_merge_21 : decode cX11_merge 21 = .ok (.ifnonnull 13, 3) := by decide +kernel
theorem dX11_merge_24 : decode cX11_merge 24 = .ok (.aload_n 0, 1) := by decide +kernel
theorem dX11_merge_25 : decode cX11_merge 25 = .ok (.getfield 84, 3) := by decide +kernel
theorem dX11_merge_28 : decode cX11_merge 28 = .ok (.sipush 200, 3) := by decide +kernel
theorem dX11_merge_31 : decode cX11_merge 31 = .ok (.if_icmp .lt 13, 3) := by decide +kernel
theorem dX11_merge_34 : decode cX11_merge 34 = .ok (.new 116, 3) := by decide +kernel
theorem dX11_merge_37 : decode cX11_merge 37 = .ok (.dup, 1) := by decide +kernel
theorem dX11_merge_38 : decode cX11_merge 38 = .ok (.ldc 216, 2) := by decide +kernel
theorem dX11_merge_40 : decode cX11_merge 40 = .ok (.invokespecial 120, 3) := by decide +kernel
theorem dX11_merge_43 : decode cX11_merge 43 = .ok (.athrow, 1) := by decide +kernel
theorem dX11_merge_44 : decode cX11_merge 44 = .ok (.aload_n 0, 1) := by decide +kernel
theorem dX11_merge_45 : decode cX11_merge 45 = .ok (.aload_n 0, 1) := by decide +kernel
theorem dX11_merge_46 : decode cX11_merge 46 = .ok (.getfield 35, 3) := by decide +kernel
theorem dX11_merge_49 : decode cX11_merge 49 = .ok (.iload_n 1, 1) := by decide +kernel
theorem dX11_merge_50 : decode cX11_merge 50 = .ok (.iconst 3, 1) := by decide +kernel
theorem dX11_merge_51 : decode cX11_merge 51 = .ok (.invokevirtual 218, 3) := by decide +kernel
theorem dX11_merge_54 : decode cX11_merge 54 = .ok (.putfield 39, 3) := by decide +kernel
theorem dX11_merge_57 : decode cX11_merge 57 = .ok (.aload_n 0, 1) := by decide +kernel
theorem dX11_merge_58 : decode cX11_merge 58 = .ok (.iconst 0, 1) := by decide +kernel
theorem dX11_merge_59 : decode cX11_merge 59 = .ok (.putfield 42, 3) := by decide +kernel
theorem dX11_merge_62 : decode cX11_merge 62 = .ok (.aload_n 0, 1) := by decide +kernel
theorem dX11_merge_63 : decode cX11_merge 63 = .ok (.getfield 39, 3) := by decide +kernel
theorem dX11_merge_66 : decode cX11_merge 66 = .ok (.invokevirtual 222, 3) := by decide +kernel
theorem dX11_merge_69 : decode cX11_merge 69 = .ok (.ireturn, 1) := by decide +kernel
theorem dX11_step_0 : decode cX11_step 0 = .ok (.aload_n 0, 1) := by decide +kernel
theorem dX11_step_1 : decode cX11_step 1 = .ok (.invokevirtual 177, 3) := by decide +kernel
theorem dX11_step_4 : decode cX11_step 4 = .ok (.aload_n 0, 1) := by decide +kernel
theorem dX11_step_5 : decode cX11_step 5 = .ok (.getfield 39, 3) := by decide +kernel
theorem dX11_step_8 : decode cX11_step 8 = .ok (.astore_n 1, 1) := by decide +kernel
theorem dX11_step_9 : decode cX11_step 9 = .ok (.aload_n 1, 1) := by decide +kernel
theorem dX11_step_10 : decode cX11_step 10 = .ok (.ifnonnull 13, 3) := by decide +kernel
theorem dX11_step_13 : decode cX11_step 13 = .ok (.new 116, 3) := by decide +kernel
theorem dX11_step_16 : decode cX11_step 16 = .ok (.dup, 1) := by decide +kernel
theorem dX11_step_17 : decode cX11_step 17 = .ok (.ldc 225, 2) := by decide +kernel
theorem dX11_step_19 : decode cX11_step 19 = .ok (.invokespecial 120, 3) := by decide +kernel
theorem dX11_step_22 : decode cX11_step 22 = .ok (.athrow, 1) := by decide +kernel
theorem dX11_step_23 : decode cX11_step 23 = .ok (.aload_n 0, 1) := by decide +kernel
theorem dX11_step_24 : decode cX11_step 24 = .ok (.invokevirtual 227, 3) := by decide +kernel
theorem dX11_step_27 : decode cX11_step 27 = .ok (.ifCond .ne 6, 3) := by decide +kernel
theorem dX11_step_30 : decode cX11_step 30 = .ok (.bipush (-2), 2) := by decide +kernel
theorem dX11_step_32 : decode cX11_step 32 = .ok (.ireturn, 1) := by decide +kernel
theorem dX11_step_33 : decode cX11_step 33 = .ok (.aload_n 1, 1) := by decide +kernel
theorem dX11_step_34 : decode cX11_step 34 = .ok (.invokevirtual 222, 3) := by decide +kernel
theorem dX11_step_37 : decode cX11_step 37 = .ok (.istore_n 2, 1) := by decide +kernel
theorem dX11_step_38 : decode cX11_step 38 = .ok (.aload_n 0, 1) := by decide +kernel
theorem dX11_step_39 : decode cX11_step 39 = .ok (.getfield 42, 3) := by decide +kernel
theorem dX11_step_42 : decode cX11_step 42 = .ok (.iload_n 2, 1) := by decide +kernel
theorem dX11_step_43 : decode cX11_step 43 = .ok (.if_icmp .ge 20, 3) := by decide +kernel
theorem dX11_step_46 : decode cX11_step 46 = .ok (.aload_n 0, 1) := by decide +kernel
theorem dX11_step_47 : decode cX11_step 47 = .ok (.dup, 1) := by decide +kernel
theorem dX11_step_48 : decode cX11_step 48 = .ok (.getfield 42, 3) := by decide +kernel
theorem dX11_step_51 : decode cX11_step 51 = .ok (.iconst 1, 1) := by decide +kernel
theorem dX11_step_52 : decode cX11_step 52 = .ok (.iadd, 1) := by decide +kernel
theorem dX11_step_53 : decode cX11_step 53 = .ok (.putfield 42, 3) := by decide +kernel
theorem dX11_step_56 : decode cX11_step 56 = .ok (.iload_n 2, 1) := by decide +kernel
theorem dX11_step_57 : decode cX11_step 57 = .ok (.aload_n 0, 1) := by decide +kernel
theorem dX11_step_58 : decode cX11_step 58 = .ok (.getfield 42, 3) := by decide +kernel
theorem dX11_step_61 : decode cX11_step 61 = .ok (.isub, 1) := by decide +kernel
theorem dX11_step_62 : decode cX11_step 62 = .ok (.ireturn, 1) := by decide +kernel
theorem dX11_step_63 : decode cX11_step 63 = .ok (.aload_n 0, 1) := by decide +kernel
theorem dX11_step_64 : decode cX11_step 64 = .ok (.aload_n 1, 1) := by decide +kernel
theorem dX11_step_65 : decode cX11_step 65 = .ok (.invokevirtual 230, 3) := by decide +kernel
theorem dX11_step_68 : decode cX11_step 68 = .ok (.iconst (-1), 1) := by decide +kernel
theorem dX11_step_69 : decode cX11_step 69 = .ok (.ireturn, 1) := by decide +kernel
theorem dX11_giveUp_0 : decode cX11_giveUp 0 = .ok (.aload_n 0, 1) := by decide +kernel
theorem dX11_giveUp_1 : decode cX11_giveUp 1 = .ok (.invokevirtual 177, 3) := by decide +kernel
theorem dX11_giveUp_4 : decode cX11_giveUp 4 = .ok (.aload_n 0, 1) := by decide +kernel
theorem dX11_giveUp_5 : decode cX11_giveUp 5 = .ok (.getfield 39, 3) := by decide +kernel
theorem dX11_giveUp_8 : decode cX11_giveUp 8 = .ok (.ifnonnull 13, 3) := by decide +kernel
theorem dX11_giveUp_11 : decode cX11_giveUp 11 = .ok (.new 116, 3) := by decide +kernel
theorem dX11_giveUp_14 : decode cX11_giveUp 14 = .ok (.dup, 1) := by decide +kernel
theorem dX11_giveUp_15 : decode cX11_giveUp 15 = .ok (.ldc 225, 2) := by decide +kernel
theorem dX11_giveUp_17 : decode cX11_giveUp 17 = .ok (.invokespecial 120, 3) := by decide +kernel
theorem dX11_giveUp_20 : decode cX11_giveUp 20 = .ok (.athrow, 1) := by decide +kernel
theorem dX11_giveUp_21 : decode cX11_giveUp 21 = .ok (.aload_n 0, 1) := by decide +kernel
theorem dX11_giveUp_22 : decode cX11_giveUp 22 = .ok (.getfield 42, 3) := by decide +kernel
theorem dX11_giveUp_25 : decode cX11_giveUp 25 = .ok (.istore_n 1, 1) := by decide +kernel
theorem dX11_giveUp_26 : decode cX11_giveUp 26 = .ok (.aload_n 0, 1) := by decide +kernel
theorem dX11_giveUp_27 : decode cX11_giveUp 27 = .ok (.aconst_null, 1) := by decide +kernel
theorem dX11_giveUp_28 : decode cX11_giveUp 28 = .ok (.putfield 39, 3) := by decide +kernel
theorem dX11_giveUp_31 : decode cX11_giveUp 31 = .ok (.aload_n 0, 1) := by decide +kernel
theorem dX11_giveUp_32 : decode cX11_giveUp 32 = .ok (.iconst 0, 1) := by decide +kernel
theorem dX11_giveUp_33 : decode cX11_giveUp 33 = .ok (.putfield 42, 3) := by decide +kernel
theorem dX11_giveUp_36 : decode cX11_giveUp 36 = .ok (.iload_n 1, 1) := by decide +kernel
theorem dX11_giveUp_37 : decode cX11_giveUp 37 = .ok (.ireturn, 1) := by decide +kernel
theorem dX11_prepare_0 : decode cX11_prepare 0 = .ok (.aload_n 0, 1) := by decide +kernel
theorem dX11_prepare_1 : decode cX11_prepare 1 = .ok (.invokevirtual 177, 3) := by decide +kernel
theorem dX11_prepare_4 : decode cX11_prepare 4 = .ok (.aload_n 0, 1) := by decide +kernel
theorem dX11_prepare_5 : decode cX11_prepare 5 = .ok (.getfield 49, 3) := by decide +kernel
theorem dX11_prepare_8 : decode cX11_prepare 8 = .ok (.ifnonnull 23, 3) := by decide +kernel
theorem dX11_prepare_11 : decode cX11_prepare 11 = .ok (.aload_n 0, 1) := by decide +kernel
theorem dX11_prepare_12 : decode cX11_prepare 12 = .ok (.getfield 84, 3) := by decide +kernel
theorem dX11_prepare_15 : decode cX11_prepare 15 = .ok (.sipush 200, 3) := by decide +kernel
theorem dX11_prepare_18 : decode cX11_prepare 18 = .ok (.if_icmp .lt 23, 3) := by decide +kernel
theorem dX11_prepare_21 : decode cX11_prepare 21 = .ok (.aload_n 0, 1) := by decide +kernel
theorem dX11_prepare_22 : decode cX11_prepare 22 = .ok (.getfield 26, 3) := by decide +kernel
theorem dX11_prepare_25 : decode cX11_prepare 25 = .ok (.invokevirtual 206, 3) := by decide +kernel
theorem dX11_prepare_28 : decode cX11_prepare 28 = .ok (.ifCond .ne 13, 3) := by decide +kernel
theorem dX11_prepare_31 : decode cX11_prepare 31 = .ok (.new 116, 3) := by decide +kernel
theorem dX11_prepare_34 : decode cX11_prepare 34 = .ok (.dup, 1) := by decide +kernel
theorem dX11_prepare_35 : decode cX11_prepare 35 = .ok (.ldc 234, 2) := by decide +kernel
theorem dX11_prepare_37 : decode cX11_prepare 37 = .ok (.invokespecial 120, 3) := by decide +kernel
theorem dX11_prepare_40 : decode cX11_prepare 40 = .ok (.athrow, 1) := by decide +kernel
theorem dX11_prepare_41 : decode cX11_prepare 41 = .ok (.aload_n 0, 1) := by decide +kernel
theorem dX11_prepare_42 : decode cX11_prepare 42 = .ok (.getfield 26, 3) := by decide +kernel
theorem dX11_prepare_45 : decode cX11_prepare 45 = .ok (.invokevirtual 206, 3) := by decide +kernel
theorem dX11_prepare_48 : decode cX11_prepare 48 = .ok (.ifCond .ne 15, 3) := by decide +kernel
theorem dX11_prepare_51 : decode cX11_prepare 51 = .ok (.aload_n 0, 1) := by decide +kernel
theorem dX11_prepare_52 : decode cX11_prepare 52 = .ok (.invokevirtual 210, 3) := by decide +kernel
theorem dX11_prepare_55 : decode cX11_prepare 55 = .ok (.bipush (-2), 2) := by decide +kernel
theorem dX11_prepare_57 : decode cX11_prepare 57 = .ok (.if_icmp .ne 6, 3) := by decide +kernel
theorem dX11_prepare_60 : decode cX11_prepare 60 = .ok (.bipush (-2), 2) := by decide +kernel
theorem dX11_prepare_62 : decode cX11_prepare 62 = .ok (.ireturn, 1) := by decide +kernel
theorem dX11_prepare_63 : decode cX11_prepare 63 = .ok (.aload_n 0, 1) := by decide +kernel
theorem dX11_prepare_64 : decode cX11_prepare 64 = .ok (.getfield 35, 3) := by decide +kernel
theorem dX11_prepare_67 : decode cX11_prepare 67 = .ok (.aload_n 0, 1) := by decide +kernel
theorem dX11_prepare_68 : decode cX11_prepare 68 = .ok (.getfield 46, 3) := by decide +kernel
theorem dX11_prepare_71 : decode cX11_prepare 71 = .ok (.invokevirtual 236, 3) := by decide +kernel
theorem dX11_prepare_74 : decode cX11_prepare 74 = .ok (.istore_n 1, 1) := by decide +kernel
theorem dX11_prepare_75 : decode cX11_prepare 75 = .ok (.iconst 0, 1) := by decide +kernel
theorem dX11_prepare_76 : decode cX11_prepare 76 = .ok (.istore_n 2, 1) := by decide +kernel
theorem dX11_prepare_77 : decode cX11_prepare 77 = .ok (.iload_n 2, 1) := by decide +kernel
theorem dX11_prepare_78 : decode cX11_prepare 78 = .ok (.iload_n 1, 1) := by decide +kernel
theorem dX11_prepare_79 : decode cX11_prepare 79 = .ok (.if_icmp .gt 19, 3) := by decide +kernel
theorem dX11_prepare_82 : decode cX11_prepare 82 = .ok (.aload_n 0, 1) := by decide +kernel
theorem dX11_prepare_83 : decode cX11_prepare 83 = .ok (.invokevirtual 227, 3) := by decide +kernel
theorem dX11_prepare_86 : decode cX11_prepare 86 = .ok (.ifCond .ne 6, 3) := by decide +kernel
theorem dX11_prepare_89 : decode cX11_prepare 89 = .ok (.bipush (-2), 2) := by decide +kernel
theorem dX11_prepare_91 : decode cX11_prepare 91 = .ok (.ireturn, 1) := by decide +kernel
theorem dX11_prepare_92 : decode cX11_prepare 92 = .ok (.iinc 2 1, 3) := by decide +kernel
theorem dX11_prepare_95 : decode cX11_prepare 95 = .ok (.goto (-18), 3) := by decide +kernel
theorem dX11_prepare_98 : decode cX11_prepare 98 = .ok (.aload_n 0, 1) := by decide +kernel
theorem dX11_prepare_99 : decode cX11_prepare 99 = .ok (.aload_n 0, 1) := by decide +kernel
theorem dX11_prepare_100 : decode cX11_prepare 100 = .ok (.getfield 35, 3) := by decide +kernel
theorem dX11_prepare_103 : decode cX11_prepare 103 = .ok (.iconst 0, 1) := by decide +kernel
theorem dX11_prepare_104 : decode cX11_prepare 104 = .ok (.aload_n 0, 1) := by decide +kernel
theorem dX11_prepare_105 : decode cX11_prepare 105 = .ok (.getfield 35, 3) := by decide +kernel
theorem dX11_prepare_108 : decode cX11_prepare 108 = .ok (.invokevirtual 240, 3) := by decide +kernel
theorem dX11_prepare_111 : decode cX11_prepare 111 = .ok (.invokevirtual 218, 3) := by decide +kernel
theorem dX11_prepare_114 : decode cX11_prepare 114 = .ok (.putfield 49, 3) := by decide +kernel
theorem dX11_prepare_117 : decode cX11_prepare 117 = .ok (.aload_n 0, 1) := by decide +kernel
theorem dX11_prepare_118 : decode cX11_prepare 118 = .ok (.getfield 49, 3) := by decide +kernel
theorem dX11_prepare_121 : decode cX11_prepare 121 = .ok (.invokevirtual 240, 3) := by decide +kernel
theorem dX11_prepare_124 : decode cX11_prepare 124 = .ok (.ireturn, 1) := by decide +kernel
theorem dX11_finish_0 : decode cX11_finish 0 = .ok (.aload_n 0, 1) := by decide +kernel
theorem dX11_finish_1 : decode cX11_finish 1 = .ok (.invokevirtual 177, 3) := by decide +kernel
theorem dX11_finish_4 : decode cX11_finish 4 = .ok (.aload_n 0, 1) := by decide +kernel
theorem dX11_finish_5 : decode cX11_finish 5 = .ok (.getfield 49, 3) := by decide +kernel
theorem dX11_finish_8 : decode cX11_finish 8 = .ok (.astore_n 1, 1) := by decide +kernel
theorem dX11_finish_9 : decode cX11_finish 9 = .ok (.aload_n 1, 1) := by decide +kernel
theorem dX11_finish_10 : decode cX11_finish 10 = .ok (.ifnonnull 13, 3) := by decide +kernel
theorem dX11_finish_13 : decode cX11_finish 13 = .ok (.new 116, 3) := by decide +kernel
theorem dX11_finish_16 : decode cX11_finish 16 = .ok (.dup, 1) := by decide +kernel
theorem dX11_finish_17 : decode cX11_finish 17 = .ok (.ldc 241, 2) := by decide +kernel
theorem dX11_finish_19 : decode cX11_finish 19 = .ok (.invokespecial 120, 3) := by decide +kernel
theorem dX11_finish_22 : decode cX11_finish 22 = .ok (.athrow, 1) := by decide +kernel
theorem dX11_finish_23 : decode cX11_finish 23 = .ok (.aload_n 0, 1) := by decide +kernel
theorem dX11_finish_24 : decode cX11_finish 24 = .ok (.invokevirtual 227, 3) := by decide +kernel
theorem dX11_finish_27 : decode cX11_finish 27 = .ok (.ifCond .ne 6, 3) := by decide +kernel
theorem dX11_finish_30 : decode cX11_finish 30 = .ok (.bipush (-2), 2) := by decide +kernel
theorem dX11_finish_32 : decode cX11_finish 32 = .ok (.ireturn, 1) := by decide +kernel
theorem dX11_finish_33 : decode cX11_finish 33 = .ok (.aload_n 0, 1) := by decide +kernel
theorem dX11_finish_34 : decode cX11_finish 34 = .ok (.aload_n 1, 1) := by decide +kernel
theorem dX11_finish_35 : decode cX11_finish 35 = .ok (.putfield 46, 3) := by decide +kernel
theorem dX11_finish_38 : decode cX11_finish 38 = .ok (.aload_n 0, 1) := by decide +kernel
theorem dX11_finish_39 : decode cX11_finish 39 = .ok (.aconst_null, 1) := by decide +kernel
theorem dX11_finish_40 : decode cX11_finish 40 = .ok (.putfield 49, 3) := by decide +kernel
theorem dX11_finish_43 : decode cX11_finish 43 = .ok (.aload_n 0, 1) := by decide +kernel
theorem dX11_finish_44 : decode cX11_finish 44 = .ok (.dup, 1) := by decide +kernel
theorem dX11_finish_45 : decode cX11_finish 45 = .ok (.getfield 87, 3) := by decide +kernel
theorem dX11_finish_48 : decode cX11_finish 48 = .ok (.iconst 1, 1) := by decide +kernel
theorem dX11_finish_49 : decode cX11_finish 49 = .ok (.iadd, 1) := by decide +kernel
theorem dX11_finish_50 : decode cX11_finish 50 = .ok (.putfield 87, 3) := by decide +kernel
theorem dX11_finish_53 : decode cX11_finish 53 = .ok (.aload_n 0, 1) := by decide +kernel
theorem dX11_finish_54 : decode cX11_finish 54 = .ok (.getfield 87, 3) := by decide +kernel
theorem dX11_finish_57 : decode cX11_finish 57 = .ok (.ireturn, 1) := by decide +kernel
theorem dX11_drop_0 : decode cX11_drop 0 = .ok (.aload_n 0, 1) := by decide +kernel
theorem dX11_drop_1 : decode cX11_drop 1 = .ok (.invokevirtual 177, 3) := by decide +kernel
theorem dX11_drop_4 : decode cX11_drop 4 = .ok (.aload_n 0, 1) := by decide +kernel
theorem dX11_drop_5 : decode cX11_drop 5 = .ok (.getfield 49, 3) := by decide +kernel
theorem dX11_drop_8 : decode cX11_drop 8 = .ok (.ifnonnull 13, 3) := by decide +kernel
theorem dX11_drop_11 : decode cX11_drop 11 = .ok (.new 116, 3) := by decide +kernel
theorem dX11_drop_14 : decode cX11_drop 14 = .ok (.dup, 1) := by decide +kernel
theorem dX11_drop_15 : decode cX11_drop 15 = .ok (.ldc 241, 2) := by decide +kernel
theorem dX11_drop_17 : decode cX11_drop 17 = .ok (.invokespecial 120, 3) := by decide +kernel
theorem dX11_drop_20 : decode cX11_drop 20 = .ok (.athrow, 1) := by decide +kernel
theorem dX11_drop_21 : decode cX11_drop 21 = .ok (.aload_n 0, 1) := by decide +kernel
theorem dX11_drop_22 : decode cX11_drop 22 = .ok (.aconst_null, 1) := by decide +kernel
theorem dX11_drop_23 : decode cX11_drop 23 = .ok (.putfield 49, 3) := by decide +kernel
theorem dX11_drop_26 : decode cX11_drop 26 = .ok (.return_, 1) := by decide +kernel
theorem dX11_crashAt_0 : decode cX11_crashAt 0 = .ok (.iload_n 1, 1) := by decide +kernel
theorem dX11_crashAt_1 : decode cX11_crashAt 1 = .ok (.ifCond .lt 10, 3) := by decide +kernel
theorem dX11_crashAt_4 : decode cX11_crashAt 4 = .ok (.iload_n 1, 1) := by decide +kernel
theorem dX11_crashAt_5 : decode cX11_crashAt 5 = .ok (.sipush 1000, 3) := by decide +kernel
theorem dX11_crashAt_8 : decode cX11_crashAt 8 = .ok (.if_icmp .le 13, 3) := by decide +kernel
theorem dX11_crashAt_11 : decode cX11_crashAt 11 = .ok (.new 100, 3) := by decide +kernel
theorem dX11_crashAt_14 : decode cX11_crashAt 14 = .ok (.dup, 1) := by decide +kernel
theorem dX11_crashAt_15 : decode cX11_crashAt 15 = .ok (.ldc 243, 2) := by decide +kernel
theorem dX11_crashAt_17 : decode cX11_crashAt 17 = .ok (.invokespecial 104, 3) := by decide +kernel
theorem dX11_crashAt_20 : decode cX11_crashAt 20 = .ok (.athrow, 1) := by decide +kernel
theorem dX11_crashAt_21 : decode cX11_crashAt 21 = .ok (.aload_n 0, 1) := by decide +kernel
theorem dX11_crashAt_22 : decode cX11_crashAt 22 = .ok (.invokevirtual 177, 3) := by decide +kernel
theorem dX11_crashAt_25 : decode cX11_crashAt 25 = .ok (.aload_n 0, 1) := by decide +kernel
theorem dX11_crashAt_26 : decode cX11_crashAt 26 = .ok (.iload_n 1, 1) := by decide +kernel
theorem dX11_crashAt_27 : decode cX11_crashAt 27 = .ok (.putfield 93, 3) := by decide +kernel
theorem dX11_crashAt_30 : decode cX11_crashAt 30 = .ok (.return_, 1) := by decide +kernel
theorem dX11_open_0 : decode cX11_open 0 = .ok (.aload_n 0, 1) := by decide +kernel
theorem dX11_open_1 : decode cX11_open 1 = .ok (.getfield 96, 3) := by decide +kernel
theorem dX11_open_4 : decode cX11_open 4 = .ok (.ifCond .ne 13, 3) := by decide +kernel
theorem dX11_open_7 : decode cX11_open 7 = .ok (.new 116, 3) := by decide +kernel
theorem dX11_open_10 : decode cX11_open 10 = .ok (.dup, 1) := by decide +kernel
theorem dX11_open_11 : decode cX11_open 11 = .ok (.ldc 245, 2) := by decide +kernel
theorem dX11_open_13 : decode cX11_open 13 = .ok (.invokespecial 120, 3) := by decide +kernel
theorem dX11_open_16 : decode cX11_open 16 = .ok (.athrow, 1) := by decide +kernel
theorem dX11_open_17 : decode cX11_open 17 = .ok (.aload_n 0, 1) := by decide +kernel
theorem dX11_open_18 : decode cX11_open 18 = .ok (.iconst 0, 1) := by decide +kernel
theorem dX11_open_19 : decode cX11_open 19 = .ok (.putfield 96, 3) := by decide +kernel
theorem dX11_open_22 : decode cX11_open 22 = .ok (.aload_n 0, 1) := by decide +kernel
theorem dX11_open_23 : decode cX11_open 23 = .ok (.iconst (-1), 1) := by decide +kernel
theorem dX11_open_24 : decode cX11_open 24 = .ok (.putfield 93, 3) := by decide +kernel
theorem dX11_open_27 : decode cX11_open 27 = .ok (.aload_n 0, 1) := by decide +kernel
theorem dX11_open_28 : decode cX11_open 28 = .ok (.aload_n 0, 1) := by decide +kernel
theorem dX11_open_29 : decode cX11_open 29 = .ok (.invokevirtual 247, 3) := by decide +kernel
theorem dX11_open_32 : decode cX11_open 32 = .ok (.putfield 35, 3) := by decide +kernel
theorem dX11_open_35 : decode cX11_open 35 = .ok (.aload_n 0, 1) := by decide +kernel
theorem dX11_open_36 : decode cX11_open 36 = .ok (.getfield 35, 3) := by decide +kernel
theorem dX11_open_39 : decode cX11_open 39 = .ok (.invokevirtual 240, 3) := by decide +kernel
theorem dX11_open_42 : decode cX11_open 42 = .ok (.ireturn, 1) := by decide +kernel
theorem dX11_isDown_0 : decode cX11_isDown 0 = .ok (.aload_n 0, 1) := by decide +kernel
theorem dX11_isDown_1 : decode cX11_isDown 1 = .ok (.getfield 96, 3) := by decide +kernel
theorem dX11_isDown_4 : decode cX11_isDown 4 = .ok (.ireturn, 1) := by decide +kernel
theorem dX11_files_0 : decode cX11_files 0 = .ok (.aload_n 0, 1) := by decide +kernel
theorem dX11_files_1 : decode cX11_files 1 = .ok (.invokevirtual 177, 3) := by decide +kernel
theorem dX11_files_4 : decode cX11_files 4 = .ok (.aload_n 0, 1) := by decide +kernel
theorem dX11_files_5 : decode cX11_files 5 = .ok (.invokevirtual 251, 3) := by decide +kernel
theorem dX11_files_8 : decode cX11_files 8 = .ok (.ireturn, 1) := by decide +kernel
theorem dX11_writes_0 : decode cX11_writes 0 = .ok (.aload_n 0, 1) := by decide +kernel
theorem dX11_writes_1 : decode cX11_writes 1 = .ok (.getfield 90, 3) := by decide +kernel
theorem dX11_writes_4 : decode cX11_writes 4 = .ok (.ireturn, 1) := by decide +kernel
theorem dX11_segments_0 : decode cX11_segments 0 = .ok (.aload_n 0, 1) := by decide +kernel
theorem dX11_segments_1 : decode cX11_segments 1 = .ok (.invokevirtual 177, 3) := by decide +kernel
theorem dX11_segments_4 : decode cX11_segments 4 = .ok (.aload_n 0, 1) := by decide +kernel
theorem dX11_segments_5 : decode cX11_segments 5 = .ok (.getfield 35, 3) := by decide +kernel
theorem dX11_segments_8 : decode cX11_segments 8 = .ok (.invokevirtual 240, 3) := by decide +kernel
theorem dX11_segments_11 : decode cX11_segments 11 = .ok (.ireturn, 1) := by decide +kernel
theorem dX11_segmentAt_0 : decode cX11_segmentAt 0 = .ok (.aload_n 0, 1) := by decide +kernel
theorem dX11_segmentAt_1 : decode cX11_segmentAt 1 = .ok (.iload_n 1, 1) := by decide +kernel
theorem dX11_segmentAt_2 : decode cX11_segmentAt 2 = .ok (.invokevirtual 254, 3) := by decide +kernel
theorem dX11_segmentAt_5 : decode cX11_segmentAt 5 = .ok (.getfield 258, 3) := by decide +kernel
theorem dX11_segmentAt_8 : decode cX11_segmentAt 8 = .ok (.getfield 264, 3) := by decide +kernel
theorem dX11_segmentAt_11 : decode cX11_segmentAt 11 = .ok (.ireturn, 1) := by decide +kernel
theorem dX11_live_0 : decode cX11_live 0 = .ok (.aload_n 0, 1) := by decide +kernel
theorem dX11_live_1 : decode cX11_live 1 = .ok (.iload_n 1, 1) := by decide +kernel
theorem dX11_live_2 : decode cX11_live 2 = .ok (.invokevirtual 254, 3) := by decide +kernel
theorem dX11_live_5 : decode cX11_live 5 = .ok (.invokevirtual 267, 3) := by decide +kernel
theorem dX11_live_8 : decode cX11_live 8 = .ok (.ireturn, 1) := by decide +kernel
theorem dX11_keyAt_0 : decode cX11_keyAt 0 = .ok (.aload_n 0, 1) := by decide +kernel
theorem dX11_keyAt_1 : decode cX11_keyAt 1 = .ok (.iload_n 1, 1) := by decide +kernel
theorem dX11_keyAt_2 : decode cX11_keyAt 2 = .ok (.invokevirtual 254, 3) := by decide +kernel
theorem dX11_keyAt_5 : decode cX11_keyAt 5 = .ok (.getfield 258, 3) := by decide +kernel
theorem dX11_keyAt_8 : decode cX11_keyAt 8 = .ok (.astore_n 3, 1) := by decide +kernel
theorem dX11_keyAt_9 : decode cX11_keyAt 9 = .ok (.iload_n 2, 1) := by decide +kernel
theorem dX11_keyAt_10 : decode cX11_keyAt 10 = .ok (.ifCond .lt 11, 3) := by decide +kernel
theorem dX11_keyAt_13 : decode cX11_keyAt 13 = .ok (.iload_n 2, 1) := by decide +kernel
theorem dX11_keyAt_14 : decode cX11_keyAt 14 = .ok (.aload_n 3, 1) := by decide +kernel
theorem dX11_keyAt_15 : decode cX11_keyAt 15 = .ok (.invokevirtual 268, 3) := by decide +kernel
theorem dX11_keyAt_18 : decode cX11_keyAt 18 = .ok (.if_icmp .lt 14, 3) := by decide +kernel
theorem dX11_keyAt_21 : decode cX11_keyAt 21 = .ok (.new 269, 3) := by decide +kernel
theorem dX11_keyAt_24 : decode cX11_keyAt 24 = .ok (.dup, 1) := by decide +kernel
theorem dX11_keyAt_25 : decode cX11_keyAt 25 = .ok (.ldc_w 271, 3) := by decide +kernel
theorem dX11_keyAt_28 : decode cX11_keyAt 28 = .ok (.invokespecial 273, 3) := by decide +kernel
theorem dX11_keyAt_31 : decode cX11_keyAt 31 = .ok (.athrow, 1) := by decide +kernel
theorem dX11_keyAt_32 : decode cX11_keyAt 32 = .ok (.aload_n 3, 1) := by decide +kernel
theorem dX11_keyAt_33 : decode cX11_keyAt 33 = .ok (.getfield 274, 3) := by decide +kernel
theorem dX11_keyAt_36 : decode cX11_keyAt 36 = .ok (.iload_n 2, 1) := by decide +kernel
theorem dX11_keyAt_37 : decode cX11_keyAt 37 = .ok (.invokevirtual 277, 3) := by decide +kernel
theorem dX11_keyAt_40 : decode cX11_keyAt 40 = .ok (.checkcast 16, 3) := by decide +kernel
theorem dX11_keyAt_43 : decode cX11_keyAt 43 = .ok (.getfield 193, 3) := by decide +kernel
theorem dX11_keyAt_46 : decode cX11_keyAt 46 = .ok (.ireturn, 1) := by decide +kernel
theorem dX11_look_0 : decode cX11_look 0 = .ok (.aload_n 0, 1) := by decide +kernel
theorem dX11_look_1 : decode cX11_look 1 = .ok (.invokevirtual 177, 3) := by decide +kernel
theorem dX11_look_4 : decode cX11_look 4 = .ok (.aload_n 0, 1) := by decide +kernel
theorem dX11_look_5 : decode cX11_look 5 = .ok (.getfield 52, 3) := by decide +kernel
theorem dX11_look_8 : decode cX11_look 8 = .ok (.invokevirtual 180, 3) := by decide +kernel
theorem dX11_look_11 : decode cX11_look 11 = .ok (.iconst 5, 1) := by decide +kernel
theorem dX11_look_12 : decode cX11_look 12 = .ok (.if_icmp .lt 14, 3) := by decide +kernel
theorem dX11_look_15 : decode cX11_look 15 = .ok (.new 116, 3) := by decide +kernel
theorem dX11_look_18 : decode cX11_look 18 = .ok (.dup, 1) := by decide +kernel
theorem dX11_look_19 : decode cX11_look 19 = .ok (.ldc_w 314, 3) := by decide +kernel
theorem dX11_look_22 : decode cX11_look 22 = .ok (.invokespecial 120, 3) := by decide +kernel
theorem dX11_look_25 : decode cX11_look 25 = .ok (.athrow, 1) := by decide +kernel
theorem dX11_look_26 : decode cX11_look 26 = .ok (.iload_n 1, 1) := by decide +kernel
theorem dX11_look_27 : decode cX11_look 27 = .ok (.ifCond .eq 21, 3) := by decide +kernel
theorem dX11_look_30 : decode cX11_look 30 = .ok (.aload_n 0, 1) := by decide +kernel
theorem dX11_look_31 : decode cX11_look 31 = .ok (.getfield 35, 3) := by decide +kernel
theorem dX11_look_34 : decode cX11_look 34 = .ok (.iconst 0, 1) := by decide +kernel
theorem dX11_look_35 : decode cX11_look 35 = .ok (.aload_n 0, 1) := by decide +kernel
theorem dX11_look_36 : decode cX11_look 36 = .ok (.getfield 35, 3) := by decide +kernel
theorem dX11_look_39 : decode cX11_look 39 = .ok (.invokevirtual 240, 3) := by decide +kernel
theorem dX11_look_42 : decode cX11_look 42 = .ok (.invokevirtual 218, 3) := by decide +kernel
theorem dX11_look_45 : decode cX11_look 45 = .ok (.goto 7, 3) := by decide +kernel
theorem dX11_look_48 : decode cX11_look 48 = .ok (.aload_n 0, 1) := by decide +kernel
theorem dX11_look_49 : decode cX11_look 49 = .ok (.invokevirtual 247, 3) := by decide +kernel
theorem dX11_look_52 : decode cX11_look 52 = .ok (.astore_n 2, 1) := by decide +kernel
theorem dX11_look_53 : decode cX11_look 53 = .ok (.aload_n 2, 1) := by decide +kernel
theorem dX11_look_54 : decode cX11_look 54 = .ok (.aload_n 0, 1) := by decide +kernel
theorem dX11_look_55 : decode cX11_look 55 = .ok (.getfield 55, 3) := by decide +kernel
theorem dX11_look_58 : decode cX11_look 58 = .ok (.putfield 316, 3) := by decide +kernel
theorem dX11_look_61 : decode cX11_look 61 = .ok (.aload_n 0, 1) := by decide +kernel
theorem dX11_look_62 : decode cX11_look 62 = .ok (.getfield 52, 3) := by decide +kernel
theorem dX11_look_65 : decode cX11_look 65 = .ok (.aload_n 2, 1) := by decide +kernel
theorem dX11_look_66 : decode cX11_look 66 = .ok (.invokevirtual 200, 3) := by decide +kernel
theorem dX11_look_69 : decode cX11_look 69 = .ok (.pop, 1) := by decide +kernel
theorem dX11_look_70 : decode cX11_look 70 = .ok (.aload_n 0, 1) := by decide +kernel
theorem dX11_look_71 : decode cX11_look 71 = .ok (.dup, 1) := by decide +kernel
theorem dX11_look_72 : decode cX11_look 72 = .ok (.getfield 55, 3) := by decide +kernel
theorem dX11_look_75 : decode cX11_look 75 = .ok (.iconst 1, 1) := by decide +kernel
theorem dX11_look_76 : decode cX11_look 76 = .ok (.iadd, 1) := by decide +kernel
theorem dX11_look_77 : decode cX11_look 77 = .ok (.putfield 55, 3) := by decide +kernel
theorem dX11_look_80 : decode cX11_look 80 = .ok (.aload_n 2, 1) := by decide +kernel
theorem dX11_look_81 : decode cX11_look 81 = .ok (.getfield 316, 3) := by decide +kernel
theorem dX11_look_84 : decode cX11_look 84 = .ok (.ireturn, 1) := by decide +kernel
theorem dX11_shut_0 : decode cX11_shut 0 = .ok (.aload_n 0, 1) := by decide +kernel
theorem dX11_shut_1 : decode cX11_shut 1 = .ok (.iload_n 1, 1) := by decide +kernel
theorem dX11_shut_2 : decode cX11_shut 2 = .ok (.invokevirtual 317, 3) := by decide +kernel
theorem dX11_shut_5 : decode cX11_shut 5 = .ok (.astore_n 2, 1) := by decide +kernel
theorem dX11_shut_6 : decode cX11_shut 6 = .ok (.aload_n 0, 1) := by decide +kernel
theorem dX11_shut_7 : decode cX11_shut 7 = .ok (.getfield 52, 3) := by decide +kernel
theorem dX11_shut_10 : decode cX11_shut 10 = .ok (.invokevirtual 180, 3) := by decide +kernel
theorem dX11_shut_13 : decode cX11_shut 13 = .ok (.iconst 1, 1) := by decide +kernel
theorem dX11_shut_14 : decode cX11_shut 14 = .ok (.isub, 1) := by decide +kernel
theorem dX11_shut_15 : decode cX11_shut 15 = .ok (.istore_n 3, 1) := by decide +kernel
theorem dX11_shut_16 : decode cX11_shut 16 = .ok (.iload_n 3, 1) := by decide +kernel
theorem dX11_shut_17 : decode cX11_shut 17 = .ok (.ifCond .lt 30, 3) := by decide +kernel
theorem dX11_shut_20 : decode cX11_shut 20 = .ok (.aload_n 0, 1) := by decide +kernel
theorem dX11_shut_21 : decode cX11_shut 21 = .ok (.getfield 52, 3) := by decide +kernel
theorem dX11_shut_24 : decode cX11_shut 24 = .ok (.iload_n 3, 1) := by decide +kernel
theorem dX11_shut_25 : decode cX11_shut 25 = .ok (.invokevirtual 277, 3) := by decide +kernel
theorem dX11_shut_28 : decode cX11_shut 28 = .ok (.aload_n 2, 1) := by decide +kernel
theorem dX11_shut_29 : decode cX11_shut 29 = .ok (.if_acmp .ne 12, 3) := by decide +kernel
theorem dX11_shut_32 : decode cX11_shut 32 = .ok (.aload_n 0, 1) := by decide +kernel
theorem dX11_shut_33 : decode cX11_shut 33 = .ok (.getfield 52, 3) := by decide +kernel
theorem dX11_shut_36 : decode cX11_shut 36 = .ok (.iload_n 3, 1) := by decide +kernel
theorem dX11_shut_37 : decode cX11_shut 37 = .ok (.invokevirtual 321, 3) := by decide +kernel
theorem dX11_shut_40 : decode cX11_shut 40 = .ok (.pop, 1) := by decide +kernel
theorem dX11_shut_41 : decode cX11_shut 41 = .ok (.iinc 3 (-1), 3) := by decide +kernel
theorem dX11_shut_44 : decode cX11_shut 44 = .ok (.goto (-28), 3) := by decide +kernel
theorem dX11_shut_47 : decode cX11_shut 47 = .ok (.aload_n 0, 1) := by decide +kernel
theorem dX11_shut_48 : decode cX11_shut 48 = .ok (.invokevirtual 251, 3) := by decide +kernel
theorem dX11_shut_51 : decode cX11_shut 51 = .ok (.ireturn, 1) := by decide +kernel
theorem dX11_documents_0 : decode cX11_documents 0 = .ok (.aload_n 0, 1) := by decide +kernel
theorem dX11_documents_1 : decode cX11_documents 1 = .ok (.iload_n 1, 1) := by decide +kernel
theorem dX11_documents_2 : decode cX11_documents 2 = .ok (.invokevirtual 317, 3) := by decide +kernel
theorem dX11_documents_5 : decode cX11_documents 5 = .ok (.invokevirtual 222, 3) := by decide +kernel
theorem dX11_documents_8 : decode cX11_documents 8 = .ok (.ireturn, 1) := by decide +kernel
theorem dX11_term_0 : decode cX11_term 0 = .ok (.iload_n 1, 1) := by decide +kernel
theorem dX11_term_1 : decode cX11_term 1 = .ok (.invokestatic 152, 3) := by decide +kernel
theorem dX11_term_4 : decode cX11_term 4 = .ok (.aload_n 0, 1) := by decide +kernel
theorem dX11_term_5 : decode cX11_term 5 = .ok (.aload_n 0, 1) := by decide +kernel
theorem dX11_term_6 : decode cX11_term 6 = .ok (.getfield 10, 3) := by decide +kernel
theorem dX11_term_9 : decode cX11_term 9 = .ok (.invokevirtual 324, 3) := by decide +kernel
theorem dX11_term_12 : decode cX11_term 12 = .ok (.iconst 1, 1) := by decide +kernel
theorem dX11_term_13 : decode cX11_term 13 = .ok (.if_icmp .ne 7, 3) := by decide +kernel
theorem dX11_term_16 : decode cX11_term 16 = .ok (.iconst 1, 1) := by decide +kernel
theorem dX11_term_17 : decode cX11_term 17 = .ok (.goto 4, 3) := by decide +kernel
theorem dX11_term_20 : decode cX11_term 20 = .ok (.iconst 0, 1) := by decide +kernel
theorem dX11_term_21 : decode cX11_term 21 = .ok (.invokevirtual 327, 3) := by decide +kernel
theorem dX11_term_24 : decode cX11_term 24 = .ok (.aload_n 0, 1) := by decide +kernel
theorem dX11_term_25 : decode cX11_term 25 = .ok (.getfield 61, 3) := by decide +kernel
theorem dX11_term_28 : decode cX11_term 28 = .ok (.iconst 0, 1) := by decide +kernel
theorem dX11_term_29 : decode cX11_term 29 = .ok (.iload_n 1, 1) := by decide +kernel
theorem dX11_term_30 : decode cX11_term 30 = .ok (.iconst 0, 1) := by decide +kernel
theorem dX11_term_31 : decode cX11_term 31 = .ok (.aload_n 0, 1) := by decide +kernel
theorem dX11_term_32 : decode cX11_term 32 = .ok (.getfield 10, 3) := by decide +kernel
theorem dX11_term_35 : decode cX11_term 35 = .ok (.invokevirtual 125, 3) := by decide +kernel
theorem dX11_term_38 : decode cX11_term 38 = .ok (.invokestatic 333, 3) := by decide +kernel
theorem dX11_term_41 : decode cX11_term 41 = .ok (.invokevirtual 337, 3) := by decide +kernel
theorem dX11_term_44 : decode cX11_term 44 = .ok (.ireturn, 1) := by decide +kernel
theorem dX11_phrase_0 : decode cX11_phrase 0 = .ok (.iload_n 1, 1) := by decide +kernel
theorem dX11_phrase_1 : decode cX11_phrase 1 = .ok (.invokestatic 152, 3) := by decide +kernel
theorem dX11_phrase_4 : decode cX11_phrase 4 = .ok (.iload_n 2, 1) := by decide +kernel
theorem dX11_phrase_5 : decode cX11_phrase 5 = .ok (.ifCond .lt 9, 3) := by decide +kernel
theorem dX11_phrase_8 : decode cX11_phrase 8 = .ok (.iload_n 2, 1) := by decide +kernel
theorem dX11_phrase_9 : decode cX11_phrase 9 = .ok (.bipush 20, 2) := by decide +kernel
theorem dX11_phrase_11 : decode cX11_phrase 11 = .ok (.if_icmp .le 14, 3) := by decide +kernel
theorem dX11_phrase_14 : decode cX11_phrase 14 = .ok (.new 100, 3) := by decide +kernel
theorem dX11_phrase_17 : decode cX11_phrase 17 = .ok (.dup, 1) := by decide +kernel
theorem dX11_phrase_18 : decode cX11_phrase 18 = .ok (.ldc_w 341, 3) := by decide +kernel
theorem dX11_phrase_21 : decode cX11_phrase 21 = .ok (.invokespecial 104, 3) := by decide +kernel
theorem dX11_phrase_24 : decode cX11_phrase 24 = .ok (.athrow, 1) := by decide +kernel
theorem dX11_phrase_25 : decode cX11_phrase 25 = .ok (.aload_n 0, 1) := by decide +kernel
theorem dX11_phrase_26 : decode cX11_phrase 26 = .ok (.getfield 10, 3) := by decide +kernel
theorem dX11_phrase_29 : decode cX11_phrase 29 = .ok (.invokevirtual 324, 3) := by decide +kernel
theorem dX11_phrase_32 : decode cX11_phrase 32 = .ok (.istore_n 3, 1) := by decide +kernel
theorem dX11_phrase_33 : decode cX11_phrase 33 = .ok (.aload_n 0, 1) := by decide +kernel
theorem dX11_phrase_34 : decode cX11_phrase 34 = .ok (.iload_n 3, 1) := by decide +kernel
theorem dX11_phrase_35 : decode cX11_phrase 35 = .ok (.iconst 1, 1) := by decide +kernel
theorem dX11_phrase_36 : decode cX11_phrase 36 = .ok (.if_icmp .lt 13, 3) := by decide +kernel
theorem dX11_phrase_39 : decode cX11_phrase 39 = .ok (.iload_n 3, 1) := by decide +kernel
theorem dX11_phrase_40 : decode cX11_phrase 40 = .ok (.bipush 6, 2) := by decide +kernel
theorem dX11_phrase_42 : decode cX11_phrase 42 = .ok (.if_icmp .gt 7, 3) := by decide +kernel
theorem dX11_phrase_45 : decode cX11_phrase 45 = .ok (.iconst 1, 1) := by decide +kernel
theorem dX11_phrase_46 : decode cX11_phrase 46 = .ok (.goto 4, 3) := by decide +kernel
theorem dX11_phrase_49 : decode cX11_phrase 49 = .ok (.iconst 0, 1) := by decide +kernel
theorem dX11_phrase_50 : decode cX11_phrase 50 = .ok (.invokevirtual 327, 3) := by decide +kernel
theorem dX11_phrase_53 : decode cX11_phrase 53 = .ok (.aload_n 0, 1) := by decide +kernel
theorem dX11_phrase_54 : decode cX11_phrase 54 = .ok (.getfield 61, 3) := by decide +kernel
theorem dX11_phrase_57 : decode cX11_phrase 57 = .ok (.iconst 0, 1) := by decide +kernel
theorem dX11_phrase_58 : decode cX11_phrase 58 = .ok (.iload_n 1, 1) := by decide +kernel
theorem dX11_phrase_59 : decode cX11_phrase 59 = .ok (.iload_n 2, 1) := by decide +kernel
theorem dX11_phrase_60 : decode cX11_phrase 60 = .ok (.aload_n 0, 1) := by decide +kernel
theorem dX11_phrase_61 : decode cX11_phrase 61 = .ok (.getfield 10, 3) := by decide +kernel
theorem dX11_phrase_64 : decode cX11_phrase 64 = .ok (.invokevirtual 125, 3) := by decide +kernel
theorem dX11_phrase_67 : decode cX11_phrase 67 = .ok (.invokestatic 333, 3) := by decide +kernel
theorem dX11_phrase_70 : decode cX11_phrase 70 = .ok (.invokevirtual 337, 3) := by decide +kernel
theorem dX11_phrase_73 : decode cX11_phrase 73 = .ok (.ireturn, 1) := by decide +kernel
theorem dX11_near_0 : decode cX11_near 0 = .ok (.iload_n 1, 1) := by decide +kernel
theorem dX11_near_1 : decode cX11_near 1 = .ok (.invokestatic 152, 3) := by decide +kernel
theorem dX11_near_4 : decode cX11_near 4 = .ok (.iload_n 2, 1) := by decide +kernel
theorem dX11_near_5 : decode cX11_near 5 = .ok (.iconst 1, 1) := by decide +kernel
theorem dX11_near_6 : decode cX11_near 6 = .ok (.if_icmp .lt 9, 3) := by decide +kernel
theorem dX11_near_9 : decode cX11_near 9 = .ok (.iload_n 2, 1) := by decide +kernel
theorem dX11_near_10 : decode cX11_near 10 = .ok (.bipush 20, 2) := by decide +kernel
theorem dX11_near_12 : decode cX11_near 12 = .ok (.if_icmp .le 14, 3) := by decide +kernel
theorem dX11_near_15 : decode cX11_near 15 = .ok (.new 100, 3) := by decide +kernel
theorem dX11_near_18 : decode cX11_near 18 = .ok (.dup, 1) := by decide +kernel
