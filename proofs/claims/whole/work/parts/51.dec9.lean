theorem dX9_init_0 : decode cX9_init 0 = .ok (.aload_n 0, 1) := by decide +kernel
theorem dX9_init_1 : decode cX9_init 1 = .ok (.invokespecial 3, 3) := by decide +kernel
theorem dX9_init_4 : decode cX9_init 4 = .ok (.aload_n 0, 1) := by decide +kernel
theorem dX9_init_5 : decode cX9_init 5 = .ok (.bipush 40, 2) := by decide +kernel
theorem dX9_init_7 : decode cX9_init 7 = .ok (.newarray .int, 2) := by decide +kernel
theorem dX9_init_9 : decode cX9_init 9 = .ok (.putfield 9, 3) := by decide +kernel
theorem dX9_init_12 : decode cX9_init 12 = .ok (.aload_n 0, 1) := by decide +kernel
theorem dX9_init_13 : decode cX9_init 13 = .ok (.iconst 0, 1) := by decide +kernel
theorem dX9_init_14 : decode cX9_init 14 = .ok (.putfield 15, 3) := by decide +kernel
theorem dX9_init_17 : decode cX9_init 17 = .ok (.aload_n 0, 1) := by decide +kernel
theorem dX9_init_18 : decode cX9_init 18 = .ok (.iconst 0, 1) := by decide +kernel
theorem dX9_init_19 : decode cX9_init 19 = .ok (.newarray .long, 2) := by decide +kernel
theorem dX9_init_21 : decode cX9_init 21 = .ok (.putfield 19, 3) := by decide +kernel
theorem dX9_init_24 : decode cX9_init 24 = .ok (.aload_n 0, 1) := by decide +kernel
theorem dX9_init_25 : decode cX9_init 25 = .ok (.iconst 0, 1) := by decide +kernel
theorem dX9_init_26 : decode cX9_init 26 = .ok (.newarray .int, 2) := by decide +kernel
theorem dX9_init_28 : decode cX9_init 28 = .ok (.putfield 23, 3) := by decide +kernel
theorem dX9_init_31 : decode cX9_init 31 = .ok (.aload_n 0, 1) := by decide +kernel
theorem dX9_init_32 : decode cX9_init 32 = .ok (.iconst 0, 1) := by decide +kernel
theorem dX9_init_33 : decode cX9_init 33 = .ok (.putfield 26, 3) := by decide +kernel
theorem dX9_init_36 : decode cX9_init 36 = .ok (.return_, 1) := by decide +kernel
theorem dX9_putSign_0 : decode cX9_putSign 0 = .ok (.aload_n 0, 1) := by decide +kernel
theorem dX9_putSign_1 : decode cX9_putSign 1 = .ok (.getfield 15, 3) := by decide +kernel
theorem dX9_putSign_4 : decode cX9_putSign 4 = .ok (.aload_n 0, 1) := by decide +kernel
theorem dX9_putSign_5 : decode cX9_putSign 5 = .ok (.getfield 9, 3) := by decide +kernel
theorem dX9_putSign_8 : decode cX9_putSign 8 = .ok (.arraylength, 1) := by decide +kernel
theorem dX9_putSign_9 : decode cX9_putSign 9 = .ok (.if_icmp .ge 23, 3) := by decide +kernel
theorem dX9_putSign_12 : decode cX9_putSign 12 = .ok (.aload_n 0, 1) := by decide +kernel
theorem dX9_putSign_13 : decode cX9_putSign 13 = .ok (.getfield 9, 3) := by decide +kernel
theorem dX9_putSign_16 : decode cX9_putSign 16 = .ok (.aload_n 0, 1) := by decide +kernel
theorem dX9_putSign_17 : decode cX9_putSign 17 = .ok (.getfield 15, 3) := by decide +kernel
theorem dX9_putSign_20 : decode cX9_putSign 20 = .ok (.iload_n 1, 1) := by decide +kernel
theorem dX9_putSign_21 : decode cX9_putSign 21 = .ok (.iastore, 1) := by decide +kernel
theorem dX9_putSign_22 : decode cX9_putSign 22 = .ok (.aload_n 0, 1) := by decide +kernel
theorem dX9_putSign_23 : decode cX9_putSign 23 = .ok (.dup, 1) := by decide +kernel
theorem dX9_putSign_24 : decode cX9_putSign 24 = .ok (.getfield 15, 3) := by decide +kernel
theorem dX9_putSign_27 : decode cX9_putSign 27 = .ok (.iconst 1, 1) := by decide +kernel
theorem dX9_putSign_28 : decode cX9_putSign 28 = .ok (.iadd, 1) := by decide +kernel
theorem dX9_putSign_29 : decode cX9_putSign 29 = .ok (.putfield 15, 3) := by decide +kernel
theorem dX9_putSign_32 : decode cX9_putSign 32 = .ok (.aload_n 0, 1) := by decide +kernel
theorem dX9_putSign_33 : decode cX9_putSign 33 = .ok (.getfield 15, 3) := by decide +kernel
theorem dX9_putSign_36 : decode cX9_putSign 36 = .ok (.ireturn, 1) := by decide +kernel
theorem dX9_signOf_0 : decode cX9_signOf 0 = .ok (.iload_n 1, 1) := by decide +kernel
theorem dX9_signOf_1 : decode cX9_signOf 1 = .ok (.ifCond .lt 20, 3) := by decide +kernel
theorem dX9_signOf_4 : decode cX9_signOf 4 = .ok (.iload_n 1, 1) := by decide +kernel
theorem dX9_signOf_5 : decode cX9_signOf 5 = .ok (.aload_n 0, 1) := by decide +kernel
theorem dX9_signOf_6 : decode cX9_signOf 6 = .ok (.getfield 15, 3) := by decide +kernel
theorem dX9_signOf_9 : decode cX9_signOf 9 = .ok (.if_icmp .ge 12, 3) := by decide +kernel
theorem dX9_signOf_12 : decode cX9_signOf 12 = .ok (.iload_n 1, 1) := by decide +kernel
theorem dX9_signOf_13 : decode cX9_signOf 13 = .ok (.aload_n 0, 1) := by decide +kernel
theorem dX9_signOf_14 : decode cX9_signOf 14 = .ok (.getfield 9, 3) := by decide +kernel
theorem dX9_signOf_17 : decode cX9_signOf 17 = .ok (.arraylength, 1) := by decide +kernel
theorem dX9_signOf_18 : decode cX9_signOf 18 = .ok (.if_icmp .lt 8, 3) := by decide +kernel
theorem dX9_signOf_21 : decode cX9_signOf 21 = .ok (.bipush 32, 2) := by decide +kernel
theorem dX9_signOf_23 : decode cX9_signOf 23 = .ok (.goto 9, 3) := by decide +kernel
theorem dX9_signOf_26 : decode cX9_signOf 26 = .ok (.aload_n 0, 1) := by decide +kernel
theorem dX9_signOf_27 : decode cX9_signOf 27 = .ok (.getfield 9, 3) := by decide +kernel
theorem dX9_signOf_30 : decode cX9_signOf 30 = .ok (.iload_n 1, 1) := by decide +kernel
theorem dX9_signOf_31 : decode cX9_signOf 31 = .ok (.iaload, 1) := by decide +kernel
theorem dX9_signOf_32 : decode cX9_signOf 32 = .ok (.ireturn, 1) := by decide +kernel
theorem dX9_putToken_0 : decode cX9_putToken 0 = .ok (.aload_n 0, 1) := by decide +kernel
theorem dX9_putToken_1 : decode cX9_putToken 1 = .ok (.getfield 26, 3) := by decide +kernel
theorem dX9_putToken_4 : decode cX9_putToken 4 = .ok (.aload_n 0, 1) := by decide +kernel
theorem dX9_putToken_5 : decode cX9_putToken 5 = .ok (.getfield 19, 3) := by decide +kernel
theorem dX9_putToken_8 : decode cX9_putToken 8 = .ok (.arraylength, 1) := by decide +kernel
theorem dX9_putToken_9 : decode cX9_putToken 9 = .ok (.if_icmp .ge 15, 3) := by decide +kernel
theorem dX9_putToken_12 : decode cX9_putToken 12 = .ok (.aload_n 0, 1) := by decide +kernel
theorem dX9_putToken_13 : decode cX9_putToken 13 = .ok (.getfield 26, 3) := by decide +kernel
theorem dX9_putToken_16 : decode cX9_putToken 16 = .ok (.aload_n 0, 1) := by decide +kernel
theorem dX9_putToken_17 : decode cX9_putToken 17 = .ok (.getfield 23, 3) := by decide +kernel
theorem dX9_putToken_20 : decode cX9_putToken 20 = .ok (.arraylength, 1) := by decide +kernel
theorem dX9_putToken_21 : decode cX9_putToken 21 = .ok (.if_icmp .lt 41, 3) := by decide +kernel
theorem dX9_putToken_24 : decode cX9_putToken 24 = .ok (.aload_n 0, 1) := by decide +kernel
theorem dX9_putToken_25 : decode cX9_putToken 25 = .ok (.aload_n 0, 1) := by decide +kernel
theorem dX9_putToken_26 : decode cX9_putToken 26 = .ok (.getfield 19, 3) := by decide +kernel
theorem dX9_putToken_29 : decode cX9_putToken 29 = .ok (.aload_n 0, 1) := by decide +kernel
theorem dX9_putToken_30 : decode cX9_putToken 30 = .ok (.getfield 26, 3) := by decide +kernel
theorem dX9_putToken_33 : decode cX9_putToken 33 = .ok (.iconst 2, 1) := by decide +kernel
theorem dX9_putToken_34 : decode cX9_putToken 34 = .ok (.imul, 1) := by decide +kernel
theorem dX9_putToken_35 : decode cX9_putToken 35 = .ok (.iconst 4, 1) := by decide +kernel
theorem dX9_putToken_36 : decode cX9_putToken 36 = .ok (.iadd, 1) := by decide +kernel
theorem dX9_putToken_37 : decode cX9_putToken 37 = .ok (.invokestatic 29, 3) := by decide +kernel
theorem dX9_putToken_40 : decode cX9_putToken 40 = .ok (.putfield 19, 3) := by decide +kernel
theorem dX9_putToken_43 : decode cX9_putToken 43 = .ok (.aload_n 0, 1) := by decide +kernel
theorem dX9_putToken_44 : decode cX9_putToken 44 = .ok (.aload_n 0, 1) := by decide +kernel
theorem dX9_putToken_45 : decode cX9_putToken 45 = .ok (.getfield 23, 3) := by decide +kernel
theorem dX9_putToken_48 : decode cX9_putToken 48 = .ok (.aload_n 0, 1) := by decide +kernel
theorem dX9_putToken_49 : decode cX9_putToken 49 = .ok (.getfield 26, 3) := by decide +kernel
theorem dX9_putToken_52 : decode cX9_putToken 52 = .ok (.iconst 2, 1) := by decide +kernel
theorem dX9_putToken_53 : decode cX9_putToken 53 = .ok (.imul, 1) := by decide +kernel
theorem dX9_putToken_54 : decode cX9_putToken 54 = .ok (.iconst 4, 1) := by decide +kernel
theorem dX9_putToken_55 : decode cX9_putToken 55 = .ok (.iadd, 1) := by decide +kernel
theorem dX9_putToken_56 : decode cX9_putToken 56 = .ok (.invokestatic 35, 3) := by decide +kernel
theorem dX9_putToken_59 : decode cX9_putToken 59 = .ok (.putfield 23, 3) := by decide +kernel
theorem dX9_putToken_62 : decode cX9_putToken 62 = .ok (.aload_n 0, 1) := by decide +kernel
theorem dX9_putToken_63 : decode cX9_putToken 63 = .ok (.getfield 19, 3) := by decide +kernel
theorem dX9_putToken_66 : decode cX9_putToken 66 = .ok (.aload_n 0, 1) := by decide +kernel
theorem dX9_putToken_67 : decode cX9_putToken 67 = .ok (.getfield 26, 3) := by decide +kernel
theorem dX9_putToken_70 : decode cX9_putToken 70 = .ok (.lload_n 1, 1) := by decide +kernel
theorem dX9_putToken_71 : decode cX9_putToken 71 = .ok (.lastore, 1) := by decide +kernel
theorem dX9_putToken_72 : decode cX9_putToken 72 = .ok (.aload_n 0, 1) := by decide +kernel
theorem dX9_putToken_73 : decode cX9_putToken 73 = .ok (.getfield 23, 3) := by decide +kernel
theorem dX9_putToken_76 : decode cX9_putToken 76 = .ok (.aload_n 0, 1) := by decide +kernel
theorem dX9_putToken_77 : decode cX9_putToken 77 = .ok (.getfield 26, 3) := by decide +kernel
theorem dX9_putToken_80 : decode cX9_putToken 80 = .ok (.iload_n 3, 1) := by decide +kernel
theorem dX9_putToken_81 : decode cX9_putToken 81 = .ok (.iastore, 1) := by decide +kernel
theorem dX9_putToken_82 : decode cX9_putToken 82 = .ok (.aload_n 0, 1) := by decide +kernel
theorem dX9_putToken_83 : decode cX9_putToken 83 = .ok (.dup, 1) := by decide +kernel
theorem dX9_putToken_84 : decode cX9_putToken 84 = .ok (.getfield 26, 3) := by decide +kernel
theorem dX9_putToken_87 : decode cX9_putToken 87 = .ok (.iconst 1, 1) := by decide +kernel
theorem dX9_putToken_88 : decode cX9_putToken 88 = .ok (.iadd, 1) := by decide +kernel
theorem dX9_putToken_89 : decode cX9_putToken 89 = .ok (.putfield 26, 3) := by decide +kernel
theorem dX9_putToken_92 : decode cX9_putToken 92 = .ok (.return_, 1) := by decide +kernel
theorem dX9_codeAt_0 : decode cX9_codeAt 0 = .ok (.iload_n 1, 1) := by decide +kernel
theorem dX9_codeAt_1 : decode cX9_codeAt 1 = .ok (.ifCond .lt 20, 3) := by decide +kernel
theorem dX9_codeAt_4 : decode cX9_codeAt 4 = .ok (.iload_n 1, 1) := by decide +kernel
theorem dX9_codeAt_5 : decode cX9_codeAt 5 = .ok (.aload_n 0, 1) := by decide +kernel
theorem dX9_codeAt_6 : decode cX9_codeAt 6 = .ok (.getfield 26, 3) := by decide +kernel
theorem dX9_codeAt_9 : decode cX9_codeAt 9 = .ok (.if_icmp .ge 12, 3) := by decide +kernel
theorem dX9_codeAt_12 : decode cX9_codeAt 12 = .ok (.iload_n 1, 1) := by decide +kernel
theorem dX9_codeAt_13 : decode cX9_codeAt 13 = .ok (.aload_n 0, 1) := by decide +kernel
theorem dX9_codeAt_14 : decode cX9_codeAt 14 = .ok (.getfield 19, 3) := by decide +kernel
theorem dX9_codeAt_17 : decode cX9_codeAt 17 = .ok (.arraylength, 1) := by decide +kernel
theorem dX9_codeAt_18 : decode cX9_codeAt 18 = .ok (.if_icmp .lt 7, 3) := by decide +kernel
theorem dX9_codeAt_21 : decode cX9_codeAt 21 = .ok (.lconst 0, 1) := by decide +kernel
theorem dX9_codeAt_22 : decode cX9_codeAt 22 = .ok (.goto 9, 3) := by decide +kernel
theorem dX9_codeAt_25 : decode cX9_codeAt 25 = .ok (.aload_n 0, 1) := by decide +kernel
theorem dX9_codeAt_26 : decode cX9_codeAt 26 = .ok (.getfield 19, 3) := by decide +kernel
theorem dX9_codeAt_29 : decode cX9_codeAt 29 = .ok (.iload_n 1, 1) := by decide +kernel
theorem dX9_codeAt_30 : decode cX9_codeAt 30 = .ok (.laload, 1) := by decide +kernel
theorem dX9_codeAt_31 : decode cX9_codeAt 31 = .ok (.lreturn, 1) := by decide +kernel
theorem dX9_placeAt_0 : decode cX9_placeAt 0 = .ok (.iload_n 1, 1) := by decide +kernel
theorem dX9_placeAt_1 : decode cX9_placeAt 1 = .ok (.ifCond .lt 20, 3) := by decide +kernel
theorem dX9_placeAt_4 : decode cX9_placeAt 4 = .ok (.iload_n 1, 1) := by decide +kernel
theorem dX9_placeAt_5 : decode cX9_placeAt 5 = .ok (.aload_n 0, 1) := by decide +kernel
theorem dX9_placeAt_6 : decode cX9_placeAt 6 = .ok (.getfield 26, 3) := by decide +kernel
theorem dX9_placeAt_9 : decode cX9_placeAt 9 = .ok (.if_icmp .ge 12, 3) := by decide +kernel
theorem dX9_placeAt_12 : decode cX9_placeAt 12 = .ok (.iload_n 1, 1) := by decide +kernel
theorem dX9_placeAt_13 : decode cX9_placeAt 13 = .ok (.aload_n 0, 1) := by decide +kernel
theorem dX9_placeAt_14 : decode cX9_placeAt 14 = .ok (.getfield 23, 3) := by decide +kernel
theorem dX9_placeAt_17 : decode cX9_placeAt 17 = .ok (.arraylength, 1) := by decide +kernel
theorem dX9_placeAt_18 : decode cX9_placeAt 18 = .ok (.if_icmp .lt 7, 3) := by decide +kernel
theorem dX9_placeAt_21 : decode cX9_placeAt 21 = .ok (.iconst 0, 1) := by decide +kernel
theorem dX9_placeAt_22 : decode cX9_placeAt 22 = .ok (.goto 9, 3) := by decide +kernel
theorem dX9_placeAt_25 : decode cX9_placeAt 25 = .ok (.aload_n 0, 1) := by decide +kernel
theorem dX9_placeAt_26 : decode cX9_placeAt 26 = .ok (.getfield 23, 3) := by decide +kernel
theorem dX9_placeAt_29 : decode cX9_placeAt 29 = .ok (.iload_n 1, 1) := by decide +kernel
theorem dX9_placeAt_30 : decode cX9_placeAt 30 = .ok (.iaload, 1) := by decide +kernel
theorem dX9_placeAt_31 : decode cX9_placeAt 31 = .ok (.ireturn, 1) := by decide +kernel
theorem dX9_placesOf_0 : decode cX9_placesOf 0 = .ok (.iconst 0, 1) := by decide +kernel
theorem dX9_placesOf_1 : decode cX9_placesOf 1 = .ok (.istore_n 3, 1) := by decide +kernel
theorem dX9_placesOf_2 : decode cX9_placesOf 2 = .ok (.iconst 0, 1) := by decide +kernel
theorem dX9_placesOf_3 : decode cX9_placesOf 3 = .ok (.istore 4, 2) := by decide +kernel
theorem dX9_placesOf_5 : decode cX9_placesOf 5 = .ok (.iload 4, 2) := by decide +kernel
theorem dX9_placesOf_7 : decode cX9_placesOf 7 = .ok (.aload_n 0, 1) := by decide +kernel
theorem dX9_placesOf_8 : decode cX9_placesOf 8 = .ok (.getfield 26, 3) := by decide +kernel
theorem dX9_placesOf_11 : decode cX9_placesOf 11 = .ok (.if_icmp .ge 53, 3) := by decide +kernel
theorem dX9_placesOf_14 : decode cX9_placesOf 14 = .ok (.iload 4, 2) := by decide +kernel
theorem dX9_placesOf_16 : decode cX9_placesOf 16 = .ok (.aload_n 0, 1) := by decide +kernel
theorem dX9_placesOf_17 : decode cX9_placesOf 17 = .ok (.getfield 19, 3) := by decide +kernel
theorem dX9_placesOf_20 : decode cX9_placesOf 20 = .ok (.arraylength, 1) := by decide +kernel
theorem dX9_placesOf_21 : decode cX9_placesOf 21 = .ok (.if_icmp .ge 43, 3) := by decide +kernel
theorem dX9_placesOf_24 : decode cX9_placesOf 24 = .ok (.iload 4, 2) := by decide +kernel
theorem dX9_placesOf_26 : decode cX9_placesOf 26 = .ok (.aload_n 0, 1) := by decide +kernel
theorem dX9_placesOf_27 : decode cX9_placesOf 27 = .ok (.getfield 23, 3) := by decide +kernel
theorem dX9_placesOf_30 : decode cX9_placesOf 30 = .ok (.arraylength, 1) := by decide +kernel
theorem dX9_placesOf_31 : decode cX9_placesOf 31 = .ok (.if_icmp .ge 33, 3) := by decide +kernel
theorem dX9_placesOf_34 : decode cX9_placesOf 34 = .ok (.aload_n 0, 1) := by decide +kernel
theorem dX9_placesOf_35 : decode cX9_placesOf 35 = .ok (.getfield 19, 3) := by decide +kernel
theorem dX9_placesOf_38 : decode cX9_placesOf 38 = .ok (.iload 4, 2) := by decide +kernel
theorem dX9_placesOf_40 : decode cX9_placesOf 40 = .ok (.laload, 1) := by decide +kernel
theorem dX9_placesOf_41 : decode cX9_placesOf 41 = .ok (.lload_n 1, 1) := by decide +kernel
theorem dX9_placesOf_42 : decode cX9_placesOf 42 = .ok (.lcmp, 1) := by decide +kernel
theorem dX9_placesOf_43 : decode cX9_placesOf 43 = .ok (.ifCond .ne 15, 3) := by decide +kernel
theorem dX9_placesOf_46 : decode cX9_placesOf 46 = .ok (.iload_n 3, 1) := by decide +kernel
theorem dX9_placesOf_47 : decode cX9_placesOf 47 = .ok (.iconst 1, 1) := by decide +kernel
theorem dX9_placesOf_48 : decode cX9_placesOf 48 = .ok (.aload_n 0, 1) := by decide +kernel
theorem dX9_placesOf_49 : decode cX9_placesOf 49 = .ok (.getfield 23, 3) := by decide +kernel
theorem dX9_placesOf_52 : decode cX9_placesOf 52 = .ok (.iload 4, 2) := by decide +kernel
theorem dX9_placesOf_54 : decode cX9_placesOf 54 = .ok (.iaload, 1) := by decide +kernel
theorem dX9_placesOf_55 : decode cX9_placesOf 55 = .ok (.ishl, 1) := by decide +kernel
theorem dX9_placesOf_56 : decode cX9_placesOf 56 = .ok (.ior, 1) := by decide +kernel
theorem dX9_placesOf_57 : decode cX9_placesOf 57 = .ok (.istore_n 3, 1) := by decide +kernel
theorem dX9_placesOf_58 : decode cX9_placesOf 58 = .ok (.iinc 4 1, 3) := by decide +kernel
theorem dX9_placesOf_61 : decode cX9_placesOf 61 = .ok (.goto (-56), 3) := by decide +kernel
theorem dX9_placesOf_64 : decode cX9_placesOf 64 = .ok (.iload_n 3, 1) := by decide +kernel
theorem dX9_placesOf_65 : decode cX9_placesOf 65 = .ok (.ireturn, 1) := by decide +kernel
theorem dX9_isFirst_0 : decode cX9_isFirst 0 = .ok (.aload_n 0, 1) := by decide +kernel
theorem dX9_isFirst_1 : decode cX9_isFirst 1 = .ok (.aload_n 0, 1) := by decide +kernel
theorem dX9_isFirst_2 : decode cX9_isFirst 2 = .ok (.iload_n 1, 1) := by decide +kernel
theorem dX9_isFirst_3 : decode cX9_isFirst 3 = .ok (.invokevirtual 38, 3) := by decide +kernel
theorem dX9_isFirst_6 : decode cX9_isFirst 6 = .ok (.invokevirtual 42, 3) := by decide +kernel
theorem dX9_isFirst_9 : decode cX9_isFirst 9 = .ok (.aload_n 0, 1) := by decide +kernel
theorem dX9_isFirst_10 : decode cX9_isFirst 10 = .ok (.iload_n 1, 1) := by decide +kernel
theorem dX9_isFirst_11 : decode cX9_isFirst 11 = .ok (.invokevirtual 46, 3) := by decide +kernel
theorem dX9_isFirst_14 : decode cX9_isFirst 14 = .ok (.ishr, 1) := by decide +kernel
theorem dX9_isFirst_15 : decode cX9_isFirst 15 = .ok (.istore_n 2, 1) := by decide +kernel
theorem dX9_isFirst_16 : decode cX9_isFirst 16 = .ok (.iload_n 2, 1) := by decide +kernel
theorem dX9_isFirst_17 : decode cX9_isFirst 17 = .ok (.aload_n 0, 1) := by decide +kernel
theorem dX9_isFirst_18 : decode cX9_isFirst 18 = .ok (.iload_n 1, 1) := by decide +kernel
theorem dX9_isFirst_19 : decode cX9_isFirst 19 = .ok (.invokevirtual 46, 3) := by decide +kernel
theorem dX9_isFirst_22 : decode cX9_isFirst 22 = .ok (.ishl, 1) := by decide +kernel
theorem dX9_isFirst_23 : decode cX9_isFirst 23 = .ok (.aload_n 0, 1) := by decide +kernel
theorem dX9_isFirst_24 : decode cX9_isFirst 24 = .ok (.aload_n 0, 1) := by decide +kernel
theorem dX9_isFirst_25 : decode cX9_isFirst 25 = .ok (.iload_n 1, 1) := by decide +kernel
theorem dX9_isFirst_26 : decode cX9_isFirst 26 = .ok (.invokevirtual 38, 3) := by decide +kernel
theorem dX9_isFirst_29 : decode cX9_isFirst 29 = .ok (.invokevirtual 42, 3) := by decide +kernel
theorem dX9_isFirst_32 : decode cX9_isFirst 32 = .ok (.if_icmp .ne 7, 3) := by decide +kernel
theorem dX9_isFirst_35 : decode cX9_isFirst 35 = .ok (.iconst 1, 1) := by decide +kernel
theorem dX9_isFirst_36 : decode cX9_isFirst 36 = .ok (.goto 4, 3) := by decide +kernel
theorem dX9_isFirst_39 : decode cX9_isFirst 39 = .ok (.iconst 0, 1) := by decide +kernel
theorem dX9_isFirst_40 : decode cX9_isFirst 40 = .ok (.ireturn, 1) := by decide +kernel
theorem dX9_digitOf_0 : decode cX9_digitOf 0 = .ok (.iload_n 0, 1) := by decide +kernel
theorem dX9_digitOf_1 : decode cX9_digitOf 1 = .ok (.bipush 48, 2) := by decide +kernel
theorem dX9_digitOf_3 : decode cX9_digitOf 3 = .ok (.if_icmp .lt 16, 3) := by decide +kernel
theorem dX9_digitOf_6 : decode cX9_digitOf 6 = .ok (.iload_n 0, 1) := by decide +kernel
theorem dX9_digitOf_7 : decode cX9_digitOf 7 = .ok (.bipush 57, 2) := by decide +kernel
theorem dX9_digitOf_9 : decode cX9_digitOf 9 = .ok (.if_icmp .gt 10, 3) := by decide +kernel
theorem dX9_digitOf_12 : decode cX9_digitOf 12 = .ok (.iload_n 0, 1) := by decide +kernel
theorem dX9_digitOf_13 : decode cX9_digitOf 13 = .ok (.bipush 48, 2) := by decide +kernel
theorem dX9_digitOf_15 : decode cX9_digitOf 15 = .ok (.isub, 1) := by decide +kernel
theorem dX9_digitOf_16 : decode cX9_digitOf 16 = .ok (.iconst 1, 1) := by decide +kernel
theorem dX9_digitOf_17 : decode cX9_digitOf 17 = .ok (.iadd, 1) := by decide +kernel
theorem dX9_digitOf_18 : decode cX9_digitOf 18 = .ok (.ireturn, 1) := by decide +kernel
theorem dX9_digitOf_19 : decode cX9_digitOf 19 = .ok (.iload_n 0, 1) := by decide +kernel
theorem dX9_digitOf_20 : decode cX9_digitOf 20 = .ok (.bipush 97, 2) := by decide +kernel
theorem dX9_digitOf_22 : decode cX9_digitOf 22 = .ok (.if_icmp .lt 17, 3) := by decide +kernel
theorem dX9_digitOf_25 : decode cX9_digitOf 25 = .ok (.iload_n 0, 1) := by decide +kernel
theorem dX9_digitOf_26 : decode cX9_digitOf 26 = .ok (.bipush 122, 2) := by decide +kernel
theorem dX9_digitOf_28 : decode cX9_digitOf 28 = .ok (.if_icmp .gt 11, 3) := by decide +kernel
theorem dX9_digitOf_31 : decode cX9_digitOf 31 = .ok (.iload_n 0, 1) := by decide +kernel
theorem dX9_digitOf_32 : decode cX9_digitOf 32 = .ok (.bipush 97, 2) := by decide +kernel
theorem dX9_digitOf_34 : decode cX9_digitOf 34 = .ok (.isub, 1) := by decide +kernel
theorem dX9_digitOf_35 : decode cX9_digitOf 35 = .ok (.bipush 11, 2) := by decide +kernel
theorem dX9_digitOf_37 : decode cX9_digitOf 37 = .ok (.iadd, 1) := by decide +kernel
theorem dX9_digitOf_38 : decode cX9_digitOf 38 = .ok (.ireturn, 1) := by decide +kernel
theorem dX9_digitOf_39 : decode cX9_digitOf 39 = .ok (.iload_n 0, 1) := by decide +kernel
theorem dX9_digitOf_40 : decode cX9_digitOf 40 = .ok (.bipush 65, 2) := by decide +kernel
theorem dX9_digitOf_42 : decode cX9_digitOf 42 = .ok (.if_icmp .lt 17, 3) := by decide +kernel
theorem dX9_digitOf_45 : decode cX9_digitOf 45 = .ok (.iload_n 0, 1) := by decide +kernel
theorem dX9_digitOf_46 : decode cX9_digitOf 46 = .ok (.bipush 90, 2) := by decide +kernel
theorem dX9_digitOf_48 : decode cX9_digitOf 48 = .ok (.if_icmp .gt 11, 3) := by decide +kernel
theorem dX9_digitOf_51 : decode cX9_digitOf 51 = .ok (.iload_n 0, 1) := by decide +kernel
theorem dX9_digitOf_52 : decode cX9_digitOf 52 = .ok (.bipush 65, 2) := by decide +kernel
theorem dX9_digitOf_54 : decode cX9_digitOf 54 = .ok (.isub, 1) := by decide +kernel
theorem dX9_digitOf_55 : decode cX9_digitOf 55 = .ok (.bipush 11, 2) := by decide +kernel
theorem dX9_digitOf_57 : decode cX9_digitOf 57 = .ok (.iadd, 1) := by decide +kernel
theorem dX9_digitOf_58 : decode cX9_digitOf 58 = .ok (.ireturn, 1) := by decide +kernel
theorem dX9_digitOf_59 : decode cX9_digitOf 59 = .ok (.iconst 0, 1) := by decide +kernel
theorem dX9_digitOf_60 : decode cX9_digitOf 60 = .ok (.ireturn, 1) := by decide +kernel
theorem dX9_digitAt_0 : decode cX9_digitAt 0 = .ok (.iload_n 2, 1) := by decide +kernel
theorem dX9_digitAt_1 : decode cX9_digitAt 1 = .ok (.ifCond .lt 9, 3) := by decide +kernel
theorem dX9_digitAt_4 : decode cX9_digitAt 4 = .ok (.iload_n 2, 1) := by decide +kernel
theorem dX9_digitAt_5 : decode cX9_digitAt 5 = .ok (.bipush 12, 2) := by decide +kernel
theorem dX9_digitAt_7 : decode cX9_digitAt 7 = .ok (.if_icmp .lt 5, 3) := by decide +kernel
theorem dX9_digitAt_10 : decode cX9_digitAt 10 = .ok (.iconst 0, 1) := by decide +kernel
theorem dX9_digitAt_11 : decode cX9_digitAt 11 = .ok (.ireturn, 1) := by decide +kernel
theorem dX9_digitAt_12 : decode cX9_digitAt 12 = .ok (.lload_n 0, 1) := by decide +kernel
theorem dX9_digitAt_13 : decode cX9_digitAt 13 = .ok (.getstatic 50, 3) := by decide +kernel
theorem dX9_digitAt_16 : decode cX9_digitAt 16 = .ok (.bipush 11, 2) := by decide +kernel
theorem dX9_digitAt_18 : decode cX9_digitAt 18 = .ok (.iload_n 2, 1) := by decide +kernel
theorem dX9_digitAt_19 : decode cX9_digitAt 19 = .ok (.isub, 1) := by decide +kernel
theorem dX9_digitAt_20 : decode cX9_digitAt 20 = .ok (.laload, 1) := by decide +kernel
theorem dX9_digitAt_21 : decode cX9_digitAt 21 = .ok (.ldiv, 1) := by decide +kernel
theorem dX9_digitAt_22 : decode cX9_digitAt 22 = .ok (.ldc2_w 53, 3) := by decide +kernel
theorem dX9_digitAt_25 : decode cX9_digitAt 25 = .ok (.lrem, 1) := by decide +kernel
theorem dX9_digitAt_26 : decode cX9_digitAt 26 = .ok (.l2i, 1) := by decide +kernel
theorem dX9_digitAt_27 : decode cX9_digitAt 27 = .ok (.ireturn, 1) := by decide +kernel
theorem dX9_letterAt_0 : decode cX9_letterAt 0 = .ok (.lload_n 0, 1) := by decide +kernel
theorem dX9_letterAt_1 : decode cX9_letterAt 1 = .ok (.iload_n 2, 1) := by decide +kernel
theorem dX9_letterAt_2 : decode cX9_letterAt 2 = .ok (.invokestatic 55, 3) := by decide +kernel
theorem dX9_letterAt_5 : decode cX9_letterAt 5 = .ok (.istore_n 3, 1) := by decide +kernel
theorem dX9_letterAt_6 : decode cX9_letterAt 6 = .ok (.iload_n 3, 1) := by decide +kernel
theorem dX9_letterAt_7 : decode cX9_letterAt 7 = .ok (.ifCond .ne 6, 3) := by decide +kernel
theorem dX9_letterAt_10 : decode cX9_letterAt 10 = .ok (.bipush 32, 2) := by decide +kernel
theorem dX9_letterAt_12 : decode cX9_letterAt 12 = .ok (.ireturn, 1) := by decide +kernel
theorem dX9_letterAt_13 : decode cX9_letterAt 13 = .ok (.iload_n 3, 1) := by decide +kernel
theorem dX9_letterAt_14 : decode cX9_letterAt 14 = .ok (.bipush 11, 2) := by decide +kernel
theorem dX9_letterAt_16 : decode cX9_letterAt 16 = .ok (.if_icmp .ge 12, 3) := by decide +kernel
theorem dX9_letterAt_19 : decode cX9_letterAt 19 = .ok (.bipush 48, 2) := by decide +kernel
theorem dX9_letterAt_21 : decode cX9_letterAt 21 = .ok (.iload_n 3, 1) := by decide +kernel
theorem dX9_letterAt_22 : decode cX9_letterAt 22 = .ok (.iadd, 1) := by decide +kernel
theorem dX9_letterAt_23 : decode cX9_letterAt 23 = .ok (.iconst 1, 1) := by decide +kernel
theorem dX9_letterAt_24 : decode cX9_letterAt 24 = .ok (.isub, 1) := by decide +kernel
theorem dX9_letterAt_25 : decode cX9_letterAt 25 = .ok (.goto 10, 3) := by decide +kernel
theorem dX9_letterAt_28 : decode cX9_letterAt 28 = .ok (.bipush 97, 2) := by decide +kernel
theorem dX9_letterAt_30 : decode cX9_letterAt 30 = .ok (.iload_n 3, 1) := by decide +kernel
theorem dX9_letterAt_31 : decode cX9_letterAt 31 = .ok (.iadd, 1) := by decide +kernel
theorem dX9_letterAt_32 : decode cX9_letterAt 32 = .ok (.bipush 11, 2) := by decide +kernel
theorem dX9_letterAt_34 : decode cX9_letterAt 34 = .ok (.isub, 1) := by decide +kernel
theorem dX9_letterAt_35 : decode cX9_letterAt 35 = .ok (.i2c, 1) := by decide +kernel
theorem dX9_letterAt_36 : decode cX9_letterAt 36 = .ok (.ireturn, 1) := by decide +kernel
theorem dX9_withDigit_0 : decode cX9_withDigit 0 = .ok (.iload_n 2, 1) := by decide +kernel
theorem dX9_withDigit_1 : decode cX9_withDigit 1 = .ok (.ifCond .lt 9, 3) := by decide +kernel
theorem dX9_withDigit_4 : decode cX9_withDigit 4 = .ok (.iload_n 2, 1) := by decide +kernel
theorem dX9_withDigit_5 : decode cX9_withDigit 5 = .ok (.bipush 12, 2) := by decide +kernel
theorem dX9_withDigit_7 : decode cX9_withDigit 7 = .ok (.if_icmp .lt 7, 3) := by decide +kernel
theorem dX9_withDigit_10 : decode cX9_withDigit 10 = .ok (.lload_n 0, 1) := by decide +kernel
theorem dX9_withDigit_11 : decode cX9_withDigit 11 = .ok (.goto 16, 3) := by decide +kernel
theorem dX9_withDigit_14 : decode cX9_withDigit 14 = .ok (.lload_n 0, 1) := by decide +kernel
theorem dX9_withDigit_15 : decode cX9_withDigit 15 = .ok (.iload_n 3, 1) := by decide +kernel
theorem dX9_withDigit_16 : decode cX9_withDigit 16 = .ok (.i2l, 1) := by decide +kernel
theorem dX9_withDigit_17 : decode cX9_withDigit 17 = .ok (.getstatic 50, 3) := by decide +kernel
theorem dX9_withDigit_20 : decode cX9_withDigit 20 = .ok (.bipush 11, 2) := by decide +kernel
theorem dX9_withDigit_22 : decode cX9_withDigit 22 = .ok (.iload_n 2, 1) := by decide +kernel
theorem dX9_withDigit_23 : decode cX9_withDigit 23 = .ok (.isub, 1) := by decide +kernel
theorem dX9_withDigit_24 : decode cX9_withDigit 24 = .ok (.laload, 1) := by decide +kernel
theorem dX9_withDigit_25 : decode cX9_withDigit 25 = .ok (.lmul, 1) := by decide +kernel
theorem dX9_withDigit_26 : decode cX9_withDigit 26 = .ok (.ladd, 1) := by decide +kernel
theorem dX9_withDigit_27 : decode cX9_withDigit 27 = .ok (.lreturn, 1) := by decide +kernel
theorem dX9_lengthOf_0 : decode cX9_lengthOf 0 = .ok (.iconst 0, 1) := by decide +kernel
theorem dX9_lengthOf_1 : decode cX9_lengthOf 1 = .ok (.istore_n 2, 1) := by decide +kernel
theorem dX9_lengthOf_2 : decode cX9_lengthOf 2 = .ok (.iload_n 2, 1) := by decide +kernel
theorem dX9_lengthOf_3 : decode cX9_lengthOf 3 = .ok (.bipush 12, 2) := by decide +kernel
theorem dX9_lengthOf_5 : decode cX9_lengthOf 5 = .ok (.if_icmp .ge 17, 3) := by decide +kernel
theorem dX9_lengthOf_8 : decode cX9_lengthOf 8 = .ok (.lload_n 0, 1) := by decide +kernel
theorem dX9_lengthOf_9 : decode cX9_lengthOf 9 = .ok (.iload_n 2, 1) := by decide +kernel
theorem dX9_lengthOf_10 : decode cX9_lengthOf 10 = .ok (.invokestatic 55, 3) := by decide +kernel
theorem dX9_lengthOf_13 : decode cX9_lengthOf 13 = .ok (.ifCond .eq 9, 3) := by decide +kernel
theorem dX9_lengthOf_16 : decode cX9_lengthOf 16 = .ok (.iinc 2 1, 3) := by decide +kernel
theorem dX9_lengthOf_19 : decode cX9_lengthOf 19 = .ok (.goto (-17), 3) := by decide +kernel
theorem dX9_lengthOf_22 : decode cX9_lengthOf 22 = .ok (.iload_n 2, 1) := by decide +kernel
theorem dX9_lengthOf_23 : decode cX9_lengthOf 23 = .ok (.ireturn, 1) := by decide +kernel
theorem dX9_sharedOf_0 : decode cX9_sharedOf 0 = .ok (.iconst 0, 1) := by decide +kernel
theorem dX9_sharedOf_1 : decode cX9_sharedOf 1 = .ok (.istore 4, 2) := by decide +kernel
theorem dX9_sharedOf_3 : decode cX9_sharedOf 3 = .ok (.iload 4, 2) := by decide +kernel
theorem dX9_sharedOf_5 : decode cX9_sharedOf 5 = .ok (.bipush 12, 2) := by decide +kernel
theorem dX9_sharedOf_7 : decode cX9_sharedOf 7 = .ok (.if_icmp .ge 33, 3) := by decide +kernel
theorem dX9_sharedOf_10 : decode cX9_sharedOf 10 = .ok (.lload_n 0, 1) := by decide +kernel
theorem dX9_sharedOf_11 : decode cX9_sharedOf 11 = .ok (.iload 4, 2) := by decide +kernel
theorem dX9_sharedOf_13 : decode cX9_sharedOf 13 = .ok (.invokestatic 55, 3) := by decide +kernel
theorem dX9_sharedOf_16 : decode cX9_sharedOf 16 = .ok (.ifCond .eq 24, 3) := by decide +kernel
theorem dX9_sharedOf_19 : decode cX9_sharedOf 19 = .ok (.lload_n 0, 1) := by decide +kernel
theorem dX9_sharedOf_20 : decode cX9_sharedOf 20 = .ok (.iload 4, 2) := by decide +kernel
theorem dX9_sharedOf_22 : decode cX9_sharedOf 22 = .ok (.invokestatic 55, 3) := by decide +kernel
theorem dX9_sharedOf_25 : decode cX9_sharedOf 25 = .ok (.lload_n 2, 1) := by decide +kernel
theorem dX9_sharedOf_26 : decode cX9_sharedOf 26 = .ok (.iload 4, 2) := by decide +kernel
theorem dX9_sharedOf_28 : decode cX9_sharedOf 28 = .ok (.invokestatic 55, 3) := by decide +kernel
theorem dX9_sharedOf_31 : decode cX9_sharedOf 31 = .ok (.if_icmp .ne 9, 3) := by decide +kernel
theorem dX9_sharedOf_34 : decode cX9_sharedOf 34 = .ok (.iinc 4 1, 3) := by decide +kernel
theorem dX9_sharedOf_37 : decode cX9_sharedOf 37 = .ok (.goto (-34), 3) := by decide +kernel
theorem dX9_sharedOf_40 : decode cX9_sharedOf 40 = .ok (.iload 4, 2) := by decide +kernel
theorem dX9_sharedOf_42 : decode cX9_sharedOf 42 = .ok (.ireturn, 1) := by decide +kernel
theorem dX9_stemOf_0 : decode cX9_stemOf 0 = .ok (.lload_n 0, 1) := by decide +kernel
theorem dX9_stemOf_1 : decode cX9_stemOf 1 = .ok (.invokestatic 59, 3) := by decide +kernel
theorem dX9_stemOf_4 : decode cX9_stemOf 4 = .ok (.istore_n 2, 1) := by decide +kernel
theorem dX9_stemOf_5 : decode cX9_stemOf 5 = .ok (.iload_n 2, 1) := by decide +kernel
theorem dX9_stemOf_6 : decode cX9_stemOf 6 = .ok (.bipush 6, 2) := by decide +kernel
theorem dX9_stemOf_8 : decode cX9_stemOf 8 = .ok (.if_icmp .lt 25, 3) := by decide +kernel
theorem dX9_stemOf_11 : decode cX9_stemOf 11 = .ok (.lload_n 0, 1) := by decide +kernel
theorem dX9_stemOf_12 : decode cX9_stemOf 12 = .ok (.iload_n 2, 1) := by decide +kernel
theorem dX9_stemOf_13 : decode cX9_stemOf 13 = .ok (.bipush 105, 2) := by decide +kernel
theorem dX9_stemOf_15 : decode cX9_stemOf 15 = .ok (.bipush 110, 2) := by decide +kernel
theorem dX9_stemOf_17 : decode cX9_stemOf 17 = .ok (.bipush 103, 2) := by decide +kernel
theorem dX9_stemOf_19 : decode cX9_stemOf 19 = .ok (.invokestatic 62, 3) := by decide +kernel
theorem dX9_stemOf_22 : decode cX9_stemOf 22 = .ok (.ifCond .eq 11, 3) := by decide +kernel
theorem dX9_stemOf_25 : decode cX9_stemOf 25 = .ok (.lload_n 0, 1) := by decide +kernel
theorem dX9_stemOf_26 : decode cX9_stemOf 26 = .ok (.iload_n 2, 1) := by decide +kernel
theorem dX9_stemOf_27 : decode cX9_stemOf 27 = .ok (.iconst 3, 1) := by decide +kernel
theorem dX9_stemOf_28 : decode cX9_stemOf 28 = .ok (.isub, 1) := by decide +kernel
theorem dX9_stemOf_29 : decode cX9_stemOf 29 = .ok (.invokestatic 66, 3) := by decide +kernel
theorem dX9_stemOf_32 : decode cX9_stemOf 32 = .ok (.lreturn, 1) := by decide +kernel
theorem dX9_stemOf_33 : decode cX9_stemOf 33 = .ok (.iload_n 2, 1) := by decide +kernel
theorem dX9_stemOf_34 : decode cX9_stemOf 34 = .ok (.iconst 5, 1) := by decide +kernel
theorem dX9_stemOf_35 : decode cX9_stemOf 35 = .ok (.if_icmp .lt 25, 3) := by decide +kernel
theorem dX9_stemOf_38 : decode cX9_stemOf 38 = .ok (.lload_n 0, 1) := by decide +kernel
theorem dX9_stemOf_39 : decode cX9_stemOf 39 = .ok (.iload_n 2, 1) := by decide +kernel
theorem dX9_stemOf_40 : decode cX9_stemOf 40 = .ok (.bipush 32, 2) := by decide +kernel
theorem dX9_stemOf_42 : decode cX9_stemOf 42 = .ok (.bipush 101, 2) := by decide +kernel
theorem dX9_stemOf_44 : decode cX9_stemOf 44 = .ok (.bipush 100, 2) := by decide +kernel
theorem dX9_stemOf_46 : decode cX9_stemOf 46 = .ok (.invokestatic 62, 3) := by decide +kernel
theorem dX9_stemOf_49 : decode cX9_stemOf 49 = .ok (.ifCond .eq 11, 3) := by decide +kernel
theorem dX9_stemOf_52 : decode cX9_stemOf 52 = .ok (.lload_n 0, 1) := by decide +kernel
theorem dX9_stemOf_53 : decode cX9_stemOf 53 = .ok (.iload_n 2, 1) := by decide +kernel
theorem dX9_stemOf_54 : decode cX9_stemOf 54 = .ok (.iconst 2, 1) := by decide +kernel
theorem dX9_stemOf_55 : decode cX9_stemOf 55 = .ok (.isub, 1) := by decide +kernel
theorem dX9_stemOf_56 : decode cX9_stemOf 56 = .ok (.invokestatic 66, 3) := by decide +kernel
theorem dX9_stemOf_59 : decode cX9_stemOf 59 = .ok (.lreturn, 1) := by decide +kernel
theorem dX9_stemOf_60 : decode cX9_stemOf 60 = .ok (.iload_n 2, 1) := by decide +kernel
theorem dX9_stemOf_61 : decode cX9_stemOf 61 = .ok (.iconst 4, 1) := by decide +kernel
theorem dX9_stemOf_62 : decode cX9_stemOf 62 = .ok (.if_icmp .lt 39, 3) := by decide +kernel
theorem dX9_stemOf_65 : decode cX9_stemOf 65 = .ok (.lload_n 0, 1) := by decide +kernel
theorem dX9_stemOf_66 : decode cX9_stemOf 66 = .ok (.iload_n 2, 1) := by decide +kernel
theorem dX9_stemOf_67 : decode cX9_stemOf 67 = .ok (.bipush 32, 2) := by decide +kernel
theorem dX9_stemOf_69 : decode cX9_stemOf 69 = .ok (.bipush 32, 2) := by decide +kernel
theorem dX9_stemOf_71 : decode cX9_stemOf 71 = .ok (.bipush 115, 2) := by decide +kernel
theorem dX9_stemOf_73 : decode cX9_stemOf 73 = .ok (.invokestatic 62, 3) := by decide +kernel
theorem dX9_stemOf_76 : decode cX9_stemOf 76 = .ok (.ifCond .eq 25, 3) := by decide +kernel
theorem dX9_stemOf_79 : decode cX9_stemOf 79 = .ok (.lload_n 0, 1) := by decide +kernel
theorem dX9_stemOf_80 : decode cX9_stemOf 80 = .ok (.iload_n 2, 1) := by decide +kernel
theorem dX9_stemOf_81 : decode cX9_stemOf 81 = .ok (.bipush 32, 2) := by decide +kernel
theorem dX9_stemOf_83 : decode cX9_stemOf 83 = .ok (.bipush 115, 2) := by decide +kernel
theorem dX9_stemOf_85 : decode cX9_stemOf 85 = .ok (.bipush 115, 2) := by decide +kernel
theorem dX9_stemOf_87 : decode cX9_stemOf 87 = .ok (.invokestatic 62, 3) := by decide +kernel
theorem dX9_stemOf_90 : decode cX9_stemOf 90 = .ok (.ifCond .ne 11, 3) := by decide +kernel
theorem dX9_stemOf_93 : decode cX9_stemOf 93 = .ok (.lload_n 0, 1) := by decide +kernel
theorem dX9_stemOf_94 : decode cX9_stemOf 94 = .ok (.iload_n 2, 1) := by decide +kernel
theorem dX9_stemOf_95 : decode cX9_stemOf 95 = .ok (.iconst 1, 1) := by decide +kernel
theorem dX9_stemOf_96 : decode cX9_stemOf 96 = .ok (.isub, 1) := by decide +kernel
theorem dX9_stemOf_97 : decode cX9_stemOf 97 = .ok (.invokestatic 66, 3) := by decide +kernel
theorem dX9_stemOf_100 : decode cX9_stemOf 100 = .ok (.lreturn, 1) := by decide +kernel
theorem dX9_stemOf_101 : decode cX9_stemOf 101 = .ok (.lload_n 0, 1) := by decide +kernel
theorem dX9_stemOf_102 : decode cX9_stemOf 102 = .ok (.lreturn, 1) := by decide +kernel
theorem dX9_isEnding_0 : decode cX9_isEnding 0 = .ok (.iload_n 3, 1) := by decide +kernel
theorem dX9_isEnding_1 : decode cX9_isEnding 1 = .ok (.bipush 32, 2) := by decide +kernel
theorem dX9_isEnding_3 : decode cX9_isEnding 3 = .ok (.if_icmp .eq 17, 3) := by decide +kernel
theorem dX9_isEnding_6 : decode cX9_isEnding 6 = .ok (.lload_n 0, 1) := by decide +kernel
theorem dX9_isEnding_7 : decode cX9_isEnding 7 = .ok (.iload_n 2, 1) := by decide +kernel
theorem dX9_isEnding_8 : decode cX9_isEnding 8 = .ok (.iconst 3, 1) := by decide +kernel
theorem dX9_isEnding_9 : decode cX9_isEnding 9 = .ok (.isub, 1) := by decide +kernel
theorem dX9_isEnding_10 : decode cX9_isEnding 10 = .ok (.invokestatic 55, 3) := by decide +kernel
theorem dX9_isEnding_13 : decode cX9_isEnding 13 = .ok (.iload_n 3, 1) := by decide +kernel
theorem dX9_isEnding_14 : decode cX9_isEnding 14 = .ok (.invokestatic 70, 3) := by decide +kernel
theorem dX9_isEnding_17 : decode cX9_isEnding 17 = .ok (.if_icmp .ne 44, 3) := by decide +kernel
theorem dX9_isEnding_20 : decode cX9_isEnding 20 = .ok (.iload 4, 2) := by decide +kernel
theorem dX9_isEnding_22 : decode cX9_isEnding 22 = .ok (.bipush 32, 2) := by decide +kernel
theorem dX9_isEnding_24 : decode cX9_isEnding 24 = .ok (.if_icmp .eq 18, 3) := by decide +kernel
theorem dX9_isEnding_27 : decode cX9_isEnding 27 = .ok (.lload_n 0, 1) := by decide +kernel
theorem dX9_isEnding_28 : decode cX9_isEnding 28 = .ok (.iload_n 2, 1) := by decide +kernel
theorem dX9_isEnding_29 : decode cX9_isEnding 29 = .ok (.iconst 2, 1) := by decide +kernel
theorem dX9_isEnding_30 : decode cX9_isEnding 30 = .ok (.isub, 1) := by decide +kernel
theorem dX9_isEnding_31 : decode cX9_isEnding 31 = .ok (.invokestatic 55, 3) := by decide +kernel
theorem dX9_isEnding_34 : decode cX9_isEnding 34 = .ok (.iload 4, 2) := by decide +kernel
theorem dX9_isEnding_36 : decode cX9_isEnding 36 = .ok (.invokestatic 70, 3) := by decide +kernel
theorem dX9_isEnding_39 : decode cX9_isEnding 39 = .ok (.if_icmp .ne 22, 3) := by decide +kernel
theorem dX9_isEnding_42 : decode cX9_isEnding 42 = .ok (.lload_n 0, 1) := by decide +kernel
theorem dX9_isEnding_43 : decode cX9_isEnding 43 = .ok (.iload_n 2, 1) := by decide +kernel
theorem dX9_isEnding_44 : decode cX9_isEnding 44 = .ok (.iconst 1, 1) := by decide +kernel
theorem dX9_isEnding_45 : decode cX9_isEnding 45 = .ok (.isub, 1) := by decide +kernel
theorem dX9_isEnding_46 : decode cX9_isEnding 46 = .ok (.invokestatic 55, 3) := by decide +kernel
theorem dX9_isEnding_49 : decode cX9_isEnding 49 = .ok (.iload 5, 2) := by decide +kernel
theorem dX9_isEnding_51 : decode cX9_isEnding 51 = .ok (.invokestatic 70, 3) := by decide +kernel
theorem dX9_isEnding_54 : decode cX9_isEnding 54 = .ok (.if_icmp .ne 7, 3) := by decide +kernel
theorem dX9_isEnding_57 : decode cX9_isEnding 57 = .ok (.iconst 1, 1) := by decide +kernel
theorem dX9_isEnding_58 : decode cX9_isEnding 58 = .ok (.goto 4, 3) := by decide +kernel
theorem dX9_isEnding_61 : decode cX9_isEnding 61 = .ok (.iconst 0, 1) := by decide +kernel
theorem dX9_isEnding_62 : decode cX9_isEnding 62 = .ok (.ireturn, 1) := by decide +kernel
theorem dX9_cutTo_0 : decode cX9_cutTo 0 = .ok (.iload_n 2, 1) := by decide +kernel
theorem dX9_cutTo_1 : decode cX9_cutTo 1 = .ok (.iconst 1, 1) := by decide +kernel
theorem dX9_cutTo_2 : decode cX9_cutTo 2 = .ok (.if_icmp .lt 9, 3) := by decide +kernel
theorem dX9_cutTo_5 : decode cX9_cutTo 5 = .ok (.iload_n 2, 1) := by decide +kernel
theorem dX9_cutTo_6 : decode cX9_cutTo 6 = .ok (.bipush 12, 2) := by decide +kernel
theorem dX9_cutTo_8 : decode cX9_cutTo 8 = .ok (.if_icmp .le 5, 3) := by decide +kernel
theorem dX9_cutTo_11 : decode cX9_cutTo 11 = .ok (.lload_n 0, 1) := by decide +kernel
theorem dX9_cutTo_12 : decode cX9_cutTo 12 = .ok (.lreturn, 1) := by decide +kernel
theorem dX9_cutTo_13 : decode cX9_cutTo 13 = .ok (.lload_n 0, 1) := by decide +kernel
theorem dX9_cutTo_14 : decode cX9_cutTo 14 = .ok (.lload_n 0, 1) := by decide +kernel
theorem dX9_cutTo_15 : decode cX9_cutTo 15 = .ok (.getstatic 50, 3) := by decide +kernel
theorem dX9_cutTo_18 : decode cX9_cutTo 18 = .ok (.bipush 12, 2) := by decide +kernel
theorem dX9_cutTo_20 : decode cX9_cutTo 20 = .ok (.iload_n 2, 1) := by decide +kernel
theorem dX9_cutTo_21 : decode cX9_cutTo 21 = .ok (.isub, 1) := by decide +kernel
theorem dX9_cutTo_22 : decode cX9_cutTo 22 = .ok (.laload, 1) := by decide +kernel
theorem dX9_cutTo_23 : decode cX9_cutTo 23 = .ok (.lrem, 1) := by decide +kernel
theorem dX9_cutTo_24 : decode cX9_cutTo 24 = .ok (.lsub, 1) := by decide +kernel
theorem dX9_cutTo_25 : decode cX9_cutTo 25 = .ok (.lreturn, 1) := by decide +kernel
