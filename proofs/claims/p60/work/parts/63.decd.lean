theorem dX11_near_19 : decode cX11_near 19 = .ok (.ldc_w 343, 3) := by decide +kernel
theorem dX11_near_22 : decode cX11_near 22 = .ok (.invokespecial 104, 3) := by decide +kernel
theorem dX11_near_25 : decode cX11_near 25 = .ok (.athrow, 1) := by decide +kernel
theorem dX11_near_26 : decode cX11_near 26 = .ok (.aload_n 0, 1) := by decide +kernel
theorem dX11_near_27 : decode cX11_near 27 = .ok (.aload_n 0, 1) := by decide +kernel
theorem dX11_near_28 : decode cX11_near 28 = .ok (.getfield 10, 3) := by decide +kernel
theorem dX11_near_31 : decode cX11_near 31 = .ok (.invokevirtual 324, 3) := by decide +kernel
theorem dX11_near_34 : decode cX11_near 34 = .ok (.iconst 2, 1) := by decide +kernel
theorem dX11_near_35 : decode cX11_near 35 = .ok (.if_icmp .ne 7, 3) := by decide +kernel
theorem dX11_near_38 : decode cX11_near 38 = .ok (.iconst 1, 1) := by decide +kernel
theorem dX11_near_39 : decode cX11_near 39 = .ok (.goto 4, 3) := by decide +kernel
theorem dX11_near_42 : decode cX11_near 42 = .ok (.iconst 0, 1) := by decide +kernel
theorem dX11_near_43 : decode cX11_near 43 = .ok (.invokevirtual 327, 3) := by decide +kernel
theorem dX11_near_46 : decode cX11_near 46 = .ok (.iconst 1, 1) := by decide +kernel
theorem dX11_near_47 : decode cX11_near 47 = .ok (.iload_n 1, 1) := by decide +kernel
theorem dX11_near_48 : decode cX11_near 48 = .ok (.iload_n 2, 1) := by decide +kernel
theorem dX11_near_49 : decode cX11_near 49 = .ok (.aload_n 0, 1) := by decide +kernel
theorem dX11_near_50 : decode cX11_near 50 = .ok (.getfield 10, 3) := by decide +kernel
theorem dX11_near_53 : decode cX11_near 53 = .ok (.invokevirtual 125, 3) := by decide +kernel
theorem dX11_near_56 : decode cX11_near 56 = .ok (.invokestatic 333, 3) := by decide +kernel
theorem dX11_near_59 : decode cX11_near 59 = .ok (.astore 4, 2) := by decide +kernel
theorem dX11_near_61 : decode cX11_near 61 = .ok (.aload 4, 2) := by decide +kernel
theorem dX11_near_63 : decode cX11_near 63 = .ok (.iload_n 3, 1) := by decide +kernel
theorem dX11_near_64 : decode cX11_near 64 = .ok (.putfield 345, 3) := by decide +kernel
theorem dX11_near_67 : decode cX11_near 67 = .ok (.aload_n 0, 1) := by decide +kernel
theorem dX11_near_68 : decode cX11_near 68 = .ok (.getfield 61, 3) := by decide +kernel
theorem dX11_near_71 : decode cX11_near 71 = .ok (.aload 4, 2) := by decide +kernel
theorem dX11_near_73 : decode cX11_near 73 = .ok (.invokevirtual 337, 3) := by decide +kernel
theorem dX11_near_76 : decode cX11_near 76 = .ok (.ireturn, 1) := by decide +kernel
theorem dX11_prefix_0 : decode cX11_prefix 0 = .ok (.iload_n 1, 1) := by decide +kernel
theorem dX11_prefix_1 : decode cX11_prefix 1 = .ok (.invokestatic 152, 3) := by decide +kernel
theorem dX11_prefix_4 : decode cX11_prefix 4 = .ok (.aload_n 0, 1) := by decide +kernel
theorem dX11_prefix_5 : decode cX11_prefix 5 = .ok (.aload_n 0, 1) := by decide +kernel
theorem dX11_prefix_6 : decode cX11_prefix 6 = .ok (.getfield 10, 3) := by decide +kernel
theorem dX11_prefix_9 : decode cX11_prefix 9 = .ok (.invokevirtual 129, 3) := by decide +kernel
theorem dX11_prefix_12 : decode cX11_prefix 12 = .ok (.iconst 1, 1) := by decide +kernel
theorem dX11_prefix_13 : decode cX11_prefix 13 = .ok (.if_icmp .ne 7, 3) := by decide +kernel
theorem dX11_prefix_16 : decode cX11_prefix 16 = .ok (.iconst 1, 1) := by decide +kernel
theorem dX11_prefix_17 : decode cX11_prefix 17 = .ok (.goto 4, 3) := by decide +kernel
theorem dX11_prefix_20 : decode cX11_prefix 20 = .ok (.iconst 0, 1) := by decide +kernel
theorem dX11_prefix_21 : decode cX11_prefix 21 = .ok (.invokevirtual 327, 3) := by decide +kernel
theorem dX11_prefix_24 : decode cX11_prefix 24 = .ok (.aload_n 0, 1) := by decide +kernel
theorem dX11_prefix_25 : decode cX11_prefix 25 = .ok (.getfield 10, 3) := by decide +kernel
theorem dX11_prefix_28 : decode cX11_prefix 28 = .ok (.invokevirtual 125, 3) := by decide +kernel
theorem dX11_prefix_31 : decode cX11_prefix 31 = .ok (.pop, 1) := by decide +kernel
theorem dX11_prefix_32 : decode cX11_prefix 32 = .ok (.aload_n 0, 1) := by decide +kernel
theorem dX11_prefix_33 : decode cX11_prefix 33 = .ok (.getfield 61, 3) := by decide +kernel
theorem dX11_prefix_36 : decode cX11_prefix 36 = .ok (.iload_n 1, 1) := by decide +kernel
theorem dX11_prefix_37 : decode cX11_prefix 37 = .ok (.aload_n 0, 1) := by decide +kernel
theorem dX11_prefix_38 : decode cX11_prefix 38 = .ok (.getfield 10, 3) := by decide +kernel
theorem dX11_prefix_41 : decode cX11_prefix 41 = .ok (.iconst 0, 1) := by decide +kernel
theorem dX11_prefix_42 : decode cX11_prefix 42 = .ok (.invokevirtual 348, 3) := by decide +kernel
theorem dX11_prefix_45 : decode cX11_prefix 45 = .ok (.invokestatic 352, 3) := by decide +kernel
theorem dX11_prefix_48 : decode cX11_prefix 48 = .ok (.invokevirtual 337, 3) := by decide +kernel
theorem dX11_prefix_51 : decode cX11_prefix 51 = .ok (.ireturn, 1) := by decide +kernel
theorem dX11_wild_0 : decode cX11_wild 0 = .ok (.iload_n 1, 1) := by decide +kernel
theorem dX11_wild_1 : decode cX11_wild 1 = .ok (.invokestatic 152, 3) := by decide +kernel
theorem dX11_wild_4 : decode cX11_wild 4 = .ok (.aload_n 0, 1) := by decide +kernel
theorem dX11_wild_5 : decode cX11_wild 5 = .ok (.aload_n 0, 1) := by decide +kernel
theorem dX11_wild_6 : decode cX11_wild 6 = .ok (.getfield 10, 3) := by decide +kernel
theorem dX11_wild_9 : decode cX11_wild 9 = .ok (.getfield 107, 3) := by decide +kernel
theorem dX11_wild_12 : decode cX11_wild 12 = .ok (.invokestatic 356, 3) := by decide +kernel
theorem dX11_wild_15 : decode cX11_wild 15 = .ok (.invokevirtual 327, 3) := by decide +kernel
theorem dX11_wild_18 : decode cX11_wild 18 = .ok (.aload_n 0, 1) := by decide +kernel
theorem dX11_wild_19 : decode cX11_wild 19 = .ok (.getfield 61, 3) := by decide +kernel
theorem dX11_wild_22 : decode cX11_wild 22 = .ok (.iload_n 1, 1) := by decide +kernel
theorem dX11_wild_23 : decode cX11_wild 23 = .ok (.aload_n 0, 1) := by decide +kernel
theorem dX11_wild_24 : decode cX11_wild 24 = .ok (.getfield 10, 3) := by decide +kernel
theorem dX11_wild_27 : decode cX11_wild 27 = .ok (.invokevirtual 125, 3) := by decide +kernel
theorem dX11_wild_30 : decode cX11_wild 30 = .ok (.invokestatic 360, 3) := by decide +kernel
theorem dX11_wild_33 : decode cX11_wild 33 = .ok (.invokevirtual 337, 3) := by decide +kernel
theorem dX11_wild_36 : decode cX11_wild 36 = .ok (.ireturn, 1) := by decide +kernel
theorem dX11_fuzzy_0 : decode cX11_fuzzy 0 = .ok (.iload_n 1, 1) := by decide +kernel
theorem dX11_fuzzy_1 : decode cX11_fuzzy 1 = .ok (.invokestatic 152, 3) := by decide +kernel
theorem dX11_fuzzy_4 : decode cX11_fuzzy 4 = .ok (.iload_n 2, 1) := by decide +kernel
theorem dX11_fuzzy_5 : decode cX11_fuzzy 5 = .ok (.ifCond .lt 8, 3) := by decide +kernel
theorem dX11_fuzzy_8 : decode cX11_fuzzy 8 = .ok (.iload_n 2, 1) := by decide +kernel
theorem dX11_fuzzy_9 : decode cX11_fuzzy 9 = .ok (.iconst 2, 1) := by decide +kernel
theorem dX11_fuzzy_10 : decode cX11_fuzzy 10 = .ok (.if_icmp .le 14, 3) := by decide +kernel
theorem dX11_fuzzy_13 : decode cX11_fuzzy 13 = .ok (.new 100, 3) := by decide +kernel
theorem dX11_fuzzy_16 : decode cX11_fuzzy 16 = .ok (.dup, 1) := by decide +kernel
theorem dX11_fuzzy_17 : decode cX11_fuzzy 17 = .ok (.ldc_w 364, 3) := by decide +kernel
theorem dX11_fuzzy_20 : decode cX11_fuzzy 20 = .ok (.invokespecial 104, 3) := by decide +kernel
theorem dX11_fuzzy_23 : decode cX11_fuzzy 23 = .ok (.athrow, 1) := by decide +kernel
theorem dX11_fuzzy_24 : decode cX11_fuzzy 24 = .ok (.aload_n 0, 1) := by decide +kernel
theorem dX11_fuzzy_25 : decode cX11_fuzzy 25 = .ok (.aload_n 0, 1) := by decide +kernel
theorem dX11_fuzzy_26 : decode cX11_fuzzy 26 = .ok (.getfield 10, 3) := by decide +kernel
theorem dX11_fuzzy_29 : decode cX11_fuzzy 29 = .ok (.invokevirtual 129, 3) := by decide +kernel
theorem dX11_fuzzy_32 : decode cX11_fuzzy 32 = .ok (.iconst 1, 1) := by decide +kernel
theorem dX11_fuzzy_33 : decode cX11_fuzzy 33 = .ok (.if_icmp .ne 7, 3) := by decide +kernel
theorem dX11_fuzzy_36 : decode cX11_fuzzy 36 = .ok (.iconst 1, 1) := by decide +kernel
theorem dX11_fuzzy_37 : decode cX11_fuzzy 37 = .ok (.goto 4, 3) := by decide +kernel
theorem dX11_fuzzy_40 : decode cX11_fuzzy 40 = .ok (.iconst 0, 1) := by decide +kernel
theorem dX11_fuzzy_41 : decode cX11_fuzzy 41 = .ok (.invokevirtual 327, 3) := by decide +kernel
theorem dX11_fuzzy_44 : decode cX11_fuzzy 44 = .ok (.aload_n 0, 1) := by decide +kernel
theorem dX11_fuzzy_45 : decode cX11_fuzzy 45 = .ok (.getfield 10, 3) := by decide +kernel
theorem dX11_fuzzy_48 : decode cX11_fuzzy 48 = .ok (.invokevirtual 125, 3) := by decide +kernel
theorem dX11_fuzzy_51 : decode cX11_fuzzy 51 = .ok (.pop, 1) := by decide +kernel
theorem dX11_fuzzy_52 : decode cX11_fuzzy 52 = .ok (.aload_n 0, 1) := by decide +kernel
theorem dX11_fuzzy_53 : decode cX11_fuzzy 53 = .ok (.getfield 61, 3) := by decide +kernel
theorem dX11_fuzzy_56 : decode cX11_fuzzy 56 = .ok (.iload_n 1, 1) := by decide +kernel
theorem dX11_fuzzy_57 : decode cX11_fuzzy 57 = .ok (.iload_n 2, 1) := by decide +kernel
theorem dX11_fuzzy_58 : decode cX11_fuzzy 58 = .ok (.aload_n 0, 1) := by decide +kernel
theorem dX11_fuzzy_59 : decode cX11_fuzzy 59 = .ok (.getfield 10, 3) := by decide +kernel
theorem dX11_fuzzy_62 : decode cX11_fuzzy 62 = .ok (.iconst 0, 1) := by decide +kernel
theorem dX11_fuzzy_63 : decode cX11_fuzzy 63 = .ok (.invokevirtual 348, 3) := by decide +kernel
theorem dX11_fuzzy_66 : decode cX11_fuzzy 66 = .ok (.invokestatic 366, 3) := by decide +kernel
theorem dX11_fuzzy_69 : decode cX11_fuzzy 69 = .ok (.invokevirtual 337, 3) := by decide +kernel
theorem dX11_fuzzy_72 : decode cX11_fuzzy 72 = .ok (.ireturn, 1) := by decide +kernel
theorem dX11_least_0 : decode cX11_least 0 = .ok (.iload_n 1, 1) := by decide +kernel
theorem dX11_least_1 : decode cX11_least 1 = .ok (.iconst 2, 1) := by decide +kernel
theorem dX11_least_2 : decode cX11_least 2 = .ok (.if_icmp .lt 19, 3) := by decide +kernel
theorem dX11_least_5 : decode cX11_least 5 = .ok (.iload_n 1, 1) := by decide +kernel
theorem dX11_least_6 : decode cX11_least 6 = .ok (.bipush 8, 2) := by decide +kernel
theorem dX11_least_8 : decode cX11_least 8 = .ok (.if_icmp .gt 13, 3) := by decide +kernel
theorem dX11_least_11 : decode cX11_least 11 = .ok (.iload_n 2, 1) := by decide +kernel
theorem dX11_least_12 : decode cX11_least 12 = .ok (.iconst 1, 1) := by decide +kernel
theorem dX11_least_13 : decode cX11_least 13 = .ok (.if_icmp .lt 8, 3) := by decide +kernel
theorem dX11_least_16 : decode cX11_least 16 = .ok (.iload_n 2, 1) := by decide +kernel
theorem dX11_least_17 : decode cX11_least 17 = .ok (.iload_n 1, 1) := by decide +kernel
theorem dX11_least_18 : decode cX11_least 18 = .ok (.if_icmp .le 14, 3) := by decide +kernel
theorem dX11_least_21 : decode cX11_least 21 = .ok (.new 100, 3) := by decide +kernel
theorem dX11_least_24 : decode cX11_least 24 = .ok (.dup, 1) := by decide +kernel
theorem dX11_least_25 : decode cX11_least 25 = .ok (.ldc_w 370, 3) := by decide +kernel
theorem dX11_least_28 : decode cX11_least 28 = .ok (.invokespecial 104, 3) := by decide +kernel
theorem dX11_least_31 : decode cX11_least 31 = .ok (.athrow, 1) := by decide +kernel
theorem dX11_least_32 : decode cX11_least 32 = .ok (.aload_n 0, 1) := by decide +kernel
theorem dX11_least_33 : decode cX11_least 33 = .ok (.iload_n 1, 1) := by decide +kernel
theorem dX11_least_34 : decode cX11_least 34 = .ok (.invokevirtual 372, 3) := by decide +kernel
theorem dX11_least_37 : decode cX11_least 37 = .ok (.aload_n 0, 1) := by decide +kernel
theorem dX11_least_38 : decode cX11_least 38 = .ok (.getfield 61, 3) := by decide +kernel
theorem dX11_least_41 : decode cX11_least 41 = .ok (.iconst 4, 1) := by decide +kernel
theorem dX11_least_42 : decode cX11_least 42 = .ok (.iload_n 1, 1) := by decide +kernel
theorem dX11_least_43 : decode cX11_least 43 = .ok (.iload_n 2, 1) := by decide +kernel
theorem dX11_least_44 : decode cX11_least 44 = .ok (.invokestatic 375, 3) := by decide +kernel
theorem dX11_least_47 : decode cX11_least 47 = .ok (.invokevirtual 379, 3) := by decide +kernel
theorem dX11_least_50 : decode cX11_least 50 = .ok (.ireturn, 1) := by decide +kernel
theorem dX11_but_0 : decode cX11_but 0 = .ok (.aload_n 0, 1) := by decide +kernel
theorem dX11_but_1 : decode cX11_but 1 = .ok (.iconst 2, 1) := by decide +kernel
theorem dX11_but_2 : decode cX11_but 2 = .ok (.invokevirtual 372, 3) := by decide +kernel
theorem dX11_but_5 : decode cX11_but 5 = .ok (.aload_n 0, 1) := by decide +kernel
theorem dX11_but_6 : decode cX11_but 6 = .ok (.getfield 61, 3) := by decide +kernel
theorem dX11_but_9 : decode cX11_but 9 = .ok (.invokevirtual 382, 3) := by decide +kernel
theorem dX11_but_12 : decode cX11_but 12 = .ok (.aload_n 0, 1) := by decide +kernel
theorem dX11_but_13 : decode cX11_but 13 = .ok (.getfield 61, 3) := by decide +kernel
theorem dX11_but_16 : decode cX11_but 16 = .ok (.iconst 5, 1) := by decide +kernel
theorem dX11_but_17 : decode cX11_but 17 = .ok (.iconst 2, 1) := by decide +kernel
theorem dX11_but_18 : decode cX11_but 18 = .ok (.iconst 1, 1) := by decide +kernel
theorem dX11_but_19 : decode cX11_but 19 = .ok (.invokestatic 375, 3) := by decide +kernel
theorem dX11_but_22 : decode cX11_but 22 = .ok (.invokevirtual 379, 3) := by decide +kernel
theorem dX11_but_25 : decode cX11_but 25 = .ok (.ireturn, 1) := by decide +kernel
theorem dX11_query_0 : decode cX11_query 0 = .ok (.aload_n 0, 1) := by decide +kernel
theorem dX11_query_1 : decode cX11_query 1 = .ok (.getfield 61, 3) := by decide +kernel
theorem dX11_query_4 : decode cX11_query 4 = .ok (.getfield 385, 3) := by decide +kernel
theorem dX11_query_7 : decode cX11_query 7 = .ok (.iconst 1, 1) := by decide +kernel
theorem dX11_query_8 : decode cX11_query 8 = .ok (.if_icmp .ne 15, 3) := by decide +kernel
theorem dX11_query_11 : decode cX11_query 11 = .ok (.aload_n 0, 1) := by decide +kernel
theorem dX11_query_12 : decode cX11_query 12 = .ok (.getfield 65, 3) := by decide +kernel
theorem dX11_query_15 : decode cX11_query 15 = .ok (.invokevirtual 180, 3) := by decide +kernel
theorem dX11_query_18 : decode cX11_query 18 = .ok (.bipush 40, 2) := by decide +kernel
theorem dX11_query_20 : decode cX11_query 20 = .ok (.if_icmp .lt 14, 3) := by decide +kernel
theorem dX11_query_23 : decode cX11_query 23 = .ok (.new 116, 3) := by decide +kernel
theorem dX11_query_26 : decode cX11_query 26 = .ok (.dup, 1) := by decide +kernel
theorem dX11_query_27 : decode cX11_query 27 = .ok (.ldc_w 388, 3) := by decide +kernel
theorem dX11_query_30 : decode cX11_query 30 = .ok (.invokespecial 120, 3) := by decide +kernel
theorem dX11_query_33 : decode cX11_query 33 = .ok (.athrow, 1) := by decide +kernel
theorem dX11_query_34 : decode cX11_query 34 = .ok (.aload_n 0, 1) := by decide +kernel
theorem dX11_query_35 : decode cX11_query 35 = .ok (.getfield 65, 3) := by decide +kernel
theorem dX11_query_38 : decode cX11_query 38 = .ok (.aload_n 0, 1) := by decide +kernel
theorem dX11_query_39 : decode cX11_query 39 = .ok (.getfield 61, 3) := by decide +kernel
theorem dX11_query_42 : decode cX11_query 42 = .ok (.invokevirtual 200, 3) := by decide +kernel
theorem dX11_query_45 : decode cX11_query 45 = .ok (.pop, 1) := by decide +kernel
theorem dX11_query_46 : decode cX11_query 46 = .ok (.aload_n 0, 1) := by decide +kernel
theorem dX11_query_47 : decode cX11_query 47 = .ok (.new 58, 3) := by decide +kernel
theorem dX11_query_50 : decode cX11_query 50 = .ok (.dup, 1) := by decide +kernel
theorem dX11_query_51 : decode cX11_query 51 = .ok (.invokespecial 60, 3) := by decide +kernel
theorem dX11_query_54 : decode cX11_query 54 = .ok (.putfield 61, 3) := by decide +kernel
theorem dX11_query_57 : decode cX11_query 57 = .ok (.aload_n 0, 1) := by decide +kernel
theorem dX11_query_58 : decode cX11_query 58 = .ok (.getfield 65, 3) := by decide +kernel
theorem dX11_query_61 : decode cX11_query 61 = .ok (.invokevirtual 180, 3) := by decide +kernel
theorem dX11_query_64 : decode cX11_query 64 = .ok (.iconst 1, 1) := by decide +kernel
theorem dX11_query_65 : decode cX11_query 65 = .ok (.isub, 1) := by decide +kernel
theorem dX11_query_66 : decode cX11_query 66 = .ok (.ireturn, 1) := by decide +kernel
theorem dX11_find_0 : decode cX11_find 0 = .ok (.aload_n 0, 1) := by decide +kernel
theorem dX11_find_1 : decode cX11_find 1 = .ok (.iload_n 1, 1) := by decide +kernel
theorem dX11_find_2 : decode cX11_find 2 = .ok (.invokevirtual 317, 3) := by decide +kernel
theorem dX11_find_5 : decode cX11_find 5 = .ok (.astore 4, 2) := by decide +kernel
theorem dX11_find_7 : decode cX11_find 7 = .ok (.aload_n 0, 1) := by decide +kernel
theorem dX11_find_8 : decode cX11_find 8 = .ok (.iload_n 2, 1) := by decide +kernel
theorem dX11_find_9 : decode cX11_find 9 = .ok (.invokevirtual 396, 3) := by decide +kernel
theorem dX11_find_12 : decode cX11_find 12 = .ok (.astore 5, 2) := by decide +kernel
theorem dX11_find_14 : decode cX11_find 14 = .ok (.iload_n 3, 1) := by decide +kernel
theorem dX11_find_15 : decode cX11_find 15 = .ok (.iconst 1, 1) := by decide +kernel
theorem dX11_find_16 : decode cX11_find 16 = .ok (.if_icmp .lt 9, 3) := by decide +kernel
theorem dX11_find_19 : decode cX11_find 19 = .ok (.iload_n 3, 1) := by decide +kernel
theorem dX11_find_20 : decode cX11_find 20 = .ok (.bipush 20, 2) := by decide +kernel
theorem dX11_find_22 : decode cX11_find 22 = .ok (.if_icmp .le 14, 3) := by decide +kernel
theorem dX11_find_25 : decode cX11_find 25 = .ok (.new 100, 3) := by decide +kernel
theorem dX11_find_28 : decode cX11_find 28 = .ok (.dup, 1) := by decide +kernel
theorem dX11_find_29 : decode cX11_find 29 = .ok (.ldc_w 400, 3) := by decide +kernel
theorem dX11_find_32 : decode cX11_find 32 = .ok (.invokespecial 104, 3) := by decide +kernel
theorem dX11_find_35 : decode cX11_find 35 = .ok (.athrow, 1) := by decide +kernel
theorem dX11_find_36 : decode cX11_find 36 = .ok (.aload_n 0, 1) := by decide +kernel
theorem dX11_find_37 : decode cX11_find 37 = .ok (.getfield 80, 3) := by decide +kernel
theorem dX11_find_40 : decode cX11_find 40 = .ok (.aload 4, 2) := by decide +kernel
theorem dX11_find_42 : decode cX11_find 42 = .ok (.aload 5, 2) := by decide +kernel
theorem dX11_find_44 : decode cX11_find 44 = .ok (.iload_n 2, 1) := by decide +kernel
theorem dX11_find_45 : decode cX11_find 45 = .ok (.iload_n 3, 1) := by decide +kernel
theorem dX11_find_46 : decode cX11_find 46 = .ok (.invokevirtual 402, 3) := by decide +kernel
theorem dX11_find_49 : decode cX11_find 49 = .ok (.ireturn, 1) := by decide +kernel
theorem dX11_hitAt_0 : decode cX11_hitAt 0 = .ok (.aload_n 0, 1) := by decide +kernel
theorem dX11_hitAt_1 : decode cX11_hitAt 1 = .ok (.iload_n 1, 1) := by decide +kernel
theorem dX11_hitAt_2 : decode cX11_hitAt 2 = .ok (.invokevirtual 406, 3) := by decide +kernel
theorem dX11_hitAt_5 : decode cX11_hitAt 5 = .ok (.aload_n 0, 1) := by decide +kernel
theorem dX11_hitAt_6 : decode cX11_hitAt 6 = .ok (.getfield 80, 3) := by decide +kernel
theorem dX11_hitAt_9 : decode cX11_hitAt 9 = .ok (.getfield 409, 3) := by decide +kernel
theorem dX11_hitAt_12 : decode cX11_hitAt 12 = .ok (.iload_n 1, 1) := by decide +kernel
theorem dX11_hitAt_13 : decode cX11_hitAt 13 = .ok (.iaload, 1) := by decide +kernel
theorem dX11_hitAt_14 : decode cX11_hitAt 14 = .ok (.ireturn, 1) := by decide +kernel
theorem dX11_rankAt_0 : decode cX11_rankAt 0 = .ok (.aload_n 0, 1) := by decide +kernel
theorem dX11_rankAt_1 : decode cX11_rankAt 1 = .ok (.iload_n 1, 1) := by decide +kernel
theorem dX11_rankAt_2 : decode cX11_rankAt 2 = .ok (.invokevirtual 406, 3) := by decide +kernel
theorem dX11_rankAt_5 : decode cX11_rankAt 5 = .ok (.aload_n 0, 1) := by decide +kernel
theorem dX11_rankAt_6 : decode cX11_rankAt 6 = .ok (.getfield 80, 3) := by decide +kernel
theorem dX11_rankAt_9 : decode cX11_rankAt 9 = .ok (.getfield 412, 3) := by decide +kernel
theorem dX11_rankAt_12 : decode cX11_rankAt 12 = .ok (.iload_n 1, 1) := by decide +kernel
theorem dX11_rankAt_13 : decode cX11_rankAt 13 = .ok (.iaload, 1) := by decide +kernel
theorem dX11_rankAt_14 : decode cX11_rankAt 14 = .ok (.ireturn, 1) := by decide +kernel
theorem dX11_skipped_0 : decode cX11_skipped 0 = .ok (.aload_n 0, 1) := by decide +kernel
theorem dX11_skipped_1 : decode cX11_skipped 1 = .ok (.getfield 80, 3) := by decide +kernel
theorem dX11_skipped_4 : decode cX11_skipped 4 = .ok (.getfield 415, 3) := by decide +kernel
theorem dX11_skipped_7 : decode cX11_skipped 7 = .ok (.ireturn, 1) := by decide +kernel
theorem dX11_cached_0 : decode cX11_cached 0 = .ok (.aload_n 0, 1) := by decide +kernel
theorem dX11_cached_1 : decode cX11_cached 1 = .ok (.getfield 80, 3) := by decide +kernel
theorem dX11_cached_4 : decode cX11_cached 4 = .ok (.getfield 418, 3) := by decide +kernel
theorem dX11_cached_7 : decode cX11_cached 7 = .ok (.ireturn, 1) := by decide +kernel
theorem dX11_rankByScan_0 : decode cX11_rankByScan 0 = .ok (.aload_n 0, 1) := by decide +kernel
theorem dX11_rankByScan_1 : decode cX11_rankByScan 1 = .ok (.iload_n 1, 1) := by decide +kernel
theorem dX11_rankByScan_2 : decode cX11_rankByScan 2 = .ok (.invokevirtual 317, 3) := by decide +kernel
theorem dX11_rankByScan_5 : decode cX11_rankByScan 5 = .ok (.astore 4, 2) := by decide +kernel
theorem dX11_rankByScan_7 : decode cX11_rankByScan 7 = .ok (.aload_n 0, 1) := by decide +kernel
theorem dX11_rankByScan_8 : decode cX11_rankByScan 8 = .ok (.iload_n 2, 1) := by decide +kernel
theorem dX11_rankByScan_9 : decode cX11_rankByScan 9 = .ok (.invokevirtual 396, 3) := by decide +kernel
theorem dX11_rankByScan_12 : decode cX11_rankByScan 12 = .ok (.astore 5, 2) := by decide +kernel
theorem dX11_rankByScan_14 : decode cX11_rankByScan 14 = .ok (.iload_n 3, 1) := by decide +kernel
theorem dX11_rankByScan_15 : decode cX11_rankByScan 15 = .ok (.invokestatic 174, 3) := by decide +kernel
theorem dX11_rankByScan_18 : decode cX11_rankByScan 18 = .ok (.aload 4, 2) := by decide +kernel
theorem dX11_rankByScan_20 : decode cX11_rankByScan 20 = .ok (.iload_n 3, 1) := by decide +kernel
theorem dX11_rankByScan_21 : decode cX11_rankByScan 21 = .ok (.invokevirtual 421, 3) := by decide +kernel
theorem dX11_rankByScan_24 : decode cX11_rankByScan 24 = .ok (.astore 6, 2) := by decide +kernel
theorem dX11_rankByScan_26 : decode cX11_rankByScan 26 = .ok (.aload 6, 2) := by decide +kernel
theorem dX11_rankByScan_28 : decode cX11_rankByScan 28 = .ok (.ifnonnull 5, 3) := by decide +kernel
theorem dX11_rankByScan_31 : decode cX11_rankByScan 31 = .ok (.iconst (-1), 1) := by decide +kernel
theorem dX11_rankByScan_32 : decode cX11_rankByScan 32 = .ok (.ireturn, 1) := by decide +kernel
theorem dX11_rankByScan_33 : decode cX11_rankByScan 33 = .ok (.aload_n 0, 1) := by decide +kernel
theorem dX11_rankByScan_34 : decode cX11_rankByScan 34 = .ok (.getfield 71, 3) := by decide +kernel
theorem dX11_rankByScan_37 : decode cX11_rankByScan 37 = .ok (.aload 5, 2) := by decide +kernel
theorem dX11_rankByScan_39 : decode cX11_rankByScan 39 = .ok (.aload 4, 2) := by decide +kernel
theorem dX11_rankByScan_41 : decode cX11_rankByScan 41 = .ok (.invokevirtual 425, 3) := by decide +kernel
theorem dX11_rankByScan_44 : decode cX11_rankByScan 44 = .ok (.aload_n 0, 1) := by decide +kernel
theorem dX11_rankByScan_45 : decode cX11_rankByScan 45 = .ok (.getfield 71, 3) := by decide +kernel
theorem dX11_rankByScan_48 : decode cX11_rankByScan 48 = .ok (.aload 5, 2) := by decide +kernel
theorem dX11_rankByScan_50 : decode cX11_rankByScan 50 = .ok (.aload 6, 2) := by decide +kernel
theorem dX11_rankByScan_52 : decode cX11_rankByScan 52 = .ok (.invokevirtual 429, 3) := by decide +kernel
theorem dX11_rankByScan_55 : decode cX11_rankByScan 55 = .ok (.aload_n 0, 1) := by decide +kernel
theorem dX11_rankByScan_56 : decode cX11_rankByScan 56 = .ok (.getfield 71, 3) := by decide +kernel
theorem dX11_rankByScan_59 : decode cX11_rankByScan 59 = .ok (.aload 5, 2) := by decide +kernel
theorem dX11_rankByScan_61 : decode cX11_rankByScan 61 = .ok (.iconst 0, 1) := by decide +kernel
theorem dX11_rankByScan_62 : decode cX11_rankByScan 62 = .ok (.invokevirtual 433, 3) := by decide +kernel
theorem dX11_rankByScan_65 : decode cX11_rankByScan 65 = .ok (.ireturn, 1) := by decide +kernel
theorem dX11_matches_0 : decode cX11_matches 0 = .ok (.aload_n 0, 1) := by decide +kernel
theorem dX11_matches_1 : decode cX11_matches 1 = .ok (.iload_n 1, 1) := by decide +kernel
theorem dX11_matches_2 : decode cX11_matches 2 = .ok (.invokevirtual 317, 3) := by decide +kernel
theorem dX11_matches_5 : decode cX11_matches 5 = .ok (.astore_n 3, 1) := by decide +kernel
theorem dX11_matches_6 : decode cX11_matches 6 = .ok (.aload_n 0, 1) := by decide +kernel
theorem dX11_matches_7 : decode cX11_matches 7 = .ok (.iload_n 2, 1) := by decide +kernel
theorem dX11_matches_8 : decode cX11_matches 8 = .ok (.invokevirtual 396, 3) := by decide +kernel
theorem dX11_matches_11 : decode cX11_matches 11 = .ok (.astore 4, 2) := by decide +kernel
theorem dX11_matches_13 : decode cX11_matches 13 = .ok (.aload_n 0, 1) := by decide +kernel
theorem dX11_matches_14 : decode cX11_matches 14 = .ok (.getfield 71, 3) := by decide +kernel
theorem dX11_matches_17 : decode cX11_matches 17 = .ok (.aload_n 3, 1) := by decide +kernel
theorem dX11_matches_18 : decode cX11_matches 18 = .ok (.aload 4, 2) := by decide +kernel
theorem dX11_matches_20 : decode cX11_matches 20 = .ok (.invokevirtual 437, 3) := by decide +kernel
theorem dX11_matches_23 : decode cX11_matches 23 = .ok (.invokevirtual 180, 3) := by decide +kernel
theorem dX11_matches_26 : decode cX11_matches 26 = .ok (.ireturn, 1) := by decide +kernel
theorem dX11_matchesByScan_0 : decode cX11_matchesByScan 0 = .ok (.aload_n 0, 1) := by decide +kernel
theorem dX11_matchesByScan_1 : decode cX11_matchesByScan 1 = .ok (.iload_n 1, 1) := by decide +kernel
theorem dX11_matchesByScan_2 : decode cX11_matchesByScan 2 = .ok (.invokevirtual 317, 3) := by decide +kernel
theorem dX11_matchesByScan_5 : decode cX11_matchesByScan 5 = .ok (.astore_n 3, 1) := by decide +kernel
theorem dX11_matchesByScan_6 : decode cX11_matchesByScan 6 = .ok (.aload_n 0, 1) := by decide +kernel
theorem dX11_matchesByScan_7 : decode cX11_matchesByScan 7 = .ok (.iload_n 2, 1) := by decide +kernel
theorem dX11_matchesByScan_8 : decode cX11_matchesByScan 8 = .ok (.invokevirtual 396, 3) := by decide +kernel
theorem dX11_matchesByScan_11 : decode cX11_matchesByScan 11 = .ok (.astore 4, 2) := by decide +kernel
theorem dX11_matchesByScan_13 : decode cX11_matchesByScan 13 = .ok (.aload_n 0, 1) := by decide +kernel
theorem dX11_matchesByScan_14 : decode cX11_matchesByScan 14 = .ok (.getfield 71, 3) := by decide +kernel
theorem dX11_matchesByScan_17 : decode cX11_matchesByScan 17 = .ok (.aload_n 3, 1) := by decide +kernel
theorem dX11_matchesByScan_18 : decode cX11_matchesByScan 18 = .ok (.aload 4, 2) := by decide +kernel
theorem dX11_matchesByScan_20 : decode cX11_matchesByScan 20 = .ok (.invokevirtual 441, 3) := by decide +kernel
theorem dX11_matchesByScan_23 : decode cX11_matchesByScan 23 = .ok (.ireturn, 1) := by decide +kernel
theorem dX11_facet_0 : decode cX11_facet 0 = .ok (.aload_n 0, 1) := by decide +kernel
theorem dX11_facet_1 : decode cX11_facet 1 = .ok (.iload_n 1, 1) := by decide +kernel
theorem dX11_facet_2 : decode cX11_facet 2 = .ok (.invokevirtual 317, 3) := by decide +kernel
theorem dX11_facet_5 : decode cX11_facet 5 = .ok (.astore 4, 2) := by decide +kernel
theorem dX11_facet_7 : decode cX11_facet 7 = .ok (.aload_n 0, 1) := by decide +kernel
theorem dX11_facet_8 : decode cX11_facet 8 = .ok (.iload_n 2, 1) := by decide +kernel
theorem dX11_facet_9 : decode cX11_facet 9 = .ok (.invokevirtual 396, 3) := by decide +kernel
theorem dX11_facet_12 : decode cX11_facet 12 = .ok (.astore 5, 2) := by decide +kernel
theorem dX11_facet_14 : decode cX11_facet 14 = .ok (.iload_n 3, 1) := by decide +kernel
theorem dX11_facet_15 : decode cX11_facet 15 = .ok (.ifCond .lt 9, 3) := by decide +kernel
theorem dX11_facet_18 : decode cX11_facet 18 = .ok (.iload_n 3, 1) := by decide +kernel
theorem dX11_facet_19 : decode cX11_facet 19 = .ok (.bipush 9, 2) := by decide +kernel
theorem dX11_facet_21 : decode cX11_facet 21 = .ok (.if_icmp .le 14, 3) := by decide +kernel
theorem dX11_facet_24 : decode cX11_facet 24 = .ok (.new 100, 3) := by decide +kernel
theorem dX11_facet_27 : decode cX11_facet 27 = .ok (.dup, 1) := by decide +kernel
theorem dX11_facet_28 : decode cX11_facet 28 = .ok (.ldc_w 445, 3) := by decide +kernel
theorem dX11_facet_31 : decode cX11_facet 31 = .ok (.invokespecial 104, 3) := by decide +kernel
theorem dX11_facet_34 : decode cX11_facet 34 = .ok (.athrow, 1) := by decide +kernel
theorem dX11_facet_35 : decode cX11_facet 35 = .ok (.aload_n 0, 1) := by decide +kernel
theorem dX11_facet_36 : decode cX11_facet 36 = .ok (.getfield 71, 3) := by decide +kernel
theorem dX11_facet_39 : decode cX11_facet 39 = .ok (.aload 4, 2) := by decide +kernel
theorem dX11_facet_41 : decode cX11_facet 41 = .ok (.aload 5, 2) := by decide +kernel
theorem dX11_facet_43 : decode cX11_facet 43 = .ok (.invokevirtual 437, 3) := by decide +kernel
theorem dX11_facet_46 : decode cX11_facet 46 = .ok (.astore 6, 2) := by decide +kernel
theorem dX11_facet_48 : decode cX11_facet 48 = .ok (.iconst 0, 1) := by decide +kernel
theorem dX11_facet_49 : decode cX11_facet 49 = .ok (.istore 7, 2) := by decide +kernel
theorem dX11_facet_51 : decode cX11_facet 51 = .ok (.iconst 0, 1) := by decide +kernel
theorem dX11_facet_52 : decode cX11_facet 52 = .ok (.istore 8, 2) := by decide +kernel
theorem dX11_facet_54 : decode cX11_facet 54 = .ok (.iload 8, 2) := by decide +kernel
theorem dX11_facet_56 : decode cX11_facet 56 = .ok (.aload 6, 2) := by decide +kernel
theorem dX11_facet_58 : decode cX11_facet 58 = .ok (.invokevirtual 180, 3) := by decide +kernel
theorem dX11_facet_61 : decode cX11_facet 61 = .ok (.if_icmp .ge 29, 3) := by decide +kernel
theorem dX11_facet_64 : decode cX11_facet 64 = .ok (.aload 6, 2) := by decide +kernel
theorem dX11_facet_66 : decode cX11_facet 66 = .ok (.iload 8, 2) := by decide +kernel
theorem dX11_facet_68 : decode cX11_facet 68 = .ok (.invokevirtual 277, 3) := by decide +kernel
theorem dX11_facet_71 : decode cX11_facet 71 = .ok (.checkcast 16, 3) := by decide +kernel
theorem dX11_facet_74 : decode cX11_facet 74 = .ok (.getfield 168, 3) := by decide +kernel
theorem dX11_facet_77 : decode cX11_facet 77 = .ok (.iload_n 3, 1) := by decide +kernel
theorem dX11_facet_78 : decode cX11_facet 78 = .ok (.if_icmp .ne 6, 3) := by decide +kernel
theorem dX11_facet_81 : decode cX11_facet 81 = .ok (.iinc 7 1, 3) := by decide +kernel
theorem dX11_facet_84 : decode cX11_facet 84 = .ok (.iinc 8 1, 3) := by decide +kernel
theorem dX11_facet_87 : decode cX11_facet 87 = .ok (.goto (-33), 3) := by decide +kernel
theorem dX11_facet_90 : decode cX11_facet 90 = .ok (.iload 7, 2) := by decide +kernel
theorem dX11_facet_92 : decode cX11_facet 92 = .ok (.ireturn, 1) := by decide +kernel
theorem dX11_sortedAt_0 : decode cX11_sortedAt 0 = .ok (.aload_n 0, 1) := by decide +kernel
theorem dX11_sortedAt_1 : decode cX11_sortedAt 1 = .ok (.iload_n 1, 1) := by decide +kernel
theorem dX11_sortedAt_2 : decode cX11_sortedAt 2 = .ok (.invokevirtual 317, 3) := by decide +kernel
theorem dX11_sortedAt_5 : decode cX11_sortedAt 5 = .ok (.astore 5, 2) := by decide +kernel
theorem dX11_sortedAt_7 : decode cX11_sortedAt 7 = .ok (.aload_n 0, 1) := by decide +kernel
theorem dX11_sortedAt_8 : decode cX11_sortedAt 8 = .ok (.iload_n 2, 1) := by decide +kernel
theorem dX11_sortedAt_9 : decode cX11_sortedAt 9 = .ok (.invokevirtual 396, 3) := by decide +kernel
theorem dX11_sortedAt_12 : decode cX11_sortedAt 12 = .ok (.astore 6, 2) := by decide +kernel
theorem dX11_sortedAt_14 : decode cX11_sortedAt 14 = .ok (.aload_n 0, 1) := by decide +kernel
theorem dX11_sortedAt_15 : decode cX11_sortedAt 15 = .ok (.getfield 71, 3) := by decide +kernel
theorem dX11_sortedAt_18 : decode cX11_sortedAt 18 = .ok (.aload 5, 2) := by decide +kernel
theorem dX11_sortedAt_20 : decode cX11_sortedAt 20 = .ok (.aload 6, 2) := by decide +kernel
theorem dX11_sortedAt_22 : decode cX11_sortedAt 22 = .ok (.invokevirtual 437, 3) := by decide +kernel
theorem dX11_sortedAt_25 : decode cX11_sortedAt 25 = .ok (.astore 7, 2) := by decide +kernel
theorem dX11_sortedAt_27 : decode cX11_sortedAt 27 = .ok (.iconst 0, 1) := by decide +kernel
theorem dX11_sortedAt_28 : decode cX11_sortedAt 28 = .ok (.istore 8, 2) := by decide +kernel
theorem dX11_sortedAt_30 : decode cX11_sortedAt 30 = .ok (.iload 8, 2) := by decide +kernel
theorem dX11_sortedAt_32 : decode cX11_sortedAt 32 = .ok (.aload 7, 2) := by decide +kernel
theorem dX11_sortedAt_34 : decode cX11_sortedAt 34 = .ok (.invokevirtual 180, 3) := by decide +kernel
theorem dX11_sortedAt_37 : decode cX11_sortedAt 37 = .ok (.if_icmp .ge 36, 3) := by decide +kernel
theorem dX11_sortedAt_40 : decode cX11_sortedAt 40 = .ok (.aload 7, 2) := by decide +kernel
theorem dX11_sortedAt_42 : decode cX11_sortedAt 42 = .ok (.iload 8, 2) := by decide +kernel
theorem dX11_sortedAt_44 : decode cX11_sortedAt 44 = .ok (.iload_n 3, 1) := by decide +kernel
theorem dX11_sortedAt_45 : decode cX11_sortedAt 45 = .ok (.invokestatic 447, 3) := by decide +kernel
theorem dX11_sortedAt_48 : decode cX11_sortedAt 48 = .ok (.iload 4, 2) := by decide +kernel
theorem dX11_sortedAt_50 : decode cX11_sortedAt 50 = .ok (.if_icmp .ne 17, 3) := by decide +kernel
theorem dX11_sortedAt_53 : decode cX11_sortedAt 53 = .ok (.aload 7, 2) := by decide +kernel
theorem dX11_sortedAt_55 : decode cX11_sortedAt 55 = .ok (.iload 8, 2) := by decide +kernel
theorem dX11_sortedAt_57 : decode cX11_sortedAt 57 = .ok (.invokevirtual 277, 3) := by decide +kernel
theorem dX11_sortedAt_60 : decode cX11_sortedAt 60 = .ok (.checkcast 16, 3) := by decide +kernel
theorem dX11_sortedAt_63 : decode cX11_sortedAt 63 = .ok (.getfield 193, 3) := by decide +kernel
theorem dX11_sortedAt_66 : decode cX11_sortedAt 66 = .ok (.ireturn, 1) := by decide +kernel
theorem dX11_sortedAt_67 : decode cX11_sortedAt 67 = .ok (.iinc 8 1, 3) := by decide +kernel
theorem dX11_sortedAt_70 : decode cX11_sortedAt 70 = .ok (.goto (-40), 3) := by decide +kernel
theorem dX11_sortedAt_73 : decode cX11_sortedAt 73 = .ok (.new 269, 3) := by decide +kernel
theorem dX11_sortedAt_76 : decode cX11_sortedAt 76 = .ok (.dup, 1) := by decide +kernel
theorem dX11_sortedAt_77 : decode cX11_sortedAt 77 = .ok (.ldc_w 451, 3) := by decide +kernel
theorem dX11_sortedAt_80 : decode cX11_sortedAt 80 = .ok (.invokespecial 273, 3) := by decide +kernel
theorem dX11_sortedAt_83 : decode cX11_sortedAt 83 = .ok (.athrow, 1) := by decide +kernel
theorem dX11_passages_0 : decode cX11_passages 0 = .ok (.aload_n 0, 1) := by decide +kernel
theorem dX11_passages_1 : decode cX11_passages 1 = .ok (.iload_n 1, 1) := by decide +kernel
theorem dX11_passages_2 : decode cX11_passages 2 = .ok (.invokevirtual 317, 3) := by decide +kernel
theorem dX11_passages_5 : decode cX11_passages 5 = .ok (.astore 5, 2) := by decide +kernel
theorem dX11_passages_7 : decode cX11_passages 7 = .ok (.aload_n 0, 1) := by decide +kernel
theorem dX11_passages_8 : decode cX11_passages 8 = .ok (.iload_n 2, 1) := by decide +kernel
theorem dX11_passages_9 : decode cX11_passages 9 = .ok (.invokevirtual 396, 3) := by decide +kernel
theorem dX11_passages_12 : decode cX11_passages 12 = .ok (.astore 6, 2) := by decide +kernel
theorem dX11_passages_14 : decode cX11_passages 14 = .ok (.iload_n 3, 1) := by decide +kernel
theorem dX11_passages_15 : decode cX11_passages 15 = .ok (.invokestatic 174, 3) := by decide +kernel
theorem dX11_passages_18 : decode cX11_passages 18 = .ok (.iload 4, 2) := by decide +kernel
theorem dX11_passages_20 : decode cX11_passages 20 = .ok (.invokestatic 152, 3) := by decide +kernel
theorem dX11_passages_23 : decode cX11_passages 23 = .ok (.aload_n 0, 1) := by decide +kernel
theorem dX11_passages_24 : decode cX11_passages 24 = .ok (.getfield 80, 3) := by decide +kernel
theorem dX11_passages_27 : decode cX11_passages 27 = .ok (.aload 5, 2) := by decide +kernel
theorem dX11_passages_29 : decode cX11_passages 29 = .ok (.iload_n 3, 1) := by decide +kernel
theorem dX11_passages_30 : decode cX11_passages 30 = .ok (.invokevirtual 421, 3) := by decide +kernel
theorem dX11_passages_33 : decode cX11_passages 33 = .ok (.aload 6, 2) := by decide +kernel
theorem dX11_passages_35 : decode cX11_passages 35 = .ok (.iload 4, 2) := by decide +kernel
theorem dX11_passages_37 : decode cX11_passages 37 = .ok (.invokevirtual 453, 3) := by decide +kernel
theorem dX11_passages_40 : decode cX11_passages 40 = .ok (.ireturn, 1) := by decide +kernel
theorem dX11_checkField_0 : decode cX11_checkField 0 = .ok (.iload_n 0, 1) := by decide +kernel
theorem dX11_checkField_1 : decode cX11_checkField 1 = .ok (.ifCond .lt 8, 3) := by decide +kernel
theorem dX11_checkField_4 : decode cX11_checkField 4 = .ok (.iload_n 0, 1) := by decide +kernel
theorem dX11_checkField_5 : decode cX11_checkField 5 = .ok (.iconst 2, 1) := by decide +kernel
theorem dX11_checkField_6 : decode cX11_checkField 6 = .ok (.if_icmp .lt 14, 3) := by decide +kernel
theorem dX11_checkField_9 : decode cX11_checkField 9 = .ok (.new 269, 3) := by decide +kernel
theorem dX11_checkField_12 : decode cX11_checkField 12 = .ok (.dup, 1) := by decide +kernel
theorem dX11_checkField_13 : decode cX11_checkField 13 = .ok (.ldc_w 460, 3) := by decide +kernel
theorem dX11_checkField_16 : decode cX11_checkField 16 = .ok (.invokespecial 273, 3) := by decide +kernel
theorem dX11_checkField_19 : decode cX11_checkField 19 = .ok (.athrow, 1) := by decide +kernel
theorem dX11_checkField_20 : decode cX11_checkField 20 = .ok (.return_, 1) := by decide +kernel
theorem dX11_checkKey_0 : decode cX11_checkKey 0 = .ok (.iload_n 0, 1) := by decide +kernel
theorem dX11_checkKey_1 : decode cX11_checkKey 1 = .ok (.ifCond .lt 9, 3) := by decide +kernel
theorem dX11_checkKey_4 : decode cX11_checkKey 4 = .ok (.iload_n 0, 1) := by decide +kernel
theorem dX11_checkKey_5 : decode cX11_checkKey 5 = .ok (.bipush 100, 2) := by decide +kernel
theorem dX11_checkKey_7 : decode cX11_checkKey 7 = .ok (.if_icmp .lt 14, 3) := by decide +kernel
theorem dX11_checkKey_10 : decode cX11_checkKey 10 = .ok (.new 269, 3) := by decide +kernel
theorem dX11_checkKey_13 : decode cX11_checkKey 13 = .ok (.dup, 1) := by decide +kernel
theorem dX11_checkKey_14 : decode cX11_checkKey 14 = .ok (.ldc_w 462, 3) := by decide +kernel
theorem dX11_checkKey_17 : decode cX11_checkKey 17 = .ok (.invokespecial 273, 3) := by decide +kernel
theorem dX11_checkKey_20 : decode cX11_checkKey 20 = .ok (.athrow, 1) := by decide +kernel
theorem dX11_checkKey_21 : decode cX11_checkKey 21 = .ok (.return_, 1) := by decide +kernel
theorem dX11_checkUp_0 : decode cX11_checkUp 0 = .ok (.aload_n 0, 1) := by decide +kernel
theorem dX11_checkUp_1 : decode cX11_checkUp 1 = .ok (.getfield 96, 3) := by decide +kernel
theorem dX11_checkUp_4 : decode cX11_checkUp 4 = .ok (.ifCond .eq 14, 3) := by decide +kernel
theorem dX11_checkUp_7 : decode cX11_checkUp 7 = .ok (.new 116, 3) := by decide +kernel
theorem dX11_checkUp_10 : decode cX11_checkUp 10 = .ok (.dup, 1) := by decide +kernel
theorem dX11_checkUp_11 : decode cX11_checkUp 11 = .ok (.ldc_w 464, 3) := by decide +kernel
theorem dX11_checkUp_14 : decode cX11_checkUp 14 = .ok (.invokespecial 120, 3) := by decide +kernel
theorem dX11_checkUp_17 : decode cX11_checkUp 17 = .ok (.athrow, 1) := by decide +kernel
theorem dX11_checkUp_18 : decode cX11_checkUp 18 = .ok (.return_, 1) := by decide +kernel
theorem dX11_checkLeaf_0 : decode cX11_checkLeaf 0 = .ok (.iload_n 1, 1) := by decide +kernel
theorem dX11_checkLeaf_1 : decode cX11_checkLeaf 1 = .ok (.ifCond .eq 30, 3) := by decide +kernel
theorem dX11_checkLeaf_4 : decode cX11_checkLeaf 4 = .ok (.aload_n 0, 1) := by decide +kernel
theorem dX11_checkLeaf_5 : decode cX11_checkLeaf 5 = .ok (.getfield 61, 3) := by decide +kernel
theorem dX11_checkLeaf_8 : decode cX11_checkLeaf 8 = .ok (.getfield 385, 3) := by decide +kernel
theorem dX11_checkLeaf_11 : decode cX11_checkLeaf 11 = .ok (.bipush 8, 2) := by decide +kernel
theorem dX11_checkLeaf_13 : decode cX11_checkLeaf 13 = .ok (.if_icmp .ge 18, 3) := by decide +kernel
theorem dX11_checkLeaf_16 : decode cX11_checkLeaf 16 = .ok (.aload_n 0, 1) := by decide +kernel
theorem dX11_checkLeaf_17 : decode cX11_checkLeaf 17 = .ok (.getfield 61, 3) := by decide +kernel
theorem dX11_checkLeaf_20 : decode cX11_checkLeaf 20 = .ok (.getfield 466, 3) := by decide +kernel
theorem dX11_checkLeaf_23 : decode cX11_checkLeaf 23 = .ok (.invokevirtual 180, 3) := by decide +kernel
theorem dX11_checkLeaf_26 : decode cX11_checkLeaf 26 = .ok (.bipush 24, 2) := by decide +kernel
theorem dX11_checkLeaf_28 : decode cX11_checkLeaf 28 = .ok (.if_icmp .lt 14, 3) := by decide +kernel
theorem dX11_checkLeaf_31 : decode cX11_checkLeaf 31 = .ok (.new 116, 3) := by decide +kernel
theorem dX11_checkLeaf_34 : decode cX11_checkLeaf 34 = .ok (.dup, 1) := by decide +kernel
theorem dX11_checkLeaf_35 : decode cX11_checkLeaf 35 = .ok (.ldc_w 469, 3) := by decide +kernel
theorem dX11_checkLeaf_38 : decode cX11_checkLeaf 38 = .ok (.invokespecial 120, 3) := by decide +kernel
theorem dX11_checkLeaf_41 : decode cX11_checkLeaf 41 = .ok (.athrow, 1) := by decide +kernel
theorem dX11_checkLeaf_42 : decode cX11_checkLeaf 42 = .ok (.return_, 1) := by decide +kernel
theorem dX11_checkParts_0 : decode cX11_checkParts 0 = .ok (.aload_n 0, 1) := by decide +kernel
theorem dX11_checkParts_1 : decode cX11_checkParts 1 = .ok (.getfield 61, 3) := by decide +kernel
theorem dX11_checkParts_4 : decode cX11_checkParts 4 = .ok (.getfield 385, 3) := by decide +kernel
theorem dX11_checkParts_7 : decode cX11_checkParts 7 = .ok (.iload_n 1, 1) := by decide +kernel
theorem dX11_checkParts_8 : decode cX11_checkParts 8 = .ok (.if_icmp .ge 14, 3) := by decide +kernel
theorem dX11_checkParts_11 : decode cX11_checkParts 11 = .ok (.new 116, 3) := by decide +kernel
theorem dX11_checkParts_14 : decode cX11_checkParts 14 = .ok (.dup, 1) := by decide +kernel
theorem dX11_checkParts_15 : decode cX11_checkParts 15 = .ok (.ldc_w 471, 3) := by decide +kernel
theorem dX11_checkParts_18 : decode cX11_checkParts 18 = .ok (.invokespecial 120, 3) := by decide +kernel
theorem dX11_checkParts_21 : decode cX11_checkParts 21 = .ok (.athrow, 1) := by decide +kernel
theorem dX11_checkParts_22 : decode cX11_checkParts 22 = .ok (.return_, 1) := by decide +kernel
theorem dX11_checkHit_0 : decode cX11_checkHit 0 = .ok (.iload_n 1, 1) := by decide +kernel
theorem dX11_checkHit_1 : decode cX11_checkHit 1 = .ok (.ifCond .lt 14, 3) := by decide +kernel
theorem dX11_checkHit_4 : decode cX11_checkHit 4 = .ok (.iload_n 1, 1) := by decide +kernel
theorem dX11_checkHit_5 : decode cX11_checkHit 5 = .ok (.aload_n 0, 1) := by decide +kernel
theorem dX11_checkHit_6 : decode cX11_checkHit 6 = .ok (.getfield 80, 3) := by decide +kernel
theorem dX11_checkHit_9 : decode cX11_checkHit 9 = .ok (.getfield 473, 3) := by decide +kernel
theorem dX11_checkHit_12 : decode cX11_checkHit 12 = .ok (.if_icmp .lt 14, 3) := by decide +kernel
theorem dX11_checkHit_15 : decode cX11_checkHit 15 = .ok (.new 269, 3) := by decide +kernel
theorem dX11_checkHit_18 : decode cX11_checkHit 18 = .ok (.dup, 1) := by decide +kernel
theorem dX11_checkHit_19 : decode cX11_checkHit 19 = .ok (.ldc_w 476, 3) := by decide +kernel
theorem dX11_checkHit_22 : decode cX11_checkHit 22 = .ok (.invokespecial 273, 3) := by decide +kernel
theorem dX11_checkHit_25 : decode cX11_checkHit 25 = .ok (.athrow, 1) := by decide +kernel
theorem dX11_checkHit_26 : decode cX11_checkHit 26 = .ok (.return_, 1) := by decide +kernel
theorem dX11_holdingAt_0 : decode cX11_holdingAt 0 = .ok (.aload_n 0, 1) := by decide +kernel
theorem dX11_holdingAt_1 : decode cX11_holdingAt 1 = .ok (.getfield 35, 3) := by decide +kernel
theorem dX11_holdingAt_4 : decode cX11_holdingAt 4 = .ok (.iload_n 1, 1) := by decide +kernel
theorem dX11_holdingAt_5 : decode cX11_holdingAt 5 = .ok (.invokevirtual 478, 3) := by decide +kernel
theorem dX11_holdingAt_8 : decode cX11_holdingAt 8 = .ok (.astore_n 2, 1) := by decide +kernel
theorem dX11_holdingAt_9 : decode cX11_holdingAt 9 = .ok (.aload_n 0, 1) := by decide +kernel
theorem dX11_holdingAt_10 : decode cX11_holdingAt 10 = .ok (.getfield 96, 3) := by decide +kernel
theorem dX11_holdingAt_13 : decode cX11_holdingAt 13 = .ok (.ifCond .ne 7, 3) := by decide +kernel
theorem dX11_holdingAt_16 : decode cX11_holdingAt 16 = .ok (.aload_n 2, 1) := by decide +kernel
theorem dX11_holdingAt_17 : decode cX11_holdingAt 17 = .ok (.ifnonnull 14, 3) := by decide +kernel
theorem dX11_holdingAt_20 : decode cX11_holdingAt 20 = .ok (.new 269, 3) := by decide +kernel
theorem dX11_holdingAt_23 : decode cX11_holdingAt 23 = .ok (.dup, 1) := by decide +kernel
theorem dX11_holdingAt_24 : decode cX11_holdingAt 24 = .ok (.ldc_w 481, 3) := by decide +kernel
theorem dX11_holdingAt_27 : decode cX11_holdingAt 27 = .ok (.invokespecial 273, 3) := by decide +kernel
theorem dX11_holdingAt_30 : decode cX11_holdingAt 30 = .ok (.athrow, 1) := by decide +kernel
theorem dX11_holdingAt_31 : decode cX11_holdingAt 31 = .ok (.aload_n 2, 1) := by decide +kernel
theorem dX11_holdingAt_32 : decode cX11_holdingAt 32 = .ok (.areturn, 1) := by decide +kernel
theorem dX11_snapshotOf_0 : decode cX11_snapshotOf 0 = .ok (.iconst 0, 1) := by decide +kernel
theorem dX11_snapshotOf_1 : decode cX11_snapshotOf 1 = .ok (.istore_n 2, 1) := by decide +kernel
theorem dX11_snapshotOf_2 : decode cX11_snapshotOf 2 = .ok (.iload_n 2, 1) := by decide +kernel
theorem dX11_snapshotOf_3 : decode cX11_snapshotOf 3 = .ok (.aload_n 0, 1) := by decide +kernel
theorem dX11_snapshotOf_4 : decode cX11_snapshotOf 4 = .ok (.getfield 52, 3) := by decide +kernel
theorem dX11_snapshotOf_7 : decode cX11_snapshotOf 7 = .ok (.invokevirtual 180, 3) := by decide +kernel
theorem dX11_snapshotOf_10 : decode cX11_snapshotOf 10 = .ok (.if_icmp .ge 39, 3) := by decide +kernel
theorem dX11_snapshotOf_13 : decode cX11_snapshotOf 13 = .ok (.aload_n 0, 1) := by decide +kernel
theorem dX11_snapshotOf_14 : decode cX11_snapshotOf 14 = .ok (.getfield 52, 3) := by decide +kernel
theorem dX11_snapshotOf_17 : decode cX11_snapshotOf 17 = .ok (.iload_n 2, 1) := by decide +kernel
theorem dX11_snapshotOf_18 : decode cX11_snapshotOf 18 = .ok (.invokevirtual 277, 3) := by decide +kernel
theorem dX11_snapshotOf_21 : decode cX11_snapshotOf 21 = .ok (.checkcast 30, 3) := by decide +kernel
theorem dX11_snapshotOf_24 : decode cX11_snapshotOf 24 = .ok (.getfield 316, 3) := by decide +kernel
theorem dX11_snapshotOf_27 : decode cX11_snapshotOf 27 = .ok (.iload_n 1, 1) := by decide +kernel
theorem dX11_snapshotOf_28 : decode cX11_snapshotOf 28 = .ok (.if_icmp .ne 15, 3) := by decide +kernel
theorem dX11_snapshotOf_31 : decode cX11_snapshotOf 31 = .ok (.aload_n 0, 1) := by decide +kernel
theorem dX11_snapshotOf_32 : decode cX11_snapshotOf 32 = .ok (.getfield 52, 3) := by decide +kernel
theorem dX11_snapshotOf_35 : decode cX11_snapshotOf 35 = .ok (.iload_n 2, 1) := by decide +kernel
theorem dX11_snapshotOf_36 : decode cX11_snapshotOf 36 = .ok (.invokevirtual 277, 3) := by decide +kernel
theorem dX11_snapshotOf_39 : decode cX11_snapshotOf 39 = .ok (.checkcast 30, 3) := by decide +kernel
theorem dX11_snapshotOf_42 : decode cX11_snapshotOf 42 = .ok (.areturn, 1) := by decide +kernel
theorem dX11_snapshotOf_43 : decode cX11_snapshotOf 43 = .ok (.iinc 2 1, 3) := by decide +kernel
theorem dX11_snapshotOf_46 : decode cX11_snapshotOf 46 = .ok (.goto (-44), 3) := by decide +kernel
theorem dX11_snapshotOf_49 : decode cX11_snapshotOf 49 = .ok (.new 269, 3) := by decide +kernel
theorem dX11_snapshotOf_52 : decode cX11_snapshotOf 52 = .ok (.dup, 1) := by decide +kernel
theorem dX11_snapshotOf_53 : decode cX11_snapshotOf 53 = .ok (.ldc_w 489, 3) := by decide +kernel
theorem dX11_snapshotOf_56 : decode cX11_snapshotOf 56 = .ok (.invokespecial 273, 3) := by decide +kernel
theorem dX11_snapshotOf_59 : decode cX11_snapshotOf 59 = .ok (.athrow, 1) := by decide +kernel
theorem dX11_queryOf_0 : decode cX11_queryOf 0 = .ok (.iload_n 1, 1) := by decide +kernel
theorem dX11_queryOf_1 : decode cX11_queryOf 1 = .ok (.ifCond .lt 14, 3) := by decide +kernel
theorem dX11_queryOf_4 : decode cX11_queryOf 4 = .ok (.iload_n 1, 1) := by decide +kernel
theorem dX11_queryOf_5 : decode cX11_queryOf 5 = .ok (.aload_n 0, 1) := by decide +kernel
theorem dX11_queryOf_6 : decode cX11_queryOf 6 = .ok (.getfield 65, 3) := by decide +kernel
theorem dX11_queryOf_9 : decode cX11_queryOf 9 = .ok (.invokevirtual 180, 3) := by decide +kernel
theorem dX11_queryOf_12 : decode cX11_queryOf 12 = .ok (.if_icmp .lt 14, 3) := by decide +kernel
theorem dX11_queryOf_15 : decode cX11_queryOf 15 = .ok (.new 269, 3) := by decide +kernel
theorem dX11_queryOf_18 : decode cX11_queryOf 18 = .ok (.dup, 1) := by decide +kernel
theorem dX11_queryOf_19 : decode cX11_queryOf 19 = .ok (.ldc_w 491, 3) := by decide +kernel
theorem dX11_queryOf_22 : decode cX11_queryOf 22 = .ok (.invokespecial 273, 3) := by decide +kernel
theorem dX11_queryOf_25 : decode cX11_queryOf 25 = .ok (.athrow, 1) := by decide +kernel
theorem dX11_queryOf_26 : decode cX11_queryOf 26 = .ok (.aload_n 0, 1) := by decide +kernel
theorem dX11_queryOf_27 : decode cX11_queryOf 27 = .ok (.getfield 65, 3) := by decide +kernel
theorem dX11_queryOf_30 : decode cX11_queryOf 30 = .ok (.iload_n 1, 1) := by decide +kernel
theorem dX11_queryOf_31 : decode cX11_queryOf 31 = .ok (.invokevirtual 277, 3) := by decide +kernel
theorem dX11_queryOf_34 : decode cX11_queryOf 34 = .ok (.checkcast 58, 3) := by decide +kernel
theorem dX11_queryOf_37 : decode cX11_queryOf 37 = .ok (.areturn, 1) := by decide +kernel
theorem dX11_bufferPlaceOf_0 : decode cX11_bufferPlaceOf 0 = .ok (.iconst 0, 1) := by decide +kernel
theorem dX11_bufferPlaceOf_1 : decode cX11_bufferPlaceOf 1 = .ok (.istore_n 2, 1) := by decide +kernel
theorem dX11_bufferPlaceOf_2 : decode cX11_bufferPlaceOf 2 = .ok (.iload_n 2, 1) := by decide +kernel
theorem dX11_bufferPlaceOf_3 : decode cX11_bufferPlaceOf 3 = .ok (.aload_n 0, 1) := by decide +kernel
theorem dX11_bufferPlaceOf_4 : decode cX11_bufferPlaceOf 4 = .ok (.getfield 26, 3) := by decide +kernel
theorem dX11_bufferPlaceOf_7 : decode cX11_bufferPlaceOf 7 = .ok (.invokevirtual 180, 3) := by decide +kernel
theorem dX11_bufferPlaceOf_10 : decode cX11_bufferPlaceOf 10 = .ok (.if_icmp .ge 29, 3) := by decide +kernel
theorem dX11_bufferPlaceOf_13 : decode cX11_bufferPlaceOf 13 = .ok (.aload_n 0, 1) := by decide +kernel
theorem dX11_bufferPlaceOf_14 : decode cX11_bufferPlaceOf 14 = .ok (.getfield 26, 3) := by decide +kernel
theorem dX11_bufferPlaceOf_17 : decode cX11_bufferPlaceOf 17 = .ok (.iload_n 2, 1) := by decide +kernel
theorem dX11_bufferPlaceOf_18 : decode cX11_bufferPlaceOf 18 = .ok (.invokevirtual 277, 3) := by decide +kernel
theorem dX11_bufferPlaceOf_21 : decode cX11_bufferPlaceOf 21 = .ok (.checkcast 16, 3) := by decide +kernel
theorem dX11_bufferPlaceOf_24 : decode cX11_bufferPlaceOf 24 = .ok (.getfield 193, 3) := by decide +kernel
theorem dX11_bufferPlaceOf_27 : decode cX11_bufferPlaceOf 27 = .ok (.iload_n 1, 1) := by decide +kernel
theorem dX11_bufferPlaceOf_28 : decode cX11_bufferPlaceOf 28 = .ok (.if_icmp .ne 5, 3) := by decide +kernel
theorem dX11_bufferPlaceOf_31 : decode cX11_bufferPlaceOf 31 = .ok (.iload_n 2, 1) := by decide +kernel
theorem dX11_bufferPlaceOf_32 : decode cX11_bufferPlaceOf 32 = .ok (.ireturn, 1) := by decide +kernel
theorem dX11_bufferPlaceOf_33 : decode cX11_bufferPlaceOf 33 = .ok (.iinc 2 1, 3) := by decide +kernel
theorem dX11_bufferPlaceOf_36 : decode cX11_bufferPlaceOf 36 = .ok (.goto (-34), 3) := by decide +kernel
theorem dX11_bufferPlaceOf_39 : decode cX11_bufferPlaceOf 39 = .ok (.iconst (-1), 1) := by decide +kernel
theorem dX11_bufferPlaceOf_40 : decode cX11_bufferPlaceOf 40 = .ok (.ireturn, 1) := by decide +kernel
theorem dX11_dropKey_0 : decode cX11_dropKey 0 = .ok (.aload_n 0, 1) := by decide +kernel
theorem dX11_dropKey_1 : decode cX11_dropKey 1 = .ok (.iload_n 1, 1) := by decide +kernel
theorem dX11_dropKey_2 : decode cX11_dropKey 2 = .ok (.invokevirtual 183, 3) := by decide +kernel
theorem dX11_dropKey_5 : decode cX11_dropKey 5 = .ok (.istore_n 2, 1) := by decide +kernel
theorem dX11_dropKey_6 : decode cX11_dropKey 6 = .ok (.iload_n 2, 1) := by decide +kernel
theorem dX11_dropKey_7 : decode cX11_dropKey 7 = .ok (.iconst (-1), 1) := by decide +kernel
theorem dX11_dropKey_8 : decode cX11_dropKey 8 = .ok (.if_icmp .eq 14, 3) := by decide +kernel
theorem dX11_dropKey_11 : decode cX11_dropKey 11 = .ok (.aload_n 0, 1) := by decide +kernel
theorem dX11_dropKey_12 : decode cX11_dropKey 12 = .ok (.getfield 26, 3) := by decide +kernel
theorem dX11_dropKey_15 : decode cX11_dropKey 15 = .ok (.iload_n 2, 1) := by decide +kernel
theorem dX11_dropKey_16 : decode cX11_dropKey 16 = .ok (.invokevirtual 321, 3) := by decide +kernel
theorem dX11_dropKey_19 : decode cX11_dropKey 19 = .ok (.pop, 1) := by decide +kernel
theorem dX11_dropKey_20 : decode cX11_dropKey 20 = .ok (.iconst 1, 1) := by decide +kernel
theorem dX11_dropKey_21 : decode cX11_dropKey 21 = .ok (.ireturn, 1) := by decide +kernel
theorem dX11_dropKey_22 : decode cX11_dropKey 22 = .ok (.aload_n 0, 1) := by decide +kernel
theorem dX11_dropKey_23 : decode cX11_dropKey 23 = .ok (.getfield 35, 3) := by decide +kernel
theorem dX11_dropKey_26 : decode cX11_dropKey 26 = .ok (.iload_n 1, 1) := by decide +kernel
theorem dX11_dropKey_27 : decode cX11_dropKey 27 = .ok (.invokevirtual 493, 3) := by decide +kernel
theorem dX11_dropKey_30 : decode cX11_dropKey 30 = .ok (.ireturn, 1) := by decide +kernel
theorem dX11_doWrite_0 : decode cX11_doWrite 0 = .ok (.aload_n 0, 1) := by decide +kernel
theorem dX11_doWrite_1 : decode cX11_doWrite 1 = .ok (.getfield 93, 3) := by decide +kernel
theorem dX11_doWrite_4 : decode cX11_doWrite 4 = .ok (.ifCond .ne 9, 3) := by decide +kernel
theorem dX11_doWrite_7 : decode cX11_doWrite 7 = .ok (.aload_n 0, 1) := by decide +kernel
theorem dX11_doWrite_8 : decode cX11_doWrite 8 = .ok (.invokevirtual 496, 3) := by decide +kernel
theorem dX11_doWrite_11 : decode cX11_doWrite 11 = .ok (.iconst 0, 1) := by decide +kernel
theorem dX11_doWrite_12 : decode cX11_doWrite 12 = .ok (.ireturn, 1) := by decide +kernel
theorem dX11_doWrite_13 : decode cX11_doWrite 13 = .ok (.aload_n 0, 1) := by decide +kernel
theorem dX11_doWrite_14 : decode cX11_doWrite 14 = .ok (.getfield 93, 3) := by decide +kernel
theorem dX11_doWrite_17 : decode cX11_doWrite 17 = .ok (.ifCond .le 13, 3) := by decide +kernel
theorem dX11_doWrite_20 : decode cX11_doWrite 20 = .ok (.aload_n 0, 1) := by decide +kernel
theorem dX11_doWrite_21 : decode cX11_doWrite 21 = .ok (.dup, 1) := by decide +kernel
theorem dX11_doWrite_22 : decode cX11_doWrite 22 = .ok (.getfield 93, 3) := by decide +kernel
theorem dX11_doWrite_25 : decode cX11_doWrite 25 = .ok (.iconst 1, 1) := by decide +kernel
theorem dX11_doWrite_26 : decode cX11_doWrite 26 = .ok (.isub, 1) := by decide +kernel
theorem dX11_doWrite_27 : decode cX11_doWrite 27 = .ok (.putfield 93, 3) := by decide +kernel
theorem dX11_doWrite_30 : decode cX11_doWrite 30 = .ok (.aload_n 0, 1) := by decide +kernel
theorem dX11_doWrite_31 : decode cX11_doWrite 31 = .ok (.dup, 1) := by decide +kernel
theorem dX11_doWrite_32 : decode cX11_doWrite 32 = .ok (.getfield 90, 3) := by decide +kernel
theorem dX11_doWrite_35 : decode cX11_doWrite 35 = .ok (.iconst 1, 1) := by decide +kernel
theorem dX11_doWrite_36 : decode cX11_doWrite 36 = .ok (.iadd, 1) := by decide +kernel
theorem dX11_doWrite_37 : decode cX11_doWrite 37 = .ok (.putfield 90, 3) := by decide +kernel
theorem dX11_doWrite_40 : decode cX11_doWrite 40 = .ok (.iconst 1, 1) := by decide +kernel
theorem dX11_doWrite_41 : decode cX11_doWrite 41 = .ok (.ireturn, 1) := by decide +kernel
theorem dX11_goDown_0 : decode cX11_goDown 0 = .ok (.aload_n 0, 1) := by decide +kernel
theorem dX11_goDown_1 : decode cX11_goDown 1 = .ok (.iconst 1, 1) := by decide +kernel
theorem dX11_goDown_2 : decode cX11_goDown 2 = .ok (.putfield 96, 3) := by decide +kernel
theorem dX11_goDown_5 : decode cX11_goDown 5 = .ok (.aload_n 0, 1) := by decide +kernel
theorem dX11_goDown_6 : decode cX11_goDown 6 = .ok (.iconst (-1), 1) := by decide +kernel
theorem dX11_goDown_7 : decode cX11_goDown 7 = .ok (.putfield 93, 3) := by decide +kernel
theorem dX11_goDown_10 : decode cX11_goDown 10 = .ok (.aload_n 0, 1) := by decide +kernel
theorem dX11_goDown_11 : decode cX11_goDown 11 = .ok (.getfield 26, 3) := by decide +kernel
theorem dX11_goDown_14 : decode cX11_goDown 14 = .ok (.invokevirtual 499, 3) := by decide +kernel
theorem dX11_goDown_17 : decode cX11_goDown 17 = .ok (.aload_n 0, 1) := by decide +kernel
theorem dX11_goDown_18 : decode cX11_goDown 18 = .ok (.aconst_null, 1) := by decide +kernel
theorem dX11_goDown_19 : decode cX11_goDown 19 = .ok (.putfield 39, 3) := by decide +kernel
theorem dX11_goDown_22 : decode cX11_goDown 22 = .ok (.aload_n 0, 1) := by decide +kernel
theorem dX11_goDown_23 : decode cX11_goDown 23 = .ok (.iconst 0, 1) := by decide +kernel
theorem dX11_goDown_24 : decode cX11_goDown 24 = .ok (.putfield 42, 3) := by decide +kernel
theorem dX11_goDown_27 : decode cX11_goDown 27 = .ok (.aload_n 0, 1) := by decide +kernel
theorem dX11_goDown_28 : decode cX11_goDown 28 = .ok (.getfield 52, 3) := by decide +kernel
theorem dX11_goDown_31 : decode cX11_goDown 31 = .ok (.invokevirtual 499, 3) := by decide +kernel
theorem dX11_goDown_34 : decode cX11_goDown 34 = .ok (.aload_n 0, 1) := by decide +kernel
theorem dX11_goDown_35 : decode cX11_goDown 35 = .ok (.getfield 80, 3) := by decide +kernel
theorem dX11_goDown_38 : decode cX11_goDown 38 = .ok (.invokevirtual 502, 3) := by decide +kernel
theorem dX11_goDown_41 : decode cX11_goDown 41 = .ok (.aload_n 0, 1) := by decide +kernel
theorem dX11_goDown_42 : decode cX11_goDown 42 = .ok (.aconst_null, 1) := by decide +kernel
theorem dX11_goDown_43 : decode cX11_goDown 43 = .ok (.putfield 49, 3) := by decide +kernel
theorem dX11_goDown_46 : decode cX11_goDown 46 = .ok (.aload_n 0, 1) := by decide +kernel
theorem dX11_goDown_47 : decode cX11_goDown 47 = .ok (.new 30, 3) := by decide +kernel
theorem dX11_goDown_50 : decode cX11_goDown 50 = .ok (.dup, 1) := by decide +kernel
theorem dX11_goDown_51 : decode cX11_goDown 51 = .ok (.iconst (-1), 1) := by decide +kernel
theorem dX11_goDown_52 : decode cX11_goDown 52 = .ok (.invokespecial 32, 3) := by decide +kernel
theorem dX11_goDown_55 : decode cX11_goDown 55 = .ok (.putfield 35, 3) := by decide +kernel
theorem dX11_goDown_58 : decode cX11_goDown 58 = .ok (.return_, 1) := by decide +kernel
theorem dX11_committed_0 : decode cX11_committed 0 = .ok (.aload_n 0, 1) := by decide +kernel
theorem dX11_committed_1 : decode cX11_committed 1 = .ok (.getfield 46, 3) := by decide +kernel
theorem dX11_committed_4 : decode cX11_committed 4 = .ok (.astore_n 1, 1) := by decide +kernel
theorem dX11_committed_5 : decode cX11_committed 5 = .ok (.aload_n 1, 1) := by decide +kernel
theorem dX11_committed_6 : decode cX11_committed 6 = .ok (.ifnonnull 14, 3) := by decide +kernel
theorem dX11_committed_9 : decode cX11_committed 9 = .ok (.new 30, 3) := by decide +kernel
theorem dX11_committed_12 : decode cX11_committed 12 = .ok (.dup, 1) := by decide +kernel
theorem dX11_committed_13 : decode cX11_committed 13 = .ok (.iconst (-1), 1) := by decide +kernel
theorem dX11_committed_14 : decode cX11_committed 14 = .ok (.invokespecial 32, 3) := by decide +kernel
theorem dX11_committed_17 : decode cX11_committed 17 = .ok (.goto 12, 3) := by decide +kernel
theorem dX11_committed_20 : decode cX11_committed 20 = .ok (.aload_n 1, 1) := by decide +kernel
theorem dX11_committed_21 : decode cX11_committed 21 = .ok (.iconst 0, 1) := by decide +kernel
theorem dX11_committed_22 : decode cX11_committed 22 = .ok (.aload_n 1, 1) := by decide +kernel
theorem dX11_committed_23 : decode cX11_committed 23 = .ok (.invokevirtual 240, 3) := by decide +kernel
theorem dX11_committed_26 : decode cX11_committed 26 = .ok (.invokevirtual 218, 3) := by decide +kernel
theorem dX11_committed_29 : decode cX11_committed 29 = .ok (.areturn, 1) := by decide +kernel
theorem dX11_flushBuffer_0 : decode cX11_flushBuffer 0 = .ok (.aload_n 0, 1) := by decide +kernel
theorem dX11_flushBuffer_1 : decode cX11_flushBuffer 1 = .ok (.getfield 26, 3) := by decide +kernel
theorem dX11_flushBuffer_4 : decode cX11_flushBuffer 4 = .ok (.invokevirtual 180, 3) := by decide +kernel
theorem dX11_flushBuffer_7 : decode cX11_flushBuffer 7 = .ok (.iconst 1, 1) := by decide +kernel
theorem dX11_flushBuffer_8 : decode cX11_flushBuffer 8 = .ok (.iadd, 1) := by decide +kernel
theorem dX11_flushBuffer_9 : decode cX11_flushBuffer 9 = .ok (.istore_n 1, 1) := by decide +kernel
theorem dX11_flushBuffer_10 : decode cX11_flushBuffer 10 = .ok (.iconst 0, 1) := by decide +kernel
theorem dX11_flushBuffer_11 : decode cX11_flushBuffer 11 = .ok (.istore_n 2, 1) := by decide +kernel
theorem dX11_flushBuffer_12 : decode cX11_flushBuffer 12 = .ok (.iload_n 2, 1) := by decide +kernel
theorem dX11_flushBuffer_13 : decode cX11_flushBuffer 13 = .ok (.iload_n 1, 1) := by decide +kernel
theorem dX11_flushBuffer_14 : decode cX11_flushBuffer 14 = .ok (.if_icmp .ge 19, 3) := by decide +kernel
theorem dX11_flushBuffer_17 : decode cX11_flushBuffer 17 = .ok (.aload_n 0, 1) := by decide +kernel
theorem dX11_flushBuffer_18 : decode cX11_flushBuffer 18 = .ok (.invokevirtual 227, 3) := by decide +kernel
theorem dX11_flushBuffer_21 : decode cX11_flushBuffer 21 = .ok (.ifCond .ne 6, 3) := by decide +kernel
theorem dX11_flushBuffer_24 : decode cX11_flushBuffer 24 = .ok (.bipush (-2), 2) := by decide +kernel
theorem dX11_flushBuffer_26 : decode cX11_flushBuffer 26 = .ok (.ireturn, 1) := by decide +kernel
theorem dX11_flushBuffer_27 : decode cX11_flushBuffer 27 = .ok (.iinc 2 1, 3) := by decide +kernel
theorem dX11_flushBuffer_30 : decode cX11_flushBuffer 30 = .ok (.goto (-18), 3) := by decide +kernel
theorem dX11_flushBuffer_33 : decode cX11_flushBuffer 33 = .ok (.aload_n 0, 1) := by decide +kernel
theorem dX11_flushBuffer_34 : decode cX11_flushBuffer 34 = .ok (.aload_n 0, 1) := by decide +kernel
theorem dX11_flushBuffer_35 : decode cX11_flushBuffer 35 = .ok (.getfield 26, 3) := by decide +kernel
theorem dX11_flushBuffer_38 : decode cX11_flushBuffer 38 = .ok (.invokevirtual 505, 3) := by decide +kernel
theorem dX11_flushBuffer_41 : decode cX11_flushBuffer 41 = .ok (.astore_n 2, 1) := by decide +kernel
theorem dX11_flushBuffer_42 : decode cX11_flushBuffer 42 = .ok (.aload_n 2, 1) := by decide +kernel
theorem dX11_flushBuffer_43 : decode cX11_flushBuffer 43 = .ok (.iconst 0, 1) := by decide +kernel
theorem dX11_flushBuffer_44 : decode cX11_flushBuffer 44 = .ok (.invokevirtual 509, 3) := by decide +kernel
theorem dX11_flushBuffer_47 : decode cX11_flushBuffer 47 = .ok (.aload_n 2, 1) := by decide +kernel
theorem dX11_flushBuffer_48 : decode cX11_flushBuffer 48 = .ok (.iconst 1, 1) := by decide +kernel
theorem dX11_flushBuffer_49 : decode cX11_flushBuffer 49 = .ok (.invokevirtual 509, 3) := by decide +kernel
theorem dX11_flushBuffer_52 : decode cX11_flushBuffer 52 = .ok (.aload_n 0, 1) := by decide +kernel
theorem dX11_flushBuffer_53 : decode cX11_flushBuffer 53 = .ok (.getfield 35, 3) := by decide +kernel
theorem dX11_flushBuffer_56 : decode cX11_flushBuffer 56 = .ok (.aload_n 0, 1) := by decide +kernel
theorem dX11_flushBuffer_57 : decode cX11_flushBuffer 57 = .ok (.getfield 35, 3) := by decide +kernel
theorem dX11_flushBuffer_60 : decode cX11_flushBuffer 60 = .ok (.invokevirtual 240, 3) := by decide +kernel
theorem dX11_flushBuffer_63 : decode cX11_flushBuffer 63 = .ok (.new 259, 3) := by decide +kernel
theorem dX11_flushBuffer_66 : decode cX11_flushBuffer 66 = .ok (.dup, 1) := by decide +kernel
theorem dX11_flushBuffer_67 : decode cX11_flushBuffer 67 = .ok (.aload_n 2, 1) := by decide +kernel
theorem dX11_flushBuffer_68 : decode cX11_flushBuffer 68 = .ok (.invokespecial 512, 3) := by decide +kernel
theorem dX11_flushBuffer_71 : decode cX11_flushBuffer 71 = .ok (.invokevirtual 515, 3) := by decide +kernel
theorem dX11_flushBuffer_74 : decode cX11_flushBuffer 74 = .ok (.aload_n 0, 1) := by decide +kernel
theorem dX11_flushBuffer_75 : decode cX11_flushBuffer 75 = .ok (.getfield 26, 3) := by decide +kernel
theorem dX11_flushBuffer_78 : decode cX11_flushBuffer 78 = .ok (.invokevirtual 499, 3) := by decide +kernel
theorem dX11_flushBuffer_81 : decode cX11_flushBuffer 81 = .ok (.aload_n 2, 1) := by decide +kernel
theorem dX11_flushBuffer_82 : decode cX11_flushBuffer 82 = .ok (.getfield 264, 3) := by decide +kernel
theorem dX11_flushBuffer_85 : decode cX11_flushBuffer 85 = .ok (.ireturn, 1) := by decide +kernel
theorem dX11_newSegment_0 : decode cX11_newSegment 0 = .ok (.new 265, 3) := by decide +kernel
theorem dX11_newSegment_3 : decode cX11_newSegment 3 = .ok (.dup, 1) := by decide +kernel
theorem dX11_newSegment_4 : decode cX11_newSegment 4 = .ok (.aload_n 0, 1) := by decide +kernel
theorem dX11_newSegment_5 : decode cX11_newSegment 5 = .ok (.getfield 84, 3) := by decide +kernel
theorem dX11_newSegment_8 : decode cX11_newSegment 8 = .ok (.invokespecial 519, 3) := by decide +kernel
theorem dX11_newSegment_11 : decode cX11_newSegment 11 = .ok (.astore_n 2, 1) := by decide +kernel
theorem dX11_newSegment_12 : decode cX11_newSegment 12 = .ok (.aload_n 0, 1) := by decide +kernel
theorem dX11_newSegment_13 : decode cX11_newSegment 13 = .ok (.dup, 1) := by decide +kernel
theorem dX11_newSegment_14 : decode cX11_newSegment 14 = .ok (.getfield 84, 3) := by decide +kernel
theorem dX11_newSegment_17 : decode cX11_newSegment 17 = .ok (.iconst 1, 1) := by decide +kernel
theorem dX11_newSegment_18 : decode cX11_newSegment 18 = .ok (.iadd, 1) := by decide +kernel
theorem dX11_newSegment_19 : decode cX11_newSegment 19 = .ok (.putfield 84, 3) := by decide +kernel
theorem dX11_newSegment_22 : decode cX11_newSegment 22 = .ok (.iconst 0, 1) := by decide +kernel
theorem dX11_newSegment_23 : decode cX11_newSegment 23 = .ok (.istore_n 3, 1) := by decide +kernel
theorem dX11_newSegment_24 : decode cX11_newSegment 24 = .ok (.iload_n 3, 1) := by decide +kernel
theorem dX11_newSegment_25 : decode cX11_newSegment 25 = .ok (.aload_n 1, 1) := by decide +kernel
theorem dX11_newSegment_26 : decode cX11_newSegment 26 = .ok (.invokevirtual 180, 3) := by decide +kernel
theorem dX11_newSegment_29 : decode cX11_newSegment 29 = .ok (.if_icmp .ge 25, 3) := by decide +kernel
theorem dX11_newSegment_32 : decode cX11_newSegment 32 = .ok (.aload_n 2, 1) := by decide +kernel
theorem dX11_newSegment_33 : decode cX11_newSegment 33 = .ok (.getfield 274, 3) := by decide +kernel
theorem dX11_newSegment_36 : decode cX11_newSegment 36 = .ok (.aload_n 1, 1) := by decide +kernel
theorem dX11_newSegment_37 : decode cX11_newSegment 37 = .ok (.iload_n 3, 1) := by decide +kernel
theorem dX11_newSegment_38 : decode cX11_newSegment 38 = .ok (.invokevirtual 277, 3) := by decide +kernel
theorem dX11_newSegment_41 : decode cX11_newSegment 41 = .ok (.checkcast 16, 3) := by decide +kernel
theorem dX11_newSegment_44 : decode cX11_newSegment 44 = .ok (.invokevirtual 200, 3) := by decide +kernel
theorem dX11_newSegment_47 : decode cX11_newSegment 47 = .ok (.pop, 1) := by decide +kernel
theorem dX11_newSegment_48 : decode cX11_newSegment 48 = .ok (.iinc 3 1, 3) := by decide +kernel
theorem dX11_newSegment_51 : decode cX11_newSegment 51 = .ok (.goto (-27), 3) := by decide +kernel
theorem dX11_newSegment_54 : decode cX11_newSegment 54 = .ok (.aload_n 2, 1) := by decide +kernel
theorem dX11_newSegment_55 : decode cX11_newSegment 55 = .ok (.areturn, 1) := by decide +kernel
theorem dX11_endMerge_0 : decode cX11_endMerge 0 = .ok (.new 23, 3) := by decide +kernel
theorem dX11_endMerge_3 : decode cX11_endMerge 3 = .ok (.dup, 1) := by decide +kernel
theorem dX11_endMerge_4 : decode cX11_endMerge 4 = .ok (.invokespecial 25, 3) := by decide +kernel
theorem dX11_endMerge_7 : decode cX11_endMerge 7 = .ok (.astore_n 2, 1) := by decide +kernel
theorem dX11_endMerge_8 : decode cX11_endMerge 8 = .ok (.new 23, 3) := by decide +kernel
theorem dX11_endMerge_11 : decode cX11_endMerge 11 = .ok (.dup, 1) := by decide +kernel
theorem dX11_endMerge_12 : decode cX11_endMerge 12 = .ok (.invokespecial 25, 3) := by decide +kernel
theorem dX11_endMerge_15 : decode cX11_endMerge 15 = .ok (.astore_n 3, 1) := by decide +kernel
theorem dX11_endMerge_16 : decode cX11_endMerge 16 = .ok (.aload_n 0, 1) := by decide +kernel
theorem dX11_endMerge_17 : decode cX11_endMerge 17 = .ok (.getfield 35, 3) := by decide +kernel
theorem dX11_endMerge_20 : decode cX11_endMerge 20 = .ok (.aload_n 1, 1) := by decide +kernel
theorem dX11_endMerge_21 : decode cX11_endMerge 21 = .ok (.aload_n 2, 1) := by decide +kernel
theorem dX11_endMerge_22 : decode cX11_endMerge 22 = .ok (.aload_n 3, 1) := by decide +kernel
theorem dX11_endMerge_23 : decode cX11_endMerge 23 = .ok (.invokevirtual 520, 3) := by decide +kernel
theorem dX11_endMerge_26 : decode cX11_endMerge 26 = .ok (.istore 4, 2) := by decide +kernel
theorem dX11_endMerge_28 : decode cX11_endMerge 28 = .ok (.aload_n 2, 1) := by decide +kernel
theorem dX11_endMerge_29 : decode cX11_endMerge 29 = .ok (.invokevirtual 206, 3) := by decide +kernel
theorem dX11_endMerge_32 : decode cX11_endMerge 32 = .ok (.ifCond .ne 80, 3) := by decide +kernel
theorem dX11_endMerge_35 : decode cX11_endMerge 35 = .ok (.aload_n 0, 1) := by decide +kernel
theorem dX11_endMerge_36 : decode cX11_endMerge 36 = .ok (.aload_n 2, 1) := by decide +kernel
theorem dX11_endMerge_37 : decode cX11_endMerge 37 = .ok (.invokevirtual 505, 3) := by decide +kernel
theorem dX11_endMerge_40 : decode cX11_endMerge 40 = .ok (.astore 5, 2) := by decide +kernel
theorem dX11_endMerge_42 : decode cX11_endMerge 42 = .ok (.aload 5, 2) := by decide +kernel
theorem dX11_endMerge_44 : decode cX11_endMerge 44 = .ok (.iconst 0, 1) := by decide +kernel
theorem dX11_endMerge_45 : decode cX11_endMerge 45 = .ok (.invokevirtual 509, 3) := by decide +kernel
theorem dX11_endMerge_48 : decode cX11_endMerge 48 = .ok (.aload 5, 2) := by decide +kernel
theorem dX11_endMerge_50 : decode cX11_endMerge 50 = .ok (.iconst 1, 1) := by decide +kernel
theorem dX11_endMerge_51 : decode cX11_endMerge 51 = .ok (.invokevirtual 509, 3) := by decide +kernel
theorem dX11_endMerge_54 : decode cX11_endMerge 54 = .ok (.new 259, 3) := by decide +kernel
theorem dX11_endMerge_57 : decode cX11_endMerge 57 = .ok (.dup, 1) := by decide +kernel
theorem dX11_endMerge_58 : decode cX11_endMerge 58 = .ok (.aload 5, 2) := by decide +kernel
theorem dX11_endMerge_60 : decode cX11_endMerge 60 = .ok (.invokespecial 512, 3) := by decide +kernel
theorem dX11_endMerge_63 : decode cX11_endMerge 63 = .ok (.astore 6, 2) := by decide +kernel
theorem dX11_endMerge_65 : decode cX11_endMerge 65 = .ok (.iconst 0, 1) := by decide +kernel
theorem dX11_endMerge_66 : decode cX11_endMerge 66 = .ok (.istore 7, 2) := by decide +kernel
theorem dX11_endMerge_68 : decode cX11_endMerge 68 = .ok (.iload 7, 2) := by decide +kernel
theorem dX11_endMerge_70 : decode cX11_endMerge 70 = .ok (.aload_n 3, 1) := by decide +kernel
theorem dX11_endMerge_71 : decode cX11_endMerge 71 = .ok (.invokevirtual 180, 3) := by decide +kernel
theorem dX11_endMerge_74 : decode cX11_endMerge 74 = .ok (.if_icmp .ge 27, 3) := by decide +kernel
theorem dX11_endMerge_77 : decode cX11_endMerge 77 = .ok (.aload 6, 2) := by decide +kernel
theorem dX11_endMerge_79 : decode cX11_endMerge 79 = .ok (.aload_n 3, 1) := by decide +kernel
theorem dX11_endMerge_80 : decode cX11_endMerge 80 = .ok (.iload 7, 2) := by decide +kernel
theorem dX11_endMerge_82 : decode cX11_endMerge 82 = .ok (.invokevirtual 277, 3) := by decide +kernel
theorem dX11_endMerge_85 : decode cX11_endMerge 85 = .ok (.checkcast 16, 3) := by decide +kernel
theorem dX11_endMerge_88 : decode cX11_endMerge 88 = .ok (.getfield 193, 3) := by decide +kernel
theorem dX11_endMerge_91 : decode cX11_endMerge 91 = .ok (.invokevirtual 524, 3) := by decide +kernel
theorem dX11_endMerge_94 : decode cX11_endMerge 94 = .ok (.pop, 1) := by decide +kernel
theorem dX11_endMerge_95 : decode cX11_endMerge 95 = .ok (.iinc 7 1, 3) := by decide +kernel
theorem dX11_endMerge_98 : decode cX11_endMerge 98 = .ok (.goto (-30), 3) := by decide +kernel
theorem dX11_endMerge_101 : decode cX11_endMerge 101 = .ok (.aload_n 0, 1) := by decide +kernel
theorem dX11_endMerge_102 : decode cX11_endMerge 102 = .ok (.getfield 35, 3) := by decide +kernel
theorem dX11_endMerge_105 : decode cX11_endMerge 105 = .ok (.iload 4, 2) := by decide +kernel
theorem dX11_endMerge_107 : decode cX11_endMerge 107 = .ok (.aload 6, 2) := by decide +kernel
theorem dX11_endMerge_109 : decode cX11_endMerge 109 = .ok (.invokevirtual 515, 3) := by decide +kernel
theorem dX11_endMerge_112 : decode cX11_endMerge 112 = .ok (.aload_n 0, 1) := by decide +kernel
theorem dX11_endMerge_113 : decode cX11_endMerge 113 = .ok (.aconst_null, 1) := by decide +kernel
theorem dX11_endMerge_114 : decode cX11_endMerge 114 = .ok (.putfield 39, 3) := by decide +kernel
theorem dX11_endMerge_117 : decode cX11_endMerge 117 = .ok (.aload_n 0, 1) := by decide +kernel
theorem dX11_endMerge_118 : decode cX11_endMerge 118 = .ok (.iconst 0, 1) := by decide +kernel
theorem dX11_endMerge_119 : decode cX11_endMerge 119 = .ok (.putfield 42, 3) := by decide +kernel
theorem dX11_endMerge_122 : decode cX11_endMerge 122 = .ok (.return_, 1) := by decide +kernel
theorem dX11_fileCount_0 : decode cX11_fileCount 0 = .ok (.aload_n 0, 1) := by decide +kernel
theorem dX11_fileCount_1 : decode cX11_fileCount 1 = .ok (.getfield 84, 3) := by decide +kernel
theorem dX11_fileCount_4 : decode cX11_fileCount 4 = .ok (.newarray .boolean, 2) := by decide +kernel
theorem dX11_fileCount_6 : decode cX11_fileCount 6 = .ok (.astore_n 1, 1) := by decide +kernel
theorem dX11_fileCount_7 : decode cX11_fileCount 7 = .ok (.aload_n 0, 1) := by decide +kernel
theorem dX11_fileCount_8 : decode cX11_fileCount 8 = .ok (.getfield 35, 3) := by decide +kernel
theorem dX11_fileCount_11 : decode cX11_fileCount 11 = .ok (.aload_n 1, 1) := by decide +kernel
theorem dX11_fileCount_12 : decode cX11_fileCount 12 = .ok (.invokevirtual 525, 3) := by decide +kernel
theorem dX11_fileCount_15 : decode cX11_fileCount 15 = .ok (.aload_n 0, 1) := by decide +kernel
theorem dX11_fileCount_16 : decode cX11_fileCount 16 = .ok (.getfield 39, 3) := by decide +kernel
theorem dX11_fileCount_19 : decode cX11_fileCount 19 = .ok (.ifnull 14, 3) := by decide +kernel
theorem dX11_fileCount_22 : decode cX11_fileCount 22 = .ok (.aload_n 0, 1) := by decide +kernel
theorem dX11_fileCount_23 : decode cX11_fileCount 23 = .ok (.getfield 42, 3) := by decide +kernel
theorem dX11_fileCount_26 : decode cX11_fileCount 26 = .ok (.ifCond .le 7, 3) := by decide +kernel
theorem dX11_fileCount_29 : decode cX11_fileCount 29 = .ok (.iconst 1, 1) := by decide +kernel
theorem dX11_fileCount_30 : decode cX11_fileCount 30 = .ok (.goto 4, 3) := by decide +kernel
theorem dX11_fileCount_33 : decode cX11_fileCount 33 = .ok (.iconst 0, 1) := by decide +kernel
theorem dX11_fileCount_34 : decode cX11_fileCount 34 = .ok (.iadd, 1) := by decide +kernel
theorem dX11_fileCount_35 : decode cX11_fileCount 35 = .ok (.istore_n 2, 1) := by decide +kernel
theorem dX11_fileCount_36 : decode cX11_fileCount 36 = .ok (.iconst 0, 1) := by decide +kernel
theorem dX11_fileCount_37 : decode cX11_fileCount 37 = .ok (.istore_n 3, 1) := by decide +kernel
theorem dX11_fileCount_38 : decode cX11_fileCount 38 = .ok (.iload_n 3, 1) := by decide +kernel
theorem dX11_fileCount_39 : decode cX11_fileCount 39 = .ok (.aload_n 0, 1) := by decide +kernel
theorem dX11_fileCount_40 : decode cX11_fileCount 40 = .ok (.getfield 52, 3) := by decide +kernel
theorem dX11_fileCount_43 : decode cX11_fileCount 43 = .ok (.invokevirtual 180, 3) := by decide +kernel
theorem dX11_fileCount_46 : decode cX11_fileCount 46 = .ok (.if_icmp .ge 27, 3) := by decide +kernel
theorem dX11_fileCount_49 : decode cX11_fileCount 49 = .ok (.iload_n 2, 1) := by decide +kernel
theorem dX11_fileCount_50 : decode cX11_fileCount 50 = .ok (.aload_n 0, 1) := by decide +kernel
theorem dX11_fileCount_51 : decode cX11_fileCount 51 = .ok (.getfield 52, 3) := by decide +kernel
theorem dX11_fileCount_54 : decode cX11_fileCount 54 = .ok (.iload_n 3, 1) := by decide +kernel
theorem dX11_fileCount_55 : decode cX11_fileCount 55 = .ok (.invokevirtual 277, 3) := by decide +kernel
theorem dX11_fileCount_58 : decode cX11_fileCount 58 = .ok (.checkcast 30, 3) := by decide +kernel
theorem dX11_fileCount_61 : decode cX11_fileCount 61 = .ok (.aload_n 1, 1) := by decide +kernel
theorem dX11_fileCount_62 : decode cX11_fileCount 62 = .ok (.invokevirtual 525, 3) := by decide +kernel
theorem dX11_fileCount_65 : decode cX11_fileCount 65 = .ok (.iadd, 1) := by decide +kernel
theorem dX11_fileCount_66 : decode cX11_fileCount 66 = .ok (.istore_n 2, 1) := by decide +kernel
theorem dX11_fileCount_67 : decode cX11_fileCount 67 = .ok (.iinc 3 1, 3) := by decide +kernel
theorem dX11_fileCount_70 : decode cX11_fileCount 70 = .ok (.goto (-32), 3) := by decide +kernel
theorem dX11_fileCount_73 : decode cX11_fileCount 73 = .ok (.aload_n 0, 1) := by decide +kernel
theorem dX11_fileCount_74 : decode cX11_fileCount 74 = .ok (.getfield 46, 3) := by decide +kernel
theorem dX11_fileCount_77 : decode cX11_fileCount 77 = .ok (.ifnull 25, 3) := by decide +kernel
theorem dX11_fileCount_80 : decode cX11_fileCount 80 = .ok (.iload_n 2, 1) := by decide +kernel
theorem dX11_fileCount_81 : decode cX11_fileCount 81 = .ok (.iconst 1, 1) := by decide +kernel
theorem dX11_fileCount_82 : decode cX11_fileCount 82 = .ok (.aload_n 0, 1) := by decide +kernel
theorem dX11_fileCount_83 : decode cX11_fileCount 83 = .ok (.getfield 46, 3) := by decide +kernel
theorem dX11_fileCount_86 : decode cX11_fileCount 86 = .ok (.aload_n 1, 1) := by decide +kernel
theorem dX11_fileCount_87 : decode cX11_fileCount 87 = .ok (.invokevirtual 525, 3) := by decide +kernel
theorem dX11_fileCount_90 : decode cX11_fileCount 90 = .ok (.iadd, 1) := by decide +kernel
theorem dX11_fileCount_91 : decode cX11_fileCount 91 = .ok (.aload_n 0, 1) := by decide +kernel
theorem dX11_fileCount_92 : decode cX11_fileCount 92 = .ok (.getfield 46, 3) := by decide +kernel
theorem dX11_fileCount_95 : decode cX11_fileCount 95 = .ok (.aconst_null, 1) := by decide +kernel
theorem dX11_fileCount_96 : decode cX11_fileCount 96 = .ok (.invokevirtual 529, 3) := by decide +kernel
theorem dX11_fileCount_99 : decode cX11_fileCount 99 = .ok (.iadd, 1) := by decide +kernel
theorem dX11_fileCount_100 : decode cX11_fileCount 100 = .ok (.iadd, 1) := by decide +kernel
theorem dX11_fileCount_101 : decode cX11_fileCount 101 = .ok (.istore_n 2, 1) := by decide +kernel
theorem dX11_fileCount_102 : decode cX11_fileCount 102 = .ok (.aload_n 0, 1) := by decide +kernel
theorem dX11_fileCount_103 : decode cX11_fileCount 103 = .ok (.getfield 49, 3) := by decide +kernel
theorem dX11_fileCount_106 : decode cX11_fileCount 106 = .ok (.ifnull 28, 3) := by decide +kernel
theorem dX11_fileCount_109 : decode cX11_fileCount 109 = .ok (.iload_n 2, 1) := by decide +kernel
theorem dX11_fileCount_110 : decode cX11_fileCount 110 = .ok (.iconst 1, 1) := by decide +kernel
theorem dX11_fileCount_111 : decode cX11_fileCount 111 = .ok (.aload_n 0, 1) := by decide +kernel
theorem dX11_fileCount_112 : decode cX11_fileCount 112 = .ok (.getfield 49, 3) := by decide +kernel
theorem dX11_fileCount_115 : decode cX11_fileCount 115 = .ok (.aload_n 1, 1) := by decide +kernel
theorem dX11_fileCount_116 : decode cX11_fileCount 116 = .ok (.invokevirtual 525, 3) := by decide +kernel
theorem dX11_fileCount_119 : decode cX11_fileCount 119 = .ok (.iadd, 1) := by decide +kernel
theorem dX11_fileCount_120 : decode cX11_fileCount 120 = .ok (.aload_n 0, 1) := by decide +kernel
theorem dX11_fileCount_121 : decode cX11_fileCount 121 = .ok (.getfield 49, 3) := by decide +kernel
theorem dX11_fileCount_124 : decode cX11_fileCount 124 = .ok (.aload_n 0, 1) := by decide +kernel
theorem dX11_fileCount_125 : decode cX11_fileCount 125 = .ok (.getfield 46, 3) := by decide +kernel
theorem dX11_fileCount_128 : decode cX11_fileCount 128 = .ok (.invokevirtual 529, 3) := by decide +kernel
theorem dX11_fileCount_131 : decode cX11_fileCount 131 = .ok (.iadd, 1) := by decide +kernel
theorem dX11_fileCount_132 : decode cX11_fileCount 132 = .ok (.iadd, 1) := by decide +kernel
theorem dX11_fileCount_133 : decode cX11_fileCount 133 = .ok (.istore_n 2, 1) := by decide +kernel
theorem dX11_fileCount_134 : decode cX11_fileCount 134 = .ok (.iload_n 2, 1) := by decide +kernel
theorem dX11_fileCount_135 : decode cX11_fileCount 135 = .ok (.ireturn, 1) := by decide +kernel
theorem dX11_sortedPlace_0 : decode cX11_sortedPlace 0 = .ok (.iload_n 1, 1) := by decide +kernel
theorem dX11_sortedPlace_1 : decode cX11_sortedPlace 1 = .ok (.ifCond .lt 11, 3) := by decide +kernel
theorem dX11_sortedPlace_4 : decode cX11_sortedPlace 4 = .ok (.iload_n 1, 1) := by decide +kernel
theorem dX11_sortedPlace_5 : decode cX11_sortedPlace 5 = .ok (.aload_n 0, 1) := by decide +kernel
theorem dX11_sortedPlace_6 : decode cX11_sortedPlace 6 = .ok (.invokevirtual 180, 3) := by decide +kernel
theorem dX11_sortedPlace_9 : decode cX11_sortedPlace 9 = .ok (.if_icmp .lt 5, 3) := by decide +kernel
theorem dX11_sortedPlace_12 : decode cX11_sortedPlace 12 = .ok (.iconst (-1), 1) := by decide +kernel
theorem dX11_sortedPlace_13 : decode cX11_sortedPlace 13 = .ok (.ireturn, 1) := by decide +kernel
theorem dX11_sortedPlace_14 : decode cX11_sortedPlace 14 = .ok (.aload_n 0, 1) := by decide +kernel
theorem dX11_sortedPlace_15 : decode cX11_sortedPlace 15 = .ok (.iload_n 1, 1) := by decide +kernel
theorem dX11_sortedPlace_16 : decode cX11_sortedPlace 16 = .ok (.invokevirtual 277, 3) := by decide +kernel
theorem dX11_sortedPlace_19 : decode cX11_sortedPlace 19 = .ok (.checkcast 16, 3) := by decide +kernel
theorem dX11_sortedPlace_22 : decode cX11_sortedPlace 22 = .ok (.getfield 171, 3) := by decide +kernel
theorem dX11_sortedPlace_25 : decode cX11_sortedPlace 25 = .ok (.istore_n 3, 1) := by decide +kernel
theorem dX11_sortedPlace_26 : decode cX11_sortedPlace 26 = .ok (.iconst 0, 1) := by decide +kernel
theorem dX11_sortedPlace_27 : decode cX11_sortedPlace 27 = .ok (.istore 4, 2) := by decide +kernel
theorem dX11_sortedPlace_29 : decode cX11_sortedPlace 29 = .ok (.iconst 0, 1) := by decide +kernel
theorem dX11_sortedPlace_30 : decode cX11_sortedPlace 30 = .ok (.istore 5, 2) := by decide +kernel
theorem dX11_sortedPlace_32 : decode cX11_sortedPlace 32 = .ok (.iload 5, 2) := by decide +kernel
theorem dX11_sortedPlace_34 : decode cX11_sortedPlace 34 = .ok (.aload_n 0, 1) := by decide +kernel
theorem dX11_sortedPlace_35 : decode cX11_sortedPlace 35 = .ok (.invokevirtual 180, 3) := by decide +kernel
theorem dX11_sortedPlace_38 : decode cX11_sortedPlace 38 = .ok (.if_icmp .ge 74, 3) := by decide +kernel
theorem dX11_sortedPlace_41 : decode cX11_sortedPlace 41 = .ok (.aload_n 0, 1) := by decide +kernel
theorem dX11_sortedPlace_42 : decode cX11_sortedPlace 42 = .ok (.iload 5, 2) := by decide +kernel
theorem dX11_sortedPlace_44 : decode cX11_sortedPlace 44 = .ok (.invokevirtual 277, 3) := by decide +kernel
theorem dX11_sortedPlace_47 : decode cX11_sortedPlace 47 = .ok (.checkcast 16, 3) := by decide +kernel
theorem dX11_sortedPlace_50 : decode cX11_sortedPlace 50 = .ok (.getfield 171, 3) := by decide +kernel
theorem dX11_sortedPlace_53 : decode cX11_sortedPlace 53 = .ok (.istore 6, 2) := by decide +kernel
theorem dX11_sortedPlace_55 : decode cX11_sortedPlace 55 = .ok (.iload_n 2, 1) := by decide +kernel
theorem dX11_sortedPlace_56 : decode cX11_sortedPlace 56 = .ok (.ifCond .eq 17, 3) := by decide +kernel
theorem dX11_sortedPlace_59 : decode cX11_sortedPlace 59 = .ok (.iload 6, 2) := by decide +kernel
theorem dX11_sortedPlace_61 : decode cX11_sortedPlace 61 = .ok (.iload_n 3, 1) := by decide +kernel
theorem dX11_sortedPlace_62 : decode cX11_sortedPlace 62 = .ok (.if_icmp .le 7, 3) := by decide +kernel
theorem dX11_sortedPlace_65 : decode cX11_sortedPlace 65 = .ok (.iconst 1, 1) := by decide +kernel
theorem dX11_sortedPlace_66 : decode cX11_sortedPlace 66 = .ok (.goto 18, 3) := by decide +kernel
theorem dX11_sortedPlace_69 : decode cX11_sortedPlace 69 = .ok (.iconst 0, 1) := by decide +kernel
theorem dX11_sortedPlace_70 : decode cX11_sortedPlace 70 = .ok (.goto 14, 3) := by decide +kernel
theorem dX11_sortedPlace_73 : decode cX11_sortedPlace 73 = .ok (.iload 6, 2) := by decide +kernel
theorem dX11_sortedPlace_75 : decode cX11_sortedPlace 75 = .ok (.iload_n 3, 1) := by decide +kernel
theorem dX11_sortedPlace_76 : decode cX11_sortedPlace 76 = .ok (.if_icmp .ge 7, 3) := by decide +kernel
theorem dX11_sortedPlace_79 : decode cX11_sortedPlace 79 = .ok (.iconst 1, 1) := by decide +kernel
theorem dX11_sortedPlace_80 : decode cX11_sortedPlace 80 = .ok (.goto 4, 3) := by decide +kernel
theorem dX11_sortedPlace_83 : decode cX11_sortedPlace 83 = .ok (.iconst 0, 1) := by decide +kernel
theorem dX11_sortedPlace_84 : decode cX11_sortedPlace 84 = .ok (.istore 7, 2) := by decide +kernel
theorem dX11_sortedPlace_86 : decode cX11_sortedPlace 86 = .ok (.iload 7, 2) := by decide +kernel
theorem dX11_sortedPlace_88 : decode cX11_sortedPlace 88 = .ok (.ifCond .ne 15, 3) := by decide +kernel
theorem dX11_sortedPlace_91 : decode cX11_sortedPlace 91 = .ok (.iload 6, 2) := by decide +kernel
theorem dX11_sortedPlace_93 : decode cX11_sortedPlace 93 = .ok (.iload_n 3, 1) := by decide +kernel
theorem dX11_sortedPlace_94 : decode cX11_sortedPlace 94 = .ok (.if_icmp .ne 12, 3) := by decide +kernel
theorem dX11_sortedPlace_97 : decode cX11_sortedPlace 97 = .ok (.iload 5, 2) := by decide +kernel
theorem dX11_sortedPlace_99 : decode cX11_sortedPlace 99 = .ok (.iload_n 1, 1) := by decide +kernel
theorem dX11_sortedPlace_100 : decode cX11_sortedPlace 100 = .ok (.if_icmp .ge 6, 3) := by decide +kernel
theorem dX11_sortedPlace_103 : decode cX11_sortedPlace 103 = .ok (.iinc 4 1, 3) := by decide +kernel
theorem dX11_sortedPlace_106 : decode cX11_sortedPlace 106 = .ok (.iinc 5 1, 3) := by decide +kernel
theorem dX11_sortedPlace_109 : decode cX11_sortedPlace 109 = .ok (.goto (-77), 3) := by decide +kernel
theorem dX11_sortedPlace_112 : decode cX11_sortedPlace 112 = .ok (.iload 4, 2) := by decide +kernel
theorem dX11_sortedPlace_114 : decode cX11_sortedPlace 114 = .ok (.ireturn, 1) := by decide +kernel
theorem dJ6_bitCount_0f7a4_0 : decode cJ6_bitCount_0f7a4 0 = .ok (.iload_n 0, 1) := by decide +kernel
theorem dJ6_bitCount_0f7a4_1 : decode cJ6_bitCount_0f7a4 1 = .ok (.iload_n 0, 1) := by decide +kernel
theorem dJ6_bitCount_0f7a4_2 : decode cJ6_bitCount_0f7a4 2 = .ok (.iconst 1, 1) := by decide +kernel
theorem dJ6_bitCount_0f7a4_3 : decode cJ6_bitCount_0f7a4 3 = .ok (.iushr, 1) := by decide +kernel
theorem dJ6_bitCount_0f7a4_4 : decode cJ6_bitCount_0f7a4 4 = .ok (.ldc_w 265, 3) := by decide +kernel
theorem dJ6_bitCount_0f7a4_7 : decode cJ6_bitCount_0f7a4 7 = .ok (.iand, 1) := by decide +kernel
theorem dJ6_bitCount_0f7a4_8 : decode cJ6_bitCount_0f7a4 8 = .ok (.isub, 1) := by decide +kernel
theorem dJ6_bitCount_0f7a4_9 : decode cJ6_bitCount_0f7a4 9 = .ok (.istore_n 0, 1) := by decide +kernel
theorem dJ6_bitCount_0f7a4_10 : decode cJ6_bitCount_0f7a4 10 = .ok (.iload_n 0, 1) := by decide +kernel
theorem dJ6_bitCount_0f7a4_11 : decode cJ6_bitCount_0f7a4 11 = .ok (.ldc_w 266, 3) := by decide +kernel
theorem dJ6_bitCount_0f7a4_14 : decode cJ6_bitCount_0f7a4 14 = .ok (.iand, 1) := by decide +kernel
theorem dJ6_bitCount_0f7a4_15 : decode cJ6_bitCount_0f7a4 15 = .ok (.iload_n 0, 1) := by decide +kernel
theorem dJ6_bitCount_0f7a4_16 : decode cJ6_bitCount_0f7a4 16 = .ok (.iconst 2, 1) := by decide +kernel
theorem dJ6_bitCount_0f7a4_17 : decode cJ6_bitCount_0f7a4 17 = .ok (.iushr, 1) := by decide +kernel
theorem dJ6_bitCount_0f7a4_18 : decode cJ6_bitCount_0f7a4 18 = .ok (.ldc_w 266, 3) := by decide +kernel
theorem dJ6_bitCount_0f7a4_21 : decode cJ6_bitCount_0f7a4 21 = .ok (.iand, 1) := by decide +kernel
theorem dJ6_bitCount_0f7a4_22 : decode cJ6_bitCount_0f7a4 22 = .ok (.iadd, 1) := by decide +kernel
theorem dJ6_bitCount_0f7a4_23 : decode cJ6_bitCount_0f7a4 23 = .ok (.istore_n 0, 1) := by decide +kernel
theorem dJ6_bitCount_0f7a4_24 : decode cJ6_bitCount_0f7a4 24 = .ok (.iload_n 0, 1) := by decide +kernel
theorem dJ6_bitCount_0f7a4_25 : decode cJ6_bitCount_0f7a4 25 = .ok (.iload_n 0, 1) := by decide +kernel
theorem dJ6_bitCount_0f7a4_26 : decode cJ6_bitCount_0f7a4 26 = .ok (.iconst 4, 1) := by decide +kernel
theorem dJ6_bitCount_0f7a4_27 : decode cJ6_bitCount_0f7a4 27 = .ok (.iushr, 1) := by decide +kernel
theorem dJ6_bitCount_0f7a4_28 : decode cJ6_bitCount_0f7a4 28 = .ok (.iadd, 1) := by decide +kernel
theorem dJ6_bitCount_0f7a4_29 : decode cJ6_bitCount_0f7a4 29 = .ok (.ldc_w 267, 3) := by decide +kernel
theorem dJ6_bitCount_0f7a4_32 : decode cJ6_bitCount_0f7a4 32 = .ok (.iand, 1) := by decide +kernel
theorem dJ6_bitCount_0f7a4_33 : decode cJ6_bitCount_0f7a4 33 = .ok (.istore_n 0, 1) := by decide +kernel
theorem dJ6_bitCount_0f7a4_34 : decode cJ6_bitCount_0f7a4 34 = .ok (.iload_n 0, 1) := by decide +kernel
theorem dJ6_bitCount_0f7a4_35 : decode cJ6_bitCount_0f7a4 35 = .ok (.iload_n 0, 1) := by decide +kernel
theorem dJ6_bitCount_0f7a4_36 : decode cJ6_bitCount_0f7a4 36 = .ok (.bipush 8, 2) := by decide +kernel
theorem dJ6_bitCount_0f7a4_38 : decode cJ6_bitCount_0f7a4 38 = .ok (.iushr, 1) := by decide +kernel
theorem dJ6_bitCount_0f7a4_39 : decode cJ6_bitCount_0f7a4 39 = .ok (.iadd, 1) := by decide +kernel
theorem dJ6_bitCount_0f7a4_40 : decode cJ6_bitCount_0f7a4 40 = .ok (.istore_n 0, 1) := by decide +kernel
theorem dJ6_bitCount_0f7a4_41 : decode cJ6_bitCount_0f7a4 41 = .ok (.iload_n 0, 1) := by decide +kernel
theorem dJ6_bitCount_0f7a4_42 : decode cJ6_bitCount_0f7a4 42 = .ok (.iload_n 0, 1) := by decide +kernel
theorem dJ6_bitCount_0f7a4_43 : decode cJ6_bitCount_0f7a4 43 = .ok (.bipush 16, 2) := by decide +kernel
theorem dJ6_bitCount_0f7a4_45 : decode cJ6_bitCount_0f7a4 45 = .ok (.iushr, 1) := by decide +kernel
theorem dJ6_bitCount_0f7a4_46 : decode cJ6_bitCount_0f7a4 46 = .ok (.iadd, 1) := by decide +kernel
theorem dJ6_bitCount_0f7a4_47 : decode cJ6_bitCount_0f7a4 47 = .ok (.istore_n 0, 1) := by decide +kernel
theorem dJ6_bitCount_0f7a4_48 : decode cJ6_bitCount_0f7a4 48 = .ok (.iload_n 0, 1) := by decide +kernel
theorem dJ6_bitCount_0f7a4_49 : decode cJ6_bitCount_0f7a4 49 = .ok (.bipush 63, 2) := by decide +kernel
theorem dJ6_bitCount_0f7a4_51 : decode cJ6_bitCount_0f7a4 51 = .ok (.iand, 1) := by decide +kernel
theorem dJ6_bitCount_0f7a4_52 : decode cJ6_bitCount_0f7a4 52 = .ok (.ireturn, 1) := by decide +kernel
theorem dJxa1e45_init_da8c8_0 : decode cJxa1e45_init_da8c8 0 = .ok (.aload_n 0, 1) := by decide +kernel
theorem dJxa1e45_init_da8c8_1 : decode cJxa1e45_init_da8c8 1 = .ok (.invokespecial 1, 3) := by decide +kernel
theorem dJxa1e45_init_da8c8_4 : decode cJxa1e45_init_da8c8 4 = .ok (.return_, 1) := by decide +kernel
theorem dJxc12de_init_da8c8_0 : decode cJxc12de_init_da8c8 0 = .ok (.aload_n 0, 1) := by decide +kernel
theorem dJxc12de_init_da8c8_1 : decode cJxc12de_init_da8c8 1 = .ok (.invokespecial 1, 3) := by decide +kernel
theorem dJxc12de_init_da8c8_4 : decode cJxc12de_init_da8c8 4 = .ok (.aload_n 0, 1) := by decide +kernel
theorem dJxc12de_init_da8c8_5 : decode cJxc12de_init_da8c8 5 = .ok (.iconst 0, 1) := by decide +kernel
theorem dJxc12de_init_da8c8_6 : decode cJxc12de_init_da8c8 6 = .ok (.putfield 7, 3) := by decide +kernel
theorem dJxc12de_init_da8c8_9 : decode cJxc12de_init_da8c8 9 = .ok (.return_, 1) := by decide +kernel
theorem dJx4a65c_init_da8c8_0 : decode cJx4a65c_init_da8c8 0 = .ok (.aload_n 0, 1) := by decide +kernel
theorem dJx4a65c_init_da8c8_1 : decode cJx4a65c_init_da8c8 1 = .ok (.invokespecial 1, 3) := by decide +kernel
theorem dJx4a65c_init_da8c8_4 : decode cJx4a65c_init_da8c8 4 = .ok (.aload_n 0, 1) := by decide +kernel
theorem dJx4a65c_init_da8c8_5 : decode cJx4a65c_init_da8c8 5 = .ok (.getstatic 39, 3) := by decide +kernel
theorem dJx4a65c_init_da8c8_8 : decode cJx4a65c_init_da8c8 8 = .ok (.putfield 9, 3) := by decide +kernel
theorem dJx4a65c_init_da8c8_11 : decode cJx4a65c_init_da8c8 11 = .ok (.return_, 1) := by decide +kernel
theorem dJx4a65c_grow_92f84_0 : decode cJx4a65c_grow_92f84 0 = .ok (.aload_n 0, 1) := by decide +kernel
theorem dJx4a65c_grow_92f84_1 : decode cJx4a65c_grow_92f84 1 = .ok (.getfield 9, 3) := by decide +kernel
theorem dJx4a65c_grow_92f84_4 : decode cJx4a65c_grow_92f84 4 = .ok (.arraylength, 1) := by decide +kernel
theorem dJx4a65c_grow_92f84_5 : decode cJx4a65c_grow_92f84 5 = .ok (.istore_n 2, 1) := by decide +kernel
theorem dJx4a65c_grow_92f84_6 : decode cJx4a65c_grow_92f84 6 = .ok (.iload_n 2, 1) := by decide +kernel
theorem dJx4a65c_grow_92f84_7 : decode cJx4a65c_grow_92f84 7 = .ok (.ifCond .gt 13, 3) := by decide +kernel
theorem dJx4a65c_grow_92f84_10 : decode cJx4a65c_grow_92f84 10 = .ok (.aload_n 0, 1) := by decide +kernel
theorem dJx4a65c_grow_92f84_11 : decode cJx4a65c_grow_92f84 11 = .ok (.getfield 9, 3) := by decide +kernel
theorem dJx4a65c_grow_92f84_14 : decode cJx4a65c_grow_92f84 14 = .ok (.getstatic 39, 3) := by decide +kernel
theorem dJx4a65c_grow_92f84_17 : decode cJx4a65c_grow_92f84 17 = .ok (.if_acmp .eq 28, 3) := by decide +kernel
theorem dJx4a65c_grow_92f84_20 : decode cJx4a65c_grow_92f84 20 = .ok (.iload_n 2, 1) := by decide +kernel
theorem dJx4a65c_grow_92f84_21 : decode cJx4a65c_grow_92f84 21 = .ok (.iload_n 1, 1) := by decide +kernel
theorem dJx4a65c_grow_92f84_22 : decode cJx4a65c_grow_92f84 22 = .ok (.iload_n 2, 1) := by decide +kernel
theorem dJx4a65c_grow_92f84_23 : decode cJx4a65c_grow_92f84 23 = .ok (.isub, 1) := by decide +kernel
theorem dJx4a65c_grow_92f84_24 : decode cJx4a65c_grow_92f84 24 = .ok (.iload_n 2, 1) := by decide +kernel
theorem dJx4a65c_grow_92f84_25 : decode cJx4a65c_grow_92f84 25 = .ok (.iconst 1, 1) := by decide +kernel
theorem dJx4a65c_grow_92f84_26 : decode cJx4a65c_grow_92f84 26 = .ok (.ishr, 1) := by decide +kernel
theorem dJx4a65c_grow_92f84_27 : decode cJx4a65c_grow_92f84 27 = .ok (.invokestatic 73, 3) := by decide +kernel
theorem dJx4a65c_grow_92f84_30 : decode cJx4a65c_grow_92f84 30 = .ok (.istore_n 3, 1) := by decide +kernel
theorem dJx4a65c_grow_92f84_31 : decode cJx4a65c_grow_92f84 31 = .ok (.aload_n 0, 1) := by decide +kernel
theorem dJx4a65c_grow_92f84_32 : decode cJx4a65c_grow_92f84 32 = .ok (.aload_n 0, 1) := by decide +kernel
theorem dJx4a65c_grow_92f84_33 : decode cJx4a65c_grow_92f84 33 = .ok (.getfield 9, 3) := by decide +kernel
theorem dJx4a65c_grow_92f84_36 : decode cJx4a65c_grow_92f84 36 = .ok (.iload_n 3, 1) := by decide +kernel
theorem dJx4a65c_grow_92f84_37 : decode cJx4a65c_grow_92f84 37 = .ok (.invokestatic 66, 3) := by decide +kernel
theorem dJx4a65c_grow_92f84_40 : decode cJx4a65c_grow_92f84 40 = .ok (.dup_x1, 1) := by decide +kernel
theorem dJx4a65c_grow_92f84_41 : decode cJx4a65c_grow_92f84 41 = .ok (.putfield 9, 3) := by decide +kernel
theorem dJx4a65c_grow_92f84_44 : decode cJx4a65c_grow_92f84 44 = .ok (.areturn, 1) := by decide +kernel
theorem dJx4a65c_grow_92f84_45 : decode cJx4a65c_grow_92f84 45 = .ok (.aload_n 0, 1) := by decide +kernel
theorem dJx4a65c_grow_92f84_46 : decode cJx4a65c_grow_92f84 46 = .ok (.bipush 10, 2) := by decide +kernel
theorem dJx4a65c_grow_92f84_48 : decode cJx4a65c_grow_92f84 48 = .ok (.iload_n 1, 1) := by decide +kernel
theorem dJx4a65c_grow_92f84_49 : decode cJx4a65c_grow_92f84 49 = .ok (.invokestatic 79, 3) := by decide +kernel
theorem dJx4a65c_grow_92f84_52 : decode cJx4a65c_grow_92f84 52 = .ok (.anewarray 7, 3) := by decide +kernel
theorem dJx4a65c_grow_92f84_55 : decode cJx4a65c_grow_92f84 55 = .ok (.dup_x1, 1) := by decide +kernel
theorem dJx4a65c_grow_92f84_56 : decode cJx4a65c_grow_92f84 56 = .ok (.putfield 9, 3) := by decide +kernel
theorem dJx4a65c_grow_92f84_59 : decode cJx4a65c_grow_92f84 59 = .ok (.areturn, 1) := by decide +kernel
theorem dJx4a65c_grow_d5877_0 : decode cJx4a65c_grow_d5877 0 = .ok (.aload_n 0, 1) := by decide +kernel
theorem dJx4a65c_grow_d5877_1 : decode cJx4a65c_grow_d5877 1 = .ok (.aload_n 0, 1) := by decide +kernel
theorem dJx4a65c_grow_d5877_2 : decode cJx4a65c_grow_d5877 2 = .ok (.getfield 48, 3) := by decide +kernel
theorem dJx4a65c_grow_d5877_5 : decode cJx4a65c_grow_d5877 5 = .ok (.iconst 1, 1) := by decide +kernel
theorem dJx4a65c_grow_d5877_6 : decode cJx4a65c_grow_d5877 6 = .ok (.iadd, 1) := by decide +kernel
theorem dJx4a65c_grow_d5877_7 : decode cJx4a65c_grow_d5877 7 = .ok (.invokevirtual 69, 3) := by decide +kernel
theorem dJx4a65c_grow_d5877_10 : decode cJx4a65c_grow_d5877 10 = .ok (.areturn, 1) := by decide +kernel
theorem dJx4a65c_size_8abf5_0 : decode cJx4a65c_size_8abf5 0 = .ok (.aload_n 0, 1) := by decide +kernel
theorem dJx4a65c_size_8abf5_1 : decode cJx4a65c_size_8abf5 1 = .ok (.getfield 48, 3) := by decide +kernel
theorem dJx4a65c_size_8abf5_4 : decode cJx4a65c_size_8abf5 4 = .ok (.ireturn, 1) := by decide +kernel
theorem dJx4a65c_isEmpty_aae02_0 : decode cJx4a65c_isEmpty_aae02 0 = .ok (.aload_n 0, 1) := by decide +kernel
theorem dJx4a65c_isEmpty_aae02_1 : decode cJx4a65c_isEmpty_aae02 1 = .ok (.getfield 48, 3) := by decide +kernel
theorem dJx4a65c_isEmpty_aae02_4 : decode cJx4a65c_isEmpty_aae02 4 = .ok (.ifCond .ne 7, 3) := by decide +kernel
theorem dJx4a65c_isEmpty_aae02_7 : decode cJx4a65c_isEmpty_aae02 7 = .ok (.iconst 1, 1) := by decide +kernel
theorem dJx4a65c_isEmpty_aae02_8 : decode cJx4a65c_isEmpty_aae02 8 = .ok (.goto 4, 3) := by decide +kernel
theorem dJx4a65c_isEmpty_aae02_11 : decode cJx4a65c_isEmpty_aae02 11 = .ok (.iconst 0, 1) := by decide +kernel
theorem dJx4a65c_isEmpty_aae02_12 : decode cJx4a65c_isEmpty_aae02 12 = .ok (.ireturn, 1) := by decide +kernel
theorem dJx4a65c_elementData_915e3_0 : decode cJx4a65c_elementData_915e3 0 = .ok (.aload_n 0, 1) := by decide +kernel
theorem dJx4a65c_elementData_915e3_1 : decode cJx4a65c_elementData_915e3 1 = .ok (.getfield 9, 3) := by decide +kernel
theorem dJx4a65c_elementData_915e3_4 : decode cJx4a65c_elementData_915e3 4 = .ok (.iload_n 1, 1) := by decide +kernel
theorem dJx4a65c_elementData_915e3_5 : decode cJx4a65c_elementData_915e3 5 = .ok (.aaload, 1) := by decide +kernel
theorem dJx4a65c_elementData_915e3_6 : decode cJx4a65c_elementData_915e3 6 = .ok (.areturn, 1) := by decide +kernel
theorem dJx4a65c_get_915e3_0 : decode cJx4a65c_get_915e3 0 = .ok (.iload_n 1, 1) := by decide +kernel
theorem dJx4a65c_get_915e3_1 : decode cJx4a65c_get_915e3 1 = .ok (.aload_n 0, 1) := by decide +kernel
theorem dJx4a65c_get_915e3_2 : decode cJx4a65c_get_915e3 2 = .ok (.getfield 48, 3) := by decide +kernel
theorem dJx4a65c_get_915e3_5 : decode cJx4a65c_get_915e3 5 = .ok (.invokestatic 118, 3) := by decide +kernel
theorem dJx4a65c_get_915e3_8 : decode cJx4a65c_get_915e3 8 = .ok (.pop, 1) := by decide +kernel
theorem dJx4a65c_get_915e3_9 : decode cJx4a65c_get_915e3 9 = .ok (.aload_n 0, 1) := by decide +kernel
theorem dJx4a65c_get_915e3_10 : decode cJx4a65c_get_915e3 10 = .ok (.iload_n 1, 1) := by decide +kernel
theorem dJx4a65c_get_915e3_11 : decode cJx4a65c_get_915e3 11 = .ok (.invokevirtual 123, 3) := by decide +kernel
theorem dJx4a65c_get_915e3_14 : decode cJx4a65c_get_915e3 14 = .ok (.areturn, 1) := by decide +kernel
theorem dJx4a65c_add_72be8_0 : decode cJx4a65c_add_72be8 0 = .ok (.iload_n 3, 1) := by decide +kernel
theorem dJx4a65c_add_72be8_1 : decode cJx4a65c_add_72be8 1 = .ok (.aload_n 2, 1) := by decide +kernel
theorem dJx4a65c_add_72be8_2 : decode cJx4a65c_add_72be8 2 = .ok (.arraylength, 1) := by decide +kernel
theorem dJx4a65c_add_72be8_3 : decode cJx4a65c_add_72be8 3 = .ok (.if_icmp .ne 8, 3) := by decide +kernel
theorem dJx4a65c_add_72be8_6 : decode cJx4a65c_add_72be8 6 = .ok (.aload_n 0, 1) := by decide +kernel
theorem dJx4a65c_add_72be8_7 : decode cJx4a65c_add_72be8 7 = .ok (.invokevirtual 129, 3) := by decide +kernel
theorem dJx4a65c_add_72be8_10 : decode cJx4a65c_add_72be8 10 = .ok (.astore_n 2, 1) := by decide +kernel
theorem dJx4a65c_add_72be8_11 : decode cJx4a65c_add_72be8 11 = .ok (.aload_n 2, 1) := by decide +kernel
theorem dJx4a65c_add_72be8_12 : decode cJx4a65c_add_72be8 12 = .ok (.iload_n 3, 1) := by decide +kernel
theorem dJx4a65c_add_72be8_13 : decode cJx4a65c_add_72be8 13 = .ok (.aload_n 1, 1) := by decide +kernel
theorem dJx4a65c_add_72be8_14 : decode cJx4a65c_add_72be8 14 = .ok (.aastore, 1) := by decide +kernel
theorem dJx4a65c_add_72be8_15 : decode cJx4a65c_add_72be8 15 = .ok (.aload_n 0, 1) := by decide +kernel
theorem dJx4a65c_add_72be8_16 : decode cJx4a65c_add_72be8 16 = .ok (.iload_n 3, 1) := by decide +kernel
theorem dJx4a65c_add_72be8_17 : decode cJx4a65c_add_72be8 17 = .ok (.iconst 1, 1) := by decide +kernel
theorem dJx4a65c_add_72be8_18 : decode cJx4a65c_add_72be8 18 = .ok (.iadd, 1) := by decide +kernel
theorem dJx4a65c_add_72be8_19 : decode cJx4a65c_add_72be8 19 = .ok (.putfield 48, 3) := by decide +kernel
theorem dJx4a65c_add_72be8_22 : decode cJx4a65c_add_72be8 22 = .ok (.return_, 1) := by decide +kernel
theorem dJx4a65c_add_9ea2d_0 : decode cJx4a65c_add_9ea2d 0 = .ok (.aload_n 0, 1) := by decide +kernel
theorem dJx4a65c_add_9ea2d_1 : decode cJx4a65c_add_9ea2d 1 = .ok (.dup, 1) := by decide +kernel
theorem dJx4a65c_add_9ea2d_2 : decode cJx4a65c_add_9ea2d 2 = .ok (.getfield 63, 3) := by decide +kernel
theorem dJx4a65c_add_9ea2d_5 : decode cJx4a65c_add_9ea2d 5 = .ok (.iconst 1, 1) := by decide +kernel
theorem dJx4a65c_add_9ea2d_6 : decode cJx4a65c_add_9ea2d 6 = .ok (.iadd, 1) := by decide +kernel
theorem dJx4a65c_add_9ea2d_7 : decode cJx4a65c_add_9ea2d 7 = .ok (.putfield 63, 3) := by decide +kernel
theorem dJx4a65c_add_9ea2d_10 : decode cJx4a65c_add_9ea2d 10 = .ok (.aload_n 0, 1) := by decide +kernel
theorem dJx4a65c_add_9ea2d_11 : decode cJx4a65c_add_9ea2d 11 = .ok (.aload_n 1, 1) := by decide +kernel
theorem dJx4a65c_add_9ea2d_12 : decode cJx4a65c_add_9ea2d 12 = .ok (.aload_n 0, 1) := by decide +kernel
theorem dJx4a65c_add_9ea2d_13 : decode cJx4a65c_add_9ea2d 13 = .ok (.getfield 9, 3) := by decide +kernel
theorem dJx4a65c_add_9ea2d_16 : decode cJx4a65c_add_9ea2d 16 = .ok (.aload_n 0, 1) := by decide +kernel
theorem dJx4a65c_add_9ea2d_17 : decode cJx4a65c_add_9ea2d 17 = .ok (.getfield 48, 3) := by decide +kernel
theorem dJx4a65c_add_9ea2d_20 : decode cJx4a65c_add_9ea2d 20 = .ok (.invokevirtual 131, 3) := by decide +kernel
theorem dJx4a65c_add_9ea2d_23 : decode cJx4a65c_add_9ea2d 23 = .ok (.iconst 1, 1) := by decide +kernel
theorem dJx4a65c_add_9ea2d_24 : decode cJx4a65c_add_9ea2d 24 = .ok (.ireturn, 1) := by decide +kernel
theorem dJx4a65c_add_7a177_0 : decode cJx4a65c_add_7a177 0 = .ok (.aload_n 0, 1) := by decide +kernel
theorem dJx4a65c_add_7a177_1 : decode cJx4a65c_add_7a177 1 = .ok (.iload_n 1, 1) := by decide +kernel
theorem dJx4a65c_add_7a177_2 : decode cJx4a65c_add_7a177 2 = .ok (.invokevirtual 135, 3) := by decide +kernel
theorem dJx4a65c_add_7a177_5 : decode cJx4a65c_add_7a177 5 = .ok (.aload_n 0, 1) := by decide +kernel
theorem dJx4a65c_add_7a177_6 : decode cJx4a65c_add_7a177 6 = .ok (.dup, 1) := by decide +kernel
theorem dJx4a65c_add_7a177_7 : decode cJx4a65c_add_7a177 7 = .ok (.getfield 63, 3) := by decide +kernel
theorem dJx4a65c_add_7a177_10 : decode cJx4a65c_add_7a177 10 = .ok (.iconst 1, 1) := by decide +kernel
theorem dJx4a65c_add_7a177_11 : decode cJx4a65c_add_7a177 11 = .ok (.iadd, 1) := by decide +kernel
theorem dJx4a65c_add_7a177_12 : decode cJx4a65c_add_7a177 12 = .ok (.putfield 63, 3) := by decide +kernel
theorem dJx4a65c_add_7a177_15 : decode cJx4a65c_add_7a177 15 = .ok (.aload_n 0, 1) := by decide +kernel
theorem dJx4a65c_add_7a177_16 : decode cJx4a65c_add_7a177 16 = .ok (.getfield 48, 3) := by decide +kernel
theorem dJx4a65c_add_7a177_19 : decode cJx4a65c_add_7a177 19 = .ok (.dup, 1) := by decide +kernel
theorem dJx4a65c_add_7a177_20 : decode cJx4a65c_add_7a177 20 = .ok (.istore_n 3, 1) := by decide +kernel
theorem dJx4a65c_add_7a177_21 : decode cJx4a65c_add_7a177 21 = .ok (.aload_n 0, 1) := by decide +kernel
theorem dJx4a65c_add_7a177_22 : decode cJx4a65c_add_7a177 22 = .ok (.getfield 9, 3) := by decide +kernel
theorem dJx4a65c_add_7a177_25 : decode cJx4a65c_add_7a177 25 = .ok (.dup, 1) := by decide +kernel
theorem dJx4a65c_add_7a177_26 : decode cJx4a65c_add_7a177 26 = .ok (.astore 4, 2) := by decide +kernel
theorem dJx4a65c_add_7a177_28 : decode cJx4a65c_add_7a177 28 = .ok (.arraylength, 1) := by decide +kernel
theorem dJx4a65c_add_7a177_29 : decode cJx4a65c_add_7a177 29 = .ok (.if_icmp .ne 9, 3) := by decide +kernel
theorem dJx4a65c_add_7a177_32 : decode cJx4a65c_add_7a177 32 = .ok (.aload_n 0, 1) := by decide +kernel
theorem dJx4a65c_add_7a177_33 : decode cJx4a65c_add_7a177 33 = .ok (.invokevirtual 129, 3) := by decide +kernel
theorem dJx4a65c_add_7a177_36 : decode cJx4a65c_add_7a177 36 = .ok (.astore 4, 2) := by decide +kernel
theorem dJx4a65c_add_7a177_38 : decode cJx4a65c_add_7a177 38 = .ok (.aload 4, 2) := by decide +kernel
theorem dJx4a65c_add_7a177_40 : decode cJx4a65c_add_7a177 40 = .ok (.iload_n 1, 1) := by decide +kernel
theorem dJx4a65c_add_7a177_41 : decode cJx4a65c_add_7a177 41 = .ok (.aload 4, 2) := by decide +kernel
theorem dJx4a65c_add_7a177_43 : decode cJx4a65c_add_7a177 43 = .ok (.iload_n 1, 1) := by decide +kernel
theorem dJx4a65c_add_7a177_44 : decode cJx4a65c_add_7a177 44 = .ok (.iconst 1, 1) := by decide +kernel
theorem dJx4a65c_add_7a177_45 : decode cJx4a65c_add_7a177 45 = .ok (.iadd, 1) := by decide +kernel
theorem dJx4a65c_add_7a177_46 : decode cJx4a65c_add_7a177 46 = .ok (.iload_n 3, 1) := by decide +kernel
theorem dJx4a65c_add_7a177_47 : decode cJx4a65c_add_7a177 47 = .ok (.iload_n 1, 1) := by decide +kernel
theorem dJx4a65c_add_7a177_48 : decode cJx4a65c_add_7a177 48 = .ok (.isub, 1) := by decide +kernel
theorem dJx4a65c_add_7a177_49 : decode cJx4a65c_add_7a177 49 = .ok (.invokestatic 112, 3) := by decide +kernel
theorem dJx4a65c_add_7a177_52 : decode cJx4a65c_add_7a177 52 = .ok (.aload 4, 2) := by decide +kernel
theorem dJx4a65c_add_7a177_54 : decode cJx4a65c_add_7a177 54 = .ok (.iload_n 1, 1) := by decide +kernel
theorem dJx4a65c_add_7a177_55 : decode cJx4a65c_add_7a177 55 = .ok (.aload_n 2, 1) := by decide +kernel
theorem dJx4a65c_add_7a177_56 : decode cJx4a65c_add_7a177 56 = .ok (.aastore, 1) := by decide +kernel
theorem dJx4a65c_add_7a177_57 : decode cJx4a65c_add_7a177 57 = .ok (.aload_n 0, 1) := by decide +kernel
theorem dJx4a65c_add_7a177_58 : decode cJx4a65c_add_7a177 58 = .ok (.iload_n 3, 1) := by decide +kernel
theorem dJx4a65c_add_7a177_59 : decode cJx4a65c_add_7a177 59 = .ok (.iconst 1, 1) := by decide +kernel
theorem dJx4a65c_add_7a177_60 : decode cJx4a65c_add_7a177 60 = .ok (.iadd, 1) := by decide +kernel
theorem dJx4a65c_add_7a177_61 : decode cJx4a65c_add_7a177 61 = .ok (.putfield 48, 3) := by decide +kernel
theorem dJx4a65c_add_7a177_64 : decode cJx4a65c_add_7a177 64 = .ok (.return_, 1) := by decide +kernel
theorem dJx4a65c_remove_915e3_0 : decode cJx4a65c_remove_915e3 0 = .ok (.iload_n 1, 1) := by decide +kernel
theorem dJx4a65c_remove_915e3_1 : decode cJx4a65c_remove_915e3 1 = .ok (.aload_n 0, 1) := by decide +kernel
theorem dJx4a65c_remove_915e3_2 : decode cJx4a65c_remove_915e3 2 = .ok (.getfield 48, 3) := by decide +kernel
theorem dJx4a65c_remove_915e3_5 : decode cJx4a65c_remove_915e3 5 = .ok (.invokestatic 118, 3) := by decide +kernel
theorem dJx4a65c_remove_915e3_8 : decode cJx4a65c_remove_915e3 8 = .ok (.pop, 1) := by decide +kernel
theorem dJx4a65c_remove_915e3_9 : decode cJx4a65c_remove_915e3 9 = .ok (.aload_n 0, 1) := by decide +kernel
theorem dJx4a65c_remove_915e3_10 : decode cJx4a65c_remove_915e3 10 = .ok (.getfield 9, 3) := by decide +kernel
theorem dJx4a65c_remove_915e3_13 : decode cJx4a65c_remove_915e3 13 = .ok (.astore_n 2, 1) := by decide +kernel
theorem dJx4a65c_remove_915e3_14 : decode cJx4a65c_remove_915e3 14 = .ok (.aload_n 2, 1) := by decide +kernel
theorem dJx4a65c_remove_915e3_15 : decode cJx4a65c_remove_915e3 15 = .ok (.iload_n 1, 1) := by decide +kernel
theorem dJx4a65c_remove_915e3_16 : decode cJx4a65c_remove_915e3 16 = .ok (.aaload, 1) := by decide +kernel
theorem dJx4a65c_remove_915e3_17 : decode cJx4a65c_remove_915e3 17 = .ok (.astore_n 3, 1) := by decide +kernel
theorem dJx4a65c_remove_915e3_18 : decode cJx4a65c_remove_915e3 18 = .ok (.aload_n 0, 1) := by decide +kernel
theorem dJx4a65c_remove_915e3_19 : decode cJx4a65c_remove_915e3 19 = .ok (.aload_n 2, 1) := by decide +kernel
theorem dJx4a65c_remove_915e3_20 : decode cJx4a65c_remove_915e3 20 = .ok (.iload_n 1, 1) := by decide +kernel
theorem dJx4a65c_remove_915e3_21 : decode cJx4a65c_remove_915e3 21 = .ok (.invokevirtual 144, 3) := by decide +kernel
theorem dJx4a65c_remove_915e3_24 : decode cJx4a65c_remove_915e3 24 = .ok (.aload_n 3, 1) := by decide +kernel
theorem dJx4a65c_remove_915e3_25 : decode cJx4a65c_remove_915e3 25 = .ok (.areturn, 1) := by decide +kernel
theorem dJx4a65c_fastRemove_b59b0_0 : decode cJx4a65c_fastRemove_b59b0 0 = .ok (.aload_n 0, 1) := by decide +kernel
theorem dJx4a65c_fastRemove_b59b0_1 : decode cJx4a65c_fastRemove_b59b0 1 = .ok (.dup, 1) := by decide +kernel
theorem dJx4a65c_fastRemove_b59b0_2 : decode cJx4a65c_fastRemove_b59b0 2 = .ok (.getfield 63, 3) := by decide +kernel
theorem dJx4a65c_fastRemove_b59b0_5 : decode cJx4a65c_fastRemove_b59b0 5 = .ok (.iconst 1, 1) := by decide +kernel
theorem dJx4a65c_fastRemove_b59b0_6 : decode cJx4a65c_fastRemove_b59b0 6 = .ok (.iadd, 1) := by decide +kernel
theorem dJx4a65c_fastRemove_b59b0_7 : decode cJx4a65c_fastRemove_b59b0 7 = .ok (.putfield 63, 3) := by decide +kernel
theorem dJx4a65c_fastRemove_b59b0_10 : decode cJx4a65c_fastRemove_b59b0 10 = .ok (.aload_n 0, 1) := by decide +kernel
theorem dJx4a65c_fastRemove_b59b0_11 : decode cJx4a65c_fastRemove_b59b0 11 = .ok (.getfield 48, 3) := by decide +kernel
theorem dJx4a65c_fastRemove_b59b0_14 : decode cJx4a65c_fastRemove_b59b0 14 = .ok (.iconst 1, 1) := by decide +kernel
theorem dJx4a65c_fastRemove_b59b0_15 : decode cJx4a65c_fastRemove_b59b0 15 = .ok (.isub, 1) := by decide +kernel
theorem dJx4a65c_fastRemove_b59b0_16 : decode cJx4a65c_fastRemove_b59b0 16 = .ok (.dup, 1) := by decide +kernel
theorem dJx4a65c_fastRemove_b59b0_17 : decode cJx4a65c_fastRemove_b59b0 17 = .ok (.istore_n 3, 1) := by decide +kernel
theorem dJx4a65c_fastRemove_b59b0_18 : decode cJx4a65c_fastRemove_b59b0 18 = .ok (.iload_n 2, 1) := by decide +kernel
theorem dJx4a65c_fastRemove_b59b0_19 : decode cJx4a65c_fastRemove_b59b0 19 = .ok (.if_icmp .le 15, 3) := by decide +kernel
theorem dJx4a65c_fastRemove_b59b0_22 : decode cJx4a65c_fastRemove_b59b0 22 = .ok (.aload_n 1, 1) := by decide +kernel
theorem dJx4a65c_fastRemove_b59b0_23 : decode cJx4a65c_fastRemove_b59b0 23 = .ok (.iload_n 2, 1) := by decide +kernel
theorem dJx4a65c_fastRemove_b59b0_24 : decode cJx4a65c_fastRemove_b59b0 24 = .ok (.iconst 1, 1) := by decide +kernel
theorem dJx4a65c_fastRemove_b59b0_25 : decode cJx4a65c_fastRemove_b59b0 25 = .ok (.iadd, 1) := by decide +kernel
theorem dJx4a65c_fastRemove_b59b0_26 : decode cJx4a65c_fastRemove_b59b0 26 = .ok (.aload_n 1, 1) := by decide +kernel
theorem dJx4a65c_fastRemove_b59b0_27 : decode cJx4a65c_fastRemove_b59b0 27 = .ok (.iload_n 2, 1) := by decide +kernel
theorem dJx4a65c_fastRemove_b59b0_28 : decode cJx4a65c_fastRemove_b59b0 28 = .ok (.iload_n 3, 1) := by decide +kernel
theorem dJx4a65c_fastRemove_b59b0_29 : decode cJx4a65c_fastRemove_b59b0 29 = .ok (.iload_n 2, 1) := by decide +kernel
theorem dJx4a65c_fastRemove_b59b0_30 : decode cJx4a65c_fastRemove_b59b0 30 = .ok (.isub, 1) := by decide +kernel
theorem dJx4a65c_fastRemove_b59b0_31 : decode cJx4a65c_fastRemove_b59b0 31 = .ok (.invokestatic 112, 3) := by decide +kernel
theorem dJx4a65c_fastRemove_b59b0_34 : decode cJx4a65c_fastRemove_b59b0 34 = .ok (.aload_n 1, 1) := by decide +kernel
theorem dJx4a65c_fastRemove_b59b0_35 : decode cJx4a65c_fastRemove_b59b0 35 = .ok (.aload_n 0, 1) := by decide +kernel
theorem dJx4a65c_fastRemove_b59b0_36 : decode cJx4a65c_fastRemove_b59b0 36 = .ok (.iload_n 3, 1) := by decide +kernel
theorem dJx4a65c_fastRemove_b59b0_37 : decode cJx4a65c_fastRemove_b59b0 37 = .ok (.dup_x1, 1) := by decide +kernel
theorem dJx4a65c_fastRemove_b59b0_38 : decode cJx4a65c_fastRemove_b59b0 38 = .ok (.putfield 48, 3) := by decide +kernel
theorem dJx4a65c_fastRemove_b59b0_41 : decode cJx4a65c_fastRemove_b59b0 41 = .ok (.aconst_null, 1) := by decide +kernel
theorem dJx4a65c_fastRemove_b59b0_42 : decode cJx4a65c_fastRemove_b59b0 42 = .ok (.aastore, 1) := by decide +kernel
theorem dJx4a65c_fastRemove_b59b0_43 : decode cJx4a65c_fastRemove_b59b0 43 = .ok (.return_, 1) := by decide +kernel
theorem dJx4a65c_clear_da8c8_0 : decode cJx4a65c_clear_da8c8 0 = .ok (.aload_n 0, 1) := by decide +kernel
theorem dJx4a65c_clear_da8c8_1 : decode cJx4a65c_clear_da8c8 1 = .ok (.dup, 1) := by decide +kernel
theorem dJx4a65c_clear_da8c8_2 : decode cJx4a65c_clear_da8c8 2 = .ok (.getfield 63, 3) := by decide +kernel
theorem dJx4a65c_clear_da8c8_5 : decode cJx4a65c_clear_da8c8 5 = .ok (.iconst 1, 1) := by decide +kernel
theorem dJx4a65c_clear_da8c8_6 : decode cJx4a65c_clear_da8c8 6 = .ok (.iadd, 1) := by decide +kernel
theorem dJx4a65c_clear_da8c8_7 : decode cJx4a65c_clear_da8c8 7 = .ok (.putfield 63, 3) := by decide +kernel
theorem dJx4a65c_clear_da8c8_10 : decode cJx4a65c_clear_da8c8 10 = .ok (.aload_n 0, 1) := by decide +kernel
theorem dJx4a65c_clear_da8c8_11 : decode cJx4a65c_clear_da8c8 11 = .ok (.getfield 9, 3) := by decide +kernel
theorem dJx4a65c_clear_da8c8_14 : decode cJx4a65c_clear_da8c8 14 = .ok (.astore_n 1, 1) := by decide +kernel
theorem dJx4a65c_clear_da8c8_15 : decode cJx4a65c_clear_da8c8 15 = .ok (.aload_n 0, 1) := by decide +kernel
theorem dJx4a65c_clear_da8c8_16 : decode cJx4a65c_clear_da8c8 16 = .ok (.getfield 48, 3) := by decide +kernel
theorem dJx4a65c_clear_da8c8_19 : decode cJx4a65c_clear_da8c8 19 = .ok (.istore_n 2, 1) := by decide +kernel
theorem dJx4a65c_clear_da8c8_20 : decode cJx4a65c_clear_da8c8 20 = .ok (.aload_n 0, 1) := by decide +kernel
theorem dJx4a65c_clear_da8c8_21 : decode cJx4a65c_clear_da8c8 21 = .ok (.iconst 0, 1) := by decide +kernel
theorem dJx4a65c_clear_da8c8_22 : decode cJx4a65c_clear_da8c8 22 = .ok (.dup_x1, 1) := by decide +kernel
theorem dJx4a65c_clear_da8c8_23 : decode cJx4a65c_clear_da8c8 23 = .ok (.putfield 48, 3) := by decide +kernel
theorem dJx4a65c_clear_da8c8_26 : decode cJx4a65c_clear_da8c8 26 = .ok (.istore_n 3, 1) := by decide +kernel
theorem dJx4a65c_clear_da8c8_27 : decode cJx4a65c_clear_da8c8 27 = .ok (.iload_n 3, 1) := by decide +kernel
theorem dJx4a65c_clear_da8c8_28 : decode cJx4a65c_clear_da8c8 28 = .ok (.iload_n 2, 1) := by decide +kernel
theorem dJx4a65c_clear_da8c8_29 : decode cJx4a65c_clear_da8c8 29 = .ok (.if_icmp .ge 13, 3) := by decide +kernel
theorem dJx4a65c_clear_da8c8_32 : decode cJx4a65c_clear_da8c8 32 = .ok (.aload_n 1, 1) := by decide +kernel
theorem dJx4a65c_clear_da8c8_33 : decode cJx4a65c_clear_da8c8 33 = .ok (.iload_n 3, 1) := by decide +kernel
theorem dJx4a65c_clear_da8c8_34 : decode cJx4a65c_clear_da8c8 34 = .ok (.aconst_null, 1) := by decide +kernel
theorem dJx4a65c_clear_da8c8_35 : decode cJx4a65c_clear_da8c8 35 = .ok (.aastore, 1) := by decide +kernel
theorem dJx4a65c_clear_da8c8_36 : decode cJx4a65c_clear_da8c8 36 = .ok (.iinc 3 1, 3) := by decide +kernel
theorem dJx4a65c_clear_da8c8_39 : decode cJx4a65c_clear_da8c8 39 = .ok (.goto (-12), 3) := by decide +kernel
theorem dJx4a65c_clear_da8c8_42 : decode cJx4a65c_clear_da8c8 42 = .ok (.return_, 1) := by decide +kernel
theorem dJx4a65c_rangeCheckForAdd_d00df_0 : decode cJx4a65c_rangeCheckForAdd_d00df 0 = .ok (.iload_n 1, 1) := by decide +kernel
theorem dJx4a65c_rangeCheckForAdd_d00df_1 : decode cJx4a65c_rangeCheckForAdd_d00df 1 = .ok (.aload_n 0, 1) := by decide +kernel
theorem dJx4a65c_rangeCheckForAdd_d00df_2 : decode cJx4a65c_rangeCheckForAdd_d00df 2 = .ok (.getfield 48, 3) := by decide +kernel
theorem dJx4a65c_rangeCheckForAdd_d00df_5 : decode cJx4a65c_rangeCheckForAdd_d00df 5 = .ok (.if_icmp .gt 7, 3) := by decide +kernel
theorem dJx4a65c_rangeCheckForAdd_d00df_8 : decode cJx4a65c_rangeCheckForAdd_d00df 8 = .ok (.iload_n 1, 1) := by decide +kernel
theorem dJx4a65c_rangeCheckForAdd_d00df_9 : decode cJx4a65c_rangeCheckForAdd_d00df 9 = .ok (.ifCond .ge 16, 3) := by decide +kernel
theorem dJx4a65c_rangeCheckForAdd_d00df_25 : decode cJx4a65c_rangeCheckForAdd_d00df 25 = .ok (.return_, 1) := by decide +kernel
theorem dJ7_fill_53178_0 : decode cJ7_fill_53178 0 = .ok (.iconst 0, 1) := by decide +kernel
theorem dJ7_fill_53178_1 : decode cJ7_fill_53178 1 = .ok (.istore_n 2, 1) := by decide +kernel
theorem dJ7_fill_53178_2 : decode cJ7_fill_53178 2 = .ok (.aload_n 0, 1) := by decide +kernel
theorem dJ7_fill_53178_3 : decode cJ7_fill_53178 3 = .ok (.arraylength, 1) := by decide +kernel
theorem dJ7_fill_53178_4 : decode cJ7_fill_53178 4 = .ok (.istore_n 3, 1) := by decide +kernel
theorem dJ7_fill_53178_5 : decode cJ7_fill_53178 5 = .ok (.iload_n 2, 1) := by decide +kernel
theorem dJ7_fill_53178_6 : decode cJ7_fill_53178 6 = .ok (.iload_n 3, 1) := by decide +kernel
theorem dJ7_fill_53178_7 : decode cJ7_fill_53178 7 = .ok (.if_icmp .ge 13, 3) := by decide +kernel
theorem dJ7_fill_53178_10 : decode cJ7_fill_53178 10 = .ok (.aload_n 0, 1) := by decide +kernel
theorem dJ7_fill_53178_11 : decode cJ7_fill_53178 11 = .ok (.iload_n 2, 1) := by decide +kernel
theorem dJ7_fill_53178_12 : decode cJ7_fill_53178 12 = .ok (.iload_n 1, 1) := by decide +kernel
theorem dJ7_fill_53178_13 : decode cJ7_fill_53178 13 = .ok (.iastore, 1) := by decide +kernel
theorem dJ7_fill_53178_14 : decode cJ7_fill_53178 14 = .ok (.iinc 2 1, 3) := by decide +kernel
theorem dJ7_fill_53178_17 : decode cJ7_fill_53178 17 = .ok (.goto (-12), 3) := by decide +kernel
theorem dJ7_fill_53178_20 : decode cJ7_fill_53178 20 = .ok (.return_, 1) := by decide +kernel
theorem dJ7_copyOf_9075b_0 : decode cJ7_copyOf_9075b 0 = .ok (.iload_n 1, 1) := by decide +kernel
theorem dJ7_copyOf_9075b_1 : decode cJ7_copyOf_9075b 1 = .ok (.aload_n 0, 1) := by decide +kernel
theorem dJ7_copyOf_9075b_2 : decode cJ7_copyOf_9075b 2 = .ok (.arraylength, 1) := by decide +kernel
theorem dJ7_copyOf_9075b_3 : decode cJ7_copyOf_9075b 3 = .ok (.if_icmp .ne 11, 3) := by decide +kernel
theorem dJ7_copyOf_9075b_6 : decode cJ7_copyOf_9075b 6 = .ok (.aload_n 0, 1) := by decide +kernel
theorem dJ7_copyOf_9075b_14 : decode cJ7_copyOf_9075b 14 = .ok (.iload_n 1, 1) := by decide +kernel
theorem dJ7_copyOf_9075b_15 : decode cJ7_copyOf_9075b 15 = .ok (.newarray .byte, 2) := by decide +kernel
theorem dJ7_copyOf_9075b_17 : decode cJ7_copyOf_9075b 17 = .ok (.astore_n 2, 1) := by decide +kernel
theorem dJ7_copyOf_9075b_18 : decode cJ7_copyOf_9075b 18 = .ok (.aload_n 0, 1) := by decide +kernel
theorem dJ7_copyOf_9075b_19 : decode cJ7_copyOf_9075b 19 = .ok (.iconst 0, 1) := by decide +kernel
theorem dJ7_copyOf_9075b_20 : decode cJ7_copyOf_9075b 20 = .ok (.aload_n 2, 1) := by decide +kernel
theorem dJ7_copyOf_9075b_21 : decode cJ7_copyOf_9075b 21 = .ok (.iconst 0, 1) := by decide +kernel
theorem dJ7_copyOf_9075b_22 : decode cJ7_copyOf_9075b 22 = .ok (.aload_n 0, 1) := by decide +kernel
theorem dJ7_copyOf_9075b_23 : decode cJ7_copyOf_9075b 23 = .ok (.arraylength, 1) := by decide +kernel
theorem dJ7_copyOf_9075b_24 : decode cJ7_copyOf_9075b 24 = .ok (.iload_n 1, 1) := by decide +kernel
theorem dJ7_copyOf_9075b_25 : decode cJ7_copyOf_9075b 25 = .ok (.invokestatic 304, 3) := by decide +kernel
theorem dJ7_copyOf_9075b_28 : decode cJ7_copyOf_9075b 28 = .ok (.invokestatic 150, 3) := by decide +kernel
theorem dJ7_copyOf_9075b_31 : decode cJ7_copyOf_9075b 31 = .ok (.aload_n 2, 1) := by decide +kernel
theorem dJ7_copyOf_9075b_32 : decode cJ7_copyOf_9075b 32 = .ok (.areturn, 1) := by decide +kernel
theorem dJ7_copyOf_59c91_0 : decode cJ7_copyOf_59c91 0 = .ok (.iload_n 1, 1) := by decide +kernel
theorem dJ7_copyOf_59c91_1 : decode cJ7_copyOf_59c91 1 = .ok (.aload_n 0, 1) := by decide +kernel
theorem dJ7_copyOf_59c91_2 : decode cJ7_copyOf_59c91 2 = .ok (.arraylength, 1) := by decide +kernel
theorem dJ7_copyOf_59c91_3 : decode cJ7_copyOf_59c91 3 = .ok (.if_icmp .ne 11, 3) := by decide +kernel
theorem dJ7_copyOf_59c91_6 : decode cJ7_copyOf_59c91 6 = .ok (.aload_n 0, 1) := by decide +kernel
theorem dJ7_copyOf_59c91_14 : decode cJ7_copyOf_59c91 14 = .ok (.iload_n 1, 1) := by decide +kernel
theorem dJ7_copyOf_59c91_15 : decode cJ7_copyOf_59c91 15 = .ok (.newarray .int, 2) := by decide +kernel
theorem dJ7_copyOf_59c91_17 : decode cJ7_copyOf_59c91 17 = .ok (.astore_n 2, 1) := by decide +kernel
theorem dJ7_copyOf_59c91_18 : decode cJ7_copyOf_59c91 18 = .ok (.aload_n 0, 1) := by decide +kernel
theorem dJ7_copyOf_59c91_19 : decode cJ7_copyOf_59c91 19 = .ok (.iconst 0, 1) := by decide +kernel
theorem dJ7_copyOf_59c91_20 : decode cJ7_copyOf_59c91 20 = .ok (.aload_n 2, 1) := by decide +kernel
theorem dJ7_copyOf_59c91_21 : decode cJ7_copyOf_59c91 21 = .ok (.iconst 0, 1) := by decide +kernel
theorem dJ7_copyOf_59c91_22 : decode cJ7_copyOf_59c91 22 = .ok (.aload_n 0, 1) := by decide +kernel
theorem dJ7_copyOf_59c91_23 : decode cJ7_copyOf_59c91 23 = .ok (.arraylength, 1) := by decide +kernel
theorem dJ7_copyOf_59c91_24 : decode cJ7_copyOf_59c91 24 = .ok (.iload_n 1, 1) := by decide +kernel
theorem dJ7_copyOf_59c91_25 : decode cJ7_copyOf_59c91 25 = .ok (.invokestatic 304, 3) := by decide +kernel
theorem dJ7_copyOf_59c91_28 : decode cJ7_copyOf_59c91 28 = .ok (.invokestatic 150, 3) := by decide +kernel
theorem dJ7_copyOf_59c91_31 : decode cJ7_copyOf_59c91 31 = .ok (.aload_n 2, 1) := by decide +kernel
theorem dJ7_copyOf_59c91_32 : decode cJ7_copyOf_59c91 32 = .ok (.areturn, 1) := by decide +kernel
theorem dJ7_copyOf_c38d5_0 : decode cJ7_copyOf_c38d5 0 = .ok (.iload_n 1, 1) := by decide +kernel
theorem dJ7_copyOf_c38d5_1 : decode cJ7_copyOf_c38d5 1 = .ok (.aload_n 0, 1) := by decide +kernel
theorem dJ7_copyOf_c38d5_2 : decode cJ7_copyOf_c38d5 2 = .ok (.arraylength, 1) := by decide +kernel
theorem dJ7_copyOf_c38d5_3 : decode cJ7_copyOf_c38d5 3 = .ok (.if_icmp .ne 11, 3) := by decide +kernel
theorem dJ7_copyOf_c38d5_6 : decode cJ7_copyOf_c38d5 6 = .ok (.aload_n 0, 1) := by decide +kernel
theorem dJ7_copyOf_c38d5_14 : decode cJ7_copyOf_c38d5 14 = .ok (.iload_n 1, 1) := by decide +kernel
theorem dJ7_copyOf_c38d5_15 : decode cJ7_copyOf_c38d5 15 = .ok (.newarray .long, 2) := by decide +kernel
theorem dJ7_copyOf_c38d5_17 : decode cJ7_copyOf_c38d5 17 = .ok (.astore_n 2, 1) := by decide +kernel
theorem dJ7_copyOf_c38d5_18 : decode cJ7_copyOf_c38d5 18 = .ok (.aload_n 0, 1) := by decide +kernel
theorem dJ7_copyOf_c38d5_19 : decode cJ7_copyOf_c38d5 19 = .ok (.iconst 0, 1) := by decide +kernel
theorem dJ7_copyOf_c38d5_20 : decode cJ7_copyOf_c38d5 20 = .ok (.aload_n 2, 1) := by decide +kernel
theorem dJ7_copyOf_c38d5_21 : decode cJ7_copyOf_c38d5 21 = .ok (.iconst 0, 1) := by decide +kernel
theorem dJ7_copyOf_c38d5_22 : decode cJ7_copyOf_c38d5 22 = .ok (.aload_n 0, 1) := by decide +kernel
theorem dJ7_copyOf_c38d5_23 : decode cJ7_copyOf_c38d5 23 = .ok (.arraylength, 1) := by decide +kernel
theorem dJ7_copyOf_c38d5_24 : decode cJ7_copyOf_c38d5 24 = .ok (.iload_n 1, 1) := by decide +kernel
theorem dJ7_copyOf_c38d5_25 : decode cJ7_copyOf_c38d5 25 = .ok (.invokestatic 304, 3) := by decide +kernel
theorem dJ7_copyOf_c38d5_28 : decode cJ7_copyOf_c38d5 28 = .ok (.invokestatic 150, 3) := by decide +kernel
theorem dJ7_copyOf_c38d5_31 : decode cJ7_copyOf_c38d5 31 = .ok (.aload_n 2, 1) := by decide +kernel
theorem dJ7_copyOf_c38d5_32 : decode cJ7_copyOf_c38d5 32 = .ok (.areturn, 1) := by decide +kernel
theorem dJ15_checkIndex_7cf53_0 : decode cJ15_checkIndex_7cf53 0 = .ok (.iload_n 0, 1) := by decide +kernel
theorem dJ15_checkIndex_7cf53_1 : decode cJ15_checkIndex_7cf53 1 = .ok (.iload_n 1, 1) := by decide +kernel
theorem dJ15_checkIndex_7cf53_2 : decode cJ15_checkIndex_7cf53 2 = .ok (.aconst_null, 1) := by decide +kernel
theorem dJ15_checkIndex_7cf53_3 : decode cJ15_checkIndex_7cf53 3 = .ok (.invokestatic 105, 3) := by decide +kernel
theorem dJ15_checkIndex_7cf53_6 : decode cJ15_checkIndex_7cf53 6 = .ok (.ireturn, 1) := by decide +kernel
theorem dJ8_newLength_cabcc_0 : decode cJ8_newLength_cabcc 0 = .ok (.iload_n 0, 1) := by decide +kernel
theorem dJ8_newLength_cabcc_1 : decode cJ8_newLength_cabcc 1 = .ok (.iload_n 1, 1) := by decide +kernel
theorem dJ8_newLength_cabcc_2 : decode cJ8_newLength_cabcc 2 = .ok (.iload_n 2, 1) := by decide +kernel
theorem dJ8_newLength_cabcc_3 : decode cJ8_newLength_cabcc 3 = .ok (.invokestatic 194, 3) := by decide +kernel
theorem dJ8_newLength_cabcc_6 : decode cJ8_newLength_cabcc 6 = .ok (.iadd, 1) := by decide +kernel
theorem dJ8_newLength_cabcc_7 : decode cJ8_newLength_cabcc 7 = .ok (.istore_n 3, 1) := by decide +kernel
theorem dJ8_newLength_cabcc_8 : decode cJ8_newLength_cabcc 8 = .ok (.iconst 0, 1) := by decide +kernel
theorem dJ8_newLength_cabcc_9 : decode cJ8_newLength_cabcc 9 = .ok (.iload_n 3, 1) := by decide +kernel
theorem dJ8_newLength_cabcc_10 : decode cJ8_newLength_cabcc 10 = .ok (.if_icmp .ge 11, 3) := by decide +kernel
theorem dJ8_newLength_cabcc_13 : decode cJ8_newLength_cabcc 13 = .ok (.iload_n 3, 1) := by decide +kernel
theorem dJ8_newLength_cabcc_14 : decode cJ8_newLength_cabcc 14 = .ok (.ldc 200, 2) := by decide +kernel
theorem dJ8_newLength_cabcc_16 : decode cJ8_newLength_cabcc 16 = .ok (.if_icmp .gt 5, 3) := by decide +kernel
theorem dJ8_newLength_cabcc_19 : decode cJ8_newLength_cabcc 19 = .ok (.iload_n 3, 1) := by decide +kernel
theorem dJ8_newLength_cabcc_20 : decode cJ8_newLength_cabcc 20 = .ok (.ireturn, 1) := by decide +kernel
theorem dJ8_newLength_cabcc_21 : decode cJ8_newLength_cabcc 21 = .ok (.iload_n 0, 1) := by decide +kernel
theorem dJ8_newLength_cabcc_22 : decode cJ8_newLength_cabcc 22 = .ok (.iload_n 1, 1) := by decide +kernel
theorem dJ8_newLength_cabcc_23 : decode cJ8_newLength_cabcc 23 = .ok (.invokestatic 201, 3) := by decide +kernel
theorem dJ8_newLength_cabcc_26 : decode cJ8_newLength_cabcc 26 = .ok (.ireturn, 1) := by decide +kernel
theorem dJ8_hugeLength_7cf53_0 : decode cJ8_hugeLength_7cf53 0 = .ok (.iload_n 0, 1) := by decide +kernel
theorem dJ8_hugeLength_7cf53_1 : decode cJ8_hugeLength_7cf53 1 = .ok (.iload_n 1, 1) := by decide +kernel
theorem dJ8_hugeLength_7cf53_2 : decode cJ8_hugeLength_7cf53 2 = .ok (.iadd, 1) := by decide +kernel
theorem dJ8_hugeLength_7cf53_3 : decode cJ8_hugeLength_7cf53 3 = .ok (.istore_n 2, 1) := by decide +kernel
theorem dJ8_hugeLength_7cf53_4 : decode cJ8_hugeLength_7cf53 4 = .ok (.iload_n 2, 1) := by decide +kernel
theorem dJ8_hugeLength_7cf53_5 : decode cJ8_hugeLength_7cf53 5 = .ok (.ifCond .ge 44, 3) := by decide +kernel
theorem dJ8_hugeLength_7cf53_49 : decode cJ8_hugeLength_7cf53 49 = .ok (.iload_n 2, 1) := by decide +kernel
theorem dJ8_hugeLength_7cf53_50 : decode cJ8_hugeLength_7cf53 50 = .ok (.ldc 200, 2) := by decide +kernel
theorem dJ8_hugeLength_7cf53_52 : decode cJ8_hugeLength_7cf53 52 = .ok (.if_icmp .gt 6, 3) := by decide +kernel
theorem dJ8_hugeLength_7cf53_55 : decode cJ8_hugeLength_7cf53 55 = .ok (.ldc 200, 2) := by decide +kernel
theorem dJ8_hugeLength_7cf53_57 : decode cJ8_hugeLength_7cf53 57 = .ok (.ireturn, 1) := by decide +kernel
theorem dJ8_hugeLength_7cf53_58 : decode cJ8_hugeLength_7cf53 58 = .ok (.iload_n 2, 1) := by decide +kernel
theorem dJ8_hugeLength_7cf53_59 : decode cJ8_hugeLength_7cf53 59 = .ok (.ireturn, 1) := by decide +kernel
theorem dJ3_checkIndex_8e157_0 : decode cJ3_checkIndex_8e157 0 = .ok (.iload_n 0, 1) := by decide +kernel
theorem dJ3_checkIndex_8e157_1 : decode cJ3_checkIndex_8e157 1 = .ok (.ifCond .lt 8, 3) := by decide +kernel
theorem dJ3_checkIndex_8e157_4 : decode cJ3_checkIndex_8e157 4 = .ok (.iload_n 0, 1) := by decide +kernel
theorem dJ3_checkIndex_8e157_5 : decode cJ3_checkIndex_8e157 5 = .ok (.iload_n 1, 1) := by decide +kernel
theorem dJ3_checkIndex_8e157_6 : decode cJ3_checkIndex_8e157 6 = .ok (.if_icmp .lt 10, 3) := by decide +kernel
theorem dJ3_checkIndex_8e157_9 : decode cJ3_checkIndex_8e157 9 = .ok (.aload_n 2, 1) := by decide +kernel
theorem dJ3_checkIndex_8e157_10 : decode cJ3_checkIndex_8e157 10 = .ok (.iload_n 0, 1) := by decide +kernel
theorem dJ3_checkIndex_8e157_11 : decode cJ3_checkIndex_8e157 11 = .ok (.iload_n 1, 1) := by decide +kernel
theorem dJ3_checkIndex_8e157_16 : decode cJ3_checkIndex_8e157 16 = .ok (.iload_n 0, 1) := by decide +kernel
theorem dJ3_checkIndex_8e157_17 : decode cJ3_checkIndex_8e157 17 = .ok (.ireturn, 1) := by decide +kernel
theorem dL_added_0 : decode cL_added 0 = .ok (.aload_n 0, 1) := by decide +kernel
theorem dL_added_1 : decode cL_added 1 = .ok (.iload_n 1, 1) := by decide +kernel
theorem dL_added_2 : decode cL_added 2 = .ok (.invokevirtual 68, 3) := by decide +kernel
theorem dL_added_5 : decode cL_added 5 = .ok (.ireturn, 1) := by decide +kernel
theorem dL_added_6 : decode cL_added 6 = .ok (.astore_n 2, 1) := by decide +kernel
theorem dL_added_7 : decode cL_added 7 = .ok (.bipush (-7), 2) := by decide +kernel
theorem dL_added_9 : decode cL_added 9 = .ok (.ireturn, 1) := by decide +kernel
theorem dL_deleted_0 : decode cL_deleted 0 = .ok (.aload_n 0, 1) := by decide +kernel
theorem dL_deleted_1 : decode cL_deleted 1 = .ok (.iload_n 1, 1) := by decide +kernel
theorem dL_deleted_2 : decode cL_deleted 2 = .ok (.invokevirtual 75, 3) := by decide +kernel
theorem dL_deleted_5 : decode cL_deleted 5 = .ok (.ifCond .eq 7, 3) := by decide +kernel
theorem dL_deleted_8 : decode cL_deleted 8 = .ok (.iconst 1, 1) := by decide +kernel
theorem dL_deleted_9 : decode cL_deleted 9 = .ok (.goto 4, 3) := by decide +kernel
theorem dL_deleted_12 : decode cL_deleted 12 = .ok (.iconst 0, 1) := by decide +kernel
theorem dL_deleted_13 : decode cL_deleted 13 = .ok (.ireturn, 1) := by decide +kernel
theorem dL_deleted_14 : decode cL_deleted 14 = .ok (.astore_n 2, 1) := by decide +kernel
theorem dL_deleted_15 : decode cL_deleted 15 = .ok (.bipush (-7), 2) := by decide +kernel
theorem dL_deleted_17 : decode cL_deleted 17 = .ok (.ireturn, 1) := by decide +kernel
theorem dL_did_0 : decode cL_did 0 = .ok (.iload_n 1, 1) := by decide +kernel
theorem dL_did_1 : decode cL_did 1 = .ok (.ifCond .ne 10, 3) := by decide +kernel
theorem dL_did_4 : decode cL_did 4 = .ok (.aload_n 0, 1) := by decide +kernel
theorem dL_did_5 : decode cL_did 5 = .ok (.invokevirtual 79, 3) := by decide +kernel
theorem dL_did_8 : decode cL_did 8 = .ok (.goto 106, 3) := by decide +kernel
theorem dL_did_11 : decode cL_did 11 = .ok (.iload_n 1, 1) := by decide +kernel
theorem dL_did_12 : decode cL_did 12 = .ok (.iconst 1, 1) := by decide +kernel
theorem dL_did_13 : decode cL_did 13 = .ok (.if_icmp .ne 10, 3) := by decide +kernel
theorem dL_did_16 : decode cL_did 16 = .ok (.aload_n 0, 1) := by decide +kernel
theorem dL_did_17 : decode cL_did 17 = .ok (.invokevirtual 83, 3) := by decide +kernel
theorem dL_did_20 : decode cL_did 20 = .ok (.goto 94, 3) := by decide +kernel
theorem dL_did_23 : decode cL_did 23 = .ok (.iload_n 1, 1) := by decide +kernel
theorem dL_did_24 : decode cL_did 24 = .ok (.iconst 2, 1) := by decide +kernel
theorem dL_did_25 : decode cL_did 25 = .ok (.if_icmp .ne 10, 3) := by decide +kernel
theorem dL_did_28 : decode cL_did 28 = .ok (.aload_n 0, 1) := by decide +kernel
theorem dL_did_29 : decode cL_did 29 = .ok (.invokevirtual 86, 3) := by decide +kernel
theorem dL_did_32 : decode cL_did 32 = .ok (.goto 82, 3) := by decide +kernel
theorem dL_did_35 : decode cL_did 35 = .ok (.iload_n 1, 1) := by decide +kernel
theorem dL_did_36 : decode cL_did 36 = .ok (.iconst 3, 1) := by decide +kernel
theorem dL_did_37 : decode cL_did 37 = .ok (.if_icmp .ne 10, 3) := by decide +kernel
theorem dL_did_40 : decode cL_did 40 = .ok (.aload_n 0, 1) := by decide +kernel
theorem dL_did_41 : decode cL_did 41 = .ok (.invokevirtual 89, 3) := by decide +kernel
theorem dL_did_44 : decode cL_did 44 = .ok (.goto 70, 3) := by decide +kernel
theorem dL_did_47 : decode cL_did 47 = .ok (.iload_n 1, 1) := by decide +kernel
theorem dL_did_48 : decode cL_did 48 = .ok (.iconst 4, 1) := by decide +kernel
theorem dL_did_49 : decode cL_did 49 = .ok (.if_icmp .ne 10, 3) := by decide +kernel
theorem dL_did_52 : decode cL_did 52 = .ok (.aload_n 0, 1) := by decide +kernel
theorem dL_did_53 : decode cL_did 53 = .ok (.invokevirtual 92, 3) := by decide +kernel
theorem dL_did_56 : decode cL_did 56 = .ok (.goto 58, 3) := by decide +kernel
theorem dL_did_59 : decode cL_did 59 = .ok (.iload_n 1, 1) := by decide +kernel
theorem dL_did_60 : decode cL_did 60 = .ok (.iconst 5, 1) := by decide +kernel
theorem dL_did_61 : decode cL_did 61 = .ok (.if_icmp .ne 10, 3) := by decide +kernel
theorem dL_did_64 : decode cL_did 64 = .ok (.aload_n 0, 1) := by decide +kernel
theorem dL_did_65 : decode cL_did 65 = .ok (.invokevirtual 95, 3) := by decide +kernel
theorem dL_did_68 : decode cL_did 68 = .ok (.goto 46, 3) := by decide +kernel
theorem dL_did_71 : decode cL_did 71 = .ok (.iload_n 1, 1) := by decide +kernel
theorem dL_did_72 : decode cL_did 72 = .ok (.bipush 6, 2) := by decide +kernel
theorem dL_did_74 : decode cL_did 74 = .ok (.if_icmp .ne 10, 3) := by decide +kernel
theorem dL_did_77 : decode cL_did 77 = .ok (.aload_n 0, 1) := by decide +kernel
theorem dL_did_78 : decode cL_did 78 = .ok (.invokevirtual 98, 3) := by decide +kernel
theorem dL_did_81 : decode cL_did 81 = .ok (.goto 33, 3) := by decide +kernel
theorem dL_did_84 : decode cL_did 84 = .ok (.iload_n 1, 1) := by decide +kernel
theorem dL_did_85 : decode cL_did 85 = .ok (.bipush 7, 2) := by decide +kernel
theorem dL_did_87 : decode cL_did 87 = .ok (.if_icmp .ne 10, 3) := by decide +kernel
theorem dL_did_90 : decode cL_did 90 = .ok (.aload_n 0, 1) := by decide +kernel
theorem dL_did_91 : decode cL_did 91 = .ok (.invokevirtual 101, 3) := by decide +kernel
theorem dL_did_94 : decode cL_did 94 = .ok (.goto 20, 3) := by decide +kernel
theorem dL_did_97 : decode cL_did 97 = .ok (.iload_n 1, 1) := by decide +kernel
theorem dL_did_98 : decode cL_did 98 = .ok (.bipush 8, 2) := by decide +kernel
theorem dL_did_100 : decode cL_did 100 = .ok (.if_icmp .ne 10, 3) := by decide +kernel
theorem dL_did_103 : decode cL_did 103 = .ok (.aload_n 0, 1) := by decide +kernel
theorem dL_did_104 : decode cL_did 104 = .ok (.invokevirtual 104, 3) := by decide +kernel
theorem dL_did_107 : decode cL_did 107 = .ok (.goto 7, 3) := by decide +kernel
theorem dL_did_110 : decode cL_did 110 = .ok (.aload_n 0, 1) := by decide +kernel
theorem dL_did_111 : decode cL_did 111 = .ok (.invokevirtual 107, 3) := by decide +kernel
theorem dL_did_114 : decode cL_did 114 = .ok (.ireturn, 1) := by decide +kernel
theorem dL_did_115 : decode cL_did 115 = .ok (.astore_n 2, 1) := by decide +kernel
theorem dL_did_116 : decode cL_did 116 = .ok (.bipush (-7), 2) := by decide +kernel
theorem dL_did_118 : decode cL_did 118 = .ok (.ireturn, 1) := by decide +kernel
theorem dL_looked_0 : decode cL_looked 0 = .ok (.aload_n 0, 1) := by decide +kernel
theorem dL_looked_1 : decode cL_looked 1 = .ok (.iload_n 1, 1) := by decide +kernel
theorem dL_looked_2 : decode cL_looked 2 = .ok (.invokevirtual 110, 3) := by decide +kernel
theorem dL_looked_5 : decode cL_looked 5 = .ok (.ireturn, 1) := by decide +kernel
theorem dL_looked_6 : decode cL_looked 6 = .ok (.astore_n 2, 1) := by decide +kernel
theorem dL_looked_7 : decode cL_looked 7 = .ok (.bipush (-7), 2) := by decide +kernel
theorem dL_looked_9 : decode cL_looked 9 = .ok (.ireturn, 1) := by decide +kernel
theorem dL_isHeld_0 : decode cL_isHeld 0 = .ok (.aload_n 0, 1) := by decide +kernel
