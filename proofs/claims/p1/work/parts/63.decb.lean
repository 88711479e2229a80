theorem dX0_textOf_0 : decode cX0_textOf 0 = .ok (.iload_n 1, 1) := by decide +kernel
theorem dX0_textOf_1 : decode cX0_textOf 1 = .ok (.ifCond .ne 10, 3) := by decide +kernel
theorem dX0_textOf_4 : decode cX0_textOf 4 = .ok (.aload_n 0, 1) := by decide +kernel
theorem dX0_textOf_5 : decode cX0_textOf 5 = .ok (.getfield 24, 3) := by decide +kernel
theorem dX0_textOf_8 : decode cX0_textOf 8 = .ok (.goto 7, 3) := by decide +kernel
theorem dX0_textOf_11 : decode cX0_textOf 11 = .ok (.aload_n 0, 1) := by decide +kernel
theorem dX0_textOf_12 : decode cX0_textOf 12 = .ok (.getfield 28, 3) := by decide +kernel
theorem dX0_textOf_15 : decode cX0_textOf 15 = .ok (.areturn, 1) := by decide +kernel
theorem dX0_putText_0 : decode cX0_putText 0 = .ok (.iload_n 1, 1) := by decide +kernel
theorem dX0_putText_1 : decode cX0_putText 1 = .ok (.ifCond .ne 11, 3) := by decide +kernel
theorem dX0_putText_4 : decode cX0_putText 4 = .ok (.aload_n 0, 1) := by decide +kernel
theorem dX0_putText_5 : decode cX0_putText 5 = .ok (.aload_n 2, 1) := by decide +kernel
theorem dX0_putText_6 : decode cX0_putText 6 = .ok (.putfield 24, 3) := by decide +kernel
theorem dX0_putText_9 : decode cX0_putText 9 = .ok (.goto 8, 3) := by decide +kernel
theorem dX0_putText_12 : decode cX0_putText 12 = .ok (.aload_n 0, 1) := by decide +kernel
theorem dX0_putText_13 : decode cX0_putText 13 = .ok (.aload_n 2, 1) := by decide +kernel
theorem dX0_putText_14 : decode cX0_putText 14 = .ok (.putfield 28, 3) := by decide +kernel
theorem dX0_putText_17 : decode cX0_putText 17 = .ok (.return_, 1) := by decide +kernel
theorem dX3_takePad_0 : decode cX3_takePad 0 = .ok (.aload_n 0, 1) := by decide +kernel
theorem dX3_takePad_1 : decode cX3_takePad 1 = .ok (.getfield 12, 3) := by decide +kernel
theorem dX3_takePad_4 : decode cX3_takePad 4 = .ok (.astore_n 1, 1) := by decide +kernel
theorem dX3_takePad_5 : decode cX3_takePad 5 = .ok (.aload_n 0, 1) := by decide +kernel
theorem dX3_takePad_6 : decode cX3_takePad 6 = .ok (.new 9, 3) := by decide +kernel
theorem dX3_takePad_9 : decode cX3_takePad 9 = .ok (.dup, 1) := by decide +kernel
theorem dX3_takePad_10 : decode cX3_takePad 10 = .ok (.invokespecial 11, 3) := by decide +kernel
theorem dX3_takePad_13 : decode cX3_takePad 13 = .ok (.putfield 12, 3) := by decide +kernel
theorem dX3_takePad_16 : decode cX3_takePad 16 = .ok (.aload_n 1, 1) := by decide +kernel
theorem dX3_takePad_17 : decode cX3_takePad 17 = .ok (.areturn, 1) := by decide +kernel
theorem dX3_readPad_0 : decode cX3_readPad 0 = .ok (.aload_n 0, 1) := by decide +kernel
theorem dX3_readPad_1 : decode cX3_readPad 1 = .ok (.aload_n 0, 1) := by decide +kernel
theorem dX3_readPad_2 : decode cX3_readPad 2 = .ok (.getfield 12, 3) := by decide +kernel
theorem dX3_readPad_5 : decode cX3_readPad 5 = .ok (.invokevirtual 45, 3) := by decide +kernel
theorem dX3_readPad_8 : decode cX3_readPad 8 = .ok (.aload_n 0, 1) := by decide +kernel
theorem dX3_readPad_9 : decode cX3_readPad 9 = .ok (.getfield 22, 3) := by decide +kernel
theorem dX3_readPad_12 : decode cX3_readPad 12 = .ok (.ireturn, 1) := by decide +kernel
theorem dX3_readPadTokens_0 : decode cX3_readPadTokens 0 = .ok (.aload_n 0, 1) := by decide +kernel
theorem dX3_readPadTokens_1 : decode cX3_readPadTokens 1 = .ok (.aload_n 0, 1) := by decide +kernel
theorem dX3_readPadTokens_2 : decode cX3_readPadTokens 2 = .ok (.getfield 12, 3) := by decide +kernel
theorem dX3_readPadTokens_5 : decode cX3_readPadTokens 5 = .ok (.iconst 0, 1) := by decide +kernel
theorem dX3_readPadTokens_6 : decode cX3_readPadTokens 6 = .ok (.invokevirtual 49, 3) := by decide +kernel
theorem dX3_readPadTokens_9 : decode cX3_readPadTokens 9 = .ok (.aload_n 0, 1) := by decide +kernel
theorem dX3_readPadTokens_10 : decode cX3_readPadTokens 10 = .ok (.getfield 12, 3) := by decide +kernel
theorem dX3_readPadTokens_13 : decode cX3_readPadTokens 13 = .ok (.getfield 53, 3) := by decide +kernel
theorem dX3_readPadTokens_16 : decode cX3_readPadTokens 16 = .ok (.ireturn, 1) := by decide +kernel
theorem dX3_tokenise_0 : decode cX3_tokenise 0 = .ok (.aload_n 0, 1) := by decide +kernel
theorem dX3_tokenise_1 : decode cX3_tokenise 1 = .ok (.aload_n 1, 1) := by decide +kernel
theorem dX3_tokenise_2 : decode cX3_tokenise 2 = .ok (.invokevirtual 45, 3) := by decide +kernel
theorem dX3_tokenise_5 : decode cX3_tokenise 5 = .ok (.aload_n 1, 1) := by decide +kernel
theorem dX3_tokenise_6 : decode cX3_tokenise 6 = .ok (.iconst 0, 1) := by decide +kernel
theorem dX3_tokenise_7 : decode cX3_tokenise 7 = .ok (.putfield 53, 3) := by decide +kernel
theorem dX3_tokenise_10 : decode cX3_tokenise 10 = .ok (.iconst 0, 1) := by decide +kernel
theorem dX3_tokenise_11 : decode cX3_tokenise 11 = .ok (.istore_n 3, 1) := by decide +kernel
theorem dX3_tokenise_12 : decode cX3_tokenise 12 = .ok (.iload_n 3, 1) := by decide +kernel
theorem dX3_tokenise_13 : decode cX3_tokenise 13 = .ok (.aload_n 0, 1) := by decide +kernel
theorem dX3_tokenise_14 : decode cX3_tokenise 14 = .ok (.getfield 22, 3) := by decide +kernel
theorem dX3_tokenise_17 : decode cX3_tokenise 17 = .ok (.if_icmp .ge 47, 3) := by decide +kernel
theorem dX3_tokenise_64 : decode cX3_tokenise 64 = .ok (.return_, 1) := by decide +kernel
theorem dX3_readWordsOf_0 : decode cX3_readWordsOf 0 = .ok (.aload_n 0, 1) := by decide +kernel
theorem dX3_readWordsOf_1 : decode cX3_readWordsOf 1 = .ok (.iconst 0, 1) := by decide +kernel
theorem dX3_readWordsOf_2 : decode cX3_readWordsOf 2 = .ok (.putfield 22, 3) := by decide +kernel
theorem dX3_readWordsOf_5 : decode cX3_readWordsOf 5 = .ok (.iconst 0, 1) := by decide +kernel
theorem dX3_readWordsOf_6 : decode cX3_readWordsOf 6 = .ok (.istore_n 2, 1) := by decide +kernel
theorem dX3_readWordsOf_7 : decode cX3_readWordsOf 7 = .ok (.iconst 0, 1) := by decide +kernel
theorem dX3_readWordsOf_8 : decode cX3_readWordsOf 8 = .ok (.istore_n 3, 1) := by decide +kernel
theorem dX3_readWordsOf_9 : decode cX3_readWordsOf 9 = .ok (.iload_n 3, 1) := by decide +kernel
theorem dX3_readWordsOf_10 : decode cX3_readWordsOf 10 = .ok (.aload_n 1, 1) := by decide +kernel
theorem dX3_readWordsOf_11 : decode cX3_readWordsOf 11 = .ok (.getfield 80, 3) := by decide +kernel
theorem dX3_readWordsOf_14 : decode cX3_readWordsOf 14 = .ok (.if_icmp .ge 103, 3) := by decide +kernel
theorem dX3_readWordsOf_117 : decode cX3_readWordsOf 117 = .ok (.return_, 1) := by decide +kernel
theorem dX4_isPattern_0 : decode cX4_isPattern 0 = .ok (.aload_n 0, 1) := by decide +kernel
theorem dX4_isPattern_1 : decode cX4_isPattern 1 = .ok (.getfield 82, 3) := by decide +kernel
theorem dX4_isPattern_4 : decode cX4_isPattern 4 = .ok (.iconst 1, 1) := by decide +kernel
theorem dX4_isPattern_5 : decode cX4_isPattern 5 = .ok (.if_icmp .lt 12, 3) := by decide +kernel
theorem dX4_isPattern_17 : decode cX4_isPattern 17 = .ok (.iconst 0, 1) := by decide +kernel
theorem dX4_isPattern_18 : decode cX4_isPattern 18 = .ok (.ireturn, 1) := by decide +kernel
theorem dX9_putSign_0 : decode cX9_putSign 0 = .ok (.aload_n 0, 1) := by decide +kernel
theorem dX9_putSign_1 : decode cX9_putSign 1 = .ok (.getfield 15, 3) := by decide +kernel
theorem dX9_putSign_4 : decode cX9_putSign 4 = .ok (.aload_n 0, 1) := by decide +kernel
theorem dX9_putSign_5 : decode cX9_putSign 5 = .ok (.getfield 9, 3) := by decide +kernel
theorem dX9_putSign_8 : decode cX9_putSign 8 = .ok (.arraylength, 1) := by decide +kernel
theorem dX9_putSign_9 : decode cX9_putSign 9 = .ok (.if_icmp .ge 23, 3) := by decide +kernel
theorem dX9_putSign_12 : decode cX9_putSign 12 = .ok (.aload_n 0, 1) := by decide +kernel
theorem dX9_putSign_13 : decode cX9_putSign 13 = .ok (.getfield 9, 3) := by decide +kernel
theorem dX9_putSign_16 : decode cX9_putSign 16 = .ok (.aload_n 0, 1) := by decide +kernel
theorem dX9_putSign_17 : decode cX9_putSign 17 = .ok (.getfield 15, 3) := by decide +kernel
theorem dX9_putSign_20 : decode cX9_putSign 20 = .ok (.iload_n 1, 1) := by decide +kernel
theorem dX9_putSign_21 : decode cX9_putSign 21 = .ok (.iastore, 1) := by decide +kernel
theorem dX9_putSign_22 : decode cX9_putSign 22 = .ok (.aload_n 0, 1) := by decide +kernel
theorem dX9_putSign_23 : decode cX9_putSign 23 = .ok (.dup, 1) := by decide +kernel
theorem dX9_putSign_24 : decode cX9_putSign 24 = .ok (.getfield 15, 3) := by decide +kernel
theorem dX9_putSign_27 : decode cX9_putSign 27 = .ok (.iconst 1, 1) := by decide +kernel
theorem dX9_putSign_28 : decode cX9_putSign 28 = .ok (.iadd, 1) := by decide +kernel
theorem dX9_putSign_29 : decode cX9_putSign 29 = .ok (.putfield 15, 3) := by decide +kernel
theorem dX9_putSign_32 : decode cX9_putSign 32 = .ok (.aload_n 0, 1) := by decide +kernel
theorem dX9_putSign_33 : decode cX9_putSign 33 = .ok (.getfield 15, 3) := by decide +kernel
theorem dX9_putSign_36 : decode cX9_putSign 36 = .ok (.ireturn, 1) := by decide +kernel
theorem dX10_size_0 : decode cX10_size 0 = .ok (.aload_n 0, 1) := by decide +kernel
theorem dX10_size_1 : decode cX10_size 1 = .ok (.getfield 12, 3) := by decide +kernel
theorem dX10_size_4 : decode cX10_size 4 = .ok (.invokevirtual 22, 3) := by decide +kernel
theorem dX10_size_7 : decode cX10_size 7 = .ok (.ireturn, 1) := by decide +kernel
theorem dX10_at_0 : decode cX10_at 0 = .ok (.iload_n 1, 1) := by decide +kernel
theorem dX10_at_1 : decode cX10_at 1 = .ok (.ifCond .lt 14, 3) := by decide +kernel
theorem dX10_at_4 : decode cX10_at 4 = .ok (.iload_n 1, 1) := by decide +kernel
theorem dX10_at_5 : decode cX10_at 5 = .ok (.aload_n 0, 1) := by decide +kernel
theorem dX10_at_6 : decode cX10_at 6 = .ok (.getfield 12, 3) := by decide +kernel
theorem dX10_at_9 : decode cX10_at 9 = .ok (.invokevirtual 22, 3) := by decide +kernel
theorem dX10_at_12 : decode cX10_at 12 = .ok (.if_icmp .lt 7, 3) := by decide +kernel
theorem dX10_at_15 : decode cX10_at 15 = .ok (.aconst_null, 1) := by decide +kernel
theorem dX10_at_16 : decode cX10_at 16 = .ok (.goto 14, 3) := by decide +kernel
theorem dX10_at_30 : decode cX10_at 30 = .ok (.areturn, 1) := by decide +kernel
theorem dX10_copyOf_0 : decode cX10_copyOf 0 = .ok (.new 13, 3) := by decide +kernel
theorem dX10_copyOf_3 : decode cX10_copyOf 3 = .ok (.dup, 1) := by decide +kernel
theorem dX10_copyOf_4 : decode cX10_copyOf 4 = .ok (.iconst (-1), 1) := by decide +kernel
theorem dX10_copyOf_5 : decode cX10_copyOf 5 = .ok (.invokespecial 57, 3) := by decide +kernel
theorem dX10_copyOf_8 : decode cX10_copyOf 8 = .ok (.astore_n 3, 1) := by decide +kernel
theorem dX10_copyOf_9 : decode cX10_copyOf 9 = .ok (.iload_n 1, 1) := by decide +kernel
theorem dX10_copyOf_10 : decode cX10_copyOf 10 = .ok (.iconst 0, 1) := by decide +kernel
theorem dX10_copyOf_11 : decode cX10_copyOf 11 = .ok (.invokestatic 60, 3) := by decide +kernel
theorem dX10_copyOf_14 : decode cX10_copyOf 14 = .ok (.istore 4, 2) := by decide +kernel
theorem dX10_copyOf_16 : decode cX10_copyOf 16 = .ok (.iload 4, 2) := by decide +kernel
theorem dX10_copyOf_18 : decode cX10_copyOf 18 = .ok (.iload_n 1, 1) := by decide +kernel
theorem dX10_copyOf_19 : decode cX10_copyOf 19 = .ok (.iload_n 2, 1) := by decide +kernel
theorem dX10_copyOf_20 : decode cX10_copyOf 20 = .ok (.iadd, 1) := by decide +kernel
theorem dX10_copyOf_21 : decode cX10_copyOf 21 = .ok (.if_icmp .ge 44, 3) := by decide +kernel
theorem dX10_copyOf_65 : decode cX10_copyOf 65 = .ok (.aload_n 3, 1) := by decide +kernel
theorem dX10_copyOf_66 : decode cX10_copyOf 66 = .ok (.areturn, 1) := by decide +kernel
theorem dX10_kill_0 : decode cX10_kill 0 = .ok (.iconst 0, 1) := by decide +kernel
theorem dX10_kill_1 : decode cX10_kill 1 = .ok (.istore_n 2, 1) := by decide +kernel
theorem dX10_kill_2 : decode cX10_kill 2 = .ok (.iload_n 2, 1) := by decide +kernel
theorem dX10_kill_3 : decode cX10_kill 3 = .ok (.aload_n 0, 1) := by decide +kernel
theorem dX10_kill_4 : decode cX10_kill 4 = .ok (.getfield 12, 3) := by decide +kernel
theorem dX10_kill_7 : decode cX10_kill 7 = .ok (.invokevirtual 22, 3) := by decide +kernel
theorem dX10_kill_10 : decode cX10_kill 10 = .ok (.if_icmp .ge 29, 3) := by decide +kernel
theorem dX10_kill_39 : decode cX10_kill 39 = .ok (.iconst 0, 1) := by decide +kernel
theorem dX10_kill_40 : decode cX10_kill 40 = .ok (.ireturn, 1) := by decide +kernel
theorem dX10_duePlace_0 : decode cX10_duePlace 0 = .ok (.iconst 0, 1) := by decide +kernel
theorem dX10_duePlace_1 : decode cX10_duePlace 1 = .ok (.istore_n 1, 1) := by decide +kernel
theorem dX10_duePlace_2 : decode cX10_duePlace 2 = .ok (.iload_n 1, 1) := by decide +kernel
theorem dX10_duePlace_3 : decode cX10_duePlace 3 = .ok (.iconst 3, 1) := by decide +kernel
theorem dX10_duePlace_4 : decode cX10_duePlace 4 = .ok (.iadd, 1) := by decide +kernel
theorem dX10_duePlace_5 : decode cX10_duePlace 5 = .ok (.aload_n 0, 1) := by decide +kernel
theorem dX10_duePlace_6 : decode cX10_duePlace 6 = .ok (.getfield 12, 3) := by decide +kernel
theorem dX10_duePlace_9 : decode cX10_duePlace 9 = .ok (.invokevirtual 22, 3) := by decide +kernel
theorem dX10_duePlace_12 : decode cX10_duePlace 12 = .ok (.if_icmp .gt 75, 3) := by decide +kernel
theorem dX10_duePlace_87 : decode cX10_duePlace 87 = .ok (.iconst (-1), 1) := by decide +kernel
theorem dX10_duePlace_88 : decode cX10_duePlace 88 = .ok (.ireturn, 1) := by decide +kernel
theorem dX10_changedSince_0 : decode cX10_changedSince 0 = .ok (.iconst 0, 1) := by decide +kernel
theorem dX10_changedSince_1 : decode cX10_changedSince 1 = .ok (.istore_n 2, 1) := by decide +kernel
theorem dX10_changedSince_2 : decode cX10_changedSince 2 = .ok (.iconst 0, 1) := by decide +kernel
theorem dX10_changedSince_3 : decode cX10_changedSince 3 = .ok (.istore_n 3, 1) := by decide +kernel
theorem dX10_changedSince_4 : decode cX10_changedSince 4 = .ok (.iload_n 3, 1) := by decide +kernel
theorem dX10_changedSince_5 : decode cX10_changedSince 5 = .ok (.aload_n 0, 1) := by decide +kernel
theorem dX10_changedSince_6 : decode cX10_changedSince 6 = .ok (.getfield 12, 3) := by decide +kernel
theorem dX10_changedSince_9 : decode cX10_changedSince 9 = .ok (.invokevirtual 22, 3) := by decide +kernel
theorem dX10_changedSince_12 : decode cX10_changedSince 12 = .ok (.if_icmp .ge 70, 3) := by decide +kernel
theorem dX10_changedSince_82 : decode cX10_changedSince 82 = .ok (.iload_n 2, 1) := by decide +kernel
theorem dX10_changedSince_83 : decode cX10_changedSince 83 = .ok (.ireturn, 1) := by decide +kernel
theorem dX10_newFiles_0 : decode cX10_newFiles 0 = .ok (.iconst 0, 1) := by decide +kernel
theorem dX10_newFiles_1 : decode cX10_newFiles 1 = .ok (.istore_n 2, 1) := by decide +kernel
theorem dX10_newFiles_2 : decode cX10_newFiles 2 = .ok (.iconst 0, 1) := by decide +kernel
theorem dX10_newFiles_3 : decode cX10_newFiles 3 = .ok (.istore_n 3, 1) := by decide +kernel
theorem dX10_newFiles_4 : decode cX10_newFiles 4 = .ok (.iload_n 3, 1) := by decide +kernel
theorem dX10_newFiles_5 : decode cX10_newFiles 5 = .ok (.aload_n 0, 1) := by decide +kernel
theorem dX10_newFiles_6 : decode cX10_newFiles 6 = .ok (.getfield 12, 3) := by decide +kernel
theorem dX10_newFiles_9 : decode cX10_newFiles 9 = .ok (.invokevirtual 22, 3) := by decide +kernel
theorem dX10_newFiles_12 : decode cX10_newFiles 12 = .ok (.if_icmp .ge 55, 3) := by decide +kernel
theorem dX10_newFiles_67 : decode cX10_newFiles 67 = .ok (.iload_n 2, 1) := by decide +kernel
theorem dX10_newFiles_68 : decode cX10_newFiles 68 = .ok (.ireturn, 1) := by decide +kernel
theorem dX11_type_0 : decode cX11_type 0 = .ok (.iload_n 1, 1) := by decide +kernel
theorem dX11_type_1 : decode cX11_type 1 = .ok (.bipush 32, 2) := by decide +kernel
theorem dX11_type_3 : decode cX11_type 3 = .ok (.if_icmp .lt 9, 3) := by decide +kernel
theorem dX11_type_6 : decode cX11_type 6 = .ok (.iload_n 1, 1) := by decide +kernel
theorem dX11_type_7 : decode cX11_type 7 = .ok (.bipush 126, 2) := by decide +kernel
theorem dX11_type_9 : decode cX11_type 9 = .ok (.if_icmp .le 13, 3) := by decide +kernel
theorem dX11_type_12 : decode cX11_type 12 = .ok (.new 100, 3) := by decide +kernel
theorem dX11_type_15 : decode cX11_type 15 = .ok (.dup, 1) := by decide +kernel
theorem dX11_type_16 : decode cX11_type 16 = .ok (.ldc 102, 2) := by decide +kernel
theorem dX11_type_18 : decode cX11_type 18 = .ok (.invokespecial 104, 3) := by decide +kernel
theorem dX11_type_21 : decode cX11_type 21 = .ok (.athrow, 1) := by decide +kernel
theorem dX11_type_22 : decode cX11_type 22 = .ok (.aload_n 0, 1) := by decide +kernel
theorem dX11_type_23 : decode cX11_type 23 = .ok (.getfield 10, 3) := by decide +kernel
theorem dX11_type_26 : decode cX11_type 26 = .ok (.getfield 107, 3) := by decide +kernel
theorem dX11_type_29 : decode cX11_type 29 = .ok (.getfield 111, 3) := by decide +kernel
theorem dX11_type_32 : decode cX11_type 32 = .ok (.bipush 40, 2) := by decide +kernel
theorem dX11_type_34 : decode cX11_type 34 = .ok (.if_icmp .lt 13, 3) := by decide +kernel
theorem dX11_type_47 : decode cX11_type 47 = .ok (.aload_n 0, 1) := by decide +kernel
theorem dX11_type_48 : decode cX11_type 48 = .ok (.getfield 10, 3) := by decide +kernel
theorem dX11_type_51 : decode cX11_type 51 = .ok (.getfield 107, 3) := by decide +kernel
theorem dX11_type_54 : decode cX11_type 54 = .ok (.iload_n 1, 1) := by decide +kernel
theorem dX11_type_55 : decode cX11_type 55 = .ok (.invokevirtual 121, 3) := by decide +kernel
theorem dX11_type_58 : decode cX11_type 58 = .ok (.ireturn, 1) := by decide +kernel
theorem dX11_wipe_0 : decode cX11_wipe 0 = .ok (.aload_n 0, 1) := by decide +kernel
theorem dX11_wipe_1 : decode cX11_wipe 1 = .ok (.getfield 10, 3) := by decide +kernel
theorem dX11_wipe_4 : decode cX11_wipe 4 = .ok (.invokevirtual 125, 3) := by decide +kernel
theorem dX11_wipe_7 : decode cX11_wipe 7 = .ok (.getfield 111, 3) := by decide +kernel
theorem dX11_wipe_10 : decode cX11_wipe 10 = .ok (.ireturn, 1) := by decide +kernel
theorem dX11_stop_0 : decode cX11_stop 0 = .ok (.aload_n 0, 1) := by decide +kernel
theorem dX11_stop_1 : decode cX11_stop 1 = .ok (.getfield 10, 3) := by decide +kernel
theorem dX11_stop_4 : decode cX11_stop 4 = .ok (.invokevirtual 129, 3) := by decide +kernel
theorem dX11_stop_7 : decode cX11_stop 7 = .ok (.iconst 1, 1) := by decide +kernel
theorem dX11_stop_8 : decode cX11_stop 8 = .ok (.if_icmp .ne 25, 3) := by decide +kernel
theorem dX11_stop_33 : decode cX11_stop 33 = .ok (.new 116, 3) := by decide +kernel
theorem dX11_stop_36 : decode cX11_stop 36 = .ok (.dup, 1) := by decide +kernel
theorem dX11_stop_37 : decode cX11_stop 37 = .ok (.ldc 139, 2) := by decide +kernel
theorem dX11_stop_39 : decode cX11_stop 39 = .ok (.invokespecial 120, 3) := by decide +kernel
theorem dX11_stop_42 : decode cX11_stop 42 = .ok (.athrow, 1) := by decide +kernel
theorem dX11_synonym_0 : decode cX11_synonym 0 = .ok (.aload_n 0, 1) := by decide +kernel
theorem dX11_synonym_1 : decode cX11_synonym 1 = .ok (.getfield 10, 3) := by decide +kernel
theorem dX11_synonym_4 : decode cX11_synonym 4 = .ok (.invokevirtual 129, 3) := by decide +kernel
theorem dX11_synonym_7 : decode cX11_synonym 7 = .ok (.iconst 2, 1) := by decide +kernel
theorem dX11_synonym_8 : decode cX11_synonym 8 = .ok (.if_icmp .ne 25, 3) := by decide +kernel
theorem dX11_synonym_33 : decode cX11_synonym 33 = .ok (.new 116, 3) := by decide +kernel
theorem dX11_synonym_36 : decode cX11_synonym 36 = .ok (.dup, 1) := by decide +kernel
theorem dX11_synonym_37 : decode cX11_synonym 37 = .ok (.ldc 147, 2) := by decide +kernel
theorem dX11_synonym_39 : decode cX11_synonym 39 = .ok (.invokespecial 120, 3) := by decide +kernel
theorem dX11_synonym_42 : decode cX11_synonym 42 = .ok (.athrow, 1) := by decide +kernel
theorem dX11_text_0 : decode cX11_text 0 = .ok (.iload_n 1, 1) := by decide +kernel
theorem dX11_text_1 : decode cX11_text 1 = .ok (.invokestatic 152, 3) := by decide +kernel
theorem dX11_text_4 : decode cX11_text 4 = .ok (.aload_n 0, 1) := by decide +kernel
theorem dX11_text_5 : decode cX11_text 5 = .ok (.getfield 10, 3) := by decide +kernel
theorem dX11_text_8 : decode cX11_text 8 = .ok (.invokevirtual 125, 3) := by decide +kernel
theorem dX11_text_11 : decode cX11_text 11 = .ok (.astore_n 2, 1) := by decide +kernel
theorem dX11_text_12 : decode cX11_text 12 = .ok (.aload_n 0, 1) := by decide +kernel
theorem dX11_text_13 : decode cX11_text 13 = .ok (.getfield 10, 3) := by decide +kernel
theorem dX11_text_16 : decode cX11_text 16 = .ok (.aload_n 2, 1) := by decide +kernel
theorem dX11_text_17 : decode cX11_text 17 = .ok (.iconst 1, 1) := by decide +kernel
theorem dX11_text_18 : decode cX11_text 18 = .ok (.invokevirtual 155, 3) := by decide +kernel
theorem dX11_text_21 : decode cX11_text 21 = .ok (.aload_n 0, 1) := by decide +kernel
theorem dX11_text_22 : decode cX11_text 22 = .ok (.getfield 19, 3) := by decide +kernel
theorem dX11_text_25 : decode cX11_text 25 = .ok (.iload_n 1, 1) := by decide +kernel
theorem dX11_text_26 : decode cX11_text 26 = .ok (.aload_n 2, 1) := by decide +kernel
theorem dX11_text_27 : decode cX11_text 27 = .ok (.invokevirtual 159, 3) := by decide +kernel
theorem dX11_text_30 : decode cX11_text 30 = .ok (.aload_n 2, 1) := by decide +kernel
theorem dX11_text_31 : decode cX11_text 31 = .ok (.getfield 163, 3) := by decide +kernel
theorem dX11_text_34 : decode cX11_text 34 = .ok (.ireturn, 1) := by decide +kernel
theorem dX11_columns_0 : decode cX11_columns 0 = .ok (.iload_n 1, 1) := by decide +kernel
theorem dX11_columns_1 : decode cX11_columns 1 = .ok (.ifCond .lt 20, 3) := by decide +kernel
theorem dX11_columns_4 : decode cX11_columns 4 = .ok (.iload_n 1, 1) := by decide +kernel
theorem dX11_columns_5 : decode cX11_columns 5 = .ok (.bipush 9, 2) := by decide +kernel
theorem dX11_columns_7 : decode cX11_columns 7 = .ok (.if_icmp .gt 14, 3) := by decide +kernel
theorem dX11_columns_10 : decode cX11_columns 10 = .ok (.iload_n 2, 1) := by decide +kernel
theorem dX11_columns_11 : decode cX11_columns 11 = .ok (.ifCond .lt 10, 3) := by decide +kernel
theorem dX11_columns_14 : decode cX11_columns 14 = .ok (.iload_n 2, 1) := by decide +kernel
theorem dX11_columns_15 : decode cX11_columns 15 = .ok (.sipush 999, 3) := by decide +kernel
theorem dX11_columns_18 : decode cX11_columns 18 = .ok (.if_icmp .le 13, 3) := by decide +kernel
theorem dX11_columns_21 : decode cX11_columns 21 = .ok (.new 100, 3) := by decide +kernel
theorem dX11_columns_24 : decode cX11_columns 24 = .ok (.dup, 1) := by decide +kernel
theorem dX11_columns_25 : decode cX11_columns 25 = .ok (.ldc 166, 2) := by decide +kernel
theorem dX11_columns_27 : decode cX11_columns 27 = .ok (.invokespecial 104, 3) := by decide +kernel
theorem dX11_columns_30 : decode cX11_columns 30 = .ok (.athrow, 1) := by decide +kernel
theorem dX11_columns_31 : decode cX11_columns 31 = .ok (.aload_n 0, 1) := by decide +kernel
theorem dX11_columns_32 : decode cX11_columns 32 = .ok (.getfield 19, 3) := by decide +kernel
theorem dX11_columns_35 : decode cX11_columns 35 = .ok (.iload_n 1, 1) := by decide +kernel
theorem dX11_columns_36 : decode cX11_columns 36 = .ok (.putfield 168, 3) := by decide +kernel
theorem dX11_columns_39 : decode cX11_columns 39 = .ok (.aload_n 0, 1) := by decide +kernel
theorem dX11_columns_40 : decode cX11_columns 40 = .ok (.getfield 19, 3) := by decide +kernel
theorem dX11_columns_43 : decode cX11_columns 43 = .ok (.iload_n 2, 1) := by decide +kernel
theorem dX11_columns_44 : decode cX11_columns 44 = .ok (.putfield 171, 3) := by decide +kernel
theorem dX11_columns_47 : decode cX11_columns 47 = .ok (.return_, 1) := by decide +kernel
theorem dX11_add_0 : decode cX11_add 0 = .ok (.iload_n 1, 1) := by decide +kernel
theorem dX11_add_1 : decode cX11_add 1 = .ok (.invokestatic 174, 3) := by decide +kernel
theorem dX11_add_4 : decode cX11_add 4 = .ok (.aload_n 0, 1) := by decide +kernel
theorem dX11_add_5 : decode cX11_add 5 = .ok (.invokevirtual 177, 3) := by decide +kernel
theorem dX11_add_8 : decode cX11_add 8 = .ok (.aload_n 0, 1) := by decide +kernel
theorem dX11_add_9 : decode cX11_add 9 = .ok (.getfield 26, 3) := by decide +kernel
theorem dX11_add_12 : decode cX11_add 12 = .ok (.invokevirtual 180, 3) := by decide +kernel
theorem dX11_add_15 : decode cX11_add 15 = .ok (.bipush 12, 2) := by decide +kernel
theorem dX11_add_17 : decode cX11_add 17 = .ok (.if_icmp .lt 22, 3) := by decide +kernel
theorem dX11_add_39 : decode cX11_add 39 = .ok (.aload_n 0, 1) := by decide +kernel
theorem dX11_add_40 : decode cX11_add 40 = .ok (.iload_n 1, 1) := by decide +kernel
theorem dX11_add_41 : decode cX11_add 41 = .ok (.invokevirtual 189, 3) := by decide +kernel
theorem dX11_add_44 : decode cX11_add 44 = .ok (.pop, 1) := by decide +kernel
theorem dX11_add_45 : decode cX11_add 45 = .ok (.aload_n 0, 1) := by decide +kernel
theorem dX11_add_46 : decode cX11_add 46 = .ok (.getfield 10, 3) := by decide +kernel
theorem dX11_add_49 : decode cX11_add 49 = .ok (.iconst 1, 1) := by decide +kernel
theorem dX11_add_50 : decode cX11_add 50 = .ok (.putfield 136, 3) := by decide +kernel
theorem dX11_add_53 : decode cX11_add 53 = .ok (.aload_n 0, 1) := by decide +kernel
theorem dX11_add_54 : decode cX11_add 54 = .ok (.getfield 19, 3) := by decide +kernel
theorem dX11_add_57 : decode cX11_add 57 = .ok (.iload_n 1, 1) := by decide +kernel
theorem dX11_add_58 : decode cX11_add 58 = .ok (.putfield 193, 3) := by decide +kernel
theorem dX11_add_61 : decode cX11_add 61 = .ok (.aload_n 0, 1) := by decide +kernel
theorem dX11_add_62 : decode cX11_add 62 = .ok (.getfield 10, 3) := by decide +kernel
theorem dX11_add_65 : decode cX11_add 65 = .ok (.aload_n 0, 1) := by decide +kernel
theorem dX11_add_66 : decode cX11_add 66 = .ok (.getfield 19, 3) := by decide +kernel
theorem dX11_add_69 : decode cX11_add 69 = .ok (.iconst 0, 1) := by decide +kernel
theorem dX11_add_70 : decode cX11_add 70 = .ok (.invokevirtual 196, 3) := by decide +kernel
theorem dX11_add_73 : decode cX11_add 73 = .ok (.iconst 1, 1) := by decide +kernel
theorem dX11_add_74 : decode cX11_add 74 = .ok (.invokevirtual 155, 3) := by decide +kernel
theorem dX11_add_77 : decode cX11_add 77 = .ok (.aload_n 0, 1) := by decide +kernel
theorem dX11_add_78 : decode cX11_add 78 = .ok (.getfield 10, 3) := by decide +kernel
theorem dX11_add_81 : decode cX11_add 81 = .ok (.aload_n 0, 1) := by decide +kernel
theorem dX11_add_82 : decode cX11_add 82 = .ok (.getfield 19, 3) := by decide +kernel
theorem dX11_add_85 : decode cX11_add 85 = .ok (.iconst 1, 1) := by decide +kernel
theorem dX11_add_86 : decode cX11_add 86 = .ok (.invokevirtual 196, 3) := by decide +kernel
theorem dX11_add_89 : decode cX11_add 89 = .ok (.iconst 1, 1) := by decide +kernel
theorem dX11_add_90 : decode cX11_add 90 = .ok (.invokevirtual 155, 3) := by decide +kernel
theorem dX11_add_93 : decode cX11_add 93 = .ok (.aload_n 0, 1) := by decide +kernel
theorem dX11_add_94 : decode cX11_add 94 = .ok (.getfield 26, 3) := by decide +kernel
theorem dX11_add_97 : decode cX11_add 97 = .ok (.aload_n 0, 1) := by decide +kernel
theorem dX11_add_98 : decode cX11_add 98 = .ok (.getfield 19, 3) := by decide +kernel
theorem dX11_add_101 : decode cX11_add 101 = .ok (.invokevirtual 200, 3) := by decide +kernel
theorem dX11_add_104 : decode cX11_add 104 = .ok (.pop, 1) := by decide +kernel
theorem dX11_add_105 : decode cX11_add 105 = .ok (.aload_n 0, 1) := by decide +kernel
theorem dX11_add_106 : decode cX11_add 106 = .ok (.new 16, 3) := by decide +kernel
theorem dX11_add_109 : decode cX11_add 109 = .ok (.dup, 1) := by decide +kernel
theorem dX11_add_110 : decode cX11_add 110 = .ok (.invokespecial 18, 3) := by decide +kernel
theorem dX11_add_113 : decode cX11_add 113 = .ok (.putfield 19, 3) := by decide +kernel
theorem dX11_add_116 : decode cX11_add 116 = .ok (.aload_n 0, 1) := by decide +kernel
theorem dX11_add_117 : decode cX11_add 117 = .ok (.getfield 26, 3) := by decide +kernel
theorem dX11_add_120 : decode cX11_add 120 = .ok (.invokevirtual 180, 3) := by decide +kernel
theorem dX11_add_123 : decode cX11_add 123 = .ok (.ireturn, 1) := by decide +kernel
theorem dX11_delete_0 : decode cX11_delete 0 = .ok (.iload_n 1, 1) := by decide +kernel
theorem dX11_delete_1 : decode cX11_delete 1 = .ok (.invokestatic 174, 3) := by decide +kernel
theorem dX11_delete_4 : decode cX11_delete 4 = .ok (.aload_n 0, 1) := by decide +kernel
theorem dX11_delete_5 : decode cX11_delete 5 = .ok (.invokevirtual 177, 3) := by decide +kernel
theorem dX11_delete_8 : decode cX11_delete 8 = .ok (.aload_n 0, 1) := by decide +kernel
theorem dX11_delete_9 : decode cX11_delete 9 = .ok (.iload_n 1, 1) := by decide +kernel
theorem dX11_delete_10 : decode cX11_delete 10 = .ok (.invokevirtual 189, 3) := by decide +kernel
theorem dX11_delete_13 : decode cX11_delete 13 = .ok (.ireturn, 1) := by decide +kernel
theorem dX11_flush_0 : decode cX11_flush 0 = .ok (.aload_n 0, 1) := by decide +kernel
theorem dX11_flush_1 : decode cX11_flush 1 = .ok (.invokevirtual 177, 3) := by decide +kernel
theorem dX11_flush_4 : decode cX11_flush 4 = .ok (.aload_n 0, 1) := by decide +kernel
theorem dX11_flush_5 : decode cX11_flush 5 = .ok (.getfield 84, 3) := by decide +kernel
theorem dX11_flush_8 : decode cX11_flush 8 = .ok (.sipush 200, 3) := by decide +kernel
theorem dX11_flush_11 : decode cX11_flush 11 = .ok (.if_icmp .lt 13, 3) := by decide +kernel
theorem dX11_flush_24 : decode cX11_flush 24 = .ok (.aload_n 0, 1) := by decide +kernel
theorem dX11_flush_25 : decode cX11_flush 25 = .ok (.getfield 26, 3) := by decide +kernel
theorem dX11_flush_28 : decode cX11_flush 28 = .ok (.invokevirtual 206, 3) := by decide +kernel
theorem dX11_flush_31 : decode cX11_flush 31 = .ok (.ifCond .eq 5, 3) := by decide +kernel
theorem dX11_flush_34 : decode cX11_flush 34 = .ok (.iconst (-1), 1) := by decide +kernel
theorem dX11_flush_35 : decode cX11_flush 35 = .ok (.ireturn, 1) := by decide +kernel
theorem dX11_due_0 : decode cX11_due 0 = .ok (.aload_n 0, 1) := by decide +kernel
theorem dX11_due_1 : decode cX11_due 1 = .ok (.invokevirtual 177, 3) := by decide +kernel
theorem dX11_due_4 : decode cX11_due 4 = .ok (.aload_n 0, 1) := by decide +kernel
theorem dX11_due_5 : decode cX11_due 5 = .ok (.getfield 35, 3) := by decide +kernel
theorem dX11_due_8 : decode cX11_due 8 = .ok (.invokevirtual 213, 3) := by decide +kernel
theorem dX11_due_11 : decode cX11_due 11 = .ok (.ireturn, 1) := by decide +kernel
theorem dX11_merge_0 : decode cX11_merge 0 = .ok (.aload_n 0, 1) := by decide +kernel
theorem dX11_merge_1 : decode cX11_merge 1 = .ok (.invokevirtual 177, 3) := by decide +kernel
theorem dX11_merge_4 : decode cX11_merge 4 = .ok (.aload_n 0, 1) := by decide +kernel
theorem dX11_merge_5 : decode cX11_merge 5 = .ok (.getfield 35, 3) := by decide +kernel
theorem dX11_merge_8 : decode cX11_merge 8 = .ok (.invokevirtual 213, 3) := by decide +kernel
theorem dX11_merge_11 : decode cX11_merge 11 = .ok (.istore_n 1, 1) := by decide +kernel
theorem dX11_merge_12 : decode cX11_merge 12 = .ok (.iload_n 1, 1) := by decide +kernel
theorem dX11_merge_13 : decode cX11_merge 13 = .ok (.iconst (-1), 1) := by decide +kernel
theorem dX11_merge_14 : decode cX11_merge 14 = .ok (.if_icmp .eq 20, 3) := by decide +kernel
theorem dX11_merge_34 : decode cX11_merge 34 = .ok (.new 116, 3) := by decide +kernel
theorem dX11_merge_37 : decode cX11_merge 37 = .ok (.dup, 1) := by decide +kernel
theorem dX11_merge_38 : decode cX11_merge 38 = .ok (.ldc 216, 2) := by decide +kernel
theorem dX11_merge_40 : decode cX11_merge 40 = .ok (.invokespecial 120, 3) := by decide +kernel
theorem dX11_merge_43 : decode cX11_merge 43 = .ok (.athrow, 1) := by decide +kernel
theorem dX11_step_0 : decode cX11_step 0 = .ok (.aload_n 0, 1) := by decide +kernel
theorem dX11_step_1 : decode cX11_step 1 = .ok (.invokevirtual 177, 3) := by decide +kernel
theorem dX11_step_4 : decode cX11_step 4 = .ok (.aload_n 0, 1) := by decide +kernel
theorem dX11_step_5 : decode cX11_step 5 = .ok (.getfield 39, 3) := by decide +kernel
theorem dX11_step_8 : decode cX11_step 8 = .ok (.astore_n 1, 1) := by decide +kernel
theorem dX11_step_9 : decode cX11_step 9 = .ok (.aload_n 1, 1) := by decide +kernel
theorem dX11_step_10 : decode cX11_step 10 = .ok (.ifnonnull 13, 3) := by decide +kernel
theorem dX11_step_13 : decode cX11_step 13 = .ok (.new 116, 3) := by decide +kernel
theorem dX11_step_16 : decode cX11_step 16 = .ok (.dup, 1) := by decide +kernel
theorem dX11_step_17 : decode cX11_step 17 = .ok (.ldc 225, 2) := by decide +kernel
theorem dX11_step_19 : decode cX11_step 19 = .ok (.invokespecial 120, 3) := by decide +kernel
theorem dX11_step_22 : decode cX11_step 22 = .ok (.athrow, 1) := by decide +kernel
theorem dX11_giveUp_0 : decode cX11_giveUp 0 = .ok (.aload_n 0, 1) := by decide +kernel
theorem dX11_giveUp_1 : decode cX11_giveUp 1 = .ok (.invokevirtual 177, 3) := by decide +kernel
theorem dX11_giveUp_4 : decode cX11_giveUp 4 = .ok (.aload_n 0, 1) := by decide +kernel
theorem dX11_giveUp_5 : decode cX11_giveUp 5 = .ok (.getfield 39, 3) := by decide +kernel
theorem dX11_giveUp_8 : decode cX11_giveUp 8 = .ok (.ifnonnull 13, 3) := by decide +kernel
theorem dX11_giveUp_11 : decode cX11_giveUp 11 = .ok (.new 116, 3) := by decide +kernel
theorem dX11_giveUp_14 : decode cX11_giveUp 14 = .ok (.dup, 1) := by decide +kernel
theorem dX11_giveUp_15 : decode cX11_giveUp 15 = .ok (.ldc 225, 2) := by decide +kernel
theorem dX11_giveUp_17 : decode cX11_giveUp 17 = .ok (.invokespecial 120, 3) := by decide +kernel
theorem dX11_giveUp_20 : decode cX11_giveUp 20 = .ok (.athrow, 1) := by decide +kernel
theorem dX11_prepare_0 : decode cX11_prepare 0 = .ok (.aload_n 0, 1) := by decide +kernel
theorem dX11_prepare_1 : decode cX11_prepare 1 = .ok (.invokevirtual 177, 3) := by decide +kernel
theorem dX11_prepare_4 : decode cX11_prepare 4 = .ok (.aload_n 0, 1) := by decide +kernel
theorem dX11_prepare_5 : decode cX11_prepare 5 = .ok (.getfield 49, 3) := by decide +kernel
theorem dX11_prepare_8 : decode cX11_prepare 8 = .ok (.ifnonnull 23, 3) := by decide +kernel
theorem dX11_prepare_11 : decode cX11_prepare 11 = .ok (.aload_n 0, 1) := by decide +kernel
theorem dX11_prepare_12 : decode cX11_prepare 12 = .ok (.getfield 84, 3) := by decide +kernel
theorem dX11_prepare_15 : decode cX11_prepare 15 = .ok (.sipush 200, 3) := by decide +kernel
theorem dX11_prepare_18 : decode cX11_prepare 18 = .ok (.if_icmp .lt 23, 3) := by decide +kernel
theorem dX11_prepare_41 : decode cX11_prepare 41 = .ok (.aload_n 0, 1) := by decide +kernel
theorem dX11_prepare_42 : decode cX11_prepare 42 = .ok (.getfield 26, 3) := by decide +kernel
theorem dX11_prepare_45 : decode cX11_prepare 45 = .ok (.invokevirtual 206, 3) := by decide +kernel
theorem dX11_prepare_48 : decode cX11_prepare 48 = .ok (.ifCond .ne 15, 3) := by decide +kernel
theorem dX11_prepare_63 : decode cX11_prepare 63 = .ok (.aload_n 0, 1) := by decide +kernel
theorem dX11_prepare_64 : decode cX11_prepare 64 = .ok (.getfield 35, 3) := by decide +kernel
theorem dX11_prepare_67 : decode cX11_prepare 67 = .ok (.aload_n 0, 1) := by decide +kernel
theorem dX11_prepare_68 : decode cX11_prepare 68 = .ok (.getfield 46, 3) := by decide +kernel
theorem dX11_prepare_71 : decode cX11_prepare 71 = .ok (.invokevirtual 236, 3) := by decide +kernel
theorem dX11_prepare_74 : decode cX11_prepare 74 = .ok (.istore_n 1, 1) := by decide +kernel
theorem dX11_prepare_75 : decode cX11_prepare 75 = .ok (.iconst 0, 1) := by decide +kernel
theorem dX11_prepare_76 : decode cX11_prepare 76 = .ok (.istore_n 2, 1) := by decide +kernel
theorem dX11_prepare_77 : decode cX11_prepare 77 = .ok (.iload_n 2, 1) := by decide +kernel
theorem dX11_prepare_78 : decode cX11_prepare 78 = .ok (.iload_n 1, 1) := by decide +kernel
theorem dX11_prepare_79 : decode cX11_prepare 79 = .ok (.if_icmp .gt 19, 3) := by decide +kernel
theorem dX11_prepare_82 : decode cX11_prepare 82 = .ok (.aload_n 0, 1) := by decide +kernel
theorem dX11_prepare_83 : decode cX11_prepare 83 = .ok (.invokevirtual 227, 3) := by decide +kernel
theorem dX11_prepare_86 : decode cX11_prepare 86 = .ok (.ifCond .ne 6, 3) := by decide +kernel
theorem dX11_prepare_92 : decode cX11_prepare 92 = .ok (.iinc 2 1, 3) := by decide +kernel
theorem dX11_prepare_95 : decode cX11_prepare 95 = .ok (.goto (-18), 3) := by decide +kernel
theorem dX11_prepare_98 : decode cX11_prepare 98 = .ok (.aload_n 0, 1) := by decide +kernel
theorem dX11_prepare_99 : decode cX11_prepare 99 = .ok (.aload_n 0, 1) := by decide +kernel
theorem dX11_prepare_100 : decode cX11_prepare 100 = .ok (.getfield 35, 3) := by decide +kernel
theorem dX11_prepare_103 : decode cX11_prepare 103 = .ok (.iconst 0, 1) := by decide +kernel
theorem dX11_prepare_104 : decode cX11_prepare 104 = .ok (.aload_n 0, 1) := by decide +kernel
theorem dX11_prepare_105 : decode cX11_prepare 105 = .ok (.getfield 35, 3) := by decide +kernel
theorem dX11_prepare_108 : decode cX11_prepare 108 = .ok (.invokevirtual 240, 3) := by decide +kernel
theorem dX11_prepare_111 : decode cX11_prepare 111 = .ok (.invokevirtual 218, 3) := by decide +kernel
theorem dX11_prepare_114 : decode cX11_prepare 114 = .ok (.putfield 49, 3) := by decide +kernel
theorem dX11_prepare_117 : decode cX11_prepare 117 = .ok (.aload_n 0, 1) := by decide +kernel
theorem dX11_prepare_118 : decode cX11_prepare 118 = .ok (.getfield 49, 3) := by decide +kernel
theorem dX11_prepare_121 : decode cX11_prepare 121 = .ok (.invokevirtual 240, 3) := by decide +kernel
theorem dX11_prepare_124 : decode cX11_prepare 124 = .ok (.ireturn, 1) := by decide +kernel
theorem dX11_finish_0 : decode cX11_finish 0 = .ok (.aload_n 0, 1) := by decide +kernel
theorem dX11_finish_1 : decode cX11_finish 1 = .ok (.invokevirtual 177, 3) := by decide +kernel
theorem dX11_finish_4 : decode cX11_finish 4 = .ok (.aload_n 0, 1) := by decide +kernel
theorem dX11_finish_5 : decode cX11_finish 5 = .ok (.getfield 49, 3) := by decide +kernel
theorem dX11_finish_8 : decode cX11_finish 8 = .ok (.astore_n 1, 1) := by decide +kernel
theorem dX11_finish_9 : decode cX11_finish 9 = .ok (.aload_n 1, 1) := by decide +kernel
theorem dX11_finish_10 : decode cX11_finish 10 = .ok (.ifnonnull 13, 3) := by decide +kernel
theorem dX11_finish_13 : decode cX11_finish 13 = .ok (.new 116, 3) := by decide +kernel
theorem dX11_finish_16 : decode cX11_finish 16 = .ok (.dup, 1) := by decide +kernel
theorem dX11_finish_17 : decode cX11_finish 17 = .ok (.ldc 241, 2) := by decide +kernel
theorem dX11_finish_19 : decode cX11_finish 19 = .ok (.invokespecial 120, 3) := by decide +kernel
theorem dX11_finish_22 : decode cX11_finish 22 = .ok (.athrow, 1) := by decide +kernel
theorem dX11_drop_0 : decode cX11_drop 0 = .ok (.aload_n 0, 1) := by decide +kernel
theorem dX11_drop_1 : decode cX11_drop 1 = .ok (.invokevirtual 177, 3) := by decide +kernel
theorem dX11_drop_4 : decode cX11_drop 4 = .ok (.aload_n 0, 1) := by decide +kernel
theorem dX11_drop_5 : decode cX11_drop 5 = .ok (.getfield 49, 3) := by decide +kernel
theorem dX11_drop_8 : decode cX11_drop 8 = .ok (.ifnonnull 13, 3) := by decide +kernel
theorem dX11_drop_11 : decode cX11_drop 11 = .ok (.new 116, 3) := by decide +kernel
theorem dX11_drop_14 : decode cX11_drop 14 = .ok (.dup, 1) := by decide +kernel
theorem dX11_drop_15 : decode cX11_drop 15 = .ok (.ldc 241, 2) := by decide +kernel
theorem dX11_drop_17 : decode cX11_drop 17 = .ok (.invokespecial 120, 3) := by decide +kernel
theorem dX11_drop_20 : decode cX11_drop 20 = .ok (.athrow, 1) := by decide +kernel
theorem dX11_crashAt_0 : decode cX11_crashAt 0 = .ok (.iload_n 1, 1) := by decide +kernel
theorem dX11_crashAt_1 : decode cX11_crashAt 1 = .ok (.ifCond .lt 10, 3) := by decide +kernel
theorem dX11_crashAt_4 : decode cX11_crashAt 4 = .ok (.iload_n 1, 1) := by decide +kernel
theorem dX11_crashAt_5 : decode cX11_crashAt 5 = .ok (.sipush 1000, 3) := by decide +kernel
theorem dX11_crashAt_8 : decode cX11_crashAt 8 = .ok (.if_icmp .le 13, 3) := by decide +kernel
theorem dX11_crashAt_11 : decode cX11_crashAt 11 = .ok (.new 100, 3) := by decide +kernel
theorem dX11_crashAt_14 : decode cX11_crashAt 14 = .ok (.dup, 1) := by decide +kernel
theorem dX11_crashAt_15 : decode cX11_crashAt 15 = .ok (.ldc 243, 2) := by decide +kernel
theorem dX11_crashAt_17 : decode cX11_crashAt 17 = .ok (.invokespecial 104, 3) := by decide +kernel
theorem dX11_crashAt_20 : decode cX11_crashAt 20 = .ok (.athrow, 1) := by decide +kernel
theorem dX11_crashAt_21 : decode cX11_crashAt 21 = .ok (.aload_n 0, 1) := by decide +kernel
theorem dX11_crashAt_22 : decode cX11_crashAt 22 = .ok (.invokevirtual 177, 3) := by decide +kernel
theorem dX11_crashAt_25 : decode cX11_crashAt 25 = .ok (.aload_n 0, 1) := by decide +kernel
theorem dX11_crashAt_26 : decode cX11_crashAt 26 = .ok (.iload_n 1, 1) := by decide +kernel
theorem dX11_crashAt_27 : decode cX11_crashAt 27 = .ok (.putfield 93, 3) := by decide +kernel
theorem dX11_crashAt_30 : decode cX11_crashAt 30 = .ok (.return_, 1) := by decide +kernel
theorem dX11_open_0 : decode cX11_open 0 = .ok (.aload_n 0, 1) := by decide +kernel
theorem dX11_open_1 : decode cX11_open 1 = .ok (.getfield 96, 3) := by decide +kernel
theorem dX11_open_4 : decode cX11_open 4 = .ok (.ifCond .ne 13, 3) := by decide +kernel
theorem dX11_open_7 : decode cX11_open 7 = .ok (.new 116, 3) := by decide +kernel
theorem dX11_open_10 : decode cX11_open 10 = .ok (.dup, 1) := by decide +kernel
theorem dX11_open_11 : decode cX11_open 11 = .ok (.ldc 245, 2) := by decide +kernel
theorem dX11_open_13 : decode cX11_open 13 = .ok (.invokespecial 120, 3) := by decide +kernel
theorem dX11_open_16 : decode cX11_open 16 = .ok (.athrow, 1) := by decide +kernel
theorem dX11_isDown_0 : decode cX11_isDown 0 = .ok (.aload_n 0, 1) := by decide +kernel
theorem dX11_isDown_1 : decode cX11_isDown 1 = .ok (.getfield 96, 3) := by decide +kernel
theorem dX11_isDown_4 : decode cX11_isDown 4 = .ok (.ireturn, 1) := by decide +kernel
theorem dX11_files_0 : decode cX11_files 0 = .ok (.aload_n 0, 1) := by decide +kernel
theorem dX11_files_1 : decode cX11_files 1 = .ok (.invokevirtual 177, 3) := by decide +kernel
theorem dX11_files_4 : decode cX11_files 4 = .ok (.aload_n 0, 1) := by decide +kernel
theorem dX11_files_5 : decode cX11_files 5 = .ok (.invokevirtual 251, 3) := by decide +kernel
theorem dX11_files_8 : decode cX11_files 8 = .ok (.ireturn, 1) := by decide +kernel
theorem dX11_writes_0 : decode cX11_writes 0 = .ok (.aload_n 0, 1) := by decide +kernel
theorem dX11_writes_1 : decode cX11_writes 1 = .ok (.getfield 90, 3) := by decide +kernel
theorem dX11_writes_4 : decode cX11_writes 4 = .ok (.ireturn, 1) := by decide +kernel
theorem dX11_segments_0 : decode cX11_segments 0 = .ok (.aload_n 0, 1) := by decide +kernel
theorem dX11_segments_1 : decode cX11_segments 1 = .ok (.invokevirtual 177, 3) := by decide +kernel
theorem dX11_segments_4 : decode cX11_segments 4 = .ok (.aload_n 0, 1) := by decide +kernel
theorem dX11_segments_5 : decode cX11_segments 5 = .ok (.getfield 35, 3) := by decide +kernel
theorem dX11_segments_8 : decode cX11_segments 8 = .ok (.invokevirtual 240, 3) := by decide +kernel
theorem dX11_segments_11 : decode cX11_segments 11 = .ok (.ireturn, 1) := by decide +kernel
theorem dX11_segmentAt_0 : decode cX11_segmentAt 0 = .ok (.aload_n 0, 1) := by decide +kernel
theorem dX11_segmentAt_1 : decode cX11_segmentAt 1 = .ok (.iload_n 1, 1) := by decide +kernel
theorem dX11_segmentAt_2 : decode cX11_segmentAt 2 = .ok (.invokevirtual 254, 3) := by decide +kernel
theorem dX11_live_0 : decode cX11_live 0 = .ok (.aload_n 0, 1) := by decide +kernel
theorem dX11_live_1 : decode cX11_live 1 = .ok (.iload_n 1, 1) := by decide +kernel
theorem dX11_live_2 : decode cX11_live 2 = .ok (.invokevirtual 254, 3) := by decide +kernel
theorem dX11_keyAt_0 : decode cX11_keyAt 0 = .ok (.aload_n 0, 1) := by decide +kernel
theorem dX11_keyAt_1 : decode cX11_keyAt 1 = .ok (.iload_n 1, 1) := by decide +kernel
theorem dX11_keyAt_2 : decode cX11_keyAt 2 = .ok (.invokevirtual 254, 3) := by decide +kernel
theorem dX11_words_0 : decode cX11_words 0 = .ok (.aload_n 0, 1) := by decide +kernel
theorem dX11_words_1 : decode cX11_words 1 = .ok (.iload_n 1, 1) := by decide +kernel
theorem dX11_words_2 : decode cX11_words 2 = .ok (.iload_n 2, 1) := by decide +kernel
theorem dX11_words_3 : decode cX11_words 3 = .ok (.invokevirtual 281, 3) := by decide +kernel
theorem dX11_shared_0 : decode cX11_shared 0 = .ok (.aload_n 0, 1) := by decide +kernel
theorem dX11_shared_1 : decode cX11_shared 1 = .ok (.iload_n 1, 1) := by decide +kernel
theorem dX11_shared_2 : decode cX11_shared 2 = .ok (.iload_n 2, 1) := by decide +kernel
theorem dX11_shared_3 : decode cX11_shared 3 = .ok (.iload_n 3, 1) := by decide +kernel
theorem dX11_shared_4 : decode cX11_shared 4 = .ok (.invokevirtual 285, 3) := by decide +kernel
theorem dX11_wordBytes_0 : decode cX11_wordBytes 0 = .ok (.aload_n 0, 1) := by decide +kernel
theorem dX11_wordBytes_1 : decode cX11_wordBytes 1 = .ok (.iload_n 1, 1) := by decide +kernel
theorem dX11_wordBytes_2 : decode cX11_wordBytes 2 = .ok (.iload_n 2, 1) := by decide +kernel
theorem dX11_wordBytes_3 : decode cX11_wordBytes 3 = .ok (.invokevirtual 281, 3) := by decide +kernel
theorem dX11_signAt_0 : decode cX11_signAt 0 = .ok (.aload_n 0, 1) := by decide +kernel
theorem dX11_signAt_1 : decode cX11_signAt 1 = .ok (.iload_n 1, 1) := by decide +kernel
theorem dX11_signAt_2 : decode cX11_signAt 2 = .ok (.iload_n 2, 1) := by decide +kernel
theorem dX11_signAt_3 : decode cX11_signAt 3 = .ok (.iload_n 3, 1) := by decide +kernel
theorem dX11_signAt_4 : decode cX11_signAt 4 = .ok (.invokevirtual 285, 3) := by decide +kernel
theorem dX11_bytes_0 : decode cX11_bytes 0 = .ok (.aload_n 0, 1) := by decide +kernel
theorem dX11_bytes_1 : decode cX11_bytes 1 = .ok (.iload_n 1, 1) := by decide +kernel
theorem dX11_bytes_2 : decode cX11_bytes 2 = .ok (.iload_n 2, 1) := by decide +kernel
theorem dX11_bytes_3 : decode cX11_bytes 3 = .ok (.iload_n 3, 1) := by decide +kernel
theorem dX11_bytes_4 : decode cX11_bytes 4 = .ok (.invokevirtual 285, 3) := by decide +kernel
theorem dX11_byteAt_0 : decode cX11_byteAt 0 = .ok (.aload_n 0, 1) := by decide +kernel
theorem dX11_byteAt_1 : decode cX11_byteAt 1 = .ok (.iload_n 1, 1) := by decide +kernel
theorem dX11_byteAt_2 : decode cX11_byteAt 2 = .ok (.iload_n 2, 1) := by decide +kernel
theorem dX11_byteAt_3 : decode cX11_byteAt 3 = .ok (.iload_n 3, 1) := by decide +kernel
theorem dX11_byteAt_4 : decode cX11_byteAt 4 = .ok (.invokevirtual 285, 3) := by decide +kernel
theorem dX11_look_0 : decode cX11_look 0 = .ok (.aload_n 0, 1) := by decide +kernel
theorem dX11_look_1 : decode cX11_look 1 = .ok (.invokevirtual 177, 3) := by decide +kernel
theorem dX11_look_4 : decode cX11_look 4 = .ok (.aload_n 0, 1) := by decide +kernel
theorem dX11_look_5 : decode cX11_look 5 = .ok (.getfield 52, 3) := by decide +kernel
theorem dX11_look_8 : decode cX11_look 8 = .ok (.invokevirtual 180, 3) := by decide +kernel
theorem dX11_look_11 : decode cX11_look 11 = .ok (.iconst 5, 1) := by decide +kernel
theorem dX11_look_12 : decode cX11_look 12 = .ok (.if_icmp .lt 14, 3) := by decide +kernel
theorem dX11_look_26 : decode cX11_look 26 = .ok (.iload_n 1, 1) := by decide +kernel
theorem dX11_look_27 : decode cX11_look 27 = .ok (.ifCond .eq 21, 3) := by decide +kernel
theorem dX11_look_30 : decode cX11_look 30 = .ok (.aload_n 0, 1) := by decide +kernel
theorem dX11_look_31 : decode cX11_look 31 = .ok (.getfield 35, 3) := by decide +kernel
theorem dX11_look_34 : decode cX11_look 34 = .ok (.iconst 0, 1) := by decide +kernel
theorem dX11_look_35 : decode cX11_look 35 = .ok (.aload_n 0, 1) := by decide +kernel
theorem dX11_look_36 : decode cX11_look 36 = .ok (.getfield 35, 3) := by decide +kernel
theorem dX11_look_39 : decode cX11_look 39 = .ok (.invokevirtual 240, 3) := by decide +kernel
theorem dX11_look_42 : decode cX11_look 42 = .ok (.invokevirtual 218, 3) := by decide +kernel
theorem dX11_look_45 : decode cX11_look 45 = .ok (.goto 7, 3) := by decide +kernel
theorem dX11_look_48 : decode cX11_look 48 = .ok (.aload_n 0, 1) := by decide +kernel
theorem dX11_look_49 : decode cX11_look 49 = .ok (.invokevirtual 247, 3) := by decide +kernel
theorem dX11_look_52 : decode cX11_look 52 = .ok (.astore_n 2, 1) := by decide +kernel
theorem dX11_look_53 : decode cX11_look 53 = .ok (.aload_n 2, 1) := by decide +kernel
theorem dX11_look_54 : decode cX11_look 54 = .ok (.aload_n 0, 1) := by decide +kernel
theorem dX11_look_55 : decode cX11_look 55 = .ok (.getfield 55, 3) := by decide +kernel
theorem dX11_look_58 : decode cX11_look 58 = .ok (.putfield 316, 3) := by decide +kernel
theorem dX11_look_61 : decode cX11_look 61 = .ok (.aload_n 0, 1) := by decide +kernel
theorem dX11_look_62 : decode cX11_look 62 = .ok (.getfield 52, 3) := by decide +kernel
theorem dX11_look_65 : decode cX11_look 65 = .ok (.aload_n 2, 1) := by decide +kernel
theorem dX11_look_66 : decode cX11_look 66 = .ok (.invokevirtual 200, 3) := by decide +kernel
theorem dX11_look_69 : decode cX11_look 69 = .ok (.pop, 1) := by decide +kernel
theorem dX11_look_70 : decode cX11_look 70 = .ok (.aload_n 0, 1) := by decide +kernel
theorem dX11_look_71 : decode cX11_look 71 = .ok (.dup, 1) := by decide +kernel
theorem dX11_look_72 : decode cX11_look 72 = .ok (.getfield 55, 3) := by decide +kernel
theorem dX11_look_75 : decode cX11_look 75 = .ok (.iconst 1, 1) := by decide +kernel
theorem dX11_look_76 : decode cX11_look 76 = .ok (.iadd, 1) := by decide +kernel
theorem dX11_look_77 : decode cX11_look 77 = .ok (.putfield 55, 3) := by decide +kernel
theorem dX11_look_80 : decode cX11_look 80 = .ok (.aload_n 2, 1) := by decide +kernel
theorem dX11_look_81 : decode cX11_look 81 = .ok (.getfield 316, 3) := by decide +kernel
theorem dX11_look_84 : decode cX11_look 84 = .ok (.ireturn, 1) := by decide +kernel
theorem dX11_shut_0 : decode cX11_shut 0 = .ok (.aload_n 0, 1) := by decide +kernel
theorem dX11_shut_1 : decode cX11_shut 1 = .ok (.iload_n 1, 1) := by decide +kernel
theorem dX11_shut_2 : decode cX11_shut 2 = .ok (.invokevirtual 317, 3) := by decide +kernel
theorem dX11_documents_0 : decode cX11_documents 0 = .ok (.aload_n 0, 1) := by decide +kernel
theorem dX11_documents_1 : decode cX11_documents 1 = .ok (.iload_n 1, 1) := by decide +kernel
theorem dX11_documents_2 : decode cX11_documents 2 = .ok (.invokevirtual 317, 3) := by decide +kernel
theorem dX11_term_0 : decode cX11_term 0 = .ok (.iload_n 1, 1) := by decide +kernel
theorem dX11_term_1 : decode cX11_term 1 = .ok (.invokestatic 152, 3) := by decide +kernel
theorem dX11_term_4 : decode cX11_term 4 = .ok (.aload_n 0, 1) := by decide +kernel
theorem dX11_term_5 : decode cX11_term 5 = .ok (.aload_n 0, 1) := by decide +kernel
theorem dX11_term_6 : decode cX11_term 6 = .ok (.getfield 10, 3) := by decide +kernel
theorem dX11_term_9 : decode cX11_term 9 = .ok (.invokevirtual 324, 3) := by decide +kernel
theorem dX11_term_12 : decode cX11_term 12 = .ok (.iconst 1, 1) := by decide +kernel
theorem dX11_term_13 : decode cX11_term 13 = .ok (.if_icmp .ne 7, 3) := by decide +kernel
theorem dX11_term_20 : decode cX11_term 20 = .ok (.iconst 0, 1) := by decide +kernel
theorem dX11_term_21 : decode cX11_term 21 = .ok (.invokevirtual 327, 3) := by decide +kernel
theorem dX11_phrase_0 : decode cX11_phrase 0 = .ok (.iload_n 1, 1) := by decide +kernel
theorem dX11_phrase_1 : decode cX11_phrase 1 = .ok (.invokestatic 152, 3) := by decide +kernel
theorem dX11_phrase_4 : decode cX11_phrase 4 = .ok (.iload_n 2, 1) := by decide +kernel
theorem dX11_phrase_5 : decode cX11_phrase 5 = .ok (.ifCond .lt 9, 3) := by decide +kernel
theorem dX11_phrase_8 : decode cX11_phrase 8 = .ok (.iload_n 2, 1) := by decide +kernel
theorem dX11_phrase_9 : decode cX11_phrase 9 = .ok (.bipush 20, 2) := by decide +kernel
theorem dX11_phrase_11 : decode cX11_phrase 11 = .ok (.if_icmp .le 14, 3) := by decide +kernel
theorem dX11_phrase_14 : decode cX11_phrase 14 = .ok (.new 100, 3) := by decide +kernel
theorem dX11_phrase_17 : decode cX11_phrase 17 = .ok (.dup, 1) := by decide +kernel
theorem dX11_phrase_18 : decode cX11_phrase 18 = .ok (.ldc_w 341, 3) := by decide +kernel
theorem dX11_phrase_21 : decode cX11_phrase 21 = .ok (.invokespecial 104, 3) := by decide +kernel
theorem dX11_phrase_24 : decode cX11_phrase 24 = .ok (.athrow, 1) := by decide +kernel
theorem dX11_phrase_25 : decode cX11_phrase 25 = .ok (.aload_n 0, 1) := by decide +kernel
theorem dX11_phrase_26 : decode cX11_phrase 26 = .ok (.getfield 10, 3) := by decide +kernel
theorem dX11_phrase_29 : decode cX11_phrase 29 = .ok (.invokevirtual 324, 3) := by decide +kernel
theorem dX11_phrase_32 : decode cX11_phrase 32 = .ok (.istore_n 3, 1) := by decide +kernel
theorem dX11_phrase_33 : decode cX11_phrase 33 = .ok (.aload_n 0, 1) := by decide +kernel
theorem dX11_phrase_34 : decode cX11_phrase 34 = .ok (.iload_n 3, 1) := by decide +kernel
theorem dX11_phrase_35 : decode cX11_phrase 35 = .ok (.iconst 1, 1) := by decide +kernel
theorem dX11_phrase_36 : decode cX11_phrase 36 = .ok (.if_icmp .lt 13, 3) := by decide +kernel
theorem dX11_phrase_49 : decode cX11_phrase 49 = .ok (.iconst 0, 1) := by decide +kernel
theorem dX11_phrase_50 : decode cX11_phrase 50 = .ok (.invokevirtual 327, 3) := by decide +kernel
theorem dX11_near_0 : decode cX11_near 0 = .ok (.iload_n 1, 1) := by decide +kernel
theorem dX11_near_1 : decode cX11_near 1 = .ok (.invokestatic 152, 3) := by decide +kernel
theorem dX11_near_4 : decode cX11_near 4 = .ok (.iload_n 2, 1) := by decide +kernel
theorem dX11_near_5 : decode cX11_near 5 = .ok (.iconst 1, 1) := by decide +kernel
theorem dX11_near_6 : decode cX11_near 6 = .ok (.if_icmp .lt 9, 3) := by decide +kernel
theorem dX11_near_9 : decode cX11_near 9 = .ok (.iload_n 2, 1) := by decide +kernel
theorem dX11_near_10 : decode cX11_near 10 = .ok (.bipush 20, 2) := by decide +kernel
theorem dX11_near_12 : decode cX11_near 12 = .ok (.if_icmp .le 14, 3) := by decide +kernel
theorem dX11_near_15 : decode cX11_near 15 = .ok (.new 100, 3) := by decide +kernel
theorem dX11_near_18 : decode cX11_near 18 = .ok (.dup, 1) := by decide +kernel
theorem dX11_near_19 : decode cX11_near 19 = .ok (.ldc_w 343, 3) := by decide +kernel
theorem dX11_near_22 : decode cX11_near 22 = .ok (.invokespecial 104, 3) := by decide +kernel
theorem dX11_near_25 : decode cX11_near 25 = .ok (.athrow, 1) := by decide +kernel
theorem dX11_near_26 : decode cX11_near 26 = .ok (.aload_n 0, 1) := by decide +kernel
theorem dX11_near_27 : decode cX11_near 27 = .ok (.aload_n 0, 1) := by decide +kernel
theorem dX11_near_28 : decode cX11_near 28 = .ok (.getfield 10, 3) := by decide +kernel
theorem dX11_near_31 : decode cX11_near 31 = .ok (.invokevirtual 324, 3) := by decide +kernel
theorem dX11_near_34 : decode cX11_near 34 = .ok (.iconst 2, 1) := by decide +kernel
theorem dX11_near_35 : decode cX11_near 35 = .ok (.if_icmp .ne 7, 3) := by decide +kernel
theorem dX11_near_42 : decode cX11_near 42 = .ok (.iconst 0, 1) := by decide +kernel
theorem dX11_near_43 : decode cX11_near 43 = .ok (.invokevirtual 327, 3) := by decide +kernel
theorem dX11_prefix_0 : decode cX11_prefix 0 = .ok (.iload_n 1, 1) := by decide +kernel
theorem dX11_prefix_1 : decode cX11_prefix 1 = .ok (.invokestatic 152, 3) := by decide +kernel
theorem dX11_prefix_4 : decode cX11_prefix 4 = .ok (.aload_n 0, 1) := by decide +kernel
theorem dX11_prefix_5 : decode cX11_prefix 5 = .ok (.aload_n 0, 1) := by decide +kernel
theorem dX11_prefix_6 : decode cX11_prefix 6 = .ok (.getfield 10, 3) := by decide +kernel
theorem dX11_prefix_9 : decode cX11_prefix 9 = .ok (.invokevirtual 129, 3) := by decide +kernel
theorem dX11_prefix_12 : decode cX11_prefix 12 = .ok (.iconst 1, 1) := by decide +kernel
theorem dX11_prefix_13 : decode cX11_prefix 13 = .ok (.if_icmp .ne 7, 3) := by decide +kernel
theorem dX11_prefix_20 : decode cX11_prefix 20 = .ok (.iconst 0, 1) := by decide +kernel
theorem dX11_prefix_21 : decode cX11_prefix 21 = .ok (.invokevirtual 327, 3) := by decide +kernel
theorem dX11_wild_0 : decode cX11_wild 0 = .ok (.iload_n 1, 1) := by decide +kernel
theorem dX11_wild_1 : decode cX11_wild 1 = .ok (.invokestatic 152, 3) := by decide +kernel
theorem dX11_wild_4 : decode cX11_wild 4 = .ok (.aload_n 0, 1) := by decide +kernel
theorem dX11_wild_5 : decode cX11_wild 5 = .ok (.aload_n 0, 1) := by decide +kernel
theorem dX11_wild_6 : decode cX11_wild 6 = .ok (.getfield 10, 3) := by decide +kernel
theorem dX11_wild_9 : decode cX11_wild 9 = .ok (.getfield 107, 3) := by decide +kernel
theorem dX11_wild_12 : decode cX11_wild 12 = .ok (.invokestatic 356, 3) := by decide +kernel
theorem dX11_wild_15 : decode cX11_wild 15 = .ok (.invokevirtual 327, 3) := by decide +kernel
theorem dX11_fuzzy_0 : decode cX11_fuzzy 0 = .ok (.iload_n 1, 1) := by decide +kernel
theorem dX11_fuzzy_1 : decode cX11_fuzzy 1 = .ok (.invokestatic 152, 3) := by decide +kernel
theorem dX11_fuzzy_4 : decode cX11_fuzzy 4 = .ok (.iload_n 2, 1) := by decide +kernel
theorem dX11_fuzzy_5 : decode cX11_fuzzy 5 = .ok (.ifCond .lt 8, 3) := by decide +kernel
theorem dX11_fuzzy_8 : decode cX11_fuzzy 8 = .ok (.iload_n 2, 1) := by decide +kernel
theorem dX11_fuzzy_9 : decode cX11_fuzzy 9 = .ok (.iconst 2, 1) := by decide +kernel
theorem dX11_fuzzy_10 : decode cX11_fuzzy 10 = .ok (.if_icmp .le 14, 3) := by decide +kernel
theorem dX11_fuzzy_13 : decode cX11_fuzzy 13 = .ok (.new 100, 3) := by decide +kernel
theorem dX11_fuzzy_16 : decode cX11_fuzzy 16 = .ok (.dup, 1) := by decide +kernel
theorem dX11_fuzzy_17 : decode cX11_fuzzy 17 = .ok (.ldc_w 364, 3) := by decide +kernel
theorem dX11_fuzzy_20 : decode cX11_fuzzy 20 = .ok (.invokespecial 104, 3) := by decide +kernel
theorem dX11_fuzzy_23 : decode cX11_fuzzy 23 = .ok (.athrow, 1) := by decide +kernel
theorem dX11_fuzzy_24 : decode cX11_fuzzy 24 = .ok (.aload_n 0, 1) := by decide +kernel
theorem dX11_fuzzy_25 : decode cX11_fuzzy 25 = .ok (.aload_n 0, 1) := by decide +kernel
theorem dX11_fuzzy_26 : decode cX11_fuzzy 26 = .ok (.getfield 10, 3) := by decide +kernel
theorem dX11_fuzzy_29 : decode cX11_fuzzy 29 = .ok (.invokevirtual 129, 3) := by decide +kernel
theorem dX11_fuzzy_32 : decode cX11_fuzzy 32 = .ok (.iconst 1, 1) := by decide +kernel
theorem dX11_fuzzy_33 : decode cX11_fuzzy 33 = .ok (.if_icmp .ne 7, 3) := by decide +kernel
theorem dX11_fuzzy_40 : decode cX11_fuzzy 40 = .ok (.iconst 0, 1) := by decide +kernel
theorem dX11_fuzzy_41 : decode cX11_fuzzy 41 = .ok (.invokevirtual 327, 3) := by decide +kernel
theorem dX11_least_0 : decode cX11_least 0 = .ok (.iload_n 1, 1) := by decide +kernel
theorem dX11_least_1 : decode cX11_least 1 = .ok (.iconst 2, 1) := by decide +kernel
theorem dX11_least_2 : decode cX11_least 2 = .ok (.if_icmp .lt 19, 3) := by decide +kernel
theorem dX11_least_5 : decode cX11_least 5 = .ok (.iload_n 1, 1) := by decide +kernel
theorem dX11_least_6 : decode cX11_least 6 = .ok (.bipush 8, 2) := by decide +kernel
theorem dX11_least_8 : decode cX11_least 8 = .ok (.if_icmp .gt 13, 3) := by decide +kernel
theorem dX11_least_11 : decode cX11_least 11 = .ok (.iload_n 2, 1) := by decide +kernel
theorem dX11_least_12 : decode cX11_least 12 = .ok (.iconst 1, 1) := by decide +kernel
theorem dX11_least_13 : decode cX11_least 13 = .ok (.if_icmp .lt 8, 3) := by decide +kernel
theorem dX11_least_16 : decode cX11_least 16 = .ok (.iload_n 2, 1) := by decide +kernel
theorem dX11_least_17 : decode cX11_least 17 = .ok (.iload_n 1, 1) := by decide +kernel
theorem dX11_least_18 : decode cX11_least 18 = .ok (.if_icmp .le 14, 3) := by decide +kernel
theorem dX11_least_21 : decode cX11_least 21 = .ok (.new 100, 3) := by decide +kernel
theorem dX11_least_24 : decode cX11_least 24 = .ok (.dup, 1) := by decide +kernel
theorem dX11_least_25 : decode cX11_least 25 = .ok (.ldc_w 370, 3) := by decide +kernel
theorem dX11_least_28 : decode cX11_least 28 = .ok (.invokespecial 104, 3) := by decide +kernel
theorem dX11_least_31 : decode cX11_least 31 = .ok (.athrow, 1) := by decide +kernel
theorem dX11_least_32 : decode cX11_least 32 = .ok (.aload_n 0, 1) := by decide +kernel
theorem dX11_least_33 : decode cX11_least 33 = .ok (.iload_n 1, 1) := by decide +kernel
theorem dX11_least_34 : decode cX11_least 34 = .ok (.invokevirtual 372, 3) := by decide +kernel
theorem dX11_but_0 : decode cX11_but 0 = .ok (.aload_n 0, 1) := by decide +kernel
theorem dX11_but_1 : decode cX11_but 1 = .ok (.iconst 2, 1) := by decide +kernel
theorem dX11_but_2 : decode cX11_but 2 = .ok (.invokevirtual 372, 3) := by decide +kernel
theorem dX11_query_0 : decode cX11_query 0 = .ok (.aload_n 0, 1) := by decide +kernel
theorem dX11_query_1 : decode cX11_query 1 = .ok (.getfield 61, 3) := by decide +kernel
theorem dX11_query_4 : decode cX11_query 4 = .ok (.getfield 385, 3) := by decide +kernel
theorem dX11_query_7 : decode cX11_query 7 = .ok (.iconst 1, 1) := by decide +kernel
theorem dX11_query_8 : decode cX11_query 8 = .ok (.if_icmp .ne 15, 3) := by decide +kernel
theorem dX11_query_23 : decode cX11_query 23 = .ok (.new 116, 3) := by decide +kernel
theorem dX11_query_26 : decode cX11_query 26 = .ok (.dup, 1) := by decide +kernel
theorem dX11_query_27 : decode cX11_query 27 = .ok (.ldc_w 388, 3) := by decide +kernel
theorem dX11_query_30 : decode cX11_query 30 = .ok (.invokespecial 120, 3) := by decide +kernel
theorem dX11_query_33 : decode cX11_query 33 = .ok (.athrow, 1) := by decide +kernel
theorem dX11_scrap_0 : decode cX11_scrap 0 = .ok (.aload_n 0, 1) := by decide +kernel
theorem dX11_scrap_1 : decode cX11_scrap 1 = .ok (.getfield 61, 3) := by decide +kernel
theorem dX11_scrap_4 : decode cX11_scrap 4 = .ok (.getfield 385, 3) := by decide +kernel
theorem dX11_scrap_7 : decode cX11_scrap 7 = .ok (.istore_n 1, 1) := by decide +kernel
theorem dX11_scrap_8 : decode cX11_scrap 8 = .ok (.aload_n 0, 1) := by decide +kernel
theorem dX11_scrap_9 : decode cX11_scrap 9 = .ok (.new 58, 3) := by decide +kernel
theorem dX11_scrap_12 : decode cX11_scrap 12 = .ok (.dup, 1) := by decide +kernel
theorem dX11_scrap_13 : decode cX11_scrap 13 = .ok (.invokespecial 60, 3) := by decide +kernel
theorem dX11_scrap_16 : decode cX11_scrap 16 = .ok (.putfield 61, 3) := by decide +kernel
theorem dX11_scrap_19 : decode cX11_scrap 19 = .ok (.iload_n 1, 1) := by decide +kernel
theorem dX11_scrap_20 : decode cX11_scrap 20 = .ok (.ireturn, 1) := by decide +kernel
theorem dX11_weigh_0 : decode cX11_weigh 0 = .ok (.iload_n 1, 1) := by decide +kernel
theorem dX11_weigh_1 : decode cX11_weigh 1 = .ok (.invokestatic 152, 3) := by decide +kernel
theorem dX11_weigh_4 : decode cX11_weigh 4 = .ok (.iload_n 2, 1) := by decide +kernel
theorem dX11_weigh_5 : decode cX11_weigh 5 = .ok (.iconst 1, 1) := by decide +kernel
theorem dX11_weigh_6 : decode cX11_weigh 6 = .ok (.if_icmp .lt 9, 3) := by decide +kernel
theorem dX11_weigh_9 : decode cX11_weigh 9 = .ok (.iload_n 2, 1) := by decide +kernel
theorem dX11_weigh_10 : decode cX11_weigh 10 = .ok (.bipush 9, 2) := by decide +kernel
theorem dX11_weigh_12 : decode cX11_weigh 12 = .ok (.if_icmp .le 14, 3) := by decide +kernel
theorem dX11_weigh_15 : decode cX11_weigh 15 = .ok (.new 100, 3) := by decide +kernel
theorem dX11_weigh_18 : decode cX11_weigh 18 = .ok (.dup, 1) := by decide +kernel
theorem dX11_weigh_19 : decode cX11_weigh 19 = .ok (.ldc_w 390, 3) := by decide +kernel
theorem dX11_weigh_22 : decode cX11_weigh 22 = .ok (.invokespecial 104, 3) := by decide +kernel
theorem dX11_weigh_25 : decode cX11_weigh 25 = .ok (.athrow, 1) := by decide +kernel
theorem dX11_weigh_26 : decode cX11_weigh 26 = .ok (.aload_n 0, 1) := by decide +kernel
theorem dX11_weigh_27 : decode cX11_weigh 27 = .ok (.getfield 71, 3) := by decide +kernel
theorem dX11_weigh_30 : decode cX11_weigh 30 = .ok (.getfield 392, 3) := by decide +kernel
theorem dX11_weigh_33 : decode cX11_weigh 33 = .ok (.iload_n 1, 1) := by decide +kernel
theorem dX11_weigh_34 : decode cX11_weigh 34 = .ok (.iaload, 1) := by decide +kernel
theorem dX11_weigh_35 : decode cX11_weigh 35 = .ok (.istore_n 3, 1) := by decide +kernel
theorem dX11_weigh_36 : decode cX11_weigh 36 = .ok (.aload_n 0, 1) := by decide +kernel
theorem dX11_weigh_37 : decode cX11_weigh 37 = .ok (.getfield 71, 3) := by decide +kernel
theorem dX11_weigh_40 : decode cX11_weigh 40 = .ok (.getfield 392, 3) := by decide +kernel
theorem dX11_weigh_43 : decode cX11_weigh 43 = .ok (.iload_n 1, 1) := by decide +kernel
theorem dX11_weigh_44 : decode cX11_weigh 44 = .ok (.iload_n 2, 1) := by decide +kernel
theorem dX11_weigh_45 : decode cX11_weigh 45 = .ok (.iastore, 1) := by decide +kernel
theorem dX11_weigh_46 : decode cX11_weigh 46 = .ok (.iload_n 3, 1) := by decide +kernel
theorem dX11_weigh_47 : decode cX11_weigh 47 = .ok (.ireturn, 1) := by decide +kernel
theorem dX11_find_0 : decode cX11_find 0 = .ok (.aload_n 0, 1) := by decide +kernel
theorem dX11_find_1 : decode cX11_find 1 = .ok (.iload_n 1, 1) := by decide +kernel
theorem dX11_find_2 : decode cX11_find 2 = .ok (.invokevirtual 317, 3) := by decide +kernel
theorem dX11_hitAt_0 : decode cX11_hitAt 0 = .ok (.aload_n 0, 1) := by decide +kernel
theorem dX11_hitAt_1 : decode cX11_hitAt 1 = .ok (.iload_n 1, 1) := by decide +kernel
theorem dX11_hitAt_2 : decode cX11_hitAt 2 = .ok (.invokevirtual 406, 3) := by decide +kernel
theorem dX11_rankAt_0 : decode cX11_rankAt 0 = .ok (.aload_n 0, 1) := by decide +kernel
theorem dX11_rankAt_1 : decode cX11_rankAt 1 = .ok (.iload_n 1, 1) := by decide +kernel
theorem dX11_rankAt_2 : decode cX11_rankAt 2 = .ok (.invokevirtual 406, 3) := by decide +kernel
theorem dX11_skipped_0 : decode cX11_skipped 0 = .ok (.aload_n 0, 1) := by decide +kernel
theorem dX11_skipped_1 : decode cX11_skipped 1 = .ok (.getfield 80, 3) := by decide +kernel
theorem dX11_skipped_4 : decode cX11_skipped 4 = .ok (.getfield 415, 3) := by decide +kernel
theorem dX11_skipped_7 : decode cX11_skipped 7 = .ok (.ireturn, 1) := by decide +kernel
theorem dX11_cached_0 : decode cX11_cached 0 = .ok (.aload_n 0, 1) := by decide +kernel
theorem dX11_cached_1 : decode cX11_cached 1 = .ok (.getfield 80, 3) := by decide +kernel
theorem dX11_cached_4 : decode cX11_cached 4 = .ok (.getfield 418, 3) := by decide +kernel
theorem dX11_cached_7 : decode cX11_cached 7 = .ok (.ireturn, 1) := by decide +kernel
theorem dX11_rankByScan_0 : decode cX11_rankByScan 0 = .ok (.aload_n 0, 1) := by decide +kernel
theorem dX11_rankByScan_1 : decode cX11_rankByScan 1 = .ok (.iload_n 1, 1) := by decide +kernel
theorem dX11_rankByScan_2 : decode cX11_rankByScan 2 = .ok (.invokevirtual 317, 3) := by decide +kernel
theorem dX11_matches_0 : decode cX11_matches 0 = .ok (.aload_n 0, 1) := by decide +kernel
theorem dX11_matches_1 : decode cX11_matches 1 = .ok (.iload_n 1, 1) := by decide +kernel
theorem dX11_matches_2 : decode cX11_matches 2 = .ok (.invokevirtual 317, 3) := by decide +kernel
theorem dX11_matchesByScan_0 : decode cX11_matchesByScan 0 = .ok (.aload_n 0, 1) := by decide +kernel
theorem dX11_matchesByScan_1 : decode cX11_matchesByScan 1 = .ok (.iload_n 1, 1) := by decide +kernel
theorem dX11_matchesByScan_2 : decode cX11_matchesByScan 2 = .ok (.invokevirtual 317, 3) := by decide +kernel
theorem dX11_facet_0 : decode cX11_facet 0 = .ok (.aload_n 0, 1) := by decide +kernel
theorem dX11_facet_1 : decode cX11_facet 1 = .ok (.iload_n 1, 1) := by decide +kernel
theorem dX11_facet_2 : decode cX11_facet 2 = .ok (.invokevirtual 317, 3) := by decide +kernel
theorem dX11_sortedAt_0 : decode cX11_sortedAt 0 = .ok (.aload_n 0, 1) := by decide +kernel
theorem dX11_sortedAt_1 : decode cX11_sortedAt 1 = .ok (.iload_n 1, 1) := by decide +kernel
theorem dX11_sortedAt_2 : decode cX11_sortedAt 2 = .ok (.invokevirtual 317, 3) := by decide +kernel
theorem dX11_passages_0 : decode cX11_passages 0 = .ok (.aload_n 0, 1) := by decide +kernel
theorem dX11_passages_1 : decode cX11_passages 1 = .ok (.iload_n 1, 1) := by decide +kernel
theorem dX11_passages_2 : decode cX11_passages 2 = .ok (.invokevirtual 317, 3) := by decide +kernel
theorem dX11_passageAt_0 : decode cX11_passageAt 0 = .ok (.aload_n 0, 1) := by decide +kernel
theorem dX11_passageAt_1 : decode cX11_passageAt 1 = .ok (.iload_n 1, 1) := by decide +kernel
theorem dX11_passageAt_2 : decode cX11_passageAt 2 = .ok (.invokevirtual 317, 3) := by decide +kernel
theorem dX11_checkField_0 : decode cX11_checkField 0 = .ok (.iload_n 0, 1) := by decide +kernel
theorem dX11_checkField_1 : decode cX11_checkField 1 = .ok (.ifCond .lt 8, 3) := by decide +kernel
theorem dX11_checkField_4 : decode cX11_checkField 4 = .ok (.iload_n 0, 1) := by decide +kernel
theorem dX11_checkField_5 : decode cX11_checkField 5 = .ok (.iconst 2, 1) := by decide +kernel
theorem dX11_checkField_6 : decode cX11_checkField 6 = .ok (.if_icmp .lt 14, 3) := by decide +kernel
theorem dX11_checkField_9 : decode cX11_checkField 9 = .ok (.new 269, 3) := by decide +kernel
theorem dX11_checkField_12 : decode cX11_checkField 12 = .ok (.dup, 1) := by decide +kernel
theorem dX11_checkField_13 : decode cX11_checkField 13 = .ok (.ldc_w 460, 3) := by decide +kernel
theorem dX11_checkField_16 : decode cX11_checkField 16 = .ok (.invokespecial 273, 3) := by decide +kernel
theorem dX11_checkField_19 : decode cX11_checkField 19 = .ok (.athrow, 1) := by decide +kernel
theorem dX11_checkField_20 : decode cX11_checkField 20 = .ok (.return_, 1) := by decide +kernel
theorem dX11_checkKey_0 : decode cX11_checkKey 0 = .ok (.iload_n 0, 1) := by decide +kernel
theorem dX11_checkKey_1 : decode cX11_checkKey 1 = .ok (.ifCond .lt 9, 3) := by decide +kernel
theorem dX11_checkKey_4 : decode cX11_checkKey 4 = .ok (.iload_n 0, 1) := by decide +kernel
theorem dX11_checkKey_5 : decode cX11_checkKey 5 = .ok (.bipush 100, 2) := by decide +kernel
theorem dX11_checkKey_7 : decode cX11_checkKey 7 = .ok (.if_icmp .lt 14, 3) := by decide +kernel
theorem dX11_checkKey_10 : decode cX11_checkKey 10 = .ok (.new 269, 3) := by decide +kernel
theorem dX11_checkKey_13 : decode cX11_checkKey 13 = .ok (.dup, 1) := by decide +kernel
theorem dX11_checkKey_14 : decode cX11_checkKey 14 = .ok (.ldc_w 462, 3) := by decide +kernel
theorem dX11_checkKey_17 : decode cX11_checkKey 17 = .ok (.invokespecial 273, 3) := by decide +kernel
theorem dX11_checkKey_20 : decode cX11_checkKey 20 = .ok (.athrow, 1) := by decide +kernel
theorem dX11_checkKey_21 : decode cX11_checkKey 21 = .ok (.return_, 1) := by decide +kernel
theorem dX11_checkUp_0 : decode cX11_checkUp 0 = .ok (.aload_n 0, 1) := by decide +kernel
theorem dX11_checkUp_1 : decode cX11_checkUp 1 = .ok (.getfield 96, 3) := by decide +kernel
theorem dX11_checkUp_4 : decode cX11_checkUp 4 = .ok (.ifCond .eq 14, 3) := by decide +kernel
theorem dX11_checkUp_18 : decode cX11_checkUp 18 = .ok (.return_, 1) := by decide +kernel
theorem dX11_checkLeaf_0 : decode cX11_checkLeaf 0 = .ok (.iload_n 1, 1) := by decide +kernel
theorem dX11_checkLeaf_1 : decode cX11_checkLeaf 1 = .ok (.ifCond .eq 30, 3) := by decide +kernel
theorem dX11_checkLeaf_31 : decode cX11_checkLeaf 31 = .ok (.new 116, 3) := by decide +kernel
theorem dX11_checkLeaf_34 : decode cX11_checkLeaf 34 = .ok (.dup, 1) := by decide +kernel
theorem dX11_checkLeaf_35 : decode cX11_checkLeaf 35 = .ok (.ldc_w 469, 3) := by decide +kernel
theorem dX11_checkLeaf_38 : decode cX11_checkLeaf 38 = .ok (.invokespecial 120, 3) := by decide +kernel
theorem dX11_checkLeaf_41 : decode cX11_checkLeaf 41 = .ok (.athrow, 1) := by decide +kernel
theorem dX11_checkParts_0 : decode cX11_checkParts 0 = .ok (.aload_n 0, 1) := by decide +kernel
theorem dX11_checkParts_1 : decode cX11_checkParts 1 = .ok (.getfield 61, 3) := by decide +kernel
theorem dX11_checkParts_4 : decode cX11_checkParts 4 = .ok (.getfield 385, 3) := by decide +kernel
theorem dX11_checkParts_7 : decode cX11_checkParts 7 = .ok (.iload_n 1, 1) := by decide +kernel
theorem dX11_checkParts_8 : decode cX11_checkParts 8 = .ok (.if_icmp .ge 14, 3) := by decide +kernel
theorem dX11_checkParts_11 : decode cX11_checkParts 11 = .ok (.new 116, 3) := by decide +kernel
theorem dX11_checkParts_14 : decode cX11_checkParts 14 = .ok (.dup, 1) := by decide +kernel
theorem dX11_checkParts_15 : decode cX11_checkParts 15 = .ok (.ldc_w 471, 3) := by decide +kernel
theorem dX11_checkParts_18 : decode cX11_checkParts 18 = .ok (.invokespecial 120, 3) := by decide +kernel
theorem dX11_checkParts_21 : decode cX11_checkParts 21 = .ok (.athrow, 1) := by decide +kernel
theorem dX11_checkHit_0 : decode cX11_checkHit 0 = .ok (.iload_n 1, 1) := by decide +kernel
theorem dX11_checkHit_1 : decode cX11_checkHit 1 = .ok (.ifCond .lt 14, 3) := by decide +kernel
theorem dX11_checkHit_4 : decode cX11_checkHit 4 = .ok (.iload_n 1, 1) := by decide +kernel
theorem dX11_checkHit_5 : decode cX11_checkHit 5 = .ok (.aload_n 0, 1) := by decide +kernel
theorem dX11_checkHit_6 : decode cX11_checkHit 6 = .ok (.getfield 80, 3) := by decide +kernel
theorem dX11_checkHit_9 : decode cX11_checkHit 9 = .ok (.getfield 473, 3) := by decide +kernel
theorem dX11_checkHit_12 : decode cX11_checkHit 12 = .ok (.if_icmp .lt 14, 3) := by decide +kernel
theorem dX11_checkHit_15 : decode cX11_checkHit 15 = .ok (.new 269, 3) := by decide +kernel
theorem dX11_checkHit_18 : decode cX11_checkHit 18 = .ok (.dup, 1) := by decide +kernel
theorem dX11_checkHit_19 : decode cX11_checkHit 19 = .ok (.ldc_w 476, 3) := by decide +kernel
theorem dX11_checkHit_22 : decode cX11_checkHit 22 = .ok (.invokespecial 273, 3) := by decide +kernel
theorem dX11_checkHit_25 : decode cX11_checkHit 25 = .ok (.athrow, 1) := by decide +kernel
theorem dX11_holdingAt_0 : decode cX11_holdingAt 0 = .ok (.aload_n 0, 1) := by decide +kernel
theorem dX11_holdingAt_1 : decode cX11_holdingAt 1 = .ok (.getfield 35, 3) := by decide +kernel
theorem dX11_holdingAt_4 : decode cX11_holdingAt 4 = .ok (.iload_n 1, 1) := by decide +kernel
theorem dX11_holdingAt_5 : decode cX11_holdingAt 5 = .ok (.invokevirtual 478, 3) := by decide +kernel
theorem dX11_holdingAt_8 : decode cX11_holdingAt 8 = .ok (.astore_n 2, 1) := by decide +kernel
theorem dX11_holdingAt_9 : decode cX11_holdingAt 9 = .ok (.aload_n 0, 1) := by decide +kernel
theorem dX11_holdingAt_10 : decode cX11_holdingAt 10 = .ok (.getfield 96, 3) := by decide +kernel
theorem dX11_holdingAt_13 : decode cX11_holdingAt 13 = .ok (.ifCond .ne 7, 3) := by decide +kernel
theorem dX11_holdingAt_16 : decode cX11_holdingAt 16 = .ok (.aload_n 2, 1) := by decide +kernel
theorem dX11_holdingAt_17 : decode cX11_holdingAt 17 = .ok (.ifnonnull 14, 3) := by decide +kernel
theorem dX11_holdingAt_20 : decode cX11_holdingAt 20 = .ok (.new 269, 3) := by decide +kernel
theorem dX11_holdingAt_23 : decode cX11_holdingAt 23 = .ok (.dup, 1) := by decide +kernel
theorem dX11_holdingAt_24 : decode cX11_holdingAt 24 = .ok (.ldc_w 481, 3) := by decide +kernel
theorem dX11_holdingAt_27 : decode cX11_holdingAt 27 = .ok (.invokespecial 273, 3) := by decide +kernel
theorem dX11_holdingAt_30 : decode cX11_holdingAt 30 = .ok (.athrow, 1) := by decide +kernel
theorem dX11_wordsAt_0 : decode cX11_wordsAt 0 = .ok (.aload_n 0, 1) := by decide +kernel
theorem dX11_wordsAt_1 : decode cX11_wordsAt 1 = .ok (.iload_n 1, 1) := by decide +kernel
theorem dX11_wordsAt_2 : decode cX11_wordsAt 2 = .ok (.invokevirtual 254, 3) := by decide +kernel
theorem dX11_postingsAt_0 : decode cX11_postingsAt 0 = .ok (.aload_n 0, 1) := by decide +kernel
theorem dX11_postingsAt_1 : decode cX11_postingsAt 1 = .ok (.iload_n 1, 1) := by decide +kernel
theorem dX11_postingsAt_2 : decode cX11_postingsAt 2 = .ok (.iload_n 2, 1) := by decide +kernel
theorem dX11_postingsAt_3 : decode cX11_postingsAt 3 = .ok (.invokevirtual 281, 3) := by decide +kernel
theorem dX11_snapshotOf_0 : decode cX11_snapshotOf 0 = .ok (.iconst 0, 1) := by decide +kernel
theorem dX11_snapshotOf_1 : decode cX11_snapshotOf 1 = .ok (.istore_n 2, 1) := by decide +kernel
theorem dX11_snapshotOf_2 : decode cX11_snapshotOf 2 = .ok (.iload_n 2, 1) := by decide +kernel
theorem dX11_snapshotOf_3 : decode cX11_snapshotOf 3 = .ok (.aload_n 0, 1) := by decide +kernel
theorem dX11_snapshotOf_4 : decode cX11_snapshotOf 4 = .ok (.getfield 52, 3) := by decide +kernel
theorem dX11_snapshotOf_7 : decode cX11_snapshotOf 7 = .ok (.invokevirtual 180, 3) := by decide +kernel
theorem dX11_snapshotOf_10 : decode cX11_snapshotOf 10 = .ok (.if_icmp .ge 39, 3) := by decide +kernel
theorem dX11_snapshotOf_49 : decode cX11_snapshotOf 49 = .ok (.new 269, 3) := by decide +kernel
theorem dX11_snapshotOf_52 : decode cX11_snapshotOf 52 = .ok (.dup, 1) := by decide +kernel
theorem dX11_snapshotOf_53 : decode cX11_snapshotOf 53 = .ok (.ldc_w 489, 3) := by decide +kernel
theorem dX11_snapshotOf_56 : decode cX11_snapshotOf 56 = .ok (.invokespecial 273, 3) := by decide +kernel
theorem dX11_snapshotOf_59 : decode cX11_snapshotOf 59 = .ok (.athrow, 1) := by decide +kernel
theorem dX11_bufferPlaceOf_0 : decode cX11_bufferPlaceOf 0 = .ok (.iconst 0, 1) := by decide +kernel
theorem dX11_bufferPlaceOf_1 : decode cX11_bufferPlaceOf 1 = .ok (.istore_n 2, 1) := by decide +kernel
theorem dX11_bufferPlaceOf_2 : decode cX11_bufferPlaceOf 2 = .ok (.iload_n 2, 1) := by decide +kernel
theorem dX11_bufferPlaceOf_3 : decode cX11_bufferPlaceOf 3 = .ok (.aload_n 0, 1) := by decide +kernel
theorem dX11_bufferPlaceOf_4 : decode cX11_bufferPlaceOf 4 = .ok (.getfield 26, 3) := by decide +kernel
theorem dX11_bufferPlaceOf_7 : decode cX11_bufferPlaceOf 7 = .ok (.invokevirtual 180, 3) := by decide +kernel
theorem dX11_bufferPlaceOf_10 : decode cX11_bufferPlaceOf 10 = .ok (.if_icmp .ge 29, 3) := by decide +kernel
theorem dX11_bufferPlaceOf_39 : decode cX11_bufferPlaceOf 39 = .ok (.iconst (-1), 1) := by decide +kernel
theorem dX11_bufferPlaceOf_40 : decode cX11_bufferPlaceOf 40 = .ok (.ireturn, 1) := by decide +kernel
theorem dX11_dropKey_0 : decode cX11_dropKey 0 = .ok (.aload_n 0, 1) := by decide +kernel
theorem dX11_dropKey_1 : decode cX11_dropKey 1 = .ok (.iload_n 1, 1) := by decide +kernel
theorem dX11_dropKey_2 : decode cX11_dropKey 2 = .ok (.invokevirtual 183, 3) := by decide +kernel
theorem dX11_dropKey_5 : decode cX11_dropKey 5 = .ok (.istore_n 2, 1) := by decide +kernel
theorem dX11_dropKey_6 : decode cX11_dropKey 6 = .ok (.iload_n 2, 1) := by decide +kernel
theorem dX11_dropKey_7 : decode cX11_dropKey 7 = .ok (.iconst (-1), 1) := by decide +kernel
theorem dX11_dropKey_8 : decode cX11_dropKey 8 = .ok (.if_icmp .eq 14, 3) := by decide +kernel
theorem dX11_dropKey_22 : decode cX11_dropKey 22 = .ok (.aload_n 0, 1) := by decide +kernel
theorem dX11_dropKey_23 : decode cX11_dropKey 23 = .ok (.getfield 35, 3) := by decide +kernel
theorem dX11_dropKey_26 : decode cX11_dropKey 26 = .ok (.iload_n 1, 1) := by decide +kernel
theorem dX11_dropKey_27 : decode cX11_dropKey 27 = .ok (.invokevirtual 493, 3) := by decide +kernel
theorem dX11_dropKey_30 : decode cX11_dropKey 30 = .ok (.ireturn, 1) := by decide +kernel
theorem dX11_doWrite_0 : decode cX11_doWrite 0 = .ok (.aload_n 0, 1) := by decide +kernel
theorem dX11_doWrite_1 : decode cX11_doWrite 1 = .ok (.getfield 93, 3) := by decide +kernel
theorem dX11_doWrite_4 : decode cX11_doWrite 4 = .ok (.ifCond .ne 9, 3) := by decide +kernel
theorem dX11_doWrite_13 : decode cX11_doWrite 13 = .ok (.aload_n 0, 1) := by decide +kernel
theorem dX11_doWrite_14 : decode cX11_doWrite 14 = .ok (.getfield 93, 3) := by decide +kernel
theorem dX11_doWrite_17 : decode cX11_doWrite 17 = .ok (.ifCond .le 13, 3) := by decide +kernel
theorem dX11_doWrite_30 : decode cX11_doWrite 30 = .ok (.aload_n 0, 1) := by decide +kernel
theorem dX11_doWrite_31 : decode cX11_doWrite 31 = .ok (.dup, 1) := by decide +kernel
theorem dX11_doWrite_32 : decode cX11_doWrite 32 = .ok (.getfield 90, 3) := by decide +kernel
theorem dX11_doWrite_35 : decode cX11_doWrite 35 = .ok (.iconst 1, 1) := by decide +kernel
theorem dX11_doWrite_36 : decode cX11_doWrite 36 = .ok (.iadd, 1) := by decide +kernel
theorem dX11_doWrite_37 : decode cX11_doWrite 37 = .ok (.putfield 90, 3) := by decide +kernel
theorem dX11_doWrite_40 : decode cX11_doWrite 40 = .ok (.iconst 1, 1) := by decide +kernel
theorem dX11_doWrite_41 : decode cX11_doWrite 41 = .ok (.ireturn, 1) := by decide +kernel
theorem dX11_committed_0 : decode cX11_committed 0 = .ok (.aload_n 0, 1) := by decide +kernel
theorem dX11_committed_1 : decode cX11_committed 1 = .ok (.getfield 46, 3) := by decide +kernel
theorem dX11_committed_4 : decode cX11_committed 4 = .ok (.astore_n 1, 1) := by decide +kernel
theorem dX11_committed_5 : decode cX11_committed 5 = .ok (.aload_n 1, 1) := by decide +kernel
theorem dX11_committed_6 : decode cX11_committed 6 = .ok (.ifnonnull 14, 3) := by decide +kernel
theorem dX11_committed_9 : decode cX11_committed 9 = .ok (.new 30, 3) := by decide +kernel
theorem dX11_committed_12 : decode cX11_committed 12 = .ok (.dup, 1) := by decide +kernel
theorem dX11_committed_13 : decode cX11_committed 13 = .ok (.iconst (-1), 1) := by decide +kernel
theorem dX11_committed_14 : decode cX11_committed 14 = .ok (.invokespecial 32, 3) := by decide +kernel
theorem dX11_committed_17 : decode cX11_committed 17 = .ok (.goto 12, 3) := by decide +kernel
theorem dX11_committed_29 : decode cX11_committed 29 = .ok (.areturn, 1) := by decide +kernel
theorem dX11_fileCount_0 : decode cX11_fileCount 0 = .ok (.aload_n 0, 1) := by decide +kernel
theorem dX11_fileCount_1 : decode cX11_fileCount 1 = .ok (.getfield 84, 3) := by decide +kernel
theorem dX11_fileCount_4 : decode cX11_fileCount 4 = .ok (.newarray .boolean, 2) := by decide +kernel
theorem dX11_fileCount_6 : decode cX11_fileCount 6 = .ok (.astore_n 1, 1) := by decide +kernel
theorem dX11_fileCount_7 : decode cX11_fileCount 7 = .ok (.aload_n 0, 1) := by decide +kernel
theorem dX11_fileCount_8 : decode cX11_fileCount 8 = .ok (.getfield 35, 3) := by decide +kernel
theorem dX11_fileCount_11 : decode cX11_fileCount 11 = .ok (.aload_n 1, 1) := by decide +kernel
theorem dX11_fileCount_12 : decode cX11_fileCount 12 = .ok (.invokevirtual 525, 3) := by decide +kernel
theorem dX11_fileCount_15 : decode cX11_fileCount 15 = .ok (.aload_n 0, 1) := by decide +kernel
theorem dX11_fileCount_16 : decode cX11_fileCount 16 = .ok (.getfield 39, 3) := by decide +kernel
theorem dX11_fileCount_19 : decode cX11_fileCount 19 = .ok (.ifnull 14, 3) := by decide +kernel
theorem dX11_fileCount_33 : decode cX11_fileCount 33 = .ok (.iconst 0, 1) := by decide +kernel
theorem dX11_fileCount_34 : decode cX11_fileCount 34 = .ok (.iadd, 1) := by decide +kernel
theorem dX11_fileCount_35 : decode cX11_fileCount 35 = .ok (.istore_n 2, 1) := by decide +kernel
theorem dX11_fileCount_36 : decode cX11_fileCount 36 = .ok (.iconst 0, 1) := by decide +kernel
theorem dX11_fileCount_37 : decode cX11_fileCount 37 = .ok (.istore_n 3, 1) := by decide +kernel
theorem dX11_fileCount_38 : decode cX11_fileCount 38 = .ok (.iload_n 3, 1) := by decide +kernel
theorem dX11_fileCount_39 : decode cX11_fileCount 39 = .ok (.aload_n 0, 1) := by decide +kernel
theorem dX11_fileCount_40 : decode cX11_fileCount 40 = .ok (.getfield 52, 3) := by decide +kernel
theorem dX11_fileCount_43 : decode cX11_fileCount 43 = .ok (.invokevirtual 180, 3) := by decide +kernel
theorem dX11_fileCount_46 : decode cX11_fileCount 46 = .ok (.if_icmp .ge 27, 3) := by decide +kernel
theorem dX11_fileCount_73 : decode cX11_fileCount 73 = .ok (.aload_n 0, 1) := by decide +kernel
theorem dX11_fileCount_74 : decode cX11_fileCount 74 = .ok (.getfield 46, 3) := by decide +kernel
theorem dX11_fileCount_77 : decode cX11_fileCount 77 = .ok (.ifnull 25, 3) := by decide +kernel
theorem dX11_fileCount_102 : decode cX11_fileCount 102 = .ok (.aload_n 0, 1) := by decide +kernel
theorem dX11_fileCount_103 : decode cX11_fileCount 103 = .ok (.getfield 49, 3) := by decide +kernel
theorem dX11_fileCount_106 : decode cX11_fileCount 106 = .ok (.ifnull 28, 3) := by decide +kernel
theorem dX11_fileCount_134 : decode cX11_fileCount 134 = .ok (.iload_n 2, 1) := by decide +kernel
theorem dX11_fileCount_135 : decode cX11_fileCount 135 = .ok (.ireturn, 1) := by decide +kernel
theorem dJx4a65c_grow_92f84_0 : decode cJx4a65c_grow_92f84 0 = .ok (.aload_n 0, 1) := by decide +kernel
theorem dJx4a65c_grow_92f84_1 : decode cJx4a65c_grow_92f84 1 = .ok (.getfield 9, 3) := by decide +kernel
theorem dJx4a65c_grow_92f84_4 : decode cJx4a65c_grow_92f84 4 = .ok (.arraylength, 1) := by decide +kernel
theorem dJx4a65c_grow_92f84_5 : decode cJx4a65c_grow_92f84 5 = .ok (.istore_n 2, 1) := by decide +kernel
theorem dJx4a65c_grow_92f84_6 : decode cJx4a65c_grow_92f84 6 = .ok (.iload_n 2, 1) := by decide +kernel
theorem dJx4a65c_grow_92f84_7 : decode cJx4a65c_grow_92f84 7 = .ok (.ifCond .gt 13, 3) := by decide +kernel
theorem dJx4a65c_grow_92f84_10 : decode cJx4a65c_grow_92f84 10 = .ok (.aload_n 0, 1) := by decide +kernel
theorem dJx4a65c_grow_92f84_11 : decode cJx4a65c_grow_92f84 11 = .ok (.getfield 9, 3) := by decide +kernel
theorem dJx4a65c_grow_92f84_14 : decode cJx4a65c_grow_92f84 14 = .ok (.getstatic 39, 3) := by decide +kernel
theorem dJx4a65c_grow_92f84_17 : decode cJx4a65c_grow_92f84 17 = .ok (.if_acmp .eq 28, 3) := by decide +kernel
theorem dJx4a65c_grow_92f84_45 : decode cJx4a65c_grow_92f84 45 = .ok (.aload_n 0, 1) := by decide +kernel
theorem dJx4a65c_grow_92f84_46 : decode cJx4a65c_grow_92f84 46 = .ok (.bipush 10, 2) := by decide +kernel
theorem dJx4a65c_grow_92f84_48 : decode cJx4a65c_grow_92f84 48 = .ok (.iload_n 1, 1) := by decide +kernel
theorem dJx4a65c_grow_92f84_49 : decode cJx4a65c_grow_92f84 49 = .ok (.invokestatic 79, 3) := by decide +kernel
theorem dJx4a65c_grow_92f84_52 : decode cJx4a65c_grow_92f84 52 = .ok (.anewarray 7, 3) := by decide +kernel
theorem dJx4a65c_grow_92f84_55 : decode cJx4a65c_grow_92f84 55 = .ok (.dup_x1, 1) := by decide +kernel
theorem dJx4a65c_grow_92f84_56 : decode cJx4a65c_grow_92f84 56 = .ok (.putfield 9, 3) := by decide +kernel
theorem dJx4a65c_grow_92f84_59 : decode cJx4a65c_grow_92f84 59 = .ok (.areturn, 1) := by decide +kernel
theorem dJx4a65c_grow_d5877_0 : decode cJx4a65c_grow_d5877 0 = .ok (.aload_n 0, 1) := by decide +kernel
theorem dJx4a65c_grow_d5877_1 : decode cJx4a65c_grow_d5877 1 = .ok (.aload_n 0, 1) := by decide +kernel
theorem dJx4a65c_grow_d5877_2 : decode cJx4a65c_grow_d5877 2 = .ok (.getfield 48, 3) := by decide +kernel
theorem dJx4a65c_grow_d5877_5 : decode cJx4a65c_grow_d5877 5 = .ok (.iconst 1, 1) := by decide +kernel
theorem dJx4a65c_grow_d5877_6 : decode cJx4a65c_grow_d5877 6 = .ok (.iadd, 1) := by decide +kernel
theorem dJx4a65c_grow_d5877_7 : decode cJx4a65c_grow_d5877 7 = .ok (.invokevirtual 69, 3) := by decide +kernel
theorem dJx4a65c_grow_d5877_10 : decode cJx4a65c_grow_d5877 10 = .ok (.areturn, 1) := by decide +kernel
theorem dJx4a65c_size_8abf5_0 : decode cJx4a65c_size_8abf5 0 = .ok (.aload_n 0, 1) := by decide +kernel
theorem dJx4a65c_size_8abf5_1 : decode cJx4a65c_size_8abf5 1 = .ok (.getfield 48, 3) := by decide +kernel
theorem dJx4a65c_size_8abf5_4 : decode cJx4a65c_size_8abf5 4 = .ok (.ireturn, 1) := by decide +kernel
theorem dJx4a65c_isEmpty_aae02_0 : decode cJx4a65c_isEmpty_aae02 0 = .ok (.aload_n 0, 1) := by decide +kernel
theorem dJx4a65c_isEmpty_aae02_1 : decode cJx4a65c_isEmpty_aae02 1 = .ok (.getfield 48, 3) := by decide +kernel
theorem dJx4a65c_isEmpty_aae02_4 : decode cJx4a65c_isEmpty_aae02 4 = .ok (.ifCond .ne 7, 3) := by decide +kernel
theorem dJx4a65c_isEmpty_aae02_7 : decode cJx4a65c_isEmpty_aae02 7 = .ok (.iconst 1, 1) := by decide +kernel
theorem dJx4a65c_isEmpty_aae02_8 : decode cJx4a65c_isEmpty_aae02 8 = .ok (.goto 4, 3) := by decide +kernel
theorem dJx4a65c_isEmpty_aae02_12 : decode cJx4a65c_isEmpty_aae02 12 = .ok (.ireturn, 1) := by decide +kernel
theorem dJx4a65c_add_72be8_0 : decode cJx4a65c_add_72be8 0 = .ok (.iload_n 3, 1) := by decide +kernel
theorem dJx4a65c_add_72be8_1 : decode cJx4a65c_add_72be8 1 = .ok (.aload_n 2, 1) := by decide +kernel
theorem dJx4a65c_add_72be8_2 : decode cJx4a65c_add_72be8 2 = .ok (.arraylength, 1) := by decide +kernel
theorem dJx4a65c_add_72be8_3 : decode cJx4a65c_add_72be8 3 = .ok (.if_icmp .ne 8, 3) := by decide +kernel
theorem dJx4a65c_add_72be8_6 : decode cJx4a65c_add_72be8 6 = .ok (.aload_n 0, 1) := by decide +kernel
theorem dJx4a65c_add_72be8_7 : decode cJx4a65c_add_72be8 7 = .ok (.invokevirtual 129, 3) := by decide +kernel
theorem dJx4a65c_add_72be8_10 : decode cJx4a65c_add_72be8 10 = .ok (.astore_n 2, 1) := by decide +kernel
theorem dJx4a65c_add_72be8_11 : decode cJx4a65c_add_72be8 11 = .ok (.aload_n 2, 1) := by decide +kernel
theorem dJx4a65c_add_72be8_12 : decode cJx4a65c_add_72be8 12 = .ok (.iload_n 3, 1) := by decide +kernel
theorem dJx4a65c_add_72be8_13 : decode cJx4a65c_add_72be8 13 = .ok (.aload_n 1, 1) := by decide +kernel
theorem dJx4a65c_add_72be8_14 : decode cJx4a65c_add_72be8 14 = .ok (.aastore, 1) := by decide +kernel
theorem dJx4a65c_add_72be8_15 : decode cJx4a65c_add_72be8 15 = .ok (.aload_n 0, 1) := by decide +kernel
theorem dJx4a65c_add_72be8_16 : decode cJx4a65c_add_72be8 16 = .ok (.iload_n 3, 1) := by decide +kernel
theorem dJx4a65c_add_72be8_17 : decode cJx4a65c_add_72be8 17 = .ok (.iconst 1, 1) := by decide +kernel
theorem dJx4a65c_add_72be8_18 : decode cJx4a65c_add_72be8 18 = .ok (.iadd, 1) := by decide +kernel
theorem dJx4a65c_add_72be8_19 : decode cJx4a65c_add_72be8 19 = .ok (.putfield 48, 3) := by decide +kernel
theorem dJx4a65c_add_72be8_22 : decode cJx4a65c_add_72be8 22 = .ok (.return_, 1) := by decide +kernel
theorem dJx4a65c_add_9ea2d_0 : decode cJx4a65c_add_9ea2d 0 = .ok (.aload_n 0, 1) := by decide +kernel
theorem dJx4a65c_add_9ea2d_1 : decode cJx4a65c_add_9ea2d 1 = .ok (.dup, 1) := by decide +kernel
theorem dJx4a65c_add_9ea2d_2 : decode cJx4a65c_add_9ea2d 2 = .ok (.getfield 63, 3) := by decide +kernel
theorem dJx4a65c_add_9ea2d_5 : decode cJx4a65c_add_9ea2d 5 = .ok (.iconst 1, 1) := by decide +kernel
theorem dJx4a65c_add_9ea2d_6 : decode cJx4a65c_add_9ea2d 6 = .ok (.iadd, 1) := by decide +kernel
theorem dJx4a65c_add_9ea2d_7 : decode cJx4a65c_add_9ea2d 7 = .ok (.putfield 63, 3) := by decide +kernel
theorem dJx4a65c_add_9ea2d_10 : decode cJx4a65c_add_9ea2d 10 = .ok (.aload_n 0, 1) := by decide +kernel
theorem dJx4a65c_add_9ea2d_11 : decode cJx4a65c_add_9ea2d 11 = .ok (.aload_n 1, 1) := by decide +kernel
theorem dJx4a65c_add_9ea2d_12 : decode cJx4a65c_add_9ea2d 12 = .ok (.aload_n 0, 1) := by decide +kernel
theorem dJx4a65c_add_9ea2d_13 : decode cJx4a65c_add_9ea2d 13 = .ok (.getfield 9, 3) := by decide +kernel
theorem dJx4a65c_add_9ea2d_16 : decode cJx4a65c_add_9ea2d 16 = .ok (.aload_n 0, 1) := by decide +kernel
theorem dJx4a65c_add_9ea2d_17 : decode cJx4a65c_add_9ea2d 17 = .ok (.getfield 48, 3) := by decide +kernel
theorem dJx4a65c_add_9ea2d_20 : decode cJx4a65c_add_9ea2d 20 = .ok (.invokevirtual 131, 3) := by decide +kernel
theorem dJx4a65c_add_9ea2d_23 : decode cJx4a65c_add_9ea2d 23 = .ok (.iconst 1, 1) := by decide +kernel
theorem dJx4a65c_add_9ea2d_24 : decode cJx4a65c_add_9ea2d 24 = .ok (.ireturn, 1) := by decide +kernel
theorem dL_type_0 : decode cL_type 0 = .ok (.aload_n 2, 1) := by decide +kernel
theorem dL_type_1 : decode cL_type 1 = .ok (.iconst 0, 1) := by decide +kernel
theorem dL_type_2 : decode cL_type 2 = .ok (.aload_n 0, 1) := by decide +kernel
theorem dL_type_3 : decode cL_type 3 = .ok (.iload_n 1, 1) := by decide +kernel
theorem dL_type_4 : decode cL_type 4 = .ok (.invokevirtual 7, 3) := by decide +kernel
theorem dL_type_7 : decode cL_type 7 = .ok (.i2l, 1) := by decide +kernel
theorem dL_type_8 : decode cL_type 8 = .ok (.lastore, 1) := by decide +kernel
theorem dL_type_9 : decode cL_type 9 = .ok (.goto 9, 3) := by decide +kernel
theorem dL_type_12 : decode cL_type 12 = .ok (.astore_n 3, 1) := by decide +kernel
theorem dL_type_13 : decode cL_type 13 = .ok (.iconst 1, 1) := by decide +kernel
theorem dL_type_14 : decode cL_type 14 = .ok (.ireturn, 1) := by decide +kernel
theorem dL_type_18 : decode cL_type 18 = .ok (.iconst 0, 1) := by decide +kernel
theorem dL_type_19 : decode cL_type 19 = .ok (.ireturn, 1) := by decide +kernel
theorem dL_stop_0 : decode cL_stop 0 = .ok (.aload_n 1, 1) := by decide +kernel
theorem dL_stop_1 : decode cL_stop 1 = .ok (.iconst 0, 1) := by decide +kernel
theorem dL_stop_2 : decode cL_stop 2 = .ok (.aload_n 0, 1) := by decide +kernel
theorem dL_stop_3 : decode cL_stop 3 = .ok (.invokevirtual 17, 3) := by decide +kernel
theorem dL_stop_11 : decode cL_stop 11 = .ok (.astore_n 2, 1) := by decide +kernel
theorem dL_stop_12 : decode cL_stop 12 = .ok (.iconst 1, 1) := by decide +kernel
theorem dL_stop_13 : decode cL_stop 13 = .ok (.ireturn, 1) := by decide +kernel
theorem dL_synonym_0 : decode cL_synonym 0 = .ok (.aload_n 1, 1) := by decide +kernel
theorem dL_synonym_1 : decode cL_synonym 1 = .ok (.iconst 0, 1) := by decide +kernel
theorem dL_synonym_2 : decode cL_synonym 2 = .ok (.aload_n 0, 1) := by decide +kernel
theorem dL_synonym_3 : decode cL_synonym 3 = .ok (.invokevirtual 21, 3) := by decide +kernel
theorem dL_synonym_11 : decode cL_synonym 11 = .ok (.astore_n 2, 1) := by decide +kernel
theorem dL_synonym_12 : decode cL_synonym 12 = .ok (.iconst 1, 1) := by decide +kernel
theorem dL_synonym_13 : decode cL_synonym 13 = .ok (.ireturn, 1) := by decide +kernel
theorem dL_text_0 : decode cL_text 0 = .ok (.aload_n 2, 1) := by decide +kernel
theorem dL_text_1 : decode cL_text 1 = .ok (.iconst 0, 1) := by decide +kernel
theorem dL_text_2 : decode cL_text 2 = .ok (.aload_n 0, 1) := by decide +kernel
theorem dL_text_3 : decode cL_text 3 = .ok (.iload_n 1, 1) := by decide +kernel
theorem dL_text_4 : decode cL_text 4 = .ok (.invokevirtual 24, 3) := by decide +kernel
theorem dL_text_7 : decode cL_text 7 = .ok (.i2l, 1) := by decide +kernel
theorem dL_text_8 : decode cL_text 8 = .ok (.lastore, 1) := by decide +kernel
theorem dL_text_9 : decode cL_text 9 = .ok (.goto 6, 3) := by decide +kernel
theorem dL_text_12 : decode cL_text 12 = .ok (.astore_n 3, 1) := by decide +kernel
theorem dL_text_13 : decode cL_text 13 = .ok (.iconst 1, 1) := by decide +kernel
theorem dL_text_14 : decode cL_text 14 = .ok (.ireturn, 1) := by decide +kernel
theorem dL_text_15 : decode cL_text 15 = .ok (.iconst 0, 1) := by decide +kernel
theorem dL_text_16 : decode cL_text 16 = .ok (.ireturn, 1) := by decide +kernel
theorem dL_columns_0 : decode cL_columns 0 = .ok (.aload_n 0, 1) := by decide +kernel
theorem dL_columns_1 : decode cL_columns 1 = .ok (.iload_n 1, 1) := by decide +kernel
theorem dL_columns_2 : decode cL_columns 2 = .ok (.iload_n 2, 1) := by decide +kernel
theorem dL_columns_3 : decode cL_columns 3 = .ok (.invokevirtual 30, 3) := by decide +kernel
theorem dL_columns_6 : decode cL_columns 6 = .ok (.goto 6, 3) := by decide +kernel
theorem dL_columns_9 : decode cL_columns 9 = .ok (.astore_n 3, 1) := by decide +kernel
theorem dL_columns_10 : decode cL_columns 10 = .ok (.iconst 1, 1) := by decide +kernel
theorem dL_columns_11 : decode cL_columns 11 = .ok (.ireturn, 1) := by decide +kernel
theorem dL_columns_12 : decode cL_columns 12 = .ok (.iconst 0, 1) := by decide +kernel
theorem dL_columns_13 : decode cL_columns 13 = .ok (.ireturn, 1) := by decide +kernel
theorem dL_add_0 : decode cL_add 0 = .ok (.aload_n 2, 1) := by decide +kernel
theorem dL_add_1 : decode cL_add 1 = .ok (.iconst 0, 1) := by decide +kernel
theorem dL_add_2 : decode cL_add 2 = .ok (.aload_n 0, 1) := by decide +kernel
theorem dL_add_3 : decode cL_add 3 = .ok (.iload_n 1, 1) := by decide +kernel
theorem dL_add_4 : decode cL_add 4 = .ok (.invokevirtual 34, 3) := by decide +kernel
theorem dL_add_7 : decode cL_add 7 = .ok (.i2l, 1) := by decide +kernel
theorem dL_add_8 : decode cL_add 8 = .ok (.lastore, 1) := by decide +kernel
theorem dL_add_9 : decode cL_add 9 = .ok (.goto 9, 3) := by decide +kernel
theorem dL_add_12 : decode cL_add 12 = .ok (.astore_n 3, 1) := by decide +kernel
theorem dL_add_13 : decode cL_add 13 = .ok (.iconst 1, 1) := by decide +kernel
theorem dL_add_14 : decode cL_add 14 = .ok (.ireturn, 1) := by decide +kernel
theorem dL_add_18 : decode cL_add 18 = .ok (.iconst 0, 1) := by decide +kernel
theorem dL_add_19 : decode cL_add 19 = .ok (.ireturn, 1) := by decide +kernel
theorem dL_delete_0 : decode cL_delete 0 = .ok (.aload_n 2, 1) := by decide +kernel
theorem dL_delete_1 : decode cL_delete 1 = .ok (.iconst 0, 1) := by decide +kernel
theorem dL_delete_2 : decode cL_delete 2 = .ok (.aload_n 0, 1) := by decide +kernel
theorem dL_delete_3 : decode cL_delete 3 = .ok (.iload_n 1, 1) := by decide +kernel
theorem dL_delete_4 : decode cL_delete 4 = .ok (.invokevirtual 37, 3) := by decide +kernel
theorem dL_delete_7 : decode cL_delete 7 = .ok (.ifCond .eq 7, 3) := by decide +kernel
theorem dL_delete_14 : decode cL_delete 14 = .ok (.lconst 0, 1) := by decide +kernel
theorem dL_delete_15 : decode cL_delete 15 = .ok (.lastore, 1) := by decide +kernel
theorem dL_delete_16 : decode cL_delete 16 = .ok (.goto 9, 3) := by decide +kernel
theorem dL_delete_19 : decode cL_delete 19 = .ok (.astore_n 3, 1) := by decide +kernel
theorem dL_delete_20 : decode cL_delete 20 = .ok (.iconst 1, 1) := by decide +kernel
theorem dL_delete_21 : decode cL_delete 21 = .ok (.ireturn, 1) := by decide +kernel
theorem dL_delete_25 : decode cL_delete 25 = .ok (.iconst 0, 1) := by decide +kernel
theorem dL_delete_26 : decode cL_delete 26 = .ok (.ireturn, 1) := by decide +kernel
theorem dL_flush_0 : decode cL_flush 0 = .ok (.aload_n 1, 1) := by decide +kernel
theorem dL_flush_1 : decode cL_flush 1 = .ok (.iconst 0, 1) := by decide +kernel
theorem dL_flush_2 : decode cL_flush 2 = .ok (.aload_n 0, 1) := by decide +kernel
theorem dL_flush_3 : decode cL_flush 3 = .ok (.invokevirtual 41, 3) := by decide +kernel
theorem dL_flush_6 : decode cL_flush 6 = .ok (.i2l, 1) := by decide +kernel
theorem dL_flush_7 : decode cL_flush 7 = .ok (.lastore, 1) := by decide +kernel
theorem dL_flush_8 : decode cL_flush 8 = .ok (.goto 6, 3) := by decide +kernel
theorem dL_flush_14 : decode cL_flush 14 = .ok (.iconst 0, 1) := by decide +kernel
theorem dL_flush_15 : decode cL_flush 15 = .ok (.ireturn, 1) := by decide +kernel
theorem dL_due_0 : decode cL_due 0 = .ok (.aload_n 1, 1) := by decide +kernel
theorem dL_due_1 : decode cL_due 1 = .ok (.iconst 0, 1) := by decide +kernel
theorem dL_due_2 : decode cL_due 2 = .ok (.aload_n 0, 1) := by decide +kernel
theorem dL_due_3 : decode cL_due 3 = .ok (.invokevirtual 44, 3) := by decide +kernel
theorem dL_due_6 : decode cL_due 6 = .ok (.i2l, 1) := by decide +kernel
theorem dL_due_7 : decode cL_due 7 = .ok (.lastore, 1) := by decide +kernel
theorem dL_due_8 : decode cL_due 8 = .ok (.goto 6, 3) := by decide +kernel
theorem dL_due_14 : decode cL_due 14 = .ok (.iconst 0, 1) := by decide +kernel
theorem dL_due_15 : decode cL_due 15 = .ok (.ireturn, 1) := by decide +kernel
theorem dL_merge_0 : decode cL_merge 0 = .ok (.aload_n 1, 1) := by decide +kernel
theorem dL_merge_1 : decode cL_merge 1 = .ok (.iconst 0, 1) := by decide +kernel
theorem dL_merge_2 : decode cL_merge 2 = .ok (.aload_n 0, 1) := by decide +kernel
theorem dL_merge_3 : decode cL_merge 3 = .ok (.invokevirtual 47, 3) := by decide +kernel
theorem dL_merge_11 : decode cL_merge 11 = .ok (.astore_n 2, 1) := by decide +kernel
theorem dL_merge_12 : decode cL_merge 12 = .ok (.iconst 1, 1) := by decide +kernel
theorem dL_merge_13 : decode cL_merge 13 = .ok (.ireturn, 1) := by decide +kernel
theorem dL_step_0 : decode cL_step 0 = .ok (.aload_n 1, 1) := by decide +kernel
theorem dL_step_1 : decode cL_step 1 = .ok (.iconst 0, 1) := by decide +kernel
theorem dL_step_2 : decode cL_step 2 = .ok (.aload_n 0, 1) := by decide +kernel
theorem dL_step_3 : decode cL_step 3 = .ok (.invokevirtual 50, 3) := by decide +kernel
theorem dL_step_11 : decode cL_step 11 = .ok (.astore_n 2, 1) := by decide +kernel
theorem dL_step_12 : decode cL_step 12 = .ok (.iconst 1, 1) := by decide +kernel
theorem dL_step_13 : decode cL_step 13 = .ok (.ireturn, 1) := by decide +kernel
theorem dL_giveUp_0 : decode cL_giveUp 0 = .ok (.aload_n 1, 1) := by decide +kernel
theorem dL_giveUp_1 : decode cL_giveUp 1 = .ok (.iconst 0, 1) := by decide +kernel
theorem dL_giveUp_2 : decode cL_giveUp 2 = .ok (.aload_n 0, 1) := by decide +kernel
theorem dL_giveUp_3 : decode cL_giveUp 3 = .ok (.invokevirtual 53, 3) := by decide +kernel
theorem dL_giveUp_11 : decode cL_giveUp 11 = .ok (.astore_n 2, 1) := by decide +kernel
theorem dL_giveUp_12 : decode cL_giveUp 12 = .ok (.iconst 1, 1) := by decide +kernel
theorem dL_giveUp_13 : decode cL_giveUp 13 = .ok (.ireturn, 1) := by decide +kernel
theorem dL_prepare_0 : decode cL_prepare 0 = .ok (.aload_n 1, 1) := by decide +kernel
theorem dL_prepare_1 : decode cL_prepare 1 = .ok (.iconst 0, 1) := by decide +kernel
theorem dL_prepare_2 : decode cL_prepare 2 = .ok (.aload_n 0, 1) := by decide +kernel
theorem dL_prepare_3 : decode cL_prepare 3 = .ok (.invokevirtual 56, 3) := by decide +kernel
theorem dL_prepare_6 : decode cL_prepare 6 = .ok (.i2l, 1) := by decide +kernel
theorem dL_prepare_7 : decode cL_prepare 7 = .ok (.lastore, 1) := by decide +kernel
theorem dL_prepare_8 : decode cL_prepare 8 = .ok (.goto 6, 3) := by decide +kernel
theorem dL_prepare_14 : decode cL_prepare 14 = .ok (.iconst 0, 1) := by decide +kernel
theorem dL_prepare_15 : decode cL_prepare 15 = .ok (.ireturn, 1) := by decide +kernel
theorem dL_finish_0 : decode cL_finish 0 = .ok (.aload_n 1, 1) := by decide +kernel
theorem dL_finish_1 : decode cL_finish 1 = .ok (.iconst 0, 1) := by decide +kernel
theorem dL_finish_2 : decode cL_finish 2 = .ok (.aload_n 0, 1) := by decide +kernel
theorem dL_finish_3 : decode cL_finish 3 = .ok (.invokevirtual 59, 3) := by decide +kernel
theorem dL_finish_11 : decode cL_finish 11 = .ok (.astore_n 2, 1) := by decide +kernel
theorem dL_finish_12 : decode cL_finish 12 = .ok (.iconst 1, 1) := by decide +kernel
theorem dL_finish_13 : decode cL_finish 13 = .ok (.ireturn, 1) := by decide +kernel
theorem dL_drop_0 : decode cL_drop 0 = .ok (.aload_n 0, 1) := by decide +kernel
theorem dL_drop_1 : decode cL_drop 1 = .ok (.invokevirtual 62, 3) := by decide +kernel
theorem dL_drop_7 : decode cL_drop 7 = .ok (.astore_n 1, 1) := by decide +kernel
theorem dL_drop_8 : decode cL_drop 8 = .ok (.iconst 1, 1) := by decide +kernel
theorem dL_drop_9 : decode cL_drop 9 = .ok (.ireturn, 1) := by decide +kernel
theorem dL_crashAt_0 : decode cL_crashAt 0 = .ok (.aload_n 0, 1) := by decide +kernel
theorem dL_crashAt_1 : decode cL_crashAt 1 = .ok (.iload_n 1, 1) := by decide +kernel
theorem dL_crashAt_2 : decode cL_crashAt 2 = .ok (.invokevirtual 65, 3) := by decide +kernel
theorem dL_crashAt_5 : decode cL_crashAt 5 = .ok (.goto 9, 3) := by decide +kernel
theorem dL_crashAt_8 : decode cL_crashAt 8 = .ok (.astore_n 2, 1) := by decide +kernel
theorem dL_crashAt_9 : decode cL_crashAt 9 = .ok (.iconst 1, 1) := by decide +kernel
theorem dL_crashAt_10 : decode cL_crashAt 10 = .ok (.ireturn, 1) := by decide +kernel
theorem dL_crashAt_14 : decode cL_crashAt 14 = .ok (.iconst 0, 1) := by decide +kernel
theorem dL_crashAt_15 : decode cL_crashAt 15 = .ok (.ireturn, 1) := by decide +kernel
theorem dL_open_0 : decode cL_open 0 = .ok (.aload_n 1, 1) := by decide +kernel
theorem dL_open_1 : decode cL_open 1 = .ok (.iconst 0, 1) := by decide +kernel
theorem dL_open_2 : decode cL_open 2 = .ok (.aload_n 0, 1) := by decide +kernel
theorem dL_open_3 : decode cL_open 3 = .ok (.invokevirtual 69, 3) := by decide +kernel
theorem dL_open_11 : decode cL_open 11 = .ok (.astore_n 2, 1) := by decide +kernel
theorem dL_open_12 : decode cL_open 12 = .ok (.iconst 1, 1) := by decide +kernel
theorem dL_open_13 : decode cL_open 13 = .ok (.ireturn, 1) := by decide +kernel
theorem dL_files_0 : decode cL_files 0 = .ok (.aload_n 1, 1) := by decide +kernel
theorem dL_files_1 : decode cL_files 1 = .ok (.iconst 0, 1) := by decide +kernel
theorem dL_files_2 : decode cL_files 2 = .ok (.aload_n 0, 1) := by decide +kernel
theorem dL_files_3 : decode cL_files 3 = .ok (.invokevirtual 72, 3) := by decide +kernel
theorem dL_files_6 : decode cL_files 6 = .ok (.i2l, 1) := by decide +kernel
theorem dL_files_7 : decode cL_files 7 = .ok (.lastore, 1) := by decide +kernel
theorem dL_files_8 : decode cL_files 8 = .ok (.goto 6, 3) := by decide +kernel
theorem dL_files_14 : decode cL_files 14 = .ok (.iconst 0, 1) := by decide +kernel
theorem dL_files_15 : decode cL_files 15 = .ok (.ireturn, 1) := by decide +kernel
theorem dL_segments_0 : decode cL_segments 0 = .ok (.aload_n 1, 1) := by decide +kernel
theorem dL_segments_1 : decode cL_segments 1 = .ok (.iconst 0, 1) := by decide +kernel
theorem dL_segments_2 : decode cL_segments 2 = .ok (.aload_n 0, 1) := by decide +kernel
theorem dL_segments_3 : decode cL_segments 3 = .ok (.invokevirtual 75, 3) := by decide +kernel
theorem dL_segments_6 : decode cL_segments 6 = .ok (.i2l, 1) := by decide +kernel
theorem dL_segments_7 : decode cL_segments 7 = .ok (.lastore, 1) := by decide +kernel
theorem dL_segments_8 : decode cL_segments 8 = .ok (.goto 6, 3) := by decide +kernel
theorem dL_segments_14 : decode cL_segments 14 = .ok (.iconst 0, 1) := by decide +kernel
theorem dL_segments_15 : decode cL_segments 15 = .ok (.ireturn, 1) := by decide +kernel
theorem dL_segmentAt_0 : decode cL_segmentAt 0 = .ok (.aload_n 2, 1) := by decide +kernel
theorem dL_segmentAt_1 : decode cL_segmentAt 1 = .ok (.iconst 0, 1) := by decide +kernel
theorem dL_segmentAt_2 : decode cL_segmentAt 2 = .ok (.aload_n 0, 1) := by decide +kernel
theorem dL_segmentAt_3 : decode cL_segmentAt 3 = .ok (.iload_n 1, 1) := by decide +kernel
theorem dL_segmentAt_4 : decode cL_segmentAt 4 = .ok (.invokevirtual 78, 3) := by decide +kernel
theorem dL_segmentAt_12 : decode cL_segmentAt 12 = .ok (.astore_n 3, 1) := by decide +kernel
theorem dL_segmentAt_13 : decode cL_segmentAt 13 = .ok (.iconst 1, 1) := by decide +kernel
theorem dL_segmentAt_14 : decode cL_segmentAt 14 = .ok (.ireturn, 1) := by decide +kernel
theorem dL_live_0 : decode cL_live 0 = .ok (.aload_n 2, 1) := by decide +kernel
theorem dL_live_1 : decode cL_live 1 = .ok (.iconst 0, 1) := by decide +kernel
theorem dL_live_2 : decode cL_live 2 = .ok (.aload_n 0, 1) := by decide +kernel
theorem dL_live_3 : decode cL_live 3 = .ok (.iload_n 1, 1) := by decide +kernel
theorem dL_live_4 : decode cL_live 4 = .ok (.invokevirtual 81, 3) := by decide +kernel
theorem dL_live_12 : decode cL_live 12 = .ok (.astore_n 3, 1) := by decide +kernel
theorem dL_live_13 : decode cL_live 13 = .ok (.iconst 1, 1) := by decide +kernel
theorem dL_live_14 : decode cL_live 14 = .ok (.ireturn, 1) := by decide +kernel
theorem dL_keyAt_0 : decode cL_keyAt 0 = .ok (.aload_n 3, 1) := by decide +kernel
theorem dL_keyAt_1 : decode cL_keyAt 1 = .ok (.iconst 0, 1) := by decide +kernel
theorem dL_keyAt_2 : decode cL_keyAt 2 = .ok (.aload_n 0, 1) := by decide +kernel
theorem dL_keyAt_3 : decode cL_keyAt 3 = .ok (.iload_n 1, 1) := by decide +kernel
theorem dL_keyAt_4 : decode cL_keyAt 4 = .ok (.iload_n 2, 1) := by decide +kernel
theorem dL_keyAt_5 : decode cL_keyAt 5 = .ok (.invokevirtual 84, 3) := by decide +kernel
theorem dL_keyAt_13 : decode cL_keyAt 13 = .ok (.astore 4, 2) := by decide +kernel
theorem dL_keyAt_15 : decode cL_keyAt 15 = .ok (.iconst 1, 1) := by decide +kernel
theorem dL_keyAt_16 : decode cL_keyAt 16 = .ok (.ireturn, 1) := by decide +kernel
theorem dL_words_0 : decode cL_words 0 = .ok (.aload_n 3, 1) := by decide +kernel
theorem dL_words_1 : decode cL_words 1 = .ok (.iconst 0, 1) := by decide +kernel
theorem dL_words_2 : decode cL_words 2 = .ok (.aload_n 0, 1) := by decide +kernel
theorem dL_words_3 : decode cL_words 3 = .ok (.iload_n 1, 1) := by decide +kernel
theorem dL_words_4 : decode cL_words 4 = .ok (.iload_n 2, 1) := by decide +kernel
theorem dL_words_5 : decode cL_words 5 = .ok (.invokevirtual 88, 3) := by decide +kernel
theorem dL_words_13 : decode cL_words 13 = .ok (.astore 4, 2) := by decide +kernel
theorem dL_words_15 : decode cL_words 15 = .ok (.iconst 1, 1) := by decide +kernel
theorem dL_words_16 : decode cL_words 16 = .ok (.ireturn, 1) := by decide +kernel
theorem dL_shared_0 : decode cL_shared 0 = .ok (.aload 4, 2) := by decide +kernel
theorem dL_shared_2 : decode cL_shared 2 = .ok (.iconst 0, 1) := by decide +kernel
theorem dL_shared_3 : decode cL_shared 3 = .ok (.aload_n 0, 1) := by decide +kernel
theorem dL_shared_4 : decode cL_shared 4 = .ok (.iload_n 1, 1) := by decide +kernel
theorem dL_shared_5 : decode cL_shared 5 = .ok (.iload_n 2, 1) := by decide +kernel
theorem dL_shared_6 : decode cL_shared 6 = .ok (.iload_n 3, 1) := by decide +kernel
theorem dL_shared_7 : decode cL_shared 7 = .ok (.invokevirtual 91, 3) := by decide +kernel
theorem dL_shared_15 : decode cL_shared 15 = .ok (.astore 5, 2) := by decide +kernel
theorem dL_shared_17 : decode cL_shared 17 = .ok (.iconst 1, 1) := by decide +kernel
theorem dL_shared_18 : decode cL_shared 18 = .ok (.ireturn, 1) := by decide +kernel
theorem dL_wordBytes_0 : decode cL_wordBytes 0 = .ok (.aload_n 3, 1) := by decide +kernel
theorem dL_wordBytes_1 : decode cL_wordBytes 1 = .ok (.iconst 0, 1) := by decide +kernel
theorem dL_wordBytes_2 : decode cL_wordBytes 2 = .ok (.aload_n 0, 1) := by decide +kernel
theorem dL_wordBytes_3 : decode cL_wordBytes 3 = .ok (.iload_n 1, 1) := by decide +kernel
theorem dL_wordBytes_4 : decode cL_wordBytes 4 = .ok (.iload_n 2, 1) := by decide +kernel
theorem dL_wordBytes_5 : decode cL_wordBytes 5 = .ok (.invokevirtual 95, 3) := by decide +kernel
theorem dL_wordBytes_13 : decode cL_wordBytes 13 = .ok (.astore 4, 2) := by decide +kernel
theorem dL_wordBytes_15 : decode cL_wordBytes 15 = .ok (.iconst 1, 1) := by decide +kernel
theorem dL_wordBytes_16 : decode cL_wordBytes 16 = .ok (.ireturn, 1) := by decide +kernel
theorem dL_signAt_0 : decode cL_signAt 0 = .ok (.aload 5, 2) := by decide +kernel
theorem dL_signAt_2 : decode cL_signAt 2 = .ok (.iconst 0, 1) := by decide +kernel
theorem dL_signAt_3 : decode cL_signAt 3 = .ok (.aload_n 0, 1) := by decide +kernel
theorem dL_signAt_4 : decode cL_signAt 4 = .ok (.iload_n 1, 1) := by decide +kernel
theorem dL_signAt_5 : decode cL_signAt 5 = .ok (.iload_n 2, 1) := by decide +kernel
theorem dL_signAt_6 : decode cL_signAt 6 = .ok (.iload_n 3, 1) := by decide +kernel
theorem dL_signAt_7 : decode cL_signAt 7 = .ok (.iload 4, 2) := by decide +kernel
theorem dL_signAt_9 : decode cL_signAt 9 = .ok (.invokevirtual 98, 3) := by decide +kernel
theorem dL_signAt_17 : decode cL_signAt 17 = .ok (.astore 6, 2) := by decide +kernel
theorem dL_signAt_19 : decode cL_signAt 19 = .ok (.iconst 1, 1) := by decide +kernel
theorem dL_signAt_20 : decode cL_signAt 20 = .ok (.ireturn, 1) := by decide +kernel
theorem dL_bytes_0 : decode cL_bytes 0 = .ok (.aload 4, 2) := by decide +kernel
theorem dL_bytes_2 : decode cL_bytes 2 = .ok (.iconst 0, 1) := by decide +kernel
theorem dL_bytes_3 : decode cL_bytes 3 = .ok (.aload_n 0, 1) := by decide +kernel
theorem dL_bytes_4 : decode cL_bytes 4 = .ok (.iload_n 1, 1) := by decide +kernel
theorem dL_bytes_5 : decode cL_bytes 5 = .ok (.iload_n 2, 1) := by decide +kernel
theorem dL_bytes_6 : decode cL_bytes 6 = .ok (.iload_n 3, 1) := by decide +kernel
theorem dL_bytes_7 : decode cL_bytes 7 = .ok (.invokevirtual 102, 3) := by decide +kernel
theorem dL_bytes_15 : decode cL_bytes 15 = .ok (.astore 5, 2) := by decide +kernel
theorem dL_bytes_17 : decode cL_bytes 17 = .ok (.iconst 1, 1) := by decide +kernel
theorem dL_bytes_18 : decode cL_bytes 18 = .ok (.ireturn, 1) := by decide +kernel
theorem dL_byteAt_0 : decode cL_byteAt 0 = .ok (.aload 5, 2) := by decide +kernel
theorem dL_byteAt_2 : decode cL_byteAt 2 = .ok (.iconst 0, 1) := by decide +kernel
theorem dL_byteAt_3 : decode cL_byteAt 3 = .ok (.aload_n 0, 1) := by decide +kernel
theorem dL_byteAt_4 : decode cL_byteAt 4 = .ok (.iload_n 1, 1) := by decide +kernel
theorem dL_byteAt_5 : decode cL_byteAt 5 = .ok (.iload_n 2, 1) := by decide +kernel
theorem dL_byteAt_6 : decode cL_byteAt 6 = .ok (.iload_n 3, 1) := by decide +kernel
theorem dL_byteAt_7 : decode cL_byteAt 7 = .ok (.iload 4, 2) := by decide +kernel
theorem dL_byteAt_9 : decode cL_byteAt 9 = .ok (.invokevirtual 105, 3) := by decide +kernel
theorem dL_byteAt_17 : decode cL_byteAt 17 = .ok (.astore 6, 2) := by decide +kernel
theorem dL_byteAt_19 : decode cL_byteAt 19 = .ok (.iconst 1, 1) := by decide +kernel
theorem dL_byteAt_20 : decode cL_byteAt 20 = .ok (.ireturn, 1) := by decide +kernel
theorem dL_look_0 : decode cL_look 0 = .ok (.aload_n 2, 1) := by decide +kernel
theorem dL_look_1 : decode cL_look 1 = .ok (.iconst 0, 1) := by decide +kernel
theorem dL_look_2 : decode cL_look 2 = .ok (.aload_n 0, 1) := by decide +kernel
theorem dL_look_3 : decode cL_look 3 = .ok (.iload_n 1, 1) := by decide +kernel
theorem dL_look_4 : decode cL_look 4 = .ok (.invokevirtual 109, 3) := by decide +kernel
theorem dL_look_7 : decode cL_look 7 = .ok (.i2l, 1) := by decide +kernel
theorem dL_look_8 : decode cL_look 8 = .ok (.lastore, 1) := by decide +kernel
theorem dL_look_9 : decode cL_look 9 = .ok (.goto 6, 3) := by decide +kernel
theorem dL_look_15 : decode cL_look 15 = .ok (.iconst 0, 1) := by decide +kernel
theorem dL_look_16 : decode cL_look 16 = .ok (.ireturn, 1) := by decide +kernel
theorem dL_shut_0 : decode cL_shut 0 = .ok (.aload_n 2, 1) := by decide +kernel
theorem dL_shut_1 : decode cL_shut 1 = .ok (.iconst 0, 1) := by decide +kernel
theorem dL_shut_2 : decode cL_shut 2 = .ok (.aload_n 0, 1) := by decide +kernel
theorem dL_shut_3 : decode cL_shut 3 = .ok (.iload_n 1, 1) := by decide +kernel
theorem dL_shut_4 : decode cL_shut 4 = .ok (.invokevirtual 113, 3) := by decide +kernel
theorem dL_shut_12 : decode cL_shut 12 = .ok (.astore_n 3, 1) := by decide +kernel
theorem dL_shut_13 : decode cL_shut 13 = .ok (.iconst 1, 1) := by decide +kernel
theorem dL_shut_14 : decode cL_shut 14 = .ok (.ireturn, 1) := by decide +kernel
theorem dL_documents_0 : decode cL_documents 0 = .ok (.aload_n 2, 1) := by decide +kernel
theorem dL_documents_1 : decode cL_documents 1 = .ok (.iconst 0, 1) := by decide +kernel
theorem dL_documents_2 : decode cL_documents 2 = .ok (.aload_n 0, 1) := by decide +kernel
theorem dL_documents_3 : decode cL_documents 3 = .ok (.iload_n 1, 1) := by decide +kernel
theorem dL_documents_4 : decode cL_documents 4 = .ok (.invokevirtual 116, 3) := by decide +kernel
theorem dL_documents_12 : decode cL_documents 12 = .ok (.astore_n 3, 1) := by decide +kernel
theorem dL_documents_13 : decode cL_documents 13 = .ok (.iconst 1, 1) := by decide +kernel
theorem dL_documents_14 : decode cL_documents 14 = .ok (.ireturn, 1) := by decide +kernel
theorem dL_term_0 : decode cL_term 0 = .ok (.aload_n 2, 1) := by decide +kernel
theorem dL_term_1 : decode cL_term 1 = .ok (.iconst 0, 1) := by decide +kernel
theorem dL_term_2 : decode cL_term 2 = .ok (.aload_n 0, 1) := by decide +kernel
theorem dL_term_3 : decode cL_term 3 = .ok (.iload_n 1, 1) := by decide +kernel
theorem dL_term_4 : decode cL_term 4 = .ok (.invokevirtual 119, 3) := by decide +kernel
theorem dL_term_12 : decode cL_term 12 = .ok (.astore_n 3, 1) := by decide +kernel
theorem dL_term_13 : decode cL_term 13 = .ok (.iconst 1, 1) := by decide +kernel
theorem dL_term_14 : decode cL_term 14 = .ok (.ireturn, 1) := by decide +kernel
theorem dL_term_15 : decode cL_term 15 = .ok (.astore_n 3, 1) := by decide +kernel
theorem dL_term_16 : decode cL_term 16 = .ok (.iconst 2, 1) := by decide +kernel
theorem dL_term_17 : decode cL_term 17 = .ok (.ireturn, 1) := by decide +kernel
theorem dL_phrase_0 : decode cL_phrase 0 = .ok (.aload_n 3, 1) := by decide +kernel
theorem dL_phrase_1 : decode cL_phrase 1 = .ok (.iconst 0, 1) := by decide +kernel
theorem dL_phrase_2 : decode cL_phrase 2 = .ok (.aload_n 0, 1) := by decide +kernel
theorem dL_phrase_3 : decode cL_phrase 3 = .ok (.iload_n 1, 1) := by decide +kernel
theorem dL_phrase_4 : decode cL_phrase 4 = .ok (.iload_n 2, 1) := by decide +kernel
theorem dL_phrase_5 : decode cL_phrase 5 = .ok (.invokevirtual 122, 3) := by decide +kernel
theorem dL_phrase_13 : decode cL_phrase 13 = .ok (.astore 4, 2) := by decide +kernel
theorem dL_phrase_15 : decode cL_phrase 15 = .ok (.iconst 1, 1) := by decide +kernel
theorem dL_phrase_16 : decode cL_phrase 16 = .ok (.ireturn, 1) := by decide +kernel
theorem dL_phrase_17 : decode cL_phrase 17 = .ok (.astore 4, 2) := by decide +kernel
theorem dL_phrase_19 : decode cL_phrase 19 = .ok (.iconst 2, 1) := by decide +kernel
theorem dL_phrase_20 : decode cL_phrase 20 = .ok (.ireturn, 1) := by decide +kernel
theorem dL_phrase_21 : decode cL_phrase 21 = .ok (.astore 4, 2) := by decide +kernel
theorem dL_phrase_23 : decode cL_phrase 23 = .ok (.iconst 3, 1) := by decide +kernel
theorem dL_phrase_24 : decode cL_phrase 24 = .ok (.ireturn, 1) := by decide +kernel
theorem dL_near_0 : decode cL_near 0 = .ok (.aload 4, 2) := by decide +kernel
theorem dL_near_2 : decode cL_near 2 = .ok (.iconst 0, 1) := by decide +kernel
theorem dL_near_3 : decode cL_near 3 = .ok (.aload_n 0, 1) := by decide +kernel
theorem dL_near_4 : decode cL_near 4 = .ok (.iload_n 1, 1) := by decide +kernel
theorem dL_near_5 : decode cL_near 5 = .ok (.iload_n 2, 1) := by decide +kernel
theorem dL_near_6 : decode cL_near 6 = .ok (.iload_n 3, 1) := by decide +kernel
theorem dL_near_7 : decode cL_near 7 = .ok (.invokevirtual 125, 3) := by decide +kernel
theorem dL_near_15 : decode cL_near 15 = .ok (.astore 5, 2) := by decide +kernel
theorem dL_near_17 : decode cL_near 17 = .ok (.iconst 1, 1) := by decide +kernel
theorem dL_near_18 : decode cL_near 18 = .ok (.ireturn, 1) := by decide +kernel
theorem dL_near_19 : decode cL_near 19 = .ok (.astore 5, 2) := by decide +kernel
theorem dL_near_21 : decode cL_near 21 = .ok (.iconst 2, 1) := by decide +kernel
theorem dL_near_22 : decode cL_near 22 = .ok (.ireturn, 1) := by decide +kernel
theorem dL_near_23 : decode cL_near 23 = .ok (.astore 5, 2) := by decide +kernel
theorem dL_near_25 : decode cL_near 25 = .ok (.iconst 3, 1) := by decide +kernel
theorem dL_near_26 : decode cL_near 26 = .ok (.ireturn, 1) := by decide +kernel
theorem dL_prefix_0 : decode cL_prefix 0 = .ok (.aload_n 2, 1) := by decide +kernel
theorem dL_prefix_1 : decode cL_prefix 1 = .ok (.iconst 0, 1) := by decide +kernel
theorem dL_prefix_2 : decode cL_prefix 2 = .ok (.aload_n 0, 1) := by decide +kernel
theorem dL_prefix_3 : decode cL_prefix 3 = .ok (.iload_n 1, 1) := by decide +kernel
theorem dL_prefix_4 : decode cL_prefix 4 = .ok (.invokevirtual 129, 3) := by decide +kernel
theorem dL_prefix_12 : decode cL_prefix 12 = .ok (.astore_n 3, 1) := by decide +kernel
theorem dL_prefix_13 : decode cL_prefix 13 = .ok (.iconst 1, 1) := by decide +kernel
theorem dL_prefix_14 : decode cL_prefix 14 = .ok (.ireturn, 1) := by decide +kernel
theorem dL_prefix_15 : decode cL_prefix 15 = .ok (.astore_n 3, 1) := by decide +kernel
theorem dL_prefix_16 : decode cL_prefix 16 = .ok (.iconst 2, 1) := by decide +kernel
theorem dL_prefix_17 : decode cL_prefix 17 = .ok (.ireturn, 1) := by decide +kernel
theorem dL_wild_0 : decode cL_wild 0 = .ok (.aload_n 2, 1) := by decide +kernel
theorem dL_wild_1 : decode cL_wild 1 = .ok (.iconst 0, 1) := by decide +kernel
theorem dL_wild_2 : decode cL_wild 2 = .ok (.aload_n 0, 1) := by decide +kernel
theorem dL_wild_3 : decode cL_wild 3 = .ok (.iload_n 1, 1) := by decide +kernel
theorem dL_wild_4 : decode cL_wild 4 = .ok (.invokevirtual 132, 3) := by decide +kernel
theorem dL_wild_12 : decode cL_wild 12 = .ok (.astore_n 3, 1) := by decide +kernel
theorem dL_wild_13 : decode cL_wild 13 = .ok (.iconst 1, 1) := by decide +kernel
theorem dL_wild_14 : decode cL_wild 14 = .ok (.ireturn, 1) := by decide +kernel
theorem dL_wild_15 : decode cL_wild 15 = .ok (.astore_n 3, 1) := by decide +kernel
theorem dL_wild_16 : decode cL_wild 16 = .ok (.iconst 2, 1) := by decide +kernel
theorem dL_wild_17 : decode cL_wild 17 = .ok (.ireturn, 1) := by decide +kernel
theorem dL_fuzzy_0 : decode cL_fuzzy 0 = .ok (.aload_n 3, 1) := by decide +kernel
theorem dL_fuzzy_1 : decode cL_fuzzy 1 = .ok (.iconst 0, 1) := by decide +kernel
theorem dL_fuzzy_2 : decode cL_fuzzy 2 = .ok (.aload_n 0, 1) := by decide +kernel
theorem dL_fuzzy_3 : decode cL_fuzzy 3 = .ok (.iload_n 1, 1) := by decide +kernel
theorem dL_fuzzy_4 : decode cL_fuzzy 4 = .ok (.iload_n 2, 1) := by decide +kernel
theorem dL_fuzzy_5 : decode cL_fuzzy 5 = .ok (.invokevirtual 135, 3) := by decide +kernel
theorem dL_fuzzy_13 : decode cL_fuzzy 13 = .ok (.astore 4, 2) := by decide +kernel
theorem dL_fuzzy_15 : decode cL_fuzzy 15 = .ok (.iconst 1, 1) := by decide +kernel
theorem dL_fuzzy_16 : decode cL_fuzzy 16 = .ok (.ireturn, 1) := by decide +kernel
theorem dL_fuzzy_17 : decode cL_fuzzy 17 = .ok (.astore 4, 2) := by decide +kernel
theorem dL_fuzzy_19 : decode cL_fuzzy 19 = .ok (.iconst 2, 1) := by decide +kernel
theorem dL_fuzzy_20 : decode cL_fuzzy 20 = .ok (.ireturn, 1) := by decide +kernel
theorem dL_fuzzy_21 : decode cL_fuzzy 21 = .ok (.astore 4, 2) := by decide +kernel
theorem dL_fuzzy_23 : decode cL_fuzzy 23 = .ok (.iconst 3, 1) := by decide +kernel
theorem dL_fuzzy_24 : decode cL_fuzzy 24 = .ok (.ireturn, 1) := by decide +kernel
theorem dL_least_0 : decode cL_least 0 = .ok (.aload_n 3, 1) := by decide +kernel
theorem dL_least_1 : decode cL_least 1 = .ok (.iconst 0, 1) := by decide +kernel
theorem dL_least_2 : decode cL_least 2 = .ok (.aload_n 0, 1) := by decide +kernel
theorem dL_least_3 : decode cL_least 3 = .ok (.iload_n 1, 1) := by decide +kernel
theorem dL_least_4 : decode cL_least 4 = .ok (.iload_n 2, 1) := by decide +kernel
theorem dL_least_5 : decode cL_least 5 = .ok (.invokevirtual 138, 3) := by decide +kernel
theorem dL_least_13 : decode cL_least 13 = .ok (.astore 4, 2) := by decide +kernel
theorem dL_least_15 : decode cL_least 15 = .ok (.iconst 1, 1) := by decide +kernel
theorem dL_least_16 : decode cL_least 16 = .ok (.ireturn, 1) := by decide +kernel
theorem dL_least_17 : decode cL_least 17 = .ok (.astore 4, 2) := by decide +kernel
theorem dL_least_19 : decode cL_least 19 = .ok (.iconst 2, 1) := by decide +kernel
theorem dL_least_20 : decode cL_least 20 = .ok (.ireturn, 1) := by decide +kernel
theorem dL_but_0 : decode cL_but 0 = .ok (.aload_n 1, 1) := by decide +kernel
theorem dL_but_1 : decode cL_but 1 = .ok (.iconst 0, 1) := by decide +kernel
theorem dL_but_2 : decode cL_but 2 = .ok (.aload_n 0, 1) := by decide +kernel
theorem dL_but_3 : decode cL_but 3 = .ok (.invokevirtual 141, 3) := by decide +kernel
theorem dL_but_11 : decode cL_but 11 = .ok (.astore_n 2, 1) := by decide +kernel
theorem dL_but_12 : decode cL_but 12 = .ok (.iconst 1, 1) := by decide +kernel
theorem dL_but_13 : decode cL_but 13 = .ok (.ireturn, 1) := by decide +kernel
theorem dL_query_0 : decode cL_query 0 = .ok (.aload_n 1, 1) := by decide +kernel
theorem dL_query_1 : decode cL_query 1 = .ok (.iconst 0, 1) := by decide +kernel
theorem dL_query_2 : decode cL_query 2 = .ok (.aload_n 0, 1) := by decide +kernel
theorem dL_query_3 : decode cL_query 3 = .ok (.invokevirtual 144, 3) := by decide +kernel
theorem dL_query_11 : decode cL_query 11 = .ok (.astore_n 2, 1) := by decide +kernel
theorem dL_query_12 : decode cL_query 12 = .ok (.iconst 1, 1) := by decide +kernel
theorem dL_query_13 : decode cL_query 13 = .ok (.ireturn, 1) := by decide +kernel
theorem dL_weigh_0 : decode cL_weigh 0 = .ok (.aload_n 3, 1) := by decide +kernel
theorem dL_weigh_1 : decode cL_weigh 1 = .ok (.iconst 0, 1) := by decide +kernel
theorem dL_weigh_2 : decode cL_weigh 2 = .ok (.aload_n 0, 1) := by decide +kernel
theorem dL_weigh_3 : decode cL_weigh 3 = .ok (.iload_n 1, 1) := by decide +kernel
theorem dL_weigh_4 : decode cL_weigh 4 = .ok (.iload_n 2, 1) := by decide +kernel
theorem dL_weigh_5 : decode cL_weigh 5 = .ok (.invokevirtual 147, 3) := by decide +kernel
theorem dL_weigh_8 : decode cL_weigh 8 = .ok (.i2l, 1) := by decide +kernel
theorem dL_weigh_9 : decode cL_weigh 9 = .ok (.lastore, 1) := by decide +kernel
theorem dL_weigh_10 : decode cL_weigh 10 = .ok (.goto 11, 3) := by decide +kernel
theorem dL_weigh_13 : decode cL_weigh 13 = .ok (.astore 4, 2) := by decide +kernel
theorem dL_weigh_15 : decode cL_weigh 15 = .ok (.iconst 1, 1) := by decide +kernel
theorem dL_weigh_16 : decode cL_weigh 16 = .ok (.ireturn, 1) := by decide +kernel
theorem dL_weigh_17 : decode cL_weigh 17 = .ok (.astore 4, 2) := by decide +kernel
theorem dL_weigh_19 : decode cL_weigh 19 = .ok (.iconst 2, 1) := by decide +kernel
theorem dL_weigh_20 : decode cL_weigh 20 = .ok (.ireturn, 1) := by decide +kernel
theorem dL_weigh_21 : decode cL_weigh 21 = .ok (.iconst 0, 1) := by decide +kernel
theorem dL_weigh_22 : decode cL_weigh 22 = .ok (.ireturn, 1) := by decide +kernel
theorem dL_find_0 : decode cL_find 0 = .ok (.aload 4, 2) := by decide +kernel
theorem dL_find_2 : decode cL_find 2 = .ok (.iconst 0, 1) := by decide +kernel
theorem dL_find_3 : decode cL_find 3 = .ok (.aload_n 0, 1) := by decide +kernel
theorem dL_find_4 : decode cL_find 4 = .ok (.iload_n 1, 1) := by decide +kernel
theorem dL_find_5 : decode cL_find 5 = .ok (.iload_n 2, 1) := by decide +kernel
theorem dL_find_6 : decode cL_find 6 = .ok (.iload_n 3, 1) := by decide +kernel
theorem dL_find_7 : decode cL_find 7 = .ok (.invokevirtual 150, 3) := by decide +kernel
theorem dL_find_15 : decode cL_find 15 = .ok (.astore 5, 2) := by decide +kernel
theorem dL_find_17 : decode cL_find 17 = .ok (.iconst 1, 1) := by decide +kernel
theorem dL_find_18 : decode cL_find 18 = .ok (.ireturn, 1) := by decide +kernel
theorem dL_hitAt_0 : decode cL_hitAt 0 = .ok (.aload_n 2, 1) := by decide +kernel
theorem dL_hitAt_1 : decode cL_hitAt 1 = .ok (.iconst 0, 1) := by decide +kernel
theorem dL_hitAt_2 : decode cL_hitAt 2 = .ok (.aload_n 0, 1) := by decide +kernel
theorem dL_hitAt_3 : decode cL_hitAt 3 = .ok (.iload_n 1, 1) := by decide +kernel
theorem dL_hitAt_4 : decode cL_hitAt 4 = .ok (.invokevirtual 153, 3) := by decide +kernel
theorem dL_hitAt_12 : decode cL_hitAt 12 = .ok (.astore_n 3, 1) := by decide +kernel
theorem dL_hitAt_13 : decode cL_hitAt 13 = .ok (.iconst 1, 1) := by decide +kernel
theorem dL_hitAt_14 : decode cL_hitAt 14 = .ok (.ireturn, 1) := by decide +kernel
theorem dL_rankAt_0 : decode cL_rankAt 0 = .ok (.aload_n 2, 1) := by decide +kernel
theorem dL_rankAt_1 : decode cL_rankAt 1 = .ok (.iconst 0, 1) := by decide +kernel
theorem dL_rankAt_2 : decode cL_rankAt 2 = .ok (.aload_n 0, 1) := by decide +kernel
theorem dL_rankAt_3 : decode cL_rankAt 3 = .ok (.iload_n 1, 1) := by decide +kernel
theorem dL_rankAt_4 : decode cL_rankAt 4 = .ok (.invokevirtual 156, 3) := by decide +kernel
theorem dL_rankAt_12 : decode cL_rankAt 12 = .ok (.astore_n 3, 1) := by decide +kernel
theorem dL_rankAt_13 : decode cL_rankAt 13 = .ok (.iconst 1, 1) := by decide +kernel
theorem dL_rankAt_14 : decode cL_rankAt 14 = .ok (.ireturn, 1) := by decide +kernel
theorem dL_rankByScan_0 : decode cL_rankByScan 0 = .ok (.aload 4, 2) := by decide +kernel
theorem dL_rankByScan_2 : decode cL_rankByScan 2 = .ok (.iconst 0, 1) := by decide +kernel
theorem dL_rankByScan_3 : decode cL_rankByScan 3 = .ok (.aload_n 0, 1) := by decide +kernel
theorem dL_rankByScan_4 : decode cL_rankByScan 4 = .ok (.iload_n 1, 1) := by decide +kernel
theorem dL_rankByScan_5 : decode cL_rankByScan 5 = .ok (.iload_n 2, 1) := by decide +kernel
theorem dL_rankByScan_6 : decode cL_rankByScan 6 = .ok (.iload_n 3, 1) := by decide +kernel
theorem dL_rankByScan_7 : decode cL_rankByScan 7 = .ok (.invokevirtual 159, 3) := by decide +kernel
theorem dL_rankByScan_15 : decode cL_rankByScan 15 = .ok (.astore 5, 2) := by decide +kernel
theorem dL_rankByScan_17 : decode cL_rankByScan 17 = .ok (.iconst 1, 1) := by decide +kernel
theorem dL_rankByScan_18 : decode cL_rankByScan 18 = .ok (.ireturn, 1) := by decide +kernel
theorem dL_matches_0 : decode cL_matches 0 = .ok (.aload_n 3, 1) := by decide +kernel
theorem dL_matches_1 : decode cL_matches 1 = .ok (.iconst 0, 1) := by decide +kernel
theorem dL_matches_2 : decode cL_matches 2 = .ok (.aload_n 0, 1) := by decide +kernel
theorem dL_matches_3 : decode cL_matches 3 = .ok (.iload_n 1, 1) := by decide +kernel
theorem dL_matches_4 : decode cL_matches 4 = .ok (.iload_n 2, 1) := by decide +kernel
theorem dL_matches_5 : decode cL_matches 5 = .ok (.invokevirtual 162, 3) := by decide +kernel
theorem dL_matches_13 : decode cL_matches 13 = .ok (.astore 4, 2) := by decide +kernel
theorem dL_matches_15 : decode cL_matches 15 = .ok (.iconst 1, 1) := by decide +kernel
theorem dL_matches_16 : decode cL_matches 16 = .ok (.ireturn, 1) := by decide +kernel
theorem dL_matchesByScan_0 : decode cL_matchesByScan 0 = .ok (.aload_n 3, 1) := by decide +kernel
theorem dL_matchesByScan_1 : decode cL_matchesByScan 1 = .ok (.iconst 0, 1) := by decide +kernel
theorem dL_matchesByScan_2 : decode cL_matchesByScan 2 = .ok (.aload_n 0, 1) := by decide +kernel
theorem dL_matchesByScan_3 : decode cL_matchesByScan 3 = .ok (.iload_n 1, 1) := by decide +kernel
theorem dL_matchesByScan_4 : decode cL_matchesByScan 4 = .ok (.iload_n 2, 1) := by decide +kernel
theorem dL_matchesByScan_5 : decode cL_matchesByScan 5 = .ok (.invokevirtual 165, 3) := by decide +kernel
theorem dL_matchesByScan_13 : decode cL_matchesByScan 13 = .ok (.astore 4, 2) := by decide +kernel
theorem dL_matchesByScan_15 : decode cL_matchesByScan 15 = .ok (.iconst 1, 1) := by decide +kernel
theorem dL_matchesByScan_16 : decode cL_matchesByScan 16 = .ok (.ireturn, 1) := by decide +kernel
theorem dL_facet_0 : decode cL_facet 0 = .ok (.aload 4, 2) := by decide +kernel
theorem dL_facet_2 : decode cL_facet 2 = .ok (.iconst 0, 1) := by decide +kernel
theorem dL_facet_3 : decode cL_facet 3 = .ok (.aload_n 0, 1) := by decide +kernel
theorem dL_facet_4 : decode cL_facet 4 = .ok (.iload_n 1, 1) := by decide +kernel
theorem dL_facet_5 : decode cL_facet 5 = .ok (.iload_n 2, 1) := by decide +kernel
theorem dL_facet_6 : decode cL_facet 6 = .ok (.iload_n 3, 1) := by decide +kernel
theorem dL_facet_7 : decode cL_facet 7 = .ok (.invokevirtual 168, 3) := by decide +kernel
theorem dL_facet_15 : decode cL_facet 15 = .ok (.astore 5, 2) := by decide +kernel
theorem dL_facet_17 : decode cL_facet 17 = .ok (.iconst 1, 1) := by decide +kernel
theorem dL_facet_18 : decode cL_facet 18 = .ok (.ireturn, 1) := by decide +kernel
theorem dL_sortedAt_0 : decode cL_sortedAt 0 = .ok (.aload 5, 2) := by decide +kernel
theorem dL_sortedAt_2 : decode cL_sortedAt 2 = .ok (.iconst 0, 1) := by decide +kernel
theorem dL_sortedAt_3 : decode cL_sortedAt 3 = .ok (.aload_n 0, 1) := by decide +kernel
theorem dL_sortedAt_4 : decode cL_sortedAt 4 = .ok (.iload_n 1, 1) := by decide +kernel
theorem dL_sortedAt_5 : decode cL_sortedAt 5 = .ok (.iload_n 2, 1) := by decide +kernel
theorem dL_sortedAt_6 : decode cL_sortedAt 6 = .ok (.iload_n 3, 1) := by decide +kernel
theorem dL_sortedAt_7 : decode cL_sortedAt 7 = .ok (.iload 4, 2) := by decide +kernel
theorem dL_sortedAt_9 : decode cL_sortedAt 9 = .ok (.invokevirtual 171, 3) := by decide +kernel
theorem dL_sortedAt_17 : decode cL_sortedAt 17 = .ok (.astore 6, 2) := by decide +kernel
theorem dL_sortedAt_19 : decode cL_sortedAt 19 = .ok (.iconst 1, 1) := by decide +kernel
theorem dL_sortedAt_20 : decode cL_sortedAt 20 = .ok (.ireturn, 1) := by decide +kernel
theorem dL_passages_0 : decode cL_passages 0 = .ok (.aload 5, 2) := by decide +kernel
theorem dL_passages_2 : decode cL_passages 2 = .ok (.iconst 0, 1) := by decide +kernel
theorem dL_passages_3 : decode cL_passages 3 = .ok (.aload_n 0, 1) := by decide +kernel
theorem dL_passages_4 : decode cL_passages 4 = .ok (.iload_n 1, 1) := by decide +kernel
theorem dL_passages_5 : decode cL_passages 5 = .ok (.iload_n 2, 1) := by decide +kernel
theorem dL_passages_6 : decode cL_passages 6 = .ok (.iload_n 3, 1) := by decide +kernel
theorem dL_passages_7 : decode cL_passages 7 = .ok (.iload 4, 2) := by decide +kernel
theorem dL_passages_9 : decode cL_passages 9 = .ok (.invokevirtual 175, 3) := by decide +kernel
theorem dL_passages_17 : decode cL_passages 17 = .ok (.astore 6, 2) := by decide +kernel
theorem dL_passages_19 : decode cL_passages 19 = .ok (.iconst 1, 1) := by decide +kernel
theorem dL_passages_20 : decode cL_passages 20 = .ok (.ireturn, 1) := by decide +kernel
theorem dL_passageAt_0 : decode cL_passageAt 0 = .ok (.aload 6, 2) := by decide +kernel
theorem dL_passageAt_2 : decode cL_passageAt 2 = .ok (.iconst 0, 1) := by decide +kernel
theorem dL_passageAt_3 : decode cL_passageAt 3 = .ok (.aload_n 0, 1) := by decide +kernel
theorem dL_passageAt_4 : decode cL_passageAt 4 = .ok (.iload_n 1, 1) := by decide +kernel
theorem dL_passageAt_5 : decode cL_passageAt 5 = .ok (.iload_n 2, 1) := by decide +kernel
theorem dL_passageAt_6 : decode cL_passageAt 6 = .ok (.iload_n 3, 1) := by decide +kernel
theorem dL_passageAt_7 : decode cL_passageAt 7 = .ok (.iload 4, 2) := by decide +kernel
theorem dL_passageAt_9 : decode cL_passageAt 9 = .ok (.iload 5, 2) := by decide +kernel
theorem dL_passageAt_11 : decode cL_passageAt 11 = .ok (.invokevirtual 178, 3) := by decide +kernel
theorem dL_passageAt_19 : decode cL_passageAt 19 = .ok (.astore 7, 2) := by decide +kernel
theorem dL_passageAt_21 : decode cL_passageAt 21 = .ok (.iconst 1, 1) := by decide +kernel
theorem dL_passageAt_22 : decode cL_passageAt 22 = .ok (.ireturn, 1) := by decide +kernel
