theorem dL_type_8 : decode cL_type 8 = .ok (.lastore, 1) := by decide +kernel
theorem dL_type_9 : decode cL_type 9 = .ok (.goto 9, 3) := by decide +kernel
theorem dL_type_12 : decode cL_type 12 = .ok (.astore_n 3, 1) := by decide +kernel
theorem dL_type_13 : decode cL_type 13 = .ok (.iconst 1, 1) := by decide +kernel
theorem dL_type_14 : decode cL_type 14 = .ok (.ireturn, 1) := by decide +kernel
theorem dL_type_15 : decode cL_type 15 = .ok (.astore_n 3, 1) := by decide +kernel
theorem dL_type_16 : decode cL_type 16 = .ok (.iconst 2, 1) := by decide +kernel
theorem dL_type_17 : decode cL_type 17 = .ok (.ireturn, 1) := by decide +kernel
theorem dL_type_18 : decode cL_type 18 = .ok (.iconst 0, 1) := by decide +kernel
theorem dL_type_19 : decode cL_type 19 = .ok (.ireturn, 1) := by decide +kernel
theorem dL_stop_0 : decode cL_stop 0 = .ok (.aload_n 1, 1) := by decide +kernel
theorem dL_stop_1 : decode cL_stop 1 = .ok (.iconst 0, 1) := by decide +kernel
theorem dL_stop_2 : decode cL_stop 2 = .ok (.aload_n 0, 1) := by decide +kernel
theorem dL_stop_3 : decode cL_stop 3 = .ok (.invokevirtual 17, 3) := by decide +kernel
theorem dL_stop_6 : decode cL_stop 6 = .ok (.i2l, 1) := by decide +kernel
theorem dL_stop_7 : decode cL_stop 7 = .ok (.lastore, 1) := by decide +kernel
theorem dL_stop_8 : decode cL_stop 8 = .ok (.goto 6, 3) := by decide +kernel
theorem dL_stop_11 : decode cL_stop 11 = .ok (.astore_n 2, 1) := by decide +kernel
theorem dL_stop_12 : decode cL_stop 12 = .ok (.iconst 1, 1) := by decide +kernel
theorem dL_stop_13 : decode cL_stop 13 = .ok (.ireturn, 1) := by decide +kernel
theorem dL_stop_14 : decode cL_stop 14 = .ok (.iconst 0, 1) := by decide +kernel
theorem dL_stop_15 : decode cL_stop 15 = .ok (.ireturn, 1) := by decide +kernel
theorem dL_synonym_0 : decode cL_synonym 0 = .ok (.aload_n 1, 1) := by decide +kernel
theorem dL_synonym_1 : decode cL_synonym 1 = .ok (.iconst 0, 1) := by decide +kernel
theorem dL_synonym_2 : decode cL_synonym 2 = .ok (.aload_n 0, 1) := by decide +kernel
theorem dL_synonym_3 : decode cL_synonym 3 = .ok (.invokevirtual 21, 3) := by decide +kernel
theorem dL_synonym_6 : decode cL_synonym 6 = .ok (.i2l, 1) := by decide +kernel
theorem dL_synonym_7 : decode cL_synonym 7 = .ok (.lastore, 1) := by decide +kernel
theorem dL_synonym_8 : decode cL_synonym 8 = .ok (.goto 6, 3) := by decide +kernel
theorem dL_synonym_11 : decode cL_synonym 11 = .ok (.astore_n 2, 1) := by decide +kernel
theorem dL_synonym_12 : decode cL_synonym 12 = .ok (.iconst 1, 1) := by decide +kernel
theorem dL_synonym_13 : decode cL_synonym 13 = .ok (.ireturn, 1) := by decide +kernel
theorem dL_synonym_14 : decode cL_synonym 14 = .ok (.iconst 0, 1) := by decide +kernel
theorem dL_synonym_15 : decode cL_synonym 15 = .ok (.ireturn, 1) := by decide +kernel
theorem dL_text_0 : decode cL_text 0 = .ok (.aload_n 2, 1) := by decide +kernel
theorem dL_text_1 : decode cL_text 1 = .ok (.iconst 0, 1) := by decide +kernel
theorem dL_text_2 : decode cL_text 2 = .ok (.aload_n 0, 1) := by decide +kernel
theorem dL_text_3 : decode cL_text 3 = .ok (.iload_n 1, 1) := by decide +kernel
theorem dL_text_4 : decode cL_text 4 = .ok (.invokevirtual 24, 3) := by decide +kernel
theorem dL_text_7 : decode cL_text 7 = .ok (.i2l, 1) := by decide +kernel
theorem dL_text_8 : decode cL_text 8 = .ok (.lastore, 1) := by decide +kernel
theorem dL_text_9 : decode cL_text 9 = .ok (.goto 6, 3) := by decide +kernel
theorem dL_text_12 : decode cL_text 12 = .ok (.astore_n 3, 1) := by decide +kernel
theorem dL_text_13 : decode cL_text 13 = .ok (.iconst 1, 1) := by decide +kernel
theorem dL_text_14 : decode cL_text 14 = .ok (.ireturn, 1) := by decide +kernel
theorem dL_text_15 : decode cL_text 15 = .ok (.iconst 0, 1) := by decide +kernel
theorem dL_text_16 : decode cL_text 16 = .ok (.ireturn, 1) := by decide +kernel
theorem dL_columns_0 : decode cL_columns 0 = .ok (.aload_n 0, 1) := by decide +kernel
theorem dL_columns_1 : decode cL_columns 1 = .ok (.iload_n 1, 1) := by decide +kernel
theorem dL_columns_2 : decode cL_columns 2 = .ok (.iload_n 2, 1) := by decide +kernel
theorem dL_columns_3 : decode cL_columns 3 = .ok (.invokevirtual 30, 3) := by decide +kernel
theorem dL_columns_6 : decode cL_columns 6 = .ok (.goto 6, 3) := by decide +kernel
theorem dL_columns_9 : decode cL_columns 9 = .ok (.astore_n 3, 1) := by decide +kernel
theorem dL_columns_10 : decode cL_columns 10 = .ok (.iconst 1, 1) := by decide +kernel
theorem dL_columns_11 : decode cL_columns 11 = .ok (.ireturn, 1) := by decide +kernel
theorem dL_columns_12 : decode cL_columns 12 = .ok (.iconst 0, 1) := by decide +kernel
theorem dL_columns_13 : decode cL_columns 13 = .ok (.ireturn, 1) := by decide +kernel
theorem dL_add_0 : decode cL_add 0 = .ok (.aload_n 2, 1) := by decide +kernel
theorem dL_add_1 : decode cL_add 1 = .ok (.iconst 0, 1) := by decide +kernel
theorem dL_add_2 : decode cL_add 2 = .ok (.aload_n 0, 1) := by decide +kernel
theorem dL_add_3 : decode cL_add 3 = .ok (.iload_n 1, 1) := by decide +kernel
theorem dL_add_4 : decode cL_add 4 = .ok (.invokevirtual 34, 3) := by decide +kernel
theorem dL_add_7 : decode cL_add 7 = .ok (.i2l, 1) := by decide +kernel
theorem dL_add_8 : decode cL_add 8 = .ok (.lastore, 1) := by decide +kernel
theorem dL_add_9 : decode cL_add 9 = .ok (.goto 9, 3) := by decide +kernel
theorem dL_add_12 : decode cL_add 12 = .ok (.astore_n 3, 1) := by decide +kernel
theorem dL_add_13 : decode cL_add 13 = .ok (.iconst 1, 1) := by decide +kernel
theorem dL_add_14 : decode cL_add 14 = .ok (.ireturn, 1) := by decide +kernel
theorem dL_add_15 : decode cL_add 15 = .ok (.astore_n 3, 1) := by decide +kernel
theorem dL_add_16 : decode cL_add 16 = .ok (.iconst 2, 1) := by decide +kernel
theorem dL_add_17 : decode cL_add 17 = .ok (.ireturn, 1) := by decide +kernel
theorem dL_add_18 : decode cL_add 18 = .ok (.iconst 0, 1) := by decide +kernel
theorem dL_add_19 : decode cL_add 19 = .ok (.ireturn, 1) := by decide +kernel
theorem dL_delete_0 : decode cL_delete 0 = .ok (.aload_n 2, 1) := by decide +kernel
theorem dL_delete_1 : decode cL_delete 1 = .ok (.iconst 0, 1) := by decide +kernel
theorem dL_delete_2 : decode cL_delete 2 = .ok (.aload_n 0, 1) := by decide +kernel
theorem dL_delete_3 : decode cL_delete 3 = .ok (.iload_n 1, 1) := by decide +kernel
theorem dL_delete_4 : decode cL_delete 4 = .ok (.invokevirtual 37, 3) := by decide +kernel
theorem dL_delete_7 : decode cL_delete 7 = .ok (.ifCond .eq 7, 3) := by decide +kernel
theorem dL_delete_10 : decode cL_delete 10 = .ok (.lconst 1, 1) := by decide +kernel
theorem dL_delete_11 : decode cL_delete 11 = .ok (.goto 4, 3) := by decide +kernel
theorem dL_delete_14 : decode cL_delete 14 = .ok (.lconst 0, 1) := by decide +kernel
theorem dL_delete_15 : decode cL_delete 15 = .ok (.lastore, 1) := by decide +kernel
theorem dL_delete_16 : decode cL_delete 16 = .ok (.goto 9, 3) := by decide +kernel
theorem dL_delete_19 : decode cL_delete 19 = .ok (.astore_n 3, 1) := by decide +kernel
theorem dL_delete_20 : decode cL_delete 20 = .ok (.iconst 1, 1) := by decide +kernel
theorem dL_delete_21 : decode cL_delete 21 = .ok (.ireturn, 1) := by decide +kernel
theorem dL_delete_22 : decode cL_delete 22 = .ok (.astore_n 3, 1) := by decide +kernel
theorem dL_delete_23 : decode cL_delete 23 = .ok (.iconst 2, 1) := by decide +kernel
theorem dL_delete_24 : decode cL_delete 24 = .ok (.ireturn, 1) := by decide +kernel
theorem dL_delete_25 : decode cL_delete 25 = .ok (.iconst 0, 1) := by decide +kernel
theorem dL_delete_26 : decode cL_delete 26 = .ok (.ireturn, 1) := by decide +kernel
theorem dL_flush_0 : decode cL_flush 0 = .ok (.aload_n 1, 1) := by decide +kernel
theorem dL_flush_1 : decode cL_flush 1 = .ok (.iconst 0, 1) := by decide +kernel
theorem dL_flush_2 : decode cL_flush 2 = .ok (.aload_n 0, 1) := by decide +kernel
theorem dL_flush_3 : decode cL_flush 3 = .ok (.invokevirtual 41, 3) := by decide +kernel
theorem dL_flush_6 : decode cL_flush 6 = .ok (.i2l, 1) := by decide +kernel
theorem dL_flush_7 : decode cL_flush 7 = .ok (.lastore, 1) := by decide +kernel
theorem dL_flush_8 : decode cL_flush 8 = .ok (.goto 6, 3) := by decide +kernel
theorem dL_flush_11 : decode cL_flush 11 = .ok (.astore_n 2, 1) := by decide +kernel
theorem dL_flush_12 : decode cL_flush 12 = .ok (.iconst 1, 1) := by decide +kernel
theorem dL_flush_13 : decode cL_flush 13 = .ok (.ireturn, 1) := by decide +kernel
theorem dL_flush_14 : decode cL_flush 14 = .ok (.iconst 0, 1) := by decide +kernel
theorem dL_flush_15 : decode cL_flush 15 = .ok (.ireturn, 1) := by decide +kernel
theorem dL_due_0 : decode cL_due 0 = .ok (.aload_n 1, 1) := by decide +kernel
theorem dL_due_1 : decode cL_due 1 = .ok (.iconst 0, 1) := by decide +kernel
theorem dL_due_2 : decode cL_due 2 = .ok (.aload_n 0, 1) := by decide +kernel
theorem dL_due_3 : decode cL_due 3 = .ok (.invokevirtual 44, 3) := by decide +kernel
theorem dL_due_6 : decode cL_due 6 = .ok (.i2l, 1) := by decide +kernel
theorem dL_due_7 : decode cL_due 7 = .ok (.lastore, 1) := by decide +kernel
theorem dL_due_8 : decode cL_due 8 = .ok (.goto 6, 3) := by decide +kernel
theorem dL_due_11 : decode cL_due 11 = .ok (.astore_n 2, 1) := by decide +kernel
theorem dL_due_12 : decode cL_due 12 = .ok (.iconst 1, 1) := by decide +kernel
theorem dL_due_13 : decode cL_due 13 = .ok (.ireturn, 1) := by decide +kernel
theorem dL_due_14 : decode cL_due 14 = .ok (.iconst 0, 1) := by decide +kernel
theorem dL_due_15 : decode cL_due 15 = .ok (.ireturn, 1) := by decide +kernel
theorem dL_merge_0 : decode cL_merge 0 = .ok (.aload_n 1, 1) := by decide +kernel
theorem dL_merge_1 : decode cL_merge 1 = .ok (.iconst 0, 1) := by decide +kernel
theorem dL_merge_2 : decode cL_merge 2 = .ok (.aload_n 0, 1) := by decide +kernel
theorem dL_merge_3 : decode cL_merge 3 = .ok (.invokevirtual 47, 3) := by decide +kernel
theorem dL_merge_6 : decode cL_merge 6 = .ok (.i2l, 1) := by decide +kernel
theorem dL_merge_7 : decode cL_merge 7 = .ok (.lastore, 1) := by decide +kernel
theorem dL_merge_8 : decode cL_merge 8 = .ok (.goto 6, 3) := by decide +kernel
theorem dL_merge_11 : decode cL_merge 11 = .ok (.astore_n 2, 1) := by decide +kernel
theorem dL_merge_12 : decode cL_merge 12 = .ok (.iconst 1, 1) := by decide +kernel
theorem dL_merge_13 : decode cL_merge 13 = .ok (.ireturn, 1) := by decide +kernel
theorem dL_merge_14 : decode cL_merge 14 = .ok (.iconst 0, 1) := by decide +kernel
theorem dL_merge_15 : decode cL_merge 15 = .ok (.ireturn, 1) := by decide +kernel
theorem dL_step_0 : decode cL_step 0 = .ok (.aload_n 1, 1) := by decide +kernel
theorem dL_step_1 : decode cL_step 1 = .ok (.iconst 0, 1) := by decide +kernel
theorem dL_step_2 : decode cL_step 2 = .ok (.aload_n 0, 1) := by decide +kernel
theorem dL_step_3 : decode cL_step 3 = .ok (.invokevirtual 50, 3) := by decide +kernel
theorem dL_step_6 : decode cL_step 6 = .ok (.i2l, 1) := by decide +kernel
theorem dL_step_7 : decode cL_step 7 = .ok (.lastore, 1) := by decide +kernel
theorem dL_step_8 : decode cL_step 8 = .ok (.goto 6, 3) := by decide +kernel
theorem dL_step_11 : decode cL_step 11 = .ok (.astore_n 2, 1) := by decide +kernel
theorem dL_step_12 : decode cL_step 12 = .ok (.iconst 1, 1) := by decide +kernel
theorem dL_step_13 : decode cL_step 13 = .ok (.ireturn, 1) := by decide +kernel
theorem dL_step_14 : decode cL_step 14 = .ok (.iconst 0, 1) := by decide +kernel
theorem dL_step_15 : decode cL_step 15 = .ok (.ireturn, 1) := by decide +kernel
theorem dL_giveUp_0 : decode cL_giveUp 0 = .ok (.aload_n 1, 1) := by decide +kernel
theorem dL_giveUp_1 : decode cL_giveUp 1 = .ok (.iconst 0, 1) := by decide +kernel
theorem dL_giveUp_2 : decode cL_giveUp 2 = .ok (.aload_n 0, 1) := by decide +kernel
theorem dL_giveUp_3 : decode cL_giveUp 3 = .ok (.invokevirtual 53, 3) := by decide +kernel
theorem dL_giveUp_6 : decode cL_giveUp 6 = .ok (.i2l, 1) := by decide +kernel
theorem dL_giveUp_7 : decode cL_giveUp 7 = .ok (.lastore, 1) := by decide +kernel
theorem dL_giveUp_8 : decode cL_giveUp 8 = .ok (.goto 6, 3) := by decide +kernel
theorem dL_giveUp_11 : decode cL_giveUp 11 = .ok (.astore_n 2, 1) := by decide +kernel
theorem dL_giveUp_12 : decode cL_giveUp 12 = .ok (.iconst 1, 1) := by decide +kernel
theorem dL_giveUp_13 : decode cL_giveUp 13 = .ok (.ireturn, 1) := by decide +kernel
theorem dL_giveUp_14 : decode cL_giveUp 14 = .ok (.iconst 0, 1) := by decide +kernel
theorem dL_giveUp_15 : decode cL_giveUp 15 = .ok (.ireturn, 1) := by decide +kernel
theorem dL_prepare_0 : decode cL_prepare 0 = .ok (.aload_n 1, 1) := by decide +kernel
theorem dL_prepare_1 : decode cL_prepare 1 = .ok (.iconst 0, 1) := by decide +kernel
theorem dL_prepare_2 : decode cL_prepare 2 = .ok (.aload_n 0, 1) := by decide +kernel
theorem dL_prepare_3 : decode cL_prepare 3 = .ok (.invokevirtual 56, 3) := by decide +kernel
theorem dL_prepare_6 : decode cL_prepare 6 = .ok (.i2l, 1) := by decide +kernel
theorem dL_prepare_7 : decode cL_prepare 7 = .ok (.lastore, 1) := by decide +kernel
theorem dL_prepare_8 : decode cL_prepare 8 = .ok (.goto 6, 3) := by decide +kernel
theorem dL_prepare_11 : decode cL_prepare 11 = .ok (.astore_n 2, 1) := by decide +kernel
theorem dL_prepare_12 : decode cL_prepare 12 = .ok (.iconst 1, 1) := by decide +kernel
theorem dL_prepare_13 : decode cL_prepare 13 = .ok (.ireturn, 1) := by decide +kernel
theorem dL_prepare_14 : decode cL_prepare 14 = .ok (.iconst 0, 1) := by decide +kernel
theorem dL_prepare_15 : decode cL_prepare 15 = .ok (.ireturn, 1) := by decide +kernel
theorem dL_finish_0 : decode cL_finish 0 = .ok (.aload_n 1, 1) := by decide +kernel
theorem dL_finish_1 : decode cL_finish 1 = .ok (.iconst 0, 1) := by decide +kernel
theorem dL_finish_2 : decode cL_finish 2 = .ok (.aload_n 0, 1) := by decide +kernel
theorem dL_finish_3 : decode cL_finish 3 = .ok (.invokevirtual 59, 3) := by decide +kernel
theorem dL_finish_6 : decode cL_finish 6 = .ok (.i2l, 1) := by decide +kernel
theorem dL_finish_7 : decode cL_finish 7 = .ok (.lastore, 1) := by decide +kernel
theorem dL_finish_8 : decode cL_finish 8 = .ok (.goto 6, 3) := by decide +kernel
theorem dL_finish_11 : decode cL_finish 11 = .ok (.astore_n 2, 1) := by decide +kernel
theorem dL_finish_12 : decode cL_finish 12 = .ok (.iconst 1, 1) := by decide +kernel
theorem dL_finish_13 : decode cL_finish 13 = .ok (.ireturn, 1) := by decide +kernel
theorem dL_finish_14 : decode cL_finish 14 = .ok (.iconst 0, 1) := by decide +kernel
theorem dL_finish_15 : decode cL_finish 15 = .ok (.ireturn, 1) := by decide +kernel
theorem dL_drop_0 : decode cL_drop 0 = .ok (.aload_n 0, 1) := by decide +kernel
theorem dL_drop_1 : decode cL_drop 1 = .ok (.invokevirtual 62, 3) := by decide +kernel
theorem dL_drop_4 : decode cL_drop 4 = .ok (.goto 6, 3) := by decide +kernel
theorem dL_drop_7 : decode cL_drop 7 = .ok (.astore_n 1, 1) := by decide +kernel
theorem dL_drop_8 : decode cL_drop 8 = .ok (.iconst 1, 1) := by decide +kernel
theorem dL_drop_9 : decode cL_drop 9 = .ok (.ireturn, 1) := by decide +kernel
theorem dL_drop_10 : decode cL_drop 10 = .ok (.iconst 0, 1) := by decide +kernel
theorem dL_drop_11 : decode cL_drop 11 = .ok (.ireturn, 1) := by decide +kernel
theorem dL_crashAt_0 : decode cL_crashAt 0 = .ok (.aload_n 0, 1) := by decide +kernel
theorem dL_crashAt_1 : decode cL_crashAt 1 = .ok (.iload_n 1, 1) := by decide +kernel
theorem dL_crashAt_2 : decode cL_crashAt 2 = .ok (.invokevirtual 65, 3) := by decide +kernel
theorem dL_crashAt_5 : decode cL_crashAt 5 = .ok (.goto 9, 3) := by decide +kernel
theorem dL_crashAt_8 : decode cL_crashAt 8 = .ok (.astore_n 2, 1) := by decide +kernel
theorem dL_crashAt_9 : decode cL_crashAt 9 = .ok (.iconst 1, 1) := by decide +kernel
theorem dL_crashAt_10 : decode cL_crashAt 10 = .ok (.ireturn, 1) := by decide +kernel
theorem dL_crashAt_11 : decode cL_crashAt 11 = .ok (.astore_n 2, 1) := by decide +kernel
theorem dL_crashAt_12 : decode cL_crashAt 12 = .ok (.iconst 2, 1) := by decide +kernel
theorem dL_crashAt_13 : decode cL_crashAt 13 = .ok (.ireturn, 1) := by decide +kernel
theorem dL_crashAt_14 : decode cL_crashAt 14 = .ok (.iconst 0, 1) := by decide +kernel
theorem dL_crashAt_15 : decode cL_crashAt 15 = .ok (.ireturn, 1) := by decide +kernel
theorem dL_open_0 : decode cL_open 0 = .ok (.aload_n 1, 1) := by decide +kernel
theorem dL_open_1 : decode cL_open 1 = .ok (.iconst 0, 1) := by decide +kernel
theorem dL_open_2 : decode cL_open 2 = .ok (.aload_n 0, 1) := by decide +kernel
theorem dL_open_3 : decode cL_open 3 = .ok (.invokevirtual 69, 3) := by decide +kernel
theorem dL_open_6 : decode cL_open 6 = .ok (.i2l, 1) := by decide +kernel
theorem dL_open_7 : decode cL_open 7 = .ok (.lastore, 1) := by decide +kernel
theorem dL_open_8 : decode cL_open 8 = .ok (.goto 6, 3) := by decide +kernel
theorem dL_open_11 : decode cL_open 11 = .ok (.astore_n 2, 1) := by decide +kernel
theorem dL_open_12 : decode cL_open 12 = .ok (.iconst 1, 1) := by decide +kernel
theorem dL_open_13 : decode cL_open 13 = .ok (.ireturn, 1) := by decide +kernel
theorem dL_open_14 : decode cL_open 14 = .ok (.iconst 0, 1) := by decide +kernel
theorem dL_open_15 : decode cL_open 15 = .ok (.ireturn, 1) := by decide +kernel
theorem dL_files_0 : decode cL_files 0 = .ok (.aload_n 1, 1) := by decide +kernel
theorem dL_files_1 : decode cL_files 1 = .ok (.iconst 0, 1) := by decide +kernel
theorem dL_files_2 : decode cL_files 2 = .ok (.aload_n 0, 1) := by decide +kernel
theorem dL_files_3 : decode cL_files 3 = .ok (.invokevirtual 72, 3) := by decide +kernel
theorem dL_files_6 : decode cL_files 6 = .ok (.i2l, 1) := by decide +kernel
theorem dL_files_7 : decode cL_files 7 = .ok (.lastore, 1) := by decide +kernel
theorem dL_files_8 : decode cL_files 8 = .ok (.goto 6, 3) := by decide +kernel
theorem dL_files_11 : decode cL_files 11 = .ok (.astore_n 2, 1) := by decide +kernel
theorem dL_files_12 : decode cL_files 12 = .ok (.iconst 1, 1) := by decide +kernel
theorem dL_files_13 : decode cL_files 13 = .ok (.ireturn, 1) := by decide +kernel
theorem dL_files_14 : decode cL_files 14 = .ok (.iconst 0, 1) := by decide +kernel
theorem dL_files_15 : decode cL_files 15 = .ok (.ireturn, 1) := by decide +kernel
theorem dL_segments_0 : decode cL_segments 0 = .ok (.aload_n 1, 1) := by decide +kernel
theorem dL_segments_1 : decode cL_segments 1 = .ok (.iconst 0, 1) := by decide +kernel
theorem dL_segments_2 : decode cL_segments 2 = .ok (.aload_n 0, 1) := by decide +kernel
theorem dL_segments_3 : decode cL_segments 3 = .ok (.invokevirtual 75, 3) := by decide +kernel
theorem dL_segments_6 : decode cL_segments 6 = .ok (.i2l, 1) := by decide +kernel
theorem dL_segments_7 : decode cL_segments 7 = .ok (.lastore, 1) := by decide +kernel
theorem dL_segments_8 : decode cL_segments 8 = .ok (.goto 6, 3) := by decide +kernel
theorem dL_segments_11 : decode cL_segments 11 = .ok (.astore_n 2, 1) := by decide +kernel
theorem dL_segments_12 : decode cL_segments 12 = .ok (.iconst 1, 1) := by decide +kernel
theorem dL_segments_13 : decode cL_segments 13 = .ok (.ireturn, 1) := by decide +kernel
theorem dL_segments_14 : decode cL_segments 14 = .ok (.iconst 0, 1) := by decide +kernel
theorem dL_segments_15 : decode cL_segments 15 = .ok (.ireturn, 1) := by decide +kernel
theorem dL_segmentAt_0 : decode cL_segmentAt 0 = .ok (.aload_n 2, 1) := by decide +kernel
theorem dL_segmentAt_1 : decode cL_segmentAt 1 = .ok (.iconst 0, 1) := by decide +kernel
theorem dL_segmentAt_2 : decode cL_segmentAt 2 = .ok (.aload_n 0, 1) := by decide +kernel
theorem dL_segmentAt_3 : decode cL_segmentAt 3 = .ok (.iload_n 1, 1) := by decide +kernel
theorem dL_segmentAt_4 : decode cL_segmentAt 4 = .ok (.invokevirtual 78, 3) := by decide +kernel
theorem dL_segmentAt_7 : decode cL_segmentAt 7 = .ok (.i2l, 1) := by decide +kernel
theorem dL_segmentAt_8 : decode cL_segmentAt 8 = .ok (.lastore, 1) := by decide +kernel
theorem dL_segmentAt_9 : decode cL_segmentAt 9 = .ok (.goto 6, 3) := by decide +kernel
theorem dL_segmentAt_12 : decode cL_segmentAt 12 = .ok (.astore_n 3, 1) := by decide +kernel
theorem dL_segmentAt_13 : decode cL_segmentAt 13 = .ok (.iconst 1, 1) := by decide +kernel
theorem dL_segmentAt_14 : decode cL_segmentAt 14 = .ok (.ireturn, 1) := by decide +kernel
theorem dL_segmentAt_15 : decode cL_segmentAt 15 = .ok (.iconst 0, 1) := by decide +kernel
theorem dL_segmentAt_16 : decode cL_segmentAt 16 = .ok (.ireturn, 1) := by decide +kernel
theorem dL_live_0 : decode cL_live 0 = .ok (.aload_n 2, 1) := by decide +kernel
theorem dL_live_1 : decode cL_live 1 = .ok (.iconst 0, 1) := by decide +kernel
theorem dL_live_2 : decode cL_live 2 = .ok (.aload_n 0, 1) := by decide +kernel
theorem dL_live_3 : decode cL_live 3 = .ok (.iload_n 1, 1) := by decide +kernel
theorem dL_live_4 : decode cL_live 4 = .ok (.invokevirtual 81, 3) := by decide +kernel
theorem dL_live_7 : decode cL_live 7 = .ok (.i2l, 1) := by decide +kernel
theorem dL_live_8 : decode cL_live 8 = .ok (.lastore, 1) := by decide +kernel
theorem dL_live_9 : decode cL_live 9 = .ok (.goto 6, 3) := by decide +kernel
theorem dL_live_12 : decode cL_live 12 = .ok (.astore_n 3, 1) := by decide +kernel
theorem dL_live_13 : decode cL_live 13 = .ok (.iconst 1, 1) := by decide +kernel
theorem dL_live_14 : decode cL_live 14 = .ok (.ireturn, 1) := by decide +kernel
theorem dL_live_15 : decode cL_live 15 = .ok (.iconst 0, 1) := by decide +kernel
theorem dL_live_16 : decode cL_live 16 = .ok (.ireturn, 1) := by decide +kernel
theorem dL_keyAt_0 : decode cL_keyAt 0 = .ok (.aload_n 3, 1) := by decide +kernel
theorem dL_keyAt_1 : decode cL_keyAt 1 = .ok (.iconst 0, 1) := by decide +kernel
theorem dL_keyAt_2 : decode cL_keyAt 2 = .ok (.aload_n 0, 1) := by decide +kernel
theorem dL_keyAt_3 : decode cL_keyAt 3 = .ok (.iload_n 1, 1) := by decide +kernel
theorem dL_keyAt_4 : decode cL_keyAt 4 = .ok (.iload_n 2, 1) := by decide +kernel
theorem dL_keyAt_5 : decode cL_keyAt 5 = .ok (.invokevirtual 84, 3) := by decide +kernel
theorem dL_keyAt_8 : decode cL_keyAt 8 = .ok (.i2l, 1) := by decide +kernel
theorem dL_keyAt_9 : decode cL_keyAt 9 = .ok (.lastore, 1) := by decide +kernel
theorem dL_keyAt_10 : decode cL_keyAt 10 = .ok (.goto 7, 3) := by decide +kernel
theorem dL_keyAt_13 : decode cL_keyAt 13 = .ok (.astore 4, 2) := by decide +kernel
theorem dL_keyAt_15 : decode cL_keyAt 15 = .ok (.iconst 1, 1) := by decide +kernel
theorem dL_keyAt_16 : decode cL_keyAt 16 = .ok (.ireturn, 1) := by decide +kernel
theorem dL_keyAt_17 : decode cL_keyAt 17 = .ok (.iconst 0, 1) := by decide +kernel
theorem dL_keyAt_18 : decode cL_keyAt 18 = .ok (.ireturn, 1) := by decide +kernel
theorem dL_words_0 : decode cL_words 0 = .ok (.aload_n 3, 1) := by decide +kernel
theorem dL_words_1 : decode cL_words 1 = .ok (.iconst 0, 1) := by decide +kernel
theorem dL_words_2 : decode cL_words 2 = .ok (.aload_n 0, 1) := by decide +kernel
theorem dL_words_3 : decode cL_words 3 = .ok (.iload_n 1, 1) := by decide +kernel
theorem dL_words_4 : decode cL_words 4 = .ok (.iload_n 2, 1) := by decide +kernel
theorem dL_words_5 : decode cL_words 5 = .ok (.invokevirtual 88, 3) := by decide +kernel
theorem dL_words_8 : decode cL_words 8 = .ok (.i2l, 1) := by decide +kernel
theorem dL_words_9 : decode cL_words 9 = .ok (.lastore, 1) := by decide +kernel
theorem dL_words_10 : decode cL_words 10 = .ok (.goto 7, 3) := by decide +kernel
theorem dL_words_13 : decode cL_words 13 = .ok (.astore 4, 2) := by decide +kernel
theorem dL_words_15 : decode cL_words 15 = .ok (.iconst 1, 1) := by decide +kernel
theorem dL_words_16 : decode cL_words 16 = .ok (.ireturn, 1) := by decide +kernel
theorem dL_words_17 : decode cL_words 17 = .ok (.iconst 0, 1) := by decide +kernel
theorem dL_words_18 : decode cL_words 18 = .ok (.ireturn, 1) := by decide +kernel
theorem dL_shared_0 : decode cL_shared 0 = .ok (.aload 4, 2) := by decide +kernel
theorem dL_shared_2 : decode cL_shared 2 = .ok (.iconst 0, 1) := by decide +kernel
theorem dL_shared_3 : decode cL_shared 3 = .ok (.aload_n 0, 1) := by decide +kernel
theorem dL_shared_4 : decode cL_shared 4 = .ok (.iload_n 1, 1) := by decide +kernel
theorem dL_shared_5 : decode cL_shared 5 = .ok (.iload_n 2, 1) := by decide +kernel
theorem dL_shared_6 : decode cL_shared 6 = .ok (.iload_n 3, 1) := by decide +kernel
theorem dL_shared_7 : decode cL_shared 7 = .ok (.invokevirtual 91, 3) := by decide +kernel
theorem dL_shared_10 : decode cL_shared 10 = .ok (.i2l, 1) := by decide +kernel
theorem dL_shared_11 : decode cL_shared 11 = .ok (.lastore, 1) := by decide +kernel
theorem dL_shared_12 : decode cL_shared 12 = .ok (.goto 7, 3) := by decide +kernel
theorem dL_shared_15 : decode cL_shared 15 = .ok (.astore 5, 2) := by decide +kernel
theorem dL_shared_17 : decode cL_shared 17 = .ok (.iconst 1, 1) := by decide +kernel
theorem dL_shared_18 : decode cL_shared 18 = .ok (.ireturn, 1) := by decide +kernel
theorem dL_shared_19 : decode cL_shared 19 = .ok (.iconst 0, 1) := by decide +kernel
theorem dL_shared_20 : decode cL_shared 20 = .ok (.ireturn, 1) := by decide +kernel
theorem dL_wordBytes_0 : decode cL_wordBytes 0 = .ok (.aload_n 3, 1) := by decide +kernel
theorem dL_wordBytes_1 : decode cL_wordBytes 1 = .ok (.iconst 0, 1) := by decide +kernel
theorem dL_wordBytes_2 : decode cL_wordBytes 2 = .ok (.aload_n 0, 1) := by decide +kernel
theorem dL_wordBytes_3 : decode cL_wordBytes 3 = .ok (.iload_n 1, 1) := by decide +kernel
theorem dL_wordBytes_4 : decode cL_wordBytes 4 = .ok (.iload_n 2, 1) := by decide +kernel
theorem dL_wordBytes_5 : decode cL_wordBytes 5 = .ok (.invokevirtual 95, 3) := by decide +kernel
theorem dL_wordBytes_8 : decode cL_wordBytes 8 = .ok (.i2l, 1) := by decide +kernel
theorem dL_wordBytes_9 : decode cL_wordBytes 9 = .ok (.lastore, 1) := by decide +kernel
theorem dL_wordBytes_10 : decode cL_wordBytes 10 = .ok (.goto 7, 3) := by decide +kernel
theorem dL_wordBytes_13 : decode cL_wordBytes 13 = .ok (.astore 4, 2) := by decide +kernel
theorem dL_wordBytes_15 : decode cL_wordBytes 15 = .ok (.iconst 1, 1) := by decide +kernel
theorem dL_wordBytes_16 : decode cL_wordBytes 16 = .ok (.ireturn, 1) := by decide +kernel
theorem dL_wordBytes_17 : decode cL_wordBytes 17 = .ok (.iconst 0, 1) := by decide +kernel
theorem dL_wordBytes_18 : decode cL_wordBytes 18 = .ok (.ireturn, 1) := by decide +kernel
theorem dL_signAt_0 : decode cL_signAt 0 = .ok (.aload 5, 2) := by decide +kernel
theorem dL_signAt_2 : decode cL_signAt 2 = .ok (.iconst 0, 1) := by decide +kernel
theorem dL_signAt_3 : decode cL_signAt 3 = .ok (.aload_n 0, 1) := by decide +kernel
theorem dL_signAt_4 : decode cL_signAt 4 = .ok (.iload_n 1, 1) := by decide +kernel
theorem dL_signAt_5 : decode cL_signAt 5 = .ok (.iload_n 2, 1) := by decide +kernel
theorem dL_signAt_6 : decode cL_signAt 6 = .ok (.iload_n 3, 1) := by decide +kernel
theorem dL_signAt_7 : decode cL_signAt 7 = .ok (.iload 4, 2) := by decide +kernel
theorem dL_signAt_9 : decode cL_signAt 9 = .ok (.invokevirtual 98, 3) := by decide +kernel
theorem dL_signAt_12 : decode cL_signAt 12 = .ok (.i2l, 1) := by decide +kernel
theorem dL_signAt_13 : decode cL_signAt 13 = .ok (.lastore, 1) := by decide +kernel
theorem dL_signAt_14 : decode cL_signAt 14 = .ok (.goto 7, 3) := by decide +kernel
theorem dL_signAt_17 : decode cL_signAt 17 = .ok (.astore 6, 2) := by decide +kernel
theorem dL_signAt_19 : decode cL_signAt 19 = .ok (.iconst 1, 1) := by decide +kernel
theorem dL_signAt_20 : decode cL_signAt 20 = .ok (.ireturn, 1) := by decide +kernel
theorem dL_signAt_21 : decode cL_signAt 21 = .ok (.iconst 0, 1) := by decide +kernel
theorem dL_signAt_22 : decode cL_signAt 22 = .ok (.ireturn, 1) := by decide +kernel
theorem dL_bytes_0 : decode cL_bytes 0 = .ok (.aload 4, 2) := by decide +kernel
theorem dL_bytes_2 : decode cL_bytes 2 = .ok (.iconst 0, 1) := by decide +kernel
theorem dL_bytes_3 : decode cL_bytes 3 = .ok (.aload_n 0, 1) := by decide +kernel
theorem dL_bytes_4 : decode cL_bytes 4 = .ok (.iload_n 1, 1) := by decide +kernel
theorem dL_bytes_5 : decode cL_bytes 5 = .ok (.iload_n 2, 1) := by decide +kernel
theorem dL_bytes_6 : decode cL_bytes 6 = .ok (.iload_n 3, 1) := by decide +kernel
theorem dL_bytes_7 : decode cL_bytes 7 = .ok (.invokevirtual 102, 3) := by decide +kernel
theorem dL_bytes_10 : decode cL_bytes 10 = .ok (.i2l, 1) := by decide +kernel
theorem dL_bytes_11 : decode cL_bytes 11 = .ok (.lastore, 1) := by decide +kernel
theorem dL_bytes_12 : decode cL_bytes 12 = .ok (.goto 7, 3) := by decide +kernel
theorem dL_bytes_15 : decode cL_bytes 15 = .ok (.astore 5, 2) := by decide +kernel
theorem dL_bytes_17 : decode cL_bytes 17 = .ok (.iconst 1, 1) := by decide +kernel
theorem dL_bytes_18 : decode cL_bytes 18 = .ok (.ireturn, 1) := by decide +kernel
theorem dL_bytes_19 : decode cL_bytes 19 = .ok (.iconst 0, 1) := by decide +kernel
theorem dL_bytes_20 : decode cL_bytes 20 = .ok (.ireturn, 1) := by decide +kernel
theorem dL_byteAt_0 : decode cL_byteAt 0 = .ok (.aload 5, 2) := by decide +kernel
theorem dL_byteAt_2 : decode cL_byteAt 2 = .ok (.iconst 0, 1) := by decide +kernel
theorem dL_byteAt_3 : decode cL_byteAt 3 = .ok (.aload_n 0, 1) := by decide +kernel
theorem dL_byteAt_4 : decode cL_byteAt 4 = .ok (.iload_n 1, 1) := by decide +kernel
theorem dL_byteAt_5 : decode cL_byteAt 5 = .ok (.iload_n 2, 1) := by decide +kernel
theorem dL_byteAt_6 : decode cL_byteAt 6 = .ok (.iload_n 3, 1) := by decide +kernel
theorem dL_byteAt_7 : decode cL_byteAt 7 = .ok (.iload 4, 2) := by decide +kernel
theorem dL_byteAt_9 : decode cL_byteAt 9 = .ok (.invokevirtual 105, 3) := by decide +kernel
theorem dL_byteAt_12 : decode cL_byteAt 12 = .ok (.i2l, 1) := by decide +kernel
theorem dL_byteAt_13 : decode cL_byteAt 13 = .ok (.lastore, 1) := by decide +kernel
theorem dL_byteAt_14 : decode cL_byteAt 14 = .ok (.goto 7, 3) := by decide +kernel
theorem dL_byteAt_17 : decode cL_byteAt 17 = .ok (.astore 6, 2) := by decide +kernel
theorem dL_byteAt_19 : decode cL_byteAt 19 = .ok (.iconst 1, 1) := by decide +kernel
theorem dL_byteAt_20 : decode cL_byteAt 20 = .ok (.ireturn, 1) := by decide +kernel
theorem dL_byteAt_21 : decode cL_byteAt 21 = .ok (.iconst 0, 1) := by decide +kernel
theorem dL_byteAt_22 : decode cL_byteAt 22 = .ok (.ireturn, 1) := by decide +kernel
theorem dL_look_0 : decode cL_look 0 = .ok (.aload_n 2, 1) := by decide +kernel
theorem dL_look_1 : decode cL_look 1 = .ok (.iconst 0, 1) := by decide +kernel
theorem dL_look_2 : decode cL_look 2 = .ok (.aload_n 0, 1) := by decide +kernel
theorem dL_look_3 : decode cL_look 3 = .ok (.iload_n 1, 1) := by decide +kernel
theorem dL_look_4 : decode cL_look 4 = .ok (.invokevirtual 109, 3) := by decide +kernel
theorem dL_look_7 : decode cL_look 7 = .ok (.i2l, 1) := by decide +kernel
theorem dL_look_8 : decode cL_look 8 = .ok (.lastore, 1) := by decide +kernel
theorem dL_look_9 : decode cL_look 9 = .ok (.goto 6, 3) := by decide +kernel
theorem dL_look_12 : decode cL_look 12 = .ok (.astore_n 3, 1) := by decide +kernel
theorem dL_look_13 : decode cL_look 13 = .ok (.iconst 1, 1) := by decide +kernel
theorem dL_look_14 : decode cL_look 14 = .ok (.ireturn, 1) := by decide +kernel
theorem dL_look_15 : decode cL_look 15 = .ok (.iconst 0, 1) := by decide +kernel
theorem dL_look_16 : decode cL_look 16 = .ok (.ireturn, 1) := by decide +kernel
theorem dL_shut_0 : decode cL_shut 0 = .ok (.aload_n 2, 1) := by decide +kernel
theorem dL_shut_1 : decode cL_shut 1 = .ok (.iconst 0, 1) := by decide +kernel
theorem dL_shut_2 : decode cL_shut 2 = .ok (.aload_n 0, 1) := by decide +kernel
theorem dL_shut_3 : decode cL_shut 3 = .ok (.iload_n 1, 1) := by decide +kernel
theorem dL_shut_4 : decode cL_shut 4 = .ok (.invokevirtual 113, 3) := by decide +kernel
theorem dL_shut_7 : decode cL_shut 7 = .ok (.i2l, 1) := by decide +kernel
theorem dL_shut_8 : decode cL_shut 8 = .ok (.lastore, 1) := by decide +kernel
theorem dL_shut_9 : decode cL_shut 9 = .ok (.goto 6, 3) := by decide +kernel
theorem dL_shut_12 : decode cL_shut 12 = .ok (.astore_n 3, 1) := by decide +kernel
theorem dL_shut_13 : decode cL_shut 13 = .ok (.iconst 1, 1) := by decide +kernel
theorem dL_shut_14 : decode cL_shut 14 = .ok (.ireturn, 1) := by decide +kernel
theorem dL_shut_15 : decode cL_shut 15 = .ok (.iconst 0, 1) := by decide +kernel
theorem dL_shut_16 : decode cL_shut 16 = .ok (.ireturn, 1) := by decide +kernel
theorem dL_documents_0 : decode cL_documents 0 = .ok (.aload_n 2, 1) := by decide +kernel
theorem dL_documents_1 : decode cL_documents 1 = .ok (.iconst 0, 1) := by decide +kernel
theorem dL_documents_2 : decode cL_documents 2 = .ok (.aload_n 0, 1) := by decide +kernel
theorem dL_documents_3 : decode cL_documents 3 = .ok (.iload_n 1, 1) := by decide +kernel
theorem dL_documents_4 : decode cL_documents 4 = .ok (.invokevirtual 116, 3) := by decide +kernel
theorem dL_documents_7 : decode cL_documents 7 = .ok (.i2l, 1) := by decide +kernel
theorem dL_documents_8 : decode cL_documents 8 = .ok (.lastore, 1) := by decide +kernel
theorem dL_documents_9 : decode cL_documents 9 = .ok (.goto 6, 3) := by decide +kernel
theorem dL_documents_12 : decode cL_documents 12 = .ok (.astore_n 3, 1) := by decide +kernel
theorem dL_documents_13 : decode cL_documents 13 = .ok (.iconst 1, 1) := by decide +kernel
theorem dL_documents_14 : decode cL_documents 14 = .ok (.ireturn, 1) := by decide +kernel
theorem dL_documents_15 : decode cL_documents 15 = .ok (.iconst 0, 1) := by decide +kernel
theorem dL_documents_16 : decode cL_documents 16 = .ok (.ireturn, 1) := by decide +kernel
theorem dL_term_0 : decode cL_term 0 = .ok (.aload_n 2, 1) := by decide +kernel
theorem dL_term_1 : decode cL_term 1 = .ok (.iconst 0, 1) := by decide +kernel
theorem dL_term_2 : decode cL_term 2 = .ok (.aload_n 0, 1) := by decide +kernel
theorem dL_term_3 : decode cL_term 3 = .ok (.iload_n 1, 1) := by decide +kernel
theorem dL_term_4 : decode cL_term 4 = .ok (.invokevirtual 119, 3) := by decide +kernel
theorem dL_term_7 : decode cL_term 7 = .ok (.i2l, 1) := by decide +kernel
theorem dL_term_8 : decode cL_term 8 = .ok (.lastore, 1) := by decide +kernel
theorem dL_term_9 : decode cL_term 9 = .ok (.goto 9, 3) := by decide +kernel
theorem dL_term_12 : decode cL_term 12 = .ok (.astore_n 3, 1) := by decide +kernel
theorem dL_term_13 : decode cL_term 13 = .ok (.iconst 1, 1) := by decide +kernel
theorem dL_term_14 : decode cL_term 14 = .ok (.ireturn, 1) := by decide +kernel
theorem dL_term_15 : decode cL_term 15 = .ok (.astore_n 3, 1) := by decide +kernel
theorem dL_term_16 : decode cL_term 16 = .ok (.iconst 2, 1) := by decide +kernel
theorem dL_term_17 : decode cL_term 17 = .ok (.ireturn, 1) := by decide +kernel
theorem dL_term_18 : decode cL_term 18 = .ok (.iconst 0, 1) := by decide +kernel
theorem dL_term_19 : decode cL_term 19 = .ok (.ireturn, 1) := by decide +kernel
theorem dL_phrase_0 : decode cL_phrase 0 = .ok (.aload_n 3, 1) := by decide +kernel
theorem dL_phrase_1 : decode cL_phrase 1 = .ok (.iconst 0, 1) := by decide +kernel
theorem dL_phrase_2 : decode cL_phrase 2 = .ok (.aload_n 0, 1) := by decide +kernel
theorem dL_phrase_3 : decode cL_phrase 3 = .ok (.iload_n 1, 1) := by decide +kernel
theorem dL_phrase_4 : decode cL_phrase 4 = .ok (.iload_n 2, 1) := by decide +kernel
theorem dL_phrase_5 : decode cL_phrase 5 = .ok (.invokevirtual 122, 3) := by decide +kernel
theorem dL_phrase_8 : decode cL_phrase 8 = .ok (.i2l, 1) := by decide +kernel
theorem dL_phrase_9 : decode cL_phrase 9 = .ok (.lastore, 1) := by decide +kernel
theorem dL_phrase_10 : decode cL_phrase 10 = .ok (.goto 15, 3) := by decide +kernel
theorem dL_phrase_13 : decode cL_phrase 13 = .ok (.astore 4, 2) := by decide +kernel
theorem dL_phrase_15 : decode cL_phrase 15 = .ok (.iconst 1, 1) := by decide +kernel
theorem dL_phrase_16 : decode cL_phrase 16 = .ok (.ireturn, 1) := by decide +kernel
theorem dL_phrase_17 : decode cL_phrase 17 = .ok (.astore 4, 2) := by decide +kernel
theorem dL_phrase_19 : decode cL_phrase 19 = .ok (.iconst 2, 1) := by decide +kernel
theorem dL_phrase_20 : decode cL_phrase 20 = .ok (.ireturn, 1) := by decide +kernel
theorem dL_phrase_21 : decode cL_phrase 21 = .ok (.astore 4, 2) := by decide +kernel
theorem dL_phrase_23 : decode cL_phrase 23 = .ok (.iconst 3, 1) := by decide +kernel
theorem dL_phrase_24 : decode cL_phrase 24 = .ok (.ireturn, 1) := by decide +kernel
theorem dL_phrase_25 : decode cL_phrase 25 = .ok (.iconst 0, 1) := by decide +kernel
theorem dL_phrase_26 : decode cL_phrase 26 = .ok (.ireturn, 1) := by decide +kernel
theorem dL_near_0 : decode cL_near 0 = .ok (.aload 4, 2) := by decide +kernel
theorem dL_near_2 : decode cL_near 2 = .ok (.iconst 0, 1) := by decide +kernel
theorem dL_near_3 : decode cL_near 3 = .ok (.aload_n 0, 1) := by decide +kernel
theorem dL_near_4 : decode cL_near 4 = .ok (.iload_n 1, 1) := by decide +kernel
theorem dL_near_5 : decode cL_near 5 = .ok (.iload_n 2, 1) := by decide +kernel
theorem dL_near_6 : decode cL_near 6 = .ok (.iload_n 3, 1) := by decide +kernel
theorem dL_near_7 : decode cL_near 7 = .ok (.invokevirtual 125, 3) := by decide +kernel
theorem dL_near_10 : decode cL_near 10 = .ok (.i2l, 1) := by decide +kernel
theorem dL_near_11 : decode cL_near 11 = .ok (.lastore, 1) := by decide +kernel
theorem dL_near_12 : decode cL_near 12 = .ok (.goto 15, 3) := by decide +kernel
theorem dL_near_15 : decode cL_near 15 = .ok (.astore 5, 2) := by decide +kernel
theorem dL_near_17 : decode cL_near 17 = .ok (.iconst 1, 1) := by decide +kernel
theorem dL_near_18 : decode cL_near 18 = .ok (.ireturn, 1) := by decide +kernel
theorem dL_near_19 : decode cL_near 19 = .ok (.astore 5, 2) := by decide +kernel
theorem dL_near_21 : decode cL_near 21 = .ok (.iconst 2, 1) := by decide +kernel
theorem dL_near_22 : decode cL_near 22 = .ok (.ireturn, 1) := by decide +kernel
theorem dL_near_23 : decode cL_near 23 = .ok (.astore 5, 2) := by decide +kernel
theorem dL_near_25 : decode cL_near 25 = .ok (.iconst 3, 1) := by decide +kernel
theorem dL_near_26 : decode cL_near 26 = .ok (.ireturn, 1) := by decide +kernel
theorem dL_near_27 : decode cL_near 27 = .ok (.iconst 0, 1) := by decide +kernel
theorem dL_near_28 : decode cL_near 28 = .ok (.ireturn, 1) := by decide +kernel
theorem dL_prefix_0 : decode cL_prefix 0 = .ok (.aload_n 2, 1) := by decide +kernel
theorem dL_prefix_1 : decode cL_prefix 1 = .ok (.iconst 0, 1) := by decide +kernel
theorem dL_prefix_2 : decode cL_prefix 2 = .ok (.aload_n 0, 1) := by decide +kernel
theorem dL_prefix_3 : decode cL_prefix 3 = .ok (.iload_n 1, 1) := by decide +kernel
theorem dL_prefix_4 : decode cL_prefix 4 = .ok (.invokevirtual 129, 3) := by decide +kernel
theorem dL_prefix_7 : decode cL_prefix 7 = .ok (.i2l, 1) := by decide +kernel
theorem dL_prefix_8 : decode cL_prefix 8 = .ok (.lastore, 1) := by decide +kernel
theorem dL_prefix_9 : decode cL_prefix 9 = .ok (.goto 9, 3) := by decide +kernel
theorem dL_prefix_12 : decode cL_prefix 12 = .ok (.astore_n 3, 1) := by decide +kernel
theorem dL_prefix_13 : decode cL_prefix 13 = .ok (.iconst 1, 1) := by decide +kernel
theorem dL_prefix_14 : decode cL_prefix 14 = .ok (.ireturn, 1) := by decide +kernel
theorem dL_prefix_15 : decode cL_prefix 15 = .ok (.astore_n 3, 1) := by decide +kernel
theorem dL_prefix_16 : decode cL_prefix 16 = .ok (.iconst 2, 1) := by decide +kernel
theorem dL_prefix_17 : decode cL_prefix 17 = .ok (.ireturn, 1) := by decide +kernel
theorem dL_prefix_18 : decode cL_prefix 18 = .ok (.iconst 0, 1) := by decide +kernel
theorem dL_prefix_19 : decode cL_prefix 19 = .ok (.ireturn, 1) := by decide +kernel
theorem dL_wild_0 : decode cL_wild 0 = .ok (.aload_n 2, 1) := by decide +kernel
theorem dL_wild_1 : decode cL_wild 1 = .ok (.iconst 0, 1) := by decide +kernel
theorem dL_wild_2 : decode cL_wild 2 = .ok (.aload_n 0, 1) := by decide +kernel
theorem dL_wild_3 : decode cL_wild 3 = .ok (.iload_n 1, 1) := by decide +kernel
theorem dL_wild_4 : decode cL_wild 4 = .ok (.invokevirtual 132, 3) := by decide +kernel
theorem dL_wild_7 : decode cL_wild 7 = .ok (.i2l, 1) := by decide +kernel
theorem dL_wild_8 : decode cL_wild 8 = .ok (.lastore, 1) := by decide +kernel
theorem dL_wild_9 : decode cL_wild 9 = .ok (.goto 9, 3) := by decide +kernel
theorem dL_wild_12 : decode cL_wild 12 = .ok (.astore_n 3, 1) := by decide +kernel
theorem dL_wild_13 : decode cL_wild 13 = .ok (.iconst 1, 1) := by decide +kernel
theorem dL_wild_14 : decode cL_wild 14 = .ok (.ireturn, 1) := by decide +kernel
theorem dL_wild_15 : decode cL_wild 15 = .ok (.astore_n 3, 1) := by decide +kernel
theorem dL_wild_16 : decode cL_wild 16 = .ok (.iconst 2, 1) := by decide +kernel
theorem dL_wild_17 : decode cL_wild 17 = .ok (.ireturn, 1) := by decide +kernel
theorem dL_wild_18 : decode cL_wild 18 = .ok (.iconst 0, 1) := by decide +kernel
theorem dL_wild_19 : decode cL_wild 19 = .ok (.ireturn, 1) := by decide +kernel
theorem dL_fuzzy_0 : decode cL_fuzzy 0 = .ok (.aload_n 3, 1) := by decide +kernel
theorem dL_fuzzy_1 : decode cL_fuzzy 1 = .ok (.iconst 0, 1) := by decide +kernel
theorem dL_fuzzy_2 : decode cL_fuzzy 2 = .ok (.aload_n 0, 1) := by decide +kernel
theorem dL_fuzzy_3 : decode cL_fuzzy 3 = .ok (.iload_n 1, 1) := by decide +kernel
theorem dL_fuzzy_4 : decode cL_fuzzy 4 = .ok (.iload_n 2, 1) := by decide +kernel
theorem dL_fuzzy_5 : decode cL_fuzzy 5 = .ok (.invokevirtual 135, 3) := by decide +kernel
theorem dL_fuzzy_8 : decode cL_fuzzy 8 = .ok (.i2l, 1) := by decide +kernel
theorem dL_fuzzy_9 : decode cL_fuzzy 9 = .ok (.lastore, 1) := by decide +kernel
theorem dL_fuzzy_10 : decode cL_fuzzy 10 = .ok (.goto 15, 3) := by decide +kernel
theorem dL_fuzzy_13 : decode cL_fuzzy 13 = .ok (.astore 4, 2) := by decide +kernel
theorem dL_fuzzy_15 : decode cL_fuzzy 15 = .ok (.iconst 1, 1) := by decide +kernel
theorem dL_fuzzy_16 : decode cL_fuzzy 16 = .ok (.ireturn, 1) := by decide +kernel
theorem dL_fuzzy_17 : decode cL_fuzzy 17 = .ok (.astore 4, 2) := by decide +kernel
theorem dL_fuzzy_19 : decode cL_fuzzy 19 = .ok (.iconst 2, 1) := by decide +kernel
theorem dL_fuzzy_20 : decode cL_fuzzy 20 = .ok (.ireturn, 1) := by decide +kernel
theorem dL_fuzzy_21 : decode cL_fuzzy 21 = .ok (.astore 4, 2) := by decide +kernel
theorem dL_fuzzy_23 : decode cL_fuzzy 23 = .ok (.iconst 3, 1) := by decide +kernel
theorem dL_fuzzy_24 : decode cL_fuzzy 24 = .ok (.ireturn, 1) := by decide +kernel
theorem dL_fuzzy_25 : decode cL_fuzzy 25 = .ok (.iconst 0, 1) := by decide +kernel
theorem dL_fuzzy_26 : decode cL_fuzzy 26 = .ok (.ireturn, 1) := by decide +kernel
theorem dL_least_0 : decode cL_least 0 = .ok (.aload_n 3, 1) := by decide +kernel
theorem dL_least_1 : decode cL_least 1 = .ok (.iconst 0, 1) := by decide +kernel
theorem dL_least_2 : decode cL_least 2 = .ok (.aload_n 0, 1) := by decide +kernel
theorem dL_least_3 : decode cL_least 3 = .ok (.iload_n 1, 1) := by decide +kernel
theorem dL_least_4 : decode cL_least 4 = .ok (.iload_n 2, 1) := by decide +kernel
theorem dL_least_5 : decode cL_least 5 = .ok (.invokevirtual 138, 3) := by decide +kernel
theorem dL_least_8 : decode cL_least 8 = .ok (.i2l, 1) := by decide +kernel
theorem dL_least_9 : decode cL_least 9 = .ok (.lastore, 1) := by decide +kernel
theorem dL_least_10 : decode cL_least 10 = .ok (.goto 11, 3) := by decide +kernel
theorem dL_least_13 : decode cL_least 13 = .ok (.astore 4, 2) := by decide +kernel
theorem dL_least_15 : decode cL_least 15 = .ok (.iconst 1, 1) := by decide +kernel
theorem dL_least_16 : decode cL_least 16 = .ok (.ireturn, 1) := by decide +kernel
theorem dL_least_17 : decode cL_least 17 = .ok (.astore 4, 2) := by decide +kernel
theorem dL_least_19 : decode cL_least 19 = .ok (.iconst 2, 1) := by decide +kernel
theorem dL_least_20 : decode cL_least 20 = .ok (.ireturn, 1) := by decide +kernel
theorem dL_least_21 : decode cL_least 21 = .ok (.iconst 0, 1) := by decide +kernel
theorem dL_least_22 : decode cL_least 22 = .ok (.ireturn, 1) := by decide +kernel
theorem dL_but_0 : decode cL_but 0 = .ok (.aload_n 1, 1) := by decide +kernel
theorem dL_but_1 : decode cL_but 1 = .ok (.iconst 0, 1) := by decide +kernel
theorem dL_but_2 : decode cL_but 2 = .ok (.aload_n 0, 1) := by decide +kernel
theorem dL_but_3 : decode cL_but 3 = .ok (.invokevirtual 141, 3) := by decide +kernel
theorem dL_but_6 : decode cL_but 6 = .ok (.i2l, 1) := by decide +kernel
theorem dL_but_7 : decode cL_but 7 = .ok (.lastore, 1) := by decide +kernel
theorem dL_but_8 : decode cL_but 8 = .ok (.goto 6, 3) := by decide +kernel
theorem dL_but_11 : decode cL_but 11 = .ok (.astore_n 2, 1) := by decide +kernel
theorem dL_but_12 : decode cL_but 12 = .ok (.iconst 1, 1) := by decide +kernel
theorem dL_but_13 : decode cL_but 13 = .ok (.ireturn, 1) := by decide +kernel
theorem dL_but_14 : decode cL_but 14 = .ok (.iconst 0, 1) := by decide +kernel
theorem dL_but_15 : decode cL_but 15 = .ok (.ireturn, 1) := by decide +kernel
theorem dL_query_0 : decode cL_query 0 = .ok (.aload_n 1, 1) := by decide +kernel
theorem dL_query_1 : decode cL_query 1 = .ok (.iconst 0, 1) := by decide +kernel
theorem dL_query_2 : decode cL_query 2 = .ok (.aload_n 0, 1) := by decide +kernel
theorem dL_query_3 : decode cL_query 3 = .ok (.invokevirtual 144, 3) := by decide +kernel
theorem dL_query_6 : decode cL_query 6 = .ok (.i2l, 1) := by decide +kernel
theorem dL_query_7 : decode cL_query 7 = .ok (.lastore, 1) := by decide +kernel
theorem dL_query_8 : decode cL_query 8 = .ok (.goto 6, 3) := by decide +kernel
theorem dL_query_11 : decode cL_query 11 = .ok (.astore_n 2, 1) := by decide +kernel
theorem dL_query_12 : decode cL_query 12 = .ok (.iconst 1, 1) := by decide +kernel
theorem dL_query_13 : decode cL_query 13 = .ok (.ireturn, 1) := by decide +kernel
theorem dL_query_14 : decode cL_query 14 = .ok (.iconst 0, 1) := by decide +kernel
theorem dL_query_15 : decode cL_query 15 = .ok (.ireturn, 1) := by decide +kernel
theorem dL_weigh_0 : decode cL_weigh 0 = .ok (.aload_n 3, 1) := by decide +kernel
theorem dL_weigh_1 : decode cL_weigh 1 = .ok (.iconst 0, 1) := by decide +kernel
theorem dL_weigh_2 : decode cL_weigh 2 = .ok (.aload_n 0, 1) := by decide +kernel
theorem dL_weigh_3 : decode cL_weigh 3 = .ok (.iload_n 1, 1) := by decide +kernel
theorem dL_weigh_4 : decode cL_weigh 4 = .ok (.iload_n 2, 1) := by decide +kernel
theorem dL_weigh_5 : decode cL_weigh 5 = .ok (.invokevirtual 147, 3) := by decide +kernel
theorem dL_weigh_8 : decode cL_weigh 8 = .ok (.i2l, 1) := by decide +kernel
theorem dL_weigh_9 : decode cL_weigh 9 = .ok (.lastore, 1) := by decide +kernel
theorem dL_weigh_10 : decode cL_weigh 10 = .ok (.goto 11, 3) := by decide +kernel
theorem dL_weigh_13 : decode cL_weigh 13 = .ok (.astore 4, 2) := by decide +kernel
theorem dL_weigh_15 : decode cL_weigh 15 = .ok (.iconst 1, 1) := by decide +kernel
theorem dL_weigh_16 : decode cL_weigh 16 = .ok (.ireturn, 1) := by decide +kernel
theorem dL_weigh_17 : decode cL_weigh 17 = .ok (.astore 4, 2) := by decide +kernel
theorem dL_weigh_19 : decode cL_weigh 19 = .ok (.iconst 2, 1) := by decide +kernel
theorem dL_weigh_20 : decode cL_weigh 20 = .ok (.ireturn, 1) := by decide +kernel
theorem dL_weigh_21 : decode cL_weigh 21 = .ok (.iconst 0, 1) := by decide +kernel
theorem dL_weigh_22 : decode cL_weigh 22 = .ok (.ireturn, 1) := by decide +kernel
theorem dL_find_0 : decode cL_find 0 = .ok (.aload 4, 2) := by decide +kernel
theorem dL_find_2 : decode cL_find 2 = .ok (.iconst 0, 1) := by decide +kernel
theorem dL_find_3 : decode cL_find 3 = .ok (.aload_n 0, 1) := by decide +kernel
theorem dL_find_4 : decode cL_find 4 = .ok (.iload_n 1, 1) := by decide +kernel
theorem dL_find_5 : decode cL_find 5 = .ok (.iload_n 2, 1) := by decide +kernel
theorem dL_find_6 : decode cL_find 6 = .ok (.iload_n 3, 1) := by decide +kernel
theorem dL_find_7 : decode cL_find 7 = .ok (.invokevirtual 150, 3) := by decide +kernel
theorem dL_find_10 : decode cL_find 10 = .ok (.i2l, 1) := by decide +kernel
theorem dL_find_11 : decode cL_find 11 = .ok (.lastore, 1) := by decide +kernel
theorem dL_find_12 : decode cL_find 12 = .ok (.goto 11, 3) := by decide +kernel
theorem dL_find_15 : decode cL_find 15 = .ok (.astore 5, 2) := by decide +kernel
theorem dL_find_17 : decode cL_find 17 = .ok (.iconst 1, 1) := by decide +kernel
theorem dL_find_18 : decode cL_find 18 = .ok (.ireturn, 1) := by decide +kernel
theorem dL_find_19 : decode cL_find 19 = .ok (.astore 5, 2) := by decide +kernel
theorem dL_find_21 : decode cL_find 21 = .ok (.iconst 2, 1) := by decide +kernel
theorem dL_find_22 : decode cL_find 22 = .ok (.ireturn, 1) := by decide +kernel
theorem dL_find_23 : decode cL_find 23 = .ok (.iconst 0, 1) := by decide +kernel
theorem dL_find_24 : decode cL_find 24 = .ok (.ireturn, 1) := by decide +kernel
theorem dL_hitAt_0 : decode cL_hitAt 0 = .ok (.aload_n 2, 1) := by decide +kernel
theorem dL_hitAt_1 : decode cL_hitAt 1 = .ok (.iconst 0, 1) := by decide +kernel
theorem dL_hitAt_2 : decode cL_hitAt 2 = .ok (.aload_n 0, 1) := by decide +kernel
theorem dL_hitAt_3 : decode cL_hitAt 3 = .ok (.iload_n 1, 1) := by decide +kernel
theorem dL_hitAt_4 : decode cL_hitAt 4 = .ok (.invokevirtual 153, 3) := by decide +kernel
theorem dL_hitAt_7 : decode cL_hitAt 7 = .ok (.i2l, 1) := by decide +kernel
theorem dL_hitAt_8 : decode cL_hitAt 8 = .ok (.lastore, 1) := by decide +kernel
theorem dL_hitAt_9 : decode cL_hitAt 9 = .ok (.goto 6, 3) := by decide +kernel
theorem dL_hitAt_12 : decode cL_hitAt 12 = .ok (.astore_n 3, 1) := by decide +kernel
theorem dL_hitAt_13 : decode cL_hitAt 13 = .ok (.iconst 1, 1) := by decide +kernel
theorem dL_hitAt_14 : decode cL_hitAt 14 = .ok (.ireturn, 1) := by decide +kernel
theorem dL_hitAt_15 : decode cL_hitAt 15 = .ok (.iconst 0, 1) := by decide +kernel
theorem dL_hitAt_16 : decode cL_hitAt 16 = .ok (.ireturn, 1) := by decide +kernel
theorem dL_rankAt_0 : decode cL_rankAt 0 = .ok (.aload_n 2, 1) := by decide +kernel
theorem dL_rankAt_1 : decode cL_rankAt 1 = .ok (.iconst 0, 1) := by decide +kernel
theorem dL_rankAt_2 : decode cL_rankAt 2 = .ok (.aload_n 0, 1) := by decide +kernel
theorem dL_rankAt_3 : decode cL_rankAt 3 = .ok (.iload_n 1, 1) := by decide +kernel
theorem dL_rankAt_4 : decode cL_rankAt 4 = .ok (.invokevirtual 156, 3) := by decide +kernel
theorem dL_rankAt_7 : decode cL_rankAt 7 = .ok (.i2l, 1) := by decide +kernel
theorem dL_rankAt_8 : decode cL_rankAt 8 = .ok (.lastore, 1) := by decide +kernel
theorem dL_rankAt_9 : decode cL_rankAt 9 = .ok (.goto 6, 3) := by decide +kernel
theorem dL_rankAt_12 : decode cL_rankAt 12 = .ok (.astore_n 3, 1) := by decide +kernel
theorem dL_rankAt_13 : decode cL_rankAt 13 = .ok (.iconst 1, 1) := by decide +kernel
theorem dL_rankAt_14 : decode cL_rankAt 14 = .ok (.ireturn, 1) := by decide +kernel
theorem dL_rankAt_15 : decode cL_rankAt 15 = .ok (.iconst 0, 1) := by decide +kernel
theorem dL_rankAt_16 : decode cL_rankAt 16 = .ok (.ireturn, 1) := by decide +kernel
theorem dL_rankByScan_0 : decode cL_rankByScan 0 = .ok (.aload 4, 2) := by decide +kernel
theorem dL_rankByScan_2 : decode cL_rankByScan 2 = .ok (.iconst 0, 1) := by decide +kernel
theorem dL_rankByScan_3 : decode cL_rankByScan 3 = .ok (.aload_n 0, 1) := by decide +kernel
theorem dL_rankByScan_4 : decode cL_rankByScan 4 = .ok (.iload_n 1, 1) := by decide +kernel
theorem dL_rankByScan_5 : decode cL_rankByScan 5 = .ok (.iload_n 2, 1) := by decide +kernel
theorem dL_rankByScan_6 : decode cL_rankByScan 6 = .ok (.iload_n 3, 1) := by decide +kernel
theorem dL_rankByScan_7 : decode cL_rankByScan 7 = .ok (.invokevirtual 159, 3) := by decide +kernel
theorem dL_rankByScan_10 : decode cL_rankByScan 10 = .ok (.i2l, 1) := by decide +kernel
theorem dL_rankByScan_11 : decode cL_rankByScan 11 = .ok (.lastore, 1) := by decide +kernel
theorem dL_rankByScan_12 : decode cL_rankByScan 12 = .ok (.goto 7, 3) := by decide +kernel
theorem dL_rankByScan_15 : decode cL_rankByScan 15 = .ok (.astore 5, 2) := by decide +kernel
theorem dL_rankByScan_17 : decode cL_rankByScan 17 = .ok (.iconst 1, 1) := by decide +kernel
theorem dL_rankByScan_18 : decode cL_rankByScan 18 = .ok (.ireturn, 1) := by decide +kernel
theorem dL_rankByScan_19 : decode cL_rankByScan 19 = .ok (.iconst 0, 1) := by decide +kernel
theorem dL_rankByScan_20 : decode cL_rankByScan 20 = .ok (.ireturn, 1) := by decide +kernel
theorem dL_matches_0 : decode cL_matches 0 = .ok (.aload_n 3, 1) := by decide +kernel
theorem dL_matches_1 : decode cL_matches 1 = .ok (.iconst 0, 1) := by decide +kernel
theorem dL_matches_2 : decode cL_matches 2 = .ok (.aload_n 0, 1) := by decide +kernel
theorem dL_matches_3 : decode cL_matches 3 = .ok (.iload_n 1, 1) := by decide +kernel
theorem dL_matches_4 : decode cL_matches 4 = .ok (.iload_n 2, 1) := by decide +kernel
theorem dL_matches_5 : decode cL_matches 5 = .ok (.invokevirtual 162, 3) := by decide +kernel
theorem dL_matches_8 : decode cL_matches 8 = .ok (.i2l, 1) := by decide +kernel
theorem dL_matches_9 : decode cL_matches 9 = .ok (.lastore, 1) := by decide +kernel
theorem dL_matches_10 : decode cL_matches 10 = .ok (.goto 7, 3) := by decide +kernel
theorem dL_matches_13 : decode cL_matches 13 = .ok (.astore 4, 2) := by decide +kernel
theorem dL_matches_15 : decode cL_matches 15 = .ok (.iconst 1, 1) := by decide +kernel
theorem dL_matches_16 : decode cL_matches 16 = .ok (.ireturn, 1) := by decide +kernel
theorem dL_matches_17 : decode cL_matches 17 = .ok (.iconst 0, 1) := by decide +kernel
theorem dL_matches_18 : decode cL_matches 18 = .ok (.ireturn, 1) := by decide +kernel
theorem dL_matchesByScan_0 : decode cL_matchesByScan 0 = .ok (.aload_n 3, 1) := by decide +kernel
theorem dL_matchesByScan_1 : decode cL_matchesByScan 1 = .ok (.iconst 0, 1) := by decide +kernel
theorem dL_matchesByScan_2 : decode cL_matchesByScan 2 = .ok (.aload_n 0, 1) := by decide +kernel
theorem dL_matchesByScan_3 : decode cL_matchesByScan 3 = .ok (.iload_n 1, 1) := by decide +kernel
theorem dL_matchesByScan_4 : decode cL_matchesByScan 4 = .ok (.iload_n 2, 1) := by decide +kernel
theorem dL_matchesByScan_5 : decode cL_matchesByScan 5 = .ok (.invokevirtual 165, 3) := by decide +kernel
theorem dL_matchesByScan_8 : decode cL_matchesByScan 8 = .ok (.i2l, 1) := by decide +kernel
theorem dL_matchesByScan_9 : decode cL_matchesByScan 9 = .ok (.lastore, 1) := by decide +kernel
theorem dL_matchesByScan_10 : decode cL_matchesByScan 10 = .ok (.goto 7, 3) := by decide +kernel
theorem dL_matchesByScan_13 : decode cL_matchesByScan 13 = .ok (.astore 4, 2) := by decide +kernel
theorem dL_matchesByScan_15 : decode cL_matchesByScan 15 = .ok (.iconst 1, 1) := by decide +kernel
theorem dL_matchesByScan_16 : decode cL_matchesByScan 16 = .ok (.ireturn, 1) := by decide +kernel
theorem dL_matchesByScan_17 : decode cL_matchesByScan 17 = .ok (.iconst 0, 1) := by decide +kernel
theorem dL_matchesByScan_18 : decode cL_matchesByScan 18 = .ok (.ireturn, 1) := by decide +kernel
theorem dL_facet_0 : decode cL_facet 0 = .ok (.aload 4, 2) := by decide +kernel
theorem dL_facet_2 : decode cL_facet 2 = .ok (.iconst 0, 1) := by decide +kernel
theorem dL_facet_3 : decode cL_facet 3 = .ok (.aload_n 0, 1) := by decide +kernel
theorem dL_facet_4 : decode cL_facet 4 = .ok (.iload_n 1, 1) := by decide +kernel
theorem dL_facet_5 : decode cL_facet 5 = .ok (.iload_n 2, 1) := by decide +kernel
theorem dL_facet_6 : decode cL_facet 6 = .ok (.iload_n 3, 1) := by decide +kernel
theorem dL_facet_7 : decode cL_facet 7 = .ok (.invokevirtual 168, 3) := by decide +kernel
theorem dL_facet_10 : decode cL_facet 10 = .ok (.i2l, 1) := by decide +kernel
theorem dL_facet_11 : decode cL_facet 11 = .ok (.lastore, 1) := by decide +kernel
theorem dL_facet_12 : decode cL_facet 12 = .ok (.goto 11, 3) := by decide +kernel
theorem dL_facet_15 : decode cL_facet 15 = .ok (.astore 5, 2) := by decide +kernel
theorem dL_facet_17 : decode cL_facet 17 = .ok (.iconst 1, 1) := by decide +kernel
theorem dL_facet_18 : decode cL_facet 18 = .ok (.ireturn, 1) := by decide +kernel
theorem dL_facet_19 : decode cL_facet 19 = .ok (.astore 5, 2) := by decide +kernel
theorem dL_facet_21 : decode cL_facet 21 = .ok (.iconst 2, 1) := by decide +kernel
theorem dL_facet_22 : decode cL_facet 22 = .ok (.ireturn, 1) := by decide +kernel
theorem dL_facet_23 : decode cL_facet 23 = .ok (.iconst 0, 1) := by decide +kernel
theorem dL_facet_24 : decode cL_facet 24 = .ok (.ireturn, 1) := by decide +kernel
theorem dL_sortedAt_0 : decode cL_sortedAt 0 = .ok (.aload 5, 2) := by decide +kernel
theorem dL_sortedAt_2 : decode cL_sortedAt 2 = .ok (.iconst 0, 1) := by decide +kernel
theorem dL_sortedAt_3 : decode cL_sortedAt 3 = .ok (.aload_n 0, 1) := by decide +kernel
theorem dL_sortedAt_4 : decode cL_sortedAt 4 = .ok (.iload_n 1, 1) := by decide +kernel
theorem dL_sortedAt_5 : decode cL_sortedAt 5 = .ok (.iload_n 2, 1) := by decide +kernel
theorem dL_sortedAt_6 : decode cL_sortedAt 6 = .ok (.iload_n 3, 1) := by decide +kernel
theorem dL_sortedAt_7 : decode cL_sortedAt 7 = .ok (.iload 4, 2) := by decide +kernel
theorem dL_sortedAt_9 : decode cL_sortedAt 9 = .ok (.invokevirtual 171, 3) := by decide +kernel
theorem dL_sortedAt_12 : decode cL_sortedAt 12 = .ok (.i2l, 1) := by decide +kernel
theorem dL_sortedAt_13 : decode cL_sortedAt 13 = .ok (.lastore, 1) := by decide +kernel
theorem dL_sortedAt_14 : decode cL_sortedAt 14 = .ok (.goto 7, 3) := by decide +kernel
theorem dL_sortedAt_17 : decode cL_sortedAt 17 = .ok (.astore 6, 2) := by decide +kernel
theorem dL_sortedAt_19 : decode cL_sortedAt 19 = .ok (.iconst 1, 1) := by decide +kernel
theorem dL_sortedAt_20 : decode cL_sortedAt 20 = .ok (.ireturn, 1) := by decide +kernel
theorem dL_sortedAt_21 : decode cL_sortedAt 21 = .ok (.iconst 0, 1) := by decide +kernel
theorem dL_sortedAt_22 : decode cL_sortedAt 22 = .ok (.ireturn, 1) := by decide +kernel
theorem dL_passages_0 : decode cL_passages 0 = .ok (.aload 5, 2) := by decide +kernel
theorem dL_passages_2 : decode cL_passages 2 = .ok (.iconst 0, 1) := by decide +kernel
theorem dL_passages_3 : decode cL_passages 3 = .ok (.aload_n 0, 1) := by decide +kernel
theorem dL_passages_4 : decode cL_passages 4 = .ok (.iload_n 1, 1) := by decide +kernel
theorem dL_passages_5 : decode cL_passages 5 = .ok (.iload_n 2, 1) := by decide +kernel
theorem dL_passages_6 : decode cL_passages 6 = .ok (.iload_n 3, 1) := by decide +kernel
theorem dL_passages_7 : decode cL_passages 7 = .ok (.iload 4, 2) := by decide +kernel
theorem dL_passages_9 : decode cL_passages 9 = .ok (.invokevirtual 175, 3) := by decide +kernel
theorem dL_passages_12 : decode cL_passages 12 = .ok (.i2l, 1) := by decide +kernel
theorem dL_passages_13 : decode cL_passages 13 = .ok (.lastore, 1) := by decide +kernel
theorem dL_passages_14 : decode cL_passages 14 = .ok (.goto 7, 3) := by decide +kernel
theorem dL_passages_17 : decode cL_passages 17 = .ok (.astore 6, 2) := by decide +kernel
theorem dL_passages_19 : decode cL_passages 19 = .ok (.iconst 1, 1) := by decide +kernel
theorem dL_passages_20 : decode cL_passages 20 = .ok (.ireturn, 1) := by decide +kernel
theorem dL_passages_21 : decode cL_passages 21 = .ok (.iconst 0, 1) := by decide +kernel
theorem dL_passages_22 : decode cL_passages 22 = .ok (.ireturn, 1) := by decide +kernel
theorem dL_passageAt_0 : decode cL_passageAt 0 = .ok (.aload 6, 2) := by decide +kernel
theorem dL_passageAt_2 : decode cL_passageAt 2 = .ok (.iconst 0, 1) := by decide +kernel
theorem dL_passageAt_3 : decode cL_passageAt 3 = .ok (.aload_n 0, 1) := by decide +kernel
theorem dL_passageAt_4 : decode cL_passageAt 4 = .ok (.iload_n 1, 1) := by decide +kernel
theorem dL_passageAt_5 : decode cL_passageAt 5 = .ok (.iload_n 2, 1) := by decide +kernel
theorem dL_passageAt_6 : decode cL_passageAt 6 = .ok (.iload_n 3, 1) := by decide +kernel
theorem dL_passageAt_7 : decode cL_passageAt 7 = .ok (.iload 4, 2) := by decide +kernel
theorem dL_passageAt_9 : decode cL_passageAt 9 = .ok (.iload 5, 2) := by decide +kernel
theorem dL_passageAt_11 : decode cL_passageAt 11 = .ok (.invokevirtual 178, 3) := by decide +kernel
theorem dL_passageAt_14 : decode cL_passageAt 14 = .ok (.i2l, 1) := by decide +kernel
theorem dL_passageAt_15 : decode cL_passageAt 15 = .ok (.lastore, 1) := by decide +kernel
theorem dL_passageAt_16 : decode cL_passageAt 16 = .ok (.goto 7, 3) := by decide +kernel
theorem dL_passageAt_19 : decode cL_passageAt 19 = .ok (.astore 7, 2) := by decide +kernel
theorem dL_passageAt_21 : decode cL_passageAt 21 = .ok (.iconst 1, 1) := by decide +kernel
theorem dL_passageAt_22 : decode cL_passageAt 22 = .ok (.ireturn, 1) := by decide +kernel
theorem dL_passageAt_23 : decode cL_passageAt 23 = .ok (.iconst 0, 1) := by decide +kernel
theorem dL_passageAt_24 : decode cL_passageAt 24 = .ok (.ireturn, 1) := by decide +kernel
