theorem d_L_begin_0 : decode method_3_code 0 = .ok (.aload_n 2, 1) := by decide +kernel
theorem d_L_begin_1 : decode method_3_code 1 = .ok (.iconst 0, 1) := by decide +kernel
theorem d_L_begin_2 : decode method_3_code 2 = .ok (.aload_n 0, 1) := by decide +kernel
theorem d_L_begin_3 : decode method_3_code 3 = .ok (.iload_n 1, 1) := by decide +kernel
theorem d_L_begin_4 : decode method_3_code 4 = .ok (.invokevirtual 7, 3) := by decide +kernel
theorem d_L_begin_7 : decode method_3_code 7 = .ok (.i2l, 1) := by decide +kernel
theorem d_L_begin_8 : decode method_3_code 8 = .ok (.lastore, 1) := by decide +kernel
theorem d_L_begin_9 : decode method_3_code 9 = .ok (.goto 9, 3) := by decide +kernel
theorem d_L_begin_12 : decode method_3_code 12 = .ok (.astore_n 3, 1) := by decide +kernel
theorem d_L_begin_13 : decode method_3_code 13 = .ok (.iconst 1, 1) := by decide +kernel
theorem d_L_begin_14 : decode method_3_code 14 = .ok (.ireturn, 1) := by decide +kernel
theorem d_L_begin_15 : decode method_3_code 15 = .ok (.astore_n 3, 1) := by decide +kernel
theorem d_L_begin_16 : decode method_3_code 16 = .ok (.iconst 2, 1) := by decide +kernel
theorem d_L_begin_17 : decode method_3_code 17 = .ok (.ireturn, 1) := by decide +kernel
theorem d_L_begin_18 : decode method_3_code 18 = .ok (.iconst 0, 1) := by decide +kernel
theorem d_L_begin_19 : decode method_3_code 19 = .ok (.ireturn, 1) := by decide +kernel
theorem d_L_read_0 : decode method_4_code 0 = .ok (.aload_n 3, 1) := by decide +kernel
theorem d_L_read_1 : decode method_4_code 1 = .ok (.iconst 0, 1) := by decide +kernel
theorem d_L_read_2 : decode method_4_code 2 = .ok (.aload_n 0, 1) := by decide +kernel
theorem d_L_read_3 : decode method_4_code 3 = .ok (.iload_n 1, 1) := by decide +kernel
theorem d_L_read_4 : decode method_4_code 4 = .ok (.iload_n 2, 1) := by decide +kernel
theorem d_L_read_5 : decode method_4_code 5 = .ok (.invokevirtual 17, 3) := by decide +kernel
theorem d_L_read_8 : decode method_4_code 8 = .ok (.i2l, 1) := by decide +kernel
theorem d_L_read_9 : decode method_4_code 9 = .ok (.lastore, 1) := by decide +kernel
theorem d_L_read_10 : decode method_4_code 10 = .ok (.goto 11, 3) := by decide +kernel
theorem d_L_read_13 : decode method_4_code 13 = .ok (.astore 4, 2) := by decide +kernel
theorem d_L_read_15 : decode method_4_code 15 = .ok (.iconst 1, 1) := by decide +kernel
theorem d_L_read_16 : decode method_4_code 16 = .ok (.ireturn, 1) := by decide +kernel
theorem d_L_read_17 : decode method_4_code 17 = .ok (.astore 4, 2) := by decide +kernel
theorem d_L_read_19 : decode method_4_code 19 = .ok (.iconst 2, 1) := by decide +kernel
theorem d_L_read_20 : decode method_4_code 20 = .ok (.ireturn, 1) := by decide +kernel
theorem d_L_read_21 : decode method_4_code 21 = .ok (.iconst 0, 1) := by decide +kernel
theorem d_L_read_22 : decode method_4_code 22 = .ok (.ireturn, 1) := by decide +kernel
theorem d_L_found_0 : decode method_5_code 0 = .ok (.aload_n 3, 1) := by decide +kernel
theorem d_L_found_1 : decode method_5_code 1 = .ok (.iconst 0, 1) := by decide +kernel
theorem d_L_found_2 : decode method_5_code 2 = .ok (.aload_n 0, 1) := by decide +kernel
theorem d_L_found_3 : decode method_5_code 3 = .ok (.iload_n 1, 1) := by decide +kernel
theorem d_L_found_4 : decode method_5_code 4 = .ok (.iload_n 2, 1) := by decide +kernel
theorem d_L_found_5 : decode method_5_code 5 = .ok (.invokevirtual 23, 3) := by decide +kernel
theorem d_L_found_8 : decode method_5_code 8 = .ok (.ifCond .eq 7, 3) := by decide +kernel
theorem d_L_found_11 : decode method_5_code 11 = .ok (.lconst 1, 1) := by decide +kernel
theorem d_L_found_12 : decode method_5_code 12 = .ok (.goto 4, 3) := by decide +kernel
theorem d_L_found_15 : decode method_5_code 15 = .ok (.lconst 0, 1) := by decide +kernel
theorem d_L_found_16 : decode method_5_code 16 = .ok (.lastore, 1) := by decide +kernel
theorem d_L_found_17 : decode method_5_code 17 = .ok (.goto 11, 3) := by decide +kernel
theorem d_L_found_20 : decode method_5_code 20 = .ok (.astore 4, 2) := by decide +kernel
theorem d_L_found_22 : decode method_5_code 22 = .ok (.iconst 1, 1) := by decide +kernel
theorem d_L_found_23 : decode method_5_code 23 = .ok (.ireturn, 1) := by decide +kernel
theorem d_L_found_24 : decode method_5_code 24 = .ok (.astore 4, 2) := by decide +kernel
theorem d_L_found_26 : decode method_5_code 26 = .ok (.iconst 2, 1) := by decide +kernel
theorem d_L_found_27 : decode method_5_code 27 = .ok (.ireturn, 1) := by decide +kernel
theorem d_L_found_28 : decode method_5_code 28 = .ok (.iconst 0, 1) := by decide +kernel
theorem d_L_found_29 : decode method_5_code 29 = .ok (.ireturn, 1) := by decide +kernel
theorem d_L_write_0 : decode method_6_code 0 = .ok (.aload 4, 2) := by decide +kernel
theorem d_L_write_2 : decode method_6_code 2 = .ok (.iconst 0, 1) := by decide +kernel
theorem d_L_write_3 : decode method_6_code 3 = .ok (.aload_n 0, 1) := by decide +kernel
theorem d_L_write_4 : decode method_6_code 4 = .ok (.iload_n 1, 1) := by decide +kernel
theorem d_L_write_5 : decode method_6_code 5 = .ok (.iload_n 2, 1) := by decide +kernel
theorem d_L_write_6 : decode method_6_code 6 = .ok (.iload_n 3, 1) := by decide +kernel
theorem d_L_write_7 : decode method_6_code 7 = .ok (.invokevirtual 27, 3) := by decide +kernel
theorem d_L_write_10 : decode method_6_code 10 = .ok (.i2l, 1) := by decide +kernel
theorem d_L_write_11 : decode method_6_code 11 = .ok (.lastore, 1) := by decide +kernel
theorem d_L_write_12 : decode method_6_code 12 = .ok (.goto 11, 3) := by decide +kernel
theorem d_L_write_15 : decode method_6_code 15 = .ok (.astore 5, 2) := by decide +kernel
theorem d_L_write_17 : decode method_6_code 17 = .ok (.iconst 1, 1) := by decide +kernel
theorem d_L_write_18 : decode method_6_code 18 = .ok (.ireturn, 1) := by decide +kernel
theorem d_L_write_19 : decode method_6_code 19 = .ok (.astore 5, 2) := by decide +kernel
theorem d_L_write_21 : decode method_6_code 21 = .ok (.iconst 2, 1) := by decide +kernel
theorem d_L_write_22 : decode method_6_code 22 = .ok (.ireturn, 1) := by decide +kernel
theorem d_L_write_23 : decode method_6_code 23 = .ok (.iconst 0, 1) := by decide +kernel
theorem d_L_write_24 : decode method_6_code 24 = .ok (.ireturn, 1) := by decide +kernel
theorem d_L_erase_0 : decode method_7_code 0 = .ok (.aload_n 3, 1) := by decide +kernel
theorem d_L_erase_1 : decode method_7_code 1 = .ok (.iconst 0, 1) := by decide +kernel
theorem d_L_erase_2 : decode method_7_code 2 = .ok (.aload_n 0, 1) := by decide +kernel
theorem d_L_erase_3 : decode method_7_code 3 = .ok (.iload_n 1, 1) := by decide +kernel
theorem d_L_erase_4 : decode method_7_code 4 = .ok (.iload_n 2, 1) := by decide +kernel
theorem d_L_erase_5 : decode method_7_code 5 = .ok (.invokevirtual 31, 3) := by decide +kernel
theorem d_L_erase_8 : decode method_7_code 8 = .ok (.i2l, 1) := by decide +kernel
theorem d_L_erase_9 : decode method_7_code 9 = .ok (.lastore, 1) := by decide +kernel
theorem d_L_erase_10 : decode method_7_code 10 = .ok (.goto 11, 3) := by decide +kernel
theorem d_L_erase_13 : decode method_7_code 13 = .ok (.astore 4, 2) := by decide +kernel
theorem d_L_erase_15 : decode method_7_code 15 = .ok (.iconst 1, 1) := by decide +kernel
theorem d_L_erase_16 : decode method_7_code 16 = .ok (.ireturn, 1) := by decide +kernel
theorem d_L_erase_17 : decode method_7_code 17 = .ok (.astore 4, 2) := by decide +kernel
theorem d_L_erase_19 : decode method_7_code 19 = .ok (.iconst 2, 1) := by decide +kernel
theorem d_L_erase_20 : decode method_7_code 20 = .ok (.ireturn, 1) := by decide +kernel
theorem d_L_erase_21 : decode method_7_code 21 = .ok (.iconst 0, 1) := by decide +kernel
theorem d_L_erase_22 : decode method_7_code 22 = .ok (.ireturn, 1) := by decide +kernel
theorem d_L_sum_0 : decode method_8_code 0 = .ok (.aload 4, 2) := by decide +kernel
theorem d_L_sum_2 : decode method_8_code 2 = .ok (.iconst 0, 1) := by decide +kernel
theorem d_L_sum_3 : decode method_8_code 3 = .ok (.aload_n 0, 1) := by decide +kernel
theorem d_L_sum_4 : decode method_8_code 4 = .ok (.iload_n 1, 1) := by decide +kernel
theorem d_L_sum_5 : decode method_8_code 5 = .ok (.iload_n 2, 1) := by decide +kernel
theorem d_L_sum_6 : decode method_8_code 6 = .ok (.iload_n 3, 1) := by decide +kernel
theorem d_L_sum_7 : decode method_8_code 7 = .ok (.invokevirtual 34, 3) := by decide +kernel
theorem d_L_sum_10 : decode method_8_code 10 = .ok (.lastore, 1) := by decide +kernel
theorem d_L_sum_11 : decode method_8_code 11 = .ok (.goto 11, 3) := by decide +kernel
theorem d_L_sum_14 : decode method_8_code 14 = .ok (.astore 5, 2) := by decide +kernel
theorem d_L_sum_16 : decode method_8_code 16 = .ok (.iconst 1, 1) := by decide +kernel
theorem d_L_sum_17 : decode method_8_code 17 = .ok (.ireturn, 1) := by decide +kernel
theorem d_L_sum_18 : decode method_8_code 18 = .ok (.astore 5, 2) := by decide +kernel
theorem d_L_sum_20 : decode method_8_code 20 = .ok (.iconst 2, 1) := by decide +kernel
theorem d_L_sum_21 : decode method_8_code 21 = .ok (.ireturn, 1) := by decide +kernel
theorem d_L_sum_22 : decode method_8_code 22 = .ok (.iconst 0, 1) := by decide +kernel
theorem d_L_sum_23 : decode method_8_code 23 = .ok (.ireturn, 1) := by decide +kernel
theorem d_L_key_0 : decode method_9_code 0 = .ok (.aload 4, 2) := by decide +kernel
theorem d_L_key_2 : decode method_9_code 2 = .ok (.iconst 0, 1) := by decide +kernel
theorem d_L_key_3 : decode method_9_code 3 = .ok (.aload_n 0, 1) := by decide +kernel
theorem d_L_key_4 : decode method_9_code 4 = .ok (.iload_n 1, 1) := by decide +kernel
theorem d_L_key_5 : decode method_9_code 5 = .ok (.iload_n 2, 1) := by decide +kernel
theorem d_L_key_6 : decode method_9_code 6 = .ok (.iload_n 3, 1) := by decide +kernel
theorem d_L_key_7 : decode method_9_code 7 = .ok (.invokevirtual 38, 3) := by decide +kernel
theorem d_L_key_10 : decode method_9_code 10 = .ok (.lastore, 1) := by decide +kernel
theorem d_L_key_11 : decode method_9_code 11 = .ok (.goto 15, 3) := by decide +kernel
theorem d_L_key_14 : decode method_9_code 14 = .ok (.astore 5, 2) := by decide +kernel
theorem d_L_key_16 : decode method_9_code 16 = .ok (.iconst 1, 1) := by decide +kernel
theorem d_L_key_17 : decode method_9_code 17 = .ok (.ireturn, 1) := by decide +kernel
theorem d_L_key_18 : decode method_9_code 18 = .ok (.astore 5, 2) := by decide +kernel
theorem d_L_key_20 : decode method_9_code 20 = .ok (.iconst 2, 1) := by decide +kernel
theorem d_L_key_21 : decode method_9_code 21 = .ok (.ireturn, 1) := by decide +kernel
theorem d_L_key_22 : decode method_9_code 22 = .ok (.astore 5, 2) := by decide +kernel
theorem d_L_key_24 : decode method_9_code 24 = .ok (.iconst 3, 1) := by decide +kernel
theorem d_L_key_25 : decode method_9_code 25 = .ok (.ireturn, 1) := by decide +kernel
theorem d_L_key_26 : decode method_9_code 26 = .ok (.iconst 0, 1) := by decide +kernel
theorem d_L_key_27 : decode method_9_code 27 = .ok (.ireturn, 1) := by decide +kernel
theorem d_L_save_0 : decode method_10_code 0 = .ok (.aload_n 2, 1) := by decide +kernel
theorem d_L_save_1 : decode method_10_code 1 = .ok (.iconst 0, 1) := by decide +kernel
theorem d_L_save_2 : decode method_10_code 2 = .ok (.aload_n 0, 1) := by decide +kernel
theorem d_L_save_3 : decode method_10_code 3 = .ok (.iload_n 1, 1) := by decide +kernel
theorem d_L_save_4 : decode method_10_code 4 = .ok (.invokevirtual 41, 3) := by decide +kernel
theorem d_L_save_7 : decode method_10_code 7 = .ok (.i2l, 1) := by decide +kernel
theorem d_L_save_8 : decode method_10_code 8 = .ok (.lastore, 1) := by decide +kernel
theorem d_L_save_9 : decode method_10_code 9 = .ok (.goto 9, 3) := by decide +kernel
theorem d_L_save_12 : decode method_10_code 12 = .ok (.astore_n 3, 1) := by decide +kernel
theorem d_L_save_13 : decode method_10_code 13 = .ok (.iconst 1, 1) := by decide +kernel
theorem d_L_save_14 : decode method_10_code 14 = .ok (.ireturn, 1) := by decide +kernel
theorem d_L_save_15 : decode method_10_code 15 = .ok (.astore_n 3, 1) := by decide +kernel
theorem d_L_save_16 : decode method_10_code 16 = .ok (.iconst 2, 1) := by decide +kernel
theorem d_L_save_17 : decode method_10_code 17 = .ok (.ireturn, 1) := by decide +kernel
theorem d_L_save_18 : decode method_10_code 18 = .ok (.iconst 0, 1) := by decide +kernel
theorem d_L_save_19 : decode method_10_code 19 = .ok (.ireturn, 1) := by decide +kernel
theorem d_L_back_0 : decode method_11_code 0 = .ok (.aload_n 3, 1) := by decide +kernel
theorem d_L_back_1 : decode method_11_code 1 = .ok (.iconst 0, 1) := by decide +kernel
theorem d_L_back_2 : decode method_11_code 2 = .ok (.aload_n 0, 1) := by decide +kernel
theorem d_L_back_3 : decode method_11_code 3 = .ok (.iload_n 1, 1) := by decide +kernel
theorem d_L_back_4 : decode method_11_code 4 = .ok (.iload_n 2, 1) := by decide +kernel
theorem d_L_back_5 : decode method_11_code 5 = .ok (.invokevirtual 44, 3) := by decide +kernel
theorem d_L_back_8 : decode method_11_code 8 = .ok (.i2l, 1) := by decide +kernel
theorem d_L_back_9 : decode method_11_code 9 = .ok (.lastore, 1) := by decide +kernel
theorem d_L_back_10 : decode method_11_code 10 = .ok (.goto 15, 3) := by decide +kernel
theorem d_L_back_13 : decode method_11_code 13 = .ok (.astore 4, 2) := by decide +kernel
theorem d_L_back_15 : decode method_11_code 15 = .ok (.iconst 1, 1) := by decide +kernel
theorem d_L_back_16 : decode method_11_code 16 = .ok (.ireturn, 1) := by decide +kernel
theorem d_L_back_17 : decode method_11_code 17 = .ok (.astore 4, 2) := by decide +kernel
theorem d_L_back_19 : decode method_11_code 19 = .ok (.iconst 2, 1) := by decide +kernel
theorem d_L_back_20 : decode method_11_code 20 = .ok (.ireturn, 1) := by decide +kernel
theorem d_L_back_21 : decode method_11_code 21 = .ok (.astore 4, 2) := by decide +kernel
theorem d_L_back_23 : decode method_11_code 23 = .ok (.iconst 3, 1) := by decide +kernel
theorem d_L_back_24 : decode method_11_code 24 = .ok (.ireturn, 1) := by decide +kernel
theorem d_L_back_25 : decode method_11_code 25 = .ok (.iconst 0, 1) := by decide +kernel
theorem d_L_back_26 : decode method_11_code 26 = .ok (.ireturn, 1) := by decide +kernel
theorem d_L_commit_0 : decode method_12_code 0 = .ok (.aload_n 2, 1) := by decide +kernel
theorem d_L_commit_1 : decode method_12_code 1 = .ok (.iconst 0, 1) := by decide +kernel
theorem d_L_commit_2 : decode method_12_code 2 = .ok (.aload_n 0, 1) := by decide +kernel
theorem d_L_commit_3 : decode method_12_code 3 = .ok (.iload_n 1, 1) := by decide +kernel
theorem d_L_commit_4 : decode method_12_code 4 = .ok (.invokevirtual 47, 3) := by decide +kernel
theorem d_L_commit_7 : decode method_12_code 7 = .ok (.i2l, 1) := by decide +kernel
theorem d_L_commit_8 : decode method_12_code 8 = .ok (.lastore, 1) := by decide +kernel
theorem d_L_commit_9 : decode method_12_code 9 = .ok (.goto 9, 3) := by decide +kernel
theorem d_L_commit_12 : decode method_12_code 12 = .ok (.astore_n 3, 1) := by decide +kernel
theorem d_L_commit_13 : decode method_12_code 13 = .ok (.iconst 1, 1) := by decide +kernel
theorem d_L_commit_14 : decode method_12_code 14 = .ok (.ireturn, 1) := by decide +kernel
theorem d_L_commit_15 : decode method_12_code 15 = .ok (.astore_n 3, 1) := by decide +kernel
theorem d_L_commit_16 : decode method_12_code 16 = .ok (.iconst 2, 1) := by decide +kernel
theorem d_L_commit_17 : decode method_12_code 17 = .ok (.ireturn, 1) := by decide +kernel
theorem d_L_commit_18 : decode method_12_code 18 = .ok (.iconst 0, 1) := by decide +kernel
theorem d_L_commit_19 : decode method_12_code 19 = .ok (.ireturn, 1) := by decide +kernel
theorem d_L_abort_0 : decode method_13_code 0 = .ok (.aload_n 2, 1) := by decide +kernel
theorem d_L_abort_1 : decode method_13_code 1 = .ok (.iconst 0, 1) := by decide +kernel
theorem d_L_abort_2 : decode method_13_code 2 = .ok (.aload_n 0, 1) := by decide +kernel
theorem d_L_abort_3 : decode method_13_code 3 = .ok (.iload_n 1, 1) := by decide +kernel
theorem d_L_abort_4 : decode method_13_code 4 = .ok (.invokevirtual 50, 3) := by decide +kernel
theorem d_L_abort_7 : decode method_13_code 7 = .ok (.i2l, 1) := by decide +kernel
theorem d_L_abort_8 : decode method_13_code 8 = .ok (.lastore, 1) := by decide +kernel
theorem d_L_abort_9 : decode method_13_code 9 = .ok (.goto 9, 3) := by decide +kernel
theorem d_L_abort_12 : decode method_13_code 12 = .ok (.astore_n 3, 1) := by decide +kernel
theorem d_L_abort_13 : decode method_13_code 13 = .ok (.iconst 1, 1) := by decide +kernel
theorem d_L_abort_14 : decode method_13_code 14 = .ok (.ireturn, 1) := by decide +kernel
theorem d_L_abort_15 : decode method_13_code 15 = .ok (.astore_n 3, 1) := by decide +kernel
theorem d_L_abort_16 : decode method_13_code 16 = .ok (.iconst 2, 1) := by decide +kernel
theorem d_L_abort_17 : decode method_13_code 17 = .ok (.ireturn, 1) := by decide +kernel
theorem d_L_abort_18 : decode method_13_code 18 = .ok (.iconst 0, 1) := by decide +kernel
theorem d_L_abort_19 : decode method_13_code 19 = .ok (.ireturn, 1) := by decide +kernel
theorem d_L_told_0 : decode method_14_code 0 = .ok (.aload_n 3, 1) := by decide +kernel
theorem d_L_told_1 : decode method_14_code 1 = .ok (.iconst 0, 1) := by decide +kernel
theorem d_L_told_2 : decode method_14_code 2 = .ok (.aload_n 0, 1) := by decide +kernel
theorem d_L_told_3 : decode method_14_code 3 = .ok (.iload_n 1, 1) := by decide +kernel
theorem d_L_told_4 : decode method_14_code 4 = .ok (.iload_n 2, 1) := by decide +kernel
theorem d_L_told_5 : decode method_14_code 5 = .ok (.invokevirtual 53, 3) := by decide +kernel
theorem d_L_told_8 : decode method_14_code 8 = .ok (.i2l, 1) := by decide +kernel
theorem d_L_told_9 : decode method_14_code 9 = .ok (.lastore, 1) := by decide +kernel
theorem d_L_told_10 : decode method_14_code 10 = .ok (.goto 11, 3) := by decide +kernel
theorem d_L_told_13 : decode method_14_code 13 = .ok (.astore 4, 2) := by decide +kernel
theorem d_L_told_15 : decode method_14_code 15 = .ok (.iconst 1, 1) := by decide +kernel
theorem d_L_told_16 : decode method_14_code 16 = .ok (.ireturn, 1) := by decide +kernel
theorem d_L_told_17 : decode method_14_code 17 = .ok (.astore 4, 2) := by decide +kernel
theorem d_L_told_19 : decode method_14_code 19 = .ok (.iconst 2, 1) := by decide +kernel
theorem d_L_told_20 : decode method_14_code 20 = .ok (.ireturn, 1) := by decide +kernel
theorem d_L_told_21 : decode method_14_code 21 = .ok (.iconst 0, 1) := by decide +kernel
theorem d_L_told_22 : decode method_14_code 22 = .ok (.ireturn, 1) := by decide +kernel
