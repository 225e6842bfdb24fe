theorem d_S_init_0 : decode prog_1_method_1_code 0 = .ok (.aload_n 0, 1) := by decide +kernel
theorem d_S_init_1 : decode prog_1_method_1_code 1 = .ok (.invokespecial 1, 3) := by decide +kernel
theorem d_S_init_4 : decode prog_1_method_1_code 4 = .ok (.aload_n 0, 1) := by decide +kernel
theorem d_S_init_5 : decode prog_1_method_1_code 5 = .ok (.bipush 120, 2) := by decide +kernel
theorem d_S_init_7 : decode prog_1_method_1_code 7 = .ok (.anewarray 9, 3) := by decide +kernel
theorem d_S_init_10 : decode prog_1_method_1_code 10 = .ok (.putfield 11, 3) := by decide +kernel
theorem d_S_init_13 : decode prog_1_method_1_code 13 = .ok (.return_, 1) := by decide +kernel
theorem d_S_vacuum_0 : decode prog_1_method_13_code 0 = .ok (.iconst 0, 1) := by decide +kernel
theorem d_S_vacuum_1 : decode prog_1_method_13_code 1 = .ok (.istore_n 1, 1) := by decide +kernel
theorem d_S_vacuum_2 : decode prog_1_method_13_code 2 = .ok (.aload_n 0, 1) := by decide +kernel
theorem d_S_vacuum_3 : decode prog_1_method_13_code 3 = .ok (.getfield 63, 3) := by decide +kernel
theorem d_S_vacuum_6 : decode prog_1_method_13_code 6 = .ok (.astore_n 2, 1) := by decide +kernel
theorem d_S_vacuum_7 : decode prog_1_method_13_code 7 = .ok (.aload_n 2, 1) := by decide +kernel
theorem d_S_vacuum_8 : decode prog_1_method_13_code 8 = .ok (.ifnull 27, 3) := by decide +kernel
theorem d_S_vacuum_11 : decode prog_1_method_13_code 11 = .ok (.iload_n 1, 1) := by decide +kernel
theorem d_S_vacuum_12 : decode prog_1_method_13_code 12 = .ok (.aload_n 0, 1) := by decide +kernel
theorem d_S_vacuum_13 : decode prog_1_method_13_code 13 = .ok (.aload_n 2, 1) := by decide +kernel
theorem d_S_vacuum_14 : decode prog_1_method_13_code 14 = .ok (.invokevirtual 142, 3) := by decide +kernel
theorem d_S_vacuum_17 : decode prog_1_method_13_code 17 = .ok (.iadd, 1) := by decide +kernel
theorem d_S_vacuum_18 : decode prog_1_method_13_code 18 = .ok (.istore_n 1, 1) := by decide +kernel
theorem d_S_vacuum_19 : decode prog_1_method_13_code 19 = .ok (.iload_n 1, 1) := by decide +kernel
theorem d_S_vacuum_20 : decode prog_1_method_13_code 20 = .ok (.aload_n 0, 1) := by decide +kernel
theorem d_S_vacuum_21 : decode prog_1_method_13_code 21 = .ok (.aload_n 2, 1) := by decide +kernel
theorem d_S_vacuum_22 : decode prog_1_method_13_code 22 = .ok (.invokevirtual 146, 3) := by decide +kernel
theorem d_S_vacuum_25 : decode prog_1_method_13_code 25 = .ok (.iadd, 1) := by decide +kernel
theorem d_S_vacuum_26 : decode prog_1_method_13_code 26 = .ok (.istore_n 1, 1) := by decide +kernel
theorem d_S_vacuum_27 : decode prog_1_method_13_code 27 = .ok (.aload_n 2, 1) := by decide +kernel
theorem d_S_vacuum_28 : decode prog_1_method_13_code 28 = .ok (.getfield 72, 3) := by decide +kernel
theorem d_S_vacuum_31 : decode prog_1_method_13_code 31 = .ok (.astore_n 2, 1) := by decide +kernel
theorem d_S_vacuum_32 : decode prog_1_method_13_code 32 = .ok (.goto (-25), 3) := by decide +kernel
theorem d_S_vacuum_35 : decode prog_1_method_13_code 35 = .ok (.iload_n 1, 1) := by decide +kernel
theorem d_S_vacuum_36 : decode prog_1_method_13_code 36 = .ok (.ireturn, 1) := by decide +kernel
theorem d_S_dropUnseen_0 : decode prog_1_method_36_code 0 = .ok (.iconst 0, 1) := by decide +kernel
theorem d_S_dropUnseen_1 : decode prog_1_method_36_code 1 = .ok (.istore_n 2, 1) := by decide +kernel
theorem d_S_dropUnseen_2 : decode prog_1_method_36_code 2 = .ok (.ldc 83, 2) := by decide +kernel
theorem d_S_dropUnseen_4 : decode prog_1_method_36_code 4 = .ok (.istore_n 3, 1) := by decide +kernel
theorem d_S_dropUnseen_5 : decode prog_1_method_36_code 5 = .ok (.aconst_null, 1) := by decide +kernel
theorem d_S_dropUnseen_6 : decode prog_1_method_36_code 6 = .ok (.astore 4, 2) := by decide +kernel
theorem d_S_dropUnseen_8 : decode prog_1_method_36_code 8 = .ok (.aload_n 1, 1) := by decide +kernel
theorem d_S_dropUnseen_9 : decode prog_1_method_36_code 9 = .ok (.getfield 156, 3) := by decide +kernel
theorem d_S_dropUnseen_12 : decode prog_1_method_36_code 12 = .ok (.astore 5, 2) := by decide +kernel
theorem d_S_dropUnseen_14 : decode prog_1_method_36_code 14 = .ok (.aload 5, 2) := by decide +kernel
theorem d_S_dropUnseen_16 : decode prog_1_method_36_code 16 = .ok (.ifnull 50, 3) := by decide +kernel
theorem d_S_dropUnseen_19 : decode prog_1_method_36_code 19 = .ok (.aload_n 0, 1) := by decide +kernel
theorem d_S_dropUnseen_20 : decode prog_1_method_36_code 20 = .ok (.aload 5, 2) := by decide +kernel
theorem d_S_dropUnseen_22 : decode prog_1_method_36_code 22 = .ok (.getfield 241, 3) := by decide +kernel
theorem d_S_dropUnseen_25 : decode prog_1_method_36_code 25 = .ok (.iload_n 3, 1) := by decide +kernel
theorem d_S_dropUnseen_26 : decode prog_1_method_36_code 26 = .ok (.invokevirtual 257, 3) := by decide +kernel
theorem d_S_dropUnseen_29 : decode prog_1_method_36_code 29 = .ok (.ifCond .eq 10, 3) := by decide +kernel
theorem d_S_dropUnseen_32 : decode prog_1_method_36_code 32 = .ok (.aload 5, 2) := by decide +kernel
theorem d_S_dropUnseen_34 : decode prog_1_method_36_code 34 = .ok (.astore 4, 2) := by decide +kernel
theorem d_S_dropUnseen_36 : decode prog_1_method_36_code 36 = .ok (.goto 14, 3) := by decide +kernel
theorem d_S_dropUnseen_39 : decode prog_1_method_36_code 39 = .ok (.aload_n 1, 1) := by decide +kernel
theorem d_S_dropUnseen_40 : decode prog_1_method_36_code 40 = .ok (.aload 5, 2) := by decide +kernel
theorem d_S_dropUnseen_42 : decode prog_1_method_36_code 42 = .ok (.aload 4, 2) := by decide +kernel
theorem d_S_dropUnseen_44 : decode prog_1_method_36_code 44 = .ok (.invokevirtual 261, 3) := by decide +kernel
theorem d_S_dropUnseen_47 : decode prog_1_method_36_code 47 = .ok (.iinc 2 1, 3) := by decide +kernel
theorem d_S_dropUnseen_50 : decode prog_1_method_36_code 50 = .ok (.aload 5, 2) := by decide +kernel
theorem d_S_dropUnseen_52 : decode prog_1_method_36_code 52 = .ok (.getfield 241, 3) := by decide +kernel
theorem d_S_dropUnseen_55 : decode prog_1_method_36_code 55 = .ok (.istore_n 3, 1) := by decide +kernel
theorem d_S_dropUnseen_56 : decode prog_1_method_36_code 56 = .ok (.aload 5, 2) := by decide +kernel
theorem d_S_dropUnseen_58 : decode prog_1_method_36_code 58 = .ok (.getfield 265, 3) := by decide +kernel
theorem d_S_dropUnseen_61 : decode prog_1_method_36_code 61 = .ok (.astore 5, 2) := by decide +kernel
theorem d_S_dropUnseen_63 : decode prog_1_method_36_code 63 = .ok (.goto (-49), 3) := by decide +kernel
theorem d_S_dropUnseen_66 : decode prog_1_method_36_code 66 = .ok (.iload_n 2, 1) := by decide +kernel
theorem d_S_dropUnseen_67 : decode prog_1_method_36_code 67 = .ok (.ireturn, 1) := by decide +kernel
theorem d_S_isLookedAt_0 : decode prog_1_method_38_code 0 = .ok (.aload_n 0, 1) := by decide +kernel
theorem d_S_isLookedAt_1 : decode prog_1_method_38_code 1 = .ok (.getfield 31, 3) := by decide +kernel
theorem d_S_isLookedAt_4 : decode prog_1_method_38_code 4 = .ok (.iload_n 1, 1) := by decide +kernel
theorem d_S_isLookedAt_5 : decode prog_1_method_38_code 5 = .ok (.if_icmp .lt 11, 3) := by decide +kernel
theorem d_S_isLookedAt_8 : decode prog_1_method_38_code 8 = .ok (.aload_n 0, 1) := by decide +kernel
theorem d_S_isLookedAt_9 : decode prog_1_method_38_code 9 = .ok (.getfield 31, 3) := by decide +kernel
theorem d_S_isLookedAt_12 : decode prog_1_method_38_code 12 = .ok (.iload_n 2, 1) := by decide +kernel
theorem d_S_isLookedAt_13 : decode prog_1_method_38_code 13 = .ok (.if_icmp .lt 19, 3) := by decide +kernel
theorem d_S_isLookedAt_16 : decode prog_1_method_38_code 16 = .ok (.aload_n 0, 1) := by decide +kernel
theorem d_S_isLookedAt_17 : decode prog_1_method_38_code 17 = .ok (.getfield 149, 3) := by decide +kernel
theorem d_S_isLookedAt_20 : decode prog_1_method_38_code 20 = .ok (.iload_n 1, 1) := by decide +kernel
theorem d_S_isLookedAt_21 : decode prog_1_method_38_code 21 = .ok (.if_icmp .lt 13, 3) := by decide +kernel
theorem d_S_isLookedAt_24 : decode prog_1_method_38_code 24 = .ok (.aload_n 0, 1) := by decide +kernel
theorem d_S_isLookedAt_25 : decode prog_1_method_38_code 25 = .ok (.getfield 149, 3) := by decide +kernel
theorem d_S_isLookedAt_28 : decode prog_1_method_38_code 28 = .ok (.iload_n 2, 1) := by decide +kernel
theorem d_S_isLookedAt_29 : decode prog_1_method_38_code 29 = .ok (.if_icmp .ge 5, 3) := by decide +kernel
theorem d_S_isLookedAt_32 : decode prog_1_method_38_code 32 = .ok (.iconst 1, 1) := by decide +kernel
theorem d_S_isLookedAt_33 : decode prog_1_method_38_code 33 = .ok (.ireturn, 1) := by decide +kernel
theorem d_S_isLookedAt_34 : decode prog_1_method_38_code 34 = .ok (.aload_n 0, 1) := by decide +kernel
theorem d_S_isLookedAt_35 : decode prog_1_method_38_code 35 = .ok (.getfield 11, 3) := by decide +kernel
theorem d_S_isLookedAt_38 : decode prog_1_method_38_code 38 = .ok (.astore_n 3, 1) := by decide +kernel
theorem d_S_isLookedAt_39 : decode prog_1_method_38_code 39 = .ok (.aload_n 3, 1) := by decide +kernel
theorem d_S_isLookedAt_40 : decode prog_1_method_38_code 40 = .ok (.arraylength, 1) := by decide +kernel
theorem d_S_isLookedAt_41 : decode prog_1_method_38_code 41 = .ok (.istore 4, 2) := by decide +kernel
theorem d_S_isLookedAt_43 : decode prog_1_method_38_code 43 = .ok (.iconst 0, 1) := by decide +kernel
theorem d_S_isLookedAt_44 : decode prog_1_method_38_code 44 = .ok (.istore 5, 2) := by decide +kernel
theorem d_S_isLookedAt_46 : decode prog_1_method_38_code 46 = .ok (.iload 5, 2) := by decide +kernel
theorem d_S_isLookedAt_48 : decode prog_1_method_38_code 48 = .ok (.iload 4, 2) := by decide +kernel
theorem d_S_isLookedAt_50 : decode prog_1_method_38_code 50 = .ok (.if_icmp .ge 48, 3) := by decide +kernel
theorem d_S_isLookedAt_53 : decode prog_1_method_38_code 53 = .ok (.aload_n 3, 1) := by decide +kernel
theorem d_S_isLookedAt_54 : decode prog_1_method_38_code 54 = .ok (.iload 5, 2) := by decide +kernel
theorem d_S_isLookedAt_56 : decode prog_1_method_38_code 56 = .ok (.aaload, 1) := by decide +kernel
theorem d_S_isLookedAt_57 : decode prog_1_method_38_code 57 = .ok (.astore 6, 2) := by decide +kernel
theorem d_S_isLookedAt_59 : decode prog_1_method_38_code 59 = .ok (.aload 6, 2) := by decide +kernel
theorem d_S_isLookedAt_61 : decode prog_1_method_38_code 61 = .ok (.ifnull 31, 3) := by decide +kernel
theorem d_S_isLookedAt_64 : decode prog_1_method_38_code 64 = .ok (.aload 6, 2) := by decide +kernel
theorem d_S_isLookedAt_66 : decode prog_1_method_38_code 66 = .ok (.getfield 160, 3) := by decide +kernel
theorem d_S_isLookedAt_69 : decode prog_1_method_38_code 69 = .ok (.ifCond .ne 23, 3) := by decide +kernel
theorem d_S_isLookedAt_72 : decode prog_1_method_38_code 72 = .ok (.aload 6, 2) := by decide +kernel
theorem d_S_isLookedAt_74 : decode prog_1_method_38_code 74 = .ok (.getfield 166, 3) := by decide +kernel
theorem d_S_isLookedAt_77 : decode prog_1_method_38_code 77 = .ok (.iload_n 1, 1) := by decide +kernel
theorem d_S_isLookedAt_78 : decode prog_1_method_38_code 78 = .ok (.if_icmp .lt 14, 3) := by decide +kernel
theorem d_S_isLookedAt_81 : decode prog_1_method_38_code 81 = .ok (.aload 6, 2) := by decide +kernel
theorem d_S_isLookedAt_83 : decode prog_1_method_38_code 83 = .ok (.getfield 166, 3) := by decide +kernel
theorem d_S_isLookedAt_86 : decode prog_1_method_38_code 86 = .ok (.iload_n 2, 1) := by decide +kernel
theorem d_S_isLookedAt_87 : decode prog_1_method_38_code 87 = .ok (.if_icmp .ge 5, 3) := by decide +kernel
theorem d_S_isLookedAt_90 : decode prog_1_method_38_code 90 = .ok (.iconst 1, 1) := by decide +kernel
theorem d_S_isLookedAt_91 : decode prog_1_method_38_code 91 = .ok (.ireturn, 1) := by decide +kernel
theorem d_S_isLookedAt_92 : decode prog_1_method_38_code 92 = .ok (.iinc 5 1, 3) := by decide +kernel
theorem d_S_isLookedAt_95 : decode prog_1_method_38_code 95 = .ok (.goto (-49), 3) := by decide +kernel
theorem d_S_isLookedAt_98 : decode prog_1_method_38_code 98 = .ok (.iconst 0, 1) := by decide +kernel
theorem d_S_isLookedAt_99 : decode prog_1_method_38_code 99 = .ok (.ireturn, 1) := by decide +kernel
theorem d_Key_unlink_0 : decode prog_2_method_6_code 0 = .ok (.aload_n 2, 1) := by decide +kernel
theorem d_Key_unlink_1 : decode prog_2_method_6_code 1 = .ok (.ifnonnull 14, 3) := by decide +kernel
theorem d_Key_unlink_4 : decode prog_2_method_6_code 4 = .ok (.aload_n 0, 1) := by decide +kernel
theorem d_Key_unlink_5 : decode prog_2_method_6_code 5 = .ok (.aload_n 1, 1) := by decide +kernel
theorem d_Key_unlink_6 : decode prog_2_method_6_code 6 = .ok (.getfield 28, 3) := by decide +kernel
theorem d_Key_unlink_9 : decode prog_2_method_6_code 9 = .ok (.putfield 19, 3) := by decide +kernel
theorem d_Key_unlink_12 : decode prog_2_method_6_code 12 = .ok (.goto 11, 3) := by decide +kernel
theorem d_Key_unlink_15 : decode prog_2_method_6_code 15 = .ok (.aload_n 2, 1) := by decide +kernel
theorem d_Key_unlink_16 : decode prog_2_method_6_code 16 = .ok (.aload_n 1, 1) := by decide +kernel
theorem d_Key_unlink_17 : decode prog_2_method_6_code 17 = .ok (.getfield 28, 3) := by decide +kernel
theorem d_Key_unlink_20 : decode prog_2_method_6_code 20 = .ok (.putfield 28, 3) := by decide +kernel
theorem d_Key_unlink_23 : decode prog_2_method_6_code 23 = .ok (.return_, 1) := by decide +kernel
theorem d_S_dropOldestErased_0 : decode prog_1_method_37_code 0 = .ok (.aconst_null, 1) := by decide +kernel
theorem d_S_dropOldestErased_1 : decode prog_1_method_37_code 1 = .ok (.astore_n 2, 1) := by decide +kernel
theorem d_S_dropOldestErased_2 : decode prog_1_method_37_code 2 = .ok (.aload_n 1, 1) := by decide +kernel
theorem d_S_dropOldestErased_3 : decode prog_1_method_37_code 3 = .ok (.getfield 156, 3) := by decide +kernel
theorem d_S_dropOldestErased_6 : decode prog_1_method_37_code 6 = .ok (.astore_n 3, 1) := by decide +kernel
theorem d_S_dropOldestErased_7 : decode prog_1_method_37_code 7 = .ok (.aload_n 3, 1) := by decide +kernel
theorem d_S_dropOldestErased_8 : decode prog_1_method_37_code 8 = .ok (.ifnull 20, 3) := by decide +kernel
theorem d_S_dropOldestErased_11 : decode prog_1_method_37_code 11 = .ok (.aload_n 3, 1) := by decide +kernel
theorem d_S_dropOldestErased_12 : decode prog_1_method_37_code 12 = .ok (.getfield 265, 3) := by decide +kernel
theorem d_S_dropOldestErased_15 : decode prog_1_method_37_code 15 = .ok (.ifnull 13, 3) := by decide +kernel
theorem d_S_dropOldestErased_18 : decode prog_1_method_37_code 18 = .ok (.aload_n 3, 1) := by decide +kernel
theorem d_S_dropOldestErased_19 : decode prog_1_method_37_code 19 = .ok (.astore_n 2, 1) := by decide +kernel
theorem d_S_dropOldestErased_20 : decode prog_1_method_37_code 20 = .ok (.aload_n 3, 1) := by decide +kernel
theorem d_S_dropOldestErased_21 : decode prog_1_method_37_code 21 = .ok (.getfield 265, 3) := by decide +kernel
theorem d_S_dropOldestErased_24 : decode prog_1_method_37_code 24 = .ok (.astore_n 3, 1) := by decide +kernel
theorem d_S_dropOldestErased_25 : decode prog_1_method_37_code 25 = .ok (.goto (-18), 3) := by decide +kernel
theorem d_S_dropOldestErased_28 : decode prog_1_method_37_code 28 = .ok (.aload_n 3, 1) := by decide +kernel
theorem d_S_dropOldestErased_29 : decode prog_1_method_37_code 29 = .ok (.ifnull 26, 3) := by decide +kernel
theorem d_S_dropOldestErased_32 : decode prog_1_method_37_code 32 = .ok (.aload_n 3, 1) := by decide +kernel
theorem d_S_dropOldestErased_33 : decode prog_1_method_37_code 33 = .ok (.getfield 268, 3) := by decide +kernel
theorem d_S_dropOldestErased_36 : decode prog_1_method_37_code 36 = .ok (.ldc2_w 57, 3) := by decide +kernel
theorem d_S_dropOldestErased_39 : decode prog_1_method_37_code 39 = .ok (.lcmp, 1) := by decide +kernel
theorem d_S_dropOldestErased_40 : decode prog_1_method_37_code 40 = .ok (.ifCond .ne 15, 3) := by decide +kernel
theorem d_S_dropOldestErased_43 : decode prog_1_method_37_code 43 = .ok (.aload_n 0, 1) := by decide +kernel
theorem d_S_dropOldestErased_44 : decode prog_1_method_37_code 44 = .ok (.iconst 0, 1) := by decide +kernel
theorem d_S_dropOldestErased_45 : decode prog_1_method_37_code 45 = .ok (.aload_n 3, 1) := by decide +kernel
theorem d_S_dropOldestErased_46 : decode prog_1_method_37_code 46 = .ok (.getfield 241, 3) := by decide +kernel
theorem d_S_dropOldestErased_49 : decode prog_1_method_37_code 49 = .ok (.invokevirtual 257, 3) := by decide +kernel
theorem d_S_dropOldestErased_52 : decode prog_1_method_37_code 52 = .ok (.ifCond .eq 5, 3) := by decide +kernel
theorem d_S_dropOldestErased_55 : decode prog_1_method_37_code 55 = .ok (.iconst 0, 1) := by decide +kernel
theorem d_S_dropOldestErased_56 : decode prog_1_method_37_code 56 = .ok (.ireturn, 1) := by decide +kernel
theorem d_S_dropOldestErased_57 : decode prog_1_method_37_code 57 = .ok (.aload_n 1, 1) := by decide +kernel
theorem d_S_dropOldestErased_58 : decode prog_1_method_37_code 58 = .ok (.aload_n 3, 1) := by decide +kernel
theorem d_S_dropOldestErased_59 : decode prog_1_method_37_code 59 = .ok (.aload_n 2, 1) := by decide +kernel
theorem d_S_dropOldestErased_60 : decode prog_1_method_37_code 60 = .ok (.invokevirtual 261, 3) := by decide +kernel
theorem d_S_dropOldestErased_63 : decode prog_1_method_37_code 63 = .ok (.iconst 1, 1) := by decide +kernel
theorem d_S_dropOldestErased_64 : decode prog_1_method_37_code 64 = .ok (.ireturn, 1) := by decide +kernel
theorem d_S_flush_0 : decode prog_1_method_14_code 0 = .ok (.aload_n 0, 1) := by decide +kernel
theorem d_S_flush_1 : decode prog_1_method_14_code 1 = .ok (.getfield 31, 3) := by decide +kernel
theorem d_S_flush_4 : decode prog_1_method_14_code 4 = .ok (.aload_n 0, 1) := by decide +kernel
theorem d_S_flush_5 : decode prog_1_method_14_code 5 = .ok (.getfield 149, 3) := by decide +kernel
theorem d_S_flush_8 : decode prog_1_method_14_code 8 = .ok (.isub, 1) := by decide +kernel
theorem d_S_flush_9 : decode prog_1_method_14_code 9 = .ok (.istore_n 1, 1) := by decide +kernel
theorem d_S_flush_10 : decode prog_1_method_14_code 10 = .ok (.aload_n 0, 1) := by decide +kernel
theorem d_S_flush_11 : decode prog_1_method_14_code 11 = .ok (.aload_n 0, 1) := by decide +kernel
theorem d_S_flush_12 : decode prog_1_method_14_code 12 = .ok (.getfield 31, 3) := by decide +kernel
theorem d_S_flush_15 : decode prog_1_method_14_code 15 = .ok (.putfield 149, 3) := by decide +kernel
theorem d_S_flush_18 : decode prog_1_method_14_code 18 = .ok (.iload_n 1, 1) := by decide +kernel
theorem d_S_flush_19 : decode prog_1_method_14_code 19 = .ok (.ireturn, 1) := by decide +kernel
theorem d_S_crash_0 : decode prog_1_method_15_code 0 = .ok (.aload_n 0, 1) := by decide +kernel
theorem d_S_crash_1 : decode prog_1_method_15_code 1 = .ok (.aload_n 0, 1) := by decide +kernel
theorem d_S_crash_2 : decode prog_1_method_15_code 2 = .ok (.getfield 149, 3) := by decide +kernel
theorem d_S_crash_5 : decode prog_1_method_15_code 5 = .ok (.putfield 31, 3) := by decide +kernel
theorem d_S_crash_8 : decode prog_1_method_15_code 8 = .ok (.aload_n 0, 1) := by decide +kernel
theorem d_S_crash_9 : decode prog_1_method_15_code 9 = .ok (.getfield 63, 3) := by decide +kernel
theorem d_S_crash_12 : decode prog_1_method_15_code 12 = .ok (.astore_n 1, 1) := by decide +kernel
theorem d_S_crash_13 : decode prog_1_method_15_code 13 = .ok (.aload_n 1, 1) := by decide +kernel
theorem d_S_crash_14 : decode prog_1_method_15_code 14 = .ok (.ifnull 23, 3) := by decide +kernel
theorem d_S_crash_17 : decode prog_1_method_15_code 17 = .ok (.aload_n 1, 1) := by decide +kernel
theorem d_S_crash_18 : decode prog_1_method_15_code 18 = .ok (.aload_n 1, 1) := by decide +kernel
theorem d_S_crash_19 : decode prog_1_method_15_code 19 = .ok (.aload_n 0, 1) := by decide +kernel
theorem d_S_crash_20 : decode prog_1_method_15_code 20 = .ok (.getfield 149, 3) := by decide +kernel
theorem d_S_crash_23 : decode prog_1_method_15_code 23 = .ok (.invokevirtual 152, 3) := by decide +kernel
theorem d_S_crash_26 : decode prog_1_method_15_code 26 = .ok (.putfield 156, 3) := by decide +kernel
theorem d_S_crash_29 : decode prog_1_method_15_code 29 = .ok (.aload_n 1, 1) := by decide +kernel
theorem d_S_crash_30 : decode prog_1_method_15_code 30 = .ok (.getfield 72, 3) := by decide +kernel
theorem d_S_crash_33 : decode prog_1_method_15_code 33 = .ok (.astore_n 1, 1) := by decide +kernel
theorem d_S_crash_34 : decode prog_1_method_15_code 34 = .ok (.goto (-21), 3) := by decide +kernel
theorem d_S_crash_37 : decode prog_1_method_15_code 37 = .ok (.iconst 0, 1) := by decide +kernel
theorem d_S_crash_38 : decode prog_1_method_15_code 38 = .ok (.istore_n 1, 1) := by decide +kernel
theorem d_S_crash_39 : decode prog_1_method_15_code 39 = .ok (.aload_n 0, 1) := by decide +kernel
theorem d_S_crash_40 : decode prog_1_method_15_code 40 = .ok (.getfield 11, 3) := by decide +kernel
theorem d_S_crash_43 : decode prog_1_method_15_code 43 = .ok (.astore_n 2, 1) := by decide +kernel
theorem d_S_crash_44 : decode prog_1_method_15_code 44 = .ok (.aload_n 2, 1) := by decide +kernel
theorem d_S_crash_45 : decode prog_1_method_15_code 45 = .ok (.arraylength, 1) := by decide +kernel
theorem d_S_crash_46 : decode prog_1_method_15_code 46 = .ok (.istore_n 3, 1) := by decide +kernel
theorem d_S_crash_47 : decode prog_1_method_15_code 47 = .ok (.iconst 0, 1) := by decide +kernel
theorem d_S_crash_48 : decode prog_1_method_15_code 48 = .ok (.istore 4, 2) := by decide +kernel
theorem d_S_crash_50 : decode prog_1_method_15_code 50 = .ok (.iload 4, 2) := by decide +kernel
theorem d_S_crash_52 : decode prog_1_method_15_code 52 = .ok (.iload_n 3, 1) := by decide +kernel
theorem d_S_crash_53 : decode prog_1_method_15_code 53 = .ok (.if_icmp .ge 72, 3) := by decide +kernel
theorem d_S_crash_56 : decode prog_1_method_15_code 56 = .ok (.aload_n 2, 1) := by decide +kernel
theorem d_S_crash_57 : decode prog_1_method_15_code 57 = .ok (.iload 4, 2) := by decide +kernel
theorem d_S_crash_59 : decode prog_1_method_15_code 59 = .ok (.aaload, 1) := by decide +kernel
theorem d_S_crash_60 : decode prog_1_method_15_code 60 = .ok (.astore 5, 2) := by decide +kernel
theorem d_S_crash_62 : decode prog_1_method_15_code 62 = .ok (.aload 5, 2) := by decide +kernel
theorem d_S_crash_64 : decode prog_1_method_15_code 64 = .ok (.ifnull 20, 3) := by decide +kernel
theorem d_S_crash_67 : decode prog_1_method_15_code 67 = .ok (.aload 5, 2) := by decide +kernel
theorem d_S_crash_69 : decode prog_1_method_15_code 69 = .ok (.getfield 160, 3) := by decide +kernel
theorem d_S_crash_72 : decode prog_1_method_15_code 72 = .ok (.ifCond .ne 12, 3) := by decide +kernel
theorem d_S_crash_75 : decode prog_1_method_15_code 75 = .ok (.aload 5, 2) := by decide +kernel
theorem d_S_crash_77 : decode prog_1_method_15_code 77 = .ok (.iconst 2, 1) := by decide +kernel
theorem d_S_crash_78 : decode prog_1_method_15_code 78 = .ok (.invokevirtual 117, 3) := by decide +kernel
theorem d_S_crash_81 : decode prog_1_method_15_code 81 = .ok (.goto 38, 3) := by decide +kernel
theorem d_S_crash_84 : decode prog_1_method_15_code 84 = .ok (.aload 5, 2) := by decide +kernel
theorem d_S_crash_86 : decode prog_1_method_15_code 86 = .ok (.ifnull 33, 3) := by decide +kernel
theorem d_S_crash_89 : decode prog_1_method_15_code 89 = .ok (.aload 5, 2) := by decide +kernel
theorem d_S_crash_91 : decode prog_1_method_15_code 91 = .ok (.getfield 160, 3) := by decide +kernel
theorem d_S_crash_94 : decode prog_1_method_15_code 94 = .ok (.iconst 1, 1) := by decide +kernel
theorem d_S_crash_95 : decode prog_1_method_15_code 95 = .ok (.if_icmp .ne 24, 3) := by decide +kernel
theorem d_S_crash_98 : decode prog_1_method_15_code 98 = .ok (.aload 5, 2) := by decide +kernel
theorem d_S_crash_100 : decode prog_1_method_15_code 100 = .ok (.getfield 135, 3) := by decide +kernel
theorem d_S_crash_103 : decode prog_1_method_15_code 103 = .ok (.aload_n 0, 1) := by decide +kernel
theorem d_S_crash_104 : decode prog_1_method_15_code 104 = .ok (.getfield 149, 3) := by decide +kernel
theorem d_S_crash_107 : decode prog_1_method_15_code 107 = .ok (.if_icmp .le 12, 3) := by decide +kernel
theorem d_S_crash_110 : decode prog_1_method_15_code 110 = .ok (.aload 5, 2) := by decide +kernel
theorem d_S_crash_112 : decode prog_1_method_15_code 112 = .ok (.iconst 3, 1) := by decide +kernel
theorem d_S_crash_113 : decode prog_1_method_15_code 113 = .ok (.invokevirtual 117, 3) := by decide +kernel
theorem d_S_crash_116 : decode prog_1_method_15_code 116 = .ok (.iinc 1 1, 3) := by decide +kernel
theorem d_S_crash_119 : decode prog_1_method_15_code 119 = .ok (.iinc 4 1, 3) := by decide +kernel
theorem d_S_crash_122 : decode prog_1_method_15_code 122 = .ok (.goto (-72), 3) := by decide +kernel
theorem d_S_crash_125 : decode prog_1_method_15_code 125 = .ok (.iload_n 1, 1) := by decide +kernel
theorem d_S_crash_126 : decode prog_1_method_15_code 126 = .ok (.ireturn, 1) := by decide +kernel
theorem d_Key_versionAt_0 : decode prog_2_method_2_code 0 = .ok (.aload_n 0, 1) := by decide +kernel
theorem d_Key_versionAt_1 : decode prog_2_method_2_code 1 = .ok (.getfield 19, 3) := by decide +kernel
theorem d_Key_versionAt_4 : decode prog_2_method_2_code 4 = .ok (.astore_n 2, 1) := by decide +kernel
theorem d_Key_versionAt_5 : decode prog_2_method_2_code 5 = .ok (.aload_n 2, 1) := by decide +kernel
theorem d_Key_versionAt_6 : decode prog_2_method_2_code 6 = .ok (.ifnull 21, 3) := by decide +kernel
theorem d_Key_versionAt_9 : decode prog_2_method_2_code 9 = .ok (.aload_n 2, 1) := by decide +kernel
theorem d_Key_versionAt_10 : decode prog_2_method_2_code 10 = .ok (.getfield 23, 3) := by decide +kernel
theorem d_Key_versionAt_13 : decode prog_2_method_2_code 13 = .ok (.iload_n 1, 1) := by decide +kernel
theorem d_Key_versionAt_14 : decode prog_2_method_2_code 14 = .ok (.if_icmp .gt 5, 3) := by decide +kernel
theorem d_Key_versionAt_17 : decode prog_2_method_2_code 17 = .ok (.aload_n 2, 1) := by decide +kernel
theorem d_Key_versionAt_18 : decode prog_2_method_2_code 18 = .ok (.areturn, 1) := by decide +kernel
theorem d_Key_versionAt_19 : decode prog_2_method_2_code 19 = .ok (.aload_n 2, 1) := by decide +kernel
theorem d_Key_versionAt_20 : decode prog_2_method_2_code 20 = .ok (.getfield 28, 3) := by decide +kernel
theorem d_Key_versionAt_23 : decode prog_2_method_2_code 23 = .ok (.astore_n 2, 1) := by decide +kernel
theorem d_Key_versionAt_24 : decode prog_2_method_2_code 24 = .ok (.goto (-19), 3) := by decide +kernel
theorem d_Key_versionAt_27 : decode prog_2_method_2_code 27 = .ok (.aconst_null, 1) := by decide +kernel
theorem d_Key_versionAt_28 : decode prog_2_method_2_code 28 = .ok (.areturn, 1) := by decide +kernel
theorem d_Tx_end_0 : decode prog_5_method_2_code 0 = .ok (.aload_n 0, 1) := by decide +kernel
theorem d_Tx_end_1 : decode prog_5_method_2_code 1 = .ok (.iload_n 1, 1) := by decide +kernel
theorem d_Tx_end_2 : decode prog_5_method_2_code 2 = .ok (.putfield 9, 3) := by decide +kernel
theorem d_Tx_end_5 : decode prog_5_method_2_code 5 = .ok (.aload_n 0, 1) := by decide +kernel
theorem d_Tx_end_6 : decode prog_5_method_2_code 6 = .ok (.aconst_null, 1) := by decide +kernel
theorem d_Tx_end_7 : decode prog_5_method_2_code 7 = .ok (.putfield 24, 3) := by decide +kernel
theorem d_Tx_end_10 : decode prog_5_method_2_code 10 = .ok (.return_, 1) := by decide +kernel
theorem d_S_at_0 : decode prog_1_method_17_code 0 = .ok (.aload_n 0, 1) := by decide +kernel
theorem d_S_at_1 : decode prog_1_method_17_code 1 = .ok (.iload_n 1, 1) := by decide +kernel
theorem d_S_at_2 : decode prog_1_method_17_code 2 = .ok (.invokevirtual 45, 3) := by decide +kernel
theorem d_S_at_5 : decode prog_1_method_17_code 5 = .ok (.astore_n 3, 1) := by decide +kernel
theorem d_S_at_6 : decode prog_1_method_17_code 6 = .ok (.aload_n 3, 1) := by decide +kernel
theorem d_S_at_7 : decode prog_1_method_17_code 7 = .ok (.ifnonnull 7, 3) := by decide +kernel
theorem d_S_at_10 : decode prog_1_method_17_code 10 = .ok (.iconst 0, 1) := by decide +kernel
theorem d_S_at_11 : decode prog_1_method_17_code 11 = .ok (.goto 25, 3) := by decide +kernel
theorem d_S_at_14 : decode prog_1_method_17_code 14 = .ok (.aload_n 3, 1) := by decide +kernel
theorem d_S_at_15 : decode prog_1_method_17_code 15 = .ok (.iload_n 2, 1) := by decide +kernel
theorem d_S_at_16 : decode prog_1_method_17_code 16 = .ok (.ifCond .eq 10, 3) := by decide +kernel
theorem d_S_at_19 : decode prog_1_method_17_code 19 = .ok (.aload_n 0, 1) := by decide +kernel
theorem d_S_at_20 : decode prog_1_method_17_code 20 = .ok (.getfield 149, 3) := by decide +kernel
theorem d_S_at_23 : decode prog_1_method_17_code 23 = .ok (.goto 7, 3) := by decide +kernel
theorem d_S_at_26 : decode prog_1_method_17_code 26 = .ok (.aload_n 0, 1) := by decide +kernel
theorem d_S_at_27 : decode prog_1_method_17_code 27 = .ok (.getfield 31, 3) := by decide +kernel
theorem d_S_at_30 : decode prog_1_method_17_code 30 = .ok (.invokevirtual 171, 3) := by decide +kernel
theorem d_S_at_33 : decode prog_1_method_17_code 33 = .ok (.invokestatic 53, 3) := by decide +kernel
theorem d_S_at_36 : decode prog_1_method_17_code 36 = .ok (.ireturn, 1) := by decide +kernel
theorem d_S_keyNamed_0 : decode prog_1_method_26_code 0 = .ok (.aload_n 0, 1) := by decide +kernel
theorem d_S_keyNamed_1 : decode prog_1_method_26_code 1 = .ok (.iload_n 1, 1) := by decide +kernel
theorem d_S_keyNamed_2 : decode prog_1_method_26_code 2 = .ok (.invokevirtual 230, 3) := by decide +kernel
theorem d_S_keyNamed_5 : decode prog_1_method_26_code 5 = .ok (.astore_n 2, 1) := by decide +kernel
theorem d_S_keyNamed_6 : decode prog_1_method_26_code 6 = .ok (.aload_n 2, 1) := by decide +kernel
theorem d_S_keyNamed_7 : decode prog_1_method_26_code 7 = .ok (.ifnull 15, 3) := by decide +kernel
theorem d_S_keyNamed_10 : decode prog_1_method_26_code 10 = .ok (.aload_n 2, 1) := by decide +kernel
theorem d_S_keyNamed_11 : decode prog_1_method_26_code 11 = .ok (.getfield 67, 3) := by decide +kernel
theorem d_S_keyNamed_14 : decode prog_1_method_26_code 14 = .ok (.iload_n 1, 1) := by decide +kernel
theorem d_S_keyNamed_15 : decode prog_1_method_26_code 15 = .ok (.if_icmp .ne 7, 3) := by decide +kernel
theorem d_S_keyNamed_18 : decode prog_1_method_26_code 18 = .ok (.aload_n 2, 1) := by decide +kernel
theorem d_S_keyNamed_19 : decode prog_1_method_26_code 19 = .ok (.goto 4, 3) := by decide +kernel
theorem d_S_keyNamed_22 : decode prog_1_method_26_code 22 = .ok (.aconst_null, 1) := by decide +kernel
theorem d_S_keyNamed_23 : decode prog_1_method_26_code 23 = .ok (.areturn, 1) := by decide +kernel
theorem d_S_lastUpTo_0 : decode prog_1_method_28_code 0 = .ok (.aconst_null, 1) := by decide +kernel
theorem d_S_lastUpTo_1 : decode prog_1_method_28_code 1 = .ok (.astore_n 2, 1) := by decide +kernel
theorem d_S_lastUpTo_2 : decode prog_1_method_28_code 2 = .ok (.aload_n 0, 1) := by decide +kernel
theorem d_S_lastUpTo_3 : decode prog_1_method_28_code 3 = .ok (.getfield 63, 3) := by decide +kernel
theorem d_S_lastUpTo_6 : decode prog_1_method_28_code 6 = .ok (.astore_n 3, 1) := by decide +kernel
theorem d_S_lastUpTo_7 : decode prog_1_method_28_code 7 = .ok (.aload_n 3, 1) := by decide +kernel
theorem d_S_lastUpTo_8 : decode prog_1_method_28_code 8 = .ok (.ifnull 21, 3) := by decide +kernel
theorem d_S_lastUpTo_11 : decode prog_1_method_28_code 11 = .ok (.aload_n 3, 1) := by decide +kernel
theorem d_S_lastUpTo_12 : decode prog_1_method_28_code 12 = .ok (.getfield 67, 3) := by decide +kernel
theorem d_S_lastUpTo_15 : decode prog_1_method_28_code 15 = .ok (.iload_n 1, 1) := by decide +kernel
theorem d_S_lastUpTo_16 : decode prog_1_method_28_code 16 = .ok (.if_icmp .gt 13, 3) := by decide +kernel
theorem d_S_lastUpTo_19 : decode prog_1_method_28_code 19 = .ok (.aload_n 3, 1) := by decide +kernel
theorem d_S_lastUpTo_20 : decode prog_1_method_28_code 20 = .ok (.astore_n 2, 1) := by decide +kernel
theorem d_S_lastUpTo_21 : decode prog_1_method_28_code 21 = .ok (.aload_n 3, 1) := by decide +kernel
theorem d_S_lastUpTo_22 : decode prog_1_method_28_code 22 = .ok (.getfield 72, 3) := by decide +kernel
theorem d_S_lastUpTo_25 : decode prog_1_method_28_code 25 = .ok (.astore_n 3, 1) := by decide +kernel
theorem d_S_lastUpTo_26 : decode prog_1_method_28_code 26 = .ok (.goto (-19), 3) := by decide +kernel
theorem d_S_lastUpTo_29 : decode prog_1_method_28_code 29 = .ok (.aload_n 2, 1) := by decide +kernel
theorem d_S_lastUpTo_30 : decode prog_1_method_28_code 30 = .ok (.areturn, 1) := by decide +kernel
theorem d_Key_contentAt_0 : decode prog_2_method_3_code 0 = .ok (.aload_n 0, 1) := by decide +kernel
theorem d_Key_contentAt_1 : decode prog_2_method_3_code 1 = .ok (.iload_n 1, 1) := by decide +kernel
theorem d_Key_contentAt_2 : decode prog_2_method_3_code 2 = .ok (.invokevirtual 31, 3) := by decide +kernel
theorem d_Key_contentAt_5 : decode prog_2_method_3_code 5 = .ok (.astore_n 2, 1) := by decide +kernel
theorem d_Key_contentAt_6 : decode prog_2_method_3_code 6 = .ok (.aload_n 2, 1) := by decide +kernel
theorem d_Key_contentAt_7 : decode prog_2_method_3_code 7 = .ok (.ifnonnull 9, 3) := by decide +kernel
theorem d_Key_contentAt_10 : decode prog_2_method_3_code 10 = .ok (.ldc2_w 35, 3) := by decide +kernel
theorem d_Key_contentAt_13 : decode prog_2_method_3_code 13 = .ok (.goto 7, 3) := by decide +kernel
theorem d_Key_contentAt_16 : decode prog_2_method_3_code 16 = .ok (.aload_n 2, 1) := by decide +kernel
theorem d_Key_contentAt_17 : decode prog_2_method_3_code 17 = .ok (.getfield 37, 3) := by decide +kernel
theorem d_Key_contentAt_20 : decode prog_2_method_3_code 20 = .ok (.lreturn, 1) := by decide +kernel
theorem d_S_valueOrZero_0 : decode prog_1_method_30_code 0 = .ok (.lload_n 0, 1) := by decide +kernel
theorem d_S_valueOrZero_1 : decode prog_1_method_30_code 1 = .ok (.ldc2_w 57, 3) := by decide +kernel
theorem d_S_valueOrZero_4 : decode prog_1_method_30_code 4 = .ok (.lcmp, 1) := by decide +kernel
theorem d_S_valueOrZero_5 : decode prog_1_method_30_code 5 = .ok (.ifCond .ne 7, 3) := by decide +kernel
theorem d_S_valueOrZero_8 : decode prog_1_method_30_code 8 = .ok (.iconst 0, 1) := by decide +kernel
theorem d_S_valueOrZero_9 : decode prog_1_method_30_code 9 = .ok (.goto 5, 3) := by decide +kernel
theorem d_S_valueOrZero_12 : decode prog_1_method_30_code 12 = .ok (.lload_n 0, 1) := by decide +kernel
theorem d_S_valueOrZero_13 : decode prog_1_method_30_code 13 = .ok (.l2i, 1) := by decide +kernel
theorem d_S_valueOrZero_14 : decode prog_1_method_30_code 14 = .ok (.ireturn, 1) := by decide +kernel
theorem d_S_versions_0 : decode prog_1_method_18_code 0 = .ok (.aload_n 0, 1) := by decide +kernel
theorem d_S_versions_1 : decode prog_1_method_18_code 1 = .ok (.iload_n 1, 1) := by decide +kernel
theorem d_S_versions_2 : decode prog_1_method_18_code 2 = .ok (.invokevirtual 45, 3) := by decide +kernel
theorem d_S_versions_5 : decode prog_1_method_18_code 5 = .ok (.astore_n 2, 1) := by decide +kernel
theorem d_S_versions_6 : decode prog_1_method_18_code 6 = .ok (.aload_n 2, 1) := by decide +kernel
theorem d_S_versions_7 : decode prog_1_method_18_code 7 = .ok (.ifnonnull 7, 3) := by decide +kernel
theorem d_S_versions_10 : decode prog_1_method_18_code 10 = .ok (.iconst 0, 1) := by decide +kernel
theorem d_S_versions_11 : decode prog_1_method_18_code 11 = .ok (.goto 7, 3) := by decide +kernel
theorem d_S_versions_14 : decode prog_1_method_18_code 14 = .ok (.aload_n 2, 1) := by decide +kernel
theorem d_S_versions_15 : decode prog_1_method_18_code 15 = .ok (.invokevirtual 175, 3) := by decide +kernel
theorem d_S_versions_18 : decode prog_1_method_18_code 18 = .ok (.ireturn, 1) := by decide +kernel
theorem d_Key_versionCount_0 : decode prog_2_method_4_code 0 = .ok (.iconst 0, 1) := by decide +kernel
theorem d_Key_versionCount_1 : decode prog_2_method_4_code 1 = .ok (.istore_n 1, 1) := by decide +kernel
theorem d_Key_versionCount_2 : decode prog_2_method_4_code 2 = .ok (.aload_n 0, 1) := by decide +kernel
theorem d_Key_versionCount_3 : decode prog_2_method_4_code 3 = .ok (.getfield 19, 3) := by decide +kernel
theorem d_Key_versionCount_6 : decode prog_2_method_4_code 6 = .ok (.astore_n 2, 1) := by decide +kernel
theorem d_Key_versionCount_7 : decode prog_2_method_4_code 7 = .ok (.aload_n 2, 1) := by decide +kernel
theorem d_Key_versionCount_8 : decode prog_2_method_4_code 8 = .ok (.ifnull 14, 3) := by decide +kernel
theorem d_Key_versionCount_11 : decode prog_2_method_4_code 11 = .ok (.iinc 1 1, 3) := by decide +kernel
theorem d_Key_versionCount_14 : decode prog_2_method_4_code 14 = .ok (.aload_n 2, 1) := by decide +kernel
theorem d_Key_versionCount_15 : decode prog_2_method_4_code 15 = .ok (.getfield 28, 3) := by decide +kernel
theorem d_Key_versionCount_18 : decode prog_2_method_4_code 18 = .ok (.astore_n 2, 1) := by decide +kernel
theorem d_Key_versionCount_19 : decode prog_2_method_4_code 19 = .ok (.goto (-12), 3) := by decide +kernel
theorem d_Key_versionCount_22 : decode prog_2_method_4_code 22 = .ok (.iload_n 1, 1) := by decide +kernel
theorem d_Key_versionCount_23 : decode prog_2_method_4_code 23 = .ok (.ireturn, 1) := by decide +kernel
theorem d_S_count_0 : decode prog_1_method_19_code 0 = .ok (.iload_n 1, 1) := by decide +kernel
theorem d_S_count_1 : decode prog_1_method_19_code 1 = .ok (.tableswitch 78 0 6 #[43, 48, 53, 58, 63, 68, 73], 43) := by decide +kernel
theorem d_S_count_44 : decode prog_1_method_19_code 44 = .ok (.aload_n 0, 1) := by decide +kernel
theorem d_S_count_45 : decode prog_1_method_19_code 45 = .ok (.getfield 31, 3) := by decide +kernel
theorem d_S_count_48 : decode prog_1_method_19_code 48 = .ok (.ireturn, 1) := by decide +kernel
theorem d_S_count_49 : decode prog_1_method_19_code 49 = .ok (.aload_n 0, 1) := by decide +kernel
theorem d_S_count_50 : decode prog_1_method_19_code 50 = .ok (.getfield 149, 3) := by decide +kernel
theorem d_S_count_53 : decode prog_1_method_19_code 53 = .ok (.ireturn, 1) := by decide +kernel
theorem d_S_count_54 : decode prog_1_method_19_code 54 = .ok (.aload_n 0, 1) := by decide +kernel
theorem d_S_count_55 : decode prog_1_method_19_code 55 = .ok (.invokevirtual 178, 3) := by decide +kernel
theorem d_S_count_58 : decode prog_1_method_19_code 58 = .ok (.ireturn, 1) := by decide +kernel
theorem d_S_count_59 : decode prog_1_method_19_code 59 = .ok (.aload_n 0, 1) := by decide +kernel
theorem d_S_count_60 : decode prog_1_method_19_code 60 = .ok (.invokevirtual 181, 3) := by decide +kernel
theorem d_S_count_63 : decode prog_1_method_19_code 63 = .ok (.ireturn, 1) := by decide +kernel
theorem d_S_count_64 : decode prog_1_method_19_code 64 = .ok (.aload_n 0, 1) := by decide +kernel
theorem d_S_count_65 : decode prog_1_method_19_code 65 = .ok (.invokevirtual 184, 3) := by decide +kernel
theorem d_S_count_68 : decode prog_1_method_19_code 68 = .ok (.ireturn, 1) := by decide +kernel
theorem d_S_count_69 : decode prog_1_method_19_code 69 = .ok (.aload_n 0, 1) := by decide +kernel
theorem d_S_count_70 : decode prog_1_method_19_code 70 = .ok (.getfield 22, 3) := by decide +kernel
theorem d_S_count_73 : decode prog_1_method_19_code 73 = .ok (.ireturn, 1) := by decide +kernel
theorem d_S_count_74 : decode prog_1_method_19_code 74 = .ok (.aload_n 0, 1) := by decide +kernel
theorem d_S_count_75 : decode prog_1_method_19_code 75 = .ok (.invokevirtual 187, 3) := by decide +kernel
theorem d_S_count_78 : decode prog_1_method_19_code 78 = .ok (.ireturn, 1) := by decide +kernel
theorem d_S_count_79 : decode prog_1_method_19_code 79 = .ok (.iconst (-1), 1) := by decide +kernel
theorem d_S_count_80 : decode prog_1_method_19_code 80 = .ok (.ireturn, 1) := by decide +kernel
theorem d_S_allVersions_0 : decode prog_1_method_39_code 0 = .ok (.iconst 0, 1) := by decide +kernel
theorem d_S_allVersions_1 : decode prog_1_method_39_code 1 = .ok (.istore_n 1, 1) := by decide +kernel
theorem d_S_allVersions_2 : decode prog_1_method_39_code 2 = .ok (.aload_n 0, 1) := by decide +kernel
theorem d_S_allVersions_3 : decode prog_1_method_39_code 3 = .ok (.getfield 63, 3) := by decide +kernel
theorem d_S_allVersions_6 : decode prog_1_method_39_code 6 = .ok (.astore_n 2, 1) := by decide +kernel
theorem d_S_allVersions_7 : decode prog_1_method_39_code 7 = .ok (.aload_n 2, 1) := by decide +kernel
theorem d_S_allVersions_8 : decode prog_1_method_39_code 8 = .ok (.ifnull 18, 3) := by decide +kernel
theorem d_S_allVersions_11 : decode prog_1_method_39_code 11 = .ok (.iload_n 1, 1) := by decide +kernel
theorem d_S_allVersions_12 : decode prog_1_method_39_code 12 = .ok (.aload_n 2, 1) := by decide +kernel
theorem d_S_allVersions_13 : decode prog_1_method_39_code 13 = .ok (.invokevirtual 175, 3) := by decide +kernel
theorem d_S_allVersions_16 : decode prog_1_method_39_code 16 = .ok (.iadd, 1) := by decide +kernel
theorem d_S_allVersions_17 : decode prog_1_method_39_code 17 = .ok (.istore_n 1, 1) := by decide +kernel
theorem d_S_allVersions_18 : decode prog_1_method_39_code 18 = .ok (.aload_n 2, 1) := by decide +kernel
theorem d_S_allVersions_19 : decode prog_1_method_39_code 19 = .ok (.getfield 72, 3) := by decide +kernel
theorem d_S_allVersions_22 : decode prog_1_method_39_code 22 = .ok (.astore_n 2, 1) := by decide +kernel
theorem d_S_allVersions_23 : decode prog_1_method_39_code 23 = .ok (.goto (-16), 3) := by decide +kernel
theorem d_S_allVersions_26 : decode prog_1_method_39_code 26 = .ok (.iload_n 1, 1) := by decide +kernel
theorem d_S_allVersions_27 : decode prog_1_method_39_code 27 = .ok (.ireturn, 1) := by decide +kernel
theorem d_S_keysWithVersions_0 : decode prog_1_method_40_code 0 = .ok (.iconst 0, 1) := by decide +kernel
theorem d_S_keysWithVersions_1 : decode prog_1_method_40_code 1 = .ok (.istore_n 1, 1) := by decide +kernel
theorem d_S_keysWithVersions_2 : decode prog_1_method_40_code 2 = .ok (.aload_n 0, 1) := by decide +kernel
theorem d_S_keysWithVersions_3 : decode prog_1_method_40_code 3 = .ok (.getfield 63, 3) := by decide +kernel
theorem d_S_keysWithVersions_6 : decode prog_1_method_40_code 6 = .ok (.astore_n 2, 1) := by decide +kernel
theorem d_S_keysWithVersions_7 : decode prog_1_method_40_code 7 = .ok (.aload_n 2, 1) := by decide +kernel
theorem d_S_keysWithVersions_8 : decode prog_1_method_40_code 8 = .ok (.ifnull 21, 3) := by decide +kernel
theorem d_S_keysWithVersions_11 : decode prog_1_method_40_code 11 = .ok (.aload_n 2, 1) := by decide +kernel
theorem d_S_keysWithVersions_12 : decode prog_1_method_40_code 12 = .ok (.getfield 156, 3) := by decide +kernel
theorem d_S_keysWithVersions_15 : decode prog_1_method_40_code 15 = .ok (.ifnull 6, 3) := by decide +kernel
theorem d_S_keysWithVersions_18 : decode prog_1_method_40_code 18 = .ok (.iinc 1 1, 3) := by decide +kernel
theorem d_S_keysWithVersions_21 : decode prog_1_method_40_code 21 = .ok (.aload_n 2, 1) := by decide +kernel
theorem d_S_keysWithVersions_22 : decode prog_1_method_40_code 22 = .ok (.getfield 72, 3) := by decide +kernel
theorem d_S_keysWithVersions_25 : decode prog_1_method_40_code 25 = .ok (.astore_n 2, 1) := by decide +kernel
theorem d_S_keysWithVersions_26 : decode prog_1_method_40_code 26 = .ok (.goto (-19), 3) := by decide +kernel
theorem d_S_keysWithVersions_29 : decode prog_1_method_40_code 29 = .ok (.iload_n 1, 1) := by decide +kernel
theorem d_S_keysWithVersions_30 : decode prog_1_method_40_code 30 = .ok (.ireturn, 1) := by decide +kernel
theorem d_S_keysWithValue_0 : decode prog_1_method_41_code 0 = .ok (.iconst 0, 1) := by decide +kernel
theorem d_S_keysWithValue_1 : decode prog_1_method_41_code 1 = .ok (.istore_n 1, 1) := by decide +kernel
theorem d_S_keysWithValue_2 : decode prog_1_method_41_code 2 = .ok (.aload_n 0, 1) := by decide +kernel
theorem d_S_keysWithValue_3 : decode prog_1_method_41_code 3 = .ok (.getfield 63, 3) := by decide +kernel
theorem d_S_keysWithValue_6 : decode prog_1_method_41_code 6 = .ok (.astore_n 2, 1) := by decide +kernel
theorem d_S_keysWithValue_7 : decode prog_1_method_41_code 7 = .ok (.aload_n 2, 1) := by decide +kernel
theorem d_S_keysWithValue_8 : decode prog_1_method_41_code 8 = .ok (.ifnull 29, 3) := by decide +kernel
theorem d_S_keysWithValue_11 : decode prog_1_method_41_code 11 = .ok (.aload_n 2, 1) := by decide +kernel
theorem d_S_keysWithValue_12 : decode prog_1_method_41_code 12 = .ok (.aload_n 0, 1) := by decide +kernel
theorem d_S_keysWithValue_13 : decode prog_1_method_41_code 13 = .ok (.getfield 31, 3) := by decide +kernel
theorem d_S_keysWithValue_16 : decode prog_1_method_41_code 16 = .ok (.invokevirtual 171, 3) := by decide +kernel
theorem d_S_keysWithValue_19 : decode prog_1_method_41_code 19 = .ok (.ldc2_w 57, 3) := by decide +kernel
theorem d_S_keysWithValue_22 : decode prog_1_method_41_code 22 = .ok (.lcmp, 1) := by decide +kernel
theorem d_S_keysWithValue_23 : decode prog_1_method_41_code 23 = .ok (.ifCond .eq 6, 3) := by decide +kernel
theorem d_S_keysWithValue_26 : decode prog_1_method_41_code 26 = .ok (.iinc 1 1, 3) := by decide +kernel
theorem d_S_keysWithValue_29 : decode prog_1_method_41_code 29 = .ok (.aload_n 2, 1) := by decide +kernel
theorem d_S_keysWithValue_30 : decode prog_1_method_41_code 30 = .ok (.getfield 72, 3) := by decide +kernel
theorem d_S_keysWithValue_33 : decode prog_1_method_41_code 33 = .ok (.astore_n 2, 1) := by decide +kernel
theorem d_S_keysWithValue_34 : decode prog_1_method_41_code 34 = .ok (.goto (-27), 3) := by decide +kernel
theorem d_S_keysWithValue_37 : decode prog_1_method_41_code 37 = .ok (.iload_n 1, 1) := by decide +kernel
theorem d_S_keysWithValue_38 : decode prog_1_method_41_code 38 = .ok (.ireturn, 1) := by decide +kernel
theorem d_S_openOnes_0 : decode prog_1_method_42_code 0 = .ok (.iconst 0, 1) := by decide +kernel
theorem d_S_openOnes_1 : decode prog_1_method_42_code 1 = .ok (.istore_n 1, 1) := by decide +kernel
theorem d_S_openOnes_2 : decode prog_1_method_42_code 2 = .ok (.aload_n 0, 1) := by decide +kernel
theorem d_S_openOnes_3 : decode prog_1_method_42_code 3 = .ok (.getfield 11, 3) := by decide +kernel
theorem d_S_openOnes_6 : decode prog_1_method_42_code 6 = .ok (.astore_n 2, 1) := by decide +kernel
theorem d_S_openOnes_7 : decode prog_1_method_42_code 7 = .ok (.aload_n 2, 1) := by decide +kernel
theorem d_S_openOnes_8 : decode prog_1_method_42_code 8 = .ok (.arraylength, 1) := by decide +kernel
theorem d_S_openOnes_9 : decode prog_1_method_42_code 9 = .ok (.istore_n 3, 1) := by decide +kernel
theorem d_S_openOnes_10 : decode prog_1_method_42_code 10 = .ok (.iconst 0, 1) := by decide +kernel
theorem d_S_openOnes_11 : decode prog_1_method_42_code 11 = .ok (.istore 4, 2) := by decide +kernel
theorem d_S_openOnes_13 : decode prog_1_method_42_code 13 = .ok (.iload 4, 2) := by decide +kernel
theorem d_S_openOnes_15 : decode prog_1_method_42_code 15 = .ok (.iload_n 3, 1) := by decide +kernel
theorem d_S_openOnes_16 : decode prog_1_method_42_code 16 = .ok (.if_icmp .ge 31, 3) := by decide +kernel
theorem d_S_openOnes_19 : decode prog_1_method_42_code 19 = .ok (.aload_n 2, 1) := by decide +kernel
theorem d_S_openOnes_20 : decode prog_1_method_42_code 20 = .ok (.iload 4, 2) := by decide +kernel
theorem d_S_openOnes_22 : decode prog_1_method_42_code 22 = .ok (.aaload, 1) := by decide +kernel
theorem d_S_openOnes_23 : decode prog_1_method_42_code 23 = .ok (.astore 5, 2) := by decide +kernel
theorem d_S_openOnes_25 : decode prog_1_method_42_code 25 = .ok (.aload 5, 2) := by decide +kernel
theorem d_S_openOnes_27 : decode prog_1_method_42_code 27 = .ok (.ifnull 14, 3) := by decide +kernel
theorem d_S_openOnes_30 : decode prog_1_method_42_code 30 = .ok (.aload 5, 2) := by decide +kernel
theorem d_S_openOnes_32 : decode prog_1_method_42_code 32 = .ok (.getfield 160, 3) := by decide +kernel
theorem d_S_openOnes_35 : decode prog_1_method_42_code 35 = .ok (.ifCond .ne 6, 3) := by decide +kernel
theorem d_S_openOnes_38 : decode prog_1_method_42_code 38 = .ok (.iinc 1 1, 3) := by decide +kernel
theorem d_S_openOnes_41 : decode prog_1_method_42_code 41 = .ok (.iinc 4 1, 3) := by decide +kernel
theorem d_S_openOnes_44 : decode prog_1_method_42_code 44 = .ok (.goto (-31), 3) := by decide +kernel
theorem d_S_openOnes_47 : decode prog_1_method_42_code 47 = .ok (.iload_n 1, 1) := by decide +kernel
theorem d_S_openOnes_48 : decode prog_1_method_42_code 48 = .ok (.ireturn, 1) := by decide +kernel
theorem d_S_astray_0 : decode prog_1_method_20_code 0 = .ok (.iconst 0, 1) := by decide +kernel
theorem d_S_astray_1 : decode prog_1_method_20_code 1 = .ok (.istore_n 1, 1) := by decide +kernel
theorem d_S_astray_2 : decode prog_1_method_20_code 2 = .ok (.aload_n 0, 1) := by decide +kernel
theorem d_S_astray_3 : decode prog_1_method_20_code 3 = .ok (.getfield 63, 3) := by decide +kernel
theorem d_S_astray_6 : decode prog_1_method_20_code 6 = .ok (.astore_n 2, 1) := by decide +kernel
theorem d_S_astray_7 : decode prog_1_method_20_code 7 = .ok (.aload_n 2, 1) := by decide +kernel
theorem d_S_astray_8 : decode prog_1_method_20_code 8 = .ok (.ifnull 25, 3) := by decide +kernel
theorem d_S_astray_11 : decode prog_1_method_20_code 11 = .ok (.aload_n 2, 1) := by decide +kernel
theorem d_S_astray_12 : decode prog_1_method_20_code 12 = .ok (.aload_n 0, 1) := by decide +kernel
theorem d_S_astray_13 : decode prog_1_method_20_code 13 = .ok (.getfield 31, 3) := by decide +kernel
theorem d_S_astray_16 : decode prog_1_method_20_code 16 = .ok (.invokevirtual 190, 3) := by decide +kernel
theorem d_S_astray_19 : decode prog_1_method_20_code 19 = .ok (.ifCond .ne 6, 3) := by decide +kernel
theorem d_S_astray_22 : decode prog_1_method_20_code 22 = .ok (.iinc 1 1, 3) := by decide +kernel
theorem d_S_astray_25 : decode prog_1_method_20_code 25 = .ok (.aload_n 2, 1) := by decide +kernel
theorem d_S_astray_26 : decode prog_1_method_20_code 26 = .ok (.getfield 72, 3) := by decide +kernel
theorem d_S_astray_29 : decode prog_1_method_20_code 29 = .ok (.astore_n 2, 1) := by decide +kernel
theorem d_S_astray_30 : decode prog_1_method_20_code 30 = .ok (.goto (-23), 3) := by decide +kernel
theorem d_S_astray_33 : decode prog_1_method_20_code 33 = .ok (.iload_n 1, 1) := by decide +kernel
theorem d_S_astray_34 : decode prog_1_method_20_code 34 = .ok (.ireturn, 1) := by decide +kernel
theorem d_Key_isInOrder_0 : decode prog_2_method_5_code 0 = .ok (.aload_n 0, 1) := by decide +kernel
theorem d_Key_isInOrder_1 : decode prog_2_method_5_code 1 = .ok (.getfield 19, 3) := by decide +kernel
theorem d_Key_isInOrder_4 : decode prog_2_method_5_code 4 = .ok (.astore_n 2, 1) := by decide +kernel
theorem d_Key_isInOrder_5 : decode prog_2_method_5_code 5 = .ok (.aload_n 2, 1) := by decide +kernel
theorem d_Key_isInOrder_6 : decode prog_2_method_5_code 6 = .ok (.ifnull 42, 3) := by decide +kernel
theorem d_Key_isInOrder_9 : decode prog_2_method_5_code 9 = .ok (.aload_n 2, 1) := by decide +kernel
theorem d_Key_isInOrder_10 : decode prog_2_method_5_code 10 = .ok (.getfield 23, 3) := by decide +kernel
theorem d_Key_isInOrder_13 : decode prog_2_method_5_code 13 = .ok (.iload_n 1, 1) := by decide +kernel
theorem d_Key_isInOrder_14 : decode prog_2_method_5_code 14 = .ok (.if_icmp .gt 24, 3) := by decide +kernel
theorem d_Key_isInOrder_17 : decode prog_2_method_5_code 17 = .ok (.aload_n 2, 1) := by decide +kernel
theorem d_Key_isInOrder_18 : decode prog_2_method_5_code 18 = .ok (.getfield 28, 3) := by decide +kernel
theorem d_Key_isInOrder_21 : decode prog_2_method_5_code 21 = .ok (.ifnull 19, 3) := by decide +kernel
theorem d_Key_isInOrder_24 : decode prog_2_method_5_code 24 = .ok (.aload_n 2, 1) := by decide +kernel
theorem d_Key_isInOrder_25 : decode prog_2_method_5_code 25 = .ok (.getfield 28, 3) := by decide +kernel
theorem d_Key_isInOrder_28 : decode prog_2_method_5_code 28 = .ok (.getfield 23, 3) := by decide +kernel
theorem d_Key_isInOrder_31 : decode prog_2_method_5_code 31 = .ok (.aload_n 2, 1) := by decide +kernel
theorem d_Key_isInOrder_32 : decode prog_2_method_5_code 32 = .ok (.getfield 23, 3) := by decide +kernel
theorem d_Key_isInOrder_35 : decode prog_2_method_5_code 35 = .ok (.if_icmp .lt 5, 3) := by decide +kernel
theorem d_Key_isInOrder_38 : decode prog_2_method_5_code 38 = .ok (.iconst 0, 1) := by decide +kernel
theorem d_Key_isInOrder_39 : decode prog_2_method_5_code 39 = .ok (.ireturn, 1) := by decide +kernel
theorem d_Key_isInOrder_40 : decode prog_2_method_5_code 40 = .ok (.aload_n 2, 1) := by decide +kernel
theorem d_Key_isInOrder_41 : decode prog_2_method_5_code 41 = .ok (.getfield 28, 3) := by decide +kernel
theorem d_Key_isInOrder_44 : decode prog_2_method_5_code 44 = .ok (.astore_n 2, 1) := by decide +kernel
theorem d_Key_isInOrder_45 : decode prog_2_method_5_code 45 = .ok (.goto (-40), 3) := by decide +kernel
theorem d_Key_isInOrder_48 : decode prog_2_method_5_code 48 = .ok (.iconst 1, 1) := by decide +kernel
theorem d_Key_isInOrder_49 : decode prog_2_method_5_code 49 = .ok (.ireturn, 1) := by decide +kernel
theorem d_S_begin_0 : decode prog_1_method_2_code 0 = .ok (.iload_n 1, 1) := by decide +kernel
theorem d_S_begin_1 : decode prog_1_method_2_code 1 = .ok (.ifCond .eq 18, 3) := by decide +kernel
theorem d_S_begin_4 : decode prog_1_method_2_code 4 = .ok (.iload_n 1, 1) := by decide +kernel
theorem d_S_begin_5 : decode prog_1_method_2_code 5 = .ok (.iconst 1, 1) := by decide +kernel
theorem d_S_begin_6 : decode prog_1_method_2_code 6 = .ok (.if_icmp .eq 13, 3) := by decide +kernel
theorem d_S_begin_9 : decode prog_1_method_2_code 9 = .ok (.new 15, 3) := by decide +kernel
theorem d_S_begin_12 : decode prog_1_method_2_code 12 = .ok (.dup, 1) := by decide +kernel
theorem d_S_begin_13 : decode prog_1_method_2_code 13 = .ok (.ldc 17, 2) := by decide +kernel
theorem d_S_begin_15 : decode prog_1_method_2_code 15 = .ok (.invokespecial 19, 3) := by decide +kernel
theorem d_S_begin_18 : decode prog_1_method_2_code 18 = .ok (.athrow, 1) := by decide +kernel
theorem d_S_begin_19 : decode prog_1_method_2_code 19 = .ok (.aload_n 0, 1) := by decide +kernel
theorem d_S_begin_20 : decode prog_1_method_2_code 20 = .ok (.getfield 22, 3) := by decide +kernel
theorem d_S_begin_23 : decode prog_1_method_2_code 23 = .ok (.aload_n 0, 1) := by decide +kernel
theorem d_S_begin_24 : decode prog_1_method_2_code 24 = .ok (.getfield 11, 3) := by decide +kernel
theorem d_S_begin_27 : decode prog_1_method_2_code 27 = .ok (.arraylength, 1) := by decide +kernel
theorem d_S_begin_28 : decode prog_1_method_2_code 28 = .ok (.if_icmp .lt 13, 3) := by decide +kernel
theorem d_S_begin_31 : decode prog_1_method_2_code 31 = .ok (.new 26, 3) := by decide +kernel
theorem d_S_begin_34 : decode prog_1_method_2_code 34 = .ok (.dup, 1) := by decide +kernel
theorem d_S_begin_35 : decode prog_1_method_2_code 35 = .ok (.ldc 28, 2) := by decide +kernel
theorem d_S_begin_37 : decode prog_1_method_2_code 37 = .ok (.invokespecial 30, 3) := by decide +kernel
theorem d_S_begin_40 : decode prog_1_method_2_code 40 = .ok (.athrow, 1) := by decide +kernel
theorem d_S_begin_41 : decode prog_1_method_2_code 41 = .ok (.aload_n 0, 1) := by decide +kernel
theorem d_S_begin_42 : decode prog_1_method_2_code 42 = .ok (.getfield 22, 3) := by decide +kernel
theorem d_S_begin_45 : decode prog_1_method_2_code 45 = .ok (.istore_n 2, 1) := by decide +kernel
theorem d_S_begin_46 : decode prog_1_method_2_code 46 = .ok (.aload_n 0, 1) := by decide +kernel
theorem d_S_begin_47 : decode prog_1_method_2_code 47 = .ok (.getfield 11, 3) := by decide +kernel
theorem d_S_begin_50 : decode prog_1_method_2_code 50 = .ok (.iload_n 2, 1) := by decide +kernel
theorem d_S_begin_51 : decode prog_1_method_2_code 51 = .ok (.new 9, 3) := by decide +kernel
theorem d_S_begin_54 : decode prog_1_method_2_code 54 = .ok (.dup, 1) := by decide +kernel
theorem d_S_begin_55 : decode prog_1_method_2_code 55 = .ok (.iload_n 1, 1) := by decide +kernel
theorem d_S_begin_56 : decode prog_1_method_2_code 56 = .ok (.aload_n 0, 1) := by decide +kernel
theorem d_S_begin_57 : decode prog_1_method_2_code 57 = .ok (.getfield 31, 3) := by decide +kernel
theorem d_S_begin_60 : decode prog_1_method_2_code 60 = .ok (.invokespecial 34, 3) := by decide +kernel
theorem d_S_begin_63 : decode prog_1_method_2_code 63 = .ok (.aastore, 1) := by decide +kernel
theorem d_S_begin_64 : decode prog_1_method_2_code 64 = .ok (.aload_n 0, 1) := by decide +kernel
theorem d_S_begin_65 : decode prog_1_method_2_code 65 = .ok (.iload_n 2, 1) := by decide +kernel
theorem d_S_begin_66 : decode prog_1_method_2_code 66 = .ok (.iconst 1, 1) := by decide +kernel
theorem d_S_begin_67 : decode prog_1_method_2_code 67 = .ok (.iadd, 1) := by decide +kernel
theorem d_S_begin_68 : decode prog_1_method_2_code 68 = .ok (.putfield 22, 3) := by decide +kernel
theorem d_S_begin_71 : decode prog_1_method_2_code 71 = .ok (.iload_n 2, 1) := by decide +kernel
theorem d_S_begin_72 : decode prog_1_method_2_code 72 = .ok (.ireturn, 1) := by decide +kernel
theorem d_Tx_init_0 : decode prog_5_method_1_code 0 = .ok (.aload_n 0, 1) := by decide +kernel
theorem d_Tx_init_1 : decode prog_5_method_1_code 1 = .ok (.invokespecial 3, 3) := by decide +kernel
theorem d_Tx_init_4 : decode prog_5_method_1_code 4 = .ok (.aload_n 0, 1) := by decide +kernel
theorem d_Tx_init_5 : decode prog_5_method_1_code 5 = .ok (.iconst 0, 1) := by decide +kernel
theorem d_Tx_init_6 : decode prog_5_method_1_code 6 = .ok (.putfield 9, 3) := by decide +kernel
theorem d_Tx_init_9 : decode prog_5_method_1_code 9 = .ok (.aload_n 0, 1) := by decide +kernel
theorem d_Tx_init_10 : decode prog_5_method_1_code 10 = .ok (.iconst (-1), 1) := by decide +kernel
theorem d_Tx_init_11 : decode prog_5_method_1_code 11 = .ok (.putfield 15, 3) := by decide +kernel
theorem d_Tx_init_14 : decode prog_5_method_1_code 14 = .ok (.aload_n 0, 1) := by decide +kernel
theorem d_Tx_init_15 : decode prog_5_method_1_code 15 = .ok (.iload_n 1, 1) := by decide +kernel
theorem d_Tx_init_16 : decode prog_5_method_1_code 16 = .ok (.putfield 18, 3) := by decide +kernel
theorem d_Tx_init_19 : decode prog_5_method_1_code 19 = .ok (.aload_n 0, 1) := by decide +kernel
theorem d_Tx_init_20 : decode prog_5_method_1_code 20 = .ok (.iload_n 2, 1) := by decide +kernel
theorem d_Tx_init_21 : decode prog_5_method_1_code 21 = .ok (.putfield 21, 3) := by decide +kernel
theorem d_Tx_init_24 : decode prog_5_method_1_code 24 = .ok (.return_, 1) := by decide +kernel
theorem d_S_read_0 : decode prog_1_method_3_code 0 = .ok (.aload_n 0, 1) := by decide +kernel
theorem d_S_read_1 : decode prog_1_method_3_code 1 = .ok (.iload_n 1, 1) := by decide +kernel
theorem d_S_read_2 : decode prog_1_method_3_code 2 = .ok (.invokevirtual 37, 3) := by decide +kernel
theorem d_S_read_5 : decode prog_1_method_3_code 5 = .ok (.astore_n 3, 1) := by decide +kernel
theorem d_S_read_6 : decode prog_1_method_3_code 6 = .ok (.aload_n 0, 1) := by decide +kernel
theorem d_S_read_7 : decode prog_1_method_3_code 7 = .ok (.aload_n 3, 1) := by decide +kernel
theorem d_S_read_8 : decode prog_1_method_3_code 8 = .ok (.iload_n 2, 1) := by decide +kernel
theorem d_S_read_9 : decode prog_1_method_3_code 9 = .ok (.iload_n 2, 1) := by decide +kernel
theorem d_S_read_10 : decode prog_1_method_3_code 10 = .ok (.invokevirtual 41, 3) := by decide +kernel
theorem d_S_read_13 : decode prog_1_method_3_code 13 = .ok (.aload_n 3, 1) := by decide +kernel
theorem d_S_read_14 : decode prog_1_method_3_code 14 = .ok (.aload_n 0, 1) := by decide +kernel
theorem d_S_read_15 : decode prog_1_method_3_code 15 = .ok (.iload_n 2, 1) := by decide +kernel
theorem d_S_read_16 : decode prog_1_method_3_code 16 = .ok (.invokevirtual 45, 3) := by decide +kernel
theorem d_S_read_19 : decode prog_1_method_3_code 19 = .ok (.invokestatic 49, 3) := by decide +kernel
theorem d_S_read_22 : decode prog_1_method_3_code 22 = .ok (.invokestatic 53, 3) := by decide +kernel
theorem d_S_read_25 : decode prog_1_method_3_code 25 = .ok (.ireturn, 1) := by decide +kernel
theorem d_S_openOne_0 : decode prog_1_method_22_code 0 = .ok (.aload_n 0, 1) := by decide +kernel
theorem d_S_openOne_1 : decode prog_1_method_22_code 1 = .ok (.iload_n 1, 1) := by decide +kernel
theorem d_S_openOne_2 : decode prog_1_method_22_code 2 = .ok (.invokevirtual 163, 3) := by decide +kernel
theorem d_S_openOne_5 : decode prog_1_method_22_code 5 = .ok (.astore_n 2, 1) := by decide +kernel
theorem d_S_openOne_6 : decode prog_1_method_22_code 6 = .ok (.aload_n 2, 1) := by decide +kernel
theorem d_S_openOne_7 : decode prog_1_method_22_code 7 = .ok (.getfield 160, 3) := by decide +kernel
theorem d_S_openOne_10 : decode prog_1_method_22_code 10 = .ok (.ifCond .eq 13, 3) := by decide +kernel
theorem d_S_openOne_13 : decode prog_1_method_22_code 13 = .ok (.new 26, 3) := by decide +kernel
theorem d_S_openOne_16 : decode prog_1_method_22_code 16 = .ok (.dup, 1) := by decide +kernel
theorem d_S_openOne_17 : decode prog_1_method_22_code 17 = .ok (.ldc 199, 2) := by decide +kernel
theorem d_S_openOne_19 : decode prog_1_method_22_code 19 = .ok (.invokespecial 30, 3) := by decide +kernel
theorem d_S_openOne_22 : decode prog_1_method_22_code 22 = .ok (.athrow, 1) := by decide +kernel
theorem d_S_openOne_23 : decode prog_1_method_22_code 23 = .ok (.aload_n 2, 1) := by decide +kernel
theorem d_S_openOne_24 : decode prog_1_method_22_code 24 = .ok (.areturn, 1) := by decide +kernel
theorem d_S_anyOne_0 : decode prog_1_method_21_code 0 = .ok (.iload_n 1, 1) := by decide +kernel
theorem d_S_anyOne_1 : decode prog_1_method_21_code 1 = .ok (.ifCond .lt 12, 3) := by decide +kernel
theorem d_S_anyOne_4 : decode prog_1_method_21_code 4 = .ok (.iload_n 1, 1) := by decide +kernel
theorem d_S_anyOne_5 : decode prog_1_method_21_code 5 = .ok (.aload_n 0, 1) := by decide +kernel
theorem d_S_anyOne_6 : decode prog_1_method_21_code 6 = .ok (.getfield 11, 3) := by decide +kernel
theorem d_S_anyOne_9 : decode prog_1_method_21_code 9 = .ok (.arraylength, 1) := by decide +kernel
theorem d_S_anyOne_10 : decode prog_1_method_21_code 10 = .ok (.if_icmp .lt 13, 3) := by decide +kernel
theorem d_S_anyOne_13 : decode prog_1_method_21_code 13 = .ok (.new 194, 3) := by decide +kernel
theorem d_S_anyOne_16 : decode prog_1_method_21_code 16 = .ok (.dup, 1) := by decide +kernel
theorem d_S_anyOne_17 : decode prog_1_method_21_code 17 = .ok (.ldc 196, 2) := by decide +kernel
theorem d_S_anyOne_19 : decode prog_1_method_21_code 19 = .ok (.invokespecial 198, 3) := by decide +kernel
theorem d_S_anyOne_22 : decode prog_1_method_21_code 22 = .ok (.athrow, 1) := by decide +kernel
theorem d_S_anyOne_23 : decode prog_1_method_21_code 23 = .ok (.aload_n 0, 1) := by decide +kernel
theorem d_S_anyOne_24 : decode prog_1_method_21_code 24 = .ok (.getfield 11, 3) := by decide +kernel
theorem d_S_anyOne_27 : decode prog_1_method_21_code 27 = .ok (.iload_n 1, 1) := by decide +kernel
theorem d_S_anyOne_28 : decode prog_1_method_21_code 28 = .ok (.aaload, 1) := by decide +kernel
theorem d_S_anyOne_29 : decode prog_1_method_21_code 29 = .ok (.astore_n 2, 1) := by decide +kernel
theorem d_S_anyOne_30 : decode prog_1_method_21_code 30 = .ok (.aload_n 2, 1) := by decide +kernel
theorem d_S_anyOne_31 : decode prog_1_method_21_code 31 = .ok (.ifnonnull 13, 3) := by decide +kernel
theorem d_S_anyOne_34 : decode prog_1_method_21_code 34 = .ok (.new 194, 3) := by decide +kernel
theorem d_S_anyOne_37 : decode prog_1_method_21_code 37 = .ok (.dup, 1) := by decide +kernel
theorem d_S_anyOne_38 : decode prog_1_method_21_code 38 = .ok (.ldc 196, 2) := by decide +kernel
theorem d_S_anyOne_40 : decode prog_1_method_21_code 40 = .ok (.invokespecial 198, 3) := by decide +kernel
theorem d_S_anyOne_43 : decode prog_1_method_21_code 43 = .ok (.athrow, 1) := by decide +kernel
theorem d_S_anyOne_44 : decode prog_1_method_21_code 44 = .ok (.aload_n 2, 1) := by decide +kernel
theorem d_S_anyOne_45 : decode prog_1_method_21_code 45 = .ok (.areturn, 1) := by decide +kernel
theorem d_S_noteRange_0 : decode prog_1_method_24_code 0 = .ok (.aload_n 1, 1) := by decide +kernel
theorem d_S_noteRange_1 : decode prog_1_method_24_code 1 = .ok (.getfield 121, 3) := by decide +kernel
theorem d_S_noteRange_4 : decode prog_1_method_24_code 4 = .ok (.iconst 1, 1) := by decide +kernel
theorem d_S_noteRange_5 : decode prog_1_method_24_code 5 = .ok (.if_icmp .ne 29, 3) := by decide +kernel
theorem d_S_noteRange_8 : decode prog_1_method_24_code 8 = .ok (.iload_n 2, 1) := by decide +kernel
theorem d_S_noteRange_9 : decode prog_1_method_24_code 9 = .ok (.iload_n 3, 1) := by decide +kernel
theorem d_S_noteRange_10 : decode prog_1_method_24_code 10 = .ok (.if_icmp .gt 24, 3) := by decide +kernel
theorem d_S_noteRange_13 : decode prog_1_method_24_code 13 = .ok (.aload_n 0, 1) := by decide +kernel
theorem d_S_noteRange_14 : decode prog_1_method_24_code 14 = .ok (.invokevirtual 206, 3) := by decide +kernel
theorem d_S_noteRange_17 : decode prog_1_method_24_code 17 = .ok (.aload_n 1, 1) := by decide +kernel
theorem d_S_noteRange_18 : decode prog_1_method_24_code 18 = .ok (.new 209, 3) := by decide +kernel
theorem d_S_noteRange_21 : decode prog_1_method_24_code 21 = .ok (.dup, 1) := by decide +kernel
theorem d_S_noteRange_22 : decode prog_1_method_24_code 22 = .ok (.iload_n 2, 1) := by decide +kernel
theorem d_S_noteRange_23 : decode prog_1_method_24_code 23 = .ok (.iload_n 3, 1) := by decide +kernel
theorem d_S_noteRange_24 : decode prog_1_method_24_code 24 = .ok (.aload_n 1, 1) := by decide +kernel
theorem d_S_noteRange_25 : decode prog_1_method_24_code 25 = .ok (.getfield 211, 3) := by decide +kernel
theorem d_S_noteRange_28 : decode prog_1_method_24_code 28 = .ok (.invokespecial 215, 3) := by decide +kernel
theorem d_S_noteRange_31 : decode prog_1_method_24_code 31 = .ok (.putfield 211, 3) := by decide +kernel
theorem d_S_noteRange_34 : decode prog_1_method_24_code 34 = .ok (.return_, 1) := by decide +kernel
theorem d_S_countNote_0 : decode prog_1_method_23_code 0 = .ok (.aload_n 0, 1) := by decide +kernel
theorem d_S_countNote_1 : decode prog_1_method_23_code 1 = .ok (.getfield 201, 3) := by decide +kernel
theorem d_S_countNote_4 : decode prog_1_method_23_code 4 = .ok (.sipush 512, 3) := by decide +kernel
theorem d_S_countNote_7 : decode prog_1_method_23_code 7 = .ok (.if_icmp .lt 13, 3) := by decide +kernel
theorem d_S_countNote_10 : decode prog_1_method_23_code 10 = .ok (.new 26, 3) := by decide +kernel
theorem d_S_countNote_13 : decode prog_1_method_23_code 13 = .ok (.dup, 1) := by decide +kernel
theorem d_S_countNote_14 : decode prog_1_method_23_code 14 = .ok (.ldc 204, 2) := by decide +kernel
theorem d_S_countNote_16 : decode prog_1_method_23_code 16 = .ok (.invokespecial 30, 3) := by decide +kernel
theorem d_S_countNote_19 : decode prog_1_method_23_code 19 = .ok (.athrow, 1) := by decide +kernel
theorem d_S_countNote_20 : decode prog_1_method_23_code 20 = .ok (.aload_n 0, 1) := by decide +kernel
theorem d_S_countNote_21 : decode prog_1_method_23_code 21 = .ok (.dup, 1) := by decide +kernel
theorem d_S_countNote_22 : decode prog_1_method_23_code 22 = .ok (.getfield 201, 3) := by decide +kernel
theorem d_S_countNote_25 : decode prog_1_method_23_code 25 = .ok (.iconst 1, 1) := by decide +kernel
theorem d_S_countNote_26 : decode prog_1_method_23_code 26 = .ok (.iadd, 1) := by decide +kernel
theorem d_S_countNote_27 : decode prog_1_method_23_code 27 = .ok (.putfield 201, 3) := by decide +kernel
theorem d_S_countNote_30 : decode prog_1_method_23_code 30 = .ok (.return_, 1) := by decide +kernel
theorem d_Range_init_0 : decode prog_4_method_1_code 0 = .ok (.aload_n 0, 1) := by decide +kernel
theorem d_Range_init_1 : decode prog_4_method_1_code 1 = .ok (.invokespecial 1, 3) := by decide +kernel
theorem d_Range_init_4 : decode prog_4_method_1_code 4 = .ok (.aload_n 0, 1) := by decide +kernel
theorem d_Range_init_5 : decode prog_4_method_1_code 5 = .ok (.iload_n 1, 1) := by decide +kernel
theorem d_Range_init_6 : decode prog_4_method_1_code 6 = .ok (.putfield 7, 3) := by decide +kernel
theorem d_Range_init_9 : decode prog_4_method_1_code 9 = .ok (.aload_n 0, 1) := by decide +kernel
theorem d_Range_init_10 : decode prog_4_method_1_code 10 = .ok (.iload_n 2, 1) := by decide +kernel
theorem d_Range_init_11 : decode prog_4_method_1_code 11 = .ok (.putfield 13, 3) := by decide +kernel
theorem d_Range_init_14 : decode prog_4_method_1_code 14 = .ok (.aload_n 0, 1) := by decide +kernel
theorem d_Range_init_15 : decode prog_4_method_1_code 15 = .ok (.aload_n 3, 1) := by decide +kernel
theorem d_Range_init_16 : decode prog_4_method_1_code 16 = .ok (.putfield 16, 3) := by decide +kernel
theorem d_Range_init_19 : decode prog_4_method_1_code 19 = .ok (.return_, 1) := by decide +kernel
theorem d_S_seenBy_0 : decode prog_1_method_29_code 0 = .ok (.aload_n 1, 1) := by decide +kernel
theorem d_S_seenBy_1 : decode prog_1_method_29_code 1 = .ok (.ifnonnull 7, 3) := by decide +kernel
theorem d_S_seenBy_4 : decode prog_1_method_29_code 4 = .ok (.ldc2_w 57, 3) := by decide +kernel
theorem d_S_seenBy_7 : decode prog_1_method_29_code 7 = .ok (.lreturn, 1) := by decide +kernel
theorem d_S_seenBy_8 : decode prog_1_method_29_code 8 = .ok (.aload_n 0, 1) := by decide +kernel
theorem d_S_seenBy_9 : decode prog_1_method_29_code 9 = .ok (.aload_n 1, 1) := by decide +kernel
theorem d_S_seenBy_10 : decode prog_1_method_29_code 10 = .ok (.getfield 67, 3) := by decide +kernel
theorem d_S_seenBy_13 : decode prog_1_method_29_code 13 = .ok (.invokevirtual 221, 3) := by decide +kernel
theorem d_S_seenBy_16 : decode prog_1_method_29_code 16 = .ok (.astore_n 2, 1) := by decide +kernel
theorem d_S_seenBy_17 : decode prog_1_method_29_code 17 = .ok (.aload_n 2, 1) := by decide +kernel
theorem d_S_seenBy_18 : decode prog_1_method_29_code 18 = .ok (.ifnull 10, 3) := by decide +kernel
theorem d_S_seenBy_21 : decode prog_1_method_29_code 21 = .ok (.aload_n 2, 1) := by decide +kernel
theorem d_S_seenBy_22 : decode prog_1_method_29_code 22 = .ok (.getfield 236, 3) := by decide +kernel
theorem d_S_seenBy_25 : decode prog_1_method_29_code 25 = .ok (.goto 11, 3) := by decide +kernel
theorem d_S_seenBy_28 : decode prog_1_method_29_code 28 = .ok (.aload_n 1, 1) := by decide +kernel
theorem d_S_seenBy_29 : decode prog_1_method_29_code 29 = .ok (.aload_n 0, 1) := by decide +kernel
theorem d_S_seenBy_30 : decode prog_1_method_29_code 30 = .ok (.getfield 166, 3) := by decide +kernel
theorem d_S_seenBy_33 : decode prog_1_method_29_code 33 = .ok (.invokevirtual 171, 3) := by decide +kernel
theorem d_S_seenBy_36 : decode prog_1_method_29_code 36 = .ok (.lreturn, 1) := by decide +kernel
theorem d_Tx_writeOf_0 : decode prog_5_method_4_code 0 = .ok (.aload_n 0, 1) := by decide +kernel
theorem d_Tx_writeOf_1 : decode prog_5_method_4_code 1 = .ok (.getfield 28, 3) := by decide +kernel
theorem d_Tx_writeOf_4 : decode prog_5_method_4_code 4 = .ok (.astore_n 2, 1) := by decide +kernel
theorem d_Tx_writeOf_5 : decode prog_5_method_4_code 5 = .ok (.aload_n 2, 1) := by decide +kernel
theorem d_Tx_writeOf_6 : decode prog_5_method_4_code 6 = .ok (.ifnull 21, 3) := by decide +kernel
theorem d_Tx_writeOf_9 : decode prog_5_method_4_code 9 = .ok (.aload_n 2, 1) := by decide +kernel
theorem d_Tx_writeOf_10 : decode prog_5_method_4_code 10 = .ok (.getfield 37, 3) := by decide +kernel
theorem d_Tx_writeOf_13 : decode prog_5_method_4_code 13 = .ok (.iload_n 1, 1) := by decide +kernel
theorem d_Tx_writeOf_14 : decode prog_5_method_4_code 14 = .ok (.if_icmp .ne 5, 3) := by decide +kernel
theorem d_Tx_writeOf_17 : decode prog_5_method_4_code 17 = .ok (.aload_n 2, 1) := by decide +kernel
theorem d_Tx_writeOf_18 : decode prog_5_method_4_code 18 = .ok (.areturn, 1) := by decide +kernel
theorem d_Tx_writeOf_19 : decode prog_5_method_4_code 19 = .ok (.aload_n 2, 1) := by decide +kernel
theorem d_Tx_writeOf_20 : decode prog_5_method_4_code 20 = .ok (.getfield 40, 3) := by decide +kernel
theorem d_Tx_writeOf_23 : decode prog_5_method_4_code 23 = .ok (.astore_n 2, 1) := by decide +kernel
theorem d_Tx_writeOf_24 : decode prog_5_method_4_code 24 = .ok (.goto (-19), 3) := by decide +kernel
theorem d_Tx_writeOf_27 : decode prog_5_method_4_code 27 = .ok (.aconst_null, 1) := by decide +kernel
theorem d_Tx_writeOf_28 : decode prog_5_method_4_code 28 = .ok (.areturn, 1) := by decide +kernel
theorem d_S_found_0 : decode prog_1_method_4_code 0 = .ok (.aload_n 0, 1) := by decide +kernel
theorem d_S_found_1 : decode prog_1_method_4_code 1 = .ok (.iload_n 1, 1) := by decide +kernel
theorem d_S_found_2 : decode prog_1_method_4_code 2 = .ok (.invokevirtual 37, 3) := by decide +kernel
theorem d_S_found_5 : decode prog_1_method_4_code 5 = .ok (.astore_n 3, 1) := by decide +kernel
theorem d_S_found_6 : decode prog_1_method_4_code 6 = .ok (.aload_n 0, 1) := by decide +kernel
theorem d_S_found_7 : decode prog_1_method_4_code 7 = .ok (.aload_n 3, 1) := by decide +kernel
theorem d_S_found_8 : decode prog_1_method_4_code 8 = .ok (.iload_n 2, 1) := by decide +kernel
theorem d_S_found_9 : decode prog_1_method_4_code 9 = .ok (.iload_n 2, 1) := by decide +kernel
theorem d_S_found_10 : decode prog_1_method_4_code 10 = .ok (.invokevirtual 41, 3) := by decide +kernel
theorem d_S_found_13 : decode prog_1_method_4_code 13 = .ok (.aload_n 3, 1) := by decide +kernel
theorem d_S_found_14 : decode prog_1_method_4_code 14 = .ok (.aload_n 0, 1) := by decide +kernel
theorem d_S_found_15 : decode prog_1_method_4_code 15 = .ok (.iload_n 2, 1) := by decide +kernel
theorem d_S_found_16 : decode prog_1_method_4_code 16 = .ok (.invokevirtual 45, 3) := by decide +kernel
theorem d_S_found_19 : decode prog_1_method_4_code 19 = .ok (.invokestatic 49, 3) := by decide +kernel
theorem d_S_found_22 : decode prog_1_method_4_code 22 = .ok (.ldc2_w 57, 3) := by decide +kernel
theorem d_S_found_25 : decode prog_1_method_4_code 25 = .ok (.lcmp, 1) := by decide +kernel
theorem d_S_found_26 : decode prog_1_method_4_code 26 = .ok (.ifCond .eq 7, 3) := by decide +kernel
theorem d_S_found_29 : decode prog_1_method_4_code 29 = .ok (.iconst 1, 1) := by decide +kernel
theorem d_S_found_30 : decode prog_1_method_4_code 30 = .ok (.goto 4, 3) := by decide +kernel
theorem d_S_found_33 : decode prog_1_method_4_code 33 = .ok (.iconst 0, 1) := by decide +kernel
theorem d_S_found_34 : decode prog_1_method_4_code 34 = .ok (.ireturn, 1) := by decide +kernel
theorem d_S_write_0 : decode prog_1_method_5_code 0 = .ok (.aload_n 0, 1) := by decide +kernel
theorem d_S_write_1 : decode prog_1_method_5_code 1 = .ok (.aload_n 0, 1) := by decide +kernel
theorem d_S_write_2 : decode prog_1_method_5_code 2 = .ok (.iload_n 1, 1) := by decide +kernel
theorem d_S_write_3 : decode prog_1_method_5_code 3 = .ok (.invokevirtual 37, 3) := by decide +kernel
theorem d_S_write_6 : decode prog_1_method_5_code 6 = .ok (.iload_n 2, 1) := by decide +kernel
theorem d_S_write_7 : decode prog_1_method_5_code 7 = .ok (.iload_n 3, 1) := by decide +kernel
theorem d_S_write_8 : decode prog_1_method_5_code 8 = .ok (.i2l, 1) := by decide +kernel
theorem d_S_write_9 : decode prog_1_method_5_code 9 = .ok (.invokevirtual 59, 3) := by decide +kernel
theorem d_S_write_12 : decode prog_1_method_5_code 12 = .ok (.ireturn, 1) := by decide +kernel
theorem d_S_put_0 : decode prog_1_method_25_code 0 = .ok (.aload_n 0, 1) := by decide +kernel
theorem d_S_put_1 : decode prog_1_method_25_code 1 = .ok (.invokevirtual 206, 3) := by decide +kernel
theorem d_S_put_4 : decode prog_1_method_25_code 4 = .ok (.aload_n 0, 1) := by decide +kernel
theorem d_S_put_5 : decode prog_1_method_25_code 5 = .ok (.iload_n 2, 1) := by decide +kernel
theorem d_S_put_6 : decode prog_1_method_25_code 6 = .ok (.invokevirtual 218, 3) := by decide +kernel
theorem d_S_put_9 : decode prog_1_method_25_code 9 = .ok (.aload_n 1, 1) := by decide +kernel
theorem d_S_put_10 : decode prog_1_method_25_code 10 = .ok (.invokevirtual 110, 3) := by decide +kernel
theorem d_S_put_13 : decode prog_1_method_25_code 13 = .ok (.istore 5, 2) := by decide +kernel
theorem d_S_put_15 : decode prog_1_method_25_code 15 = .ok (.aload_n 1, 1) := by decide +kernel
theorem d_S_put_16 : decode prog_1_method_25_code 16 = .ok (.iload_n 2, 1) := by decide +kernel
theorem d_S_put_17 : decode prog_1_method_25_code 17 = .ok (.invokevirtual 221, 3) := by decide +kernel
theorem d_S_put_20 : decode prog_1_method_25_code 20 = .ok (.ifnonnull 6, 3) := by decide +kernel
theorem d_S_put_23 : decode prog_1_method_25_code 23 = .ok (.iinc 5 1, 3) := by decide +kernel
theorem d_S_put_26 : decode prog_1_method_25_code 26 = .ok (.aload_n 1, 1) := by decide +kernel
theorem d_S_put_27 : decode prog_1_method_25_code 27 = .ok (.new 225, 3) := by decide +kernel
theorem d_S_put_30 : decode prog_1_method_25_code 30 = .ok (.dup, 1) := by decide +kernel
theorem d_S_put_31 : decode prog_1_method_25_code 31 = .ok (.iload_n 2, 1) := by decide +kernel
theorem d_S_put_32 : decode prog_1_method_25_code 32 = .ok (.lload_n 3, 1) := by decide +kernel
theorem d_S_put_33 : decode prog_1_method_25_code 33 = .ok (.iload 5, 2) := by decide +kernel
theorem d_S_put_35 : decode prog_1_method_25_code 35 = .ok (.aload_n 1, 1) := by decide +kernel
theorem d_S_put_36 : decode prog_1_method_25_code 36 = .ok (.getfield 92, 3) := by decide +kernel
theorem d_S_put_39 : decode prog_1_method_25_code 39 = .ok (.invokespecial 227, 3) := by decide +kernel
theorem d_S_put_42 : decode prog_1_method_25_code 42 = .ok (.putfield 92, 3) := by decide +kernel
theorem d_S_put_45 : decode prog_1_method_25_code 45 = .ok (.iload 5, 2) := by decide +kernel
theorem d_S_put_47 : decode prog_1_method_25_code 47 = .ok (.ireturn, 1) := by decide +kernel
theorem d_S_placeKey_0 : decode prog_1_method_27_code 0 = .ok (.aload_n 0, 1) := by decide +kernel
theorem d_S_placeKey_1 : decode prog_1_method_27_code 1 = .ok (.iload_n 1, 1) := by decide +kernel
theorem d_S_placeKey_2 : decode prog_1_method_27_code 2 = .ok (.invokevirtual 230, 3) := by decide +kernel
theorem d_S_placeKey_5 : decode prog_1_method_27_code 5 = .ok (.astore_n 2, 1) := by decide +kernel
theorem d_S_placeKey_6 : decode prog_1_method_27_code 6 = .ok (.aload_n 2, 1) := by decide +kernel
theorem d_S_placeKey_7 : decode prog_1_method_27_code 7 = .ok (.ifnonnull 22, 3) := by decide +kernel
theorem d_S_placeKey_10 : decode prog_1_method_27_code 10 = .ok (.aload_n 0, 1) := by decide +kernel
theorem d_S_placeKey_11 : decode prog_1_method_27_code 11 = .ok (.new 68, 3) := by decide +kernel
theorem d_S_placeKey_14 : decode prog_1_method_27_code 14 = .ok (.dup, 1) := by decide +kernel
theorem d_S_placeKey_15 : decode prog_1_method_27_code 15 = .ok (.iload_n 1, 1) := by decide +kernel
theorem d_S_placeKey_16 : decode prog_1_method_27_code 16 = .ok (.aload_n 0, 1) := by decide +kernel
theorem d_S_placeKey_17 : decode prog_1_method_27_code 17 = .ok (.getfield 63, 3) := by decide +kernel
theorem d_S_placeKey_20 : decode prog_1_method_27_code 20 = .ok (.invokespecial 233, 3) := by decide +kernel
theorem d_S_placeKey_23 : decode prog_1_method_27_code 23 = .ok (.putfield 63, 3) := by decide +kernel
theorem d_S_placeKey_26 : decode prog_1_method_27_code 26 = .ok (.goto 27, 3) := by decide +kernel
theorem d_S_placeKey_29 : decode prog_1_method_27_code 29 = .ok (.aload_n 2, 1) := by decide +kernel
theorem d_S_placeKey_30 : decode prog_1_method_27_code 30 = .ok (.getfield 67, 3) := by decide +kernel
theorem d_S_placeKey_33 : decode prog_1_method_27_code 33 = .ok (.iload_n 1, 1) := by decide +kernel
theorem d_S_placeKey_34 : decode prog_1_method_27_code 34 = .ok (.if_icmp .eq 19, 3) := by decide +kernel
theorem d_S_placeKey_37 : decode prog_1_method_27_code 37 = .ok (.aload_n 2, 1) := by decide +kernel
theorem d_S_placeKey_38 : decode prog_1_method_27_code 38 = .ok (.new 68, 3) := by decide +kernel
theorem d_S_placeKey_41 : decode prog_1_method_27_code 41 = .ok (.dup, 1) := by decide +kernel
theorem d_S_placeKey_42 : decode prog_1_method_27_code 42 = .ok (.iload_n 1, 1) := by decide +kernel
theorem d_S_placeKey_43 : decode prog_1_method_27_code 43 = .ok (.aload_n 2, 1) := by decide +kernel
theorem d_S_placeKey_44 : decode prog_1_method_27_code 44 = .ok (.getfield 72, 3) := by decide +kernel
theorem d_S_placeKey_47 : decode prog_1_method_27_code 47 = .ok (.invokespecial 233, 3) := by decide +kernel
theorem d_S_placeKey_50 : decode prog_1_method_27_code 50 = .ok (.putfield 72, 3) := by decide +kernel
theorem d_S_placeKey_53 : decode prog_1_method_27_code 53 = .ok (.return_, 1) := by decide +kernel
theorem d_Key_init_0 : decode prog_2_method_1_code 0 = .ok (.aload_n 0, 1) := by decide +kernel
theorem d_Key_init_1 : decode prog_2_method_1_code 1 = .ok (.invokespecial 3, 3) := by decide +kernel
theorem d_Key_init_4 : decode prog_2_method_1_code 4 = .ok (.aload_n 0, 1) := by decide +kernel
theorem d_Key_init_5 : decode prog_2_method_1_code 5 = .ok (.iload_n 1, 1) := by decide +kernel
theorem d_Key_init_6 : decode prog_2_method_1_code 6 = .ok (.putfield 9, 3) := by decide +kernel
theorem d_Key_init_9 : decode prog_2_method_1_code 9 = .ok (.aload_n 0, 1) := by decide +kernel
theorem d_Key_init_10 : decode prog_2_method_1_code 10 = .ok (.aload_n 2, 1) := by decide +kernel
theorem d_Key_init_11 : decode prog_2_method_1_code 11 = .ok (.putfield 15, 3) := by decide +kernel
theorem d_Key_init_14 : decode prog_2_method_1_code 14 = .ok (.return_, 1) := by decide +kernel
theorem d_Tx_writtenKeys_0 : decode prog_5_method_3_code 0 = .ok (.aload_n 0, 1) := by decide +kernel
theorem d_Tx_writtenKeys_1 : decode prog_5_method_3_code 1 = .ok (.getfield 28, 3) := by decide +kernel
theorem d_Tx_writtenKeys_4 : decode prog_5_method_3_code 4 = .ok (.ifnonnull 7, 3) := by decide +kernel
theorem d_Tx_writtenKeys_7 : decode prog_5_method_3_code 7 = .ok (.iconst 0, 1) := by decide +kernel
theorem d_Tx_writtenKeys_8 : decode prog_5_method_3_code 8 = .ok (.goto 10, 3) := by decide +kernel
theorem d_Tx_writtenKeys_11 : decode prog_5_method_3_code 11 = .ok (.aload_n 0, 1) := by decide +kernel
theorem d_Tx_writtenKeys_12 : decode prog_5_method_3_code 12 = .ok (.getfield 28, 3) := by decide +kernel
theorem d_Tx_writtenKeys_15 : decode prog_5_method_3_code 15 = .ok (.getfield 32, 3) := by decide +kernel
theorem d_Tx_writtenKeys_18 : decode prog_5_method_3_code 18 = .ok (.ireturn, 1) := by decide +kernel
theorem d_Wr_init_0 : decode prog_7_method_1_code 0 = .ok (.aload_n 0, 1) := by decide +kernel
theorem d_Wr_init_1 : decode prog_7_method_1_code 1 = .ok (.invokespecial 1, 3) := by decide +kernel
theorem d_Wr_init_4 : decode prog_7_method_1_code 4 = .ok (.aload_n 0, 1) := by decide +kernel
theorem d_Wr_init_5 : decode prog_7_method_1_code 5 = .ok (.iload_n 1, 1) := by decide +kernel
theorem d_Wr_init_6 : decode prog_7_method_1_code 6 = .ok (.putfield 7, 3) := by decide +kernel
theorem d_Wr_init_9 : decode prog_7_method_1_code 9 = .ok (.aload_n 0, 1) := by decide +kernel
theorem d_Wr_init_10 : decode prog_7_method_1_code 10 = .ok (.lload_n 2, 1) := by decide +kernel
theorem d_Wr_init_11 : decode prog_7_method_1_code 11 = .ok (.putfield 13, 3) := by decide +kernel
theorem d_Wr_init_14 : decode prog_7_method_1_code 14 = .ok (.aload_n 0, 1) := by decide +kernel
theorem d_Wr_init_15 : decode prog_7_method_1_code 15 = .ok (.iload 4, 2) := by decide +kernel
theorem d_Wr_init_17 : decode prog_7_method_1_code 17 = .ok (.putfield 17, 3) := by decide +kernel
theorem d_Wr_init_20 : decode prog_7_method_1_code 20 = .ok (.aload_n 0, 1) := by decide +kernel
theorem d_Wr_init_21 : decode prog_7_method_1_code 21 = .ok (.aload 5, 2) := by decide +kernel
theorem d_Wr_init_23 : decode prog_7_method_1_code 23 = .ok (.putfield 20, 3) := by decide +kernel
theorem d_Wr_init_26 : decode prog_7_method_1_code 26 = .ok (.return_, 1) := by decide +kernel
theorem d_S_erase_0 : decode prog_1_method_6_code 0 = .ok (.aload_n 0, 1) := by decide +kernel
theorem d_S_erase_1 : decode prog_1_method_6_code 1 = .ok (.aload_n 0, 1) := by decide +kernel
theorem d_S_erase_2 : decode prog_1_method_6_code 2 = .ok (.iload_n 1, 1) := by decide +kernel
theorem d_S_erase_3 : decode prog_1_method_6_code 3 = .ok (.invokevirtual 37, 3) := by decide +kernel
theorem d_S_erase_6 : decode prog_1_method_6_code 6 = .ok (.iload_n 2, 1) := by decide +kernel
theorem d_S_erase_7 : decode prog_1_method_6_code 7 = .ok (.ldc2_w 57, 3) := by decide +kernel
theorem d_S_erase_10 : decode prog_1_method_6_code 10 = .ok (.invokevirtual 59, 3) := by decide +kernel
theorem d_S_erase_13 : decode prog_1_method_6_code 13 = .ok (.ireturn, 1) := by decide +kernel
theorem d_S_sum_0 : decode prog_1_method_7_code 0 = .ok (.aload_n 0, 1) := by decide +kernel
theorem d_S_sum_1 : decode prog_1_method_7_code 1 = .ok (.iload_n 1, 1) := by decide +kernel
theorem d_S_sum_2 : decode prog_1_method_7_code 2 = .ok (.invokevirtual 37, 3) := by decide +kernel
theorem d_S_sum_5 : decode prog_1_method_7_code 5 = .ok (.astore 4, 2) := by decide +kernel
theorem d_S_sum_7 : decode prog_1_method_7_code 7 = .ok (.aload_n 0, 1) := by decide +kernel
theorem d_S_sum_8 : decode prog_1_method_7_code 8 = .ok (.aload 4, 2) := by decide +kernel
theorem d_S_sum_10 : decode prog_1_method_7_code 10 = .ok (.iload_n 2, 1) := by decide +kernel
theorem d_S_sum_11 : decode prog_1_method_7_code 11 = .ok (.iload_n 3, 1) := by decide +kernel
theorem d_S_sum_12 : decode prog_1_method_7_code 12 = .ok (.invokevirtual 41, 3) := by decide +kernel
theorem d_S_sum_15 : decode prog_1_method_7_code 15 = .ok (.lconst 0, 1) := by decide +kernel
theorem d_S_sum_16 : decode prog_1_method_7_code 16 = .ok (.lstore 5, 2) := by decide +kernel
theorem d_S_sum_18 : decode prog_1_method_7_code 18 = .ok (.aload_n 0, 1) := by decide +kernel
theorem d_S_sum_19 : decode prog_1_method_7_code 19 = .ok (.getfield 63, 3) := by decide +kernel
theorem d_S_sum_22 : decode prog_1_method_7_code 22 = .ok (.astore 7, 2) := by decide +kernel
theorem d_S_sum_24 : decode prog_1_method_7_code 24 = .ok (.aload 7, 2) := by decide +kernel
theorem d_S_sum_26 : decode prog_1_method_7_code 26 = .ok (.ifnull 47, 3) := by decide +kernel
theorem d_S_sum_29 : decode prog_1_method_7_code 29 = .ok (.aload 7, 2) := by decide +kernel
theorem d_S_sum_31 : decode prog_1_method_7_code 31 = .ok (.getfield 67, 3) := by decide +kernel
theorem d_S_sum_34 : decode prog_1_method_7_code 34 = .ok (.iload_n 2, 1) := by decide +kernel
theorem d_S_sum_35 : decode prog_1_method_7_code 35 = .ok (.if_icmp .lt 28, 3) := by decide +kernel
theorem d_S_sum_38 : decode prog_1_method_7_code 38 = .ok (.aload 7, 2) := by decide +kernel
theorem d_S_sum_40 : decode prog_1_method_7_code 40 = .ok (.getfield 67, 3) := by decide +kernel
theorem d_S_sum_43 : decode prog_1_method_7_code 43 = .ok (.iload_n 3, 1) := by decide +kernel
theorem d_S_sum_44 : decode prog_1_method_7_code 44 = .ok (.if_icmp .gt 19, 3) := by decide +kernel
theorem d_S_sum_47 : decode prog_1_method_7_code 47 = .ok (.lload 5, 2) := by decide +kernel
theorem d_S_sum_49 : decode prog_1_method_7_code 49 = .ok (.aload 4, 2) := by decide +kernel
theorem d_S_sum_51 : decode prog_1_method_7_code 51 = .ok (.aload 7, 2) := by decide +kernel
theorem d_S_sum_53 : decode prog_1_method_7_code 53 = .ok (.invokestatic 49, 3) := by decide +kernel
theorem d_S_sum_56 : decode prog_1_method_7_code 56 = .ok (.invokestatic 53, 3) := by decide +kernel
theorem d_S_sum_59 : decode prog_1_method_7_code 59 = .ok (.i2l, 1) := by decide +kernel
theorem d_S_sum_60 : decode prog_1_method_7_code 60 = .ok (.ladd, 1) := by decide +kernel
theorem d_S_sum_61 : decode prog_1_method_7_code 61 = .ok (.lstore 5, 2) := by decide +kernel
theorem d_S_sum_63 : decode prog_1_method_7_code 63 = .ok (.aload 7, 2) := by decide +kernel
theorem d_S_sum_65 : decode prog_1_method_7_code 65 = .ok (.getfield 72, 3) := by decide +kernel
theorem d_S_sum_68 : decode prog_1_method_7_code 68 = .ok (.astore 7, 2) := by decide +kernel
theorem d_S_sum_70 : decode prog_1_method_7_code 70 = .ok (.goto (-46), 3) := by decide +kernel
theorem d_S_sum_73 : decode prog_1_method_7_code 73 = .ok (.lload 5, 2) := by decide +kernel
theorem d_S_sum_75 : decode prog_1_method_7_code 75 = .ok (.lreturn, 1) := by decide +kernel
theorem d_S_key_0 : decode prog_1_method_8_code 0 = .ok (.aload_n 0, 1) := by decide +kernel
theorem d_S_key_1 : decode prog_1_method_8_code 1 = .ok (.iload_n 1, 1) := by decide +kernel
theorem d_S_key_2 : decode prog_1_method_8_code 2 = .ok (.invokevirtual 37, 3) := by decide +kernel
theorem d_S_key_5 : decode prog_1_method_8_code 5 = .ok (.astore 4, 2) := by decide +kernel
theorem d_S_key_7 : decode prog_1_method_8_code 7 = .ok (.iload_n 3, 1) := by decide +kernel
theorem d_S_key_8 : decode prog_1_method_8_code 8 = .ok (.ifCond .ge 13, 3) := by decide +kernel
theorem d_S_key_11 : decode prog_1_method_8_code 11 = .ok (.new 15, 3) := by decide +kernel
theorem d_S_key_14 : decode prog_1_method_8_code 14 = .ok (.dup, 1) := by decide +kernel
theorem d_S_key_15 : decode prog_1_method_8_code 15 = .ok (.ldc 75, 2) := by decide +kernel
theorem d_S_key_17 : decode prog_1_method_8_code 17 = .ok (.invokespecial 19, 3) := by decide +kernel
theorem d_S_key_20 : decode prog_1_method_8_code 20 = .ok (.athrow, 1) := by decide +kernel
theorem d_S_key_21 : decode prog_1_method_8_code 21 = .ok (.aload_n 0, 1) := by decide +kernel
theorem d_S_key_22 : decode prog_1_method_8_code 22 = .ok (.aload 4, 2) := by decide +kernel
theorem d_S_key_24 : decode prog_1_method_8_code 24 = .ok (.iload_n 2, 1) := by decide +kernel
theorem d_S_key_25 : decode prog_1_method_8_code 25 = .ok (.iload_n 3, 1) := by decide +kernel
theorem d_S_key_26 : decode prog_1_method_8_code 26 = .ok (.invokevirtual 77, 3) := by decide +kernel
theorem d_S_key_29 : decode prog_1_method_8_code 29 = .ok (.astore 5, 2) := by decide +kernel
theorem d_S_key_31 : decode prog_1_method_8_code 31 = .ok (.aload 5, 2) := by decide +kernel
theorem d_S_key_33 : decode prog_1_method_8_code 33 = .ok (.ifnonnull 16, 3) := by decide +kernel
theorem d_S_key_36 : decode prog_1_method_8_code 36 = .ok (.aload_n 0, 1) := by decide +kernel
theorem d_S_key_37 : decode prog_1_method_8_code 37 = .ok (.aload 4, 2) := by decide +kernel
theorem d_S_key_39 : decode prog_1_method_8_code 39 = .ok (.iload_n 2, 1) := by decide +kernel
theorem d_S_key_40 : decode prog_1_method_8_code 40 = .ok (.ldc 83, 2) := by decide +kernel
theorem d_S_key_42 : decode prog_1_method_8_code 42 = .ok (.invokevirtual 41, 3) := by decide +kernel
theorem d_S_key_45 : decode prog_1_method_8_code 45 = .ok (.ldc2_w 57, 3) := by decide +kernel
theorem d_S_key_48 : decode prog_1_method_8_code 48 = .ok (.lreturn, 1) := by decide +kernel
theorem d_S_key_49 : decode prog_1_method_8_code 49 = .ok (.aload_n 0, 1) := by decide +kernel
theorem d_S_key_50 : decode prog_1_method_8_code 50 = .ok (.aload 4, 2) := by decide +kernel
theorem d_S_key_52 : decode prog_1_method_8_code 52 = .ok (.iload_n 2, 1) := by decide +kernel
theorem d_S_key_53 : decode prog_1_method_8_code 53 = .ok (.aload 5, 2) := by decide +kernel
theorem d_S_key_55 : decode prog_1_method_8_code 55 = .ok (.getfield 67, 3) := by decide +kernel
theorem d_S_key_58 : decode prog_1_method_8_code 58 = .ok (.invokevirtual 41, 3) := by decide +kernel
theorem d_S_key_61 : decode prog_1_method_8_code 61 = .ok (.aload 5, 2) := by decide +kernel
theorem d_S_key_63 : decode prog_1_method_8_code 63 = .ok (.getfield 67, 3) := by decide +kernel
theorem d_S_key_66 : decode prog_1_method_8_code 66 = .ok (.i2l, 1) := by decide +kernel
theorem d_S_key_67 : decode prog_1_method_8_code 67 = .ok (.lreturn, 1) := by decide +kernel
theorem d_S_seenKey_0 : decode prog_1_method_31_code 0 = .ok (.iload_n 3, 1) := by decide +kernel
theorem d_S_seenKey_1 : decode prog_1_method_31_code 1 = .ok (.istore 4, 2) := by decide +kernel
theorem d_S_seenKey_3 : decode prog_1_method_31_code 3 = .ok (.aload_n 0, 1) := by decide +kernel
theorem d_S_seenKey_4 : decode prog_1_method_31_code 4 = .ok (.getfield 63, 3) := by decide +kernel
theorem d_S_seenKey_7 : decode prog_1_method_31_code 7 = .ok (.astore 5, 2) := by decide +kernel
theorem d_S_seenKey_9 : decode prog_1_method_31_code 9 = .ok (.aload 5, 2) := by decide +kernel
theorem d_S_seenKey_11 : decode prog_1_method_31_code 11 = .ok (.ifnull 46, 3) := by decide +kernel
theorem d_S_seenKey_14 : decode prog_1_method_31_code 14 = .ok (.aload 5, 2) := by decide +kernel
theorem d_S_seenKey_16 : decode prog_1_method_31_code 16 = .ok (.getfield 67, 3) := by decide +kernel
theorem d_S_seenKey_19 : decode prog_1_method_31_code 19 = .ok (.iload_n 2, 1) := by decide +kernel
theorem d_S_seenKey_20 : decode prog_1_method_31_code 20 = .ok (.if_icmp .lt 27, 3) := by decide +kernel
theorem d_S_seenKey_23 : decode prog_1_method_31_code 23 = .ok (.aload_n 1, 1) := by decide +kernel
theorem d_S_seenKey_24 : decode prog_1_method_31_code 24 = .ok (.aload 5, 2) := by decide +kernel
theorem d_S_seenKey_26 : decode prog_1_method_31_code 26 = .ok (.invokestatic 49, 3) := by decide +kernel
theorem d_S_seenKey_29 : decode prog_1_method_31_code 29 = .ok (.ldc2_w 57, 3) := by decide +kernel
theorem d_S_seenKey_32 : decode prog_1_method_31_code 32 = .ok (.lcmp, 1) := by decide +kernel
theorem d_S_seenKey_33 : decode prog_1_method_31_code 33 = .ok (.ifCond .eq 14, 3) := by decide +kernel
theorem d_S_seenKey_36 : decode prog_1_method_31_code 36 = .ok (.iload 4, 2) := by decide +kernel
theorem d_S_seenKey_38 : decode prog_1_method_31_code 38 = .ok (.ifCond .ne 6, 3) := by decide +kernel
theorem d_S_seenKey_41 : decode prog_1_method_31_code 41 = .ok (.aload 5, 2) := by decide +kernel
theorem d_S_seenKey_43 : decode prog_1_method_31_code 43 = .ok (.areturn, 1) := by decide +kernel
theorem d_S_seenKey_44 : decode prog_1_method_31_code 44 = .ok (.iinc 4 (-1), 3) := by decide +kernel
theorem d_S_seenKey_47 : decode prog_1_method_31_code 47 = .ok (.aload 5, 2) := by decide +kernel
theorem d_S_seenKey_49 : decode prog_1_method_31_code 49 = .ok (.getfield 72, 3) := by decide +kernel
theorem d_S_seenKey_52 : decode prog_1_method_31_code 52 = .ok (.astore 5, 2) := by decide +kernel
theorem d_S_seenKey_54 : decode prog_1_method_31_code 54 = .ok (.goto (-45), 3) := by decide +kernel
theorem d_S_seenKey_57 : decode prog_1_method_31_code 57 = .ok (.aconst_null, 1) := by decide +kernel
theorem d_S_seenKey_58 : decode prog_1_method_31_code 58 = .ok (.areturn, 1) := by decide +kernel
theorem d_S_save_0 : decode prog_1_method_9_code 0 = .ok (.aload_n 0, 1) := by decide +kernel
theorem d_S_save_1 : decode prog_1_method_9_code 1 = .ok (.iload_n 1, 1) := by decide +kernel
theorem d_S_save_2 : decode prog_1_method_9_code 2 = .ok (.invokevirtual 37, 3) := by decide +kernel
theorem d_S_save_5 : decode prog_1_method_9_code 5 = .ok (.astore_n 2, 1) := by decide +kernel
theorem d_S_save_6 : decode prog_1_method_9_code 6 = .ok (.aload_n 2, 1) := by decide +kernel
theorem d_S_save_7 : decode prog_1_method_9_code 7 = .ok (.invokevirtual 84, 3) := by decide +kernel
theorem d_S_save_10 : decode prog_1_method_9_code 10 = .ok (.istore_n 3, 1) := by decide +kernel
theorem d_S_save_11 : decode prog_1_method_9_code 11 = .ok (.iload_n 3, 1) := by decide +kernel
theorem d_S_save_12 : decode prog_1_method_9_code 12 = .ok (.bipush 20, 2) := by decide +kernel
theorem d_S_save_14 : decode prog_1_method_9_code 14 = .ok (.if_icmp .lt 13, 3) := by decide +kernel
theorem d_S_save_17 : decode prog_1_method_9_code 17 = .ok (.new 26, 3) := by decide +kernel
theorem d_S_save_20 : decode prog_1_method_9_code 20 = .ok (.dup, 1) := by decide +kernel
theorem d_S_save_21 : decode prog_1_method_9_code 21 = .ok (.ldc 88, 2) := by decide +kernel
theorem d_S_save_23 : decode prog_1_method_9_code 23 = .ok (.invokespecial 30, 3) := by decide +kernel
theorem d_S_save_26 : decode prog_1_method_9_code 26 = .ok (.athrow, 1) := by decide +kernel
theorem d_S_save_27 : decode prog_1_method_9_code 27 = .ok (.aload_n 2, 1) := by decide +kernel
theorem d_S_save_28 : decode prog_1_method_9_code 28 = .ok (.new 90, 3) := by decide +kernel
theorem d_S_save_31 : decode prog_1_method_9_code 31 = .ok (.dup, 1) := by decide +kernel
theorem d_S_save_32 : decode prog_1_method_9_code 32 = .ok (.iload_n 3, 1) := by decide +kernel
theorem d_S_save_33 : decode prog_1_method_9_code 33 = .ok (.aload_n 2, 1) := by decide +kernel
theorem d_S_save_34 : decode prog_1_method_9_code 34 = .ok (.getfield 92, 3) := by decide +kernel
theorem d_S_save_37 : decode prog_1_method_9_code 37 = .ok (.aload_n 2, 1) := by decide +kernel
theorem d_S_save_38 : decode prog_1_method_9_code 38 = .ok (.getfield 96, 3) := by decide +kernel
theorem d_S_save_41 : decode prog_1_method_9_code 41 = .ok (.invokespecial 100, 3) := by decide +kernel
theorem d_S_save_44 : decode prog_1_method_9_code 44 = .ok (.putfield 96, 3) := by decide +kernel
theorem d_S_save_47 : decode prog_1_method_9_code 47 = .ok (.iload_n 3, 1) := by decide +kernel
theorem d_S_save_48 : decode prog_1_method_9_code 48 = .ok (.ireturn, 1) := by decide +kernel
theorem d_Tx_placeCount_0 : decode prog_5_method_5_code 0 = .ok (.aload_n 0, 1) := by decide +kernel
theorem d_Tx_placeCount_1 : decode prog_5_method_5_code 1 = .ok (.getfield 24, 3) := by decide +kernel
theorem d_Tx_placeCount_4 : decode prog_5_method_5_code 4 = .ok (.ifnonnull 7, 3) := by decide +kernel
theorem d_Tx_placeCount_7 : decode prog_5_method_5_code 7 = .ok (.iconst 0, 1) := by decide +kernel
theorem d_Tx_placeCount_8 : decode prog_5_method_5_code 8 = .ok (.goto 12, 3) := by decide +kernel
theorem d_Tx_placeCount_11 : decode prog_5_method_5_code 11 = .ok (.aload_n 0, 1) := by decide +kernel
theorem d_Tx_placeCount_12 : decode prog_5_method_5_code 12 = .ok (.getfield 24, 3) := by decide +kernel
theorem d_Tx_placeCount_15 : decode prog_5_method_5_code 15 = .ok (.getfield 43, 3) := by decide +kernel
theorem d_Tx_placeCount_18 : decode prog_5_method_5_code 18 = .ok (.iconst 1, 1) := by decide +kernel
theorem d_Tx_placeCount_19 : decode prog_5_method_5_code 19 = .ok (.iadd, 1) := by decide +kernel
theorem d_Tx_placeCount_20 : decode prog_5_method_5_code 20 = .ok (.ireturn, 1) := by decide +kernel
theorem d_Place_init_0 : decode prog_3_method_1_code 0 = .ok (.aload_n 0, 1) := by decide +kernel
theorem d_Place_init_1 : decode prog_3_method_1_code 1 = .ok (.invokespecial 1, 3) := by decide +kernel
theorem d_Place_init_4 : decode prog_3_method_1_code 4 = .ok (.aload_n 0, 1) := by decide +kernel
theorem d_Place_init_5 : decode prog_3_method_1_code 5 = .ok (.iload_n 1, 1) := by decide +kernel
theorem d_Place_init_6 : decode prog_3_method_1_code 6 = .ok (.putfield 7, 3) := by decide +kernel
theorem d_Place_init_9 : decode prog_3_method_1_code 9 = .ok (.aload_n 0, 1) := by decide +kernel
theorem d_Place_init_10 : decode prog_3_method_1_code 10 = .ok (.aload_n 2, 1) := by decide +kernel
theorem d_Place_init_11 : decode prog_3_method_1_code 11 = .ok (.putfield 13, 3) := by decide +kernel
theorem d_Place_init_14 : decode prog_3_method_1_code 14 = .ok (.aload_n 0, 1) := by decide +kernel
theorem d_Place_init_15 : decode prog_3_method_1_code 15 = .ok (.aload_n 3, 1) := by decide +kernel
theorem d_Place_init_16 : decode prog_3_method_1_code 16 = .ok (.putfield 17, 3) := by decide +kernel
theorem d_Place_init_19 : decode prog_3_method_1_code 19 = .ok (.return_, 1) := by decide +kernel
theorem d_S_back_0 : decode prog_1_method_10_code 0 = .ok (.aload_n 0, 1) := by decide +kernel
theorem d_S_back_1 : decode prog_1_method_10_code 1 = .ok (.iload_n 1, 1) := by decide +kernel
theorem d_S_back_2 : decode prog_1_method_10_code 2 = .ok (.invokevirtual 37, 3) := by decide +kernel
theorem d_S_back_5 : decode prog_1_method_10_code 5 = .ok (.astore_n 3, 1) := by decide +kernel
theorem d_S_back_6 : decode prog_1_method_10_code 6 = .ok (.aload_n 3, 1) := by decide +kernel
theorem d_S_back_7 : decode prog_1_method_10_code 7 = .ok (.iload_n 2, 1) := by decide +kernel
theorem d_S_back_8 : decode prog_1_method_10_code 8 = .ok (.invokevirtual 103, 3) := by decide +kernel
theorem d_S_back_11 : decode prog_1_method_10_code 11 = .ok (.astore 4, 2) := by decide +kernel
theorem d_S_back_13 : decode prog_1_method_10_code 13 = .ok (.aload 4, 2) := by decide +kernel
theorem d_S_back_15 : decode prog_1_method_10_code 15 = .ok (.ifnonnull 13, 3) := by decide +kernel
theorem d_S_back_18 : decode prog_1_method_10_code 18 = .ok (.new 15, 3) := by decide +kernel
theorem d_S_back_21 : decode prog_1_method_10_code 21 = .ok (.dup, 1) := by decide +kernel
theorem d_S_back_22 : decode prog_1_method_10_code 22 = .ok (.ldc 107, 2) := by decide +kernel
theorem d_S_back_24 : decode prog_1_method_10_code 24 = .ok (.invokespecial 19, 3) := by decide +kernel
theorem d_S_back_27 : decode prog_1_method_10_code 27 = .ok (.athrow, 1) := by decide +kernel
theorem d_S_back_28 : decode prog_1_method_10_code 28 = .ok (.aload_n 3, 1) := by decide +kernel
theorem d_S_back_29 : decode prog_1_method_10_code 29 = .ok (.aload 4, 2) := by decide +kernel
theorem d_S_back_31 : decode prog_1_method_10_code 31 = .ok (.getfield 109, 3) := by decide +kernel
theorem d_S_back_34 : decode prog_1_method_10_code 34 = .ok (.putfield 92, 3) := by decide +kernel
theorem d_S_back_37 : decode prog_1_method_10_code 37 = .ok (.aload_n 3, 1) := by decide +kernel
theorem d_S_back_38 : decode prog_1_method_10_code 38 = .ok (.aload 4, 2) := by decide +kernel
theorem d_S_back_40 : decode prog_1_method_10_code 40 = .ok (.putfield 96, 3) := by decide +kernel
theorem d_S_back_43 : decode prog_1_method_10_code 43 = .ok (.aload_n 3, 1) := by decide +kernel
theorem d_S_back_44 : decode prog_1_method_10_code 44 = .ok (.invokevirtual 110, 3) := by decide +kernel
theorem d_S_back_47 : decode prog_1_method_10_code 47 = .ok (.ireturn, 1) := by decide +kernel
theorem d_Tx_placeNumbered_0 : decode prog_5_method_6_code 0 = .ok (.aload_n 0, 1) := by decide +kernel
theorem d_Tx_placeNumbered_1 : decode prog_5_method_6_code 1 = .ok (.getfield 24, 3) := by decide +kernel
theorem d_Tx_placeNumbered_4 : decode prog_5_method_6_code 4 = .ok (.astore_n 2, 1) := by decide +kernel
theorem d_Tx_placeNumbered_5 : decode prog_5_method_6_code 5 = .ok (.aload_n 2, 1) := by decide +kernel
theorem d_Tx_placeNumbered_6 : decode prog_5_method_6_code 6 = .ok (.ifnull 21, 3) := by decide +kernel
theorem d_Tx_placeNumbered_9 : decode prog_5_method_6_code 9 = .ok (.aload_n 2, 1) := by decide +kernel
theorem d_Tx_placeNumbered_10 : decode prog_5_method_6_code 10 = .ok (.getfield 43, 3) := by decide +kernel
theorem d_Tx_placeNumbered_13 : decode prog_5_method_6_code 13 = .ok (.iload_n 1, 1) := by decide +kernel
theorem d_Tx_placeNumbered_14 : decode prog_5_method_6_code 14 = .ok (.if_icmp .ne 5, 3) := by decide +kernel
theorem d_Tx_placeNumbered_17 : decode prog_5_method_6_code 17 = .ok (.aload_n 2, 1) := by decide +kernel
theorem d_Tx_placeNumbered_18 : decode prog_5_method_6_code 18 = .ok (.areturn, 1) := by decide +kernel
theorem d_Tx_placeNumbered_19 : decode prog_5_method_6_code 19 = .ok (.aload_n 2, 1) := by decide +kernel
theorem d_Tx_placeNumbered_20 : decode prog_5_method_6_code 20 = .ok (.getfield 48, 3) := by decide +kernel
theorem d_Tx_placeNumbered_23 : decode prog_5_method_6_code 23 = .ok (.astore_n 2, 1) := by decide +kernel
theorem d_Tx_placeNumbered_24 : decode prog_5_method_6_code 24 = .ok (.goto (-19), 3) := by decide +kernel
theorem d_Tx_placeNumbered_27 : decode prog_5_method_6_code 27 = .ok (.aconst_null, 1) := by decide +kernel
theorem d_Tx_placeNumbered_28 : decode prog_5_method_6_code 28 = .ok (.areturn, 1) := by decide +kernel
theorem d_S_commit_0 : decode prog_1_method_11_code 0 = .ok (.aload_n 0, 1) := by decide +kernel
theorem d_S_commit_1 : decode prog_1_method_11_code 1 = .ok (.iload_n 1, 1) := by decide +kernel
theorem d_S_commit_2 : decode prog_1_method_11_code 2 = .ok (.invokevirtual 37, 3) := by decide +kernel
theorem d_S_commit_5 : decode prog_1_method_11_code 5 = .ok (.astore_n 2, 1) := by decide +kernel
theorem d_S_commit_6 : decode prog_1_method_11_code 6 = .ok (.aload_n 0, 1) := by decide +kernel
theorem d_S_commit_7 : decode prog_1_method_11_code 7 = .ok (.aload_n 2, 1) := by decide +kernel
theorem d_S_commit_8 : decode prog_1_method_11_code 8 = .ok (.invokevirtual 113, 3) := by decide +kernel
theorem d_S_commit_11 : decode prog_1_method_11_code 11 = .ok (.ifCond .eq 10, 3) := by decide +kernel
theorem d_S_commit_14 : decode prog_1_method_11_code 14 = .ok (.aload_n 2, 1) := by decide +kernel
theorem d_S_commit_15 : decode prog_1_method_11_code 15 = .ok (.iconst 2, 1) := by decide +kernel
theorem d_S_commit_16 : decode prog_1_method_11_code 16 = .ok (.invokevirtual 117, 3) := by decide +kernel
theorem d_S_commit_19 : decode prog_1_method_11_code 19 = .ok (.iconst (-1), 1) := by decide +kernel
theorem d_S_commit_20 : decode prog_1_method_11_code 20 = .ok (.ireturn, 1) := by decide +kernel
theorem d_S_commit_21 : decode prog_1_method_11_code 21 = .ok (.aload_n 2, 1) := by decide +kernel
theorem d_S_commit_22 : decode prog_1_method_11_code 22 = .ok (.getfield 121, 3) := by decide +kernel
theorem d_S_commit_25 : decode prog_1_method_11_code 25 = .ok (.iconst 1, 1) := by decide +kernel
theorem d_S_commit_26 : decode prog_1_method_11_code 26 = .ok (.if_icmp .ne 16, 3) := by decide +kernel
theorem d_S_commit_29 : decode prog_1_method_11_code 29 = .ok (.aload_n 0, 1) := by decide +kernel
theorem d_S_commit_30 : decode prog_1_method_11_code 30 = .ok (.aload_n 2, 1) := by decide +kernel
theorem d_S_commit_31 : decode prog_1_method_11_code 31 = .ok (.iconst 0, 1) := by decide +kernel
theorem d_S_commit_32 : decode prog_1_method_11_code 32 = .ok (.invokevirtual 124, 3) := by decide +kernel
theorem d_S_commit_35 : decode prog_1_method_11_code 35 = .ok (.ifCond .eq 7, 3) := by decide +kernel
theorem d_S_commit_38 : decode prog_1_method_11_code 38 = .ok (.iconst 1, 1) := by decide +kernel
theorem d_S_commit_39 : decode prog_1_method_11_code 39 = .ok (.goto 4, 3) := by decide +kernel
theorem d_S_commit_42 : decode prog_1_method_11_code 42 = .ok (.iconst 0, 1) := by decide +kernel
theorem d_S_commit_43 : decode prog_1_method_11_code 43 = .ok (.istore_n 3, 1) := by decide +kernel
theorem d_S_commit_44 : decode prog_1_method_11_code 44 = .ok (.iload_n 3, 1) := by decide +kernel
theorem d_S_commit_45 : decode prog_1_method_11_code 45 = .ok (.ifCond .eq 28, 3) := by decide +kernel
theorem d_S_commit_48 : decode prog_1_method_11_code 48 = .ok (.aload_n 0, 1) := by decide +kernel
theorem d_S_commit_49 : decode prog_1_method_11_code 49 = .ok (.aload_n 2, 1) := by decide +kernel
theorem d_S_commit_50 : decode prog_1_method_11_code 50 = .ok (.iconst 1, 1) := by decide +kernel
theorem d_S_commit_51 : decode prog_1_method_11_code 51 = .ok (.invokevirtual 124, 3) := by decide +kernel
theorem d_S_commit_54 : decode prog_1_method_11_code 54 = .ok (.ifCond .ne 11, 3) := by decide +kernel
theorem d_S_commit_57 : decode prog_1_method_11_code 57 = .ok (.aload_n 0, 1) := by decide +kernel
theorem d_S_commit_58 : decode prog_1_method_11_code 58 = .ok (.aload_n 2, 1) := by decide +kernel
theorem d_S_commit_59 : decode prog_1_method_11_code 59 = .ok (.invokevirtual 128, 3) := by decide +kernel
theorem d_S_commit_62 : decode prog_1_method_11_code 62 = .ok (.ifCond .eq 11, 3) := by decide +kernel
theorem d_S_commit_65 : decode prog_1_method_11_code 65 = .ok (.aload_n 2, 1) := by decide +kernel
theorem d_S_commit_66 : decode prog_1_method_11_code 66 = .ok (.iconst 2, 1) := by decide +kernel
theorem d_S_commit_67 : decode prog_1_method_11_code 67 = .ok (.invokevirtual 117, 3) := by decide +kernel
theorem d_S_commit_70 : decode prog_1_method_11_code 70 = .ok (.bipush (-2), 2) := by decide +kernel
theorem d_S_commit_72 : decode prog_1_method_11_code 72 = .ok (.ireturn, 1) := by decide +kernel
theorem d_S_commit_73 : decode prog_1_method_11_code 73 = .ok (.aload_n 0, 1) := by decide +kernel
theorem d_S_commit_74 : decode prog_1_method_11_code 74 = .ok (.dup, 1) := by decide +kernel
theorem d_S_commit_75 : decode prog_1_method_11_code 75 = .ok (.getfield 31, 3) := by decide +kernel
theorem d_S_commit_78 : decode prog_1_method_11_code 78 = .ok (.iconst 1, 1) := by decide +kernel
theorem d_S_commit_79 : decode prog_1_method_11_code 79 = .ok (.iadd, 1) := by decide +kernel
theorem d_S_commit_80 : decode prog_1_method_11_code 80 = .ok (.putfield 31, 3) := by decide +kernel
theorem d_S_commit_83 : decode prog_1_method_11_code 83 = .ok (.aload_n 0, 1) := by decide +kernel
theorem d_S_commit_84 : decode prog_1_method_11_code 84 = .ok (.aload_n 2, 1) := by decide +kernel
theorem d_S_commit_85 : decode prog_1_method_11_code 85 = .ok (.invokevirtual 131, 3) := by decide +kernel
theorem d_S_commit_88 : decode prog_1_method_11_code 88 = .ok (.aload_n 2, 1) := by decide +kernel
theorem d_S_commit_89 : decode prog_1_method_11_code 89 = .ok (.aload_n 0, 1) := by decide +kernel
theorem d_S_commit_90 : decode prog_1_method_11_code 90 = .ok (.getfield 31, 3) := by decide +kernel
theorem d_S_commit_93 : decode prog_1_method_11_code 93 = .ok (.putfield 135, 3) := by decide +kernel
theorem d_S_commit_96 : decode prog_1_method_11_code 96 = .ok (.aload_n 2, 1) := by decide +kernel
theorem d_S_commit_97 : decode prog_1_method_11_code 97 = .ok (.iload_n 3, 1) := by decide +kernel
theorem d_S_commit_98 : decode prog_1_method_11_code 98 = .ok (.putfield 138, 3) := by decide +kernel
theorem d_S_commit_101 : decode prog_1_method_11_code 101 = .ok (.aload_n 2, 1) := by decide +kernel
theorem d_S_commit_102 : decode prog_1_method_11_code 102 = .ok (.iconst 1, 1) := by decide +kernel
theorem d_S_commit_103 : decode prog_1_method_11_code 103 = .ok (.invokevirtual 117, 3) := by decide +kernel
theorem d_S_commit_106 : decode prog_1_method_11_code 106 = .ok (.aload_n 0, 1) := by decide +kernel
theorem d_S_commit_107 : decode prog_1_method_11_code 107 = .ok (.getfield 31, 3) := by decide +kernel
theorem d_S_commit_110 : decode prog_1_method_11_code 110 = .ok (.ireturn, 1) := by decide +kernel
theorem d_S_hasConflict_0 : decode prog_1_method_32_code 0 = .ok (.aload_n 1, 1) := by decide +kernel
theorem d_S_hasConflict_1 : decode prog_1_method_32_code 1 = .ok (.getfield 92, 3) := by decide +kernel
theorem d_S_hasConflict_4 : decode prog_1_method_32_code 4 = .ok (.astore_n 2, 1) := by decide +kernel
theorem d_S_hasConflict_5 : decode prog_1_method_32_code 5 = .ok (.aload_n 2, 1) := by decide +kernel
theorem d_S_hasConflict_6 : decode prog_1_method_32_code 6 = .ok (.ifnull 47, 3) := by decide +kernel
theorem d_S_hasConflict_9 : decode prog_1_method_32_code 9 = .ok (.aload_n 0, 1) := by decide +kernel
theorem d_S_hasConflict_10 : decode prog_1_method_32_code 10 = .ok (.aload_n 2, 1) := by decide +kernel
theorem d_S_hasConflict_11 : decode prog_1_method_32_code 11 = .ok (.getfield 240, 3) := by decide +kernel
theorem d_S_hasConflict_14 : decode prog_1_method_32_code 14 = .ok (.invokevirtual 45, 3) := by decide +kernel
theorem d_S_hasConflict_17 : decode prog_1_method_32_code 17 = .ok (.astore_n 3, 1) := by decide +kernel
theorem d_S_hasConflict_18 : decode prog_1_method_32_code 18 = .ok (.aload_n 3, 1) := by decide +kernel
theorem d_S_hasConflict_19 : decode prog_1_method_32_code 19 = .ok (.ifnull 26, 3) := by decide +kernel
theorem d_S_hasConflict_22 : decode prog_1_method_32_code 22 = .ok (.aload_n 3, 1) := by decide +kernel
theorem d_S_hasConflict_23 : decode prog_1_method_32_code 23 = .ok (.getfield 156, 3) := by decide +kernel
theorem d_S_hasConflict_26 : decode prog_1_method_32_code 26 = .ok (.ifnull 19, 3) := by decide +kernel
theorem d_S_hasConflict_29 : decode prog_1_method_32_code 29 = .ok (.aload_n 3, 1) := by decide +kernel
theorem d_S_hasConflict_30 : decode prog_1_method_32_code 30 = .ok (.getfield 156, 3) := by decide +kernel
theorem d_S_hasConflict_33 : decode prog_1_method_32_code 33 = .ok (.getfield 241, 3) := by decide +kernel
theorem d_S_hasConflict_36 : decode prog_1_method_32_code 36 = .ok (.aload_n 1, 1) := by decide +kernel
theorem d_S_hasConflict_37 : decode prog_1_method_32_code 37 = .ok (.getfield 166, 3) := by decide +kernel
theorem d_S_hasConflict_40 : decode prog_1_method_32_code 40 = .ok (.if_icmp .le 5, 3) := by decide +kernel
theorem d_S_hasConflict_43 : decode prog_1_method_32_code 43 = .ok (.iconst 1, 1) := by decide +kernel
theorem d_S_hasConflict_44 : decode prog_1_method_32_code 44 = .ok (.ireturn, 1) := by decide +kernel
theorem d_S_hasConflict_45 : decode prog_1_method_32_code 45 = .ok (.aload_n 2, 1) := by decide +kernel
theorem d_S_hasConflict_46 : decode prog_1_method_32_code 46 = .ok (.getfield 244, 3) := by decide +kernel
theorem d_S_hasConflict_49 : decode prog_1_method_32_code 49 = .ok (.astore_n 2, 1) := by decide +kernel
theorem d_S_hasConflict_50 : decode prog_1_method_32_code 50 = .ok (.goto (-45), 3) := by decide +kernel
theorem d_S_hasConflict_53 : decode prog_1_method_32_code 53 = .ok (.iconst 0, 1) := by decide +kernel
theorem d_S_hasConflict_54 : decode prog_1_method_32_code 54 = .ok (.ireturn, 1) := by decide +kernel
theorem d_S_hasAfter_0 : decode prog_1_method_33_code 0 = .ok (.aload_n 0, 1) := by decide +kernel
theorem d_S_hasAfter_1 : decode prog_1_method_33_code 1 = .ok (.getfield 11, 3) := by decide +kernel
theorem d_S_hasAfter_4 : decode prog_1_method_33_code 4 = .ok (.astore_n 3, 1) := by decide +kernel
theorem d_S_hasAfter_5 : decode prog_1_method_33_code 5 = .ok (.aload_n 3, 1) := by decide +kernel
theorem d_S_hasAfter_6 : decode prog_1_method_33_code 6 = .ok (.arraylength, 1) := by decide +kernel
theorem d_S_hasAfter_7 : decode prog_1_method_33_code 7 = .ok (.istore 4, 2) := by decide +kernel
theorem d_S_hasAfter_9 : decode prog_1_method_33_code 9 = .ok (.iconst 0, 1) := by decide +kernel
theorem d_S_hasAfter_10 : decode prog_1_method_33_code 10 = .ok (.istore 5, 2) := by decide +kernel
theorem d_S_hasAfter_12 : decode prog_1_method_33_code 12 = .ok (.iload 5, 2) := by decide +kernel
theorem d_S_hasAfter_14 : decode prog_1_method_33_code 14 = .ok (.iload 4, 2) := by decide +kernel
theorem d_S_hasAfter_16 : decode prog_1_method_33_code 16 = .ok (.if_icmp .ge 67, 3) := by decide +kernel
theorem d_S_hasAfter_19 : decode prog_1_method_33_code 19 = .ok (.aload_n 3, 1) := by decide +kernel
theorem d_S_hasAfter_20 : decode prog_1_method_33_code 20 = .ok (.iload 5, 2) := by decide +kernel
theorem d_S_hasAfter_22 : decode prog_1_method_33_code 22 = .ok (.aaload, 1) := by decide +kernel
theorem d_S_hasAfter_23 : decode prog_1_method_33_code 23 = .ok (.astore 6, 2) := by decide +kernel
theorem d_S_hasAfter_25 : decode prog_1_method_33_code 25 = .ok (.aload 6, 2) := by decide +kernel
theorem d_S_hasAfter_27 : decode prog_1_method_33_code 27 = .ok (.ifnull 50, 3) := by decide +kernel
theorem d_S_hasAfter_30 : decode prog_1_method_33_code 30 = .ok (.aload 6, 2) := by decide +kernel
theorem d_S_hasAfter_32 : decode prog_1_method_33_code 32 = .ok (.getfield 121, 3) := by decide +kernel
theorem d_S_hasAfter_35 : decode prog_1_method_33_code 35 = .ok (.iconst 1, 1) := by decide +kernel
theorem d_S_hasAfter_36 : decode prog_1_method_33_code 36 = .ok (.if_icmp .ne 41, 3) := by decide +kernel
theorem d_S_hasAfter_39 : decode prog_1_method_33_code 39 = .ok (.aload 6, 2) := by decide +kernel
theorem d_S_hasAfter_41 : decode prog_1_method_33_code 41 = .ok (.aload_n 1, 1) := by decide +kernel
theorem d_S_hasAfter_42 : decode prog_1_method_33_code 42 = .ok (.getfield 166, 3) := by decide +kernel
theorem d_S_hasAfter_45 : decode prog_1_method_33_code 45 = .ok (.invokevirtual 247, 3) := by decide +kernel
theorem d_S_hasAfter_48 : decode prog_1_method_33_code 48 = .ok (.ifCond .eq 29, 3) := by decide +kernel
theorem d_S_hasAfter_51 : decode prog_1_method_33_code 51 = .ok (.aload 6, 2) := by decide +kernel
theorem d_S_hasAfter_53 : decode prog_1_method_33_code 53 = .ok (.getfield 138, 3) := by decide +kernel
theorem d_S_hasAfter_56 : decode prog_1_method_33_code 56 = .ok (.ifCond .ne 7, 3) := by decide +kernel
theorem d_S_hasAfter_59 : decode prog_1_method_33_code 59 = .ok (.iload_n 2, 1) := by decide +kernel
theorem d_S_hasAfter_60 : decode prog_1_method_33_code 60 = .ok (.ifCond .ne 17, 3) := by decide +kernel
theorem d_S_hasAfter_63 : decode prog_1_method_33_code 63 = .ok (.aload_n 1, 1) := by decide +kernel
theorem d_S_hasAfter_64 : decode prog_1_method_33_code 64 = .ok (.aload 6, 2) := by decide +kernel
theorem d_S_hasAfter_66 : decode prog_1_method_33_code 66 = .ok (.getfield 92, 3) := by decide +kernel
theorem d_S_hasAfter_69 : decode prog_1_method_33_code 69 = .ok (.invokevirtual 250, 3) := by decide +kernel
theorem d_S_hasAfter_72 : decode prog_1_method_33_code 72 = .ok (.ifCond .eq 5, 3) := by decide +kernel
theorem d_S_hasAfter_75 : decode prog_1_method_33_code 75 = .ok (.iconst 1, 1) := by decide +kernel
theorem d_S_hasAfter_76 : decode prog_1_method_33_code 76 = .ok (.ireturn, 1) := by decide +kernel
theorem d_S_hasAfter_77 : decode prog_1_method_33_code 77 = .ok (.iinc 5 1, 3) := by decide +kernel
theorem d_S_hasAfter_80 : decode prog_1_method_33_code 80 = .ok (.goto (-68), 3) := by decide +kernel
theorem d_S_hasAfter_83 : decode prog_1_method_33_code 83 = .ok (.iconst 0, 1) := by decide +kernel
theorem d_S_hasAfter_84 : decode prog_1_method_33_code 84 = .ok (.ireturn, 1) := by decide +kernel
theorem d_Tx_committedAbove_0 : decode prog_5_method_7_code 0 = .ok (.aload_n 0, 1) := by decide +kernel
theorem d_Tx_committedAbove_1 : decode prog_5_method_7_code 1 = .ok (.getfield 9, 3) := by decide +kernel
theorem d_Tx_committedAbove_4 : decode prog_5_method_7_code 4 = .ok (.iconst 1, 1) := by decide +kernel
theorem d_Tx_committedAbove_5 : decode prog_5_method_7_code 5 = .ok (.if_icmp .ne 15, 3) := by decide +kernel
theorem d_Tx_committedAbove_8 : decode prog_5_method_7_code 8 = .ok (.aload_n 0, 1) := by decide +kernel
theorem d_Tx_committedAbove_9 : decode prog_5_method_7_code 9 = .ok (.getfield 15, 3) := by decide +kernel
theorem d_Tx_committedAbove_12 : decode prog_5_method_7_code 12 = .ok (.iload_n 1, 1) := by decide +kernel
theorem d_Tx_committedAbove_13 : decode prog_5_method_7_code 13 = .ok (.if_icmp .le 7, 3) := by decide +kernel
theorem d_Tx_committedAbove_16 : decode prog_5_method_7_code 16 = .ok (.iconst 1, 1) := by decide +kernel
theorem d_Tx_committedAbove_17 : decode prog_5_method_7_code 17 = .ok (.goto 4, 3) := by decide +kernel
theorem d_Tx_committedAbove_20 : decode prog_5_method_7_code 20 = .ok (.iconst 0, 1) := by decide +kernel
theorem d_Tx_committedAbove_21 : decode prog_5_method_7_code 21 = .ok (.ireturn, 1) := by decide +kernel
theorem d_Tx_hasReadAnyOf_0 : decode prog_5_method_8_code 0 = .ok (.aload_n 1, 1) := by decide +kernel
theorem d_Tx_hasReadAnyOf_1 : decode prog_5_method_8_code 1 = .ok (.astore_n 2, 1) := by decide +kernel
theorem d_Tx_hasReadAnyOf_2 : decode prog_5_method_8_code 2 = .ok (.aload_n 2, 1) := by decide +kernel
theorem d_Tx_hasReadAnyOf_3 : decode prog_5_method_8_code 3 = .ok (.ifnull 24, 3) := by decide +kernel
theorem d_Tx_hasReadAnyOf_6 : decode prog_5_method_8_code 6 = .ok (.aload_n 0, 1) := by decide +kernel
theorem d_Tx_hasReadAnyOf_7 : decode prog_5_method_8_code 7 = .ok (.aload_n 2, 1) := by decide +kernel
theorem d_Tx_hasReadAnyOf_8 : decode prog_5_method_8_code 8 = .ok (.getfield 37, 3) := by decide +kernel
theorem d_Tx_hasReadAnyOf_11 : decode prog_5_method_8_code 11 = .ok (.invokevirtual 50, 3) := by decide +kernel
theorem d_Tx_hasReadAnyOf_14 : decode prog_5_method_8_code 14 = .ok (.ifCond .eq 5, 3) := by decide +kernel
theorem d_Tx_hasReadAnyOf_17 : decode prog_5_method_8_code 17 = .ok (.iconst 1, 1) := by decide +kernel
theorem d_Tx_hasReadAnyOf_18 : decode prog_5_method_8_code 18 = .ok (.ireturn, 1) := by decide +kernel
theorem d_Tx_hasReadAnyOf_19 : decode prog_5_method_8_code 19 = .ok (.aload_n 2, 1) := by decide +kernel
theorem d_Tx_hasReadAnyOf_20 : decode prog_5_method_8_code 20 = .ok (.getfield 40, 3) := by decide +kernel
theorem d_Tx_hasReadAnyOf_23 : decode prog_5_method_8_code 23 = .ok (.astore_n 2, 1) := by decide +kernel
theorem d_Tx_hasReadAnyOf_24 : decode prog_5_method_8_code 24 = .ok (.goto (-22), 3) := by decide +kernel
theorem d_Tx_hasReadAnyOf_27 : decode prog_5_method_8_code 27 = .ok (.iconst 0, 1) := by decide +kernel
theorem d_Tx_hasReadAnyOf_28 : decode prog_5_method_8_code 28 = .ok (.ireturn, 1) := by decide +kernel
theorem d_Tx_hasRead_0 : decode prog_5_method_9_code 0 = .ok (.aload_n 0, 1) := by decide +kernel
theorem d_Tx_hasRead_1 : decode prog_5_method_9_code 1 = .ok (.getfield 54, 3) := by decide +kernel
theorem d_Tx_hasRead_4 : decode prog_5_method_9_code 4 = .ok (.astore_n 2, 1) := by decide +kernel
theorem d_Tx_hasRead_5 : decode prog_5_method_9_code 5 = .ok (.aload_n 2, 1) := by decide +kernel
theorem d_Tx_hasRead_6 : decode prog_5_method_9_code 6 = .ok (.ifnull 29, 3) := by decide +kernel
theorem d_Tx_hasRead_9 : decode prog_5_method_9_code 9 = .ok (.iload_n 1, 1) := by decide +kernel
theorem d_Tx_hasRead_10 : decode prog_5_method_9_code 10 = .ok (.aload_n 2, 1) := by decide +kernel
theorem d_Tx_hasRead_11 : decode prog_5_method_9_code 11 = .ok (.getfield 58, 3) := by decide +kernel
theorem d_Tx_hasRead_14 : decode prog_5_method_9_code 14 = .ok (.if_icmp .lt 13, 3) := by decide +kernel
theorem d_Tx_hasRead_17 : decode prog_5_method_9_code 17 = .ok (.iload_n 1, 1) := by decide +kernel
theorem d_Tx_hasRead_18 : decode prog_5_method_9_code 18 = .ok (.aload_n 2, 1) := by decide +kernel
theorem d_Tx_hasRead_19 : decode prog_5_method_9_code 19 = .ok (.getfield 63, 3) := by decide +kernel
theorem d_Tx_hasRead_22 : decode prog_5_method_9_code 22 = .ok (.if_icmp .gt 5, 3) := by decide +kernel
theorem d_Tx_hasRead_25 : decode prog_5_method_9_code 25 = .ok (.iconst 1, 1) := by decide +kernel
theorem d_Tx_hasRead_26 : decode prog_5_method_9_code 26 = .ok (.ireturn, 1) := by decide +kernel
theorem d_Tx_hasRead_27 : decode prog_5_method_9_code 27 = .ok (.aload_n 2, 1) := by decide +kernel
theorem d_Tx_hasRead_28 : decode prog_5_method_9_code 28 = .ok (.getfield 66, 3) := by decide +kernel
theorem d_Tx_hasRead_31 : decode prog_5_method_9_code 31 = .ok (.astore_n 2, 1) := by decide +kernel
theorem d_Tx_hasRead_32 : decode prog_5_method_9_code 32 = .ok (.goto (-27), 3) := by decide +kernel
theorem d_Tx_hasRead_35 : decode prog_5_method_9_code 35 = .ok (.iconst 0, 1) := by decide +kernel
theorem d_Tx_hasRead_36 : decode prog_5_method_9_code 36 = .ok (.ireturn, 1) := by decide +kernel
theorem d_S_hasBefore_0 : decode prog_1_method_34_code 0 = .ok (.aload_n 0, 1) := by decide +kernel
theorem d_S_hasBefore_1 : decode prog_1_method_34_code 1 = .ok (.getfield 11, 3) := by decide +kernel
theorem d_S_hasBefore_4 : decode prog_1_method_34_code 4 = .ok (.astore_n 2, 1) := by decide +kernel
theorem d_S_hasBefore_5 : decode prog_1_method_34_code 5 = .ok (.aload_n 2, 1) := by decide +kernel
theorem d_S_hasBefore_6 : decode prog_1_method_34_code 6 = .ok (.arraylength, 1) := by decide +kernel
theorem d_S_hasBefore_7 : decode prog_1_method_34_code 7 = .ok (.istore_n 3, 1) := by decide +kernel
theorem d_S_hasBefore_8 : decode prog_1_method_34_code 8 = .ok (.iconst 0, 1) := by decide +kernel
theorem d_S_hasBefore_9 : decode prog_1_method_34_code 9 = .ok (.istore 4, 2) := by decide +kernel
theorem d_S_hasBefore_11 : decode prog_1_method_34_code 11 = .ok (.iload 4, 2) := by decide +kernel
theorem d_S_hasBefore_13 : decode prog_1_method_34_code 13 = .ok (.iload_n 3, 1) := by decide +kernel
theorem d_S_hasBefore_14 : decode prog_1_method_34_code 14 = .ok (.if_icmp .ge 69, 3) := by decide +kernel
theorem d_S_hasBefore_17 : decode prog_1_method_34_code 17 = .ok (.aload_n 2, 1) := by decide +kernel
theorem d_S_hasBefore_18 : decode prog_1_method_34_code 18 = .ok (.iload 4, 2) := by decide +kernel
theorem d_S_hasBefore_20 : decode prog_1_method_34_code 20 = .ok (.aaload, 1) := by decide +kernel
theorem d_S_hasBefore_21 : decode prog_1_method_34_code 21 = .ok (.astore 5, 2) := by decide +kernel
theorem d_S_hasBefore_23 : decode prog_1_method_34_code 23 = .ok (.aload 5, 2) := by decide +kernel
theorem d_S_hasBefore_25 : decode prog_1_method_34_code 25 = .ok (.ifnull 52, 3) := by decide +kernel
theorem d_S_hasBefore_28 : decode prog_1_method_34_code 28 = .ok (.aload 5, 2) := by decide +kernel
theorem d_S_hasBefore_30 : decode prog_1_method_34_code 30 = .ok (.aload_n 1, 1) := by decide +kernel
theorem d_S_hasBefore_31 : decode prog_1_method_34_code 31 = .ok (.if_acmp .eq 46, 3) := by decide +kernel
theorem d_S_hasBefore_34 : decode prog_1_method_34_code 34 = .ok (.aload 5, 2) := by decide +kernel
theorem d_S_hasBefore_36 : decode prog_1_method_34_code 36 = .ok (.getfield 121, 3) := by decide +kernel
theorem d_S_hasBefore_39 : decode prog_1_method_34_code 39 = .ok (.iconst 1, 1) := by decide +kernel
theorem d_S_hasBefore_40 : decode prog_1_method_34_code 40 = .ok (.if_icmp .ne 37, 3) := by decide +kernel
theorem d_S_hasBefore_43 : decode prog_1_method_34_code 43 = .ok (.aload 5, 2) := by decide +kernel
theorem d_S_hasBefore_45 : decode prog_1_method_34_code 45 = .ok (.getfield 160, 3) := by decide +kernel
theorem d_S_hasBefore_48 : decode prog_1_method_34_code 48 = .ok (.ifCond .eq 15, 3) := by decide +kernel
theorem d_S_hasBefore_51 : decode prog_1_method_34_code 51 = .ok (.aload 5, 2) := by decide +kernel
theorem d_S_hasBefore_53 : decode prog_1_method_34_code 53 = .ok (.aload_n 1, 1) := by decide +kernel
theorem d_S_hasBefore_54 : decode prog_1_method_34_code 54 = .ok (.getfield 166, 3) := by decide +kernel
theorem d_S_hasBefore_57 : decode prog_1_method_34_code 57 = .ok (.invokevirtual 247, 3) := by decide +kernel
theorem d_S_hasBefore_60 : decode prog_1_method_34_code 60 = .ok (.ifCond .eq 17, 3) := by decide +kernel
theorem d_S_hasBefore_63 : decode prog_1_method_34_code 63 = .ok (.aload 5, 2) := by decide +kernel
theorem d_S_hasBefore_65 : decode prog_1_method_34_code 65 = .ok (.aload_n 1, 1) := by decide +kernel
theorem d_S_hasBefore_66 : decode prog_1_method_34_code 66 = .ok (.getfield 92, 3) := by decide +kernel
theorem d_S_hasBefore_69 : decode prog_1_method_34_code 69 = .ok (.invokevirtual 250, 3) := by decide +kernel
theorem d_S_hasBefore_72 : decode prog_1_method_34_code 72 = .ok (.ifCond .eq 5, 3) := by decide +kernel
theorem d_S_hasBefore_75 : decode prog_1_method_34_code 75 = .ok (.iconst 1, 1) := by decide +kernel
theorem d_S_hasBefore_76 : decode prog_1_method_34_code 76 = .ok (.ireturn, 1) := by decide +kernel
theorem d_S_hasBefore_77 : decode prog_1_method_34_code 77 = .ok (.iinc 4 1, 3) := by decide +kernel
theorem d_S_hasBefore_80 : decode prog_1_method_34_code 80 = .ok (.goto (-69), 3) := by decide +kernel
theorem d_S_hasBefore_83 : decode prog_1_method_34_code 83 = .ok (.iconst 0, 1) := by decide +kernel
theorem d_S_hasBefore_84 : decode prog_1_method_34_code 84 = .ok (.ireturn, 1) := by decide +kernel
theorem d_S_addVersions_0 : decode prog_1_method_35_code 0 = .ok (.aload_n 1, 1) := by decide +kernel
theorem d_S_addVersions_1 : decode prog_1_method_35_code 1 = .ok (.getfield 92, 3) := by decide +kernel
theorem d_S_addVersions_4 : decode prog_1_method_35_code 4 = .ok (.astore_n 2, 1) := by decide +kernel
theorem d_S_addVersions_5 : decode prog_1_method_35_code 5 = .ok (.aload_n 2, 1) := by decide +kernel
theorem d_S_addVersions_6 : decode prog_1_method_35_code 6 = .ok (.ifnull 68, 3) := by decide +kernel
theorem d_S_addVersions_9 : decode prog_1_method_35_code 9 = .ok (.aload_n 0, 1) := by decide +kernel
theorem d_S_addVersions_10 : decode prog_1_method_35_code 10 = .ok (.aload_n 2, 1) := by decide +kernel
theorem d_S_addVersions_11 : decode prog_1_method_35_code 11 = .ok (.getfield 240, 3) := by decide +kernel
theorem d_S_addVersions_14 : decode prog_1_method_35_code 14 = .ok (.invokevirtual 45, 3) := by decide +kernel
theorem d_S_addVersions_17 : decode prog_1_method_35_code 17 = .ok (.astore_n 3, 1) := by decide +kernel
theorem d_S_addVersions_18 : decode prog_1_method_35_code 18 = .ok (.aload_n 3, 1) := by decide +kernel
theorem d_S_addVersions_19 : decode prog_1_method_35_code 19 = .ok (.ifnull 47, 3) := by decide +kernel
theorem d_S_addVersions_22 : decode prog_1_method_35_code 22 = .ok (.aload_n 3, 1) := by decide +kernel
theorem d_S_addVersions_23 : decode prog_1_method_35_code 23 = .ok (.getfield 156, 3) := by decide +kernel
theorem d_S_addVersions_26 : decode prog_1_method_35_code 26 = .ok (.ifnull 17, 3) := by decide +kernel
theorem d_S_addVersions_29 : decode prog_1_method_35_code 29 = .ok (.aload_n 3, 1) := by decide +kernel
theorem d_S_addVersions_30 : decode prog_1_method_35_code 30 = .ok (.getfield 156, 3) := by decide +kernel
theorem d_S_addVersions_33 : decode prog_1_method_35_code 33 = .ok (.getfield 241, 3) := by decide +kernel
theorem d_S_addVersions_36 : decode prog_1_method_35_code 36 = .ok (.aload_n 0, 1) := by decide +kernel
theorem d_S_addVersions_37 : decode prog_1_method_35_code 37 = .ok (.getfield 31, 3) := by decide +kernel
theorem d_S_addVersions_40 : decode prog_1_method_35_code 40 = .ok (.if_icmp .eq 26, 3) := by decide +kernel
theorem d_S_addVersions_43 : decode prog_1_method_35_code 43 = .ok (.aload_n 3, 1) := by decide +kernel
theorem d_S_addVersions_44 : decode prog_1_method_35_code 44 = .ok (.new 242, 3) := by decide +kernel
theorem d_S_addVersions_47 : decode prog_1_method_35_code 47 = .ok (.dup, 1) := by decide +kernel
theorem d_S_addVersions_48 : decode prog_1_method_35_code 48 = .ok (.aload_n 0, 1) := by decide +kernel
theorem d_S_addVersions_49 : decode prog_1_method_35_code 49 = .ok (.getfield 31, 3) := by decide +kernel
theorem d_S_addVersions_52 : decode prog_1_method_35_code 52 = .ok (.aload_n 2, 1) := by decide +kernel
theorem d_S_addVersions_53 : decode prog_1_method_35_code 53 = .ok (.getfield 236, 3) := by decide +kernel
theorem d_S_addVersions_56 : decode prog_1_method_35_code 56 = .ok (.aload_n 3, 1) := by decide +kernel
theorem d_S_addVersions_57 : decode prog_1_method_35_code 57 = .ok (.getfield 156, 3) := by decide +kernel
theorem d_S_addVersions_60 : decode prog_1_method_35_code 60 = .ok (.invokespecial 254, 3) := by decide +kernel
theorem d_S_addVersions_63 : decode prog_1_method_35_code 63 = .ok (.putfield 156, 3) := by decide +kernel
theorem d_S_addVersions_66 : decode prog_1_method_35_code 66 = .ok (.aload_n 2, 1) := by decide +kernel
theorem d_S_addVersions_67 : decode prog_1_method_35_code 67 = .ok (.getfield 244, 3) := by decide +kernel
theorem d_S_addVersions_70 : decode prog_1_method_35_code 70 = .ok (.astore_n 2, 1) := by decide +kernel
theorem d_S_addVersions_71 : decode prog_1_method_35_code 71 = .ok (.goto (-66), 3) := by decide +kernel
theorem d_S_addVersions_74 : decode prog_1_method_35_code 74 = .ok (.return_, 1) := by decide +kernel
theorem d_Ver_init_0 : decode prog_6_method_1_code 0 = .ok (.aload_n 0, 1) := by decide +kernel
theorem d_Ver_init_1 : decode prog_6_method_1_code 1 = .ok (.invokespecial 1, 3) := by decide +kernel
theorem d_Ver_init_4 : decode prog_6_method_1_code 4 = .ok (.aload_n 0, 1) := by decide +kernel
theorem d_Ver_init_5 : decode prog_6_method_1_code 5 = .ok (.iload_n 1, 1) := by decide +kernel
theorem d_Ver_init_6 : decode prog_6_method_1_code 6 = .ok (.putfield 7, 3) := by decide +kernel
theorem d_Ver_init_9 : decode prog_6_method_1_code 9 = .ok (.aload_n 0, 1) := by decide +kernel
theorem d_Ver_init_10 : decode prog_6_method_1_code 10 = .ok (.lload_n 2, 1) := by decide +kernel
theorem d_Ver_init_11 : decode prog_6_method_1_code 11 = .ok (.putfield 13, 3) := by decide +kernel
theorem d_Ver_init_14 : decode prog_6_method_1_code 14 = .ok (.aload_n 0, 1) := by decide +kernel
theorem d_Ver_init_15 : decode prog_6_method_1_code 15 = .ok (.aload 4, 2) := by decide +kernel
theorem d_Ver_init_17 : decode prog_6_method_1_code 17 = .ok (.putfield 17, 3) := by decide +kernel
theorem d_Ver_init_20 : decode prog_6_method_1_code 20 = .ok (.return_, 1) := by decide +kernel
theorem d_S_abort_0 : decode prog_1_method_12_code 0 = .ok (.aload_n 0, 1) := by decide +kernel
theorem d_S_abort_1 : decode prog_1_method_12_code 1 = .ok (.iload_n 1, 1) := by decide +kernel
theorem d_S_abort_2 : decode prog_1_method_12_code 2 = .ok (.invokevirtual 37, 3) := by decide +kernel
theorem d_S_abort_5 : decode prog_1_method_12_code 5 = .ok (.astore_n 2, 1) := by decide +kernel
theorem d_S_abort_6 : decode prog_1_method_12_code 6 = .ok (.aload_n 2, 1) := by decide +kernel
theorem d_S_abort_7 : decode prog_1_method_12_code 7 = .ok (.iconst 2, 1) := by decide +kernel
theorem d_S_abort_8 : decode prog_1_method_12_code 8 = .ok (.invokevirtual 117, 3) := by decide +kernel
theorem d_S_abort_11 : decode prog_1_method_12_code 11 = .ok (.aload_n 2, 1) := by decide +kernel
theorem d_S_abort_12 : decode prog_1_method_12_code 12 = .ok (.invokevirtual 110, 3) := by decide +kernel
theorem d_S_abort_15 : decode prog_1_method_12_code 15 = .ok (.ireturn, 1) := by decide +kernel
theorem d_S_told_0 : decode prog_1_method_16_code 0 = .ok (.aload_n 0, 1) := by decide +kernel
theorem d_S_told_1 : decode prog_1_method_16_code 1 = .ok (.iload_n 1, 1) := by decide +kernel
theorem d_S_told_2 : decode prog_1_method_16_code 2 = .ok (.invokevirtual 163, 3) := by decide +kernel
theorem d_S_told_5 : decode prog_1_method_16_code 5 = .ok (.astore_n 3, 1) := by decide +kernel
theorem d_S_told_6 : decode prog_1_method_16_code 6 = .ok (.iload_n 2, 1) := by decide +kernel
theorem d_S_told_7 : decode prog_1_method_16_code 7 = .ok (.tableswitch 84 0 6 #[41, 46, 51, 56, 61, 66, 71], 41) := by decide +kernel
theorem d_S_told_48 : decode prog_1_method_16_code 48 = .ok (.aload_n 3, 1) := by decide +kernel
theorem d_S_told_49 : decode prog_1_method_16_code 49 = .ok (.getfield 160, 3) := by decide +kernel
theorem d_S_told_52 : decode prog_1_method_16_code 52 = .ok (.ireturn, 1) := by decide +kernel
theorem d_S_told_53 : decode prog_1_method_16_code 53 = .ok (.aload_n 3, 1) := by decide +kernel
theorem d_S_told_54 : decode prog_1_method_16_code 54 = .ok (.getfield 121, 3) := by decide +kernel
theorem d_S_told_57 : decode prog_1_method_16_code 57 = .ok (.ireturn, 1) := by decide +kernel
theorem d_S_told_58 : decode prog_1_method_16_code 58 = .ok (.aload_n 3, 1) := by decide +kernel
theorem d_S_told_59 : decode prog_1_method_16_code 59 = .ok (.getfield 166, 3) := by decide +kernel
theorem d_S_told_62 : decode prog_1_method_16_code 62 = .ok (.ireturn, 1) := by decide +kernel
theorem d_S_told_63 : decode prog_1_method_16_code 63 = .ok (.aload_n 3, 1) := by decide +kernel
theorem d_S_told_64 : decode prog_1_method_16_code 64 = .ok (.getfield 135, 3) := by decide +kernel
theorem d_S_told_67 : decode prog_1_method_16_code 67 = .ok (.ireturn, 1) := by decide +kernel
theorem d_S_told_68 : decode prog_1_method_16_code 68 = .ok (.aload_n 3, 1) := by decide +kernel
theorem d_S_told_69 : decode prog_1_method_16_code 69 = .ok (.invokevirtual 110, 3) := by decide +kernel
theorem d_S_told_72 : decode prog_1_method_16_code 72 = .ok (.ireturn, 1) := by decide +kernel
theorem d_S_told_73 : decode prog_1_method_16_code 73 = .ok (.aload_n 3, 1) := by decide +kernel
theorem d_S_told_74 : decode prog_1_method_16_code 74 = .ok (.invokevirtual 84, 3) := by decide +kernel
theorem d_S_told_77 : decode prog_1_method_16_code 77 = .ok (.ireturn, 1) := by decide +kernel
theorem d_S_told_78 : decode prog_1_method_16_code 78 = .ok (.aload_n 3, 1) := by decide +kernel
theorem d_S_told_79 : decode prog_1_method_16_code 79 = .ok (.getfield 138, 3) := by decide +kernel
theorem d_S_told_82 : decode prog_1_method_16_code 82 = .ok (.ifCond .eq 7, 3) := by decide +kernel
theorem d_S_told_85 : decode prog_1_method_16_code 85 = .ok (.iconst 1, 1) := by decide +kernel
theorem d_S_told_86 : decode prog_1_method_16_code 86 = .ok (.goto 4, 3) := by decide +kernel
theorem d_S_told_89 : decode prog_1_method_16_code 89 = .ok (.iconst 0, 1) := by decide +kernel
theorem d_S_told_90 : decode prog_1_method_16_code 90 = .ok (.ireturn, 1) := by decide +kernel
theorem d_S_told_91 : decode prog_1_method_16_code 91 = .ok (.new 15, 3) := by decide +kernel
theorem d_S_told_94 : decode prog_1_method_16_code 94 = .ok (.dup, 1) := by decide +kernel
theorem d_S_told_95 : decode prog_1_method_16_code 95 = .ok (.ldc 169, 2) := by decide +kernel
theorem d_S_told_97 : decode prog_1_method_16_code 97 = .ok (.invokespecial 19, 3) := by decide +kernel
theorem d_S_told_100 : decode prog_1_method_16_code 100 = .ok (.athrow, 1) := by decide +kernel
