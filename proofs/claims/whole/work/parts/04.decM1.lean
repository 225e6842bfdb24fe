theorem d_M_init_0 : decode prog_9_method_1_code 0 = .ok (.aload_n 0, 1) := by decide +kernel
theorem d_M_init_1 : decode prog_9_method_1_code 1 = .ok (.invokespecial 1, 3) := by decide +kernel
theorem d_M_init_4 : decode prog_9_method_1_code 4 = .ok (.aload_n 0, 1) := by decide +kernel
theorem d_M_init_5 : decode prog_9_method_1_code 5 = .ok (.bipush 120, 2) := by decide +kernel
theorem d_M_init_7 : decode prog_9_method_1_code 7 = .ok (.newarray .boolean, 2) := by decide +kernel
theorem d_M_init_9 : decode prog_9_method_1_code 9 = .ok (.putfield 7, 3) := by decide +kernel
theorem d_M_init_12 : decode prog_9_method_1_code 12 = .ok (.aload_n 0, 1) := by decide +kernel
theorem d_M_init_13 : decode prog_9_method_1_code 13 = .ok (.bipush 120, 2) := by decide +kernel
theorem d_M_init_15 : decode prog_9_method_1_code 15 = .ok (.newarray .int, 2) := by decide +kernel
theorem d_M_init_17 : decode prog_9_method_1_code 17 = .ok (.putfield 13, 3) := by decide +kernel
theorem d_M_init_20 : decode prog_9_method_1_code 20 = .ok (.aload_n 0, 1) := by decide +kernel
theorem d_M_init_21 : decode prog_9_method_1_code 21 = .ok (.bipush 120, 2) := by decide +kernel
theorem d_M_init_23 : decode prog_9_method_1_code 23 = .ok (.newarray .int, 2) := by decide +kernel
theorem d_M_init_25 : decode prog_9_method_1_code 25 = .ok (.putfield 17, 3) := by decide +kernel
theorem d_M_init_28 : decode prog_9_method_1_code 28 = .ok (.aload_n 0, 1) := by decide +kernel
theorem d_M_init_29 : decode prog_9_method_1_code 29 = .ok (.bipush 120, 2) := by decide +kernel
theorem d_M_init_31 : decode prog_9_method_1_code 31 = .ok (.newarray .int, 2) := by decide +kernel
theorem d_M_init_33 : decode prog_9_method_1_code 33 = .ok (.putfield 20, 3) := by decide +kernel
theorem d_M_init_36 : decode prog_9_method_1_code 36 = .ok (.aload_n 0, 1) := by decide +kernel
theorem d_M_init_37 : decode prog_9_method_1_code 37 = .ok (.bipush 120, 2) := by decide +kernel
theorem d_M_init_39 : decode prog_9_method_1_code 39 = .ok (.newarray .boolean, 2) := by decide +kernel
theorem d_M_init_41 : decode prog_9_method_1_code 41 = .ok (.putfield 23, 3) := by decide +kernel
theorem d_M_init_44 : decode prog_9_method_1_code 44 = .ok (.aload_n 0, 1) := by decide +kernel
theorem d_M_init_45 : decode prog_9_method_1_code 45 = .ok (.bipush 120, 2) := by decide +kernel
theorem d_M_init_47 : decode prog_9_method_1_code 47 = .ok (.newarray .int, 2) := by decide +kernel
theorem d_M_init_49 : decode prog_9_method_1_code 49 = .ok (.putfield 26, 3) := by decide +kernel
theorem d_M_init_52 : decode prog_9_method_1_code 52 = .ok (.aload_n 0, 1) := by decide +kernel
theorem d_M_init_53 : decode prog_9_method_1_code 53 = .ok (.ldc 29, 2) := by decide +kernel
theorem d_M_init_55 : decode prog_9_method_1_code 55 = .ok (.newarray .int, 2) := by decide +kernel
theorem d_M_init_57 : decode prog_9_method_1_code 57 = .ok (.putfield 30, 3) := by decide +kernel
theorem d_M_init_60 : decode prog_9_method_1_code 60 = .ok (.aload_n 0, 1) := by decide +kernel
theorem d_M_init_61 : decode prog_9_method_1_code 61 = .ok (.ldc 29, 2) := by decide +kernel
theorem d_M_init_63 : decode prog_9_method_1_code 63 = .ok (.newarray .int, 2) := by decide +kernel
theorem d_M_init_65 : decode prog_9_method_1_code 65 = .ok (.putfield 33, 3) := by decide +kernel
theorem d_M_init_68 : decode prog_9_method_1_code 68 = .ok (.aload_n 0, 1) := by decide +kernel
theorem d_M_init_69 : decode prog_9_method_1_code 69 = .ok (.ldc 29, 2) := by decide +kernel
theorem d_M_init_71 : decode prog_9_method_1_code 71 = .ok (.newarray .boolean, 2) := by decide +kernel
theorem d_M_init_73 : decode prog_9_method_1_code 73 = .ok (.putfield 36, 3) := by decide +kernel
theorem d_M_init_76 : decode prog_9_method_1_code 76 = .ok (.aload_n 0, 1) := by decide +kernel
theorem d_M_init_77 : decode prog_9_method_1_code 77 = .ok (.bipush 120, 2) := by decide +kernel
theorem d_M_init_79 : decode prog_9_method_1_code 79 = .ok (.newarray .int, 2) := by decide +kernel
theorem d_M_init_81 : decode prog_9_method_1_code 81 = .ok (.putfield 39, 3) := by decide +kernel
theorem d_M_init_84 : decode prog_9_method_1_code 84 = .ok (.aload_n 0, 1) := by decide +kernel
theorem d_M_init_85 : decode prog_9_method_1_code 85 = .ok (.sipush 2400, 3) := by decide +kernel
theorem d_M_init_88 : decode prog_9_method_1_code 88 = .ok (.newarray .int, 2) := by decide +kernel
theorem d_M_init_90 : decode prog_9_method_1_code 90 = .ok (.putfield 42, 3) := by decide +kernel
theorem d_M_init_93 : decode prog_9_method_1_code 93 = .ok (.aload_n 0, 1) := by decide +kernel
theorem d_M_init_94 : decode prog_9_method_1_code 94 = .ok (.bipush 120, 2) := by decide +kernel
theorem d_M_init_96 : decode prog_9_method_1_code 96 = .ok (.newarray .int, 2) := by decide +kernel
theorem d_M_init_98 : decode prog_9_method_1_code 98 = .ok (.putfield 45, 3) := by decide +kernel
theorem d_M_init_101 : decode prog_9_method_1_code 101 = .ok (.aload_n 0, 1) := by decide +kernel
theorem d_M_init_102 : decode prog_9_method_1_code 102 = .ok (.ldc 29, 2) := by decide +kernel
theorem d_M_init_104 : decode prog_9_method_1_code 104 = .ok (.newarray .int, 2) := by decide +kernel
theorem d_M_init_106 : decode prog_9_method_1_code 106 = .ok (.putfield 48, 3) := by decide +kernel
theorem d_M_init_109 : decode prog_9_method_1_code 109 = .ok (.aload_n 0, 1) := by decide +kernel
theorem d_M_init_110 : decode prog_9_method_1_code 110 = .ok (.ldc 29, 2) := by decide +kernel
theorem d_M_init_112 : decode prog_9_method_1_code 112 = .ok (.newarray .int, 2) := by decide +kernel
theorem d_M_init_114 : decode prog_9_method_1_code 114 = .ok (.putfield 51, 3) := by decide +kernel
theorem d_M_init_117 : decode prog_9_method_1_code 117 = .ok (.aload_n 0, 1) := by decide +kernel
theorem d_M_init_118 : decode prog_9_method_1_code 118 = .ok (.sipush 3000, 3) := by decide +kernel
theorem d_M_init_121 : decode prog_9_method_1_code 121 = .ok (.newarray .int, 2) := by decide +kernel
theorem d_M_init_123 : decode prog_9_method_1_code 123 = .ok (.putfield 54, 3) := by decide +kernel
theorem d_M_init_126 : decode prog_9_method_1_code 126 = .ok (.aload_n 0, 1) := by decide +kernel
theorem d_M_init_127 : decode prog_9_method_1_code 127 = .ok (.sipush 3000, 3) := by decide +kernel
theorem d_M_init_130 : decode prog_9_method_1_code 130 = .ok (.newarray .int, 2) := by decide +kernel
theorem d_M_init_132 : decode prog_9_method_1_code 132 = .ok (.putfield 57, 3) := by decide +kernel
theorem d_M_init_135 : decode prog_9_method_1_code 135 = .ok (.aload_n 0, 1) := by decide +kernel
theorem d_M_init_136 : decode prog_9_method_1_code 136 = .ok (.sipush 3000, 3) := by decide +kernel
theorem d_M_init_139 : decode prog_9_method_1_code 139 = .ok (.newarray .int, 2) := by decide +kernel
theorem d_M_init_141 : decode prog_9_method_1_code 141 = .ok (.putfield 60, 3) := by decide +kernel
theorem d_M_init_144 : decode prog_9_method_1_code 144 = .ok (.aload_n 0, 1) := by decide +kernel
theorem d_M_init_145 : decode prog_9_method_1_code 145 = .ok (.sipush 3000, 3) := by decide +kernel
theorem d_M_init_148 : decode prog_9_method_1_code 148 = .ok (.newarray .boolean, 2) := by decide +kernel
theorem d_M_init_150 : decode prog_9_method_1_code 150 = .ok (.putfield 63, 3) := by decide +kernel
theorem d_M_init_153 : decode prog_9_method_1_code 153 = .ok (.aload_n 0, 1) := by decide +kernel
theorem d_M_init_154 : decode prog_9_method_1_code 154 = .ok (.sipush 3000, 3) := by decide +kernel
theorem d_M_init_157 : decode prog_9_method_1_code 157 = .ok (.newarray .boolean, 2) := by decide +kernel
theorem d_M_init_159 : decode prog_9_method_1_code 159 = .ok (.putfield 66, 3) := by decide +kernel
theorem d_M_init_162 : decode prog_9_method_1_code 162 = .ok (.return_, 1) := by decide +kernel
theorem d_M_thrown_0 : decode prog_9_method_2_code 0 = .ok (.aload_n 0, 1) := by decide +kernel
theorem d_M_thrown_1 : decode prog_9_method_2_code 1 = .ok (.getfield 69, 3) := by decide +kernel
theorem d_M_thrown_4 : decode prog_9_method_2_code 4 = .ok (.ireturn, 1) := by decide +kernel
theorem d_M_begin_0 : decode prog_9_method_13_code 0 = .ok (.aload_n 0, 1) := by decide +kernel
theorem d_M_begin_1 : decode prog_9_method_13_code 1 = .ok (.iload_n 1, 1) := by decide +kernel
theorem d_M_begin_2 : decode prog_9_method_13_code 2 = .ok (.ifCond .lt 8, 3) := by decide +kernel
theorem d_M_begin_5 : decode prog_9_method_13_code 5 = .ok (.iload_n 1, 1) := by decide +kernel
theorem d_M_begin_6 : decode prog_9_method_13_code 6 = .ok (.iconst 1, 1) := by decide +kernel
theorem d_M_begin_7 : decode prog_9_method_13_code 7 = .ok (.if_icmp .le 7, 3) := by decide +kernel
theorem d_M_begin_10 : decode prog_9_method_13_code 10 = .ok (.iconst 1, 1) := by decide +kernel
theorem d_M_begin_11 : decode prog_9_method_13_code 11 = .ok (.goto 17, 3) := by decide +kernel
theorem d_M_begin_14 : decode prog_9_method_13_code 14 = .ok (.aload_n 0, 1) := by decide +kernel
theorem d_M_begin_15 : decode prog_9_method_13_code 15 = .ok (.getfield 73, 3) := by decide +kernel
theorem d_M_begin_18 : decode prog_9_method_13_code 18 = .ok (.bipush 120, 2) := by decide +kernel
theorem d_M_begin_20 : decode prog_9_method_13_code 20 = .ok (.if_icmp .ne 7, 3) := by decide +kernel
theorem d_M_begin_23 : decode prog_9_method_13_code 23 = .ok (.iconst 2, 1) := by decide +kernel
theorem d_M_begin_24 : decode prog_9_method_13_code 24 = .ok (.goto 4, 3) := by decide +kernel
theorem d_M_begin_27 : decode prog_9_method_13_code 27 = .ok (.iconst 0, 1) := by decide +kernel
theorem d_M_begin_28 : decode prog_9_method_13_code 28 = .ok (.putfield 69, 3) := by decide +kernel
theorem d_M_begin_31 : decode prog_9_method_13_code 31 = .ok (.aload_n 0, 1) := by decide +kernel
theorem d_M_begin_32 : decode prog_9_method_13_code 32 = .ok (.getfield 69, 3) := by decide +kernel
theorem d_M_begin_35 : decode prog_9_method_13_code 35 = .ok (.ifCond .le 5, 3) := by decide +kernel
theorem d_M_begin_38 : decode prog_9_method_13_code 38 = .ok (.iconst 0, 1) := by decide +kernel
theorem d_M_begin_39 : decode prog_9_method_13_code 39 = .ok (.ireturn, 1) := by decide +kernel
theorem d_M_begin_40 : decode prog_9_method_13_code 40 = .ok (.aload_n 0, 1) := by decide +kernel
theorem d_M_begin_41 : decode prog_9_method_13_code 41 = .ok (.getfield 7, 3) := by decide +kernel
theorem d_M_begin_44 : decode prog_9_method_13_code 44 = .ok (.aload_n 0, 1) := by decide +kernel
theorem d_M_begin_45 : decode prog_9_method_13_code 45 = .ok (.getfield 73, 3) := by decide +kernel
theorem d_M_begin_48 : decode prog_9_method_13_code 48 = .ok (.iload_n 1, 1) := by decide +kernel
theorem d_M_begin_49 : decode prog_9_method_13_code 49 = .ok (.iconst 1, 1) := by decide +kernel
theorem d_M_begin_50 : decode prog_9_method_13_code 50 = .ok (.if_icmp .ne 7, 3) := by decide +kernel
theorem d_M_begin_53 : decode prog_9_method_13_code 53 = .ok (.iconst 1, 1) := by decide +kernel
theorem d_M_begin_54 : decode prog_9_method_13_code 54 = .ok (.goto 4, 3) := by decide +kernel
theorem d_M_begin_57 : decode prog_9_method_13_code 57 = .ok (.iconst 0, 1) := by decide +kernel
theorem d_M_begin_58 : decode prog_9_method_13_code 58 = .ok (.bastore, 1) := by decide +kernel
theorem d_M_begin_59 : decode prog_9_method_13_code 59 = .ok (.aload_n 0, 1) := by decide +kernel
theorem d_M_begin_60 : decode prog_9_method_13_code 60 = .ok (.getfield 13, 3) := by decide +kernel
theorem d_M_begin_63 : decode prog_9_method_13_code 63 = .ok (.aload_n 0, 1) := by decide +kernel
theorem d_M_begin_64 : decode prog_9_method_13_code 64 = .ok (.getfield 73, 3) := by decide +kernel
theorem d_M_begin_67 : decode prog_9_method_13_code 67 = .ok (.aload_n 0, 1) := by decide +kernel
theorem d_M_begin_68 : decode prog_9_method_13_code 68 = .ok (.getfield 106, 3) := by decide +kernel
theorem d_M_begin_71 : decode prog_9_method_13_code 71 = .ok (.iastore, 1) := by decide +kernel
theorem d_M_begin_72 : decode prog_9_method_13_code 72 = .ok (.aload_n 0, 1) := by decide +kernel
theorem d_M_begin_73 : decode prog_9_method_13_code 73 = .ok (.getfield 17, 3) := by decide +kernel
theorem d_M_begin_76 : decode prog_9_method_13_code 76 = .ok (.aload_n 0, 1) := by decide +kernel
theorem d_M_begin_77 : decode prog_9_method_13_code 77 = .ok (.getfield 73, 3) := by decide +kernel
theorem d_M_begin_80 : decode prog_9_method_13_code 80 = .ok (.iconst (-1), 1) := by decide +kernel
theorem d_M_begin_81 : decode prog_9_method_13_code 81 = .ok (.iastore, 1) := by decide +kernel
theorem d_M_begin_82 : decode prog_9_method_13_code 82 = .ok (.aload_n 0, 1) := by decide +kernel
theorem d_M_begin_83 : decode prog_9_method_13_code 83 = .ok (.dup, 1) := by decide +kernel
theorem d_M_begin_84 : decode prog_9_method_13_code 84 = .ok (.getfield 73, 3) := by decide +kernel
theorem d_M_begin_87 : decode prog_9_method_13_code 87 = .ok (.iconst 1, 1) := by decide +kernel
theorem d_M_begin_88 : decode prog_9_method_13_code 88 = .ok (.iadd, 1) := by decide +kernel
theorem d_M_begin_89 : decode prog_9_method_13_code 89 = .ok (.putfield 73, 3) := by decide +kernel
theorem d_M_begin_92 : decode prog_9_method_13_code 92 = .ok (.aload_n 0, 1) := by decide +kernel
theorem d_M_begin_93 : decode prog_9_method_13_code 93 = .ok (.getfield 73, 3) := by decide +kernel
theorem d_M_begin_96 : decode prog_9_method_13_code 96 = .ok (.iconst 1, 1) := by decide +kernel
theorem d_M_begin_97 : decode prog_9_method_13_code 97 = .ok (.isub, 1) := by decide +kernel
theorem d_M_begin_98 : decode prog_9_method_13_code 98 = .ok (.ireturn, 1) := by decide +kernel
theorem d_M_read_0 : decode prog_9_method_14_code 0 = .ok (.aload_n 0, 1) := by decide +kernel
theorem d_M_read_1 : decode prog_9_method_14_code 1 = .ok (.iload_n 1, 1) := by decide +kernel
theorem d_M_read_2 : decode prog_9_method_14_code 2 = .ok (.invokevirtual 109, 3) := by decide +kernel
theorem d_M_read_5 : decode prog_9_method_14_code 5 = .ok (.ifCond .ne 5, 3) := by decide +kernel
theorem d_M_read_8 : decode prog_9_method_14_code 8 = .ok (.iconst 0, 1) := by decide +kernel
theorem d_M_read_9 : decode prog_9_method_14_code 9 = .ok (.ireturn, 1) := by decide +kernel
theorem d_M_read_10 : decode prog_9_method_14_code 10 = .ok (.aload_n 0, 1) := by decide +kernel
theorem d_M_read_11 : decode prog_9_method_14_code 11 = .ok (.iload_n 1, 1) := by decide +kernel
theorem d_M_read_12 : decode prog_9_method_14_code 12 = .ok (.iload_n 2, 1) := by decide +kernel
theorem d_M_read_13 : decode prog_9_method_14_code 13 = .ok (.iload_n 2, 1) := by decide +kernel
theorem d_M_read_14 : decode prog_9_method_14_code 14 = .ok (.invokevirtual 112, 3) := by decide +kernel
theorem d_M_read_17 : decode prog_9_method_14_code 17 = .ok (.aload_n 0, 1) := by decide +kernel
theorem d_M_read_18 : decode prog_9_method_14_code 18 = .ok (.iload_n 1, 1) := by decide +kernel
theorem d_M_read_19 : decode prog_9_method_14_code 19 = .ok (.iload_n 2, 1) := by decide +kernel
theorem d_M_read_20 : decode prog_9_method_14_code 20 = .ok (.invokevirtual 103, 3) := by decide +kernel
theorem d_M_read_23 : decode prog_9_method_14_code 23 = .ok (.aload_n 0, 1) := by decide +kernel
theorem d_M_read_24 : decode prog_9_method_14_code 24 = .ok (.getfield 91, 3) := by decide +kernel
theorem d_M_read_27 : decode prog_9_method_14_code 27 = .ok (.ireturn, 1) := by decide +kernel
theorem d_M_isOpen_0 : decode prog_9_method_4_code 0 = .ok (.aload_n 0, 1) := by decide +kernel
theorem d_M_isOpen_1 : decode prog_9_method_4_code 1 = .ok (.aload_n 0, 1) := by decide +kernel
theorem d_M_isOpen_2 : decode prog_9_method_4_code 2 = .ok (.iload_n 1, 1) := by decide +kernel
theorem d_M_isOpen_3 : decode prog_9_method_4_code 3 = .ok (.invokevirtual 76, 3) := by decide +kernel
theorem d_M_isOpen_6 : decode prog_9_method_4_code 6 = .ok (.ifCond .ne 7, 3) := by decide +kernel
theorem d_M_isOpen_9 : decode prog_9_method_4_code 9 = .ok (.iconst 1, 1) := by decide +kernel
theorem d_M_isOpen_10 : decode prog_9_method_4_code 10 = .ok (.goto 17, 3) := by decide +kernel
theorem d_M_isOpen_13 : decode prog_9_method_4_code 13 = .ok (.aload_n 0, 1) := by decide +kernel
theorem d_M_isOpen_14 : decode prog_9_method_4_code 14 = .ok (.getfield 20, 3) := by decide +kernel
theorem d_M_isOpen_17 : decode prog_9_method_4_code 17 = .ok (.iload_n 1, 1) := by decide +kernel
theorem d_M_isOpen_18 : decode prog_9_method_4_code 18 = .ok (.iaload, 1) := by decide +kernel
theorem d_M_isOpen_19 : decode prog_9_method_4_code 19 = .ok (.ifCond .eq 7, 3) := by decide +kernel
theorem d_M_isOpen_22 : decode prog_9_method_4_code 22 = .ok (.iconst 2, 1) := by decide +kernel
theorem d_M_isOpen_23 : decode prog_9_method_4_code 23 = .ok (.goto 4, 3) := by decide +kernel
theorem d_M_isOpen_26 : decode prog_9_method_4_code 26 = .ok (.iconst 0, 1) := by decide +kernel
theorem d_M_isOpen_27 : decode prog_9_method_4_code 27 = .ok (.putfield 69, 3) := by decide +kernel
theorem d_M_isOpen_30 : decode prog_9_method_4_code 30 = .ok (.aload_n 0, 1) := by decide +kernel
theorem d_M_isOpen_31 : decode prog_9_method_4_code 31 = .ok (.getfield 69, 3) := by decide +kernel
theorem d_M_isOpen_34 : decode prog_9_method_4_code 34 = .ok (.ifCond .ne 7, 3) := by decide +kernel
theorem d_M_isOpen_37 : decode prog_9_method_4_code 37 = .ok (.iconst 1, 1) := by decide +kernel
theorem d_M_isOpen_38 : decode prog_9_method_4_code 38 = .ok (.goto 4, 3) := by decide +kernel
theorem d_M_isOpen_41 : decode prog_9_method_4_code 41 = .ok (.iconst 0, 1) := by decide +kernel
theorem d_M_isOpen_42 : decode prog_9_method_4_code 42 = .ok (.ireturn, 1) := by decide +kernel
theorem d_M_isTransaction_0 : decode prog_9_method_3_code 0 = .ok (.iload_n 1, 1) := by decide +kernel
theorem d_M_isTransaction_1 : decode prog_9_method_3_code 1 = .ok (.ifCond .lt 15, 3) := by decide +kernel
theorem d_M_isTransaction_4 : decode prog_9_method_3_code 4 = .ok (.iload_n 1, 1) := by decide +kernel
theorem d_M_isTransaction_5 : decode prog_9_method_3_code 5 = .ok (.aload_n 0, 1) := by decide +kernel
theorem d_M_isTransaction_6 : decode prog_9_method_3_code 6 = .ok (.getfield 73, 3) := by decide +kernel
theorem d_M_isTransaction_9 : decode prog_9_method_3_code 9 = .ok (.if_icmp .ge 7, 3) := by decide +kernel
theorem d_M_isTransaction_12 : decode prog_9_method_3_code 12 = .ok (.iconst 1, 1) := by decide +kernel
theorem d_M_isTransaction_13 : decode prog_9_method_3_code 13 = .ok (.goto 4, 3) := by decide +kernel
theorem d_M_isTransaction_16 : decode prog_9_method_3_code 16 = .ok (.iconst 0, 1) := by decide +kernel
theorem d_M_isTransaction_17 : decode prog_9_method_3_code 17 = .ok (.ireturn, 1) := by decide +kernel
theorem d_M_noteRead_0 : decode prog_9_method_10_code 0 = .ok (.aload_n 0, 1) := by decide +kernel
theorem d_M_noteRead_1 : decode prog_9_method_10_code 1 = .ok (.getfield 7, 3) := by decide +kernel
theorem d_M_noteRead_4 : decode prog_9_method_10_code 4 = .ok (.iload_n 1, 1) := by decide +kernel
theorem d_M_noteRead_5 : decode prog_9_method_10_code 5 = .ok (.baload, 1) := by decide +kernel
theorem d_M_noteRead_6 : decode prog_9_method_10_code 6 = .ok (.ifCond .eq 54, 3) := by decide +kernel
theorem d_M_noteRead_9 : decode prog_9_method_10_code 9 = .ok (.iload_n 2, 1) := by decide +kernel
theorem d_M_noteRead_10 : decode prog_9_method_10_code 10 = .ok (.iload_n 3, 1) := by decide +kernel
theorem d_M_noteRead_11 : decode prog_9_method_10_code 11 = .ok (.if_icmp .gt 49, 3) := by decide +kernel
theorem d_M_noteRead_14 : decode prog_9_method_10_code 14 = .ok (.aload_n 0, 1) := by decide +kernel
theorem d_M_noteRead_15 : decode prog_9_method_10_code 15 = .ok (.getfield 48, 3) := by decide +kernel
theorem d_M_noteRead_18 : decode prog_9_method_10_code 18 = .ok (.sipush 600, 3) := by decide +kernel
theorem d_M_noteRead_21 : decode prog_9_method_10_code 21 = .ok (.iload_n 1, 1) := by decide +kernel
theorem d_M_noteRead_22 : decode prog_9_method_10_code 22 = .ok (.imul, 1) := by decide +kernel
theorem d_M_noteRead_23 : decode prog_9_method_10_code 23 = .ok (.aload_n 0, 1) := by decide +kernel
theorem d_M_noteRead_24 : decode prog_9_method_10_code 24 = .ok (.getfield 45, 3) := by decide +kernel
theorem d_M_noteRead_27 : decode prog_9_method_10_code 27 = .ok (.iload_n 1, 1) := by decide +kernel
theorem d_M_noteRead_28 : decode prog_9_method_10_code 28 = .ok (.iaload, 1) := by decide +kernel
theorem d_M_noteRead_29 : decode prog_9_method_10_code 29 = .ok (.iadd, 1) := by decide +kernel
theorem d_M_noteRead_30 : decode prog_9_method_10_code 30 = .ok (.iload_n 2, 1) := by decide +kernel
theorem d_M_noteRead_31 : decode prog_9_method_10_code 31 = .ok (.iastore, 1) := by decide +kernel
theorem d_M_noteRead_32 : decode prog_9_method_10_code 32 = .ok (.aload_n 0, 1) := by decide +kernel
theorem d_M_noteRead_33 : decode prog_9_method_10_code 33 = .ok (.getfield 51, 3) := by decide +kernel
theorem d_M_noteRead_36 : decode prog_9_method_10_code 36 = .ok (.sipush 600, 3) := by decide +kernel
theorem d_M_noteRead_39 : decode prog_9_method_10_code 39 = .ok (.iload_n 1, 1) := by decide +kernel
theorem d_M_noteRead_40 : decode prog_9_method_10_code 40 = .ok (.imul, 1) := by decide +kernel
theorem d_M_noteRead_41 : decode prog_9_method_10_code 41 = .ok (.aload_n 0, 1) := by decide +kernel
theorem d_M_noteRead_42 : decode prog_9_method_10_code 42 = .ok (.getfield 45, 3) := by decide +kernel
theorem d_M_noteRead_45 : decode prog_9_method_10_code 45 = .ok (.iload_n 1, 1) := by decide +kernel
theorem d_M_noteRead_46 : decode prog_9_method_10_code 46 = .ok (.iaload, 1) := by decide +kernel
theorem d_M_noteRead_47 : decode prog_9_method_10_code 47 = .ok (.iadd, 1) := by decide +kernel
theorem d_M_noteRead_48 : decode prog_9_method_10_code 48 = .ok (.iload_n 3, 1) := by decide +kernel
theorem d_M_noteRead_49 : decode prog_9_method_10_code 49 = .ok (.iastore, 1) := by decide +kernel
theorem d_M_noteRead_50 : decode prog_9_method_10_code 50 = .ok (.aload_n 0, 1) := by decide +kernel
theorem d_M_noteRead_51 : decode prog_9_method_10_code 51 = .ok (.getfield 45, 3) := by decide +kernel
theorem d_M_noteRead_54 : decode prog_9_method_10_code 54 = .ok (.iload_n 1, 1) := by decide +kernel
theorem d_M_noteRead_55 : decode prog_9_method_10_code 55 = .ok (.dup2, 1) := by decide +kernel
theorem d_M_noteRead_56 : decode prog_9_method_10_code 56 = .ok (.iaload, 1) := by decide +kernel
theorem d_M_noteRead_57 : decode prog_9_method_10_code 57 = .ok (.iconst 1, 1) := by decide +kernel
theorem d_M_noteRead_58 : decode prog_9_method_10_code 58 = .ok (.iadd, 1) := by decide +kernel
theorem d_M_noteRead_59 : decode prog_9_method_10_code 59 = .ok (.iastore, 1) := by decide +kernel
theorem d_M_noteRead_60 : decode prog_9_method_10_code 60 = .ok (.return_, 1) := by decide +kernel
theorem d_M_look_0 : decode prog_9_method_8_code 0 = .ok (.aload_n 0, 1) := by decide +kernel
theorem d_M_look_1 : decode prog_9_method_8_code 1 = .ok (.iload_n 1, 1) := by decide +kernel
theorem d_M_look_2 : decode prog_9_method_8_code 2 = .ok (.iload_n 2, 1) := by decide +kernel
theorem d_M_look_3 : decode prog_9_method_8_code 3 = .ok (.invokevirtual 94, 3) := by decide +kernel
theorem d_M_look_6 : decode prog_9_method_8_code 6 = .ok (.istore_n 3, 1) := by decide +kernel
theorem d_M_look_7 : decode prog_9_method_8_code 7 = .ok (.iload_n 3, 1) := by decide +kernel
theorem d_M_look_8 : decode prog_9_method_8_code 8 = .ok (.ifCond .ge 15, 3) := by decide +kernel
theorem d_M_look_11 : decode prog_9_method_8_code 11 = .ok (.aload_n 0, 1) := by decide +kernel
theorem d_M_look_12 : decode prog_9_method_8_code 12 = .ok (.iload_n 2, 1) := by decide +kernel
theorem d_M_look_13 : decode prog_9_method_8_code 13 = .ok (.aload_n 0, 1) := by decide +kernel
theorem d_M_look_14 : decode prog_9_method_8_code 14 = .ok (.getfield 13, 3) := by decide +kernel
theorem d_M_look_17 : decode prog_9_method_8_code 17 = .ok (.iload_n 1, 1) := by decide +kernel
theorem d_M_look_18 : decode prog_9_method_8_code 18 = .ok (.iaload, 1) := by decide +kernel
theorem d_M_look_19 : decode prog_9_method_8_code 19 = .ok (.invokevirtual 97, 3) := by decide +kernel
theorem d_M_look_22 : decode prog_9_method_8_code 22 = .ok (.return_, 1) := by decide +kernel
theorem d_M_look_23 : decode prog_9_method_8_code 23 = .ok (.aload_n 0, 1) := by decide +kernel
theorem d_M_look_24 : decode prog_9_method_8_code 24 = .ok (.aload_n 0, 1) := by decide +kernel
theorem d_M_look_25 : decode prog_9_method_8_code 25 = .ok (.getfield 36, 3) := by decide +kernel
theorem d_M_look_28 : decode prog_9_method_8_code 28 = .ok (.iload_n 3, 1) := by decide +kernel
theorem d_M_look_29 : decode prog_9_method_8_code 29 = .ok (.baload, 1) := by decide +kernel
theorem d_M_look_30 : decode prog_9_method_8_code 30 = .ok (.ifCond .ne 7, 3) := by decide +kernel
theorem d_M_look_33 : decode prog_9_method_8_code 33 = .ok (.iconst 1, 1) := by decide +kernel
theorem d_M_look_34 : decode prog_9_method_8_code 34 = .ok (.goto 4, 3) := by decide +kernel
theorem d_M_look_37 : decode prog_9_method_8_code 37 = .ok (.iconst 0, 1) := by decide +kernel
theorem d_M_look_38 : decode prog_9_method_8_code 38 = .ok (.putfield 87, 3) := by decide +kernel
theorem d_M_look_41 : decode prog_9_method_8_code 41 = .ok (.aload_n 0, 1) := by decide +kernel
theorem d_M_look_42 : decode prog_9_method_8_code 42 = .ok (.aload_n 0, 1) := by decide +kernel
theorem d_M_look_43 : decode prog_9_method_8_code 43 = .ok (.getfield 87, 3) := by decide +kernel
theorem d_M_look_46 : decode prog_9_method_8_code 46 = .ok (.ifCond .eq 12, 3) := by decide +kernel
theorem d_M_look_49 : decode prog_9_method_8_code 49 = .ok (.aload_n 0, 1) := by decide +kernel
theorem d_M_look_50 : decode prog_9_method_8_code 50 = .ok (.getfield 33, 3) := by decide +kernel
theorem d_M_look_53 : decode prog_9_method_8_code 53 = .ok (.iload_n 3, 1) := by decide +kernel
theorem d_M_look_54 : decode prog_9_method_8_code 54 = .ok (.iaload, 1) := by decide +kernel
theorem d_M_look_55 : decode prog_9_method_8_code 55 = .ok (.goto 4, 3) := by decide +kernel
theorem d_M_look_58 : decode prog_9_method_8_code 58 = .ok (.iconst 0, 1) := by decide +kernel
theorem d_M_look_59 : decode prog_9_method_8_code 59 = .ok (.putfield 91, 3) := by decide +kernel
theorem d_M_look_62 : decode prog_9_method_8_code 62 = .ok (.return_, 1) := by decide +kernel
theorem d_M_writeOf_0 : decode prog_9_method_7_code 0 = .ok (.iconst (-1), 1) := by decide +kernel
theorem d_M_writeOf_1 : decode prog_9_method_7_code 1 = .ok (.istore_n 3, 1) := by decide +kernel
theorem d_M_writeOf_2 : decode prog_9_method_7_code 2 = .ok (.sipush 600, 3) := by decide +kernel
theorem d_M_writeOf_5 : decode prog_9_method_7_code 5 = .ok (.iload_n 1, 1) := by decide +kernel
theorem d_M_writeOf_6 : decode prog_9_method_7_code 6 = .ok (.imul, 1) := by decide +kernel
theorem d_M_writeOf_7 : decode prog_9_method_7_code 7 = .ok (.istore 4, 2) := by decide +kernel
theorem d_M_writeOf_9 : decode prog_9_method_7_code 9 = .ok (.iload 4, 2) := by decide +kernel
theorem d_M_writeOf_11 : decode prog_9_method_7_code 11 = .ok (.sipush 600, 3) := by decide +kernel
theorem d_M_writeOf_14 : decode prog_9_method_7_code 14 = .ok (.iload_n 1, 1) := by decide +kernel
theorem d_M_writeOf_15 : decode prog_9_method_7_code 15 = .ok (.imul, 1) := by decide +kernel
theorem d_M_writeOf_16 : decode prog_9_method_7_code 16 = .ok (.aload_n 0, 1) := by decide +kernel
theorem d_M_writeOf_17 : decode prog_9_method_7_code 17 = .ok (.getfield 26, 3) := by decide +kernel
theorem d_M_writeOf_20 : decode prog_9_method_7_code 20 = .ok (.iload_n 1, 1) := by decide +kernel
theorem d_M_writeOf_21 : decode prog_9_method_7_code 21 = .ok (.iaload, 1) := by decide +kernel
theorem d_M_writeOf_22 : decode prog_9_method_7_code 22 = .ok (.iadd, 1) := by decide +kernel
theorem d_M_writeOf_23 : decode prog_9_method_7_code 23 = .ok (.if_icmp .ge 27, 3) := by decide +kernel
theorem d_M_writeOf_26 : decode prog_9_method_7_code 26 = .ok (.aload_n 0, 1) := by decide +kernel
theorem d_M_writeOf_27 : decode prog_9_method_7_code 27 = .ok (.getfield 30, 3) := by decide +kernel
theorem d_M_writeOf_30 : decode prog_9_method_7_code 30 = .ok (.iload 4, 2) := by decide +kernel
theorem d_M_writeOf_32 : decode prog_9_method_7_code 32 = .ok (.iaload, 1) := by decide +kernel
theorem d_M_writeOf_33 : decode prog_9_method_7_code 33 = .ok (.iload_n 2, 1) := by decide +kernel
theorem d_M_writeOf_34 : decode prog_9_method_7_code 34 = .ok (.if_icmp .ne 8, 3) := by decide +kernel
theorem d_M_writeOf_37 : decode prog_9_method_7_code 37 = .ok (.iload 4, 2) := by decide +kernel
theorem d_M_writeOf_39 : decode prog_9_method_7_code 39 = .ok (.goto 4, 3) := by decide +kernel
theorem d_M_writeOf_42 : decode prog_9_method_7_code 42 = .ok (.iload_n 3, 1) := by decide +kernel
theorem d_M_writeOf_43 : decode prog_9_method_7_code 43 = .ok (.istore_n 3, 1) := by decide +kernel
theorem d_M_writeOf_44 : decode prog_9_method_7_code 44 = .ok (.iinc 4 1, 3) := by decide +kernel
theorem d_M_writeOf_47 : decode prog_9_method_7_code 47 = .ok (.goto (-38), 3) := by decide +kernel
theorem d_M_writeOf_50 : decode prog_9_method_7_code 50 = .ok (.iload_n 3, 1) := by decide +kernel
theorem d_M_writeOf_51 : decode prog_9_method_7_code 51 = .ok (.ireturn, 1) := by decide +kernel
theorem d_M_lookAt_0 : decode prog_9_method_6_code 0 = .ok (.aload_n 0, 1) := by decide +kernel
theorem d_M_lookAt_1 : decode prog_9_method_6_code 1 = .ok (.iload_n 1, 1) := by decide +kernel
theorem d_M_lookAt_2 : decode prog_9_method_6_code 2 = .ok (.iload_n 2, 1) := by decide +kernel
theorem d_M_lookAt_3 : decode prog_9_method_6_code 3 = .ok (.invokevirtual 83, 3) := by decide +kernel
theorem d_M_lookAt_6 : decode prog_9_method_6_code 6 = .ok (.istore_n 3, 1) := by decide +kernel
theorem d_M_lookAt_7 : decode prog_9_method_6_code 7 = .ok (.aload_n 0, 1) := by decide +kernel
theorem d_M_lookAt_8 : decode prog_9_method_6_code 8 = .ok (.iload_n 3, 1) := by decide +kernel
theorem d_M_lookAt_9 : decode prog_9_method_6_code 9 = .ok (.ifCond .lt 16, 3) := by decide +kernel
theorem d_M_lookAt_12 : decode prog_9_method_6_code 12 = .ok (.aload_n 0, 1) := by decide +kernel
theorem d_M_lookAt_13 : decode prog_9_method_6_code 13 = .ok (.getfield 63, 3) := by decide +kernel
theorem d_M_lookAt_16 : decode prog_9_method_6_code 16 = .ok (.iload_n 3, 1) := by decide +kernel
theorem d_M_lookAt_17 : decode prog_9_method_6_code 17 = .ok (.baload, 1) := by decide +kernel
theorem d_M_lookAt_18 : decode prog_9_method_6_code 18 = .ok (.ifCond .ne 7, 3) := by decide +kernel
theorem d_M_lookAt_21 : decode prog_9_method_6_code 21 = .ok (.iconst 1, 1) := by decide +kernel
theorem d_M_lookAt_22 : decode prog_9_method_6_code 22 = .ok (.goto 4, 3) := by decide +kernel
theorem d_M_lookAt_25 : decode prog_9_method_6_code 25 = .ok (.iconst 0, 1) := by decide +kernel
theorem d_M_lookAt_26 : decode prog_9_method_6_code 26 = .ok (.putfield 87, 3) := by decide +kernel
theorem d_M_lookAt_29 : decode prog_9_method_6_code 29 = .ok (.aload_n 0, 1) := by decide +kernel
theorem d_M_lookAt_30 : decode prog_9_method_6_code 30 = .ok (.aload_n 0, 1) := by decide +kernel
theorem d_M_lookAt_31 : decode prog_9_method_6_code 31 = .ok (.getfield 87, 3) := by decide +kernel
theorem d_M_lookAt_34 : decode prog_9_method_6_code 34 = .ok (.ifCond .eq 12, 3) := by decide +kernel
theorem d_M_lookAt_37 : decode prog_9_method_6_code 37 = .ok (.aload_n 0, 1) := by decide +kernel
theorem d_M_lookAt_38 : decode prog_9_method_6_code 38 = .ok (.getfield 60, 3) := by decide +kernel
theorem d_M_lookAt_41 : decode prog_9_method_6_code 41 = .ok (.iload_n 3, 1) := by decide +kernel
theorem d_M_lookAt_42 : decode prog_9_method_6_code 42 = .ok (.iaload, 1) := by decide +kernel
theorem d_M_lookAt_43 : decode prog_9_method_6_code 43 = .ok (.goto 4, 3) := by decide +kernel
theorem d_M_lookAt_46 : decode prog_9_method_6_code 46 = .ok (.iconst 0, 1) := by decide +kernel
theorem d_M_lookAt_47 : decode prog_9_method_6_code 47 = .ok (.putfield 91, 3) := by decide +kernel
theorem d_M_lookAt_50 : decode prog_9_method_6_code 50 = .ok (.return_, 1) := by decide +kernel
theorem d_M_versionAt_0 : decode prog_9_method_5_code 0 = .ok (.iconst (-1), 1) := by decide +kernel
theorem d_M_versionAt_1 : decode prog_9_method_5_code 1 = .ok (.istore_n 3, 1) := by decide +kernel
theorem d_M_versionAt_2 : decode prog_9_method_5_code 2 = .ok (.iconst 0, 1) := by decide +kernel
theorem d_M_versionAt_3 : decode prog_9_method_5_code 3 = .ok (.istore 4, 2) := by decide +kernel
theorem d_M_versionAt_5 : decode prog_9_method_5_code 5 = .ok (.iload 4, 2) := by decide +kernel
theorem d_M_versionAt_7 : decode prog_9_method_5_code 7 = .ok (.aload_n 0, 1) := by decide +kernel
theorem d_M_versionAt_8 : decode prog_9_method_5_code 8 = .ok (.getfield 80, 3) := by decide +kernel
theorem d_M_versionAt_11 : decode prog_9_method_5_code 11 = .ok (.if_icmp .ge 70, 3) := by decide +kernel
theorem d_M_versionAt_14 : decode prog_9_method_5_code 14 = .ok (.aload_n 0, 1) := by decide +kernel
theorem d_M_versionAt_15 : decode prog_9_method_5_code 15 = .ok (.getfield 54, 3) := by decide +kernel
theorem d_M_versionAt_18 : decode prog_9_method_5_code 18 = .ok (.iload 4, 2) := by decide +kernel
theorem d_M_versionAt_20 : decode prog_9_method_5_code 20 = .ok (.iaload, 1) := by decide +kernel
theorem d_M_versionAt_21 : decode prog_9_method_5_code 21 = .ok (.iload_n 1, 1) := by decide +kernel
theorem d_M_versionAt_22 : decode prog_9_method_5_code 22 = .ok (.if_icmp .ne 18, 3) := by decide +kernel
theorem d_M_versionAt_25 : decode prog_9_method_5_code 25 = .ok (.aload_n 0, 1) := by decide +kernel
theorem d_M_versionAt_26 : decode prog_9_method_5_code 26 = .ok (.getfield 57, 3) := by decide +kernel
theorem d_M_versionAt_29 : decode prog_9_method_5_code 29 = .ok (.iload 4, 2) := by decide +kernel
theorem d_M_versionAt_31 : decode prog_9_method_5_code 31 = .ok (.iaload, 1) := by decide +kernel
theorem d_M_versionAt_32 : decode prog_9_method_5_code 32 = .ok (.iload_n 2, 1) := by decide +kernel
theorem d_M_versionAt_33 : decode prog_9_method_5_code 33 = .ok (.if_icmp .gt 7, 3) := by decide +kernel
theorem d_M_versionAt_36 : decode prog_9_method_5_code 36 = .ok (.iconst 1, 1) := by decide +kernel
theorem d_M_versionAt_37 : decode prog_9_method_5_code 37 = .ok (.goto 4, 3) := by decide +kernel
theorem d_M_versionAt_40 : decode prog_9_method_5_code 40 = .ok (.iconst 0, 1) := by decide +kernel
theorem d_M_versionAt_41 : decode prog_9_method_5_code 41 = .ok (.istore 5, 2) := by decide +kernel
theorem d_M_versionAt_43 : decode prog_9_method_5_code 43 = .ok (.iload 5, 2) := by decide +kernel
theorem d_M_versionAt_45 : decode prog_9_method_5_code 45 = .ok (.ifCond .eq 28, 3) := by decide +kernel
theorem d_M_versionAt_48 : decode prog_9_method_5_code 48 = .ok (.iload_n 3, 1) := by decide +kernel
theorem d_M_versionAt_49 : decode prog_9_method_5_code 49 = .ok (.ifCond .lt 19, 3) := by decide +kernel
theorem d_M_versionAt_52 : decode prog_9_method_5_code 52 = .ok (.aload_n 0, 1) := by decide +kernel
theorem d_M_versionAt_53 : decode prog_9_method_5_code 53 = .ok (.getfield 57, 3) := by decide +kernel
theorem d_M_versionAt_56 : decode prog_9_method_5_code 56 = .ok (.iload 4, 2) := by decide +kernel
theorem d_M_versionAt_58 : decode prog_9_method_5_code 58 = .ok (.iaload, 1) := by decide +kernel
theorem d_M_versionAt_59 : decode prog_9_method_5_code 59 = .ok (.aload_n 0, 1) := by decide +kernel
theorem d_M_versionAt_60 : decode prog_9_method_5_code 60 = .ok (.getfield 57, 3) := by decide +kernel
theorem d_M_versionAt_63 : decode prog_9_method_5_code 63 = .ok (.iload_n 3, 1) := by decide +kernel
theorem d_M_versionAt_64 : decode prog_9_method_5_code 64 = .ok (.iaload, 1) := by decide +kernel
theorem d_M_versionAt_65 : decode prog_9_method_5_code 65 = .ok (.if_icmp .le 8, 3) := by decide +kernel
theorem d_M_versionAt_68 : decode prog_9_method_5_code 68 = .ok (.iload 4, 2) := by decide +kernel
theorem d_M_versionAt_70 : decode prog_9_method_5_code 70 = .ok (.goto 4, 3) := by decide +kernel
theorem d_M_versionAt_73 : decode prog_9_method_5_code 73 = .ok (.iload_n 3, 1) := by decide +kernel
theorem d_M_versionAt_74 : decode prog_9_method_5_code 74 = .ok (.istore_n 3, 1) := by decide +kernel
theorem d_M_versionAt_75 : decode prog_9_method_5_code 75 = .ok (.iinc 4 1, 3) := by decide +kernel
theorem d_M_versionAt_78 : decode prog_9_method_5_code 78 = .ok (.goto (-73), 3) := by decide +kernel
theorem d_M_versionAt_81 : decode prog_9_method_5_code 81 = .ok (.iload_n 3, 1) := by decide +kernel
theorem d_M_versionAt_82 : decode prog_9_method_5_code 82 = .ok (.ireturn, 1) := by decide +kernel
theorem d_M_found_0 : decode prog_9_method_15_code 0 = .ok (.aload_n 0, 1) := by decide +kernel
theorem d_M_found_1 : decode prog_9_method_15_code 1 = .ok (.iload_n 1, 1) := by decide +kernel
theorem d_M_found_2 : decode prog_9_method_15_code 2 = .ok (.invokevirtual 109, 3) := by decide +kernel
theorem d_M_found_5 : decode prog_9_method_15_code 5 = .ok (.ifCond .ne 5, 3) := by decide +kernel
theorem d_M_found_8 : decode prog_9_method_15_code 8 = .ok (.iconst 0, 1) := by decide +kernel
theorem d_M_found_9 : decode prog_9_method_15_code 9 = .ok (.ireturn, 1) := by decide +kernel
theorem d_M_found_10 : decode prog_9_method_15_code 10 = .ok (.aload_n 0, 1) := by decide +kernel
theorem d_M_found_11 : decode prog_9_method_15_code 11 = .ok (.iload_n 1, 1) := by decide +kernel
theorem d_M_found_12 : decode prog_9_method_15_code 12 = .ok (.iload_n 2, 1) := by decide +kernel
theorem d_M_found_13 : decode prog_9_method_15_code 13 = .ok (.iload_n 2, 1) := by decide +kernel
theorem d_M_found_14 : decode prog_9_method_15_code 14 = .ok (.invokevirtual 112, 3) := by decide +kernel
theorem d_M_found_17 : decode prog_9_method_15_code 17 = .ok (.aload_n 0, 1) := by decide +kernel
theorem d_M_found_18 : decode prog_9_method_15_code 18 = .ok (.iload_n 1, 1) := by decide +kernel
theorem d_M_found_19 : decode prog_9_method_15_code 19 = .ok (.iload_n 2, 1) := by decide +kernel
theorem d_M_found_20 : decode prog_9_method_15_code 20 = .ok (.invokevirtual 103, 3) := by decide +kernel
theorem d_M_found_23 : decode prog_9_method_15_code 23 = .ok (.aload_n 0, 1) := by decide +kernel
theorem d_M_found_24 : decode prog_9_method_15_code 24 = .ok (.getfield 87, 3) := by decide +kernel
theorem d_M_found_27 : decode prog_9_method_15_code 27 = .ok (.ireturn, 1) := by decide +kernel
theorem d_M_write_0 : decode prog_9_method_17_code 0 = .ok (.aload_n 0, 1) := by decide +kernel
theorem d_M_write_1 : decode prog_9_method_17_code 1 = .ok (.iload_n 1, 1) := by decide +kernel
theorem d_M_write_2 : decode prog_9_method_17_code 2 = .ok (.invokevirtual 109, 3) := by decide +kernel
theorem d_M_write_5 : decode prog_9_method_17_code 5 = .ok (.ifCond .eq 14, 3) := by decide +kernel
theorem d_M_write_8 : decode prog_9_method_17_code 8 = .ok (.aload_n 0, 1) := by decide +kernel
theorem d_M_write_9 : decode prog_9_method_17_code 9 = .ok (.iload_n 1, 1) := by decide +kernel
theorem d_M_write_10 : decode prog_9_method_17_code 10 = .ok (.iload_n 2, 1) := by decide +kernel
theorem d_M_write_11 : decode prog_9_method_17_code 11 = .ok (.iload_n 3, 1) := by decide +kernel
theorem d_M_write_12 : decode prog_9_method_17_code 12 = .ok (.iconst 0, 1) := by decide +kernel
theorem d_M_write_13 : decode prog_9_method_17_code 13 = .ok (.invokevirtual 120, 3) := by decide +kernel
theorem d_M_write_16 : decode prog_9_method_17_code 16 = .ok (.goto 4, 3) := by decide +kernel
theorem d_M_write_19 : decode prog_9_method_17_code 19 = .ok (.iconst 0, 1) := by decide +kernel
theorem d_M_write_20 : decode prog_9_method_17_code 20 = .ok (.ireturn, 1) := by decide +kernel
theorem d_M_note_0 : decode prog_9_method_16_code 0 = .ok (.aload_n 0, 1) := by decide +kernel
theorem d_M_note_1 : decode prog_9_method_16_code 1 = .ok (.getfield 30, 3) := by decide +kernel
theorem d_M_note_4 : decode prog_9_method_16_code 4 = .ok (.sipush 600, 3) := by decide +kernel
theorem d_M_note_7 : decode prog_9_method_16_code 7 = .ok (.iload_n 1, 1) := by decide +kernel
theorem d_M_note_8 : decode prog_9_method_16_code 8 = .ok (.imul, 1) := by decide +kernel
theorem d_M_note_9 : decode prog_9_method_16_code 9 = .ok (.aload_n 0, 1) := by decide +kernel
theorem d_M_note_10 : decode prog_9_method_16_code 10 = .ok (.getfield 26, 3) := by decide +kernel
theorem d_M_note_13 : decode prog_9_method_16_code 13 = .ok (.iload_n 1, 1) := by decide +kernel
theorem d_M_note_14 : decode prog_9_method_16_code 14 = .ok (.iaload, 1) := by decide +kernel
theorem d_M_note_15 : decode prog_9_method_16_code 15 = .ok (.iadd, 1) := by decide +kernel
theorem d_M_note_16 : decode prog_9_method_16_code 16 = .ok (.iload_n 2, 1) := by decide +kernel
theorem d_M_note_17 : decode prog_9_method_16_code 17 = .ok (.iastore, 1) := by decide +kernel
theorem d_M_note_18 : decode prog_9_method_16_code 18 = .ok (.aload_n 0, 1) := by decide +kernel
theorem d_M_note_19 : decode prog_9_method_16_code 19 = .ok (.getfield 33, 3) := by decide +kernel
theorem d_M_note_22 : decode prog_9_method_16_code 22 = .ok (.sipush 600, 3) := by decide +kernel
theorem d_M_note_25 : decode prog_9_method_16_code 25 = .ok (.iload_n 1, 1) := by decide +kernel
theorem d_M_note_26 : decode prog_9_method_16_code 26 = .ok (.imul, 1) := by decide +kernel
theorem d_M_note_27 : decode prog_9_method_16_code 27 = .ok (.aload_n 0, 1) := by decide +kernel
theorem d_M_note_28 : decode prog_9_method_16_code 28 = .ok (.getfield 26, 3) := by decide +kernel
theorem d_M_note_31 : decode prog_9_method_16_code 31 = .ok (.iload_n 1, 1) := by decide +kernel
theorem d_M_note_32 : decode prog_9_method_16_code 32 = .ok (.iaload, 1) := by decide +kernel
theorem d_M_note_33 : decode prog_9_method_16_code 33 = .ok (.iadd, 1) := by decide +kernel
theorem d_M_note_34 : decode prog_9_method_16_code 34 = .ok (.iload_n 3, 1) := by decide +kernel
theorem d_M_note_35 : decode prog_9_method_16_code 35 = .ok (.iastore, 1) := by decide +kernel
theorem d_M_note_36 : decode prog_9_method_16_code 36 = .ok (.aload_n 0, 1) := by decide +kernel
theorem d_M_note_37 : decode prog_9_method_16_code 37 = .ok (.getfield 36, 3) := by decide +kernel
theorem d_M_note_40 : decode prog_9_method_16_code 40 = .ok (.sipush 600, 3) := by decide +kernel
theorem d_M_note_43 : decode prog_9_method_16_code 43 = .ok (.iload_n 1, 1) := by decide +kernel
theorem d_M_note_44 : decode prog_9_method_16_code 44 = .ok (.imul, 1) := by decide +kernel
theorem d_M_note_45 : decode prog_9_method_16_code 45 = .ok (.aload_n 0, 1) := by decide +kernel
theorem d_M_note_46 : decode prog_9_method_16_code 46 = .ok (.getfield 26, 3) := by decide +kernel
theorem d_M_note_49 : decode prog_9_method_16_code 49 = .ok (.iload_n 1, 1) := by decide +kernel
theorem d_M_note_50 : decode prog_9_method_16_code 50 = .ok (.iaload, 1) := by decide +kernel
theorem d_M_note_51 : decode prog_9_method_16_code 51 = .ok (.iadd, 1) := by decide +kernel
theorem d_M_note_52 : decode prog_9_method_16_code 52 = .ok (.iload 4, 2) := by decide +kernel
theorem d_M_note_54 : decode prog_9_method_16_code 54 = .ok (.bastore, 1) := by decide +kernel
theorem d_M_note_55 : decode prog_9_method_16_code 55 = .ok (.aload_n 0, 1) := by decide +kernel
theorem d_M_note_56 : decode prog_9_method_16_code 56 = .ok (.getfield 26, 3) := by decide +kernel
theorem d_M_note_59 : decode prog_9_method_16_code 59 = .ok (.iload_n 1, 1) := by decide +kernel
theorem d_M_note_60 : decode prog_9_method_16_code 60 = .ok (.dup2, 1) := by decide +kernel
theorem d_M_note_61 : decode prog_9_method_16_code 61 = .ok (.iaload, 1) := by decide +kernel
theorem d_M_note_62 : decode prog_9_method_16_code 62 = .ok (.iconst 1, 1) := by decide +kernel
theorem d_M_note_63 : decode prog_9_method_16_code 63 = .ok (.iadd, 1) := by decide +kernel
theorem d_M_note_64 : decode prog_9_method_16_code 64 = .ok (.iastore, 1) := by decide +kernel
theorem d_M_note_65 : decode prog_9_method_16_code 65 = .ok (.aload_n 0, 1) := by decide +kernel
theorem d_M_note_66 : decode prog_9_method_16_code 66 = .ok (.iload_n 1, 1) := by decide +kernel
theorem d_M_note_67 : decode prog_9_method_16_code 67 = .ok (.invokevirtual 116, 3) := by decide +kernel
theorem d_M_note_70 : decode prog_9_method_16_code 70 = .ok (.ireturn, 1) := by decide +kernel
theorem d_M_keysOf_0 : decode prog_9_method_12_code 0 = .ok (.iconst 0, 1) := by decide +kernel
theorem d_M_keysOf_1 : decode prog_9_method_12_code 1 = .ok (.istore_n 2, 1) := by decide +kernel
theorem d_M_keysOf_2 : decode prog_9_method_12_code 2 = .ok (.sipush 600, 3) := by decide +kernel
theorem d_M_keysOf_5 : decode prog_9_method_12_code 5 = .ok (.iload_n 1, 1) := by decide +kernel
theorem d_M_keysOf_6 : decode prog_9_method_12_code 6 = .ok (.imul, 1) := by decide +kernel
theorem d_M_keysOf_7 : decode prog_9_method_12_code 7 = .ok (.istore_n 3, 1) := by decide +kernel
theorem d_M_keysOf_8 : decode prog_9_method_12_code 8 = .ok (.iload_n 3, 1) := by decide +kernel
theorem d_M_keysOf_9 : decode prog_9_method_12_code 9 = .ok (.sipush 600, 3) := by decide +kernel
theorem d_M_keysOf_12 : decode prog_9_method_12_code 12 = .ok (.iload_n 1, 1) := by decide +kernel
theorem d_M_keysOf_13 : decode prog_9_method_12_code 13 = .ok (.imul, 1) := by decide +kernel
theorem d_M_keysOf_14 : decode prog_9_method_12_code 14 = .ok (.aload_n 0, 1) := by decide +kernel
theorem d_M_keysOf_15 : decode prog_9_method_12_code 15 = .ok (.getfield 26, 3) := by decide +kernel
theorem d_M_keysOf_18 : decode prog_9_method_12_code 18 = .ok (.iload_n 1, 1) := by decide +kernel
theorem d_M_keysOf_19 : decode prog_9_method_12_code 19 = .ok (.iaload, 1) := by decide +kernel
theorem d_M_keysOf_20 : decode prog_9_method_12_code 20 = .ok (.iadd, 1) := by decide +kernel
theorem d_M_keysOf_21 : decode prog_9_method_12_code 21 = .ok (.if_icmp .ge 32, 3) := by decide +kernel
theorem d_M_keysOf_24 : decode prog_9_method_12_code 24 = .ok (.iload_n 2, 1) := by decide +kernel
theorem d_M_keysOf_25 : decode prog_9_method_12_code 25 = .ok (.aload_n 0, 1) := by decide +kernel
theorem d_M_keysOf_26 : decode prog_9_method_12_code 26 = .ok (.iload_n 1, 1) := by decide +kernel
theorem d_M_keysOf_27 : decode prog_9_method_12_code 27 = .ok (.aload_n 0, 1) := by decide +kernel
theorem d_M_keysOf_28 : decode prog_9_method_12_code 28 = .ok (.getfield 30, 3) := by decide +kernel
theorem d_M_keysOf_31 : decode prog_9_method_12_code 31 = .ok (.iload_n 3, 1) := by decide +kernel
theorem d_M_keysOf_32 : decode prog_9_method_12_code 32 = .ok (.iaload, 1) := by decide +kernel
theorem d_M_keysOf_33 : decode prog_9_method_12_code 33 = .ok (.invokevirtual 94, 3) := by decide +kernel
theorem d_M_keysOf_36 : decode prog_9_method_12_code 36 = .ok (.iload_n 3, 1) := by decide +kernel
theorem d_M_keysOf_37 : decode prog_9_method_12_code 37 = .ok (.if_icmp .ne 7, 3) := by decide +kernel
theorem d_M_keysOf_40 : decode prog_9_method_12_code 40 = .ok (.iconst 1, 1) := by decide +kernel
theorem d_M_keysOf_41 : decode prog_9_method_12_code 41 = .ok (.goto 4, 3) := by decide +kernel
theorem d_M_keysOf_44 : decode prog_9_method_12_code 44 = .ok (.iconst 0, 1) := by decide +kernel
theorem d_M_keysOf_45 : decode prog_9_method_12_code 45 = .ok (.iadd, 1) := by decide +kernel
theorem d_M_keysOf_46 : decode prog_9_method_12_code 46 = .ok (.istore_n 2, 1) := by decide +kernel
theorem d_M_keysOf_47 : decode prog_9_method_12_code 47 = .ok (.iinc 3 1, 3) := by decide +kernel
theorem d_M_keysOf_50 : decode prog_9_method_12_code 50 = .ok (.goto (-42), 3) := by decide +kernel
theorem d_M_keysOf_53 : decode prog_9_method_12_code 53 = .ok (.iload_n 2, 1) := by decide +kernel
theorem d_M_keysOf_54 : decode prog_9_method_12_code 54 = .ok (.ireturn, 1) := by decide +kernel
theorem d_M_erase_0 : decode prog_9_method_18_code 0 = .ok (.aload_n 0, 1) := by decide +kernel
theorem d_M_erase_1 : decode prog_9_method_18_code 1 = .ok (.iload_n 1, 1) := by decide +kernel
theorem d_M_erase_2 : decode prog_9_method_18_code 2 = .ok (.invokevirtual 109, 3) := by decide +kernel
theorem d_M_erase_5 : decode prog_9_method_18_code 5 = .ok (.ifCond .eq 14, 3) := by decide +kernel
theorem d_M_erase_8 : decode prog_9_method_18_code 8 = .ok (.aload_n 0, 1) := by decide +kernel
theorem d_M_erase_9 : decode prog_9_method_18_code 9 = .ok (.iload_n 1, 1) := by decide +kernel
theorem d_M_erase_10 : decode prog_9_method_18_code 10 = .ok (.iload_n 2, 1) := by decide +kernel
theorem d_M_erase_11 : decode prog_9_method_18_code 11 = .ok (.iconst 0, 1) := by decide +kernel
theorem d_M_erase_12 : decode prog_9_method_18_code 12 = .ok (.iconst 1, 1) := by decide +kernel
theorem d_M_erase_13 : decode prog_9_method_18_code 13 = .ok (.invokevirtual 120, 3) := by decide +kernel
theorem d_M_erase_16 : decode prog_9_method_18_code 16 = .ok (.goto 4, 3) := by decide +kernel
theorem d_M_erase_19 : decode prog_9_method_18_code 19 = .ok (.iconst 0, 1) := by decide +kernel
theorem d_M_erase_20 : decode prog_9_method_18_code 20 = .ok (.ireturn, 1) := by decide +kernel
theorem d_M_sum_0 : decode prog_9_method_19_code 0 = .ok (.aload_n 0, 1) := by decide +kernel
theorem d_M_sum_1 : decode prog_9_method_19_code 1 = .ok (.iload_n 1, 1) := by decide +kernel
theorem d_M_sum_2 : decode prog_9_method_19_code 2 = .ok (.invokevirtual 109, 3) := by decide +kernel
theorem d_M_sum_5 : decode prog_9_method_19_code 5 = .ok (.ifCond .ne 5, 3) := by decide +kernel
theorem d_M_sum_8 : decode prog_9_method_19_code 8 = .ok (.lconst 0, 1) := by decide +kernel
theorem d_M_sum_9 : decode prog_9_method_19_code 9 = .ok (.lreturn, 1) := by decide +kernel
theorem d_M_sum_10 : decode prog_9_method_19_code 10 = .ok (.aload_n 0, 1) := by decide +kernel
theorem d_M_sum_11 : decode prog_9_method_19_code 11 = .ok (.iload_n 1, 1) := by decide +kernel
theorem d_M_sum_12 : decode prog_9_method_19_code 12 = .ok (.iload_n 2, 1) := by decide +kernel
theorem d_M_sum_13 : decode prog_9_method_19_code 13 = .ok (.iload_n 3, 1) := by decide +kernel
theorem d_M_sum_14 : decode prog_9_method_19_code 14 = .ok (.invokevirtual 112, 3) := by decide +kernel
theorem d_M_sum_17 : decode prog_9_method_19_code 17 = .ok (.lconst 0, 1) := by decide +kernel
theorem d_M_sum_18 : decode prog_9_method_19_code 18 = .ok (.lstore 4, 2) := by decide +kernel
theorem d_M_sum_20 : decode prog_9_method_19_code 20 = .ok (.aload_n 0, 1) := by decide +kernel
theorem d_M_sum_21 : decode prog_9_method_19_code 21 = .ok (.iload_n 1, 1) := by decide +kernel
theorem d_M_sum_22 : decode prog_9_method_19_code 22 = .ok (.iload_n 2, 1) := by decide +kernel
theorem d_M_sum_23 : decode prog_9_method_19_code 23 = .ok (.i2l, 1) := by decide +kernel
theorem d_M_sum_24 : decode prog_9_method_19_code 24 = .ok (.invokevirtual 124, 3) := by decide +kernel
theorem d_M_sum_27 : decode prog_9_method_19_code 27 = .ok (.lstore 6, 2) := by decide +kernel
theorem d_M_sum_29 : decode prog_9_method_19_code 29 = .ok (.lload 6, 2) := by decide +kernel
theorem d_M_sum_31 : decode prog_9_method_19_code 31 = .ok (.iload_n 3, 1) := by decide +kernel
theorem d_M_sum_32 : decode prog_9_method_19_code 32 = .ok (.i2l, 1) := by decide +kernel
theorem d_M_sum_33 : decode prog_9_method_19_code 33 = .ok (.lcmp, 1) := by decide +kernel
theorem d_M_sum_34 : decode prog_9_method_19_code 34 = .ok (.ifCond .gt 27, 3) := by decide +kernel
theorem d_M_sum_37 : decode prog_9_method_19_code 37 = .ok (.lload 4, 2) := by decide +kernel
theorem d_M_sum_39 : decode prog_9_method_19_code 39 = .ok (.aload_n 0, 1) := by decide +kernel
theorem d_M_sum_40 : decode prog_9_method_19_code 40 = .ok (.getfield 91, 3) := by decide +kernel
theorem d_M_sum_43 : decode prog_9_method_19_code 43 = .ok (.i2l, 1) := by decide +kernel
theorem d_M_sum_44 : decode prog_9_method_19_code 44 = .ok (.ladd, 1) := by decide +kernel
theorem d_M_sum_45 : decode prog_9_method_19_code 45 = .ok (.lstore 4, 2) := by decide +kernel
theorem d_M_sum_47 : decode prog_9_method_19_code 47 = .ok (.aload_n 0, 1) := by decide +kernel
theorem d_M_sum_48 : decode prog_9_method_19_code 48 = .ok (.iload_n 1, 1) := by decide +kernel
theorem d_M_sum_49 : decode prog_9_method_19_code 49 = .ok (.lload 6, 2) := by decide +kernel
theorem d_M_sum_51 : decode prog_9_method_19_code 51 = .ok (.lconst 1, 1) := by decide +kernel
theorem d_M_sum_52 : decode prog_9_method_19_code 52 = .ok (.ladd, 1) := by decide +kernel
theorem d_M_sum_53 : decode prog_9_method_19_code 53 = .ok (.invokevirtual 124, 3) := by decide +kernel
theorem d_M_sum_56 : decode prog_9_method_19_code 56 = .ok (.lstore 6, 2) := by decide +kernel
theorem d_M_sum_58 : decode prog_9_method_19_code 58 = .ok (.goto (-29), 3) := by decide +kernel
theorem d_M_sum_61 : decode prog_9_method_19_code 61 = .ok (.lload 4, 2) := by decide +kernel
theorem d_M_sum_63 : decode prog_9_method_19_code 63 = .ok (.lreturn, 1) := by decide +kernel
theorem d_M_nextKey_0 : decode prog_9_method_9_code 0 = .ok (.lload_n 2, 1) := by decide +kernel
theorem d_M_nextKey_1 : decode prog_9_method_9_code 1 = .ok (.lstore 4, 2) := by decide +kernel
theorem d_M_nextKey_3 : decode prog_9_method_9_code 3 = .ok (.ldc2_w 101, 3) := by decide +kernel
theorem d_M_nextKey_6 : decode prog_9_method_9_code 6 = .ok (.lstore 6, 2) := by decide +kernel
theorem d_M_nextKey_8 : decode prog_9_method_9_code 8 = .ok (.sipush 600, 3) := by decide +kernel
theorem d_M_nextKey_11 : decode prog_9_method_9_code 11 = .ok (.iload_n 1, 1) := by decide +kernel
theorem d_M_nextKey_12 : decode prog_9_method_9_code 12 = .ok (.imul, 1) := by decide +kernel
theorem d_M_nextKey_13 : decode prog_9_method_9_code 13 = .ok (.istore 8, 2) := by decide +kernel
theorem d_M_nextKey_15 : decode prog_9_method_9_code 15 = .ok (.iload 8, 2) := by decide +kernel
theorem d_M_nextKey_17 : decode prog_9_method_9_code 17 = .ok (.sipush 600, 3) := by decide +kernel
theorem d_M_nextKey_20 : decode prog_9_method_9_code 20 = .ok (.iload_n 1, 1) := by decide +kernel
theorem d_M_nextKey_21 : decode prog_9_method_9_code 21 = .ok (.imul, 1) := by decide +kernel
theorem d_M_nextKey_22 : decode prog_9_method_9_code 22 = .ok (.aload_n 0, 1) := by decide +kernel
theorem d_M_nextKey_23 : decode prog_9_method_9_code 23 = .ok (.getfield 26, 3) := by decide +kernel
theorem d_M_nextKey_26 : decode prog_9_method_9_code 26 = .ok (.iload_n 1, 1) := by decide +kernel
theorem d_M_nextKey_27 : decode prog_9_method_9_code 27 = .ok (.iaload, 1) := by decide +kernel
theorem d_M_nextKey_28 : decode prog_9_method_9_code 28 = .ok (.iadd, 1) := by decide +kernel
theorem d_M_nextKey_29 : decode prog_9_method_9_code 29 = .ok (.if_icmp .ge 52, 3) := by decide +kernel
theorem d_M_nextKey_32 : decode prog_9_method_9_code 32 = .ok (.aload_n 0, 1) := by decide +kernel
theorem d_M_nextKey_33 : decode prog_9_method_9_code 33 = .ok (.getfield 30, 3) := by decide +kernel
theorem d_M_nextKey_36 : decode prog_9_method_9_code 36 = .ok (.iload 8, 2) := by decide +kernel
theorem d_M_nextKey_38 : decode prog_9_method_9_code 38 = .ok (.iaload, 1) := by decide +kernel
theorem d_M_nextKey_39 : decode prog_9_method_9_code 39 = .ok (.i2l, 1) := by decide +kernel
theorem d_M_nextKey_40 : decode prog_9_method_9_code 40 = .ok (.lload 4, 2) := by decide +kernel
theorem d_M_nextKey_42 : decode prog_9_method_9_code 42 = .ok (.lcmp, 1) := by decide +kernel
theorem d_M_nextKey_43 : decode prog_9_method_9_code 43 = .ok (.ifCond .lt 28, 3) := by decide +kernel
theorem d_M_nextKey_46 : decode prog_9_method_9_code 46 = .ok (.aload_n 0, 1) := by decide +kernel
theorem d_M_nextKey_47 : decode prog_9_method_9_code 47 = .ok (.getfield 30, 3) := by decide +kernel
theorem d_M_nextKey_50 : decode prog_9_method_9_code 50 = .ok (.iload 8, 2) := by decide +kernel
theorem d_M_nextKey_52 : decode prog_9_method_9_code 52 = .ok (.iaload, 1) := by decide +kernel
theorem d_M_nextKey_53 : decode prog_9_method_9_code 53 = .ok (.i2l, 1) := by decide +kernel
theorem d_M_nextKey_54 : decode prog_9_method_9_code 54 = .ok (.lload 6, 2) := by decide +kernel
theorem d_M_nextKey_56 : decode prog_9_method_9_code 56 = .ok (.lcmp, 1) := by decide +kernel
theorem d_M_nextKey_57 : decode prog_9_method_9_code 57 = .ok (.ifCond .ge 14, 3) := by decide +kernel
theorem d_M_nextKey_60 : decode prog_9_method_9_code 60 = .ok (.aload_n 0, 1) := by decide +kernel
theorem d_M_nextKey_61 : decode prog_9_method_9_code 61 = .ok (.getfield 30, 3) := by decide +kernel
theorem d_M_nextKey_64 : decode prog_9_method_9_code 64 = .ok (.iload 8, 2) := by decide +kernel
theorem d_M_nextKey_66 : decode prog_9_method_9_code 66 = .ok (.iaload, 1) := by decide +kernel
theorem d_M_nextKey_67 : decode prog_9_method_9_code 67 = .ok (.i2l, 1) := by decide +kernel
theorem d_M_nextKey_68 : decode prog_9_method_9_code 68 = .ok (.goto 5, 3) := by decide +kernel
theorem d_M_nextKey_71 : decode prog_9_method_9_code 71 = .ok (.lload 6, 2) := by decide +kernel
theorem d_M_nextKey_73 : decode prog_9_method_9_code 73 = .ok (.lstore 6, 2) := by decide +kernel
theorem d_M_nextKey_75 : decode prog_9_method_9_code 75 = .ok (.iinc 8 1, 3) := by decide +kernel
theorem d_M_nextKey_78 : decode prog_9_method_9_code 78 = .ok (.goto (-63), 3) := by decide +kernel
theorem d_M_nextKey_81 : decode prog_9_method_9_code 81 = .ok (.iconst 0, 1) := by decide +kernel
theorem d_M_nextKey_82 : decode prog_9_method_9_code 82 = .ok (.istore 8, 2) := by decide +kernel
theorem d_M_nextKey_84 : decode prog_9_method_9_code 84 = .ok (.iload 8, 2) := by decide +kernel
theorem d_M_nextKey_86 : decode prog_9_method_9_code 86 = .ok (.aload_n 0, 1) := by decide +kernel
theorem d_M_nextKey_87 : decode prog_9_method_9_code 87 = .ok (.getfield 80, 3) := by decide +kernel
theorem d_M_nextKey_90 : decode prog_9_method_9_code 90 = .ok (.if_icmp .ge 52, 3) := by decide +kernel
theorem d_M_nextKey_93 : decode prog_9_method_9_code 93 = .ok (.aload_n 0, 1) := by decide +kernel
theorem d_M_nextKey_94 : decode prog_9_method_9_code 94 = .ok (.getfield 54, 3) := by decide +kernel
theorem d_M_nextKey_97 : decode prog_9_method_9_code 97 = .ok (.iload 8, 2) := by decide +kernel
theorem d_M_nextKey_99 : decode prog_9_method_9_code 99 = .ok (.iaload, 1) := by decide +kernel
theorem d_M_nextKey_100 : decode prog_9_method_9_code 100 = .ok (.i2l, 1) := by decide +kernel
theorem d_M_nextKey_101 : decode prog_9_method_9_code 101 = .ok (.lload 4, 2) := by decide +kernel
theorem d_M_nextKey_103 : decode prog_9_method_9_code 103 = .ok (.lcmp, 1) := by decide +kernel
theorem d_M_nextKey_104 : decode prog_9_method_9_code 104 = .ok (.ifCond .lt 28, 3) := by decide +kernel
theorem d_M_nextKey_107 : decode prog_9_method_9_code 107 = .ok (.aload_n 0, 1) := by decide +kernel
theorem d_M_nextKey_108 : decode prog_9_method_9_code 108 = .ok (.getfield 54, 3) := by decide +kernel
theorem d_M_nextKey_111 : decode prog_9_method_9_code 111 = .ok (.iload 8, 2) := by decide +kernel
theorem d_M_nextKey_113 : decode prog_9_method_9_code 113 = .ok (.iaload, 1) := by decide +kernel
theorem d_M_nextKey_114 : decode prog_9_method_9_code 114 = .ok (.i2l, 1) := by decide +kernel
theorem d_M_nextKey_115 : decode prog_9_method_9_code 115 = .ok (.lload 6, 2) := by decide +kernel
theorem d_M_nextKey_117 : decode prog_9_method_9_code 117 = .ok (.lcmp, 1) := by decide +kernel
theorem d_M_nextKey_118 : decode prog_9_method_9_code 118 = .ok (.ifCond .ge 14, 3) := by decide +kernel
theorem d_M_nextKey_121 : decode prog_9_method_9_code 121 = .ok (.aload_n 0, 1) := by decide +kernel
theorem d_M_nextKey_122 : decode prog_9_method_9_code 122 = .ok (.getfield 54, 3) := by decide +kernel
theorem d_M_nextKey_125 : decode prog_9_method_9_code 125 = .ok (.iload 8, 2) := by decide +kernel
theorem d_M_nextKey_127 : decode prog_9_method_9_code 127 = .ok (.iaload, 1) := by decide +kernel
theorem d_M_nextKey_128 : decode prog_9_method_9_code 128 = .ok (.i2l, 1) := by decide +kernel
theorem d_M_nextKey_129 : decode prog_9_method_9_code 129 = .ok (.goto 5, 3) := by decide +kernel
theorem d_M_nextKey_132 : decode prog_9_method_9_code 132 = .ok (.lload 6, 2) := by decide +kernel
theorem d_M_nextKey_134 : decode prog_9_method_9_code 134 = .ok (.lstore 6, 2) := by decide +kernel
theorem d_M_nextKey_136 : decode prog_9_method_9_code 136 = .ok (.iinc 8 1, 3) := by decide +kernel
theorem d_M_nextKey_139 : decode prog_9_method_9_code 139 = .ok (.goto (-55), 3) := by decide +kernel
theorem d_M_nextKey_142 : decode prog_9_method_9_code 142 = .ok (.lload 6, 2) := by decide +kernel
theorem d_M_nextKey_144 : decode prog_9_method_9_code 144 = .ok (.ldc2_w 101, 3) := by decide +kernel
theorem d_M_nextKey_147 : decode prog_9_method_9_code 147 = .ok (.lcmp, 1) := by decide +kernel
theorem d_M_nextKey_148 : decode prog_9_method_9_code 148 = .ok (.ifCond .ne 7, 3) := by decide +kernel
theorem d_M_nextKey_151 : decode prog_9_method_9_code 151 = .ok (.ldc2_w 101, 3) := by decide +kernel
theorem d_M_nextKey_154 : decode prog_9_method_9_code 154 = .ok (.lreturn, 1) := by decide +kernel
theorem d_M_nextKey_155 : decode prog_9_method_9_code 155 = .ok (.aload_n 0, 1) := by decide +kernel
theorem d_M_nextKey_156 : decode prog_9_method_9_code 156 = .ok (.iload_n 1, 1) := by decide +kernel
theorem d_M_nextKey_157 : decode prog_9_method_9_code 157 = .ok (.lload 6, 2) := by decide +kernel
theorem d_M_nextKey_159 : decode prog_9_method_9_code 159 = .ok (.l2i, 1) := by decide +kernel
theorem d_M_nextKey_160 : decode prog_9_method_9_code 160 = .ok (.invokevirtual 103, 3) := by decide +kernel
theorem d_M_nextKey_163 : decode prog_9_method_9_code 163 = .ok (.aload_n 0, 1) := by decide +kernel
theorem d_M_nextKey_164 : decode prog_9_method_9_code 164 = .ok (.getfield 87, 3) := by decide +kernel
theorem d_M_nextKey_167 : decode prog_9_method_9_code 167 = .ok (.ifCond .eq 6, 3) := by decide +kernel
theorem d_M_nextKey_170 : decode prog_9_method_9_code 170 = .ok (.lload 6, 2) := by decide +kernel
theorem d_M_nextKey_172 : decode prog_9_method_9_code 172 = .ok (.lreturn, 1) := by decide +kernel
theorem d_M_nextKey_173 : decode prog_9_method_9_code 173 = .ok (.lload 6, 2) := by decide +kernel
theorem d_M_nextKey_175 : decode prog_9_method_9_code 175 = .ok (.lconst 1, 1) := by decide +kernel
theorem d_M_nextKey_176 : decode prog_9_method_9_code 176 = .ok (.ladd, 1) := by decide +kernel
theorem d_M_nextKey_177 : decode prog_9_method_9_code 177 = .ok (.lstore 4, 2) := by decide +kernel
theorem d_M_nextKey_179 : decode prog_9_method_9_code 179 = .ok (.goto (-176), 3) := by decide +kernel
theorem d_M_key_0 : decode prog_9_method_20_code 0 = .ok (.aload_n 0, 1) := by decide +kernel
theorem d_M_key_1 : decode prog_9_method_20_code 1 = .ok (.iload_n 1, 1) := by decide +kernel
theorem d_M_key_2 : decode prog_9_method_20_code 2 = .ok (.invokevirtual 109, 3) := by decide +kernel
theorem d_M_key_5 : decode prog_9_method_20_code 5 = .ok (.ifCond .ne 5, 3) := by decide +kernel
theorem d_M_key_8 : decode prog_9_method_20_code 8 = .ok (.lconst 0, 1) := by decide +kernel
theorem d_M_key_9 : decode prog_9_method_20_code 9 = .ok (.lreturn, 1) := by decide +kernel
theorem d_M_key_10 : decode prog_9_method_20_code 10 = .ok (.aload_n 0, 1) := by decide +kernel
theorem d_M_key_11 : decode prog_9_method_20_code 11 = .ok (.iload_n 3, 1) := by decide +kernel
theorem d_M_key_12 : decode prog_9_method_20_code 12 = .ok (.ifCond .ge 7, 3) := by decide +kernel
theorem d_M_key_15 : decode prog_9_method_20_code 15 = .ok (.iconst 3, 1) := by decide +kernel
theorem d_M_key_16 : decode prog_9_method_20_code 16 = .ok (.goto 4, 3) := by decide +kernel
theorem d_M_key_19 : decode prog_9_method_20_code 19 = .ok (.iconst 0, 1) := by decide +kernel
theorem d_M_key_20 : decode prog_9_method_20_code 20 = .ok (.putfield 69, 3) := by decide +kernel
theorem d_M_key_23 : decode prog_9_method_20_code 23 = .ok (.aload_n 0, 1) := by decide +kernel
theorem d_M_key_24 : decode prog_9_method_20_code 24 = .ok (.getfield 69, 3) := by decide +kernel
theorem d_M_key_27 : decode prog_9_method_20_code 27 = .ok (.ifCond .le 5, 3) := by decide +kernel
theorem d_M_key_30 : decode prog_9_method_20_code 30 = .ok (.lconst 0, 1) := by decide +kernel
theorem d_M_key_31 : decode prog_9_method_20_code 31 = .ok (.lreturn, 1) := by decide +kernel
theorem d_M_key_32 : decode prog_9_method_20_code 32 = .ok (.aload_n 0, 1) := by decide +kernel
theorem d_M_key_33 : decode prog_9_method_20_code 33 = .ok (.iload_n 1, 1) := by decide +kernel
theorem d_M_key_34 : decode prog_9_method_20_code 34 = .ok (.iload_n 2, 1) := by decide +kernel
theorem d_M_key_35 : decode prog_9_method_20_code 35 = .ok (.i2l, 1) := by decide +kernel
theorem d_M_key_36 : decode prog_9_method_20_code 36 = .ok (.invokevirtual 124, 3) := by decide +kernel
theorem d_M_key_39 : decode prog_9_method_20_code 39 = .ok (.lstore 4, 2) := by decide +kernel
theorem d_M_key_41 : decode prog_9_method_20_code 41 = .ok (.iconst 0, 1) := by decide +kernel
theorem d_M_key_42 : decode prog_9_method_20_code 42 = .ok (.istore 6, 2) := by decide +kernel
theorem d_M_key_44 : decode prog_9_method_20_code 44 = .ok (.iload 6, 2) := by decide +kernel
theorem d_M_key_46 : decode prog_9_method_20_code 46 = .ok (.iload_n 3, 1) := by decide +kernel
theorem d_M_key_47 : decode prog_9_method_20_code 47 = .ok (.if_icmp .ge 29, 3) := by decide +kernel
theorem d_M_key_50 : decode prog_9_method_20_code 50 = .ok (.lload 4, 2) := by decide +kernel
theorem d_M_key_52 : decode prog_9_method_20_code 52 = .ok (.ldc2_w 101, 3) := by decide +kernel
theorem d_M_key_55 : decode prog_9_method_20_code 55 = .ok (.lcmp, 1) := by decide +kernel
theorem d_M_key_56 : decode prog_9_method_20_code 56 = .ok (.ifCond .eq 20, 3) := by decide +kernel
theorem d_M_key_59 : decode prog_9_method_20_code 59 = .ok (.aload_n 0, 1) := by decide +kernel
theorem d_M_key_60 : decode prog_9_method_20_code 60 = .ok (.iload_n 1, 1) := by decide +kernel
theorem d_M_key_61 : decode prog_9_method_20_code 61 = .ok (.lload 4, 2) := by decide +kernel
theorem d_M_key_63 : decode prog_9_method_20_code 63 = .ok (.lconst 1, 1) := by decide +kernel
theorem d_M_key_64 : decode prog_9_method_20_code 64 = .ok (.ladd, 1) := by decide +kernel
theorem d_M_key_65 : decode prog_9_method_20_code 65 = .ok (.invokevirtual 124, 3) := by decide +kernel
theorem d_M_key_68 : decode prog_9_method_20_code 68 = .ok (.lstore 4, 2) := by decide +kernel
theorem d_M_key_70 : decode prog_9_method_20_code 70 = .ok (.iinc 6 1, 3) := by decide +kernel
theorem d_M_key_73 : decode prog_9_method_20_code 73 = .ok (.goto (-29), 3) := by decide +kernel
theorem d_M_key_76 : decode prog_9_method_20_code 76 = .ok (.aload_n 0, 1) := by decide +kernel
theorem d_M_key_77 : decode prog_9_method_20_code 77 = .ok (.iload_n 1, 1) := by decide +kernel
theorem d_M_key_78 : decode prog_9_method_20_code 78 = .ok (.iload_n 2, 1) := by decide +kernel
theorem d_M_key_79 : decode prog_9_method_20_code 79 = .ok (.lload 4, 2) := by decide +kernel
theorem d_M_key_81 : decode prog_9_method_20_code 81 = .ok (.ldc2_w 101, 3) := by decide +kernel
theorem d_M_key_84 : decode prog_9_method_20_code 84 = .ok (.lcmp, 1) := by decide +kernel
theorem d_M_key_85 : decode prog_9_method_20_code 85 = .ok (.ifCond .ne 8, 3) := by decide +kernel
theorem d_M_key_88 : decode prog_9_method_20_code 88 = .ok (.ldc 128, 2) := by decide +kernel
theorem d_M_key_90 : decode prog_9_method_20_code 90 = .ok (.goto 6, 3) := by decide +kernel
theorem d_M_key_93 : decode prog_9_method_20_code 93 = .ok (.lload 4, 2) := by decide +kernel
theorem d_M_key_95 : decode prog_9_method_20_code 95 = .ok (.l2i, 1) := by decide +kernel
theorem d_M_key_96 : decode prog_9_method_20_code 96 = .ok (.invokevirtual 112, 3) := by decide +kernel
theorem d_M_key_99 : decode prog_9_method_20_code 99 = .ok (.lload 4, 2) := by decide +kernel
theorem d_M_key_101 : decode prog_9_method_20_code 101 = .ok (.lreturn, 1) := by decide +kernel
theorem d_M_save_0 : decode prog_9_method_21_code 0 = .ok (.aload_n 0, 1) := by decide +kernel
theorem d_M_save_1 : decode prog_9_method_21_code 1 = .ok (.iload_n 1, 1) := by decide +kernel
theorem d_M_save_2 : decode prog_9_method_21_code 2 = .ok (.invokevirtual 109, 3) := by decide +kernel
theorem d_M_save_5 : decode prog_9_method_21_code 5 = .ok (.ifCond .ne 5, 3) := by decide +kernel
theorem d_M_save_8 : decode prog_9_method_21_code 8 = .ok (.iconst 0, 1) := by decide +kernel
theorem d_M_save_9 : decode prog_9_method_21_code 9 = .ok (.ireturn, 1) := by decide +kernel
theorem d_M_save_10 : decode prog_9_method_21_code 10 = .ok (.aload_n 0, 1) := by decide +kernel
theorem d_M_save_11 : decode prog_9_method_21_code 11 = .ok (.aload_n 0, 1) := by decide +kernel
theorem d_M_save_12 : decode prog_9_method_21_code 12 = .ok (.getfield 39, 3) := by decide +kernel
theorem d_M_save_15 : decode prog_9_method_21_code 15 = .ok (.iload_n 1, 1) := by decide +kernel
theorem d_M_save_16 : decode prog_9_method_21_code 16 = .ok (.iaload, 1) := by decide +kernel
theorem d_M_save_17 : decode prog_9_method_21_code 17 = .ok (.bipush 20, 2) := by decide +kernel
theorem d_M_save_19 : decode prog_9_method_21_code 19 = .ok (.if_icmp .ne 7, 3) := by decide +kernel
theorem d_M_save_22 : decode prog_9_method_21_code 22 = .ok (.iconst 2, 1) := by decide +kernel
theorem d_M_save_23 : decode prog_9_method_21_code 23 = .ok (.goto 4, 3) := by decide +kernel
theorem d_M_save_26 : decode prog_9_method_21_code 26 = .ok (.iconst 0, 1) := by decide +kernel
theorem d_M_save_27 : decode prog_9_method_21_code 27 = .ok (.putfield 69, 3) := by decide +kernel
theorem d_M_save_30 : decode prog_9_method_21_code 30 = .ok (.aload_n 0, 1) := by decide +kernel
theorem d_M_save_31 : decode prog_9_method_21_code 31 = .ok (.getfield 69, 3) := by decide +kernel
theorem d_M_save_34 : decode prog_9_method_21_code 34 = .ok (.ifCond .le 5, 3) := by decide +kernel
theorem d_M_save_37 : decode prog_9_method_21_code 37 = .ok (.iconst 0, 1) := by decide +kernel
theorem d_M_save_38 : decode prog_9_method_21_code 38 = .ok (.ireturn, 1) := by decide +kernel
theorem d_M_save_39 : decode prog_9_method_21_code 39 = .ok (.aload_n 0, 1) := by decide +kernel
theorem d_M_save_40 : decode prog_9_method_21_code 40 = .ok (.getfield 42, 3) := by decide +kernel
theorem d_M_save_43 : decode prog_9_method_21_code 43 = .ok (.bipush 20, 2) := by decide +kernel
theorem d_M_save_45 : decode prog_9_method_21_code 45 = .ok (.iload_n 1, 1) := by decide +kernel
theorem d_M_save_46 : decode prog_9_method_21_code 46 = .ok (.imul, 1) := by decide +kernel
theorem d_M_save_47 : decode prog_9_method_21_code 47 = .ok (.aload_n 0, 1) := by decide +kernel
theorem d_M_save_48 : decode prog_9_method_21_code 48 = .ok (.getfield 39, 3) := by decide +kernel
theorem d_M_save_51 : decode prog_9_method_21_code 51 = .ok (.iload_n 1, 1) := by decide +kernel
theorem d_M_save_52 : decode prog_9_method_21_code 52 = .ok (.iaload, 1) := by decide +kernel
theorem d_M_save_53 : decode prog_9_method_21_code 53 = .ok (.iadd, 1) := by decide +kernel
theorem d_M_save_54 : decode prog_9_method_21_code 54 = .ok (.aload_n 0, 1) := by decide +kernel
theorem d_M_save_55 : decode prog_9_method_21_code 55 = .ok (.getfield 26, 3) := by decide +kernel
theorem d_M_save_58 : decode prog_9_method_21_code 58 = .ok (.iload_n 1, 1) := by decide +kernel
theorem d_M_save_59 : decode prog_9_method_21_code 59 = .ok (.iaload, 1) := by decide +kernel
theorem d_M_save_60 : decode prog_9_method_21_code 60 = .ok (.iastore, 1) := by decide +kernel
theorem d_M_save_61 : decode prog_9_method_21_code 61 = .ok (.aload_n 0, 1) := by decide +kernel
theorem d_M_save_62 : decode prog_9_method_21_code 62 = .ok (.getfield 39, 3) := by decide +kernel
theorem d_M_save_65 : decode prog_9_method_21_code 65 = .ok (.iload_n 1, 1) := by decide +kernel
theorem d_M_save_66 : decode prog_9_method_21_code 66 = .ok (.dup2, 1) := by decide +kernel
theorem d_M_save_67 : decode prog_9_method_21_code 67 = .ok (.iaload, 1) := by decide +kernel
theorem d_M_save_68 : decode prog_9_method_21_code 68 = .ok (.iconst 1, 1) := by decide +kernel
theorem d_M_save_69 : decode prog_9_method_21_code 69 = .ok (.iadd, 1) := by decide +kernel
theorem d_M_save_70 : decode prog_9_method_21_code 70 = .ok (.iastore, 1) := by decide +kernel
theorem d_M_save_71 : decode prog_9_method_21_code 71 = .ok (.aload_n 0, 1) := by decide +kernel
theorem d_M_save_72 : decode prog_9_method_21_code 72 = .ok (.getfield 39, 3) := by decide +kernel
theorem d_M_save_75 : decode prog_9_method_21_code 75 = .ok (.iload_n 1, 1) := by decide +kernel
theorem d_M_save_76 : decode prog_9_method_21_code 76 = .ok (.iaload, 1) := by decide +kernel
theorem d_M_save_77 : decode prog_9_method_21_code 77 = .ok (.iconst 1, 1) := by decide +kernel
theorem d_M_save_78 : decode prog_9_method_21_code 78 = .ok (.isub, 1) := by decide +kernel
theorem d_M_save_79 : decode prog_9_method_21_code 79 = .ok (.ireturn, 1) := by decide +kernel
