theorem d_M_back_0 : decode prog_9_method_22_code 0 = .ok (.aload_n 0, 1) := by decide +kernel
theorem d_M_back_1 : decode prog_9_method_22_code 1 = .ok (.iload_n 1, 1) := by decide +kernel
theorem d_M_back_2 : decode prog_9_method_22_code 2 = .ok (.invokevirtual 109, 3) := by decide +kernel
theorem d_M_back_5 : decode prog_9_method_22_code 5 = .ok (.ifCond .ne 5, 3) := by decide +kernel
theorem d_M_back_8 : decode prog_9_method_22_code 8 = .ok (.iconst 0, 1) := by decide +kernel
theorem d_M_back_9 : decode prog_9_method_22_code 9 = .ok (.ireturn, 1) := by decide +kernel
theorem d_M_back_10 : decode prog_9_method_22_code 10 = .ok (.aload_n 0, 1) := by decide +kernel
theorem d_M_back_11 : decode prog_9_method_22_code 11 = .ok (.iload_n 2, 1) := by decide +kernel
theorem d_M_back_12 : decode prog_9_method_22_code 12 = .ok (.ifCond .lt 13, 3) := by decide +kernel
theorem d_M_back_15 : decode prog_9_method_22_code 15 = .ok (.iload_n 2, 1) := by decide +kernel
theorem d_M_back_16 : decode prog_9_method_22_code 16 = .ok (.aload_n 0, 1) := by decide +kernel
theorem d_M_back_17 : decode prog_9_method_22_code 17 = .ok (.getfield 39, 3) := by decide +kernel
theorem d_M_back_20 : decode prog_9_method_22_code 20 = .ok (.iload_n 1, 1) := by decide +kernel
theorem d_M_back_21 : decode prog_9_method_22_code 21 = .ok (.iaload, 1) := by decide +kernel
theorem d_M_back_22 : decode prog_9_method_22_code 22 = .ok (.if_icmp .lt 7, 3) := by decide +kernel
theorem d_M_back_25 : decode prog_9_method_22_code 25 = .ok (.iconst 3, 1) := by decide +kernel
theorem d_M_back_26 : decode prog_9_method_22_code 26 = .ok (.goto 4, 3) := by decide +kernel
theorem d_M_back_29 : decode prog_9_method_22_code 29 = .ok (.iconst 0, 1) := by decide +kernel
theorem d_M_back_30 : decode prog_9_method_22_code 30 = .ok (.putfield 69, 3) := by decide +kernel
theorem d_M_back_33 : decode prog_9_method_22_code 33 = .ok (.aload_n 0, 1) := by decide +kernel
theorem d_M_back_34 : decode prog_9_method_22_code 34 = .ok (.getfield 69, 3) := by decide +kernel
theorem d_M_back_37 : decode prog_9_method_22_code 37 = .ok (.ifCond .le 5, 3) := by decide +kernel
theorem d_M_back_40 : decode prog_9_method_22_code 40 = .ok (.iconst 0, 1) := by decide +kernel
theorem d_M_back_41 : decode prog_9_method_22_code 41 = .ok (.ireturn, 1) := by decide +kernel
theorem d_M_back_42 : decode prog_9_method_22_code 42 = .ok (.aload_n 0, 1) := by decide +kernel
theorem d_M_back_43 : decode prog_9_method_22_code 43 = .ok (.getfield 26, 3) := by decide +kernel
theorem d_M_back_46 : decode prog_9_method_22_code 46 = .ok (.iload_n 1, 1) := by decide +kernel
theorem d_M_back_47 : decode prog_9_method_22_code 47 = .ok (.aload_n 0, 1) := by decide +kernel
theorem d_M_back_48 : decode prog_9_method_22_code 48 = .ok (.getfield 42, 3) := by decide +kernel
theorem d_M_back_51 : decode prog_9_method_22_code 51 = .ok (.bipush 20, 2) := by decide +kernel
theorem d_M_back_53 : decode prog_9_method_22_code 53 = .ok (.iload_n 1, 1) := by decide +kernel
theorem d_M_back_54 : decode prog_9_method_22_code 54 = .ok (.imul, 1) := by decide +kernel
theorem d_M_back_55 : decode prog_9_method_22_code 55 = .ok (.iload_n 2, 1) := by decide +kernel
theorem d_M_back_56 : decode prog_9_method_22_code 56 = .ok (.iadd, 1) := by decide +kernel
theorem d_M_back_57 : decode prog_9_method_22_code 57 = .ok (.iaload, 1) := by decide +kernel
theorem d_M_back_58 : decode prog_9_method_22_code 58 = .ok (.iastore, 1) := by decide +kernel
theorem d_M_back_59 : decode prog_9_method_22_code 59 = .ok (.aload_n 0, 1) := by decide +kernel
theorem d_M_back_60 : decode prog_9_method_22_code 60 = .ok (.getfield 39, 3) := by decide +kernel
theorem d_M_back_63 : decode prog_9_method_22_code 63 = .ok (.iload_n 1, 1) := by decide +kernel
theorem d_M_back_64 : decode prog_9_method_22_code 64 = .ok (.iload_n 2, 1) := by decide +kernel
theorem d_M_back_65 : decode prog_9_method_22_code 65 = .ok (.iconst 1, 1) := by decide +kernel
theorem d_M_back_66 : decode prog_9_method_22_code 66 = .ok (.iadd, 1) := by decide +kernel
theorem d_M_back_67 : decode prog_9_method_22_code 67 = .ok (.iastore, 1) := by decide +kernel
theorem d_M_back_68 : decode prog_9_method_22_code 68 = .ok (.aload_n 0, 1) := by decide +kernel
theorem d_M_back_69 : decode prog_9_method_22_code 69 = .ok (.iload_n 1, 1) := by decide +kernel
theorem d_M_back_70 : decode prog_9_method_22_code 70 = .ok (.invokevirtual 116, 3) := by decide +kernel
theorem d_M_back_73 : decode prog_9_method_22_code 73 = .ok (.ireturn, 1) := by decide +kernel
theorem d_M_commit_0 : decode prog_9_method_27_code 0 = .ok (.aload_n 0, 1) := by decide +kernel
theorem d_M_commit_1 : decode prog_9_method_27_code 1 = .ok (.iload_n 1, 1) := by decide +kernel
theorem d_M_commit_2 : decode prog_9_method_27_code 2 = .ok (.invokevirtual 109, 3) := by decide +kernel
theorem d_M_commit_5 : decode prog_9_method_27_code 5 = .ok (.ifCond .ne 5, 3) := by decide +kernel
theorem d_M_commit_8 : decode prog_9_method_27_code 8 = .ok (.iconst 0, 1) := by decide +kernel
theorem d_M_commit_9 : decode prog_9_method_27_code 9 = .ok (.ireturn, 1) := by decide +kernel
theorem d_M_commit_10 : decode prog_9_method_27_code 10 = .ok (.aload_n 0, 1) := by decide +kernel
theorem d_M_commit_11 : decode prog_9_method_27_code 11 = .ok (.iload_n 1, 1) := by decide +kernel
theorem d_M_commit_12 : decode prog_9_method_27_code 12 = .ok (.invokevirtual 136, 3) := by decide +kernel
theorem d_M_commit_15 : decode prog_9_method_27_code 15 = .ok (.ifCond .eq 7, 3) := by decide +kernel
theorem d_M_commit_18 : decode prog_9_method_27_code 18 = .ok (.iconst (-1), 1) := by decide +kernel
theorem d_M_commit_19 : decode prog_9_method_27_code 19 = .ok (.goto 26, 3) := by decide +kernel
theorem d_M_commit_22 : decode prog_9_method_27_code 22 = .ok (.aload_n 0, 1) := by decide +kernel
theorem d_M_commit_23 : decode prog_9_method_27_code 23 = .ok (.getfield 7, 3) := by decide +kernel
theorem d_M_commit_26 : decode prog_9_method_27_code 26 = .ok (.iload_n 1, 1) := by decide +kernel
theorem d_M_commit_27 : decode prog_9_method_27_code 27 = .ok (.baload, 1) := by decide +kernel
theorem d_M_commit_28 : decode prog_9_method_27_code 28 = .ok (.ifCond .eq 16, 3) := by decide +kernel
theorem d_M_commit_31 : decode prog_9_method_27_code 31 = .ok (.aload_n 0, 1) := by decide +kernel
theorem d_M_commit_32 : decode prog_9_method_27_code 32 = .ok (.iload_n 1, 1) := by decide +kernel
theorem d_M_commit_33 : decode prog_9_method_27_code 33 = .ok (.invokevirtual 139, 3) := by decide +kernel
theorem d_M_commit_36 : decode prog_9_method_27_code 36 = .ok (.ifCond .eq 8, 3) := by decide +kernel
theorem d_M_commit_39 : decode prog_9_method_27_code 39 = .ok (.bipush (-2), 2) := by decide +kernel
theorem d_M_commit_41 : decode prog_9_method_27_code 41 = .ok (.goto 4, 3) := by decide +kernel
theorem d_M_commit_44 : decode prog_9_method_27_code 44 = .ok (.iconst 0, 1) := by decide +kernel
theorem d_M_commit_45 : decode prog_9_method_27_code 45 = .ok (.istore_n 2, 1) := by decide +kernel
theorem d_M_commit_46 : decode prog_9_method_27_code 46 = .ok (.iload_n 2, 1) := by decide +kernel
theorem d_M_commit_47 : decode prog_9_method_27_code 47 = .ok (.ifCond .ge 19, 3) := by decide +kernel
theorem d_M_commit_50 : decode prog_9_method_27_code 50 = .ok (.aload_n 0, 1) := by decide +kernel
theorem d_M_commit_51 : decode prog_9_method_27_code 51 = .ok (.getfield 23, 3) := by decide +kernel
theorem d_M_commit_54 : decode prog_9_method_27_code 54 = .ok (.iload_n 1, 1) := by decide +kernel
theorem d_M_commit_55 : decode prog_9_method_27_code 55 = .ok (.iconst 0, 1) := by decide +kernel
theorem d_M_commit_56 : decode prog_9_method_27_code 56 = .ok (.bastore, 1) := by decide +kernel
theorem d_M_commit_57 : decode prog_9_method_27_code 57 = .ok (.aload_n 0, 1) := by decide +kernel
theorem d_M_commit_58 : decode prog_9_method_27_code 58 = .ok (.iload_n 1, 1) := by decide +kernel
theorem d_M_commit_59 : decode prog_9_method_27_code 59 = .ok (.iconst 2, 1) := by decide +kernel
theorem d_M_commit_60 : decode prog_9_method_27_code 60 = .ok (.invokevirtual 142, 3) := by decide +kernel
theorem d_M_commit_63 : decode prog_9_method_27_code 63 = .ok (.istore_n 3, 1) := by decide +kernel
theorem d_M_commit_64 : decode prog_9_method_27_code 64 = .ok (.iload_n 2, 1) := by decide +kernel
theorem d_M_commit_65 : decode prog_9_method_27_code 65 = .ok (.ireturn, 1) := by decide +kernel
theorem d_M_commit_66 : decode prog_9_method_27_code 66 = .ok (.aload_n 0, 1) := by decide +kernel
theorem d_M_commit_67 : decode prog_9_method_27_code 67 = .ok (.dup, 1) := by decide +kernel
theorem d_M_commit_68 : decode prog_9_method_27_code 68 = .ok (.getfield 106, 3) := by decide +kernel
theorem d_M_commit_71 : decode prog_9_method_27_code 71 = .ok (.iconst 1, 1) := by decide +kernel
theorem d_M_commit_72 : decode prog_9_method_27_code 72 = .ok (.iadd, 1) := by decide +kernel
theorem d_M_commit_73 : decode prog_9_method_27_code 73 = .ok (.putfield 106, 3) := by decide +kernel
theorem d_M_commit_76 : decode prog_9_method_27_code 76 = .ok (.aload_n 0, 1) := by decide +kernel
theorem d_M_commit_77 : decode prog_9_method_27_code 77 = .ok (.getfield 17, 3) := by decide +kernel
theorem d_M_commit_80 : decode prog_9_method_27_code 80 = .ok (.iload_n 1, 1) := by decide +kernel
theorem d_M_commit_81 : decode prog_9_method_27_code 81 = .ok (.aload_n 0, 1) := by decide +kernel
theorem d_M_commit_82 : decode prog_9_method_27_code 82 = .ok (.getfield 106, 3) := by decide +kernel
theorem d_M_commit_85 : decode prog_9_method_27_code 85 = .ok (.iastore, 1) := by decide +kernel
theorem d_M_commit_86 : decode prog_9_method_27_code 86 = .ok (.sipush 600, 3) := by decide +kernel
theorem d_M_commit_89 : decode prog_9_method_27_code 89 = .ok (.iload_n 1, 1) := by decide +kernel
theorem d_M_commit_90 : decode prog_9_method_27_code 90 = .ok (.imul, 1) := by decide +kernel
theorem d_M_commit_91 : decode prog_9_method_27_code 91 = .ok (.istore_n 3, 1) := by decide +kernel
theorem d_M_commit_92 : decode prog_9_method_27_code 92 = .ok (.iload_n 3, 1) := by decide +kernel
theorem d_M_commit_93 : decode prog_9_method_27_code 93 = .ok (.sipush 600, 3) := by decide +kernel
theorem d_M_commit_96 : decode prog_9_method_27_code 96 = .ok (.iload_n 1, 1) := by decide +kernel
theorem d_M_commit_97 : decode prog_9_method_27_code 97 = .ok (.imul, 1) := by decide +kernel
theorem d_M_commit_98 : decode prog_9_method_27_code 98 = .ok (.aload_n 0, 1) := by decide +kernel
theorem d_M_commit_99 : decode prog_9_method_27_code 99 = .ok (.getfield 26, 3) := by decide +kernel
theorem d_M_commit_102 : decode prog_9_method_27_code 102 = .ok (.iload_n 1, 1) := by decide +kernel
theorem d_M_commit_103 : decode prog_9_method_27_code 103 = .ok (.iaload, 1) := by decide +kernel
theorem d_M_commit_104 : decode prog_9_method_27_code 104 = .ok (.iadd, 1) := by decide +kernel
theorem d_M_commit_105 : decode prog_9_method_27_code 105 = .ok (.if_icmp .ge 92, 3) := by decide +kernel
theorem d_M_commit_108 : decode prog_9_method_27_code 108 = .ok (.aload_n 0, 1) := by decide +kernel
theorem d_M_commit_109 : decode prog_9_method_27_code 109 = .ok (.iload_n 1, 1) := by decide +kernel
theorem d_M_commit_110 : decode prog_9_method_27_code 110 = .ok (.aload_n 0, 1) := by decide +kernel
theorem d_M_commit_111 : decode prog_9_method_27_code 111 = .ok (.getfield 30, 3) := by decide +kernel
theorem d_M_commit_114 : decode prog_9_method_27_code 114 = .ok (.iload_n 3, 1) := by decide +kernel
theorem d_M_commit_115 : decode prog_9_method_27_code 115 = .ok (.iaload, 1) := by decide +kernel
theorem d_M_commit_116 : decode prog_9_method_27_code 116 = .ok (.invokevirtual 94, 3) := by decide +kernel
theorem d_M_commit_119 : decode prog_9_method_27_code 119 = .ok (.iload_n 3, 1) := by decide +kernel
theorem d_M_commit_120 : decode prog_9_method_27_code 120 = .ok (.if_icmp .ne 71, 3) := by decide +kernel
theorem d_M_commit_123 : decode prog_9_method_27_code 123 = .ok (.aload_n 0, 1) := by decide +kernel
theorem d_M_commit_124 : decode prog_9_method_27_code 124 = .ok (.getfield 54, 3) := by decide +kernel
theorem d_M_commit_127 : decode prog_9_method_27_code 127 = .ok (.aload_n 0, 1) := by decide +kernel
theorem d_M_commit_128 : decode prog_9_method_27_code 128 = .ok (.getfield 80, 3) := by decide +kernel
theorem d_M_commit_131 : decode prog_9_method_27_code 131 = .ok (.aload_n 0, 1) := by decide +kernel
theorem d_M_commit_132 : decode prog_9_method_27_code 132 = .ok (.getfield 30, 3) := by decide +kernel
theorem d_M_commit_135 : decode prog_9_method_27_code 135 = .ok (.iload_n 3, 1) := by decide +kernel
theorem d_M_commit_136 : decode prog_9_method_27_code 136 = .ok (.iaload, 1) := by decide +kernel
theorem d_M_commit_137 : decode prog_9_method_27_code 137 = .ok (.iastore, 1) := by decide +kernel
theorem d_M_commit_138 : decode prog_9_method_27_code 138 = .ok (.aload_n 0, 1) := by decide +kernel
theorem d_M_commit_139 : decode prog_9_method_27_code 139 = .ok (.getfield 57, 3) := by decide +kernel
theorem d_M_commit_142 : decode prog_9_method_27_code 142 = .ok (.aload_n 0, 1) := by decide +kernel
theorem d_M_commit_143 : decode prog_9_method_27_code 143 = .ok (.getfield 80, 3) := by decide +kernel
theorem d_M_commit_146 : decode prog_9_method_27_code 146 = .ok (.aload_n 0, 1) := by decide +kernel
theorem d_M_commit_147 : decode prog_9_method_27_code 147 = .ok (.getfield 106, 3) := by decide +kernel
theorem d_M_commit_150 : decode prog_9_method_27_code 150 = .ok (.iastore, 1) := by decide +kernel
theorem d_M_commit_151 : decode prog_9_method_27_code 151 = .ok (.aload_n 0, 1) := by decide +kernel
theorem d_M_commit_152 : decode prog_9_method_27_code 152 = .ok (.getfield 60, 3) := by decide +kernel
theorem d_M_commit_155 : decode prog_9_method_27_code 155 = .ok (.aload_n 0, 1) := by decide +kernel
theorem d_M_commit_156 : decode prog_9_method_27_code 156 = .ok (.getfield 80, 3) := by decide +kernel
theorem d_M_commit_159 : decode prog_9_method_27_code 159 = .ok (.aload_n 0, 1) := by decide +kernel
theorem d_M_commit_160 : decode prog_9_method_27_code 160 = .ok (.getfield 33, 3) := by decide +kernel
theorem d_M_commit_163 : decode prog_9_method_27_code 163 = .ok (.iload_n 3, 1) := by decide +kernel
theorem d_M_commit_164 : decode prog_9_method_27_code 164 = .ok (.iaload, 1) := by decide +kernel
theorem d_M_commit_165 : decode prog_9_method_27_code 165 = .ok (.iastore, 1) := by decide +kernel
theorem d_M_commit_166 : decode prog_9_method_27_code 166 = .ok (.aload_n 0, 1) := by decide +kernel
theorem d_M_commit_167 : decode prog_9_method_27_code 167 = .ok (.getfield 63, 3) := by decide +kernel
theorem d_M_commit_170 : decode prog_9_method_27_code 170 = .ok (.aload_n 0, 1) := by decide +kernel
theorem d_M_commit_171 : decode prog_9_method_27_code 171 = .ok (.getfield 80, 3) := by decide +kernel
theorem d_M_commit_174 : decode prog_9_method_27_code 174 = .ok (.aload_n 0, 1) := by decide +kernel
theorem d_M_commit_175 : decode prog_9_method_27_code 175 = .ok (.getfield 36, 3) := by decide +kernel
theorem d_M_commit_178 : decode prog_9_method_27_code 178 = .ok (.iload_n 3, 1) := by decide +kernel
theorem d_M_commit_179 : decode prog_9_method_27_code 179 = .ok (.baload, 1) := by decide +kernel
theorem d_M_commit_180 : decode prog_9_method_27_code 180 = .ok (.bastore, 1) := by decide +kernel
theorem d_M_commit_181 : decode prog_9_method_27_code 181 = .ok (.aload_n 0, 1) := by decide +kernel
theorem d_M_commit_182 : decode prog_9_method_27_code 182 = .ok (.dup, 1) := by decide +kernel
theorem d_M_commit_183 : decode prog_9_method_27_code 183 = .ok (.getfield 80, 3) := by decide +kernel
theorem d_M_commit_186 : decode prog_9_method_27_code 186 = .ok (.iconst 1, 1) := by decide +kernel
theorem d_M_commit_187 : decode prog_9_method_27_code 187 = .ok (.iadd, 1) := by decide +kernel
theorem d_M_commit_188 : decode prog_9_method_27_code 188 = .ok (.putfield 80, 3) := by decide +kernel
theorem d_M_commit_191 : decode prog_9_method_27_code 191 = .ok (.iinc 3 1, 3) := by decide +kernel
theorem d_M_commit_194 : decode prog_9_method_27_code 194 = .ok (.goto (-102), 3) := by decide +kernel
theorem d_M_commit_197 : decode prog_9_method_27_code 197 = .ok (.aload_n 0, 1) := by decide +kernel
theorem d_M_commit_198 : decode prog_9_method_27_code 198 = .ok (.iload_n 1, 1) := by decide +kernel
theorem d_M_commit_199 : decode prog_9_method_27_code 199 = .ok (.iconst 1, 1) := by decide +kernel
theorem d_M_commit_200 : decode prog_9_method_27_code 200 = .ok (.invokevirtual 142, 3) := by decide +kernel
theorem d_M_commit_203 : decode prog_9_method_27_code 203 = .ok (.istore_n 3, 1) := by decide +kernel
theorem d_M_commit_204 : decode prog_9_method_27_code 204 = .ok (.aload_n 0, 1) := by decide +kernel
theorem d_M_commit_205 : decode prog_9_method_27_code 205 = .ok (.getfield 106, 3) := by decide +kernel
theorem d_M_commit_208 : decode prog_9_method_27_code 208 = .ok (.ireturn, 1) := by decide +kernel
theorem d_M_conflicts_0 : decode prog_9_method_24_code 0 = .ok (.iconst 0, 1) := by decide +kernel
theorem d_M_conflicts_1 : decode prog_9_method_24_code 1 = .ok (.istore_n 2, 1) := by decide +kernel
theorem d_M_conflicts_2 : decode prog_9_method_24_code 2 = .ok (.sipush 600, 3) := by decide +kernel
theorem d_M_conflicts_5 : decode prog_9_method_24_code 5 = .ok (.iload_n 1, 1) := by decide +kernel
theorem d_M_conflicts_6 : decode prog_9_method_24_code 6 = .ok (.imul, 1) := by decide +kernel
theorem d_M_conflicts_7 : decode prog_9_method_24_code 7 = .ok (.istore_n 3, 1) := by decide +kernel
theorem d_M_conflicts_8 : decode prog_9_method_24_code 8 = .ok (.iload_n 3, 1) := by decide +kernel
theorem d_M_conflicts_9 : decode prog_9_method_24_code 9 = .ok (.sipush 600, 3) := by decide +kernel
theorem d_M_conflicts_12 : decode prog_9_method_24_code 12 = .ok (.iload_n 1, 1) := by decide +kernel
theorem d_M_conflicts_13 : decode prog_9_method_24_code 13 = .ok (.imul, 1) := by decide +kernel
theorem d_M_conflicts_14 : decode prog_9_method_24_code 14 = .ok (.aload_n 0, 1) := by decide +kernel
theorem d_M_conflicts_15 : decode prog_9_method_24_code 15 = .ok (.getfield 26, 3) := by decide +kernel
theorem d_M_conflicts_18 : decode prog_9_method_24_code 18 = .ok (.iload_n 1, 1) := by decide +kernel
theorem d_M_conflicts_19 : decode prog_9_method_24_code 19 = .ok (.iaload, 1) := by decide +kernel
theorem d_M_conflicts_20 : decode prog_9_method_24_code 20 = .ok (.iadd, 1) := by decide +kernel
theorem d_M_conflicts_21 : decode prog_9_method_24_code 21 = .ok (.if_icmp .ge 69, 3) := by decide +kernel
theorem d_M_conflicts_24 : decode prog_9_method_24_code 24 = .ok (.iconst 0, 1) := by decide +kernel
theorem d_M_conflicts_25 : decode prog_9_method_24_code 25 = .ok (.istore 4, 2) := by decide +kernel
theorem d_M_conflicts_27 : decode prog_9_method_24_code 27 = .ok (.iload 4, 2) := by decide +kernel
theorem d_M_conflicts_29 : decode prog_9_method_24_code 29 = .ok (.aload_n 0, 1) := by decide +kernel
theorem d_M_conflicts_30 : decode prog_9_method_24_code 30 = .ok (.getfield 80, 3) := by decide +kernel
theorem d_M_conflicts_33 : decode prog_9_method_24_code 33 = .ok (.if_icmp .ge 51, 3) := by decide +kernel
theorem d_M_conflicts_36 : decode prog_9_method_24_code 36 = .ok (.iload_n 2, 1) := by decide +kernel
theorem d_M_conflicts_37 : decode prog_9_method_24_code 37 = .ok (.ifCond .ne 35, 3) := by decide +kernel
theorem d_M_conflicts_40 : decode prog_9_method_24_code 40 = .ok (.aload_n 0, 1) := by decide +kernel
theorem d_M_conflicts_41 : decode prog_9_method_24_code 41 = .ok (.getfield 54, 3) := by decide +kernel
theorem d_M_conflicts_44 : decode prog_9_method_24_code 44 = .ok (.iload 4, 2) := by decide +kernel
theorem d_M_conflicts_46 : decode prog_9_method_24_code 46 = .ok (.iaload, 1) := by decide +kernel
theorem d_M_conflicts_47 : decode prog_9_method_24_code 47 = .ok (.aload_n 0, 1) := by decide +kernel
theorem d_M_conflicts_48 : decode prog_9_method_24_code 48 = .ok (.getfield 30, 3) := by decide +kernel
theorem d_M_conflicts_51 : decode prog_9_method_24_code 51 = .ok (.iload_n 3, 1) := by decide +kernel
theorem d_M_conflicts_52 : decode prog_9_method_24_code 52 = .ok (.iaload, 1) := by decide +kernel
theorem d_M_conflicts_53 : decode prog_9_method_24_code 53 = .ok (.if_icmp .ne 23, 3) := by decide +kernel
theorem d_M_conflicts_56 : decode prog_9_method_24_code 56 = .ok (.aload_n 0, 1) := by decide +kernel
theorem d_M_conflicts_57 : decode prog_9_method_24_code 57 = .ok (.getfield 57, 3) := by decide +kernel
theorem d_M_conflicts_60 : decode prog_9_method_24_code 60 = .ok (.iload 4, 2) := by decide +kernel
theorem d_M_conflicts_62 : decode prog_9_method_24_code 62 = .ok (.iaload, 1) := by decide +kernel
theorem d_M_conflicts_63 : decode prog_9_method_24_code 63 = .ok (.aload_n 0, 1) := by decide +kernel
theorem d_M_conflicts_64 : decode prog_9_method_24_code 64 = .ok (.getfield 13, 3) := by decide +kernel
theorem d_M_conflicts_67 : decode prog_9_method_24_code 67 = .ok (.iload_n 1, 1) := by decide +kernel
theorem d_M_conflicts_68 : decode prog_9_method_24_code 68 = .ok (.iaload, 1) := by decide +kernel
theorem d_M_conflicts_69 : decode prog_9_method_24_code 69 = .ok (.if_icmp .le 7, 3) := by decide +kernel
theorem d_M_conflicts_72 : decode prog_9_method_24_code 72 = .ok (.iconst 1, 1) := by decide +kernel
theorem d_M_conflicts_73 : decode prog_9_method_24_code 73 = .ok (.goto 4, 3) := by decide +kernel
theorem d_M_conflicts_76 : decode prog_9_method_24_code 76 = .ok (.iconst 0, 1) := by decide +kernel
theorem d_M_conflicts_77 : decode prog_9_method_24_code 77 = .ok (.istore_n 2, 1) := by decide +kernel
theorem d_M_conflicts_78 : decode prog_9_method_24_code 78 = .ok (.iinc 4 1, 3) := by decide +kernel
theorem d_M_conflicts_81 : decode prog_9_method_24_code 81 = .ok (.goto (-54), 3) := by decide +kernel
theorem d_M_conflicts_84 : decode prog_9_method_24_code 84 = .ok (.iinc 3 1, 3) := by decide +kernel
theorem d_M_conflicts_87 : decode prog_9_method_24_code 87 = .ok (.goto (-79), 3) := by decide +kernel
theorem d_M_conflicts_90 : decode prog_9_method_24_code 90 = .ok (.iload_n 2, 1) := by decide +kernel
theorem d_M_conflicts_91 : decode prog_9_method_24_code 91 = .ok (.ireturn, 1) := by decide +kernel
theorem d_M_isUnsafe_0 : decode prog_9_method_25_code 0 = .ok (.iconst 0, 1) := by decide +kernel
theorem d_M_isUnsafe_1 : decode prog_9_method_25_code 1 = .ok (.istore_n 2, 1) := by decide +kernel
theorem d_M_isUnsafe_2 : decode prog_9_method_25_code 2 = .ok (.iconst 0, 1) := by decide +kernel
theorem d_M_isUnsafe_3 : decode prog_9_method_25_code 3 = .ok (.istore_n 3, 1) := by decide +kernel
theorem d_M_isUnsafe_4 : decode prog_9_method_25_code 4 = .ok (.iconst 0, 1) := by decide +kernel
theorem d_M_isUnsafe_5 : decode prog_9_method_25_code 5 = .ok (.istore 4, 2) := by decide +kernel
theorem d_M_isUnsafe_7 : decode prog_9_method_25_code 7 = .ok (.iconst 0, 1) := by decide +kernel
theorem d_M_isUnsafe_8 : decode prog_9_method_25_code 8 = .ok (.istore 5, 2) := by decide +kernel
theorem d_M_isUnsafe_10 : decode prog_9_method_25_code 10 = .ok (.iload 5, 2) := by decide +kernel
theorem d_M_isUnsafe_12 : decode prog_9_method_25_code 12 = .ok (.aload_n 0, 1) := by decide +kernel
theorem d_M_isUnsafe_13 : decode prog_9_method_25_code 13 = .ok (.getfield 73, 3) := by decide +kernel
theorem d_M_isUnsafe_16 : decode prog_9_method_25_code 16 = .ok (.if_icmp .ge 144, 3) := by decide +kernel
theorem d_M_isUnsafe_19 : decode prog_9_method_25_code 19 = .ok (.iload 5, 2) := by decide +kernel
theorem d_M_isUnsafe_21 : decode prog_9_method_25_code 21 = .ok (.iload_n 1, 1) := by decide +kernel
theorem d_M_isUnsafe_22 : decode prog_9_method_25_code 22 = .ok (.if_icmp .eq 132, 3) := by decide +kernel
theorem d_M_isUnsafe_25 : decode prog_9_method_25_code 25 = .ok (.aload_n 0, 1) := by decide +kernel
theorem d_M_isUnsafe_26 : decode prog_9_method_25_code 26 = .ok (.getfield 7, 3) := by decide +kernel
theorem d_M_isUnsafe_29 : decode prog_9_method_25_code 29 = .ok (.iload 5, 2) := by decide +kernel
theorem d_M_isUnsafe_31 : decode prog_9_method_25_code 31 = .ok (.baload, 1) := by decide +kernel
theorem d_M_isUnsafe_32 : decode prog_9_method_25_code 32 = .ok (.ifCond .eq 122, 3) := by decide +kernel
theorem d_M_isUnsafe_35 : decode prog_9_method_25_code 35 = .ok (.aload_n 0, 1) := by decide +kernel
theorem d_M_isUnsafe_36 : decode prog_9_method_25_code 36 = .ok (.iload 5, 2) := by decide +kernel
theorem d_M_isUnsafe_38 : decode prog_9_method_25_code 38 = .ok (.aload_n 0, 1) := by decide +kernel
theorem d_M_isUnsafe_39 : decode prog_9_method_25_code 39 = .ok (.getfield 13, 3) := by decide +kernel
theorem d_M_isUnsafe_42 : decode prog_9_method_25_code 42 = .ok (.iload_n 1, 1) := by decide +kernel
theorem d_M_isUnsafe_43 : decode prog_9_method_25_code 43 = .ok (.iaload, 1) := by decide +kernel
theorem d_M_isUnsafe_44 : decode prog_9_method_25_code 44 = .ok (.invokevirtual 129, 3) := by decide +kernel
theorem d_M_isUnsafe_47 : decode prog_9_method_25_code 47 = .ok (.ifCond .eq 17, 3) := by decide +kernel
theorem d_M_isUnsafe_50 : decode prog_9_method_25_code 50 = .ok (.aload_n 0, 1) := by decide +kernel
theorem d_M_isUnsafe_51 : decode prog_9_method_25_code 51 = .ok (.iload_n 1, 1) := by decide +kernel
theorem d_M_isUnsafe_52 : decode prog_9_method_25_code 52 = .ok (.iload 5, 2) := by decide +kernel
theorem d_M_isUnsafe_54 : decode prog_9_method_25_code 54 = .ok (.invokevirtual 133, 3) := by decide +kernel
theorem d_M_isUnsafe_57 : decode prog_9_method_25_code 57 = .ok (.ifCond .eq 7, 3) := by decide +kernel
theorem d_M_isUnsafe_60 : decode prog_9_method_25_code 60 = .ok (.iconst 1, 1) := by decide +kernel
theorem d_M_isUnsafe_61 : decode prog_9_method_25_code 61 = .ok (.goto 4, 3) := by decide +kernel
theorem d_M_isUnsafe_64 : decode prog_9_method_25_code 64 = .ok (.iconst 0, 1) := by decide +kernel
theorem d_M_isUnsafe_65 : decode prog_9_method_25_code 65 = .ok (.istore 6, 2) := by decide +kernel
theorem d_M_isUnsafe_67 : decode prog_9_method_25_code 67 = .ok (.iload_n 2, 1) := by decide +kernel
theorem d_M_isUnsafe_68 : decode prog_9_method_25_code 68 = .ok (.ifCond .ne 8, 3) := by decide +kernel
theorem d_M_isUnsafe_71 : decode prog_9_method_25_code 71 = .ok (.iload 6, 2) := by decide +kernel
theorem d_M_isUnsafe_73 : decode prog_9_method_25_code 73 = .ok (.ifCond .eq 7, 3) := by decide +kernel
theorem d_M_isUnsafe_76 : decode prog_9_method_25_code 76 = .ok (.iconst 1, 1) := by decide +kernel
theorem d_M_isUnsafe_77 : decode prog_9_method_25_code 77 = .ok (.goto 4, 3) := by decide +kernel
theorem d_M_isUnsafe_80 : decode prog_9_method_25_code 80 = .ok (.iconst 0, 1) := by decide +kernel
theorem d_M_isUnsafe_81 : decode prog_9_method_25_code 81 = .ok (.istore_n 2, 1) := by decide +kernel
theorem d_M_isUnsafe_82 : decode prog_9_method_25_code 82 = .ok (.iload 4, 2) := by decide +kernel
theorem d_M_isUnsafe_84 : decode prog_9_method_25_code 84 = .ok (.ifCond .ne 18, 3) := by decide +kernel
theorem d_M_isUnsafe_87 : decode prog_9_method_25_code 87 = .ok (.iload 6, 2) := by decide +kernel
theorem d_M_isUnsafe_89 : decode prog_9_method_25_code 89 = .ok (.ifCond .eq 17, 3) := by decide +kernel
theorem d_M_isUnsafe_92 : decode prog_9_method_25_code 92 = .ok (.aload_n 0, 1) := by decide +kernel
theorem d_M_isUnsafe_93 : decode prog_9_method_25_code 93 = .ok (.getfield 23, 3) := by decide +kernel
theorem d_M_isUnsafe_96 : decode prog_9_method_25_code 96 = .ok (.iload 5, 2) := by decide +kernel
theorem d_M_isUnsafe_98 : decode prog_9_method_25_code 98 = .ok (.baload, 1) := by decide +kernel
theorem d_M_isUnsafe_99 : decode prog_9_method_25_code 99 = .ok (.ifCond .eq 7, 3) := by decide +kernel
theorem d_M_isUnsafe_102 : decode prog_9_method_25_code 102 = .ok (.iconst 1, 1) := by decide +kernel
theorem d_M_isUnsafe_103 : decode prog_9_method_25_code 103 = .ok (.goto 4, 3) := by decide +kernel
theorem d_M_isUnsafe_106 : decode prog_9_method_25_code 106 = .ok (.iconst 0, 1) := by decide +kernel
theorem d_M_isUnsafe_107 : decode prog_9_method_25_code 107 = .ok (.istore 4, 2) := by decide +kernel
theorem d_M_isUnsafe_109 : decode prog_9_method_25_code 109 = .ok (.iload_n 3, 1) := by decide +kernel
theorem d_M_isUnsafe_110 : decode prog_9_method_25_code 110 = .ok (.ifCond .ne 38, 3) := by decide +kernel
theorem d_M_isUnsafe_113 : decode prog_9_method_25_code 113 = .ok (.aload_n 0, 1) := by decide +kernel
theorem d_M_isUnsafe_114 : decode prog_9_method_25_code 114 = .ok (.getfield 20, 3) := by decide +kernel
theorem d_M_isUnsafe_117 : decode prog_9_method_25_code 117 = .ok (.iload 5, 2) := by decide +kernel
theorem d_M_isUnsafe_119 : decode prog_9_method_25_code 119 = .ok (.iaload, 1) := by decide +kernel
theorem d_M_isUnsafe_120 : decode prog_9_method_25_code 120 = .ok (.ifCond .eq 18, 3) := by decide +kernel
theorem d_M_isUnsafe_123 : decode prog_9_method_25_code 123 = .ok (.aload_n 0, 1) := by decide +kernel
theorem d_M_isUnsafe_124 : decode prog_9_method_25_code 124 = .ok (.iload 5, 2) := by decide +kernel
theorem d_M_isUnsafe_126 : decode prog_9_method_25_code 126 = .ok (.aload_n 0, 1) := by decide +kernel
theorem d_M_isUnsafe_127 : decode prog_9_method_25_code 127 = .ok (.getfield 13, 3) := by decide +kernel
theorem d_M_isUnsafe_130 : decode prog_9_method_25_code 130 = .ok (.iload_n 1, 1) := by decide +kernel
theorem d_M_isUnsafe_131 : decode prog_9_method_25_code 131 = .ok (.iaload, 1) := by decide +kernel
theorem d_M_isUnsafe_132 : decode prog_9_method_25_code 132 = .ok (.invokevirtual 129, 3) := by decide +kernel
theorem d_M_isUnsafe_135 : decode prog_9_method_25_code 135 = .ok (.ifCond .eq 17, 3) := by decide +kernel
theorem d_M_isUnsafe_138 : decode prog_9_method_25_code 138 = .ok (.aload_n 0, 1) := by decide +kernel
theorem d_M_isUnsafe_139 : decode prog_9_method_25_code 139 = .ok (.iload 5, 2) := by decide +kernel
theorem d_M_isUnsafe_141 : decode prog_9_method_25_code 141 = .ok (.iload_n 1, 1) := by decide +kernel
theorem d_M_isUnsafe_142 : decode prog_9_method_25_code 142 = .ok (.invokevirtual 133, 3) := by decide +kernel
theorem d_M_isUnsafe_145 : decode prog_9_method_25_code 145 = .ok (.ifCond .eq 7, 3) := by decide +kernel
theorem d_M_isUnsafe_148 : decode prog_9_method_25_code 148 = .ok (.iconst 1, 1) := by decide +kernel
theorem d_M_isUnsafe_149 : decode prog_9_method_25_code 149 = .ok (.goto 4, 3) := by decide +kernel
theorem d_M_isUnsafe_152 : decode prog_9_method_25_code 152 = .ok (.iconst 0, 1) := by decide +kernel
theorem d_M_isUnsafe_153 : decode prog_9_method_25_code 153 = .ok (.istore_n 3, 1) := by decide +kernel
theorem d_M_isUnsafe_154 : decode prog_9_method_25_code 154 = .ok (.iinc 5 1, 3) := by decide +kernel
theorem d_M_isUnsafe_157 : decode prog_9_method_25_code 157 = .ok (.goto (-147), 3) := by decide +kernel
theorem d_M_isUnsafe_160 : decode prog_9_method_25_code 160 = .ok (.aload_n 0, 1) := by decide +kernel
theorem d_M_isUnsafe_161 : decode prog_9_method_25_code 161 = .ok (.getfield 23, 3) := by decide +kernel
theorem d_M_isUnsafe_164 : decode prog_9_method_25_code 164 = .ok (.iload_n 1, 1) := by decide +kernel
theorem d_M_isUnsafe_165 : decode prog_9_method_25_code 165 = .ok (.iload_n 2, 1) := by decide +kernel
theorem d_M_isUnsafe_166 : decode prog_9_method_25_code 166 = .ok (.bastore, 1) := by decide +kernel
theorem d_M_isUnsafe_167 : decode prog_9_method_25_code 167 = .ok (.iload 4, 2) := by decide +kernel
theorem d_M_isUnsafe_169 : decode prog_9_method_25_code 169 = .ok (.ifCond .ne 11, 3) := by decide +kernel
theorem d_M_isUnsafe_172 : decode prog_9_method_25_code 172 = .ok (.iload_n 2, 1) := by decide +kernel
theorem d_M_isUnsafe_173 : decode prog_9_method_25_code 173 = .ok (.ifCond .eq 11, 3) := by decide +kernel
theorem d_M_isUnsafe_176 : decode prog_9_method_25_code 176 = .ok (.iload_n 3, 1) := by decide +kernel
theorem d_M_isUnsafe_177 : decode prog_9_method_25_code 177 = .ok (.ifCond .eq 7, 3) := by decide +kernel
theorem d_M_isUnsafe_180 : decode prog_9_method_25_code 180 = .ok (.iconst 1, 1) := by decide +kernel
theorem d_M_isUnsafe_181 : decode prog_9_method_25_code 181 = .ok (.goto 4, 3) := by decide +kernel
theorem d_M_isUnsafe_184 : decode prog_9_method_25_code 184 = .ok (.iconst 0, 1) := by decide +kernel
theorem d_M_isUnsafe_185 : decode prog_9_method_25_code 185 = .ok (.ireturn, 1) := by decide +kernel
theorem d_M_isLater_0 : decode prog_9_method_23_code 0 = .ok (.aload_n 0, 1) := by decide +kernel
theorem d_M_isLater_1 : decode prog_9_method_23_code 1 = .ok (.getfield 20, 3) := by decide +kernel
theorem d_M_isLater_4 : decode prog_9_method_23_code 4 = .ok (.iload_n 1, 1) := by decide +kernel
theorem d_M_isLater_5 : decode prog_9_method_23_code 5 = .ok (.iaload, 1) := by decide +kernel
theorem d_M_isLater_6 : decode prog_9_method_23_code 6 = .ok (.iconst 1, 1) := by decide +kernel
theorem d_M_isLater_7 : decode prog_9_method_23_code 7 = .ok (.if_icmp .ne 17, 3) := by decide +kernel
theorem d_M_isLater_10 : decode prog_9_method_23_code 10 = .ok (.aload_n 0, 1) := by decide +kernel
theorem d_M_isLater_11 : decode prog_9_method_23_code 11 = .ok (.getfield 17, 3) := by decide +kernel
theorem d_M_isLater_14 : decode prog_9_method_23_code 14 = .ok (.iload_n 1, 1) := by decide +kernel
theorem d_M_isLater_15 : decode prog_9_method_23_code 15 = .ok (.iaload, 1) := by decide +kernel
theorem d_M_isLater_16 : decode prog_9_method_23_code 16 = .ok (.iload_n 2, 1) := by decide +kernel
theorem d_M_isLater_17 : decode prog_9_method_23_code 17 = .ok (.if_icmp .le 7, 3) := by decide +kernel
theorem d_M_isLater_20 : decode prog_9_method_23_code 20 = .ok (.iconst 1, 1) := by decide +kernel
theorem d_M_isLater_21 : decode prog_9_method_23_code 21 = .ok (.goto 4, 3) := by decide +kernel
theorem d_M_isLater_24 : decode prog_9_method_23_code 24 = .ok (.iconst 0, 1) := by decide +kernel
theorem d_M_isLater_25 : decode prog_9_method_23_code 25 = .ok (.ireturn, 1) := by decide +kernel
theorem d_M_hasRead_0 : decode prog_9_method_11_code 0 = .ok (.iconst 0, 1) := by decide +kernel
theorem d_M_hasRead_1 : decode prog_9_method_11_code 1 = .ok (.istore_n 3, 1) := by decide +kernel
theorem d_M_hasRead_2 : decode prog_9_method_11_code 2 = .ok (.sipush 600, 3) := by decide +kernel
theorem d_M_hasRead_5 : decode prog_9_method_11_code 5 = .ok (.iload_n 2, 1) := by decide +kernel
theorem d_M_hasRead_6 : decode prog_9_method_11_code 6 = .ok (.imul, 1) := by decide +kernel
theorem d_M_hasRead_7 : decode prog_9_method_11_code 7 = .ok (.istore 4, 2) := by decide +kernel
theorem d_M_hasRead_9 : decode prog_9_method_11_code 9 = .ok (.iload 4, 2) := by decide +kernel
theorem d_M_hasRead_11 : decode prog_9_method_11_code 11 = .ok (.sipush 600, 3) := by decide +kernel
theorem d_M_hasRead_14 : decode prog_9_method_11_code 14 = .ok (.iload_n 2, 1) := by decide +kernel
theorem d_M_hasRead_15 : decode prog_9_method_11_code 15 = .ok (.imul, 1) := by decide +kernel
theorem d_M_hasRead_16 : decode prog_9_method_11_code 16 = .ok (.aload_n 0, 1) := by decide +kernel
theorem d_M_hasRead_17 : decode prog_9_method_11_code 17 = .ok (.getfield 26, 3) := by decide +kernel
theorem d_M_hasRead_20 : decode prog_9_method_11_code 20 = .ok (.iload_n 2, 1) := by decide +kernel
theorem d_M_hasRead_21 : decode prog_9_method_11_code 21 = .ok (.iaload, 1) := by decide +kernel
theorem d_M_hasRead_22 : decode prog_9_method_11_code 22 = .ok (.iadd, 1) := by decide +kernel
theorem d_M_hasRead_23 : decode prog_9_method_11_code 23 = .ok (.if_icmp .ge 83, 3) := by decide +kernel
theorem d_M_hasRead_26 : decode prog_9_method_11_code 26 = .ok (.sipush 600, 3) := by decide +kernel
theorem d_M_hasRead_29 : decode prog_9_method_11_code 29 = .ok (.iload_n 1, 1) := by decide +kernel
theorem d_M_hasRead_30 : decode prog_9_method_11_code 30 = .ok (.imul, 1) := by decide +kernel
theorem d_M_hasRead_31 : decode prog_9_method_11_code 31 = .ok (.istore 5, 2) := by decide +kernel
theorem d_M_hasRead_33 : decode prog_9_method_11_code 33 = .ok (.iload 5, 2) := by decide +kernel
theorem d_M_hasRead_35 : decode prog_9_method_11_code 35 = .ok (.sipush 600, 3) := by decide +kernel
theorem d_M_hasRead_38 : decode prog_9_method_11_code 38 = .ok (.iload_n 1, 1) := by decide +kernel
theorem d_M_hasRead_39 : decode prog_9_method_11_code 39 = .ok (.imul, 1) := by decide +kernel
theorem d_M_hasRead_40 : decode prog_9_method_11_code 40 = .ok (.aload_n 0, 1) := by decide +kernel
theorem d_M_hasRead_41 : decode prog_9_method_11_code 41 = .ok (.getfield 45, 3) := by decide +kernel
theorem d_M_hasRead_44 : decode prog_9_method_11_code 44 = .ok (.iload_n 1, 1) := by decide +kernel
theorem d_M_hasRead_45 : decode prog_9_method_11_code 45 = .ok (.iaload, 1) := by decide +kernel
theorem d_M_hasRead_46 : decode prog_9_method_11_code 46 = .ok (.iadd, 1) := by decide +kernel
theorem d_M_hasRead_47 : decode prog_9_method_11_code 47 = .ok (.if_icmp .ge 53, 3) := by decide +kernel
theorem d_M_hasRead_50 : decode prog_9_method_11_code 50 = .ok (.iload_n 3, 1) := by decide +kernel
theorem d_M_hasRead_51 : decode prog_9_method_11_code 51 = .ok (.ifCond .ne 37, 3) := by decide +kernel
theorem d_M_hasRead_54 : decode prog_9_method_11_code 54 = .ok (.aload_n 0, 1) := by decide +kernel
theorem d_M_hasRead_55 : decode prog_9_method_11_code 55 = .ok (.getfield 30, 3) := by decide +kernel
theorem d_M_hasRead_58 : decode prog_9_method_11_code 58 = .ok (.iload 4, 2) := by decide +kernel
theorem d_M_hasRead_60 : decode prog_9_method_11_code 60 = .ok (.iaload, 1) := by decide +kernel
theorem d_M_hasRead_61 : decode prog_9_method_11_code 61 = .ok (.aload_n 0, 1) := by decide +kernel
theorem d_M_hasRead_62 : decode prog_9_method_11_code 62 = .ok (.getfield 48, 3) := by decide +kernel
theorem d_M_hasRead_65 : decode prog_9_method_11_code 65 = .ok (.iload 5, 2) := by decide +kernel
theorem d_M_hasRead_67 : decode prog_9_method_11_code 67 = .ok (.iaload, 1) := by decide +kernel
theorem d_M_hasRead_68 : decode prog_9_method_11_code 68 = .ok (.if_icmp .lt 24, 3) := by decide +kernel
theorem d_M_hasRead_71 : decode prog_9_method_11_code 71 = .ok (.aload_n 0, 1) := by decide +kernel
theorem d_M_hasRead_72 : decode prog_9_method_11_code 72 = .ok (.getfield 30, 3) := by decide +kernel
theorem d_M_hasRead_75 : decode prog_9_method_11_code 75 = .ok (.iload 4, 2) := by decide +kernel
theorem d_M_hasRead_77 : decode prog_9_method_11_code 77 = .ok (.iaload, 1) := by decide +kernel
theorem d_M_hasRead_78 : decode prog_9_method_11_code 78 = .ok (.aload_n 0, 1) := by decide +kernel
theorem d_M_hasRead_79 : decode prog_9_method_11_code 79 = .ok (.getfield 51, 3) := by decide +kernel
theorem d_M_hasRead_82 : decode prog_9_method_11_code 82 = .ok (.iload 5, 2) := by decide +kernel
theorem d_M_hasRead_84 : decode prog_9_method_11_code 84 = .ok (.iaload, 1) := by decide +kernel
theorem d_M_hasRead_85 : decode prog_9_method_11_code 85 = .ok (.if_icmp .gt 7, 3) := by decide +kernel
theorem d_M_hasRead_88 : decode prog_9_method_11_code 88 = .ok (.iconst 1, 1) := by decide +kernel
theorem d_M_hasRead_89 : decode prog_9_method_11_code 89 = .ok (.goto 4, 3) := by decide +kernel
theorem d_M_hasRead_92 : decode prog_9_method_11_code 92 = .ok (.iconst 0, 1) := by decide +kernel
theorem d_M_hasRead_93 : decode prog_9_method_11_code 93 = .ok (.istore_n 3, 1) := by decide +kernel
theorem d_M_hasRead_94 : decode prog_9_method_11_code 94 = .ok (.iinc 5 1, 3) := by decide +kernel
theorem d_M_hasRead_97 : decode prog_9_method_11_code 97 = .ok (.goto (-64), 3) := by decide +kernel
theorem d_M_hasRead_100 : decode prog_9_method_11_code 100 = .ok (.iinc 4 1, 3) := by decide +kernel
theorem d_M_hasRead_103 : decode prog_9_method_11_code 103 = .ok (.goto (-94), 3) := by decide +kernel
theorem d_M_hasRead_106 : decode prog_9_method_11_code 106 = .ok (.iload_n 3, 1) := by decide +kernel
theorem d_M_hasRead_107 : decode prog_9_method_11_code 107 = .ok (.ireturn, 1) := by decide +kernel
theorem d_M_end_0 : decode prog_9_method_26_code 0 = .ok (.aload_n 0, 1) := by decide +kernel
theorem d_M_end_1 : decode prog_9_method_26_code 1 = .ok (.getfield 20, 3) := by decide +kernel
theorem d_M_end_4 : decode prog_9_method_26_code 4 = .ok (.iload_n 1, 1) := by decide +kernel
theorem d_M_end_5 : decode prog_9_method_26_code 5 = .ok (.iload_n 2, 1) := by decide +kernel
theorem d_M_end_6 : decode prog_9_method_26_code 6 = .ok (.iastore, 1) := by decide +kernel
theorem d_M_end_7 : decode prog_9_method_26_code 7 = .ok (.aload_n 0, 1) := by decide +kernel
theorem d_M_end_8 : decode prog_9_method_26_code 8 = .ok (.getfield 39, 3) := by decide +kernel
theorem d_M_end_11 : decode prog_9_method_26_code 11 = .ok (.iload_n 1, 1) := by decide +kernel
theorem d_M_end_12 : decode prog_9_method_26_code 12 = .ok (.iconst 0, 1) := by decide +kernel
theorem d_M_end_13 : decode prog_9_method_26_code 13 = .ok (.iastore, 1) := by decide +kernel
theorem d_M_end_14 : decode prog_9_method_26_code 14 = .ok (.aload_n 0, 1) := by decide +kernel
theorem d_M_end_15 : decode prog_9_method_26_code 15 = .ok (.iload_n 1, 1) := by decide +kernel
theorem d_M_end_16 : decode prog_9_method_26_code 16 = .ok (.invokevirtual 116, 3) := by decide +kernel
theorem d_M_end_19 : decode prog_9_method_26_code 19 = .ok (.ireturn, 1) := by decide +kernel
theorem d_M_abort_0 : decode prog_9_method_28_code 0 = .ok (.aload_n 0, 1) := by decide +kernel
theorem d_M_abort_1 : decode prog_9_method_28_code 1 = .ok (.iload_n 1, 1) := by decide +kernel
theorem d_M_abort_2 : decode prog_9_method_28_code 2 = .ok (.invokevirtual 109, 3) := by decide +kernel
theorem d_M_abort_5 : decode prog_9_method_28_code 5 = .ok (.ifCond .eq 12, 3) := by decide +kernel
theorem d_M_abort_8 : decode prog_9_method_28_code 8 = .ok (.aload_n 0, 1) := by decide +kernel
theorem d_M_abort_9 : decode prog_9_method_28_code 9 = .ok (.iload_n 1, 1) := by decide +kernel
theorem d_M_abort_10 : decode prog_9_method_28_code 10 = .ok (.iconst 2, 1) := by decide +kernel
theorem d_M_abort_11 : decode prog_9_method_28_code 11 = .ok (.invokevirtual 142, 3) := by decide +kernel
theorem d_M_abort_14 : decode prog_9_method_28_code 14 = .ok (.goto 4, 3) := by decide +kernel
theorem d_M_abort_17 : decode prog_9_method_28_code 17 = .ok (.iconst 0, 1) := by decide +kernel
theorem d_M_abort_18 : decode prog_9_method_28_code 18 = .ok (.ireturn, 1) := by decide +kernel
theorem d_M_vacuum_0 : decode prog_9_method_32_code 0 = .ok (.aload_n 0, 1) := by decide +kernel
theorem d_M_vacuum_1 : decode prog_9_method_32_code 1 = .ok (.iconst 0, 1) := by decide +kernel
theorem d_M_vacuum_2 : decode prog_9_method_32_code 2 = .ok (.putfield 69, 3) := by decide +kernel
theorem d_M_vacuum_5 : decode prog_9_method_32_code 5 = .ok (.iconst 0, 1) := by decide +kernel
theorem d_M_vacuum_6 : decode prog_9_method_32_code 6 = .ok (.istore_n 1, 1) := by decide +kernel
theorem d_M_vacuum_7 : decode prog_9_method_32_code 7 = .ok (.iload_n 1, 1) := by decide +kernel
theorem d_M_vacuum_8 : decode prog_9_method_32_code 8 = .ok (.aload_n 0, 1) := by decide +kernel
theorem d_M_vacuum_9 : decode prog_9_method_32_code 9 = .ok (.getfield 80, 3) := by decide +kernel
theorem d_M_vacuum_12 : decode prog_9_method_32_code 12 = .ok (.if_icmp .ge 28, 3) := by decide +kernel
theorem d_M_vacuum_15 : decode prog_9_method_32_code 15 = .ok (.aload_n 0, 1) := by decide +kernel
theorem d_M_vacuum_16 : decode prog_9_method_32_code 16 = .ok (.getfield 66, 3) := by decide +kernel
theorem d_M_vacuum_19 : decode prog_9_method_32_code 19 = .ok (.iload_n 1, 1) := by decide +kernel
theorem d_M_vacuum_20 : decode prog_9_method_32_code 20 = .ok (.aload_n 0, 1) := by decide +kernel
theorem d_M_vacuum_21 : decode prog_9_method_32_code 21 = .ok (.iload_n 1, 1) := by decide +kernel
theorem d_M_vacuum_22 : decode prog_9_method_32_code 22 = .ok (.invokevirtual 148, 3) := by decide +kernel
theorem d_M_vacuum_25 : decode prog_9_method_32_code 25 = .ok (.ifCond .ne 7, 3) := by decide +kernel
theorem d_M_vacuum_28 : decode prog_9_method_32_code 28 = .ok (.iconst 1, 1) := by decide +kernel
theorem d_M_vacuum_29 : decode prog_9_method_32_code 29 = .ok (.goto 4, 3) := by decide +kernel
theorem d_M_vacuum_32 : decode prog_9_method_32_code 32 = .ok (.iconst 0, 1) := by decide +kernel
theorem d_M_vacuum_33 : decode prog_9_method_32_code 33 = .ok (.bastore, 1) := by decide +kernel
theorem d_M_vacuum_34 : decode prog_9_method_32_code 34 = .ok (.iinc 1 1, 3) := by decide +kernel
theorem d_M_vacuum_37 : decode prog_9_method_32_code 37 = .ok (.goto (-30), 3) := by decide +kernel
theorem d_M_vacuum_40 : decode prog_9_method_32_code 40 = .ok (.aload_n 0, 1) := by decide +kernel
theorem d_M_vacuum_41 : decode prog_9_method_32_code 41 = .ok (.invokevirtual 151, 3) := by decide +kernel
theorem d_M_vacuum_44 : decode prog_9_method_32_code 44 = .ok (.istore_n 1, 1) := by decide +kernel
theorem d_M_vacuum_45 : decode prog_9_method_32_code 45 = .ok (.iconst 0, 1) := by decide +kernel
theorem d_M_vacuum_46 : decode prog_9_method_32_code 46 = .ok (.istore_n 2, 1) := by decide +kernel
theorem d_M_vacuum_47 : decode prog_9_method_32_code 47 = .ok (.iload_n 2, 1) := by decide +kernel
theorem d_M_vacuum_48 : decode prog_9_method_32_code 48 = .ok (.aload_n 0, 1) := by decide +kernel
theorem d_M_vacuum_49 : decode prog_9_method_32_code 49 = .ok (.getfield 80, 3) := by decide +kernel
theorem d_M_vacuum_52 : decode prog_9_method_32_code 52 = .ok (.if_icmp .ge 108, 3) := by decide +kernel
theorem d_M_vacuum_55 : decode prog_9_method_32_code 55 = .ok (.iconst 1, 1) := by decide +kernel
theorem d_M_vacuum_56 : decode prog_9_method_32_code 56 = .ok (.istore_n 3, 1) := by decide +kernel
theorem d_M_vacuum_57 : decode prog_9_method_32_code 57 = .ok (.iconst 0, 1) := by decide +kernel
theorem d_M_vacuum_58 : decode prog_9_method_32_code 58 = .ok (.istore 4, 2) := by decide +kernel
theorem d_M_vacuum_60 : decode prog_9_method_32_code 60 = .ok (.iload 4, 2) := by decide +kernel
theorem d_M_vacuum_62 : decode prog_9_method_32_code 62 = .ok (.aload_n 0, 1) := by decide +kernel
theorem d_M_vacuum_63 : decode prog_9_method_32_code 63 = .ok (.getfield 80, 3) := by decide +kernel
theorem d_M_vacuum_66 : decode prog_9_method_32_code 66 = .ok (.if_icmp .ge 51, 3) := by decide +kernel
theorem d_M_vacuum_69 : decode prog_9_method_32_code 69 = .ok (.iload_n 3, 1) := by decide +kernel
theorem d_M_vacuum_70 : decode prog_9_method_32_code 70 = .ok (.ifCond .eq 39, 3) := by decide +kernel
theorem d_M_vacuum_73 : decode prog_9_method_32_code 73 = .ok (.aload_n 0, 1) := by decide +kernel
theorem d_M_vacuum_74 : decode prog_9_method_32_code 74 = .ok (.getfield 54, 3) := by decide +kernel
theorem d_M_vacuum_77 : decode prog_9_method_32_code 77 = .ok (.iload 4, 2) := by decide +kernel
theorem d_M_vacuum_79 : decode prog_9_method_32_code 79 = .ok (.iaload, 1) := by decide +kernel
theorem d_M_vacuum_80 : decode prog_9_method_32_code 80 = .ok (.aload_n 0, 1) := by decide +kernel
theorem d_M_vacuum_81 : decode prog_9_method_32_code 81 = .ok (.getfield 54, 3) := by decide +kernel
theorem d_M_vacuum_84 : decode prog_9_method_32_code 84 = .ok (.iload_n 2, 1) := by decide +kernel
theorem d_M_vacuum_85 : decode prog_9_method_32_code 85 = .ok (.iaload, 1) := by decide +kernel
theorem d_M_vacuum_86 : decode prog_9_method_32_code 86 = .ok (.if_icmp .ne 19, 3) := by decide +kernel
theorem d_M_vacuum_89 : decode prog_9_method_32_code 89 = .ok (.aload_n 0, 1) := by decide +kernel
theorem d_M_vacuum_90 : decode prog_9_method_32_code 90 = .ok (.getfield 57, 3) := by decide +kernel
theorem d_M_vacuum_93 : decode prog_9_method_32_code 93 = .ok (.iload 4, 2) := by decide +kernel
theorem d_M_vacuum_95 : decode prog_9_method_32_code 95 = .ok (.iaload, 1) := by decide +kernel
theorem d_M_vacuum_96 : decode prog_9_method_32_code 96 = .ok (.aload_n 0, 1) := by decide +kernel
theorem d_M_vacuum_97 : decode prog_9_method_32_code 97 = .ok (.getfield 57, 3) := by decide +kernel
theorem d_M_vacuum_100 : decode prog_9_method_32_code 100 = .ok (.iload_n 2, 1) := by decide +kernel
theorem d_M_vacuum_101 : decode prog_9_method_32_code 101 = .ok (.iaload, 1) := by decide +kernel
theorem d_M_vacuum_102 : decode prog_9_method_32_code 102 = .ok (.if_icmp .lt 7, 3) := by decide +kernel
theorem d_M_vacuum_105 : decode prog_9_method_32_code 105 = .ok (.iconst 1, 1) := by decide +kernel
theorem d_M_vacuum_106 : decode prog_9_method_32_code 106 = .ok (.goto 4, 3) := by decide +kernel
theorem d_M_vacuum_109 : decode prog_9_method_32_code 109 = .ok (.iconst 0, 1) := by decide +kernel
theorem d_M_vacuum_110 : decode prog_9_method_32_code 110 = .ok (.istore_n 3, 1) := by decide +kernel
theorem d_M_vacuum_111 : decode prog_9_method_32_code 111 = .ok (.iinc 4 1, 3) := by decide +kernel
theorem d_M_vacuum_114 : decode prog_9_method_32_code 114 = .ok (.goto (-54), 3) := by decide +kernel
theorem d_M_vacuum_117 : decode prog_9_method_32_code 117 = .ok (.aload_n 0, 1) := by decide +kernel
theorem d_M_vacuum_118 : decode prog_9_method_32_code 118 = .ok (.getfield 66, 3) := by decide +kernel
theorem d_M_vacuum_121 : decode prog_9_method_32_code 121 = .ok (.iload_n 2, 1) := by decide +kernel
theorem d_M_vacuum_122 : decode prog_9_method_32_code 122 = .ok (.iload_n 3, 1) := by decide +kernel
theorem d_M_vacuum_123 : decode prog_9_method_32_code 123 = .ok (.ifCond .eq 29, 3) := by decide +kernel
theorem d_M_vacuum_126 : decode prog_9_method_32_code 126 = .ok (.aload_n 0, 1) := by decide +kernel
theorem d_M_vacuum_127 : decode prog_9_method_32_code 127 = .ok (.getfield 63, 3) := by decide +kernel
theorem d_M_vacuum_130 : decode prog_9_method_32_code 130 = .ok (.iload_n 2, 1) := by decide +kernel
theorem d_M_vacuum_131 : decode prog_9_method_32_code 131 = .ok (.baload, 1) := by decide +kernel
theorem d_M_vacuum_132 : decode prog_9_method_32_code 132 = .ok (.ifCond .eq 20, 3) := by decide +kernel
theorem d_M_vacuum_135 : decode prog_9_method_32_code 135 = .ok (.aload_n 0, 1) := by decide +kernel
theorem d_M_vacuum_136 : decode prog_9_method_32_code 136 = .ok (.invokevirtual 155, 3) := by decide +kernel
theorem d_M_vacuum_139 : decode prog_9_method_32_code 139 = .ok (.aload_n 0, 1) := by decide +kernel
theorem d_M_vacuum_140 : decode prog_9_method_32_code 140 = .ok (.getfield 57, 3) := by decide +kernel
theorem d_M_vacuum_143 : decode prog_9_method_32_code 143 = .ok (.iload_n 2, 1) := by decide +kernel
theorem d_M_vacuum_144 : decode prog_9_method_32_code 144 = .ok (.iaload, 1) := by decide +kernel
theorem d_M_vacuum_145 : decode prog_9_method_32_code 145 = .ok (.if_icmp .lt 7, 3) := by decide +kernel
theorem d_M_vacuum_148 : decode prog_9_method_32_code 148 = .ok (.iconst 1, 1) := by decide +kernel
theorem d_M_vacuum_149 : decode prog_9_method_32_code 149 = .ok (.goto 4, 3) := by decide +kernel
theorem d_M_vacuum_152 : decode prog_9_method_32_code 152 = .ok (.iconst 0, 1) := by decide +kernel
theorem d_M_vacuum_153 : decode prog_9_method_32_code 153 = .ok (.bastore, 1) := by decide +kernel
theorem d_M_vacuum_154 : decode prog_9_method_32_code 154 = .ok (.iinc 2 1, 3) := by decide +kernel
theorem d_M_vacuum_157 : decode prog_9_method_32_code 157 = .ok (.goto (-110), 3) := by decide +kernel
theorem d_M_vacuum_160 : decode prog_9_method_32_code 160 = .ok (.iload_n 1, 1) := by decide +kernel
theorem d_M_vacuum_161 : decode prog_9_method_32_code 161 = .ok (.aload_n 0, 1) := by decide +kernel
theorem d_M_vacuum_162 : decode prog_9_method_32_code 162 = .ok (.invokevirtual 151, 3) := by decide +kernel
theorem d_M_vacuum_165 : decode prog_9_method_32_code 165 = .ok (.iadd, 1) := by decide +kernel
theorem d_M_vacuum_166 : decode prog_9_method_32_code 166 = .ok (.ireturn, 1) := by decide +kernel
theorem d_M_isHad_0 : decode prog_9_method_30_code 0 = .ok (.aload_n 0, 1) := by decide +kernel
theorem d_M_isHad_1 : decode prog_9_method_30_code 1 = .ok (.aload_n 0, 1) := by decide +kernel
theorem d_M_isHad_2 : decode prog_9_method_30_code 2 = .ok (.getfield 54, 3) := by decide +kernel
theorem d_M_isHad_5 : decode prog_9_method_30_code 5 = .ok (.iload_n 1, 1) := by decide +kernel
theorem d_M_isHad_6 : decode prog_9_method_30_code 6 = .ok (.iaload, 1) := by decide +kernel
theorem d_M_isHad_7 : decode prog_9_method_30_code 7 = .ok (.aload_n 0, 1) := by decide +kernel
theorem d_M_isHad_8 : decode prog_9_method_30_code 8 = .ok (.getfield 106, 3) := by decide +kernel
theorem d_M_isHad_11 : decode prog_9_method_30_code 11 = .ok (.invokevirtual 83, 3) := by decide +kernel
theorem d_M_isHad_14 : decode prog_9_method_30_code 14 = .ok (.iload_n 1, 1) := by decide +kernel
theorem d_M_isHad_15 : decode prog_9_method_30_code 15 = .ok (.if_icmp .eq 21, 3) := by decide +kernel
theorem d_M_isHad_18 : decode prog_9_method_30_code 18 = .ok (.aload_n 0, 1) := by decide +kernel
theorem d_M_isHad_19 : decode prog_9_method_30_code 19 = .ok (.aload_n 0, 1) := by decide +kernel
theorem d_M_isHad_20 : decode prog_9_method_30_code 20 = .ok (.getfield 54, 3) := by decide +kernel
theorem d_M_isHad_23 : decode prog_9_method_30_code 23 = .ok (.iload_n 1, 1) := by decide +kernel
theorem d_M_isHad_24 : decode prog_9_method_30_code 24 = .ok (.iaload, 1) := by decide +kernel
theorem d_M_isHad_25 : decode prog_9_method_30_code 25 = .ok (.aload_n 0, 1) := by decide +kernel
theorem d_M_isHad_26 : decode prog_9_method_30_code 26 = .ok (.getfield 145, 3) := by decide +kernel
theorem d_M_isHad_29 : decode prog_9_method_30_code 29 = .ok (.invokevirtual 83, 3) := by decide +kernel
theorem d_M_isHad_32 : decode prog_9_method_30_code 32 = .ok (.iload_n 1, 1) := by decide +kernel
theorem d_M_isHad_33 : decode prog_9_method_30_code 33 = .ok (.if_icmp .ne 7, 3) := by decide +kernel
theorem d_M_isHad_36 : decode prog_9_method_30_code 36 = .ok (.iconst 1, 1) := by decide +kernel
theorem d_M_isHad_37 : decode prog_9_method_30_code 37 = .ok (.goto 4, 3) := by decide +kernel
theorem d_M_isHad_40 : decode prog_9_method_30_code 40 = .ok (.iconst 0, 1) := by decide +kernel
theorem d_M_isHad_41 : decode prog_9_method_30_code 41 = .ok (.istore_n 2, 1) := by decide +kernel
theorem d_M_isHad_42 : decode prog_9_method_30_code 42 = .ok (.iconst 0, 1) := by decide +kernel
theorem d_M_isHad_43 : decode prog_9_method_30_code 43 = .ok (.istore_n 3, 1) := by decide +kernel
theorem d_M_isHad_44 : decode prog_9_method_30_code 44 = .ok (.iload_n 3, 1) := by decide +kernel
theorem d_M_isHad_45 : decode prog_9_method_30_code 45 = .ok (.aload_n 0, 1) := by decide +kernel
theorem d_M_isHad_46 : decode prog_9_method_30_code 46 = .ok (.getfield 73, 3) := by decide +kernel
theorem d_M_isHad_49 : decode prog_9_method_30_code 49 = .ok (.if_icmp .ge 48, 3) := by decide +kernel
theorem d_M_isHad_52 : decode prog_9_method_30_code 52 = .ok (.iload_n 2, 1) := by decide +kernel
theorem d_M_isHad_53 : decode prog_9_method_30_code 53 = .ok (.ifCond .ne 44, 3) := by decide +kernel
theorem d_M_isHad_56 : decode prog_9_method_30_code 56 = .ok (.aload_n 0, 1) := by decide +kernel
theorem d_M_isHad_57 : decode prog_9_method_30_code 57 = .ok (.getfield 20, 3) := by decide +kernel
theorem d_M_isHad_60 : decode prog_9_method_30_code 60 = .ok (.iload_n 3, 1) := by decide +kernel
theorem d_M_isHad_61 : decode prog_9_method_30_code 61 = .ok (.iaload, 1) := by decide +kernel
theorem d_M_isHad_62 : decode prog_9_method_30_code 62 = .ok (.ifCond .ne 27, 3) := by decide +kernel
theorem d_M_isHad_65 : decode prog_9_method_30_code 65 = .ok (.aload_n 0, 1) := by decide +kernel
theorem d_M_isHad_66 : decode prog_9_method_30_code 66 = .ok (.aload_n 0, 1) := by decide +kernel
theorem d_M_isHad_67 : decode prog_9_method_30_code 67 = .ok (.getfield 54, 3) := by decide +kernel
theorem d_M_isHad_70 : decode prog_9_method_30_code 70 = .ok (.iload_n 1, 1) := by decide +kernel
theorem d_M_isHad_71 : decode prog_9_method_30_code 71 = .ok (.iaload, 1) := by decide +kernel
theorem d_M_isHad_72 : decode prog_9_method_30_code 72 = .ok (.aload_n 0, 1) := by decide +kernel
theorem d_M_isHad_73 : decode prog_9_method_30_code 73 = .ok (.getfield 13, 3) := by decide +kernel
theorem d_M_isHad_76 : decode prog_9_method_30_code 76 = .ok (.iload_n 3, 1) := by decide +kernel
theorem d_M_isHad_77 : decode prog_9_method_30_code 77 = .ok (.iaload, 1) := by decide +kernel
theorem d_M_isHad_78 : decode prog_9_method_30_code 78 = .ok (.invokevirtual 83, 3) := by decide +kernel
theorem d_M_isHad_81 : decode prog_9_method_30_code 81 = .ok (.iload_n 1, 1) := by decide +kernel
theorem d_M_isHad_82 : decode prog_9_method_30_code 82 = .ok (.if_icmp .ne 7, 3) := by decide +kernel
theorem d_M_isHad_85 : decode prog_9_method_30_code 85 = .ok (.iconst 1, 1) := by decide +kernel
theorem d_M_isHad_86 : decode prog_9_method_30_code 86 = .ok (.goto 4, 3) := by decide +kernel
theorem d_M_isHad_89 : decode prog_9_method_30_code 89 = .ok (.iconst 0, 1) := by decide +kernel
theorem d_M_isHad_90 : decode prog_9_method_30_code 90 = .ok (.istore_n 2, 1) := by decide +kernel
theorem d_M_isHad_91 : decode prog_9_method_30_code 91 = .ok (.iinc 3 1, 3) := by decide +kernel
theorem d_M_isHad_94 : decode prog_9_method_30_code 94 = .ok (.goto (-50), 3) := by decide +kernel
theorem d_M_isHad_97 : decode prog_9_method_30_code 97 = .ok (.iload_n 2, 1) := by decide +kernel
theorem d_M_isHad_98 : decode prog_9_method_30_code 98 = .ok (.ireturn, 1) := by decide +kernel
theorem d_M_close_0 : decode prog_9_method_29_code 0 = .ok (.iconst 0, 1) := by decide +kernel
theorem d_M_close_1 : decode prog_9_method_29_code 1 = .ok (.istore_n 1, 1) := by decide +kernel
theorem d_M_close_2 : decode prog_9_method_29_code 2 = .ok (.iconst 0, 1) := by decide +kernel
theorem d_M_close_3 : decode prog_9_method_29_code 3 = .ok (.istore_n 2, 1) := by decide +kernel
theorem d_M_close_4 : decode prog_9_method_29_code 4 = .ok (.iload_n 2, 1) := by decide +kernel
theorem d_M_close_5 : decode prog_9_method_29_code 5 = .ok (.aload_n 0, 1) := by decide +kernel
theorem d_M_close_6 : decode prog_9_method_29_code 6 = .ok (.getfield 80, 3) := by decide +kernel
theorem d_M_close_9 : decode prog_9_method_29_code 9 = .ok (.if_icmp .ge 69, 3) := by decide +kernel
theorem d_M_close_12 : decode prog_9_method_29_code 12 = .ok (.aload_n 0, 1) := by decide +kernel
theorem d_M_close_13 : decode prog_9_method_29_code 13 = .ok (.getfield 66, 3) := by decide +kernel
theorem d_M_close_16 : decode prog_9_method_29_code 16 = .ok (.iload_n 2, 1) := by decide +kernel
theorem d_M_close_17 : decode prog_9_method_29_code 17 = .ok (.baload, 1) := by decide +kernel
theorem d_M_close_18 : decode prog_9_method_29_code 18 = .ok (.ifCond .ne 54, 3) := by decide +kernel
theorem d_M_close_21 : decode prog_9_method_29_code 21 = .ok (.aload_n 0, 1) := by decide +kernel
theorem d_M_close_22 : decode prog_9_method_29_code 22 = .ok (.getfield 54, 3) := by decide +kernel
theorem d_M_close_25 : decode prog_9_method_29_code 25 = .ok (.iload_n 1, 1) := by decide +kernel
theorem d_M_close_26 : decode prog_9_method_29_code 26 = .ok (.aload_n 0, 1) := by decide +kernel
theorem d_M_close_27 : decode prog_9_method_29_code 27 = .ok (.getfield 54, 3) := by decide +kernel
theorem d_M_close_30 : decode prog_9_method_29_code 30 = .ok (.iload_n 2, 1) := by decide +kernel
theorem d_M_close_31 : decode prog_9_method_29_code 31 = .ok (.iaload, 1) := by decide +kernel
theorem d_M_close_32 : decode prog_9_method_29_code 32 = .ok (.iastore, 1) := by decide +kernel
theorem d_M_close_33 : decode prog_9_method_29_code 33 = .ok (.aload_n 0, 1) := by decide +kernel
theorem d_M_close_34 : decode prog_9_method_29_code 34 = .ok (.getfield 57, 3) := by decide +kernel
theorem d_M_close_37 : decode prog_9_method_29_code 37 = .ok (.iload_n 1, 1) := by decide +kernel
theorem d_M_close_38 : decode prog_9_method_29_code 38 = .ok (.aload_n 0, 1) := by decide +kernel
theorem d_M_close_39 : decode prog_9_method_29_code 39 = .ok (.getfield 57, 3) := by decide +kernel
theorem d_M_close_42 : decode prog_9_method_29_code 42 = .ok (.iload_n 2, 1) := by decide +kernel
theorem d_M_close_43 : decode prog_9_method_29_code 43 = .ok (.iaload, 1) := by decide +kernel
theorem d_M_close_44 : decode prog_9_method_29_code 44 = .ok (.iastore, 1) := by decide +kernel
theorem d_M_close_45 : decode prog_9_method_29_code 45 = .ok (.aload_n 0, 1) := by decide +kernel
theorem d_M_close_46 : decode prog_9_method_29_code 46 = .ok (.getfield 60, 3) := by decide +kernel
theorem d_M_close_49 : decode prog_9_method_29_code 49 = .ok (.iload_n 1, 1) := by decide +kernel
theorem d_M_close_50 : decode prog_9_method_29_code 50 = .ok (.aload_n 0, 1) := by decide +kernel
theorem d_M_close_51 : decode prog_9_method_29_code 51 = .ok (.getfield 60, 3) := by decide +kernel
theorem d_M_close_54 : decode prog_9_method_29_code 54 = .ok (.iload_n 2, 1) := by decide +kernel
theorem d_M_close_55 : decode prog_9_method_29_code 55 = .ok (.iaload, 1) := by decide +kernel
theorem d_M_close_56 : decode prog_9_method_29_code 56 = .ok (.iastore, 1) := by decide +kernel
theorem d_M_close_57 : decode prog_9_method_29_code 57 = .ok (.aload_n 0, 1) := by decide +kernel
theorem d_M_close_58 : decode prog_9_method_29_code 58 = .ok (.getfield 63, 3) := by decide +kernel
theorem d_M_close_61 : decode prog_9_method_29_code 61 = .ok (.iload_n 1, 1) := by decide +kernel
theorem d_M_close_62 : decode prog_9_method_29_code 62 = .ok (.aload_n 0, 1) := by decide +kernel
theorem d_M_close_63 : decode prog_9_method_29_code 63 = .ok (.getfield 63, 3) := by decide +kernel
theorem d_M_close_66 : decode prog_9_method_29_code 66 = .ok (.iload_n 2, 1) := by decide +kernel
theorem d_M_close_67 : decode prog_9_method_29_code 67 = .ok (.baload, 1) := by decide +kernel
theorem d_M_close_68 : decode prog_9_method_29_code 68 = .ok (.bastore, 1) := by decide +kernel
theorem d_M_close_69 : decode prog_9_method_29_code 69 = .ok (.iinc 1 1, 3) := by decide +kernel
theorem d_M_close_72 : decode prog_9_method_29_code 72 = .ok (.iinc 2 1, 3) := by decide +kernel
theorem d_M_close_75 : decode prog_9_method_29_code 75 = .ok (.goto (-71), 3) := by decide +kernel
theorem d_M_close_78 : decode prog_9_method_29_code 78 = .ok (.aload_n 0, 1) := by decide +kernel
theorem d_M_close_79 : decode prog_9_method_29_code 79 = .ok (.getfield 80, 3) := by decide +kernel
theorem d_M_close_82 : decode prog_9_method_29_code 82 = .ok (.iload_n 1, 1) := by decide +kernel
theorem d_M_close_83 : decode prog_9_method_29_code 83 = .ok (.isub, 1) := by decide +kernel
theorem d_M_close_84 : decode prog_9_method_29_code 84 = .ok (.istore_n 2, 1) := by decide +kernel
theorem d_M_close_85 : decode prog_9_method_29_code 85 = .ok (.aload_n 0, 1) := by decide +kernel
theorem d_M_close_86 : decode prog_9_method_29_code 86 = .ok (.iload_n 1, 1) := by decide +kernel
theorem d_M_close_87 : decode prog_9_method_29_code 87 = .ok (.putfield 80, 3) := by decide +kernel
theorem d_M_close_90 : decode prog_9_method_29_code 90 = .ok (.iload_n 2, 1) := by decide +kernel
theorem d_M_close_91 : decode prog_9_method_29_code 91 = .ok (.ireturn, 1) := by decide +kernel
theorem d_M_leastStamp_0 : decode prog_9_method_31_code 0 = .ok (.aload_n 0, 1) := by decide +kernel
theorem d_M_leastStamp_1 : decode prog_9_method_31_code 1 = .ok (.getfield 145, 3) := by decide +kernel
theorem d_M_leastStamp_4 : decode prog_9_method_31_code 4 = .ok (.aload_n 0, 1) := by decide +kernel
theorem d_M_leastStamp_5 : decode prog_9_method_31_code 5 = .ok (.getfield 106, 3) := by decide +kernel
theorem d_M_leastStamp_8 : decode prog_9_method_31_code 8 = .ok (.if_icmp .ge 10, 3) := by decide +kernel
theorem d_M_leastStamp_11 : decode prog_9_method_31_code 11 = .ok (.aload_n 0, 1) := by decide +kernel
theorem d_M_leastStamp_12 : decode prog_9_method_31_code 12 = .ok (.getfield 145, 3) := by decide +kernel
theorem d_M_leastStamp_15 : decode prog_9_method_31_code 15 = .ok (.goto 7, 3) := by decide +kernel
theorem d_M_leastStamp_18 : decode prog_9_method_31_code 18 = .ok (.aload_n 0, 1) := by decide +kernel
theorem d_M_leastStamp_19 : decode prog_9_method_31_code 19 = .ok (.getfield 106, 3) := by decide +kernel
theorem d_M_leastStamp_22 : decode prog_9_method_31_code 22 = .ok (.istore_n 1, 1) := by decide +kernel
theorem d_M_leastStamp_23 : decode prog_9_method_31_code 23 = .ok (.iconst 0, 1) := by decide +kernel
theorem d_M_leastStamp_24 : decode prog_9_method_31_code 24 = .ok (.istore_n 2, 1) := by decide +kernel
theorem d_M_leastStamp_25 : decode prog_9_method_31_code 25 = .ok (.iload_n 2, 1) := by decide +kernel
theorem d_M_leastStamp_26 : decode prog_9_method_31_code 26 = .ok (.aload_n 0, 1) := by decide +kernel
theorem d_M_leastStamp_27 : decode prog_9_method_31_code 27 = .ok (.getfield 73, 3) := by decide +kernel
theorem d_M_leastStamp_30 : decode prog_9_method_31_code 30 = .ok (.if_icmp .ge 39, 3) := by decide +kernel
theorem d_M_leastStamp_33 : decode prog_9_method_31_code 33 = .ok (.aload_n 0, 1) := by decide +kernel
theorem d_M_leastStamp_34 : decode prog_9_method_31_code 34 = .ok (.getfield 20, 3) := by decide +kernel
theorem d_M_leastStamp_37 : decode prog_9_method_31_code 37 = .ok (.iload_n 2, 1) := by decide +kernel
theorem d_M_leastStamp_38 : decode prog_9_method_31_code 38 = .ok (.iaload, 1) := by decide +kernel
theorem d_M_leastStamp_39 : decode prog_9_method_31_code 39 = .ok (.ifCond .ne 22, 3) := by decide +kernel
theorem d_M_leastStamp_42 : decode prog_9_method_31_code 42 = .ok (.aload_n 0, 1) := by decide +kernel
theorem d_M_leastStamp_43 : decode prog_9_method_31_code 43 = .ok (.getfield 13, 3) := by decide +kernel
theorem d_M_leastStamp_46 : decode prog_9_method_31_code 46 = .ok (.iload_n 2, 1) := by decide +kernel
theorem d_M_leastStamp_47 : decode prog_9_method_31_code 47 = .ok (.iaload, 1) := by decide +kernel
theorem d_M_leastStamp_48 : decode prog_9_method_31_code 48 = .ok (.iload_n 1, 1) := by decide +kernel
theorem d_M_leastStamp_49 : decode prog_9_method_31_code 49 = .ok (.if_icmp .ge 12, 3) := by decide +kernel
theorem d_M_leastStamp_52 : decode prog_9_method_31_code 52 = .ok (.aload_n 0, 1) := by decide +kernel
theorem d_M_leastStamp_53 : decode prog_9_method_31_code 53 = .ok (.getfield 13, 3) := by decide +kernel
theorem d_M_leastStamp_56 : decode prog_9_method_31_code 56 = .ok (.iload_n 2, 1) := by decide +kernel
theorem d_M_leastStamp_57 : decode prog_9_method_31_code 57 = .ok (.iaload, 1) := by decide +kernel
theorem d_M_leastStamp_58 : decode prog_9_method_31_code 58 = .ok (.goto 4, 3) := by decide +kernel
theorem d_M_leastStamp_61 : decode prog_9_method_31_code 61 = .ok (.iload_n 1, 1) := by decide +kernel
theorem d_M_leastStamp_62 : decode prog_9_method_31_code 62 = .ok (.istore_n 1, 1) := by decide +kernel
theorem d_M_leastStamp_63 : decode prog_9_method_31_code 63 = .ok (.iinc 2 1, 3) := by decide +kernel
theorem d_M_leastStamp_66 : decode prog_9_method_31_code 66 = .ok (.goto (-41), 3) := by decide +kernel
theorem d_M_leastStamp_69 : decode prog_9_method_31_code 69 = .ok (.iload_n 1, 1) := by decide +kernel
theorem d_M_leastStamp_70 : decode prog_9_method_31_code 70 = .ok (.ireturn, 1) := by decide +kernel
theorem d_M_flush_0 : decode prog_9_method_33_code 0 = .ok (.aload_n 0, 1) := by decide +kernel
theorem d_M_flush_1 : decode prog_9_method_33_code 1 = .ok (.iconst 0, 1) := by decide +kernel
theorem d_M_flush_2 : decode prog_9_method_33_code 2 = .ok (.putfield 69, 3) := by decide +kernel
theorem d_M_flush_5 : decode prog_9_method_33_code 5 = .ok (.aload_n 0, 1) := by decide +kernel
theorem d_M_flush_6 : decode prog_9_method_33_code 6 = .ok (.getfield 106, 3) := by decide +kernel
theorem d_M_flush_9 : decode prog_9_method_33_code 9 = .ok (.aload_n 0, 1) := by decide +kernel
theorem d_M_flush_10 : decode prog_9_method_33_code 10 = .ok (.getfield 145, 3) := by decide +kernel
theorem d_M_flush_13 : decode prog_9_method_33_code 13 = .ok (.isub, 1) := by decide +kernel
theorem d_M_flush_14 : decode prog_9_method_33_code 14 = .ok (.istore_n 1, 1) := by decide +kernel
theorem d_M_flush_15 : decode prog_9_method_33_code 15 = .ok (.aload_n 0, 1) := by decide +kernel
theorem d_M_flush_16 : decode prog_9_method_33_code 16 = .ok (.aload_n 0, 1) := by decide +kernel
theorem d_M_flush_17 : decode prog_9_method_33_code 17 = .ok (.getfield 106, 3) := by decide +kernel
theorem d_M_flush_20 : decode prog_9_method_33_code 20 = .ok (.putfield 145, 3) := by decide +kernel
theorem d_M_flush_23 : decode prog_9_method_33_code 23 = .ok (.iload_n 1, 1) := by decide +kernel
theorem d_M_flush_24 : decode prog_9_method_33_code 24 = .ok (.ireturn, 1) := by decide +kernel
theorem d_M_crash_0 : decode prog_9_method_34_code 0 = .ok (.aload_n 0, 1) := by decide +kernel
theorem d_M_crash_1 : decode prog_9_method_34_code 1 = .ok (.iconst 0, 1) := by decide +kernel
theorem d_M_crash_2 : decode prog_9_method_34_code 2 = .ok (.putfield 69, 3) := by decide +kernel
theorem d_M_crash_5 : decode prog_9_method_34_code 5 = .ok (.iconst 0, 1) := by decide +kernel
theorem d_M_crash_6 : decode prog_9_method_34_code 6 = .ok (.istore_n 1, 1) := by decide +kernel
theorem d_M_crash_7 : decode prog_9_method_34_code 7 = .ok (.iconst 0, 1) := by decide +kernel
theorem d_M_crash_8 : decode prog_9_method_34_code 8 = .ok (.istore_n 2, 1) := by decide +kernel
theorem d_M_crash_9 : decode prog_9_method_34_code 9 = .ok (.iload_n 2, 1) := by decide +kernel
theorem d_M_crash_10 : decode prog_9_method_34_code 10 = .ok (.aload_n 0, 1) := by decide +kernel
theorem d_M_crash_11 : decode prog_9_method_34_code 11 = .ok (.getfield 73, 3) := by decide +kernel
theorem d_M_crash_14 : decode prog_9_method_34_code 14 = .ok (.if_icmp .ge 50, 3) := by decide +kernel
theorem d_M_crash_17 : decode prog_9_method_34_code 17 = .ok (.aload_n 0, 1) := by decide +kernel
theorem d_M_crash_18 : decode prog_9_method_34_code 18 = .ok (.getfield 20, 3) := by decide +kernel
theorem d_M_crash_21 : decode prog_9_method_34_code 21 = .ok (.iload_n 2, 1) := by decide +kernel
theorem d_M_crash_22 : decode prog_9_method_34_code 22 = .ok (.iaload, 1) := by decide +kernel
theorem d_M_crash_23 : decode prog_9_method_34_code 23 = .ok (.ifCond .ne 13, 3) := by decide +kernel
theorem d_M_crash_26 : decode prog_9_method_34_code 26 = .ok (.aload_n 0, 1) := by decide +kernel
theorem d_M_crash_27 : decode prog_9_method_34_code 27 = .ok (.iload_n 2, 1) := by decide +kernel
theorem d_M_crash_28 : decode prog_9_method_34_code 28 = .ok (.iconst 2, 1) := by decide +kernel
theorem d_M_crash_29 : decode prog_9_method_34_code 29 = .ok (.invokevirtual 142, 3) := by decide +kernel
theorem d_M_crash_32 : decode prog_9_method_34_code 32 = .ok (.istore_n 3, 1) := by decide +kernel
theorem d_M_crash_33 : decode prog_9_method_34_code 33 = .ok (.goto 25, 3) := by decide +kernel
theorem d_M_crash_36 : decode prog_9_method_34_code 36 = .ok (.aload_n 0, 1) := by decide +kernel
theorem d_M_crash_37 : decode prog_9_method_34_code 37 = .ok (.iload_n 2, 1) := by decide +kernel
theorem d_M_crash_38 : decode prog_9_method_34_code 38 = .ok (.aload_n 0, 1) := by decide +kernel
theorem d_M_crash_39 : decode prog_9_method_34_code 39 = .ok (.getfield 145, 3) := by decide +kernel
theorem d_M_crash_42 : decode prog_9_method_34_code 42 = .ok (.invokevirtual 129, 3) := by decide +kernel
theorem d_M_crash_45 : decode prog_9_method_34_code 45 = .ok (.ifCond .eq 13, 3) := by decide +kernel
theorem d_M_crash_48 : decode prog_9_method_34_code 48 = .ok (.aload_n 0, 1) := by decide +kernel
theorem d_M_crash_49 : decode prog_9_method_34_code 49 = .ok (.getfield 20, 3) := by decide +kernel
theorem d_M_crash_52 : decode prog_9_method_34_code 52 = .ok (.iload_n 2, 1) := by decide +kernel
theorem d_M_crash_53 : decode prog_9_method_34_code 53 = .ok (.iconst 3, 1) := by decide +kernel
theorem d_M_crash_54 : decode prog_9_method_34_code 54 = .ok (.iastore, 1) := by decide +kernel
theorem d_M_crash_55 : decode prog_9_method_34_code 55 = .ok (.iinc 1 1, 3) := by decide +kernel
theorem d_M_crash_58 : decode prog_9_method_34_code 58 = .ok (.iinc 2 1, 3) := by decide +kernel
theorem d_M_crash_61 : decode prog_9_method_34_code 61 = .ok (.goto (-52), 3) := by decide +kernel
theorem d_M_crash_64 : decode prog_9_method_34_code 64 = .ok (.aload_n 0, 1) := by decide +kernel
theorem d_M_crash_65 : decode prog_9_method_34_code 65 = .ok (.aload_n 0, 1) := by decide +kernel
theorem d_M_crash_66 : decode prog_9_method_34_code 66 = .ok (.getfield 145, 3) := by decide +kernel
theorem d_M_crash_69 : decode prog_9_method_34_code 69 = .ok (.putfield 106, 3) := by decide +kernel
theorem d_M_crash_72 : decode prog_9_method_34_code 72 = .ok (.iconst 0, 1) := by decide +kernel
theorem d_M_crash_73 : decode prog_9_method_34_code 73 = .ok (.istore_n 2, 1) := by decide +kernel
theorem d_M_crash_74 : decode prog_9_method_34_code 74 = .ok (.iload_n 2, 1) := by decide +kernel
theorem d_M_crash_75 : decode prog_9_method_34_code 75 = .ok (.aload_n 0, 1) := by decide +kernel
theorem d_M_crash_76 : decode prog_9_method_34_code 76 = .ok (.getfield 80, 3) := by decide +kernel
theorem d_M_crash_79 : decode prog_9_method_34_code 79 = .ok (.if_icmp .ge 33, 3) := by decide +kernel
theorem d_M_crash_82 : decode prog_9_method_34_code 82 = .ok (.aload_n 0, 1) := by decide +kernel
theorem d_M_crash_83 : decode prog_9_method_34_code 83 = .ok (.getfield 66, 3) := by decide +kernel
theorem d_M_crash_86 : decode prog_9_method_34_code 86 = .ok (.iload_n 2, 1) := by decide +kernel
theorem d_M_crash_87 : decode prog_9_method_34_code 87 = .ok (.aload_n 0, 1) := by decide +kernel
theorem d_M_crash_88 : decode prog_9_method_34_code 88 = .ok (.getfield 57, 3) := by decide +kernel
theorem d_M_crash_91 : decode prog_9_method_34_code 91 = .ok (.iload_n 2, 1) := by decide +kernel
theorem d_M_crash_92 : decode prog_9_method_34_code 92 = .ok (.iaload, 1) := by decide +kernel
theorem d_M_crash_93 : decode prog_9_method_34_code 93 = .ok (.aload_n 0, 1) := by decide +kernel
theorem d_M_crash_94 : decode prog_9_method_34_code 94 = .ok (.getfield 145, 3) := by decide +kernel
theorem d_M_crash_97 : decode prog_9_method_34_code 97 = .ok (.if_icmp .le 7, 3) := by decide +kernel
theorem d_M_crash_100 : decode prog_9_method_34_code 100 = .ok (.iconst 1, 1) := by decide +kernel
theorem d_M_crash_101 : decode prog_9_method_34_code 101 = .ok (.goto 4, 3) := by decide +kernel
theorem d_M_crash_104 : decode prog_9_method_34_code 104 = .ok (.iconst 0, 1) := by decide +kernel
theorem d_M_crash_105 : decode prog_9_method_34_code 105 = .ok (.bastore, 1) := by decide +kernel
theorem d_M_crash_106 : decode prog_9_method_34_code 106 = .ok (.iinc 2 1, 3) := by decide +kernel
theorem d_M_crash_109 : decode prog_9_method_34_code 109 = .ok (.goto (-35), 3) := by decide +kernel
theorem d_M_crash_112 : decode prog_9_method_34_code 112 = .ok (.aload_n 0, 1) := by decide +kernel
theorem d_M_crash_113 : decode prog_9_method_34_code 113 = .ok (.invokevirtual 151, 3) := by decide +kernel
theorem d_M_crash_116 : decode prog_9_method_34_code 116 = .ok (.istore_n 2, 1) := by decide +kernel
theorem d_M_crash_117 : decode prog_9_method_34_code 117 = .ok (.iload_n 1, 1) := by decide +kernel
theorem d_M_crash_118 : decode prog_9_method_34_code 118 = .ok (.ireturn, 1) := by decide +kernel
theorem d_M_told_0 : decode prog_9_method_35_code 0 = .ok (.aload_n 0, 1) := by decide +kernel
theorem d_M_told_1 : decode prog_9_method_35_code 1 = .ok (.aload_n 0, 1) := by decide +kernel
theorem d_M_told_2 : decode prog_9_method_35_code 2 = .ok (.iload_n 1, 1) := by decide +kernel
theorem d_M_told_3 : decode prog_9_method_35_code 3 = .ok (.invokevirtual 76, 3) := by decide +kernel
theorem d_M_told_6 : decode prog_9_method_35_code 6 = .ok (.ifCond .ne 7, 3) := by decide +kernel
theorem d_M_told_9 : decode prog_9_method_35_code 9 = .ok (.iconst 1, 1) := by decide +kernel
theorem d_M_told_10 : decode prog_9_method_35_code 10 = .ok (.goto 18, 3) := by decide +kernel
theorem d_M_told_13 : decode prog_9_method_35_code 13 = .ok (.iload_n 2, 1) := by decide +kernel
theorem d_M_told_14 : decode prog_9_method_35_code 14 = .ok (.ifCond .lt 9, 3) := by decide +kernel
theorem d_M_told_17 : decode prog_9_method_35_code 17 = .ok (.iload_n 2, 1) := by decide +kernel
theorem d_M_told_18 : decode prog_9_method_35_code 18 = .ok (.bipush 6, 2) := by decide +kernel
theorem d_M_told_20 : decode prog_9_method_35_code 20 = .ok (.if_icmp .le 7, 3) := by decide +kernel
theorem d_M_told_23 : decode prog_9_method_35_code 23 = .ok (.iconst 2, 1) := by decide +kernel
theorem d_M_told_24 : decode prog_9_method_35_code 24 = .ok (.goto 4, 3) := by decide +kernel
theorem d_M_told_27 : decode prog_9_method_35_code 27 = .ok (.iconst 0, 1) := by decide +kernel
theorem d_M_told_28 : decode prog_9_method_35_code 28 = .ok (.putfield 69, 3) := by decide +kernel
theorem d_M_told_31 : decode prog_9_method_35_code 31 = .ok (.aload_n 0, 1) := by decide +kernel
theorem d_M_told_32 : decode prog_9_method_35_code 32 = .ok (.getfield 69, 3) := by decide +kernel
theorem d_M_told_35 : decode prog_9_method_35_code 35 = .ok (.ifCond .le 5, 3) := by decide +kernel
theorem d_M_told_38 : decode prog_9_method_35_code 38 = .ok (.iconst 0, 1) := by decide +kernel
theorem d_M_told_39 : decode prog_9_method_35_code 39 = .ok (.ireturn, 1) := by decide +kernel
theorem d_M_told_40 : decode prog_9_method_35_code 40 = .ok (.iload_n 2, 1) := by decide +kernel
theorem d_M_told_41 : decode prog_9_method_35_code 41 = .ok (.tableswitch 88 0 5 #[39, 46, 61, 68, 75, 81], 39) := by decide +kernel
theorem d_M_told_80 : decode prog_9_method_35_code 80 = .ok (.aload_n 0, 1) := by decide +kernel
theorem d_M_told_81 : decode prog_9_method_35_code 81 = .ok (.getfield 20, 3) := by decide +kernel
theorem d_M_told_84 : decode prog_9_method_35_code 84 = .ok (.iload_n 1, 1) := by decide +kernel
theorem d_M_told_85 : decode prog_9_method_35_code 85 = .ok (.iaload, 1) := by decide +kernel
theorem d_M_told_86 : decode prog_9_method_35_code 86 = .ok (.ireturn, 1) := by decide +kernel
theorem d_M_told_87 : decode prog_9_method_35_code 87 = .ok (.aload_n 0, 1) := by decide +kernel
theorem d_M_told_88 : decode prog_9_method_35_code 88 = .ok (.getfield 7, 3) := by decide +kernel
theorem d_M_told_91 : decode prog_9_method_35_code 91 = .ok (.iload_n 1, 1) := by decide +kernel
theorem d_M_told_92 : decode prog_9_method_35_code 92 = .ok (.baload, 1) := by decide +kernel
theorem d_M_told_93 : decode prog_9_method_35_code 93 = .ok (.ifCond .eq 7, 3) := by decide +kernel
theorem d_M_told_96 : decode prog_9_method_35_code 96 = .ok (.iconst 1, 1) := by decide +kernel
theorem d_M_told_97 : decode prog_9_method_35_code 97 = .ok (.goto 4, 3) := by decide +kernel
theorem d_M_told_100 : decode prog_9_method_35_code 100 = .ok (.iconst 0, 1) := by decide +kernel
theorem d_M_told_101 : decode prog_9_method_35_code 101 = .ok (.ireturn, 1) := by decide +kernel
theorem d_M_told_102 : decode prog_9_method_35_code 102 = .ok (.aload_n 0, 1) := by decide +kernel
theorem d_M_told_103 : decode prog_9_method_35_code 103 = .ok (.getfield 13, 3) := by decide +kernel
theorem d_M_told_106 : decode prog_9_method_35_code 106 = .ok (.iload_n 1, 1) := by decide +kernel
theorem d_M_told_107 : decode prog_9_method_35_code 107 = .ok (.iaload, 1) := by decide +kernel
theorem d_M_told_108 : decode prog_9_method_35_code 108 = .ok (.ireturn, 1) := by decide +kernel
theorem d_M_told_109 : decode prog_9_method_35_code 109 = .ok (.aload_n 0, 1) := by decide +kernel
theorem d_M_told_110 : decode prog_9_method_35_code 110 = .ok (.getfield 17, 3) := by decide +kernel
theorem d_M_told_113 : decode prog_9_method_35_code 113 = .ok (.iload_n 1, 1) := by decide +kernel
theorem d_M_told_114 : decode prog_9_method_35_code 114 = .ok (.iaload, 1) := by decide +kernel
theorem d_M_told_115 : decode prog_9_method_35_code 115 = .ok (.ireturn, 1) := by decide +kernel
theorem d_M_told_116 : decode prog_9_method_35_code 116 = .ok (.aload_n 0, 1) := by decide +kernel
theorem d_M_told_117 : decode prog_9_method_35_code 117 = .ok (.iload_n 1, 1) := by decide +kernel
theorem d_M_told_118 : decode prog_9_method_35_code 118 = .ok (.invokevirtual 116, 3) := by decide +kernel
theorem d_M_told_121 : decode prog_9_method_35_code 121 = .ok (.ireturn, 1) := by decide +kernel
theorem d_M_told_122 : decode prog_9_method_35_code 122 = .ok (.aload_n 0, 1) := by decide +kernel
theorem d_M_told_123 : decode prog_9_method_35_code 123 = .ok (.getfield 39, 3) := by decide +kernel
theorem d_M_told_126 : decode prog_9_method_35_code 126 = .ok (.iload_n 1, 1) := by decide +kernel
theorem d_M_told_127 : decode prog_9_method_35_code 127 = .ok (.iaload, 1) := by decide +kernel
theorem d_M_told_128 : decode prog_9_method_35_code 128 = .ok (.ireturn, 1) := by decide +kernel
theorem d_M_told_129 : decode prog_9_method_35_code 129 = .ok (.aload_n 0, 1) := by decide +kernel
theorem d_M_told_130 : decode prog_9_method_35_code 130 = .ok (.getfield 23, 3) := by decide +kernel
theorem d_M_told_133 : decode prog_9_method_35_code 133 = .ok (.iload_n 1, 1) := by decide +kernel
theorem d_M_told_134 : decode prog_9_method_35_code 134 = .ok (.baload, 1) := by decide +kernel
theorem d_M_told_135 : decode prog_9_method_35_code 135 = .ok (.ifCond .eq 7, 3) := by decide +kernel
theorem d_M_told_138 : decode prog_9_method_35_code 138 = .ok (.iconst 1, 1) := by decide +kernel
theorem d_M_told_139 : decode prog_9_method_35_code 139 = .ok (.goto 4, 3) := by decide +kernel
theorem d_M_told_142 : decode prog_9_method_35_code 142 = .ok (.iconst 0, 1) := by decide +kernel
theorem d_M_told_143 : decode prog_9_method_35_code 143 = .ok (.ireturn, 1) := by decide +kernel
theorem d_M_at_0 : decode prog_9_method_36_code 0 = .ok (.aload_n 0, 1) := by decide +kernel
theorem d_M_at_1 : decode prog_9_method_36_code 1 = .ok (.iconst 0, 1) := by decide +kernel
theorem d_M_at_2 : decode prog_9_method_36_code 2 = .ok (.putfield 69, 3) := by decide +kernel
theorem d_M_at_5 : decode prog_9_method_36_code 5 = .ok (.aload_n 0, 1) := by decide +kernel
theorem d_M_at_6 : decode prog_9_method_36_code 6 = .ok (.iload_n 1, 1) := by decide +kernel
theorem d_M_at_7 : decode prog_9_method_36_code 7 = .ok (.iload_n 2, 1) := by decide +kernel
theorem d_M_at_8 : decode prog_9_method_36_code 8 = .ok (.ifCond .eq 10, 3) := by decide +kernel
theorem d_M_at_11 : decode prog_9_method_36_code 11 = .ok (.aload_n 0, 1) := by decide +kernel
theorem d_M_at_12 : decode prog_9_method_36_code 12 = .ok (.getfield 145, 3) := by decide +kernel
theorem d_M_at_15 : decode prog_9_method_36_code 15 = .ok (.goto 7, 3) := by decide +kernel
theorem d_M_at_18 : decode prog_9_method_36_code 18 = .ok (.aload_n 0, 1) := by decide +kernel
theorem d_M_at_19 : decode prog_9_method_36_code 19 = .ok (.getfield 106, 3) := by decide +kernel
theorem d_M_at_22 : decode prog_9_method_36_code 22 = .ok (.invokevirtual 97, 3) := by decide +kernel
theorem d_M_at_25 : decode prog_9_method_36_code 25 = .ok (.aload_n 0, 1) := by decide +kernel
theorem d_M_at_26 : decode prog_9_method_36_code 26 = .ok (.getfield 91, 3) := by decide +kernel
theorem d_M_at_29 : decode prog_9_method_36_code 29 = .ok (.ireturn, 1) := by decide +kernel
theorem d_M_versions_0 : decode prog_9_method_37_code 0 = .ok (.aload_n 0, 1) := by decide +kernel
theorem d_M_versions_1 : decode prog_9_method_37_code 1 = .ok (.iconst 0, 1) := by decide +kernel
theorem d_M_versions_2 : decode prog_9_method_37_code 2 = .ok (.putfield 69, 3) := by decide +kernel
theorem d_M_versions_5 : decode prog_9_method_37_code 5 = .ok (.iconst 0, 1) := by decide +kernel
theorem d_M_versions_6 : decode prog_9_method_37_code 6 = .ok (.istore_n 2, 1) := by decide +kernel
theorem d_M_versions_7 : decode prog_9_method_37_code 7 = .ok (.iconst 0, 1) := by decide +kernel
theorem d_M_versions_8 : decode prog_9_method_37_code 8 = .ok (.istore_n 3, 1) := by decide +kernel
theorem d_M_versions_9 : decode prog_9_method_37_code 9 = .ok (.iload_n 3, 1) := by decide +kernel
theorem d_M_versions_10 : decode prog_9_method_37_code 10 = .ok (.aload_n 0, 1) := by decide +kernel
theorem d_M_versions_11 : decode prog_9_method_37_code 11 = .ok (.getfield 80, 3) := by decide +kernel
theorem d_M_versions_14 : decode prog_9_method_37_code 14 = .ok (.if_icmp .ge 27, 3) := by decide +kernel
theorem d_M_versions_17 : decode prog_9_method_37_code 17 = .ok (.iload_n 2, 1) := by decide +kernel
theorem d_M_versions_18 : decode prog_9_method_37_code 18 = .ok (.aload_n 0, 1) := by decide +kernel
theorem d_M_versions_19 : decode prog_9_method_37_code 19 = .ok (.getfield 54, 3) := by decide +kernel
theorem d_M_versions_22 : decode prog_9_method_37_code 22 = .ok (.iload_n 3, 1) := by decide +kernel
theorem d_M_versions_23 : decode prog_9_method_37_code 23 = .ok (.iaload, 1) := by decide +kernel
theorem d_M_versions_24 : decode prog_9_method_37_code 24 = .ok (.iload_n 1, 1) := by decide +kernel
theorem d_M_versions_25 : decode prog_9_method_37_code 25 = .ok (.if_icmp .ne 7, 3) := by decide +kernel
theorem d_M_versions_28 : decode prog_9_method_37_code 28 = .ok (.iconst 1, 1) := by decide +kernel
theorem d_M_versions_29 : decode prog_9_method_37_code 29 = .ok (.goto 4, 3) := by decide +kernel
theorem d_M_versions_32 : decode prog_9_method_37_code 32 = .ok (.iconst 0, 1) := by decide +kernel
theorem d_M_versions_33 : decode prog_9_method_37_code 33 = .ok (.iadd, 1) := by decide +kernel
theorem d_M_versions_34 : decode prog_9_method_37_code 34 = .ok (.istore_n 2, 1) := by decide +kernel
theorem d_M_versions_35 : decode prog_9_method_37_code 35 = .ok (.iinc 3 1, 3) := by decide +kernel
theorem d_M_versions_38 : decode prog_9_method_37_code 38 = .ok (.goto (-29), 3) := by decide +kernel
theorem d_M_versions_41 : decode prog_9_method_37_code 41 = .ok (.iload_n 2, 1) := by decide +kernel
theorem d_M_versions_42 : decode prog_9_method_37_code 42 = .ok (.ireturn, 1) := by decide +kernel
theorem d_M_count_0 : decode prog_9_method_38_code 0 = .ok (.aload_n 0, 1) := by decide +kernel
theorem d_M_count_1 : decode prog_9_method_38_code 1 = .ok (.iconst 0, 1) := by decide +kernel
theorem d_M_count_2 : decode prog_9_method_38_code 2 = .ok (.putfield 69, 3) := by decide +kernel
theorem d_M_count_5 : decode prog_9_method_38_code 5 = .ok (.iconst 0, 1) := by decide +kernel
theorem d_M_count_6 : decode prog_9_method_38_code 6 = .ok (.istore_n 2, 1) := by decide +kernel
theorem d_M_count_7 : decode prog_9_method_38_code 7 = .ok (.iconst 0, 1) := by decide +kernel
theorem d_M_count_8 : decode prog_9_method_38_code 8 = .ok (.istore_n 3, 1) := by decide +kernel
theorem d_M_count_9 : decode prog_9_method_38_code 9 = .ok (.iconst 0, 1) := by decide +kernel
theorem d_M_count_10 : decode prog_9_method_38_code 10 = .ok (.istore 4, 2) := by decide +kernel
theorem d_M_count_12 : decode prog_9_method_38_code 12 = .ok (.iload 4, 2) := by decide +kernel
theorem d_M_count_14 : decode prog_9_method_38_code 14 = .ok (.aload_n 0, 1) := by decide +kernel
theorem d_M_count_15 : decode prog_9_method_38_code 15 = .ok (.getfield 80, 3) := by decide +kernel
theorem d_M_count_18 : decode prog_9_method_38_code 18 = .ok (.if_icmp .ge 50, 3) := by decide +kernel
theorem d_M_count_21 : decode prog_9_method_38_code 21 = .ok (.aload_n 0, 1) := by decide +kernel
theorem d_M_count_22 : decode prog_9_method_38_code 22 = .ok (.aload_n 0, 1) := by decide +kernel
theorem d_M_count_23 : decode prog_9_method_38_code 23 = .ok (.getfield 54, 3) := by decide +kernel
theorem d_M_count_26 : decode prog_9_method_38_code 26 = .ok (.iload 4, 2) := by decide +kernel
theorem d_M_count_28 : decode prog_9_method_38_code 28 = .ok (.iaload, 1) := by decide +kernel
theorem d_M_count_29 : decode prog_9_method_38_code 29 = .ok (.aload_n 0, 1) := by decide +kernel
theorem d_M_count_30 : decode prog_9_method_38_code 30 = .ok (.getfield 106, 3) := by decide +kernel
theorem d_M_count_33 : decode prog_9_method_38_code 33 = .ok (.invokevirtual 83, 3) := by decide +kernel
theorem d_M_count_36 : decode prog_9_method_38_code 36 = .ok (.iload 4, 2) := by decide +kernel
theorem d_M_count_38 : decode prog_9_method_38_code 38 = .ok (.if_icmp .ne 24, 3) := by decide +kernel
theorem d_M_count_41 : decode prog_9_method_38_code 41 = .ok (.iinc 2 1, 3) := by decide +kernel
theorem d_M_count_44 : decode prog_9_method_38_code 44 = .ok (.iload_n 3, 1) := by decide +kernel
theorem d_M_count_45 : decode prog_9_method_38_code 45 = .ok (.aload_n 0, 1) := by decide +kernel
theorem d_M_count_46 : decode prog_9_method_38_code 46 = .ok (.getfield 63, 3) := by decide +kernel
theorem d_M_count_49 : decode prog_9_method_38_code 49 = .ok (.iload 4, 2) := by decide +kernel
theorem d_M_count_51 : decode prog_9_method_38_code 51 = .ok (.baload, 1) := by decide +kernel
theorem d_M_count_52 : decode prog_9_method_38_code 52 = .ok (.ifCond .eq 7, 3) := by decide +kernel
theorem d_M_count_55 : decode prog_9_method_38_code 55 = .ok (.iconst 0, 1) := by decide +kernel
theorem d_M_count_56 : decode prog_9_method_38_code 56 = .ok (.goto 4, 3) := by decide +kernel
theorem d_M_count_59 : decode prog_9_method_38_code 59 = .ok (.iconst 1, 1) := by decide +kernel
theorem d_M_count_60 : decode prog_9_method_38_code 60 = .ok (.iadd, 1) := by decide +kernel
theorem d_M_count_61 : decode prog_9_method_38_code 61 = .ok (.istore_n 3, 1) := by decide +kernel
theorem d_M_count_62 : decode prog_9_method_38_code 62 = .ok (.iinc 4 1, 3) := by decide +kernel
theorem d_M_count_65 : decode prog_9_method_38_code 65 = .ok (.goto (-53), 3) := by decide +kernel
theorem d_M_count_68 : decode prog_9_method_38_code 68 = .ok (.iconst 0, 1) := by decide +kernel
theorem d_M_count_69 : decode prog_9_method_38_code 69 = .ok (.istore 4, 2) := by decide +kernel
theorem d_M_count_71 : decode prog_9_method_38_code 71 = .ok (.iconst 0, 1) := by decide +kernel
theorem d_M_count_72 : decode prog_9_method_38_code 72 = .ok (.istore 5, 2) := by decide +kernel
theorem d_M_count_74 : decode prog_9_method_38_code 74 = .ok (.iload 5, 2) := by decide +kernel
theorem d_M_count_76 : decode prog_9_method_38_code 76 = .ok (.aload_n 0, 1) := by decide +kernel
theorem d_M_count_77 : decode prog_9_method_38_code 77 = .ok (.getfield 73, 3) := by decide +kernel
theorem d_M_count_80 : decode prog_9_method_38_code 80 = .ok (.if_icmp .ge 29, 3) := by decide +kernel
theorem d_M_count_83 : decode prog_9_method_38_code 83 = .ok (.iload 4, 2) := by decide +kernel
theorem d_M_count_85 : decode prog_9_method_38_code 85 = .ok (.aload_n 0, 1) := by decide +kernel
theorem d_M_count_86 : decode prog_9_method_38_code 86 = .ok (.getfield 20, 3) := by decide +kernel
theorem d_M_count_89 : decode prog_9_method_38_code 89 = .ok (.iload 5, 2) := by decide +kernel
theorem d_M_count_91 : decode prog_9_method_38_code 91 = .ok (.iaload, 1) := by decide +kernel
theorem d_M_count_92 : decode prog_9_method_38_code 92 = .ok (.ifCond .ne 7, 3) := by decide +kernel
theorem d_M_count_95 : decode prog_9_method_38_code 95 = .ok (.iconst 1, 1) := by decide +kernel
theorem d_M_count_96 : decode prog_9_method_38_code 96 = .ok (.goto 4, 3) := by decide +kernel
theorem d_M_count_99 : decode prog_9_method_38_code 99 = .ok (.iconst 0, 1) := by decide +kernel
theorem d_M_count_100 : decode prog_9_method_38_code 100 = .ok (.iadd, 1) := by decide +kernel
theorem d_M_count_101 : decode prog_9_method_38_code 101 = .ok (.istore 4, 2) := by decide +kernel
theorem d_M_count_103 : decode prog_9_method_38_code 103 = .ok (.iinc 5 1, 3) := by decide +kernel
theorem d_M_count_106 : decode prog_9_method_38_code 106 = .ok (.goto (-32), 3) := by decide +kernel
theorem d_M_count_109 : decode prog_9_method_38_code 109 = .ok (.iload_n 1, 1) := by decide +kernel
theorem d_M_count_110 : decode prog_9_method_38_code 110 = .ok (.tableswitch 69 0 6 #[42, 47, 52, 57, 59, 61, 66], 42) := by decide +kernel
theorem d_M_count_152 : decode prog_9_method_38_code 152 = .ok (.aload_n 0, 1) := by decide +kernel
theorem d_M_count_153 : decode prog_9_method_38_code 153 = .ok (.getfield 106, 3) := by decide +kernel
theorem d_M_count_156 : decode prog_9_method_38_code 156 = .ok (.ireturn, 1) := by decide +kernel
theorem d_M_count_157 : decode prog_9_method_38_code 157 = .ok (.aload_n 0, 1) := by decide +kernel
theorem d_M_count_158 : decode prog_9_method_38_code 158 = .ok (.getfield 145, 3) := by decide +kernel
theorem d_M_count_161 : decode prog_9_method_38_code 161 = .ok (.ireturn, 1) := by decide +kernel
theorem d_M_count_162 : decode prog_9_method_38_code 162 = .ok (.aload_n 0, 1) := by decide +kernel
theorem d_M_count_163 : decode prog_9_method_38_code 163 = .ok (.getfield 80, 3) := by decide +kernel
theorem d_M_count_166 : decode prog_9_method_38_code 166 = .ok (.ireturn, 1) := by decide +kernel
theorem d_M_count_167 : decode prog_9_method_38_code 167 = .ok (.iload_n 2, 1) := by decide +kernel
theorem d_M_count_168 : decode prog_9_method_38_code 168 = .ok (.ireturn, 1) := by decide +kernel
theorem d_M_count_169 : decode prog_9_method_38_code 169 = .ok (.iload_n 3, 1) := by decide +kernel
theorem d_M_count_170 : decode prog_9_method_38_code 170 = .ok (.ireturn, 1) := by decide +kernel
theorem d_M_count_171 : decode prog_9_method_38_code 171 = .ok (.aload_n 0, 1) := by decide +kernel
theorem d_M_count_172 : decode prog_9_method_38_code 172 = .ok (.getfield 73, 3) := by decide +kernel
theorem d_M_count_175 : decode prog_9_method_38_code 175 = .ok (.ireturn, 1) := by decide +kernel
theorem d_M_count_176 : decode prog_9_method_38_code 176 = .ok (.iload 4, 2) := by decide +kernel
theorem d_M_count_178 : decode prog_9_method_38_code 178 = .ok (.ireturn, 1) := by decide +kernel
theorem d_M_count_179 : decode prog_9_method_38_code 179 = .ok (.iconst (-1), 1) := by decide +kernel
theorem d_M_count_180 : decode prog_9_method_38_code 180 = .ok (.ireturn, 1) := by decide +kernel
theorem d_M_astray_0 : decode prog_9_method_39_code 0 = .ok (.aload_n 0, 1) := by decide +kernel
theorem d_M_astray_1 : decode prog_9_method_39_code 1 = .ok (.iconst 0, 1) := by decide +kernel
theorem d_M_astray_2 : decode prog_9_method_39_code 2 = .ok (.putfield 69, 3) := by decide +kernel
theorem d_M_astray_5 : decode prog_9_method_39_code 5 = .ok (.iconst 0, 1) := by decide +kernel
theorem d_M_astray_6 : decode prog_9_method_39_code 6 = .ok (.ireturn, 1) := by decide +kernel
