theorem dX10_best_121 : decode cX10_best 121 = .ok (.iload 5, 2) := by decide +kernel
theorem dX10_best_123 : decode cX10_best 123 = .ok (.bipush 6, 2) := by decide +kernel
theorem dX10_best_125 : decode cX10_best 125 = .ok (.if_icmp .ne 44, 3) := by decide +kernel
theorem dX10_best_128 : decode cX10_best 128 = .ok (.aload_n 0, 1) := by decide +kernel
theorem dX10_best_129 : decode cX10_best 129 = .ok (.iload_n 1, 1) := by decide +kernel
theorem dX10_best_130 : decode cX10_best 130 = .ok (.iload 6, 2) := by decide +kernel
theorem dX10_best_132 : decode cX10_best 132 = .ok (.invokevirtual 190, 3) := by decide +kernel
theorem dX10_best_135 : decode cX10_best 135 = .ok (.aload_n 0, 1) := by decide +kernel
theorem dX10_best_136 : decode cX10_best 136 = .ok (.invokevirtual 197, 3) := by decide +kernel
theorem dX10_best_139 : decode cX10_best 139 = .ok (.istore 7, 2) := by decide +kernel
theorem dX10_best_141 : decode cX10_best 141 = .ok (.iload_n 3, 1) := by decide +kernel
theorem dX10_best_142 : decode cX10_best 142 = .ok (.iconst (-1), 1) := by decide +kernel
theorem dX10_best_143 : decode cX10_best 143 = .ok (.if_icmp .eq 9, 3) := by decide +kernel
theorem dX10_best_146 : decode cX10_best 146 = .ok (.iload 7, 2) := by decide +kernel
theorem dX10_best_148 : decode cX10_best 148 = .ok (.iload_n 3, 1) := by decide +kernel
theorem dX10_best_149 : decode cX10_best 149 = .ok (.if_icmp .ge 20, 3) := by decide +kernel
theorem dX10_best_152 : decode cX10_best 152 = .ok (.iload 7, 2) := by decide +kernel
theorem dX10_best_154 : decode cX10_best 154 = .ok (.istore_n 3, 1) := by decide +kernel
theorem dX10_best_155 : decode cX10_best 155 = .ok (.aload_n 0, 1) := by decide +kernel
theorem dX10_best_156 : decode cX10_best 156 = .ok (.aload_n 0, 1) := by decide +kernel
theorem dX10_best_157 : decode cX10_best 157 = .ok (.invokevirtual 206, 3) := by decide +kernel
theorem dX10_best_160 : decode cX10_best 160 = .ok (.putfield 108, 3) := by decide +kernel
theorem dX10_best_163 : decode cX10_best 163 = .ok (.aload_n 0, 1) := by decide +kernel
theorem dX10_best_164 : decode cX10_best 164 = .ok (.iload 6, 2) := by decide +kernel
theorem dX10_best_166 : decode cX10_best 166 = .ok (.putfield 209, 3) := by decide +kernel
theorem dX10_best_169 : decode cX10_best 169 = .ok (.iinc 6 1, 3) := by decide +kernel
theorem dX10_best_172 : decode cX10_best 172 = .ok (.goto (-82), 3) := by decide +kernel
theorem dX10_best_175 : decode cX10_best 175 = .ok (.iinc 5 1, 3) := by decide +kernel
theorem dX10_best_178 : decode cX10_best 178 = .ok (.goto (-98), 3) := by decide +kernel
theorem dX10_best_181 : decode cX10_best 181 = .ok (.aload_n 0, 1) := by decide +kernel
theorem dX10_best_182 : decode cX10_best 182 = .ok (.invokevirtual 212, 3) := by decide +kernel
theorem dX10_best_185 : decode cX10_best 185 = .ok (.istore 4, 2) := by decide +kernel
theorem dX10_best_187 : decode cX10_best 187 = .ok (.goto (-115), 3) := by decide +kernel
theorem dX10_best_190 : decode cX10_best 190 = .ok (.iload_n 3, 1) := by decide +kernel
theorem dX10_best_191 : decode cX10_best 191 = .ok (.ireturn, 1) := by decide +kernel
theorem dX10_laid_0 : decode cX10_laid 0 = .ok (.aload_n 0, 1) := by decide +kernel
theorem dX10_laid_1 : decode cX10_laid 1 = .ok (.getfield 108, 3) := by decide +kernel
theorem dX10_laid_4 : decode cX10_laid 4 = .ok (.iconst (-1), 1) := by decide +kernel
theorem dX10_laid_5 : decode cX10_laid 5 = .ok (.if_icmp .ne 7, 3) := by decide +kernel
theorem dX10_laid_8 : decode cX10_laid 8 = .ok (.iconst (-1), 1) := by decide +kernel
theorem dX10_laid_9 : decode cX10_laid 9 = .ok (.goto 27, 3) := by decide +kernel
theorem dX10_laid_12 : decode cX10_laid 12 = .ok (.iload_n 1, 1) := by decide +kernel
theorem dX10_laid_13 : decode cX10_laid 13 = .ok (.ifCond .ne 10, 3) := by decide +kernel
theorem dX10_laid_16 : decode cX10_laid 16 = .ok (.aload_n 0, 1) := by decide +kernel
theorem dX10_laid_17 : decode cX10_laid 17 = .ok (.getfield 108, 3) := by decide +kernel
theorem dX10_laid_20 : decode cX10_laid 20 = .ok (.goto 16, 3) := by decide +kernel
theorem dX10_laid_23 : decode cX10_laid 23 = .ok (.iload_n 1, 1) := by decide +kernel
theorem dX10_laid_24 : decode cX10_laid 24 = .ok (.iconst 1, 1) := by decide +kernel
theorem dX10_laid_25 : decode cX10_laid 25 = .ok (.if_icmp .ne 10, 3) := by decide +kernel
theorem dX10_laid_28 : decode cX10_laid 28 = .ok (.aload_n 0, 1) := by decide +kernel
theorem dX10_laid_29 : decode cX10_laid 29 = .ok (.getfield 209, 3) := by decide +kernel
theorem dX10_laid_32 : decode cX10_laid 32 = .ok (.goto 4, 3) := by decide +kernel
theorem dX10_laid_35 : decode cX10_laid 35 = .ok (.iconst (-1), 1) := by decide +kernel
theorem dX10_laid_36 : decode cX10_laid 36 = .ok (.ireturn, 1) := by decide +kernel
theorem dX10_sew_0 : decode cX10_sew 0 = .ok (.aload_n 0, 1) := by decide +kernel
theorem dX10_sew_1 : decode cX10_sew 1 = .ok (.iload_n 1, 1) := by decide +kernel
theorem dX10_sew_2 : decode cX10_sew 2 = .ok (.iload_n 2, 1) := by decide +kernel
theorem dX10_sew_3 : decode cX10_sew 3 = .ok (.iload_n 3, 1) := by decide +kernel
theorem dX10_sew_4 : decode cX10_sew 4 = .ok (.invokevirtual 194, 3) := by decide +kernel
theorem dX10_sew_7 : decode cX10_sew 7 = .ok (.istore 4, 2) := by decide +kernel
theorem dX10_sew_9 : decode cX10_sew 9 = .ok (.iload 4, 2) := by decide +kernel
theorem dX10_sew_11 : decode cX10_sew 11 = .ok (.ifCond .eq 6, 3) := by decide +kernel
theorem dX10_sew_14 : decode cX10_sew 14 = .ok (.iload 4, 2) := by decide +kernel
theorem dX10_sew_16 : decode cX10_sew 16 = .ok (.ireturn, 1) := by decide +kernel
theorem dX10_sew_17 : decode cX10_sew 17 = .ok (.aload_n 0, 1) := by decide +kernel
theorem dX10_sew_18 : decode cX10_sew 18 = .ok (.getfield 145, 3) := by decide +kernel
theorem dX10_sew_21 : decode cX10_sew 21 = .ok (.bipush 30, 2) := by decide +kernel
theorem dX10_sew_23 : decode cX10_sew 23 = .ok (.if_icmp .ne 6, 3) := by decide +kernel
theorem dX10_sew_26 : decode cX10_sew 26 = .ok (.bipush (-4), 2) := by decide +kernel
theorem dX10_sew_28 : decode cX10_sew 28 = .ok (.ireturn, 1) := by decide +kernel
theorem dX10_sew_29 : decode cX10_sew 29 = .ok (.aload_n 0, 1) := by decide +kernel
theorem dX10_sew_30 : decode cX10_sew 30 = .ok (.getfield 145, 3) := by decide +kernel
theorem dX10_sew_33 : decode cX10_sew 33 = .ok (.istore 5, 2) := by decide +kernel
theorem dX10_sew_35 : decode cX10_sew 35 = .ok (.aload_n 0, 1) := by decide +kernel
theorem dX10_sew_36 : decode cX10_sew 36 = .ok (.getfield 26, 3) := by decide +kernel
theorem dX10_sew_39 : decode cX10_sew 39 = .ok (.iload 5, 2) := by decide +kernel
theorem dX10_sew_41 : decode cX10_sew 41 = .ok (.iconst 1, 1) := by decide +kernel
theorem dX10_sew_42 : decode cX10_sew 42 = .ok (.bastore, 1) := by decide +kernel
theorem dX10_sew_43 : decode cX10_sew 43 = .ok (.aload_n 0, 1) := by decide +kernel
theorem dX10_sew_44 : decode cX10_sew 44 = .ok (.getfield 29, 3) := by decide +kernel
theorem dX10_sew_47 : decode cX10_sew 47 = .ok (.iload 5, 2) := by decide +kernel
theorem dX10_sew_49 : decode cX10_sew 49 = .ok (.aload_n 0, 1) := by decide +kernel
theorem dX10_sew_50 : decode cX10_sew 50 = .ok (.getfield 17, 3) := by decide +kernel
theorem dX10_sew_53 : decode cX10_sew 53 = .ok (.iload_n 1, 1) := by decide +kernel
theorem dX10_sew_54 : decode cX10_sew 54 = .ok (.iaload, 1) := by decide +kernel
theorem dX10_sew_55 : decode cX10_sew 55 = .ok (.iastore, 1) := by decide +kernel
theorem dX10_sew_56 : decode cX10_sew 56 = .ok (.aload_n 0, 1) := by decide +kernel
theorem dX10_sew_57 : decode cX10_sew 57 = .ok (.getfield 32, 3) := by decide +kernel
theorem dX10_sew_60 : decode cX10_sew 60 = .ok (.iload 5, 2) := by decide +kernel
theorem dX10_sew_62 : decode cX10_sew 62 = .ok (.aload_n 0, 1) := by decide +kernel
theorem dX10_sew_63 : decode cX10_sew 63 = .ok (.getfield 20, 3) := by decide +kernel
theorem dX10_sew_66 : decode cX10_sew 66 = .ok (.iload_n 1, 1) := by decide +kernel
theorem dX10_sew_67 : decode cX10_sew 67 = .ok (.iaload, 1) := by decide +kernel
theorem dX10_sew_68 : decode cX10_sew 68 = .ok (.iastore, 1) := by decide +kernel
theorem dX10_sew_69 : decode cX10_sew 69 = .ok (.aload_n 0, 1) := by decide +kernel
theorem dX10_sew_70 : decode cX10_sew 70 = .ok (.getfield 35, 3) := by decide +kernel
theorem dX10_sew_73 : decode cX10_sew 73 = .ok (.iload 5, 2) := by decide +kernel
theorem dX10_sew_75 : decode cX10_sew 75 = .ok (.aload_n 0, 1) := by decide +kernel
theorem dX10_sew_76 : decode cX10_sew 76 = .ok (.getfield 68, 3) := by decide +kernel
theorem dX10_sew_79 : decode cX10_sew 79 = .ok (.iastore, 1) := by decide +kernel
theorem dX10_sew_80 : decode cX10_sew 80 = .ok (.aload_n 0, 1) := by decide +kernel
theorem dX10_sew_81 : decode cX10_sew 81 = .ok (.getfield 38, 3) := by decide +kernel
theorem dX10_sew_84 : decode cX10_sew 84 = .ok (.iload 5, 2) := by decide +kernel
theorem dX10_sew_86 : decode cX10_sew 86 = .ok (.aload_n 0, 1) := by decide +kernel
theorem dX10_sew_87 : decode cX10_sew 87 = .ok (.getfield 72, 3) := by decide +kernel
theorem dX10_sew_90 : decode cX10_sew 90 = .ok (.iastore, 1) := by decide +kernel
theorem dX10_sew_91 : decode cX10_sew 91 = .ok (.aload_n 0, 1) := by decide +kernel
theorem dX10_sew_92 : decode cX10_sew 92 = .ok (.getfield 41, 3) := by decide +kernel
theorem dX10_sew_95 : decode cX10_sew 95 = .ok (.iload 5, 2) := by decide +kernel
theorem dX10_sew_97 : decode cX10_sew 97 = .ok (.aload_n 0, 1) := by decide +kernel
theorem dX10_sew_98 : decode cX10_sew 98 = .ok (.getfield 75, 3) := by decide +kernel
theorem dX10_sew_101 : decode cX10_sew 101 = .ok (.iastore, 1) := by decide +kernel
theorem dX10_sew_102 : decode cX10_sew 102 = .ok (.aload_n 0, 1) := by decide +kernel
theorem dX10_sew_103 : decode cX10_sew 103 = .ok (.getfield 44, 3) := by decide +kernel
theorem dX10_sew_106 : decode cX10_sew 106 = .ok (.iload 5, 2) := by decide +kernel
theorem dX10_sew_108 : decode cX10_sew 108 = .ok (.aload_n 0, 1) := by decide +kernel
theorem dX10_sew_109 : decode cX10_sew 109 = .ok (.getfield 96, 3) := by decide +kernel
theorem dX10_sew_112 : decode cX10_sew 112 = .ok (.iconst 2, 1) := by decide +kernel
theorem dX10_sew_113 : decode cX10_sew 113 = .ok (.iaload, 1) := by decide +kernel
theorem dX10_sew_114 : decode cX10_sew 114 = .ok (.iastore, 1) := by decide +kernel
theorem dX10_sew_115 : decode cX10_sew 115 = .ok (.iconst 0, 1) := by decide +kernel
theorem dX10_sew_116 : decode cX10_sew 116 = .ok (.istore 6, 2) := by decide +kernel
theorem dX10_sew_118 : decode cX10_sew 118 = .ok (.iload 6, 2) := by decide +kernel
theorem dX10_sew_120 : decode cX10_sew 120 = .ok (.aload_n 0, 1) := by decide +kernel
theorem dX10_sew_121 : decode cX10_sew 121 = .ok (.getfield 13, 3) := by decide +kernel
theorem dX10_sew_124 : decode cX10_sew 124 = .ok (.iload_n 1, 1) := by decide +kernel
theorem dX10_sew_125 : decode cX10_sew 125 = .ok (.iaload, 1) := by decide +kernel
theorem dX10_sew_126 : decode cX10_sew 126 = .ok (.if_icmp .ge 29, 3) := by decide +kernel
theorem dX10_sew_129 : decode cX10_sew 129 = .ok (.aload_n 0, 1) := by decide +kernel
theorem dX10_sew_130 : decode cX10_sew 130 = .ok (.getfield 47, 3) := by decide +kernel
theorem dX10_sew_133 : decode cX10_sew 133 = .ok (.bipush 120, 2) := by decide +kernel
theorem dX10_sew_135 : decode cX10_sew 135 = .ok (.iload 5, 2) := by decide +kernel
theorem dX10_sew_137 : decode cX10_sew 137 = .ok (.imul, 1) := by decide +kernel
theorem dX10_sew_138 : decode cX10_sew 138 = .ok (.iload 6, 2) := by decide +kernel
theorem dX10_sew_140 : decode cX10_sew 140 = .ok (.iadd, 1) := by decide +kernel
theorem dX10_sew_141 : decode cX10_sew 141 = .ok (.aload_n 0, 1) := by decide +kernel
theorem dX10_sew_142 : decode cX10_sew 142 = .ok (.getfield 102, 3) := by decide +kernel
theorem dX10_sew_145 : decode cX10_sew 145 = .ok (.iload 6, 2) := by decide +kernel
theorem dX10_sew_147 : decode cX10_sew 147 = .ok (.iaload, 1) := by decide +kernel
theorem dX10_sew_148 : decode cX10_sew 148 = .ok (.iastore, 1) := by decide +kernel
theorem dX10_sew_149 : decode cX10_sew 149 = .ok (.iinc 6 1, 3) := by decide +kernel
theorem dX10_sew_152 : decode cX10_sew 152 = .ok (.goto (-34), 3) := by decide +kernel
theorem dX10_sew_155 : decode cX10_sew 155 = .ok (.aload_n 0, 1) := by decide +kernel
theorem dX10_sew_156 : decode cX10_sew 156 = .ok (.getfield 62, 3) := by decide +kernel
theorem dX10_sew_159 : decode cX10_sew 159 = .ok (.iload 5, 2) := by decide +kernel
theorem dX10_sew_161 : decode cX10_sew 161 = .ok (.iconst (-1), 1) := by decide +kernel
theorem dX10_sew_162 : decode cX10_sew 162 = .ok (.iastore, 1) := by decide +kernel
theorem dX10_sew_163 : decode cX10_sew 163 = .ok (.aload_n 0, 1) := by decide +kernel
theorem dX10_sew_164 : decode cX10_sew 164 = .ok (.getfield 65, 3) := by decide +kernel
theorem dX10_sew_167 : decode cX10_sew 167 = .ok (.iload 5, 2) := by decide +kernel
theorem dX10_sew_169 : decode cX10_sew 169 = .ok (.iconst (-1), 1) := by decide +kernel
theorem dX10_sew_170 : decode cX10_sew 170 = .ok (.iastore, 1) := by decide +kernel
theorem dX10_sew_171 : decode cX10_sew 171 = .ok (.aload_n 0, 1) := by decide +kernel
theorem dX10_sew_172 : decode cX10_sew 172 = .ok (.getfield 7, 3) := by decide +kernel
theorem dX10_sew_175 : decode cX10_sew 175 = .ok (.iload_n 1, 1) := by decide +kernel
theorem dX10_sew_176 : decode cX10_sew 176 = .ok (.iconst 0, 1) := by decide +kernel
theorem dX10_sew_177 : decode cX10_sew 177 = .ok (.bastore, 1) := by decide +kernel
theorem dX10_sew_178 : decode cX10_sew 178 = .ok (.aload_n 0, 1) := by decide +kernel
theorem dX10_sew_179 : decode cX10_sew 179 = .ok (.dup, 1) := by decide +kernel
theorem dX10_sew_180 : decode cX10_sew 180 = .ok (.getfield 145, 3) := by decide +kernel
theorem dX10_sew_183 : decode cX10_sew 183 = .ok (.iconst 1, 1) := by decide +kernel
theorem dX10_sew_184 : decode cX10_sew 184 = .ok (.iadd, 1) := by decide +kernel
theorem dX10_sew_185 : decode cX10_sew 185 = .ok (.putfield 145, 3) := by decide +kernel
theorem dX10_sew_188 : decode cX10_sew 188 = .ok (.iload 5, 2) := by decide +kernel
theorem dX10_sew_190 : decode cX10_sew 190 = .ok (.ireturn, 1) := by decide +kernel
theorem dX10_rowsOf_0 : decode cX10_rowsOf 0 = .ok (.iconst 2, 1) := by decide +kernel
theorem dX10_rowsOf_1 : decode cX10_rowsOf 1 = .ok (.aload_n 0, 1) := by decide +kernel
theorem dX10_rowsOf_2 : decode cX10_rowsOf 2 = .ok (.getfield 35, 3) := by decide +kernel
theorem dX10_rowsOf_5 : decode cX10_rowsOf 5 = .ok (.iload_n 1, 1) := by decide +kernel
theorem dX10_rowsOf_6 : decode cX10_rowsOf 6 = .ok (.iaload, 1) := by decide +kernel
theorem dX10_rowsOf_7 : decode cX10_rowsOf 7 = .ok (.imul, 1) := by decide +kernel
theorem dX10_rowsOf_8 : decode cX10_rowsOf 8 = .ok (.iconst 2, 1) := by decide +kernel
theorem dX10_rowsOf_9 : decode cX10_rowsOf 9 = .ok (.aload_n 0, 1) := by decide +kernel
theorem dX10_rowsOf_10 : decode cX10_rowsOf 10 = .ok (.getfield 44, 3) := by decide +kernel
theorem dX10_rowsOf_13 : decode cX10_rowsOf 13 = .ok (.iload_n 1, 1) := by decide +kernel
theorem dX10_rowsOf_14 : decode cX10_rowsOf 14 = .ok (.iaload, 1) := by decide +kernel
theorem dX10_rowsOf_15 : decode cX10_rowsOf 15 = .ok (.imul, 1) := by decide +kernel
theorem dX10_rowsOf_16 : decode cX10_rowsOf 16 = .ok (.iadd, 1) := by decide +kernel
theorem dX10_rowsOf_17 : decode cX10_rowsOf 17 = .ok (.aload_n 0, 1) := by decide +kernel
theorem dX10_rowsOf_18 : decode cX10_rowsOf 18 = .ok (.getfield 38, 3) := by decide +kernel
theorem dX10_rowsOf_21 : decode cX10_rowsOf 21 = .ok (.iload_n 1, 1) := by decide +kernel
theorem dX10_rowsOf_22 : decode cX10_rowsOf 22 = .ok (.iaload, 1) := by decide +kernel
theorem dX10_rowsOf_23 : decode cX10_rowsOf 23 = .ok (.iadd, 1) := by decide +kernel
theorem dX10_rowsOf_24 : decode cX10_rowsOf 24 = .ok (.aload_n 0, 1) := by decide +kernel
theorem dX10_rowsOf_25 : decode cX10_rowsOf 25 = .ok (.getfield 41, 3) := by decide +kernel
theorem dX10_rowsOf_28 : decode cX10_rowsOf 28 = .ok (.iload_n 1, 1) := by decide +kernel
theorem dX10_rowsOf_29 : decode cX10_rowsOf 29 = .ok (.iaload, 1) := by decide +kernel
theorem dX10_rowsOf_30 : decode cX10_rowsOf 30 = .ok (.iadd, 1) := by decide +kernel
theorem dX10_rowsOf_31 : decode cX10_rowsOf 31 = .ok (.ireturn, 1) := by decide +kernel
theorem dX10_looksAt_0 : decode cX10_looksAt 0 = .ok (.aload_n 0, 1) := by decide +kernel
theorem dX10_looksAt_1 : decode cX10_looksAt 1 = .ok (.aload_n 0, 1) := by decide +kernel
theorem dX10_looksAt_2 : decode cX10_looksAt 2 = .ok (.getfield 35, 3) := by decide +kernel
theorem dX10_looksAt_5 : decode cX10_looksAt 5 = .ok (.iload_n 1, 1) := by decide +kernel
theorem dX10_looksAt_6 : decode cX10_looksAt 6 = .ok (.iaload, 1) := by decide +kernel
theorem dX10_looksAt_7 : decode cX10_looksAt 7 = .ok (.aload_n 0, 1) := by decide +kernel
theorem dX10_looksAt_8 : decode cX10_looksAt 8 = .ok (.getfield 44, 3) := by decide +kernel
theorem dX10_looksAt_11 : decode cX10_looksAt 11 = .ok (.iload_n 1, 1) := by decide +kernel
theorem dX10_looksAt_12 : decode cX10_looksAt 12 = .ok (.iaload, 1) := by decide +kernel
theorem dX10_looksAt_13 : decode cX10_looksAt 13 = .ok (.aload_n 0, 1) := by decide +kernel
theorem dX10_looksAt_14 : decode cX10_looksAt 14 = .ok (.getfield 38, 3) := by decide +kernel
theorem dX10_looksAt_17 : decode cX10_looksAt 17 = .ok (.iload_n 1, 1) := by decide +kernel
theorem dX10_looksAt_18 : decode cX10_looksAt 18 = .ok (.iaload, 1) := by decide +kernel
theorem dX10_looksAt_19 : decode cX10_looksAt 19 = .ok (.aload_n 0, 1) := by decide +kernel
theorem dX10_looksAt_20 : decode cX10_looksAt 20 = .ok (.getfield 41, 3) := by decide +kernel
theorem dX10_looksAt_23 : decode cX10_looksAt 23 = .ok (.iload_n 1, 1) := by decide +kernel
theorem dX10_looksAt_24 : decode cX10_looksAt 24 = .ok (.iaload, 1) := by decide +kernel
theorem dX10_looksAt_25 : decode cX10_looksAt 25 = .ok (.invokevirtual 186, 3) := by decide +kernel
theorem dX10_looksAt_28 : decode cX10_looksAt 28 = .ok (.iconst 0, 1) := by decide +kernel
theorem dX10_looksAt_29 : decode cX10_looksAt 29 = .ok (.istore_n 2, 1) := by decide +kernel
theorem dX10_looksAt_30 : decode cX10_looksAt 30 = .ok (.iload_n 2, 1) := by decide +kernel
theorem dX10_looksAt_31 : decode cX10_looksAt 31 = .ok (.aload_n 0, 1) := by decide +kernel
theorem dX10_looksAt_32 : decode cX10_looksAt 32 = .ok (.iload_n 1, 1) := by decide +kernel
theorem dX10_looksAt_33 : decode cX10_looksAt 33 = .ok (.invokevirtual 216, 3) := by decide +kernel
theorem dX10_looksAt_36 : decode cX10_looksAt 36 = .ok (.if_icmp .ge 26, 3) := by decide +kernel
theorem dX10_looksAt_39 : decode cX10_looksAt 39 = .ok (.aload_n 0, 1) := by decide +kernel
theorem dX10_looksAt_40 : decode cX10_looksAt 40 = .ok (.getfield 102, 3) := by decide +kernel
theorem dX10_looksAt_43 : decode cX10_looksAt 43 = .ok (.iload_n 2, 1) := by decide +kernel
theorem dX10_looksAt_44 : decode cX10_looksAt 44 = .ok (.aload_n 0, 1) := by decide +kernel
theorem dX10_looksAt_45 : decode cX10_looksAt 45 = .ok (.getfield 47, 3) := by decide +kernel
theorem dX10_looksAt_48 : decode cX10_looksAt 48 = .ok (.bipush 120, 2) := by decide +kernel
theorem dX10_looksAt_50 : decode cX10_looksAt 50 = .ok (.iload_n 1, 1) := by decide +kernel
theorem dX10_looksAt_51 : decode cX10_looksAt 51 = .ok (.imul, 1) := by decide +kernel
theorem dX10_looksAt_52 : decode cX10_looksAt 52 = .ok (.iload_n 2, 1) := by decide +kernel
theorem dX10_looksAt_53 : decode cX10_looksAt 53 = .ok (.iadd, 1) := by decide +kernel
theorem dX10_looksAt_54 : decode cX10_looksAt 54 = .ok (.iaload, 1) := by decide +kernel
theorem dX10_looksAt_55 : decode cX10_looksAt 55 = .ok (.iastore, 1) := by decide +kernel
theorem dX10_looksAt_56 : decode cX10_looksAt 56 = .ok (.iinc 2 1, 3) := by decide +kernel
theorem dX10_looksAt_59 : decode cX10_looksAt 59 = .ok (.goto (-29), 3) := by decide +kernel
theorem dX10_looksAt_62 : decode cX10_looksAt 62 = .ok (.return_, 1) := by decide +kernel
theorem dX10_robe_0 : decode cX10_robe 0 = .ok (.aload_n 0, 1) := by decide +kernel
theorem dX10_robe_1 : decode cX10_robe 1 = .ok (.iload_n 1, 1) := by decide +kernel
theorem dX10_robe_2 : decode cX10_robe 2 = .ok (.invokevirtual 219, 3) := by decide +kernel
theorem dX10_robe_5 : decode cX10_robe 5 = .ok (.ifCond .ne 5, 3) := by decide +kernel
theorem dX10_robe_8 : decode cX10_robe 8 = .ok (.iconst (-1), 1) := by decide +kernel
theorem dX10_robe_9 : decode cX10_robe 9 = .ok (.ireturn, 1) := by decide +kernel
theorem dX10_robe_10 : decode cX10_robe 10 = .ok (.iload_n 2, 1) := by decide +kernel
theorem dX10_robe_11 : decode cX10_robe 11 = .ok (.tableswitch 146 0 9 #[53, 60, 67, 74, 81, 88, 103, 122, 129, 136], 53) := by decide +kernel
theorem dX10_robe_64 : decode cX10_robe 64 = .ok (.aload_n 0, 1) := by decide +kernel
theorem dX10_robe_65 : decode cX10_robe 65 = .ok (.getfield 29, 3) := by decide +kernel
theorem dX10_robe_68 : decode cX10_robe 68 = .ok (.iload_n 1, 1) := by decide +kernel
theorem dX10_robe_69 : decode cX10_robe 69 = .ok (.iaload, 1) := by decide +kernel
theorem dX10_robe_70 : decode cX10_robe 70 = .ok (.ireturn, 1) := by decide +kernel
theorem dX10_robe_71 : decode cX10_robe 71 = .ok (.aload_n 0, 1) := by decide +kernel
theorem dX10_robe_72 : decode cX10_robe 72 = .ok (.getfield 44, 3) := by decide +kernel
theorem dX10_robe_75 : decode cX10_robe 75 = .ok (.iload_n 1, 1) := by decide +kernel
theorem dX10_robe_76 : decode cX10_robe 76 = .ok (.iaload, 1) := by decide +kernel
theorem dX10_robe_77 : decode cX10_robe 77 = .ok (.ireturn, 1) := by decide +kernel
theorem dX10_robe_78 : decode cX10_robe 78 = .ok (.aload_n 0, 1) := by decide +kernel
theorem dX10_robe_79 : decode cX10_robe 79 = .ok (.getfield 35, 3) := by decide +kernel
theorem dX10_robe_82 : decode cX10_robe 82 = .ok (.iload_n 1, 1) := by decide +kernel
theorem dX10_robe_83 : decode cX10_robe 83 = .ok (.iaload, 1) := by decide +kernel
theorem dX10_robe_84 : decode cX10_robe 84 = .ok (.ireturn, 1) := by decide +kernel
theorem dX10_robe_85 : decode cX10_robe 85 = .ok (.aload_n 0, 1) := by decide +kernel
theorem dX10_robe_86 : decode cX10_robe 86 = .ok (.getfield 38, 3) := by decide +kernel
theorem dX10_robe_89 : decode cX10_robe 89 = .ok (.iload_n 1, 1) := by decide +kernel
theorem dX10_robe_90 : decode cX10_robe 90 = .ok (.iaload, 1) := by decide +kernel
theorem dX10_robe_91 : decode cX10_robe 91 = .ok (.ireturn, 1) := by decide +kernel
theorem dX10_robe_92 : decode cX10_robe 92 = .ok (.aload_n 0, 1) := by decide +kernel
theorem dX10_robe_93 : decode cX10_robe 93 = .ok (.getfield 41, 3) := by decide +kernel
theorem dX10_robe_96 : decode cX10_robe 96 = .ok (.iload_n 1, 1) := by decide +kernel
theorem dX10_robe_97 : decode cX10_robe 97 = .ok (.iaload, 1) := by decide +kernel
theorem dX10_robe_98 : decode cX10_robe 98 = .ok (.ireturn, 1) := by decide +kernel
theorem dX10_robe_99 : decode cX10_robe 99 = .ok (.aload_n 0, 1) := by decide +kernel
theorem dX10_robe_100 : decode cX10_robe 100 = .ok (.getfield 50, 3) := by decide +kernel
theorem dX10_robe_103 : decode cX10_robe 103 = .ok (.iload_n 1, 1) := by decide +kernel
theorem dX10_robe_104 : decode cX10_robe 104 = .ok (.baload, 1) := by decide +kernel
theorem dX10_robe_105 : decode cX10_robe 105 = .ok (.ifCond .eq 7, 3) := by decide +kernel
theorem dX10_robe_108 : decode cX10_robe 108 = .ok (.iconst 1, 1) := by decide +kernel
theorem dX10_robe_109 : decode cX10_robe 109 = .ok (.goto 4, 3) := by decide +kernel
theorem dX10_robe_112 : decode cX10_robe 112 = .ok (.iconst 0, 1) := by decide +kernel
theorem dX10_robe_113 : decode cX10_robe 113 = .ok (.ireturn, 1) := by decide +kernel
theorem dX10_robe_114 : decode cX10_robe 114 = .ok (.aload_n 0, 1) := by decide +kernel
theorem dX10_robe_115 : decode cX10_robe 115 = .ok (.getfield 50, 3) := by decide +kernel
theorem dX10_robe_118 : decode cX10_robe 118 = .ok (.iload_n 1, 1) := by decide +kernel
theorem dX10_robe_119 : decode cX10_robe 119 = .ok (.baload, 1) := by decide +kernel
theorem dX10_robe_120 : decode cX10_robe 120 = .ok (.ifCond .eq 11, 3) := by decide +kernel
theorem dX10_robe_123 : decode cX10_robe 123 = .ok (.aload_n 0, 1) := by decide +kernel
theorem dX10_robe_124 : decode cX10_robe 124 = .ok (.iload_n 1, 1) := by decide +kernel
theorem dX10_robe_125 : decode cX10_robe 125 = .ok (.invokevirtual 216, 3) := by decide +kernel
theorem dX10_robe_128 : decode cX10_robe 128 = .ok (.goto 4, 3) := by decide +kernel
theorem dX10_robe_131 : decode cX10_robe 131 = .ok (.iconst 0, 1) := by decide +kernel
theorem dX10_robe_132 : decode cX10_robe 132 = .ok (.ireturn, 1) := by decide +kernel
theorem dX10_robe_133 : decode cX10_robe 133 = .ok (.aload_n 0, 1) := by decide +kernel
theorem dX10_robe_134 : decode cX10_robe 134 = .ok (.getfield 62, 3) := by decide +kernel
theorem dX10_robe_137 : decode cX10_robe 137 = .ok (.iload_n 1, 1) := by decide +kernel
theorem dX10_robe_138 : decode cX10_robe 138 = .ok (.iaload, 1) := by decide +kernel
theorem dX10_robe_139 : decode cX10_robe 139 = .ok (.ireturn, 1) := by decide +kernel
theorem dX10_robe_140 : decode cX10_robe 140 = .ok (.aload_n 0, 1) := by decide +kernel
theorem dX10_robe_141 : decode cX10_robe 141 = .ok (.getfield 65, 3) := by decide +kernel
theorem dX10_robe_144 : decode cX10_robe 144 = .ok (.iload_n 1, 1) := by decide +kernel
theorem dX10_robe_145 : decode cX10_robe 145 = .ok (.iaload, 1) := by decide +kernel
theorem dX10_robe_146 : decode cX10_robe 146 = .ok (.ireturn, 1) := by decide +kernel
theorem dX10_robe_147 : decode cX10_robe 147 = .ok (.aload_n 0, 1) := by decide +kernel
theorem dX10_robe_148 : decode cX10_robe 148 = .ok (.iload_n 1, 1) := by decide +kernel
theorem dX10_robe_149 : decode cX10_robe 149 = .ok (.invokevirtual 222, 3) := by decide +kernel
theorem dX10_robe_152 : decode cX10_robe 152 = .ok (.aload_n 0, 1) := by decide +kernel
theorem dX10_robe_153 : decode cX10_robe 153 = .ok (.invokevirtual 176, 3) := by decide +kernel
theorem dX10_robe_156 : decode cX10_robe 156 = .ok (.ireturn, 1) := by decide +kernel
theorem dX10_robe_157 : decode cX10_robe 157 = .ok (.iconst (-1), 1) := by decide +kernel
theorem dX10_robe_158 : decode cX10_robe 158 = .ok (.ireturn, 1) := by decide +kernel
theorem dX10_piece_0 : decode cX10_piece 0 = .ok (.aload_n 0, 1) := by decide +kernel
theorem dX10_piece_1 : decode cX10_piece 1 = .ok (.iload_n 1, 1) := by decide +kernel
theorem dX10_piece_2 : decode cX10_piece 2 = .ok (.invokevirtual 219, 3) := by decide +kernel
theorem dX10_piece_5 : decode cX10_piece 5 = .ok (.ifCond .eq 12, 3) := by decide +kernel
theorem dX10_piece_8 : decode cX10_piece 8 = .ok (.iload_n 2, 1) := by decide +kernel
theorem dX10_piece_9 : decode cX10_piece 9 = .ok (.iconst 0, 1) := by decide +kernel
theorem dX10_piece_10 : decode cX10_piece 10 = .ok (.iconst 5, 1) := by decide +kernel
theorem dX10_piece_11 : decode cX10_piece 11 = .ok (.invokestatic 141, 3) := by decide +kernel
theorem dX10_piece_14 : decode cX10_piece 14 = .ok (.ifCond .ne 5, 3) := by decide +kernel
theorem dX10_piece_17 : decode cX10_piece 17 = .ok (.iconst (-1), 1) := by decide +kernel
theorem dX10_piece_18 : decode cX10_piece 18 = .ok (.ireturn, 1) := by decide +kernel
theorem dX10_piece_19 : decode cX10_piece 19 = .ok (.aload_n 0, 1) := by decide +kernel
theorem dX10_piece_20 : decode cX10_piece 20 = .ok (.iload_n 1, 1) := by decide +kernel
theorem dX10_piece_21 : decode cX10_piece 21 = .ok (.invokevirtual 222, 3) := by decide +kernel
theorem dX10_piece_24 : decode cX10_piece 24 = .ok (.iload_n 3, 1) := by decide +kernel
theorem dX10_piece_25 : decode cX10_piece 25 = .ok (.iconst 0, 1) := by decide +kernel
theorem dX10_piece_26 : decode cX10_piece 26 = .ok (.aload_n 0, 1) := by decide +kernel
theorem dX10_piece_27 : decode cX10_piece 27 = .ok (.getfield 96, 3) := by decide +kernel
theorem dX10_piece_30 : decode cX10_piece 30 = .ok (.iload_n 2, 1) := by decide +kernel
theorem dX10_piece_31 : decode cX10_piece 31 = .ok (.iaload, 1) := by decide +kernel
theorem dX10_piece_32 : decode cX10_piece 32 = .ok (.iconst 1, 1) := by decide +kernel
theorem dX10_piece_33 : decode cX10_piece 33 = .ok (.isub, 1) := by decide +kernel
theorem dX10_piece_34 : decode cX10_piece 34 = .ok (.invokestatic 141, 3) := by decide +kernel
theorem dX10_piece_37 : decode cX10_piece 37 = .ok (.ifCond .eq 24, 3) := by decide +kernel
theorem dX10_piece_40 : decode cX10_piece 40 = .ok (.aload_n 0, 1) := by decide +kernel
theorem dX10_piece_41 : decode cX10_piece 41 = .ok (.getfield 102, 3) := by decide +kernel
theorem dX10_piece_44 : decode cX10_piece 44 = .ok (.aload_n 0, 1) := by decide +kernel
theorem dX10_piece_45 : decode cX10_piece 45 = .ok (.getfield 99, 3) := by decide +kernel
theorem dX10_piece_48 : decode cX10_piece 48 = .ok (.iload_n 2, 1) := by decide +kernel
theorem dX10_piece_49 : decode cX10_piece 49 = .ok (.iaload, 1) := by decide +kernel
theorem dX10_piece_50 : decode cX10_piece 50 = .ok (.iload_n 3, 1) := by decide +kernel
theorem dX10_piece_51 : decode cX10_piece 51 = .ok (.iadd, 1) := by decide +kernel
theorem dX10_piece_52 : decode cX10_piece 52 = .ok (.iaload, 1) := by decide +kernel
theorem dX10_piece_53 : decode cX10_piece 53 = .ok (.iload 4, 2) := by decide +kernel
theorem dX10_piece_55 : decode cX10_piece 55 = .ok (.invokestatic 161, 3) := by decide +kernel
theorem dX10_piece_58 : decode cX10_piece 58 = .ok (.goto 4, 3) := by decide +kernel
theorem dX10_piece_61 : decode cX10_piece 61 = .ok (.iconst (-1), 1) := by decide +kernel
theorem dX10_piece_62 : decode cX10_piece 62 = .ok (.ireturn, 1) := by decide +kernel
theorem dX10_miss_0 : decode cX10_miss 0 = .ok (.aload_n 0, 1) := by decide +kernel
theorem dX10_miss_1 : decode cX10_miss 1 = .ok (.iload_n 1, 1) := by decide +kernel
theorem dX10_miss_2 : decode cX10_miss 2 = .ok (.invokevirtual 219, 3) := by decide +kernel
theorem dX10_miss_5 : decode cX10_miss 5 = .ok (.ifCond .eq 12, 3) := by decide +kernel
theorem dX10_miss_8 : decode cX10_miss 8 = .ok (.iload_n 2, 1) := by decide +kernel
theorem dX10_miss_9 : decode cX10_miss 9 = .ok (.iconst 0, 1) := by decide +kernel
theorem dX10_miss_10 : decode cX10_miss 10 = .ok (.iconst 4, 1) := by decide +kernel
theorem dX10_miss_11 : decode cX10_miss 11 = .ok (.invokestatic 141, 3) := by decide +kernel
theorem dX10_miss_14 : decode cX10_miss 14 = .ok (.ifCond .ne 5, 3) := by decide +kernel
theorem dX10_miss_17 : decode cX10_miss 17 = .ok (.iconst (-1), 1) := by decide +kernel
theorem dX10_miss_18 : decode cX10_miss 18 = .ok (.ireturn, 1) := by decide +kernel
theorem dX10_miss_19 : decode cX10_miss 19 = .ok (.aload_n 0, 1) := by decide +kernel
theorem dX10_miss_20 : decode cX10_miss 20 = .ok (.iload_n 1, 1) := by decide +kernel
theorem dX10_miss_21 : decode cX10_miss 21 = .ok (.invokevirtual 222, 3) := by decide +kernel
theorem dX10_miss_24 : decode cX10_miss 24 = .ok (.aload_n 0, 1) := by decide +kernel
theorem dX10_miss_25 : decode cX10_miss 25 = .ok (.iload_n 2, 1) := by decide +kernel
theorem dX10_miss_26 : decode cX10_miss 26 = .ok (.invokevirtual 180, 3) := by decide +kernel
theorem dX10_miss_29 : decode cX10_miss 29 = .ok (.ireturn, 1) := by decide +kernel
theorem dX10_wears_0 : decode cX10_wears 0 = .ok (.bipush 120, 2) := by decide +kernel
theorem dX10_wears_2 : decode cX10_wears 2 = .ok (.iload_n 1, 1) := by decide +kernel
theorem dX10_wears_3 : decode cX10_wears 3 = .ok (.imul, 1) := by decide +kernel
theorem dX10_wears_4 : decode cX10_wears 4 = .ok (.aload_n 0, 1) := by decide +kernel
theorem dX10_wears_5 : decode cX10_wears 5 = .ok (.getfield 99, 3) := by decide +kernel
theorem dX10_wears_8 : decode cX10_wears 8 = .ok (.iload_n 2, 1) := by decide +kernel
theorem dX10_wears_9 : decode cX10_wears 9 = .ok (.iaload, 1) := by decide +kernel
theorem dX10_wears_10 : decode cX10_wears 10 = .ok (.iadd, 1) := by decide +kernel
theorem dX10_wears_11 : decode cX10_wears 11 = .ok (.iload_n 3, 1) := by decide +kernel
theorem dX10_wears_12 : decode cX10_wears 12 = .ok (.iadd, 1) := by decide +kernel
theorem dX10_wears_13 : decode cX10_wears 13 = .ok (.istore 4, 2) := by decide +kernel
theorem dX10_wears_15 : decode cX10_wears 15 = .ok (.aload_n 0, 1) := by decide +kernel
theorem dX10_wears_16 : decode cX10_wears 16 = .ok (.getfield 47, 3) := by decide +kernel
theorem dX10_wears_19 : decode cX10_wears 19 = .ok (.iload 4, 2) := by decide +kernel
theorem dX10_wears_21 : decode cX10_wears 21 = .ok (.iaload, 1) := by decide +kernel
theorem dX10_wears_22 : decode cX10_wears 22 = .ok (.sipush 900, 3) := by decide +kernel
theorem dX10_wears_25 : decode cX10_wears 25 = .ok (.if_icmp .lt 5, 3) := by decide +kernel
theorem dX10_wears_28 : decode cX10_wears 28 = .ok (.iconst 0, 1) := by decide +kernel
theorem dX10_wears_29 : decode cX10_wears 29 = .ok (.ireturn, 1) := by decide +kernel
theorem dX10_wears_30 : decode cX10_wears 30 = .ok (.aload_n 0, 1) := by decide +kernel
theorem dX10_wears_31 : decode cX10_wears 31 = .ok (.getfield 47, 3) := by decide +kernel
theorem dX10_wears_34 : decode cX10_wears 34 = .ok (.iload 4, 2) := by decide +kernel
theorem dX10_wears_36 : decode cX10_wears 36 = .ok (.dup2, 1) := by decide +kernel
theorem dX10_wears_37 : decode cX10_wears 37 = .ok (.iaload, 1) := by decide +kernel
theorem dX10_wears_38 : decode cX10_wears 38 = .ok (.bipush 100, 2) := by decide +kernel
theorem dX10_wears_40 : decode cX10_wears 40 = .ok (.iadd, 1) := by decide +kernel
theorem dX10_wears_41 : decode cX10_wears 41 = .ok (.iastore, 1) := by decide +kernel
theorem dX10_wears_42 : decode cX10_wears 42 = .ok (.iconst 1, 1) := by decide +kernel
theorem dX10_wears_43 : decode cX10_wears 43 = .ok (.ireturn, 1) := by decide +kernel
theorem dX10_wornOnce_0 : decode cX10_wornOnce 0 = .ok (.aload_n 0, 1) := by decide +kernel
theorem dX10_wornOnce_1 : decode cX10_wornOnce 1 = .ok (.iload_n 1, 1) := by decide +kernel
theorem dX10_wornOnce_2 : decode cX10_wornOnce 2 = .ok (.invokevirtual 222, 3) := by decide +kernel
theorem dX10_wornOnce_5 : decode cX10_wornOnce 5 = .ok (.iconst 0, 1) := by decide +kernel
theorem dX10_wornOnce_6 : decode cX10_wornOnce 6 = .ok (.istore_n 2, 1) := by decide +kernel
theorem dX10_wornOnce_7 : decode cX10_wornOnce 7 = .ok (.iconst 0, 1) := by decide +kernel
theorem dX10_wornOnce_8 : decode cX10_wornOnce 8 = .ok (.istore_n 3, 1) := by decide +kernel
theorem dX10_wornOnce_9 : decode cX10_wornOnce 9 = .ok (.iload_n 3, 1) := by decide +kernel
theorem dX10_wornOnce_10 : decode cX10_wornOnce 10 = .ok (.iconst 3, 1) := by decide +kernel
theorem dX10_wornOnce_11 : decode cX10_wornOnce 11 = .ok (.if_icmp .ge 37, 3) := by decide +kernel
theorem dX10_wornOnce_14 : decode cX10_wornOnce 14 = .ok (.iload_n 3, 1) := by decide +kernel
theorem dX10_wornOnce_15 : decode cX10_wornOnce 15 = .ok (.aload_n 0, 1) := by decide +kernel
theorem dX10_wornOnce_16 : decode cX10_wornOnce 16 = .ok (.getfield 96, 3) := by decide +kernel
theorem dX10_wornOnce_19 : decode cX10_wornOnce 19 = .ok (.iconst 2, 1) := by decide +kernel
theorem dX10_wornOnce_20 : decode cX10_wornOnce 20 = .ok (.iaload, 1) := by decide +kernel
theorem dX10_wornOnce_21 : decode cX10_wornOnce 21 = .ok (.if_icmp .ge 27, 3) := by decide +kernel
theorem dX10_wornOnce_24 : decode cX10_wornOnce 24 = .ok (.iload_n 2, 1) := by decide +kernel
theorem dX10_wornOnce_25 : decode cX10_wornOnce 25 = .ok (.aload_n 0, 1) := by decide +kernel
theorem dX10_wornOnce_26 : decode cX10_wornOnce 26 = .ok (.iload_n 1, 1) := by decide +kernel
theorem dX10_wornOnce_27 : decode cX10_wornOnce 27 = .ok (.iconst 2, 1) := by decide +kernel
theorem dX10_wornOnce_28 : decode cX10_wornOnce 28 = .ok (.iload_n 3, 1) := by decide +kernel
theorem dX10_wornOnce_29 : decode cX10_wornOnce 29 = .ok (.invokevirtual 226, 3) := by decide +kernel
theorem dX10_wornOnce_32 : decode cX10_wornOnce 32 = .ok (.aload_n 0, 1) := by decide +kernel
theorem dX10_wornOnce_33 : decode cX10_wornOnce 33 = .ok (.iload_n 1, 1) := by decide +kernel
theorem dX10_wornOnce_34 : decode cX10_wornOnce 34 = .ok (.iconst 3, 1) := by decide +kernel
theorem dX10_wornOnce_35 : decode cX10_wornOnce 35 = .ok (.iload_n 3, 1) := by decide +kernel
theorem dX10_wornOnce_36 : decode cX10_wornOnce 36 = .ok (.invokevirtual 226, 3) := by decide +kernel
theorem dX10_wornOnce_39 : decode cX10_wornOnce 39 = .ok (.iadd, 1) := by decide +kernel
theorem dX10_wornOnce_40 : decode cX10_wornOnce 40 = .ok (.iadd, 1) := by decide +kernel
theorem dX10_wornOnce_41 : decode cX10_wornOnce 41 = .ok (.istore_n 2, 1) := by decide +kernel
theorem dX10_wornOnce_42 : decode cX10_wornOnce 42 = .ok (.iinc 3 1, 3) := by decide +kernel
theorem dX10_wornOnce_45 : decode cX10_wornOnce 45 = .ok (.goto (-36), 3) := by decide +kernel
theorem dX10_wornOnce_48 : decode cX10_wornOnce 48 = .ok (.iconst 0, 1) := by decide +kernel
theorem dX10_wornOnce_49 : decode cX10_wornOnce 49 = .ok (.istore_n 3, 1) := by decide +kernel
theorem dX10_wornOnce_50 : decode cX10_wornOnce 50 = .ok (.iload_n 3, 1) := by decide +kernel
theorem dX10_wornOnce_51 : decode cX10_wornOnce 51 = .ok (.aload_n 0, 1) := by decide +kernel
theorem dX10_wornOnce_52 : decode cX10_wornOnce 52 = .ok (.getfield 96, 3) := by decide +kernel
theorem dX10_wornOnce_55 : decode cX10_wornOnce 55 = .ok (.iconst 5, 1) := by decide +kernel
theorem dX10_wornOnce_56 : decode cX10_wornOnce 56 = .ok (.iaload, 1) := by decide +kernel
theorem dX10_wornOnce_57 : decode cX10_wornOnce 57 = .ok (.if_icmp .ge 19, 3) := by decide +kernel
theorem dX10_wornOnce_60 : decode cX10_wornOnce 60 = .ok (.iload_n 2, 1) := by decide +kernel
theorem dX10_wornOnce_61 : decode cX10_wornOnce 61 = .ok (.aload_n 0, 1) := by decide +kernel
theorem dX10_wornOnce_62 : decode cX10_wornOnce 62 = .ok (.iload_n 1, 1) := by decide +kernel
theorem dX10_wornOnce_63 : decode cX10_wornOnce 63 = .ok (.iconst 5, 1) := by decide +kernel
theorem dX10_wornOnce_64 : decode cX10_wornOnce 64 = .ok (.iload_n 3, 1) := by decide +kernel
theorem dX10_wornOnce_65 : decode cX10_wornOnce 65 = .ok (.invokevirtual 226, 3) := by decide +kernel
theorem dX10_wornOnce_68 : decode cX10_wornOnce 68 = .ok (.iadd, 1) := by decide +kernel
theorem dX10_wornOnce_69 : decode cX10_wornOnce 69 = .ok (.istore_n 2, 1) := by decide +kernel
theorem dX10_wornOnce_70 : decode cX10_wornOnce 70 = .ok (.iinc 3 1, 3) := by decide +kernel
theorem dX10_wornOnce_73 : decode cX10_wornOnce 73 = .ok (.goto (-23), 3) := by decide +kernel
theorem dX10_wornOnce_76 : decode cX10_wornOnce 76 = .ok (.iload_n 2, 1) := by decide +kernel
theorem dX10_wornOnce_77 : decode cX10_wornOnce 77 = .ok (.aload_n 0, 1) := by decide +kernel
theorem dX10_wornOnce_78 : decode cX10_wornOnce 78 = .ok (.iload_n 1, 1) := by decide +kernel
theorem dX10_wornOnce_79 : decode cX10_wornOnce 79 = .ok (.iconst 0, 1) := by decide +kernel
theorem dX10_wornOnce_80 : decode cX10_wornOnce 80 = .ok (.aload_n 0, 1) := by decide +kernel
theorem dX10_wornOnce_81 : decode cX10_wornOnce 81 = .ok (.getfield 96, 3) := by decide +kernel
theorem dX10_wornOnce_84 : decode cX10_wornOnce 84 = .ok (.iconst 0, 1) := by decide +kernel
theorem dX10_wornOnce_85 : decode cX10_wornOnce 85 = .ok (.iaload, 1) := by decide +kernel
theorem dX10_wornOnce_86 : decode cX10_wornOnce 86 = .ok (.iconst 2, 1) := by decide +kernel
theorem dX10_wornOnce_87 : decode cX10_wornOnce 87 = .ok (.idiv, 1) := by decide +kernel
theorem dX10_wornOnce_88 : decode cX10_wornOnce 88 = .ok (.invokevirtual 226, 3) := by decide +kernel
theorem dX10_wornOnce_91 : decode cX10_wornOnce 91 = .ok (.iadd, 1) := by decide +kernel
theorem dX10_wornOnce_92 : decode cX10_wornOnce 92 = .ok (.aload_n 0, 1) := by decide +kernel
theorem dX10_wornOnce_93 : decode cX10_wornOnce 93 = .ok (.iload_n 1, 1) := by decide +kernel
theorem dX10_wornOnce_94 : decode cX10_wornOnce 94 = .ok (.iconst 1, 1) := by decide +kernel
theorem dX10_wornOnce_95 : decode cX10_wornOnce 95 = .ok (.aload_n 0, 1) := by decide +kernel
theorem dX10_wornOnce_96 : decode cX10_wornOnce 96 = .ok (.getfield 96, 3) := by decide +kernel
theorem dX10_wornOnce_99 : decode cX10_wornOnce 99 = .ok (.iconst 0, 1) := by decide +kernel
theorem dX10_wornOnce_100 : decode cX10_wornOnce 100 = .ok (.iaload, 1) := by decide +kernel
theorem dX10_wornOnce_101 : decode cX10_wornOnce 101 = .ok (.iconst 2, 1) := by decide +kernel
theorem dX10_wornOnce_102 : decode cX10_wornOnce 102 = .ok (.idiv, 1) := by decide +kernel
theorem dX10_wornOnce_103 : decode cX10_wornOnce 103 = .ok (.invokevirtual 226, 3) := by decide +kernel
theorem dX10_wornOnce_106 : decode cX10_wornOnce 106 = .ok (.iadd, 1) := by decide +kernel
theorem dX10_wornOnce_107 : decode cX10_wornOnce 107 = .ok (.ireturn, 1) := by decide +kernel
theorem dX10_wear_0 : decode cX10_wear 0 = .ok (.aload_n 0, 1) := by decide +kernel
theorem dX10_wear_1 : decode cX10_wear 1 = .ok (.iload_n 1, 1) := by decide +kernel
theorem dX10_wear_2 : decode cX10_wear 2 = .ok (.invokevirtual 219, 3) := by decide +kernel
theorem dX10_wear_5 : decode cX10_wear 5 = .ok (.ifCond .eq 11, 3) := by decide +kernel
theorem dX10_wear_8 : decode cX10_wear 8 = .ok (.aload_n 0, 1) := by decide +kernel
theorem dX10_wear_9 : decode cX10_wear 9 = .ok (.iload_n 1, 1) := by decide +kernel
theorem dX10_wear_10 : decode cX10_wear 10 = .ok (.invokevirtual 229, 3) := by decide +kernel
theorem dX10_wear_13 : decode cX10_wear 13 = .ok (.goto 4, 3) := by decide +kernel
theorem dX10_wear_16 : decode cX10_wear 16 = .ok (.iconst (-1), 1) := by decide +kernel
theorem dX10_wear_17 : decode cX10_wear 17 = .ok (.ireturn, 1) := by decide +kernel
theorem dX10_unpick_0 : decode cX10_unpick 0 = .ok (.aload_n 0, 1) := by decide +kernel
theorem dX10_unpick_1 : decode cX10_unpick 1 = .ok (.iload_n 1, 1) := by decide +kernel
theorem dX10_unpick_2 : decode cX10_unpick 2 = .ok (.invokevirtual 219, 3) := by decide +kernel
theorem dX10_unpick_5 : decode cX10_unpick 5 = .ok (.ifCond .ne 5, 3) := by decide +kernel
theorem dX10_unpick_8 : decode cX10_unpick 8 = .ok (.iconst (-1), 1) := by decide +kernel
theorem dX10_unpick_9 : decode cX10_unpick 9 = .ok (.ireturn, 1) := by decide +kernel
theorem dX10_unpick_10 : decode cX10_unpick 10 = .ok (.aload_n 0, 1) := by decide +kernel
theorem dX10_unpick_11 : decode cX10_unpick 11 = .ok (.iload_n 2, 1) := by decide +kernel
theorem dX10_unpick_12 : decode cX10_unpick 12 = .ok (.iload_n 3, 1) := by decide +kernel
theorem dX10_unpick_13 : decode cX10_unpick 13 = .ok (.aload_n 0, 1) := by decide +kernel
theorem dX10_unpick_14 : decode cX10_unpick 14 = .ok (.getfield 32, 3) := by decide +kernel
theorem dX10_unpick_17 : decode cX10_unpick 17 = .ok (.iload_n 1, 1) := by decide +kernel
theorem dX10_unpick_18 : decode cX10_unpick 18 = .ok (.iaload, 1) := by decide +kernel
theorem dX10_unpick_19 : decode cX10_unpick 19 = .ok (.invokevirtual 183, 3) := by decide +kernel
theorem dX10_unpick_22 : decode cX10_unpick 22 = .ok (.ifCond .ne 6, 3) := by decide +kernel
theorem dX10_unpick_25 : decode cX10_unpick 25 = .ok (.bipush (-2), 2) := by decide +kernel
theorem dX10_unpick_27 : decode cX10_unpick 27 = .ok (.ireturn, 1) := by decide +kernel
theorem dX10_unpick_28 : decode cX10_unpick 28 = .ok (.aload_n 0, 1) := by decide +kernel
theorem dX10_unpick_29 : decode cX10_unpick 29 = .ok (.getfield 65, 3) := by decide +kernel
theorem dX10_unpick_32 : decode cX10_unpick 32 = .ok (.iload_n 1, 1) := by decide +kernel
theorem dX10_unpick_33 : decode cX10_unpick 33 = .ok (.iaload, 1) := by decide +kernel
theorem dX10_unpick_34 : decode cX10_unpick 34 = .ok (.iconst (-1), 1) := by decide +kernel
theorem dX10_unpick_35 : decode cX10_unpick 35 = .ok (.if_icmp .ne 12, 3) := by decide +kernel
theorem dX10_unpick_38 : decode cX10_unpick 38 = .ok (.aload_n 0, 1) := by decide +kernel
theorem dX10_unpick_39 : decode cX10_unpick 39 = .ok (.getfield 50, 3) := by decide +kernel
theorem dX10_unpick_42 : decode cX10_unpick 42 = .ok (.iload_n 1, 1) := by decide +kernel
theorem dX10_unpick_43 : decode cX10_unpick 43 = .ok (.baload, 1) := by decide +kernel
theorem dX10_unpick_44 : decode cX10_unpick 44 = .ok (.ifCond .eq 6, 3) := by decide +kernel
theorem dX10_unpick_47 : decode cX10_unpick 47 = .ok (.bipush (-3), 2) := by decide +kernel
theorem dX10_unpick_49 : decode cX10_unpick 49 = .ok (.ireturn, 1) := by decide +kernel
theorem dX10_unpick_50 : decode cX10_unpick 50 = .ok (.aload_n 0, 1) := by decide +kernel
theorem dX10_unpick_51 : decode cX10_unpick 51 = .ok (.getfield 138, 3) := by decide +kernel
theorem dX10_unpick_54 : decode cX10_unpick 54 = .ok (.bipush 40, 2) := by decide +kernel
theorem dX10_unpick_56 : decode cX10_unpick 56 = .ok (.if_icmp .ne 6, 3) := by decide +kernel
theorem dX10_unpick_59 : decode cX10_unpick 59 = .ok (.bipush (-4), 2) := by decide +kernel
theorem dX10_unpick_61 : decode cX10_unpick 61 = .ok (.ireturn, 1) := by decide +kernel
theorem dX10_unpick_62 : decode cX10_unpick 62 = .ok (.aload_n 0, 1) := by decide +kernel
theorem dX10_unpick_63 : decode cX10_unpick 63 = .ok (.iload_n 1, 1) := by decide +kernel
theorem dX10_unpick_64 : decode cX10_unpick 64 = .ok (.invokevirtual 222, 3) := by decide +kernel
theorem dX10_unpick_67 : decode cX10_unpick 67 = .ok (.bipush 120, 2) := by decide +kernel
theorem dX10_unpick_69 : decode cX10_unpick 69 = .ok (.aload_n 0, 1) := by decide +kernel
theorem dX10_unpick_70 : decode cX10_unpick 70 = .ok (.getfield 138, 3) := by decide +kernel
theorem dX10_unpick_73 : decode cX10_unpick 73 = .ok (.imul, 1) := by decide +kernel
theorem dX10_unpick_74 : decode cX10_unpick 74 = .ok (.istore 4, 2) := by decide +kernel
theorem dX10_unpick_76 : decode cX10_unpick 76 = .ok (.iconst 0, 1) := by decide +kernel
theorem dX10_unpick_77 : decode cX10_unpick 77 = .ok (.istore 5, 2) := by decide +kernel
theorem dX10_unpick_79 : decode cX10_unpick 79 = .ok (.iload 5, 2) := by decide +kernel
theorem dX10_unpick_81 : decode cX10_unpick 81 = .ok (.bipush 6, 2) := by decide +kernel
theorem dX10_unpick_83 : decode cX10_unpick 83 = .ok (.if_icmp .ge 95, 3) := by decide +kernel
theorem dX10_unpick_86 : decode cX10_unpick 86 = .ok (.aload_n 0, 1) := by decide +kernel
theorem dX10_unpick_87 : decode cX10_unpick 87 = .ok (.getfield 105, 3) := by decide +kernel
theorem dX10_unpick_90 : decode cX10_unpick 90 = .ok (.iload 5, 2) := by decide +kernel
theorem dX10_unpick_92 : decode cX10_unpick 92 = .ok (.iaload, 1) := by decide +kernel
theorem dX10_unpick_93 : decode cX10_unpick 93 = .ok (.istore 6, 2) := by decide +kernel
theorem dX10_unpick_95 : decode cX10_unpick 95 = .ok (.aload_n 0, 1) := by decide +kernel
theorem dX10_unpick_96 : decode cX10_unpick 96 = .ok (.getfield 96, 3) := by decide +kernel
theorem dX10_unpick_99 : decode cX10_unpick 99 = .ok (.iload 6, 2) := by decide +kernel
theorem dX10_unpick_101 : decode cX10_unpick 101 = .ok (.iaload, 1) := by decide +kernel
theorem dX10_unpick_102 : decode cX10_unpick 102 = .ok (.istore 7, 2) := by decide +kernel
theorem dX10_unpick_104 : decode cX10_unpick 104 = .ok (.iconst 0, 1) := by decide +kernel
theorem dX10_unpick_105 : decode cX10_unpick 105 = .ok (.istore 8, 2) := by decide +kernel
theorem dX10_unpick_107 : decode cX10_unpick 107 = .ok (.iload 8, 2) := by decide +kernel
theorem dX10_unpick_109 : decode cX10_unpick 109 = .ok (.iload 7, 2) := by decide +kernel
theorem dX10_unpick_111 : decode cX10_unpick 111 = .ok (.if_icmp .ge 54, 3) := by decide +kernel
theorem dX10_unpick_114 : decode cX10_unpick 114 = .ok (.aload_n 0, 1) := by decide +kernel
theorem dX10_unpick_115 : decode cX10_unpick 115 = .ok (.getfield 23, 3) := by decide +kernel
theorem dX10_unpick_118 : decode cX10_unpick 118 = .ok (.iload 4, 2) := by decide +kernel
theorem dX10_unpick_120 : decode cX10_unpick 120 = .ok (.iload_n 3, 1) := by decide +kernel
theorem dX10_unpick_121 : decode cX10_unpick 121 = .ok (.iload 6, 2) := by decide +kernel
theorem dX10_unpick_123 : decode cX10_unpick 123 = .ok (.ishr, 1) := by decide +kernel
theorem dX10_unpick_124 : decode cX10_unpick 124 = .ok (.iconst 1, 1) := by decide +kernel
theorem dX10_unpick_125 : decode cX10_unpick 125 = .ok (.iand, 1) := by decide +kernel
theorem dX10_unpick_126 : decode cX10_unpick 126 = .ok (.iconst 1, 1) := by decide +kernel
theorem dX10_unpick_127 : decode cX10_unpick 127 = .ok (.if_icmp .ne 13, 3) := by decide +kernel
theorem dX10_unpick_130 : decode cX10_unpick 130 = .ok (.iload 7, 2) := by decide +kernel
theorem dX10_unpick_132 : decode cX10_unpick 132 = .ok (.iconst 1, 1) := by decide +kernel
theorem dX10_unpick_133 : decode cX10_unpick 133 = .ok (.isub, 1) := by decide +kernel
theorem dX10_unpick_134 : decode cX10_unpick 134 = .ok (.iload 8, 2) := by decide +kernel
theorem dX10_unpick_136 : decode cX10_unpick 136 = .ok (.isub, 1) := by decide +kernel
theorem dX10_unpick_137 : decode cX10_unpick 137 = .ok (.goto 5, 3) := by decide +kernel
theorem dX10_unpick_140 : decode cX10_unpick 140 = .ok (.iload 8, 2) := by decide +kernel
theorem dX10_unpick_142 : decode cX10_unpick 142 = .ok (.iadd, 1) := by decide +kernel
theorem dX10_unpick_143 : decode cX10_unpick 143 = .ok (.aload_n 0, 1) := by decide +kernel
theorem dX10_unpick_144 : decode cX10_unpick 144 = .ok (.getfield 102, 3) := by decide +kernel
theorem dX10_unpick_147 : decode cX10_unpick 147 = .ok (.aload_n 0, 1) := by decide +kernel
theorem dX10_unpick_148 : decode cX10_unpick 148 = .ok (.getfield 99, 3) := by decide +kernel
theorem dX10_unpick_151 : decode cX10_unpick 151 = .ok (.iload 6, 2) := by decide +kernel
theorem dX10_unpick_153 : decode cX10_unpick 153 = .ok (.iaload, 1) := by decide +kernel
theorem dX10_unpick_154 : decode cX10_unpick 154 = .ok (.iload 8, 2) := by decide +kernel
theorem dX10_unpick_156 : decode cX10_unpick 156 = .ok (.iadd, 1) := by decide +kernel
theorem dX10_unpick_157 : decode cX10_unpick 157 = .ok (.iaload, 1) := by decide +kernel
theorem dX10_unpick_158 : decode cX10_unpick 158 = .ok (.iastore, 1) := by decide +kernel
theorem dX10_unpick_159 : decode cX10_unpick 159 = .ok (.iinc 8 1, 3) := by decide +kernel
theorem dX10_unpick_162 : decode cX10_unpick 162 = .ok (.goto (-55), 3) := by decide +kernel
theorem dX10_unpick_165 : decode cX10_unpick 165 = .ok (.iload 4, 2) := by decide +kernel
theorem dX10_unpick_167 : decode cX10_unpick 167 = .ok (.iload 7, 2) := by decide +kernel
theorem dX10_unpick_169 : decode cX10_unpick 169 = .ok (.iadd, 1) := by decide +kernel
theorem dX10_unpick_170 : decode cX10_unpick 170 = .ok (.istore 4, 2) := by decide +kernel
theorem dX10_unpick_172 : decode cX10_unpick 172 = .ok (.iinc 5 1, 3) := by decide +kernel
theorem dX10_unpick_175 : decode cX10_unpick 175 = .ok (.goto (-96), 3) := by decide +kernel
theorem dX10_unpick_178 : decode cX10_unpick 178 = .ok (.aload_n 0, 1) := by decide +kernel
theorem dX10_unpick_179 : decode cX10_unpick 179 = .ok (.getfield 26, 3) := by decide +kernel
theorem dX10_unpick_182 : decode cX10_unpick 182 = .ok (.iload_n 1, 1) := by decide +kernel
theorem dX10_unpick_183 : decode cX10_unpick 183 = .ok (.iconst 0, 1) := by decide +kernel
theorem dX10_unpick_184 : decode cX10_unpick 184 = .ok (.bastore, 1) := by decide +kernel
theorem dX10_unpick_185 : decode cX10_unpick 185 = .ok (.aload_n 0, 1) := by decide +kernel
theorem dX10_unpick_186 : decode cX10_unpick 186 = .ok (.aload_n 0, 1) := by decide +kernel
theorem dX10_unpick_187 : decode cX10_unpick 187 = .ok (.iload_n 1, 1) := by decide +kernel
theorem dX10_unpick_188 : decode cX10_unpick 188 = .ok (.invokevirtual 216, 3) := by decide +kernel
theorem dX10_unpick_191 : decode cX10_unpick 191 = .ok (.aload_n 0, 1) := by decide +kernel
theorem dX10_unpick_192 : decode cX10_unpick 192 = .ok (.getfield 29, 3) := by decide +kernel
theorem dX10_unpick_195 : decode cX10_unpick 195 = .ok (.iload_n 1, 1) := by decide +kernel
theorem dX10_unpick_196 : decode cX10_unpick 196 = .ok (.iaload, 1) := by decide +kernel
theorem dX10_unpick_197 : decode cX10_unpick 197 = .ok (.aload_n 0, 1) := by decide +kernel
theorem dX10_unpick_198 : decode cX10_unpick 198 = .ok (.getfield 32, 3) := by decide +kernel
theorem dX10_unpick_201 : decode cX10_unpick 201 = .ok (.iload_n 1, 1) := by decide +kernel
theorem dX10_unpick_202 : decode cX10_unpick 202 = .ok (.iaload, 1) := by decide +kernel
theorem dX10_unpick_203 : decode cX10_unpick 203 = .ok (.invokevirtual 153, 3) := by decide +kernel
theorem dX10_unpick_206 : decode cX10_unpick 206 = .ok (.ireturn, 1) := by decide +kernel
theorem dX10_line_0 : decode cX10_line 0 = .ok (.aload_n 0, 1) := by decide +kernel
theorem dX10_line_1 : decode cX10_line 1 = .ok (.iload_n 1, 1) := by decide +kernel
theorem dX10_line_2 : decode cX10_line 2 = .ok (.invokevirtual 219, 3) := by decide +kernel
theorem dX10_line_5 : decode cX10_line 5 = .ok (.ifCond .eq 11, 3) := by decide +kernel
theorem dX10_line_8 : decode cX10_line 8 = .ok (.aload_n 0, 1) := by decide +kernel
theorem dX10_line_9 : decode cX10_line 9 = .ok (.iload_n 2, 1) := by decide +kernel
theorem dX10_line_10 : decode cX10_line 10 = .ok (.invokevirtual 157, 3) := by decide +kernel
theorem dX10_line_13 : decode cX10_line 13 = .ok (.ifCond .ne 5, 3) := by decide +kernel
theorem dX10_line_16 : decode cX10_line 16 = .ok (.iconst (-1), 1) := by decide +kernel
theorem dX10_line_17 : decode cX10_line 17 = .ok (.ireturn, 1) := by decide +kernel
theorem dX10_line_18 : decode cX10_line 18 = .ok (.aload_n 0, 1) := by decide +kernel
theorem dX10_line_19 : decode cX10_line 19 = .ok (.iload_n 1, 1) := by decide +kernel
theorem dX10_line_20 : decode cX10_line 20 = .ok (.invokevirtual 216, 3) := by decide +kernel
theorem dX10_line_23 : decode cX10_line 23 = .ok (.istore_n 3, 1) := by decide +kernel
theorem dX10_line_24 : decode cX10_line 24 = .ok (.aload_n 0, 1) := by decide +kernel
theorem dX10_line_25 : decode cX10_line 25 = .ok (.getfield 50, 3) := by decide +kernel
theorem dX10_line_28 : decode cX10_line 28 = .ok (.iload_n 1, 1) := by decide +kernel
theorem dX10_line_29 : decode cX10_line 29 = .ok (.baload, 1) := by decide +kernel
theorem dX10_line_30 : decode cX10_line 30 = .ok (.ifCond .ne 13, 3) := by decide +kernel
theorem dX10_line_33 : decode cX10_line 33 = .ok (.aload_n 0, 1) := by decide +kernel
theorem dX10_line_34 : decode cX10_line 34 = .ok (.getfield 13, 3) := by decide +kernel
theorem dX10_line_37 : decode cX10_line 37 = .ok (.iload_n 2, 1) := by decide +kernel
theorem dX10_line_38 : decode cX10_line 38 = .ok (.iaload, 1) := by decide +kernel
theorem dX10_line_39 : decode cX10_line 39 = .ok (.iload_n 3, 1) := by decide +kernel
theorem dX10_line_40 : decode cX10_line 40 = .ok (.if_icmp .ge 6, 3) := by decide +kernel
theorem dX10_line_43 : decode cX10_line 43 = .ok (.bipush (-3), 2) := by decide +kernel
theorem dX10_line_45 : decode cX10_line 45 = .ok (.ireturn, 1) := by decide +kernel
theorem dX10_line_46 : decode cX10_line 46 = .ok (.aload_n 0, 1) := by decide +kernel
theorem dX10_line_47 : decode cX10_line 47 = .ok (.getfield 50, 3) := by decide +kernel
theorem dX10_line_50 : decode cX10_line 50 = .ok (.iload_n 1, 1) := by decide +kernel
theorem dX10_line_51 : decode cX10_line 51 = .ok (.iconst 1, 1) := by decide +kernel
theorem dX10_line_52 : decode cX10_line 52 = .ok (.bastore, 1) := by decide +kernel
theorem dX10_line_53 : decode cX10_line 53 = .ok (.aload_n 0, 1) := by decide +kernel
theorem dX10_line_54 : decode cX10_line 54 = .ok (.getfield 53, 3) := by decide +kernel
theorem dX10_line_57 : decode cX10_line 57 = .ok (.iload_n 1, 1) := by decide +kernel
theorem dX10_line_58 : decode cX10_line 58 = .ok (.aload_n 0, 1) := by decide +kernel
theorem dX10_line_59 : decode cX10_line 59 = .ok (.getfield 17, 3) := by decide +kernel
theorem dX10_line_62 : decode cX10_line 62 = .ok (.iload_n 2, 1) := by decide +kernel
theorem dX10_line_63 : decode cX10_line 63 = .ok (.iaload, 1) := by decide +kernel
theorem dX10_line_64 : decode cX10_line 64 = .ok (.iastore, 1) := by decide +kernel
theorem dX10_line_65 : decode cX10_line 65 = .ok (.aload_n 0, 1) := by decide +kernel
theorem dX10_line_66 : decode cX10_line 66 = .ok (.getfield 56, 3) := by decide +kernel
theorem dX10_line_69 : decode cX10_line 69 = .ok (.iload_n 1, 1) := by decide +kernel
theorem dX10_line_70 : decode cX10_line 70 = .ok (.aload_n 0, 1) := by decide +kernel
theorem dX10_line_71 : decode cX10_line 71 = .ok (.getfield 20, 3) := by decide +kernel
theorem dX10_line_74 : decode cX10_line 74 = .ok (.iload_n 2, 1) := by decide +kernel
theorem dX10_line_75 : decode cX10_line 75 = .ok (.iaload, 1) := by decide +kernel
theorem dX10_line_76 : decode cX10_line 76 = .ok (.iastore, 1) := by decide +kernel
theorem dX10_line_77 : decode cX10_line 77 = .ok (.iconst 0, 1) := by decide +kernel
theorem dX10_line_78 : decode cX10_line 78 = .ok (.istore 4, 2) := by decide +kernel
theorem dX10_line_80 : decode cX10_line 80 = .ok (.iload 4, 2) := by decide +kernel
theorem dX10_line_82 : decode cX10_line 82 = .ok (.iload_n 3, 1) := by decide +kernel
theorem dX10_line_83 : decode cX10_line 83 = .ok (.if_icmp .ge 33, 3) := by decide +kernel
theorem dX10_line_86 : decode cX10_line 86 = .ok (.aload_n 0, 1) := by decide +kernel
theorem dX10_line_87 : decode cX10_line 87 = .ok (.getfield 59, 3) := by decide +kernel
theorem dX10_line_90 : decode cX10_line 90 = .ok (.bipush 120, 2) := by decide +kernel
theorem dX10_line_92 : decode cX10_line 92 = .ok (.iload_n 1, 1) := by decide +kernel
theorem dX10_line_93 : decode cX10_line 93 = .ok (.imul, 1) := by decide +kernel
theorem dX10_line_94 : decode cX10_line 94 = .ok (.iload 4, 2) := by decide +kernel
theorem dX10_line_96 : decode cX10_line 96 = .ok (.iadd, 1) := by decide +kernel
theorem dX10_line_97 : decode cX10_line 97 = .ok (.aload_n 0, 1) := by decide +kernel
theorem dX10_line_98 : decode cX10_line 98 = .ok (.getfield 23, 3) := by decide +kernel
theorem dX10_line_101 : decode cX10_line 101 = .ok (.bipush 120, 2) := by decide +kernel
theorem dX10_line_103 : decode cX10_line 103 = .ok (.iload_n 2, 1) := by decide +kernel
theorem dX10_line_104 : decode cX10_line 104 = .ok (.imul, 1) := by decide +kernel
theorem dX10_line_105 : decode cX10_line 105 = .ok (.iload 4, 2) := by decide +kernel
theorem dX10_line_107 : decode cX10_line 107 = .ok (.iadd, 1) := by decide +kernel
theorem dX10_line_108 : decode cX10_line 108 = .ok (.iaload, 1) := by decide +kernel
theorem dX10_line_109 : decode cX10_line 109 = .ok (.iastore, 1) := by decide +kernel
theorem dX10_line_110 : decode cX10_line 110 = .ok (.iinc 4 1, 3) := by decide +kernel
theorem dX10_line_113 : decode cX10_line 113 = .ok (.goto (-33), 3) := by decide +kernel
theorem dX10_line_116 : decode cX10_line 116 = .ok (.aload_n 0, 1) := by decide +kernel
theorem dX10_line_117 : decode cX10_line 117 = .ok (.getfield 13, 3) := by decide +kernel
theorem dX10_line_120 : decode cX10_line 120 = .ok (.iload_n 2, 1) := by decide +kernel
theorem dX10_line_121 : decode cX10_line 121 = .ok (.dup2, 1) := by decide +kernel
theorem dX10_line_122 : decode cX10_line 122 = .ok (.iaload, 1) := by decide +kernel
theorem dX10_line_123 : decode cX10_line 123 = .ok (.iload_n 3, 1) := by decide +kernel
theorem dX10_line_124 : decode cX10_line 124 = .ok (.isub, 1) := by decide +kernel
theorem dX10_line_125 : decode cX10_line 125 = .ok (.iastore, 1) := by decide +kernel
theorem dX10_line_126 : decode cX10_line 126 = .ok (.iconst 0, 1) := by decide +kernel
theorem dX10_line_127 : decode cX10_line 127 = .ok (.istore 4, 2) := by decide +kernel
theorem dX10_line_129 : decode cX10_line 129 = .ok (.iload 4, 2) := by decide +kernel
theorem dX10_line_131 : decode cX10_line 131 = .ok (.aload_n 0, 1) := by decide +kernel
theorem dX10_line_132 : decode cX10_line 132 = .ok (.getfield 13, 3) := by decide +kernel
theorem dX10_line_135 : decode cX10_line 135 = .ok (.iload_n 2, 1) := by decide +kernel
theorem dX10_line_136 : decode cX10_line 136 = .ok (.iaload, 1) := by decide +kernel
theorem dX10_line_137 : decode cX10_line 137 = .ok (.if_icmp .ge 35, 3) := by decide +kernel
theorem dX10_line_140 : decode cX10_line 140 = .ok (.aload_n 0, 1) := by decide +kernel
theorem dX10_line_141 : decode cX10_line 141 = .ok (.getfield 23, 3) := by decide +kernel
theorem dX10_line_144 : decode cX10_line 144 = .ok (.bipush 120, 2) := by decide +kernel
theorem dX10_line_146 : decode cX10_line 146 = .ok (.iload_n 2, 1) := by decide +kernel
theorem dX10_line_147 : decode cX10_line 147 = .ok (.imul, 1) := by decide +kernel
theorem dX10_line_148 : decode cX10_line 148 = .ok (.iload 4, 2) := by decide +kernel
theorem dX10_line_150 : decode cX10_line 150 = .ok (.iadd, 1) := by decide +kernel
theorem dX10_line_151 : decode cX10_line 151 = .ok (.aload_n 0, 1) := by decide +kernel
theorem dX10_line_152 : decode cX10_line 152 = .ok (.getfield 23, 3) := by decide +kernel
theorem dX10_line_155 : decode cX10_line 155 = .ok (.bipush 120, 2) := by decide +kernel
theorem dX10_line_157 : decode cX10_line 157 = .ok (.iload_n 2, 1) := by decide +kernel
theorem dX10_line_158 : decode cX10_line 158 = .ok (.imul, 1) := by decide +kernel
theorem dX10_line_159 : decode cX10_line 159 = .ok (.iload_n 3, 1) := by decide +kernel
theorem dX10_line_160 : decode cX10_line 160 = .ok (.iadd, 1) := by decide +kernel
theorem dX10_line_161 : decode cX10_line 161 = .ok (.iload 4, 2) := by decide +kernel
theorem dX10_line_163 : decode cX10_line 163 = .ok (.iadd, 1) := by decide +kernel
theorem dX10_line_164 : decode cX10_line 164 = .ok (.iaload, 1) := by decide +kernel
theorem dX10_line_165 : decode cX10_line 165 = .ok (.iastore, 1) := by decide +kernel
theorem dX10_line_166 : decode cX10_line 166 = .ok (.iinc 4 1, 3) := by decide +kernel
theorem dX10_line_169 : decode cX10_line 169 = .ok (.goto (-40), 3) := by decide +kernel
theorem dX10_line_172 : decode cX10_line 172 = .ok (.aload_n 0, 1) := by decide +kernel
theorem dX10_line_173 : decode cX10_line 173 = .ok (.getfield 7, 3) := by decide +kernel
theorem dX10_line_176 : decode cX10_line 176 = .ok (.iload_n 2, 1) := by decide +kernel
theorem dX10_line_177 : decode cX10_line 177 = .ok (.aload_n 0, 1) := by decide +kernel
theorem dX10_line_178 : decode cX10_line 178 = .ok (.getfield 13, 3) := by decide +kernel
