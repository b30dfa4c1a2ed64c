theorem dX10_line_181 : decode cX10_line 181 = .ok (.iload_n 2, 1) := by decide +kernel
theorem dX10_line_182 : decode cX10_line 182 = .ok (.iaload, 1) := by decide +kernel
theorem dX10_line_183 : decode cX10_line 183 = .ok (.ifCond .le 7, 3) := by decide +kernel
theorem dX10_line_186 : decode cX10_line 186 = .ok (.iconst 1, 1) := by decide +kernel
theorem dX10_line_187 : decode cX10_line 187 = .ok (.goto 4, 3) := by decide +kernel
theorem dX10_line_190 : decode cX10_line 190 = .ok (.iconst 0, 1) := by decide +kernel
theorem dX10_line_191 : decode cX10_line 191 = .ok (.bastore, 1) := by decide +kernel
theorem dX10_line_192 : decode cX10_line 192 = .ok (.aload_n 0, 1) := by decide +kernel
theorem dX10_line_193 : decode cX10_line 193 = .ok (.getfield 13, 3) := by decide +kernel
theorem dX10_line_196 : decode cX10_line 196 = .ok (.iload_n 2, 1) := by decide +kernel
theorem dX10_line_197 : decode cX10_line 197 = .ok (.iaload, 1) := by decide +kernel
theorem dX10_line_198 : decode cX10_line 198 = .ok (.ireturn, 1) := by decide +kernel
theorem dX10_unline_0 : decode cX10_unline 0 = .ok (.aload_n 0, 1) := by decide +kernel
theorem dX10_unline_1 : decode cX10_unline 1 = .ok (.iload_n 1, 1) := by decide +kernel
theorem dX10_unline_2 : decode cX10_unline 2 = .ok (.invokevirtual 219, 3) := by decide +kernel
theorem dX10_unline_5 : decode cX10_unline 5 = .ok (.ifCond .ne 5, 3) := by decide +kernel
theorem dX10_unline_8 : decode cX10_unline 8 = .ok (.iconst (-1), 1) := by decide +kernel
theorem dX10_unline_9 : decode cX10_unline 9 = .ok (.ireturn, 1) := by decide +kernel
theorem dX10_unline_10 : decode cX10_unline 10 = .ok (.aload_n 0, 1) := by decide +kernel
theorem dX10_unline_11 : decode cX10_unline 11 = .ok (.getfield 50, 3) := by decide +kernel
theorem dX10_unline_14 : decode cX10_unline 14 = .ok (.iload_n 1, 1) := by decide +kernel
theorem dX10_unline_15 : decode cX10_unline 15 = .ok (.baload, 1) := by decide +kernel
theorem dX10_unline_16 : decode cX10_unline 16 = .ok (.ifCond .ne 6, 3) := by decide +kernel
theorem dX10_unline_19 : decode cX10_unline 19 = .ok (.bipush (-3), 2) := by decide +kernel
theorem dX10_unline_21 : decode cX10_unline 21 = .ok (.ireturn, 1) := by decide +kernel
theorem dX10_unline_22 : decode cX10_unline 22 = .ok (.aload_n 0, 1) := by decide +kernel
theorem dX10_unline_23 : decode cX10_unline 23 = .ok (.getfield 138, 3) := by decide +kernel
theorem dX10_unline_26 : decode cX10_unline 26 = .ok (.bipush 40, 2) := by decide +kernel
theorem dX10_unline_28 : decode cX10_unline 28 = .ok (.if_icmp .ne 6, 3) := by decide +kernel
theorem dX10_unline_31 : decode cX10_unline 31 = .ok (.bipush (-4), 2) := by decide +kernel
theorem dX10_unline_33 : decode cX10_unline 33 = .ok (.ireturn, 1) := by decide +kernel
theorem dX10_unline_34 : decode cX10_unline 34 = .ok (.aload_n 0, 1) := by decide +kernel
theorem dX10_unline_35 : decode cX10_unline 35 = .ok (.iload_n 1, 1) := by decide +kernel
theorem dX10_unline_36 : decode cX10_unline 36 = .ok (.invokevirtual 216, 3) := by decide +kernel
theorem dX10_unline_39 : decode cX10_unline 39 = .ok (.istore_n 2, 1) := by decide +kernel
theorem dX10_unline_40 : decode cX10_unline 40 = .ok (.iconst 0, 1) := by decide +kernel
theorem dX10_unline_41 : decode cX10_unline 41 = .ok (.istore_n 3, 1) := by decide +kernel
theorem dX10_unline_42 : decode cX10_unline 42 = .ok (.iload_n 3, 1) := by decide +kernel
theorem dX10_unline_43 : decode cX10_unline 43 = .ok (.iload_n 2, 1) := by decide +kernel
theorem dX10_unline_44 : decode cX10_unline 44 = .ok (.if_icmp .ge 34, 3) := by decide +kernel
theorem dX10_unline_47 : decode cX10_unline 47 = .ok (.aload_n 0, 1) := by decide +kernel
theorem dX10_unline_48 : decode cX10_unline 48 = .ok (.getfield 23, 3) := by decide +kernel
theorem dX10_unline_51 : decode cX10_unline 51 = .ok (.bipush 120, 2) := by decide +kernel
theorem dX10_unline_53 : decode cX10_unline 53 = .ok (.aload_n 0, 1) := by decide +kernel
theorem dX10_unline_54 : decode cX10_unline 54 = .ok (.getfield 138, 3) := by decide +kernel
theorem dX10_unline_57 : decode cX10_unline 57 = .ok (.imul, 1) := by decide +kernel
theorem dX10_unline_58 : decode cX10_unline 58 = .ok (.iload_n 3, 1) := by decide +kernel
theorem dX10_unline_59 : decode cX10_unline 59 = .ok (.iadd, 1) := by decide +kernel
theorem dX10_unline_60 : decode cX10_unline 60 = .ok (.aload_n 0, 1) := by decide +kernel
theorem dX10_unline_61 : decode cX10_unline 61 = .ok (.getfield 59, 3) := by decide +kernel
theorem dX10_unline_64 : decode cX10_unline 64 = .ok (.bipush 120, 2) := by decide +kernel
theorem dX10_unline_66 : decode cX10_unline 66 = .ok (.iload_n 1, 1) := by decide +kernel
theorem dX10_unline_67 : decode cX10_unline 67 = .ok (.imul, 1) := by decide +kernel
theorem dX10_unline_68 : decode cX10_unline 68 = .ok (.iload_n 3, 1) := by decide +kernel
theorem dX10_unline_69 : decode cX10_unline 69 = .ok (.iadd, 1) := by decide +kernel
theorem dX10_unline_70 : decode cX10_unline 70 = .ok (.iaload, 1) := by decide +kernel
theorem dX10_unline_71 : decode cX10_unline 71 = .ok (.iastore, 1) := by decide +kernel
theorem dX10_unline_72 : decode cX10_unline 72 = .ok (.iinc 3 1, 3) := by decide +kernel
theorem dX10_unline_75 : decode cX10_unline 75 = .ok (.goto (-33), 3) := by decide +kernel
theorem dX10_unline_78 : decode cX10_unline 78 = .ok (.aload_n 0, 1) := by decide +kernel
theorem dX10_unline_79 : decode cX10_unline 79 = .ok (.getfield 50, 3) := by decide +kernel
theorem dX10_unline_82 : decode cX10_unline 82 = .ok (.iload_n 1, 1) := by decide +kernel
theorem dX10_unline_83 : decode cX10_unline 83 = .ok (.iconst 0, 1) := by decide +kernel
theorem dX10_unline_84 : decode cX10_unline 84 = .ok (.bastore, 1) := by decide +kernel
theorem dX10_unline_85 : decode cX10_unline 85 = .ok (.aload_n 0, 1) := by decide +kernel
theorem dX10_unline_86 : decode cX10_unline 86 = .ok (.iload_n 2, 1) := by decide +kernel
theorem dX10_unline_87 : decode cX10_unline 87 = .ok (.aload_n 0, 1) := by decide +kernel
theorem dX10_unline_88 : decode cX10_unline 88 = .ok (.getfield 53, 3) := by decide +kernel
theorem dX10_unline_91 : decode cX10_unline 91 = .ok (.iload_n 1, 1) := by decide +kernel
theorem dX10_unline_92 : decode cX10_unline 92 = .ok (.iaload, 1) := by decide +kernel
theorem dX10_unline_93 : decode cX10_unline 93 = .ok (.aload_n 0, 1) := by decide +kernel
theorem dX10_unline_94 : decode cX10_unline 94 = .ok (.getfield 56, 3) := by decide +kernel
theorem dX10_unline_97 : decode cX10_unline 97 = .ok (.iload_n 1, 1) := by decide +kernel
theorem dX10_unline_98 : decode cX10_unline 98 = .ok (.iaload, 1) := by decide +kernel
theorem dX10_unline_99 : decode cX10_unline 99 = .ok (.invokevirtual 153, 3) := by decide +kernel
theorem dX10_unline_102 : decode cX10_unline 102 = .ok (.ireturn, 1) := by decide +kernel
theorem dX10_here_0 : decode cX10_here 0 = .ok (.aload_n 0, 1) := by decide +kernel
theorem dX10_here_1 : decode cX10_here 1 = .ok (.getfield 232, 3) := by decide +kernel
theorem dX10_here_4 : decode cX10_here 4 = .ok (.aload_n 0, 1) := by decide +kernel
theorem dX10_here_5 : decode cX10_here 5 = .ok (.getfield 148, 3) := by decide +kernel
theorem dX10_here_8 : decode cX10_here 8 = .ok (.if_icmp .ge 15, 3) := by decide +kernel
theorem dX10_here_11 : decode cX10_here 11 = .ok (.aload_n 0, 1) := by decide +kernel
theorem dX10_here_12 : decode cX10_here 12 = .ok (.getfield 93, 3) := by decide +kernel
theorem dX10_here_15 : decode cX10_here 15 = .ok (.aload_n 0, 1) := by decide +kernel
theorem dX10_here_16 : decode cX10_here 16 = .ok (.getfield 232, 3) := by decide +kernel
theorem dX10_here_19 : decode cX10_here 19 = .ok (.iaload, 1) := by decide +kernel
theorem dX10_here_20 : decode cX10_here 20 = .ok (.goto 4, 3) := by decide +kernel
theorem dX10_here_23 : decode cX10_here 23 = .ok (.iconst (-1), 1) := by decide +kernel
theorem dX10_here_24 : decode cX10_here 24 = .ok (.ireturn, 1) := by decide +kernel
theorem dX10_eats_0 : decode cX10_eats 0 = .ok (.aload_n 0, 1) := by decide +kernel
theorem dX10_eats_1 : decode cX10_eats 1 = .ok (.getfield 235, 3) := by decide +kernel
theorem dX10_eats_4 : decode cX10_eats 4 = .ok (.ifCond .ne 24, 3) := by decide +kernel
theorem dX10_eats_7 : decode cX10_eats 7 = .ok (.aload_n 0, 1) := by decide +kernel
theorem dX10_eats_8 : decode cX10_eats 8 = .ok (.invokevirtual 239, 3) := by decide +kernel
theorem dX10_eats_11 : decode cX10_eats 11 = .ok (.iload_n 1, 1) := by decide +kernel
theorem dX10_eats_12 : decode cX10_eats 12 = .ok (.if_icmp .ne 16, 3) := by decide +kernel
theorem dX10_eats_15 : decode cX10_eats 15 = .ok (.aload_n 0, 1) := by decide +kernel
theorem dX10_eats_16 : decode cX10_eats 16 = .ok (.dup, 1) := by decide +kernel
theorem dX10_eats_17 : decode cX10_eats 17 = .ok (.getfield 232, 3) := by decide +kernel
theorem dX10_eats_20 : decode cX10_eats 20 = .ok (.iconst 1, 1) := by decide +kernel
theorem dX10_eats_21 : decode cX10_eats 21 = .ok (.iadd, 1) := by decide +kernel
theorem dX10_eats_22 : decode cX10_eats 22 = .ok (.putfield 232, 3) := by decide +kernel
theorem dX10_eats_25 : decode cX10_eats 25 = .ok (.goto 8, 3) := by decide +kernel
theorem dX10_eats_28 : decode cX10_eats 28 = .ok (.aload_n 0, 1) := by decide +kernel
theorem dX10_eats_29 : decode cX10_eats 29 = .ok (.iconst 1, 1) := by decide +kernel
theorem dX10_eats_30 : decode cX10_eats 30 = .ok (.putfield 235, 3) := by decide +kernel
theorem dX10_eats_33 : decode cX10_eats 33 = .ok (.return_, 1) := by decide +kernel
theorem dX10_eats3_0 : decode cX10_eats3 0 = .ok (.aload_n 0, 1) := by decide +kernel
theorem dX10_eats3_1 : decode cX10_eats3 1 = .ok (.iload_n 1, 1) := by decide +kernel
theorem dX10_eats3_2 : decode cX10_eats3 2 = .ok (.invokevirtual 242, 3) := by decide +kernel
theorem dX10_eats3_5 : decode cX10_eats3 5 = .ok (.aload_n 0, 1) := by decide +kernel
theorem dX10_eats3_6 : decode cX10_eats3 6 = .ok (.iload_n 2, 1) := by decide +kernel
theorem dX10_eats3_7 : decode cX10_eats3 7 = .ok (.invokevirtual 242, 3) := by decide +kernel
theorem dX10_eats3_10 : decode cX10_eats3 10 = .ok (.aload_n 0, 1) := by decide +kernel
theorem dX10_eats3_11 : decode cX10_eats3 11 = .ok (.iload_n 3, 1) := by decide +kernel
theorem dX10_eats3_12 : decode cX10_eats3 12 = .ok (.invokevirtual 242, 3) := by decide +kernel
theorem dX10_eats3_15 : decode cX10_eats3 15 = .ok (.return_, 1) := by decide +kernel
theorem dX10_whatRead_0 : decode cX10_whatRead 0 = .ok (.aload_n 0, 1) := by decide +kernel
theorem dX10_whatRead_1 : decode cX10_whatRead 1 = .ok (.invokevirtual 239, 3) := by decide +kernel
theorem dX10_whatRead_4 : decode cX10_whatRead 4 = .ok (.lookupswitch 120 #[(97, 44), (99, 74), (108, 96), (114, 56)], 44) := by decide +kernel
theorem dX10_whatRead_48 : decode cX10_whatRead 48 = .ok (.aload_n 0, 1) := by decide +kernel
theorem dX10_whatRead_49 : decode cX10_whatRead 49 = .ok (.bipush 97, 2) := by decide +kernel
theorem dX10_whatRead_51 : decode cX10_whatRead 51 = .ok (.bipush 103, 2) := by decide +kernel
theorem dX10_whatRead_53 : decode cX10_whatRead 53 = .ok (.bipush 101, 2) := by decide +kernel
theorem dX10_whatRead_55 : decode cX10_whatRead 55 = .ok (.invokevirtual 245, 3) := by decide +kernel
theorem dX10_whatRead_58 : decode cX10_whatRead 58 = .ok (.iconst 1, 1) := by decide +kernel
theorem dX10_whatRead_59 : decode cX10_whatRead 59 = .ok (.ireturn, 1) := by decide +kernel
theorem dX10_whatRead_60 : decode cX10_whatRead 60 = .ok (.aload_n 0, 1) := by decide +kernel
theorem dX10_whatRead_61 : decode cX10_whatRead 61 = .ok (.bipush 114, 2) := by decide +kernel
theorem dX10_whatRead_63 : decode cX10_whatRead 63 = .ok (.bipush 97, 2) := by decide +kernel
theorem dX10_whatRead_65 : decode cX10_whatRead 65 = .ok (.bipush 110, 2) := by decide +kernel
theorem dX10_whatRead_67 : decode cX10_whatRead 67 = .ok (.invokevirtual 245, 3) := by decide +kernel
theorem dX10_whatRead_70 : decode cX10_whatRead 70 = .ok (.aload_n 0, 1) := by decide +kernel
theorem dX10_whatRead_71 : decode cX10_whatRead 71 = .ok (.bipush 107, 2) := by decide +kernel
theorem dX10_whatRead_73 : decode cX10_whatRead 73 = .ok (.invokevirtual 242, 3) := by decide +kernel
theorem dX10_whatRead_76 : decode cX10_whatRead 76 = .ok (.iconst 2, 1) := by decide +kernel
theorem dX10_whatRead_77 : decode cX10_whatRead 77 = .ok (.ireturn, 1) := by decide +kernel
theorem dX10_whatRead_78 : decode cX10_whatRead 78 = .ok (.aload_n 0, 1) := by decide +kernel
theorem dX10_whatRead_79 : decode cX10_whatRead 79 = .ok (.bipush 99, 2) := by decide +kernel
theorem dX10_whatRead_81 : decode cX10_whatRead 81 = .ok (.bipush 111, 2) := by decide +kernel
theorem dX10_whatRead_83 : decode cX10_whatRead 83 = .ok (.bipush 108, 2) := by decide +kernel
theorem dX10_whatRead_85 : decode cX10_whatRead 85 = .ok (.invokevirtual 245, 3) := by decide +kernel
theorem dX10_whatRead_88 : decode cX10_whatRead 88 = .ok (.aload_n 0, 1) := by decide +kernel
theorem dX10_whatRead_89 : decode cX10_whatRead 89 = .ok (.bipush 111, 2) := by decide +kernel
theorem dX10_whatRead_91 : decode cX10_whatRead 91 = .ok (.bipush 117, 2) := by decide +kernel
theorem dX10_whatRead_93 : decode cX10_whatRead 93 = .ok (.bipush 114, 2) := by decide +kernel
theorem dX10_whatRead_95 : decode cX10_whatRead 95 = .ok (.invokevirtual 245, 3) := by decide +kernel
theorem dX10_whatRead_98 : decode cX10_whatRead 98 = .ok (.iconst 3, 1) := by decide +kernel
theorem dX10_whatRead_99 : decode cX10_whatRead 99 = .ok (.ireturn, 1) := by decide +kernel
theorem dX10_whatRead_100 : decode cX10_whatRead 100 = .ok (.aload_n 0, 1) := by decide +kernel
theorem dX10_whatRead_101 : decode cX10_whatRead 101 = .ok (.bipush 108, 2) := by decide +kernel
theorem dX10_whatRead_103 : decode cX10_whatRead 103 = .ok (.bipush 105, 2) := by decide +kernel
theorem dX10_whatRead_105 : decode cX10_whatRead 105 = .ok (.bipush 110, 2) := by decide +kernel
theorem dX10_whatRead_107 : decode cX10_whatRead 107 = .ok (.invokevirtual 245, 3) := by decide +kernel
theorem dX10_whatRead_110 : decode cX10_whatRead 110 = .ok (.aload_n 0, 1) := by decide +kernel
theorem dX10_whatRead_111 : decode cX10_whatRead 111 = .ok (.bipush 101, 2) := by decide +kernel
theorem dX10_whatRead_113 : decode cX10_whatRead 113 = .ok (.invokevirtual 242, 3) := by decide +kernel
theorem dX10_whatRead_116 : decode cX10_whatRead 116 = .ok (.aload_n 0, 1) := by decide +kernel
theorem dX10_whatRead_117 : decode cX10_whatRead 117 = .ok (.bipush 100, 2) := by decide +kernel
theorem dX10_whatRead_119 : decode cX10_whatRead 119 = .ok (.invokevirtual 242, 3) := by decide +kernel
theorem dX10_whatRead_122 : decode cX10_whatRead 122 = .ok (.iconst 4, 1) := by decide +kernel
theorem dX10_whatRead_123 : decode cX10_whatRead 123 = .ok (.ireturn, 1) := by decide +kernel
theorem dX10_whatRead_124 : decode cX10_whatRead 124 = .ok (.aload_n 0, 1) := by decide +kernel
theorem dX10_whatRead_125 : decode cX10_whatRead 125 = .ok (.bipush 115, 2) := by decide +kernel
theorem dX10_whatRead_127 : decode cX10_whatRead 127 = .ok (.invokevirtual 242, 3) := by decide +kernel
theorem dX10_whatRead_130 : decode cX10_whatRead 130 = .ok (.aload_n 0, 1) := by decide +kernel
theorem dX10_whatRead_131 : decode cX10_whatRead 131 = .ok (.getfield 235, 3) := by decide +kernel
theorem dX10_whatRead_134 : decode cX10_whatRead 134 = .ok (.ifCond .ne 36, 3) := by decide +kernel
theorem dX10_whatRead_137 : decode cX10_whatRead 137 = .ok (.aload_n 0, 1) := by decide +kernel
theorem dX10_whatRead_138 : decode cX10_whatRead 138 = .ok (.invokevirtual 239, 3) := by decide +kernel
theorem dX10_whatRead_141 : decode cX10_whatRead 141 = .ok (.bipush 108, 2) := by decide +kernel
theorem dX10_whatRead_143 : decode cX10_whatRead 143 = .ok (.if_icmp .ne 27, 3) := by decide +kernel
theorem dX10_whatRead_146 : decode cX10_whatRead 146 = .ok (.aload_n 0, 1) := by decide +kernel
theorem dX10_whatRead_147 : decode cX10_whatRead 147 = .ok (.bipush 108, 2) := by decide +kernel
theorem dX10_whatRead_149 : decode cX10_whatRead 149 = .ok (.bipush 101, 2) := by decide +kernel
theorem dX10_whatRead_151 : decode cX10_whatRead 151 = .ok (.bipush 101, 2) := by decide +kernel
theorem dX10_whatRead_153 : decode cX10_whatRead 153 = .ok (.invokevirtual 245, 3) := by decide +kernel
theorem dX10_whatRead_156 : decode cX10_whatRead 156 = .ok (.aload_n 0, 1) := by decide +kernel
theorem dX10_whatRead_157 : decode cX10_whatRead 157 = .ok (.bipush 118, 2) := by decide +kernel
theorem dX10_whatRead_159 : decode cX10_whatRead 159 = .ok (.invokevirtual 242, 3) := by decide +kernel
theorem dX10_whatRead_162 : decode cX10_whatRead 162 = .ok (.aload_n 0, 1) := by decide +kernel
theorem dX10_whatRead_163 : decode cX10_whatRead 163 = .ok (.bipush 101, 2) := by decide +kernel
theorem dX10_whatRead_165 : decode cX10_whatRead 165 = .ok (.invokevirtual 242, 3) := by decide +kernel
theorem dX10_whatRead_168 : decode cX10_whatRead 168 = .ok (.iconst 5, 1) := by decide +kernel
theorem dX10_whatRead_169 : decode cX10_whatRead 169 = .ok (.ireturn, 1) := by decide +kernel
theorem dX10_whatRead_170 : decode cX10_whatRead 170 = .ok (.aload_n 0, 1) := by decide +kernel
theorem dX10_whatRead_171 : decode cX10_whatRead 171 = .ok (.bipush 101, 2) := by decide +kernel
theorem dX10_whatRead_173 : decode cX10_whatRead 173 = .ok (.bipush 97, 2) := by decide +kernel
theorem dX10_whatRead_175 : decode cX10_whatRead 175 = .ok (.bipush 115, 2) := by decide +kernel
theorem dX10_whatRead_177 : decode cX10_whatRead 177 = .ok (.invokevirtual 245, 3) := by decide +kernel
theorem dX10_whatRead_180 : decode cX10_whatRead 180 = .ok (.aload_n 0, 1) := by decide +kernel
theorem dX10_whatRead_181 : decode cX10_whatRead 181 = .ok (.bipush 111, 2) := by decide +kernel
theorem dX10_whatRead_183 : decode cX10_whatRead 183 = .ok (.invokevirtual 242, 3) := by decide +kernel
theorem dX10_whatRead_186 : decode cX10_whatRead 186 = .ok (.aload_n 0, 1) := by decide +kernel
theorem dX10_whatRead_187 : decode cX10_whatRead 187 = .ok (.bipush 110, 2) := by decide +kernel
theorem dX10_whatRead_189 : decode cX10_whatRead 189 = .ok (.invokevirtual 242, 3) := by decide +kernel
theorem dX10_whatRead_192 : decode cX10_whatRead 192 = .ok (.iconst 0, 1) := by decide +kernel
theorem dX10_whatRead_193 : decode cX10_whatRead 193 = .ok (.ireturn, 1) := by decide +kernel
theorem dX10_clauseRead_0 : decode cX10_clauseRead 0 = .ok (.aload_n 0, 1) := by decide +kernel
theorem dX10_clauseRead_1 : decode cX10_clauseRead 1 = .ok (.getfield 111, 3) := by decide +kernel
theorem dX10_clauseRead_4 : decode cX10_clauseRead 4 = .ok (.iconst 3, 1) := by decide +kernel
theorem dX10_clauseRead_5 : decode cX10_clauseRead 5 = .ok (.iload_n 1, 1) := by decide +kernel
theorem dX10_clauseRead_6 : decode cX10_clauseRead 6 = .ok (.imul, 1) := by decide +kernel
theorem dX10_clauseRead_7 : decode cX10_clauseRead 7 = .ok (.aload_n 0, 1) := by decide +kernel
theorem dX10_clauseRead_8 : decode cX10_clauseRead 8 = .ok (.invokevirtual 249, 3) := by decide +kernel
theorem dX10_clauseRead_11 : decode cX10_clauseRead 11 = .ok (.iastore, 1) := by decide +kernel
theorem dX10_clauseRead_12 : decode cX10_clauseRead 12 = .ok (.aload_n 0, 1) := by decide +kernel
theorem dX10_clauseRead_13 : decode cX10_clauseRead 13 = .ok (.invokevirtual 239, 3) := by decide +kernel
theorem dX10_clauseRead_16 : decode cX10_clauseRead 16 = .ok (.istore_n 2, 1) := by decide +kernel
theorem dX10_clauseRead_17 : decode cX10_clauseRead 17 = .ok (.aload_n 0, 1) := by decide +kernel
theorem dX10_clauseRead_18 : decode cX10_clauseRead 18 = .ok (.getfield 235, 3) := by decide +kernel
theorem dX10_clauseRead_21 : decode cX10_clauseRead 21 = .ok (.ifCond .ne 34, 3) := by decide +kernel
theorem dX10_clauseRead_24 : decode cX10_clauseRead 24 = .ok (.iload_n 2, 1) := by decide +kernel
theorem dX10_clauseRead_25 : decode cX10_clauseRead 25 = .ok (.bipush 60, 2) := by decide +kernel
theorem dX10_clauseRead_27 : decode cX10_clauseRead 27 = .ok (.if_icmp .eq 15, 3) := by decide +kernel
theorem dX10_clauseRead_30 : decode cX10_clauseRead 30 = .ok (.iload_n 2, 1) := by decide +kernel
theorem dX10_clauseRead_31 : decode cX10_clauseRead 31 = .ok (.bipush 61, 2) := by decide +kernel
theorem dX10_clauseRead_33 : decode cX10_clauseRead 33 = .ok (.if_icmp .eq 9, 3) := by decide +kernel
theorem dX10_clauseRead_36 : decode cX10_clauseRead 36 = .ok (.iload_n 2, 1) := by decide +kernel
theorem dX10_clauseRead_37 : decode cX10_clauseRead 37 = .ok (.bipush 62, 2) := by decide +kernel
theorem dX10_clauseRead_39 : decode cX10_clauseRead 39 = .ok (.if_icmp .ne 16, 3) := by decide +kernel
theorem dX10_clauseRead_42 : decode cX10_clauseRead 42 = .ok (.aload_n 0, 1) := by decide +kernel
theorem dX10_clauseRead_43 : decode cX10_clauseRead 43 = .ok (.dup, 1) := by decide +kernel
theorem dX10_clauseRead_44 : decode cX10_clauseRead 44 = .ok (.getfield 232, 3) := by decide +kernel
theorem dX10_clauseRead_47 : decode cX10_clauseRead 47 = .ok (.iconst 1, 1) := by decide +kernel
theorem dX10_clauseRead_48 : decode cX10_clauseRead 48 = .ok (.iadd, 1) := by decide +kernel
theorem dX10_clauseRead_49 : decode cX10_clauseRead 49 = .ok (.putfield 232, 3) := by decide +kernel
theorem dX10_clauseRead_52 : decode cX10_clauseRead 52 = .ok (.goto 8, 3) := by decide +kernel
theorem dX10_clauseRead_55 : decode cX10_clauseRead 55 = .ok (.aload_n 0, 1) := by decide +kernel
theorem dX10_clauseRead_56 : decode cX10_clauseRead 56 = .ok (.iconst 1, 1) := by decide +kernel
theorem dX10_clauseRead_57 : decode cX10_clauseRead 57 = .ok (.putfield 235, 3) := by decide +kernel
theorem dX10_clauseRead_60 : decode cX10_clauseRead 60 = .ok (.aload_n 0, 1) := by decide +kernel
theorem dX10_clauseRead_61 : decode cX10_clauseRead 61 = .ok (.getfield 111, 3) := by decide +kernel
theorem dX10_clauseRead_64 : decode cX10_clauseRead 64 = .ok (.iconst 3, 1) := by decide +kernel
theorem dX10_clauseRead_65 : decode cX10_clauseRead 65 = .ok (.iload_n 1, 1) := by decide +kernel
theorem dX10_clauseRead_66 : decode cX10_clauseRead 66 = .ok (.imul, 1) := by decide +kernel
theorem dX10_clauseRead_67 : decode cX10_clauseRead 67 = .ok (.iconst 1, 1) := by decide +kernel
theorem dX10_clauseRead_68 : decode cX10_clauseRead 68 = .ok (.iadd, 1) := by decide +kernel
theorem dX10_clauseRead_69 : decode cX10_clauseRead 69 = .ok (.iload_n 2, 1) := by decide +kernel
theorem dX10_clauseRead_70 : decode cX10_clauseRead 70 = .ok (.iastore, 1) := by decide +kernel
theorem dX10_clauseRead_71 : decode cX10_clauseRead 71 = .ok (.aload_n 0, 1) := by decide +kernel
theorem dX10_clauseRead_72 : decode cX10_clauseRead 72 = .ok (.invokevirtual 239, 3) := by decide +kernel
theorem dX10_clauseRead_75 : decode cX10_clauseRead 75 = .ok (.istore_n 3, 1) := by decide +kernel
theorem dX10_clauseRead_76 : decode cX10_clauseRead 76 = .ok (.aload_n 0, 1) := by decide +kernel
theorem dX10_clauseRead_77 : decode cX10_clauseRead 77 = .ok (.getfield 235, 3) := by decide +kernel
theorem dX10_clauseRead_80 : decode cX10_clauseRead 80 = .ok (.ifCond .ne 14, 3) := by decide +kernel
theorem dX10_clauseRead_83 : decode cX10_clauseRead 83 = .ok (.iload_n 3, 1) := by decide +kernel
theorem dX10_clauseRead_84 : decode cX10_clauseRead 84 = .ok (.bipush 48, 2) := by decide +kernel
theorem dX10_clauseRead_86 : decode cX10_clauseRead 86 = .ok (.bipush 57, 2) := by decide +kernel
theorem dX10_clauseRead_88 : decode cX10_clauseRead 88 = .ok (.invokestatic 141, 3) := by decide +kernel
theorem dX10_clauseRead_91 : decode cX10_clauseRead 91 = .ok (.ifCond .ne 9, 3) := by decide +kernel
theorem dX10_clauseRead_94 : decode cX10_clauseRead 94 = .ok (.aload_n 0, 1) := by decide +kernel
theorem dX10_clauseRead_95 : decode cX10_clauseRead 95 = .ok (.iconst 1, 1) := by decide +kernel
theorem dX10_clauseRead_96 : decode cX10_clauseRead 96 = .ok (.putfield 235, 3) := by decide +kernel
theorem dX10_clauseRead_99 : decode cX10_clauseRead 99 = .ok (.return_, 1) := by decide +kernel
theorem dX10_clauseRead_100 : decode cX10_clauseRead 100 = .ok (.aload_n 0, 1) := by decide +kernel
theorem dX10_clauseRead_101 : decode cX10_clauseRead 101 = .ok (.dup, 1) := by decide +kernel
theorem dX10_clauseRead_102 : decode cX10_clauseRead 102 = .ok (.getfield 232, 3) := by decide +kernel
theorem dX10_clauseRead_105 : decode cX10_clauseRead 105 = .ok (.iconst 1, 1) := by decide +kernel
theorem dX10_clauseRead_106 : decode cX10_clauseRead 106 = .ok (.iadd, 1) := by decide +kernel
theorem dX10_clauseRead_107 : decode cX10_clauseRead 107 = .ok (.putfield 232, 3) := by decide +kernel
theorem dX10_clauseRead_110 : decode cX10_clauseRead 110 = .ok (.iload_n 3, 1) := by decide +kernel
theorem dX10_clauseRead_111 : decode cX10_clauseRead 111 = .ok (.bipush 48, 2) := by decide +kernel
theorem dX10_clauseRead_113 : decode cX10_clauseRead 113 = .ok (.isub, 1) := by decide +kernel
theorem dX10_clauseRead_114 : decode cX10_clauseRead 114 = .ok (.istore 4, 2) := by decide +kernel
theorem dX10_clauseRead_116 : decode cX10_clauseRead 116 = .ok (.iload 4, 2) := by decide +kernel
theorem dX10_clauseRead_118 : decode cX10_clauseRead 118 = .ok (.ifCond .eq 42, 3) := by decide +kernel
theorem dX10_clauseRead_121 : decode cX10_clauseRead 121 = .ok (.aload_n 0, 1) := by decide +kernel
theorem dX10_clauseRead_122 : decode cX10_clauseRead 122 = .ok (.invokevirtual 239, 3) := by decide +kernel
theorem dX10_clauseRead_125 : decode cX10_clauseRead 125 = .ok (.bipush 48, 2) := by decide +kernel
theorem dX10_clauseRead_127 : decode cX10_clauseRead 127 = .ok (.bipush 57, 2) := by decide +kernel
theorem dX10_clauseRead_129 : decode cX10_clauseRead 129 = .ok (.invokestatic 141, 3) := by decide +kernel
theorem dX10_clauseRead_132 : decode cX10_clauseRead 132 = .ok (.ifCond .eq 28, 3) := by decide +kernel
theorem dX10_clauseRead_135 : decode cX10_clauseRead 135 = .ok (.bipush 10, 2) := by decide +kernel
theorem dX10_clauseRead_137 : decode cX10_clauseRead 137 = .ok (.iload 4, 2) := by decide +kernel
theorem dX10_clauseRead_139 : decode cX10_clauseRead 139 = .ok (.imul, 1) := by decide +kernel
theorem dX10_clauseRead_140 : decode cX10_clauseRead 140 = .ok (.aload_n 0, 1) := by decide +kernel
theorem dX10_clauseRead_141 : decode cX10_clauseRead 141 = .ok (.invokevirtual 239, 3) := by decide +kernel
theorem dX10_clauseRead_144 : decode cX10_clauseRead 144 = .ok (.iadd, 1) := by decide +kernel
theorem dX10_clauseRead_145 : decode cX10_clauseRead 145 = .ok (.bipush 48, 2) := by decide +kernel
theorem dX10_clauseRead_147 : decode cX10_clauseRead 147 = .ok (.isub, 1) := by decide +kernel
theorem dX10_clauseRead_148 : decode cX10_clauseRead 148 = .ok (.istore 4, 2) := by decide +kernel
theorem dX10_clauseRead_150 : decode cX10_clauseRead 150 = .ok (.aload_n 0, 1) := by decide +kernel
theorem dX10_clauseRead_151 : decode cX10_clauseRead 151 = .ok (.dup, 1) := by decide +kernel
theorem dX10_clauseRead_152 : decode cX10_clauseRead 152 = .ok (.getfield 232, 3) := by decide +kernel
theorem dX10_clauseRead_155 : decode cX10_clauseRead 155 = .ok (.iconst 1, 1) := by decide +kernel
theorem dX10_clauseRead_156 : decode cX10_clauseRead 156 = .ok (.iadd, 1) := by decide +kernel
theorem dX10_clauseRead_157 : decode cX10_clauseRead 157 = .ok (.putfield 232, 3) := by decide +kernel
theorem dX10_clauseRead_160 : decode cX10_clauseRead 160 = .ok (.aload_n 0, 1) := by decide +kernel
theorem dX10_clauseRead_161 : decode cX10_clauseRead 161 = .ok (.getfield 111, 3) := by decide +kernel
theorem dX10_clauseRead_164 : decode cX10_clauseRead 164 = .ok (.iconst 3, 1) := by decide +kernel
theorem dX10_clauseRead_165 : decode cX10_clauseRead 165 = .ok (.iload_n 1, 1) := by decide +kernel
theorem dX10_clauseRead_166 : decode cX10_clauseRead 166 = .ok (.imul, 1) := by decide +kernel
theorem dX10_clauseRead_167 : decode cX10_clauseRead 167 = .ok (.iconst 2, 1) := by decide +kernel
theorem dX10_clauseRead_168 : decode cX10_clauseRead 168 = .ok (.iadd, 1) := by decide +kernel
theorem dX10_clauseRead_169 : decode cX10_clauseRead 169 = .ok (.iload 4, 2) := by decide +kernel
theorem dX10_clauseRead_171 : decode cX10_clauseRead 171 = .ok (.iastore, 1) := by decide +kernel
theorem dX10_clauseRead_172 : decode cX10_clauseRead 172 = .ok (.return_, 1) := by decide +kernel
theorem dX10_rules_0 : decode cX10_rules 0 = .ok (.iload_n 1, 1) := by decide +kernel
theorem dX10_rules_1 : decode cX10_rules 1 = .ok (.iconst 0, 1) := by decide +kernel
theorem dX10_rules_2 : decode cX10_rules 2 = .ok (.iconst 3, 1) := by decide +kernel
theorem dX10_rules_3 : decode cX10_rules 3 = .ok (.invokestatic 141, 3) := by decide +kernel
theorem dX10_rules_6 : decode cX10_rules 6 = .ok (.ifCond .ne 5, 3) := by decide +kernel
theorem dX10_rules_9 : decode cX10_rules 9 = .ok (.iconst (-1), 1) := by decide +kernel
theorem dX10_rules_10 : decode cX10_rules 10 = .ok (.ireturn, 1) := by decide +kernel
theorem dX10_rules_11 : decode cX10_rules 11 = .ok (.aload_n 0, 1) := by decide +kernel
theorem dX10_rules_12 : decode cX10_rules 12 = .ok (.iconst 0, 1) := by decide +kernel
theorem dX10_rules_13 : decode cX10_rules 13 = .ok (.putfield 232, 3) := by decide +kernel
theorem dX10_rules_16 : decode cX10_rules 16 = .ok (.aload_n 0, 1) := by decide +kernel
theorem dX10_rules_17 : decode cX10_rules 17 = .ok (.iconst 0, 1) := by decide +kernel
theorem dX10_rules_18 : decode cX10_rules 18 = .ok (.putfield 235, 3) := by decide +kernel
theorem dX10_rules_21 : decode cX10_rules 21 = .ok (.iconst 0, 1) := by decide +kernel
theorem dX10_rules_22 : decode cX10_rules 22 = .ok (.istore_n 2, 1) := by decide +kernel
theorem dX10_rules_23 : decode cX10_rules 23 = .ok (.aload_n 0, 1) := by decide +kernel
theorem dX10_rules_24 : decode cX10_rules 24 = .ok (.getfield 235, 3) := by decide +kernel
theorem dX10_rules_27 : decode cX10_rules 27 = .ok (.ifCond .ne 60, 3) := by decide +kernel
theorem dX10_rules_30 : decode cX10_rules 30 = .ok (.iload_n 2, 1) := by decide +kernel
theorem dX10_rules_31 : decode cX10_rules 31 = .ok (.ifCond .eq 14, 3) := by decide +kernel
theorem dX10_rules_34 : decode cX10_rules 34 = .ok (.aload_n 0, 1) := by decide +kernel
theorem dX10_rules_35 : decode cX10_rules 35 = .ok (.getfield 232, 3) := by decide +kernel
theorem dX10_rules_38 : decode cX10_rules 38 = .ok (.aload_n 0, 1) := by decide +kernel
theorem dX10_rules_39 : decode cX10_rules 39 = .ok (.getfield 148, 3) := by decide +kernel
theorem dX10_rules_42 : decode cX10_rules 42 = .ok (.if_icmp .ge 45, 3) := by decide +kernel
theorem dX10_rules_45 : decode cX10_rules 45 = .ok (.iload_n 2, 1) := by decide +kernel
theorem dX10_rules_46 : decode cX10_rules 46 = .ok (.bipush 6, 2) := by decide +kernel
theorem dX10_rules_48 : decode cX10_rules 48 = .ok (.if_icmp .ne 11, 3) := by decide +kernel
theorem dX10_rules_51 : decode cX10_rules 51 = .ok (.aload_n 0, 1) := by decide +kernel
theorem dX10_rules_52 : decode cX10_rules 52 = .ok (.iconst 1, 1) := by decide +kernel
theorem dX10_rules_53 : decode cX10_rules 53 = .ok (.putfield 235, 3) := by decide +kernel
theorem dX10_rules_56 : decode cX10_rules 56 = .ok (.goto (-33), 3) := by decide +kernel
theorem dX10_rules_59 : decode cX10_rules 59 = .ok (.iload_n 2, 1) := by decide +kernel
theorem dX10_rules_60 : decode cX10_rules 60 = .ok (.ifCond .le 9, 3) := by decide +kernel
theorem dX10_rules_63 : decode cX10_rules 63 = .ok (.aload_n 0, 1) := by decide +kernel
theorem dX10_rules_64 : decode cX10_rules 64 = .ok (.bipush 59, 2) := by decide +kernel
theorem dX10_rules_66 : decode cX10_rules 66 = .ok (.invokevirtual 242, 3) := by decide +kernel
theorem dX10_rules_69 : decode cX10_rules 69 = .ok (.aload_n 0, 1) := by decide +kernel
theorem dX10_rules_70 : decode cX10_rules 70 = .ok (.getfield 235, 3) := by decide +kernel
theorem dX10_rules_73 : decode cX10_rules 73 = .ok (.ifCond .ne 8, 3) := by decide +kernel
theorem dX10_rules_76 : decode cX10_rules 76 = .ok (.aload_n 0, 1) := by decide +kernel
theorem dX10_rules_77 : decode cX10_rules 77 = .ok (.iload_n 2, 1) := by decide +kernel
theorem dX10_rules_78 : decode cX10_rules 78 = .ok (.invokevirtual 252, 3) := by decide +kernel
theorem dX10_rules_81 : decode cX10_rules 81 = .ok (.iinc 2 1, 3) := by decide +kernel
theorem dX10_rules_84 : decode cX10_rules 84 = .ok (.goto (-61), 3) := by decide +kernel
theorem dX10_rules_87 : decode cX10_rules 87 = .ok (.aload_n 0, 1) := by decide +kernel
theorem dX10_rules_88 : decode cX10_rules 88 = .ok (.iconst 0, 1) := by decide +kernel
theorem dX10_rules_89 : decode cX10_rules 89 = .ok (.putfield 148, 3) := by decide +kernel
theorem dX10_rules_92 : decode cX10_rules 92 = .ok (.aload_n 0, 1) := by decide +kernel
theorem dX10_rules_93 : decode cX10_rules 93 = .ok (.getfield 235, 3) := by decide +kernel
theorem dX10_rules_96 : decode cX10_rules 96 = .ok (.ifCond .eq 11, 3) := by decide +kernel
theorem dX10_rules_99 : decode cX10_rules 99 = .ok (.bipush (-10), 2) := by decide +kernel
theorem dX10_rules_101 : decode cX10_rules 101 = .ok (.aload_n 0, 1) := by decide +kernel
theorem dX10_rules_102 : decode cX10_rules 102 = .ok (.getfield 232, 3) := by decide +kernel
theorem dX10_rules_105 : decode cX10_rules 105 = .ok (.isub, 1) := by decide +kernel
theorem dX10_rules_106 : decode cX10_rules 106 = .ok (.ireturn, 1) := by decide +kernel
theorem dX10_rules_107 : decode cX10_rules 107 = .ok (.aload_n 0, 1) := by decide +kernel
theorem dX10_rules_108 : decode cX10_rules 108 = .ok (.getfield 87, 3) := by decide +kernel
theorem dX10_rules_111 : decode cX10_rules 111 = .ok (.iload_n 1, 1) := by decide +kernel
theorem dX10_rules_112 : decode cX10_rules 112 = .ok (.iload_n 2, 1) := by decide +kernel
theorem dX10_rules_113 : decode cX10_rules 113 = .ok (.iastore, 1) := by decide +kernel
theorem dX10_rules_114 : decode cX10_rules 114 = .ok (.iconst 0, 1) := by decide +kernel
theorem dX10_rules_115 : decode cX10_rules 115 = .ok (.istore_n 3, 1) := by decide +kernel
theorem dX10_rules_116 : decode cX10_rules 116 = .ok (.iload_n 3, 1) := by decide +kernel
theorem dX10_rules_117 : decode cX10_rules 117 = .ok (.iconst 3, 1) := by decide +kernel
theorem dX10_rules_118 : decode cX10_rules 118 = .ok (.iload_n 2, 1) := by decide +kernel
theorem dX10_rules_119 : decode cX10_rules 119 = .ok (.imul, 1) := by decide +kernel
theorem dX10_rules_120 : decode cX10_rules 120 = .ok (.if_icmp .ge 26, 3) := by decide +kernel
theorem dX10_rules_123 : decode cX10_rules 123 = .ok (.aload_n 0, 1) := by decide +kernel
theorem dX10_rules_124 : decode cX10_rules 124 = .ok (.getfield 90, 3) := by decide +kernel
theorem dX10_rules_127 : decode cX10_rules 127 = .ok (.bipush 18, 2) := by decide +kernel
theorem dX10_rules_129 : decode cX10_rules 129 = .ok (.iload_n 1, 1) := by decide +kernel
theorem dX10_rules_130 : decode cX10_rules 130 = .ok (.imul, 1) := by decide +kernel
theorem dX10_rules_131 : decode cX10_rules 131 = .ok (.iload_n 3, 1) := by decide +kernel
theorem dX10_rules_132 : decode cX10_rules 132 = .ok (.iadd, 1) := by decide +kernel
theorem dX10_rules_133 : decode cX10_rules 133 = .ok (.aload_n 0, 1) := by decide +kernel
theorem dX10_rules_134 : decode cX10_rules 134 = .ok (.getfield 111, 3) := by decide +kernel
theorem dX10_rules_137 : decode cX10_rules 137 = .ok (.iload_n 3, 1) := by decide +kernel
theorem dX10_rules_138 : decode cX10_rules 138 = .ok (.iaload, 1) := by decide +kernel
theorem dX10_rules_139 : decode cX10_rules 139 = .ok (.iastore, 1) := by decide +kernel
theorem dX10_rules_140 : decode cX10_rules 140 = .ok (.iinc 3 1, 3) := by decide +kernel
theorem dX10_rules_143 : decode cX10_rules 143 = .ok (.goto (-27), 3) := by decide +kernel
theorem dX10_rules_146 : decode cX10_rules 146 = .ok (.iload_n 2, 1) := by decide +kernel
theorem dX10_rules_147 : decode cX10_rules 147 = .ok (.ireturn, 1) := by decide +kernel
theorem dX10_chest_0 : decode cX10_chest 0 = .ok (.aload_n 0, 1) := by decide +kernel
theorem dX10_chest_1 : decode cX10_chest 1 = .ok (.iload_n 1, 1) := by decide +kernel
theorem dX10_chest_2 : decode cX10_chest 2 = .ok (.invokevirtual 219, 3) := by decide +kernel
theorem dX10_chest_5 : decode cX10_chest 5 = .ok (.ifCond .eq 12, 3) := by decide +kernel
theorem dX10_chest_8 : decode cX10_chest 8 = .ok (.iload_n 2, 1) := by decide +kernel
theorem dX10_chest_9 : decode cX10_chest 9 = .ok (.iconst (-1), 1) := by decide +kernel
theorem dX10_chest_10 : decode cX10_chest 10 = .ok (.iconst 3, 1) := by decide +kernel
theorem dX10_chest_11 : decode cX10_chest 11 = .ok (.invokestatic 141, 3) := by decide +kernel
theorem dX10_chest_14 : decode cX10_chest 14 = .ok (.ifCond .ne 6, 3) := by decide +kernel
theorem dX10_chest_17 : decode cX10_chest 17 = .ok (.bipush (-5), 2) := by decide +kernel
theorem dX10_chest_19 : decode cX10_chest 19 = .ok (.ireturn, 1) := by decide +kernel
theorem dX10_chest_20 : decode cX10_chest 20 = .ok (.aload_n 0, 1) := by decide +kernel
theorem dX10_chest_21 : decode cX10_chest 21 = .ok (.getfield 65, 3) := by decide +kernel
theorem dX10_chest_24 : decode cX10_chest 24 = .ok (.iload_n 1, 1) := by decide +kernel
theorem dX10_chest_25 : decode cX10_chest 25 = .ok (.iaload, 1) := by decide +kernel
theorem dX10_chest_26 : decode cX10_chest 26 = .ok (.iconst (-1), 1) := by decide +kernel
theorem dX10_chest_27 : decode cX10_chest 27 = .ok (.if_icmp .eq 6, 3) := by decide +kernel
theorem dX10_chest_30 : decode cX10_chest 30 = .ok (.bipush (-3), 2) := by decide +kernel
theorem dX10_chest_32 : decode cX10_chest 32 = .ok (.ireturn, 1) := by decide +kernel
theorem dX10_chest_33 : decode cX10_chest 33 = .ok (.aload_n 0, 1) := by decide +kernel
theorem dX10_chest_34 : decode cX10_chest 34 = .ok (.getfield 62, 3) := by decide +kernel
theorem dX10_chest_37 : decode cX10_chest 37 = .ok (.iload_n 1, 1) := by decide +kernel
theorem dX10_chest_38 : decode cX10_chest 38 = .ok (.iaload, 1) := by decide +kernel
theorem dX10_chest_39 : decode cX10_chest 39 = .ok (.istore_n 3, 1) := by decide +kernel
theorem dX10_chest_40 : decode cX10_chest 40 = .ok (.aload_n 0, 1) := by decide +kernel
theorem dX10_chest_41 : decode cX10_chest 41 = .ok (.getfield 62, 3) := by decide +kernel
theorem dX10_chest_44 : decode cX10_chest 44 = .ok (.iload_n 1, 1) := by decide +kernel
theorem dX10_chest_45 : decode cX10_chest 45 = .ok (.iload_n 2, 1) := by decide +kernel
theorem dX10_chest_46 : decode cX10_chest 46 = .ok (.iastore, 1) := by decide +kernel
theorem dX10_chest_47 : decode cX10_chest 47 = .ok (.iload_n 3, 1) := by decide +kernel
theorem dX10_chest_48 : decode cX10_chest 48 = .ok (.ireturn, 1) := by decide +kernel
theorem dX10_person_0 : decode cX10_person 0 = .ok (.iload_n 1, 1) := by decide +kernel
theorem dX10_person_1 : decode cX10_person 1 = .ok (.iconst 0, 1) := by decide +kernel
theorem dX10_person_2 : decode cX10_person 2 = .ok (.bipush 9, 2) := by decide +kernel
theorem dX10_person_4 : decode cX10_person 4 = .ok (.invokestatic 141, 3) := by decide +kernel
theorem dX10_person_7 : decode cX10_person 7 = .ok (.ifCond .ne 5, 3) := by decide +kernel
theorem dX10_person_10 : decode cX10_person 10 = .ok (.iconst (-1), 1) := by decide +kernel
theorem dX10_person_11 : decode cX10_person 11 = .ok (.ireturn, 1) := by decide +kernel
theorem dX10_person_12 : decode cX10_person 12 = .ok (.iload_n 2, 1) := by decide +kernel
theorem dX10_person_13 : decode cX10_person 13 = .ok (.iconst 0, 1) := by decide +kernel
theorem dX10_person_14 : decode cX10_person 14 = .ok (.bipush 99, 2) := by decide +kernel
theorem dX10_person_16 : decode cX10_person 16 = .ok (.invokestatic 141, 3) := by decide +kernel
theorem dX10_person_19 : decode cX10_person 19 = .ok (.ifCond .eq 13, 3) := by decide +kernel
theorem dX10_person_22 : decode cX10_person 22 = .ok (.iload_n 3, 1) := by decide +kernel
theorem dX10_person_23 : decode cX10_person 23 = .ok (.iconst 0, 1) := by decide +kernel
theorem dX10_person_24 : decode cX10_person 24 = .ok (.bipush 9, 2) := by decide +kernel
theorem dX10_person_26 : decode cX10_person 26 = .ok (.invokestatic 141, 3) := by decide +kernel
theorem dX10_person_29 : decode cX10_person 29 = .ok (.ifCond .ne 6, 3) := by decide +kernel
theorem dX10_person_32 : decode cX10_person 32 = .ok (.bipush (-2), 2) := by decide +kernel
theorem dX10_person_34 : decode cX10_person 34 = .ok (.ireturn, 1) := by decide +kernel
theorem dX10_person_35 : decode cX10_person 35 = .ok (.aload_n 0, 1) := by decide +kernel
theorem dX10_person_36 : decode cX10_person 36 = .ok (.getfield 81, 3) := by decide +kernel
theorem dX10_person_39 : decode cX10_person 39 = .ok (.iload_n 1, 1) := by decide +kernel
theorem dX10_person_40 : decode cX10_person 40 = .ok (.iaload, 1) := by decide +kernel
theorem dX10_person_41 : decode cX10_person 41 = .ok (.iconst (-1), 1) := by decide +kernel
theorem dX10_person_42 : decode cX10_person 42 = .ok (.if_icmp .ne 7, 3) := by decide +kernel
theorem dX10_person_45 : decode cX10_person 45 = .ok (.iconst 1, 1) := by decide +kernel
theorem dX10_person_46 : decode cX10_person 46 = .ok (.goto 4, 3) := by decide +kernel
theorem dX10_person_49 : decode cX10_person 49 = .ok (.iconst 0, 1) := by decide +kernel
theorem dX10_person_50 : decode cX10_person 50 = .ok (.istore 4, 2) := by decide +kernel
theorem dX10_person_52 : decode cX10_person 52 = .ok (.aload_n 0, 1) := by decide +kernel
theorem dX10_person_53 : decode cX10_person 53 = .ok (.getfield 81, 3) := by decide +kernel
theorem dX10_person_56 : decode cX10_person 56 = .ok (.iload_n 1, 1) := by decide +kernel
theorem dX10_person_57 : decode cX10_person 57 = .ok (.iload_n 2, 1) := by decide +kernel
theorem dX10_person_58 : decode cX10_person 58 = .ok (.iastore, 1) := by decide +kernel
theorem dX10_person_59 : decode cX10_person 59 = .ok (.aload_n 0, 1) := by decide +kernel
theorem dX10_person_60 : decode cX10_person 60 = .ok (.getfield 84, 3) := by decide +kernel
theorem dX10_person_63 : decode cX10_person 63 = .ok (.iload_n 1, 1) := by decide +kernel
theorem dX10_person_64 : decode cX10_person 64 = .ok (.iload_n 3, 1) := by decide +kernel
theorem dX10_person_65 : decode cX10_person 65 = .ok (.iastore, 1) := by decide +kernel
theorem dX10_person_66 : decode cX10_person 66 = .ok (.iload 4, 2) := by decide +kernel
theorem dX10_person_68 : decode cX10_person 68 = .ok (.ireturn, 1) := by decide +kernel
theorem dX10_mayWear_0 : decode cX10_mayWear 0 = .ok (.aload_n 0, 1) := by decide +kernel
theorem dX10_mayWear_1 : decode cX10_mayWear 1 = .ok (.getfield 62, 3) := by decide +kernel
theorem dX10_mayWear_4 : decode cX10_mayWear 4 = .ok (.iload_n 1, 1) := by decide +kernel
theorem dX10_mayWear_5 : decode cX10_mayWear 5 = .ok (.iaload, 1) := by decide +kernel
theorem dX10_mayWear_6 : decode cX10_mayWear 6 = .ok (.istore 4, 2) := by decide +kernel
theorem dX10_mayWear_8 : decode cX10_mayWear 8 = .ok (.iconst 0, 1) := by decide +kernel
theorem dX10_mayWear_9 : decode cX10_mayWear 9 = .ok (.istore 5, 2) := by decide +kernel
theorem dX10_mayWear_11 : decode cX10_mayWear 11 = .ok (.iload 5, 2) := by decide +kernel
theorem dX10_mayWear_13 : decode cX10_mayWear 13 = .ok (.aload_n 0, 1) := by decide +kernel
theorem dX10_mayWear_14 : decode cX10_mayWear 14 = .ok (.getfield 87, 3) := by decide +kernel
theorem dX10_mayWear_17 : decode cX10_mayWear 17 = .ok (.iload 4, 2) := by decide +kernel
theorem dX10_mayWear_19 : decode cX10_mayWear 19 = .ok (.iaload, 1) := by decide +kernel
theorem dX10_mayWear_20 : decode cX10_mayWear 20 = .ok (.if_icmp .ge 215, 3) := by decide +kernel
theorem dX10_mayWear_23 : decode cX10_mayWear 23 = .ok (.bipush 18, 2) := by decide +kernel
theorem dX10_mayWear_25 : decode cX10_mayWear 25 = .ok (.iload 4, 2) := by decide +kernel
theorem dX10_mayWear_27 : decode cX10_mayWear 27 = .ok (.imul, 1) := by decide +kernel
theorem dX10_mayWear_28 : decode cX10_mayWear 28 = .ok (.iconst 3, 1) := by decide +kernel
theorem dX10_mayWear_29 : decode cX10_mayWear 29 = .ok (.iload 5, 2) := by decide +kernel
theorem dX10_mayWear_31 : decode cX10_mayWear 31 = .ok (.imul, 1) := by decide +kernel
theorem dX10_mayWear_32 : decode cX10_mayWear 32 = .ok (.iadd, 1) := by decide +kernel
theorem dX10_mayWear_33 : decode cX10_mayWear 33 = .ok (.istore 6, 2) := by decide +kernel
theorem dX10_mayWear_35 : decode cX10_mayWear 35 = .ok (.aload_n 0, 1) := by decide +kernel
theorem dX10_mayWear_36 : decode cX10_mayWear 36 = .ok (.getfield 90, 3) := by decide +kernel
theorem dX10_mayWear_39 : decode cX10_mayWear 39 = .ok (.iload 6, 2) := by decide +kernel
theorem dX10_mayWear_41 : decode cX10_mayWear 41 = .ok (.iaload, 1) := by decide +kernel
theorem dX10_mayWear_42 : decode cX10_mayWear 42 = .ok (.istore 7, 2) := by decide +kernel
theorem dX10_mayWear_44 : decode cX10_mayWear 44 = .ok (.iload 7, 2) := by decide +kernel
theorem dX10_mayWear_46 : decode cX10_mayWear 46 = .ok (.ifCond .ne 7, 3) := by decide +kernel
theorem dX10_mayWear_49 : decode cX10_mayWear 49 = .ok (.iload_n 3, 1) := by decide +kernel
theorem dX10_mayWear_50 : decode cX10_mayWear 50 = .ok (.goto 77, 3) := by decide +kernel
theorem dX10_mayWear_53 : decode cX10_mayWear 53 = .ok (.iload 7, 2) := by decide +kernel
theorem dX10_mayWear_55 : decode cX10_mayWear 55 = .ok (.iconst 1, 1) := by decide +kernel
theorem dX10_mayWear_56 : decode cX10_mayWear 56 = .ok (.if_icmp .ne 12, 3) := by decide +kernel
theorem dX10_mayWear_59 : decode cX10_mayWear 59 = .ok (.aload_n 0, 1) := by decide +kernel
theorem dX10_mayWear_60 : decode cX10_mayWear 60 = .ok (.getfield 81, 3) := by decide +kernel
theorem dX10_mayWear_63 : decode cX10_mayWear 63 = .ok (.iload_n 2, 1) := by decide +kernel
theorem dX10_mayWear_64 : decode cX10_mayWear 64 = .ok (.iaload, 1) := by decide +kernel
theorem dX10_mayWear_65 : decode cX10_mayWear 65 = .ok (.goto 62, 3) := by decide +kernel
theorem dX10_mayWear_68 : decode cX10_mayWear 68 = .ok (.iload 7, 2) := by decide +kernel
theorem dX10_mayWear_70 : decode cX10_mayWear 70 = .ok (.iconst 2, 1) := by decide +kernel
theorem dX10_mayWear_71 : decode cX10_mayWear 71 = .ok (.if_icmp .ne 12, 3) := by decide +kernel
theorem dX10_mayWear_74 : decode cX10_mayWear 74 = .ok (.aload_n 0, 1) := by decide +kernel
theorem dX10_mayWear_75 : decode cX10_mayWear 75 = .ok (.getfield 84, 3) := by decide +kernel
theorem dX10_mayWear_78 : decode cX10_mayWear 78 = .ok (.iload_n 2, 1) := by decide +kernel
theorem dX10_mayWear_79 : decode cX10_mayWear 79 = .ok (.iaload, 1) := by decide +kernel
theorem dX10_mayWear_80 : decode cX10_mayWear 80 = .ok (.goto 47, 3) := by decide +kernel
theorem dX10_mayWear_83 : decode cX10_mayWear 83 = .ok (.iload 7, 2) := by decide +kernel
theorem dX10_mayWear_85 : decode cX10_mayWear 85 = .ok (.iconst 3, 1) := by decide +kernel
theorem dX10_mayWear_86 : decode cX10_mayWear 86 = .ok (.if_icmp .ne 12, 3) := by decide +kernel
theorem dX10_mayWear_89 : decode cX10_mayWear 89 = .ok (.aload_n 0, 1) := by decide +kernel
theorem dX10_mayWear_90 : decode cX10_mayWear 90 = .ok (.getfield 29, 3) := by decide +kernel
theorem dX10_mayWear_93 : decode cX10_mayWear 93 = .ok (.iload_n 1, 1) := by decide +kernel
theorem dX10_mayWear_94 : decode cX10_mayWear 94 = .ok (.iaload, 1) := by decide +kernel
theorem dX10_mayWear_95 : decode cX10_mayWear 95 = .ok (.goto 32, 3) := by decide +kernel
theorem dX10_mayWear_98 : decode cX10_mayWear 98 = .ok (.iload 7, 2) := by decide +kernel
theorem dX10_mayWear_100 : decode cX10_mayWear 100 = .ok (.iconst 4, 1) := by decide +kernel
theorem dX10_mayWear_101 : decode cX10_mayWear 101 = .ok (.if_icmp .ne 20, 3) := by decide +kernel
theorem dX10_mayWear_104 : decode cX10_mayWear 104 = .ok (.aload_n 0, 1) := by decide +kernel
theorem dX10_mayWear_105 : decode cX10_mayWear 105 = .ok (.getfield 50, 3) := by decide +kernel
theorem dX10_mayWear_108 : decode cX10_mayWear 108 = .ok (.iload_n 1, 1) := by decide +kernel
theorem dX10_mayWear_109 : decode cX10_mayWear 109 = .ok (.baload, 1) := by decide +kernel
theorem dX10_mayWear_110 : decode cX10_mayWear 110 = .ok (.ifCond .eq 7, 3) := by decide +kernel
theorem dX10_mayWear_113 : decode cX10_mayWear 113 = .ok (.iconst 1, 1) := by decide +kernel
theorem dX10_mayWear_114 : decode cX10_mayWear 114 = .ok (.goto 13, 3) := by decide +kernel
theorem dX10_mayWear_117 : decode cX10_mayWear 117 = .ok (.iconst 0, 1) := by decide +kernel
theorem dX10_mayWear_118 : decode cX10_mayWear 118 = .ok (.goto 9, 3) := by decide +kernel
theorem dX10_mayWear_121 : decode cX10_mayWear 121 = .ok (.aload_n 0, 1) := by decide +kernel
theorem dX10_mayWear_122 : decode cX10_mayWear 122 = .ok (.getfield 44, 3) := by decide +kernel
theorem dX10_mayWear_125 : decode cX10_mayWear 125 = .ok (.iload_n 1, 1) := by decide +kernel
theorem dX10_mayWear_126 : decode cX10_mayWear 126 = .ok (.iaload, 1) := by decide +kernel
theorem dX10_mayWear_127 : decode cX10_mayWear 127 = .ok (.istore 8, 2) := by decide +kernel
theorem dX10_mayWear_129 : decode cX10_mayWear 129 = .ok (.aload_n 0, 1) := by decide +kernel
theorem dX10_mayWear_130 : decode cX10_mayWear 130 = .ok (.getfield 90, 3) := by decide +kernel
theorem dX10_mayWear_133 : decode cX10_mayWear 133 = .ok (.iload 6, 2) := by decide +kernel
theorem dX10_mayWear_135 : decode cX10_mayWear 135 = .ok (.iconst 1, 1) := by decide +kernel
theorem dX10_mayWear_136 : decode cX10_mayWear 136 = .ok (.iadd, 1) := by decide +kernel
theorem dX10_mayWear_137 : decode cX10_mayWear 137 = .ok (.iaload, 1) := by decide +kernel
theorem dX10_mayWear_138 : decode cX10_mayWear 138 = .ok (.bipush 60, 2) := by decide +kernel
theorem dX10_mayWear_140 : decode cX10_mayWear 140 = .ok (.if_icmp .ne 25, 3) := by decide +kernel
theorem dX10_mayWear_143 : decode cX10_mayWear 143 = .ok (.iload 8, 2) := by decide +kernel
theorem dX10_mayWear_145 : decode cX10_mayWear 145 = .ok (.aload_n 0, 1) := by decide +kernel
theorem dX10_mayWear_146 : decode cX10_mayWear 146 = .ok (.getfield 90, 3) := by decide +kernel
theorem dX10_mayWear_149 : decode cX10_mayWear 149 = .ok (.iload 6, 2) := by decide +kernel
theorem dX10_mayWear_151 : decode cX10_mayWear 151 = .ok (.iconst 2, 1) := by decide +kernel
theorem dX10_mayWear_152 : decode cX10_mayWear 152 = .ok (.iadd, 1) := by decide +kernel
theorem dX10_mayWear_153 : decode cX10_mayWear 153 = .ok (.iaload, 1) := by decide +kernel
theorem dX10_mayWear_154 : decode cX10_mayWear 154 = .ok (.if_icmp .ge 7, 3) := by decide +kernel
theorem dX10_mayWear_157 : decode cX10_mayWear 157 = .ok (.iconst 1, 1) := by decide +kernel
theorem dX10_mayWear_158 : decode cX10_mayWear 158 = .ok (.goto 62, 3) := by decide +kernel
theorem dX10_mayWear_161 : decode cX10_mayWear 161 = .ok (.iconst 0, 1) := by decide +kernel
theorem dX10_mayWear_162 : decode cX10_mayWear 162 = .ok (.goto 58, 3) := by decide +kernel
theorem dX10_mayWear_165 : decode cX10_mayWear 165 = .ok (.aload_n 0, 1) := by decide +kernel
theorem dX10_mayWear_166 : decode cX10_mayWear 166 = .ok (.getfield 90, 3) := by decide +kernel
theorem dX10_mayWear_169 : decode cX10_mayWear 169 = .ok (.iload 6, 2) := by decide +kernel
theorem dX10_mayWear_171 : decode cX10_mayWear 171 = .ok (.iconst 1, 1) := by decide +kernel
theorem dX10_mayWear_172 : decode cX10_mayWear 172 = .ok (.iadd, 1) := by decide +kernel
theorem dX10_mayWear_173 : decode cX10_mayWear 173 = .ok (.iaload, 1) := by decide +kernel
theorem dX10_mayWear_174 : decode cX10_mayWear 174 = .ok (.bipush 61, 2) := by decide +kernel
theorem dX10_mayWear_176 : decode cX10_mayWear 176 = .ok (.if_icmp .ne 25, 3) := by decide +kernel
theorem dX10_mayWear_179 : decode cX10_mayWear 179 = .ok (.iload 8, 2) := by decide +kernel
theorem dX10_mayWear_181 : decode cX10_mayWear 181 = .ok (.aload_n 0, 1) := by decide +kernel
theorem dX10_mayWear_182 : decode cX10_mayWear 182 = .ok (.getfield 90, 3) := by decide +kernel
theorem dX10_mayWear_185 : decode cX10_mayWear 185 = .ok (.iload 6, 2) := by decide +kernel
theorem dX10_mayWear_187 : decode cX10_mayWear 187 = .ok (.iconst 2, 1) := by decide +kernel
theorem dX10_mayWear_188 : decode cX10_mayWear 188 = .ok (.iadd, 1) := by decide +kernel
theorem dX10_mayWear_189 : decode cX10_mayWear 189 = .ok (.iaload, 1) := by decide +kernel
theorem dX10_mayWear_190 : decode cX10_mayWear 190 = .ok (.if_icmp .ne 7, 3) := by decide +kernel
theorem dX10_mayWear_193 : decode cX10_mayWear 193 = .ok (.iconst 1, 1) := by decide +kernel
theorem dX10_mayWear_194 : decode cX10_mayWear 194 = .ok (.goto 26, 3) := by decide +kernel
theorem dX10_mayWear_197 : decode cX10_mayWear 197 = .ok (.iconst 0, 1) := by decide +kernel
theorem dX10_mayWear_198 : decode cX10_mayWear 198 = .ok (.goto 22, 3) := by decide +kernel
theorem dX10_mayWear_201 : decode cX10_mayWear 201 = .ok (.iload 8, 2) := by decide +kernel
theorem dX10_mayWear_203 : decode cX10_mayWear 203 = .ok (.aload_n 0, 1) := by decide +kernel
theorem dX10_mayWear_204 : decode cX10_mayWear 204 = .ok (.getfield 90, 3) := by decide +kernel
theorem dX10_mayWear_207 : decode cX10_mayWear 207 = .ok (.iload 6, 2) := by decide +kernel
theorem dX10_mayWear_209 : decode cX10_mayWear 209 = .ok (.iconst 2, 1) := by decide +kernel
theorem dX10_mayWear_210 : decode cX10_mayWear 210 = .ok (.iadd, 1) := by decide +kernel
theorem dX10_mayWear_211 : decode cX10_mayWear 211 = .ok (.iaload, 1) := by decide +kernel
theorem dX10_mayWear_212 : decode cX10_mayWear 212 = .ok (.if_icmp .le 7, 3) := by decide +kernel
theorem dX10_mayWear_215 : decode cX10_mayWear 215 = .ok (.iconst 1, 1) := by decide +kernel
theorem dX10_mayWear_216 : decode cX10_mayWear 216 = .ok (.goto 4, 3) := by decide +kernel
theorem dX10_mayWear_219 : decode cX10_mayWear 219 = .ok (.iconst 0, 1) := by decide +kernel
theorem dX10_mayWear_220 : decode cX10_mayWear 220 = .ok (.istore 9, 2) := by decide +kernel
theorem dX10_mayWear_222 : decode cX10_mayWear 222 = .ok (.iload 9, 2) := by decide +kernel
theorem dX10_mayWear_224 : decode cX10_mayWear 224 = .ok (.ifCond .ne 5, 3) := by decide +kernel
theorem dX10_mayWear_227 : decode cX10_mayWear 227 = .ok (.iconst 0, 1) := by decide +kernel
theorem dX10_mayWear_228 : decode cX10_mayWear 228 = .ok (.ireturn, 1) := by decide +kernel
theorem dX10_mayWear_229 : decode cX10_mayWear 229 = .ok (.iinc 5 1, 3) := by decide +kernel
theorem dX10_mayWear_232 : decode cX10_mayWear 232 = .ok (.goto (-221), 3) := by decide +kernel
theorem dX10_mayWear_235 : decode cX10_mayWear 235 = .ok (.iconst 1, 1) := by decide +kernel
theorem dX10_mayWear_236 : decode cX10_mayWear 236 = .ok (.ireturn, 1) := by decide +kernel
theorem dX10_isTold_0 : decode cX10_isTold 0 = .ok (.iload_n 1, 1) := by decide +kernel
theorem dX10_isTold_1 : decode cX10_isTold 1 = .ok (.iconst 0, 1) := by decide +kernel
theorem dX10_isTold_2 : decode cX10_isTold 2 = .ok (.bipush 9, 2) := by decide +kernel
theorem dX10_isTold_4 : decode cX10_isTold 4 = .ok (.invokestatic 141, 3) := by decide +kernel
theorem dX10_isTold_7 : decode cX10_isTold 7 = .ok (.ifCond .eq 17, 3) := by decide +kernel
theorem dX10_isTold_10 : decode cX10_isTold 10 = .ok (.aload_n 0, 1) := by decide +kernel
theorem dX10_isTold_11 : decode cX10_isTold 11 = .ok (.getfield 81, 3) := by decide +kernel
theorem dX10_isTold_14 : decode cX10_isTold 14 = .ok (.iload_n 1, 1) := by decide +kernel
theorem dX10_isTold_15 : decode cX10_isTold 15 = .ok (.iaload, 1) := by decide +kernel
theorem dX10_isTold_16 : decode cX10_isTold 16 = .ok (.iconst (-1), 1) := by decide +kernel
theorem dX10_isTold_17 : decode cX10_isTold 17 = .ok (.if_icmp .eq 7, 3) := by decide +kernel
theorem dX10_isTold_20 : decode cX10_isTold 20 = .ok (.iconst 1, 1) := by decide +kernel
theorem dX10_isTold_21 : decode cX10_isTold 21 = .ok (.goto 4, 3) := by decide +kernel
theorem dX10_isTold_24 : decode cX10_isTold 24 = .ok (.iconst 0, 1) := by decide +kernel
theorem dX10_isTold_25 : decode cX10_isTold 25 = .ok (.ireturn, 1) := by decide +kernel
theorem dX10_cannot_0 : decode cX10_cannot 0 = .ok (.aload_n 0, 1) := by decide +kernel
theorem dX10_cannot_1 : decode cX10_cannot 1 = .ok (.iload_n 1, 1) := by decide +kernel
theorem dX10_cannot_2 : decode cX10_cannot 2 = .ok (.invokevirtual 219, 3) := by decide +kernel
theorem dX10_cannot_5 : decode cX10_cannot 5 = .ok (.ifCond .eq 11, 3) := by decide +kernel
theorem dX10_cannot_8 : decode cX10_cannot 8 = .ok (.aload_n 0, 1) := by decide +kernel
theorem dX10_cannot_9 : decode cX10_cannot 9 = .ok (.iload_n 2, 1) := by decide +kernel
theorem dX10_cannot_10 : decode cX10_cannot 10 = .ok (.invokevirtual 255, 3) := by decide +kernel
theorem dX10_cannot_13 : decode cX10_cannot 13 = .ok (.ifCond .ne 5, 3) := by decide +kernel
theorem dX10_cannot_16 : decode cX10_cannot 16 = .ok (.iconst (-1), 1) := by decide +kernel
theorem dX10_cannot_17 : decode cX10_cannot 17 = .ok (.ireturn, 1) := by decide +kernel
theorem dX10_cannot_18 : decode cX10_cannot 18 = .ok (.iload_n 3, 1) := by decide +kernel
theorem dX10_cannot_19 : decode cX10_cannot 19 = .ok (.iconst 0, 1) := by decide +kernel
theorem dX10_cannot_20 : decode cX10_cannot 20 = .ok (.iconst 3, 1) := by decide +kernel
theorem dX10_cannot_21 : decode cX10_cannot 21 = .ok (.invokestatic 141, 3) := by decide +kernel
theorem dX10_cannot_24 : decode cX10_cannot 24 = .ok (.ifCond .ne 6, 3) := by decide +kernel
theorem dX10_cannot_27 : decode cX10_cannot 27 = .ok (.bipush (-2), 2) := by decide +kernel
theorem dX10_cannot_29 : decode cX10_cannot 29 = .ok (.ireturn, 1) := by decide +kernel
theorem dX10_cannot_30 : decode cX10_cannot 30 = .ok (.aload_n 0, 1) := by decide +kernel
theorem dX10_cannot_31 : decode cX10_cannot 31 = .ok (.getfield 62, 3) := by decide +kernel
theorem dX10_cannot_34 : decode cX10_cannot 34 = .ok (.iload_n 1, 1) := by decide +kernel
theorem dX10_cannot_35 : decode cX10_cannot 35 = .ok (.iaload, 1) := by decide +kernel
theorem dX10_cannot_36 : decode cX10_cannot 36 = .ok (.iconst (-1), 1) := by decide +kernel
theorem dX10_cannot_37 : decode cX10_cannot 37 = .ok (.if_icmp .eq 13, 3) := by decide +kernel
theorem dX10_cannot_40 : decode cX10_cannot 40 = .ok (.aload_n 0, 1) := by decide +kernel
theorem dX10_cannot_41 : decode cX10_cannot 41 = .ok (.getfield 65, 3) := by decide +kernel
theorem dX10_cannot_44 : decode cX10_cannot 44 = .ok (.iload_n 1, 1) := by decide +kernel
theorem dX10_cannot_45 : decode cX10_cannot 45 = .ok (.iaload, 1) := by decide +kernel
theorem dX10_cannot_46 : decode cX10_cannot 46 = .ok (.iconst (-1), 1) := by decide +kernel
theorem dX10_cannot_47 : decode cX10_cannot 47 = .ok (.if_icmp .eq 8, 3) := by decide +kernel
theorem dX10_cannot_50 : decode cX10_cannot 50 = .ok (.bipush (-3), 2) := by decide +kernel
theorem dX10_cannot_52 : decode cX10_cannot 52 = .ok (.goto 4, 3) := by decide +kernel
theorem dX10_cannot_55 : decode cX10_cannot 55 = .ok (.iconst 0, 1) := by decide +kernel
theorem dX10_cannot_56 : decode cX10_cannot 56 = .ok (.ireturn, 1) := by decide +kernel
theorem dX10_may_0 : decode cX10_may 0 = .ok (.aload_n 0, 1) := by decide +kernel
theorem dX10_may_1 : decode cX10_may 1 = .ok (.iload_n 1, 1) := by decide +kernel
theorem dX10_may_2 : decode cX10_may 2 = .ok (.iload_n 2, 1) := by decide +kernel
theorem dX10_may_3 : decode cX10_may 3 = .ok (.iload_n 3, 1) := by decide +kernel
theorem dX10_may_4 : decode cX10_may 4 = .ok (.invokevirtual 258, 3) := by decide +kernel
theorem dX10_may_7 : decode cX10_may 7 = .ok (.istore 4, 2) := by decide +kernel
theorem dX10_may_9 : decode cX10_may 9 = .ok (.iload 4, 2) := by decide +kernel
theorem dX10_may_11 : decode cX10_may 11 = .ok (.ifCond .eq 8, 3) := by decide +kernel
theorem dX10_may_14 : decode cX10_may 14 = .ok (.iload 4, 2) := by decide +kernel
theorem dX10_may_16 : decode cX10_may 16 = .ok (.goto 18, 3) := by decide +kernel
theorem dX10_may_19 : decode cX10_may 19 = .ok (.aload_n 0, 1) := by decide +kernel
theorem dX10_may_20 : decode cX10_may 20 = .ok (.iload_n 1, 1) := by decide +kernel
theorem dX10_may_21 : decode cX10_may 21 = .ok (.iload_n 2, 1) := by decide +kernel
theorem dX10_may_22 : decode cX10_may 22 = .ok (.iload_n 3, 1) := by decide +kernel
theorem dX10_may_23 : decode cX10_may 23 = .ok (.invokevirtual 261, 3) := by decide +kernel
theorem dX10_may_26 : decode cX10_may 26 = .ok (.ifCond .eq 7, 3) := by decide +kernel
theorem dX10_may_29 : decode cX10_may 29 = .ok (.iconst 1, 1) := by decide +kernel
theorem dX10_may_30 : decode cX10_may 30 = .ok (.goto 4, 3) := by decide +kernel
theorem dX10_may_33 : decode cX10_may 33 = .ok (.iconst 0, 1) := by decide +kernel
theorem dX10_may_34 : decode cX10_may 34 = .ok (.ireturn, 1) := by decide +kernel
theorem dX10_hasSome_0 : decode cX10_hasSome 0 = .ok (.iconst 0, 1) := by decide +kernel
theorem dX10_hasSome_1 : decode cX10_hasSome 1 = .ok (.istore_n 2, 1) := by decide +kernel
theorem dX10_hasSome_2 : decode cX10_hasSome 2 = .ok (.iload_n 2, 1) := by decide +kernel
theorem dX10_hasSome_3 : decode cX10_hasSome 3 = .ok (.aload_n 0, 1) := by decide +kernel
theorem dX10_hasSome_4 : decode cX10_hasSome 4 = .ok (.getfield 145, 3) := by decide +kernel
theorem dX10_hasSome_7 : decode cX10_hasSome 7 = .ok (.if_icmp .ge 30, 3) := by decide +kernel
theorem dX10_hasSome_10 : decode cX10_hasSome 10 = .ok (.aload_n 0, 1) := by decide +kernel
theorem dX10_hasSome_11 : decode cX10_hasSome 11 = .ok (.getfield 26, 3) := by decide +kernel
theorem dX10_hasSome_14 : decode cX10_hasSome 14 = .ok (.iload_n 2, 1) := by decide +kernel
theorem dX10_hasSome_15 : decode cX10_hasSome 15 = .ok (.baload, 1) := by decide +kernel
theorem dX10_hasSome_16 : decode cX10_hasSome 16 = .ok (.ifCond .eq 15, 3) := by decide +kernel
theorem dX10_hasSome_19 : decode cX10_hasSome 19 = .ok (.aload_n 0, 1) := by decide +kernel
theorem dX10_hasSome_20 : decode cX10_hasSome 20 = .ok (.getfield 65, 3) := by decide +kernel
theorem dX10_hasSome_23 : decode cX10_hasSome 23 = .ok (.iload_n 2, 1) := by decide +kernel
theorem dX10_hasSome_24 : decode cX10_hasSome 24 = .ok (.iaload, 1) := by decide +kernel
theorem dX10_hasSome_25 : decode cX10_hasSome 25 = .ok (.iload_n 1, 1) := by decide +kernel
theorem dX10_hasSome_26 : decode cX10_hasSome 26 = .ok (.if_icmp .ne 5, 3) := by decide +kernel
theorem dX10_hasSome_29 : decode cX10_hasSome 29 = .ok (.iconst 1, 1) := by decide +kernel
theorem dX10_hasSome_30 : decode cX10_hasSome 30 = .ok (.ireturn, 1) := by decide +kernel
theorem dX10_hasSome_31 : decode cX10_hasSome 31 = .ok (.iinc 2 1, 3) := by decide +kernel
theorem dX10_hasSome_34 : decode cX10_hasSome 34 = .ok (.goto (-32), 3) := by decide +kernel
theorem dX10_hasSome_37 : decode cX10_hasSome 37 = .ok (.iconst 0, 1) := by decide +kernel
theorem dX10_hasSome_38 : decode cX10_hasSome 38 = .ok (.ireturn, 1) := by decide +kernel
theorem dX10_lend_0 : decode cX10_lend 0 = .ok (.aload_n 0, 1) := by decide +kernel
theorem dX10_lend_1 : decode cX10_lend 1 = .ok (.iload_n 1, 1) := by decide +kernel
theorem dX10_lend_2 : decode cX10_lend 2 = .ok (.iload_n 2, 1) := by decide +kernel
theorem dX10_lend_3 : decode cX10_lend 3 = .ok (.iload_n 3, 1) := by decide +kernel
theorem dX10_lend_4 : decode cX10_lend 4 = .ok (.invokevirtual 258, 3) := by decide +kernel
theorem dX10_lend_7 : decode cX10_lend 7 = .ok (.istore 4, 2) := by decide +kernel
theorem dX10_lend_9 : decode cX10_lend 9 = .ok (.iload 4, 2) := by decide +kernel
theorem dX10_lend_11 : decode cX10_lend 11 = .ok (.ifCond .eq 6, 3) := by decide +kernel
theorem dX10_lend_14 : decode cX10_lend 14 = .ok (.iload 4, 2) := by decide +kernel
theorem dX10_lend_16 : decode cX10_lend 16 = .ok (.ireturn, 1) := by decide +kernel
theorem dX10_lend_17 : decode cX10_lend 17 = .ok (.aload_n 0, 1) := by decide +kernel
theorem dX10_lend_18 : decode cX10_lend 18 = .ok (.iload_n 2, 1) := by decide +kernel
theorem dX10_lend_19 : decode cX10_lend 19 = .ok (.invokevirtual 264, 3) := by decide +kernel
theorem dX10_lend_22 : decode cX10_lend 22 = .ok (.ifCond .ne 13, 3) := by decide +kernel
theorem dX10_lend_25 : decode cX10_lend 25 = .ok (.aload_n 0, 1) := by decide +kernel
theorem dX10_lend_26 : decode cX10_lend 26 = .ok (.iload_n 1, 1) := by decide +kernel
theorem dX10_lend_27 : decode cX10_lend 27 = .ok (.iload_n 2, 1) := by decide +kernel
theorem dX10_lend_28 : decode cX10_lend 28 = .ok (.iload_n 3, 1) := by decide +kernel
theorem dX10_lend_29 : decode cX10_lend 29 = .ok (.invokevirtual 261, 3) := by decide +kernel
theorem dX10_lend_32 : decode cX10_lend 32 = .ok (.ifCond .ne 6, 3) := by decide +kernel
theorem dX10_lend_35 : decode cX10_lend 35 = .ok (.bipush (-3), 2) := by decide +kernel
theorem dX10_lend_37 : decode cX10_lend 37 = .ok (.ireturn, 1) := by decide +kernel
theorem dX10_lend_38 : decode cX10_lend 38 = .ok (.aload_n 0, 1) := by decide +kernel
theorem dX10_lend_39 : decode cX10_lend 39 = .ok (.getfield 65, 3) := by decide +kernel
